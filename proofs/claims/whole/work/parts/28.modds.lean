/-! odds of M -/
/-- what FORGETS of the model reads -/
def keyEq (mem m : mmM) : Prop := (m 65 27 = mem 65 27 ∧ m 65 28 = mem 65 28 ∧ m 65 31 = mem 65 31) ∧ (m 67 = mem 67 ∧ m 68 = mem 68) ∧ (m 70 = mem 70 ∧ m 71 = mem 71 ∧ m 72 = mem 72 ∧ m 73 = mem 73) ∧ m 79 = mem 79 ∧ m 80 = mem 80 ∧ m 81 = mem 81
def forgE (mem : mmM) (F : Int → Int) : Prop := (∀ s, 0 ≤ F s ∧ F s ≤ 100) ∧ ∀ (m : mmM) (s : Int), keyEq mem m → (0 ≤ s ∧ s < mem 65 27) → con 0 bX12_forgets 8 [(2, 65), (0, s)] m (fun v m' => v = F s ∧ ∀ a, a ≠ 74 → a ≠ 75 → m' a = m a)
theorem keyEq.play {mem m : mmM} (h : keyEq mem m) (hp : playM mem) : playM m := playM_congr hp h.1.1 h.2.2.2.1 h.2.2.2.2.1 h.2.2.2.2.2
theorem forgF_key {mem m : mmM} (h : keyEq mem m) (cl : lawT) : forgF m cl = forgF mem cl := by
  obtain ⟨⟨k1, k2, k3⟩, -, -, k4, k5, k6⟩ := h
  funext s
  unfold forgF letM
  rw [k1, k2, k3, k4, k5, k6]
theorem lawR_key {mem m : mmM} (h : keyEq mem m) (n : Int) : ∀ (cl : lawT) (c : Int), lawR mem n c cl → lawR m n c cl := by
  obtain ⟨-, ⟨a1, a2⟩, ⟨b1, b2, b3, b4⟩, -⟩ := h
  intro cl
  induction cl with
  | nil =>
    intro c hc
    unfold lawR at hc ⊢
    rw [b1]
    exact hc
  | cons q r ih =>
    intro c hc
    unfold lawR at hc ⊢
    rw [b1, b2, b3, b4, a1, a2]
    exact ⟨hc.1, hc.2.1, hc.2.2.1, hc.2.2.2.1, hc.2.2.2.2.1, ih _ hc.2.2.2.2.2⟩
theorem forgE_law (mem : mmM) (cl : lawT) (hp : playM mem) (h28 : -1 ≤ mem 65 28 ∧ mem 65 28 < 5) (hr : ¬ mem 65 28 = -1 → lawR mem (mem 65 28) (90 * mem 65 28) cl ∧ 0 ≤ mem 70 (mem 65 28) ∧ mem 70 (mem 65 28) ≤ 90) : forgE mem (forgF mem cl) := by
  refine ⟨forgF_bnd mem cl, fun m s hf hs => ?_⟩
  have e28 : m 65 28 = mem 65 28 := hf.1.2.1
  have c := c_X12_forgets m s cl (hf.play hp) (by rw [hf.1.1]; exact hs) (by rw [e28]; exact h28) (fun g => by
    rw [e28] at g ⊢
    rw [hf.2.2.1.1]
    exact ⟨lawR_key hf _ cl _ (hr g).1, (hr g).2⟩)
  rw [forgF_key hf] at c
  exact c
theorem keyEq_fr {mem m : mmM} (h : nightFr mem m) : keyEq mem m := by
  have k : ∀ a, a ≠ 65 → a ≠ 74 → a ≠ 75 → a ≠ 86 → a ≠ 88 → m a = mem a := h.1
  refine ⟨⟨h.2 27 (by omega), h.2 28 (by omega), h.2 31 (by omega)⟩, ⟨?_, ?_⟩, ⟨?_, ?_, ?_, ?_⟩, ?_, ?_, ?_⟩ <;> exact k _ (by decide) (by decide) (by decide) (by decide) (by decide)
theorem forgE.night {mem : mmM} {F : Int → Int} (h : forgE mem F) : forgM mem F := ⟨h.1, fun m s hf hs => h.2 m s (keyEq_fr hf) hs⟩
theorem keyEq.trans {m0 m1 m2 : mmM} (h : keyEq m0 m1) (h' : keyEq m1 m2) : keyEq m0 m2 := by
  obtain ⟨⟨a1, a2, a3⟩, ⟨a4, a5⟩, ⟨a6, a7, a8, a9⟩, a10, a11, a12⟩ := h
  obtain ⟨⟨b1, b2, b3⟩, ⟨b4, b5⟩, ⟨b6, b7, b8, b9⟩, b10, b11, b12⟩ := h'
  exact ⟨⟨b1.trans a1, b2.trans a2, b3.trans a3⟩, ⟨b4.trans a4, b5.trans a5⟩, ⟨b6.trans a6, b7.trans a7, b8.trans a8, b9.trans a9⟩, b10.trans a10, b11.trans a11, b12.trans a12⟩
theorem forgE.move {mem m : mmM} {F : Int → Int} (h : forgE mem F) (hk : keyEq mem m) : forgE m F := ⟨h.1, fun m' s hm hs => h.2 m' s (hk.trans hm) (by rw [hk.1.1] at hs; exact hs)⟩
/-- the rows that CHANCE of the model uses -/
def chFr (mem m : mmM) : Prop := ∀ a, a ≠ 74 → a ≠ 75 → (a < 91 ∨ 96 < a) → m a = mem a
theorem chFr.trans {m0 m1 m2 : mmM} (h : chFr m0 m1) (h' : chFr m1 m2) : chFr m0 m2 := fun a a1 a2 a3 => (h' a a1 a2 a3).trans (h a a1 a2 a3)
theorem chFr.set {mem m : mmM} (h : chFr mem m) (a : Nat) (k v : Int) (ha : 91 ≤ a ∧ a ≤ 96) : chFr mem (mset m a k v) := fun b b1 b2 b3 => by rw [mset_ne (by omega)]; exact h b b1 b2 b3
theorem chFr.key {mem m : mmM} (h : chFr mem m) : keyEq mem m := by
  have k : ∀ a, a ≠ 74 → a ≠ 75 → (a < 91 ∨ 96 < a) → m a = mem a := h
  have e65 : m 65 = mem 65 := k 65 (by decide) (by decide) (by omega)
  refine ⟨⟨by rw [e65], by rw [e65], by rw [e65]⟩, ⟨?_, ?_⟩, ⟨?_, ?_, ?_, ?_⟩, ?_, ?_, ?_⟩ <;> exact k _ (by decide) (by decide) (by omega)
theorem chFr.leap {mem m : mmM} (h : chFr mem m) : leapM m = leapM mem := leapM_congr (by rw [h 65 (by decide) (by decide) (by omega)]) (h 79 (by decide) (by decide) (by omega)) (h 80 (by decide) (by decide) (by omega)) (h 83 (by decide) (by decide) (by omega))
def tkN (mem : mmM) (mk j : Int) : Int := if bitN mk j = 1 then mem 84 (mem 79 j) else 0
def odRM (n : Int) (σ : odT) (m : mmM) : Prop := (∀ j, 0 ≤ j → j ≤ n → m 92 j = σ.1 j) ∧ (∀ j, 0 ≤ j → j < n → m 93 j = σ.2.1 j) ∧ (∀ j, 0 ≤ j → j < n → m 94 j = σ.2.2 j)
def sayV (m : mmM) (s v : Int) : mmM := mset (mset m 92 (s + 1) (m 92 (s + 1) + v)) 94 s (m 94 s + v)
theorem odRM_say {n : Int} {σ : odT} {m : mmM} (h : odRM n σ m) {s : Int} (v : Int) (hs : 0 ≤ s ∧ s < n) : odRM n (odSay σ s v) (sayV m s v) := by
  obtain ⟨h1, h2, h3⟩ := h
  unfold sayV
  refine ⟨fun j j0 j1 => ?_, fun j j0 j1 => ?_, fun j j0 j1 => ?_⟩
  · rw [mset_ne (by decide), mset_at, h1 j j0 j1, h1 (s + 1) (by omega) (by omega)]
    rfl
  · rw [mset_ne (by decide), mset_ne (by decide)]
    exact h2 j j0 j1
  · rw [mset_at, mset_ne (by decide), h3 j j0 j1, h3 s hs.1 hs.2]
    rfl
theorem odRM_stop {n : Int} {σ : odT} {m : mmM} (h : odRM n σ m) {s : Int} (v : Int) (hs : 0 ≤ s ∧ s < n) : odRM n (odStop σ s v) (mset m 93 s (m 93 s + v)) := by
  obtain ⟨h1, h2, h3⟩ := h
  refine ⟨fun j j0 j1 => ?_, fun j j0 j1 => ?_, fun j j0 j1 => ?_⟩
  · rw [mset_ne (by decide)]
    exact h1 j j0 j1
  · rw [mset_at, h2 j j0 j1, h2 s hs.1 hs.2]
    rfl
  · rw [mset_ne (by decide)]
    exact h3 j j0 j1
theorem goneP_t0 (p f : Int) : goneP p f 0 = lostP p f - 0 := by
  unfold goneP
  rw [Int.mul_zero, Int.zero_tdiv]
def goFr (mem m : mmM) : Prop := ∀ a, (a < 92 ∨ 94 < a) → m a = mem a
theorem goFr.trans {m0 m1 m2 : mmM} (h : goFr m0 m1) (h' : goFr m1 m2) : goFr m0 m2 := fun a ha => (h' a ha).trans (h a ha)
theorem sayV_fr (m : mmM) (s v : Int) : goFr m (sayV m s v) := fun a ha => by
  unfold sayV
  rw [mset_ne (by omega), mset_ne (by omega)]
theorem sayV2 (m : mmM) (s v t w : Int) : sayV (sayV m s v) t w = mset (mset (sayV m s v) 92 (t + 1) (mset m 92 (s + 1) (m 92 (s + 1) + v) 92 (t + 1) + w)) 94 t (sayV m s v 94 t + w) := by
  have e : sayV m s v 92 = mset m 92 (s + 1) (m 92 (s + 1) + v) 92 := mset_ne (by decide)
  rw [← e]
  rfl
theorem sayV_R64 {n c v : Int} {σ : odT} {m : mmM} (hn : 0 ≤ n) (hr : odRM n σ m) (hI : odI n c v σ) (hc : c ≤ 2000000000) (hv : v ≤ 2000000000000) {s x : Int} (hs : 0 ≤ s ∧ s < n) (hx : 0 ≤ x ∧ x ≤ 1000000000) : R64 (m 92 (s + 1) + x) ∧ R64 (m 94 s + x) ∧ R64 (m 93 s + x) := by
  have b := odI_bnd hI hn
  have z1 := b.1 (s + 1) (by omega) (by omega)
  have z2 := hI.2.2.1 s hs.1 hs.2
  have z3 := b.2.1 s hs.1 hs.2
  rw [hr.1 (s + 1) (by omega) (by omega), hr.2.1 s hs.1 hs.2, hr.2.2 s hs.1 hs.2]
  omega
theorem cn_X12_goOn {d : Nat} {P : mmM → Prop} {mem : mmM} {x1 : Int} (h : mmT bX12_goOn d 0 0 (mQv P) 0 [(2, 65), (0, x1), (9, 0), (9, 0), (9, 0), (9, 0), (9, 0), (9, 0)] [] mS mem) : conv bX12_goOn d [(2, 65), (0, x1)] mem P := mmC_of [(2, 65), (0, x1), (9, 0), (9, 0), (9, 0), (9, 0), (9, 0), (9, 0)] ok_X12_goOn.2.2.2.2 rfl (Nat.le_of_ble_eq_true rfl) h
theorem bk_X12_goOn_0 {d : Nat} {P : mmM → Prop} {mem : mmM} {x1 : Int}
  (q1 : ¬ (and32 (shr32 (mem 65 31) x1) 1 = 1) → ¬ (mem 96 x1) = (-1) → P (mset (mset (mset (mset mem 92 (x1 + 1) ((mem 92 (x1 + 1)) + ((mem 91 x1) - ((Int.tdiv ((mem 91 x1) * (mem 95 x1)) 100) - 0)))) 94 x1 ((mem 94 x1) + ((mem 91 x1) - ((Int.tdiv ((mem 91 x1) * (mem 95 x1)) 100) - 0)))) 92 ((mem 96 x1) + 1) (((mset mem 92 (x1 + 1) ((mem 92 (x1 + 1)) + ((mem 91 x1) - ((Int.tdiv ((mem 91 x1) * (mem 95 x1)) 100) - 0)))) 92 ((mem 96 x1) + 1)) + ((Int.tdiv ((mem 91 x1) * (mem 95 x1)) 100) - 0))) 94 (mem 96 x1) (((mset (mset mem 92 (x1 + 1) ((mem 92 (x1 + 1)) + ((mem 91 x1) - ((Int.tdiv ((mem 91 x1) * (mem 95 x1)) 100) - 0)))) 94 x1 ((mem 94 x1) + ((mem 91 x1) - ((Int.tdiv ((mem 91 x1) * (mem 95 x1)) 100) - 0)))) 94 (mem 96 x1)) + ((Int.tdiv ((mem 91 x1) * (mem 95 x1)) 100) - 0))))
  (q2 : ¬ (and32 (shr32 (mem 65 31) x1) 1 = 1) → (mem 96 x1) = (-1) → P (mset (mset (mset mem 92 (x1 + 1) ((mem 92 (x1 + 1)) + ((mem 91 x1) - ((Int.tdiv ((mem 91 x1) * (mem 95 x1)) 100) - 0)))) 94 x1 ((mem 94 x1) + ((mem 91 x1) - ((Int.tdiv ((mem 91 x1) * (mem 95 x1)) 100) - 0)))) 93 x1 ((mem 93 x1) + ((Int.tdiv ((mem 91 x1) * (mem 95 x1)) 100) - 0))))
  (q3 : (and32 (shr32 (mem 65 31) x1) 1 = 1) → ¬ (mem 96 x1) = (-1) → P (mset (mset (mset (mset mem 92 (x1 + 1) ((mem 92 (x1 + 1)) + ((mem 91 x1) - ((Int.tdiv ((mem 91 x1) * (mem 95 x1)) 100) - (Int.tdiv ((Int.tdiv ((mem 91 x1) * (mem 95 x1)) 100) * (mem 84 (mem 79 x1))) 100))))) 94 x1 ((mem 94 x1) + ((mem 91 x1) - ((Int.tdiv ((mem 91 x1) * (mem 95 x1)) 100) - (Int.tdiv ((Int.tdiv ((mem 91 x1) * (mem 95 x1)) 100) * (mem 84 (mem 79 x1))) 100))))) 92 ((mem 96 x1) + 1) (((mset mem 92 (x1 + 1) ((mem 92 (x1 + 1)) + ((mem 91 x1) - ((Int.tdiv ((mem 91 x1) * (mem 95 x1)) 100) - (Int.tdiv ((Int.tdiv ((mem 91 x1) * (mem 95 x1)) 100) * (mem 84 (mem 79 x1))) 100))))) 92 ((mem 96 x1) + 1)) + ((Int.tdiv ((mem 91 x1) * (mem 95 x1)) 100) - (Int.tdiv ((Int.tdiv ((mem 91 x1) * (mem 95 x1)) 100) * (mem 84 (mem 79 x1))) 100)))) 94 (mem 96 x1) (((mset (mset mem 92 (x1 + 1) ((mem 92 (x1 + 1)) + ((mem 91 x1) - ((Int.tdiv ((mem 91 x1) * (mem 95 x1)) 100) - (Int.tdiv ((Int.tdiv ((mem 91 x1) * (mem 95 x1)) 100) * (mem 84 (mem 79 x1))) 100))))) 94 x1 ((mem 94 x1) + ((mem 91 x1) - ((Int.tdiv ((mem 91 x1) * (mem 95 x1)) 100) - (Int.tdiv ((Int.tdiv ((mem 91 x1) * (mem 95 x1)) 100) * (mem 84 (mem 79 x1))) 100))))) 94 (mem 96 x1)) + ((Int.tdiv ((mem 91 x1) * (mem 95 x1)) 100) - (Int.tdiv ((Int.tdiv ((mem 91 x1) * (mem 95 x1)) 100) * (mem 84 (mem 79 x1))) 100)))))
  (q4 : (and32 (shr32 (mem 65 31) x1) 1 = 1) → (mem 96 x1) = (-1) → P (mset (mset (mset mem 92 (x1 + 1) ((mem 92 (x1 + 1)) + ((mem 91 x1) - ((Int.tdiv ((mem 91 x1) * (mem 95 x1)) 100) - (Int.tdiv ((Int.tdiv ((mem 91 x1) * (mem 95 x1)) 100) * (mem 84 (mem 79 x1))) 100))))) 94 x1 ((mem 94 x1) + ((mem 91 x1) - ((Int.tdiv ((mem 91 x1) * (mem 95 x1)) 100) - (Int.tdiv ((Int.tdiv ((mem 91 x1) * (mem 95 x1)) 100) * (mem 84 (mem 79 x1))) 100))))) 93 x1 ((mem 93 x1) + ((Int.tdiv ((mem 91 x1) * (mem 95 x1)) 100) - (Int.tdiv ((Int.tdiv ((mem 91 x1) * (mem 95 x1)) 100) * (mem 84 (mem 79 x1))) 100)))))
  (hd2 : 2 ≤ d := by omega)
  (s1 : 0 ≤ x1 ∧ x1 < 25 := by intros; first | omega | assumption | solve_by_elim)
  (s2 : 0 ≤ x1 ∧ x1 < 24 := by intros; first | omega | assumption | solve_by_elim)
  (s3 : (-9223372036854775808) < ((mem 91 x1) * (mem 95 x1)) ∧ ((mem 91 x1) * (mem 95 x1)) < 9223372036854775808 := by intros; first | omega | assumption | solve_by_elim)
  (s4 : ¬ (and32 (shr32 (mem 65 31) x1) 1 = 1) → 0 ≤ (x1 + 1) ∧ (x1 + 1) < 25 := by intros; first | omega | assumption | solve_by_elim)
  (s5 : ¬ (and32 (shr32 (mem 65 31) x1) 1 = 1) → R64 ((mem 92 (x1 + 1)) + ((mem 91 x1) - ((Int.tdiv ((mem 91 x1) * (mem 95 x1)) 100) - 0))) := by intros; first | omega | assumption | solve_by_elim)
  (s6 : ¬ (and32 (shr32 (mem 65 31) x1) 1 = 1) → R64 ((mem 94 x1) + ((mem 91 x1) - ((Int.tdiv ((mem 91 x1) * (mem 95 x1)) 100) - 0))) := by intros; first | omega | assumption | solve_by_elim)
  (s7 : ¬ (and32 (shr32 (mem 65 31) x1) 1 = 1) → ¬ (mem 96 x1) = (-1) → 0 ≤ ((mem 96 x1) + 1) ∧ ((mem 96 x1) + 1) < 25 := by intros; first | omega | assumption | solve_by_elim)
  (s8 : ¬ (and32 (shr32 (mem 65 31) x1) 1 = 1) → ¬ (mem 96 x1) = (-1) → R64 (((mset mem 92 (x1 + 1) ((mem 92 (x1 + 1)) + ((mem 91 x1) - ((Int.tdiv ((mem 91 x1) * (mem 95 x1)) 100) - 0)))) 92 ((mem 96 x1) + 1)) + ((Int.tdiv ((mem 91 x1) * (mem 95 x1)) 100) - 0)) := by intros; first | omega | assumption | solve_by_elim)
  (s9 : ¬ (and32 (shr32 (mem 65 31) x1) 1 = 1) → ¬ (mem 96 x1) = (-1) → 0 ≤ (mem 96 x1) ∧ (mem 96 x1) < 24 := by intros; first | omega | assumption | solve_by_elim)
  (s10 : ¬ (and32 (shr32 (mem 65 31) x1) 1 = 1) → ¬ (mem 96 x1) = (-1) → R64 (((mset (mset mem 92 (x1 + 1) ((mem 92 (x1 + 1)) + ((mem 91 x1) - ((Int.tdiv ((mem 91 x1) * (mem 95 x1)) 100) - 0)))) 94 x1 ((mem 94 x1) + ((mem 91 x1) - ((Int.tdiv ((mem 91 x1) * (mem 95 x1)) 100) - 0)))) 94 (mem 96 x1)) + ((Int.tdiv ((mem 91 x1) * (mem 95 x1)) 100) - 0)) := by intros; first | omega | assumption | solve_by_elim)
  (s11 : ¬ (and32 (shr32 (mem 65 31) x1) 1 = 1) → (mem 96 x1) = (-1) → R64 ((mem 93 x1) + ((Int.tdiv ((mem 91 x1) * (mem 95 x1)) 100) - 0)) := by intros; first | omega | assumption | solve_by_elim)
  (s12 : (and32 (shr32 (mem 65 31) x1) 1 = 1) → 0 ≤ (mem 79 x1) ∧ (mem 79 x1) < 8 := by intros; first | omega | assumption | solve_by_elim)
  (s13 : (and32 (shr32 (mem 65 31) x1) 1 = 1) → (-9223372036854775808) < ((Int.tdiv ((mem 91 x1) * (mem 95 x1)) 100) * (mem 84 (mem 79 x1))) ∧ ((Int.tdiv ((mem 91 x1) * (mem 95 x1)) 100) * (mem 84 (mem 79 x1))) < 9223372036854775808 := by intros; first | omega | assumption | solve_by_elim)
  (s14 : (and32 (shr32 (mem 65 31) x1) 1 = 1) → 0 ≤ (x1 + 1) ∧ (x1 + 1) < 25 := by intros; first | omega | assumption | solve_by_elim)
  (s15 : (and32 (shr32 (mem 65 31) x1) 1 = 1) → R64 ((mem 92 (x1 + 1)) + ((mem 91 x1) - ((Int.tdiv ((mem 91 x1) * (mem 95 x1)) 100) - (Int.tdiv ((Int.tdiv ((mem 91 x1) * (mem 95 x1)) 100) * (mem 84 (mem 79 x1))) 100)))) := by intros; first | omega | assumption | solve_by_elim)
  (s16 : (and32 (shr32 (mem 65 31) x1) 1 = 1) → R64 ((mem 94 x1) + ((mem 91 x1) - ((Int.tdiv ((mem 91 x1) * (mem 95 x1)) 100) - (Int.tdiv ((Int.tdiv ((mem 91 x1) * (mem 95 x1)) 100) * (mem 84 (mem 79 x1))) 100)))) := by intros; first | omega | assumption | solve_by_elim)
  (s17 : (and32 (shr32 (mem 65 31) x1) 1 = 1) → ¬ (mem 96 x1) = (-1) → 0 ≤ ((mem 96 x1) + 1) ∧ ((mem 96 x1) + 1) < 25 := by intros; first | omega | assumption | solve_by_elim)
  (s18 : (and32 (shr32 (mem 65 31) x1) 1 = 1) → ¬ (mem 96 x1) = (-1) → R64 (((mset mem 92 (x1 + 1) ((mem 92 (x1 + 1)) + ((mem 91 x1) - ((Int.tdiv ((mem 91 x1) * (mem 95 x1)) 100) - (Int.tdiv ((Int.tdiv ((mem 91 x1) * (mem 95 x1)) 100) * (mem 84 (mem 79 x1))) 100))))) 92 ((mem 96 x1) + 1)) + ((Int.tdiv ((mem 91 x1) * (mem 95 x1)) 100) - (Int.tdiv ((Int.tdiv ((mem 91 x1) * (mem 95 x1)) 100) * (mem 84 (mem 79 x1))) 100))) := by intros; first | omega | assumption | solve_by_elim)
  (s19 : (and32 (shr32 (mem 65 31) x1) 1 = 1) → ¬ (mem 96 x1) = (-1) → 0 ≤ (mem 96 x1) ∧ (mem 96 x1) < 24 := by intros; first | omega | assumption | solve_by_elim)
  (s20 : (and32 (shr32 (mem 65 31) x1) 1 = 1) → ¬ (mem 96 x1) = (-1) → R64 (((mset (mset mem 92 (x1 + 1) ((mem 92 (x1 + 1)) + ((mem 91 x1) - ((Int.tdiv ((mem 91 x1) * (mem 95 x1)) 100) - (Int.tdiv ((Int.tdiv ((mem 91 x1) * (mem 95 x1)) 100) * (mem 84 (mem 79 x1))) 100))))) 94 x1 ((mem 94 x1) + ((mem 91 x1) - ((Int.tdiv ((mem 91 x1) * (mem 95 x1)) 100) - (Int.tdiv ((Int.tdiv ((mem 91 x1) * (mem 95 x1)) 100) * (mem 84 (mem 79 x1))) 100))))) 94 (mem 96 x1)) + ((Int.tdiv ((mem 91 x1) * (mem 95 x1)) 100) - (Int.tdiv ((Int.tdiv ((mem 91 x1) * (mem 95 x1)) 100) * (mem 84 (mem 79 x1))) 100))) := by intros; first | omega | assumption | solve_by_elim)
  (s21 : (and32 (shr32 (mem 65 31) x1) 1 = 1) → (mem 96 x1) = (-1) → R64 ((mem 93 x1) + ((Int.tdiv ((mem 91 x1) * (mem 95 x1)) 100) - (Int.tdiv ((Int.tdiv ((mem 91 x1) * (mem 95 x1)) 100) * (mem 84 (mem 79 x1))) 100))) := by intros; first | omega | assumption | solve_by_elim)
  : mmT bX12_goOn d 0 0 (mQv P) 0 [(2, 65), (0, x1), (9, 0), (9, 0), (9, 0), (9, 0), (9, 0), (9, 0)] [] mS mem := by
  refine st_aload_n (i := 0) rfl (t := 0) rfl (by decide) dX12_goOn_0 ?_
  refine so_getA 65 49 fr_X12_89_11 rfl sh_65 fx_65_49 dX12_goOn_1 ?_
  refine st_iload_n (i := 1) rfl rfl dX12_goOn_4 ?_
  refine so_lald (v := (mem 91 x1)) 91 rfl sh_91 (by decide) s1 rfl dX12_goOn_5 (fun r1 => ?_)
  refine st_aload_n (i := 0) rfl (t := 0) rfl (by decide) dX12_goOn_6 ?_
  refine so_getA 65 53 fr_X12_102_11 rfl sh_65 fx_65_53 dX12_goOn_7 ?_
  refine st_iload_n (i := 1) rfl rfl dX12_goOn_10 ?_
  refine so_iald (v := (mem 95 x1)) 95 rfl sh_95 (by decide) s2 rfl dX12_goOn_11 (fun r2 => ?_)
  refine sr_i2l r2 dX12_goOn_12 ?_
  refine st_lmul dX12_goOn_13 ?_
  refine st_ldc2 cw_X12_365 dX12_goOn_14 ?_
  refine sr_ldiv s3 ⟨by decide, by decide⟩ (by decide) dX12_goOn_17 ?_
  refine st_lstore_n (i := 2) rfl (by decide) (lc' := [(2, 65), (0, x1), (1, (Int.tdiv ((mem 91 x1) * (mem 95 x1)) 100)), (9, 0), (9, 0), (9, 0), (9, 0), (9, 0)]) rfl dX12_goOn_18 ?_
  refine st_aload_n (i := 0) rfl (t := 0) rfl (by decide) dX12_goOn_19 ?_
  refine so_getI (v := (mem 65 31)) 65 31 fr_X12_275_11 rfl sh_65 rfl dX12_goOn_20 (fun r3 => ?_)
  refine st_iload_n (i := 1) rfl rfl dX12_goOn_23 ?_
  refine st_callS (kc2 := 0) (ks2 := 0) (av := [(0, (mem 65 31)), (0, x1)]) mr_X12_271 ok_X12_has (c_X12_has mem (mem 65 31) x1 ) rfl rfl hd2 (Nat.le_refl 0) (Nat.le_refl 0) (Nat.le_of_ble_eq_true rfl) dX12_goOn_24 (mQ.elim fun v1 m1 hp => ?_)
  obtain ⟨hpv, hpm⟩ := hp
  subst hpv
  have hpm := hpm.symm
  subst hpm
  refine so_ifeqB 51 (by decide) dX12_goOn_27 (fun h1 => ?_) (fun h1 => ?_)
  · have h1 : ¬ (and32 (shr32 (mem 65 31) x1) 1 = 1) := h1
    refine st_lconst (v := 0) rfl dX12_goOn_51 ?_
    refine st_lstore (by decide) (lc' := [(2, 65), (0, x1), (1, (Int.tdiv ((mem 91 x1) * (mem 95 x1)) 100)), (9, 0), (1, 0), (9, 0), (9, 0), (9, 0)]) rfl dX12_goOn_52 ?_
    refine st_lload_n (i := 2) rfl rfl dX12_goOn_54 ?_
    refine st_lload rfl dX12_goOn_55 ?_
    refine st_lsub dX12_goOn_57 ?_
    refine st_lstore (by decide) (lc' := [(2, 65), (0, x1), (1, (Int.tdiv ((mem 91 x1) * (mem 95 x1)) 100)), (9, 0), (1, 0), (9, 0), (1, ((Int.tdiv ((mem 91 x1) * (mem 95 x1)) 100) - 0)), (9, 0)]) rfl dX12_goOn_58 ?_
    refine st_aload_n (i := 0) rfl (t := 0) rfl (by decide) dX12_goOn_60 ?_
    refine so_getA 65 50 fr_X12_93_11 rfl sh_65 fx_65_50 dX12_goOn_61 ?_
    refine st_iload_n (i := 1) rfl rfl dX12_goOn_64 ?_
    refine st_iconst dX12_goOn_65 ?_
    refine st_iadd dX12_goOn_66 ?_
    refine st_dup2 (Nat.ne_of_beq_eq_false rfl) (Nat.ne_of_beq_eq_false rfl) dX12_goOn_67 ?_
    refine so_lald (v := (mem 92 (x1 + 1))) 92 rfl sh_92 (by decide) (s4 h1) rfl dX12_goOn_68 (fun r4 => ?_)
    refine st_aload_n (i := 0) rfl (t := 0) rfl (by decide) dX12_goOn_69 ?_
    refine so_getA 65 49 fr_X12_89_11 rfl sh_65 fx_65_49 dX12_goOn_70 ?_
    refine st_iload_n (i := 1) rfl rfl dX12_goOn_73 ?_
    refine so_lald (v := (mem 91 x1)) 91 rfl sh_91 (by decide) s1 rfl dX12_goOn_74 (fun r5 => ?_)
    refine st_lload rfl dX12_goOn_75 ?_
    refine st_lsub dX12_goOn_77 ?_
    refine st_ladd dX12_goOn_78 ?_
    refine so_last 92 fr_92 rfl sh_92 (by decide) (s4 h1) (s5 h1) dX12_goOn_79 ?_
    refine st_aload_n (i := 0) rfl (t := 0) rfl (by decide) dX12_goOn_80 ?_
    refine so_getA 65 52 fr_X12_99_11 rfl sh_65 fx_65_52 dX12_goOn_81 ?_
    refine st_iload_n (i := 1) rfl rfl dX12_goOn_84 ?_
    refine st_dup2 (Nat.ne_of_beq_eq_false rfl) (Nat.ne_of_beq_eq_false rfl) dX12_goOn_85 ?_
    refine so_lald (v := (mem 94 x1)) 94 rfl sh_94 (by decide) s2 rfl dX12_goOn_86 (fun r6 => ?_)
    refine st_aload_n (i := 0) rfl (t := 0) rfl (by decide) dX12_goOn_87 ?_
    refine so_getA 65 49 fr_X12_89_11 rfl sh_65 fx_65_49 dX12_goOn_88 ?_
    refine st_iload_n (i := 1) rfl rfl dX12_goOn_91 ?_
    refine so_lald (v := (mem 91 x1)) 91 rfl sh_91 (by decide) s1 rfl dX12_goOn_92 (fun r7 => ?_)
    refine st_lload rfl dX12_goOn_93 ?_
    refine st_lsub dX12_goOn_95 ?_
    refine st_ladd dX12_goOn_96 ?_
    refine so_last 94 fr_94 rfl sh_94 (by decide) s2 (s6 h1) dX12_goOn_97 ?_
    refine st_aload_n (i := 0) rfl (t := 0) rfl (by decide) dX12_goOn_98 ?_
    refine so_getA 65 54 fr_X12_105_11 rfl sh_65 fx_65_54 dX12_goOn_99 ?_
    refine st_iload_n (i := 1) rfl rfl dX12_goOn_102 ?_
    refine so_iald (v := (mem 96 x1)) 96 rfl sh_96 (by decide) s2 rfl dX12_goOn_103 (fun r8 => ?_)
    refine st_iconst dX12_goOn_104 ?_
    refine sr_icmp_ne 122 r8 ⟨by decide, by decide⟩ (by decide) dX12_goOn_105 (fun h2 => ?_) (fun h2 => ?_)
    · have h2 : ¬ (mem 96 x1) = (-1) := by omega
      refine st_aload_n (i := 0) rfl (t := 0) rfl (by decide) dX12_goOn_122 ?_
      refine so_getA 65 50 fr_X12_93_11 rfl sh_65 fx_65_50 dX12_goOn_123 ?_
      refine st_aload_n (i := 0) rfl (t := 0) rfl (by decide) dX12_goOn_126 ?_
      refine so_getA 65 54 fr_X12_105_11 rfl sh_65 fx_65_54 dX12_goOn_127 ?_
      refine st_iload_n (i := 1) rfl rfl dX12_goOn_130 ?_
      refine so_iald (v := (mem 96 x1)) 96 rfl sh_96 (by decide) s2 rfl dX12_goOn_131 (fun r9 => ?_)
      refine st_iconst dX12_goOn_132 ?_
      refine st_iadd dX12_goOn_133 ?_
      refine st_dup2 (Nat.ne_of_beq_eq_false rfl) (Nat.ne_of_beq_eq_false rfl) dX12_goOn_134 ?_
      refine so_lald (v := ((mset mem 92 (x1 + 1) ((mem 92 (x1 + 1)) + ((mem 91 x1) - ((Int.tdiv ((mem 91 x1) * (mem 95 x1)) 100) - 0)))) 92 ((mem 96 x1) + 1))) 92 rfl sh_92 (by decide) (s7 h1 h2) rfl dX12_goOn_135 (fun r10 => ?_)
      refine st_lload rfl dX12_goOn_136 ?_
      refine st_ladd dX12_goOn_138 ?_
      refine so_last 92 fr_92 rfl sh_92 (by decide) (s7 h1 h2) (s8 h1 h2) dX12_goOn_139 ?_
      refine st_aload_n (i := 0) rfl (t := 0) rfl (by decide) dX12_goOn_140 ?_
      refine so_getA 65 52 fr_X12_99_11 rfl sh_65 fx_65_52 dX12_goOn_141 ?_
      refine st_aload_n (i := 0) rfl (t := 0) rfl (by decide) dX12_goOn_144 ?_
      refine so_getA 65 54 fr_X12_105_11 rfl sh_65 fx_65_54 dX12_goOn_145 ?_
      refine st_iload_n (i := 1) rfl rfl dX12_goOn_148 ?_
      refine so_iald (v := (mem 96 x1)) 96 rfl sh_96 (by decide) s2 rfl dX12_goOn_149 (fun r11 => ?_)
      refine st_dup2 (Nat.ne_of_beq_eq_false rfl) (Nat.ne_of_beq_eq_false rfl) dX12_goOn_150 ?_
      refine so_lald (v := ((mset (mset mem 92 (x1 + 1) ((mem 92 (x1 + 1)) + ((mem 91 x1) - ((Int.tdiv ((mem 91 x1) * (mem 95 x1)) 100) - 0)))) 94 x1 ((mem 94 x1) + ((mem 91 x1) - ((Int.tdiv ((mem 91 x1) * (mem 95 x1)) 100) - 0)))) 94 (mem 96 x1))) 94 rfl sh_94 (by decide) (s9 h1 h2) rfl dX12_goOn_151 (fun r12 => ?_)
      refine st_lload rfl dX12_goOn_152 ?_
      refine st_ladd dX12_goOn_154 ?_
      refine so_last 94 fr_94 rfl sh_94 (by decide) (s9 h1 h2) (s10 h1 h2) dX12_goOn_155 ?_
      exact st_return rfl dX12_goOn_156 (mQv.ret (q1 h1 h2))
    · have h2 : (mem 96 x1) = (-1) := by omega
      refine st_aload_n (i := 0) rfl (t := 0) rfl (by decide) dX12_goOn_108 ?_
      refine so_getA 65 51 fr_X12_96_11 rfl sh_65 fx_65_51 dX12_goOn_109 ?_
      refine st_iload_n (i := 1) rfl rfl dX12_goOn_112 ?_
      refine st_dup2 (Nat.ne_of_beq_eq_false rfl) (Nat.ne_of_beq_eq_false rfl) dX12_goOn_113 ?_
      refine so_lald (v := (mem 93 x1)) 93 rfl sh_93 (by decide) s2 rfl dX12_goOn_114 (fun r13 => ?_)
      refine st_lload rfl dX12_goOn_115 ?_
      refine st_ladd dX12_goOn_117 ?_
      refine so_last 93 fr_93 rfl sh_93 (by decide) s2 (s11 h1 h2) dX12_goOn_118 ?_
      refine st_goto 156 (by decide) dX12_goOn_119 ?_
      exact st_return rfl dX12_goOn_156 (mQv.ret (q2 h1 h2))
  · have h1 : (and32 (shr32 (mem 65 31) x1) 1 = 1) := h1
    refine st_lload_n (i := 2) rfl rfl dX12_goOn_30 ?_
    refine st_aload_n (i := 0) rfl (t := 0) rfl (by decide) dX12_goOn_31 ?_
    refine so_getA 65 30 fr_X12_68_11 rfl sh_65 fx_65_30 dX12_goOn_32 ?_
    refine st_aload_n (i := 0) rfl (t := 0) rfl (by decide) dX12_goOn_35 ?_
    refine so_getA 65 22 fr_X12_49_11 rfl sh_65 fx_65_22 dX12_goOn_36 ?_
    refine st_iload_n (i := 1) rfl rfl dX12_goOn_39 ?_
    refine so_iald (v := (mem 79 x1)) 79 rfl sh_79 (by decide) s2 rfl dX12_goOn_40 (fun r14 => ?_)
    refine so_iald (v := (mem 84 (mem 79 x1))) 84 rfl sh_84 (by decide) (s12 h1) rfl dX12_goOn_41 (fun r15 => ?_)
    refine sr_i2l r15 dX12_goOn_42 ?_
    refine st_lmul dX12_goOn_43 ?_
    refine st_ldc2 cw_X12_365 dX12_goOn_44 ?_
    refine sr_ldiv (s13 h1) ⟨by decide, by decide⟩ (by decide) dX12_goOn_47 ?_
    refine st_goto 52 (by decide) dX12_goOn_48 ?_
    refine st_lstore (by decide) (lc' := [(2, 65), (0, x1), (1, (Int.tdiv ((mem 91 x1) * (mem 95 x1)) 100)), (9, 0), (1, (Int.tdiv ((Int.tdiv ((mem 91 x1) * (mem 95 x1)) 100) * (mem 84 (mem 79 x1))) 100)), (9, 0), (9, 0), (9, 0)]) rfl dX12_goOn_52 ?_
    refine st_lload_n (i := 2) rfl rfl dX12_goOn_54 ?_
    refine st_lload rfl dX12_goOn_55 ?_
    refine st_lsub dX12_goOn_57 ?_
    refine st_lstore (by decide) (lc' := [(2, 65), (0, x1), (1, (Int.tdiv ((mem 91 x1) * (mem 95 x1)) 100)), (9, 0), (1, (Int.tdiv ((Int.tdiv ((mem 91 x1) * (mem 95 x1)) 100) * (mem 84 (mem 79 x1))) 100)), (9, 0), (1, ((Int.tdiv ((mem 91 x1) * (mem 95 x1)) 100) - (Int.tdiv ((Int.tdiv ((mem 91 x1) * (mem 95 x1)) 100) * (mem 84 (mem 79 x1))) 100))), (9, 0)]) rfl dX12_goOn_58 ?_
    refine st_aload_n (i := 0) rfl (t := 0) rfl (by decide) dX12_goOn_60 ?_
    refine so_getA 65 50 fr_X12_93_11 rfl sh_65 fx_65_50 dX12_goOn_61 ?_
    refine st_iload_n (i := 1) rfl rfl dX12_goOn_64 ?_
    refine st_iconst dX12_goOn_65 ?_
    refine st_iadd dX12_goOn_66 ?_
    refine st_dup2 (Nat.ne_of_beq_eq_false rfl) (Nat.ne_of_beq_eq_false rfl) dX12_goOn_67 ?_
    refine so_lald (v := (mem 92 (x1 + 1))) 92 rfl sh_92 (by decide) (s14 h1) rfl dX12_goOn_68 (fun r16 => ?_)
    refine st_aload_n (i := 0) rfl (t := 0) rfl (by decide) dX12_goOn_69 ?_
    refine so_getA 65 49 fr_X12_89_11 rfl sh_65 fx_65_49 dX12_goOn_70 ?_
    refine st_iload_n (i := 1) rfl rfl dX12_goOn_73 ?_
    refine so_lald (v := (mem 91 x1)) 91 rfl sh_91 (by decide) s1 rfl dX12_goOn_74 (fun r17 => ?_)
    refine st_lload rfl dX12_goOn_75 ?_
    refine st_lsub dX12_goOn_77 ?_
    refine st_ladd dX12_goOn_78 ?_
    refine so_last 92 fr_92 rfl sh_92 (by decide) (s14 h1) (s15 h1) dX12_goOn_79 ?_
    refine st_aload_n (i := 0) rfl (t := 0) rfl (by decide) dX12_goOn_80 ?_
    refine so_getA 65 52 fr_X12_99_11 rfl sh_65 fx_65_52 dX12_goOn_81 ?_
    refine st_iload_n (i := 1) rfl rfl dX12_goOn_84 ?_
    refine st_dup2 (Nat.ne_of_beq_eq_false rfl) (Nat.ne_of_beq_eq_false rfl) dX12_goOn_85 ?_
    refine so_lald (v := (mem 94 x1)) 94 rfl sh_94 (by decide) s2 rfl dX12_goOn_86 (fun r18 => ?_)
    refine st_aload_n (i := 0) rfl (t := 0) rfl (by decide) dX12_goOn_87 ?_
    refine so_getA 65 49 fr_X12_89_11 rfl sh_65 fx_65_49 dX12_goOn_88 ?_
    refine st_iload_n (i := 1) rfl rfl dX12_goOn_91 ?_
    refine so_lald (v := (mem 91 x1)) 91 rfl sh_91 (by decide) s1 rfl dX12_goOn_92 (fun r19 => ?_)
    refine st_lload rfl dX12_goOn_93 ?_
    refine st_lsub dX12_goOn_95 ?_
    refine st_ladd dX12_goOn_96 ?_
    refine so_last 94 fr_94 rfl sh_94 (by decide) s2 (s16 h1) dX12_goOn_97 ?_
    refine st_aload_n (i := 0) rfl (t := 0) rfl (by decide) dX12_goOn_98 ?_
    refine so_getA 65 54 fr_X12_105_11 rfl sh_65 fx_65_54 dX12_goOn_99 ?_
    refine st_iload_n (i := 1) rfl rfl dX12_goOn_102 ?_
    refine so_iald (v := (mem 96 x1)) 96 rfl sh_96 (by decide) s2 rfl dX12_goOn_103 (fun r20 => ?_)
    refine st_iconst dX12_goOn_104 ?_
    refine sr_icmp_ne 122 r20 ⟨by decide, by decide⟩ (by decide) dX12_goOn_105 (fun h3 => ?_) (fun h3 => ?_)
    · have h3 : ¬ (mem 96 x1) = (-1) := by omega
      refine st_aload_n (i := 0) rfl (t := 0) rfl (by decide) dX12_goOn_122 ?_
      refine so_getA 65 50 fr_X12_93_11 rfl sh_65 fx_65_50 dX12_goOn_123 ?_
      refine st_aload_n (i := 0) rfl (t := 0) rfl (by decide) dX12_goOn_126 ?_
      refine so_getA 65 54 fr_X12_105_11 rfl sh_65 fx_65_54 dX12_goOn_127 ?_
      refine st_iload_n (i := 1) rfl rfl dX12_goOn_130 ?_
      refine so_iald (v := (mem 96 x1)) 96 rfl sh_96 (by decide) s2 rfl dX12_goOn_131 (fun r21 => ?_)
      refine st_iconst dX12_goOn_132 ?_
      refine st_iadd dX12_goOn_133 ?_
      refine st_dup2 (Nat.ne_of_beq_eq_false rfl) (Nat.ne_of_beq_eq_false rfl) dX12_goOn_134 ?_
      refine so_lald (v := ((mset mem 92 (x1 + 1) ((mem 92 (x1 + 1)) + ((mem 91 x1) - ((Int.tdiv ((mem 91 x1) * (mem 95 x1)) 100) - (Int.tdiv ((Int.tdiv ((mem 91 x1) * (mem 95 x1)) 100) * (mem 84 (mem 79 x1))) 100))))) 92 ((mem 96 x1) + 1))) 92 rfl sh_92 (by decide) (s17 h1 h3) rfl dX12_goOn_135 (fun r22 => ?_)
      refine st_lload rfl dX12_goOn_136 ?_
      refine st_ladd dX12_goOn_138 ?_
      refine so_last 92 fr_92 rfl sh_92 (by decide) (s17 h1 h3) (s18 h1 h3) dX12_goOn_139 ?_
      refine st_aload_n (i := 0) rfl (t := 0) rfl (by decide) dX12_goOn_140 ?_
      refine so_getA 65 52 fr_X12_99_11 rfl sh_65 fx_65_52 dX12_goOn_141 ?_
      refine st_aload_n (i := 0) rfl (t := 0) rfl (by decide) dX12_goOn_144 ?_
      refine so_getA 65 54 fr_X12_105_11 rfl sh_65 fx_65_54 dX12_goOn_145 ?_
      refine st_iload_n (i := 1) rfl rfl dX12_goOn_148 ?_
      refine so_iald (v := (mem 96 x1)) 96 rfl sh_96 (by decide) s2 rfl dX12_goOn_149 (fun r23 => ?_)
      refine st_dup2 (Nat.ne_of_beq_eq_false rfl) (Nat.ne_of_beq_eq_false rfl) dX12_goOn_150 ?_
      refine so_lald (v := ((mset (mset mem 92 (x1 + 1) ((mem 92 (x1 + 1)) + ((mem 91 x1) - ((Int.tdiv ((mem 91 x1) * (mem 95 x1)) 100) - (Int.tdiv ((Int.tdiv ((mem 91 x1) * (mem 95 x1)) 100) * (mem 84 (mem 79 x1))) 100))))) 94 x1 ((mem 94 x1) + ((mem 91 x1) - ((Int.tdiv ((mem 91 x1) * (mem 95 x1)) 100) - (Int.tdiv ((Int.tdiv ((mem 91 x1) * (mem 95 x1)) 100) * (mem 84 (mem 79 x1))) 100))))) 94 (mem 96 x1))) 94 rfl sh_94 (by decide) (s19 h1 h3) rfl dX12_goOn_151 (fun r24 => ?_)
      refine st_lload rfl dX12_goOn_152 ?_
      refine st_ladd dX12_goOn_154 ?_
      refine so_last 94 fr_94 rfl sh_94 (by decide) (s19 h1 h3) (s20 h1 h3) dX12_goOn_155 ?_
      exact st_return rfl dX12_goOn_156 (mQv.ret (q3 h1 h3))
    · have h3 : (mem 96 x1) = (-1) := by omega
      refine st_aload_n (i := 0) rfl (t := 0) rfl (by decide) dX12_goOn_108 ?_
      refine so_getA 65 51 fr_X12_96_11 rfl sh_65 fx_65_51 dX12_goOn_109 ?_
      refine st_iload_n (i := 1) rfl rfl dX12_goOn_112 ?_
      refine st_dup2 (Nat.ne_of_beq_eq_false rfl) (Nat.ne_of_beq_eq_false rfl) dX12_goOn_113 ?_
      refine so_lald (v := (mem 93 x1)) 93 rfl sh_93 (by decide) s2 rfl dX12_goOn_114 (fun r25 => ?_)
      refine st_lload rfl dX12_goOn_115 ?_
      refine st_ladd dX12_goOn_117 ?_
      refine so_last 93 fr_93 rfl sh_93 (by decide) s2 (s21 h1 h3) dX12_goOn_118 ?_
      refine st_goto 156 (by decide) dX12_goOn_119 ?_
      exact st_return rfl dX12_goOn_156 (mQv.ret (q4 h1 h3))
theorem c_X12_goOn (mem : mmM) (n c v : Int) (σ : odT) (p : Int → Int) (x1 : Int) (hp : playM mem) (hn : mem 65 27 = n) (hP : odP n (mem 95) (tkN mem (mem 65 31)) (mem 96)) (h1 : 0 ≤ x1 ∧ x1 < n) (hR : odRM n σ mem) (hI : odI n c v σ) (hp1 : mem 91 x1 = p x1) (hpb : 0 ≤ p x1 ∧ p x1 ≤ 1000000000) (hc : c ≤ 1000000000) (hv : v ≤ 1000000000000) : conv bX12_goOn 2 [(2, 65), (0, x1)] mem (fun m => odRM n (odS (mem 95) (tkN mem (mem 65 31)) (mem 96) p σ x1) m ∧ goFr mem m) := by
  obtain ⟨f1, f2, f3⟩ := hP.2 x1 h1.1 h1.2
  have hn' := hP.1
  have g := goneP_bnd hpb.1 f1 f2
  have t1 := part100 hpb.1 f1
  have t2 := part100 (p := lostP (p x1) (mem 95 x1)) t1.1 f2
  have hx := hp.2 x1 h1.1 (by omega)
  have i1 := odI_say hI x1 (p x1 - goneP (p x1) (mem 95 x1) (tkN mem (mem 65 31) x1)) h1 (by omega)
  have r1 := odRM_say hR (p x1 - goneP (p x1) (mem 95 x1) (tkN mem (mem 65 31) x1)) h1
  have q1 := sayV_R64 (x := p x1 - goneP (p x1) (mem 95 x1) (tkN mem (mem 65 31) x1)) hn'.1 hR hI (by omega) (by omega) h1 (by omega)
  have q2 := sayV_R64 (x := goneP (p x1) (mem 95 x1) (tkN mem (mem 65 31) x1)) hn'.1 r1 i1 (by omega) (by omega) h1 (by omega)
  have q3 : ¬ mem 96 x1 = -1 → _ := fun w => sayV_R64 (x := goneP (p x1) (mem 95 x1) (tkN mem (mem 65 31) x1)) (s := mem 96 x1) hn'.1 r1 i1 (by omega) (by omega) (by omega) (by omega)
  have e92 : ∀ v, sayV mem x1 v 92 = mset mem 92 (x1 + 1) (mem 92 (x1 + 1) + v) 92 := fun v => mset_ne (by decide)
  have e93 : ∀ v, sayV mem x1 v 93 = mem 93 := fun v => (mset_ne (by decide)).trans (mset_ne (by decide))
  rw [e92, e93] at q2
  have q3' : ¬ mem 96 x1 = -1 → _ := fun w => by
    have := q3 w
    rw [e92, e93] at this
    exact this
  have tku : ¬ (and32 (shr32 (mem 65 31) x1) 1 = 1) → goneP (p x1) (mem 95 x1) (tkN mem (mem 65 31) x1) = (Int.tdiv (mem 91 x1 * mem 95 x1) 100) - 0 := by
    intro z
    unfold tkN bitN
    rw [if_neg z, goneP_t0, hp1]
    rfl
  have tkm : (and32 (shr32 (mem 65 31) x1) 1 = 1) → goneP (p x1) (mem 95 x1) (tkN mem (mem 65 31) x1) = (Int.tdiv (mem 91 x1 * mem 95 x1) 100) - (Int.tdiv ((Int.tdiv (mem 91 x1 * mem 95 x1) 100) * (mem 84 (mem 79 x1))) 100) := by
    intro z
    unfold tkN bitN
    rw [if_pos z, hp1]
    rfl
  have done1 : ¬ mem 96 x1 = -1 → odRM n (odS (mem 95) (tkN mem (mem 65 31)) (mem 96) p σ x1) (sayV (sayV mem x1 (p x1 - goneP (p x1) (mem 95 x1) (tkN mem (mem 65 31) x1))) (mem 96 x1) (goneP (p x1) (mem 95 x1) (tkN mem (mem 65 31) x1))) ∧ goFr mem (sayV (sayV mem x1 (p x1 - goneP (p x1) (mem 95 x1) (tkN mem (mem 65 31) x1))) (mem 96 x1) (goneP (p x1) (mem 95 x1) (tkN mem (mem 65 31) x1))) := by
    intro w
    refine ⟨?_, (sayV_fr _ _ _).trans (sayV_fr _ _ _)⟩
    unfold odS
    rw [if_neg w]
    exact odRM_say r1 _ (by omega)
  have done2 : mem 96 x1 = -1 → odRM n (odS (mem 95) (tkN mem (mem 65 31)) (mem 96) p σ x1) (mset (sayV mem x1 (p x1 - goneP (p x1) (mem 95 x1) (tkN mem (mem 65 31) x1))) 93 x1 (sayV mem x1 (p x1 - goneP (p x1) (mem 95 x1) (tkN mem (mem 65 31) x1)) 93 x1 + goneP (p x1) (mem 95 x1) (tkN mem (mem 65 31) x1))) ∧ goFr mem (mset (sayV mem x1 (p x1 - goneP (p x1) (mem 95 x1) (tkN mem (mem 65 31) x1))) 93 x1 (sayV mem x1 (p x1 - goneP (p x1) (mem 95 x1) (tkN mem (mem 65 31) x1)) 93 x1 + goneP (p x1) (mem 95 x1) (tkN mem (mem 65 31) x1))) := by
    intro w
    refine ⟨?_, (sayV_fr _ _ _).trans (fun a ha => mset_ne (by omega))⟩
    unfold odS
    rw [if_pos w]
    exact odRM_stop r1 _ h1
  refine cn_X12_goOn (bk_X12_goOn_0 (fun z w => ?_) (fun z w => ?_) (fun z w => ?_) (fun z w => ?_) (s3 := by rw [hp1]; omega) (s4 := fun _ => by omega) (s7 := fun _ w => by omega) (s9 := fun _ w => by omega) (s12 := fun _ => hx.1) (s14 := fun _ => by omega) (s17 := fun _ w => by omega) (s19 := fun _ w => by omega) (s13 := fun z => ?_) (s5 := fun z => ?_) (s6 := fun z => ?_) (s8 := fun z w => ?_) (s10 := fun z w => ?_) (s11 := fun z w => ?_) (s15 := fun z => ?_) (s16 := fun z => ?_) (s18 := fun z w => ?_) (s20 := fun z w => ?_) (s21 := fun z w => ?_))
  · have := done1 w
    rw [sayV2, tku z, ← hp1] at this
    exact this
  · have := done2 w
    rw [e93, tku z, ← hp1] at this
    exact this
  · have := done1 w
    rw [sayV2, tkm z, ← hp1] at this
    exact this
  · have := done2 w
    rw [e93, tkm z, ← hp1] at this
    exact this
  · rw [tku z, ← hp1] at q1
    exact q1.1
  · rw [tku z, ← hp1] at q1
    exact q1.2.1
  · have := (q3' w).1
    rw [tku z, ← hp1] at this
    exact this
  · have := (q3' w).2.1
    rw [tku z, ← hp1] at this
    exact this
  · rw [tku z] at q2
    exact q2.2.2
  · unfold tkN bitN at t2
    rw [if_pos z] at t2
    rw [hp1]
    unfold lostP at t2
    omega
  · rw [tkm z, ← hp1] at q1
    exact q1.1
  · rw [tkm z, ← hp1] at q1
    exact q1.2.1
  · have := (q3' w).1
    rw [tkm z, ← hp1] at this
    exact this
  · have := (q3' w).2.1
    rw [tkm z, ← hp1] at this
    exact this
  · rw [tkm z] at q2
    exact q2.2.2
theorem cn_X12_chanceOf {d : Nat} {P : Int → mmM → Prop} {mem : mmM} {x1 x2 : Int} (h : mmT bX12_chanceOf d 0 0 (mQ 0 P) 0 [(2, 65), (0, x1), (0, x2), (9, 0), (9, 0), (9, 0), (9, 0)] [] mS mem) : con 0 bX12_chanceOf d [(2, 65), (0, x1), (0, x2)] mem P := mmC_of [(2, 65), (0, x1), (0, x2), (9, 0), (9, 0), (9, 0), (9, 0)] ok_X12_chanceOf.2.2.2.2 rfl (Nat.le_of_ble_eq_true rfl) h
theorem bk_X12_chanceOf_0 {d : Nat} {P : Int → mmM → Prop} {mem : mmM} {x1 x2 : Int}
  (k1 : mmT bX12_chanceOf d 0 0 (mQ 0 P) 2 [(2, 65), (0, x1), (0, x2), (0, 0), (9, 0), (9, 0), (9, 0)] [] mS mem)
  : mmT bX12_chanceOf d 0 0 (mQ 0 P) 0 [(2, 65), (0, x1), (0, x2), (9, 0), (9, 0), (9, 0), (9, 0)] [] mS mem := by
  refine st_iconst dX12_chanceOf_0 ?_
  refine st_istore_n (i := 3) rfl (by decide) (lc' := [(2, 65), (0, x1), (0, x2), (0, 0), (9, 0), (9, 0), (9, 0)]) rfl dX12_chanceOf_1 ?_
  exact st_locals [(2, 65), (0, x1), (0, x2), (0, 0), (9, 0), (9, 0), (9, 0)] ⟨Or.inr rfl, Or.inr rfl, Or.inr rfl, Or.inr rfl, Or.inl rfl, Or.inl rfl, Or.inl rfl, trivial⟩ k1
theorem bk_X12_chanceOf_2 {d : Nat} {d1 : Nat} {P1 : Int → mmM → Prop} {P : Int → mmM → Prop} {mem : mmM} {x1 x2 x3 : Int}
  (c1 : x3 < (mem 65 27) → ¬ (mem 79 x3) = x2 → con 0 bX12_forgets d1 [(2, 65), (0, x3)] mem P1)
  (k1 : (mem 65 27) ≤ x3 → mmT bX12_chanceOf d 0 0 (mQ 0 P) 88 [(2, 65), (0, x1), (9, 0), (1, 0), (9, 0), (0, 0), (9, 0)] [] mS mem)
  (k2 : x3 < (mem 65 27) → ¬ (mem 79 x3) = x2 → ∀ (v1 : Int), ∀ (m1 : mmM), P1 v1 m1 → ¬ x3 = 0 → mmT bX12_chanceOf d 0 0 (mQ 0 P) 2 [(2, 65), (0, x1), (0, x2), (0, (x3 + 1)), (9, 0), (9, 0), (9, 0)] [] mS (mset (mset (mset (mset (mset m1 95 x3 v1) 96 x3 (leapM (mset m1 95 x3 v1) x3)) 91 x3 0) 93 x3 0) 94 x3 0))
  (k3 : x3 < (mem 65 27) → ¬ (mem 79 x3) = x2 → ∀ (v1 : Int), ∀ (m1 : mmM), P1 v1 m1 → x3 = 0 → mmT bX12_chanceOf d 0 0 (mQ 0 P) 2 [(2, 65), (0, x1), (0, x2), (0, (x3 + 1)), (9, 0), (9, 0), (9, 0)] [] mS (mset (mset (mset (mset (mset m1 95 x3 v1) 96 x3 (leapM (mset m1 95 x3 v1) x3)) 91 x3 1000000000) 93 x3 0) 94 x3 0))
  (k4 : x3 < (mem 65 27) → (mem 79 x3) = x2 → ¬ x3 = 0 → mmT bX12_chanceOf d 0 0 (mQ 0 P) 2 [(2, 65), (0, x1), (0, x2), (0, (x3 + 1)), (9, 0), (9, 0), (9, 0)] [] mS (mset (mset (mset (mset (mset mem 95 x3 0) 96 x3 (leapM (mset mem 95 x3 0) x3)) 91 x3 0) 93 x3 0) 94 x3 0))
  (k5 : x3 < (mem 65 27) → (mem 79 x3) = x2 → x3 = 0 → mmT bX12_chanceOf d 0 0 (mQ 0 P) 2 [(2, 65), (0, x1), (0, x2), (0, (x3 + 1)), (9, 0), (9, 0), (9, 0)] [] mS (mset (mset (mset (mset (mset mem 95 x3 0) 96 x3 (leapM (mset mem 95 x3 0) x3)) 91 x3 1000000000) 93 x3 0) 94 x3 0))
  (hd_d1 : d1 + 1 ≤ d := by omega)
  (hd4 : 4 ≤ d := by omega)
  (s1 : R32 x3 := by intros; first | omega | assumption | solve_by_elim)
  (s2 : x3 < (mem 65 27) → 0 ≤ x3 ∧ x3 < 24 := by intros; first | omega | assumption | solve_by_elim)
  (s3 : x3 < (mem 65 27) → R32 x2 := by intros; first | omega | assumption | solve_by_elim)
  (s4 : x3 < (mem 65 27) → ¬ (mem 79 x3) = x2 → ∀ (v1 : Int), ∀ (m1 : mmM), P1 v1 m1 → R32 v1 := by intros; first | omega | assumption | solve_by_elim)
  (s5 : x3 < (mem 65 27) → ¬ (mem 79 x3) = x2 → ∀ (v1 : Int), ∀ (m1 : mmM), P1 v1 m1 → playM (mset m1 95 x3 v1) := by intros; first | omega | assumption | solve_by_elim)
  (s6 : x3 < (mem 65 27) → ¬ (mem 79 x3) = x2 → ∀ (v1 : Int), ∀ (m1 : mmM), P1 v1 m1 → 0 ≤ x3 ∧ x3 < ((mset m1 95 x3 v1) 65 27) := by intros; first | omega | assumption | solve_by_elim)
  (s7 : x3 < (mem 65 27) → ¬ (mem 79 x3) = x2 → ∀ (v1 : Int), ∀ (m1 : mmM), P1 v1 m1 → ¬ x3 = 0 → 0 ≤ x3 ∧ x3 < 25 := by intros; first | omega | assumption | solve_by_elim)
  (s8 : x3 < (mem 65 27) → ¬ (mem 79 x3) = x2 → ∀ (v1 : Int), ∀ (m1 : mmM), P1 v1 m1 → x3 = 0 → 0 ≤ x3 ∧ x3 < 25 := by intros; first | omega | assumption | solve_by_elim)
  (s9 : x3 < (mem 65 27) → (mem 79 x3) = x2 → playM (mset mem 95 x3 0) := by intros; first | omega | assumption | solve_by_elim)
  (s10 : x3 < (mem 65 27) → (mem 79 x3) = x2 → 0 ≤ x3 ∧ x3 < ((mset mem 95 x3 0) 65 27) := by intros; first | omega | assumption | solve_by_elim)
  (s11 : x3 < (mem 65 27) → (mem 79 x3) = x2 → ¬ x3 = 0 → 0 ≤ x3 ∧ x3 < 25 := by intros; first | omega | assumption | solve_by_elim)
  (s12 : x3 < (mem 65 27) → (mem 79 x3) = x2 → x3 = 0 → 0 ≤ x3 ∧ x3 < 25 := by intros; first | omega | assumption | solve_by_elim)
  : mmT bX12_chanceOf d 0 0 (mQ 0 P) 2 [(2, 65), (0, x1), (0, x2), (0, x3), (9, 0), (9, 0), (9, 0)] [] mS mem := by
  refine st_iload_n (i := 3) rfl rfl dX12_chanceOf_2 ?_
  refine st_aload_n (i := 0) rfl (t := 0) rfl (by decide) dX12_chanceOf_3 ?_
  refine so_getI (v := (mem 65 27)) 65 27 fr_X12_268_11 rfl sh_65 rfl dX12_chanceOf_4 (fun r1 => ?_)
  refine sr_icmp_ge 83 s1 r1 (by decide) dX12_chanceOf_7 (fun h1 => ?_) (fun h1 => ?_)
  · have h1 : (mem 65 27) ≤ x3 := by omega
    refine st_lconst (v := 0) rfl dX12_chanceOf_83 ?_
    refine st_lstore_n (i := 3) rfl (by decide) (lc' := [(2, 65), (0, x1), (0, x2), (1, 0), (9, 0), (9, 0), (9, 0)]) rfl dX12_chanceOf_84 ?_
    refine st_iconst dX12_chanceOf_85 ?_
    refine st_istore (by decide) (lc' := [(2, 65), (0, x1), (0, x2), (1, 0), (9, 0), (0, 0), (9, 0)]) rfl dX12_chanceOf_86 ?_
    exact st_locals [(2, 65), (0, x1), (9, 0), (1, 0), (9, 0), (0, 0), (9, 0)] ⟨Or.inr rfl, Or.inr rfl, Or.inl rfl, Or.inr rfl, Or.inl rfl, Or.inr rfl, Or.inl rfl, trivial⟩ (k1 h1)
  · have h1 : x3 < (mem 65 27) := by omega
    refine st_aload_n (i := 0) rfl (t := 0) rfl (by decide) dX12_chanceOf_10 ?_
    refine so_getA 65 53 fr_X12_102_11 rfl sh_65 fx_65_53 dX12_chanceOf_11 ?_
    refine st_iload_n (i := 3) rfl rfl dX12_chanceOf_14 ?_
    refine st_aload_n (i := 0) rfl (t := 0) rfl (by decide) dX12_chanceOf_15 ?_
    refine so_getA 65 22 fr_X12_49_11 rfl sh_65 fx_65_22 dX12_chanceOf_16 ?_
    refine st_iload_n (i := 3) rfl rfl dX12_chanceOf_19 ?_
    refine so_iald (v := (mem 79 x3)) 79 rfl sh_79 (by decide) (s2 h1) rfl dX12_chanceOf_20 (fun r2 => ?_)
    refine st_iload_n (i := 2) rfl rfl dX12_chanceOf_21 ?_
    refine sr_icmp_ne 29 r2 (s3 h1) (by decide) dX12_chanceOf_22 (fun h2 => ?_) (fun h2 => ?_)
    · have h2 : ¬ (mem 79 x3) = x2 := by omega
      refine st_aload_n (i := 0) rfl (t := 0) rfl (by decide) dX12_chanceOf_29 ?_
      refine st_iload_n (i := 3) rfl rfl dX12_chanceOf_30 ?_
      refine st_callV (kc2 := 0) (ks2 := 0) (av := [(0, x3)]) 65 11 mr_X12_320 ok_X12_forgets (c1 h1 h2) rfl sh_65 ⟨_, rfl, rfl, by decide⟩ rfl rfl hd_d1 (Nat.le_refl 0) (Nat.le_refl 0) (Nat.le_of_ble_eq_true rfl) dX12_chanceOf_31 (mQ.elim fun v1 m1 p1 => ?_)
      refine so_iast 95 fr_95 rfl sh_95 (by decide) (s2 h1) (s4 h1 h2 v1 m1 p1) dX12_chanceOf_34 ?_
      refine st_aload_n (i := 0) rfl (t := 0) rfl (by decide) dX12_chanceOf_35 ?_
      refine so_getA 65 54 fr_X12_105_11 rfl sh_65 fx_65_54 dX12_chanceOf_36 ?_
      refine st_iload_n (i := 3) rfl rfl dX12_chanceOf_39 ?_
      refine st_aload_n (i := 0) rfl (t := 0) rfl (by decide) dX12_chanceOf_40 ?_
      refine st_iload_n (i := 3) rfl rfl dX12_chanceOf_41 ?_
      refine st_callV (kc2 := 0) (ks2 := 0) (av := [(0, x3)]) 65 11 mr_X12_326 ok_X12_leapOf (c_X12_leapOf (mset m1 95 x3 v1) x3 ((s5 h1 h2 v1 m1 p1)) ((s6 h1 h2 v1 m1 p1))) rfl sh_65 ⟨_, rfl, rfl, by decide⟩ rfl rfl hd4 (Nat.le_refl 0) (Nat.le_refl 0) (Nat.le_of_ble_eq_true rfl) dX12_chanceOf_42 (mQ.elim fun v2 m2 hp => ?_)
      obtain ⟨hpv, hpm⟩ := hp
      subst hpv
      have hpm := hpm.symm
      subst hpm
      refine so_iast 96 fr_96 rfl sh_96 (by decide) (s2 h1) (leapM_rng ((s5 h1 h2 v1 m1 p1)) ((s6 h1 h2 v1 m1 p1))) dX12_chanceOf_45 ?_
      refine st_aload_n (i := 0) rfl (t := 0) rfl (by decide) dX12_chanceOf_46 ?_
      refine so_getA 65 49 fr_X12_89_11 rfl sh_65 fx_65_49 dX12_chanceOf_47 ?_
      refine st_iload_n (i := 3) rfl rfl dX12_chanceOf_50 ?_
      refine st_iload_n (i := 3) rfl rfl dX12_chanceOf_51 ?_
      refine sr_if_ne 61 s1 (by decide) dX12_chanceOf_52 (fun h3 => ?_) (fun h3 => ?_)
      · have h3 : ¬ x3 = 0 := by omega
        refine st_lconst (v := 0) rfl dX12_chanceOf_61 ?_
        refine so_last 91 fr_91 rfl sh_91 (by decide) (s7 h1 h2 v1 m1 p1 h3) ⟨by decide, by decide⟩ dX12_chanceOf_62 ?_
        refine st_aload_n (i := 0) rfl (t := 0) rfl (by decide) dX12_chanceOf_63 ?_
        refine so_getA 65 51 fr_X12_96_11 rfl sh_65 fx_65_51 dX12_chanceOf_64 ?_
        refine st_iload_n (i := 3) rfl rfl dX12_chanceOf_67 ?_
        refine st_lconst (v := 0) rfl dX12_chanceOf_68 ?_
        refine so_last 93 fr_93 rfl sh_93 (by decide) (s2 h1) ⟨by decide, by decide⟩ dX12_chanceOf_69 ?_
        refine st_aload_n (i := 0) rfl (t := 0) rfl (by decide) dX12_chanceOf_70 ?_
        refine so_getA 65 52 fr_X12_99_11 rfl sh_65 fx_65_52 dX12_chanceOf_71 ?_
        refine st_iload_n (i := 3) rfl rfl dX12_chanceOf_74 ?_
        refine st_lconst (v := 0) rfl dX12_chanceOf_75 ?_
        refine so_last 94 fr_94 rfl sh_94 (by decide) (s2 h1) ⟨by decide, by decide⟩ dX12_chanceOf_76 ?_
        refine st_iinc (y := (x3 + 1)) (by decide) (i := 3) rfl rfl (lc' := [(2, 65), (0, x1), (0, x2), (0, (x3 + 1)), (9, 0), (9, 0), (9, 0)]) rfl dX12_chanceOf_77 ?_
        refine st_goto 2 (by decide) dX12_chanceOf_80 ?_
        exact st_locals [(2, 65), (0, x1), (0, x2), (0, (x3 + 1)), (9, 0), (9, 0), (9, 0)] ⟨Or.inr rfl, Or.inr rfl, Or.inr rfl, Or.inr rfl, Or.inl rfl, Or.inl rfl, Or.inl rfl, trivial⟩ (k2 h1 h2 v1 m1 p1 h3)
      · have h3 : x3 = 0 := by omega
        refine st_ldc2 cw_X12_400 dX12_chanceOf_55 ?_
        refine st_goto 62 (by decide) dX12_chanceOf_58 ?_
        refine so_last 91 fr_91 rfl sh_91 (by decide) (s8 h1 h2 v1 m1 p1 h3) ⟨by decide, by decide⟩ dX12_chanceOf_62 ?_
        refine st_aload_n (i := 0) rfl (t := 0) rfl (by decide) dX12_chanceOf_63 ?_
        refine so_getA 65 51 fr_X12_96_11 rfl sh_65 fx_65_51 dX12_chanceOf_64 ?_
        refine st_iload_n (i := 3) rfl rfl dX12_chanceOf_67 ?_
        refine st_lconst (v := 0) rfl dX12_chanceOf_68 ?_
        refine so_last 93 fr_93 rfl sh_93 (by decide) (s2 h1) ⟨by decide, by decide⟩ dX12_chanceOf_69 ?_
        refine st_aload_n (i := 0) rfl (t := 0) rfl (by decide) dX12_chanceOf_70 ?_
        refine so_getA 65 52 fr_X12_99_11 rfl sh_65 fx_65_52 dX12_chanceOf_71 ?_
        refine st_iload_n (i := 3) rfl rfl dX12_chanceOf_74 ?_
        refine st_lconst (v := 0) rfl dX12_chanceOf_75 ?_
        refine so_last 94 fr_94 rfl sh_94 (by decide) (s2 h1) ⟨by decide, by decide⟩ dX12_chanceOf_76 ?_
        refine st_iinc (y := (x3 + 1)) (by decide) (i := 3) rfl rfl (lc' := [(2, 65), (0, x1), (0, x2), (0, (x3 + 1)), (9, 0), (9, 0), (9, 0)]) rfl dX12_chanceOf_77 ?_
        refine st_goto 2 (by decide) dX12_chanceOf_80 ?_
        exact st_locals [(2, 65), (0, x1), (0, x2), (0, (x3 + 1)), (9, 0), (9, 0), (9, 0)] ⟨Or.inr rfl, Or.inr rfl, Or.inr rfl, Or.inr rfl, Or.inl rfl, Or.inl rfl, Or.inl rfl, trivial⟩ (k3 h1 h2 v1 m1 p1 h3)
    · have h2 : (mem 79 x3) = x2 := by omega
      refine st_iconst dX12_chanceOf_25 ?_
      refine st_goto 34 (by decide) dX12_chanceOf_26 ?_
      refine so_iast 95 fr_95 rfl sh_95 (by decide) (s2 h1) ⟨by decide, by decide⟩ dX12_chanceOf_34 ?_
      refine st_aload_n (i := 0) rfl (t := 0) rfl (by decide) dX12_chanceOf_35 ?_
      refine so_getA 65 54 fr_X12_105_11 rfl sh_65 fx_65_54 dX12_chanceOf_36 ?_
      refine st_iload_n (i := 3) rfl rfl dX12_chanceOf_39 ?_
      refine st_aload_n (i := 0) rfl (t := 0) rfl (by decide) dX12_chanceOf_40 ?_
      refine st_iload_n (i := 3) rfl rfl dX12_chanceOf_41 ?_
      refine st_callV (kc2 := 0) (ks2 := 0) (av := [(0, x3)]) 65 11 mr_X12_326 ok_X12_leapOf (c_X12_leapOf (mset mem 95 x3 0) x3 ((s9 h1 h2)) ((s10 h1 h2))) rfl sh_65 ⟨_, rfl, rfl, by decide⟩ rfl rfl hd4 (Nat.le_refl 0) (Nat.le_refl 0) (Nat.le_of_ble_eq_true rfl) dX12_chanceOf_42 (mQ.elim fun v3 m3 hp => ?_)
      obtain ⟨hpv, hpm⟩ := hp
      subst hpv
      have hpm := hpm.symm
      subst hpm
      refine so_iast 96 fr_96 rfl sh_96 (by decide) (s2 h1) (leapM_rng ((s9 h1 h2)) ((s10 h1 h2))) dX12_chanceOf_45 ?_
      refine st_aload_n (i := 0) rfl (t := 0) rfl (by decide) dX12_chanceOf_46 ?_
      refine so_getA 65 49 fr_X12_89_11 rfl sh_65 fx_65_49 dX12_chanceOf_47 ?_
      refine st_iload_n (i := 3) rfl rfl dX12_chanceOf_50 ?_
      refine st_iload_n (i := 3) rfl rfl dX12_chanceOf_51 ?_
      refine sr_if_ne 61 s1 (by decide) dX12_chanceOf_52 (fun h4 => ?_) (fun h4 => ?_)
      · have h4 : ¬ x3 = 0 := by omega
        refine st_lconst (v := 0) rfl dX12_chanceOf_61 ?_
        refine so_last 91 fr_91 rfl sh_91 (by decide) (s11 h1 h2 h4) ⟨by decide, by decide⟩ dX12_chanceOf_62 ?_
        refine st_aload_n (i := 0) rfl (t := 0) rfl (by decide) dX12_chanceOf_63 ?_
        refine so_getA 65 51 fr_X12_96_11 rfl sh_65 fx_65_51 dX12_chanceOf_64 ?_
        refine st_iload_n (i := 3) rfl rfl dX12_chanceOf_67 ?_
        refine st_lconst (v := 0) rfl dX12_chanceOf_68 ?_
        refine so_last 93 fr_93 rfl sh_93 (by decide) (s2 h1) ⟨by decide, by decide⟩ dX12_chanceOf_69 ?_
        refine st_aload_n (i := 0) rfl (t := 0) rfl (by decide) dX12_chanceOf_70 ?_
        refine so_getA 65 52 fr_X12_99_11 rfl sh_65 fx_65_52 dX12_chanceOf_71 ?_
        refine st_iload_n (i := 3) rfl rfl dX12_chanceOf_74 ?_
        refine st_lconst (v := 0) rfl dX12_chanceOf_75 ?_
        refine so_last 94 fr_94 rfl sh_94 (by decide) (s2 h1) ⟨by decide, by decide⟩ dX12_chanceOf_76 ?_
        refine st_iinc (y := (x3 + 1)) (by decide) (i := 3) rfl rfl (lc' := [(2, 65), (0, x1), (0, x2), (0, (x3 + 1)), (9, 0), (9, 0), (9, 0)]) rfl dX12_chanceOf_77 ?_
        refine st_goto 2 (by decide) dX12_chanceOf_80 ?_
        exact st_locals [(2, 65), (0, x1), (0, x2), (0, (x3 + 1)), (9, 0), (9, 0), (9, 0)] ⟨Or.inr rfl, Or.inr rfl, Or.inr rfl, Or.inr rfl, Or.inl rfl, Or.inl rfl, Or.inl rfl, trivial⟩ (k4 h1 h2 h4)
      · have h4 : x3 = 0 := by omega
        refine st_ldc2 cw_X12_400 dX12_chanceOf_55 ?_
        refine st_goto 62 (by decide) dX12_chanceOf_58 ?_
        refine so_last 91 fr_91 rfl sh_91 (by decide) (s12 h1 h2 h4) ⟨by decide, by decide⟩ dX12_chanceOf_62 ?_
        refine st_aload_n (i := 0) rfl (t := 0) rfl (by decide) dX12_chanceOf_63 ?_
        refine so_getA 65 51 fr_X12_96_11 rfl sh_65 fx_65_51 dX12_chanceOf_64 ?_
        refine st_iload_n (i := 3) rfl rfl dX12_chanceOf_67 ?_
        refine st_lconst (v := 0) rfl dX12_chanceOf_68 ?_
        refine so_last 93 fr_93 rfl sh_93 (by decide) (s2 h1) ⟨by decide, by decide⟩ dX12_chanceOf_69 ?_
        refine st_aload_n (i := 0) rfl (t := 0) rfl (by decide) dX12_chanceOf_70 ?_
        refine so_getA 65 52 fr_X12_99_11 rfl sh_65 fx_65_52 dX12_chanceOf_71 ?_
        refine st_iload_n (i := 3) rfl rfl dX12_chanceOf_74 ?_
        refine st_lconst (v := 0) rfl dX12_chanceOf_75 ?_
        refine so_last 94 fr_94 rfl sh_94 (by decide) (s2 h1) ⟨by decide, by decide⟩ dX12_chanceOf_76 ?_
        refine st_iinc (y := (x3 + 1)) (by decide) (i := 3) rfl rfl (lc' := [(2, 65), (0, x1), (0, x2), (0, (x3 + 1)), (9, 0), (9, 0), (9, 0)]) rfl dX12_chanceOf_77 ?_
        refine st_goto 2 (by decide) dX12_chanceOf_80 ?_
        exact st_locals [(2, 65), (0, x1), (0, x2), (0, (x3 + 1)), (9, 0), (9, 0), (9, 0)] ⟨Or.inr rfl, Or.inr rfl, Or.inr rfl, Or.inr rfl, Or.inl rfl, Or.inl rfl, Or.inl rfl, trivial⟩ (k5 h1 h2 h4)
theorem bk_X12_chanceOf_88 {d : Nat} {P : Int → mmM → Prop} {mem : mmM} {x1 x3 x5 : Int}
  (k1 : x5 < x1 → mmT bX12_chanceOf d 0 0 (mQ 0 P) 97 [(2, 65), (0, x1), (9, 0), (1, x3), (9, 0), (0, x5), (0, 0)] [] mS mem)
  (q1 : x1 ≤ x5 → P x3 mem)
  (s1 : R32 x5 := by intros; first | omega | assumption | solve_by_elim)
  (s2 : R32 x1 := by intros; first | omega | assumption | solve_by_elim)
  : mmT bX12_chanceOf d 0 0 (mQ 0 P) 88 [(2, 65), (0, x1), (9, 0), (1, x3), (9, 0), (0, x5), (9, 0)] [] mS mem := by
  refine st_iload rfl dX12_chanceOf_88 ?_
  refine st_iload_n (i := 1) rfl rfl dX12_chanceOf_90 ?_
  refine sr_icmp_ge 194 s1 s2 (by decide) dX12_chanceOf_91 (fun h1 => ?_) (fun h1 => ?_)
  · have h1 : x1 ≤ x5 := by omega
    refine st_lload_n (i := 3) rfl rfl dX12_chanceOf_194 ?_
    refine st_l2i dX12_chanceOf_195 ?_
    exact st_ireturn rfl dX12_chanceOf_196 (mQ.ret (q1 h1))
  · have h1 : x5 < x1 := by omega
    refine st_iconst dX12_chanceOf_94 ?_
    refine st_istore (by decide) (lc' := [(2, 65), (0, x1), (9, 0), (1, x3), (9, 0), (0, x5), (0, 0)]) rfl dX12_chanceOf_95 ?_
    exact st_locals [(2, 65), (0, x1), (9, 0), (1, x3), (9, 0), (0, x5), (0, 0)] ⟨Or.inr rfl, Or.inr rfl, Or.inl rfl, Or.inr rfl, Or.inl rfl, Or.inr rfl, Or.inr rfl, trivial⟩ (k1 h1)
theorem bk_X12_chanceOf_97 {d : Nat} {P : Int → mmM → Prop} {mem : mmM} {x1 x3 x5 x6 : Int}
  (k1 : (mem 65 27) < x6 → mmT bX12_chanceOf d 0 0 (mQ 0 P) 123 [(2, 65), (0, x1), (9, 0), (1, x3), (9, 0), (0, x5), (0, 0)] [] mS mem)
  (k2 : x6 ≤ (mem 65 27) → mmT bX12_chanceOf d 0 0 (mQ 0 P) 97 [(2, 65), (0, x1), (9, 0), (1, x3), (9, 0), (0, x5), (0, (x6 + 1))] [] mS (mset mem 92 x6 0))
  (s1 : R32 x6 := by intros; first | omega | assumption | solve_by_elim)
  (s2 : x6 ≤ (mem 65 27) → 0 ≤ x6 ∧ x6 < 25 := by intros; first | omega | assumption | solve_by_elim)
  : mmT bX12_chanceOf d 0 0 (mQ 0 P) 97 [(2, 65), (0, x1), (9, 0), (1, x3), (9, 0), (0, x5), (0, x6)] [] mS mem := by
  refine st_iload rfl dX12_chanceOf_97 ?_
  refine st_aload_n (i := 0) rfl (t := 0) rfl (by decide) dX12_chanceOf_99 ?_
  refine so_getI (v := (mem 65 27)) 65 27 fr_X12_268_11 rfl sh_65 rfl dX12_chanceOf_100 (fun r1 => ?_)
  refine sr_icmp_gt 120 s1 r1 (by decide) dX12_chanceOf_103 (fun h1 => ?_) (fun h1 => ?_)
  · have h1 : (mem 65 27) < x6 := by omega
    refine st_iconst dX12_chanceOf_120 ?_
    refine st_istore (by decide) (lc' := [(2, 65), (0, x1), (9, 0), (1, x3), (9, 0), (0, x5), (0, 0)]) rfl dX12_chanceOf_121 ?_
    exact st_locals [(2, 65), (0, x1), (9, 0), (1, x3), (9, 0), (0, x5), (0, 0)] ⟨Or.inr rfl, Or.inr rfl, Or.inl rfl, Or.inr rfl, Or.inl rfl, Or.inr rfl, Or.inr rfl, trivial⟩ (k1 h1)
  · have h1 : x6 ≤ (mem 65 27) := by omega
    refine st_aload_n (i := 0) rfl (t := 0) rfl (by decide) dX12_chanceOf_106 ?_
    refine so_getA 65 50 fr_X12_93_11 rfl sh_65 fx_65_50 dX12_chanceOf_107 ?_
    refine st_iload rfl dX12_chanceOf_110 ?_
    refine st_lconst (v := 0) rfl dX12_chanceOf_112 ?_
    refine so_last 92 fr_92 rfl sh_92 (by decide) (s2 h1) ⟨by decide, by decide⟩ dX12_chanceOf_113 ?_
    refine st_iinc (y := (x6 + 1)) (by decide) (i := 6) rfl rfl (lc' := [(2, 65), (0, x1), (9, 0), (1, x3), (9, 0), (0, x5), (0, (x6 + 1))]) rfl dX12_chanceOf_114 ?_
    refine st_goto 97 (by decide) dX12_chanceOf_117 ?_
    exact st_locals [(2, 65), (0, x1), (9, 0), (1, x3), (9, 0), (0, x5), (0, (x6 + 1))] ⟨Or.inr rfl, Or.inr rfl, Or.inl rfl, Or.inr rfl, Or.inl rfl, Or.inr rfl, Or.inr rfl, trivial⟩ (k2 h1)
theorem bk_X12_chanceOf_123 {d : Nat} {d1 : Nat} {P1 : mmM → Prop} {P : Int → mmM → Prop} {mem : mmM} {x1 x3 x5 x6 : Int}
  (c1 : x6 < (mem 65 27) → conv bX12_goOn d1 [(2, 65), (0, x6)] mem P1)
  (k1 : (mem 65 27) ≤ x6 → mmT bX12_chanceOf d 0 0 (mQ 0 P) 147 [(2, 65), (0, x1), (9, 0), (1, x3), (9, 0), (0, x5), (0, 0)] [] mS mem)
  (k2 : x6 < (mem 65 27) → ∀ (m1 : mmM), P1 m1 → mmT bX12_chanceOf d 0 0 (mQ 0 P) 123 [(2, 65), (0, x1), (9, 0), (1, x3), (9, 0), (0, x5), (0, (x6 + 1))] [] mS m1)
  (hd_d1 : d1 + 1 ≤ d := by omega)
  (s1 : R32 x6 := by intros; first | omega | assumption | solve_by_elim)
  : mmT bX12_chanceOf d 0 0 (mQ 0 P) 123 [(2, 65), (0, x1), (9, 0), (1, x3), (9, 0), (0, x5), (0, x6)] [] mS mem := by
  refine st_iload rfl dX12_chanceOf_123 ?_
  refine st_aload_n (i := 0) rfl (t := 0) rfl (by decide) dX12_chanceOf_125 ?_
  refine so_getI (v := (mem 65 27)) 65 27 fr_X12_268_11 rfl sh_65 rfl dX12_chanceOf_126 (fun r1 => ?_)
  refine sr_icmp_ge 144 s1 r1 (by decide) dX12_chanceOf_129 (fun h1 => ?_) (fun h1 => ?_)
  · have h1 : (mem 65 27) ≤ x6 := by omega
    refine st_iconst dX12_chanceOf_144 ?_
    refine st_istore (by decide) (lc' := [(2, 65), (0, x1), (9, 0), (1, x3), (9, 0), (0, x5), (0, 0)]) rfl dX12_chanceOf_145 ?_
    exact st_locals [(2, 65), (0, x1), (9, 0), (1, x3), (9, 0), (0, x5), (0, 0)] ⟨Or.inr rfl, Or.inr rfl, Or.inl rfl, Or.inr rfl, Or.inl rfl, Or.inr rfl, Or.inr rfl, trivial⟩ (k1 h1)
  · have h1 : x6 < (mem 65 27) := by omega
    refine st_aload_n (i := 0) rfl (t := 0) rfl (by decide) dX12_chanceOf_132 ?_
    refine st_iload rfl dX12_chanceOf_133 ?_
    refine st_callV (kc2 := 0) (ks2 := 0) (av := [(0, x6)]) 65 11 mr_X12_405 ok_X12_goOn (c1 h1) rfl sh_65 ⟨_, rfl, rfl, by decide⟩ rfl rfl hd_d1 (Nat.le_refl 0) (Nat.le_refl 0) (Nat.le_of_ble_eq_true rfl) dX12_chanceOf_135 (mQv.elim fun m1 p1 => ?_)
    refine st_iinc (y := (x6 + 1)) (by decide) (i := 6) rfl rfl (lc' := [(2, 65), (0, x1), (9, 0), (1, x3), (9, 0), (0, x5), (0, (x6 + 1))]) rfl dX12_chanceOf_138 ?_
    refine st_goto 123 (by decide) dX12_chanceOf_141 ?_
    exact st_locals [(2, 65), (0, x1), (9, 0), (1, x3), (9, 0), (0, x5), (0, (x6 + 1))] ⟨Or.inr rfl, Or.inr rfl, Or.inl rfl, Or.inr rfl, Or.inl rfl, Or.inr rfl, Or.inr rfl, trivial⟩ (k2 h1 m1 p1)
theorem bk_X12_chanceOf_147 {d : Nat} {P : Int → mmM → Prop} {mem : mmM} {x1 x3 x5 x6 : Int}
  (k1 : (mem 65 27) ≤ x6 → mmT bX12_chanceOf d 0 0 (mQ 0 P) 88 [(2, 65), (0, x1), (9, 0), (1, (x3 + (mem 92 (mem 65 27)))), (9, 0), (0, (x5 + 1)), (9, 0)] [] mS mem)
  (k2 : x6 < (mem 65 27) → mmT bX12_chanceOf d 0 0 (mQ 0 P) 147 [(2, 65), (0, x1), (9, 0), (1, x3), (9, 0), (0, x5), (0, (x6 + 1))] [] mS (mset mem 91 x6 (mem 92 x6)))
  (s1 : R32 x6 := by intros; first | omega | assumption | solve_by_elim)
  (s2 : (mem 65 27) ≤ x6 → 0 ≤ (mem 65 27) ∧ (mem 65 27) < 25 := by intros; first | omega | assumption | solve_by_elim)
  (s3 : x6 < (mem 65 27) → 0 ≤ x6 ∧ x6 < 25 := by intros; first | omega | assumption | solve_by_elim)
  : mmT bX12_chanceOf d 0 0 (mQ 0 P) 147 [(2, 65), (0, x1), (9, 0), (1, x3), (9, 0), (0, x5), (0, x6)] [] mS mem := by
  refine st_iload rfl dX12_chanceOf_147 ?_
  refine st_aload_n (i := 0) rfl (t := 0) rfl (by decide) dX12_chanceOf_149 ?_
  refine so_getI (v := (mem 65 27)) 65 27 fr_X12_268_11 rfl sh_65 rfl dX12_chanceOf_150 (fun r1 => ?_)
  refine sr_icmp_ge 176 s1 r1 (by decide) dX12_chanceOf_153 (fun h1 => ?_) (fun h1 => ?_)
  · have h1 : (mem 65 27) ≤ x6 := by omega
    refine st_lload_n (i := 3) rfl rfl dX12_chanceOf_176 ?_
    refine st_aload_n (i := 0) rfl (t := 0) rfl (by decide) dX12_chanceOf_177 ?_
    refine so_getA 65 50 fr_X12_93_11 rfl sh_65 fx_65_50 dX12_chanceOf_178 ?_
    refine st_aload_n (i := 0) rfl (t := 0) rfl (by decide) dX12_chanceOf_181 ?_
    refine so_getI (v := (mem 65 27)) 65 27 fr_X12_268_11 rfl sh_65 rfl dX12_chanceOf_182 (fun r2 => ?_)
    refine so_lald (v := (mem 92 (mem 65 27))) 92 rfl sh_92 (by decide) (s2 h1) rfl dX12_chanceOf_185 (fun r3 => ?_)
    refine st_ladd dX12_chanceOf_186 ?_
    refine st_lstore_n (i := 3) rfl (by decide) (lc' := [(2, 65), (0, x1), (9, 0), (1, (x3 + (mem 92 (mem 65 27)))), (9, 0), (0, x5), (0, x6)]) rfl dX12_chanceOf_187 ?_
    refine st_iinc (y := (x5 + 1)) (by decide) (i := 5) rfl rfl (lc' := [(2, 65), (0, x1), (9, 0), (1, (x3 + (mem 92 (mem 65 27)))), (9, 0), (0, (x5 + 1)), (0, x6)]) rfl dX12_chanceOf_188 ?_
    refine st_goto 88 (by decide) dX12_chanceOf_191 ?_
    exact st_locals [(2, 65), (0, x1), (9, 0), (1, (x3 + (mem 92 (mem 65 27)))), (9, 0), (0, (x5 + 1)), (9, 0)] ⟨Or.inr rfl, Or.inr rfl, Or.inl rfl, Or.inr rfl, Or.inl rfl, Or.inr rfl, Or.inl rfl, trivial⟩ (k1 h1)
  · have h1 : x6 < (mem 65 27) := by omega
    refine st_aload_n (i := 0) rfl (t := 0) rfl (by decide) dX12_chanceOf_156 ?_
    refine so_getA 65 49 fr_X12_89_11 rfl sh_65 fx_65_49 dX12_chanceOf_157 ?_
    refine st_iload rfl dX12_chanceOf_160 ?_
    refine st_aload_n (i := 0) rfl (t := 0) rfl (by decide) dX12_chanceOf_162 ?_
    refine so_getA 65 50 fr_X12_93_11 rfl sh_65 fx_65_50 dX12_chanceOf_163 ?_
    refine st_iload rfl dX12_chanceOf_166 ?_
    refine so_lald (v := (mem 92 x6)) 92 rfl sh_92 (by decide) (s3 h1) rfl dX12_chanceOf_168 (fun r4 => ?_)
    refine so_last 91 fr_91 rfl sh_91 (by decide) (s3 h1) r4 dX12_chanceOf_169 ?_
    refine st_iinc (y := (x6 + 1)) (by decide) (i := 6) rfl rfl (lc' := [(2, 65), (0, x1), (9, 0), (1, x3), (9, 0), (0, x5), (0, (x6 + 1))]) rfl dX12_chanceOf_170 ?_
    refine st_goto 147 (by decide) dX12_chanceOf_173 ?_
    exact st_locals [(2, 65), (0, x1), (9, 0), (1, x3), (9, 0), (0, x5), (0, (x6 + 1))] ⟨Or.inr rfl, Or.inr rfl, Or.inl rfl, Or.inr rfl, Or.inl rfl, Or.inr rfl, Or.inr rfl, trivial⟩ (k2 h1)
def chP (mem : mmM) (u : odU) (v : Int) (m : mmM) : Prop := v = u.2.1 ∧ chFr mem m ∧ ∀ j, 0 ≤ j → j < mem 65 27 → m 93 j = u.2.2.1 j ∧ m 94 j = u.2.2.2 j
theorem fgS_bnd {ac F : Int → Int} (hF : ∀ s, 0 ≤ F s ∧ F s ≤ 100) (a j : Int) : 0 ≤ fgS ac F a j ∧ fgS ac F a j ≤ 100 := by
  unfold fgS
  have := hF j
  split <;> omega
theorem odP_M {mem : mmM} {F : Int → Int} (hp : playM mem) (ht : ∀ a, 0 ≤ a → a < 8 → 0 ≤ mem 84 a ∧ mem 84 a ≤ 100) (hF : ∀ s, 0 ≤ F s ∧ F s ≤ 100) (mk : Int) : odP (mem 65 27) F (tkN mem mk) (leapM mem) := by
  refine ⟨hp.1, fun i i0 i1 => ⟨hF i, ?_, leapM_bnd ⟨i0, i1⟩⟩⟩
  have hx := hp.2 i i0 (by have := hp.1; omega)
  have := ht (mem 79 i) hx.1.1 hx.1.2
  unfold tkN
  split <;> omega
theorem c_X12_chanceOf (mem : mmM) (F : Int → Int) (x1 x2 : Int) (hp : playM mem) (hn0 : 0 < mem 65 27) (ht : ∀ a, 0 ≤ a → a < 8 → 0 ≤ mem 84 a ∧ mem 84 a ≤ 100) (hF : forgE mem F) (h1 : 0 ≤ x1 ∧ x1 ≤ 200) (h2 : R32 x2) : con 0 bX12_chanceOf 9 [(2, 65), (0, x1), (0, x2)] mem (chP mem (odN (mem 65 27) (fgS (mem 79) F x2) (tkN mem (mem 65 31)) (leapM mem) x1.toNat)) := by
  have hn := hp.1
  have hP := odP_M hp ht (fgS_bnd (ac := mem 79) hF.1 x2) (mem 65 31)
  generalize hfg : fgS (mem 79) F x2 = fg at hP
  have fgb : ∀ j, 0 ≤ fg j ∧ fg j ≤ 100 := by
    rw [← hfg]
    exact fgS_bnd hF.1 x2
  -- the layers
  have lay : ∀ (i : Int), 0 ≤ i → i ≤ x1 → ∀ m : mmM, chFr mem m → (∀ j, 0 ≤ j → j < mem 65 27 → m 95 j = fg j ∧ m 96 j = leapM mem j) → (∀ j, 0 ≤ j → j < mem 65 27 → m 91 j = (odN (mem 65 27) fg (tkN mem (mem 65 31)) (leapM mem) i.toNat).1 j) → (∀ j, 0 ≤ j → j < mem 65 27 → m 93 j = (odN (mem 65 27) fg (tkN mem (mem 65 31)) (leapM mem) i.toNat).2.2.1 j ∧ m 94 j = (odN (mem 65 27) fg (tkN mem (mem 65 31)) (leapM mem) i.toNat).2.2.2 j) → mmT bX12_chanceOf 9 0 0 (mQ 0 (chP mem (odN (mem 65 27) fg (tkN mem (mem 65 31)) (leapM mem) x1.toNat))) 88 [(2, 65), (0, x1), (9, 0), (1, (odN (mem 65 27) fg (tkN mem (mem 65 31)) (leapM mem) i.toNat).2.1), (9, 0), (0, i), (9, 0)] [] mS m := by
    refine loop_up (n := x1) (fun i => ∀ m : mmM, chFr mem m → (∀ j, 0 ≤ j → j < mem 65 27 → m 95 j = fg j ∧ m 96 j = leapM mem j) → (∀ j, 0 ≤ j → j < mem 65 27 → m 91 j = (odN (mem 65 27) fg (tkN mem (mem 65 31)) (leapM mem) i.toNat).1 j) → (∀ j, 0 ≤ j → j < mem 65 27 → m 93 j = (odN (mem 65 27) fg (tkN mem (mem 65 31)) (leapM mem) i.toNat).2.2.1 j ∧ m 94 j = (odN (mem 65 27) fg (tkN mem (mem 65 31)) (leapM mem) i.toNat).2.2.2 j) → mmT bX12_chanceOf 9 0 0 (mQ 0 (chP mem (odN (mem 65 27) fg (tkN mem (mem 65 31)) (leapM mem) x1.toNat))) 88 [(2, 65), (0, x1), (9, 0), (1, (odN (mem 65 27) fg (tkN mem (mem 65 31)) (leapM mem) i.toNat).2.1), (9, 0), (0, i), (9, 0)] [] mS m) (fun i i0 i1 ih m f r1 r2 r3 => ?_)
    have oK := odN_ok hP hn0 i.toNat
    have z := odK_sum oK
    have nxt := odN_succ (mem 65 27) fg (tkN mem (mem 65 31)) (leapM mem) i.toNat
    rw [show i.toNat + 1 = (i + 1).toNat by omega] at nxt
    generalize hu : odN (mem 65 27) fg (tkN mem (mem 65 31)) (leapM mem) i.toNat = u at *
    have fold := fun t hi => odI_fold (c := sumTo u.2.2.1 (mem 65 27).toNat) (v := 1000000000 * i.toNat) hP oK.1 oK.2.2.1 oK.2.2.2.1 rfl t hi
    have psum : ∀ t : Nat, t ≤ (mem 65 27).toNat → 0 ≤ sumTo u.1 t ∧ sumTo u.1 t ≤ sumTo u.1 (mem 65 27).toNat := by
      intro t hi
      refine ⟨sumTo_nonneg (fun j j0 j1 => oK.1 j j0 (by omega)), ?_⟩
      have : ∀ w : Nat, t + w ≤ (mem 65 27).toNat → sumTo u.1 t ≤ sumTo u.1 (t + w) := by
        intro w
        induction w with
        | zero => intro _; exact Int.le_refl _
        | succ w ihw =>
          intro h
          have := oK.1 ((t + w : Nat) : Int) (by omega) (by omega)
          have := ihw (by omega)
          show _ ≤ sumTo u.1 (t + w) + u.1 ((t + w : Nat) : Int)
          omega
      have := this ((mem 65 27).toNat - t) (by omega)
      rw [show t + ((mem 65 27).toNat - t) = (mem 65 27).toNat by omega] at this
      exact this
    refine bk_X12_chanceOf_88 (fun g => ?_) (fun g => ?_)
    rotate_left
    · rw [show x1.toNat = i.toNat by omega, hu]
      exact ⟨rfl, f, r3⟩
    -- then is cleared
    refine loop_up (n := mem 65 27 + 1) (fun j => ∀ m' : mmM, chFr mem m' → (∀ t, 0 ≤ t → t < mem 65 27 → m' 95 t = fg t ∧ m' 96 t = leapM mem t) → (∀ t, 0 ≤ t → t < mem 65 27 → m' 91 t = u.1 t) → (∀ t, 0 ≤ t → t < mem 65 27 → m' 93 t = u.2.2.1 t ∧ m' 94 t = u.2.2.2 t) → (∀ t, 0 ≤ t → t < j → m' 92 t = 0) → mmT bX12_chanceOf 9 0 0 (mQ 0 (chP mem (odN (mem 65 27) fg (tkN mem (mem 65 31)) (leapM mem) x1.toNat))) 97 [(2, 65), (0, x1), (9, 0), (1, u.2.1), (9, 0), (0, i), (0, j)] [] mS m') (fun j j0 j1 ihj m' f' a1 a2 a3 a4 => ?_) 0 (by omega) (by omega) m f r1 r2 r3 (fun t t0 t1 => by omega)
    have e27 : m' 65 27 = mem 65 27 := f'.key.1.1
    refine bk_X12_chanceOf_97 (fun g1 => ?_) (fun g1 => ihj (by omega) _ (f'.set _ _ _ (by omega)) (fun t t0 t1 => by rw [mset_ne (by decide), mset_ne (by decide)]; exact a1 t t0 t1) (fun t t0 t1 => by rw [mset_ne (by decide)]; exact a2 t t0 t1) (fun t t0 t1 => by rw [mset_ne (by decide), mset_ne (by decide)]; exact a3 t t0 t1) (fun t t0 t1 => by
      rw [mset_at]
      split
      · rfl
      · exact a4 t t0 (by omega))) (s2 := fun g1 => by omega)
    rw [e27] at g1
    -- each speech goes on
    refine loop_up (n := mem 65 27) (fun s => ∀ m1 : mmM, chFr mem m1 → (∀ t, 0 ≤ t → t < mem 65 27 → m1 95 t = fg t ∧ m1 96 t = leapM mem t) → (∀ t, 0 ≤ t → t < mem 65 27 → m1 91 t = u.1 t) → odRM (mem 65 27) (odF fg (tkN mem (mem 65 31)) (leapM mem) u.1 u.2.2.1 u.2.2.2 s.toNat) m1 → mmT bX12_chanceOf 9 0 0 (mQ 0 (chP mem (odN (mem 65 27) fg (tkN mem (mem 65 31)) (leapM mem) x1.toNat))) 123 [(2, 65), (0, x1), (9, 0), (1, u.2.1), (9, 0), (0, i), (0, s)] [] mS m1) (fun s s0 s1 ihs m1 f1 b1 b2 b3 => ?_) 0 (by omega) hn.1 m' f' a1 a2 ⟨fun t t0 t1 => a4 t t0 (by omega), fun t t0 t1 => (a3 t t0 t1).1, fun t t0 t1 => (a3 t t0 t1).2⟩
    have e27' : m1 65 27 = mem 65 27 := f1.key.1.1
    have fI := fold s.toNat (by omega)
    have ps := psum s.toNat (by omega)
    have oKs := oK.2.2.2.2
    have etk : tkN m1 (m1 65 31) = tkN mem (mem 65 31) := by
      rw [f1.key.1.2.2]
      funext t
      unfold tkN
      rw [f1 84 (by decide) (by decide) (by omega), f1 79 (by decide) (by decide) (by omega)]
    refine bk_X12_chanceOf_123 (d1 := 2) (P1 := fun m2 => odRM (mem 65 27) (odS fg (tkN mem (mem 65 31)) (leapM mem) u.1 (odF fg (tkN mem (mem 65 31)) (leapM mem) u.1 u.2.2.1 u.2.2.2 s.toNat) s) m2 ∧ goFr m1 m2) (fun g2 => ?_) (fun g2 => ?_) (fun g2 m2 q => ihs (by omega) m2 (f1.trans (fun a c1 c2 c3 => q.2 a (by omega))) (fun t t0 t1 => by rw [q.2 95 (by omega), q.2 96 (by omega)]; exact b1 t t0 t1) (fun t t0 t1 => by rw [q.2 91 (by omega)]; exact b2 t t0 t1) (by rw [odF_step _ _ _ _ _ _ s0]; exact q.1))
    · rw [e27'] at g2
      have c := c_X12_goOn m1 (mem 65 27) _ _ _ u.1 s (f1.key.play hp) e27' (by
        rw [etk]
        exact ⟨hn, fun t t0 t1 => by rw [(b1 t t0 t1).1, (b1 t t0 t1).2]; exact hP.2 t t0 t1⟩) ⟨s0, g2⟩ b3 fI (b2 s s0 g2) ⟨oK.1 s s0 g2, z.2.2.2.1 s s0 g2⟩ (by omega) (by omega)
      rw [etk] at c
      have e : odS (m1 95) (tkN mem (mem 65 31)) (m1 96) u.1 (odF fg (tkN mem (mem 65 31)) (leapM mem) u.1 u.2.2.1 u.2.2.2 s.toNat) s = odS fg (tkN mem (mem 65 31)) (leapM mem) u.1 (odF fg (tkN mem (mem 65 31)) (leapM mem) u.1 u.2.2.1 u.2.2.2 s.toNat) s := by
        unfold odS
        rw [(b1 s s0 g2).1, (b1 s s0 g2).2]
      rw [e] at c
      exact c
    · rw [e27'] at g2
      rw [show s = mem 65 27 by omega] at b3
      -- parts are what came
      refine loop_up (n := mem 65 27) (fun t => ∀ m2 : mmM, (∀ a, a ≠ 91 → m2 a = m1 a) → (∀ j, 0 ≤ j → j < t → m2 91 j = m1 92 j) → mmT bX12_chanceOf 9 0 0 (mQ 0 (chP mem (odN (mem 65 27) fg (tkN mem (mem 65 31)) (leapM mem) x1.toNat))) 147 [(2, 65), (0, x1), (9, 0), (1, u.2.1), (9, 0), (0, i), (0, t)] [] mS m2) (fun t t0 t1 iht m2 f2 c1 => ?_) 0 (by omega) hn.1 m1 (fun a _ => rfl) (fun j j0 j1 => by omega)
      have e27'' : m2 65 27 = mem 65 27 := by rw [f2 65 (by decide)]; exact e27'
      have nI := fold (mem 65 27).toNat (Nat.le_refl _)
      have nb := odI_bnd nI hn.1
      have nn := nb.1 (mem 65 27) hn.1 (Int.le_refl _)
      refine bk_X12_chanceOf_147 (fun g3 => ?_) (fun g3 => iht (by omega) _ (fun a ha => by rw [mset_ne ha]; exact f2 a ha) (fun j j0 j1 => ?_)) (s2 := fun _ => by omega) (s3 := fun g3 => by omega)
      · rw [e27''] at g3 ⊢
        have e92 : m2 92 (mem 65 27) = (odF fg (tkN mem (mem 65 31)) (leapM mem) u.1 u.2.2.1 u.2.2.2 (mem 65 27).toNat).1 (mem 65 27) := by
          rw [f2 92 (by decide)]
          exact b3.1 _ hn.1 (Int.le_refl _)
        rw [e92]
        have k := ih (by omega) m2 (f1.trans (fun a d1 d2 d3 => f2 a (by omega))) (fun j j0 j1 => by rw [f2 95 (by decide), f2 96 (by decide)]; exact b1 j j0 j1)
        rw [nxt] at k
        exact k (fun j j0 j1 => by rw [c1 j j0 (by omega)]; exact b3.1 j j0 (by omega)) (fun j j0 j1 => by rw [f2 93 (by decide), f2 94 (by decide)]; exact ⟨b3.2.1 j j0 j1, b3.2.2 j j0 j1⟩)
      · rw [mset_at]
        split
        · rename_i e
          rw [f2 92 (by decide), e]
        · exact c1 j j0 (by omega)
  refine cn_X12_chanceOf (bk_X12_chanceOf_0 ?_)
  refine loop_up (n := mem 65 27) (fun i => ∀ m : mmM, chFr mem m → (∀ j, 0 ≤ j → j < i → (m 95 j = fg j ∧ m 96 j = leapM mem j) ∧ m 91 j = (if j = 0 then 1000000000 else 0) ∧ m 93 j = 0 ∧ m 94 j = 0) → mmT bX12_chanceOf 9 0 0 (mQ 0 (chP mem (odN (mem 65 27) fg (tkN mem (mem 65 31)) (leapM mem) x1.toNat))) 2 [(2, 65), (0, x1), (0, x2), (0, i), (9, 0), (9, 0), (9, 0)] [] mS m) (fun i i0 i1 ih m f r => ?_) 0 (by omega) hn.1 mem (fun a _ _ _ => rfl) (fun j j0 j1 => by omega)
  have e27 : m 65 27 = mem 65 27 := f.key.1.1
  have e79 : m 79 = mem 79 := f 79 (by decide) (by decide) (by omega)
  have nx : ∀ (m1 : mmM) (v w : Int), i < mem 65 27 → chFr mem m1 → (∀ a, (91 ≤ a ∧ a ≤ 96) → m1 a = m a) → v = fg i → w = (if i = 0 then 1000000000 else 0) → mmT bX12_chanceOf 9 0 0 (mQ 0 (chP mem (odN (mem 65 27) fg (tkN mem (mem 65 31)) (leapM mem) x1.toNat))) 2 [(2, 65), (0, x1), (0, x2), (0, i + 1), (9, 0), (9, 0), (9, 0)] [] mS (mset (mset (mset (mset (mset m1 95 i v) 96 i (leapM (mset m1 95 i v) i)) 91 i w) 93 i 0) 94 i 0) := by
    intro m1 v w g f1 hm hv hw
    have el : leapM (mset m1 95 i v) = leapM mem := (f1.set 95 i v (by omega)).leap
    rw [el]
    refine ih g _ (((((f1.set 95 i v (by omega)).set 96 i _ (by omega)).set 91 i _ (by omega)).set 93 i _ (by omega)).set 94 i _ (by omega)) (fun j j0 j1 => ?_)
    by_cases e : j = i
    · rw [e]
      refine ⟨⟨?_, ?_⟩, ?_, ?_, ?_⟩
      · rw [mset_ne (by decide), mset_ne (by decide), mset_ne (by decide), mset_ne (by decide), mset_same, hv]
      · rw [mset_ne (by decide), mset_ne (by decide), mset_ne (by decide), mset_same]
      · rw [mset_ne (by decide), mset_ne (by decide), mset_same, hw]
      · rw [mset_ne (by decide), mset_same]
      · rw [mset_same]
    · have q := r j j0 (by omega)
      refine ⟨⟨?_, ?_⟩, ?_, ?_, ?_⟩
      · rw [mset_ne (by decide), mset_ne (by decide), mset_ne (by decide), mset_ne (by decide), mset_at, if_neg e, hm 95 (by omega)]
        exact q.1.1
      · rw [mset_ne (by decide), mset_ne (by decide), mset_ne (by decide), mset_at, if_neg e, mset_ne (by decide), hm 96 (by omega)]
        exact q.1.2
      · rw [mset_ne (by decide), mset_ne (by decide), mset_at, if_neg e, mset_ne (by decide), mset_ne (by decide), hm 91 (by omega)]
        exact q.2.1
      · rw [mset_ne (by decide), mset_at, if_neg e, mset_ne (by decide), mset_ne (by decide), mset_ne (by decide), hm 93 (by omega)]
        exact q.2.2.1
      · rw [mset_at, if_neg e, mset_ne (by decide), mset_ne (by decide), mset_ne (by decide), mset_ne (by decide), hm 94 (by omega)]
        exact q.2.2.2
  have f1 : ∀ (v1 : Int) (m1 : mmM), (v1 = F i ∧ ∀ a, a ≠ 74 → a ≠ 75 → m1 a = m a) → chFr mem m1 ∧ ∀ a, (91 ≤ a ∧ a ≤ 96) → m1 a = m a := fun v1 m1 q => ⟨f.trans (fun a a1 a2 a3 => q.2 a a1 a2), fun a ha => q.2 a (by omega) (by omega)⟩
  have fv : ¬ m 79 i = x2 → F i = fg i := by
    intro g
    rw [← hfg]
    unfold fgS
    rw [if_neg (by rw [← e79]; exact g)]
  have fz : m 79 i = x2 → 0 = fg i := by
    intro g
    rw [← hfg]
    unfold fgS
    rw [if_pos (by rw [← e79]; exact g)]
  refine bk_X12_chanceOf_2 (d1 := 8) (P1 := fun v m' => v = F i ∧ ∀ a, a ≠ 74 → a ≠ 75 → m' a = m a) (fun g g2 => hF.2 m i f.key ⟨i0, by omega⟩) (fun g => ?_) (fun g g2 v1 m1 q g3 => ?_) (fun g g2 v1 m1 q g3 => ?_) (fun g g2 g3 => ?_) (fun g g2 g3 => ?_) (s2 := fun g => by omega) (s4 := fun g g2 v1 m1 q => by have := hF.1 i; rw [q.1]; omega) (s5 := fun g g2 v1 m1 q => ((f1 v1 m1 q).1.set 95 i v1 (by omega)).key.play hp) (s6 := fun g g2 v1 m1 q => by rw [((f1 v1 m1 q).1.set 95 i v1 (by omega)).key.1.1]; omega) (s7 := fun g _ _ _ _ _ => by omega) (s8 := fun g _ _ _ _ _ => by omega) (s9 := fun g _ => (f.set 95 i 0 (by omega)).key.play hp) (s10 := fun g _ => by rw [(f.set 95 i 0 (by omega)).key.1.1]; omega) (s11 := fun g _ _ => by omega) (s12 := fun g _ _ => by omega)
  · rw [e27] at g
    exact lay 0 (by omega) h1.1 m f (fun j j0 j1 => (r j j0 (by omega)).1) (fun j j0 j1 => (r j j0 (by omega)).2.1) (fun j j0 j1 => (r j j0 (by omega)).2.2)
  · exact nx m1 v1 0 (by omega) (f1 v1 m1 q).1 (f1 v1 m1 q).2 (by rw [q.1]; exact fv g2) (by rw [if_neg g3])
  · exact nx m1 v1 1000000000 (by omega) (f1 v1 m1 q).1 (f1 v1 m1 q).2 (by rw [q.1]; exact fv g2) (by rw [if_pos g3])
  · exact nx m 0 0 (by omega) f (fun _ _ => rfl) (fz g2) (by rw [if_neg g3])
  · exact nx m 0 1000000000 (by omega) f (fun _ _ => rfl) (fz g2) (by rw [if_pos g3])
