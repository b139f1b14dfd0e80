/-! how parts flow, layer by layer -/
def updF (f : Int → Int) (k v : Int) : Int → Int := fun j => if j = k then v else f j
theorem updF_same (f : Int → Int) (k v : Int) : updF f k v k = v := if_pos rfl
theorem updF_ne {f : Int → Int} {k v j : Int} (h : j ≠ k) : updF f k v j = f j := if_neg h
theorem updF_id (f : Int → Int) (k : Int) : updF f k (f k + 0) = f := by
  funext j
  unfold updF
  split
  · rename_i h
    rw [h, Int.add_zero]
  · rfl
theorem sumTo_updOut (f : Int → Int) (k v : Int) (n : Nat) (h : ¬ (0 ≤ k ∧ k < n)) : sumTo (updF f k v) n = sumTo f n :=
  sumTo_congr (fun i h0 h1 => updF_ne (by omega))
theorem sumTo_upd (f : Int → Int) (k v : Int) (n : Nat) (h : 0 ≤ k ∧ k < n) : sumTo (updF f k v) n = sumTo f n - f k + v := by
  induction n with
  | zero => omega
  | succ n ih =>
    unfold sumTo
    by_cases e : k = n
    · rw [sumTo_updOut _ _ _ _ (by omega), e, updF_same]
      omega
    · rw [ih (by omega), updF_ne (Ne.symm e)]
      omega
theorem sumTo_nonneg {f : Int → Int} {n : Nat} (h : ∀ i : Int, 0 ≤ i → i < n → 0 ≤ f i) : 0 ≤ sumTo f n := by
  induction n with
  | zero => exact Int.le_refl _
  | succ n ih =>
    unfold sumTo
    have h1 := ih (fun i h1 h2 => h i h1 (by omega))
    have h2 := h n (by omega) (by omega)
    omega
theorem sumTo_ge {f : Int → Int} {n : Nat} (h : ∀ i : Int, 0 ≤ i → i < n → 0 ≤ f i) {j : Int} (h0 : 0 ≤ j) (h1 : j < n) : f j ≤ sumTo f n := by
  induction n with
  | zero => omega
  | succ n ih =>
    unfold sumTo
    by_cases e : j = n
    · have := sumTo_nonneg (f := f) (n := n) (fun i g0 g1 => h i g0 (by omega))
      rw [e]
      omega
    · have h2 := h n (by omega) (by omega)
      have := ih (fun i g0 g1 => h i g0 (by omega)) (by omega)
      omega
theorem sumTo_0 {f : Int → Int} {n : Nat} (h : ∀ i : Int, 0 ≤ i → i < n → f i = 0) : sumTo f n = 0 := by
  induction n with
  | zero => rfl
  | succ n ih =>
    unfold sumTo
    rw [ih (fun i g0 g1 => h i g0 (by omega)), h n (by omega) (by omega)]
    rfl
theorem sumTo_mono {f g : Int → Int} {n : Nat} (h : ∀ i : Int, 0 ≤ i → i < n → f i ≤ g i) : sumTo f n ≤ sumTo g n := by
  induction n with
  | zero => exact Int.le_refl _
  | succ n ih =>
    unfold sumTo
    have h1 := ih (fun i h1 h2 => h i h1 (by omega))
    have h2 := h n (by omega) (by omega)
    omega
def lostP (p f : Int) : Int := Int.tdiv (p * f) 100
def goneP (p f t : Int) : Int := lostP p f - Int.tdiv (lostP p f * t) 100
theorem part100 {p f : Int} (hp : 0 ≤ p) (hf : 0 ≤ f ∧ f ≤ 100) : 0 ≤ Int.tdiv (p * f) 100 ∧ Int.tdiv (p * f) 100 ≤ p ∧ 0 ≤ p * f ∧ p * f ≤ p * 100 := by
  have h1 : 0 ≤ p * f := Int.mul_nonneg hp hf.1
  have h2 : p * f ≤ p * 100 := Int.mul_le_mul_of_nonneg_left hf.2 hp
  rw [Int.tdiv_eq_ediv_of_nonneg h1]
  omega
theorem goneP_bnd {p f t : Int} (hp : 0 ≤ p) (hf : 0 ≤ f ∧ f ≤ 100) (ht : 0 ≤ t ∧ t ≤ 100) : 0 ≤ goneP p f t ∧ goneP p f t ≤ p := by
  have h1 := part100 hp hf
  have h2 := part100 (p := lostP p f) h1.1 ht
  unfold goneP
  unfold lostP at *
  omega
theorem goneP_0 (f t : Int) : goneP 0 f t = 0 := by
  unfold goneP lostP
  rw [Int.zero_mul, Int.zero_tdiv, Int.zero_mul, Int.zero_tdiv]
  rfl
/-- what comes next, what stopped, what was said -/
abbrev odT : Type := (Int → Int) × (Int → Int) × (Int → Int)
def odSay (σ : odT) (s v : Int) : odT := (updF σ.1 (s + 1) (σ.1 (s + 1) + v), σ.2.1, updF σ.2.2 s (σ.2.2 s + v))
def odStop (σ : odT) (s v : Int) : odT := (σ.1, updF σ.2.1 s (σ.2.1 s + v), σ.2.2)
def odS (fg tk to p : Int → Int) (σ : odT) (s : Int) : odT :=
  if to s = -1 then odStop (odSay σ s (p s - goneP (p s) (fg s) (tk s))) s (goneP (p s) (fg s) (tk s))
  else odSay (odSay σ s (p s - goneP (p s) (fg s) (tk s))) (to s) (goneP (p s) (fg s) (tk s))
def odF (fg tk to p S V : Int → Int) (i : Nat) : odT := foldTo (odS fg tk to p) (fun _ => 0, S, V) i
abbrev odU : Type := (Int → Int) × Int × (Int → Int) × (Int → Int)
def odN (n : Int) (fg tk to : Int → Int) : Nat → odU
  | 0 => (fun s => if s = 0 then 1000000000 else 0, 0, fun _ => 0, fun _ => 0)
  | k + 1 => ((odF fg tk to (odN n fg tk to k).1 (odN n fg tk to k).2.2.1 (odN n fg tk to k).2.2.2 n.toNat).1, (odN n fg tk to k).2.1 + (odF fg tk to (odN n fg tk to k).1 (odN n fg tk to k).2.2.1 (odN n fg tk to k).2.2.2 n.toNat).1 n, (odF fg tk to (odN n fg tk to k).1 (odN n fg tk to k).2.2.1 (odN n fg tk to k).2.2.2 n.toNat).2.1, (odF fg tk to (odN n fg tk to k).1 (odN n fg tk to k).2.2.1 (odN n fg tk to k).2.2.2 n.toNat).2.2)
theorem odF_step (fg tk to p S V : Int → Int) {i : Int} (h : 0 ≤ i) : odF fg tk to p S V (i + 1).toNat = odS fg tk to p (odF fg tk to p S V i.toNat) i := foldTo_step _ _ h
theorem odF_congr {fg fg' tk tk' to to' p S V : Int → Int} {n : Nat} (h : ∀ i : Int, 0 ≤ i → i < n → fg i = fg' i ∧ tk i = tk' i ∧ to i = to' i) : odF fg tk to p S V n = odF fg' tk' to' p S V n := by
  refine foldTo_congr (fun i a h0 h1 => ?_)
  obtain ⟨e1, e2, e3⟩ := h i h0 h1
  unfold odS
  rw [e1, e2, e3]
theorem odN_congr {n : Int} {fg fg' tk tk' to to' : Int → Int} (hn : 0 ≤ n) (h : ∀ i : Int, 0 ≤ i → i < n → fg i = fg' i ∧ tk i = tk' i ∧ to i = to' i) (k : Nat) : odN n fg tk to k = odN n fg' tk' to' k := by
  induction k with
  | zero => rfl
  | succ k ih =>
    unfold odN
    rw [ih, odF_congr (fg' := fg') (tk' := tk') (to' := to') (fun i h0 h1 => h i h0 (by omega))]
/-- the rates are rates, leaps go to speeches -/
def odP (n : Int) (fg tk to : Int → Int) : Prop := (0 ≤ n ∧ n ≤ 24) ∧ ∀ i, 0 ≤ i → i < n → (0 ≤ fg i ∧ fg i ≤ 100) ∧ (0 ≤ tk i ∧ tk i ≤ 100) ∧ (-1 ≤ to i ∧ to i < n)
/-- within a layer: nothing below 0, and nothing is lost -/
def odI (n : Int) (c v : Int) (σ : odT) : Prop := (∀ j, 0 ≤ j → j ≤ n → 0 ≤ σ.1 j) ∧ (∀ j, 0 ≤ j → j < n → 0 ≤ σ.2.1 j) ∧ (∀ j, 0 ≤ j → j < n → 0 ≤ σ.2.2 j ∧ σ.2.2 j ≤ v) ∧ sumTo σ.1 (n.toNat + 1) + sumTo σ.2.1 n.toNat = c
theorem odI_say {n c v : Int} {σ : odT} (h : odI n c v σ) (s x : Int) (hs : 0 ≤ s ∧ s < n) (hx : 0 ≤ x) : odI n (c + x) (v + x) (odSay σ s x) := by
  obtain ⟨h1, h2, h3, h4⟩ := h
  have a := h1 (s + 1) (by omega) (by omega)
  refine ⟨fun j j0 j1 => ?_, h2, fun j j0 j1 => ?_, ?_⟩
  · show 0 ≤ updF σ.1 (s + 1) (σ.1 (s + 1) + x) j
    unfold updF
    have := h1 j j0 j1
    split <;> omega
  · show 0 ≤ updF σ.2.2 s (σ.2.2 s + x) j ∧ updF σ.2.2 s (σ.2.2 s + x) j ≤ v + x
    unfold updF
    have := h3 j j0 j1
    have := h3 s hs.1 hs.2
    split <;> omega
  · show sumTo (updF σ.1 (s + 1) (σ.1 (s + 1) + x)) (n.toNat + 1) + sumTo σ.2.1 n.toNat = c + x
    rw [sumTo_upd _ _ _ _ (by omega)]
    omega
theorem odI_stop {n c v : Int} {σ : odT} (h : odI n c v σ) (s x : Int) (hs : 0 ≤ s ∧ s < n) (hx : 0 ≤ x) : odI n (c + x) (v + x) (odStop σ s x) := by
  obtain ⟨h1, h2, h3, h4⟩ := h
  have a := h2 s hs.1 hs.2
  refine ⟨h1, fun j j0 j1 => ?_, fun j j0 j1 => ?_, ?_⟩
  · show 0 ≤ updF σ.2.1 s (σ.2.1 s + x) j
    unfold updF
    have := h2 j j0 j1
    split <;> omega
  · have := h3 j j0 j1
    show 0 ≤ σ.2.2 j ∧ σ.2.2 j ≤ v + x
    omega
  · show sumTo σ.1 (n.toNat + 1) + sumTo (updF σ.2.1 s (σ.2.1 s + x)) n.toNat = c + x
    rw [sumTo_upd _ _ _ _ (by omega)]
    omega
theorem odI_step {n c v : Int} {fg tk to p : Int → Int} {σ : odT} (hP : odP n fg tk to) (h : odI n c v σ) (s : Int) (hs : 0 ≤ s ∧ s < n) (hp : 0 ≤ p s) : odI n (c + p s) (v + p s) (odS fg tk to p σ s) := by
  obtain ⟨f1, f2, f3⟩ := hP.2 s hs.1 hs.2
  have g := goneP_bnd hp f1 f2
  have a := odI_say h s (p s - goneP (p s) (fg s) (tk s)) hs (by omega)
  unfold odS
  split
  · have b := odI_stop a s (goneP (p s) (fg s) (tk s)) hs g.1
    rw [show c + (p s - goneP (p s) (fg s) (tk s)) + goneP (p s) (fg s) (tk s) = c + p s by omega, show v + (p s - goneP (p s) (fg s) (tk s)) + goneP (p s) (fg s) (tk s) = v + p s by omega] at b
    exact b
  · have b := odI_say a (to s) (goneP (p s) (fg s) (tk s)) (by omega) g.1
    rw [show c + (p s - goneP (p s) (fg s) (tk s)) + goneP (p s) (fg s) (tk s) = c + p s by omega, show v + (p s - goneP (p s) (fg s) (tk s)) + goneP (p s) (fg s) (tk s) = v + p s by omega] at b
    exact b
theorem odI_fold {n c v : Int} {fg tk to p S V : Int → Int} (hP : odP n fg tk to) (hp : ∀ j, 0 ≤ j → j < n → 0 ≤ p j) (hS : ∀ j, 0 ≤ j → j < n → 0 ≤ S j) (hV : ∀ j, 0 ≤ j → j < n → 0 ≤ V j ∧ V j ≤ v) (hc : sumTo S n.toNat = c) (i : Nat) (hi : i ≤ n.toNat) : odI n (c + sumTo p i) (v + sumTo p i) (odF fg tk to p S V i) := by
  induction i with
  | zero =>
    refine ⟨fun j _ _ => Int.le_refl 0, hS, fun j j0 j1 => ?_, ?_⟩
    · have := hV j j0 j1
      show 0 ≤ V j ∧ V j ≤ v + 0
      omega
    · show sumTo (fun _ => 0) (n.toNat + 1) + sumTo S n.toNat = c + 0
      rw [sumTo_0 (fun i _ _ => rfl), hc]
      omega
  | succ i ih =>
    have a := odI_step hP (ih (by omega)) (i : Int) (by omega) (hp i (by omega) (by omega))
    rw [Int.add_assoc, Int.add_assoc] at a
    exact a
/-- S only grows -/
theorem odF_S {n : Int} {fg tk to p S V : Int → Int} (hP : odP n fg tk to) (hp : ∀ j, 0 ≤ j → j < n → 0 ≤ p j) (i : Nat) (hi : i ≤ n.toNat) (j : Int) : S j ≤ (odF fg tk to p S V i).2.1 j := by
  induction i with
  | zero => exact Int.le_refl _
  | succ i ih =>
    have a := ih (by omega)
    obtain ⟨f1, f2, f3⟩ := hP.2 i (by omega) (by omega)
    have g := goneP_bnd (hp i (by omega) (by omega)) f1 f2
    show S j ≤ (odS fg tk to p (odF fg tk to p S V i) i).2.1 j
    unfold odS
    split
    · show S j ≤ updF (odF fg tk to p S V i).2.1 i ((odF fg tk to p S V i).2.1 i + goneP (p i) (fg i) (tk i)) j
      unfold updF
      split
      · rename_i e
        rw [← e]
        rw [← e] at g
        omega
      · exact a
    · exact a
def odK (n : Int) (k : Nat) (u : odU) : Prop := (∀ j, 0 ≤ j → j < n → 0 ≤ u.1 j) ∧ 0 ≤ u.2.1 ∧ (∀ j, 0 ≤ j → j < n → 0 ≤ u.2.2.1 j) ∧ (∀ j, 0 ≤ j → j < n → 0 ≤ u.2.2.2 j ∧ u.2.2.2 j ≤ 1000000000 * k) ∧ sumTo u.1 n.toNat + u.2.1 + sumTo u.2.2.1 n.toNat ≤ 1000000000
theorem odK_sum {n : Int} {k : Nat} {u : odU} (h : odK n k u) : (0 ≤ sumTo u.1 n.toNat ∧ sumTo u.1 n.toNat ≤ 1000000000) ∧ (0 ≤ u.2.1 ∧ u.2.1 ≤ 1000000000) ∧ (0 ≤ sumTo u.2.2.1 n.toNat ∧ sumTo u.2.2.1 n.toNat ≤ 1000000000) ∧ (∀ j, 0 ≤ j → j < n → u.1 j ≤ 1000000000) ∧ (∀ j, 0 ≤ j → j < n → u.2.2.1 j ≤ 1000000000) := by
  obtain ⟨h1, h2, h3, h4, h5⟩ := h
  have a := sumTo_nonneg (f := u.1) (n := n.toNat) (fun i g0 g1 => h1 i g0 (by omega))
  have b := sumTo_nonneg (f := u.2.2.1) (n := n.toNat) (fun i g0 g1 => h3 i g0 (by omega))
  refine ⟨by omega, by omega, by omega, fun j j0 j1 => ?_, fun j j0 j1 => ?_⟩
  · have := sumTo_ge (f := u.1) (n := n.toNat) (fun i g0 g1 => h1 i g0 (by omega)) j0 (by omega)
    omega
  · have := sumTo_ge (f := u.2.2.1) (n := n.toNat) (fun i g0 g1 => h3 i g0 (by omega)) j0 (by omega)
    omega
theorem odN_succ (n : Int) (fg tk to : Int → Int) (k : Nat) : odN n fg tk to (k + 1) = ((odF fg tk to (odN n fg tk to k).1 (odN n fg tk to k).2.2.1 (odN n fg tk to k).2.2.2 n.toNat).1, (odN n fg tk to k).2.1 + (odF fg tk to (odN n fg tk to k).1 (odN n fg tk to k).2.2.1 (odN n fg tk to k).2.2.2 n.toNat).1 n, (odF fg tk to (odN n fg tk to k).1 (odN n fg tk to k).2.2.1 (odN n fg tk to k).2.2.2 n.toNat).2.1, (odF fg tk to (odN n fg tk to k).1 (odN n fg tk to k).2.2.1 (odN n fg tk to k).2.2.2 n.toNat).2.2) := rfl
theorem sumTo_last (f : Int → Int) {n : Int} (h : 0 ≤ n) : sumTo f (n.toNat + 1) = sumTo f n.toNat + f n := by
  show sumTo f n.toNat + f ((n.toNat : Nat) : Int) = _
  rw [Int.toNat_of_nonneg h]
theorem odN_ok {n : Int} {fg tk to : Int → Int} (hP : odP n fg tk to) (hn : 0 < n) (k : Nat) : odK n k (odN n fg tk to k) := by
  induction k with
  | zero =>
    refine ⟨fun j _ _ => ?_, Int.le_refl 0, fun j _ _ => Int.le_refl 0, fun j _ _ => ⟨Int.le_refl 0, by show (0 : Int) ≤ 1000000000 * 0; omega⟩, ?_⟩
    · show (0 : Int) ≤ if j = 0 then 1000000000 else 0
      split <;> omega
    · show sumTo (fun s => if s = 0 then 1000000000 else 0) n.toNat + 0 + sumTo (fun _ => 0) n.toNat ≤ 1000000000
      rw [sumTo_0 (f := fun _ => 0) (fun i _ _ => rfl)]
      have := sumTo_upd (fun _ => 0) 0 1000000000 n.toNat (by omega)
      rw [sumTo_0 (f := fun _ => 0) (fun i _ _ => rfl)] at this
      have e : (fun s : Int => if s = 0 then (1000000000 : Int) else 0) = updF (fun _ => 0) 0 1000000000 := rfl
      rw [e, this]
      omega
  | succ k ih =>
    have z := odK_sum ih
    obtain ⟨h1, h2, h3, h4, h5⟩ := ih
    have a := odI_fold (c := sumTo (odN n fg tk to k).2.2.1 n.toNat) (v := 1000000000 * k) hP h1 h3 h4 rfl n.toNat (Nat.le_refl _)
    rw [odN_succ]
    obtain ⟨a1, a2, a3, a4⟩ := a
    rw [sumTo_last _ hP.1.1] at a4
    refine ⟨fun j j0 j1 => a1 j j0 (by omega), ?_, a2, fun j j0 j1 => ?_, ?_⟩
    · have := a1 n hP.1.1 (Int.le_refl _)
      show 0 ≤ (odN n fg tk to k).2.1 + (odF fg tk to (odN n fg tk to k).1 (odN n fg tk to k).2.2.1 (odN n fg tk to k).2.2.2 n.toNat).1 n
      omega
    · have := a3 j j0 j1
      show 0 ≤ (odF fg tk to (odN n fg tk to k).1 (odN n fg tk to k).2.2.1 (odN n fg tk to k).2.2.2 n.toNat).2.2 j ∧ (odF fg tk to (odN n fg tk to k).1 (odN n fg tk to k).2.2.1 (odN n fg tk to k).2.2.2 n.toNat).2.2 j ≤ 1000000000 * ((k + 1 : Nat) : Int)
      omega
    · show sumTo (odF fg tk to (odN n fg tk to k).1 (odN n fg tk to k).2.2.1 (odN n fg tk to k).2.2.2 n.toNat).1 n.toNat + ((odN n fg tk to k).2.1 + (odF fg tk to (odN n fg tk to k).1 (odN n fg tk to k).2.2.1 (odN n fg tk to k).2.2.2 n.toNat).1 n) + sumTo (odF fg tk to (odN n fg tk to k).1 (odN n fg tk to k).2.2.1 (odN n fg tk to k).2.2.2 n.toNat).2.1 n.toNat ≤ 1000000000
      omega
/-- the END's parts only grow; they and what is under way only fall -/
theorem odN_mono {n : Int} {fg tk to : Int → Int} (hP : odP n fg tk to) (hn : 0 < n) (k : Nat) : (odN n fg tk to k).2.1 ≤ (odN n fg tk to (k + 1)).2.1 ∧ (odN n fg tk to (k + 1)).2.1 + sumTo (odN n fg tk to (k + 1)).1 n.toNat ≤ (odN n fg tk to k).2.1 + sumTo (odN n fg tk to k).1 n.toNat := by
  obtain ⟨h1, h2, h3, h4, h5⟩ := odN_ok hP hn k
  have a := odI_fold (c := sumTo (odN n fg tk to k).2.2.1 n.toNat) (v := 1000000000 * k) hP h1 h3 h4 rfl n.toNat (Nat.le_refl _)
  have s := sumTo_mono (f := (odN n fg tk to k).2.2.1) (g := (odF fg tk to (odN n fg tk to k).1 (odN n fg tk to k).2.2.1 (odN n fg tk to k).2.2.2 n.toNat).2.1) (n := n.toNat) (fun i _ _ => odF_S hP h1 n.toNat (Nat.le_refl _) i)
  rw [odN_succ]
  obtain ⟨a1, a2, a3, a4⟩ := a
  rw [sumTo_last _ hP.1.1] at a4
  have := a1 n hP.1.1 (Int.le_refl _)
  constructor
  · show (odN n fg tk to k).2.1 ≤ (odN n fg tk to k).2.1 + (odF fg tk to (odN n fg tk to k).1 (odN n fg tk to k).2.2.1 (odN n fg tk to k).2.2.2 n.toNat).1 n
    omega
  · show (odN n fg tk to k).2.1 + (odF fg tk to (odN n fg tk to k).1 (odN n fg tk to k).2.2.1 (odN n fg tk to k).2.2.2 n.toNat).1 n + sumTo (odF fg tk to (odN n fg tk to k).1 (odN n fg tk to k).2.2.1 (odN n fg tk to k).2.2.2 n.toNat).1 n.toNat ≤ (odN n fg tk to k).2.1 + sumTo (odN n fg tk to k).1 n.toNat
    omega
theorem odN_later {n : Int} {fg tk to : Int → Int} (hP : odP n fg tk to) (hn : 0 < n) (k t : Nat) : (odN n fg tk to k).2.1 ≤ (odN n fg tk to (k + t)).2.1 ∧ (odN n fg tk to (k + t)).2.1 ≤ (odN n fg tk to k).2.1 + sumTo (odN n fg tk to k).1 n.toNat := by
  have h : (odN n fg tk to k).2.1 ≤ (odN n fg tk to (k + t)).2.1 ∧ (odN n fg tk to (k + t)).2.1 + sumTo (odN n fg tk to (k + t)).1 n.toNat ≤ (odN n fg tk to k).2.1 + sumTo (odN n fg tk to k).1 n.toNat := by
    induction t with
    | zero => exact ⟨Int.le_refl _, Int.le_refl _⟩
    | succ t ih =>
      have m := odN_mono hP hn (k + t)
      exact ⟨Int.le_trans ih.1 m.1, Int.le_trans m.2 ih.2⟩
  have z := (odK_sum (odN_ok hP hn (k + t))).1
  exact ⟨h.1, by omega⟩
theorem odSay_0 (σ : odT) (s : Int) : odSay σ s 0 = σ := by
  unfold odSay
  rw [updF_id, updF_id]
theorem odStop_0 (σ : odT) (s : Int) : odStop σ s 0 = σ := by
  unfold odStop
  rw [updF_id]
theorem odS_0 {fg tk to p : Int → Int} (σ : odT) {s : Int} (h : p s = 0) : odS fg tk to p σ s = σ := by
  unfold odS
  rw [h, goneP_0, show (0 : Int) - 0 = 0 from rfl, odSay_0, odStop_0, odSay_0]
  split <;> rfl
theorem odF_0 {fg tk to p S V : Int → Int} {n : Nat} (h : ∀ i : Int, 0 ≤ i → i < n → p i = 0) : odF fg tk to p S V n = (fun _ => 0, S, V) := by
  induction n with
  | zero => rfl
  | succ n ih =>
    show odS fg tk to p (odF fg tk to p S V n) n = _
    rw [odS_0 _ (h n (by omega) (by omega))]
    exact ih (fun i g0 g1 => h i g0 (by omega))
/-- with nothing under way nothing more happens -/
theorem odN_still {n : Int} {fg tk to : Int → Int} (hn : 0 < n) (k : Nat) (h : ∀ i : Int, 0 ≤ i → i < n → (odN n fg tk to k).1 i = 0) (t : Nat) : (odN n fg tk to (k + t)).2 = (odN n fg tk to k).2 ∧ ∀ i : Int, 0 ≤ i → i < n → (odN n fg tk to (k + t)).1 i = 0 := by
  induction t with
  | zero => exact ⟨rfl, h⟩
  | succ t ih =>
    have e := odF_0 (fg := fg) (tk := tk) (to := to) (S := (odN n fg tk to (k + t)).2.2.1) (V := (odN n fg tk to (k + t)).2.2.2) (n := n.toNat) (fun i g0 g1 => ih.2 i g0 (by omega))
    have q := odN_succ n fg tk to (k + t)
    rw [e] at q
    rw [show k + (t + 1) = k + t + 1 by omega, q]
    refine ⟨?_, fun i _ _ => rfl⟩
    rw [← ih.1]
    show ((odN n fg tk to (k + t)).2.1 + 0, (odN n fg tk to (k + t)).2.2.1, (odN n fg tk to (k + t)).2.2.2) = _
    rw [Int.add_zero]
theorem odN_sum0 {n : Int} {fg tk to : Int → Int} (hP : odP n fg tk to) (hn : 0 < n) (k : Nat) (h : sumTo (odN n fg tk to k).1 n.toNat ≤ 0) : ∀ i : Int, 0 ≤ i → i < n → (odN n fg tk to k).1 i = 0 := by
  have o := odN_ok hP hn k
  intro i g0 g1
  have a := sumTo_ge (f := (odN n fg tk to k).1) (n := n.toNat) (fun i g0 g1 => o.1 i g0 (by omega)) g0 (by omega)
  have b := o.1 i g0 g1
  omega
