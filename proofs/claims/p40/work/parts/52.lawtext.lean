/-! a law's text: what is read of it, as tokens, or the place of the fault -/
abbrev PR : Type := Int ⊕ (Int × List tokT)
/-- what was read wants a sign behind it -/
def closeP (C S : Int → Int) (c : Int) : PR → PR
  | .inl e => .inl e
  | .inr (q, ts) => if C (S q) = c then .inr (S q + 1, ts) else .inl (S q)
/-- one more token behind what was read -/
def notP : PR → PR
  | .inl e => .inl e
  | .inr (q, ts) => .inr (q, ts ++ [(9, 0)])
def atomP (C S : Int → Int) (o : Option (Int → PR)) (j : Int) : PR :=
  if isLet (C (S j)) then .inr (S j + 1, [(1, letS (C (S j)))])
  else if C (S j) = 91 then (match o with
    | none => .inl (S j)
    | some f => closeP C S 93 (f (S j + 1)))
  else if (numS C 4 (S j)).1 = -1 then .inl (numS C 4 (S j)).2
  else .inr ((numS C 4 (S j)).2, [(0, (numS C 4 (S j)).1)])
def loopP (C S : Int → Int) (ops : Int → Option Int) (f : Int → PR) : Nat → Int → List tokT → PR
  | 0, j, ts => .inr (S j, ts)
  | k + 1, j, ts => match ops (C (S j)) with
    | none => .inr (S j, ts)
    | some op => match f (S j + 1) with
      | .inl e => .inl e
      | .inr (q, us) => loopP C S ops f k q (ts ++ us ++ [(op, 0)])
def chainP (C S : Int → Int) (ops : Int → Option Int) (f : Int → PR) (j : Int) : PR := match f j with
  | .inl e => .inl e
  | .inr (q, ts) => loopP C S ops f 200 q ts
def opT (c : Int) : Option Int := if c = 42 then some 4 else if c = 47 then some 5 else none
def opS (c : Int) : Option Int := if c = 43 then some 2 else if c = 45 then some 3 else none
def opA (c : Int) : Option Int := if c = 38 then some 10 else none
def opO (c : Int) : Option Int := if c = 124 then some 11 else none
def opC (c : Int) : Option Int := if c = 61 then some 6 else if c = 60 then some 7 else if c = 62 then some 8 else none
def cmpP (C S : Int → Int) (sum : Int → PR) (q : Int) (ts : List tokT) : PR := match opC (C (S q)) with
  | none => .inl (S q)
  | some op => match sum (S q + 1) with
    | .inl e => .inl e
    | .inr (t, us) => .inr (t, ts ++ us ++ [(op, 0)])
def unitP (C S : Int → Int) (sum : Int → PR) (o : Option ((Int → PR) × (Int → PR))) (j : Int) : PR :=
  if C (S j) = 33 then (match o with
    | none => .inl (S j)
    | some f => notP (f.1 (S j + 1)))
  else if C (S j) = 40 then (match o with
    | none => .inl (S j)
    | some f => closeP C S 41 (f.2 (S j + 1)))
  else match sum (S j) with
    | .inl e => .inl e
    | .inr (q, ts) => cmpP C S sum q ts
def termO (C S : Int → Int) (o : Option (Int → PR)) : Int → PR := chainP C S opT (atomP C S o)
def sumO (C S : Int → Int) (o : Option (Int → PR)) : Int → PR := chainP C S opS (termO C S o)
/-- r: how many levels deeper one may go -/
def sumL (C S : Int → Int) : Nat → Int → PR
  | 0 => sumO C S none
  | r + 1 => sumO C S (some (sumL C S r))
def nestS (C S : Int → Int) : Nat → Option (Int → PR)
  | 0 => none
  | r + 1 => some (sumL C S r)
theorem sumL_eq (C S : Int → Int) (r : Nat) : sumL C S r = sumO C S (nestS C S r) := by
  cases r <;> rfl
def truthO (C S : Int → Int) (u : Int → PR) : Int → PR := chainP C S opA u
def condO (C S : Int → Int) (u : Int → PR) : Int → PR := chainP C S opO (truthO C S u)
def unitL (C S : Int → Int) : Nat → Int → PR
  | 0 => unitP C S (sumL C S 0) none
  | r + 1 => unitP C S (sumL C S (r + 1)) (some (unitL C S r, condO C S (unitL C S r)))
def nestU (C S : Int → Int) : Nat → Option ((Int → PR) × (Int → PR))
  | 0 => none
  | r + 1 => some (unitL C S r, condO C S (unitL C S r))
theorem unitL_eq (C S : Int → Int) (r : Nat) : unitL C S r = unitP C S (sumL C S r) (nestU C S r) := by
  cases r <;> rfl
def behP (C S : Int → Int) (q : Int) (ts : List tokT) : Int ⊕ (Int × List tokT × List tokT) :=
  if ¬ C (S q) = 63 then .inl (S q) else match sumL C S 6 (S q + 1) with
    | .inl e => .inl e
    | .inr (t, us) => .inr (t, ts, us)
def onP (C S : Int → Int) (q : Int) (ts : List tokT) : PR := match loopP C S opA (unitL C S 6) 200 q ts with
  | .inl e => .inl e
  | .inr (t, us) => loopP C S opO (truthO C S (unitL C S 6)) 200 t us
def clauseP (C S : Int → Int) (j : Int) : Int ⊕ (Int × List tokT × List tokT) :=
  if ¬ C (S j) = 121 then .inl (S j)
  else if ¬ C (S (S j + 1)) = 58 then .inl (S (S j + 1))
  else if C (S (S (S j + 1) + 1)) = 33 ∨ C (S (S (S j + 1) + 1)) = 40 then (match condO C S (unitL C S 6) (S (S (S j + 1) + 1)) with
    | .inl e => .inl e
    | .inr (q, ts) => behP C S q ts)
  else match sumL C S 6 (S (S (S j + 1) + 1)) with
    | .inl e => .inl e
    | .inr (q, ts) => if opC (C (S q)) = none then .inr (S q, [], ts) else match cmpP C S (sumL C S 6) q ts with
      | .inl e => .inl e
      | .inr (t, us) => match onP C S t us with
        | .inl e => .inl e
        | .inr (w, vs) => behP C S w vs
def lawP (C S : Int → Int) : Nat → Int → Int ⊕ lawT
  | 0, _ => .inr []
  | k + 1, j => match clauseP C S j with
    | .inl e => .inl e
    | .inr (q, ts, us) => if C (S q) = 59 then (match lawP C S k (S q + 1) with
        | .inl e => .inl e
        | .inr cl => .inr ((ts, us) :: cl))
      else if C (S q) = 0 then .inr [(ts, us)] else .inl (S q)
/-- what is read lies within the text, and has no more tokens than bytes -/
def gdR (n j : Int) (r : PR) : Prop := (∀ e, r = .inl e → 0 ≤ e ∧ e ≤ n) ∧ ∀ q ts, r = .inr (q, ts) → j < q ∧ q ≤ n ∧ (ts.length : Int) ≤ q - j ∧ 1 ≤ ts.length
def goodP (n : Int) (f : Int → PR) : Prop := ∀ j, 0 ≤ j → j ≤ n → gdR n j (f j)
theorem gdR_inl {n j e : Int} (h : 0 ≤ e ∧ e ≤ n) : gdR n j (.inl e) := ⟨fun _ q => (by cases q; exact h), fun _ _ q => (by cases q)⟩
theorem gdR_inr {n j q : Int} {ts : List tokT} (h : j < q ∧ q ≤ n ∧ (ts.length : Int) ≤ q - j ∧ 1 ≤ ts.length) : gdR n j (.inr (q, ts)) := ⟨fun _ q => (by cases q), fun _ _ q => (by cases q; exact h)⟩
/-- a tape's reader: the byte at a place, and the next place that is no blank -/
def tapP (C S : Int → Int) (n : Int) : Prop := (∀ i, 0 < C i → i < n) ∧ (∀ i, i ≤ S i) ∧ (∀ i, i ≤ n → S i ≤ n) ∧ ∀ i, S (S i) = S i
theorem tapP_T (T : Int → Int) (n : Int) : tapP (chT T n) (skT T n) n := ⟨fun _ h => chT_in h, skT_ge T n, fun _ h => skT_le h, skT_sk T n⟩
theorem isLet_pos {c : Int} (h : isLet c) : 0 < c := by
  unfold isLet at h
  omega
theorem opT_pos {c op : Int} (h : opT c = some op) : 0 < c ∧ 2 ≤ op ∧ op ≤ 5 := by
  unfold opT at h
  split at h
  · cases h
    omega
  · split at h
    · cases h
      omega
    · cases h
theorem opS_pos {c op : Int} (h : opS c = some op) : 0 < c ∧ 2 ≤ op ∧ op ≤ 5 := by
  unfold opS at h
  split at h
  · cases h
    omega
  · split at h
    · cases h
      omega
    · cases h
theorem opA_pos {c op : Int} (h : opA c = some op) : 0 < c ∧ op = 10 := by
  unfold opA at h
  split at h
  · cases h
    omega
  · cases h
theorem opO_pos {c op : Int} (h : opO c = some op) : 0 < c ∧ op = 11 := by
  unfold opO at h
  split at h
  · cases h
    omega
  · cases h
theorem opC_pos {c op : Int} (h : opC c = some op) : 0 < c ∧ 6 ≤ op ∧ op ≤ 8 := by
  unfold opC at h
  split at h
  · cases h
    omega
  · split at h
    · cases h
      omega
    · split at h
      · cases h
        omega
      · cases h
theorem good_loop {C S : Int → Int} {n : Int} (ht : tapP C S n) {ops : Int → Option Int} (ho : ∀ c op, ops c = some op → 0 < c) {f : Int → PR} (hf : goodP n f) : ∀ (k : Nat) (j : Int) (ts : List tokT), 0 ≤ j → j ≤ n → (∀ e, loopP C S ops f k j ts = .inl e → 0 ≤ e ∧ e ≤ n) ∧ ∀ q us, loopP C S ops f k j ts = .inr (q, us) → j ≤ q ∧ q ≤ n ∧ (us.length : Int) ≤ q - j + ts.length ∧ ts.length ≤ us.length := by
  intro k
  induction k with
  | zero =>
    intro j ts j0 j1
    have a := ht.2.1 j
    have b := ht.2.2.1 j j1
    refine ⟨fun e h => (by cases h), fun q us h => ?_⟩
    cases h
    omega
  | succ k ih =>
    intro j ts j0 j1
    have a := ht.2.1 j
    have b := ht.2.2.1 j j1
    unfold loopP
    cases hop : ops (C (S j)) with
    | none =>
      refine ⟨fun e h => (by cases h), fun q us h => ?_⟩
      cases h
      omega
    | some op =>
      have c := ht.1 (S j) (ho _ _ hop)
      have g := hf (S j + 1) (by omega) (by omega)
      cases hfj : f (S j + 1) with
      | inl e =>
        refine ⟨fun e' h => ?_, fun q us h => (by cases h)⟩
        cases h
        exact g.1 e hfj
      | inr x =>
        obtain ⟨q, us⟩ := x
        have g2 := g.2 q us hfj
        have i := ih q (ts ++ us ++ [(op, 0)]) (by omega) (by omega)
        refine ⟨i.1, fun q' us' h => ?_⟩
        have i2 := i.2 q' us' h
        rw [List.length_append, List.length_append, List.length_singleton] at i2
        omega
theorem good_chain {C S : Int → Int} {n : Int} (ht : tapP C S n) {ops : Int → Option Int} (ho : ∀ c op, ops c = some op → 0 < c) {f : Int → PR} (hf : goodP n f) : goodP n (chainP C S ops f) := by
  intro j j0 j1
  have g := hf j j0 j1
  unfold chainP
  cases hfj : f j with
  | inl e =>
    refine ⟨fun e' h => ?_, fun q us h => (by cases h)⟩
    cases h
    exact g.1 e hfj
  | inr x =>
    obtain ⟨q, us⟩ := x
    have g2 := g.2 q us hfj
    have l := good_loop ht ho hf 200 q us (by omega) (by omega)
    refine ⟨l.1, fun q' us' h => ?_⟩
    have := l.2 q' us' h
    omega
theorem gd_close {C S : Int → Int} {n j i c : Int} (ht : tapP C S n) (hc : 0 < c) (j0 : 0 ≤ j) {r : PR} (h : gdR n j r) (hi : i ≤ j) : gdR n i (closeP C S c r) := by
  cases r with
  | inl e => exact gdR_inl (h.1 e rfl)
  | inr x =>
    obtain ⟨q, ts⟩ := x
    have g := h.2 q ts rfl
    have sq := ht.2.1 q
    have sq2 := ht.2.2.1 q g.2.1
    show gdR n i (if C (S q) = c then .inr (S q + 1, ts) else .inl (S q))
    by_cases z : C (S q) = c
    · rw [if_pos z]
      have l := ht.1 (S q) (by omega)
      exact gdR_inr (by omega)
    · rw [if_neg z]
      exact gdR_inl (by omega)
theorem gd_not {n j i : Int} {r : PR} (h : gdR n j r) (hi : i < j) : gdR n i (notP r) := by
  cases r with
  | inl e => exact gdR_inl (h.1 e rfl)
  | inr x =>
    obtain ⟨q, ts⟩ := x
    have g := h.2 q ts rfl
    show gdR n i (.inr (q, ts ++ [(9, 0)]))
    refine gdR_inr ?_
    rw [List.length_append, List.length_singleton]
    omega
theorem good_atom {C S : Int → Int} {n : Int} (ht : tapP C S n) {o : Option (Int → PR)} (ho : ∀ f, o = some f → goodP n f) : goodP n (atomP C S o) := by
  intro j j0 j1
  have a := ht.2.1 j
  have b := ht.2.2.1 j j1
  unfold atomP
  by_cases hl : isLet (C (S j))
  · rw [if_pos hl]
    have c := ht.1 (S j) (isLet_pos hl)
    exact gdR_inr ⟨by omega, by omega, by show ((1 : Nat) : Int) ≤ _; omega, Nat.le_refl _⟩
  · rw [if_neg hl]
    by_cases hn : C (S j) = 91
    · rw [if_pos hn]
      have c := ht.1 (S j) (by omega)
      cases o with
      | none => exact gdR_inl (by omega)
      | some f => exact gd_close ht (by decide) (show 0 ≤ S j + 1 by omega) (ho f rfl (S j + 1) (by omega) (by omega)) (by omega)
    · rw [if_neg hn]
      have nb := numS_bnd (C := C) (n := n) ht.1 4 (S j) b
      by_cases h1 : (numS C 4 (S j)).1 = -1
      · rw [if_pos h1]
        exact gdR_inl (by omega)
      · rw [if_neg h1]
        have ad : S j < (numS C 4 (S j)).2 := numS_adv (C := C) (k := 3) h1
        exact gdR_inr ⟨by omega, by omega, by show ((1 : Nat) : Int) ≤ _; omega, Nat.le_refl _⟩
theorem good_sumO {C S : Int → Int} {n : Int} (ht : tapP C S n) {o : Option (Int → PR)} (ho : ∀ f, o = some f → goodP n f) : goodP n (sumO C S o) := good_chain ht (fun _ _ h => (opS_pos h).1) (good_chain ht (fun _ _ h => (opT_pos h).1) (good_atom ht ho))
theorem good_sum {C S : Int → Int} {n : Int} (ht : tapP C S n) : ∀ r, goodP n (sumL C S r) := by
  intro r
  induction r with
  | zero => exact good_sumO ht (fun f h => by cases h)
  | succ r ih => exact good_sumO ht (fun f h => by cases h; exact ih)
theorem gd_cmp {C S : Int → Int} {n i q : Int} (ht : tapP C S n) {f : Int → PR} (hf : goodP n f) {ts : List tokT} (i0 : 0 ≤ i) (h : i < q ∧ q ≤ n ∧ (ts.length : Int) ≤ q - i ∧ 1 ≤ ts.length) : gdR n i (cmpP C S f q ts) := by
  have sq := ht.2.1 q
  have sq2 := ht.2.2.1 q h.2.1
  unfold cmpP
  cases hop : opC (C (S q)) with
  | none => exact gdR_inl (by omega)
  | some op =>
    have l := ht.1 (S q) (opC_pos hop).1
    have g := hf (S q + 1) (by omega) (by omega)
    cases hfj : f (S q + 1) with
    | inl e => exact gdR_inl (g.1 e hfj)
    | inr x =>
      obtain ⟨t, us⟩ := x
      have g2 := g.2 t us hfj
      refine gdR_inr ?_
      rw [List.length_append, List.length_append, List.length_singleton]
      omega
theorem good_unit {C S : Int → Int} {n : Int} (ht : tapP C S n) {f : Int → PR} (hf : goodP n f) {o : Option ((Int → PR) × (Int → PR))} (ho : ∀ g, o = some g → goodP n g.1 ∧ goodP n g.2) : goodP n (unitP C S f o) := by
  intro j j0 j1
  have a := ht.2.1 j
  have b := ht.2.2.1 j j1
  unfold unitP
  by_cases h33 : C (S j) = 33
  · rw [if_pos h33]
    have c := ht.1 (S j) (by omega)
    cases o with
    | none => exact gdR_inl (by omega)
    | some g => exact gd_not ((ho g rfl).1 (S j + 1) (by omega) (by omega)) (by omega)
  · rw [if_neg h33]
    by_cases h40 : C (S j) = 40
    · rw [if_pos h40]
      have c := ht.1 (S j) (by omega)
      cases o with
      | none => exact gdR_inl (by omega)
      | some g => exact gd_close ht (by decide) (show 0 ≤ S j + 1 by omega) ((ho g rfl).2 (S j + 1) (by omega) (by omega)) (by omega)
    · rw [if_neg h40]
      have g := hf (S j) (by omega) b
      cases hfj : f (S j) with
      | inl e => exact gdR_inl (g.1 e hfj)
      | inr x =>
        obtain ⟨q, ts⟩ := x
        have g2 := g.2 q ts hfj
        exact gd_cmp ht hf j0 (by omega)
theorem good_cond {C S : Int → Int} {n : Int} (ht : tapP C S n) {u : Int → PR} (hu : goodP n u) : goodP n (condO C S u) := good_chain ht (fun _ _ h => (opO_pos h).1) (good_chain ht (fun _ _ h => (opA_pos h).1) hu)
theorem good_unitL {C S : Int → Int} {n : Int} (ht : tapP C S n) : ∀ r, goodP n (unitL C S r) := by
  intro r
  induction r with
  | zero => exact good_unit ht (good_sum ht 0) (fun g h => by cases h)
  | succ r ih => exact good_unit ht (good_sum ht (r + 1)) (fun g h => by cases h; exact ⟨ih, good_cond ht ih⟩)
