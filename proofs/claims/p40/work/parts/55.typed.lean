/-! what is read of a law is typed -/
def typT (h : Nat) (b : Bool) (ts : List tokT) : Prop := ∀ (o : Bool) (ty : List Bool) (rest : List tokT), ty.length + h ≤ 64 → wfX o (b :: ty) rest → wfX o ty (ts ++ rest)
def typP (h : Nat) (b : Bool) (f : Int → PR) : Prop := ∀ j q ts, f j = .inr (q, ts) → typT h b ts
theorem typT_mono {h h' : Nat} {b : Bool} {ts : List tokT} (H : typT h b ts) (hh : h ≤ h') : typT h' b ts := fun o ty rest l w => H o ty rest (by omega) w
def opB (b : Bool) (op : Int) : Prop := if b then op = 10 ∨ op = 11 else 2 ≤ op ∧ op ≤ 5
theorem wfX_op {o b : Bool} {op : Int} {ty : List Bool} {rest : List tokT} (h : opB b op) (w : wfX o (b :: ty) rest) : wfX o (b :: b :: ty) ((op, 0) :: rest) := by
  unfold wfX
  cases b with
  | false =>
    have h' : 2 ≤ op ∧ op ≤ 5 := h
    rw [if_neg (show ¬ op = 0 by omega), if_neg (show ¬ op = 1 by omega), if_neg (show ¬ op = 9 by omega), if_neg (show ¬ (op = 10 ∨ op = 11) by omega), if_neg (show ¬ (6 ≤ op ∧ op ≤ 8) by omega)]
    exact ⟨h', ty, rfl, w⟩
  | true =>
    have h' : op = 10 ∨ op = 11 := h
    rw [if_neg (show ¬ op = 0 by omega), if_neg (show ¬ op = 1 by omega), if_neg (show ¬ op = 9 by omega), if_pos h']
    exact ⟨ty, rfl, w⟩
theorem typ_loop {C S : Int → Int} {ops : Int → Option Int} {f : Int → PR} {h : Nat} {b : Bool} (ho : ∀ c op, ops c = some op → opB b op) (hf : typP h b f) : ∀ (k : Nat) (j : Int) (ts : List tokT) {q : Int} {us : List tokT}, typT (h + 1) b ts → loopP C S ops f k j ts = .inr (q, us) → typT (h + 1) b us := by
  intro k
  induction k with
  | zero =>
    intro j ts q us H e
    cases e
    exact H
  | succ k ih =>
    intro j ts q us H e
    cases hop : ops (C (S j)) with
    | none =>
      rw [loopP_no hop] at e
      cases e
      exact H
    | some op =>
      cases hfj : f (S j + 1) with
      | inl z =>
        rw [loopP_bad hop hfj] at e
        cases e
      | inr x =>
        obtain ⟨t, vs⟩ := x
        rw [loopP_yes hop hfj] at e
        refine ih t _ (fun o ty rest l w => ?_) e
        have e1 : ts ++ vs ++ [(op, 0)] ++ rest = ts ++ (vs ++ ((op, 0) :: rest)) := by
          rw [List.append_assoc, List.append_assoc]
          rfl
        rw [e1]
        refine H o ty _ l (hf _ _ _ hfj o (b :: ty) _ ?_ (wfX_op (ho _ _ hop) w))
        show ty.length + 1 + h ≤ 64
        omega
theorem typ_chain {C S : Int → Int} {ops : Int → Option Int} {f : Int → PR} {h : Nat} {b : Bool} (ho : ∀ c op, ops c = some op → opB b op) (hf : typP h b f) : typP (h + 1) b (chainP C S ops f) := by
  intro j q ts e
  cases hfj : f j with
  | inl z =>
    rw [chainP_bad hfj] at e
    cases e
  | inr x =>
    obtain ⟨t, vs⟩ := x
    rw [chainP_yes hfj] at e
    exact typ_loop ho hf 200 t vs (typT_mono (hf _ _ _ hfj) (by omega)) e
theorem typ_close {C S : Int → Int} {c : Int} {h : Nat} {b : Bool} {r : PR} {q : Int} {ts : List tokT} (hr : ∀ q ts, r = .inr (q, ts) → typT h b ts) (e : closeP C S c r = .inr (q, ts)) : typT h b ts := by
  cases r with
  | inl z => cases e
  | inr x =>
    obtain ⟨t, vs⟩ := x
    have e' : (if C (S t) = c then (Sum.inr (S t + 1, vs) : PR) else Sum.inl (S t)) = .inr (q, ts) := e
    by_cases z : C (S t) = c
    · rw [if_pos z] at e'
      cases e'
      exact hr _ _ rfl
    · rw [if_neg z] at e'
      cases e'
theorem typ_atom {C S : Int → Int} {o : Option (Int → PR)} {h : Nat} (h1 : 1 ≤ h) (ho : ∀ f, o = some f → typP h false f) : typP h false (atomP C S o) := by
  intro j q ts e
  unfold atomP at e
  by_cases hl : isLet (C (S j))
  · rw [if_pos hl] at e
    cases e
    intro o' ty rest l w
    have lt := leF_letS hl
    show wfX o' ty ((1, letS (C (S j))) :: rest)
    unfold wfX
    rw [if_neg (show ¬ (1 : Int) = 0 by decide), if_pos rfl]
    exact ⟨by omega, lt.2, w⟩
  · rw [if_neg hl] at e
    by_cases hn : C (S j) = 91
    · rw [if_pos hn] at e
      cases o with
      | none => cases e
      | some f => exact typ_close (fun q ts z => ho f rfl _ q ts z) e
    · rw [if_neg hn] at e
      by_cases hm : (numS C 4 (S j)).1 = -1
      · rw [if_pos hm] at e
        cases e
      · rw [if_neg hm] at e
        cases e
        have nt := num4_top C (S j)
        intro o' ty rest l w
        show wfX o' ty ((0, (numS C 4 (S j)).1) :: rest)
        unfold wfX
        rw [if_pos rfl]
        exact ⟨by omega, ⟨by show 0 ≤ (numS C 4 (S j)).1; omega, by show (numS C 4 (S j)).1 ≤ 1000000; omega⟩, w⟩
theorem typ_sumO {C S : Int → Int} {o : Option (Int → PR)} {h : Nat} (h1 : 1 ≤ h) (ho : ∀ f, o = some f → typP h false f) : typP (h + 2) false (sumO C S o) := typ_chain (fun _ _ z => (opS_pos z).2) (typ_chain (fun _ _ z => (opT_pos z).2) (typ_atom h1 ho))
theorem typ_sum (C S : Int → Int) : ∀ r, typP (2 * r + 3) false (sumL C S r) := by
  intro r
  induction r with
  | zero => exact typ_sumO (h := 1) (by decide) (fun f z => by cases z)
  | succ r ih => exact typ_sumO (h := 2 * r + 3) (by omega) (fun f z => by cases z; exact ih)
theorem typ_cmp {C S : Int → Int} {f : Int → PR} {h : Nat} (hf : typP h false f) {q t : Int} {ts us : List tokT} (H : typT (h + 1) false ts) (e : cmpP C S f q ts = .inr (t, us)) : typT (h + 1) true us := by
  cases hop : opC (C (S q)) with
  | none =>
    rw [cmpP_no hop] at e
    cases e
  | some op =>
    cases hfj : f (S q + 1) with
    | inl z =>
      rw [cmpP_bad hop hfj] at e
      cases e
    | inr x =>
      obtain ⟨w, vs⟩ := x
      rw [cmpP_yes hop hfj] at e
      cases e
      intro o ty rest l wf
      have e1 : ts ++ vs ++ [(op, 0)] ++ rest = ts ++ (vs ++ ((op, 0) :: rest)) := by
        rw [List.append_assoc, List.append_assoc]
        rfl
      rw [e1]
      refine H o ty _ l (hf _ _ _ hfj o (false :: ty) _ (by show ty.length + 1 + h ≤ 64; omega) ?_)
      have p := (opC_pos hop).2
      unfold wfX
      rw [if_neg (show ¬ op = 0 by omega), if_neg (show ¬ op = 1 by omega), if_neg (show ¬ op = 9 by omega), if_neg (show ¬ (op = 10 ∨ op = 11) by omega), if_pos (show 6 ≤ op ∧ op ≤ 8 by omega)]
      exact ⟨ty, rfl, wf⟩
theorem typ_not {h : Nat} {r : PR} {q : Int} {ts : List tokT} (hr : ∀ q ts, r = .inr (q, ts) → typT h true ts) (e : notP r = .inr (q, ts)) : typT h true ts := by
  cases r with
  | inl z => cases e
  | inr x =>
    obtain ⟨t, vs⟩ := x
    cases e
    intro o ty rest l w
    have e1 : vs ++ [(9, 0)] ++ rest = vs ++ (((9, 0) : tokT) :: rest) := by
      rw [List.append_assoc]
      rfl
    rw [e1]
    refine hr _ _ rfl o ty _ l ?_
    unfold wfX
    rw [if_neg (show ¬ (9 : Int) = 0 by decide), if_neg (show ¬ (9 : Int) = 1 by decide), if_pos rfl]
    exact ⟨⟨ty, rfl⟩, w⟩
theorem typ_unit {C S : Int → Int} {f : Int → PR} {o : Option ((Int → PR) × (Int → PR))} {h : Nat} (hf : typP h false f) (ho : ∀ g, o = some g → typP (h + 1) true g.1 ∧ typP (h + 1) true g.2) : typP (h + 1) true (unitP C S f o) := by
  intro j q ts e
  unfold unitP at e
  by_cases h33 : C (S j) = 33
  · rw [if_pos h33] at e
    cases o with
    | none => cases e
    | some g => exact typ_not (fun q ts z => (ho g rfl).1 _ q ts z) e
  · rw [if_neg h33] at e
    by_cases h40 : C (S j) = 40
    · rw [if_pos h40] at e
      cases o with
      | none => cases e
      | some g => exact typ_close (fun q ts z => (ho g rfl).2 _ q ts z) e
    · rw [if_neg h40] at e
      cases hfj : f (S j) with
      | inl z =>
        rw [hfj] at e
        cases e
      | inr x =>
        obtain ⟨t, vs⟩ := x
        rw [hfj] at e
        exact typ_cmp hf (typT_mono (hf _ _ _ hfj) (by omega)) e
theorem typ_cond {C S : Int → Int} {u : Int → PR} {h : Nat} (hu : typP h true u) : typP (h + 2) true (condO C S u) := typ_chain (fun _ _ z => Or.inr (opO_pos z).2) (typ_chain (fun _ _ z => Or.inl (opA_pos z).2) hu)
theorem typP_mono {h h' : Nat} {b : Bool} {f : Int → PR} (H : typP h b f) (hh : h ≤ h') : typP h' b f := fun j q ts e => typT_mono (H j q ts e) hh
theorem typ_unitL (C S : Int → Int) : ∀ r, typP (2 * r + 4) true (unitL C S r) := by
  intro r
  induction r with
  | zero => exact typ_unit (typ_sum C S 0) (fun g z => by cases z)
  | succ r ih =>
    exact typ_unit (h := 2 * (r + 1) + 3) (typ_sum C S (r + 1)) (fun g z => by
      cases z
      exact ⟨typP_mono ih (by omega), typP_mono (typ_cond ih) (by omega)⟩)
theorem wfX_of {h : Nat} {b : Bool} {ts : List tokT} (H : typT h b ts) (hh : h ≤ 64) : wfX b [] ts := by
  have := H b [] [] (by show 0 + h ≤ 64; omega) rfl
  rw [List.append_nil] at this
  exact this
/-! a clause -/
def preT (ts : List tokT) : PR → PR
  | .inl e => .inl e
  | .inr (q, us) => .inr (q, ts ++ us)
theorem loopP_pre (C S : Int → Int) (ops : Int → Option Int) (f : Int → PR) (ts : List tokT) : ∀ (k : Nat) (j : Int) (vs : List tokT), loopP C S ops f k j (ts ++ vs) = preT ts (loopP C S ops f k j vs) := by
  intro k
  induction k with
  | zero => exact fun _ _ => rfl
  | succ k ih =>
    intro j vs
    cases hop : ops (C (S j)) with
    | none =>
      rw [loopP_no hop, loopP_no hop]
      rfl
    | some op =>
      cases hfj : f (S j + 1) with
      | inl z =>
        rw [loopP_bad hop hfj, loopP_bad hop hfj]
        rfl
      | inr x =>
        obtain ⟨t, us⟩ := x
        rw [loopP_yes hop hfj, loopP_yes hop hfj, ← ih]
        congr 1
        simp only [List.append_assoc]
theorem cmpP_pre (C S : Int → Int) (f : Int → PR) (q : Int) (ts : List tokT) : cmpP C S f q ts = preT ts (cmpP C S f q []) := by
  cases hop : opC (C (S q)) with
  | none =>
    rw [cmpP_no hop, cmpP_no hop]
    rfl
  | some op =>
    cases hfj : f (S q + 1) with
    | inl z =>
      rw [cmpP_bad hop hfj, cmpP_bad hop hfj]
      rfl
    | inr x =>
      obtain ⟨t, us⟩ := x
      rw [cmpP_yes hop hfj, cmpP_yes hop hfj]
      show _ = Sum.inr (t, ts ++ ([] ++ us ++ [(op, 0)]))
      rw [List.nil_append, List.append_assoc]
theorem goP_pre (C S : Int → Int) (ops : Int → Option Int) (f : Int → PR) (ts : List tokT) (r : PR) : goP C S ops f (preT ts r) = preT ts (goP C S ops f r) := by
  cases r with
  | inl e => rfl
  | inr x =>
    obtain ⟨q, us⟩ := x
    exact loopP_pre C S ops f ts 200 q us
def clR : Type := Int ⊕ (Int × List tokT × List tokT)
def bindP (r : PR) (k : Int → List tokT → Int ⊕ (Int × List tokT × List tokT)) : Int ⊕ (Int × List tokT × List tokT) := match r with
  | .inl e => .inl e
  | .inr (q, ts) => k q ts
theorem clauseP_1 {C S : Int → Int} {j : Int} (h : ¬ C (S j) = 121) : clauseP C S j = .inl (S j) := if_pos h
theorem clauseP_2 {C S : Int → Int} {j : Int} (h : C (S j) = 121) (h2 : ¬ C (S (S j + 1)) = 58) : clauseP C S j = .inl (S (S j + 1)) := (if_neg (fun z => z h)).trans (if_pos h2)
theorem clauseP_c {C S : Int → Int} {j : Int} (h : C (S j) = 121) (h2 : C (S (S j + 1)) = 58) (h3 : C (S (S (S j + 1) + 1)) = 33 ∨ C (S (S (S j + 1) + 1)) = 40) : clauseP C S j = bindP (condO C S (unitL C S 6) (S (S (S j + 1) + 1))) (behP C S) := by
  unfold clauseP
  rw [if_neg (fun z => z h), if_neg (fun z => z h2), if_pos h3]
  rfl
theorem clauseP_s {C S : Int → Int} {j : Int} (h : C (S j) = 121) (h2 : C (S (S j + 1)) = 58) (h3 : ¬ (C (S (S (S j + 1) + 1)) = 33 ∨ C (S (S (S j + 1) + 1)) = 40)) : clauseP C S j = bindP (sumL C S 6 (S (S (S j + 1) + 1))) (fun q ts => if opC (C (S q)) = none then .inr (S q, [], ts) else bindP (preT ts (cond1 C S 6 1 q)) (behP C S)) := by
  unfold clauseP
  rw [if_neg (fun z => z h), if_neg (fun z => z h2), if_neg h3]
  cases sumL C S 6 (S (S (S j + 1) + 1)) with
  | inl e => rfl
  | inr x =>
    obtain ⟨q, ts⟩ := x
    show (if opC (C (S q)) = none then _ else _) = (if opC (C (S q)) = none then _ else _)
    by_cases z : opC (C (S q)) = none
    · rw [if_pos z, if_pos z]
    · rw [if_neg z, if_neg z, cmpP_pre]
      have ec : cond1 C S 6 1 q = goP C S opO (truthO C S (unitL C S 6)) (goP C S opA (unitL C S 6) (cmpP C S (sumL C S 6) q [])) := rfl
      rw [ec]
      cases cmpP C S (sumL C S 6) q [] with
      | inl e => rfl
      | inr y =>
        obtain ⟨t, us⟩ := y
        show (match onP C S t (ts ++ us) with | .inl e => _ | .inr (w, vs) => _) = bindP (preT ts (goP C S opO (truthO C S (unitL C S 6)) (loopP C S opA (unitL C S 6) 200 t us))) (behP C S)
        have eo : onP C S t (ts ++ us) = preT ts (goP C S opO (truthO C S (unitL C S 6)) (loopP C S opA (unitL C S 6) 200 t us)) := by
          rw [← goP_pre, ← loopP_pre]
          unfold onP
          cases loopP C S opA (unitL C S 6) 200 t (ts ++ us) with
          | inl e => rfl
          | inr v => rfl
        rw [eo]
        rfl
