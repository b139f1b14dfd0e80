/-! what the JDK's methods over texts answer: the words for it -/
theorem mmT.wk {B : mmB} {d kc ks kc' ks' : Nat} {Q : mmQ} {pc : Nat} {lc st : List mmV} {sh : mmS} {mem : mmM} (h : mmT B d kc ks Q pc lc st sh mem) (h1 : kc ≤ kc') (h2 : ks ≤ ks') : mmT B d kc' ks' Q pc lc st sh mem :=
  fun p l e R s m args below meth c G H locs cells slots ls X => h p l e R s m args below meth c G H locs cells slots ls ⟨X.1, X.2.1, X.2.2.1, X.2.2.2.1, X.2.2.2.2.1, Nat.le_trans (Nat.add_le_add_left h1 _) X.2.2.2.2.2.1, Nat.le_trans (Nat.add_le_add_left h2 _) X.2.2.2.2.2.2.1, X.2.2.2.2.2.2.2⟩
theorem shr32_n0 {x : Int} (hx : R32 x) : shr32 x 0 = x := by
  show (Int32.ofInt x >>> ((0 : Int32) &&& 31)).toInt = x
  rw [sb_shr0, w32_toInt, w32_id hx.1 hx.2]
theorem shl32_n0 {x : Int} (hx : R32 x) : shl32 x 0 = x := by
  show (Int32.ofInt x <<< ((0 : Int32) &&& 31)).toInt = x
  rw [sb_shl0, w32_toInt, w32_id hx.1 hx.2]
def rI (sh : mmS) (mem : mmM) (x : Int) : mmQ := fun r sh' m' => r = some (0, x) ∧ sh' = sh ∧ m' = mem
def rN (sh : mmS) (mem : mmM) : mmQ := fun r sh' m' => r = none ∧ sh' = sh ∧ m' = mem
def catT (t : Int → Int) (n : Nat) (u : Int → Int) : Int → Int := fun j => if j < n then t j else u (j - n)
theorem catT_lo {t u : Int → Int} {n : Nat} {j : Int} (h : j < n) : catT t n u j = t j := if_pos h
theorem catT_hi {t u : Int → Int} {n : Nat} {j : Int} (h : ¬ j < n) : catT t n u j = u (j - n) := if_neg h
theorem char_nar_all : ∀ n, n < 256 → narrow .char (.int (Int32.ofInt (n : Nat))) = .int (Int32.ofInt (n : Nat)) := by decide +kernel
theorem char_nar {x : Int} (h : 0 ≤ x ∧ x ≤ 255) : narrow .char (.int (Int32.ofInt x)) = .int (Int32.ofInt x) := by
  have h2 := char_nar_all x.toNat (by omega)
  rwa [Int.toNat_of_nonneg h.1] at h2
theorem mmCat_le (st : List mmV) : mmCat st ≤ 2 * st.length := by
  unfold mmCat
  induction st with
  | nil => exact Nat.le_refl _
  | cons v st ih =>
    rw [List.map_cons, List.sum_cons, List.length_cons]
    split <;> omega
theorem mmCat_4 {st : List mmV} (h : st.length ≤ 4) : mmCat st ≤ 8 := Nat.le_trans (mmCat_le st) (by omega)
theorem mmEntry_v {v : mmV} (vs : List mmV) (h : v.1 = 2 ∨ v.1 = 4) : mmEntry (v :: vs) = v :: mmEntry vs := by
  show (if v.1 = 1 then v :: (9, 0) :: mmEntry vs else v :: mmEntry vs) = _
  rw [if_neg (by omega)]
theorem mmSet_v {lc lc' : List mmV} {i : Nat} {v x : mmV} (hx : lc[i]? = some x) (hk : x.1 = 2 ∨ x.1 = 4) (hv : v.1 ≠ 1) (he : lc.set (i + 1) v = lc') : mmSet lc (i + 1) v = lc' := by
  unfold mmSet
  rw [if_neg hv]
  dsimp only
  rw [hx]
  obtain ⟨t, y⟩ := x
  rcases hk with h | h
  · cases h
    exact he
  · cases h
    exact he
theorem isStr.rng {sh : mmS} {mem : mmM} {v w : mmV} {n : Nat} {f : Int → Int} (h : isStr sh mem v w n f) : ∀ j : Int, 0 ≤ j → j < n → 0 ≤ f j ∧ f j ≤ 127 := fun j h1 h2 => by
  have := h.2.2.2 j.toNat (by omega) (by omega)
  rwa [Int.toNat_of_nonneg h1] at this
theorem isStr.k {sh : mmS} {mem : mmM} {v w : mmV} {n : Nat} {f : Int → Int} (h : isStr sh mem v w n f) : v.1 = 2 ∨ v.1 = 4 := by
  rcases h.1 with ⟨a, rfl, -⟩ | ⟨i, -, rfl, -⟩
  · exact Or.inl rfl
  · exact Or.inr rfl
theorem isStr.kw {sh : mmS} {mem : mmM} {v w : mmV} {n : Nat} {f : Int → Int} (h : isStr sh mem v w n f) : w.1 = 2 ∨ w.1 = 4 := by
  rcases h.2.1 with ⟨a, rfl, -⟩ | ⟨i, -, rfl, -⟩
  · exact Or.inl rfl
  · exact Or.inr rfl
section JB
variable {B : mmB} {d kc ks : Nat} {Q : mmQ} {pc : Nat} {lc st : List mmV} {sh : mmS} {mem : mmM}
theorem rI.elim {x : Int} (k : mmT B d kc ks Q pc lc ((0, x) :: st) sh mem) : ∀ (r : Option mmV) (sh' : mmS) (m' : mmM), rI sh mem x r sh' m' → mmT B d kc ks Q pc lc (r.toList ++ st) sh' m' := by
  rintro r sh' m' ⟨rfl, rfl, rfl⟩
  exact k
theorem rN.elim (k : mmT B d kc ks Q pc lc st sh mem) : ∀ (r : Option mmV) (sh' : mmS) (m' : mmM), rN sh mem r sh' m' → mmT B d kc ks Q pc lc (r.toList ++ st) sh' m' := by
  rintro r sh' m' ⟨rfl, rfl, rfl⟩
  exact k
theorem sr_ishr0 {x : Int} (hx : R32 x) (hd : decode B.2.1 pc = .ok (.ishr, 1)) (k : mmT B d kc ks Q (pc + 1) lc ((0, x) :: st) sh mem) : mmT B d kc ks Q pc lc ((0, 0) :: (0, x) :: st) sh mem := st_ishr hd (by rw [shr32_n0 hx]; exact k)
theorem sr_ishl0 {x : Int} (hx : R32 x) (hd : decode B.2.1 pc = .ok (.ishl, 1)) (k : mmT B d kc ks Q (pc + 1) lc ((0, x) :: st) sh mem) : mmT B d kc ks Q pc lc ((0, 0) :: (0, x) :: st) sh mem := st_ishl hd (by rw [shl32_n0 hx]; exact k)
theorem st_tret {ty : FieldType} {v : Int} (hret : B.2.2.2 = some ty) (hn : narrow ty (.int (Int32.ofInt v)) = .int (Int32.ofInt v)) (hd : decode B.2.1 pc = .ok (.ireturn, 1)) (hq : Q (some (0, v)) sh mem) : mmT B d kc ks Q pc lc [(0, v)] sh mem := by
  intro p l e R s m args below meth c G H locs cells slots ls X
  have h1 := X.2.2.2.2.2.1
  have h2 := X.2.2.2.2.2.2.1
  refine W.widen (k := R.cells) (n := R.slots) (by omega) (by omega) ?_
  exact W.zret (v := Int32.ofInt v) X.1.1 X.1.2.1 (X.1.2.2.2.1.trans hret) hn (mm_post X hq) X.2.2.1.2.2 hd (hlocks := X.1.2.2.2.2.2.2.1)
end JB
/-- a StringBuilder, its row of bytes, how many that holds, how many are said, and the text -/
def isSB (L : List (Nat × Nat)) (mem : mmM) (sb v m n : Nat) (t : Int → Int) : Prop := L[sb]? = some (12, 4) ∧ L[v]? = some (25, m) ∧ mem sb 0 = (v : Int) ∧ mem sb 1 = 0 ∧ mem sb 3 = (n : Int) ∧ n ≤ m ∧ m ≤ 800 ∧ (∀ j, 0 ≤ mem v j ∧ mem v j ≤ 127) ∧ ∀ j : Int, 0 ≤ j → j < n → mem v j = t j
/-- what a call on a StringBuilder leaves as it was -/
def sbFr (k : Nat) (L L' : List (Nat × Nat)) (mem mem' : mmM) (sb v v' : Nat) : Prop := (∃ E, L' = L ++ E ∧ E.length ≤ k) ∧ (∀ a, a < L.length → a ≠ sb → a ≠ v → mem' a = mem a) ∧ mem' 999 = mem 999 ∧ (v' = v ∨ L.length ≤ v')
theorem getL_app {L E : List (Nat × Nat)} {a : Nat} {q : Nat × Nat} (h : L[a]? = some q) : (L ++ E)[a]? = some q := by
  rw [List.getElem?_append_left (List.getElem?_eq_some_iff.mp h).1]
  exact h
theorem getL_lt {L : List (Nat × Nat)} {a : Nat} {q : Nat × Nat} (h : L[a]? = some q) : a < L.length := (List.getElem?_eq_some_iff.mp h).1
theorem sbFr.refl {L : List (Nat × Nat)} {mem mem' : mmM} {sb v : Nat} (h : ∀ a, a ≠ sb → a ≠ v → mem' a = mem a) (h1 : sb ≠ 999) (h2 : v ≠ 999) : sbFr 0 L L mem mem' sb v v := ⟨⟨[], by simp, Nat.le_refl _⟩, fun a _ h3 h4 => h a h3 h4, h 999 (Ne.symm h1) (Ne.symm h2), Or.inl rfl⟩
theorem sbFr.trans {j k : Nat} {L L1 L2 : List (Nat × Nat)} {m m1 m2 : mmM} {sb v v1 v2 : Nat} (h : sbFr j L L1 m m1 sb v v1) (h' : sbFr k L1 L2 m1 m2 sb v1 v2) : sbFr (j + k) L L2 m m2 sb v v2 := by
  obtain ⟨⟨E, rfl, e1⟩, a1, b1, c1⟩ := h
  obtain ⟨⟨F, rfl, e2⟩, a2, b2, c2⟩ := h'
  refine ⟨⟨E ++ F, by rw [List.append_assoc], by rw [List.length_append]; omega⟩, fun a ha h3 h4 => ?_, b2.trans b1, ?_⟩
  · rw [a2 a (by rw [List.length_append]; omega) h3 (by rcases c1 with rfl | c1 <;> omega), a1 a ha h3 h4]
  · rcases c2 with rfl | c2
    · exact c1
    · rw [List.length_append] at c2
      exact Or.inr (by omega)
theorem sbFr.mono {j k : Nat} {L L1 : List (Nat × Nat)} {m m1 : mmM} {sb v v1 : Nat} (h : sbFr j L L1 m m1 sb v v1) (hk : j ≤ k) : sbFr k L L1 m m1 sb v v1 := by
  obtain ⟨⟨E, e0, e1⟩, h2⟩ := h
  exact ⟨⟨E, e0, by omega⟩, h2⟩
theorem isSB.ne {L : List (Nat × Nat)} {mem : mmM} {sb v m n : Nat} {t : Int → Int} (h : isSB L mem sb v m n t) : sb ≠ v := fun e => by
  have h1 := h.1
  rw [e, h.2.1] at h1
  cases h1
theorem isStr.fr {k : Nat} {L L' : List (Nat × Nat)} {mem mem' : mmM} {sb v v' : Nat} {x w : mmV} {n : Nat} {f : Int → Int} (h : isStr (true, L) mem x w n f) (hf : sbFr k L L' mem mem' sb v v') (hx : x ≠ (2, (sb : Int))) (hxv : x ≠ (2, (v : Int))) (hw : w ≠ (2, (v : Int))) (hws : w ≠ (2, (sb : Int))) : isStr (true, L') mem' x w n f := by
  obtain ⟨⟨E, rfl, -⟩, hm, -⟩ := hf
  refine ⟨?_, ?_, h.2.2⟩
  · rcases h.1 with ⟨a, rfl, h1, ⟨b, rfl, h2⟩, h3⟩ | h1
    · have e := hm a (getL_lt h1) (fun e => hx (by rw [e])) (fun e => hxv (by rw [e]))
      exact Or.inl ⟨a, rfl, getL_app h1, ⟨b, rfl, by rw [e]; exact h2⟩, by rw [e]; exact h3⟩
    · exact Or.inr h1
  · rcases h.2.1 with ⟨b, rfl, h1, h2⟩ | h1
    · have e := hm b (getL_lt h1) (fun e => hws (by rw [e])) (fun e => hw (by rw [e]))
      exact Or.inl ⟨b, rfl, getL_app h1, fun j h3 h4 => by rw [e]; exact h2 j h3 h4⟩
    · exact Or.inr h1
