/-! the constructors: every cell is made -/
/-- what was done to the cells, the newest first: 0 a slot written, 1 a row of one value, 2 a new object, 3 a row of rising numbers -/
abbrev mmO : Type := Nat × Nat × Int × Int
def opZ (q : mmO) (m : mmM) : mmM := match q.1 with
  | 0 => mset m q.2.1 q.2.2.1 q.2.2.2
  | 1 => mrow m q.2.1 (fun _ => q.2.2.2)
  | 2 => mrow m q.2.1 (mm_init q.2.2.1.toNat)
  | _ => mrow m q.2.1 (fun i => q.2.2.2 + i)
def evO : List mmO → mmM → mmM
  | [], m => m
  | q :: l, m => opZ q (evO l m)
theorem evO_app (l1 l2 : List mmO) (m : mmM) : evO (l1 ++ l2) m = evO l1 (evO l2 m) := by
  induction l1 with
  | nil => rfl
  | cons q l ih =>
    show opZ q (evO (l ++ l2) m) = opZ q (evO l (evO l2 m))
    rw [ih]
def lkO : List mmO → Nat → Int → Option Int
  | [], _, _ => none
  | q :: l, a, k => if q.2.1 = a then (match q.1 with
    | 0 => if k = q.2.2.1 then some q.2.2.2 else lkO l a k
    | 1 => some q.2.2.2
    | 2 => some (mm_init q.2.2.1.toNat k)
    | _ => some (q.2.2.2 + k)) else lkO l a k
theorem lkO_at {a : Nat} {k v : Int} {m : mmM} : ∀ {l : List mmO}, lkO l a k = some v → evO l m a k = v
  | [], h => by cases h
  | (t, b, j, z) :: l, h => by
    have ih := fun h' => lkO_at (m := m) (l := l) (a := a) (k := k) (v := v) h'
    unfold lkO at h
    show opZ (t, b, j, z) (evO l m) a k = v
    by_cases e : b = a
    · rw [if_pos (show (t, b, j, z).2.1 = a from e)] at h
      match t, h with
      | 0, h =>
        show mset (evO l m) b j z a k = v
        dsimp only at h
        subst e
        rw [mset_at]
        by_cases q : k = j
        · rw [if_pos q] at h ⊢
          exact Option.some.inj h
        · rw [if_neg q] at h ⊢
          exact ih h
      | 1, h =>
        show mrow (evO l m) b (fun _ => z) a k = v
        subst e
        rw [mrow_same]
        exact Option.some.inj h
      | 2, h =>
        show mrow (evO l m) b (mm_init j.toNat) a k = v
        subst e
        rw [mrow_same]
        exact Option.some.inj h
      | t + 3, h =>
        show mrow (evO l m) b (fun i => z + i) a k = v
        subst e
        rw [mrow_same]
        exact Option.some.inj h
    · rw [if_neg (show ¬ (t, b, j, z).2.1 = a from e)] at h
      match t with
      | 0 =>
        show mset (evO l m) b j z a k = v
        rw [mset_ne (fun q => e q.symm)]
        exact ih h
      | 1 =>
        show mrow (evO l m) b (fun _ => z) a k = v
        rw [mrow_ne (fun q => e q.symm)]
        exact ih h
      | 2 =>
        show mrow (evO l m) b (mm_init j.toNat) a k = v
        rw [mrow_ne (fun q => e q.symm)]
        exact ih h
      | t + 3 =>
        show mrow (evO l m) b (fun i => z + i) a k = v
        rw [mrow_ne (fun q => e q.symm)]
        exact ih h
/-- a row of one value, with no slot written since -/
def rwO : List mmO → Nat → Option Int
  | [], _ => none
  | q :: l, a => if q.2.1 = a then (if q.1 = 1 then some q.2.2.2 else none) else rwO l a
theorem rwO_lk {a : Nat} {v : Int} : ∀ {l : List mmO}, rwO l a = some v → ∀ k, lkO l a k = some v
  | [], h => by cases h
  | (t, b, j, z) :: l, h => by
    intro k
    unfold rwO at h
    unfold lkO
    by_cases e : (t, b, j, z).2.1 = a
    · rw [if_pos e] at h ⊢
      by_cases q : (t, b, j, z).1 = 1
      · rw [if_pos q] at h
        have q' : t = 1 := q
        subst q'
        exact h
      · rw [if_neg q] at h
        cases h
    · rw [if_neg e] at h ⊢
      exact rwO_lk h k
theorem rwO_at {a : Nat} {v : Int} {m : mmM} {l : List mmO} (h : rwO l a = some v) (k : Int) : evO l m a k = v := lkO_at (rwO_lk h k)
/-- what no one writes stays -/
def noO (l : List mmO) (a : Nat) : Bool := l.all fun q => !(q.2.1 == a)
theorem noO_at {a : Nat} {m : mmM} : ∀ {l : List mmO}, noO l a = true → evO l m a = m a
  | [], _ => rfl
  | (t, b, j, z) :: l, h => by
    unfold noO at h
    rw [List.all_cons, Bool.and_eq_true] at h
    have e : ¬ a = b := fun q => by
      have := h.1
      simp [q] at this
    have ih := noO_at (m := m) (l := l) (a := a) h.2
    match t with
    | 0 => exact (mset_ne e).trans ih
    | 1 => exact (mrow_ne e).trans ih
    | 2 => exact (mrow_ne e).trans ih
    | t + 3 => exact (mrow_ne e).trans ih
def iQ (n : Nat) (ops : List mmO) (mem : mmM) : mmQ := fun r sh m => r = none ∧ sh = (true, mSH.take n) ∧ m = evO ops mem
theorem tk_len {n : Nat} (h : n ≤ 65) : (mSH.take n).length = n := by
  rw [List.length_take]
  exact Nat.min_eq_left h
theorem tk_at {n a : Nat} {q : Nat × Nat} (hs : mSH[a]? = some q) (h : a < n) : (mSH.take n)[a]? = some q := by
  rw [List.getElem?_take, if_pos h]
  exact hs
theorem tk_succ {n : Nat} {q : Nat × Nat} (hs : mSH[n]? = some q) : mSH.take n ++ [q] = mSH.take (n + 1) := by
  rw [List.take_add_one, hs]
  rfl
section
variable {B : mmB} {d kc ks : Nat} {Q : mmQ} {pc n : Nat} {lc st : List mmV} {ops : List mmO} {mem : mmM}
theorem iQ.elim {ops' : List mmO} (k : mmT B d kc ks Q pc lc st (true, mSH.take n) (evO (ops' ++ ops) mem)) : ∀ (r : Option mmV) (sh' : mmS) (m' : mmM), iQ n ops' (evO ops mem) r sh' m' → mmT B d kc ks Q pc lc (r.toList ++ st) sh' m' := by
  intro r sh' m' h
  obtain ⟨h1, h2, h3⟩ := h
  rw [h1, h2, h3, ← evO_app]
  exact k
theorem sn_new {idx ci N : Nat} (C : String) (T : u_T) (hc : vwCl[ci]? = some (C, T, N)) (h20 : ci < 20) (hm : mmTy ci) (hok : ∀ k, k < N → mm_okTy (mm_clTy ci k) = true) (hin : ∀ w ∈ u_ws C T N, w ∈ mm_tbl) (h1 : Cond.classLink B.1.cls idx C ∈ mm_tbl) (h2 : Cond.instantiable C N ∈ mm_tbl) (h3 : Cond.initialized C ∈ mm_tbl) (hs : mSH[n]? = some (ci, N)) (hn : n ≤ 64) (hd : decode B.2.1 pc = .ok (.new idx, 3)) (k : mmT B d kc ks Q (pc + 3) lc ((2, (n : Int)) :: st) (true, mSH.take (n + 1)) (evO ((2, n, (ci : Int), 0) :: ops) mem)) : mmT B d (kc + 1) (ks + N) Q pc lc st (true, mSH.take n) (evO ops mem) := by
  have hl : (mSH.take n).length = n := tk_len (by omega)
  refine st_new C T hc h20 hm hok hin h1 h2 h3 (by rw [hl]; omega) hd ?_
  rw [hl, tk_succ hs]
  exact k
theorem sn_arr {t N : Nat} {r : Int} {at0 : ArrayType} (ht : (t = 20 ∧ at0 = .int) ∨ (t = 21 ∧ at0 = .long) ∨ (t = 22 ∧ at0 = .boolean)) (hw : Cond.arrayClass (newarray.typeOf at0) ∈ mm_tbl) (hr : r = (N : Int)) (hN : N ≤ 5000) (hs : mSH[n]? = some (t, N)) (hn : n ≤ 64) (hd : decode B.2.1 pc = .ok (.newarray at0, 2)) (k : mmT B d kc ks Q (pc + 2) lc ((2, (n : Int)) :: st) (true, mSH.take (n + 1)) (evO ((1, n, 0, 0) :: ops) mem)) : mmT B d (kc + 1) (ks + N) Q pc lc ((0, r) :: st) (true, mSH.take n) (evO ops mem) := by
  have hl : (mSH.take n).length = n := tk_len (by omega)
  refine st_newarray ht hw hr hN (by rw [hl]; omega) hd ?_
  rw [hl, tk_succ hs]
  exact k
theorem sn_anew {N idx : Nat} {r : Int} (h1 : Cond.classLink B.1.cls idx "SheSays$Law" ∈ mm_tbl) (hr : r = (N : Int)) (hN : N ≤ 5000) (hs : mSH[n]? = some (23, N)) (hn : n ≤ 64) (hd : decode B.2.1 pc = .ok (.anewarray idx, 3)) (k : mmT B d kc ks Q (pc + 3) lc ((2, (n : Int)) :: st) (true, mSH.take (n + 1)) (evO ((1, n, 0, -1) :: ops) mem)) : mmT B d (kc + 1) (ks + N) Q pc lc ((0, r) :: st) (true, mSH.take n) (evO ops mem) := by
  have hl : (mSH.take n).length = n := tk_len (by omega)
  refine st_anewarray h1 hr hN (by rw [hl]; omega) hd ?_
  rw [hl, tk_succ hs]
  exact k
theorem sn_multi {idx : Nat} (hM : mmMulti) (h1 : Cond.classLink B.1.cls idx ("[" ++ (FieldType.array .long).toString) ∈ mm_tbl) (h3 : Cond.arrayClass .long ∈ mm_tbl) (hd : decode B.2.1 pc = .ok (.multianewarray idx 2, 4)) (k : mmT B d kc ks Q (pc + 4) lc ((2, 39) :: st) (true, mSH.take 47) (evO ((1, 46, 0, 0) :: (1, 45, 0, 0) :: (1, 44, 0, 0) :: (1, 43, 0, 0) :: (1, 42, 0, 0) :: (1, 41, 0, 0) :: (1, 40, 0, 0) :: (3, 39, 0, 40) :: ops) mem)) : mmT B d (kc + 8) (ks + 182) Q pc lc ((0, 25) :: (0, 7) :: st) (true, mSH.take 39) (evO ops mem) := by
  refine hM B d kc ks Q pc lc st (mSH.take 39) (evO ops mem) 7 25 idx 7 25 h1 h3 rfl rfl (by decide) (by decide) (by decide) hd ?_
  have e : (fun a => if (mSH.take 39).length + 1 ≤ a ∧ a < (mSH.take 39).length + 1 + 7 then (fun _ => 0) else mrow (evO ops mem) (mSH.take 39).length (fun i => (((mSH.take 39).length : Nat) : Int) + 1 + i) a) = evO ((1, 46, 0, 0) :: (1, 45, 0, 0) :: (1, 44, 0, 0) :: (1, 43, 0, 0) :: (1, 42, 0, 0) :: (1, 41, 0, 0) :: (1, 40, 0, 0) :: (3, 39, 0, 40) :: ops) mem := by
    funext a
    show (if 39 + 1 ≤ a ∧ a < 39 + 1 + 7 then (fun _ => 0) else mrow (evO ops mem) 39 (fun i => 40 + i) a) = mrow (mrow (mrow (mrow (mrow (mrow (mrow (mrow (evO ops mem) 39 (fun i => 40 + i)) 40 (fun _ => 0)) 41 (fun _ => 0)) 42 (fun _ => 0)) 43 (fun _ => 0)) 44 (fun _ => 0)) 45 (fun _ => 0)) 46 (fun _ => 0) a
    by_cases h : 39 + 1 ≤ a ∧ a < 39 + 1 + 7
    · rw [if_pos h]
      have c : a = 40 ∨ a = 41 ∨ a = 42 ∨ a = 43 ∨ a = 44 ∨ a = 45 ∨ a = 46 := by omega
      rcases c with c | c | c | c | c | c | c <;> subst c <;> rfl
    · rw [if_neg h, mrow_ne (show a ≠ 46 by omega), mrow_ne (show a ≠ 45 by omega), mrow_ne (show a ≠ 44 by omega), mrow_ne (show a ≠ 43 by omega), mrow_ne (show a ≠ 42 by omega), mrow_ne (show a ≠ 41 by omega), mrow_ne (show a ≠ 40 by omega)]
  rw [e]
  exact k
theorem sn_tag {idx ci N k tg : Nat} {own : String} (hf : mmFR own idx ci N k tg) : mTag (ci, N) (k : Int) = tg := by
  obtain ⟨C, T, ref, e1, e0, e2, e3, e4, e5, e6⟩ := hf
  rw [e3]
  exact mTag_int e0 rfl
theorem sn_putF {idx ci N : Nat} {r v : Int} (a k : Nat) (hf : mmFR B.1.cls idx ci N k 2) (hm : mmTy ci) (hfin : ∀ q, vwCl[ci]? = some q → (q.2.1 k).2.2.2 = true ∧ (q.2.1 k).1 = B.1.cls) (hin : B.1.name = "<init>") (hty : (∃ n, mm_clTy ci k = .object n) ∨ ∃ n, mm_clTy ci k = .array n) (hr : r = (a : Int)) (hs : mSH[a]? = some (ci, N)) (han : a < n) (hd : decode B.2.1 pc = .ok (.putfield idx, 3)) (kk : mmT B d kc ks Q (pc + 3) lc st (true, mSH.take n) (evO ((0, a, (k : Int), v) :: ops) mem)) : mmT B d kc ks Q pc lc ((2, v) :: (2, r) :: st) (true, mSH.take n) (evO ops mem) := by
  have ht := sn_tag hf
  exact st_putfinal a k (fun h => by cases h) ⟨fun h => (by rw [ht] at h; cases h), fun h => (by rw [ht] at h; cases h)⟩ hf hm hfin hin (Or.inr (Or.inr (Or.inr hty))) hr (tk_at hs han) hd kk
theorem sn_putN {idx ci N : Nat} {r v : Int} (a k : Nat) (hf : mmFR B.1.cls idx ci N k 2) (hm : mmTy ci) (hfin : ∀ q, vwCl[ci]? = some q → (q.2.1 k).2.2.2 = false) (hty : (∃ n, mm_clTy ci k = .object n) ∨ ∃ n, mm_clTy ci k = .array n) (hr : r = (a : Int)) (hs : mSH[a]? = some (ci, N)) (han : a < n) (hd : decode B.2.1 pc = .ok (.putfield idx, 3)) (kk : mmT B d kc ks Q (pc + 3) lc st (true, mSH.take n) (evO ((0, a, (k : Int), v) :: ops) mem)) : mmT B d kc ks Q pc lc ((2, v) :: (2, r) :: st) (true, mSH.take n) (evO ops mem) := by
  have ht := sn_tag hf
  exact st_putfield a k (fun h => by cases h) ⟨fun h => (by rw [ht] at h; cases h), fun h => (by rw [ht] at h; cases h)⟩ hf hm hfin (Or.inr (Or.inr (Or.inr hty))) hr (tk_at hs han) hd kk
theorem sn_putI {idx ci N : Nat} {r v : Int} (a k : Nat) (hf : mmFR B.1.cls idx ci N k 0) (hm : mmTy ci) (hfin : ∀ q, vwCl[ci]? = some q → (q.2.1 k).2.2.2 = false) (hty : mm_clTy ci k = .int) (hv : R32 v) (hr : r = (a : Int)) (hs : mSH[a]? = some (ci, N)) (han : a < n) (hd : decode B.2.1 pc = .ok (.putfield idx, 3)) (kk : mmT B d kc ks Q (pc + 3) lc st (true, mSH.take n) (evO ((0, a, (k : Int), v) :: ops) mem)) : mmT B d kc ks Q pc lc ((0, v) :: (2, r) :: st) (true, mSH.take n) (evO ops mem) := by
  have ht := sn_tag hf
  exact st_putfield a k (fun h => by cases h) ⟨fun _ => hv, fun h => (by rw [ht] at h; cases h)⟩ hf hm hfin (Or.inl hty) hr (tk_at hs han) hd kk
theorem sn_get {idx ci N tg : Nat} {r v : Int} (a k : Nat) (hf : mmFR B.1.cls idx ci N k tg) (hr : r = (a : Int)) (hs : mSH[a]? = some (ci, N)) (han : a < n) (hv : lkO ops a (k : Int) = some v) (hd : decode B.2.1 pc = .ok (.getfield idx, 3)) (kk : mmT B d kc ks Q (pc + 3) lc ((tg, v) :: st) (true, mSH.take n) (evO ops mem)) : mmT B d kc ks Q pc lc ((2, r) :: st) (true, mSH.take n) (evO ops mem) :=
  st_getfield a k hf hr (tk_at hs han) (lkO_at hv) hd kk
theorem sn_ias {N : Nat} {r i v : Int} (a : Nat) (hr : r = (a : Int)) (hs : mSH[a]? = some (20, N)) (han : a < n) (hv : R32 v) (hN : N ≤ 5000) (hi : 0 ≤ i ∧ i < N) (hd : decode B.2.1 pc = .ok (.iastore, 1)) (kk : mmT B d kc ks Q (pc + 1) lc st (true, mSH.take n) (evO ((0, a, i, v) :: ops) mem)) : mmT B d kc ks Q pc lc ((0, v) :: (0, i) :: (2, r) :: st) (true, mSH.take n) (evO ops mem) :=
  st_iastore a (fun h => by cases h) hv hr (tk_at hs han) (by omega) hi.1 hi.2 hd kk
theorem sn_aas {N : Nat} {r i v : Int} (a b : Nat) (hr : r = (a : Int)) (hv : v = (b : Int)) (hs : mSH[a]? = some (23, N)) (hb : mSH[b]? = some (2, 4)) (han : a < n) (hbn : b < n) (hN : N ≤ 5000) (hi : 0 ≤ i ∧ i < N) (hd : decode B.2.1 pc = .ok (.aastore, 1)) (kk : mmT B d kc ks Q (pc + 1) lc st (true, mSH.take n) (evO ((0, a, i, v) :: ops) mem)) : mmT B d kc ks Q pc lc ((2, v) :: (0, i) :: (2, r) :: st) (true, mSH.take n) (evO ops mem) :=
  st_aastore a b rfl hr hv (tk_at hs han) (tk_at hb hbn) (by omega) hi.1 hi.2 hd kk
end
def oX9_2 : List mmO := ((0, 1, 0, 2) :: ((1, 2, 0, 0) :: []))
theorem ci_X9_2 (mem : mmM) : mmC bX9_init 1 1 160 [(2, 1)] (true, mSH.take 2) mem (iQ 3 oX9_2 mem) := by
  refine mmC_of [(2, 1)] ok_X9_init.2.2.2.2 rfl (Nat.le_of_ble_eq_true rfl) ?_
  show mmT bX9_init 1 1 160 _ 0 [(2, 1)] [] (true, mSH.take 2) (evO [] mem)
  refine st_aload_n (i := 0) rfl (t := 0) rfl (by decide) dX9_init_0 ?_
  refine st_objInit 1 mr_X9_3 mo_ins mo_code (by decide) (Nat.le_of_ble_eq_true rfl) rfl dX9_init_1 ?_
  refine st_aload_n (i := 0) rfl (t := 0) rfl (by decide) dX9_init_4 ?_
  refine st_sipush rfl dX9_init_5 ?_
  refine sn_arr (n := 2) (kc := 0) (ks := 0) (Or.inl ⟨rfl, rfl⟩) ac_int rfl (by decide) sh_2 (by decide) dX9_init_8 ?_
  refine sn_putF 1 0 fr_X9_9_9 mty_9 (fun q h => by cases h; exact ⟨rfl, rfl⟩) rfl (Or.inr ⟨_, rfl⟩) rfl sh_1 (by decide) dX9_init_10 ?_
  exact st_return rfl dX9_init_13 ⟨rfl, rfl, rfl⟩
def oX0_4 : List mmO := ((0, 3, 0, 1) :: ((0, 3, 4, 7) :: ((1, 7, 0, 0) :: ((0, 3, 3, 6) :: ((1, 6, 0, 0) :: ((0, 3, 2, 5) :: ((1, 5, 0, 0) :: ((0, 3, 1, 4) :: ((1, 4, 0, 0) :: [])))))))))
theorem ci_X0_4 (mem : mmM) : mmC bX0_init 1 4 96 [(2, 3), (2, 1)] (true, mSH.take 4) mem (iQ 8 oX0_4 mem) := by
  refine mmC_of [(2, 3), (2, 1)] ok_X0_init.2.2.2.2 rfl (Nat.le_of_ble_eq_true rfl) ?_
  show mmT bX0_init 1 4 96 _ 0 [(2, 3), (2, 1)] [] (true, mSH.take 4) (evO [] mem)
  refine st_aload_n (i := 0) rfl (t := 0) rfl (by decide) dX0_init_0 ?_
  refine st_objInit 3 mr_X0_3 mo_ins mo_code (by decide) (Nat.le_of_ble_eq_true rfl) rfl dX0_init_1 ?_
  refine st_aload_n (i := 0) rfl (t := 0) rfl (by decide) dX0_init_4 ?_
  refine st_bipush rfl dX0_init_5 ?_
  refine sn_arr (n := 4) (kc := 3) (ks := 72) (Or.inl ⟨rfl, rfl⟩) ac_int rfl (by decide) sh_4 (by decide) dX0_init_7 ?_
  refine sn_putF 3 1 fr_X0_9_0 mty_0 (fun q h => by cases h; exact ⟨rfl, rfl⟩) rfl (Or.inr ⟨_, rfl⟩) rfl sh_3 (by decide) dX0_init_9 ?_
  refine st_aload_n (i := 0) rfl (t := 0) rfl (by decide) dX0_init_12 ?_
  refine st_bipush rfl dX0_init_13 ?_
  refine sn_arr (n := 5) (kc := 2) (ks := 48) (Or.inl ⟨rfl, rfl⟩) ac_int rfl (by decide) sh_5 (by decide) dX0_init_15 ?_
  refine sn_putF 3 2 fr_X0_15_0 mty_0 (fun q h => by cases h; exact ⟨rfl, rfl⟩) rfl (Or.inr ⟨_, rfl⟩) rfl sh_3 (by decide) dX0_init_17 ?_
  refine st_aload_n (i := 0) rfl (t := 0) rfl (by decide) dX0_init_20 ?_
  refine st_bipush rfl dX0_init_21 ?_
  refine sn_arr (n := 6) (kc := 1) (ks := 24) (Or.inl ⟨rfl, rfl⟩) ac_int rfl (by decide) sh_6 (by decide) dX0_init_23 ?_
  refine sn_putF 3 3 fr_X0_18_0 mty_0 (fun q h => by cases h; exact ⟨rfl, rfl⟩) rfl (Or.inr ⟨_, rfl⟩) rfl sh_3 (by decide) dX0_init_25 ?_
  refine st_aload_n (i := 0) rfl (t := 0) rfl (by decide) dX0_init_28 ?_
  refine st_bipush rfl dX0_init_29 ?_
  refine sn_arr (n := 7) (kc := 0) (ks := 0) (Or.inr (Or.inr ⟨rfl, rfl⟩)) ac_bool rfl (by decide) sh_7 (by decide) dX0_init_31 ?_
  refine sn_putF 3 4 fr_X0_21_0 mty_0 (fun q h => by cases h; exact ⟨rfl, rfl⟩) rfl (Or.inr ⟨_, rfl⟩) rfl sh_3 (by decide) dX0_init_33 ?_
  refine st_aload_n (i := 0) rfl (t := 0) rfl (by decide) dX0_init_36 ?_
  refine st_aload_n (i := 1) rfl (t := 0) rfl (by decide) dX0_init_37 ?_
  refine sn_putF 3 0 fr_X0_25_0 mty_0 (fun q h => by cases h; exact ⟨rfl, rfl⟩) rfl (Or.inl ⟨_, rfl⟩) rfl sh_3 (by decide) dX0_init_38 ?_
  exact st_return rfl dX0_init_41 ⟨rfl, rfl, rfl⟩
def oX3_9 : List mmO := ((0, 8, 0, 1) :: ((0, 8, 1, 9) :: ((1, 9, 0, 0) :: [])))
theorem ci_X3_9 (mem : mmM) : mmC bX3_init 1 1 160 [(2, 8), (2, 1)] (true, mSH.take 9) mem (iQ 10 oX3_9 mem) := by
  refine mmC_of [(2, 8), (2, 1)] ok_X3_init.2.2.2.2 rfl (Nat.le_of_ble_eq_true rfl) ?_
  show mmT bX3_init 1 1 160 _ 0 [(2, 8), (2, 1)] [] (true, mSH.take 9) (evO [] mem)
  refine st_aload_n (i := 0) rfl (t := 0) rfl (by decide) dX3_init_0 ?_
  refine st_objInit 8 mr_X3_3 mo_ins mo_code (by decide) (Nat.le_of_ble_eq_true rfl) rfl dX3_init_1 ?_
  refine st_aload_n (i := 0) rfl (t := 0) rfl (by decide) dX3_init_4 ?_
  refine st_sipush rfl dX3_init_5 ?_
  refine sn_arr (n := 9) (kc := 0) (ks := 0) (Or.inl ⟨rfl, rfl⟩) ac_int rfl (by decide) sh_9 (by decide) dX3_init_8 ?_
  refine sn_putF 8 1 fr_X3_11_3 mty_3 (fun q h => by cases h; exact ⟨rfl, rfl⟩) rfl (Or.inr ⟨_, rfl⟩) rfl sh_8 (by decide) dX3_init_10 ?_
  refine st_aload_n (i := 0) rfl (t := 0) rfl (by decide) dX3_init_13 ?_
  refine st_aload_n (i := 1) rfl (t := 0) rfl (by decide) dX3_init_14 ?_
  refine sn_putF 8 0 fr_X3_17_3 mty_3 (fun q h => by cases h; exact ⟨rfl, rfl⟩) rfl (Or.inl ⟨_, rfl⟩) rfl sh_8 (by decide) dX3_init_15 ?_
  exact st_return rfl dX3_init_18 ⟨rfl, rfl, rfl⟩
def oX2_12 : List mmO := ((0, 11, 2, 13) :: ((1, 13, 0, 0) :: ((0, 11, 0, 12) :: ((1, 12, 0, 0) :: []))))
theorem ci_X2_12 (mem : mmM) : mmC bX2_init 1 2 224 [(2, 11)] (true, mSH.take 12) mem (iQ 14 oX2_12 mem) := by
  refine mmC_of [(2, 11)] ok_X2_init.2.2.2.2 rfl (Nat.le_of_ble_eq_true rfl) ?_
  show mmT bX2_init 1 2 224 _ 0 [(2, 11)] [] (true, mSH.take 12) (evO [] mem)
  refine st_aload_n (i := 0) rfl (t := 0) rfl (by decide) dX2_init_0 ?_
  refine st_objInit 11 mr_X2_3 mo_ins mo_code (by decide) (Nat.le_of_ble_eq_true rfl) rfl dX2_init_1 ?_
  refine st_aload_n (i := 0) rfl (t := 0) rfl (by decide) dX2_init_4 ?_
  refine st_sipush rfl dX2_init_5 ?_
  refine sn_arr (n := 12) (kc := 1) (ks := 64) (Or.inl ⟨rfl, rfl⟩) ac_int rfl (by decide) sh_12 (by decide) dX2_init_8 ?_
  refine sn_putF 11 0 fr_X2_11_2 mty_2 (fun q h => by cases h; exact ⟨rfl, rfl⟩) rfl (Or.inr ⟨_, rfl⟩) rfl sh_11 (by decide) dX2_init_10 ?_
  refine st_aload_n (i := 0) rfl (t := 0) rfl (by decide) dX2_init_13 ?_
  refine st_bipush rfl dX2_init_14 ?_
  refine sn_arr (n := 13) (kc := 0) (ks := 0) (Or.inl ⟨rfl, rfl⟩) ac_int rfl (by decide) sh_13 (by decide) dX2_init_16 ?_
  refine sn_putF 11 2 fr_X2_15_2 mty_2 (fun q h => by cases h; exact ⟨rfl, rfl⟩) rfl (Or.inr ⟨_, rfl⟩) rfl sh_11 (by decide) dX2_init_18 ?_
  exact st_return rfl dX2_init_21 ⟨rfl, rfl, rfl⟩
def oX2_15 : List mmO := ((0, 14, 2, 16) :: ((1, 16, 0, 0) :: ((0, 14, 0, 15) :: ((1, 15, 0, 0) :: []))))
theorem ci_X2_15 (mem : mmM) : mmC bX2_init 1 2 224 [(2, 14)] (true, mSH.take 15) mem (iQ 17 oX2_15 mem) := by
  refine mmC_of [(2, 14)] ok_X2_init.2.2.2.2 rfl (Nat.le_of_ble_eq_true rfl) ?_
  show mmT bX2_init 1 2 224 _ 0 [(2, 14)] [] (true, mSH.take 15) (evO [] mem)
  refine st_aload_n (i := 0) rfl (t := 0) rfl (by decide) dX2_init_0 ?_
  refine st_objInit 14 mr_X2_3 mo_ins mo_code (by decide) (Nat.le_of_ble_eq_true rfl) rfl dX2_init_1 ?_
  refine st_aload_n (i := 0) rfl (t := 0) rfl (by decide) dX2_init_4 ?_
  refine st_sipush rfl dX2_init_5 ?_
  refine sn_arr (n := 15) (kc := 1) (ks := 64) (Or.inl ⟨rfl, rfl⟩) ac_int rfl (by decide) sh_15 (by decide) dX2_init_8 ?_
  refine sn_putF 14 0 fr_X2_11_2 mty_2 (fun q h => by cases h; exact ⟨rfl, rfl⟩) rfl (Or.inr ⟨_, rfl⟩) rfl sh_14 (by decide) dX2_init_10 ?_
  refine st_aload_n (i := 0) rfl (t := 0) rfl (by decide) dX2_init_13 ?_
  refine st_bipush rfl dX2_init_14 ?_
  refine sn_arr (n := 16) (kc := 0) (ks := 0) (Or.inl ⟨rfl, rfl⟩) ac_int rfl (by decide) sh_16 (by decide) dX2_init_16 ?_
  refine sn_putF 14 2 fr_X2_15_2 mty_2 (fun q h => by cases h; exact ⟨rfl, rfl⟩) rfl (Or.inr ⟨_, rfl⟩) rfl sh_14 (by decide) dX2_init_18 ?_
  exact st_return rfl dX2_init_21 ⟨rfl, rfl, rfl⟩
def oX2_18 : List mmO := ((0, 17, 2, 19) :: ((1, 19, 0, 0) :: ((0, 17, 0, 18) :: ((1, 18, 0, 0) :: []))))
theorem ci_X2_18 (mem : mmM) : mmC bX2_init 1 2 224 [(2, 17)] (true, mSH.take 18) mem (iQ 20 oX2_18 mem) := by
  refine mmC_of [(2, 17)] ok_X2_init.2.2.2.2 rfl (Nat.le_of_ble_eq_true rfl) ?_
  show mmT bX2_init 1 2 224 _ 0 [(2, 17)] [] (true, mSH.take 18) (evO [] mem)
  refine st_aload_n (i := 0) rfl (t := 0) rfl (by decide) dX2_init_0 ?_
  refine st_objInit 17 mr_X2_3 mo_ins mo_code (by decide) (Nat.le_of_ble_eq_true rfl) rfl dX2_init_1 ?_
  refine st_aload_n (i := 0) rfl (t := 0) rfl (by decide) dX2_init_4 ?_
  refine st_sipush rfl dX2_init_5 ?_
  refine sn_arr (n := 18) (kc := 1) (ks := 64) (Or.inl ⟨rfl, rfl⟩) ac_int rfl (by decide) sh_18 (by decide) dX2_init_8 ?_
  refine sn_putF 17 0 fr_X2_11_2 mty_2 (fun q h => by cases h; exact ⟨rfl, rfl⟩) rfl (Or.inr ⟨_, rfl⟩) rfl sh_17 (by decide) dX2_init_10 ?_
  refine st_aload_n (i := 0) rfl (t := 0) rfl (by decide) dX2_init_13 ?_
  refine st_bipush rfl dX2_init_14 ?_
  refine sn_arr (n := 19) (kc := 0) (ks := 0) (Or.inl ⟨rfl, rfl⟩) ac_int rfl (by decide) sh_19 (by decide) dX2_init_16 ?_
  refine sn_putF 17 2 fr_X2_15_2 mty_2 (fun q h => by cases h; exact ⟨rfl, rfl⟩) rfl (Or.inr ⟨_, rfl⟩) rfl sh_17 (by decide) dX2_init_18 ?_
  exact st_return rfl dX2_init_21 ⟨rfl, rfl, rfl⟩
def oX2_21 : List mmO := ((0, 20, 2, 22) :: ((1, 22, 0, 0) :: ((0, 20, 0, 21) :: ((1, 21, 0, 0) :: []))))
theorem ci_X2_21 (mem : mmM) : mmC bX2_init 1 2 224 [(2, 20)] (true, mSH.take 21) mem (iQ 23 oX2_21 mem) := by
  refine mmC_of [(2, 20)] ok_X2_init.2.2.2.2 rfl (Nat.le_of_ble_eq_true rfl) ?_
  show mmT bX2_init 1 2 224 _ 0 [(2, 20)] [] (true, mSH.take 21) (evO [] mem)
  refine st_aload_n (i := 0) rfl (t := 0) rfl (by decide) dX2_init_0 ?_
  refine st_objInit 20 mr_X2_3 mo_ins mo_code (by decide) (Nat.le_of_ble_eq_true rfl) rfl dX2_init_1 ?_
  refine st_aload_n (i := 0) rfl (t := 0) rfl (by decide) dX2_init_4 ?_
  refine st_sipush rfl dX2_init_5 ?_
  refine sn_arr (n := 21) (kc := 1) (ks := 64) (Or.inl ⟨rfl, rfl⟩) ac_int rfl (by decide) sh_21 (by decide) dX2_init_8 ?_
  refine sn_putF 20 0 fr_X2_11_2 mty_2 (fun q h => by cases h; exact ⟨rfl, rfl⟩) rfl (Or.inr ⟨_, rfl⟩) rfl sh_20 (by decide) dX2_init_10 ?_
  refine st_aload_n (i := 0) rfl (t := 0) rfl (by decide) dX2_init_13 ?_
  refine st_bipush rfl dX2_init_14 ?_
  refine sn_arr (n := 22) (kc := 0) (ks := 0) (Or.inl ⟨rfl, rfl⟩) ac_int rfl (by decide) sh_22 (by decide) dX2_init_16 ?_
  refine sn_putF 20 2 fr_X2_15_2 mty_2 (fun q h => by cases h; exact ⟨rfl, rfl⟩) rfl (Or.inr ⟨_, rfl⟩) rfl sh_20 (by decide) dX2_init_18 ?_
  exact st_return rfl dX2_init_21 ⟨rfl, rfl, rfl⟩
def oX8_24 : List mmO := ((0, 23, 12, 34) :: ((1, 34, 0, 0) :: ((0, 23, 11, 33) :: ((1, 33, 0, 0) :: ((0, 23, 10, 32) :: ((1, 32, 0, 0) :: ((0, 23, 9, 31) :: ((1, 31, 0, 0) :: ((0, 23, 8, 30) :: ((1, 30, 0, 0) :: ((0, 23, 7, 29) :: ((1, 29, 0, 0) :: ((0, 23, 6, 28) :: ((1, 28, 0, 0) :: ((0, 23, 5, 27) :: ((1, 27, 0, 0) :: ((0, 23, 4, 26) :: ((1, 26, 0, 0) :: ((0, 23, 3, 25) :: ((1, 25, 0, 0) :: ((0, 23, 2, 24) :: ((1, 24, 0, 0) :: []))))))))))))))))))))))
theorem ci_X8_24 (mem : mmM) : mmC bX8_init 1 11 480 [(2, 23)] (true, mSH.take 24) mem (iQ 35 oX8_24 mem) := by
  refine mmC_of [(2, 23)] ok_X8_init.2.2.2.2 rfl (Nat.le_of_ble_eq_true rfl) ?_
  show mmT bX8_init 1 11 480 _ 0 [(2, 23)] [] (true, mSH.take 24) (evO [] mem)
  refine st_aload_n (i := 0) rfl (t := 0) rfl (by decide) dX8_init_0 ?_
  refine st_objInit 23 mr_X8_3 mo_ins mo_code (by decide) (Nat.le_of_ble_eq_true rfl) rfl dX8_init_1 ?_
  refine st_aload_n (i := 0) rfl (t := 0) rfl (by decide) dX8_init_4 ?_
  refine st_bipush rfl dX8_init_5 ?_
  refine sn_arr (n := 24) (kc := 10) (ks := 456) (Or.inl ⟨rfl, rfl⟩) ac_int rfl (by decide) sh_24 (by decide) dX8_init_7 ?_
  refine sn_putF 23 2 fr_X8_9_8 mty_8 (fun q h => by cases h; exact ⟨rfl, rfl⟩) rfl (Or.inr ⟨_, rfl⟩) rfl sh_23 (by decide) dX8_init_9 ?_
  refine st_aload_n (i := 0) rfl (t := 0) rfl (by decide) dX8_init_12 ?_
  refine st_bipush rfl dX8_init_13 ?_
  refine sn_arr (n := 25) (kc := 9) (ks := 432) (Or.inl ⟨rfl, rfl⟩) ac_int rfl (by decide) sh_25 (by decide) dX8_init_15 ?_
  refine sn_putF 23 3 fr_X8_15_8 mty_8 (fun q h => by cases h; exact ⟨rfl, rfl⟩) rfl (Or.inr ⟨_, rfl⟩) rfl sh_23 (by decide) dX8_init_17 ?_
  refine st_aload_n (i := 0) rfl (t := 0) rfl (by decide) dX8_init_20 ?_
  refine st_bipush rfl dX8_init_21 ?_
  refine sn_arr (n := 26) (kc := 8) (ks := 408) (Or.inl ⟨rfl, rfl⟩) ac_int rfl (by decide) sh_26 (by decide) dX8_init_23 ?_
  refine sn_putF 23 4 fr_X8_18_8 mty_8 (fun q h => by cases h; exact ⟨rfl, rfl⟩) rfl (Or.inr ⟨_, rfl⟩) rfl sh_23 (by decide) dX8_init_25 ?_
  refine st_aload_n (i := 0) rfl (t := 0) rfl (by decide) dX8_init_28 ?_
  refine st_bipush rfl dX8_init_29 ?_
  refine sn_arr (n := 27) (kc := 7) (ks := 384) (Or.inl ⟨rfl, rfl⟩) ac_int rfl (by decide) sh_27 (by decide) dX8_init_31 ?_
  refine sn_putF 23 5 fr_X8_21_8 mty_8 (fun q h => by cases h; exact ⟨rfl, rfl⟩) rfl (Or.inr ⟨_, rfl⟩) rfl sh_23 (by decide) dX8_init_33 ?_
  refine st_aload_n (i := 0) rfl (t := 0) rfl (by decide) dX8_init_36 ?_
  refine st_bipush rfl dX8_init_37 ?_
  refine sn_arr (n := 28) (kc := 6) (ks := 360) (Or.inl ⟨rfl, rfl⟩) ac_int rfl (by decide) sh_28 (by decide) dX8_init_39 ?_
  refine sn_putF 23 6 fr_X8_24_8 mty_8 (fun q h => by cases h; exact ⟨rfl, rfl⟩) rfl (Or.inr ⟨_, rfl⟩) rfl sh_23 (by decide) dX8_init_41 ?_
  refine st_aload_n (i := 0) rfl (t := 0) rfl (by decide) dX8_init_44 ?_
  refine st_bipush rfl dX8_init_45 ?_
  refine sn_arr (n := 29) (kc := 5) (ks := 336) (Or.inl ⟨rfl, rfl⟩) ac_int rfl (by decide) sh_29 (by decide) dX8_init_47 ?_
  refine sn_putF 23 7 fr_X8_27_8 mty_8 (fun q h => by cases h; exact ⟨rfl, rfl⟩) rfl (Or.inr ⟨_, rfl⟩) rfl sh_23 (by decide) dX8_init_49 ?_
  refine st_aload_n (i := 0) rfl (t := 0) rfl (by decide) dX8_init_52 ?_
  refine st_bipush rfl dX8_init_53 ?_
  refine sn_arr (n := 30) (kc := 4) (ks := 312) (Or.inl ⟨rfl, rfl⟩) ac_int rfl (by decide) sh_30 (by decide) dX8_init_55 ?_
  refine sn_putF 23 8 fr_X8_30_8 mty_8 (fun q h => by cases h; exact ⟨rfl, rfl⟩) rfl (Or.inr ⟨_, rfl⟩) rfl sh_23 (by decide) dX8_init_57 ?_
  refine st_aload_n (i := 0) rfl (t := 0) rfl (by decide) dX8_init_60 ?_
  refine st_bipush rfl dX8_init_61 ?_
  refine sn_arr (n := 31) (kc := 3) (ks := 288) (Or.inl ⟨rfl, rfl⟩) ac_int rfl (by decide) sh_31 (by decide) dX8_init_63 ?_
  refine sn_putF 23 9 fr_X8_33_8 mty_8 (fun q h => by cases h; exact ⟨rfl, rfl⟩) rfl (Or.inr ⟨_, rfl⟩) rfl sh_23 (by decide) dX8_init_65 ?_
  refine st_aload_n (i := 0) rfl (t := 0) rfl (by decide) dX8_init_68 ?_
  refine st_bipush rfl dX8_init_69 ?_
  refine sn_arr (n := 32) (kc := 2) (ks := 264) (Or.inl ⟨rfl, rfl⟩) ac_int rfl (by decide) sh_32 (by decide) dX8_init_71 ?_
  refine sn_putF 23 10 fr_X8_36_8 mty_8 (fun q h => by cases h; exact ⟨rfl, rfl⟩) rfl (Or.inr ⟨_, rfl⟩) rfl sh_23 (by decide) dX8_init_73 ?_
  refine st_aload_n (i := 0) rfl (t := 0) rfl (by decide) dX8_init_76 ?_
  refine st_bipush rfl dX8_init_77 ?_
  refine sn_arr (n := 33) (kc := 1) (ks := 256) (Or.inl ⟨rfl, rfl⟩) ac_int rfl (by decide) sh_33 (by decide) dX8_init_79 ?_
  refine sn_putF 23 11 fr_X8_39_8 mty_8 (fun q h => by cases h; exact ⟨rfl, rfl⟩) rfl (Or.inr ⟨_, rfl⟩) rfl sh_23 (by decide) dX8_init_81 ?_
  refine st_aload_n (i := 0) rfl (t := 0) rfl (by decide) dX8_init_84 ?_
  refine st_sipush rfl dX8_init_85 ?_
  refine sn_arr (n := 34) (kc := 0) (ks := 0) (Or.inl ⟨rfl, rfl⟩) ac_int rfl (by decide) sh_34 (by decide) dX8_init_88 ?_
  refine sn_putF 23 12 fr_X8_42_8 mty_8 (fun q h => by cases h; exact ⟨rfl, rfl⟩) rfl (Or.inr ⟨_, rfl⟩) rfl sh_23 (by decide) dX8_init_90 ?_
  exact st_return rfl dX8_init_93 ⟨rfl, rfl, rfl⟩
def oJ7_47 : List mmO := ((0, 37, 7, 50) :: ((0, 37, 6, 50) :: ((0, 37, 5, 50) :: ((0, 37, 4, 50) :: ((0, 37, 3, 50) :: ((0, 37, 2, 50) :: ((0, 37, 1, 50) :: ((0, 37, 0, 50) :: []))))))))
theorem ci_J7_47 (mem : mmM) : mmC bJ7_fill_53178 1 0 0 [(2, 37), (0, 50)] (true, mSH.take 47) mem (iQ 47 oJ7_47 mem) := by
  refine mmC_of [(2, 37), (0, 50), (9, 0), (9, 0)] ok_J7_fill_53178.2.2.2.2 rfl (Nat.le_of_ble_eq_true rfl) ?_
  show mmT bJ7_fill_53178 1 0 0 _ 0 [(2, 37), (0, 50), (9, 0), (9, 0)] [] (true, mSH.take 47) (evO [] mem)
  refine st_iconst dJ7_fill_53178_0 ?_
  refine st_istore_n (i := 2) (lc' := [(2, 37), (0, 50), (0, 0), (9, 0)]) rfl (by decide) rfl dJ7_fill_53178_1 ?_
  refine st_aload_n (i := 0) rfl (t := 0) rfl (by decide) dJ7_fill_53178_2 ?_
  refine st_alen 37 rfl (tk_at sh_37 (by decide)) (by decide) dJ7_fill_53178_3 ?_
  refine st_istore_n (i := 3) (lc' := [(2, 37), (0, 50), (0, 0), (0, 8)]) rfl (by decide) rfl dJ7_fill_53178_4 ?_
  refine st_iload_n (i := 2) rfl rfl dJ7_fill_53178_5 ?_
  refine st_iload_n (i := 3) rfl rfl dJ7_fill_53178_6 ?_
  refine st_icmp_ge 20 (by decide) dJ7_fill_53178_7 (fun h => absurd h (by decide)) (fun _ => ?_)
  refine st_aload_n (i := 0) rfl (t := 0) rfl (by decide) dJ7_fill_53178_10 ?_
  refine st_iload_n (i := 2) rfl rfl dJ7_fill_53178_11 ?_
  refine st_iload_n (i := 1) rfl rfl dJ7_fill_53178_12 ?_
  refine sn_ias 37 rfl sh_37 (by decide) (by decide) (by decide) (by decide) dJ7_fill_53178_13 ?_
  refine st_iinc (y := 1) (lc' := [(2, 37), (0, 50), (0, 1), (0, 8)]) (by decide) rfl rfl rfl dJ7_fill_53178_14 ?_
  refine st_goto 5 (by decide) dJ7_fill_53178_17 ?_
  refine st_iload_n (i := 2) rfl rfl dJ7_fill_53178_5 ?_
  refine st_iload_n (i := 3) rfl rfl dJ7_fill_53178_6 ?_
  refine st_icmp_ge 20 (by decide) dJ7_fill_53178_7 (fun h => absurd h (by decide)) (fun _ => ?_)
  refine st_aload_n (i := 0) rfl (t := 0) rfl (by decide) dJ7_fill_53178_10 ?_
  refine st_iload_n (i := 2) rfl rfl dJ7_fill_53178_11 ?_
  refine st_iload_n (i := 1) rfl rfl dJ7_fill_53178_12 ?_
  refine sn_ias 37 rfl sh_37 (by decide) (by decide) (by decide) (by decide) dJ7_fill_53178_13 ?_
  refine st_iinc (y := 2) (lc' := [(2, 37), (0, 50), (0, 2), (0, 8)]) (by decide) rfl rfl rfl dJ7_fill_53178_14 ?_
  refine st_goto 5 (by decide) dJ7_fill_53178_17 ?_
  refine st_iload_n (i := 2) rfl rfl dJ7_fill_53178_5 ?_
  refine st_iload_n (i := 3) rfl rfl dJ7_fill_53178_6 ?_
  refine st_icmp_ge 20 (by decide) dJ7_fill_53178_7 (fun h => absurd h (by decide)) (fun _ => ?_)
  refine st_aload_n (i := 0) rfl (t := 0) rfl (by decide) dJ7_fill_53178_10 ?_
  refine st_iload_n (i := 2) rfl rfl dJ7_fill_53178_11 ?_
  refine st_iload_n (i := 1) rfl rfl dJ7_fill_53178_12 ?_
  refine sn_ias 37 rfl sh_37 (by decide) (by decide) (by decide) (by decide) dJ7_fill_53178_13 ?_
  refine st_iinc (y := 3) (lc' := [(2, 37), (0, 50), (0, 3), (0, 8)]) (by decide) rfl rfl rfl dJ7_fill_53178_14 ?_
  refine st_goto 5 (by decide) dJ7_fill_53178_17 ?_
  refine st_iload_n (i := 2) rfl rfl dJ7_fill_53178_5 ?_
  refine st_iload_n (i := 3) rfl rfl dJ7_fill_53178_6 ?_
  refine st_icmp_ge 20 (by decide) dJ7_fill_53178_7 (fun h => absurd h (by decide)) (fun _ => ?_)
  refine st_aload_n (i := 0) rfl (t := 0) rfl (by decide) dJ7_fill_53178_10 ?_
  refine st_iload_n (i := 2) rfl rfl dJ7_fill_53178_11 ?_
  refine st_iload_n (i := 1) rfl rfl dJ7_fill_53178_12 ?_
  refine sn_ias 37 rfl sh_37 (by decide) (by decide) (by decide) (by decide) dJ7_fill_53178_13 ?_
  refine st_iinc (y := 4) (lc' := [(2, 37), (0, 50), (0, 4), (0, 8)]) (by decide) rfl rfl rfl dJ7_fill_53178_14 ?_
  refine st_goto 5 (by decide) dJ7_fill_53178_17 ?_
  refine st_iload_n (i := 2) rfl rfl dJ7_fill_53178_5 ?_
  refine st_iload_n (i := 3) rfl rfl dJ7_fill_53178_6 ?_
  refine st_icmp_ge 20 (by decide) dJ7_fill_53178_7 (fun h => absurd h (by decide)) (fun _ => ?_)
  refine st_aload_n (i := 0) rfl (t := 0) rfl (by decide) dJ7_fill_53178_10 ?_
  refine st_iload_n (i := 2) rfl rfl dJ7_fill_53178_11 ?_
  refine st_iload_n (i := 1) rfl rfl dJ7_fill_53178_12 ?_
  refine sn_ias 37 rfl sh_37 (by decide) (by decide) (by decide) (by decide) dJ7_fill_53178_13 ?_
  refine st_iinc (y := 5) (lc' := [(2, 37), (0, 50), (0, 5), (0, 8)]) (by decide) rfl rfl rfl dJ7_fill_53178_14 ?_
  refine st_goto 5 (by decide) dJ7_fill_53178_17 ?_
  refine st_iload_n (i := 2) rfl rfl dJ7_fill_53178_5 ?_
  refine st_iload_n (i := 3) rfl rfl dJ7_fill_53178_6 ?_
  refine st_icmp_ge 20 (by decide) dJ7_fill_53178_7 (fun h => absurd h (by decide)) (fun _ => ?_)
  refine st_aload_n (i := 0) rfl (t := 0) rfl (by decide) dJ7_fill_53178_10 ?_
  refine st_iload_n (i := 2) rfl rfl dJ7_fill_53178_11 ?_
  refine st_iload_n (i := 1) rfl rfl dJ7_fill_53178_12 ?_
  refine sn_ias 37 rfl sh_37 (by decide) (by decide) (by decide) (by decide) dJ7_fill_53178_13 ?_
  refine st_iinc (y := 6) (lc' := [(2, 37), (0, 50), (0, 6), (0, 8)]) (by decide) rfl rfl rfl dJ7_fill_53178_14 ?_
  refine st_goto 5 (by decide) dJ7_fill_53178_17 ?_
  refine st_iload_n (i := 2) rfl rfl dJ7_fill_53178_5 ?_
  refine st_iload_n (i := 3) rfl rfl dJ7_fill_53178_6 ?_
  refine st_icmp_ge 20 (by decide) dJ7_fill_53178_7 (fun h => absurd h (by decide)) (fun _ => ?_)
  refine st_aload_n (i := 0) rfl (t := 0) rfl (by decide) dJ7_fill_53178_10 ?_
  refine st_iload_n (i := 2) rfl rfl dJ7_fill_53178_11 ?_
  refine st_iload_n (i := 1) rfl rfl dJ7_fill_53178_12 ?_
  refine sn_ias 37 rfl sh_37 (by decide) (by decide) (by decide) (by decide) dJ7_fill_53178_13 ?_
  refine st_iinc (y := 7) (lc' := [(2, 37), (0, 50), (0, 7), (0, 8)]) (by decide) rfl rfl rfl dJ7_fill_53178_14 ?_
  refine st_goto 5 (by decide) dJ7_fill_53178_17 ?_
  refine st_iload_n (i := 2) rfl rfl dJ7_fill_53178_5 ?_
  refine st_iload_n (i := 3) rfl rfl dJ7_fill_53178_6 ?_
  refine st_icmp_ge 20 (by decide) dJ7_fill_53178_7 (fun h => absurd h (by decide)) (fun _ => ?_)
  refine st_aload_n (i := 0) rfl (t := 0) rfl (by decide) dJ7_fill_53178_10 ?_
  refine st_iload_n (i := 2) rfl rfl dJ7_fill_53178_11 ?_
  refine st_iload_n (i := 1) rfl rfl dJ7_fill_53178_12 ?_
  refine sn_ias 37 rfl sh_37 (by decide) (by decide) (by decide) (by decide) dJ7_fill_53178_13 ?_
  refine st_iinc (y := 8) (lc' := [(2, 37), (0, 50), (0, 8), (0, 8)]) (by decide) rfl rfl rfl dJ7_fill_53178_14 ?_
  refine st_goto 5 (by decide) dJ7_fill_53178_17 ?_
  refine st_iload_n (i := 2) rfl rfl dJ7_fill_53178_5 ?_
  refine st_iload_n (i := 3) rfl rfl dJ7_fill_53178_6 ?_
  refine st_icmp_ge 20 (by decide) dJ7_fill_53178_7 (fun _ => ?_) (fun h => absurd (by decide) h)
  exact st_return rfl dJ7_fill_53178_20 ⟨rfl, rfl, rfl⟩
def oX4_36 : List mmO := (oJ7_47 ++ ((0, 35, 0, 23) :: ((0, 35, 4, 39) :: ((1, 46, 0, 0) :: ((1, 45, 0, 0) :: ((1, 44, 0, 0) :: ((1, 43, 0, 0) :: ((1, 42, 0, 0) :: ((1, 41, 0, 0) :: ((1, 40, 0, 0) :: ((3, 39, 0, 40) :: ((0, 35, 3, 38) :: ((1, 38, 0, 0) :: ((0, 35, 2, 37) :: ((1, 37, 0, 0) :: ((0, 35, 1, 36) :: ((1, 36, 0, 0) :: [])))))))))))))))))
theorem ci_X4_36 (hM : mmMulti) (mem : mmM) : mmC bX4_init 2 11 222 [(2, 35), (2, 23)] (true, mSH.take 36) mem (iQ 47 oX4_36 mem) := by
  refine mmC_of [(2, 35), (2, 23)] ok_X4_init.2.2.2.2 rfl (Nat.le_of_ble_eq_true rfl) ?_
  show mmT bX4_init 2 11 222 _ 0 [(2, 35), (2, 23)] [] (true, mSH.take 36) (evO [] mem)
  refine st_aload_n (i := 0) rfl (t := 0) rfl (by decide) dX4_init_0 ?_
  refine st_objInit 35 mr_X4_3 mo_ins mo_code (by decide) (Nat.le_of_ble_eq_true rfl) rfl dX4_init_1 ?_
  refine st_aload_n (i := 0) rfl (t := 0) rfl (by decide) dX4_init_4 ?_
  refine st_bipush rfl dX4_init_5 ?_
  refine sn_arr (n := 36) (kc := 10) (ks := 214) (Or.inl ⟨rfl, rfl⟩) ac_int rfl (by decide) sh_36 (by decide) dX4_init_7 ?_
  refine sn_putF 35 1 fr_X4_9_4 mty_4 (fun q h => by cases h; exact ⟨rfl, rfl⟩) rfl (Or.inr ⟨_, rfl⟩) rfl sh_35 (by decide) dX4_init_9 ?_
  refine st_aload_n (i := 0) rfl (t := 0) rfl (by decide) dX4_init_12 ?_
  refine st_bipush rfl dX4_init_13 ?_
  refine sn_arr (n := 37) (kc := 9) (ks := 206) (Or.inl ⟨rfl, rfl⟩) ac_int rfl (by decide) sh_37 (by decide) dX4_init_15 ?_
  refine sn_putF 35 2 fr_X4_15_4 mty_4 (fun q h => by cases h; exact ⟨rfl, rfl⟩) rfl (Or.inr ⟨_, rfl⟩) rfl sh_35 (by decide) dX4_init_17 ?_
  refine st_aload_n (i := 0) rfl (t := 0) rfl (by decide) dX4_init_20 ?_
  refine st_bipush rfl dX4_init_21 ?_
  refine sn_arr (n := 38) (kc := 8) (ks := 182) (Or.inl ⟨rfl, rfl⟩) ac_int rfl (by decide) sh_38 (by decide) dX4_init_23 ?_
  refine sn_putF 35 3 fr_X4_18_4 mty_4 (fun q h => by cases h; exact ⟨rfl, rfl⟩) rfl (Or.inr ⟨_, rfl⟩) rfl sh_35 (by decide) dX4_init_25 ?_
  refine st_aload_n (i := 0) rfl (t := 0) rfl (by decide) dX4_init_28 ?_
  refine st_bipush rfl dX4_init_29 ?_
  refine st_bipush rfl dX4_init_31 ?_
  refine sn_multi (kc := 0) (ks := 0) hM (mm_wk1 200 (by decide +kernel) rfl) ac_long dX4_init_33 ?_
  refine sn_putF 35 4 fr_X4_23_4 mty_4 (fun q h => by cases h; exact ⟨rfl, rfl⟩) rfl (Or.inr ⟨_, rfl⟩) rfl sh_35 (by decide) dX4_init_37 ?_
  refine st_aload_n (i := 0) rfl (t := 0) rfl (by decide) dX4_init_40 ?_
  refine st_aload_n (i := 1) rfl (t := 0) rfl (by decide) dX4_init_41 ?_
  refine sn_putF 35 0 fr_X4_26_4 mty_4 (fun q h => by cases h; exact ⟨rfl, rfl⟩) rfl (Or.inl ⟨_, rfl⟩) rfl sh_35 (by decide) dX4_init_42 ?_
  refine st_aload_n (i := 0) rfl (t := 0) rfl (by decide) dX4_init_45 ?_
  refine sn_get 35 2 fr_X4_15_4 rfl sh_35 (by decide) (v := 37) (by decide +kernel) dX4_init_46 ?_
  refine st_bipush rfl dX4_init_49 ?_
  refine st_callS mr_X4_30 ok_J7_fill_53178 (ci_J7_47 _) rfl rfl (by decide) (kc2 := 0) (ks2 := 0) (av := [(2, 37), (0, 50)]) (by decide) (by decide) (Nat.le_of_ble_eq_true rfl) dX4_init_51 (iQ.elim ?_)
  exact st_return rfl dX4_init_54 ⟨rfl, rfl, rfl⟩
def oX6_48 : List mmO := ((0, 47, 6, 49) :: ((1, 49, 0, 0) :: ((0, 47, 3, 48) :: ((1, 48, 0, 0) :: []))))
theorem ci_X6_48 (mem : mmM) : mmC bX6_init 1 2 48 [(2, 47)] (true, mSH.take 48) mem (iQ 50 oX6_48 mem) := by
  refine mmC_of [(2, 47)] ok_X6_init.2.2.2.2 rfl (Nat.le_of_ble_eq_true rfl) ?_
  show mmT bX6_init 1 2 48 _ 0 [(2, 47)] [] (true, mSH.take 48) (evO [] mem)
  refine st_aload_n (i := 0) rfl (t := 0) rfl (by decide) dX6_init_0 ?_
  refine st_objInit 47 mr_X6_3 mo_ins mo_code (by decide) (Nat.le_of_ble_eq_true rfl) rfl dX6_init_1 ?_
  refine st_aload_n (i := 0) rfl (t := 0) rfl (by decide) dX6_init_4 ?_
  refine st_bipush rfl dX6_init_5 ?_
  refine sn_arr (n := 48) (kc := 1) (ks := 24) (Or.inl ⟨rfl, rfl⟩) ac_int rfl (by decide) sh_48 (by decide) dX6_init_7 ?_
  refine sn_putF 47 3 fr_X6_9_6 mty_6 (fun q h => by cases h; exact ⟨rfl, rfl⟩) rfl (Or.inr ⟨_, rfl⟩) rfl sh_47 (by decide) dX6_init_9 ?_
  refine st_aload_n (i := 0) rfl (t := 0) rfl (by decide) dX6_init_12 ?_
  refine st_bipush rfl dX6_init_13 ?_
  refine sn_arr (n := 49) (kc := 0) (ks := 0) (Or.inl ⟨rfl, rfl⟩) ac_int rfl (by decide) sh_49 (by decide) dX6_init_15 ?_
  refine sn_putF 47 6 fr_X6_15_6 mty_6 (fun q h => by cases h; exact ⟨rfl, rfl⟩) rfl (Or.inr ⟨_, rfl⟩) rfl sh_47 (by decide) dX6_init_17 ?_
  exact st_return rfl dX6_init_20 ⟨rfl, rfl, rfl⟩
def oX10_51 : List mmO := ((0, 50, 1, 35) :: ((0, 50, 0, 23) :: ((0, 50, 2, 51) :: ((1, 51, 0, 0) :: []))))
theorem ci_X10_51 (mem : mmM) : mmC bX10_init 1 1 200 [(2, 50), (2, 23), (2, 35)] (true, mSH.take 51) mem (iQ 52 oX10_51 mem) := by
  refine mmC_of [(2, 50), (2, 23), (2, 35)] ok_X10_init.2.2.2.2 rfl (Nat.le_of_ble_eq_true rfl) ?_
  show mmT bX10_init 1 1 200 _ 0 [(2, 50), (2, 23), (2, 35)] [] (true, mSH.take 51) (evO [] mem)
  refine st_aload_n (i := 0) rfl (t := 0) rfl (by decide) dX10_init_0 ?_
  refine st_objInit 50 mr_X10_3 mo_ins mo_code (by decide) (Nat.le_of_ble_eq_true rfl) rfl dX10_init_1 ?_
  refine st_aload_n (i := 0) rfl (t := 0) rfl (by decide) dX10_init_4 ?_
  refine st_sipush rfl dX10_init_5 ?_
  refine sn_arr (n := 51) (kc := 0) (ks := 0) (Or.inl ⟨rfl, rfl⟩) ac_int rfl (by decide) sh_51 (by decide) dX10_init_8 ?_
  refine sn_putF 50 2 fr_X10_9_1 mty_1 (fun q h => by cases h; exact ⟨rfl, rfl⟩) rfl (Or.inr ⟨_, rfl⟩) rfl sh_50 (by decide) dX10_init_10 ?_
  refine st_aload_n (i := 0) rfl (t := 0) rfl (by decide) dX10_init_13 ?_
  refine st_aload_n (i := 1) rfl (t := 0) rfl (by decide) dX10_init_14 ?_
  refine sn_putF 50 0 fr_X10_15_1 mty_1 (fun q h => by cases h; exact ⟨rfl, rfl⟩) rfl (Or.inl ⟨_, rfl⟩) rfl sh_50 (by decide) dX10_init_15 ?_
  refine st_aload_n (i := 0) rfl (t := 0) rfl (by decide) dX10_init_18 ?_
  refine st_aload_n (i := 2) rfl (t := 0) rfl (by decide) dX10_init_19 ?_
  refine sn_putF 50 1 fr_X10_19_1 mty_1 (fun q h => by cases h; exact ⟨rfl, rfl⟩) rfl (Or.inl ⟨_, rfl⟩) rfl sh_50 (by decide) dX10_init_20 ?_
  exact st_return rfl dX10_init_23 ⟨rfl, rfl, rfl⟩
def oX1_51 : List mmO := (oX10_51 ++ [])
theorem ci_X1_51 (mem : mmM) : mmC bX1_init 2 1 200 [(2, 50), (2, 23), (2, 35)] (true, mSH.take 51) mem (iQ 52 oX1_51 mem) := by
  refine mmC_of [(2, 50), (2, 23), (2, 35)] ok_X1_init.2.2.2.2 rfl (Nat.le_of_ble_eq_true rfl) ?_
  show mmT bX1_init 2 1 200 _ 0 [(2, 50), (2, 23), (2, 35)] [] (true, mSH.take 51) (evO [] mem)
  refine st_aload_n (i := 0) rfl (t := 0) rfl (by decide) dX1_init_0 ?_
  refine st_aload_n (i := 1) rfl (t := 0) rfl (by decide) dX1_init_1 ?_
  refine st_aload_n (i := 2) rfl (t := 0) rfl (by decide) dX1_init_2 ?_
  refine st_callI 50 mr_X1_3 rfl ok_X10_init (ci_X10_51 _) rfl rfl rfl (by decide) (kc2 := 0) (ks2 := 0) (av := [(2, 23), (2, 35)]) (by decide) (by decide) (Nat.le_of_ble_eq_true rfl) dX1_init_3 (iQ.elim ?_)
  exact st_return rfl dX1_init_6 ⟨rfl, rfl, rfl⟩
def oX10_53 : List mmO := ((0, 52, 1, 35) :: ((0, 52, 0, 23) :: ((0, 52, 2, 53) :: ((1, 53, 0, 0) :: []))))
theorem ci_X10_53 (mem : mmM) : mmC bX10_init 1 1 200 [(2, 52), (2, 23), (2, 35)] (true, mSH.take 53) mem (iQ 54 oX10_53 mem) := by
  refine mmC_of [(2, 52), (2, 23), (2, 35)] ok_X10_init.2.2.2.2 rfl (Nat.le_of_ble_eq_true rfl) ?_
  show mmT bX10_init 1 1 200 _ 0 [(2, 52), (2, 23), (2, 35)] [] (true, mSH.take 53) (evO [] mem)
  refine st_aload_n (i := 0) rfl (t := 0) rfl (by decide) dX10_init_0 ?_
  refine st_objInit 52 mr_X10_3 mo_ins mo_code (by decide) (Nat.le_of_ble_eq_true rfl) rfl dX10_init_1 ?_
  refine st_aload_n (i := 0) rfl (t := 0) rfl (by decide) dX10_init_4 ?_
  refine st_sipush rfl dX10_init_5 ?_
  refine sn_arr (n := 53) (kc := 0) (ks := 0) (Or.inl ⟨rfl, rfl⟩) ac_int rfl (by decide) sh_53 (by decide) dX10_init_8 ?_
  refine sn_putF 52 2 fr_X10_9_5 mty_5 (fun q h => by cases h; exact ⟨rfl, rfl⟩) rfl (Or.inr ⟨_, rfl⟩) rfl sh_52 (by decide) dX10_init_10 ?_
  refine st_aload_n (i := 0) rfl (t := 0) rfl (by decide) dX10_init_13 ?_
  refine st_aload_n (i := 1) rfl (t := 0) rfl (by decide) dX10_init_14 ?_
  refine sn_putF 52 0 fr_X10_15_5 mty_5 (fun q h => by cases h; exact ⟨rfl, rfl⟩) rfl (Or.inl ⟨_, rfl⟩) rfl sh_52 (by decide) dX10_init_15 ?_
  refine st_aload_n (i := 0) rfl (t := 0) rfl (by decide) dX10_init_18 ?_
  refine st_aload_n (i := 2) rfl (t := 0) rfl (by decide) dX10_init_19 ?_
  refine sn_putF 52 1 fr_X10_19_5 mty_5 (fun q h => by cases h; exact ⟨rfl, rfl⟩) rfl (Or.inl ⟨_, rfl⟩) rfl sh_52 (by decide) dX10_init_20 ?_
  exact st_return rfl dX10_init_23 ⟨rfl, rfl, rfl⟩
def oX5_53 : List mmO := ((0, 52, 12, 54) :: ((1, 54, 0, 0) :: (oX10_53 ++ [])))
theorem ci_X5_53 (mem : mmM) : mmC bX5_init 2 2 224 [(2, 52), (2, 23), (2, 35)] (true, mSH.take 53) mem (iQ 55 oX5_53 mem) := by
  refine mmC_of [(2, 52), (2, 23), (2, 35)] ok_X5_init.2.2.2.2 rfl (Nat.le_of_ble_eq_true rfl) ?_
  show mmT bX5_init 2 2 224 _ 0 [(2, 52), (2, 23), (2, 35)] [] (true, mSH.take 53) (evO [] mem)
  refine st_aload_n (i := 0) rfl (t := 0) rfl (by decide) dX5_init_0 ?_
  refine st_aload_n (i := 1) rfl (t := 0) rfl (by decide) dX5_init_1 ?_
  refine st_aload_n (i := 2) rfl (t := 0) rfl (by decide) dX5_init_2 ?_
  refine st_callI 52 mr_X5_3 rfl ok_X10_init (ci_X10_53 _) rfl rfl rfl (by decide) (kc2 := 1) (ks2 := 24) (av := [(2, 23), (2, 35)]) (by decide) (by decide) (Nat.le_of_ble_eq_true rfl) dX5_init_3 (iQ.elim ?_)
  refine st_aload_n (i := 0) rfl (t := 0) rfl (by decide) dX5_init_6 ?_
  refine st_bipush rfl dX5_init_7 ?_
  refine sn_arr (n := 54) (kc := 0) (ks := 0) (Or.inl ⟨rfl, rfl⟩) ac_int rfl (by decide) sh_54 (by decide) dX5_init_9 ?_
  refine sn_putF 52 12 fr_X5_9_5 mty_5 (fun q h => by cases h; exact ⟨rfl, rfl⟩) rfl (Or.inr ⟨_, rfl⟩) rfl sh_52 (by decide) dX5_init_11 ?_
  exact st_return rfl dX5_init_14 ⟨rfl, rfl, rfl⟩
def oX10_56 : List mmO := ((0, 55, 1, 35) :: ((0, 55, 0, 23) :: ((0, 55, 2, 56) :: ((1, 56, 0, 0) :: []))))
theorem ci_X10_56 (mem : mmM) : mmC bX10_init 1 1 200 [(2, 55), (2, 23), (2, 35)] (true, mSH.take 56) mem (iQ 57 oX10_56 mem) := by
  refine mmC_of [(2, 55), (2, 23), (2, 35)] ok_X10_init.2.2.2.2 rfl (Nat.le_of_ble_eq_true rfl) ?_
  show mmT bX10_init 1 1 200 _ 0 [(2, 55), (2, 23), (2, 35)] [] (true, mSH.take 56) (evO [] mem)
  refine st_aload_n (i := 0) rfl (t := 0) rfl (by decide) dX10_init_0 ?_
  refine st_objInit 55 mr_X10_3 mo_ins mo_code (by decide) (Nat.le_of_ble_eq_true rfl) rfl dX10_init_1 ?_
  refine st_aload_n (i := 0) rfl (t := 0) rfl (by decide) dX10_init_4 ?_
  refine st_sipush rfl dX10_init_5 ?_
  refine sn_arr (n := 56) (kc := 0) (ks := 0) (Or.inl ⟨rfl, rfl⟩) ac_int rfl (by decide) sh_56 (by decide) dX10_init_8 ?_
  refine sn_putF 55 2 fr_X10_9_5 mty_5 (fun q h => by cases h; exact ⟨rfl, rfl⟩) rfl (Or.inr ⟨_, rfl⟩) rfl sh_55 (by decide) dX10_init_10 ?_
  refine st_aload_n (i := 0) rfl (t := 0) rfl (by decide) dX10_init_13 ?_
  refine st_aload_n (i := 1) rfl (t := 0) rfl (by decide) dX10_init_14 ?_
  refine sn_putF 55 0 fr_X10_15_5 mty_5 (fun q h => by cases h; exact ⟨rfl, rfl⟩) rfl (Or.inl ⟨_, rfl⟩) rfl sh_55 (by decide) dX10_init_15 ?_
  refine st_aload_n (i := 0) rfl (t := 0) rfl (by decide) dX10_init_18 ?_
  refine st_aload_n (i := 2) rfl (t := 0) rfl (by decide) dX10_init_19 ?_
  refine sn_putF 55 1 fr_X10_19_5 mty_5 (fun q h => by cases h; exact ⟨rfl, rfl⟩) rfl (Or.inl ⟨_, rfl⟩) rfl sh_55 (by decide) dX10_init_20 ?_
  exact st_return rfl dX10_init_23 ⟨rfl, rfl, rfl⟩
def oX5_56 : List mmO := ((0, 55, 12, 57) :: ((1, 57, 0, 0) :: (oX10_56 ++ [])))
theorem ci_X5_56 (mem : mmM) : mmC bX5_init 2 2 224 [(2, 55), (2, 23), (2, 35)] (true, mSH.take 56) mem (iQ 58 oX5_56 mem) := by
  refine mmC_of [(2, 55), (2, 23), (2, 35)] ok_X5_init.2.2.2.2 rfl (Nat.le_of_ble_eq_true rfl) ?_
  show mmT bX5_init 2 2 224 _ 0 [(2, 55), (2, 23), (2, 35)] [] (true, mSH.take 56) (evO [] mem)
  refine st_aload_n (i := 0) rfl (t := 0) rfl (by decide) dX5_init_0 ?_
  refine st_aload_n (i := 1) rfl (t := 0) rfl (by decide) dX5_init_1 ?_
  refine st_aload_n (i := 2) rfl (t := 0) rfl (by decide) dX5_init_2 ?_
  refine st_callI 55 mr_X5_3 rfl ok_X10_init (ci_X10_56 _) rfl rfl rfl (by decide) (kc2 := 1) (ks2 := 24) (av := [(2, 23), (2, 35)]) (by decide) (by decide) (Nat.le_of_ble_eq_true rfl) dX5_init_3 (iQ.elim ?_)
  refine st_aload_n (i := 0) rfl (t := 0) rfl (by decide) dX5_init_6 ?_
  refine st_bipush rfl dX5_init_7 ?_
  refine sn_arr (n := 57) (kc := 0) (ks := 0) (Or.inl ⟨rfl, rfl⟩) ac_int rfl (by decide) sh_57 (by decide) dX5_init_9 ?_
  refine sn_putF 55 12 fr_X5_9_5 mty_5 (fun q h => by cases h; exact ⟨rfl, rfl⟩) rfl (Or.inr ⟨_, rfl⟩) rfl sh_55 (by decide) dX5_init_11 ?_
  exact st_return rfl dX5_init_14 ⟨rfl, rfl, rfl⟩
def oX7_59 : List mmO := ((0, 58, 1, 35) :: ((0, 58, 0, 23) :: ((0, 58, 7, 64) :: ((1, 64, 0, 0) :: ((0, 58, 6, 63) :: ((1, 63, 0, 0) :: ((0, 58, 5, 62) :: ((1, 62, 0, 0) :: ((0, 58, 4, 61) :: ((1, 61, 0, 0) :: ((0, 58, 3, 60) :: ((1, 60, 0, 0) :: ((0, 58, 2, 59) :: ((1, 59, 0, 0) :: []))))))))))))))
theorem ci_X7_59 (mem : mmM) : mmC bX7_init 1 6 144 [(2, 58), (2, 23), (2, 35)] (true, mSH.take 59) mem (iQ 65 oX7_59 mem) := by
  refine mmC_of [(2, 58), (2, 23), (2, 35)] ok_X7_init.2.2.2.2 rfl (Nat.le_of_ble_eq_true rfl) ?_
  show mmT bX7_init 1 6 144 _ 0 [(2, 58), (2, 23), (2, 35)] [] (true, mSH.take 59) (evO [] mem)
  refine st_aload_n (i := 0) rfl (t := 0) rfl (by decide) dX7_init_0 ?_
  refine st_objInit 58 mr_X7_3 mo_ins mo_code (by decide) (Nat.le_of_ble_eq_true rfl) rfl dX7_init_1 ?_
  refine st_aload_n (i := 0) rfl (t := 0) rfl (by decide) dX7_init_4 ?_
  refine st_bipush rfl dX7_init_5 ?_
  refine sn_arr (n := 59) (kc := 5) (ks := 120) (Or.inl ⟨rfl, rfl⟩) ac_int rfl (by decide) sh_59 (by decide) dX7_init_7 ?_
  refine sn_putF 58 2 fr_X7_9_7 mty_7 (fun q h => by cases h; exact ⟨rfl, rfl⟩) rfl (Or.inr ⟨_, rfl⟩) rfl sh_58 (by decide) dX7_init_9 ?_
  refine st_aload_n (i := 0) rfl (t := 0) rfl (by decide) dX7_init_12 ?_
  refine st_bipush rfl dX7_init_13 ?_
  refine sn_arr (n := 60) (kc := 4) (ks := 96) (Or.inl ⟨rfl, rfl⟩) ac_int rfl (by decide) sh_60 (by decide) dX7_init_15 ?_
  refine sn_putF 58 3 fr_X7_15_7 mty_7 (fun q h => by cases h; exact ⟨rfl, rfl⟩) rfl (Or.inr ⟨_, rfl⟩) rfl sh_58 (by decide) dX7_init_17 ?_
  refine st_aload_n (i := 0) rfl (t := 0) rfl (by decide) dX7_init_20 ?_
  refine st_bipush rfl dX7_init_21 ?_
  refine sn_arr (n := 61) (kc := 3) (ks := 72) (Or.inr (Or.inl ⟨rfl, rfl⟩)) ac_long rfl (by decide) sh_61 (by decide) dX7_init_23 ?_
  refine sn_putN 58 4 fr_X7_18_7 mty_7 (fun q h => by cases h; rfl) (Or.inr ⟨_, rfl⟩) rfl sh_58 (by decide) dX7_init_25 ?_
  refine st_aload_n (i := 0) rfl (t := 0) rfl (by decide) dX7_init_28 ?_
  refine st_bipush rfl dX7_init_29 ?_
  refine sn_arr (n := 62) (kc := 2) (ks := 48) (Or.inr (Or.inl ⟨rfl, rfl⟩)) ac_long rfl (by decide) sh_62 (by decide) dX7_init_31 ?_
  refine sn_putN 58 5 fr_X7_22_7 mty_7 (fun q h => by cases h; rfl) (Or.inr ⟨_, rfl⟩) rfl sh_58 (by decide) dX7_init_33 ?_
  refine st_aload_n (i := 0) rfl (t := 0) rfl (by decide) dX7_init_36 ?_
  refine st_bipush rfl dX7_init_37 ?_
  refine sn_arr (n := 63) (kc := 1) (ks := 24) (Or.inr (Or.inl ⟨rfl, rfl⟩)) ac_long rfl (by decide) sh_63 (by decide) dX7_init_39 ?_
  refine sn_putF 58 6 fr_X7_25_7 mty_7 (fun q h => by cases h; exact ⟨rfl, rfl⟩) rfl (Or.inr ⟨_, rfl⟩) rfl sh_58 (by decide) dX7_init_41 ?_
  refine st_aload_n (i := 0) rfl (t := 0) rfl (by decide) dX7_init_44 ?_
  refine st_bipush rfl dX7_init_45 ?_
  refine sn_arr (n := 64) (kc := 0) (ks := 0) (Or.inr (Or.inl ⟨rfl, rfl⟩)) ac_long rfl (by decide) sh_64 (by decide) dX7_init_47 ?_
  refine sn_putF 58 7 fr_X7_28_7 mty_7 (fun q h => by cases h; exact ⟨rfl, rfl⟩) rfl (Or.inr ⟨_, rfl⟩) rfl sh_58 (by decide) dX7_init_49 ?_
  refine st_aload_n (i := 0) rfl (t := 0) rfl (by decide) dX7_init_52 ?_
  refine st_aload_n (i := 1) rfl (t := 0) rfl (by decide) dX7_init_53 ?_
  refine sn_putF 58 0 fr_X7_31_7 mty_7 (fun q h => by cases h; exact ⟨rfl, rfl⟩) rfl (Or.inl ⟨_, rfl⟩) rfl sh_58 (by decide) dX7_init_54 ?_
  refine st_aload_n (i := 0) rfl (t := 0) rfl (by decide) dX7_init_57 ?_
  refine st_aload_n (i := 2) rfl (t := 0) rfl (by decide) dX7_init_58 ?_
  refine sn_putF 58 1 fr_X7_35_7 mty_7 (fun q h => by cases h; exact ⟨rfl, rfl⟩) rfl (Or.inl ⟨_, rfl⟩) rfl sh_58 (by decide) dX7_init_59 ?_
  exact st_return rfl dX7_init_62 ⟨rfl, rfl, rfl⟩
def oX11_1 : List mmO := ((0, 0, 12, -1) :: ((0, 0, 10, 58) :: (oX7_59 ++ ((2, 58, 7, 0) :: ((0, 0, 9, 55) :: (oX5_56 ++ ((2, 55, 5, 0) :: ((0, 0, 8, 52) :: (oX5_53 ++ ((2, 52, 5, 0) :: ((0, 0, 7, 50) :: (oX1_51 ++ ((2, 50, 1, 0) :: ((0, 0, 6, 47) :: (oX6_48 ++ ((2, 47, 6, 0) :: ((0, 0, 5, 35) :: (oX4_36 ++ ((2, 35, 4, 0) :: ((0, 0, 4, 23) :: (oX8_24 ++ ((2, 23, 8, 0) :: ((0, 10, 3, 20) :: (oX2_21 ++ ((2, 20, 2, 0) :: ((0, 10, 2, 17) :: (oX2_18 ++ ((2, 17, 2, 0) :: ((0, 10, 1, 14) :: (oX2_15 ++ ((2, 14, 2, 0) :: ((0, 10, 0, 11) :: (oX2_12 ++ ((2, 11, 2, 0) :: ((0, 0, 3, 10) :: ((1, 10, 0, -1) :: ((0, 0, 2, 8) :: (oX3_9 ++ ((2, 8, 3, 0) :: ((0, 0, 1, 3) :: (oX0_4 ++ ((2, 3, 0, 0) :: ((0, 0, 0, 1) :: (oX9_2 ++ ((2, 1, 9, 0) :: [])))))))))))))))))))))))))))))))))))))))))))))
theorem ci_X11_1 (hM : mmMulti) (mem : mmM) : mmC bX11_init 4 64 2960 [(2, 0)] (true, mSH.take 1) mem (iQ 65 oX11_1 mem) := by
  refine mmC_of [(2, 0), (9, 0)] ok_X11_init.2.2.2.2 rfl (Nat.le_of_ble_eq_true rfl) ?_
  show mmT bX11_init 4 64 2960 _ 0 [(2, 0), (9, 0)] [] (true, mSH.take 1) (evO [] mem)
  refine st_aload_n (i := 0) rfl (t := 0) rfl (by decide) dX11_init_0 ?_
  refine st_objInit 0 mr_X11_1 mo_ins mo_code (by decide) (Nat.le_of_ble_eq_true rfl) rfl dX11_init_1 ?_
  refine st_aload_n (i := 0) rfl (t := 0) rfl (by decide) dX11_init_4 ?_
  refine sn_new (n := 1) (kc := 63) (ks := 2957) RX9 TX9 rfl (by decide) mty_9 (by decide +kernel) inX9 (mm_wk1 37 (by decide +kernel) rfl) (mm_wk1 38 (by decide +kernel) rfl) ok_X9_init.2.1 sh_1 (by decide) dX11_init_5 ?_
  refine st_dup (by decide) dX11_init_8 ?_
  refine st_callN "SheSays" 1 mr_X11_9 rfl ok_X9_init (ci_X9_2 _) rfl rfl rfl (by decide) (kc2 := 62) (ks2 := 2797) (av := []) (by decide) (by decide) (Nat.le_of_ble_eq_true rfl) dX11_init_9 (iQ.elim ?_)
  refine sn_putF 0 0 fr_X11_10_10 mty_10 (fun q h => by cases h; exact ⟨rfl, rfl⟩) rfl (Or.inl ⟨_, rfl⟩) rfl sh_0 (by decide) dX11_init_12 ?_
  refine st_aload_n (i := 0) rfl (t := 0) rfl (by decide) dX11_init_15 ?_
  refine sn_new (n := 3) (kc := 61) (ks := 2789) RX0 TX0 rfl (by decide) mty_0 (by decide +kernel) inX0 (mm_wk1 57 (by decide +kernel) rfl) (mm_wk1 58 (by decide +kernel) rfl) ok_X0_init.2.1 sh_3 (by decide) dX11_init_16 ?_
  refine st_dup (by decide) dX11_init_19 ?_
  refine st_aload_n (i := 0) rfl (t := 0) rfl (by decide) dX11_init_20 ?_
  refine sn_get 0 0 fr_X11_10_10 rfl sh_0 (by decide) (v := 1) (by decide +kernel) dX11_init_21 ?_
  refine st_callI 3 mr_X11_18 rfl ok_X0_init (ci_X0_4 _) rfl rfl rfl (by decide) (kc2 := 57) (ks2 := 2693) (av := [(2, 1)]) (by decide) (by decide) (Nat.le_of_ble_eq_true rfl) dX11_init_24 (iQ.elim ?_)
  refine sn_putF 0 1 fr_X11_21_10 mty_10 (fun q h => by cases h; exact ⟨rfl, rfl⟩) rfl (Or.inl ⟨_, rfl⟩) rfl sh_0 (by decide) dX11_init_27 ?_
  refine st_aload_n (i := 0) rfl (t := 0) rfl (by decide) dX11_init_30 ?_
  refine sn_new (n := 8) (kc := 56) (ks := 2690) RX3 TX3 rfl (by decide) mty_3 (by decide +kernel) inX3 (mm_wk1 94 (by decide +kernel) rfl) (mm_wk1 95 (by decide +kernel) rfl) ok_X3_init.2.1 sh_8 (by decide) dX11_init_31 ?_
  refine st_dup (by decide) dX11_init_34 ?_
  refine st_aload_n (i := 0) rfl (t := 0) rfl (by decide) dX11_init_35 ?_
  refine sn_get 0 0 fr_X11_10_10 rfl sh_0 (by decide) (v := 1) (by decide +kernel) dX11_init_36 ?_
  refine st_callI 8 mr_X11_27 rfl ok_X3_init (ci_X3_9 _) rfl rfl rfl (by decide) (kc2 := 55) (ks2 := 2530) (av := [(2, 1)]) (by decide) (by decide) (Nat.le_of_ble_eq_true rfl) dX11_init_39 (iQ.elim ?_)
  refine sn_putF 0 2 fr_X11_28_10 mty_10 (fun q h => by cases h; exact ⟨rfl, rfl⟩) rfl (Or.inl ⟨_, rfl⟩) rfl sh_0 (by decide) dX11_init_42 ?_
  refine st_aload_n (i := 0) rfl (t := 0) rfl (by decide) dX11_init_45 ?_
  refine st_iconst dX11_init_46 ?_
  refine sn_anew (n := 10) (kc := 54) (ks := 2526) (mm_wk1 112 (by decide +kernel) rfl) rfl (by decide) sh_10 (by decide) dX11_init_47 ?_
  refine sn_putF 0 3 fr_X11_34_10 mty_10 (fun q h => by cases h; exact ⟨rfl, rfl⟩) rfl (Or.inr ⟨_, rfl⟩) rfl sh_0 (by decide) dX11_init_50 ?_
  refine st_iconst dX11_init_53 ?_
  refine st_istore_n (i := 1) (lc' := [(2, 0), (0, 0)]) rfl (by decide) rfl dX11_init_54 ?_
  refine st_iload_n (i := 1) rfl rfl dX11_init_55 ?_
  refine st_aload_n (i := 0) rfl (t := 0) rfl (by decide) dX11_init_56 ?_
  refine sn_get 0 3 fr_X11_34_10 rfl sh_0 (by decide) (v := 10) (by decide +kernel) dX11_init_57 ?_
  refine st_alen 10 rfl (tk_at sh_10 (by decide)) (by decide) dX11_init_60 ?_
  refine st_icmp_ge 83 (by decide) dX11_init_61 (fun h => absurd h (by decide)) (fun _ => ?_)
  refine st_aload_n (i := 0) rfl (t := 0) rfl (by decide) dX11_init_64 ?_
  refine sn_get 0 3 fr_X11_34_10 rfl sh_0 (by decide) (v := 10) (by decide +kernel) dX11_init_65 ?_
  refine st_iload_n (i := 1) rfl rfl dX11_init_68 ?_
  refine sn_new (n := 11) (kc := 53) (ks := 2522) RX2 TX2 rfl (by decide) mty_2 (by decide +kernel) inX2 (mm_wk1 112 (by decide +kernel) rfl) (mm_wk1 114 (by decide +kernel) rfl) ok_X2_init.2.1 sh_11 (by decide) dX11_init_69 ?_
  refine st_dup (by decide) dX11_init_72 ?_
  refine st_callN "SheSays" 11 mr_X11_38 rfl ok_X2_init (ci_X2_12 _) rfl rfl rfl (by decide) (kc2 := 51) (ks2 := 2298) (av := []) (by decide) (by decide) (Nat.le_of_ble_eq_true rfl) dX11_init_73 (iQ.elim ?_)
  refine sn_aas 10 11 rfl rfl sh_10 sh_11 (by decide) (by decide) (by decide) (by decide) dX11_init_76 ?_
  refine st_iinc (y := 1) (lc' := [(2, 0), (0, 1)]) (by decide) rfl rfl rfl dX11_init_77 ?_
  refine st_goto 55 (by decide) dX11_init_80 ?_
  refine st_iload_n (i := 1) rfl rfl dX11_init_55 ?_
  refine st_aload_n (i := 0) rfl (t := 0) rfl (by decide) dX11_init_56 ?_
  refine sn_get 0 3 fr_X11_34_10 rfl sh_0 (by decide) (v := 10) (by decide +kernel) dX11_init_57 ?_
  refine st_alen 10 rfl (tk_at sh_10 (by decide)) (by decide) dX11_init_60 ?_
  refine st_icmp_ge 83 (by decide) dX11_init_61 (fun h => absurd h (by decide)) (fun _ => ?_)
  refine st_aload_n (i := 0) rfl (t := 0) rfl (by decide) dX11_init_64 ?_
  refine sn_get 0 3 fr_X11_34_10 rfl sh_0 (by decide) (v := 10) (by decide +kernel) dX11_init_65 ?_
  refine st_iload_n (i := 1) rfl rfl dX11_init_68 ?_
  refine sn_new (n := 14) (kc := 50) (ks := 2294) RX2 TX2 rfl (by decide) mty_2 (by decide +kernel) inX2 (mm_wk1 112 (by decide +kernel) rfl) (mm_wk1 114 (by decide +kernel) rfl) ok_X2_init.2.1 sh_14 (by decide) dX11_init_69 ?_
  refine st_dup (by decide) dX11_init_72 ?_
  refine st_callN "SheSays" 14 mr_X11_38 rfl ok_X2_init (ci_X2_15 _) rfl rfl rfl (by decide) (kc2 := 48) (ks2 := 2070) (av := []) (by decide) (by decide) (Nat.le_of_ble_eq_true rfl) dX11_init_73 (iQ.elim ?_)
  refine sn_aas 10 14 rfl rfl sh_10 sh_14 (by decide) (by decide) (by decide) (by decide) dX11_init_76 ?_
  refine st_iinc (y := 2) (lc' := [(2, 0), (0, 2)]) (by decide) rfl rfl rfl dX11_init_77 ?_
  refine st_goto 55 (by decide) dX11_init_80 ?_
  refine st_iload_n (i := 1) rfl rfl dX11_init_55 ?_
  refine st_aload_n (i := 0) rfl (t := 0) rfl (by decide) dX11_init_56 ?_
  refine sn_get 0 3 fr_X11_34_10 rfl sh_0 (by decide) (v := 10) (by decide +kernel) dX11_init_57 ?_
  refine st_alen 10 rfl (tk_at sh_10 (by decide)) (by decide) dX11_init_60 ?_
  refine st_icmp_ge 83 (by decide) dX11_init_61 (fun h => absurd h (by decide)) (fun _ => ?_)
  refine st_aload_n (i := 0) rfl (t := 0) rfl (by decide) dX11_init_64 ?_
  refine sn_get 0 3 fr_X11_34_10 rfl sh_0 (by decide) (v := 10) (by decide +kernel) dX11_init_65 ?_
  refine st_iload_n (i := 1) rfl rfl dX11_init_68 ?_
  refine sn_new (n := 17) (kc := 47) (ks := 2066) RX2 TX2 rfl (by decide) mty_2 (by decide +kernel) inX2 (mm_wk1 112 (by decide +kernel) rfl) (mm_wk1 114 (by decide +kernel) rfl) ok_X2_init.2.1 sh_17 (by decide) dX11_init_69 ?_
  refine st_dup (by decide) dX11_init_72 ?_
  refine st_callN "SheSays" 17 mr_X11_38 rfl ok_X2_init (ci_X2_18 _) rfl rfl rfl (by decide) (kc2 := 45) (ks2 := 1842) (av := []) (by decide) (by decide) (Nat.le_of_ble_eq_true rfl) dX11_init_73 (iQ.elim ?_)
  refine sn_aas 10 17 rfl rfl sh_10 sh_17 (by decide) (by decide) (by decide) (by decide) dX11_init_76 ?_
  refine st_iinc (y := 3) (lc' := [(2, 0), (0, 3)]) (by decide) rfl rfl rfl dX11_init_77 ?_
  refine st_goto 55 (by decide) dX11_init_80 ?_
  refine st_iload_n (i := 1) rfl rfl dX11_init_55 ?_
  refine st_aload_n (i := 0) rfl (t := 0) rfl (by decide) dX11_init_56 ?_
  refine sn_get 0 3 fr_X11_34_10 rfl sh_0 (by decide) (v := 10) (by decide +kernel) dX11_init_57 ?_
  refine st_alen 10 rfl (tk_at sh_10 (by decide)) (by decide) dX11_init_60 ?_
  refine st_icmp_ge 83 (by decide) dX11_init_61 (fun h => absurd h (by decide)) (fun _ => ?_)
  refine st_aload_n (i := 0) rfl (t := 0) rfl (by decide) dX11_init_64 ?_
  refine sn_get 0 3 fr_X11_34_10 rfl sh_0 (by decide) (v := 10) (by decide +kernel) dX11_init_65 ?_
  refine st_iload_n (i := 1) rfl rfl dX11_init_68 ?_
  refine sn_new (n := 20) (kc := 44) (ks := 1838) RX2 TX2 rfl (by decide) mty_2 (by decide +kernel) inX2 (mm_wk1 112 (by decide +kernel) rfl) (mm_wk1 114 (by decide +kernel) rfl) ok_X2_init.2.1 sh_20 (by decide) dX11_init_69 ?_
  refine st_dup (by decide) dX11_init_72 ?_
  refine st_callN "SheSays" 20 mr_X11_38 rfl ok_X2_init (ci_X2_21 _) rfl rfl rfl (by decide) (kc2 := 42) (ks2 := 1614) (av := []) (by decide) (by decide) (Nat.le_of_ble_eq_true rfl) dX11_init_73 (iQ.elim ?_)
  refine sn_aas 10 20 rfl rfl sh_10 sh_20 (by decide) (by decide) (by decide) (by decide) dX11_init_76 ?_
  refine st_iinc (y := 4) (lc' := [(2, 0), (0, 4)]) (by decide) rfl rfl rfl dX11_init_77 ?_
  refine st_goto 55 (by decide) dX11_init_80 ?_
  refine st_iload_n (i := 1) rfl rfl dX11_init_55 ?_
  refine st_aload_n (i := 0) rfl (t := 0) rfl (by decide) dX11_init_56 ?_
  refine sn_get 0 3 fr_X11_34_10 rfl sh_0 (by decide) (v := 10) (by decide +kernel) dX11_init_57 ?_
  refine st_alen 10 rfl (tk_at sh_10 (by decide)) (by decide) dX11_init_60 ?_
  refine st_icmp_ge 83 (by decide) dX11_init_61 (fun _ => ?_) (fun h => absurd (by decide) h)
  refine st_aload_n (i := 0) rfl (t := 0) rfl (by decide) dX11_init_83 ?_
  refine sn_new (n := 23) (kc := 41) (ks := 1601) RX8 TX8 rfl (by decide) mty_8 (by decide +kernel) inX8 (mm_wk1 132 (by decide +kernel) rfl) (mm_wk1 133 (by decide +kernel) rfl) ok_X8_init.2.1 sh_23 (by decide) dX11_init_84 ?_
  refine st_dup (by decide) dX11_init_87 ?_
  refine st_callN "SheSays" 23 mr_X11_41 rfl ok_X8_init (ci_X8_24 _) rfl rfl rfl (by decide) (kc2 := 30) (ks2 := 1121) (av := []) (by decide) (by decide) (Nat.le_of_ble_eq_true rfl) dX11_init_88 (iQ.elim ?_)
  refine sn_putF 0 4 fr_X11_42_10 mty_10 (fun q h => by cases h; exact ⟨rfl, rfl⟩) rfl (Or.inl ⟨_, rfl⟩) rfl sh_0 (by decide) dX11_init_91 ?_
  refine st_aload_n (i := 0) rfl (t := 0) rfl (by decide) dX11_init_94 ?_
  refine sn_new (n := 35) (kc := 29) (ks := 1116) RX4 TX4 rfl (by decide) mty_4 (by decide +kernel) inX4 (mm_wk1 194 (by decide +kernel) rfl) (mm_wk1 195 (by decide +kernel) rfl) ok_X4_init.2.1 sh_35 (by decide) dX11_init_95 ?_
  refine st_dup (by decide) dX11_init_98 ?_
  refine st_aload_n (i := 0) rfl (t := 0) rfl (by decide) dX11_init_99 ?_
  refine sn_get 0 4 fr_X11_42_10 rfl sh_0 (by decide) (v := 23) (by decide +kernel) dX11_init_100 ?_
  refine st_callI 35 mr_X11_48 rfl ok_X4_init (ci_X4_36 hM _) rfl rfl rfl (by decide) (kc2 := 18) (ks2 := 894) (av := [(2, 23)]) (by decide) (by decide) (Nat.le_of_ble_eq_true rfl) dX11_init_103 (iQ.elim ?_)
  refine sn_putF 0 5 fr_X11_51_10 mty_10 (fun q h => by cases h; exact ⟨rfl, rfl⟩) rfl (Or.inl ⟨_, rfl⟩) rfl sh_0 (by decide) dX11_init_106 ?_
  refine st_aload_n (i := 0) rfl (t := 0) rfl (by decide) dX11_init_109 ?_
  refine sn_new (n := 47) (kc := 17) (ks := 887) RX6 TX6 rfl (by decide) mty_6 (by decide +kernel) inX6 (mm_wk1 228 (by decide +kernel) rfl) (mm_wk1 229 (by decide +kernel) rfl) ok_X6_init.2.1 sh_47 (by decide) dX11_init_110 ?_
  refine st_dup (by decide) dX11_init_113 ?_
  refine st_callN "SheSays" 47 mr_X11_57 rfl ok_X6_init (ci_X6_48 _) rfl rfl rfl (by decide) (kc2 := 15) (ks2 := 839) (av := []) (by decide) (by decide) (Nat.le_of_ble_eq_true rfl) dX11_init_114 (iQ.elim ?_)
  refine sn_putF 0 6 fr_X11_58_10 mty_10 (fun q h => by cases h; exact ⟨rfl, rfl⟩) rfl (Or.inl ⟨_, rfl⟩) rfl sh_0 (by decide) dX11_init_117 ?_
  refine st_aload_n (i := 0) rfl (t := 0) rfl (by decide) dX11_init_120 ?_
  refine sn_new (n := 50) (kc := 14) (ks := 828) RX1 TX1 rfl (by decide) mty_1 (by decide +kernel) inX1 (mm_wk2 21 (by decide +kernel) rfl) (mm_wk2 22 (by decide +kernel) rfl) ok_X1_init.2.1 sh_50 (by decide) dX11_init_121 ?_
  refine st_dup (by decide) dX11_init_124 ?_
  refine st_aload_n (i := 0) rfl (t := 0) rfl (by decide) dX11_init_125 ?_
  refine sn_get 0 4 fr_X11_42_10 rfl sh_0 (by decide) (v := 23) (by decide +kernel) dX11_init_126 ?_
  refine st_aload_n (i := 0) rfl (t := 0) rfl (by decide) dX11_init_129 ?_
  refine sn_get 0 5 fr_X11_51_10 rfl sh_0 (by decide) (v := 35) (by decide +kernel) dX11_init_130 ?_
  refine st_callI 50 mr_X11_64 rfl ok_X1_init (ci_X1_51 _) rfl rfl rfl (by decide) (kc2 := 13) (ks2 := 628) (av := [(2, 23), (2, 35)]) (by decide) (by decide) (Nat.le_of_ble_eq_true rfl) dX11_init_133 (iQ.elim ?_)
  refine sn_putF 0 7 fr_X11_67_10 mty_10 (fun q h => by cases h; exact ⟨rfl, rfl⟩) rfl (Or.inl ⟨_, rfl⟩) rfl sh_0 (by decide) dX11_init_136 ?_
  refine st_aload_n (i := 0) rfl (t := 0) rfl (by decide) dX11_init_139 ?_
  refine sn_new (n := 52) (kc := 12) (ks := 615) RX5 TX5 rfl (by decide) mty_5 (by decide +kernel) inX5 (mm_wk2 90 (by decide +kernel) rfl) (mm_wk2 91 (by decide +kernel) rfl) ok_X5_init.2.1 sh_52 (by decide) dX11_init_140 ?_
  refine st_dup (by decide) dX11_init_143 ?_
  refine st_aload_n (i := 0) rfl (t := 0) rfl (by decide) dX11_init_144 ?_
  refine sn_get 0 4 fr_X11_42_10 rfl sh_0 (by decide) (v := 23) (by decide +kernel) dX11_init_145 ?_
  refine st_aload_n (i := 0) rfl (t := 0) rfl (by decide) dX11_init_148 ?_
  refine sn_get 0 5 fr_X11_51_10 rfl sh_0 (by decide) (v := 35) (by decide +kernel) dX11_init_149 ?_
  refine st_callI 52 mr_X11_73 rfl ok_X5_init (ci_X5_53 _) rfl rfl rfl (by decide) (kc2 := 10) (ks2 := 391) (av := [(2, 23), (2, 35)]) (by decide) (by decide) (Nat.le_of_ble_eq_true rfl) dX11_init_152 (iQ.elim ?_)
  refine sn_putF 0 8 fr_X11_74_10 mty_10 (fun q h => by cases h; exact ⟨rfl, rfl⟩) rfl (Or.inl ⟨_, rfl⟩) rfl sh_0 (by decide) dX11_init_155 ?_
  refine st_aload_n (i := 0) rfl (t := 0) rfl (by decide) dX11_init_158 ?_
  refine sn_new (n := 55) (kc := 9) (ks := 378) RX5 TX5 rfl (by decide) mty_5 (by decide +kernel) inX5 (mm_wk2 90 (by decide +kernel) rfl) (mm_wk2 91 (by decide +kernel) rfl) ok_X5_init.2.1 sh_55 (by decide) dX11_init_159 ?_
  refine st_dup (by decide) dX11_init_162 ?_
  refine st_aload_n (i := 0) rfl (t := 0) rfl (by decide) dX11_init_163 ?_
  refine sn_get 0 4 fr_X11_42_10 rfl sh_0 (by decide) (v := 23) (by decide +kernel) dX11_init_164 ?_
  refine st_aload_n (i := 0) rfl (t := 0) rfl (by decide) dX11_init_167 ?_
  refine sn_get 0 5 fr_X11_51_10 rfl sh_0 (by decide) (v := 35) (by decide +kernel) dX11_init_168 ?_
  refine st_callI 55 mr_X11_73 rfl ok_X5_init (ci_X5_56 _) rfl rfl rfl (by decide) (kc2 := 7) (ks2 := 154) (av := [(2, 23), (2, 35)]) (by decide) (by decide) (Nat.le_of_ble_eq_true rfl) dX11_init_171 (iQ.elim ?_)
  refine sn_putF 0 9 fr_X11_78_10 mty_10 (fun q h => by cases h; exact ⟨rfl, rfl⟩) rfl (Or.inl ⟨_, rfl⟩) rfl sh_0 (by decide) dX11_init_174 ?_
  refine st_aload_n (i := 0) rfl (t := 0) rfl (by decide) dX11_init_177 ?_
  refine sn_new (n := 58) (kc := 6) (ks := 144) RX7 TX7 rfl (by decide) mty_7 (by decide +kernel) inX7 (mm_wk2 126 (by decide +kernel) rfl) (mm_wk2 127 (by decide +kernel) rfl) ok_X7_init.2.1 sh_58 (by decide) dX11_init_178 ?_
  refine st_dup (by decide) dX11_init_181 ?_
  refine st_aload_n (i := 0) rfl (t := 0) rfl (by decide) dX11_init_182 ?_
  refine sn_get 0 4 fr_X11_42_10 rfl sh_0 (by decide) (v := 23) (by decide +kernel) dX11_init_183 ?_
  refine st_aload_n (i := 0) rfl (t := 0) rfl (by decide) dX11_init_186 ?_
  refine sn_get 0 5 fr_X11_51_10 rfl sh_0 (by decide) (v := 35) (by decide +kernel) dX11_init_187 ?_
  refine st_callI 58 mr_X11_83 rfl ok_X7_init (ci_X7_59 _) rfl rfl rfl (by decide) (kc2 := 0) (ks2 := 0) (av := [(2, 23), (2, 35)]) (by decide) (by decide) (Nat.le_of_ble_eq_true rfl) dX11_init_190 (iQ.elim ?_)
  refine sn_putF 0 10 fr_X11_84_10 mty_10 (fun q h => by cases h; exact ⟨rfl, rfl⟩) rfl (Or.inl ⟨_, rfl⟩) rfl sh_0 (by decide) dX11_init_193 ?_
  refine st_aload_n (i := 0) rfl (t := 0) rfl (by decide) dX11_init_196 ?_
  refine st_iconst dX11_init_197 ?_
  refine sn_putI 0 12 fr_X11_88_10 mty_10 (fun q h => by cases h; rfl) rfl (by decide) rfl sh_0 (by decide) dX11_init_198 ?_
  exact st_return rfl dX11_init_201 ⟨rfl, rfl, rfl⟩
