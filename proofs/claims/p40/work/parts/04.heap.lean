/-! what is written and read -/
def mset (mem : mmM) (a : Nat) (k v : Int) : mmM := fun a' k' => if a' = a ∧ k' = k then v else mem a' k'
def mrow (mem : mmM) (a : Nat) (f : Int → Int) : mmM := fun a' => if a' = a then f else mem a'
theorem mset_ne {mem : mmM} {a a' : Nat} {k v : Int} (h : a' ≠ a) : mset mem a k v a' = mem a' := by
  funext k'
  simp [mset, h]
theorem mset_same (mem : mmM) (a : Nat) (k v : Int) : mset mem a k v a k = v := by simp [mset]
theorem mset_at (mem : mmM) (a : Nat) (k v j : Int) : mset mem a k v a j = if j = k then v else mem a j := by simp [mset]
theorem mrow_ne {mem : mmM} {a a' : Nat} {f : Int → Int} (h : a' ≠ a) : mrow mem a f a' = mem a' := by simp [mrow, h]
theorem mrow_same (mem : mmM) (a : Nat) (f : Int → Int) : mrow mem a f a = f := by simp [mrow]
theorem mm_cell (G : mmG) (cA : ClassId) (t n : Nat) (f : Int → Int) : vp_cell cA (n, mmA G t f) = arrV cA n (fun j => mmEnc G (mm_at t, f j)) := by
  unfold mmA mm_at
  split
  · rfl
  · split
    · rfl
    · rfl
theorem mmW_get {G : mmG} {sh : List (Nat × Nat)} {mem : mmM} {a : Nat} {q : Nat × Nat} (h : sh[a]? = some q) : (mmW G sh mem)[a]? = some (mmAt G a, mmE G q (mem a)) := by
  have hl := (List.getElem?_eq_some_iff.mp h).1
  unfold mmW
  rw [List.getElem?_map, List.getElem?_range hl]
  simp [List.getD, h]
theorem mmW_len {G : mmG} {sh : List (Nat × Nat)} {mem : mmM} : (mmW G sh mem).length = sh.length := by simp [mmW]
theorem mmW_of {G : mmG} {sh : List (Nat × Nat)} {mem : mmM} {k : Nat} {x : Nat × va_E} (h : (mmW G sh mem)[k]? = some x) : ∃ q, sh[k]? = some q ∧ x = (mmAt G k, mmE G q (mem k)) := by
  have hl : k < sh.length := by
    have := (List.getElem?_eq_some_iff.mp h).1
    rwa [mmW_len] at this
  refine ⟨sh[k], List.getElem?_eq_getElem hl, ?_⟩
  rw [mmW_get (List.getElem?_eq_getElem hl)] at h
  exact (Option.some.inj h).symm
theorem mmAt_inj {G : mmG} {i j : Nat} (h : G.1.2 + 65 ≤ G.2.2.2.1.1) (e : mmAt G i = mmAt G j) : i = j := by
  unfold mmAt at e
  split at e <;> split at e <;> omega
theorem mmAt_ad {G : mmG} {n z a : Nat} {b : Bool} (h : mmHo G n b z) (ha : a < n) : mmAd G (mmAt G a) := by
  obtain ⟨h1, -, h3⟩ := h
  unfold mmAd mmAt
  split <;> omega
theorem mmAt_lt {G : mmG} {i j : Nat} (h : G.1.2 + 65 ≤ G.2.2.2.1.1) (e : i < j) : mmAt G i < mmAt G j := by
  unfold mmAt
  split <;> split <;> omega
theorem mmAt_succ {G : mmG} {n z : Nat} (h : mmHo G n true z) : mmAt G (n + 1) = mmAt G n + 1 := by
  obtain ⟨-, h2, -⟩ := h
  have h3 := h2 rfl
  unfold mmAt
  by_cases e : n = 64
  · subst e
    rw [if_neg (by decide), if_pos (by decide), h3 (by decide)]
  · split <;> split <;> omega
theorem mmHo_new {G : mmG} {n z z' : Nat} (h : mmHo G n true z) (hz : z ≤ z') : mmHo G (n + 1) true z' := ⟨h.1, fun _ hn => h.2.1 rfl (by omega), h.2.2.imp id (fun w => ⟨w.1, Nat.le_trans w.2.1 hz, Or.inr (w.2.2.2 rfl), w.2.2.2⟩)⟩
theorem mmAt_ge {G : mmG} {a : Nat} (h : G.1.2 + 65 ≤ G.2.2.2.1.1) : G.1.2 ≤ mmAt G a := by
  unfold mmAt
  split <;> omega
theorem mmW_D {G : mmG} {sh : List (Nat × Nat)} {mem : mmM} {b : Bool} {z : Nat} (h : mmHo G sh.length b z) : va_D (mmAd G) (mmW G sh mem) := by
  refine ⟨fun i j p q hi hj hpq => ?_, fun k q hk => ?_⟩
  · obtain ⟨x, -, rfl⟩ := mmW_of hi
    obtain ⟨y, -, rfl⟩ := mmW_of hj
    exact mmAt_inj h.1 hpq
  · obtain ⟨x, hx, rfl⟩ := mmW_of hk
    exact mmAt_ad h (List.getElem?_eq_some_iff.mp hx).1
theorem mm_fits {ty : FieldType} {G : mmG} {v : Int} (hty : ty = .int ∨ ty = .long ∨ ((ty = .boolean ∨ ty = .byte) ∧ (v = 0 ∨ v = 1)) ∨ (∃ n, ty = .object n) ∨ ∃ n, ty = .array n) : narrow ty (mmEnc G (mm_tg ty, v)) = mmEnc G (mm_tg ty, v) ∧ fits ty (mmEnc G (mm_tg ty, v)) = true := by
  rcases hty with rfl | rfl | ⟨rfl | rfl, hv⟩ | ⟨n, rfl⟩ | ⟨n, rfl⟩
  · exact ⟨rfl, rfl⟩
  · exact ⟨rfl, rfl⟩
  · rcases hv with rfl | rfl <;> exact ⟨rfl, rfl⟩
  · rcases hv with rfl | rfl <;> exact ⟨rfl, rfl⟩
  · show narrow (.object n) (va_rf (mmRf G v)) = va_rf (mmRf G v) ∧ fits (.object n) (va_rf (mmRf G v)) = true
    unfold mmRf
    split <;> exact ⟨rfl, rfl⟩
  · show narrow (.array n) (va_rf (mmRf G v)) = va_rf (mmRf G v) ∧ fits (.array n) (va_rf (mmRf G v)) = true
    unfold mmRf
    split <;> exact ⟨rfl, rfl⟩
theorem mFix_set {mem : mmM} {a : Nat} {k v : Int} (h : mFix mem) (hk : fixOK a k = true) : mFix (mset mem a k v) := by
  intro q hq
  have h1 := List.all_eq_true.mp hk q hq
  show mset mem a k v q.1 q.2.1 = q.2.2
  unfold mset
  rw [if_neg (fun e => by rw [e.1, e.2] at h1; simp at h1)]
  exact h q hq
theorem fix_row {a : Nat} (h : fixRow a = true) (k : Int) : fixOK a k = true := by
  refine List.all_eq_true.mpr fun q hq => ?_
  have h1 := List.all_eq_true.mp h q hq
  simp only [Bool.not_eq_true', beq_eq_false_iff_ne, ne_eq] at h1
  simp [h1]
theorem mCan_set {sh : List (Nat × Nat)} {mem : mmM} {a : Nat} {k v : Int} {q : Nat × Nat} (h : mCan sh mem) (hq : sh[a]? = some q) (h9 : a ≠ 999) (hv : (mTag q k = 0 → R32 v) ∧ (mTag q k = 1 → R64 v)) : mCan sh (mset mem a k v) := by
  refine ⟨fun a' q' k' hq' => ?_, fun k' => by rw [mset_ne (Ne.symm h9)]; exact h.2 k'⟩
  unfold mset
  by_cases e : a' = a ∧ k' = k
  · obtain ⟨rfl, rfl⟩ := e
    cases hq.symm.trans hq'
    rw [if_pos ⟨rfl, rfl⟩]
    exact hv
  · rw [if_neg e]
    exact h.1 a' q' k' hq'
theorem mCan_row {sh sh' : List (Nat × Nat)} {mem : mmM} {a : Nat} {f : Int → Int} {q : Nat × Nat} (h : mCan sh mem) (hq : sh'[a]? = some q) (hs : ∀ a', a' ≠ a → sh'[a']? = some q → True) (ho : ∀ (a' : Nat) (q' : Nat × Nat), a' ≠ a → sh'[a']? = some q' → sh[a']? = some q') (h9 : a ≠ 999) (hv : ∀ k, (mTag q k = 0 → R32 (f k)) ∧ (mTag q k = 1 → R64 (f k))) : mCan sh' (mrow mem a f) := by
  refine ⟨fun a' q' k' hq' => ?_, fun k' => by rw [mrow_ne (Ne.symm h9)]; exact h.2 k'⟩
  by_cases e : a' = a
  · subst e
    cases hq.symm.trans hq'
    rw [mrow_same]
    exact hv k'
  · rw [mrow_ne e]
    exact h.1 a' q' k' (ho a' q' e hq')
/-- one cell is written -/
theorem mmR_put {G : mmG} {sh : mmS} {mem : mmM} {s : State} {H H1 : Heap} {a : Nat} {k v : Int} {q : Nat × Nat} (hR : mmR G sh mem s H) (hfx : sh.1 = false → fixOK a k = true) (hv : (mTag q k = 0 → R32 v) ∧ (mTag q k = 1 → R64 v)) (hq : sh.2[a]? = some q) (he : va_at G.2.1 vwCl (mmAt G a, mmE G q (mset mem a k v a)) H1) (hz : H1.size = H.size) (ho : ∀ x : Nat, x ≠ mmAt G a → H1[x]? = H[x]?) : mmR G sh (mset mem a k v) s H1 := by
  obtain ⟨h1, h2, h3, h4, h5, h6, h7, h8, h9⟩ := hR
  have hal : a < sh.2.length := (List.getElem?_eq_some_iff.mp hq).1
  refine ⟨fun h => by rw [hz]; exact h1 h, h2, fun k' x hx => ?_, ?_, h5, by rw [hz]; exact h6, h7, fun h => mFix_set (h8 h) (hfx h), mCan_set h9 hq (by omega) hv⟩
  · obtain ⟨q', hq', rfl⟩ := mmW_of hx
    by_cases e : k' = a
    · subst e
      cases hq.symm.trans hq'
      exact he
    · rw [mset_ne e]
      exact (h3 k' _ (mmW_get hq')).kept (ho _ (fun w => e (mmAt_inj h4.2.1 w)))
  · rw [mset_ne (show 999 ≠ a by omega)]
    exact ⟨h4.1.kept (ho _ (by have := mmAt_ge (a := a) h4.2.1; omega)), by rw [hz]; exact h4.2⟩
theorem mmR_rfl {G : mmG} {r : Int} {a : Nat} (h : r = (a : Int)) : mmRf G r = some (mmAt G a) := by
  subst h
  unfold mmRf
  rw [if_neg (by omega)]
  simp
theorem mm_idx {i : Int} {n : Nat} (h1 : 0 ≤ i) (h2 : i < n) (hn : n < 2147483648) : vp_in (Int32.ofInt i) n ∧ ((Int32.ofInt i).toNatClampNeg : Int) = i := by
  have e : (Int32.ofInt i).toInt = i := by rw [w32_toInt, w32_id (by omega) (by omega)]
  have e2 : ((Int32.ofInt i).toNatClampNeg : Int) = i := by
    rw [← Int32.toNat_toInt, e]
    omega
  refine ⟨fun h => ?_, e2⟩
  rcases h with h | h
  · rw [Int32.lt_iff_toInt_lt, e] at h
    have : (0 : Int32).toInt = 0 := rfl
    omega
  · omega
/-- what the tables say of an instruction that reads or writes a field -/
def mmFR (own : String) (idx ci N k tg : Nat) : Prop := ∃ (C : String) (T : u_T) (ref : String), vwCl[ci]? = some (C, T, N) ∧ ci < 20 ∧ k < N ∧ tg = mm_tg (mm_clTy ci k) ∧ (∀ w ∈ u_ws C T N, w ∈ mm_tbl) ∧ Cond.fieldLink own idx ref (T k).2.1 (T k).2.2.1 ∈ mm_tbl ∧ (ref = (T k).1 ∨ Cond.sameField ref (T k).1 (T k).2.1 (T k).2.2.1 ∈ mm_tbl)
def mmTy (ci : Nat) : Prop := ∃ (C : String) (T : u_T) (N : Nat), vwCl[ci]? = some (C, T, N) ∧ (∀ k, k < N → parseFieldDescriptor (T k).2.2.1 = some (mm_clTy ci k)) ∧ ∀ a, a < N → ∀ b, b < N → a ≠ b → (T a).2.1 ≠ (T b).2.1
theorem mmFs_get {G : mmG} {ci N k : Nat} {f : Int → Int} (h : k < N) : (mmFs G ci N f)[k]? = some (mmEnc G (mm_tg (mm_clTy ci k), f k)) := by
  unfold mmFs
  rw [List.getElem?_map, List.getElem?_range h]
  rfl
section MMhp
variable {B : mmB} {d kc ks : Nat} {Q : mmQ} {pc : Nat} {lc st : List mmV} {sh : mmS} {mem : mmM}
theorem st_getfield {idx ci N tg : Nat} {r v : Int} (a k : Nat) (hf : mmFR B.1.cls idx ci N k tg) (hr : r = (a : Int)) (hs : sh.2[a]? = some (ci, N)) (hv : mem a k = v) (hd : decode B.2.1 pc = .ok (.getfield idx, 3)) (kk : mmT B d kc ks Q (pc + 3) lc ((tg, v) :: st) sh mem) : mmT B d kc ks Q pc lc ((2, r) :: st) sh mem := by
  intro p l e R s m args below meth c G H locs cells slots ls X
  obtain ⟨C, T, ref, e1, e0, e2, e3, e4, e5, e6⟩ := hf
  have h := kk p l e R s m args below meth c G H locs cells slots ls X
  subst e3; subst hv
  have hw := mmW_get (G := G) (mem := mem) hs
  unfold mmE at hw
  rw [if_pos (show (ci, N).1 < 20 from e0)] at hw
  show W p l e R s m args below meth c H locs cells slots _ (F0 m pc ls (va_rf (mmRf G r) :: st.map (mmEnc G)))
  rw [mmR_rfl hr]
  refine va_get (C := C) (T := T) (N := N) (ci := ci) (ref := ref) X.1.1 X.1.2.1 X.1.2.2.2.2.2.1 e4 X.1.2.2.2.2.1 X.2.1.2.1 X.2.1.2.2.1 a hw e1 k e2 (X.1.2.2.2.2.2.1 _ e5) (fun x hx => ?_) (mmFs_get e2) hd h
  rcases e6 with e6 | e6
  · rw [e6]; exact hx
  · exact u_same (X.1.2.2.2.2.2.1 _ e6) x hx
theorem mmX_put {a : Nat} {k v : Int} {q : Nat × Nat} {G : mmG} {p : Program} {l : Launch} {R : Room} {s : State} {m : MethodId} {args : Array Value} {meth : Method} {c : Code} {H H1 : Heap} {locs : List Loc} {cells slots j : Nat} {ls : Array Slot} (X : mmX B d kc ks G sh mem lc p l R s m args meth c H locs cells slots ls) (hfx : sh.1 = false → fixOK a k = true) (hv : (mTag q k = 0 → R32 v) ∧ (mTag q k = 1 → R64 v)) (hq : sh.2[a]? = some q) (he : va_at G.2.1 vwCl (mmAt G a, mmE G q (mset mem a k v a)) H1) (hz : H1.size = H.size) (ho : ∀ x : Nat, x ≠ mmAt G a → H1[x]? = H[x]?) : mmX B d kc ks G sh (mset mem a k v) lc p l R s m args meth c H1 (locs ++ [⟨mmAt G a, j⟩]) cells slots ls :=
  ⟨X.1, mmR_put X.2.1 hfx hv hq he hz ho, X.2.2.1.put hz ho (mmAt_ad X.2.1.2.2.2.1.2 (List.getElem?_eq_some_iff.mp hq).1), X.2.2.2.1, X.2.2.2.2⟩
theorem mm_putV {ci N k : Nat} {G : mmG} {mem : mmM} {a : Nat} {v : Int} (hk : k < N) (j : Nat) (hj : j < N) : updV (vp_V (mmFs G ci N (mem a))) k (mmEnc G (mm_tg (mm_clTy ci k), v)) j = vp_V (mmFs G ci N (mset mem a k v a)) j := by
  unfold updV vp_V
  rw [List.getD_eq_getElem?_getD, List.getD_eq_getElem?_getD, mmFs_get hj, mmFs_get hj, mset_at]
  by_cases e : j = k
  · subst e
    simp
  · rw [if_neg e, if_neg (by omega)]
theorem st_putfield {idx ci N tg : Nat} {r v : Int} (a k : Nat) (hfx : sh.1 = false → fixOK a k = true) (hcv : (mTag (ci, N) k = 0 → R32 v) ∧ (mTag (ci, N) k = 1 → R64 v)) (hf : mmFR B.1.cls idx ci N k tg) (hm : mmTy ci) (hfin : ∀ q, vwCl[ci]? = some q → (q.2.1 k).2.2.2 = false) (hty : mm_clTy ci k = .int ∨ mm_clTy ci k = .long ∨ ((mm_clTy ci k = .boolean ∨ mm_clTy ci k = .byte) ∧ (v = 0 ∨ v = 1)) ∨ (∃ n, mm_clTy ci k = .object n) ∨ ∃ n, mm_clTy ci k = .array n) (hr : r = (a : Int)) (hs : sh.2[a]? = some (ci, N)) (hd : decode B.2.1 pc = .ok (.putfield idx, 3)) (kk : mmT B d kc ks Q (pc + 3) lc st sh (mset mem a k v)) : mmT B d kc ks Q pc lc ((tg, v) :: (2, r) :: st) sh mem := by
  intro p l e R s m args below meth c G H locs cells slots ls X
  obtain ⟨C, T, ref, e1, e0, e2, e3, e4, e5, e6⟩ := hf
  obtain ⟨C', T', N', f1, f2, f3⟩ := hm
  cases e1.symm.trans f1
  have hfin := hfin _ e1
  dsimp only at hfin
  subst e3
  have hts := X.1.2.2.2.2.2.1
  obtain ⟨n1, n2⟩ := mm_fits (G := G) hty
  have hw := mmW_get (G := G) (mem := mem) hs
  unfold mmE at hw
  rw [if_pos (show (ci, N).1 < 20 from e0)] at hw
  have hP := X.2.1.2.2.1
  have hK := X.2.1.2.1
  have hap := va_apart (own := B.1.cls) hts e4 (mm_clTy ci) f2 f3 hK e1
  obtain ⟨q0, h1, cell, q1, q2, q3, q4⟩ := hP a _ hw
  have hq0 : q0 = (C, T, N) := Option.some.inj (h1.symm.trans e1)
  subst hq0
  obtain ⟨hS, hfc, kC, hkC, hkind⟩ := hK.1 ci _ e1
  obtain ⟨cf, kf, fi, f, hi, hsl⟩ := hS k e2
  have hlay := hts _ (e4 _ (u_in_lay e2))
  unfold u_lay at hlay
  rw [if_neg (by rw [hfin]; decide)] at hlay
  have hst := (u_facts hfc hkC (u_lays hts e4 e2) hi).1
  have h6 := u_store hfc hkC hkind hlay hi (f2 k e2) n1 n2
  show W p l e R s m args below meth c H locs cells slots _ (F0 m pc ls (mmEnc G (mm_tg (mm_clTy ci k), v) :: va_rf (mmRf G r) :: st.map (mmEnc G)))
  rw [mmR_rfl hr]
  refine W.putK X.1.1 X.1.2.1 (f := f) (ref := ref) (index := idx) ⟨X.1.2.2.2.2.1, hts _ e5, ⟨cf, kf, fi, ?_⟩, hst⟩ (by rw [q2]; exact h6) q1 q3 (by rw [hsl]; exact k2_hasslot (q4 k e2)) rfl rfl hd fun H' g1 g2 g3 => ?_
  · rcases e6 with e6 | e6
    · rw [e6]; exact hi
    · exact u_same (hts _ e6) _ hi
  · rw [hsl] at g1 ⊢
    refine kk p l e R s m args below meth c G H' _ cells slots ls (mmX_put X hfx hcv hs ?_ g2 g3)
    unfold mmE
    rw [if_pos (show (ci, N).1 < 20 from e0)]
    exact ⟨_, e1, t_OB.to (V := updV (vp_V (mmFs G ci N (mem a))) k (mmEnc G (mm_tg (mm_clTy ci k), v))) ⟨_, g1, q2, q3, t_set q4 hap e2 _⟩ (fun j hj => mm_putV e2 j hj)⟩
theorem st_putfinal {idx ci N tg : Nat} {r v : Int} (a k : Nat) (hfx : sh.1 = false → fixOK a k = true) (hcv : (mTag (ci, N) k = 0 → R32 v) ∧ (mTag (ci, N) k = 1 → R64 v)) (hf : mmFR B.1.cls idx ci N k tg) (hm : mmTy ci) (hfin : ∀ q, vwCl[ci]? = some q → (q.2.1 k).2.2.2 = true ∧ (q.2.1 k).1 = B.1.cls) (hin : B.1.name = "<init>") (hty : mm_clTy ci k = .int ∨ mm_clTy ci k = .long ∨ ((mm_clTy ci k = .boolean ∨ mm_clTy ci k = .byte) ∧ (v = 0 ∨ v = 1)) ∨ (∃ n, mm_clTy ci k = .object n) ∨ ∃ n, mm_clTy ci k = .array n) (hr : r = (a : Int)) (hs : sh.2[a]? = some (ci, N)) (hd : decode B.2.1 pc = .ok (.putfield idx, 3)) (kk : mmT B d kc ks Q (pc + 3) lc st sh (mset mem a k v)) : mmT B d kc ks Q pc lc ((tg, v) :: (2, r) :: st) sh mem := by
  intro p l e R s m args below meth c G H locs cells slots ls X
  obtain ⟨C, T, ref, e1, e0, e2, e3, e4, e5, e6⟩ := hf
  obtain ⟨C', T', N', f1, f2, f3⟩ := hm
  cases e1.symm.trans f1
  obtain ⟨hfin, hdecl⟩ := hfin _ e1
  dsimp only at hfin hdecl
  subst e3
  have hts := X.1.2.2.2.2.2.1
  obtain ⟨n1, n2⟩ := mm_fits (G := G) hty
  have hw := mmW_get (G := G) (mem := mem) hs
  unfold mmE at hw
  rw [if_pos (show (ci, N).1 < 20 from e0)] at hw
  have hP := X.2.1.2.2.1
  have hK := X.2.1.2.1
  have hap := va_apart (own := B.1.cls) hts e4 (mm_clTy ci) f2 f3 hK e1
  obtain ⟨q0, h1, cell, q1, q2, q3, q4⟩ := hP a _ hw
  have hq0 : q0 = (C, T, N) := Option.some.inj (h1.symm.trans e1)
  subst hq0
  obtain ⟨hS, hfc, kC, hkC, hkind⟩ := hK.1 ci _ e1
  obtain ⟨cf, kf, fi, f, hi, hsl⟩ := hS k e2
  have hlay := hts _ (e4 _ (u_in_lay e2))
  unfold u_lay at hlay
  rw [if_pos hfin] at hlay
  have hst := (u_facts hfc hkC (u_lays hts e4 e2) hi).1
  have hcf : m.cls = cf := by
    obtain ⟨_, _, c', _, _, _, -, -, hf', -, -, -, hown2, -⟩ := Cond.laysFinal_spec hlay
    have g1 : c' = cf := by have := hi.symm.trans hf'; simp at this; exact this.1.symm
    rw [hdecl] at hown2
    rw [← g1]; exact Option.some.inj (X.1.2.2.2.2.1.symm.trans hown2)
  have h6 := u_fits hfc hkC hkind (Or.inr hlay) hi (f2 k e2) n1 n2
  show W p l e R s m args below meth c H locs cells slots _ (F0 m pc ls (mmEnc G (mm_tg (mm_clTy ci k), v) :: va_rf (mmRf G r) :: st.map (mmEnc G)))
  rw [mmR_rfl hr]
  refine W.putFinK X.1.1 X.1.2.1 (f := f) (ref := ref) (index := idx) X.1.2.2.2.2.1 (hts _ e5) (cf := cf) (k := kf) (i := fi) ?_ hst hcf (X.1.2.2.2.2.2.2.2.1 hin) (by rw [q2]; exact h6) q1 q3 (by rw [hsl]; exact k2_hasslot (q4 k e2)) rfl rfl hd fun H' g1 g2 g3 => ?_
  · rcases e6 with e6 | e6
    · rw [e6]; exact hi
    · exact u_same (hts _ e6) _ hi
  · rw [hsl] at g1 ⊢
    refine kk p l e R s m args below meth c G H' _ cells slots ls (mmX_put X hfx hcv hs ?_ g2 g3)
    unfold mmE
    rw [if_pos (show (ci, N).1 < 20 from e0)]
    exact ⟨_, e1, t_OB.to (V := updV (vp_V (mmFs G ci N (mem a))) k (mmEnc G (mm_tg (mm_clTy ci k), v))) ⟨_, g1, q2, q3, t_set q4 hap e2 _⟩ (fun j hj => mm_putV e2 j hj)⟩
theorem mm_arr {t n a : Nat} {G : mmG} {s : State} {H : Heap} (hR : mmR G sh mem s H) (hs : sh.2[a]? = some (t, n)) (ht : 20 ≤ t) : H[mmAt G a]? = some (arrV (G.2.2.1 t) n (fun j => mmEnc G (mm_at t, mem a j))) := by
  have hw := hR.2.2.1 a _ (mmW_get hs)
  unfold mmE at hw
  rw [if_neg (show ¬ (t, n).1 < 20 by show ¬ t < 20; omega)] at hw
  have h : H[mmAt G a]? = some (vp_cell (G.2.2.1 t) (n, mmA G t (mem a))) := hw
  rw [mm_cell] at h
  exact h
theorem mm_arrAt {t n a : Nat} {G : mmG} {H : Heap} {f : Int → Int} (h : H[mmAt G a]? = some (arrV (G.2.2.1 t) n (fun j => mmEnc G (mm_at t, f j)))) (ht : 20 ≤ t) : va_at G.2.1 vwCl (mmAt G a, mmE G (t, n) f) H := by
  unfold mmE
  rw [if_neg (show ¬ (t, n).1 < 20 by show ¬ t < 20; omega)]
  show H[mmAt G a]? = some (vp_cell (G.2.2.1 t) (n, mmA G t f))
  rw [mm_cell]
  exact h
theorem mm_kind {G : mmG} {s : State} {H : Heap} (hR : mmR G sh mem s H) : ArrOfT s (G.2.2.1 20) .int ∧ ArrOfT s (G.2.2.1 21) .long ∧ ArrOfT s (G.2.2.1 22) .boolean ∧ ArrOfT s (G.2.2.1 23) (.object "SheSays$Law") ∧ ArrOfT s (G.2.2.1 24) (.array .long) ∧ ArrOfT s (G.2.2.1 25) .byte ∧ ArrOfT s (G.2.2.1 26) (.array .int) :=
  ⟨(hR.2.1.2 0 _ rfl).1, (hR.2.1.2 1 _ rfl).1, (hR.2.1.2 2 _ rfl).1, (hR.2.1.2 3 _ rfl).1, (hR.2.1.2 4 _ rfl).1, (hR.2.1.2 5 _ rfl).1, (hR.2.1.2 6 _ rfl).1⟩
theorem st_alen {t n : Nat} {r : Int} (a : Nat) (hr : r = (a : Int)) (hs : sh.2[a]? = some (t, n)) (ht : 20 ≤ t ∧ t < 27) (hd : decode B.2.1 pc = .ok (.arraylength, 1)) (kk : mmT B d kc ks Q (pc + 1) lc ((0, (n : Int)) :: st) sh mem) : mmT B d kc ks Q pc lc ((2, r) :: st) sh mem := by
  intro p l e R s m args below meth c G H locs cells slots ls X
  have h := kk p l e R s m args below meth c G H locs cells slots ls X
  have hc := mm_arr X.2.1 hs ht.1
  obtain ⟨k0, k1, k2, k3, k4, k5, k6⟩ := mm_kind X.2.1
  show W p l e R s m args below meth c H locs cells slots _ (F0 m pc ls (va_rf (mmRf G r) :: st.map (mmEnc G)))
  rw [mmR_rfl hr]
  have hn : ∀ f : Nat → Value, ((arrV (G.2.2.1 t) n f).slots.size.toInt32) = Int32.ofInt (n : Int) := fun f => by rw [arrV_size]; rfl
  rcases (show t = 20 ∨ t = 21 ∨ t = 22 ∨ t = 23 ∨ t = 24 ∨ t = 25 ∨ t = 26 by omega) with rfl | rfl | rfl | rfl | rfl | rfl | rfl
  · exact W.alen X.1.1 X.1.2.1 hc (k0 _ _) (hn _) rfl rfl hd h
  · exact W.alen X.1.1 X.1.2.1 hc (k1 _ _) (hn _) rfl rfl hd h
  · exact W.alen X.1.1 X.1.2.1 hc (k2 _ _) (hn _) rfl rfl hd h
  · exact W.alen X.1.1 X.1.2.1 hc (k3 _ _) (hn _) rfl rfl hd h
  · exact W.alen X.1.1 X.1.2.1 hc (k4 _ _) (hn _) rfl rfl hd h
  · exact W.alen X.1.1 X.1.2.1 hc (k5 _ _) (hn _) rfl rfl hd h
  · exact W.alen X.1.1 X.1.2.1 hc (k6 _ _) (hn _) rfl rfl hd h
theorem mm_read {t n : Nat} {G : mmG} {i : Int} {f : Nat → Value} {g : Int → Value} (hg : ∀ j : Nat, f j = g j) (h1 : 0 ≤ i) (h2 : i < n) (hn : n < 2147483648) : ¬ (Int32.ofInt i < 0 ∨ (arrV (G.2.2.1 t) n f).slots.size ≤ (Int32.ofInt i).toNatClampNeg) ∧ (arrV (G.2.2.1 t) n f).slots[(Int32.ofInt i).toNatClampNeg]? = some (g i) := by
  obtain ⟨v1, v2⟩ := mm_idx h1 h2 hn
  rw [arrV_size]
  refine ⟨v1, ?_⟩
  have hlt : (Int32.ofInt i).toNatClampNeg < n := by omega
  rw [arrV_read _ _ hlt, hg, v2]
theorem st_iaload {n : Nat} {r i v : Int} (a : Nat) (hr : r = (a : Int)) (hs : sh.2[a]? = some (20, n)) (hn : n < 2147483648) (h1 : 0 ≤ i) (h2 : i < n) (hv : mem a i = v) (hd : decode B.2.1 pc = .ok (.iaload, 1)) (kk : mmT B d kc ks Q (pc + 1) lc ((0, v) :: st) sh mem) : mmT B d kc ks Q pc lc ((0, i) :: (2, r) :: st) sh mem := by
  intro p l e R s m args below meth c G H locs cells slots ls X
  have h := kk p l e R s m args below meth c G H locs cells slots ls X
  subst hv
  obtain ⟨v1, v2⟩ := mm_read (t := 20) (G := G) (f := fun j => mmEnc G (mm_at 20, mem a j)) (g := fun j => mmEnc G (0, mem a j)) (fun _ => rfl) h1 h2 hn
  show W p l e R s m args below meth c H locs cells slots _ (F0 m pc ls (.int (Int32.ofInt i) :: va_rf (mmRf G r) :: st.map (mmEnc G)))
  rw [mmR_rfl hr]
  exact W.iald X.1.1 X.1.2.1 (mm_arr X.2.1 hs (by decide)) ((mm_kind X.2.1).1 _ _) (fun q => by cases q) v1 v2 rfl rfl hd h
theorem st_laload {n : Nat} {r i v : Int} (a : Nat) (hr : r = (a : Int)) (hs : sh.2[a]? = some (21, n)) (hn : n < 2147483648) (h1 : 0 ≤ i) (h2 : i < n) (hv : mem a i = v) (hd : decode B.2.1 pc = .ok (.laload, 1)) (kk : mmT B d kc ks Q (pc + 1) lc ((1, v) :: st) sh mem) : mmT B d kc ks Q pc lc ((0, i) :: (2, r) :: st) sh mem := by
  intro p l e R s m args below meth c G H locs cells slots ls X
  have h := kk p l e R s m args below meth c G H locs cells slots ls X
  subst hv
  obtain ⟨v1, v2⟩ := mm_read (t := 21) (G := G) (f := fun j => mmEnc G (mm_at 21, mem a j)) (g := fun j => mmEnc G (1, mem a j)) (fun _ => rfl) h1 h2 hn
  show W p l e R s m args below meth c H locs cells slots _ (F0 m pc ls (.int (Int32.ofInt i) :: va_rf (mmRf G r) :: st.map (mmEnc G)))
  rw [mmR_rfl hr]
  exact W.lald X.1.1 X.1.2.1 (mm_arr X.2.1 hs (by decide)) ((mm_kind X.2.1).2.1 _ _) (fun q => by cases q) v1 v2 rfl rfl hd h
theorem st_baload {n : Nat} {r i v : Int} (a : Nat) (hr : r = (a : Int)) (hs : sh.2[a]? = some (22, n)) (hn : n < 2147483648) (h1 : 0 ≤ i) (h2 : i < n) (hv : mem a i = v) (hd : decode B.2.1 pc = .ok (.baload, 1)) (kk : mmT B d kc ks Q (pc + 1) lc ((0, v) :: st) sh mem) : mmT B d kc ks Q pc lc ((0, i) :: (2, r) :: st) sh mem := by
  intro p l e R s m args below meth c G H locs cells slots ls X
  have h := kk p l e R s m args below meth c G H locs cells slots ls X
  subst hv
  obtain ⟨v1, v2⟩ := mm_read (t := 22) (G := G) (f := fun j => mmEnc G (mm_at 22, mem a j)) (g := fun j => mmEnc G (0, mem a j)) (fun _ => rfl) h1 h2 hn
  show W p l e R s m args below meth c H locs cells slots _ (F0 m pc ls (.int (Int32.ofInt i) :: va_rf (mmRf G r) :: st.map (mmEnc G)))
  rw [mmR_rfl hr]
  exact W.zald X.1.1 X.1.2.1 (mm_arr X.2.1 hs (by decide)) ((mm_kind X.2.1).2.2.1 _ _) (fun q => by cases q) v1 v2 rfl rfl hd h
theorem st_aaload {n t : Nat} {r i v : Int} (a : Nat) (ht : t = 23 ∨ t = 24 ∨ t = 26) (hr : r = (a : Int)) (hs : sh.2[a]? = some (t, n)) (hn : n < 2147483648) (h1 : 0 ≤ i) (h2 : i < n) (hv : mem a i = v) (hd : decode B.2.1 pc = .ok (.aaload, 1)) (kk : mmT B d kc ks Q (pc + 1) lc ((2, v) :: st) sh mem) : mmT B d kc ks Q pc lc ((0, i) :: (2, r) :: st) sh mem := by
  intro p l e R s m args below meth c G H locs cells slots ls X
  have h := kk p l e R s m args below meth c G H locs cells slots ls X
  subst hv
  obtain ⟨v1, v2⟩ := mm_read (t := t) (G := G) (f := fun j => mmEnc G (mm_at t, mem a j)) (g := fun j => mmEnc G (2, mem a j)) (fun _ => by rcases ht with rfl | rfl | rfl <;> rfl) h1 h2 hn
  show W p l e R s m args below meth c H locs cells slots _ (F0 m pc ls (.int (Int32.ofInt i) :: va_rf (mmRf G r) :: st.map (mmEnc G)))
  rw [mmR_rfl hr]
  have hc := mm_arr X.2.1 hs (by omega)
  rcases ht with rfl | rfl | rfl
  · exact W.aald X.1.1 X.1.2.1 hc ((mm_kind X.2.1).2.2.2.1 _ _) rfl (fun q => by cases q) v1 v2 rfl rfl hd h
  · exact W.aald X.1.1 X.1.2.1 hc ((mm_kind X.2.1).2.2.2.2.1 _ _) rfl (fun q => by cases q) v1 v2 rfl rfl hd h
  · exact W.aald X.1.1 X.1.2.1 hc ((mm_kind X.2.1).2.2.2.2.2.2 _ _) rfl (fun q => by cases q) v1 v2 rfl rfl hd h
theorem mm_stored {t n a : Nat} {G : mmG} {H1 : Heap} {i v : Int} {w : Value} (h1 : 0 ≤ i) (h2 : i < n) (hn : n < 2147483648) (ht : 20 ≤ t) (hw : w = mmEnc G (mm_at t, v)) (h : H1[mmAt G a]? = some ((arrV (G.2.2.1 t) n (fun j => mmEnc G (mm_at t, mem a j))).setSlot (Int32.ofInt i).toNatClampNeg w)) : va_at G.2.1 vwCl (mmAt G a, mmE G (t, n) (mset mem a i v a)) H1 := by
  obtain ⟨v1, v2⟩ := mm_idx h1 h2 hn
  refine mm_arrAt ?_ ht
  rw [h, arrV_store]
  congr 2
  funext j
  unfold updV
  rw [mset_at]
  by_cases e : j = (Int32.ofInt i).toNatClampNeg
  · subst e
    rw [if_pos rfl, if_pos v2, hw]
  · rw [if_neg e, if_neg (by omega)]
theorem st_iastore {n : Nat} {r i v : Int} (a : Nat) (hfx0 : sh.1 = false → fixRow a = true) (hv0 : R32 v) (hr : r = (a : Int)) (hs : sh.2[a]? = some (20, n)) (hn : n < 2147483648) (h1 : 0 ≤ i) (h2 : i < n) (hd : decode B.2.1 pc = .ok (.iastore, 1)) (kk : mmT B d kc ks Q (pc + 1) lc st sh (mset mem a i v)) : mmT B d kc ks Q pc lc ((0, v) :: (0, i) :: (2, r) :: st) sh mem := by
  have hfx : sh.1 = false → fixOK a i = true := fun h => fix_row (hfx0 h) i
  have hcv : (mTag (20, n) i = 0 → R32 v) ∧ (mTag (20, n) i = 1 → R64 v) := ⟨fun _ => hv0, fun h => by cases h⟩
  intro p l e R s m args below meth c G H locs cells slots ls X
  obtain ⟨v1, v2⟩ := mm_read (t := 20) (G := G) (f := fun j => mmEnc G (mm_at 20, mem a j)) (g := fun j => mmEnc G (0, mem a j)) (fun _ => rfl) h1 h2 hn
  show W p l e R s m args below meth c H locs cells slots _ (F0 m pc ls (.int (Int32.ofInt v) :: .int (Int32.ofInt i) :: va_rf (mmRf G r) :: st.map (mmEnc G)))
  rw [mmR_rfl hr]
  exact W.iast X.1.1 X.1.2.1 (mm_arr X.2.1 hs (by decide)) ((mm_kind X.2.1).1 _ _) (fun q => by cases q) v1 rfl rfl hd (fun H1 g1 g2 g3 => kk p l e R s m args below meth c G H1 _ cells slots ls (mmX_put X hfx hcv hs (mm_stored h1 h2 hn (by decide) rfl g1) g2 g3))
theorem st_lastore {n : Nat} {r i v : Int} (a : Nat) (hfx0 : sh.1 = false → fixRow a = true) (hv0 : R64 v) (hr : r = (a : Int)) (hs : sh.2[a]? = some (21, n)) (hn : n < 2147483648) (h1 : 0 ≤ i) (h2 : i < n) (hd : decode B.2.1 pc = .ok (.lastore, 1)) (kk : mmT B d kc ks Q (pc + 1) lc st sh (mset mem a i v)) : mmT B d kc ks Q pc lc ((1, v) :: (0, i) :: (2, r) :: st) sh mem := by
  have hfx : sh.1 = false → fixOK a i = true := fun h => fix_row (hfx0 h) i
  have hcv : (mTag (21, n) i = 0 → R32 v) ∧ (mTag (21, n) i = 1 → R64 v) := ⟨fun h => (by cases h), fun _ => hv0⟩
  intro p l e R s m args below meth c G H locs cells slots ls X
  obtain ⟨v1, v2⟩ := mm_read (t := 21) (G := G) (f := fun j => mmEnc G (mm_at 21, mem a j)) (g := fun j => mmEnc G (1, mem a j)) (fun _ => rfl) h1 h2 hn
  show W p l e R s m args below meth c H locs cells slots _ (F0 m pc ls (.long (Int64.ofInt v) :: .int (Int32.ofInt i) :: va_rf (mmRf G r) :: st.map (mmEnc G)))
  rw [mmR_rfl hr]
  exact W.last X.1.1 X.1.2.1 (mm_arr X.2.1 hs (by decide)) ((mm_kind X.2.1).2.1 _ _) (fun q => by cases q) v1 rfl rfl hd (fun H1 g1 g2 g3 => kk p l e R s m args below meth c G H1 _ cells slots ls (mmX_put X hfx hcv hs (mm_stored h1 h2 hn (by decide) rfl g1) g2 g3))
theorem st_bastore {n : Nat} {r i v : Int} (a : Nat) (hfx0 : sh.1 = false → fixRow a = true) (hv0 : R32 v) (hb : v = 0 ∨ v = 1) (hr : r = (a : Int)) (hs : sh.2[a]? = some (22, n)) (hn : n < 2147483648) (h1 : 0 ≤ i) (h2 : i < n) (hd : decode B.2.1 pc = .ok (.bastore, 1)) (kk : mmT B d kc ks Q (pc + 1) lc st sh (mset mem a i v)) : mmT B d kc ks Q pc lc ((0, v) :: (0, i) :: (2, r) :: st) sh mem := by
  have hfx : sh.1 = false → fixOK a i = true := fun h => fix_row (hfx0 h) i
  have hcv : (mTag (22, n) i = 0 → R32 v) ∧ (mTag (22, n) i = 1 → R64 v) := ⟨fun _ => hv0, fun h => by cases h⟩
  intro p l e R s m args below meth c G H locs cells slots ls X
  obtain ⟨v1, v2⟩ := mm_read (t := 22) (G := G) (f := fun j => mmEnc G (mm_at 22, mem a j)) (g := fun j => mmEnc G (0, mem a j)) (fun _ => rfl) h1 h2 hn
  show W p l e R s m args below meth c H locs cells slots _ (F0 m pc ls (.int (Int32.ofInt v) :: .int (Int32.ofInt i) :: va_rf (mmRf G r) :: st.map (mmEnc G)))
  rw [mmR_rfl hr]
  exact W.zast X.1.1 X.1.2.1 (mm_arr X.2.1 hs (by decide)) ((mm_kind X.2.1).2.2.1 _ _) (fun q => by cases q) v1 rfl rfl hd (fun H1 g1 g2 g3 => kk p l e R s m args below meth c G H1 _ cells slots ls (mmX_put X hfx hcv hs (mm_stored h1 h2 hn (by decide) (by rcases hb with rfl | rfl <;> rfl) g1) g2 g3))
theorem st_aastore {n : Nat} {r i v : Int} (a b : Nat) (hfx0 : sh.1 = true) (hr : r = (a : Int)) (hv : v = (b : Int)) (hs : sh.2[a]? = some (23, n)) (hb : sh.2[b]? = some (2, 4)) (hn : n < 2147483648) (h1 : 0 ≤ i) (h2 : i < n) (hd : decode B.2.1 pc = .ok (.aastore, 1)) (kk : mmT B d kc ks Q (pc + 1) lc st sh (mset mem a i v)) : mmT B d kc ks Q pc lc ((2, v) :: (0, i) :: (2, r) :: st) sh mem := by
  have hfx : sh.1 = false → fixOK a i = true := fun h => by rw [hfx0] at h; cases h
  have hcv : (mTag (23, n) i = 0 → R32 v) ∧ (mTag (23, n) i = 1 → R64 v) := ⟨fun h => (by cases h), fun h => (by cases h)⟩
  intro p l e R s m args below meth c G H locs cells slots ls X
  obtain ⟨v1, v2⟩ := mm_read (t := 23) (G := G) (f := fun j => mmEnc G (mm_at 23, mem a j)) (g := fun j => mmEnc G (2, mem a j)) (fun _ => rfl) h1 h2 hn
  show W p l e R s m args below meth c H locs cells slots _ (F0 m pc ls (va_rf (mmRf G v) :: .int (Int32.ofInt i) :: va_rf (mmRf G r) :: st.map (mmEnc G)))
  have hvv : va_rf (mmRf G v) = .ref (mmAt G b) := by rw [mmR_rfl hv]; rfl
  rw [mmR_rfl hr, hvv]
  have hK := X.2.1.2.1
  obtain ⟨r', hr', cellV, g1, g2, g3, -⟩ := X.2.1.2.2.1 b _ (mmW_get hb)
  have hcls := (hK.1 2 _ rfl).2
  obtain ⟨kA, comp, k1, k2, k3, -⟩ := (hK.2 3 _ rfl).2
  have hcomp : comp = G.2.1.1 2 := Option.some.inj (k3.symm.trans hcls.1)
  subst hcomp
  obtain ⟨kC, hkC, -⟩ := hcls.2
  have v3 : ¬ Int32.ofInt i < 0 ∧ (Int32.ofInt i).toNatClampNeg < (arrV (G.2.2.1 23) n (fun j => mmEnc G (mm_at 23, mem a j))).slots.size := ⟨fun q => v1 (Or.inl q), Nat.not_le.mp fun q => v1 (Or.inr q)⟩
  exact W.aast X.1.1 X.1.2.1 (mm_arr X.2.1 hs (by decide)) (fun q h => by cases h) (fun h => by cases h) k1 k2 rfl hkC v3 g1 (fun q h => by rw [g3] at h; cases h) (by rw [g2]; exact hkC) (by rw [g2]; exact va_assign hcls) rfl rfl hd (fun H1 z1 z2 z3 => kk p l e R s m args below meth c G H1 _ cells slots ls (mmX_put X hfx hcv hs (mm_stored h1 h2 hn (by decide) hvv.symm z1) z2 z3))
/-- the script -/
theorem st_slen (hd : decode B.2.1 pc = .ok (.arraylength, 1)) (hL : 0 ≤ mem 999 (-1)) (kk : mmT B d kc ks Q (pc + 1) lc ((0, mem 999 (-1)) :: st) sh mem) : mmT B d kc ks Q pc lc ((3, 0) :: st) sh mem := by
  intro p l e R s m args below meth c G H locs cells slots ls X
  have h := kk p l e R s m args below meth c G H locs cells slots ls X
  obtain ⟨scr, h1, h2, h3, h4, h5⟩ := X.2.1.2.2.2.1.1
  have e1 : scr.slots.size.toInt32 = Int32.ofInt (mem 999 (-1)) := by
    rw [h4]
    show Int32.ofNat _ = _
    rw [show Int32.ofNat (mem 999 (-1)).toNat = Int32.ofInt ((mem 999 (-1)).toNat : Int) from rfl, Int.toNat_of_nonneg hL]
  exact W.alen X.1.1 X.1.2.1 h1 h2 e1 rfl rfl hd h
theorem st_sload {i : Int} (h1 : 0 ≤ i) (h2 : i < mem 999 (-1)) (hn : i < 2147483648) (hd : decode B.2.1 pc = .ok (.iaload, 1)) (kk : mmT B d kc ks Q (pc + 1) lc ((0, mem 999 i) :: st) sh mem) : mmT B d kc ks Q pc lc ((0, i) :: (3, 0) :: st) sh mem := by
  intro p l e R s m args below meth c G H locs cells slots ls X
  have h := kk p l e R s m args below meth c G H locs cells slots ls X
  obtain ⟨scr, g1, g2, g3, g4, g5⟩ := X.2.1.2.2.2.1.1
  have hc : (Int32.ofInt i).toInt = i := by rw [w32_toInt, w32_id (by omega) hn]
  have e2 : ((Int32.ofInt i).toNatClampNeg : Int) = i := by
    rw [← Int32.toNat_toInt, hc]
    omega
  have hlt : (Int32.ofInt i).toNatClampNeg < (mem 999 (-1)).toNat := by omega
  have hin : ¬ (Int32.ofInt i < 0 ∨ scr.slots.size ≤ (Int32.ofInt i).toNatClampNeg) := by
    intro q
    rcases q with q | q
    · rw [Int32.lt_iff_toInt_lt, hc] at q
      have : (0 : Int32).toInt = 0 := rfl
      omega
    · omega
  have hv := g5 _ hlt
  dsimp only at hv
  rw [e2] at hv
  exact W.iald X.1.1 X.1.2.1 g1 g2 g3 hin hv rfl rfl hd h
theorem mCan_f {ci N k tg : Nat} {a : Nat} {own : String} {idx : Nat} {L : List (Nat × Nat)} (h : mCan L mem) (hs : L[a]? = some (ci, N)) (hf : mmFR own idx ci N k tg) : (tg = 0 → R32 (mem a k)) ∧ (tg = 1 → R64 (mem a k)) := by
  obtain ⟨C, T, ref, e1, e0, e2, e3, -⟩ := hf
  have h1 := h.1 a (ci, N) k hs
  have e : mTag (ci, N) (k : Int) = tg := by
    unfold mTag
    rw [if_pos (show (ci, N).1 < 20 from e0), e3]
    simp
  rw [e] at h1
  exact h1
theorem mm_fact {P : Prop} (hP : ∀ (G : mmG) (s : State) (H : Heap), mmR G sh mem s H → P) (kk : P → mmT B d kc ks Q pc lc st sh mem) : mmT B d kc ks Q pc lc st sh mem :=
  fun p l e R s m args below meth c G H locs cells slots ls X => kk (hP G s H X.2.1) p l e R s m args below meth c G H locs cells slots ls X
theorem st_getI {idx ci N : Nat} {r : Int} (a k : Nat) (hf : mmFR B.1.cls idx ci N k 0) (hr : r = (a : Int)) (hs : sh.2[a]? = some (ci, N)) (hd : decode B.2.1 pc = .ok (.getfield idx, 3)) (kk : R32 (mem a k) → mmT B d kc ks Q (pc + 3) lc ((0, mem a k) :: st) sh mem) : mmT B d kc ks Q pc lc ((2, r) :: st) sh mem :=
  mm_fact (P := R32 (mem a k)) (fun G s H hR => (mCan_f hR.2.2.2.2.2.2.2.2 hs hf).1 rfl) (fun h => st_getfield a k hf hr hs rfl hd (kk h))
theorem st_getJ {idx ci N : Nat} {r : Int} (a k : Nat) (hf : mmFR B.1.cls idx ci N k 1) (hr : r = (a : Int)) (hs : sh.2[a]? = some (ci, N)) (hd : decode B.2.1 pc = .ok (.getfield idx, 3)) (kk : R64 (mem a k) → mmT B d kc ks Q (pc + 3) lc ((1, mem a k) :: st) sh mem) : mmT B d kc ks Q pc lc ((2, r) :: st) sh mem :=
  mm_fact (P := R64 (mem a k)) (fun G s H hR => (mCan_f hR.2.2.2.2.2.2.2.2 hs hf).2 rfl) (fun h => st_getfield a k hf hr hs rfl hd (kk h))
theorem st_getA {idx ci N : Nat} {r v : Int} (a k : Nat) (hsh : sh.1 = false) (hf : mmFR B.1.cls idx ci N k 2) (hr : r = (a : Int)) (hs : sh.2[a]? = some (ci, N)) (hx : ((a, (k : Int), v) : Nat × Int × Int) ∈ mFixL) (hd : decode B.2.1 pc = .ok (.getfield idx, 3)) (kk : mmT B d kc ks Q (pc + 3) lc ((2, v) :: st) sh mem) : mmT B d kc ks Q pc lc ((2, r) :: st) sh mem :=
  mm_fact (P := mem a k = v) (fun G s H hR => hR.2.2.2.2.2.2.2.1 hsh _ hx) (fun h => st_getfield a k hf hr hs h hd kk)
theorem st_aaloadF {n t : Nat} {r i v : Int} (a : Nat) (hsh : sh.1 = false) (ht : t = 23 ∨ t = 24 ∨ t = 26) (hr : r = (a : Int)) (hs : sh.2[a]? = some (t, n)) (hn : n < 2147483648) (h1 : 0 ≤ i) (h2 : i < n) (hx : ((a, i, v) : Nat × Int × Int) ∈ mFixL) (hd : decode B.2.1 pc = .ok (.aaload, 1)) (kk : mmT B d kc ks Q (pc + 1) lc ((2, v) :: st) sh mem) : mmT B d kc ks Q pc lc ((0, i) :: (2, r) :: st) sh mem :=
  mm_fact (P := mem a i = v) (fun G s H hR => hR.2.2.2.2.2.2.2.1 hsh _ hx) (fun h => st_aaload a ht hr hs hn h1 h2 h hd kk)
theorem st_ialoadR {n : Nat} {r i : Int} (a : Nat) (hr : r = (a : Int)) (hs : sh.2[a]? = some (20, n)) (hn : n < 2147483648) (h1 : 0 ≤ i) (h2 : i < n) (hd : decode B.2.1 pc = .ok (.iaload, 1)) (kk : R32 (mem a i) → mmT B d kc ks Q (pc + 1) lc ((0, mem a i) :: st) sh mem) : mmT B d kc ks Q pc lc ((0, i) :: (2, r) :: st) sh mem :=
  mm_fact (P := R32 (mem a i)) (fun G s H hR => (hR.2.2.2.2.2.2.2.2.1 a _ i hs).1 rfl) (fun h => st_iaload a hr hs hn h1 h2 rfl hd (kk h))
theorem st_baloadR {n : Nat} {r i : Int} (a : Nat) (hr : r = (a : Int)) (hs : sh.2[a]? = some (22, n)) (hn : n < 2147483648) (h1 : 0 ≤ i) (h2 : i < n) (hd : decode B.2.1 pc = .ok (.baload, 1)) (kk : R32 (mem a i) → mmT B d kc ks Q (pc + 1) lc ((0, mem a i) :: st) sh mem) : mmT B d kc ks Q pc lc ((0, i) :: (2, r) :: st) sh mem :=
  mm_fact (P := R32 (mem a i)) (fun G s H hR => (hR.2.2.2.2.2.2.2.2.1 a _ i hs).1 rfl) (fun h => st_baload a hr hs hn h1 h2 rfl hd (kk h))
theorem st_laloadR {n : Nat} {r i : Int} (a : Nat) (hr : r = (a : Int)) (hs : sh.2[a]? = some (21, n)) (hn : n < 2147483648) (h1 : 0 ≤ i) (h2 : i < n) (hd : decode B.2.1 pc = .ok (.laload, 1)) (kk : R64 (mem a i) → mmT B d kc ks Q (pc + 1) lc ((1, mem a i) :: st) sh mem) : mmT B d kc ks Q pc lc ((0, i) :: (2, r) :: st) sh mem :=
  mm_fact (P := R64 (mem a i)) (fun G s H hR => (hR.2.2.2.2.2.2.2.2.1 a _ i hs).2 rfl) (fun h => st_laload a hr hs hn h1 h2 rfl hd (kk h))
theorem st_sloadR {i : Int} (h1 : 0 ≤ i) (h2 : i < mem 999 (-1)) (hn : i < 2147483648) (hd : decode B.2.1 pc = .ok (.iaload, 1)) (kk : R32 (mem 999 i) → mmT B d kc ks Q (pc + 1) lc ((0, mem 999 i) :: st) sh mem) : mmT B d kc ks Q pc lc ((0, i) :: (3, 0) :: st) sh mem :=
  mm_fact (P := R32 (mem 999 i)) (fun G s H hR => hR.2.2.2.2.2.2.2.2.2 i) (fun h => st_sload h1 h2 hn hd (kk h))
end MMhp
