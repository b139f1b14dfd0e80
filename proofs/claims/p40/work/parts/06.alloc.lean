/-! new cells -/
def mm_okTy : FieldType → Bool := fun t => match t with
  | .int => true
  | .long => true
  | .boolean => true
  | .byte => true
  | .object _ => true
  | .array _ => true
  | _ => false
def mm_init (ci : Nat) : Int → Int := fun k => if mm_tg (mm_clTy ci k.toNat) = 2 then -1 else 0
theorem mm_def (G : mmG) {ty : FieldType} (h : mm_okTy ty = true) : defaultValue ty = mmEnc G (mm_tg ty, if mm_tg ty = 2 then -1 else 0) := by
  cases ty <;> first | rfl | cases h
theorem mCan_init (ci N : Nat) (k : Int) : (mTag (ci, N) k = 0 → R32 (mm_init ci k)) ∧ (mTag (ci, N) k = 1 → R64 (mm_init ci k)) := by
  unfold mm_init
  split <;> exact ⟨fun _ => by omega, fun _ => by omega⟩
theorem mCan_const (q : Nat × Nat) (z : Int) (h : z = 0 ∨ z = -1) (k : Int) : (mTag q k = 0 → R32 z) ∧ (mTag q k = 1 → R64 z) := by
  rcases h with rfl | rfl <;> exact ⟨fun _ => by omega, fun _ => by omega⟩
theorem mmR_new {G : mmG} {L : List (Nat × Nat)} {mem : mmM} {s : State} {H H1 : Heap} {q : Nat × Nat} {f : Int → Int} (hR : mmR G (true, L) mem s H) (he : va_at G.2.1 vwCl (mmAt G L.length, mmE G q f) H1) (hz : H1.size = H.size + 1) (ho : ∀ x : Nat, x < H.size → H1[x]? = H[x]?) (hl : L.length + 1 ≤ 999) (hv : ∀ k, (mTag q k = 0 → R32 (f k)) ∧ (mTag q k = 1 → R64 (f k))) : mmR G (true, L ++ [q]) (mrow mem L.length f) s H1 := by
  obtain ⟨h1, h2, h3, h4, h5, h6, h7, h8, h9⟩ := hR
  have hs := h1 rfl
  dsimp only at hs
  refine ⟨fun _ => ?_, h2, fun k' x hx => ?_, ?_, h5, by omega, ?_, fun h => (by cases h), mCan_row h9 (q := q) (by show (L ++ [q])[L.length]? = some q; simp) (fun _ _ _ => trivial) (fun a' q' hne hq' => ?_) (by omega) hv⟩
  · rw [hz, hs]
    show _ = mmAt G (L ++ [q]).length
    rw [List.length_append]
    exact (mmAt_succ h4.2).symm
  · obtain ⟨q', hq', rfl⟩ := mmW_of hx
    by_cases e : k' = L.length
    · subst e
      rw [mrow_same]
      have : (L ++ [q])[L.length]? = some q := by simp
      cases this.symm.trans hq'
      exact he
    · have hlt : k' < L.length := by
        have := (List.getElem?_eq_some_iff.mp hq').1
        rw [List.length_append] at this
        simp at this
        omega
      rw [mrow_ne e]
      have hq2 : L[k']? = some q' := by rwa [List.getElem?_append_left hlt] at hq'
      exact (h3 k' _ (mmW_get hq2)).kept (ho _ (by rw [hs]; exact mmAt_lt h4.2.1 hlt))
  · rw [mrow_ne (show 999 ≠ L.length by omega)]
    refine ⟨h4.1.kept (ho _ (by omega)), ?_⟩
    show mmHo G (L ++ [q]).length true H1.size
    rw [List.length_append]
    exact mmHo_new h4.2 (by omega)
  · show (L ++ [q]).length ≤ 999
    rw [List.length_append]
    simpa using hl
  · have hlt : a' < L.length := by
      have := (List.getElem?_eq_some_iff.mp hq').1
      rw [List.length_append] at this
      simp at this
      omega
    rwa [List.getElem?_append_left hlt] at hq'
theorem mm_Snew {A : Nat → Prop} {H0 H H1 : Heap} {locs : List Loc} (h : va_S A H0 H locs) (hz : H.size ≤ H1.size) (ho : ∀ x : Nat, x < H.size → H1[x]? = H[x]?) : va_S A H0 H1 locs :=
  ⟨Nat.le_trans h.1 hz, fun x h1 h2 => (ho x (Nat.lt_of_lt_of_le h1 h.1)).trans (h.2.1 x h1 h2), h.2.2⟩
section MMal
variable {B : mmB} {d kc ks : Nat} {Q : mmQ} {pc : Nat} {lc st : List mmV} {L : List (Nat × Nat)} {mem : mmM}
theorem mmX_new {q : Nat × Nat} {f : Int → Int} {n : Nat} {G : mmG} {p : Program} {l : Launch} {R : Room} {s : State} {m : MethodId} {args : Array Value} {meth : Method} {c : Code} {H H1 : Heap} {locs : List Loc} {cells slots : Nat} {ls : Array Slot} (X : mmX B d (kc + 1) (ks + n) G (true, L) mem lc p l R s m args meth c H locs cells slots ls) (he : va_at G.2.1 vwCl (mmAt G L.length, mmE G q f) H1) (hz : H1.size = H.size + 1) (ho : ∀ x : Nat, x < H.size → H1[x]? = H[x]?) (hl : L.length + 1 ≤ 999) (hv : ∀ k, (mTag q k = 0 → R32 (f k)) ∧ (mTag q k = 1 → R64 (f k))) : mmX B d kc ks G (true, L ++ [q]) (mrow mem L.length f) lc p l R s m args meth c H1 locs (cells + 1) (slots + n) ls := by
  refine ⟨X.1, mmR_new X.2.1 he hz ho hl hv, mm_Snew X.2.2.1 (by omega) ho, X.2.2.2.1, X.2.2.2.2.1, ?_, ?_, X.2.2.2.2.2.2.2⟩
  · have := X.2.2.2.2.2.1
    omega
  · have := X.2.2.2.2.2.2.1
    omega
theorem mm_top {G : mmG} {mem : mmM} {s : State} {H : Heap} (hR : mmR G (true, L) mem s H) : mmEnc G (2, (L.length : Int)) = .ref H.size := by
  show va_rf (mmRf G (L.length : Int)) = _
  rw [mmR_rfl rfl, hR.1 rfl]
  rfl
theorem st_new {idx ci N : Nat} (C : String) (T : u_T) (hc : vwCl[ci]? = some (C, T, N)) (h20 : ci < 20) (hm : mmTy ci) (hok : ∀ k, k < N → mm_okTy (mm_clTy ci k) = true) (hin : ∀ w ∈ u_ws C T N, w ∈ mm_tbl) (h1 : Cond.classLink B.1.cls idx C ∈ mm_tbl) (h2 : Cond.instantiable C N ∈ mm_tbl) (h3 : Cond.initialized C ∈ mm_tbl) (hl : L.length + 1 ≤ 999) (hd : decode B.2.1 pc = .ok (.new idx, 3)) (k : mmT B d kc ks Q (pc + 3) lc ((2, (L.length : Int)) :: st) (true, L ++ [(ci, N)]) (mrow mem L.length (mm_init ci))) : mmT B d (kc + 1) (ks + N) Q pc lc st (true, L) mem := by
  intro p l e R s m args below meth c G H locs cells slots ls X
  have hts := X.1.2.2.2.2.2.1
  obtain ⟨C', T', N', f1, f2, f3⟩ := hm
  cases hc.symm.trans f1
  have hKn := X.2.1.2.1.1 ci _ hc
  have b1 := X.2.2.2.2.2.1
  have b2 := X.2.2.2.2.2.2.1
  refine W.newcK X.1.1 X.1.2.1 X.1.2.2.2.2.1 (hts _ h1) (hts _ h2) (hts _ h3) rfl hd (by omega) (by omega) hKn.2.1 rfl fun H1 kC hkC e1 z1 o1 => ?_
  have hh := k p l e R s m args below meth c G H1 locs (cells + 1) (slots + N) ls (mmX_new X ?_ z1 o1 hl (mCan_init ci N))
  · rw [List.map_cons, mm_top X.2.1] at hh
    exact hh
  · unfold mmE
    rw [if_pos (show (ci, N).1 < 20 from h20)]
    refine ⟨_, hc, ?_⟩
    have hs := X.2.1.1 rfl
    dsimp only at hs
    show t_OB (mmAt G L.length) (G.2.1.1 ci) N (G.2.1.2 ci) H1 (vp_V (mmFs G ci N (mm_init ci)))
    rw [← hs]
    refine (u_born (mm_clTy ci) hts (fun w hw => hin w hw) hKn hkC e1 f2).to (fun j hj => ?_)
    unfold vp_V
    rw [List.getD_eq_getElem?_getD, mmFs_get hj]
    exact mm_def G (hok j hj)
theorem mm_arrNew {t n : Nat} {G : mmG} {H1 : Heap} {ty : FieldType} {z : Int} (ht : 20 ≤ t) (hdv : defaultValue ty = mmEnc G (mm_at t, z)) (h : H1[mmAt G L.length]? = some (arrV (G.2.2.1 t) n (fun _ => defaultValue ty))) : va_at G.2.1 vwCl (mmAt G L.length, mmE G (t, n) (fun _ => z)) H1 := by
  refine mm_arrAt ?_ ht
  rw [h, hdv]
theorem st_newarray {t n : Nat} {r : Int} {at0 : ArrayType} (ht : (t = 20 ∧ at0 = .int) ∨ (t = 21 ∧ at0 = .long) ∨ (t = 22 ∧ at0 = .boolean)) (hw : Cond.arrayClass (newarray.typeOf at0) ∈ mm_tbl) (hr : r = (n : Int)) (hn : n ≤ 5000) (hl : L.length + 1 ≤ 999) (hd : decode B.2.1 pc = .ok (.newarray at0, 2)) (k : mmT B d kc ks Q (pc + 2) lc ((2, (L.length : Int)) :: st) (true, L ++ [(t, n)]) (mrow mem L.length (fun _ => 0))) : mmT B d (kc + 1) (ks + n) Q pc lc ((0, r) :: st) (true, L) mem := by
  intro p l e R s m args below meth c G H locs cells slots ls X
  subst hr
  have hts := X.1.2.2.2.2.2.1
  have b1 := X.2.2.2.2.2.1
  have b2 := X.2.2.2.2.2.2.1
  have e0 : (Int32.ofInt (n : Int)).toInt = n := by rw [w32_toInt, w32_id (by omega) (by omega)]
  have e1 : (Int32.ofInt (n : Int)).toNatClampNeg = n := by
    rw [← Int32.toNat_toInt, e0]
    omega
  have e2 : ¬ Int32.ofInt (n : Int) < 0 := by
    rw [Int32.lt_iff_toInt_lt, e0]
    have : (0 : Int32).toInt = 0 := rfl
    omega
  have hs := X.2.1.1 rfl
  dsimp only at hs
  have hcb : n * componentBytes (newarray.typeOf at0) ≤ 536870912 := by
    rcases ht with ⟨-, rfl⟩ | ⟨-, rfl⟩ | ⟨-, rfl⟩
    · show n * 4 ≤ _
      omega
    · show n * 8 ≤ _
      omega
    · show n * 1 ≤ _
      omega
  refine va_newaK (n := Int32.ofInt (n : Int)) (N := n) X.1.1 X.1.2.1 (hts _ hw) rfl hd rfl e2 e1 hcb (by omega) (by omega) hs fun H1 cA g1 g2 g3 g4 g5 => ?_
  have hcA : cA = G.2.2.1 t := by
    rcases ht with ⟨rfl, rfl⟩ | ⟨rfl, rfl⟩ | ⟨rfl, rfl⟩
    · exact Option.some.inj (g5.symm.trans (X.2.1.2.1.2 0 _ rfl).2)
    · exact Option.some.inj (g5.symm.trans (X.2.1.2.1.2 1 _ rfl).2)
    · exact Option.some.inj (g5.symm.trans (X.2.1.2.1.2 2 _ rfl).2)
  subst hcA
  have hh := k p l e R s m args below meth c G H1 locs (cells + 1) (slots + n) ls (mmX_new X ?_ (by rw [g2, hs]) (by rw [hs]; exact g3) hl (fun k => mCan_const (t, n) 0 (Or.inl rfl) k))
  · rw [List.map_cons, mm_top X.2.1, hs] at hh
    exact hh
  · refine mm_arrNew (ty := newarray.typeOf at0) (by omega) ?_ g1
    rcases ht with ⟨rfl, rfl⟩ | ⟨rfl, rfl⟩ | ⟨rfl, rfl⟩ <;> rfl
theorem st_anewarray {n idx : Nat} {r : Int} (h1 : Cond.classLink B.1.cls idx "SheSays$Law" ∈ mm_tbl) (hr : r = (n : Int)) (hn : n ≤ 5000) (hl : L.length + 1 ≤ 999) (hd : decode B.2.1 pc = .ok (.anewarray idx, 3)) (k : mmT B d kc ks Q (pc + 3) lc ((2, (L.length : Int)) :: st) (true, L ++ [(23, n)]) (mrow mem L.length (fun _ => -1))) : mmT B d (kc + 1) (ks + n) Q pc lc ((0, r) :: st) (true, L) mem := by
  intro p l e R s m args below meth c G H locs cells slots ls X
  subst hr
  have hts := X.1.2.2.2.2.2.1
  have b1 := X.2.2.2.2.2.1
  have b2 := X.2.2.2.2.2.2.1
  have e0 : (Int32.ofInt (n : Int)).toInt = n := by rw [w32_toInt, w32_id (by omega) (by omega)]
  have e1 : (Int32.ofInt (n : Int)).toNatClampNeg = n := by
    rw [← Int32.toNat_toInt, e0]
    omega
  have e2 : ¬ Int32.ofInt (n : Int) < 0 := by
    rw [Int32.lt_iff_toInt_lt, e0]
    have : (0 : Int32).toInt = 0 := rfl
    omega
  have hs := X.2.1.1 rfl
  dsimp only at hs
  refine W.anew (n := Int32.ofInt (n : Int)) X.1.1 X.1.2.1 X.1.2.2.2.2.1 (hts _ h1) (ao_use X.1.2.2.2.2.2.2.2.2.1.2.1) rfl hd rfl e2 (by rw [e1]; omega) (by omega) (by rw [e1]; omega) fun cA kA comp g1 g2 g3 g4 => ?_
  obtain ⟨kA', comp', -, -, -, g5⟩ := (X.2.1.2.1.2 3 _ rfl).2
  have hcA : cA = G.2.2.1 23 := Option.some.inj (g1.symm.trans g5)
  subst hcA
  rw [e1]
  have ho : ∀ x : Nat, x < H.size → (H.push { cls := G.2.2.1 23, slots := Array.replicate n .null, vm := .none })[x]? = H[x]? := fun x hx => by rw [Array.getElem?_push, if_neg (Nat.ne_of_lt hx)]
  have hh := k p l e R s m args below meth c G _ locs (cells + 1) (slots + n) ls (mmX_new (H1 := H.push { cls := G.2.2.1 23, slots := Array.replicate n .null, vm := .none }) X ?_ (by simp) ho hl (fun k => mCan_const (23, n) (-1) (Or.inr rfl) k))
  · rw [List.map_cons, mm_top X.2.1] at hh
    exact hh
  · refine mm_arrAt ?_ (by decide)
    rw [← hs, arrV_new]
    simp
    rfl
/-- new long[N][K]: its row stands in the last part (the library's law of it lies outside the short library) -/
def mmMulti : Prop := ∀ (B : mmB) (d kc ks : Nat) (Q : mmQ) (pc : Nat) (lc st : List mmV) (L : List (Nat × Nat)) (mem : mmM) (N K idx : Nat) (r1 r2 : Int), Cond.classLink B.1.cls idx ("[" ++ (FieldType.array .long).toString) ∈ mm_tbl → Cond.arrayClass .long ∈ mm_tbl → r1 = (N : Int) → r2 = (K : Int) → N ≤ 5000 → K ≤ 5000 → L.length + 1 + N ≤ 999 → decode B.2.1 pc = .ok (.multianewarray idx 2, 4) →
  mmT B d kc ks Q (pc + 4) lc ((2, (L.length : Int)) :: st) (true, (L ++ [(24, N)]) ++ List.replicate N (21, K)) (fun a => if L.length + 1 ≤ a ∧ a < L.length + 1 + N then (fun _ => 0) else mrow mem L.length (fun i => (L.length : Int) + 1 + i) a) → mmT B d (kc + (1 + N)) (ks + (N + N * K)) Q pc lc ((0, r2) :: (0, r1) :: st) (true, L) mem
/-- System.arraycopy of n ints from the first on -/
theorem st_copy {sh : mmS} {idx n n0 n1 : Nat} {ra rb rn z1 z2 : Int} (a b : Nat) (hf : sh.1 = false) (hfr : fixRow b = true) (h1 : Cond.methodLink B.1.cls idx arraycopyName ∈ mm_tbl) (h2 : Cond.native arraycopyName ∈ mm_tbl) (h3 : Cond.static arraycopyName ∈ mm_tbl) (h4 : Cond.initialized "java/lang/System" ∈ mm_tbl) (hra : ra = (a : Int)) (hrb : rb = (b : Int)) (hrn : rn = (n : Int)) (hz1 : z1 = 0) (hz2 : z2 = 0) (hsa : sh.2[a]? = some (20, n0)) (hsb : sh.2[b]? = some (20, n1)) (hn0 : n ≤ n0) (hn1 : n ≤ n1) (hn : n ≤ 5000) (hd1 : 3 ≤ d) (hcat : mmCat st ≤ 8) (hd : decode B.2.1 pc = .ok (.invokestatic idx, 3))
    (k : mmT B d kc ks Q (pc + 3) lc st sh (mrow mem b (fun j => if 0 ≤ j ∧ j < n then mem a j else mem b j))) : mmT B d kc ks Q pc lc ((0, rn) :: (0, z1) :: (2, rb) :: (0, z2) :: (2, ra) :: st) sh mem := by
  intro p l e R s m args below meth c G H locs cells slots ls X
  subst hrn hz1 hz2
  have hts := X.1.2.2.2.2.2.1
  have e0 : (Int32.ofInt (n : Int)).toInt = n := by rw [w32_toInt, w32_id (by omega) (by omega)]
  have e1 : (Int32.ofInt (n : Int)).toNatClampNeg = n := by
    rw [← Int32.toNat_toInt, e0]
    omega
  have e2 : ¬ Int32.ofInt (n : Int) < 0 := by
    rw [Int32.lt_iff_toInt_lt, e0]
    have : (0 : Int32).toInt = 0 := rfl
    omega
  have hwa := mmW_get (G := G) (mem := mem) hsa
  have hwb := mmW_get (G := G) (mem := mem) hsb
  have hmE : ∀ (q : Nat) (f : Int → Int), mmE G (20, q) f = .inl (G.2.2.1 20, q, .inl (fun j => Int32.ofInt (f j))) := fun q f => rfl
  rw [hmE] at hwa hwb
  obtain ⟨lv, hlv, -⟩ := X.2.2.2.2.1
  have hr4 := X.2.2.2.2.2.2.2.2.1
  have hr3 := X.2.2.2.2.2.2.2.1
  show W p l e R s m args below meth c H locs cells slots _ (F0 m pc ls (.int (Int32.ofInt (n : Int)) :: .int (Int32.ofInt 0) :: va_rf (mmRf G rb) :: .int (Int32.ofInt 0) :: va_rf (mmRf G ra) :: st.map (mmEnc G)))
  rw [mmR_rfl hra, mmR_rfl hrb]
  have z0 : (Int32.ofInt 0).toNatClampNeg = 0 := rfl
  refine va_copyi X.1.1 X.1.2.1 (X.1.2.2.1.trans hlv.1.symm) X.1.2.2.2.2.1 (hts _ h1) (hts _ h2) (hts _ h3) (hts _ h4) X.2.1.2.1 X.2.1.2.2.1 (mmW_D (G := G) X.2.1.2.2.2.1.2) X.2.2.1 a b 0 0 hwa hwb rfl rfl rfl (by decide) (by decide) e2 (by rw [z0, e1]; omega) (by rw [z0, e1]; omega) (fun i _ => rfl) (by omega) ?_ hd fun H1 locs1 hP hD hS => ?_
  · have hcc := mmCat_enc G st
    have hnat : nativeFrameWords "java/lang/System" "arraycopy" 5 ≤ 100 := by decide
    omega
  · refine k p l e R s m args below meth c G H1 locs1 cells slots ls ⟨X.1, ⟨fun h => (by rw [hf] at h; cases h), X.2.1.2.1, fun k' x hx => ?_, ?_, X.2.1.2.2.2.2.1, Nat.le_trans X.2.2.2.1.1 hS.1, X.2.1.2.2.2.2.2.2.1, fun h q hq => ?_, mCan_row X.2.1.2.2.2.2.2.2.2.2 hsb (fun _ _ _ => trivial) (fun _ _ _ h => h) (fun e9 => ?_) (fun k => ⟨fun _ => ?_, fun h => by cases h⟩)⟩, hS, X.2.2.2.1, X.2.2.2.2⟩
    · obtain ⟨q', hq', rfl⟩ := mmW_of hx
      have hl := (List.getElem?_eq_some_iff.mp hwb).1
      by_cases e : k' = b
      · subst e
        cases hsb.symm.trans hq'
        have := hP k' (mmAt G k', _) (List.getElem?_set_self hl)
        rw [mrow_same, hmE]
        refine cast ?_ this
        congr 6
        funext j
        unfold va_cpy
        rw [e1, z0]
        by_cases hj : j < n
        · rw [if_pos (by omega), if_pos (by omega)]
          congr 2
          omega
        · rw [if_neg (by omega), if_neg (by omega)]
      · rw [mrow_ne e]
        have hg := mmW_get (G := G) (mem := mem) hq'
        exact hP k' _ (by rw [List.getElem?_set_ne (Ne.symm e)]; exact hg)
    · have hbl := (List.getElem?_eq_some_iff.mp hsb).1
      have hle := X.2.1.2.2.2.2.2.2.1
      rw [mrow_ne (show 999 ≠ b by omega)]
      have hb := X.2.1.2.2.2.2.1
      have old : H1[G.1.1]? = H[G.1.1]? := by
        have hn : ¬ mmAd G G.1.1 := fun w => by have := w.1; omega
        rw [hS.2.1 _ (by have := X.2.2.2.1.1; omega) hn, X.2.2.1.2.1 _ (by have := X.2.2.2.1.1; omega) hn]
      refine ⟨X.2.1.2.2.2.1.1.kept old, X.2.1.2.2.2.1.2.1, X.2.1.2.2.2.1.2.2.1, ?_⟩
      rcases X.2.1.2.2.2.1.2.2.2 with w | w
      · exact Or.inl w
      · rcases X.2.2.2.1.2 with w3 | w3
        · exact Or.inl w3
        · exact Or.inr ⟨w.1, Nat.le_trans w3 hS.1, w.2.2⟩
    · have h1 := List.all_eq_true.mp hfr q hq
      simp only [Bool.not_eq_true', beq_eq_false_iff_ne, ne_eq] at h1
      rw [mrow_ne h1]
      exact X.2.1.2.2.2.2.2.2.2.1 h q hq
    · have hbl := (List.getElem?_eq_some_iff.mp hsb).1
      have hle := X.2.1.2.2.2.2.2.2.1
      omega
    · have ca := (X.2.1.2.2.2.2.2.2.2.2.1 a _ k hsa).1 rfl
      have cb := (X.2.1.2.2.2.2.2.2.2.2.1 b _ k hsb).1 rfl
      split
      · exact ca
      · exact cb
/-- from now on no cell is made; the references that never change are what they are -/
theorem st_seal (hfx : mFix mem) (k : mmT B d kc ks Q pc lc st (false, L) mem) : mmT B d kc ks Q pc lc st (true, L) mem := by
  intro p l e R s m args below meth c G H locs cells slots ls X
  exact k p l e R s m args below meth c G H locs cells slots ls ⟨X.1, ⟨fun h => (by cases h), X.2.1.2.1, X.2.1.2.2.1, ⟨X.2.1.2.2.2.1.1, X.2.1.2.2.2.1.2.1, (fun h => by cases h), X.2.1.2.2.2.1.2.2.2.imp id (fun w => ⟨w.1, w.2.1, w.2.2.1, fun h => by cases h⟩)⟩, X.2.1.2.2.2.2.1, X.2.1.2.2.2.2.2.1, X.2.1.2.2.2.2.2.2.1, fun _ => hfx, X.2.1.2.2.2.2.2.2.2.2⟩, X.2.2⟩
end MMal
