/-! new long[N][K], new int[N][K] -/
theorem arrV_cg {cA : ClassId} {N : Nat} {f g : Nat → Value} (h : ∀ j, j < N → f j = g j) : arrV cA N f = arrV cA N g := by
  unfold arrV
  congr 1
  congr 1
  funext j
  exact h j.val j.isLt
theorem outer_arr (cA : ClassId) (N h0 : Nat) : ∀ i, Jvm.Free.Multi.outerC cA N h0 i = arrV cA N (fun j => if j < i then .ref (h0 + 1 + j) else .null)
  | 0 => by
    show ({ cls := cA, slots := Array.replicate N .null, vm := .none } : Cell) = _
    rw [arrV_new]
    exact arrV_cg (fun j _ => (if_neg (Nat.not_lt_zero j)).symm)
  | i + 1 => by
    show (Jvm.Free.Multi.outerC cA N h0 i).setSlot i (.ref (h0 + 1 + i)) = _
    rw [outer_arr cA N h0 i, arrV_store]
    refine arrV_cg (fun j _ => ?_)
    unfold updV
    by_cases e : j = i
    · rw [e, if_pos rfl, if_pos (Nat.lt_succ_self i)]
    · rw [if_neg e]
      show (if j < i then Value.ref (h0 + 1 + j) else Value.null) = _
      by_cases q : j < i
      · rw [if_pos q, if_pos (Nat.lt_succ_of_lt q)]
      · rw [if_neg q, if_neg (by omega)]
theorem mmHo_more {G : mmG} {n z z' : Nat} (h : mmHo G n true z) (hz : z ≤ z') (k : Nat) : mmHo G (n + k) true z' := ⟨h.1, fun _ hn => h.2.1 rfl (by omega), h.2.2.imp id (fun w => ⟨w.1, Nat.le_trans w.2.1 hz, Or.inr (w.2.2.2 rfl), w.2.2.2⟩)⟩
theorem mmAt_add {G : mmG} {n z : Nat} (h : mmHo G n true z) : ∀ k : Nat, mmAt G (n + k) = mmAt G n + k
  | 0 => rfl
  | k + 1 => by
    have e := mmAt_succ (mmHo_more h (Nat.le_refl z) k)
    rw [mmAt_add h k] at e
    exact e
theorem mmR_multi24 {G : mmG} {L : List (Nat × Nat)} {mem : mmM} {s : State} {H F : Heap} {N K : Nat} (hR : mmR G (true, L) mem s H) (hz : F.size = H.size + 1 + N) (hold : ∀ x : Nat, x < H.size → F[x]? = H[x]?)
    (ho : F[H.size]? = some (Jvm.Free.Multi.outerC (G.2.2.1 24) N H.size N)) (hi : ∀ j : Nat, j < N → F[H.size + 1 + j]? = some (Jvm.Free.Multi.innerC (G.2.2.1 21) K (defaultValue .long))) (hl : L.length + 1 + N ≤ 999) :
    mmR G (true, (L ++ [(24, N)]) ++ List.replicate N (21, K)) (fun a => if L.length + 1 ≤ a ∧ a < L.length + 1 + N then (fun _ => 0) else mrow mem L.length (fun i => (L.length : Int) + 1 + i) a) s F := by
  obtain ⟨h1, h2, h3, h4, h5, h6, h7, h8, h9⟩ := hR
  have hs := h1 rfl
  dsimp only at hs
  have hHo : mmHo G L.length true H.size := h4.2
  have atj : ∀ j : Nat, mmAt G (L.length + j) = H.size + j := fun j => by rw [mmAt_add hHo, hs]
  have hlen : ((L ++ [(24, N)]) ++ List.replicate N (21, K)).length = L.length + 1 + N := by simp; omega
  have a1 : ∀ a q, a < L.length → ((L ++ [(24, N)]) ++ List.replicate N (21, K))[a]? = some q → L[a]? = some q := fun a q ha hq => by
    rw [List.getElem?_append_left (by simp; omega), List.getElem?_append_left ha] at hq
    exact hq
  have a2 : ∀ q, ((L ++ [(24, N)]) ++ List.replicate N (21, K))[L.length]? = some q → q = (24, N) := fun q hq => by
    rw [List.getElem?_append_left (by simp), List.getElem?_append_right (Nat.le_refl _), Nat.sub_self] at hq
    exact (Option.some.inj hq).symm
  have a3 : ∀ a q, L.length < a → ((L ++ [(24, N)]) ++ List.replicate N (21, K))[a]? = some q → a < L.length + 1 + N ∧ q = (21, K) := fun a q ha hq => by
    have hlt := (List.getElem?_eq_some_iff.mp hq).1
    rw [hlen] at hlt
    rw [List.getElem?_append_right (by simp; omega), List.getElem?_replicate, if_pos (by simp; omega)] at hq
    exact ⟨hlt, (Option.some.inj hq).symm⟩
  have m1 : ∀ a, a < L.length → (if L.length + 1 ≤ a ∧ a < L.length + 1 + N then (fun _ => 0) else mrow mem L.length (fun i => (L.length : Int) + 1 + i) a) = mem a := fun a ha => by
    rw [if_neg (by omega), mrow_ne (by omega)]
  have m2 : (if L.length + 1 ≤ L.length ∧ L.length < L.length + 1 + N then (fun _ => 0) else mrow mem L.length (fun i => (L.length : Int) + 1 + i) L.length) = (fun i : Int => (L.length : Int) + 1 + i) := by
    rw [if_neg (by omega), mrow_same]
  have m3 : ∀ a, L.length < a → a < L.length + 1 + N → (if L.length + 1 ≤ a ∧ a < L.length + 1 + N then (fun _ => 0) else mrow mem L.length (fun i => (L.length : Int) + 1 + i) a) = (fun _ => (0 : Int)) := fun a ha hb => by
    rw [if_pos (by omega)]
  have m9 : (if L.length + 1 ≤ 999 ∧ 999 < L.length + 1 + N then (fun _ => 0) else mrow mem L.length (fun i => (L.length : Int) + 1 + i) 999) = mem 999 := by
    rw [if_neg (by omega), mrow_ne (by omega)]
  refine ⟨fun _ => ?_, h2, fun k' x hx => ?_, ?_, h5, by omega, ?_, fun h => (by cases h), fun a q k hq => ?_, fun k => ?_⟩
  · show F.size = mmAt G ((L ++ [(24, N)]) ++ List.replicate N (21, K)).length
    rw [hz, hlen, show L.length + 1 + N = L.length + (1 + N) by omega, atj]
    omega
  · obtain ⟨q', hq', rfl⟩ := mmW_of hx
    rcases Nat.lt_trichotomy k' L.length with c | c | c
    · rw [m1 k' c]
      exact (h3 k' _ (mmW_get (a1 k' q' c hq'))).kept (hold _ (by show mmAt G k' < H.size; rw [hs]; exact mmAt_lt h4.2.1 c))
    · subst c
      have e := a2 q' hq'
      subst e
      rw [m2]
      refine mm_arrAt ?_ (by decide)
      rw [← hs, ho, outer_arr]
      congr 1
      refine arrV_cg (fun j hj => ?_)
      rw [if_pos hj]
      show _ = va_rf (mmRf G ((L.length : Int) + 1 + (j : Int)))
      rw [mmR_rfl (a := L.length + 1 + j) (by push_cast; rfl)]
      have ea : H.size + 1 + j = mmAt G (L.length + 1 + j) := by
        rw [show L.length + 1 + j = L.length + (1 + j) by omega, atj]
        omega
      exact congrArg Value.ref ea
    · obtain ⟨c2, e⟩ := a3 k' q' c hq'
      subst e
      rw [m3 k' c c2]
      refine mm_arrAt ?_ (by decide)
      have q := hi (k' - L.length - 1) (by omega)
      rw [show H.size + 1 + (k' - L.length - 1) = mmAt G k' by
        have e := atj (k' - L.length)
        rw [show L.length + (k' - L.length) = k' by omega] at e
        omega] at q
      rw [q]
      show some ({ cls := G.2.2.1 21, slots := Array.replicate K (defaultValue .long), vm := .none } : Cell) = _
      rw [arrV_new]
      rfl
  · dsimp only
    rw [m9]
    refine ⟨h4.1.kept (hold _ (by omega)), ?_⟩
    show mmHo G ((L ++ [(24, N)]) ++ List.replicate N (21, K)).length true F.size
    rw [hlen, Nat.add_assoc]
    exact mmHo_more hHo (by omega) (1 + N)
  · show ((L ++ [(24, N)]) ++ List.replicate N (21, K)).length ≤ 999
    rw [hlen]
    exact hl
  · dsimp only at hq ⊢
    rcases Nat.lt_trichotomy a L.length with c | c | c
    · rw [m1 a c]
      exact h9.1 a q k (a1 a q c hq)
    · subst c
      have e := a2 q hq
      subst e
      exact ⟨fun h => (by cases h), fun h => (by cases h)⟩
    · obtain ⟨c2, e⟩ := a3 a q c hq
      subst e
      rw [m3 a c c2]
      exact mCan_const (21, K) 0 (Or.inl rfl) k
  · dsimp only
    rw [m9]
    exact h9.2 k
theorem multi_holds : mmMulti := by
  intro B d kc ks Q pc lc st L mem N K idx r1 r2 h1 h3 hr1 hr2 hn hk hl hd k
  intro p l e R s m args below meth c G H locs cells slots ls X
  subst hr1; subst hr2
  intro T hT Xs
  have hts := X.1.2.2.2.2.2.1
  have b1 := X.2.2.2.2.2.1
  have b2 := X.2.2.2.2.2.2.1
  have num : ∀ n : Nat, n ≤ 5000 → (Int32.ofInt (n : Int)).toNatClampNeg = n ∧ ¬ Int32.ofInt (n : Int) < 0 := by
    intro n hn
    have e0 : (Int32.ofInt (n : Int)).toInt = n := by rw [w32_toInt, w32_id (by omega) (by omega)]
    refine ⟨by rw [← Int32.toNat_toInt, e0]; omega, ?_⟩
    rw [Int32.lt_iff_toInt_lt, e0]
    have : (0 : Int32).toInt = 0 := rfl
    omega
  obtain ⟨n1, n2⟩ := num N hn
  obtain ⟨k1, k2⟩ := num K hk
  obtain ⟨vm₁, cA, comp, -, fA, fC, -, -, X', step⟩ := Xs.multianewarray2F X.1.1 X.1.2.2.2.2.1 (hts _ h1) (ao_use X.1.2.2.2.2.2.2.2.2.1.2.2.1) (hts _ h3) (g := F0 m pc ls (.int (Int32.ofInt (K : Int)) :: .int (Int32.ofInt (N : Int)) :: st.map (mmEnc G))) rfl (by rw [X.1.2.1]; exact hd) rfl n2 k2 (by rw [n1]; omega) (by rw [k1]; show K * 8 ≤ _; omega) (by rw [k1]; omega) rfl rfl (by rw [n1]; omega) (by rw [n1, k1]; omega)
  rw [n1, k1] at X' step
  have ecA : cA = G.2.2.1 24 := Option.some.inj (fA.symm.trans (X.2.1.2.1.2 4 _ rfl).2)
  have ecy : comp = G.2.2.1 21 := Option.some.inj (fC.symm.trans (X.2.1.2.1.2 1 _ rfl).2)
  subst ecA; subst ecy
  have hTh : (T.setVm vm₁).heap = H := hT
  obtain ⟨f1, f2, -, -⟩ := Jvm.Free.Multi.fill_facts (T.setVm vm₁) (G.2.2.1 24) (G.2.2.1 21) N K (defaultValue .long) N
  have hold : ∀ x : Nat, x < H.size → (Jvm.Free.Multi.fill (T.setVm vm₁) (G.2.2.1 24) (G.2.2.1 21) N K (defaultValue .long) N).heap[x]? = H[x]? := fun x hx => by
    have := Jvm.Free.Multi.fill_old (T.setVm vm₁) (G.2.2.1 24) (G.2.2.1 21) N K (defaultValue .long) (a := x) (by rw [hTh]; exact hx) N
    rw [hTh] at this
    exact this
  have hrow : ∀ j : Nat, j < N → (Jvm.Free.Multi.fill (T.setVm vm₁) (G.2.2.1 24) (G.2.2.1 21) N K (defaultValue .long) N).heap[H.size + 1 + j]? = some (Jvm.Free.Multi.innerC (G.2.2.1 21) K (defaultValue .long)) := fun j hj => by
    have := Jvm.Free.Multi.fill_inner (T.setVm vm₁) (G.2.2.1 24) (G.2.2.1 21) N K (defaultValue .long) N j hj
    rw [hTh] at this
    exact this
  rw [hTh] at f1 f2
  have hR2 := mmR_multi24 X.2.1 f1 hold f2 hrow hl
  obtain ⟨t, a, b⟩ := k p l e R s m args below meth c G _ locs (cells + 1 + N) (slots + N + N * K) ls ⟨X.1, hR2, mm_Snew X.2.2.1 (by omega) hold, X.2.2.2.1, X.2.2.2.2.1, by omega, by omega, X.2.2.2.2.2.2.2⟩ _ rfl X'
  refine ⟨t, step t ?_, b⟩
  rw [List.map_cons, mm_top X.2.1] at a
  rw [hT]
  exact a
theorem mmR_multi26 {G : mmG} {L : List (Nat × Nat)} {mem : mmM} {s : State} {H F : Heap} {N K : Nat} (hR : mmR G (true, L) mem s H) (hz : F.size = H.size + 1 + N) (hold : ∀ x : Nat, x < H.size → F[x]? = H[x]?)
    (ho : F[H.size]? = some (Jvm.Free.Multi.outerC (G.2.2.1 26) N H.size N)) (hi : ∀ j : Nat, j < N → F[H.size + 1 + j]? = some (Jvm.Free.Multi.innerC (G.2.2.1 20) K (defaultValue .int))) (hl : L.length + 1 + N ≤ 999) :
    mmR G (true, (L ++ [(26, N)]) ++ List.replicate N (20, K)) (fun a => if L.length + 1 ≤ a ∧ a < L.length + 1 + N then (fun _ => 0) else mrow mem L.length (fun i => (L.length : Int) + 1 + i) a) s F := by
  obtain ⟨h1, h2, h3, h4, h5, h6, h7, h8, h9⟩ := hR
  have hs := h1 rfl
  dsimp only at hs
  have hHo : mmHo G L.length true H.size := h4.2
  have atj : ∀ j : Nat, mmAt G (L.length + j) = H.size + j := fun j => by rw [mmAt_add hHo, hs]
  have hlen : ((L ++ [(26, N)]) ++ List.replicate N (20, K)).length = L.length + 1 + N := by simp; omega
  have a1 : ∀ a q, a < L.length → ((L ++ [(26, N)]) ++ List.replicate N (20, K))[a]? = some q → L[a]? = some q := fun a q ha hq => by
    rw [List.getElem?_append_left (by simp; omega), List.getElem?_append_left ha] at hq
    exact hq
  have a2 : ∀ q, ((L ++ [(26, N)]) ++ List.replicate N (20, K))[L.length]? = some q → q = (26, N) := fun q hq => by
    rw [List.getElem?_append_left (by simp), List.getElem?_append_right (Nat.le_refl _), Nat.sub_self] at hq
    exact (Option.some.inj hq).symm
  have a3 : ∀ a q, L.length < a → ((L ++ [(26, N)]) ++ List.replicate N (20, K))[a]? = some q → a < L.length + 1 + N ∧ q = (20, K) := fun a q ha hq => by
    have hlt := (List.getElem?_eq_some_iff.mp hq).1
    rw [hlen] at hlt
    rw [List.getElem?_append_right (by simp; omega), List.getElem?_replicate, if_pos (by simp; omega)] at hq
    exact ⟨hlt, (Option.some.inj hq).symm⟩
  have m1 : ∀ a, a < L.length → (if L.length + 1 ≤ a ∧ a < L.length + 1 + N then (fun _ => 0) else mrow mem L.length (fun i => (L.length : Int) + 1 + i) a) = mem a := fun a ha => by
    rw [if_neg (by omega), mrow_ne (by omega)]
  have m2 : (if L.length + 1 ≤ L.length ∧ L.length < L.length + 1 + N then (fun _ => 0) else mrow mem L.length (fun i => (L.length : Int) + 1 + i) L.length) = (fun i : Int => (L.length : Int) + 1 + i) := by
    rw [if_neg (by omega), mrow_same]
  have m3 : ∀ a, L.length < a → a < L.length + 1 + N → (if L.length + 1 ≤ a ∧ a < L.length + 1 + N then (fun _ => 0) else mrow mem L.length (fun i => (L.length : Int) + 1 + i) a) = (fun _ => (0 : Int)) := fun a ha hb => by
    rw [if_pos (by omega)]
  have m9 : (if L.length + 1 ≤ 999 ∧ 999 < L.length + 1 + N then (fun _ => 0) else mrow mem L.length (fun i => (L.length : Int) + 1 + i) 999) = mem 999 := by
    rw [if_neg (by omega), mrow_ne (by omega)]
  refine ⟨fun _ => ?_, h2, fun k' x hx => ?_, ?_, h5, by omega, ?_, fun h => (by cases h), fun a q k hq => ?_, fun k => ?_⟩
  · show F.size = mmAt G ((L ++ [(26, N)]) ++ List.replicate N (20, K)).length
    rw [hz, hlen, show L.length + 1 + N = L.length + (1 + N) by omega, atj]
    omega
  · obtain ⟨q', hq', rfl⟩ := mmW_of hx
    rcases Nat.lt_trichotomy k' L.length with c | c | c
    · rw [m1 k' c]
      exact (h3 k' _ (mmW_get (a1 k' q' c hq'))).kept (hold _ (by show mmAt G k' < H.size; rw [hs]; exact mmAt_lt h4.2.1 c))
    · subst c
      have e := a2 q' hq'
      subst e
      rw [m2]
      refine mm_arrAt ?_ (by decide)
      rw [← hs, ho, outer_arr]
      congr 1
      refine arrV_cg (fun j hj => ?_)
      rw [if_pos hj]
      show _ = va_rf (mmRf G ((L.length : Int) + 1 + (j : Int)))
      rw [mmR_rfl (a := L.length + 1 + j) (by push_cast; rfl)]
      have ea : H.size + 1 + j = mmAt G (L.length + 1 + j) := by
        rw [show L.length + 1 + j = L.length + (1 + j) by omega, atj]
        omega
      exact congrArg Value.ref ea
    · obtain ⟨c2, e⟩ := a3 k' q' c hq'
      subst e
      rw [m3 k' c c2]
      refine mm_arrAt ?_ (by decide)
      have q := hi (k' - L.length - 1) (by omega)
      rw [show H.size + 1 + (k' - L.length - 1) = mmAt G k' by
        have e := atj (k' - L.length)
        rw [show L.length + (k' - L.length) = k' by omega] at e
        omega] at q
      rw [q]
      show some ({ cls := G.2.2.1 20, slots := Array.replicate K (defaultValue .int), vm := .none } : Cell) = _
      rw [arrV_new]
      rfl
  · dsimp only
    rw [m9]
    refine ⟨h4.1.kept (hold _ (by omega)), ?_⟩
    show mmHo G ((L ++ [(26, N)]) ++ List.replicate N (20, K)).length true F.size
    rw [hlen, Nat.add_assoc]
    exact mmHo_more hHo (by omega) (1 + N)
  · show ((L ++ [(26, N)]) ++ List.replicate N (20, K)).length ≤ 999
    rw [hlen]
    exact hl
  · dsimp only at hq ⊢
    rcases Nat.lt_trichotomy a L.length with c | c | c
    · rw [m1 a c]
      exact h9.1 a q k (a1 a q c hq)
    · subst c
      have e := a2 q hq
      subst e
      exact ⟨fun h => (by cases h), fun h => (by cases h)⟩
    · obtain ⟨c2, e⟩ := a3 a q c hq
      subst e
      rw [m3 a c c2]
      exact mCan_const (20, K) 0 (Or.inl rfl) k
  · dsimp only
    rw [m9]
    exact h9.2 k
theorem multiI_holds : mmMultiI := by
  intro B d kc ks Q pc lc st L mem N K idx r1 r2 h1 h3 hr1 hr2 hn hk hl h65 hd k
  intro p l e R s m args below meth c G H locs cells slots ls X
  subst hr1; subst hr2
  intro T hT Xs
  have hts := X.1.2.2.2.2.2.1
  have b1 := X.2.2.2.2.2.1
  have b2 := X.2.2.2.2.2.2.1
  have num : ∀ n : Nat, n ≤ 5000 → (Int32.ofInt (n : Int)).toNatClampNeg = n ∧ ¬ Int32.ofInt (n : Int) < 0 := by
    intro n hn
    have e0 : (Int32.ofInt (n : Int)).toInt = n := by rw [w32_toInt, w32_id (by omega) (by omega)]
    refine ⟨by rw [← Int32.toNat_toInt, e0]; omega, ?_⟩
    rw [Int32.lt_iff_toInt_lt, e0]
    have : (0 : Int32).toInt = 0 := rfl
    omega
  obtain ⟨n1, n2⟩ := num N hn
  obtain ⟨k1, k2⟩ := num K hk
  obtain ⟨vm₁, cA, comp, -, fA, fC, -, -, X', step⟩ := Xs.multianewarray2F X.1.1 X.1.2.2.2.2.1 (hts _ h1) (ao_use X.1.2.2.2.2.2.2.2.2.1.2.2.2) (hts _ h3) (g := F0 m pc ls (.int (Int32.ofInt (K : Int)) :: .int (Int32.ofInt (N : Int)) :: st.map (mmEnc G))) rfl (by rw [X.1.2.1]; exact hd) rfl n2 k2 (by rw [n1]; omega) (by rw [k1]; show K * 4 ≤ _; omega) (by rw [k1]; omega) rfl rfl (by rw [n1]; omega) (by rw [n1, k1]; omega)
  rw [n1, k1] at X' step
  have ecA : cA = G.2.2.1 26 := Option.some.inj (fA.symm.trans (X.2.1.2.1.2 6 _ rfl).2)
  have ecy : comp = G.2.2.1 20 := Option.some.inj (fC.symm.trans (X.2.1.2.1.2 0 _ rfl).2)
  subst ecA; subst ecy
  have hTh : (T.setVm vm₁).heap = H := hT
  obtain ⟨f1, f2, -, -⟩ := Jvm.Free.Multi.fill_facts (T.setVm vm₁) (G.2.2.1 26) (G.2.2.1 20) N K (defaultValue .int) N
  have hold : ∀ x : Nat, x < H.size → (Jvm.Free.Multi.fill (T.setVm vm₁) (G.2.2.1 26) (G.2.2.1 20) N K (defaultValue .int) N).heap[x]? = H[x]? := fun x hx => by
    have := Jvm.Free.Multi.fill_old (T.setVm vm₁) (G.2.2.1 26) (G.2.2.1 20) N K (defaultValue .int) (a := x) (by rw [hTh]; exact hx) N
    rw [hTh] at this
    exact this
  have hrow : ∀ j : Nat, j < N → (Jvm.Free.Multi.fill (T.setVm vm₁) (G.2.2.1 26) (G.2.2.1 20) N K (defaultValue .int) N).heap[H.size + 1 + j]? = some (Jvm.Free.Multi.innerC (G.2.2.1 20) K (defaultValue .int)) := fun j hj => by
    have := Jvm.Free.Multi.fill_inner (T.setVm vm₁) (G.2.2.1 26) (G.2.2.1 20) N K (defaultValue .int) N j hj
    rw [hTh] at this
    exact this
  rw [hTh] at f1 f2
  have hR2 := mmR_multi26 X.2.1 f1 hold f2 hrow hl
  obtain ⟨t, a, b⟩ := k p l e R s m args below meth c G _ locs (cells + 1 + N) (slots + N + N * K) ls ⟨X.1, hR2, mm_Snew X.2.2.1 (by omega) hold, X.2.2.2.1, X.2.2.2.2.1, by omega, by omega, X.2.2.2.2.2.2.2⟩ _ rfl X'
  refine ⟨t, step t ?_, b⟩
  rw [List.map_cons, mm_top X.2.1] at a
  rw [hT]
  exact a
