/-! a call on a String; a row of bytes copied whole -/
section MMjm
variable {B : mmB} {d kc ks : Nat} {Q : mmQ} {pc : Nat} {lc st : List mmV} {sh : mmS} {mem : mmM}
theorem st_callVK {B' : mmB} {idx d' kc' ks' kc2 ks2 n i : Nat} {stk av : List mmV} {Qc : mmQ} (hi : i < 5) (hcls : B'.1.cls = "java/lang/String") (hm : mmMV B.1.cls idx B') (ho : mmOK B' n) (hC : mmC B' d' kc' ks' ((4, ((2 * i : Nat) : Int)) :: av) sh mem Qc) (hn : av.length = n) (hst : stk = av.reverse ++ (4, ((2 * i : Nat) : Int)) :: st) (hd' : d' + 1 ≤ d) (hkc : kc' + kc2 ≤ kc) (hks : ks' + ks2 ≤ ks) (hcat : mmCat st ≤ 8) (hd : decode B.2.1 pc = .ok (.invokevirtual idx, 3))
    (kk : ∀ (r : Option mmV) (sh' : mmS) (mem' : mmM), Qc r sh' mem' → mmT B d kc2 ks2 Q (pc + 3) lc (r.toList ++ st) sh' mem') : mmT B d kc ks Q pc lc stk sh mem := by
  intro p l e R s m args below meth c G H locs cells slots ls X
  subst hst
  have hrecv := vk_recv X.2.2.2.2.2.2.2.2.2.2.1 hi X.2.2.1
  rw [← hcls] at hrecv
  have hM := hC l G X.2.2.2.2.2.2.2.2.2.1
  have hgood : GoodIn mm_tbl (wsV B.1.cls idx B'.1.cls B'.1 (Cond.code B'.1 B'.2.1 B'.2.2.1 B'.2.2.2 :: mm_tbl)) := mm_good fun w hw => by
    unfold wsV at hw
    simp only [List.mem_append, List.mem_cons, List.not_mem_nil, or_false] at hw
    rcases hw with (rfl | rfl | rfl | rfl) | rfl | hw
    · exact hm.1
    · exact hm.2.1
    · exact hm.2.2
    · exact ho.2.1
    · exact ho.1
    · exact hw
  refine mm_goes (Qc := Qc) (mc := kc') (ms := ks') (a := (Value.ref (G.2.2.2.2 (2 * i)) :: av.map (mmEnc G)).toArray) X hkc hks ?_ kk
  have hstk : ((av.reverse ++ (4, ((2 * i : Nat) : Int)) :: st).map (mmEnc G)) = (av.map (mmEnc G)).reverse ++ .ref (G.2.2.2.2 (2 * i)) :: st.map (mmEnc G) := by
    rw [List.map_append, List.map_reverse]
    rfl
  rw [hstk]
  refine va_runV (Pc := mmPre G ((4, ((2 * i : Nat) : Int)) :: av) sh mem) (C := B'.1.cls) (As := av.map (mmEnc G)) (b := G.2.2.2.2 (2 * i)) (mm_fix X) hM (cwV n X.1.2.2.2.2.2.1 hgood rfl rfl rfl ⟨rfl, ho.2.2.1⟩ (mm_room X hd' ho.2.2.2.1)) ⟨mm_blind, hrecv, fun U hU hW => ⟨rfl, by rw [hU]; exact X.2.1.moved hW.alike, X.1.2.2.2.2.2.2.2.2.warm hW, by rw [hU]; exact (X.2.2.2.2.2.2.2.2.2.2.moved hW.alike).kept X.2.2.1.2.1⟩⟩ rfl (by rw [List.length_map]; exact hn) ?_ rfl (lv_room (by rw [mmCat_enc]; exact hcat)) hd ⟨?_, ?_⟩
  · obtain ⟨lv, h1, -⟩ := X.2.2.2.2.1
    exact h1.1
  · have := X.2.2.2.2.2.1
    omega
  · have := X.2.2.2.2.2.2.1
    omega
theorem st_callVs {B' : mmB} {idx d' kc' ks' kc2 ks2 n n0 : Nat} {v w : mmV} {f : Int → Int} {stk av : List mmV} {Qc : mmQ} (hS : isStr sh mem v w n0 f) (hcls : B'.1.cls = "java/lang/String") (hm : mmMV B.1.cls idx B') (ho : mmOK B' n) (hC : mmC B' d' kc' ks' (v :: av) sh mem Qc) (hn : av.length = n) (hst : stk = av.reverse ++ v :: st) (hd' : d' + 1 ≤ d) (hkc : kc' + kc2 ≤ kc) (hks : ks' + ks2 ≤ ks) (hcat : mmCat st ≤ 8) (hd : decode B.2.1 pc = .ok (.invokevirtual idx, 3))
    (kk : ∀ (r : Option mmV) (sh' : mmS) (mem' : mmM), Qc r sh' mem' → mmT B d kc2 ks2 Q (pc + 3) lc (r.toList ++ st) sh' mem') : mmT B d kc ks Q pc lc stk sh mem := by
  rcases hS.1 with ⟨a, rfl, hs, -, -⟩ | ⟨i, hi, rfl, -⟩
  · exact st_callV a 11 hm ho hC rfl hs ⟨_, rfl, hcls.symm, by decide⟩ hn hst hd' hkc hks hcat hd kk
  · exact st_callVK hi hcls hm ho hC hn hst hd' hkc hks hcat hd kk
theorem st_cloneB {L : List (Nat × Nat)} {n : Nat} {r : Int} (a : Nat) (hB : B.1.cls = RJ7) (hr : r = (a : Int)) (hs : L[a]? = some (25, n)) (hl : L.length + 1 ≤ 999) (hb : ∀ j, 0 ≤ j → j < n → 0 ≤ mem a j ∧ mem a j ≤ 127) (hd1 : 3 ≤ d) (hcat : mmCat st ≤ 8) (hd : decode B.2.1 pc = .ok (.invokevirtual 310, 3))
    (h1 : Cond.methodLink RJ7 310 ⟨"[B", "clone", "()Ljava/lang/Object;"⟩ ∈ mm_tbl) (h2 : Cond.sameMethod "[B" "java/lang/Object" "clone" "()Ljava/lang/Object;" ∈ mm_tbl) (h3 : Cond.native ⟨"java/lang/Object", "clone", "()Ljava/lang/Object;"⟩ ∈ mm_tbl) (h4 : Cond.instanceMethod ⟨"java/lang/Object", "clone", "()Ljava/lang/Object;"⟩ ∈ mm_tbl) (h5 : Cond.selects "[B" ⟨"[B", "clone", "()Ljava/lang/Object;"⟩ ⟨"java/lang/Object", "clone", "()Ljava/lang/Object;"⟩ ∈ mm_tbl)
    (k : mmT B d kc ks Q (pc + 3) lc ((2, (L.length : Int)) :: st) (true, L ++ [(25, n)]) (mrow mem L.length (mem a))) : mmT B d (kc + 1) (ks + n) Q pc lc ((2, r) :: st) (true, L) mem := by
  intro p l e R s m args below meth c G H locs cells slots ls X
  have hts := X.1.2.2.2.2.2.1
  have b1 := X.2.2.2.2.2.1
  have b2 := X.2.2.2.2.2.2.1
  have hown := X.1.2.2.2.2.1
  rw [hB] at hown
  have hc1 : H[mmAt G a]? = some (vp_cell (G.2.2.1 25) (n, .inl (fun j : Nat => Int32.ofInt (mem a j)))) := X.2.1.2.2.1 a _ (mmW_get hs)
  obtain ⟨lv, hlv, -⟩ := X.2.2.2.2.1
  have hr3 := X.2.2.2.2.2.2.2.1
  have hr4 := X.2.2.2.2.2.2.2.2.1
  have hcl := X.1.2.2.2.2.2.2.2.2.2.2.2
  have hnm : s.vm.findClass "[B" = some (G.2.2.1 25) := (X.2.1.2.1.2 5 _ rfl).2
  rw [mm_map1 G hr]
  obtain ⟨c0, t0', f1, f2, f3⟩ := Cond.castable_spec (va_Nw.use (A := args) rfl hcl)
  cases hnm.symm.trans f1
  generalize hD : vp_cell (G.2.2.1 25) (n, .inl (fun j : Nat => Int32.ofInt (mem a j))) = D at hc1
  have hvm0 : D.vm = .none := by rw [← hD]; rfl
  have hcl0 : D.cls = G.2.2.1 25 := by rw [← hD]; rfl
  have hsz : D.slots.size = n := by rw [← hD]; exact arrV_size _ _ _
  have hcellE : ({ cls := D.cls, slots := D.slots } : Cell) = D := by rw [← hD]; rfl
  intro T hT XT
  have hcellT : T.heap[mmAt G a]? = some D := by rw [hT]; exact hc1
  obtain ⟨-, kA, hkA, comp, hkind⟩ := State.isArrayOf_alike XT.warmed.alike ((mm_kind X.2.1).2.2.2.2.2.1 0 (fun _ => .null))
  obtain ⟨-, kS, hkS, compS, hkindS⟩ := (mm_kind X.2.1).2.2.2.2.2.1 0 (fun _ => .null)
  obtain ⟨vm', X', st'⟩ := XT.cloneArray X.1.1 hown (hts _ h1) (hts _ h2) (hts _ h3) (hts _ h4) (hts _ h5) (a := mmAt G a) (cell := D) hcellT (fun k h => by rw [hvm0] at h; cases h) (by rw [hvm0]; exact fun h => by cases h) (by rw [hcl0]; exact hnm) f2 (by rw [hcl0]; exact f3)
    (fun i v hv => by
      rw [hcl0]
      have hk' : T.vm.classes[G.2.2.1 25]? = some kA := hkA
      have hlt : i < n := by
        have := (Array.getElem?_eq_some_iff.mp hv).1
        rwa [hsz] at this
      have hv2 : D.slots[i]? = some (.int (Int32.ofInt (mem a i))) := by
        rw [← hD]
        show (arrV (G.2.2.1 25) n (fun j : Nat => Value.int (Int32.ofInt (mem a j)))).slots[i]? = _
        rw [arrV_read _ _ hlt]
      cases hv.symm.trans hv2
      have hfit := (byte_ok (hb i (by omega) (by omega))).2.2
      simpa [State.fitsSlot, State.slotType?, hk', hkind] using hfit)
    (g := F0 m pc ls (.ref (mmAt G a) :: st.map (mmEnc G))) rfl (by rw [X.1.2.2.1]; exact hlv.1) rfl (by rw [X.1.2.1]; exact hd) (by omega) (by
      have hcc := mmCat_enc G st
      show 2 * 0 + _ + 14 ≤ _
      omega) (by omega) (by rw [hsz]; omega) (hloader := by rw [hcl0]; exact Vm.clonesLoader_of_array hkS hkindS)
  rw [hcellE, hsz] at X'
  have z1 : (H.push D).size = H.size + 1 := Array.size_push _
  have o1 : ∀ q : Nat, q < H.size → (H.push D)[q]? = H[q]? := fun q hq => by rw [Array.getElem?_push, if_neg (Nat.ne_of_lt hq)]
  have hsH := X.2.1.1 rfl
  dsimp only at hsH
  have e1 : va_at G.2.1 vwCl (mmAt G L.length, mmE G (25, n) (mem a)) (H.push D) := by
    show (H.push D)[mmAt G L.length]? = some (vp_cell (G.2.2.1 25) (n, .inl (fun j : Nat => Int32.ofInt (mem a j))))
    rw [← hsH, Array.getElem?_push_size, hD]
  obtain ⟨t, a1, a2⟩ := k p l e R s m args below meth c G (H.push D) locs (cells + 1) (slots + n) ls (mmX_new X e1 z1 o1 hl (fun k => ⟨fun h => (X.2.1.2.2.2.2.2.2.2.2.1 a _ k hs).1 h, fun h => (X.2.1.2.2.2.2.2.2.2.2.1 a _ k hs).2 h⟩)) ((T.setVm vm').pushCell D) (by rw [← hT]; rfl) X'
  refine ⟨t, st' t ?_, a2⟩
  rw [hcellE, hT]
  rw [List.map_cons, mm_top X.2.1] at a1
  exact a1
theorem st_castB {L : List (Nat × Nat)} {b : Bool} {n : Nat} {r : Int} (a : Nat) (hB : B.1.cls = RJ7) (hr : r = (a : Int)) (hs : L[a]? = some (25, n)) (h1 : Cond.classLink RJ7 311 "[B" ∈ mm_tbl) (hd : decode B.2.1 pc = .ok (.checkcast 311, 3)) (k : mmT B d kc ks Q (pc + 3) lc ((2, r) :: st) (b, L) mem) : mmT B d kc ks Q pc lc ((2, r) :: st) (b, L) mem := by
  intro p l e R s m args below meth c G H locs cells slots ls X
  have hk := k p l e R s m args below meth c G H locs cells slots ls X
  have hown := X.1.2.2.2.2.1
  rw [hB] at hown
  have hw := mmW_get (G := G) (mem := mem) hs
  rw [mm_map1 G hr] at hk ⊢
  exact va_castA (x := (n, .inl (fun j : Nat => Int32.ofInt (mem a j)))) X.1.1 X.1.2.1 hown (X.1.2.2.2.2.2.1 _ h1) X.2.1.2.2.1 a hw (X.2.1.2.1.2 5 _ rfl).2 hd hk
end MMjm
/-- new int[N][K]: as mmMulti -/
def mmMultiI : Prop := ∀ (B : mmB) (d kc ks : Nat) (Q : mmQ) (pc : Nat) (lc st : List mmV) (L : List (Nat × Nat)) (mem : mmM) (N K idx : Nat) (r1 r2 : Int), Cond.classLink B.1.cls idx "[[I" ∈ mm_tbl → Cond.arrayClass .int ∈ mm_tbl → r1 = (N : Int) → r2 = (K : Int) → N ≤ 5000 → K ≤ 5000 → L.length + 1 + N ≤ 999 → 65 ≤ L.length → decode B.2.1 pc = .ok (.multianewarray idx 2, 4) →
  mmT B d kc ks Q (pc + 4) lc ((2, (L.length : Int)) :: st) (true, (L ++ [(26, N)]) ++ List.replicate N (20, K)) (fun a => if L.length + 1 ≤ a ∧ a < L.length + 1 + N then (fun _ => 0) else mrow mem L.length (fun i => (L.length : Int) + 1 + i) a) → mmT B d (kc + (1 + N)) (ks + (N + N * K)) Q pc lc ((0, r2) :: (0, r1) :: st) (true, L) mem
