/-! contracts, calls, returns, new cells -/
def mmPre (G : mmG) (av : List mmV) (sh : mmS) (mem : mmM) : Array Value → State → Prop := fun a U => a = (av.map (mmEnc G)).toArray ∧ mmR G sh mem U U.heap ∧ mmNw G U ∧ mmSF G U U.heap
def mmC (B : mmB) (d kc ks : Nat) (av : List mmV) (sh : mmS) (mem : mmM) (Q : mmQ) : Prop :=
  ∀ (l : Launch) (G : mmG), l.flags = flags0 → Met l B.1 (Cond.code B.1 B.2.1 B.2.2.1 B.2.2.2 :: mm_tbl) ({ frames := d, cells := kc, slots := ks, locals := 64 * d } : Room) (mmPre G av sh mem) (mmPost G Q) kc ks (mmAd G)
def mmOK (B : mmB) (n : Nat) : Prop := Cond.code B.1 B.2.1 B.2.2.1 B.2.2.2 ∈ mm_tbl ∧ Cond.initialized B.1.cls ∈ mm_tbl ∧ (B.1.cls ≠ "java/lang/invoke/MethodHandle" ∧ B.1.cls ≠ "java/lang/invoke/VarHandle" ∧ (parseMethodDescriptor B.1.desc).map (fun d => d.parameters.length) = some n) ∧ B.2.2.1 ≤ 40 ∧ plainName B.1.cls = true
def mmEntry : List mmV → List mmV
  | [] => []
  | v :: vs => if v.1 = 1 then v :: (9, 0) :: mmEntry vs else v :: mmEntry vs
theorem mmEntry_len (G : mmG) : ∀ av : List mmV, (lg_sl (av.map (mmEnc G))).length = (mmEntry av).length
  | [] => rfl
  | v :: vs => by
    have ih := mmEntry_len G vs
    unfold lg_sl at ih ⊢
    rw [List.map_cons, List.flatMap_cons, List.length_append]
    unfold mmEntry
    by_cases e : v.1 = 1
    · obtain ⟨t, x⟩ := v
      have : t = 1 := e
      subst this
      rw [mm_cat2, if_pos rfl, if_pos rfl, ih]
      simp
      omega
    · rw [mm_cat1 G e, if_neg (by decide), if_neg e, ih]
      simp
      omega
theorem mmEntry_in (G : mmG) : ∀ (av : List mmV) (k i : Nat) (v : mmV), (mmEntry av)[i]? = some v → v.1 < 9 → (k + i, mmEnc G v) ∈ lv_args k (av.map (mmEnc G))
  | [], _, i, v, h, _ => by simp [mmEntry] at h
  | w :: vs, k, i, v, h, hv => by
    rw [List.map_cons]
    unfold lv_args
    unfold mmEntry at h
    by_cases e : w.1 = 1
    · rw [if_pos e] at h
      obtain ⟨t, x⟩ := w
      have : t = 1 := e
      subst this
      rw [mm_cat2, if_pos rfl]
      match i, h with
      | 0, h =>
        simp only [List.getElem?_cons_zero, Option.some.injEq] at h
        subst h
        exact List.mem_cons_self
      | 1, h =>
        simp only [List.getElem?_cons_succ, List.getElem?_cons_zero, Option.some.injEq] at h
        subst h
        exact absurd hv (by decide)
      | i + 2, h =>
        simp only [List.getElem?_cons_succ] at h
        have := mmEntry_in G vs (k + 2) i v h hv
        rw [show k + (i + 2) = k + 2 + i by omega]
        exact List.mem_cons_of_mem _ this
    · rw [if_neg e] at h
      rw [mm_cat1 G e, if_neg (by decide)]
      match i, h with
      | 0, h =>
        simp only [List.getElem?_cons_zero, Option.some.injEq] at h
        subst h
        exact List.mem_cons_self
      | i + 1, h =>
        simp only [List.getElem?_cons_succ] at h
        have := mmEntry_in G vs (k + 1) i v h hv
        rw [show k + (i + 1) = k + 1 + i by omega]
        exact List.mem_cons_of_mem _ this
theorem mmR.moved {G : mmG} {sh : mmS} {mem : mmM} {s U : State} {H : Heap} (h : s.vm.Alike U.vm) (hR : mmR G sh mem s H) : mmR G sh mem U H :=
  ⟨hR.1, hR.2.1.moved h, hR.2.2.1, ⟨hR.2.2.2.1.1.moved h, hR.2.2.2.1.2⟩, hR.2.2.2.2⟩
theorem mmC_of {B : mmB} {d kc ks : Nat} {av : List mmV} {sh : mmS} {mem : mmM} {Q : mmQ} (lc : List mmV) (hy : plainName B.1.cls = true) (hlc : mmEntry av ++ List.replicate (B.2.2.1 - (mmEntry av).length) (9, 0) = lc) (hn : (mmEntry av).length ≤ B.2.2.1) (h : mmT B d kc ks Q 0 lc [] sh mem) : mmC B d kc ks av sh mem Q := by
  intro l G hfl
  refine Met.ofW (cc := B.2.1) (maxL := B.2.2.1) (ret := B.2.2.2) hy rfl ?_
  intro p e s m args below meth c s₁ BL hml hv
  obtain ⟨rfl, hR, hN, hSF⟩ := hv
  have hts := atoms_spec (ws := Cond.code B.1 B.2.1 B.2.2.1 B.2.2.2 :: mm_tbl) BL.pre
  have hown : s.vm.findClass B.1.cls = some m.cls := findClass_of_methodNamed BL.named
  have hname : meth.name = B.1.name := (name_of_methodNamed BL.named BL.method).1
  have hl := lv_entry (av.map (mmEnc G)) (n := B.2.2.1) (by rw [mmEntry_len]; exact hn)
  rw [lg_entry_eq]
  refine h p l e _ s m _ below meth c G s.heap [] 0 0 _ ⟨⟨BL.exec, BL.bytes, hml, BL.returns, hown, fun w hw => hts w (List.mem_cons_of_mem _ hw), BL.notSynchronized, (fun h => hname.trans h), hN⟩, hR, va_S.rf, ⟨hR.2.2.2.2.2.1, hR.2.2.2.1.2.2.2.imp id (fun w => w.2.1)⟩, ⟨_, hl, fun i v hi hv => ?_⟩, ?_, ?_, ?_, ?_, hfl, hSF⟩
  · rw [← hlc] at hi
    by_cases hlt : i < (mmEntry av).length
    · rw [List.getElem?_append_left hlt] at hi
      have := mmEntry_in G av 0 i v hi hv
      rwa [Nat.zero_add] at this
    · rw [List.getElem?_append_right (by omega), List.getElem?_replicate] at hi
      split at hi
      · cases hi
        exact absurd hv (by decide)
      · cases hi
  · show 0 + kc ≤ kc
    omega
  · show 0 + ks ≤ ks
    omega
  · show d ≤ d
    omega
  · show 64 * d ≤ 64 * d
    omega
theorem mm_blind {G : mmG} {av : List mmV} {sh : mmS} {mem : mmM} : FrameBlind (mmPre G av sh mem) := fun a U g mk h => ⟨h.1, h.2.1.moved (Vm.Alike.refl U.vm), h.2.2.1.same rfl, h.2.2.2.moved (Vm.Alike.refl U.vm)⟩
def mmCat (st : List mmV) : Nat := (st.map fun v => if v.1 = 1 then 2 else 1).sum
theorem mmCat_enc (G : mmG) (st : List mmV) : ((st.map (mmEnc G)).map fun v => v.category).sum = mmCat st := by
  unfold mmCat
  rw [List.map_map]
  congr 1
  apply List.map_congr_left
  intro v _
  by_cases e : v.1 = 1
  · obtain ⟨t, x⟩ := v
    have : t = 1 := e
    subst this
    rfl
  · rw [if_neg e]
    exact mm_cat1 G e
section MMca
variable {B : mmB} {d kc ks : Nat} {Q : mmQ} {pc : Nat} {lc st : List mmV} {sh : mmS} {mem : mmM}
theorem mm_goes {Qc : mmQ} {st0 : List Value} {mc ms kc2 ks2 : Nat} {a : Array Value} {p : Program} {l : Launch} {e : Env} {R : Room} {s : State} {m : MethodId} {args : Array Value} {below : List Frame} {meth : Method} {c : Code} {G : mmG} {H : Heap} {locs : List Loc} {cells slots : Nat} {ls : Array Slot} (X : mmX B d kc ks G sh mem lc p l R s m args meth c H locs cells slots ls)
    (hc : mc + kc2 ≤ kc) (hs : ms + ks2 ≤ ks) (hr : va_Run p l e R s m args below meth c H locs cells slots mc ms (F0 m pc ls st0) (st.map (mmEnc G)) (mmPost G Qc a) (mmAd G))
    (kk : ∀ (r : Option mmV) (sh' : mmS) (mem' : mmM), Qc r sh' mem' → mmT B d kc2 ks2 Q (pc + 3) lc (r.toList ++ st) sh' mem') : W p l e R s m args below meth c H locs cells slots (MQ below (mmPost G Q) args s R.cells R.slots (mmAd G)) (F0 m pc ls st0) := by
  intro T hT XT
  obtain ⟨v, st₀, t, T', L, h0, X', hL, e1, e2, ⟨⟨r, sh', mem', hv, hq, hR⟩, hz, hk⟩, stp⟩ := hr T hT XT
  have hv' : v = r.map (mmEnc G) := by cases hv; rfl
  subst hv'
  rw [h0] at hz hk
  have hal : t.vm.Alike s.vm := by rw [← e2]; exact X'.warmed.alike.symm
  have X2 : mmX B d kc2 ks2 G sh' mem' lc p l R s m args meth c T'.heap (locs ++ L) (cells + mc) (slots + ms) ls := by
    refine ⟨X.1, by rw [e1]; exact hR.moved hal, ⟨Nat.le_trans X.2.2.1.1 (by rw [e1]; exact hz), fun q h1 h2 => ?_, fun q hq => ?_⟩, X.2.2.2.1, X.2.2.2.2.1, ?_, ?_, X.2.2.2.2.2.2.2⟩
    · rw [e1, hk q (Nat.lt_of_lt_of_le h1 X.2.2.1.1) h2]
      exact X.2.2.1.2.1 q h1 h2
    · rcases List.mem_append.mp hq with h | h
      · exact X.2.2.1.2.2 q h
      · exact hL q h
    · have := X.2.2.2.2.2.1
      omega
    · have := X.2.2.2.2.2.2.1
      omega
  have hw := kk r sh' mem' hq p l e R s m args below meth c G T'.heap (locs ++ L) (cells + mc) (slots + ms) ls X2
  obtain ⟨t2, a1, b1⟩ := hw T' rfl X'
  refine ⟨t2, stp t2 ?_, b1⟩
  have e3 : (r.map (mmEnc G)).toList ++ st.map (mmEnc G) = (r.toList ++ st).map (mmEnc G) := by cases r <;> rfl
  show Steps p.tables e below (T'.setTop { (F0 m pc ls st0) with pc := pc + 3, stack := (r.map (mmEnc G)).toList ++ st.map (mmEnc G) }) t2
  rw [e3]
  exact a1
theorem mm_fix {p : Program} {l : Launch} {R : Room} {s : State} {m : MethodId} {args : Array Value} {meth : Method} {c : Code} {G : mmG} {H : Heap} {locs : List Loc} {cells slots : Nat} {ls : Array Slot} (X : mmX B d kc ks G sh mem lc p l R s m args meth c H locs cells slots ls) : CallFix p m c B.2.1 B.2.2.1 s args mm_tbl B.1.cls := ⟨X.1.1, X.1.2.1, X.1.2.2.1, X.1.2.2.2.2.1, X.1.2.2.2.2.2.1⟩
theorem mm_good {ws : List Cond} (h : ∀ w ∈ ws, w ∈ mm_tbl) : GoodIn mm_tbl ws := fun w hw => ⟨h w hw, good_of_word (List.mem_filter.mp (h w hw)).2⟩
theorem mm_room {B' : mmB} {d' kc' ks' : Nat} {p : Program} {l : Launch} {R : Room} {s : State} {m : MethodId} {args : Array Value} {meth : Method} {c : Code} {G : mmG} {H : Heap} {locs : List Loc} {cells slots : Nat} {ls : Array Slot} (X : mmX B d kc ks G sh mem lc p l R s m args meth c H locs cells slots ls) (hd : d' + 1 ≤ d) (hm : B'.2.2.1 ≤ 40) : ({ frames := d', cells := kc', slots := ks', locals := 64 * d' } : Room).frames + 1 ≤ R.frames ∧ 8 + (B'.2.2.1 + 11) + ({ frames := d', cells := kc', slots := ks', locals := 64 * d' } : Room).locals ≤ R.locals := by
  have h1 := X.2.2.2.2.2.2.2.1
  have h2 := X.2.2.2.2.2.2.2.2.1
  refine ⟨?_, ?_⟩
  · show d' + 1 ≤ R.frames
    omega
  · show 8 + (B'.2.2.1 + 11) + 64 * d' ≤ R.locals
    omega
theorem mm_recv {a ci N : Nat} {q : vw_C} {s : State} {H : Heap} {G : mmG} (hR : mmR G sh mem s H) (hs : sh.2[a]? = some (ci, N)) (h20 : ci < 20) (hc : vwCl[ci]? = some q) : ∃ cell : Cell, H[mmAt G a]? = some cell ∧ cell.vm.isStatics = false ∧ s.vm.findClass q.1 = some cell.cls := by
  have hw := mmW_get (G := G) (mem := mem) hs
  unfold mmE at hw
  rw [if_pos (show (ci, N).1 < 20 from h20)] at hw
  exact va_recv hR.2.1 hR.2.2.1 hc hw
/-- what the tables say of a call: of a method of the receiver's own class; of a static method; of a constructor -/
def mmMV (own : String) (idx : Nat) (B' : mmB) : Prop := Cond.methodLink own idx B'.1 ∈ mm_tbl ∧ Cond.instanceMethod B'.1 ∈ mm_tbl ∧ Cond.selects B'.1.cls B'.1 B'.1 ∈ mm_tbl
def mmMS (own : String) (idx : Nat) (B' : mmB) : Prop := Cond.methodLink own idx B'.1 ∈ mm_tbl ∧ Cond.static B'.1 ∈ mm_tbl
def mmMI (own : String) (idx : Nat) (B' : mmB) : Prop := Cond.methodLink own idx B'.1 ∈ mm_tbl ∧ Cond.instanceMethod B'.1 ∈ mm_tbl ∧ B'.1.name = "<init>"
def mmMN (own : String) (idx : Nat) (host : String) (B' : mmB) : Prop := own = RX11 ∧ host = "SheSays" ∧ mmNst (idx, B'.1) ∧ Cond.instanceMethod B'.1 ∈ mm_tbl ∧ B'.1.name = "<init>"
/-- a method of a superclass, or what overrides an abstract one -/
def mmMU (own : String) (idx : Nat) (C owner : String) (x : MethodName) (B' : mmB) : Prop := Cond.methodLink own idx x ∈ mm_tbl ∧ Cond.sameMethod x.cls owner x.name x.desc ∈ mm_tbl ∧ Cond.selects C x B'.1 ∈ mm_tbl ∧ Cond.instanceMethod B'.1 ∈ mm_tbl ∧ (B'.1 = ⟨owner, x.name, x.desc⟩ ∨ (⟨owner, x.name, x.desc⟩ : MethodName) = ⟨"SheSays$Walk", "saidAt", "(I)I"⟩) ∧ owner ≠ "java/lang/invoke/MethodHandle" ∧ owner ≠ "java/lang/invoke/VarHandle" ∧ x.desc = B'.1.desc
theorem mm_map1 (G : mmG) {r : Int} {a : Nat} {av : List mmV} (h : r = (a : Int)) : (((2, r) :: av : List mmV).map (mmEnc G)) = .ref (mmAt G a) :: av.map (mmEnc G) := by
  rw [List.map_cons]
  show va_rf (mmRf G r) :: _ = _
  rw [mmR_rfl h]
  rfl
theorem mm_stk (G : mmG) {r : Int} {a : Nat} {av : List mmV} (h : r = (a : Int)) : ((av.reverse ++ (2, r) :: st).map (mmEnc G)) = (av.map (mmEnc G)).reverse ++ .ref (mmAt G a) :: st.map (mmEnc G) := by
  rw [List.map_append, mm_map1 G h, List.map_reverse]
theorem st_callV {B' : mmB} {idx d' kc' ks' kc2 ks2 N n : Nat} {r : Int} {stk av : List mmV} {Qc : mmQ} (a ci : Nat) (hm : mmMV B.1.cls idx B') (ho : mmOK B' n) (hC : mmC B' d' kc' ks' ((2, r) :: av) sh mem Qc) (hr : r = (a : Int)) (hs : sh.2[a]? = some (ci, N)) (hc : ∃ q, vwCl[ci]? = some q ∧ q.1 = B'.1.cls ∧ ci < 20) (hn : av.length = n) (hst : stk = av.reverse ++ (2, r) :: st) (hd' : d' + 1 ≤ d) (hkc : kc' + kc2 ≤ kc) (hks : ks' + ks2 ≤ ks) (hcat : mmCat st ≤ 8) (hd : decode B.2.1 pc = .ok (.invokevirtual idx, 3))
    (kk : ∀ (r : Option mmV) (sh' : mmS) (mem' : mmM), Qc r sh' mem' → mmT B d kc2 ks2 Q (pc + 3) lc (r.toList ++ st) sh' mem') : mmT B d kc ks Q pc lc stk sh mem := by
  intro p l e R s m args below meth c G H locs cells slots ls X
  subst hst
  obtain ⟨q, hq1, hq2, hq3⟩ := hc
  have hrecv := mm_recv X.2.1 hs hq3 hq1
  rw [hq2] at hrecv
  have hM := hC l G X.2.2.2.2.2.2.2.2.2.1
  have hgood : GoodIn mm_tbl (wsV B.1.cls idx B'.1.cls B'.1 (Cond.code B'.1 B'.2.1 B'.2.2.1 B'.2.2.2 :: mm_tbl)) := mm_good fun w hw => by
    unfold wsV at hw
    simp only [List.mem_append, List.mem_cons, List.not_mem_nil, or_false] at hw
    rcases hw with (rfl | rfl | rfl | rfl) | rfl | hw
    · exact hm.1
    · exact hm.2.1
    · exact hm.2.2
    · exact ho.2.1
    · exact ho.1
    · exact hw
  refine mm_goes (Qc := Qc) (mc := kc') (ms := ks') (a := (Value.ref (mmAt G a) :: av.map (mmEnc G)).toArray) X hkc hks ?_ kk
  rw [mm_stk G hr]
  refine va_runV (Pc := mmPre G ((2, r) :: av) sh mem) (C := B'.1.cls) (As := av.map (mmEnc G)) (b := mmAt G a) (mm_fix X) hM (cwV n X.1.2.2.2.2.2.1 hgood rfl rfl rfl ⟨rfl, ho.2.2.1⟩ (mm_room X hd' ho.2.2.2.1)) ⟨mm_blind, hrecv, fun U hU hW => ⟨by rw [mm_map1 G hr], by rw [hU]; exact X.2.1.moved hW.alike, X.1.2.2.2.2.2.2.2.2.warm hW, by rw [hU]; exact (X.2.2.2.2.2.2.2.2.2.2.moved hW.alike).kept X.2.2.1.2.1⟩⟩ rfl (by rw [List.length_map]; exact hn) ?_ rfl (lv_room (by rw [mmCat_enc]; exact hcat)) hd ⟨?_, ?_⟩
  · obtain ⟨lv, h1, -⟩ := X.2.2.2.2.1
    exact h1.1
  · have := X.2.2.2.2.2.1
    omega
  · have := X.2.2.2.2.2.2.1
    omega
theorem st_callU {B' : mmB} {idx d' kc' ks' kc2 ks2 N n : Nat} {r : Int} {stk av : List mmV} {Qc : mmQ} (C owner : String) (x : MethodName) (a ci : Nat) (hm : mmMU B.1.cls idx C owner x B') (ho : mmOK B' n) (hC : mmC B' d' kc' ks' ((2, r) :: av) sh mem Qc) (hr : r = (a : Int)) (hs : sh.2[a]? = some (ci, N)) (hc : ∃ q, vwCl[ci]? = some q ∧ q.1 = C ∧ ci < 20) (hn : av.length = n) (hst : stk = av.reverse ++ (2, r) :: st) (hd' : d' + 1 ≤ d) (hkc : kc' + kc2 ≤ kc) (hks : ks' + ks2 ≤ ks) (hcat : mmCat st ≤ 8) (hd : decode B.2.1 pc = .ok (.invokevirtual idx, 3))
    (kk : ∀ (r : Option mmV) (sh' : mmS) (mem' : mmM), Qc r sh' mem' → mmT B d kc2 ks2 Q (pc + 3) lc (r.toList ++ st) sh' mem') : mmT B d kc ks Q pc lc stk sh mem := by
  intro p l e R s m args below meth c G H locs cells slots ls X
  subst hst
  obtain ⟨q, hq1, hq2, hq3⟩ := hc
  have hrecv := mm_recv X.2.1 hs hq3 hq1
  rw [hq2] at hrecv
  have hM := hC l G X.2.2.2.2.2.2.2.2.2.1
  obtain ⟨m1, m2, m3, m4, m5, m6, m7, m8⟩ := hm
  have hgood : GoodIn mm_tbl (va_wsU B.1.cls idx C owner x B'.1 (Cond.code B'.1 B'.2.1 B'.2.2.1 B'.2.2.2 :: mm_tbl)) := mm_good fun w hw => by
    unfold va_wsU at hw
    simp only [List.mem_append, List.mem_cons, List.not_mem_nil, or_false] at hw
    rcases hw with (rfl | rfl | rfl | rfl | rfl) | rfl | hw
    · exact m1
    · exact m2
    · exact m3
    · exact m4
    · exact ho.2.1
    · exact ho.1
    · exact hw
  have hdd : owner ≠ "java/lang/invoke/MethodHandle" ∧ owner ≠ "java/lang/invoke/VarHandle" ∧ (parseMethodDescriptor x.desc).map (fun d => d.parameters.length) = some n := ⟨m6, m7, by rw [m8]; exact ho.2.2.1.2.2⟩
  have cw : va_CU R s args B.1.cls C owner idx x B'.1 B'.2.1 B'.2.2.1 B'.2.2.2 (Cond.code B'.1 B'.2.1 B'.2.2.1 B'.2.2.2 :: mm_tbl) ({ frames := d', cells := kc', slots := ks', locals := 64 * d' } : Room) kc' ks' n := by
    rcases m5 with m5 | m5
    · exact va_cwU n X.1.2.2.2.2.2.1 hgood rfl rfl rfl m5 hdd (mm_room X hd' ho.2.2.2.1)
    · refine va_cwA n X.1.2.2.2.2.2.1 hgood rfl rfl rfl ?_ hdd (mm_room X hd' ho.2.2.2.1)
      rw [m5]
      exact X.1.2.2.2.2.2.2.2.2.2.1
  refine mm_goes (Qc := Qc) (mc := kc') (ms := ks') (a := (Value.ref (mmAt G a) :: av.map (mmEnc G)).toArray) X hkc hks ?_ kk
  rw [mm_stk G hr]
  refine va_runU (Pc := mmPre G ((2, r) :: av) sh mem) (C := C) (As := av.map (mmEnc G)) (b := mmAt G a) (mm_fix X) hM cw ⟨mm_blind, hrecv, fun U hU hW => ⟨by rw [mm_map1 G hr], by rw [hU]; exact X.2.1.moved hW.alike, X.1.2.2.2.2.2.2.2.2.warm hW, by rw [hU]; exact (X.2.2.2.2.2.2.2.2.2.2.moved hW.alike).kept X.2.2.1.2.1⟩⟩ rfl (by rw [List.length_map]; exact hn) ?_ rfl (lv_room (by rw [mmCat_enc]; exact hcat)) hd ⟨?_, ?_⟩
  · obtain ⟨lv, h1, -⟩ := X.2.2.2.2.1
    exact h1.1
  · have := X.2.2.2.2.2.1
    omega
  · have := X.2.2.2.2.2.2.1
    omega
theorem st_callS {B' : mmB} {idx d' kc' ks' kc2 ks2 n : Nat} {stk av : List mmV} {Qc : mmQ} (hm : mmMS B.1.cls idx B') (ho : mmOK B' n) (hC : mmC B' d' kc' ks' av sh mem Qc) (hn : av.length = n) (hst : stk = av.reverse ++ st) (hd' : d' + 1 ≤ d) (hkc : kc' + kc2 ≤ kc) (hks : ks' + ks2 ≤ ks) (hcat : mmCat st ≤ 8) (hd : decode B.2.1 pc = .ok (.invokestatic idx, 3))
    (kk : ∀ (r : Option mmV) (sh' : mmS) (mem' : mmM), Qc r sh' mem' → mmT B d kc2 ks2 Q (pc + 3) lc (r.toList ++ st) sh' mem') : mmT B d kc ks Q pc lc stk sh mem := by
  intro p l e R s m args below meth c G H locs cells slots ls X
  subst hst
  have hM := hC l G X.2.2.2.2.2.2.2.2.2.1
  have hgood : GoodIn mm_tbl (va_wsS B.1.cls idx B'.1 (Cond.code B'.1 B'.2.1 B'.2.2.1 B'.2.2.2 :: mm_tbl)) := mm_good fun w hw => by
    unfold va_wsS at hw
    simp only [List.mem_append, List.mem_cons, List.not_mem_nil, or_false] at hw
    rcases hw with (rfl | rfl | rfl) | rfl | hw
    · exact hm.1
    · exact hm.2
    · exact ho.2.1
    · exact ho.1
    · exact hw
  refine mm_goes (Qc := Qc) (mc := kc') (ms := ks') (a := (av.map (mmEnc G)).toArray) X hkc hks ?_ kk
  refine va_runS (Pc := mmPre G av sh mem) (As := av.map (mmEnc G)) (mm_fix X) hM (va_cwS n X.1.2.2.2.2.2.1 hgood rfl rfl rfl ho.2.2.1 (mm_room X hd' ho.2.2.2.1)) ⟨mm_blind, fun U hU hW => ⟨rfl, by rw [hU]; exact X.2.1.moved hW.alike, X.1.2.2.2.2.2.2.2.2.warm hW, by rw [hU]; exact (X.2.2.2.2.2.2.2.2.2.2.moved hW.alike).kept X.2.2.1.2.1⟩⟩ rfl (by rw [List.length_map]; exact hn) ?_ ?_ (lv_room (by rw [mmCat_enc]; exact hcat)) hd ⟨?_, ?_⟩
  · obtain ⟨lv, h1, -⟩ := X.2.2.2.2.1
    exact h1.1
  · show (av.reverse ++ st).map (mmEnc G) = _
    rw [List.map_append, List.map_reverse]
  · have := X.2.2.2.2.2.1
    omega
  · have := X.2.2.2.2.2.2.1
    omega
theorem st_callI {B' : mmB} {idx d' kc' ks' kc2 ks2 n : Nat} {r : Int} {stk av : List mmV} {Qc : mmQ} (a : Nat) (hm : mmMI B.1.cls idx B') (hret : B'.2.2.2 = none) (ho : mmOK B' n) (hC : mmC B' d' kc' ks' ((2, r) :: av) sh mem Qc) (hr : r = (a : Int)) (hn : av.length = n) (hst : stk = av.reverse ++ (2, r) :: st) (hd' : d' + 1 ≤ d) (hkc : kc' + kc2 ≤ kc) (hks : ks' + ks2 ≤ ks) (hcat : mmCat st ≤ 8) (hd : decode B.2.1 pc = .ok (.invokespecial idx, 3))
    (kk : ∀ (r : Option mmV) (sh' : mmS) (mem' : mmM), Qc r sh' mem' → mmT B d kc2 ks2 Q (pc + 3) lc (r.toList ++ st) sh' mem') : mmT B d kc ks Q pc lc stk sh mem := by
  intro p l e R s m args below meth c G H locs cells slots ls X
  subst hst
  have hM := hC l G X.2.2.2.2.2.2.2.2.2.1
  rw [hret] at hM
  have hcode := ho.1
  rw [hret] at hcode
  have hgood : GoodIn mm_tbl (Cond.code B'.1 B'.2.1 B'.2.2.1 none :: mm_tbl) := mm_good fun w hw => by
    rcases List.mem_cons.mp hw with rfl | hw
    · exact hcode
    · exact hw
  have hts := X.1.2.2.2.2.2.1
  refine mm_goes (Qc := Qc) (mc := kc') (ms := ks') (a := (Value.ref (mmAt G a) :: av.map (mmEnc G)).toArray) X hkc hks ?_ kk
  rw [mm_stk G hr]
  refine va_runI (Pc := mmPre G ((2, r) :: av) sh mem) (As := av.map (mmEnc G)) (b := mmAt G a) (mm_fix X) hM (cwI n hts hgood rfl rfl rfl (hts _ ho.2.1) (hts _ hm.1) (hts _ hm.2.1) hm.2.2 ho.2.2.1 (mm_room X hd' ho.2.2.2.1)) ⟨mm_blind, fun U hU hW => ⟨by rw [mm_map1 G hr], by rw [hU]; exact X.2.1.moved hW.alike, X.1.2.2.2.2.2.2.2.2.warm hW, by rw [hU]; exact (X.2.2.2.2.2.2.2.2.2.2.moved hW.alike).kept X.2.2.1.2.1⟩⟩ rfl (by rw [List.length_map]; exact hn) ?_ rfl (lv_room (by rw [mmCat_enc]; exact hcat)) hd ⟨?_, ?_⟩
  · obtain ⟨lv, h1, -⟩ := X.2.2.2.2.1
    exact h1.1
  · have := X.2.2.2.2.2.1
    omega
  · have := X.2.2.2.2.2.2.1
    omega
theorem st_callN {B' : mmB} {idx d' kc' ks' kc2 ks2 n : Nat} {r : Int} {stk av : List mmV} {Qc : mmQ} (host : String) (a : Nat) (hm : mmMN B.1.cls idx host B') (hret : B'.2.2.2 = none) (ho : mmOK B' n) (hC : mmC B' d' kc' ks' ((2, r) :: av) sh mem Qc) (hr : r = (a : Int)) (hn : av.length = n) (hst : stk = av.reverse ++ (2, r) :: st) (hd' : d' + 1 ≤ d) (hkc : kc' + kc2 ≤ kc) (hks : ks' + ks2 ≤ ks) (hcat : mmCat st ≤ 8) (hd : decode B.2.1 pc = .ok (.invokespecial idx, 3))
    (kk : ∀ (r : Option mmV) (sh' : mmS) (mem' : mmM), Qc r sh' mem' → mmT B d kc2 ks2 Q (pc + 3) lc (r.toList ++ st) sh' mem') : mmT B d kc ks Q pc lc stk sh mem := by
  intro p l e R s m args below meth c G H locs cells slots ls X
  subst hst
  have hM := hC l G X.2.2.2.2.2.2.2.2.2.1
  rw [hret] at hM
  have hcode := ho.1
  rw [hret] at hcode
  have hgood : GoodIn mm_tbl (Cond.code B'.1 B'.2.1 B'.2.2.1 none :: mm_tbl) := mm_good fun w hw => by
    rcases List.mem_cons.mp hw with rfl | hw
    · exact hcode
    · exact hw
  have hts := X.1.2.2.2.2.2.1
  obtain ⟨m1, m2, m3, m4, m5⟩ := hm
  subst m2
  have hnest : va_Nw (.methodLinkNest B.1.cls idx B'.1 "SheSays") s := by
    rw [m1]
    exact X.1.2.2.2.2.2.2.2.2.1.1 _ m3
  refine mm_goes (Qc := Qc) (mc := kc') (ms := ks') (a := (Value.ref (mmAt G a) :: av.map (mmEnc G)).toArray) X hkc hks ?_ kk
  rw [mm_stk G hr]
  refine va_runIN (host := "SheSays") (Pc := mmPre G ((2, r) :: av) sh mem) (As := av.map (mmEnc G)) (b := mmAt G a) (mm_fix X) hM ⟨va_cnB n hts hgood rfl rfl rfl hnest (hts _ ho.2.1) ho.2.2.1 (mm_room X hd' ho.2.2.2.1), m5, hts _ m4⟩ ⟨mm_blind, fun U hU hW => ⟨by rw [mm_map1 G hr], by rw [hU]; exact X.2.1.moved hW.alike, X.1.2.2.2.2.2.2.2.2.warm hW, by rw [hU]; exact (X.2.2.2.2.2.2.2.2.2.2.moved hW.alike).kept X.2.2.1.2.1⟩⟩ rfl (by rw [List.length_map]; exact hn) ?_ rfl (lv_room (by rw [mmCat_enc]; exact hcat)) hd ⟨?_, ?_⟩
  · obtain ⟨lv, h1, -⟩ := X.2.2.2.2.1
    exact h1.1
  · have := X.2.2.2.2.2.1
    omega
  · have := X.2.2.2.2.2.2.1
    omega
theorem st_objInit {idx : Nat} {r : Int} (a : Nat) (hm : Cond.methodLink B.1.cls idx objectInit ∈ mm_tbl) (h1 : Cond.instanceMethod objectInit ∈ mm_tbl) (h2 : Cond.code objectInit ⟨#[0xb1]⟩ 1 none ∈ mm_tbl) (hd1 : 1 ≤ d) (hcat : mmCat st ≤ 8) (hr : r = (a : Int)) (hd : decode B.2.1 pc = .ok (.invokespecial idx, 3)) (k : mmT B d kc ks Q (pc + 3) lc st sh mem) : mmT B d kc ks Q pc lc ((2, r) :: st) sh mem := by
  intro p l e R s m args below meth c G H locs cells slots ls X
  have hts := X.1.2.2.2.2.2.1
  have h := k p l e R s m args below meth c G H locs cells slots ls X
  rw [mm_map1 G hr]
  refine W.objInit X.1.1 X.1.2.1 X.1.2.2.2.2.1 (hts _ hm) (hts _ h1) (hts _ h2) rfl ?_ rfl hd ?_ ?_ h
  · obtain ⟨lv, h1, -⟩ := X.2.2.2.2.1
    rw [X.1.2.2.1]
    exact h1.1
  · have := X.2.2.2.2.2.2.2.1
    omega
  · have h3 := lv_room (m := m) (pc := pc) (ls := ls) (rest := st.map (mmEnc G)) (st := st.map (mmEnc G)) (by rw [mmCat_enc]; exact hcat)
    have := X.2.2.2.2.2.2.2.2.1
    show 2 * (F0 m pc ls (Value.ref (mmAt G a) :: st.map (mmEnc G))).monitorRoom + _ + 12 ≤ R.locals
    have h4 : 2 * (F0 m pc ls (st.map (mmEnc G))).monitorRoom + ((st.map (mmEnc G)).map fun v => v.category).sum ≤ 8 := h3
    have h5 : (F0 m pc ls (Value.ref (mmAt G a) :: st.map (mmEnc G))).monitorRoom = (F0 m pc ls (st.map (mmEnc G))).monitorRoom := rfl
    rw [h5]
    omega
theorem mm_post {r : Option mmV} {p : Program} {l : Launch} {R : Room} {s : State} {m : MethodId} {args : Array Value} {meth : Method} {c : Code} {G : mmG} {H : Heap} {locs : List Loc} {cells slots : Nat} {ls : Array Slot} (X : mmX B d kc ks G sh mem lc p l R s m args meth c H locs cells slots ls) (hq : Q r sh mem) : ∀ t : State, t.heap = H → s.WarmedH t.vm → mmPost G Q args s (.returned (r.map (mmEnc G))) t := fun t ht hW => ⟨⟨r, sh, mem, rfl, hq, by rw [ht]; exact X.2.1.moved hW.alike⟩, X.2.2.1.F ht⟩
theorem st_ireturn {v : Int} (hret : B.2.2.2 = some .int) (hd : decode B.2.1 pc = .ok (.ireturn, 1)) (hq : Q (some (0, v)) sh mem) : mmT B d kc ks Q pc lc [(0, v)] sh mem := by
  intro p l e R s m args below meth c G H locs cells slots ls X
  have h1 := X.2.2.2.2.2.1
  have h2 := X.2.2.2.2.2.2.1
  refine W.widen (k := R.cells) (n := R.slots) (by omega) (by omega) ?_
  exact W.iret (v := Int32.ofInt v) X.1.1 X.1.2.1 (X.1.2.2.2.1.trans hret) (mm_post X hq) X.2.2.1.2.2 hd (hlocks := X.1.2.2.2.2.2.2.1)
theorem st_zreturn {v : Int} (hret : B.2.2.2 = some .boolean) (hv : v = 0 ∨ v = 1) (hd : decode B.2.1 pc = .ok (.ireturn, 1)) (hq : Q (some (0, v)) sh mem) : mmT B d kc ks Q pc lc [(0, v)] sh mem := by
  intro p l e R s m args below meth c G H locs cells slots ls X
  have h1 := X.2.2.2.2.2.1
  have h2 := X.2.2.2.2.2.2.1
  refine W.widen (k := R.cells) (n := R.slots) (by omega) (by omega) ?_
  exact W.zret (v := Int32.ofInt v) X.1.1 X.1.2.1 (X.1.2.2.2.1.trans hret) (by rcases hv with rfl | rfl <;> rfl) (mm_post X hq) X.2.2.1.2.2 hd (hlocks := X.1.2.2.2.2.2.2.1)
theorem st_lreturn {v : Int} (hret : B.2.2.2 = some .long) (hd : decode B.2.1 pc = .ok (.lreturn, 1)) (hq : Q (some (1, v)) sh mem) : mmT B d kc ks Q pc lc [(1, v)] sh mem := by
  intro p l e R s m args below meth c G H locs cells slots ls X
  have h1 := X.2.2.2.2.2.1
  have h2 := X.2.2.2.2.2.2.1
  refine W.widen (k := R.cells) (n := R.slots) (by omega) (by omega) ?_
  exact W.lret (v := Int64.ofInt v) X.1.1 X.1.2.1 (X.1.2.2.2.1.trans hret) (mm_post X hq) X.2.2.1.2.2 hd (hlocks := X.1.2.2.2.2.2.2.1)
theorem st_areturn {v : Int} {rt : FieldType} (hret : B.2.2.2 = some rt) (hrt : (∃ n, rt = .object n) ∨ ∃ t, rt = .array t) (hd : decode B.2.1 pc = .ok (.areturn, 1)) (hq : Q (some (2, v)) sh mem) : mmT B d kc ks Q pc lc [(2, v)] sh mem := by
  intro p l e R s m args below meth c G H locs cells slots ls X
  have h1 := X.2.2.2.2.2.1
  have h2 := X.2.2.2.2.2.2.1
  refine W.widen (k := R.cells) (n := R.slots) (by omega) (by omega) ?_
  refine W.aret (v := va_rf (mmRf G v)) X.1.1 X.1.2.1 (X.1.2.2.2.1.trans hret) hrt ?_ (mm_post X hq) X.2.2.1.2.2 hd (hlocks := X.1.2.2.2.2.2.2.1)
  cases mmRf G v with
  | none => exact Or.inl rfl
  | some a => exact Or.inr ⟨a, rfl⟩
theorem st_return (hret : B.2.2.2 = none) (hd : decode B.2.1 pc = .ok (.return_, 1)) (hq : Q none sh mem) : mmT B d kc ks Q pc lc [] sh mem := by
  intro p l e R s m args below meth c G H locs cells slots ls X
  have h1 := X.2.2.2.2.2.1
  have h2 := X.2.2.2.2.2.2.1
  refine W.widen (k := R.cells) (n := R.slots) (by omega) (by omega) ?_
  exact W.vret X.1.1 X.1.2.1 (X.1.2.2.2.1.trans hret) (mm_post X hq) X.2.2.1.2.2 hd (hlocks := X.1.2.2.2.2.2.2.1)
end MMca
