/-! THE CLAIM OUT OF ONE WALK OF THE LAW'S BODY. Your part is whole_start (and what it stands on); all else here is the same for every law, but numbers. -/
def R_law : String := "SheSaysLaw"
def lw_P (b : Addr) (xs : List Int32) (args : Array Value) (s : State) : Prop := args = #[.ref b] ∧ s.IntsAt b xs ∧ xs.length ≤ 3072 ∧ (Jvm.Cond.and given_1 narrow_1).before args s = true
def lw_Q (_ : Array Value) (s : State) (o : Outcome) (t : State) : Prop := o = .returned (some (.int 1)) ∧ Framed s o t [] 601024 7293034
def lw_Z (below : List Frame) (a : Array Value) (s : State) : State → Prop := fun t => ∃ o, t.status = .running ∧ Ended t below o ∧ lw_Q a s o t
/-- the law's own end, with 1 on the stack, nothing written that was there before, its room as the claim has it -/
theorem lw_ret {p : Program} {l : Launch} {e : Env} {s : State} {m : MethodId} {below : List Frame} {meth : Method} {c : Code} {b : Nat} (hx : p.tables.exec = Jvm.exec) (hb : c.code = code) (hr : meth.sig.returnType = ret) (hlocks : meth.locks = false) {pc : Nat} {H : Heap} {ls : Array Slot} (hdg : decode code pc = .ok (.ireturn, 1)) : W p l e room_1 s m #[Value.ref b] below meth c H [] 601024 7293034 (lw_Z below #[Value.ref b] s) (F0 m pc ls [.int 1]) := by
  intro T hT X
  obtain ⟨fs, hret, hrun, hended, hW, hframe⟩ := X.leave (v := some (.int 1)) (hlocks := hlocks) (fun h => by rw [hr] at h; cases h)
  have hmeth' : T.vm.method? m = some meth := X.method'
  refine ⟨T.setFrames fs, ?_, .returned (some (.int 1)), hrun, hended, rfl, ⟨_, rfl⟩, hW, hframe⟩
  jvm_step X.here [X.here.top, hx, hb, hdg, hmeth', hr, ret, narrow_b1]
  (try refine ⟨rfl, ?_⟩); (try refine ⟨rfl, ?_⟩)
  first | (intro acts; rw [hret _ acts rfl rfl rfl]) | rw [hret _ _ rfl rfl rfl]
  exact Steps.refl _
/-- what holds at the law's entry: the machine, the code, the tables' words (any of lw_tbl by 'hts w (by decide +kernel)'), the script of L ints xs at the cell b, what the Statement gives of the start (any of its parts by flat_of_before) -/
def lw_At (p : Program) (s : State) (m : MethodId) (meth : Method) (c : Code) (b L : Nat) (xs : Nat → Int32) : Prop :=
  p.tables.exec = Jvm.exec ∧ c.code = code ∧ meth.sig.returnType = ret ∧ c.maxLocals = 7 ∧ s.vm.findClass R_law = some m.cls ∧ (∀ w ∈ lw_tbl, w.before #[Value.ref b] s = true) ∧ va_X b L xs s s.heap ∧ b < s.heap.size ∧ meth.locks = false ∧ (Jvm.Cond.and given_1 narrow_1).before #[Value.ref b] s = true
/-! what the tables say at the law's entry -/
theorem st_arr {args : Array Value} {s : State} {t : FieldType} (h : (Cond.arrayClass t).before args s = true) : ∃ cA : ClassId, ArrOfT s cA t ∧ s.vm.findClass ("[" ++ t.toString) = some cA := by
  obtain ⟨c, k, comp, h1, h2, h3⟩ := Cond.arrayClass_spec h
  exact ⟨c, fun n z => ⟨fun k h => (by cases h), k, h2, comp, h3⟩, h1⟩
theorem st_arrL {args : Array Value} {s : State} {C : String} (h : (Cond.arrayOver (.object C)).before args s = true) : ∃ cA : ClassId, ArrOfT s cA (.object C) ∧ va_RA s cA (.object C) := by
  obtain ⟨comp, c, k, h1, -, h2, h3, h4⟩ := Cond.arrayOver_spec h
  exact ⟨c, fun n z => ⟨fun k h => (by cases h), k, h2, comp, h3⟩, k, comp, h2, h3, h1, h4⟩
theorem st_arrA {args : Array Value} {s : State} {t : FieldType} (h : (Cond.arrayOver (.array t)).before args s = true) : ∃ cA : ClassId, ArrOfT s cA (.array t) ∧ s.vm.findClass ("[" ++ (FieldType.array t).toString) = some cA := by
  simp only [Cond.before, Cond.holds, Cond.value, beq_iff_eq] at h
  cases hc : s.vm.findClass (FieldType.array t).toString with
  | none => simp [hc] at h
  | some comp =>
    simp only [hc, Option.bind_some, Option.bind_eq_some_iff, Option.map_eq_some_iff] at h
    obtain ⟨c, hi, k, hk, hb⟩ := h
    cases hkind : k.kind with
    | array component ty =>
      rw [hkind] at hb
      simp at hb
      exact ⟨c, fun n z => ⟨fun k h => (by cases h), k, hk, component, by rw [hkind, hb.1]⟩, hb.2⟩
    | _ =>
      rw [hkind] at hb
      simp at hb
theorem start_K {args : Array Value} {s : State} (hts : ∀ w ∈ lw_tbl, w.before args s = true) : ∃ (D : va_G) (A : Nat → ClassId), va_K D vwCl [(A 20, .int), (A 21, .long), (A 22, .boolean), (A 23, .object "SheSays$Law"), (A 24, .array .long)] s := by
  have hm : ∀ w ∈ mm_tbl, w.before args s = true := fun w hw => hts w (List.mem_filter.mp hw).1
  obtain ⟨c0, i0, u0⟩ := u_known (n := 8) (T := TX0) hm inX0 (hm _ (mm_wk1 51 (by decide +kernel) rfl))
  obtain ⟨c1, i1, u1⟩ := u_known (n := 11) (T := TX1) hm inX1 (hm _ (mm_wk2 15 (by decide +kernel) rfl))
  obtain ⟨c2, i2, u2⟩ := u_known (n := 4) (T := TX2) hm inX2 (hm _ (mm_wk1 107 (by decide +kernel) rfl))
  obtain ⟨c3, i3, u3⟩ := u_known (n := 3) (T := TX3) hm inX3 (hm _ (mm_wk1 88 (by decide +kernel) rfl))
  obtain ⟨c4, i4, u4⟩ := u_known (n := 5) (T := TX4) hm inX4 (hm _ (mm_wk1 188 (by decide +kernel) rfl))
  obtain ⟨c5, i5, u5⟩ := u_known (n := 13) (T := TX5) hm inX5 (hm _ (mm_wk2 84 (by decide +kernel) rfl))
  obtain ⟨c6, i6, u6⟩ := u_known (n := 7) (T := TX6) hm inX6 (hm _ (mm_wk1 222 (by decide +kernel) rfl))
  obtain ⟨c7, i7, u7⟩ := u_known (n := 10) (T := TX7) hm inX7 (hm _ (mm_wk2 120 (by decide +kernel) rfl))
  obtain ⟨c8, i8, u8⟩ := u_known (n := 13) (T := TX8) hm inX8 (hm _ (mm_wk1 126 (by decide +kernel) rfl))
  obtain ⟨c9, i9, u9⟩ := u_known (n := 3) (T := TX9) hm inX9 (hm _ (mm_wk1 31 (by decide +kernel) rfl))
  obtain ⟨c10, i10, u10⟩ := u_known (n := 13) (T := TX11) hm inX11 (hm _ (mm_wk1 23 (by decide +kernel) rfl))
  obtain ⟨c11, i11, u11⟩ := u_known (n := 59) (T := TX12) hm inX12 (hm _ (mm_wk5 141 (by decide +kernel) rfl))
  obtain ⟨a0, A0, B0⟩ := st_arr (hm _ (mm_wk1 49 (by decide +kernel) rfl) : (Cond.arrayClass .int).before args s = true)
  obtain ⟨a1, A1, B1⟩ := st_arr (hm _ (mm_wk1 220 (by decide +kernel) rfl) : (Cond.arrayClass .long).before args s = true)
  obtain ⟨a2, A2, B2⟩ := st_arr (hm _ (mm_wk1 86 (by decide +kernel) rfl) : (Cond.arrayClass .boolean).before args s = true)
  obtain ⟨a3, A3, B3⟩ := st_arrL (hts (Cond.arrayOver (.object "SheSays$Law")) (by decide +kernel))
  obtain ⟨a4, A4, B4⟩ := st_arrA (hts (Cond.arrayOver (.array .long)) (by decide +kernel))
  refine ⟨(fun c => match c with | 0 => c0 | 1 => c1 | 2 => c2 | 3 => c3 | 4 => c4 | 5 => c5 | 6 => c6 | 7 => c7 | 8 => c8 | 9 => c9 | 10 => c10 | _ => c11, fun c => match c with | 0 => i0 | 1 => i1 | 2 => i2 | 3 => i3 | 4 => i4 | 5 => i5 | 6 => i6 | 7 => i7 | 8 => i8 | 9 => i9 | 10 => i10 | _ => i11), fun t => match t with | 20 => a0 | 21 => a1 | 22 => a2 | 23 => a3 | _ => a4, fun c q hq => ?_, fun k q hq => ?_⟩
  · match c, hq with
    | 0, hq => cases hq; exact u0
    | 1, hq => cases hq; exact u1
    | 2, hq => cases hq; exact u2
    | 3, hq => cases hq; exact u3
    | 4, hq => cases hq; exact u4
    | 5, hq => cases hq; exact u5
    | 6, hq => cases hq; exact u6
    | 7, hq => cases hq; exact u7
    | 8, hq => cases hq; exact u8
    | 9, hq => cases hq; exact u9
    | 10, hq => cases hq; exact u10
    | 11, hq => cases hq; exact u11
    | c + 12, hq => cases hq
  · match k, hq with
    | 0, hq => cases hq; exact ⟨A0, B0⟩
    | 1, hq => cases hq; exact ⟨A1, B1⟩
    | 2, hq => cases hq; exact ⟨A2, B2⟩
    | 3, hq => cases hq; exact ⟨A3, B3⟩
    | 4, hq => cases hq; exact ⟨A4, B4⟩
    | k + 5, hq => cases hq
theorem start_N {args : Array Value} {s : State} (hts : ∀ w ∈ lw_tbl, w.before args s = true) (hx : (Cond.exactly (.string "SheSays" 142) "java/lang/String").before args s = true) : mmNw s := by
  refine ⟨⟨fun q hq => ?_, hts (Cond.arrayOver (.object "SheSays$Law")) (by decide +kernel), hts (Cond.arrayOver (.array .long)) (by decide +kernel)⟩, va_Nw.of rfl (hts (Cond.declares ⟨"SheSays$Walk", "saidAt", "(I)I"⟩) (by decide +kernel)), ?_, va_Nw.of rfl (hts (Cond.castable exNm exNm) (by decide +kernel))⟩
  · rcases hq with e | e | e | e <;> subst e
    · exact va_Nw.of rfl (hts (Cond.methodLinkNest RX11 9 yX9_init "SheSays") (by decide +kernel))
    · exact va_Nw.of rfl (hts (Cond.methodLinkNest RX11 38 yX2_init "SheSays") (by decide +kernel))
    · exact va_Nw.of rfl (hts (Cond.methodLinkNest RX11 41 yX8_init "SheSays") (by decide +kernel))
    · exact va_Nw.of rfl (hts (Cond.methodLinkNest RX11 57 yX6_init "SheSays") (by decide +kernel))
  · obtain ⟨a, c, cell, k, h1, -⟩ := Cond.exactly_spec hx
    exact ⟨a, vk_R.of (hts (Cond.stringRef RX11 142 exTx) (by decide +kernel)) h1⟩
theorem whole_start {p : Program} {e : Env} {s : State} {m : MethodId} {below : List Frame} {meth : Method} {c : Code} (l : Launch) (hflags : l.flags = flags0) {b L : Nat} {xs : Nat → Int32} (hL : L ≤ 3072) (C0 : lw_At p s m meth c b L xs) : W p l e room_1 s m #[Value.ref b] below meth c s.heap [] 0 0 (lw_Z below #[Value.ref b] s) (entryFrame m ([Value.ref b] : List Value).toArray 7) := by
  obtain ⟨hx, hb, hret, hml, hown, hts, hX, hbl, hlocks, hgv⟩ := C0
  have hfl := flat_of_before _ hgv
  obtain ⟨D, A, hK⟩ := start_K hts
  have hNw := start_N hts (hfl _ (by decide +kernel))
  have hmem : ∃ mem : mmM, mem 999 = (fun k => if k = -1 then (L : Int) else (xs k.toNat).toInt) := ⟨fun _ k => if k = -1 then (L : Int) else (xs k.toNat).toInt, rfl⟩
  obtain ⟨mem, h9⟩ := hmem
  have hr : ∀ k, R32 (mem 999 k) := fun k => by
    rw [h9]
    dsimp only
    split
    · omega
    · exact i32_rng _
  have hN : 0 ≤ mem 999 (-1) ∧ mem 999 (-1) ≤ 3072 := by
    rw [h9]
    dsimp only
    rw [if_pos rfl]
    omega
  have hSF : mmSF ((b, s.heap.size), D, A) s s.heap := ⟨vx_Zqof (hts _ (by decide +kernel)) (hts _ (by decide +kernel)) (hfl _ (by decide +kernel)) (fun a ha h => absurd h (Nat.not_le_of_lt ha)), vx_Zqof (hts _ (by decide +kernel)) (hts _ (by decide +kernel)) (hfl _ (by decide +kernel)) (fun a ha h => absurd h (Nat.not_le_of_lt ha))⟩
  have hR : mmR ((b, s.heap.size), D, A) (true, mSH.take 0) (evO [] mem) s s.heap := by
    refine ⟨fun _ => rfl, hK, fun k x hx => (by
      have e0 : mmW ((b, s.heap.size), D, A) (mSH.take 0) (evO [] mem) = [] := rfl
      rw [show (mmW ((b, s.heap.size), D, A) (true, mSH.take 0).2 (evO [] mem)) = [] from e0] at hx
      cases hx), ⟨?_, hSF⟩, hbl, Nat.le_refl _, Nat.zero_le _, fun h => (by cases h), fun a q k h => (by cases h), hr⟩
    show va_X b (mem 999 (-1)).toNat (fun j : Nat => Int32.ofInt (mem 999 (j : Int))) s s.heap
    have e1 : (mem 999 (-1)).toNat = L := by
      rw [h9]
      dsimp only
      rw [if_pos rfl]
      exact Int.toNat_natCast L
    have e2 : (fun j : Nat => Int32.ofInt (mem 999 (j : Int))) = xs := by
      funext j
      rw [h9]
      dsimp only
      rw [if_neg (by omega), Int.toNat_natCast, Int32.ofInt_toInt]
    rw [e1, e2]
    exact hX
  have hgo := lw_go multi_holds (d := 1312) (Q := fun r _ _ => r = some (0, 1)) hr hN (by decide) (fun _ => rfl)
  have hl := lv_entry ([Value.ref b]) (n := 7) (show 1 ≤ 7 by decide)
  rw [lg_entry_eq]
  intro T hT XT
  obtain ⟨t, a1, o, b1, b2, b3, b4⟩ := hgo p l e room_1 s m #[Value.ref b] below meth c ((b, s.heap.size), D, A) s.heap [] 0 0 _ ⟨⟨hx, hb, hml, hret, hown, fun w hw => hts w (List.mem_filter.mp hw).1, hlocks, fun h => absurd h (by decide), hNw⟩, hR, va_S.rf, Nat.le_refl _, ⟨_, hl, fun i v hi hv => by
    match i, hi with
    | 0, hi =>
      have := mmEntry_in ((b, s.heap.size), D, A) [(3, 0)] 0 0 v hi hv
      exact this
    | i + 1, hi =>
      have h1 := List.mem_of_getElem? (show ([(9, 0), (9, 0), (9, 0), (9, 0), (9, 0), (9, 0)] : List mmV)[i]? = some v from hi)
      have h2 : v = (9, 0) := by simpa using h1
      subst h2
      exact absurd hv (by decide)⟩, by decide, by decide, by decide, by decide, hflags⟩ T hT XT
  obtain ⟨⟨r, sh, mm, ho, hq, -⟩, -⟩ := b3
  subst hq
  obtain ⟨Ls, ⟨hv, hW, hS⟩, hfree⟩ := b4
  refine ⟨t, a1, o, b1, b2, ho.trans rfl, hv, hW, hS.weaken (fun y hy hlt => ?_) (Nat.le_refl _) (Nat.le_refl _)⟩
  have := hfree y hy
  exact absurd hlt (Nat.not_lt_of_le this)
set_option maxHeartbeats 4000000 in
theorem lw_walk (l : Launch) (hflags : l.flags = flags0) (b : Addr) (xs : List Int32) : MetFree l x (headSpec (Jvm.Cond.code x code maxLocals ret :: tables_1) room_1) (lw_P b xs) (fun _ _ _ _ _ => True) lw_Q := by
  refine MetFree.of_bodyS (code := code) (maxLocals := maxLocals) (ret := ret) (by decide) ?_ ?_
  · intro args s m h hn
    obtain ⟨meth, c, h1, h2, h3, h4, h5, h6, -, -⟩ := Cond.code_spec hn (atoms_spec (ws := Jvm.Cond.code x code maxLocals ret :: tables_1) h _ List.mem_cons_self)
    exact ⟨meth, c, h1, h2, h3, h4, h5, h6⟩
  · intro p e s m args below meth c s₁ B hml0 hP _
    obtain ⟨rfl, hx, hbd, hgv⟩ := hP
    obtain ⟨scr, harrAt, hlist, hof, hsmall⟩ := hx
    obtain ⟨hcb, hkn, -, -⟩ := State.arrayAt?_spec harrAt
    have hown : s.vm.findClass R_law = some m.cls := findClass_of_methodNamed B.named
    have hts0 : ∀ c ∈ (Jvm.Cond.code x code maxLocals ret :: tables_1), c.before #[Value.ref b] s = true := atoms_spec (ws := Jvm.Cond.code x code maxLocals ret :: tables_1) B.pre
    have hts : ∀ w ∈ lw_tbl, w.before #[Value.ref b] s = true := k2_hts_sels lw_privs (fun w hw => hts0 w (List.mem_cons_of_mem _ hw)) lw_privs_ok
    have hml : c.maxLocals = 7 := B.maxLocals_eq (hts0 _ List.mem_cons_self)
    have X₀ : Stand p l e room_1 s m #[Value.ref b] below meth c s₁ [] 0 0 := Stand.of_body B
    have hh0 : s₁.heap = s.heap := by rw [B.state]; rfl
    have hsz : scr.slots.size = xs.length := by rw [← Array.length_toList, hlist, List.length_map]
    have hval : ∀ j : Nat, j < xs.length → scr.slots[j]? = some (.int (xs.getD j 0)) := fun j hj => by
      rw [← Array.getElem?_toList, hlist]
      simp [hj]
    have hbl : b < s.heap.size := (Array.getElem?_eq_some_iff.mp hcb).1
    have hX : va_X b xs.length (fun j => xs.getD j 0) s s.heap := ⟨scr, hcb, hof, hkn, hsz, hval⟩
    have K : W p l e room_1 s m #[Value.ref b] below meth c s₁.heap [] 0 0 (lw_Z below #[Value.ref b] s) (entryFrame m ([Value.ref b] : List Value).toArray 7) := by
      rw [hh0]
      exact whole_start l hflags hbd ⟨B.exec, B.bytes, B.returns, hml, hown, hts, hX, hbl, B.notSynchronized, hgv⟩
    obtain ⟨t, a1, o, b1, b2, b3⟩ := K s₁ rfl X₀
    exact ⟨t, o, a1, b1, b2, b3⟩
theorem lw_pre_spec {args : Array Value} {s : State} (h : (Jvm.Cond.and given_1 narrow_1).before args s = true) (hr : rest_1_c.before args s = true) : ∃ (b : Addr) (xs : List Int32), lw_P b xs args s := by
  have hs := flat_of_before _ h
  have hq := flat_of_before _ hr
  have hc : (Cond.count 1).before args s = true := hs _ (by decide +kernel)
  have harr : (Cond.arrayOf (.arg 0) .int).before args s = true := hs _ (by decide +kernel)
  have hle : (Cond.le (.length (.arg 0)) (.int 3072)).before args s = true := hs _ (by decide +kernel)
  have hlen : (Cond.isInt (.length (.arg 0))).before args s = true := hq _ (by decide +kernel)
  have hall : (Cond.all (.arg 0) (.isInt (.elem (.arg 0) (.index 0)))).before args s = true := hq _ (by decide +kernel)
  obtain ⟨b, xs, hb, hx⟩ := State.ints_of_pre rfl harr hlen hall
  have hsm : xs.length < 2 ^ 31 := hx.choose_spec.2.2.2
  have hev : (Term.length (.arg 0)).eval args s none [] s = some (.int xs.length.toInt32) := hx.length_eval hb
  have hv := Cond.le_ints hev (show (Term.int 3072).eval args s none [] s = some (.int 3072) from rfl)
  have hd : xs.length.toInt32 ≤ 3072 := by
    simpa [Cond.before, Cond.holds, hv] using hle
  have hN : xs.length ≤ 3072 := (Int32.ofNat_le_ofNat hsm (by decide)).mp (show Int32.ofNat xs.length ≤ Int32.ofNat 3072 from hd)
  exact ⟨b, xs, Cond.one_arg hc (show args[0]? = some (.ref b) from hb), hx, hN, h⟩
theorem lw_comes (l : Launch) (hflags : l.flags = flags0) : Comes l x (Jvm.Cond.code x code maxLocals ret :: tables_1) room_1 (fun tb e args s => Calls_1 tb e args s ∧ rest_1 tb e args s ∧ Pre_1 tb e args s)
    (fun _ _ args s o t => lw_Q args s o t) := by
  intro p e ha hc hk s m args below hf hfit hheap happ hpre
  obtain ⟨b, xs, hP⟩ := lw_pre_spec hpre.2.2 hpre.2.1
  obtain ⟨k, o, h1, h2, h3, hQ⟩ := lw_walk l hflags b xs p e ha hc hk s m args below hf ((Spec.applies_iff_loose hf).mp happ).1 hP trivial
  exact ⟨k, o, h1, h2, h3, hQ⟩
theorem lw_frame {s t : State} {o : Outcome} {args : Array Value} (h : Framed s o t [] 601024 7293034) :
    Framed s o t (fieldLocs frame_1_writes args s ++ arrayLocs frame_1_arrays args s ++ staticLocs frame_1_statics s) 601024 7293034 := h
theorem lw_limb (L : Cond) (hL : ∀ (args : Array Value) (s t : State), L.after args s (.returned (some (.int 1))) t = true) :
    ArmFor flags0 classFile x code maxLocals ret World_1 tables_1 room_1 Calls_1 rest_1 Pre_1
      (fun tb e a s o t => postC L tb e a s o t ∧ Framed s o t (fieldLocs frame_1_writes a s ++ arrayLocs frame_1_arrays a s ++ staticLocs frame_1_statics s) 601024 7293034) := by
  intro l hflags _ _ p e ha hc hk s m args below hf hfit hheap happ hpre
  obtain ⟨k, o, h1, h2, h3, rfl, hF⟩ := lw_comes l hflags p e ha hc hk s m args below hf hfit hheap happ hpre
  exact ⟨k, _, h1, h2, h3, hL args s _, lw_frame hF⟩
theorem i_vc : Claimed_1_1 ∧ Claimed_1_2 := ⟨lw_limb limb_1_1 (fun args s t => by simp [limb_1_1, Cond.after, Cond.holds, Cond.value]), lw_limb limb_1_2 (fun args s t => Cond.after_iff.mpr (by
  first | (rw [show limb_1_2 = Cond.eq .result (.int 1) from rfl, Cond.eq_ints (x := 1) (y := 1) rfl rfl]; simp; done) | (simp [limb_1_2, Cond.value, Term.eval]; done)))⟩
