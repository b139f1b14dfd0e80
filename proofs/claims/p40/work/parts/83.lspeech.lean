/-! calls of a static method with a table of handlers (of the kit's own rows); the law's speech -/
section VXS
variable {p : Program} {l : Launch} {e : Env} {R : Room} {s : State} {m : MethodId} {args : Array Value} {below : List Frame} {meth : Method} {c : Code} {T : State} {H : Heap} {locs : List Loc} {cells slots : Nat}
abbrev vx_CSW (R : Room) (s : State) (args : Array Value) (own : String) (index : Nat) (y : MethodName) (bytes : ByteArray) (maxL : Nat) (ret : Option FieldType) (hh : List (Nat × Nat × Nat × Nat)) (ws : List Cond) (rm : Room) (mc ms n : Nat) : Prop :=
  (rm.cells = mc ∧ rm.slots = ms ∧ rm.frames + 1 ≤ R.frames ∧ 8 + (maxL + 11) + rm.locals ≤ R.locals ∧ (∀ w ∈ ws, ∀ (a' : Array Value) (U : State), s.WarmedH U.vm → w.before a' U = true) ∧ Cond.codeWith y bytes maxL ret hh ∈ ws) ∧
  (Cond.codeWith y bytes maxL ret hh).before args s = true ∧ (Cond.initialized y.cls).before args s = true ∧ (y.cls ≠ "java/lang/invoke/MethodHandle" ∧ y.cls ≠ "java/lang/invoke/VarHandle") ∧
  (∀ sig, parseMethodDescriptor y.desc = some sig → n = sig.parameters.length) ∧ (Cond.methodLink own index y).before args s = true ∧ (Cond.static y).before args s = true
theorem vx_cwSW {own : String} {index maxL mc ms : Nat} {y : MethodName} {bytes : ByteArray} {ret : Option FieldType} {hh : List (Nat × Nat × Nat × Nat)} {Ts ws ws' : List Cond} {rm : Room} (n : Nat) (ht : ∀ w ∈ Ts, w.before args s = true) (hT : GoodIn Ts (va_wsS own index y ws)) (hw : ws = Cond.codeWith y bytes maxL ret hh :: ws') (hrc : rm.cells = mc) (hrs : rm.slots = ms)
    (hd : y.cls ≠ "java/lang/invoke/MethodHandle" ∧ y.cls ≠ "java/lang/invoke/VarHandle" ∧ (parseMethodDescriptor y.desc).map (fun d => d.parameters.length) = some n) (hR : rm.frames + 1 ≤ R.frames ∧ 8 + (maxL + 11) + rm.locals ≤ R.locals) :
    vx_CSW R s args own index y bytes maxL ret hh ws rm mc ms n := by
  have ok : ∀ w ∈ va_wsS own index y ws, w.before args s = true := fun w h => ht w (hT w h).1
  have hG : GoodIn Ts ws := fun w h => hT w (by unfold va_wsS; exact List.mem_append_right _ h)
  have hc : Cond.codeWith y bytes maxL ret hh ∈ ws := by rw [hw]; exact List.mem_cons_self
  refine ⟨⟨hrc, hrs, hR.1, hR.2, pay_in ht hG, hc⟩, ht _ (hG _ hc).1, ok _ (by simp [va_wsS]), ⟨hd.1, hd.2.1⟩, fun sig h => ?_, ok _ (by simp [va_wsS]), ok _ (by simp [va_wsS])⟩
  have h2 := hd.2.2
  rw [h] at h2
  exact (Option.some.inj h2).symm
theorem vx_callSW (X : Stand p l e R s m args below meth c T locs cells slots) (hexec : p.tables.exec = Jvm.exec) {own : String} {index : Nat} {y : MethodName} {bytes : ByteArray} {maxL : Nat} {ret : Option FieldType} {hh : List (Nat × Nat × Nat × Nat)}
    (hown : s.vm.findClass own = some m.cls) (hlink : (Cond.methodLink own index y).before args s = true) (hstat : (Cond.static y).before args s = true) (hinit : (Cond.initialized y.cls).before args s = true)
    (hcode : (Cond.codeWith y bytes maxL ret hh).before args s = true) (hy : y.cls ≠ "java/lang/invoke/MethodHandle" ∧ y.cls ≠ "java/lang/invoke/VarHandle")
    {W9 : Nat} {Pre : Pt → Array Value → Prop} {Post : Pt → Array Value → Option Value → Pt → Prop} (hK : Back l R p e below s args y 3 W9 Pre Post)
    {g : JFrame} (hg : g.method = m) (hsize : g.locals.size = c.maxLocals) {argsL rest : List Value} (hlen : ∀ sig, parseMethodDescriptor y.desc = some sig → argsL.length = sig.parameters.length)
    (hstack : g.stack = argsL.reverse ++ rest) (hW : 2 * g.monitorRoom + (rest.map fun v => v.category).sum ≤ W9) (hdg : decode c.code g.pc = .ok (.invokestatic index, 3))
    (hpre : ∀ vm₁, s.WarmedH vm₁ → Pre ⟨T.setVm vm₁, locs, cells, slots⟩ argsL.toArray) :
    ∃ (v : Option Value) (vm₁ : Vm) (B : Pt), s.WarmedH vm₁ ∧ Stand p l e R s m args below meth c B.U B.locs B.cells B.slots ∧ Post ⟨T.setVm vm₁, locs, cells, slots⟩ argsL.toArray v B ∧
      ∀ target, Steps p.tables e below (B.U.setTop { g with pc := g.pc + 3, stack := v.toList ++ rest }) target → Steps p.tables e below (T.setTop g) target := by
  obtain ⟨mk, methM, cM, hnamed, hmethM, -, -, -, -, -, -, hsigM⟩ := Cond.codeWith_spec hcode
  have hstatic : methM.isStatic = true := Cond.static_spec hnamed hmethM hstat
  obtain ⟨kP, hkP, -⟩ := className_of_methodNamed hnamed
  have hinitP : kP.init = .initialized := Cond.initialized_spec (findClass_of_methodNamed hnamed) hkP hinit
  obtain ⟨vm₁, X₁, hstep₁⟩ := X.invokestatic hexec hown hlink hnamed hmethM hstatic hkP hinitP hy (g := g) hg (argsL := argsL) (rest := rest) (hlen _ hsigM) hstack hdg
  obtain ⟨v, B, X', hpost, hsteps⟩ := hK m meth c ⟨T.setVm vm₁, locs, cells, slots⟩ { g with stack := rest } (.invokestatic index) mk argsL.toArray X₁ hg hsize hdg hW (X₁.named hnamed) (hpre vm₁ X₁.warmed)
  exact ⟨v, vm₁, B, X₁.warmed, X', hpost, fun target h => hstep₁ _ fun acts => by rw [doInvoke_state]; exact hsteps.trans h⟩
theorem vx_runSW {y : MethodName} {bytes cc : ByteArray} {maxL nL mc ms n index : Nat} {ret : Option FieldType} {hh : List (Nat × Nat × Nat × Nat)} {ws : List Cond} {rm : Room} {Pc : Array Value → State → Prop} {Qc : Array Value → State → Outcome → State → Prop} {free : Addr → Prop} {Ts : List Cond} {own : String} {As rest : List Value} {g : JFrame}
    (S : CallFix p m c cc nL s args Ts own) (hM : Met l y ws rm Pc Qc mc ms free) (cw : vx_CSW R s args own index y bytes maxL ret hh ws rm mc ms n) (hp : PreS s H Pc As)
    (hg : g.method = m) (hn : As.length = n) (hsize : g.locals.size = nL) (hstack : g.stack = As.reverse ++ rest) (hW : 2 * g.monitorRoom + (rest.map fun v => v.category).sum ≤ 8) (hdg : decode cc g.pc = .ok (.invokestatic index, 3)) (hf : cells + mc ≤ R.cells ∧ slots + ms ≤ R.slots) :
    va_Run p l e R s m args below meth c H locs cells slots mc ms g rest (Qc As.toArray) (free) := by
  obtain ⟨⟨hrc, hrs, hfr, hlo, hws, hcw⟩, hcode, hini, hy, hlen, hl, hstt⟩ := cw
  have hK : Back l R p e below s args y 3 8 (PreOf R mc ms Pc) (PostOf Qc mc ms free) := va_backW (hh := hh) (bytes := bytes) (maxL := maxL) (ret := ret) hM hp.1 hrc hrs hfr hlo hws hcw (fun a' U hW => word_at hW (Or.inl (by first | rfl | simp [Cond.onTables, Cond.keeps, Cond.steady])) hini)
  obtain ⟨hx, hb, hml, ho, -⟩ := S
  intro T hT X
  obtain ⟨v, vm₁, ⟨U', l2, c2, s2⟩, hW₁, X', ⟨g', mk, t, L, e1, e2, hq, h1, hL, h2, h3⟩, st⟩ := vx_callSW X hx (hh := hh) (bytes := bytes) (maxL := maxL) (ret := ret) ho hl hstt hini hcode hy hK hg (hsize.trans hml.symm) (argsL := As) (rest := rest) (fun sig h => hn.trans (hlen sig h)) hstack hW (by rw [hb]; exact hdg)
    (fun vm₁ hW₁ => ⟨hf.1, hf.2, hp.2 (T.setVm vm₁) hT hW₁⟩)
  dsimp only [Pt.U, Pt.locs, Pt.cells, Pt.slots] at X' e1 e2 h1 h2 h3 st
  subst h1; subst h2; subst h3
  exact ⟨v, (T.setVm vm₁).calling g' mk As.toArray, t, U', L, hT, X', hL, e1, e2, hq, st⟩
end VXS
def lsH : List (Nat × Nat × Nat × Nat) := [(0, 6, 7, 42)]
def mmCH (hh : List (Nat × Nat × Nat × Nat)) (B : mmB) (d kc ks : Nat) (av : List mmV) (sh : mmS) (mem : mmM) (Q : mmQ) : Prop :=
  ∀ (l : Launch) (G : mmG), l.flags = flags0 → Met l B.1 (Cond.codeWith B.1 B.2.1 B.2.2.1 B.2.2.2 hh :: mm_tbl) ({ frames := d, cells := kc, slots := ks, locals := 64 * d } : Room) (mmPre G av sh mem) (mmPost G Q) kc ks (mmAd G)
def mmOKH (hh : List (Nat × Nat × Nat × Nat)) (B : mmB) (n : Nat) : Prop := Cond.codeWith B.1 B.2.1 B.2.2.1 B.2.2.2 hh ∈ mm_tbl ∧ Cond.initialized B.1.cls ∈ mm_tbl ∧ (B.1.cls ≠ "java/lang/invoke/MethodHandle" ∧ B.1.cls ≠ "java/lang/invoke/VarHandle" ∧ (parseMethodDescriptor B.1.desc).map (fun d => d.parameters.length) = some n) ∧ B.2.2.1 ≤ 40
theorem mmCH_of {hh : List (Nat × Nat × Nat × Nat)} {B : mmB} {d kc ks : Nat} {av : List mmV} {sh : mmS} {mem : mmM} {Q : mmQ} (hy : plainName B.1.cls = true) (hn : (mmEntry av).length ≤ B.2.2.1) (h : mmT B d kc ks Q 0 (mmEntry av) [] sh mem) : mmCH hh B d kc ks av sh mem Q := by
  intro l G hfl
  refine MetFree.of_bodyS (code := B.2.1) (maxLocals := B.2.2.1) (ret := B.2.2.2) hy ?_ ?_
  · intro args s m h hn
    obtain ⟨m9, meth, c, hn9, h1, h2, h3, h4, -, h5, h6, -⟩ := Cond.codeWith_spec (atoms_spec (ws := Cond.codeWith B.1 B.2.1 B.2.2.1 B.2.2.2 hh :: mm_tbl) h _ List.mem_cons_self)
    cases hn.symm.trans hn9
    exact ⟨meth, c, h1, h2, h3, h4, h5, h6⟩
  · intro p e s m args below meth c s₁ BL hml hP _
    have hh0 : s₁.heap = s.heap := by rw [BL.state]; rfl
    have hts := atoms_spec (ws := Cond.codeWith B.1 B.2.1 B.2.2.1 B.2.2.2 hh :: mm_tbl) BL.pre
    obtain ⟨rfl, hR, hN, hSF⟩ := hP
    have hown : s.vm.findClass B.1.cls = some m.cls := findClass_of_methodNamed BL.named
    have hname : meth.name = B.1.name := (name_of_methodNamed BL.named BL.method).1
    have hl := lv_entry (av.map (mmEnc G)) (n := B.2.2.1) (by rw [mmEntry_len]; exact hn)
    obtain ⟨t, a1, b⟩ := h p l e (headSpec (Cond.codeWith B.1 B.2.1 B.2.2.1 B.2.2.2 hh :: mm_tbl) ({ frames := d, cells := kc, slots := ks, locals := 64 * d } : Room)).room s m _ below meth c G s.heap [] 0 0 _ ⟨⟨BL.exec, BL.bytes, hml, BL.returns, hown, fun w hw => hts w (List.mem_cons_of_mem _ hw), BL.notSynchronized, (fun h => hname.trans h), hN⟩, hR, va_S.rf, ⟨hR.2.2.2.2.2.1, hR.2.2.2.1.2.2.2.imp id (fun w => w.2.1)⟩, ⟨_, hl, fun i v hi hv => by
      have := mmEntry_in G av 0 i v hi hv
      rwa [Nat.zero_add] at this⟩, by show 0 + kc ≤ kc; omega, by show 0 + ks ≤ ks; omega, Nat.le_refl _, Nat.le_refl _, hfl, hSF⟩ s₁ hh0 (Stand.of_body BL)
    obtain ⟨o, b1, b2, b3⟩ := b
    refine ⟨t, o, ?_, b1, b2, b3⟩
    rw [lg_entry_eq] at *
    exact a1
theorem st_callH {hh : List (Nat × Nat × Nat × Nat)} {B : mmB} {d kc ks : Nat} {Q : mmQ} {pc : Nat} {lc st : List mmV} {sh : mmS} {mem : mmM} {B' : mmB} {idx d' kc' ks' kc2 ks2 n : Nat} {stk av : List mmV} {Qc : mmQ} (hm : mmMS B.1.cls idx B') (ho : mmOKH hh B' n) (hC : mmCH hh B' d' kc' ks' av sh mem Qc) (hn : av.length = n) (hst : stk = av.reverse ++ st) (hd' : d' + 1 ≤ d) (hkc : kc' + kc2 ≤ kc) (hks : ks' + ks2 ≤ ks) (hcat : mmCat st ≤ 8) (hd : decode B.2.1 pc = .ok (.invokestatic idx, 3))
    (kk : ∀ (r : Option mmV) (sh' : mmS) (mem' : mmM), Qc r sh' mem' → mmT B d kc2 ks2 Q (pc + 3) lc (r.toList ++ st) sh' mem') : mmT B d kc ks Q pc lc stk sh mem := by
  intro p l e R s m args below meth c G H locs cells slots ls X
  subst hst
  have hM := hC l G X.2.2.2.2.2.2.2.2.2.1
  have hgood : GoodIn mm_tbl (va_wsS B.1.cls idx B'.1 (Cond.codeWith B'.1 B'.2.1 B'.2.2.1 B'.2.2.2 hh :: mm_tbl)) := mm_good fun w hw => by
    unfold va_wsS at hw
    simp only [List.mem_append, List.mem_cons, List.not_mem_nil, or_false] at hw
    rcases hw with (rfl | rfl | rfl) | rfl | hw
    · exact hm.1
    · exact hm.2
    · exact ho.2.1
    · exact ho.1
    · exact hw
  refine mm_goes (Qc := Qc) (mc := kc') (ms := ks') (a := (av.map (mmEnc G)).toArray) X hkc hks ?_ kk
  refine vx_runSW (hh := hh) (Pc := mmPre G av sh mem) (As := av.map (mmEnc G)) (mm_fix X) hM (vx_cwSW n X.1.2.2.2.2.2.1 hgood rfl rfl rfl ho.2.2.1 (mm_room X hd' ho.2.2.2)) ⟨mm_blind, fun U hU hW => ⟨rfl, by rw [hU]; exact X.2.1.moved hW.alike, X.1.2.2.2.2.2.2.2.2.warm hW, by rw [hU]; exact (X.2.2.2.2.2.2.2.2.2.2.moved hW.alike).kept X.2.2.1.2.1⟩⟩ rfl (by rw [List.length_map]; exact hn) ?_ ?_ (lv_room (by rw [mmCat_enc]; exact hcat)) hd ⟨?_, ?_⟩
  · obtain ⟨lv, h1, -⟩ := X.2.2.2.2.1
    exact h1.1
  · show (av.reverse ++ st).map (mmEnc G) = _
    rw [List.map_append, List.map_reverse]
  · have := X.2.2.2.2.2.1
    omega
  · have := X.2.2.2.2.2.2.1
    omega
theorem ok_L_speech : mmOKH lsH bL_speech 3 := ⟨mm_wk5 39 (by decide +kernel) rfl, mm_wk1 0 (by decide +kernel) rfl, ⟨by decide +kernel, by decide +kernel, by decide +kernel⟩, by decide⟩
theorem c_L_speech (mem : mmM) (x y : Int) (hn : 0 ≤ mem 23 1 ∧ mem 23 1 ≤ 24) (hx : 0 ≤ x ∧ x < mem 23 1) (hy : 0 ≤ y ∧ y ≤ 9) : mmCH lsH bL_speech 4 0 0 [(2, 0), (0, x), (0, y)] mS mem (mQ 0 (fun v m => v = tellX mem x y ∧ m = mem)) := by
  refine mmCH_of ok_L_cell.2.2.2.2 (Nat.le_of_ble_eq_true rfl) ?_
  show mmT bL_speech 4 0 0 _ 0 [(2, 0), (0, x), (0, y)] [] mS mem
  refine st_aload_n (i := 0) rfl (t := 0) rfl (by decide) dL_speech_0 ?_
  refine st_iload_n (i := 1) rfl rfl dL_speech_1 ?_
  refine st_iload_n (i := 2) rfl rfl dL_speech_2 ?_
  refine st_callV (kc2 := 0) (ks2 := 0) (av := [(0, x), (0, y)]) 0 10 mr_L_38 ok_X11_speech (c_X11_speech mem x y hn hx hy) rfl sh_0 ⟨_, rfl, rfl, by decide⟩ rfl rfl (by omega) (Nat.le_refl 0) (Nat.le_refl 0) (Nat.le_of_ble_eq_true rfl) dL_speech_3 (mQ.elim fun v m hv => ?_)
  exact st_ireturn rfl dL_speech_6 (mQ.ret hv)
