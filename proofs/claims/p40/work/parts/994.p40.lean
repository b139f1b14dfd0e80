/-! what the words do not say themselves: a private method of a StringBuilder's superclass -/
theorem jv_sel {y y0 : MethodName} {s : State} {args : Array Value} (hy : y.cls ≠ "java/lang/invoke/MethodHandle" ∧ y.cls ≠ "java/lang/invoke/VarHandle") (h0 : (Cond.selects RJ4 y0 y0).before args s = true) (hc : y0.cls = y.cls) (hpriv : (Cond.privateMethod y).before args s = true) (hinst : (Cond.instanceMethod y).before args s = true) : (Cond.selects RJ4 y y).before args s = true := by
  obtain ⟨c, r, m, q1, q2, q3, q4, mk, q5, q6⟩ := Cond.selects_spec h0
  obtain ⟨mk2, methM, hnamed, hmethM, -, -⟩ := Cond.instanceMethod_spec hinst
  have hfound : s.methodFound? y.cls y.name y.desc = some mk2 := State.methodFound?_of_named hnamed hy
  have hcls : mk2.cls = m.cls := Option.some.inj ((findClass_of_methodNamed hnamed).symm.trans (by rw [← hc]; exact findClass_of_methodNamed q3))
  have hsel : selectMethod {} s.vm c mk2 = .method mk2 := selectMethod_private hmethM (Cond.privateMethod_at hpriv mk2 methM hnamed hmethM)
  simp only [Cond.before, Cond.holds, Cond.value, q1, hfound, hnamed, hsel, hcls, q5]
  simp
  exact q6
theorem jv_ok {args : Array Value} {s : State} (hts : ∀ w ∈ lw_tbl, w.before args s = true) : ∀ w ∈ jvPriv, w.before args s = true := by
  have h0 := hts (Cond.selects RJ4 yJ5_isLatin1_aae02 yJ5_isLatin1_aae02) (by decide +kernel)
  intro w hw
  unfold jvPriv at hw
  simp only [List.mem_cons, List.not_mem_nil, or_false] at hw
  rcases hw with rfl | rfl | rfl | rfl
  · exact jv_sel ⟨by decide +kernel, by decide +kernel⟩ h0 rfl (hts (Cond.privateMethod yJ5_ensureCapacityInternal_d00df) (by decide +kernel)) (hts (Cond.instanceMethod yJ5_ensureCapacityInternal_d00df) (by decide +kernel))
  · exact jv_sel ⟨by decide +kernel, by decide +kernel⟩ h0 rfl (hts (Cond.privateMethod yJ5_newCapacity_0f7a4) (by decide +kernel)) (hts (Cond.instanceMethod yJ5_newCapacity_0f7a4) (by decide +kernel))
  · exact jv_sel ⟨by decide +kernel, by decide +kernel⟩ h0 rfl (hts (Cond.privateMethod yJ5_putStringAt_47b60) (by decide +kernel)) (hts (Cond.instanceMethod yJ5_putStringAt_47b60) (by decide +kernel))
  · exact jv_sel ⟨by decide +kernel, by decide +kernel⟩ h0 rfl (hts (Cond.privateMethod yJ5_inflateIfNeededFor_a7421) (by decide +kernel)) (hts (Cond.instanceMethod yJ5_inflateIfNeededFor_a7421) (by decide +kernel))
theorem mm_all {args : Array Value} {s : State} (hts : ∀ w ∈ lw_tbl, w.before args s = true) : ∀ w ∈ mm_tbl, w.before args s = true := fun w hw => by
  have h := (List.mem_filter.mp hw).1
  rcases List.mem_append.mp h with h | h
  · exact hts w h
  · exact jv_ok hts w h
/-! THE CLAIM OUT OF ONE WALK OF THE LAW'S BODY. Your part is whole_start (and what it stands on); all else here is the same for every law, but numbers. -/
def R_law : String := "SheSaysLaw"
def lw_P (b : Addr) (xs : List Int32) (args : Array Value) (s : State) : Prop := args = #[.ref b] ∧ s.IntsAt b xs ∧ xs.length ≤ 260 ∧ (Jvm.Cond.and given_1 narrow_1).before args s = true
def lw_Q (_ : Array Value) (s : State) (o : Outcome) (t : State) : Prop := o = .returned (some (.int 1)) ∧ Framed s o t [] 600086 7301442
def lw_Z (below : List Frame) (a : Array Value) (s : State) : State → Prop := fun t => ∃ o, t.status = .running ∧ Ended t below o ∧ lw_Q a s o t
/-- the law's own end, with 1 on the stack, nothing written that was there before, its room as the claim has it -/
theorem lw_ret {p : Program} {l : Launch} {e : Env} {s : State} {m : MethodId} {below : List Frame} {meth : Method} {c : Code} {b : Nat} (hx : p.tables.exec = Jvm.exec) (hb : c.code = code) (hr : meth.sig.returnType = ret) (hlocks : meth.locks = false) {pc : Nat} {H : Heap} {ls : Array Slot} (hdg : decode code pc = .ok (.ireturn, 1)) : W p l e room_1 s m #[Value.ref b] below meth c H [] 600086 7301442 (lw_Z below #[Value.ref b] s) (F0 m pc ls [.int 1]) := by
  intro T hT X
  obtain ⟨fs, hret, hrun, hended, hW, hframe⟩ := X.leave (v := some (.int 1)) (hlocks := hlocks) (fun h => by rw [hr] at h; cases h)
  have hmeth' : T.vm.method? m = some meth := X.method'
  refine ⟨T.setFrames fs, ?_, .returned (some (.int 1)), hrun, hended, rfl, ⟨_, rfl⟩, hW, hframe⟩
  jvm_step X.here [X.here.top, hx, hb, hdg, hmeth', hr, ret, narrow_b1]
  (try refine ⟨rfl, ?_⟩); (try refine ⟨rfl, ?_⟩)
  first | (intro acts; rw [hret _ acts rfl rfl rfl]) | rw [hret _ _ rfl rfl rfl]
  exact Steps.refl _
/-- what holds at the law's entry: the machine, the code, the tables' words (any of lw_tbl by 'hts w (by decide +kernel)'), the script of L ints xs at the cell b, what the Statement gives of the start (any of its parts by flat_of_before) -/
def lw_At (p : Program) (s : State) (m : MethodId) (meth : Method) (c : Code) (b L : Nat) (xs : Nat → Int32) : Prop :=
  p.tables.exec = Jvm.exec ∧ c.code = code ∧ meth.sig.returnType = ret ∧ c.maxLocals = 14 ∧ s.vm.findClass R_law = some m.cls ∧ (∀ w ∈ lw_tbl, w.before #[Value.ref b] s = true) ∧ va_X b L xs s s.heap ∧ b < s.heap.size ∧ meth.locks = false ∧ (Jvm.Cond.and given_1 narrow_1).before #[Value.ref b] s = true
/-! what the tables say at the law's entry -/
theorem st_arr {args : Array Value} {s : State} {t : FieldType} (h : (Cond.arrayClass t).before args s = true) : ∃ cA : ClassId, ArrOfT s cA t ∧ s.vm.findClass ("[" ++ t.toString) = some cA := by
  obtain ⟨c, k, comp, h1, h2, h3⟩ := Cond.arrayClass_spec h
  exact ⟨c, fun n z => ⟨fun k h => (by cases h), k, h2, comp, h3⟩, h1⟩
theorem st_arrL {args : Array Value} {s : State} {C : String} (h : (Cond.arrayOver (.object C)).before args s = true) : ∃ cA : ClassId, ArrOfT s cA (.object C) ∧ va_RA s cA (.object C) := by
  obtain ⟨comp, c, k, h1, -, h2, h3, h4⟩ := Cond.arrayOver_spec h
  exact ⟨c, fun n z => ⟨fun k h => (by cases h), k, h2, comp, h3⟩, k, comp, h2, h3, h1, h4⟩
theorem st_arrA {args : Array Value} {s : State} {t : FieldType} (h : (Cond.arrayOver (.array t)).before args s = true) : ∃ cA : ClassId, ArrOfT s cA (.array t) ∧ s.vm.findClass ("[" ++ (FieldType.array t).toString) = some cA := by
  simp only [Cond.before, Cond.holds, Cond.value, beq_iff_eq] at h
  cases hc : s.vm.findClass (FieldType.array t).toString with
  | none => simp [hc] at h
  | some comp =>
    simp only [hc, Option.bind_some, Option.bind_eq_some_iff, Option.map_eq_some_iff] at h
    obtain ⟨c, hi, k, hk, hb⟩ := h
    cases hkind : k.kind with
    | array component ty =>
      rw [hkind] at hb
      simp at hb
      exact ⟨c, fun n z => ⟨fun k h => (by cases h), k, hk, component, by rw [hkind, hb.1]⟩, hb.2⟩
    | _ =>
      rw [hkind] at hb
      simp at hb
theorem start_K {args : Array Value} {s : State} (hts : ∀ w ∈ lw_tbl, w.before args s = true) : ∃ (D : va_G) (A : Nat → ClassId), va_K D vwCl [(A 20, .int), (A 21, .long), (A 22, .boolean), (A 23, .object "SheSays$Law"), (A 24, .array .long), (A 25, .byte), (A 26, .array .int)] s := by
  have hm := mm_all hts
  obtain ⟨c0, i0, u0⟩ := u_known (n := 8) (T := TX0) hm inX0 (hm _ (mm_wk1 58 (by decide +kernel) rfl))
  obtain ⟨c1, i1, u1⟩ := u_known (n := 11) (T := TX1) hm inX1 (hm _ (mm_wk2 22 (by decide +kernel) rfl))
  obtain ⟨c2, i2, u2⟩ := u_known (n := 4) (T := TX2) hm inX2 (hm _ (mm_wk1 114 (by decide +kernel) rfl))
  obtain ⟨c3, i3, u3⟩ := u_known (n := 3) (T := TX3) hm inX3 (hm _ (mm_wk1 95 (by decide +kernel) rfl))
  obtain ⟨c4, i4, u4⟩ := u_known (n := 5) (T := TX4) hm inX4 (hm _ (mm_wk1 195 (by decide +kernel) rfl))
  obtain ⟨c5, i5, u5⟩ := u_known (n := 13) (T := TX5) hm inX5 (hm _ (mm_wk2 91 (by decide +kernel) rfl))
  obtain ⟨c6, i6, u6⟩ := u_known (n := 7) (T := TX6) hm inX6 (hm _ (mm_wk1 229 (by decide +kernel) rfl))
  obtain ⟨c7, i7, u7⟩ := u_known (n := 10) (T := TX7) hm inX7 (hm _ (mm_wk2 127 (by decide +kernel) rfl))
  obtain ⟨c8, i8, u8⟩ := u_known (n := 13) (T := TX8) hm inX8 (hm _ (mm_wk1 133 (by decide +kernel) rfl))
  obtain ⟨c9, i9, u9⟩ := u_known (n := 3) (T := TX9) hm inX9 (hm _ (mm_wk1 38 (by decide +kernel) rfl))
  obtain ⟨c10, i10, u10⟩ := u_known (n := 13) (T := TX11) hm inX11 (hm _ (mm_wk1 30 (by decide +kernel) rfl))
  obtain ⟨c11, i11, u11⟩ := u_known (n := 4) (T := TJ0) hm inJ0 (hm _ (mm_wk6 49 (by decide +kernel) rfl))
  obtain ⟨c12, i12, u12⟩ := u_known (n := 4) (T := TJ4) hm inJ4 (hm _ (mm_wk5 121 (by decide +kernel) rfl))
  obtain ⟨a0, A0, B0⟩ := st_arr (hm _ ac_int : (Cond.arrayClass .int).before args s = true)
  obtain ⟨a1, A1, B1⟩ := st_arr (hm _ ac_long : (Cond.arrayClass .long).before args s = true)
  obtain ⟨a2, A2, B2⟩ := st_arr (hm _ ac_bool : (Cond.arrayClass .boolean).before args s = true)
  obtain ⟨a3, A3, B3⟩ := st_arrL (hts (Cond.arrayOver (.object "SheSays$Law")) (by decide +kernel))
  obtain ⟨a4, A4, B4⟩ := st_arrA (hts (Cond.arrayOver (.array .long)) (by decide +kernel))
  obtain ⟨a5, A5, B5⟩ := st_arr (hm _ ac_byte : (Cond.arrayClass .byte).before args s = true)
  obtain ⟨a6, A6, B6⟩ := st_arrA (hts (Cond.arrayOver (.array .int)) (by decide +kernel))
  refine ⟨(fun c => match c with | 0 => c0 | 1 => c1 | 2 => c2 | 3 => c3 | 4 => c4 | 5 => c5 | 6 => c6 | 7 => c7 | 8 => c8 | 9 => c9 | 10 => c10 | 11 => c11 | _ => c12, fun c => match c with | 0 => i0 | 1 => i1 | 2 => i2 | 3 => i3 | 4 => i4 | 5 => i5 | 6 => i6 | 7 => i7 | 8 => i8 | 9 => i9 | 10 => i10 | 11 => i11 | _ => i12), fun t => match t with | 20 => a0 | 21 => a1 | 22 => a2 | 23 => a3 | 24 => a4 | 25 => a5 | _ => a6, fun c q hq => ?_, fun k q hq => ?_⟩
  · match c, hq with
    | 0, hq => cases hq; exact u0
    | 1, hq => cases hq; exact u1
    | 2, hq => cases hq; exact u2
    | 3, hq => cases hq; exact u3
    | 4, hq => cases hq; exact u4
    | 5, hq => cases hq; exact u5
    | 6, hq => cases hq; exact u6
    | 7, hq => cases hq; exact u7
    | 8, hq => cases hq; exact u8
    | 9, hq => cases hq; exact u9
    | 10, hq => cases hq; exact u10
    | 11, hq => cases hq; exact u11
    | 12, hq => cases hq; exact u12
    | c + 13, hq => cases hq
  · match k, hq with
    | 0, hq => cases hq; exact ⟨A0, B0⟩
    | 1, hq => cases hq; exact ⟨A1, B1⟩
    | 2, hq => cases hq; exact ⟨A2, B2⟩
    | 3, hq => cases hq; exact ⟨A3, B3⟩
    | 4, hq => cases hq; exact ⟨A4, B4⟩
    | 5, hq => cases hq; exact ⟨A5, B5⟩
    | 6, hq => cases hq; exact ⟨A6, B6⟩
    | k + 7, hq => cases hq
theorem start_N {args : Array Value} {s : State} {G : mmG} (hts : ∀ w ∈ lw_tbl, w.before args s = true) (hx : ∀ i : Nat, i < 5 → (Term.string RL (kIx i)).eval args s none [] s = some (.ref (G.2.2.2.2 (2 * i)))) : mmNw G s := by
  refine ⟨⟨fun q hq => ?_, hts (Cond.arrayOver (.object "SheSays$Law")) (by decide +kernel), hts (Cond.arrayOver (.array .long)) (by decide +kernel), hts (Cond.arrayOver (.array .int)) (by decide +kernel)⟩, va_Nw.of rfl (hts (Cond.declares ⟨"SheSays$Walk", "saidAt", "(I)I"⟩) (by decide +kernel)), fun i hi => ?_, va_Nw.of rfl (hts (Cond.castable "[B" "java/lang/Cloneable") (by decide +kernel))⟩
  · rcases hq with e | e | e | e <;> subst e
    · exact va_Nw.of rfl (hts (Cond.methodLinkNest RX11 9 yX9_init "SheSays") (by decide +kernel))
    · exact va_Nw.of rfl (hts (Cond.methodLinkNest RX11 38 yX2_init "SheSays") (by decide +kernel))
    · exact va_Nw.of rfl (hts (Cond.methodLinkNest RX11 41 yX8_init "SheSays") (by decide +kernel))
    · exact va_Nw.of rfl (hts (Cond.methodLinkNest RX11 57 yX6_init "SheSays") (by decide +kernel))
  · have e := hx i hi
    match i, hi with
    | 0, _ => exact vk_R.of (hts (Cond.stringRef RL 44 "") (by decide +kernel)) e
    | 1, _ => exact vk_R.of (hts (Cond.stringRef RL 57 ",") (by decide +kernel)) e
    | 2, _ => exact vk_R.of (hts (Cond.stringRef RL 92 "y:c*") (by decide +kernel)) e
    | 3, _ => exact vk_R.of (hts (Cond.stringRef RL 94 "y:g>") (by decide +kernel)) e
    | 4, _ => exact vk_R.of (hts (Cond.stringRef RL 96 "?l;y:s*2-m*9") (by decide +kernel)) e
    | i + 5, h => exact absurd h (by omega)
/-! what the start's statics and constants hold -/
def tmK (i : Nat) : Term := .string RL (kIx i)
def vaK (i : Nat) : Term := .field (tmK i) "java/lang/String" "value" "[B"
theorem k_ok : ∀ i : Fin 5, Cond.exactly (tmK i.val) "java/lang/String" ∈ flatC (Jvm.Cond.and given_1 narrow_1) ∧ Cond.eq (.field (tmK i.val) "java/lang/String" "coder" "B") (.int 0) ∈ flatC (Jvm.Cond.and given_1 narrow_1) ∧ Cond.arrayOf (vaK i.val) .byte ∈ flatC (Jvm.Cond.and given_1 narrow_1) ∧ Cond.eq (.length (vaK i.val)) (.int (Int32.ofNat (kLen.getD i.val 0))) ∈ flatC (Jvm.Cond.and given_1 narrow_1) := by decide +kernel
theorem k_el : ∀ i : Fin 5, ∀ j : Fin 12, j.val < kLen.getD i.val 0 → Cond.eq (.elem (vaK i.val) (.int (Int32.ofNat j.val))) (.int ((kByt.getD i.val []).getD j.val 0)) ∈ flatC (Jvm.Cond.and given_1 narrow_1) := by decide +kernel
theorem k_ne : ∀ i j : Fin 5, i.val ≠ j.val → Cond.not (Cond.eq (tmK i.val) (tmK j.val)) ∈ flatC (Jvm.Cond.and given_1 narrow_1) ∨ Cond.not (Cond.eq (tmK j.val) (tmK i.val)) ∈ flatC (Jvm.Cond.and given_1 narrow_1) := by decide +kernel
def tmO : Term := .static "java/lang/Integer" "DigitOnes" "[B"
def tmT : Term := .static "java/lang/Integer" "DigitTens" "[B"
theorem d_on_i : ∀ j : Fin 100, (flatC (Jvm.Cond.and given_1 narrow_1))[14 + j.val]? = some (Cond.eq (.elem tmO (.int (Int32.ofNat j.val))) (.int (dgO j.val))) := by decide +kernel
theorem d_on (j : Fin 100) : Cond.eq (.elem tmO (.int (Int32.ofNat j.val))) (.int (dgO j.val)) ∈ flatC (Jvm.Cond.and given_1 narrow_1) := List.mem_of_getElem? (d_on_i j)
theorem d_te_i : ∀ j : Fin 100, (flatC (Jvm.Cond.and given_1 narrow_1))[117 + j.val]? = some (Cond.eq (.elem tmT (.int (Int32.ofNat j.val))) (.int (dgT j.val))) := by decide +kernel
theorem d_te (j : Fin 100) : Cond.eq (.elem tmT (.int (Int32.ofNat j.val))) (.int (dgT j.val)) ∈ flatC (Jvm.Cond.and given_1 narrow_1) := List.mem_of_getElem? (d_te_i j)
def cstK (adK adV : Nat → Nat) (t1 t2 t3 : Nat) (k : Nat) : Nat := if k = 20 then t1 else if k = 21 then t2 else if k = 22 then t3 else if k % 2 = 0 then adK (k / 2) else adV (k / 2)
theorem cst_0 {adK adV : Nat → Nat} {t1 t2 t3 i : Nat} (h : i < 5) : cstK adK adV t1 t2 t3 (2 * i) = adK i ∧ cstK adK adV t1 t2 t3 (2 * i + 1) = adV i := by
  unfold cstK
  rw [if_neg (by omega), if_neg (by omega), if_neg (by omega), if_pos (by omega), if_neg (by omega), if_neg (by omega), if_neg (by omega), if_neg (by omega)]
  exact ⟨by congr 1; omega, by congr 1; omega⟩
theorem start_S {args : Array Value} {s : State} {G0 : Nat × Nat} {D : va_G} {A : Nat → ClassId} {H0 : Nat × Nat × Nat} (hts : ∀ w ∈ lw_tbl, w.before args s = true) (hfl : ∀ w ∈ flatC (Jvm.Cond.and given_1 narrow_1), w.before args s = true) (hA : ∀ (cst : Nat → Nat) (a : Nat), a < s.heap.size → ¬ mmAd (G0, D, A, H0, cst) a) : ∃ cst : Nat → Nat, mmSF (G0, D, A, H0, cst) s s.heap ∧ ∀ i : Nat, i < 5 → (Term.string RL (kIx i)).eval args s none [] s = some (.ref (cst (2 * i))) := by
  have hA0 : ∀ a : Nat, a < s.heap.size → ¬ mmAd (G0, D, A, H0, fun _ => 0) a := hA _
  obtain ⟨adK, adV, hS, hE⟩ := vk_Sof (args := args) (s := s) (N := 5) (tm := tmK) (len := kLen) (byt := kByt) (A := mmAd (G0, D, A, H0, fun _ => 0)) (fun i hi => by have := kLen_ok ⟨i, hi⟩; dsimp only at this; omega) (fun i hi => hfl _ (k_ok ⟨i, hi⟩).1) (fun i hi => hfl _ (k_ok ⟨i, hi⟩).2.1) (fun i hi => hfl _ (k_ok ⟨i, hi⟩).2.2.1) (fun i hi => hfl _ (k_ok ⟨i, hi⟩).2.2.2) (fun i hi j hj => by
    have l := kLen_ok ⟨i, hi⟩
    dsimp only at l
    exact hfl _ (k_el ⟨i, hi⟩ ⟨j, by omega⟩ hj)) (fun i j hi hj hn => (k_ne ⟨i, hi⟩ ⟨j, hj⟩ hn).imp (fun h => hfl _ h) (fun h => hfl _ h)) hA0
  obtain ⟨t1, e1, T1⟩ := va_Tof (tm := tmO) (N := 100) (f := fun j => .int (dgO j)) (A := mmAd (G0, D, A, H0, fun _ => 0)) (args := args) (s := s) (ty := .byte) (by decide) (hfl _ (by decide +kernel)) (va_eqt (hfl (Cond.eq (.length tmO) (.int (Int32.ofNat 100))) (by decide +kernel))) (fun j hj => va_eqt (hfl _ (d_on ⟨j, hj⟩))) hA0
  obtain ⟨t2, e2, T2⟩ := va_Tof (tm := tmT) (N := 100) (f := fun j => .int (dgT j)) (A := mmAd (G0, D, A, H0, fun _ => 0)) (args := args) (s := s) (ty := .byte) (by decide) (hfl _ (by decide +kernel)) (va_eqt (hfl (Cond.eq (.length tmT) (.int (Int32.ofNat 100))) (by decide +kernel))) (fun j hj => va_eqt (hfl _ (d_te ⟨j, hj⟩))) hA0
  have Z1 := va_Zof (args := args) (s := s) (A := mmAd (G0, D, A, H0, fun _ => 0)) (hts (Cond.laysStatic "java/lang/Integer" "DigitOnes" "[B") (by decide +kernel)) (hts (Cond.initialized "java/lang/Integer") (by decide +kernel)) e1 hA0
  have Z2 := va_Zof (args := args) (s := s) (A := mmAd (G0, D, A, H0, fun _ => 0)) (hts (Cond.laysStatic "java/lang/Integer" "DigitTens" "[B") (by decide +kernel)) (hts (Cond.initialized "java/lang/Integer") (by decide +kernel)) e2 hA0
  have Z0 := va_Zof (args := args) (s := s) (A := mmAd (G0, D, A, H0, fun _ => 0)) (hts (Cond.laysStatic "java/lang/String" "COMPACT_STRINGS" "Z") (by decide +kernel)) (hts (Cond.initialized "java/lang/String") (by decide +kernel)) (va_eqt (hfl (Cond.eq (.static "java/lang/String" "COMPACT_STRINGS" "Z") (.int 1)) (by decide +kernel))) hA0
  obtain ⟨v, ev, hv⟩ := Cond.isRef_spec (hfl (Cond.isRef (.static fmC "SIOOBE_FORMATTER" fmD)) (by decide +kernel))
  have Z3 := va_Zof (args := args) (s := s) (A := mmAd (G0, D, A, H0, fun _ => 0)) (hts (Cond.laysStatic fmC "SIOOBE_FORMATTER" fmD) (by decide +kernel)) (hts (Cond.initialized fmC) (by decide +kernel)) ev hA0
  have K : ∀ (cst : Nat → Nat), (∀ i, i < 5 → cst (2 * i) = adK i ∧ cst (2 * i + 1) = adV i) → vk_S 5 kLen kByt (fun i => cst (2 * i)) (fun i => cst (2 * i + 1)) (mmAd (G0, D, A, H0, cst)) s s.heap := fun cst hc => by
    refine ⟨fun i hi => ?_, fun i j hi hj e => hS.2 i j hi hj ?_⟩
    · have h := hS.1 i hi
      dsimp only
      rw [(hc i hi).1, (hc i hi).2]
      exact h
    · dsimp only at e
      rw [(hc i hi).1, (hc j hj).1] at e
      exact e
  have c20 : ∀ t3, cstK adK adV t1 t2 t3 20 = t1 := fun _ => if_pos rfl
  have c21 : ∀ t3, cstK adK adV t1 t2 t3 21 = t2 := fun _ => by unfold cstK; rw [if_neg (by decide), if_pos rfl]
  have c22 : ∀ t3, cstK adK adV t1 t2 t3 22 = t3 := fun _ => by unfold cstK; rw [if_neg (by decide), if_neg (by decide), if_pos rfl]
  have M : ∀ t3 : Nat, (va_Z fmC "SIOOBE_FORMATTER" fmD .null (mmAd (G0, D, A, H0, fun _ => 0)) s s.heap ∨ va_Z fmC "SIOOBE_FORMATTER" fmD (.ref t3) (mmAd (G0, D, A, H0, fun _ => 0)) s s.heap) → mmSF (G0, D, A, H0, cstK adK adV t1 t2 t3) s s.heap := fun t3 h3 => by
    refine ⟨K _ (fun i hi => cst_0 hi), Z0, ⟨?_, ?_⟩, ⟨?_, ?_⟩, ?_⟩
    · dsimp only
      rw [c20]
      exact Z1
    · dsimp only
      rw [c20]
      exact T1
    · dsimp only
      rw [c21]
      exact Z2
    · dsimp only
      rw [c21]
      exact T2
    · dsimp only
      rw [c22]
      exact h3
  cases v with
  | null => exact ⟨cstK adK adV t1 t2 0, M 0 (Or.inl Z3), fun i hi => by rw [(cst_0 hi).1]; exact hE i hi⟩
  | ref a => exact ⟨cstK adK adV t1 t2 a, M a (Or.inr Z3), fun i hi => by rw [(cst_0 hi).1]; exact hE i hi⟩
  | _ => simp [Value.isRef] at hv
theorem whole_start {p : Program} {e : Env} {s : State} {m : MethodId} {below : List Frame} {meth : Method} {c : Code} (l : Launch) (hflags : l.flags = flags0) {b L : Nat} {xs : Nat → Int32} (hL : L ≤ 260) (C0 : lw_At p s m meth c b L xs) : W p l e room_1 s m #[Value.ref b] below meth c s.heap [] 0 0 (lw_Z below #[Value.ref b] s) (entryFrame m ([Value.ref b] : List Value).toArray 14) := by
  obtain ⟨hx, hb, hret, hml, hown, hts, hX, hbl, hlocks, hgv⟩ := C0
  have hfl := flat_of_before _ hgv
  obtain ⟨D, A, hK⟩ := start_K hts
  have hmem : ∃ mem : mmM, mem 999 = (fun k => if k = -1 then (L : Int) else (xs k.toNat).toInt) := ⟨fun _ k => if k = -1 then (L : Int) else (xs k.toNat).toInt, rfl⟩
  obtain ⟨mem, h9⟩ := hmem
  have hr : ∀ k, R32 (mem 999 k) := fun k => by
    rw [h9]
    dsimp only
    split
    · omega
    · exact i32_rng _
  have hN : 0 ≤ mem 999 (-1) ∧ mem 999 (-1) ≤ 260 := by
    rw [h9]
    dsimp only
    rw [if_pos rfl]
    omega
  obtain ⟨cst, hSF, hE⟩ := start_S (G0 := (b, s.heap.size)) (D := D) (A := A) (H0 := (s.heap.size + 65, 0, 0)) hts hfl (fun cst a ha h => absurd h.1 (Nat.not_le_of_lt ha))
  obtain ⟨G, hG⟩ : ∃ G : mmG, G = ((b, s.heap.size), D, A, (s.heap.size + 65, 0, 0), cst) := ⟨_, rfl⟩
  have hNw : mmNw G s := start_N hts (by rw [hG]; exact hE)
  have hSF' : mmSF G s s.heap := by rw [hG]; exact hSF
  have g1 : G.1.1 = b := by rw [hG]
  have g2 : G.1.2 = s.heap.size := by rw [hG]
  have g3 : G.2.2.2.1.1 = s.heap.size + 65 := by rw [hG]
  have g4 : G.2.2.2.1.2.1 = 0 := by rw [hG]
  have g5 : G.2.2.2.1.2.2 = 0 := by rw [hG]
  have hR : mmR G (true, mSH.take 0) (evO [] mem) s s.heap := by
    refine ⟨fun _ => ?_, ?_, fun k x hx => ?_, ⟨?_, ?_⟩, by rw [g1, g2]; exact hbl, Nat.le_of_eq g2, Nat.zero_le _, fun h => (by cases h), fun a q k h => (by cases h), hr⟩
    · show s.heap.size = mmAt G 0
      unfold mmAt
      rw [if_pos (by decide), g2]
      rfl
    · rw [hG]
      exact hK
    · have e0 : mmW G (mSH.take 0) (evO [] mem) = [] := rfl
      rw [show (mmW G (true, mSH.take 0).2 (evO [] mem)) = [] from e0] at hx
      cases hx
    · show va_X G.1.1 (mem 999 (-1)).toNat (fun j : Nat => Int32.ofInt (mem 999 (j : Int))) s s.heap
      have e1 : (mem 999 (-1)).toNat = L := by
        rw [h9]
        dsimp only
        rw [if_pos rfl]
        exact Int.toNat_natCast L
      have e2 : (fun j : Nat => Int32.ofInt (mem 999 (j : Int))) = xs := by
        funext j
        rw [h9]
        dsimp only
        rw [if_neg (by omega), Int.toNat_natCast, Int32.ofInt_toInt]
      rw [e1, e2, g1]
      exact hX
    · refine ⟨by rw [g2, g3]; exact Nat.le_refl _, fun _ _ => by rw [g2, g3], Or.inl (by rw [g4, g5]; exact Nat.le_refl _)⟩
  have hgo := lw_go multi_holds multiI_holds (d := 1312) (kc := 0) (ks := 0) (mem := mem) hN (by decide)
  have hl := lv_entry ([Value.ref b]) (n := 14) (show 1 ≤ 14 by decide)
  rw [lg_entry_eq]
  intro T hT XT
  obtain ⟨t, a1, o, b1, b2, b3, b4⟩ := hgo p l e room_1 s m #[Value.ref b] below meth c G s.heap [] 0 0 _ ⟨⟨hx, hb, hml, hret, hown, mm_all hts, hlocks, fun h => absurd h (by decide), hNw⟩, hR, va_S.rf, ⟨Nat.le_of_eq g2, Or.inl (by rw [g4, g5]; exact Nat.le_refl _)⟩, ⟨_, hl, fun i v hi hv => by
    match i, hi with
    | 0, hi =>
      have := mmEntry_in G [(3, 0)] 0 0 v hi hv
      rw [hG] at this ⊢
      exact this
    | i + 1, hi =>
      have h1 := List.mem_of_getElem? (show ([(9, 0), (9, 0), (9, 0), (9, 0), (9, 0), (9, 0), (9, 0), (9, 0), (9, 0), (9, 0), (9, 0), (9, 0), (9, 0)] : List mmV)[i]? = some v from hi)
      have h2 : v = (9, 0) := by simpa using h1
      subst h2
      exact absurd hv (by decide)⟩, by decide, by decide, by decide, by decide, hflags, hSF'⟩ T hT XT
  obtain ⟨⟨r, sh, mm, ho, ⟨hq, -, -⟩, -⟩, -⟩ := b3
  subst hq
  obtain ⟨Ls, ⟨hv, hW, hS⟩, hfree⟩ := b4
  refine ⟨t, a1, o, b1, b2, ho.trans rfl, hv, hW, hS.weaken (fun y hy hlt => ?_) (Nat.le_refl _) (Nat.le_refl _)⟩
  have := (hfree y hy).1
  rw [g2] at this
  exact absurd hlt (Nat.not_lt_of_le this)
set_option maxHeartbeats 4000000 in
theorem lw_walk (l : Launch) (hflags : l.flags = flags0) (b : Addr) (xs : List Int32) : MetFree l x (headSpec (Jvm.Cond.code x code maxLocals ret :: tables_1) room_1) (lw_P b xs) (fun _ _ _ _ _ => True) lw_Q := by
  refine MetFree.of_bodyS (code := code) (maxLocals := maxLocals) (ret := ret) (by decide) ?_ ?_
  · intro args s m h hn
    obtain ⟨meth, c, h1, h2, h3, h4, h5, h6, -, -⟩ := Cond.code_spec hn (atoms_spec (ws := Jvm.Cond.code x code maxLocals ret :: tables_1) h _ List.mem_cons_self)
    exact ⟨meth, c, h1, h2, h3, h4, h5, h6⟩
  · intro p e s m args below meth c s₁ B hml0 hP _
    obtain ⟨rfl, hx, hbd, hgv⟩ := hP
    obtain ⟨scr, harrAt, hlist, hof, hsmall⟩ := hx
    obtain ⟨hcb, hkn, -, -⟩ := State.arrayAt?_spec harrAt
    have hown : s.vm.findClass R_law = some m.cls := findClass_of_methodNamed B.named
    have hts0 : ∀ c ∈ (Jvm.Cond.code x code maxLocals ret :: tables_1), c.before #[Value.ref b] s = true := atoms_spec (ws := Jvm.Cond.code x code maxLocals ret :: tables_1) B.pre
    have hts : ∀ w ∈ lw_tbl, w.before #[Value.ref b] s = true := k2_hts_sels lw_privs (fun w hw => hts0 w (List.mem_cons_of_mem _ hw)) lw_privs_ok
    have hml : c.maxLocals = 14 := B.maxLocals_eq (hts0 _ List.mem_cons_self)
    have X₀ : Stand p l e room_1 s m #[Value.ref b] below meth c s₁ [] 0 0 := Stand.of_body B
    have hh0 : s₁.heap = s.heap := by rw [B.state]; rfl
    have hsz : scr.slots.size = xs.length := by rw [← Array.length_toList, hlist, List.length_map]
    have hval : ∀ j : Nat, j < xs.length → scr.slots[j]? = some (.int (xs.getD j 0)) := fun j hj => by
      rw [← Array.getElem?_toList, hlist]
      simp [hj]
    have hbl : b < s.heap.size := (Array.getElem?_eq_some_iff.mp hcb).1
    have hX : va_X b xs.length (fun j => xs.getD j 0) s s.heap := ⟨scr, hcb, hof, hkn, hsz, hval⟩
    have K : W p l e room_1 s m #[Value.ref b] below meth c s₁.heap [] 0 0 (lw_Z below #[Value.ref b] s) (entryFrame m ([Value.ref b] : List Value).toArray 14) := by
      rw [hh0]
      exact whole_start l hflags hbd ⟨B.exec, B.bytes, B.returns, hml, hown, hts, hX, hbl, B.notSynchronized, hgv⟩
    obtain ⟨t, a1, o, b1, b2, b3⟩ := K s₁ rfl X₀
    exact ⟨t, o, a1, b1, b2, b3⟩
theorem lw_pre_spec {args : Array Value} {s : State} (h : (Jvm.Cond.and given_1 narrow_1).before args s = true) (hr : rest_1_c.before args s = true) : ∃ (b : Addr) (xs : List Int32), lw_P b xs args s := by
  have hs := flat_of_before _ h
  have hq := flat_of_before _ hr
  have hc : (Cond.count 1).before args s = true := hs _ (by decide +kernel)
  have harr : (Cond.arrayOf (.arg 0) .int).before args s = true := hs _ (by decide +kernel)
  have hle : (Cond.le (.length (.arg 0)) (.int 260)).before args s = true := hs _ (by decide +kernel)
  have hlen : (Cond.isInt (.length (.arg 0))).before args s = true := hq _ (by decide +kernel)
  have hall : (Cond.all (.arg 0) (.isInt (.elem (.arg 0) (.index 0)))).before args s = true := hq _ (by decide +kernel)
  obtain ⟨b, xs, hb, hx⟩ := State.ints_of_pre rfl harr hlen hall
  have hsm : xs.length < 2 ^ 31 := hx.choose_spec.2.2.2
  have hev : (Term.length (.arg 0)).eval args s none [] s = some (.int xs.length.toInt32) := hx.length_eval hb
  have hv := Cond.le_ints hev (show (Term.int 260).eval args s none [] s = some (.int 260) from rfl)
  have hd : xs.length.toInt32 ≤ 260 := by
    simpa [Cond.before, Cond.holds, hv] using hle
  have hN : xs.length ≤ 260 := (Int32.ofNat_le_ofNat hsm (by decide)).mp (show Int32.ofNat xs.length ≤ Int32.ofNat 260 from hd)
  exact ⟨b, xs, Cond.one_arg hc (show args[0]? = some (.ref b) from hb), hx, hN, h⟩
theorem lw_comes (l : Launch) (hflags : l.flags = flags0) : Comes l x (Jvm.Cond.code x code maxLocals ret :: tables_1) room_1 (fun tb e args s => Calls_1 tb e args s ∧ rest_1 tb e args s ∧ Pre_1 tb e args s)
    (fun _ _ args s o t => lw_Q args s o t) := by
  intro p e ha hc hk s m args below hf hfit hheap happ hpre
  obtain ⟨b, xs, hP⟩ := lw_pre_spec hpre.2.2 hpre.2.1
  obtain ⟨k, o, h1, h2, h3, hQ⟩ := lw_walk l hflags b xs p e ha hc hk s m args below hf ((Spec.applies_iff_loose hf).mp happ).1 hP trivial
  exact ⟨k, o, h1, h2, h3, hQ⟩
theorem lw_frame {s t : State} {o : Outcome} {args : Array Value} (h : Framed s o t [] 600086 7301442) :
    Framed s o t (fieldLocs frame_1_writes args s ++ arrayLocs frame_1_arrays args s ++ staticLocs frame_1_statics s) 600086 7301442 := h
theorem lw_limb (L : Cond) (hL : ∀ (args : Array Value) (s t : State), L.after args s (.returned (some (.int 1))) t = true) :
    ArmFor flags0 classFile x code maxLocals ret World_1 tables_1 room_1 Calls_1 rest_1 Pre_1
      (fun tb e a s o t => postC L tb e a s o t ∧ Framed s o t (fieldLocs frame_1_writes a s ++ arrayLocs frame_1_arrays a s ++ staticLocs frame_1_statics s) 600086 7301442) := by
  intro l hflags _ _ p e ha hc hk s m args below hf hfit hheap happ hpre
  obtain ⟨k, o, h1, h2, h3, rfl, hF⟩ := lw_comes l hflags p e ha hc hk s m args below hf hfit hheap happ hpre
  exact ⟨k, _, h1, h2, h3, hL args s _, lw_frame hF⟩
theorem i_vc : Claimed_1_1 ∧ Claimed_1_2 := ⟨lw_limb limb_1_1 (fun args s t => by simp [limb_1_1, Cond.after, Cond.holds, Cond.value]), lw_limb limb_1_2 (fun args s t => Cond.after_iff.mpr (by
  first | (rw [show limb_1_2 = Cond.eq .result (.int 1) from rfl, Cond.eq_ints (x := 1) (y := 1) rfl rfl]; simp; done) | (simp [limb_1_2, Cond.value, Term.eval]; done)))⟩
