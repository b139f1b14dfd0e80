/-! rows for the JDK's texts: constants, static fields, rows of bytes, a superclass's own method -/
def mmMSu (own : String) (idx : Nat) (B' : mmB) : Prop := Cond.methodLink own idx B'.1 ∈ mm_tbl ∧ Cond.sameMethod B'.1.cls B'.1.cls B'.1.name B'.1.desc ∈ mm_tbl ∧ Cond.superclass own B'.1.cls ∈ mm_tbl ∧ Cond.instanceMethod B'.1 ∈ mm_tbl ∧ B'.1.name ≠ "<init>"
def mmMO (own : String) (idx : Nat) (C owner : String) (x : MethodName) (B' : mmB) : Prop := Cond.methodLink own idx x ∈ mm_tbl ∧ Cond.sameMethod x.cls owner x.name x.desc ∈ mm_tbl ∧ Cond.instanceMethod ⟨owner, x.name, x.desc⟩ ∈ mm_tbl ∧ Cond.selects C x B'.1 ∈ mm_tbl ∧ Cond.instanceMethod B'.1 ∈ mm_tbl ∧ (∃ b0 m0 r0, Cond.code ⟨owner, x.name, x.desc⟩ b0 m0 r0 ∈ mm_tbl) ∧ owner ≠ "java/lang/invoke/MethodHandle" ∧ owner ≠ "java/lang/invoke/VarHandle" ∧ x.desc = B'.1.desc
theorem byte_all : ∀ n, n < 128 → (Int32.ofInt (n : Nat)).toInt8.toInt32 = Int32.ofInt (n : Nat) ∧ narrow .byte (.int (Int32.ofInt (n : Nat))) = .int (Int32.ofInt (n : Nat)) ∧ fits .byte (.int (Int32.ofInt (n : Nat))) = true := by decide +kernel
theorem char_all : ∀ n, n < 256 → ((Int32.ofInt (n : Nat)).toUInt32 % 65536).toInt32 = Int32.ofInt (n : Nat) := by decide +kernel
theorem byte_ok {x : Int} (h : 0 ≤ x ∧ x ≤ 127) : (Int32.ofInt x).toInt8.toInt32 = Int32.ofInt x ∧ narrow .byte (.int (Int32.ofInt x)) = .int (Int32.ofInt x) ∧ fits .byte (.int (Int32.ofInt x)) = true := by
  have h2 := byte_all x.toNat (by omega)
  rwa [Int.toNat_of_nonneg h.1] at h2
theorem char_ok {x : Int} (h : 0 ≤ x ∧ x ≤ 255) : ((Int32.ofInt x).toUInt32 % 65536).toInt32 = Int32.ofInt x := by
  have h2 := char_all x.toNat (by omega)
  rwa [Int.toNat_of_nonneg h.1] at h2
section MMjr
variable {B : mmB} {d kc ks : Nat} {Q : mmQ} {pc : Nat} {lc st : List mmV} {sh : mmS} {mem : mmM}
theorem st_i2b {x : Int} (hx : 0 ≤ x ∧ x ≤ 127) (hd : decode B.2.1 pc = .ok (.i2b, 1)) (k : mmT B d kc ks Q (pc + 1) lc ((0, x) :: st) sh mem) : mmT B d kc ks Q pc lc ((0, x) :: st) sh mem :=
  fun p l e R s m args below meth c G H locs cells slots ls X => lv_i2b X.1.1 X.1.2.1 hd (byte_ok hx).1 (k p l e R s m args below meth c G H locs cells slots ls X)
theorem st_i2c {x : Int} (hx : 0 ≤ x ∧ x ≤ 255) (hd : decode B.2.1 pc = .ok (.i2c, 1)) (k : mmT B d kc ks Q (pc + 1) lc ((0, x) :: st) sh mem) : mmT B d kc ks Q pc lc ((0, x) :: st) sh mem :=
  fun p l e R s m args below meth c G H locs cells slots ls X => lv_i2c X.1.1 X.1.2.1 hd (char_ok hx) (k p l e R s m args below meth c G H locs cells slots ls X)
/-! static fields -/
theorem st_getCompact {idx : Nat} (hl : Cond.fieldLink B.1.cls idx "java/lang/String" "COMPACT_STRINGS" "Z" ∈ mm_tbl) (hd : decode B.2.1 pc = .ok (.getstatic idx, 3)) (k : mmT B d kc ks Q (pc + 3) lc ((0, 1) :: st) sh mem) : mmT B d kc ks Q pc lc st sh mem :=
  fun p l e R s m args below meth c G H locs cells slots ls X => va_gets X.1.1 X.1.2.1 X.2.2.2.2.2.2.2.2.2.2.2.1 X.2.2.1 X.1.2.2.2.2.1 (X.1.2.2.2.2.2.1 _ hl) (fun _ h => h) hd (k p l e R s m args below meth c G H locs cells slots ls X)
theorem st_getOnes {idx : Nat} (hl : Cond.fieldLink B.1.cls idx "java/lang/Integer" "DigitOnes" "[B" ∈ mm_tbl) (hd : decode B.2.1 pc = .ok (.getstatic idx, 3)) (k : mmT B d kc ks Q (pc + 3) lc ((4, 20) :: st) sh mem) : mmT B d kc ks Q pc lc st sh mem :=
  fun p l e R s m args below meth c G H locs cells slots ls X => va_gets X.1.1 X.1.2.1 X.2.2.2.2.2.2.2.2.2.2.2.2.1.1 X.2.2.1 X.1.2.2.2.2.1 (X.1.2.2.2.2.2.1 _ hl) (fun _ h => h) hd (k p l e R s m args below meth c G H locs cells slots ls X)
theorem st_getTens {idx : Nat} (hl : Cond.fieldLink B.1.cls idx "java/lang/Integer" "DigitTens" "[B" ∈ mm_tbl) (hd : decode B.2.1 pc = .ok (.getstatic idx, 3)) (k : mmT B d kc ks Q (pc + 3) lc ((4, 21) :: st) sh mem) : mmT B d kc ks Q pc lc st sh mem :=
  fun p l e R s m args below meth c G H locs cells slots ls X => va_gets X.1.1 X.1.2.1 X.2.2.2.2.2.2.2.2.2.2.2.2.2.1.1 X.2.2.1 X.1.2.2.2.2.1 (X.1.2.2.2.2.2.1 _ hl) (fun _ h => h) hd (k p l e R s m args below meth c G H locs cells slots ls X)
theorem st_getForm {idx : Nat} (hl : Cond.fieldLink B.1.cls idx fmC "SIOOBE_FORMATTER" fmD ∈ mm_tbl) (hd : decode B.2.1 pc = .ok (.getstatic idx, 3)) (k1 : mmT B d kc ks Q (pc + 3) lc ((2, -1) :: st) sh mem) (k2 : mmT B d kc ks Q (pc + 3) lc ((4, 22) :: st) sh mem) : mmT B d kc ks Q pc lc st sh mem := by
  intro p l e R s m args below meth c G H locs cells slots ls X
  rcases X.2.2.2.2.2.2.2.2.2.2.2.2.2.2 with h | h
  · exact va_gets X.1.1 X.1.2.1 h X.2.2.1 X.1.2.2.2.2.1 (X.1.2.2.2.2.2.1 _ hl) (fun _ h => h) hd (k1 p l e R s m args below meth c G H locs cells slots ls X)
  · exact va_gets X.1.1 X.1.2.1 h X.2.2.1 X.1.2.2.2.2.1 (X.1.2.2.2.2.2.1 _ hl) (fun _ h => h) hd (k2 p l e R s m args below meth c G H locs cells slots ls X)
theorem st_ldcK {i : Nat} {r : Int} (hi : i < 5) (hr : r = ((2 * i : Nat) : Int)) (hB : B.1.cls = RL) (hd : decode B.2.1 pc = .ok (.ldc (kIx i), 2)) (k : mmT B d kc ks Q (pc + 2) lc ((4, r) :: st) sh mem) : mmT B d kc ks Q pc lc st sh mem := by
  intro p l e R s m args below meth c G H locs cells slots ls X
  subst hr
  have h := k p l e R s m args below meth c G H locs cells slots ls X
  have hZ := X.1.2.2.2.2.2.2.2.2.2.2.1 i hi
  rw [← hB] at hZ
  exact va_ldcS X.1.1 X.1.2.1 X.1.2.2.2.2.1 hZ hd h
/-! rows of digits -/
theorem st_balOnes {i : Int} (h : 0 ≤ i ∧ i < 100) (hd : decode B.2.1 pc = .ok (.baload, 1)) (k : mmT B d kc ks Q (pc + 1) lc ((0, 48 + i % 10) :: st) sh mem) : mmT B d kc ks Q pc lc ((0, i) :: (4, 20) :: st) sh mem := by
  intro p l e R s m args below meth c G H locs cells slots ls X
  obtain ⟨v1, v2⟩ := mm_idx (n := 100) h.1 h.2 (by decide)
  have ed : dgO (Int32.ofInt i).toNatClampNeg = Int32.ofInt (48 + i % 10) := by
    unfold dgO
    rw [show Int32.ofNat (48 + (Int32.ofInt i).toNatClampNeg % 10) = Int32.ofInt ((48 + (Int32.ofInt i).toNatClampNeg % 10 : Nat) : Int) from rfl]
    congr 1
    omega
  exact va_tb X.1.1 X.1.2.1 X.2.2.2.2.2.2.2.2.2.2.2.2.1.2 X.2.2.1 v1 (congrArg Value.int ed) hd (k p l e R s m args below meth c G H locs cells slots ls X)
theorem st_balTens {i : Int} (h : 0 ≤ i ∧ i < 100) (hd : decode B.2.1 pc = .ok (.baload, 1)) (k : mmT B d kc ks Q (pc + 1) lc ((0, 48 + i / 10) :: st) sh mem) : mmT B d kc ks Q pc lc ((0, i) :: (4, 21) :: st) sh mem := by
  intro p l e R s m args below meth c G H locs cells slots ls X
  obtain ⟨v1, v2⟩ := mm_idx (n := 100) h.1 h.2 (by decide)
  have ed : dgT (Int32.ofInt i).toNatClampNeg = Int32.ofInt (48 + i / 10) := by
    unfold dgT
    rw [show Int32.ofNat (48 + (Int32.ofInt i).toNatClampNeg / 10) = Int32.ofInt ((48 + (Int32.ofInt i).toNatClampNeg / 10 : Nat) : Int) from rfl]
    congr 1
    omega
  exact va_tb X.1.1 X.1.2.1 X.2.2.2.2.2.2.2.2.2.2.2.2.2.1.2 X.2.2.1 v1 (congrArg Value.int ed) hd (k p l e R s m args below meth c G H locs cells slots ls X)
/-! rows of bytes in cells -/
theorem st_balB {n : Nat} {r i : Int} (a : Nat) (hr : r = (a : Int)) (hs : sh.2[a]? = some (25, n)) (hn : n < 2147483648) (h1 : 0 ≤ i) (h2 : i < n) (hd : decode B.2.1 pc = .ok (.baload, 1)) (kk : mmT B d kc ks Q (pc + 1) lc ((0, mem a i) :: st) sh mem) : mmT B d kc ks Q pc lc ((0, i) :: (2, r) :: st) sh mem := by
  intro p l e R s m args below meth c G H locs cells slots ls X
  have h := kk p l e R s m args below meth c G H locs cells slots ls X
  obtain ⟨v1, v2⟩ := mm_read (t := 25) (G := G) (f := fun j => mmEnc G (mm_at 25, mem a j)) (g := fun j => mmEnc G (0, mem a j)) (fun _ => rfl) h1 h2 hn
  show W p l e R s m args below meth c H locs cells slots _ (F0 m pc ls (.int (Int32.ofInt i) :: va_rf (mmRf G r) :: st.map (mmEnc G)))
  rw [mmR_rfl hr]
  exact W.bald X.1.1 X.1.2.1 (mm_arr X.2.1 hs (by decide)) ((mm_kind X.2.1).2.2.2.2.2.1 _ _) (fun q => by cases q) v1 v2 rfl rfl hd h
theorem st_bastB {n : Nat} {r i v : Int} (a : Nat) (hf : sh.1 = true) (hv : 0 ≤ v ∧ v ≤ 127) (hr : r = (a : Int)) (hs : sh.2[a]? = some (25, n)) (hn : n < 2147483648) (h1 : 0 ≤ i) (h2 : i < n) (hd : decode B.2.1 pc = .ok (.bastore, 1)) (kk : mmT B d kc ks Q (pc + 1) lc st sh (mset mem a i v)) : mmT B d kc ks Q pc lc ((0, v) :: (0, i) :: (2, r) :: st) sh mem := by
  have hfx : sh.1 = false → fixOK a i = true := fun h => by rw [hf] at h; cases h
  have hcv : (mTag (25, n) i = 0 → R32 v) ∧ (mTag (25, n) i = 1 → R64 v) := ⟨fun _ => by omega, fun h => by cases h⟩
  intro p l e R s m args below meth c G H locs cells slots ls X
  obtain ⟨v1, v2⟩ := mm_read (t := 25) (G := G) (f := fun j => mmEnc G (mm_at 25, mem a j)) (g := fun j => mmEnc G (0, mem a j)) (fun _ => rfl) h1 h2 hn
  show W p l e R s m args below meth c H locs cells slots _ (F0 m pc ls (.int (Int32.ofInt v) :: .int (Int32.ofInt i) :: va_rf (mmRf G r) :: st.map (mmEnc G)))
  rw [mmR_rfl hr]
  exact W.bast X.1.1 X.1.2.1 (mm_arr X.2.1 hs (by decide)) ((mm_kind X.2.1).2.2.2.2.2.1 _ _) (fun q => by cases q) v1 rfl rfl hd (fun H1 g1 g2 g3 => kk p l e R s m args below meth c G H1 _ cells slots ls (mmX_put X hfx hcv hs (mm_stored h1 h2 hn (by decide) (byte_ok hv).2.1 g1) g2 g3))
theorem st_newB {L : List (Nat × Nat)} {n : Nat} {r : Int} (hw : Cond.arrayClass .byte ∈ mm_tbl) (hr : r = (n : Int)) (hn : n ≤ 5000) (hl : L.length + 1 ≤ 999) (hd : decode B.2.1 pc = .ok (.newarray .byte, 2)) (k : mmT B d kc ks Q (pc + 2) lc ((2, (L.length : Int)) :: st) (true, L ++ [(25, n)]) (mrow mem L.length (fun _ => 0))) : mmT B d (kc + 1) (ks + n) Q pc lc ((0, r) :: st) (true, L) mem := by
  intro p l e R s m args below meth c G H locs cells slots ls X
  subst hr
  have hts := X.1.2.2.2.2.2.1
  have b1 := X.2.2.2.2.2.1
  have b2 := X.2.2.2.2.2.2.1
  have e0 : (Int32.ofInt (n : Int)).toInt = n := by rw [w32_toInt, w32_id (by omega) (by omega)]
  have e1 : (Int32.ofInt (n : Int)).toNatClampNeg = n := by
    rw [← Int32.toNat_toInt, e0]
    omega
  have e2 : ¬ Int32.ofInt (n : Int) < 0 := by
    rw [Int32.lt_iff_toInt_lt, e0]
    have : (0 : Int32).toInt = 0 := rfl
    omega
  have hs := X.2.1.1 rfl
  dsimp only at hs
  have hcb : n * componentBytes (newarray.typeOf .byte) ≤ 536870912 := by
    show n * 1 ≤ _
    omega
  refine va_newaK (atype := .byte) (n := Int32.ofInt (n : Int)) (N := n) X.1.1 X.1.2.1 (hts _ hw) rfl hd rfl e2 e1 hcb (by omega) (by omega) hs fun H1 cA g1 g2 g3 g4 g5 => ?_
  have hcA : cA = G.2.2.1 25 := Option.some.inj (g5.symm.trans (X.2.1.2.1.2 5 _ rfl).2)
  subst hcA
  have hh := k p l e R s m args below meth c G H1 locs (cells + 1) (slots + n) ls (mmX_new X ?_ (by rw [g2, hs]) (by rw [hs]; exact g3) hl (fun k => mCan_const (25, n) 0 (Or.inl rfl) k))
  · rw [List.map_cons, mm_top X.2.1, hs] at hh
    exact hh
  · exact mm_arrNew (ty := .byte) (by omega) rfl g1
/-- a superclass's own method, on this -/
theorem st_callSu {B' : mmB} {idx d' kc' ks' kc2 ks2 N n : Nat} {r : Int} {stk av : List mmV} {Qc : mmQ} (a ci : Nat) (hm : mmMSu B.1.cls idx B') (ho : mmOK B' n) (hC : mmC B' d' kc' ks' ((2, r) :: av) sh mem Qc) (hr : r = (a : Int)) (hs : sh.2[a]? = some (ci, N)) (hc : ci < 20) (hci : ci < 13) (hn : av.length = n) (hst : stk = av.reverse ++ (2, r) :: st) (hd' : d' + 1 ≤ d) (hkc : kc' + kc2 ≤ kc) (hks : ks' + ks2 ≤ ks) (hcat : mmCat st ≤ 8) (hd : decode B.2.1 pc = .ok (.invokespecial idx, 3))
    (kk : ∀ (r : Option mmV) (sh' : mmS) (mem' : mmM), Qc r sh' mem' → mmT B d kc2 ks2 Q (pc + 3) lc (r.toList ++ st) sh' mem') : mmT B d kc ks Q pc lc stk sh mem := by
  intro p l e R s m args below meth c G H locs cells slots ls X
  subst hst
  have hq1 : ∃ q, vwCl[ci]? = some q := ⟨_, List.getElem?_eq_getElem (by simpa [vwCl] using hci)⟩
  obtain ⟨q, hq1⟩ := hq1
  have hrecv := mm_recv X.2.1 hs hc hq1
  have hM := hC l G X.2.2.2.2.2.2.2.2.2.1
  have hgood : GoodIn mm_tbl (va_wsSU B.1.cls idx B'.1 (Cond.code B'.1 B'.2.1 B'.2.2.1 B'.2.2.2 :: mm_tbl)) := mm_good fun w hw => by
    unfold va_wsSU at hw
    simp only [List.mem_append, List.mem_cons, List.not_mem_nil, or_false] at hw
    rcases hw with (rfl | rfl | rfl | rfl | rfl) | rfl | hw
    · exact hm.1
    · exact hm.2.1
    · exact hm.2.2.1
    · exact hm.2.2.2.1
    · exact ho.2.1
    · exact ho.1
    · exact hw
  refine mm_goes (Qc := Qc) (mc := kc') (ms := ks') (a := (Value.ref (mmAt G a) :: av.map (mmEnc G)).toArray) X hkc hks ?_ kk
  rw [mm_stk G hr]
  refine va_runSU (Pc := mmPre G ((2, r) :: av) sh mem) (C := q.1) (As := av.map (mmEnc G)) (b := mmAt G a) (X.2.1.2.1.1 ci _ hq1).2 (mm_fix X) hM (va_cwSU n X.1.2.2.2.2.2.1 hgood rfl rfl rfl ⟨hm.2.2.2.2, ho.2.2.1.2.2⟩ (mm_room X hd' ho.2.2.2.1)) ⟨mm_blind, hrecv, fun U hU hW => ⟨by rw [mm_map1 G hr], by rw [hU]; exact X.2.1.moved hW.alike, X.1.2.2.2.2.2.2.2.2.warm hW, by rw [hU]; exact (X.2.2.2.2.2.2.2.2.2.2.moved hW.alike).kept X.2.2.1.2.1⟩⟩ rfl (by rw [List.length_map]; exact hn) ?_ rfl (lv_room (by rw [mmCat_enc]; exact hcat)) hd ⟨?_, ?_⟩
  · obtain ⟨lv, h1, -⟩ := X.2.2.2.2.1
    exact h1.1
  · have := X.2.2.2.2.2.1
    omega
  · have := X.2.2.2.2.2.2.1
    omega
theorem st_callO {B' : mmB} {idx d' kc' ks' kc2 ks2 N n : Nat} {r : Int} {stk av : List mmV} {Qc : mmQ} (C owner : String) (x : MethodName) (a ci : Nat) (hm : mmMO B.1.cls idx C owner x B') (ho : mmOK B' n) (hC : mmC B' d' kc' ks' ((2, r) :: av) sh mem Qc) (hr : r = (a : Int)) (hs : sh.2[a]? = some (ci, N)) (hc : ∃ q, vwCl[ci]? = some q ∧ q.1 = C ∧ ci < 20) (hn : av.length = n) (hst : stk = av.reverse ++ (2, r) :: st) (hd' : d' + 1 ≤ d) (hkc : kc' + kc2 ≤ kc) (hks : ks' + ks2 ≤ ks) (hcat : mmCat st ≤ 8) (hd : decode B.2.1 pc = .ok (.invokevirtual idx, 3))
    (kk : ∀ (r : Option mmV) (sh' : mmS) (mem' : mmM), Qc r sh' mem' → mmT B d kc2 ks2 Q (pc + 3) lc (r.toList ++ st) sh' mem') : mmT B d kc ks Q pc lc stk sh mem := by
  intro p l e R s m args below meth c G H locs cells slots ls X
  subst hst
  obtain ⟨q, hq1, hq2, hq3⟩ := hc
  have hrecv := mm_recv X.2.1 hs hq3 hq1
  rw [hq2] at hrecv
  have hM := hC l G X.2.2.2.2.2.2.2.2.2.1
  obtain ⟨m1, m2, m3, m4, m5, ⟨b0, m0, r0, hcode⟩, m6, m7, m8⟩ := hm
  have hgood : GoodIn mm_tbl (va_wsO B.1.cls idx C owner x B'.1 (Cond.code B'.1 B'.2.1 B'.2.2.1 B'.2.2.2 :: mm_tbl)) := mm_good fun w hw => by
    unfold va_wsO at hw
    simp only [List.mem_append, List.mem_cons, List.not_mem_nil, or_false] at hw
    rcases hw with (rfl | rfl | rfl | rfl | rfl | rfl) | rfl | hw
    · exact m1
    · exact m2
    · exact m3
    · exact m4
    · exact m5
    · exact ho.2.1
    · exact ho.1
    · exact hw
  have hdd : owner ≠ "java/lang/invoke/MethodHandle" ∧ owner ≠ "java/lang/invoke/VarHandle" ∧ (parseMethodDescriptor x.desc).map (fun d => d.parameters.length) = some n := ⟨m6, m7, by rw [m8]; exact ho.2.2.1.2.2⟩
  have cw : va_CU R s args B.1.cls C owner idx x B'.1 B'.2.1 B'.2.2.1 B'.2.2.2 (Cond.code B'.1 B'.2.1 B'.2.2.1 B'.2.2.2 :: mm_tbl) ({ frames := d', cells := kc', slots := ks', locals := 64 * d' } : Room) kc' ks' n := va_cwO n X.1.2.2.2.2.2.1 hgood rfl rfl rfl hcode hdd (mm_room X hd' ho.2.2.2.1)
  refine mm_goes (Qc := Qc) (mc := kc') (ms := ks') (a := (Value.ref (mmAt G a) :: av.map (mmEnc G)).toArray) X hkc hks ?_ kk
  rw [mm_stk G hr]
  refine va_runU (Pc := mmPre G ((2, r) :: av) sh mem) (C := C) (As := av.map (mmEnc G)) (b := mmAt G a) (mm_fix X) hM cw ⟨mm_blind, hrecv, fun U hU hW => ⟨by rw [mm_map1 G hr], by rw [hU]; exact X.2.1.moved hW.alike, X.1.2.2.2.2.2.2.2.2.warm hW, by rw [hU]; exact (X.2.2.2.2.2.2.2.2.2.2.moved hW.alike).kept X.2.2.1.2.1⟩⟩ rfl (by rw [List.length_map]; exact hn) ?_ rfl (lv_room (by rw [mmCat_enc]; exact hcat)) hd ⟨?_, ?_⟩
  · obtain ⟨lv, h1, -⟩ := X.2.2.2.2.1
    exact h1.1
  · have := X.2.2.2.2.2.1
    omega
  · have := X.2.2.2.2.2.2.1
    omega
end MMjr
