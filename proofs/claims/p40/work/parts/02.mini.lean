/-! THE SMALL MACHINE: numbers instead of cells. A value is (kind, number): 0 an int, 1 a long, 2 a reference (a place in the list of cells, or -1: null), 3 the script; 9: nothing is said. What an int is, is its number going round. -/
/-- a whole number that an int (a long) can be -/
abbrev R32 (z : Int) : Prop := -2147483648 ≤ z ∧ z < 2147483648
abbrev R64 (z : Int) : Prop := -9223372036854775808 ≤ z ∧ z < 9223372036854775808
abbrev mmV : Type := Nat × Int
abbrev mmM : Type := Nat → Int → Int
abbrev mmS : Type := Bool × List (Nat × Nat)
abbrev mmB : Type := MethodName × ByteArray × Nat × Option FieldType
/-- the script's address, the first base; the classes; the second base, a hole (from, to); the constants' addresses -/
abbrev mmG : Type := (Nat × Nat) × va_G × (Nat → ClassId) × (Nat × Nat × Nat) × (Nat → Nat)
/-- the address of cell k -/
def mmAt (G : mmG) (k : Nat) : Nat := if k < 65 then G.1.2 + k else G.2.2.2.1.1 + (k - 65)
abbrev mmQ : Type := Option mmV → mmS → mmM → Prop
def w32 (z : Int) : Int := (z + 2147483648) % 4294967296 - 2147483648
def w64 (z : Int) : Int := (z + 9223372036854775808) % 18446744073709551616 - 9223372036854775808
theorem w32_toInt (z : Int) : (Int32.ofInt z).toInt = w32 z := by
  rw [Int32.toInt_ofInt, Int.bmod_def]
  unfold w32
  simp only [Int32.size]
  split <;> omega
theorem w64_toInt (z : Int) : (Int64.ofInt z).toInt = w64 z := by
  rw [Int64.toInt_ofInt, Int.bmod_def]
  unfold w64
  simp only [Int64.size]
  split <;> omega
theorem w32_id {z : Int} (h1 : -2147483648 ≤ z) (h2 : z < 2147483648) : w32 z = z := by unfold w32; omega
theorem w64_id {z : Int} (h1 : -9223372036854775808 ≤ z) (h2 : z < 9223372036854775808) : w64 z = z := by unfold w64; omega
theorem w32_rng (z : Int) : -2147483648 ≤ w32 z ∧ w32 z < 2147483648 := by unfold w32; omega
theorem w64_rng (z : Int) : -9223372036854775808 ≤ w64 z ∧ w64 z < 9223372036854775808 := by unfold w64; omega
theorem w32_ofInt (z : Int) : Int32.ofInt (w32 z) = Int32.ofInt z := by rw [← w32_toInt, Int32.ofInt_toInt]
theorem w64_ofInt (z : Int) : Int64.ofInt (w64 z) = Int64.ofInt z := by rw [← w64_toInt, Int64.ofInt_toInt]
def and32 (x y : Int) : Int := (Int32.ofInt x &&& Int32.ofInt y).toInt
def or32 (x y : Int) : Int := (Int32.ofInt x ||| Int32.ofInt y).toInt
def xor32 (x y : Int) : Int := (Int32.ofInt x ^^^ Int32.ofInt y).toInt
def shl32 (x y : Int) : Int := (Int32.ofInt x <<< (Int32.ofInt y &&& 31)).toInt
def shr32 (x y : Int) : Int := (Int32.ofInt x >>> (Int32.ofInt y &&& 31)).toInt
def ushr32 (x y : Int) : Int := (((Int32.ofInt x).toUInt32 >>> ((Int32.ofInt y).toUInt32 &&& Int32.toUInt32 31)).toInt32).toInt
def div32 (x y : Int) : Int := (Int32.ofInt x / Int32.ofInt y).toInt
def rem32 (x y : Int) : Int := (Int32.ofInt x - Int32.ofInt x / Int32.ofInt y * Int32.ofInt y).toInt
def and64 (x y : Int) : Int := (Int64.ofInt x &&& Int64.ofInt y).toInt
def or64 (x y : Int) : Int := (Int64.ofInt x ||| Int64.ofInt y).toInt
def div64 (x y : Int) : Int := (Int64.ofInt x / Int64.ofInt y).toInt
def rem64 (x y : Int) : Int := (Int64.ofInt x - Int64.ofInt x / Int64.ofInt y * Int64.ofInt y).toInt
def shl64 (x y : Int) : Int := (Int64.ofInt x <<< ((Int32.ofInt y).toInt64 &&& 63)).toInt
def ushr64 (x y : Int) : Int := (((Int64.ofInt x).toUInt64 >>> ((Int32.ofInt y).toInt64.toUInt64 &&& Int64.toUInt64 63)).toInt64).toInt
def cmp64 (x y : Int) : Int := if w64 y < w64 x then 1 else if w64 x = w64 y then 0 else -1
/-- which method a StringBuilder's own superclass means by a private name: as its word says that it is private -/
def jvPriv : List Cond := [.selects RJ4 yJ5_ensureCapacityInternal_d00df yJ5_ensureCapacityInternal_d00df, .selects RJ4 yJ5_newCapacity_0f7a4 yJ5_newCapacity_0f7a4, .selects RJ4 yJ5_putStringAt_47b60 yJ5_putStringAt_47b60, .selects RJ4 yJ5_inflateIfNeededFor_a7421 yJ5_inflateIfNeededFor_a7421]
def mm_tbl : List Cond := (lw_tbl ++ jvPriv).filter goodWord
def mm_clTy : Nat → Nat → FieldType := fun ci k => match ci with
  | 0 => tyX0 k
  | 1 => tyX1 k
  | 2 => tyX2 k
  | 3 => tyX3 k
  | 4 => tyX4 k
  | 5 => tyX5 k
  | 6 => tyX6 k
  | 7 => tyX7 k
  | 8 => tyX8 k
  | 9 => tyX9 k
  | 10 => tyX11 k
  | 11 => tyJ0 k
  | _ => tyJ4 k
def mm_tg : FieldType → Nat := fun t => match t with
  | .long => 1
  | .object _ => 2
  | .array _ => 2
  | _ => 0
def mmRf (G : mmG) (i : Int) : Option Nat := if i < 0 then none else some (mmAt G i.toNat)
def mmEnc (G : mmG) (v : mmV) : Value := match v.1 with
  | 0 => .int (Int32.ofInt v.2)
  | 1 => .long (Int64.ofInt v.2)
  | 2 => va_rf (mmRf G v.2)
  | 3 => .ref G.1.1
  | _ => .ref (G.2.2.2.2 v.2.toNat)
/-- the cells' kinds: below 20 an object of that class; 20 int[], 21 long[], 22 boolean[], 23 Law[], 24 long[][], 25 byte[], 26 int[][] -/
def mmA (G : mmG) (t : Nat) (f : Int → Int) : (Nat → Int32) ⊕ (Nat → Int64) ⊕ (Nat → UInt32) ⊕ (Nat → UInt64) ⊕ (Nat → Option Nat) :=
  if t = 20 ∨ t = 22 ∨ t = 25 then .inl (fun j => Int32.ofInt (f j)) else if t = 21 then .inr (.inl (fun j => Int64.ofInt (f j))) else .inr (.inr (.inr (.inr (fun j => mmRf G (f j)))))
def mmFs (G : mmG) (ci N : Nat) (f : Int → Int) : List Value := (List.range N).map fun j => mmEnc G (mm_tg (mm_clTy ci j), f j)
def mmE (G : mmG) (q : Nat × Nat) (f : Int → Int) : va_E := if q.1 < 20 then .inr (q.1, mmFs G q.1 q.2 f) else .inl (G.2.2.1 q.1, q.2, mmA G q.1 f)
def mmW (G : mmG) (sh : List (Nat × Nat)) (mem : mmM) : va_W := (List.range sh.length).map fun k => (mmAt G k, mmE G (sh.getD k (0, 0)) (mem k))
def mmTys (G : mmG) : List (ClassId × FieldType) := [(G.2.2.1 20, .int), (G.2.2.1 21, .long), (G.2.2.1 22, .boolean), (G.2.2.1 23, .object "SheSays$Law"), (G.2.2.1 24, .array .long), (G.2.2.1 25, .byte), (G.2.2.1 26, .array .int)]
def mm_at (t : Nat) : Nat := if t = 20 ∨ t = 22 ∨ t = 25 then 0 else if t = 21 then 1 else 2
def mTag (q : Nat × Nat) (k : Int) : Nat := if q.1 < 20 then mm_tg (mm_clTy q.1 k.toNat) else mm_at q.1
def mCan (sh : List (Nat × Nat)) (mem : mmM) : Prop := (∀ (a : Nat) (q : Nat × Nat) (k : Int), sh[a]? = some q → (mTag q k = 0 → R32 (mem a k)) ∧ (mTag q k = 1 → R64 (mem a k))) ∧ ∀ k, R32 (mem 999 k)
def mmAd (G : mmG) : Nat → Prop := fun q => G.1.2 ≤ q ∧ ¬ (G.2.2.2.1.2.1 ≤ q ∧ q < G.2.2.2.1.2.2)
/-- the law's own String constants -/
def kLen : List Nat := [0, 1, 4, 4, 12]
def kByt : List (List Int32) := [[], [44], [121, 58, 99, 42], [121, 58, 103, 62], [63, 108, 59, 121, 58, 115, 42, 50, 45, 109, 42, 57]]
def kIx (i : Nat) : Nat := [44, 57, 92, 94, 96].getD i 0
def kTx (i : Nat) : String := ["", ",", "y:c*", "y:g>", "?l;y:s*2-m*9"].getD i ""
def dgO (j : Nat) : Int32 := Int32.ofNat (48 + j % 10)
def dgT (j : Nat) : Int32 := Int32.ofNat (48 + j / 10)
def fmC : String := "jdk/internal/util/Preconditions"
def fmD : String := "Ljava/util/function/BiFunction;"
/-- what static fields and constants hold; nobody writes them -/
def mmSF (G : mmG) (U : State) (H : Heap) : Prop := vk_S 5 kLen kByt (fun i => G.2.2.2.2 (2 * i)) (fun i => G.2.2.2.2 (2 * i + 1)) (mmAd G) U H ∧ va_Z "java/lang/String" "COMPACT_STRINGS" "Z" (.int 1) (mmAd G) U H ∧ (va_Z "java/lang/Integer" "DigitOnes" "[B" (.ref (G.2.2.2.2 20)) (mmAd G) U H ∧ va_T .byte (G.2.2.2.2 20) 100 (fun j => .int (dgO j)) (mmAd G) U H) ∧ (va_Z "java/lang/Integer" "DigitTens" "[B" (.ref (G.2.2.2.2 21)) (mmAd G) U H ∧ va_T .byte (G.2.2.2.2 21) 100 (fun j => .int (dgT j)) (mmAd G) U H) ∧ (va_Z fmC "SIOOBE_FORMATTER" fmD .null (mmAd G) U H ∨ va_Z fmC "SIOOBE_FORMATTER" fmD (.ref (G.2.2.2.2 22)) (mmAd G) U H)
theorem mmSF.moved {G : mmG} {u U : State} {H : Heap} (hvm : u.vm.Alike U.vm) (h : mmSF G u H) : mmSF G U H := ⟨h.1.moved hvm, h.2.1.moved hvm, ⟨h.2.2.1.1.moved hvm, h.2.2.1.2.moved hvm⟩, ⟨h.2.2.2.1.1.moved hvm, h.2.2.2.1.2.moved hvm⟩, h.2.2.2.2.imp (va_Z.moved hvm) (va_Z.moved hvm)⟩
theorem mmSF.kept {G : mmG} {U : State} {H H1 : Heap} (h : mmSF G U H) (hq : ∀ a : Nat, a < H.size → ¬ mmAd G a → H1[a]? = H[a]?) : mmSF G U H1 := ⟨h.1.kept hq, h.2.1.kept hq, ⟨h.2.2.1.1.kept hq, h.2.2.1.2.kept hq⟩, ⟨h.2.2.2.1.1.kept hq, h.2.2.2.1.2.kept hq⟩, h.2.2.2.2.imp (fun w => va_Z.kept w hq) (fun w => va_Z.kept w hq)⟩
/-- the room's two bases, and the hole: no cell beyond the first ones where there is one -/
def mmHo (G : mmG) (n : Nat) (b : Bool) (z : Nat) : Prop := G.1.2 + 65 ≤ G.2.2.2.1.1 ∧ (b = true → n < 65 → G.2.2.2.1.1 = G.1.2 + 65) ∧ (G.2.2.2.1.2.2 ≤ G.2.2.2.1.2.1 ∨ (G.1.2 + 65 ≤ G.2.2.2.1.2.1 ∧ G.2.2.2.1.2.2 ≤ z ∧ (n ≤ 65 ∨ G.2.2.2.1.2.2 ≤ G.2.2.2.1.1) ∧ (b = true → G.2.2.2.1.2.2 ≤ G.2.2.2.1.1)))
def mmR (G : mmG) (sh : mmS) (mem : mmM) (U : State) (H : Heap) : Prop :=
  (sh.1 = true → H.size = mmAt G sh.2.length) ∧ va_K G.2.1 vwCl (mmTys G) U ∧ va_P G.2.1 vwCl (mmW G sh.2 mem) H ∧ (va_X G.1.1 (mem 999 (-1)).toNat (fun j => Int32.ofInt (mem 999 j)) U H ∧ mmHo G sh.2.length sh.1 H.size) ∧ G.1.1 < G.1.2 ∧ G.1.2 ≤ H.size ∧ sh.2.length ≤ 999 ∧ (sh.1 = false → mFix mem) ∧ mCan sh.2 mem
def mmL (G : mmG) (nL : Nat) (lc : List mmV) (ls : Array Slot) : Prop := ∃ l, lv_has ls nL l ∧ ∀ (i : Nat) (v : mmV), lc[i]? = some v → v.1 < 9 → (i, mmEnc G v) ∈ l
/-- words that hold on while the launch goes on, but are none of the tables' own kind: private constructors of nest mates, the abstract method -/
def mmNst (q : Nat × MethodName) : Prop := q = (9, yX9_init) ∨ q = (38, yX2_init) ∨ q = (41, yX8_init) ∨ q = (57, yX6_init)
theorem ao_mv {t : FieldType} {s U : State} (hal : s.vm.Alike U.vm) (h : va_Nw (.arrayOver t) s) : va_Nw (.arrayOver t) U := by
  have e : (Cond.arrayOver t).before #[] (s.setVm U.vm) = true := by
    rw [Cond.arrayOver_setVmC hal]
    exact h
  exact e
theorem ao_use {t : FieldType} {s : State} {args : Array Value} (h : va_Nw (.arrayOver t) s) : (Cond.arrayOver t).before args s = true := h
def mmAO (U : State) : Prop := va_Nw (.arrayOver (.object "SheSays$Law")) U ∧ va_Nw (.arrayOver (.array .long)) U ∧ va_Nw (.arrayOver (.array .int)) U
def mmNw (G : mmG) (U : State) : Prop := ((∀ q, mmNst q → va_Nw (.methodLinkNest RX11 q.1 q.2 "SheSays") U) ∧ mmAO U) ∧ va_Nw (.declares ⟨"SheSays$Walk", "saidAt", "(I)I"⟩) U ∧ (∀ i : Nat, i < 5 → vk_R RL (kIx i) (kTx i) (G.2.2.2.2 (2 * i)) U) ∧ va_Nw (.castable "[B" "java/lang/Cloneable") U
theorem mmNw.warm {G : mmG} {s U : State} (h : mmNw G s) (hW : s.WarmedH U.vm) : mmNw G U := ⟨⟨fun q hq => (h.1.1 q hq).warmM hW, ao_mv hW.alike h.1.2.1, ao_mv hW.alike h.1.2.2.1, ao_mv hW.alike h.1.2.2.2⟩, h.2.1.warmD hW, fun i hi => vk_R.warm hW (h.2.2.1 i hi), h.2.2.2.warmC hW⟩
theorem mmNw.same {G : mmG} {s U : State} (h : mmNw G s) (hv : s.vm = U.vm) : mmNw G U := ⟨⟨fun q hq => (h.1.1 q hq).same rfl hv, ao_mv (by rw [hv]; exact Vm.Alike.refl _) h.1.2.1, ao_mv (by rw [hv]; exact Vm.Alike.refl _) h.1.2.2.1, ao_mv (by rw [hv]; exact Vm.Alike.refl _) h.1.2.2.2⟩, h.2.1.same rfl hv, fun i hi => vk_R.same hv.symm (h.2.2.1 i hi), h.2.2.2.same rfl hv⟩
def mmF (G : mmG) (B : mmB) (p : Program) (s : State) (m : MethodId) (args : Array Value) (meth : Method) (c : Code) : Prop :=
  p.tables.exec = Jvm.exec ∧ c.code = B.2.1 ∧ c.maxLocals = B.2.2.1 ∧ meth.sig.returnType = B.2.2.2 ∧ s.vm.findClass B.1.cls = some m.cls ∧ (∀ w ∈ mm_tbl, w.before args s = true) ∧ meth.locks = false ∧ (B.1.name = "<init>" → meth.name = "<init>") ∧ mmNw G s
def mmPost (G : mmG) (Q : mmQ) : Array Value → State → Outcome → State → Prop := fun _ st o t => (∃ r sh mem, o = .returned (r.map (mmEnc G)) ∧ Q r sh mem ∧ mmR G sh mem t t.heap) ∧ va_F (mmAd G) st t
def mmX (B : mmB) (d kc ks : Nat) (G : mmG) (sh : mmS) (mem : mmM) (lc : List mmV) (p : Program) (l : Launch) (R : Room) (s : State) (m : MethodId) (args : Array Value) (meth : Method) (c : Code) (H : Heap) (locs : List Loc) (cells slots : Nat) (ls : Array Slot) : Prop :=
  mmF G B p s m args meth c ∧ mmR G sh mem s H ∧ va_S (mmAd G) s.heap H locs ∧ (G.1.2 ≤ s.heap.size ∧ (G.2.2.2.1.2.2 ≤ G.2.2.2.1.2.1 ∨ G.2.2.2.1.2.2 ≤ s.heap.size)) ∧ mmL G B.2.2.1 lc ls ∧ cells + kc ≤ R.cells ∧ slots + ks ≤ R.slots ∧ d ≤ R.frames ∧ 64 * d ≤ R.locals ∧ (l.flags = flags0 ∧ mmSF G s s.heap)
def mmT (B : mmB) (d kc ks : Nat) (Q : mmQ) (pc : Nat) (lc st : List mmV) (sh : mmS) (mem : mmM) : Prop :=
  ∀ (p : Program) (l : Launch) (e : Env) (R : Room) (s : State) (m : MethodId) (args : Array Value) (below : List Frame) (meth : Method) (c : Code) (G : mmG) (H : Heap) (locs : List Loc) (cells slots : Nat) (ls : Array Slot),
    mmX B d kc ks G sh mem lc p l R s m args meth c H locs cells slots ls → W p l e R s m args below meth c H locs cells slots (MQ below (mmPost G Q) args s R.cells R.slots (mmAd G)) (F0 m pc ls (st.map (mmEnc G)))
theorem mm_cat1 (G : mmG) {v : mmV} (h : v.1 ≠ 1) : (mmEnc G v).category = 1 := by
  obtain ⟨t, a⟩ := v
  match t, h with
  | 0, _ => rfl
  | 1, h => exact absurd rfl h
  | 2, _ =>
    show (va_rf (mmRf G a)).category = 1
    unfold mmRf
    split <;> rfl
  | 3, _ => rfl
  | _ + 4, _ => rfl
theorem mm_cat2 (G : mmG) (x : Int) : (mmEnc G (1, x)).category = 2 := rfl
section MMst
variable {B : mmB} {d kc ks : Nat} {Q : mmQ} {pc : Nat} {lc st : List mmV} {sh : mmS} {mem : mmM}
theorem st_iconst {n : Int} (hd : decode B.2.1 pc = .ok (.iconst n, 1)) (k : mmT B d kc ks Q (pc + 1) lc ((0, n) :: st) sh mem) : mmT B d kc ks Q pc lc st sh mem :=
  fun p l e R s m args below meth c G H locs cells slots ls X => lv_iconst X.1.1 X.1.2.1 hd rfl (k p l e R s m args below meth c G H locs cells slots ls X)
theorem st_bipush {n : Int} (hn : (Int8.ofInt n).toInt32 = Int32.ofInt n) (hd : decode B.2.1 pc = .ok (.bipush n, 2)) (k : mmT B d kc ks Q (pc + 2) lc ((0, n) :: st) sh mem) : mmT B d kc ks Q pc lc st sh mem :=
  fun p l e R s m args below meth c G H locs cells slots ls X => lv_bipush X.1.1 X.1.2.1 hd hn (k p l e R s m args below meth c G H locs cells slots ls X)
theorem st_sipush {n : Int} (hn : (Int16.ofInt n).toInt32 = Int32.ofInt n) (hd : decode B.2.1 pc = .ok (.sipush n, 3)) (k : mmT B d kc ks Q (pc + 3) lc ((0, n) :: st) sh mem) : mmT B d kc ks Q pc lc st sh mem :=
  fun p l e R s m args below meth c G H locs cells slots ls X => lv_sipush X.1.1 X.1.2.1 hd hn (k p l e R s m args below meth c G H locs cells slots ls X)
theorem st_lconst {n : Fin 2} {v : Int} (hn : Int64.ofNat (n : Nat) = Int64.ofInt v) (hd : decode B.2.1 pc = .ok (.lconst n, 1)) (k : mmT B d kc ks Q (pc + 1) lc ((1, v) :: st) sh mem) : mmT B d kc ks Q pc lc st sh mem :=
  fun p l e R s m args below meth c G H locs cells slots ls X => lv_lconst X.1.1 X.1.2.1 hd hn (k p l e R s m args below meth c G H locs cells slots ls X)
theorem mm_word {w : Cond} (i : Nat) (h : lw_tbl[i]? = some w) (hg : goodWord w = true) : w ∈ mm_tbl := List.mem_filter.mpr ⟨List.mem_append_left _ (List.mem_of_getElem? h), hg⟩
theorem mm_jv {w : Cond} (i : Nat) (h : jvPriv[i]? = some w) (hg : goodWord w = true) : w ∈ mm_tbl := List.mem_filter.mpr ⟨List.mem_append_right _ (List.mem_of_getElem? h), hg⟩
theorem mm_wk1 {w : Cond} (i : Nat) (h : tables_1_1[i]? = some w) (hg : goodWord w = true) : w ∈ mm_tbl := List.mem_filter.mpr ⟨List.mem_append_left _ (List.mem_append_right _ ((List.mem_append_left _ (List.mem_of_getElem? h)))), hg⟩
theorem mm_wk2 {w : Cond} (i : Nat) (h : tables_1_2[i]? = some w) (hg : goodWord w = true) : w ∈ mm_tbl := List.mem_filter.mpr ⟨List.mem_append_left _ (List.mem_append_right _ ((List.mem_append_right _ (List.mem_append_left _ (List.mem_of_getElem? h))))), hg⟩
theorem mm_wk3 {w : Cond} (i : Nat) (h : tables_1_3[i]? = some w) (hg : goodWord w = true) : w ∈ mm_tbl := List.mem_filter.mpr ⟨List.mem_append_left _ (List.mem_append_right _ ((List.mem_append_right _ (List.mem_append_right _ (List.mem_append_left _ (List.mem_of_getElem? h)))))), hg⟩
theorem mm_wk4 {w : Cond} (i : Nat) (h : tables_1_4[i]? = some w) (hg : goodWord w = true) : w ∈ mm_tbl := List.mem_filter.mpr ⟨List.mem_append_left _ (List.mem_append_right _ ((List.mem_append_right _ (List.mem_append_right _ (List.mem_append_right _ (List.mem_append_left _ (List.mem_of_getElem? h))))))), hg⟩
theorem mm_wk5 {w : Cond} (i : Nat) (h : tables_1_5[i]? = some w) (hg : goodWord w = true) : w ∈ mm_tbl := List.mem_filter.mpr ⟨List.mem_append_left _ (List.mem_append_right _ ((List.mem_append_right _ (List.mem_append_right _ (List.mem_append_right _ (List.mem_append_right _ (List.mem_append_left _ (List.mem_of_getElem? h)))))))), hg⟩
theorem mm_wk6 {w : Cond} (i : Nat) (h : tables_1_6[i]? = some w) (hg : goodWord w = true) : w ∈ mm_tbl := List.mem_filter.mpr ⟨List.mem_append_left _ (List.mem_append_right _ ((List.mem_append_right _ (List.mem_append_right _ (List.mem_append_right _ (List.mem_append_right _ (List.mem_append_right _ (List.mem_of_getElem? h)))))))), hg⟩
theorem mm_wk0 {w : Cond} (i : Nat) (h : (k2_sels lw_privs)[i]? = some w) (hg : goodWord w = true) : w ∈ mm_tbl := List.mem_filter.mpr ⟨List.mem_append_left _ (List.mem_append_left _ (List.mem_of_getElem? h)), hg⟩
theorem st_ldc {i : Nat} {v : Int} (hw : Cond.constant B.1.cls i (Int32.ofInt v) ∈ mm_tbl) (hd : decode B.2.1 pc = .ok (.ldc i, 2)) (k : mmT B d kc ks Q (pc + 2) lc ((0, v) :: st) sh mem) : mmT B d kc ks Q pc lc st sh mem :=
  fun p l e R s m args below meth c G H locs cells slots ls X => lv_ldc X.1.1 X.1.2.1 X.1.2.2.2.2.1 (X.1.2.2.2.2.2.1 _ hw) hd (k p l e R s m args below meth c G H locs cells slots ls X)
theorem st_ldc2 {i : Nat} {v : Int} (hw : Cond.constantLong B.1.cls i (Int64.ofInt v) ∈ mm_tbl) (hd : decode B.2.1 pc = .ok (.ldc2_w i, 3)) (k : mmT B d kc ks Q (pc + 3) lc ((1, v) :: st) sh mem) : mmT B d kc ks Q pc lc st sh mem :=
  fun p l e R s m args below meth c G H locs cells slots ls X => lv_ldc2 X.1.1 X.1.2.1 X.1.2.2.2.2.1 (X.1.2.2.2.2.2.1 _ hw) hd (k p l e R s m args below meth c G H locs cells slots ls X)
theorem mmL.at {G : mmG} {nL i : Nat} {v : mmV} {ls : Array Slot} (h : mmL G nL lc ls) (hl : lc[i]? = some v) (hv : v.1 < 9) : ls[i]? = some (.val (mmEnc G v)) := by
  obtain ⟨l, h1, h2⟩ := h
  exact h1.2.2 _ (h2 i v hl hv)
theorem st_iload_n {j : Fin 4} {i : Nat} {x : Int} (hi : (j : Nat) = i) (hl : lc[i]? = some (0, x)) (hd : decode B.2.1 pc = .ok (.iload_n j, 1)) (k : mmT B d kc ks Q (pc + 1) lc ((0, x) :: st) sh mem) : mmT B d kc ks Q pc lc st sh mem :=
  fun p l e R s m args below meth c G H locs cells slots ls X => lv_iload_n X.1.1 X.1.2.1 hd hi (X.2.2.2.2.1.at hl (by show 0 < 9; decide)) (k p l e R s m args below meth c G H locs cells slots ls X)
theorem st_iload {i : Nat} {x : Int} (hl : lc[i]? = some (0, x)) (hd : decode B.2.1 pc = .ok (.iload i, 2)) (k : mmT B d kc ks Q (pc + 2) lc ((0, x) :: st) sh mem) : mmT B d kc ks Q pc lc st sh mem :=
  fun p l e R s m args below meth c G H locs cells slots ls X => lv_iload X.1.1 X.1.2.1 hd (X.2.2.2.2.1.at hl (by show 0 < 9; decide)) (k p l e R s m args below meth c G H locs cells slots ls X)
theorem st_lload_n {j : Fin 4} {i : Nat} {x : Int} (hi : (j : Nat) = i) (hl : lc[i]? = some (1, x)) (hd : decode B.2.1 pc = .ok (.lload_n j, 1)) (k : mmT B d kc ks Q (pc + 1) lc ((1, x) :: st) sh mem) : mmT B d kc ks Q pc lc st sh mem :=
  fun p l e R s m args below meth c G H locs cells slots ls X => lv_lload_n X.1.1 X.1.2.1 hd hi (X.2.2.2.2.1.at hl (by show 1 < 9; decide)) (k p l e R s m args below meth c G H locs cells slots ls X)
theorem st_lload {i : Nat} {x : Int} (hl : lc[i]? = some (1, x)) (hd : decode B.2.1 pc = .ok (.lload i, 2)) (k : mmT B d kc ks Q (pc + 2) lc ((1, x) :: st) sh mem) : mmT B d kc ks Q pc lc st sh mem :=
  fun p l e R s m args below meth c G H locs cells slots ls X => lv_lload X.1.1 X.1.2.1 hd (X.2.2.2.2.1.at hl (by show 1 < 9; decide)) (k p l e R s m args below meth c G H locs cells slots ls X)
theorem st_aload_n {j : Fin 4} {i t : Nat} {x : Int} (hi : (j : Nat) = i) (hl : lc[i]? = some (t + 2, x)) (ht : t < 3) (hd : decode B.2.1 pc = .ok (.aload_n j, 1)) (k : mmT B d kc ks Q (pc + 1) lc ((t + 2, x) :: st) sh mem) : mmT B d kc ks Q pc lc st sh mem := by
  intro p l e R s m args below meth c G H locs cells slots ls X
  have h1 := X.2.2.2.2.1.at hl (by show t + 2 < 9; omega)
  have h2 := k p l e R s m args below meth c G H locs cells slots ls X
  simp only [List.map_cons] at h2
  match t, ht with
  | 0, _ =>
    change ls[i]? = some (.val (va_rf (mmRf G x))) at h1
    change W p l e R s m args below meth c H locs cells slots _ (F0 m (pc + 1) ls (va_rf (mmRf G x) :: st.map (mmEnc G))) at h2
    cases hr : mmRf G x with
    | none => rw [hr] at h1 h2; exact lv_aload_nN X.1.1 X.1.2.1 hd hi h1 h2
    | some a => rw [hr] at h1 h2; exact lv_aload_n X.1.1 X.1.2.1 hd hi h1 h2
  | 1, _ => exact lv_aload_n X.1.1 X.1.2.1 hd hi h1 h2
  | 2, _ => exact lv_aload_n X.1.1 X.1.2.1 hd hi h1 h2
theorem st_aload {i t : Nat} {x : Int} (hl : lc[i]? = some (t + 2, x)) (ht : t < 3) (hd : decode B.2.1 pc = .ok (.aload i, 2)) (k : mmT B d kc ks Q (pc + 2) lc ((t + 2, x) :: st) sh mem) : mmT B d kc ks Q pc lc st sh mem := by
  intro p l e R s m args below meth c G H locs cells slots ls X
  have h1 := X.2.2.2.2.1.at hl (by show t + 2 < 9; omega)
  have h2 := k p l e R s m args below meth c G H locs cells slots ls X
  simp only [List.map_cons] at h2
  match t, ht with
  | 0, _ =>
    change ls[i]? = some (.val (va_rf (mmRf G x))) at h1
    change W p l e R s m args below meth c H locs cells slots _ (F0 m (pc + 2) ls (va_rf (mmRf G x) :: st.map (mmEnc G))) at h2
    cases hr : mmRf G x with
    | none => rw [hr] at h1 h2; exact lv_aloadN X.1.1 X.1.2.1 hd h1 h2
    | some a => rw [hr] at h1 h2; exact lv_aload X.1.1 X.1.2.1 hd h1 h2
  | 1, _ => exact lv_aload X.1.1 X.1.2.1 hd h1 h2
  | 2, _ => exact lv_aload X.1.1 X.1.2.1 hd h1 h2
/-- a local is written -/
def mmSet (lc : List mmV) (i : Nat) (v : mmV) : List mmV :=
  let l1 := if v.1 = 1 then (lc.set (i + 1) (9, 0)) else lc
  let l2 := match i with
    | 0 => l1
    | j + 1 => match l1[j]? with
      | some (1, _) => l1.set j (9, 0)
      | _ => l1
  l2.set i v
theorem mmSet_old {lc : List mmV} {i j : Nat} {v w : mmV} (h : (mmSet lc i v)[j]? = some w) (hw : w.1 < 9) : (j = i ∧ w = v) ∨ (j ≠ i ∧ lc[j]? = some w ∧ ¬ (j + 1 = i ∧ w.1 = 1) ∧ (v.1 = 1 → j ≠ i + 1)) := by
  have aux : ∀ L : List mmV, (L.set j v)[j]? = some w → w = v := by
    intro L hL
    rw [List.getElem?_set] at hL
    simp only [↓reduceIte] at hL
    split at hL
    · exact (Option.some.inj hL).symm
    · cases hL
  unfold mmSet at h
  dsimp only at h
  by_cases hji : j = i
  · left
    subst hji
    exact ⟨rfl, aux _ h⟩
  · right
    rw [List.getElem?_set_ne (Ne.symm hji)] at h
    have h1 : ∀ l1 : List mmV, (match i with
      | 0 => l1
      | j + 1 => match l1[j]? with
        | some (1, _) => l1.set j (9, 0)
        | _ => l1)[j]? = some w → l1[j]? = some w ∧ ¬ (j + 1 = i ∧ w.1 = 1) := by
      intro l1 hh
      cases i with
      | zero => exact ⟨hh, fun q => by omega⟩
      | succ i0 =>
        dsimp only at hh
        split at hh
        · rename_i x hx
          by_cases e : j = i0
          · subst e
            rw [List.getElem?_set] at hh
            simp only [↓reduceIte] at hh
            split at hh
            · cases Option.some.inj hh
              exact absurd hw (by decide)
            · cases hh
          · rw [List.getElem?_set_ne (Ne.symm e)] at hh
            exact ⟨hh, fun q => e (by omega)⟩
        · rename_i hx
          refine ⟨hh, fun q => ?_⟩
          have e : j = i0 := by omega
          subst e
          obtain ⟨t, a⟩ := w
          have ht : t = 1 := q.2
          subst ht
          exact hx a hh
    obtain ⟨h2, h3⟩ := h1 _ h
    split at h2
    · rename_i hv
      by_cases e : j = i + 1
      · subst e
        rw [List.getElem?_set] at h2
        simp only [↓reduceIte] at h2
        split at h2
        · cases Option.some.inj h2
          exact absurd hw (by decide)
        · cases h2
      · rw [List.getElem?_set_ne (Ne.symm e)] at h2
        exact ⟨hji, h2, h3, fun _ => e⟩
    · rename_i hv
      exact ⟨hji, h2, h3, fun q => absurd q hv⟩
theorem mm_tag1 (G : mmG) (w : mmV) (h : w.1 < 9) : ((mmEnc G w).category == 2) = (w.1 == 1) := by
  by_cases e : w.1 = 1
  · obtain ⟨t, a⟩ := w
    have : t = 1 := e
    subst this
    rfl
  · rw [mm_cat1 G e]
    simp [e]
theorem mmL.set1 {G : mmG} {nL i : Nat} {v : mmV} {lc' : List mmV} {l l' : List (Nat × Value)} {ls ls' : Array Slot} (hv : v.1 ≠ 1) (he : mmSet lc i v = lc') (hin : ∀ (i : Nat) (v : mmV), lc[i]? = some v → v.1 < 9 → (i, mmEnc G v) ∈ l)
    (hl : (i, mmEnc G v) :: l.filter (fun q => !(q.1 == i) && !(q.1 + 1 == i && q.2.category == 2)) = l') (h' : lv_has ls' nL l') : mmL G nL lc' ls' := by
  refine ⟨l', h', fun j w hj hw => ?_⟩
  subst hl
  rw [← he] at hj
  rcases mmSet_old hj hw with ⟨rfl, rfl⟩ | ⟨h1, h2, h3, -⟩
  · exact List.mem_cons_self
  · refine List.mem_cons_of_mem _ (List.mem_filter.mpr ⟨hin j w h2 hw, ?_⟩)
    rw [mm_tag1 G w hw]
    simp only [Bool.and_eq_true, Bool.not_eq_true', beq_eq_false_iff_ne, ne_eq, Bool.and_eq_false_iff]
    refine ⟨h1, ?_⟩
    by_cases q : j + 1 = i
    · right
      simpa using fun z => h3 ⟨q, z⟩
    · left
      simpa using q
theorem mmL.set2 {G : mmG} {nL i : Nat} {v : mmV} {lc' : List mmV} {l l' : List (Nat × Value)} {ls ls' : Array Slot} (hv : v.1 = 1) (he : mmSet lc i v = lc') (hin : ∀ (i : Nat) (v : mmV), lc[i]? = some v → v.1 < 9 → (i, mmEnc G v) ∈ l)
    (hl : (i, mmEnc G v) :: l.filter (fun q => !(q.1 == i) && (!(q.1 == i + 1) && !(q.1 + 1 == i && q.2.category == 2))) = l') (h' : lv_has ls' nL l') : mmL G nL lc' ls' := by
  refine ⟨l', h', fun j w hj hw => ?_⟩
  subst hl
  rw [← he] at hj
  rcases mmSet_old hj hw with ⟨rfl, rfl⟩ | ⟨h1, h2, h3, h4⟩
  · exact List.mem_cons_self
  · refine List.mem_cons_of_mem _ (List.mem_filter.mpr ⟨hin j w h2 hw, ?_⟩)
    rw [mm_tag1 G w hw]
    simp only [Bool.and_eq_true, Bool.not_eq_true', beq_eq_false_iff_ne, ne_eq, Bool.and_eq_false_iff]
    refine ⟨h1, h4 hv, ?_⟩
    by_cases q : j + 1 = i
    · right
      simpa using fun z => h3 ⟨q, z⟩
    · left
      simpa using q
theorem mm_relc {G : mmG} {lc' : List mmV} {p : Program} {l : Launch} {R : Room} {s : State} {m : MethodId} {args : Array Value} {meth : Method} {c : Code} {H : Heap} {locs : List Loc} {cells slots : Nat} {ls ls' : Array Slot} (X : mmX B d kc ks G sh mem lc p l R s m args meth c H locs cells slots ls) (h : mmL G B.2.2.1 lc' ls') : mmX B d kc ks G sh mem lc' p l R s m args meth c H locs cells slots ls' :=
  ⟨X.1, X.2.1, X.2.2.1, X.2.2.2.1, h, X.2.2.2.2.2⟩
theorem st_istore_n {j : Fin 4} {i : Nat} {x : Int} {lc' : List mmV} (hi : (j : Nat) = i) (hn : i < B.2.2.1) (he : mmSet lc i (0, x) = lc') (hd : decode B.2.1 pc = .ok (.istore_n j, 1)) (k : mmT B d kc ks Q (pc + 1) lc' st sh mem) : mmT B d kc ks Q pc lc ((0, x) :: st) sh mem := by
  intro p l e R s m args below meth c G H locs cells slots ls X
  obtain ⟨lv, h1, h2⟩ := X.2.2.2.2.1
  exact lv_istore_n X.1.1 X.1.2.1 hd hi h1 hn rfl (fun ls' h' => k p l e R s m args below meth c G H locs cells slots ls' (mm_relc X (mmL.set1 (ls := ls) (v := (0, x)) (show (0 : Nat) ≠ 1 by decide) he h2 rfl h')))
theorem st_istore {i : Nat} {x : Int} {lc' : List mmV} (hn : i < B.2.2.1) (he : mmSet lc i (0, x) = lc') (hd : decode B.2.1 pc = .ok (.istore i, 2)) (k : mmT B d kc ks Q (pc + 2) lc' st sh mem) : mmT B d kc ks Q pc lc ((0, x) :: st) sh mem := by
  intro p l e R s m args below meth c G H locs cells slots ls X
  obtain ⟨lv, h1, h2⟩ := X.2.2.2.2.1
  exact lv_istore X.1.1 X.1.2.1 hd h1 hn rfl (fun ls' h' => k p l e R s m args below meth c G H locs cells slots ls' (mm_relc X (mmL.set1 (ls := ls) (v := (0, x)) (show (0 : Nat) ≠ 1 by decide) he h2 rfl h')))
theorem st_lstore_n {j : Fin 4} {i : Nat} {x : Int} {lc' : List mmV} (hi : (j : Nat) = i) (hn : i + 1 < B.2.2.1) (he : mmSet lc i (1, x) = lc') (hd : decode B.2.1 pc = .ok (.lstore_n j, 1)) (k : mmT B d kc ks Q (pc + 1) lc' st sh mem) : mmT B d kc ks Q pc lc ((1, x) :: st) sh mem := by
  intro p l e R s m args below meth c G H locs cells slots ls X
  obtain ⟨lv, h1, h2⟩ := X.2.2.2.2.1
  exact lv_lstore_n X.1.1 X.1.2.1 hd hi h1 hn rfl (fun ls' h' => k p l e R s m args below meth c G H locs cells slots ls' (mm_relc X (mmL.set2 (ls := ls) (v := (1, x)) rfl he h2 rfl h')))
theorem st_lstore {i : Nat} {x : Int} {lc' : List mmV} (hn : i + 1 < B.2.2.1) (he : mmSet lc i (1, x) = lc') (hd : decode B.2.1 pc = .ok (.lstore i, 2)) (k : mmT B d kc ks Q (pc + 2) lc' st sh mem) : mmT B d kc ks Q pc lc ((1, x) :: st) sh mem := by
  intro p l e R s m args below meth c G H locs cells slots ls X
  obtain ⟨lv, h1, h2⟩ := X.2.2.2.2.1
  exact lv_lstore X.1.1 X.1.2.1 hd h1 hn rfl (fun ls' h' => k p l e R s m args below meth c G H locs cells slots ls' (mm_relc X (mmL.set2 (ls := ls) (v := (1, x)) rfl he h2 rfl h')))
theorem st_astore_n {j : Fin 4} {i : Nat} {x : Int} {lc' : List mmV} (hi : (j : Nat) = i) (hn : i < B.2.2.1) (he : mmSet lc i (2, x) = lc') (hx : 0 ≤ x) (hd : decode B.2.1 pc = .ok (.astore_n j, 1)) (k : mmT B d kc ks Q (pc + 1) lc' st sh mem) : mmT B d kc ks Q pc lc ((2, x) :: st) sh mem := by
  intro p l e R s m args below meth c G H locs cells slots ls X
  obtain ⟨lv, h1, h2⟩ := X.2.2.2.2.1
  have hr : mmEnc G (2, x) = .ref (mmAt G x.toNat) := by show va_rf (mmRf G x) = _; unfold mmRf; rw [if_neg (by omega)]; rfl
  show W p l e R s m args below meth c H locs cells slots _ (F0 m pc ls (mmEnc G (2, x) :: st.map (mmEnc G)))
  rw [hr]
  exact lv_astore_n X.1.1 X.1.2.1 hd hi h1 hn rfl (fun ls' h' => k p l e R s m args below meth c G H locs cells slots ls' (mm_relc X (mmL.set1 (ls := ls) (v := (2, x)) (show (2 : Nat) ≠ 1 by decide) he h2 (by rw [hr]) h')))
theorem st_astore {i : Nat} {x : Int} {lc' : List mmV} (hn : i < B.2.2.1) (he : mmSet lc i (2, x) = lc') (hx : 0 ≤ x) (hd : decode B.2.1 pc = .ok (.astore i, 2)) (k : mmT B d kc ks Q (pc + 2) lc' st sh mem) : mmT B d kc ks Q pc lc ((2, x) :: st) sh mem := by
  intro p l e R s m args below meth c G H locs cells slots ls X
  obtain ⟨lv, h1, h2⟩ := X.2.2.2.2.1
  have hr : mmEnc G (2, x) = .ref (mmAt G x.toNat) := by show va_rf (mmRf G x) = _; unfold mmRf; rw [if_neg (by omega)]; rfl
  show W p l e R s m args below meth c H locs cells slots _ (F0 m pc ls (mmEnc G (2, x) :: st.map (mmEnc G)))
  rw [hr]
  exact lv_astore X.1.1 X.1.2.1 hd h1 hn rfl (fun ls' h' => k p l e R s m args below meth c G H locs cells slots ls' (mm_relc X (mmL.set1 (ls := ls) (v := (2, x)) (show (2 : Nat) ≠ 1 by decide) he h2 (by rw [hr]) h')))
theorem st_astoreK {i : Nat} {x : Int} {lc' : List mmV} (hn : i < B.2.2.1) (he : mmSet lc i (4, x) = lc') (hd : decode B.2.1 pc = .ok (.astore i, 2)) (k : mmT B d kc ks Q (pc + 2) lc' st sh mem) : mmT B d kc ks Q pc lc ((4, x) :: st) sh mem := by
  intro p l e R s m args below meth c G H locs cells slots ls X
  obtain ⟨lv, h1, h2⟩ := X.2.2.2.2.1
  exact lv_astore X.1.1 X.1.2.1 hd h1 hn rfl (fun ls' h' => k p l e R s m args below meth c G H locs cells slots ls' (mm_relc X (mmL.set1 (ls := ls) (v := (4, x)) (show (4 : Nat) ≠ 1 by decide) he h2 rfl h')))
theorem st_iinc {i : Nat} {n x y : Int} {lc' : List mmV} (hn : i < B.2.2.1) (hl : lc[i]? = some (0, x)) (hy : y = x + n) (he : mmSet lc i (0, y) = lc') (hd : decode B.2.1 pc = .ok (.iinc i n, 3)) (k : mmT B d kc ks Q (pc + 3) lc' st sh mem) : mmT B d kc ks Q pc lc st sh mem := by
  intro p l e R s m args below meth c G H locs cells slots ls X
  obtain ⟨lv, h1, h2⟩ := X.2.2.2.2.1
  obtain ⟨q, hq⟩ := List.getElem?_of_mem (h2 i _ hl (by show 0 < 9; decide))
  exact lv_iinc (v := Int32.ofInt y) X.1.1 X.1.2.1 hd h1 hq (by rw [hy, Int32.ofInt_add]) hn rfl (fun ls' h' => k p l e R s m args below meth c G H locs cells slots ls' (mm_relc X (mmL.set1 (ls := ls) (v := (0, y)) (show (0 : Nat) ≠ 1 by decide) he h2 rfl h')))
end MMst
