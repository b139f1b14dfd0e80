/-! rows over the cells that stand -/
def b2i (p : Prop) [Decidable p] : Int := if p then 1 else 0
theorem b2i_1 {p : Prop} [Decidable p] (h : p) : b2i p = 1 := if_pos h
theorem b2i_0 {p : Prop} [Decidable p] (h : ¬ p) : b2i p = 0 := if_neg h
theorem b2i_rng (p : Prop) [Decidable p] : 0 ≤ b2i p ∧ b2i p ≤ 1 := by
  unfold b2i
  split <;> omega
theorem b2i_01 (p : Prop) [Decidable p] : b2i p = 0 ∨ b2i p = 1 := by
  unfold b2i
  split
  · exact Or.inr rfl
  · exact Or.inl rfl
/-- a field that may be written -/
def mmPF (ci k : Nat) (ty : FieldType) : Prop := (∀ q, vwCl[ci]? = some q → (q.2.1 k).2.2.2 = false) ∧ mm_clTy ci k = ty ∧ mmTy ci
theorem i32_rng (x : Int32) : R32 x.toInt := by
  have h1 := x.toInt_lt
  have h2 := x.le_toInt
  exact ⟨by omega, by omega⟩
theorem i64_rng (x : Int64) : R64 x.toInt := by
  have h1 := x.toInt_lt
  have h2 := x.le_toInt
  exact ⟨by omega, by omega⟩
theorem r32_64 {x : Int} (h : R32 x) : R64 x := ⟨by omega, by omega⟩
theorem imax32_rng {x y : Int} (hx : R32 x) (hy : R32 y) : R32 (max x y) := by omega
theorem imin32_rng {x y : Int} (hx : R32 x) (hy : R32 y) : R32 (min x y) := by omega
theorem imax64_rng {x y : Int} (hx : R64 x) (hy : R64 y) : R64 (max x y) := by omega
theorem imin64_rng {x y : Int} (hx : R64 x) (hy : R64 y) : R64 (min x y) := by omega
theorem and32_rng (x y : Int) : R32 (and32 x y) := i32_rng _
theorem or32_rng (x y : Int) : R32 (or32 x y) := i32_rng _
theorem xor32_rng (x y : Int) : R32 (xor32 x y) := i32_rng _
theorem shl32_rng (x y : Int) : R32 (shl32 x y) := i32_rng _
theorem shr32_rng (x y : Int) : R32 (shr32 x y) := i32_rng _
theorem ushr32_rng (x y : Int) : R32 (ushr32 x y) := i32_rng _
theorem rem32_rng (x y : Int) : R32 (rem32 x y) := i32_rng _
theorem and64_rng (x y : Int) : R64 (and64 x y) := i64_rng _
theorem or64_rng (x y : Int) : R64 (or64 x y) := i64_rng _
theorem shl64_rng (x y : Int) : R64 (shl64 x y) := i64_rng _
theorem ushr64_rng (x y : Int) : R64 (ushr64 x y) := i64_rng _
theorem rem64_rng (x y : Int) : R64 (rem64 x y) := i64_rng _
theorem pf_0_5 : mmPF 0 5 .int := ⟨fun q h => by cases h; rfl, rfl, mty_0⟩
theorem pf_0_6 : mmPF 0 6 .int := ⟨fun q h => by cases h; rfl, rfl, mty_0⟩
theorem pf_0_7 : mmPF 0 7 .int := ⟨fun q h => by cases h; rfl, rfl, mty_0⟩
theorem pf_1_3 : mmPF 1 3 .int := ⟨fun q h => by cases h; rfl, rfl, mty_1⟩
theorem pf_1_4 : mmPF 1 4 .int := ⟨fun q h => by cases h; rfl, rfl, mty_1⟩
theorem pf_1_5 : mmPF 1 5 .int := ⟨fun q h => by cases h; rfl, rfl, mty_1⟩
theorem pf_1_6 : mmPF 1 6 .int := ⟨fun q h => by cases h; rfl, rfl, mty_1⟩
theorem pf_1_7 : mmPF 1 7 .int := ⟨fun q h => by cases h; rfl, rfl, mty_1⟩
theorem pf_1_8 : mmPF 1 8 .boolean := ⟨fun q h => by cases h; rfl, rfl, mty_1⟩
theorem pf_1_9 : mmPF 1 9 .int := ⟨fun q h => by cases h; rfl, rfl, mty_1⟩
theorem pf_1_10 : mmPF 1 10 .int := ⟨fun q h => by cases h; rfl, rfl, mty_1⟩
theorem pf_2_1 : mmPF 2 1 .int := ⟨fun q h => by cases h; rfl, rfl, mty_2⟩
theorem pf_2_3 : mmPF 2 3 .int := ⟨fun q h => by cases h; rfl, rfl, mty_2⟩
theorem pf_3_2 : mmPF 3 2 .int := ⟨fun q h => by cases h; rfl, rfl, mty_3⟩
theorem pf_5_3 : mmPF 5 3 .int := ⟨fun q h => by cases h; rfl, rfl, mty_5⟩
theorem pf_5_4 : mmPF 5 4 .int := ⟨fun q h => by cases h; rfl, rfl, mty_5⟩
theorem pf_5_5 : mmPF 5 5 .int := ⟨fun q h => by cases h; rfl, rfl, mty_5⟩
theorem pf_5_6 : mmPF 5 6 .int := ⟨fun q h => by cases h; rfl, rfl, mty_5⟩
theorem pf_5_7 : mmPF 5 7 .long := ⟨fun q h => by cases h; rfl, rfl, mty_5⟩
theorem pf_5_8 : mmPF 5 8 .int := ⟨fun q h => by cases h; rfl, rfl, mty_5⟩
theorem pf_5_9 : mmPF 5 9 .int := ⟨fun q h => by cases h; rfl, rfl, mty_5⟩
theorem pf_5_10 : mmPF 5 10 .int := ⟨fun q h => by cases h; rfl, rfl, mty_5⟩
theorem pf_5_11 : mmPF 5 11 .int := ⟨fun q h => by cases h; rfl, rfl, mty_5⟩
theorem pf_6_0 : mmPF 6 0 .int := ⟨fun q h => by cases h; rfl, rfl, mty_6⟩
theorem pf_6_1 : mmPF 6 1 .int := ⟨fun q h => by cases h; rfl, rfl, mty_6⟩
theorem pf_6_2 : mmPF 6 2 .int := ⟨fun q h => by cases h; rfl, rfl, mty_6⟩
theorem pf_6_4 : mmPF 6 4 .boolean := ⟨fun q h => by cases h; rfl, rfl, mty_6⟩
theorem pf_6_5 : mmPF 6 5 .int := ⟨fun q h => by cases h; rfl, rfl, mty_6⟩
theorem pf_7_4 : mmPF 7 4 (.array .long) := ⟨fun q h => by cases h; rfl, rfl, mty_7⟩
theorem pf_7_5 : mmPF 7 5 (.array .long) := ⟨fun q h => by cases h; rfl, rfl, mty_7⟩
theorem pf_7_8 : mmPF 7 8 .long := ⟨fun q h => by cases h; rfl, rfl, mty_7⟩
theorem pf_7_9 : mmPF 7 9 .long := ⟨fun q h => by cases h; rfl, rfl, mty_7⟩
theorem pf_8_0 : mmPF 8 0 .int := ⟨fun q h => by cases h; rfl, rfl, mty_8⟩
theorem pf_8_1 : mmPF 8 1 .int := ⟨fun q h => by cases h; rfl, rfl, mty_8⟩
theorem pf_9_1 : mmPF 9 1 .int := ⟨fun q h => by cases h; rfl, rfl, mty_9⟩
theorem pf_9_2 : mmPF 9 2 .int := ⟨fun q h => by cases h; rfl, rfl, mty_9⟩
theorem pf_10_11 : mmPF 10 11 .int := ⟨fun q h => by cases h; rfl, rfl, mty_10⟩
theorem pf_10_12 : mmPF 10 12 .int := ⟨fun q h => by cases h; rfl, rfl, mty_10⟩
section MMro
variable {B : mmB} {d : Nat} {Q : mmQ} {pc : Nat} {lc st : List mmV} {mem : mmM}
theorem so_getI {idx ci N : Nat} {r v : Int} (a k : Nat) (hf : mmFR B.1.cls idx ci N k 0) (hr : r = (a : Int)) (hs : mSH[a]? = some (ci, N)) (hv : mem a k = v) (hd : decode B.2.1 pc = .ok (.getfield idx, 3)) (kk : R32 v → mmT B d 0 0 Q (pc + 3) lc ((0, v) :: st) mS mem) : mmT B d 0 0 Q pc lc ((2, r) :: st) mS mem := by
  subst hv
  exact st_getI a k hf hr hs hd kk
theorem so_getJ {idx ci N : Nat} {r v : Int} (a k : Nat) (hf : mmFR B.1.cls idx ci N k 1) (hr : r = (a : Int)) (hs : mSH[a]? = some (ci, N)) (hv : mem a k = v) (hd : decode B.2.1 pc = .ok (.getfield idx, 3)) (kk : R64 v → mmT B d 0 0 Q (pc + 3) lc ((1, v) :: st) mS mem) : mmT B d 0 0 Q pc lc ((2, r) :: st) mS mem := by
  subst hv
  exact st_getJ a k hf hr hs hd kk
theorem so_getA {idx ci N : Nat} {r v : Int} (a k : Nat) (hf : mmFR B.1.cls idx ci N k 2) (hr : r = (a : Int)) (hs : mSH[a]? = some (ci, N)) (hx : ((a, (k : Int), v) : Nat × Int × Int) ∈ mFixL) (hd : decode B.2.1 pc = .ok (.getfield idx, 3)) (kk : mmT B d 0 0 Q (pc + 3) lc ((2, v) :: st) mS mem) : mmT B d 0 0 Q pc lc ((2, r) :: st) mS mem :=
  st_getA a k rfl hf hr hs hx hd kk
theorem so_getR {idx ci N : Nat} {r v : Int} (a k : Nat) (hf : mmFR B.1.cls idx ci N k 2) (hr : r = (a : Int)) (hs : mSH[a]? = some (ci, N)) (hv : mem a k = v) (hd : decode B.2.1 pc = .ok (.getfield idx, 3)) (kk : mmT B d 0 0 Q (pc + 3) lc ((2, v) :: st) mS mem) : mmT B d 0 0 Q pc lc ((2, r) :: st) mS mem :=
  st_getfield a k hf hr hs hv hd kk
theorem mTag_int {ci N k : Nat} {ty : FieldType} (h20 : ci < 20) (h : mm_clTy ci k = ty) : mTag (ci, N) (k : Int) = mm_tg ty := by
  unfold mTag
  rw [if_pos (show (ci, N).1 < 20 from h20)]
  show mm_tg (mm_clTy ci (k : Int).toNat) = _
  rw [Int.toNat_natCast, h]
theorem so_putI {idx ci N : Nat} {r v : Int} (a k : Nat) (hf : mmFR B.1.cls idx ci N k 0) (hp : mmPF ci k .int) (hfx : fixOK a k = true) (hr : r = (a : Int)) (hs : mSH[a]? = some (ci, N)) (hv : R32 v) (hd : decode B.2.1 pc = .ok (.putfield idx, 3)) (kk : mmT B d 0 0 Q (pc + 3) lc st mS (mset mem a k v)) : mmT B d 0 0 Q pc lc ((0, v) :: (2, r) :: st) mS mem :=
  have h20 : ci < 20 := by obtain ⟨C, T, ref, e1, e0, -⟩ := hf; exact e0
  st_putfield a k (fun _ => hfx) (by rw [mTag_int h20 hp.2.1]; exact ⟨fun _ => hv, fun h => by cases h⟩) hf hp.2.2 hp.1 (Or.inl hp.2.1) hr hs hd kk
theorem so_putZ {idx ci N : Nat} {r v : Int} (a k : Nat) (hf : mmFR B.1.cls idx ci N k 0) (hp : mmPF ci k .boolean) (hfx : fixOK a k = true) (hr : r = (a : Int)) (hs : mSH[a]? = some (ci, N)) (hv : v = 0 ∨ v = 1) (hd : decode B.2.1 pc = .ok (.putfield idx, 3)) (kk : mmT B d 0 0 Q (pc + 3) lc st mS (mset mem a k v)) : mmT B d 0 0 Q pc lc ((0, v) :: (2, r) :: st) mS mem :=
  have h20 : ci < 20 := by obtain ⟨C, T, ref, e1, e0, -⟩ := hf; exact e0
  st_putfield a k (fun _ => hfx) (by rw [mTag_int h20 hp.2.1]; exact ⟨fun _ => by omega, fun h => by cases h⟩) hf hp.2.2 hp.1 (Or.inr (Or.inr (Or.inl ⟨Or.inl hp.2.1, hv⟩))) hr hs hd kk
theorem so_putJ {idx ci N : Nat} {r v : Int} (a k : Nat) (hf : mmFR B.1.cls idx ci N k 1) (hp : mmPF ci k .long) (hfx : fixOK a k = true) (hr : r = (a : Int)) (hs : mSH[a]? = some (ci, N)) (hv : R64 v) (hd : decode B.2.1 pc = .ok (.putfield idx, 3)) (kk : mmT B d 0 0 Q (pc + 3) lc st mS (mset mem a k v)) : mmT B d 0 0 Q pc lc ((1, v) :: (2, r) :: st) mS mem :=
  have h20 : ci < 20 := by obtain ⟨C, T, ref, e1, e0, -⟩ := hf; exact e0
  st_putfield a k (fun _ => hfx) (by rw [mTag_int h20 hp.2.1]; exact ⟨fun h => (by cases h), fun _ => hv⟩) hf hp.2.2 hp.1 (Or.inr (Or.inl hp.2.1)) hr hs hd kk
theorem so_putA {idx ci N : Nat} {r v : Int} {t : FieldType} (a k : Nat) (hf : mmFR B.1.cls idx ci N k 2) (hp : mmPF ci k (.array t)) (hfx : fixOK a k = true) (hr : r = (a : Int)) (hs : mSH[a]? = some (ci, N)) (hd : decode B.2.1 pc = .ok (.putfield idx, 3)) (kk : mmT B d 0 0 Q (pc + 3) lc st mS (mset mem a k v)) : mmT B d 0 0 Q pc lc ((2, v) :: (2, r) :: st) mS mem :=
  have h20 : ci < 20 := by obtain ⟨C, T, ref, e1, e0, -⟩ := hf; exact e0
  st_putfield a k (fun _ => hfx) (by rw [mTag_int h20 hp.2.1]; exact ⟨fun h => (by cases h), fun h => by cases h⟩) hf hp.2.2 hp.1 (Or.inr (Or.inr (Or.inr (Or.inr ⟨t, hp.2.1⟩)))) hr hs hd kk
theorem so_iald {n : Nat} {r i v : Int} (a : Nat) (hr : r = (a : Int)) (hs : mSH[a]? = some (20, n)) (hn : n < 2147483648) (h1 : 0 ≤ i ∧ i < n) (hv : mem a i = v) (hd : decode B.2.1 pc = .ok (.iaload, 1)) (kk : R32 v → mmT B d 0 0 Q (pc + 1) lc ((0, v) :: st) mS mem) : mmT B d 0 0 Q pc lc ((0, i) :: (2, r) :: st) mS mem := by
  subst hv
  exact st_ialoadR a hr hs hn h1.1 h1.2 hd kk
theorem so_bald {n : Nat} {r i v : Int} (a : Nat) (hr : r = (a : Int)) (hs : mSH[a]? = some (22, n)) (hn : n < 2147483648) (h1 : 0 ≤ i ∧ i < n) (hv : mem a i = v) (hd : decode B.2.1 pc = .ok (.baload, 1)) (kk : R32 v → mmT B d 0 0 Q (pc + 1) lc ((0, v) :: st) mS mem) : mmT B d 0 0 Q pc lc ((0, i) :: (2, r) :: st) mS mem := by
  subst hv
  exact st_baloadR a hr hs hn h1.1 h1.2 hd kk
theorem so_lald {n : Nat} {r i v : Int} (a : Nat) (hr : r = (a : Int)) (hs : mSH[a]? = some (21, n)) (hn : n < 2147483648) (h1 : 0 ≤ i ∧ i < n) (hv : mem a i = v) (hd : decode B.2.1 pc = .ok (.laload, 1)) (kk : R64 v → mmT B d 0 0 Q (pc + 1) lc ((1, v) :: st) mS mem) : mmT B d 0 0 Q pc lc ((0, i) :: (2, r) :: st) mS mem := by
  subst hv
  exact st_laloadR a hr hs hn h1.1 h1.2 hd kk
theorem so_aald {n t : Nat} {r i v : Int} (a : Nat) (ht : t = 23 ∨ t = 24 ∨ t = 26) (hr : r = (a : Int)) (hs : mSH[a]? = some (t, n)) (hn : n < 2147483648) (h1 : 0 ≤ i ∧ i < n) (hv : mFix mem → mem a i = v) (hd : decode B.2.1 pc = .ok (.aaload, 1)) (kk : mmT B d 0 0 Q (pc + 1) lc ((2, v) :: st) mS mem) : mmT B d 0 0 Q pc lc ((0, i) :: (2, r) :: st) mS mem :=
  mm_fact (P := mFix mem) (fun G s H hR => hR.2.2.2.2.2.2.2.1 rfl) (fun hfx => st_aaload a ht hr hs hn h1.1 h1.2 (hv hfx) hd kk)
theorem so_iast {n : Nat} {r i v : Int} (a : Nat) (hfx : fixRow a = true) (hr : r = (a : Int)) (hs : mSH[a]? = some (20, n)) (hn : n < 2147483648) (h1 : 0 ≤ i ∧ i < n) (hv : R32 v) (hd : decode B.2.1 pc = .ok (.iastore, 1)) (kk : mmT B d 0 0 Q (pc + 1) lc st mS (mset mem a i v)) : mmT B d 0 0 Q pc lc ((0, v) :: (0, i) :: (2, r) :: st) mS mem :=
  st_iastore a (fun _ => hfx) hv hr hs hn h1.1 h1.2 hd kk
theorem so_last {n : Nat} {r i v : Int} (a : Nat) (hfx : fixRow a = true) (hr : r = (a : Int)) (hs : mSH[a]? = some (21, n)) (hn : n < 2147483648) (h1 : 0 ≤ i ∧ i < n) (hv : R64 v) (hd : decode B.2.1 pc = .ok (.lastore, 1)) (kk : mmT B d 0 0 Q (pc + 1) lc st mS (mset mem a i v)) : mmT B d 0 0 Q pc lc ((1, v) :: (0, i) :: (2, r) :: st) mS mem :=
  st_lastore a (fun _ => hfx) hv hr hs hn h1.1 h1.2 hd kk
theorem so_bast {n : Nat} {r i v : Int} (a : Nat) (hfx : fixRow a = true) (hr : r = (a : Int)) (hs : mSH[a]? = some (22, n)) (hn : n < 2147483648) (h1 : 0 ≤ i ∧ i < n) (hv : v = 0 ∨ v = 1) (hd : decode B.2.1 pc = .ok (.bastore, 1)) (kk : mmT B d 0 0 Q (pc + 1) lc st mS (mset mem a i v)) : mmT B d 0 0 Q pc lc ((0, v) :: (0, i) :: (2, r) :: st) mS mem :=
  st_bastore a (fun _ => hfx) (by omega) hv hr hs hn h1.1 h1.2 hd kk
theorem so_alen {t n : Nat} {r v : Int} (a : Nat) (hr : r = (a : Int)) (hs : mSH[a]? = some (t, n)) (ht : 20 ≤ t ∧ t < 25) (hv : (n : Int) = v) (hd : decode B.2.1 pc = .ok (.arraylength, 1)) (kk : mmT B d 0 0 Q (pc + 1) lc ((0, v) :: st) mS mem) : mmT B d 0 0 Q pc lc ((2, r) :: st) mS mem := by
  subst hv
  exact st_alen a hr hs ⟨ht.1, by omega⟩ hd kk
theorem so_ifeqB {p : Prop} [Decidable p] {off : Int} (tgt : Nat) (ht : (pc : Int) + off = (tgt : Int)) (hd : decode B.2.1 pc = .ok (.ifCond .eq off, 3)) (kt : ¬ p → mmT B d 0 0 Q tgt lc st mS mem) (kf : p → mmT B d 0 0 Q (pc + 3) lc st mS mem) : mmT B d 0 0 Q pc lc ((0, b2i p) :: st) mS mem :=
  sr_if_eq tgt (by have := b2i_rng p; omega) ht hd (fun h => kt (fun q => by rw [b2i_1 q] at h; cases h)) (fun h => kf (Classical.byContradiction fun q => h (b2i_0 q)))
theorem so_ifneB {p : Prop} [Decidable p] {off : Int} (tgt : Nat) (ht : (pc : Int) + off = (tgt : Int)) (hd : decode B.2.1 pc = .ok (.ifCond .ne off, 3)) (kt : p → mmT B d 0 0 Q tgt lc st mS mem) (kf : ¬ p → mmT B d 0 0 Q (pc + 3) lc st mS mem) : mmT B d 0 0 Q pc lc ((0, b2i p) :: st) mS mem :=
  sr_if_ne tgt (by have := b2i_rng p; omega) ht hd (fun h => kt (Classical.byContradiction fun q => h (b2i_0 q))) (fun h => kf (fun q => by rw [b2i_1 q] at h; cases h))
theorem so_tabI {df lo hi x off : Int} {offs : Array Int} {len : Nat} (tgt : Nat) (hx : R32 x) (j : Int) (hj : x = j) (h1 : ¬ j < lo) (h2 : ¬ hi < j) (ho : offs[(j - lo).toNat]? = some off) (ht : (pc : Int) + off = (tgt : Int)) (hd : decode B.2.1 pc = .ok (.tableswitch df lo hi offs, len)) (k : mmT B d 0 0 Q tgt lc st mS mem) : mmT B d 0 0 Q pc lc ((0, x) :: st) mS mem := by
  have e : w32 x = j := by rw [w32_id hx.1 hx.2, hj]
  exact st_tableIn tgt (by rw [e]; exact h1) (by rw [e]; exact h2) (by rw [e]; exact ho) ht hd k
theorem so_tabO {df lo hi x : Int} {offs : Array Int} {len : Nat} (tgt : Nat) (hx : R32 x) (h : x < lo ∨ hi < x) (ht : (pc : Int) + df = (tgt : Int)) (hd : decode B.2.1 pc = .ok (.tableswitch df lo hi offs, len)) (k : mmT B d 0 0 Q tgt lc st mS mem) : mmT B d 0 0 Q pc lc ((0, x) :: st) mS mem :=
  st_tableOut tgt (by rw [w32_id hx.1 hx.2]; exact h) ht hd k
theorem so_look {df x off : Int} {ps : Array (Int × Int)} {len : Nat} (tgt : Nat) (hx : R32 x) (hp : (ps.toList.zip (ps.toList.drop 1)).all (fun (a, next) => a.1 < next.1) = true) (ho : Op.lookupswitch.offset ps.toList df x = off) (ht : (pc : Int) + off = (tgt : Int)) (hd : decode B.2.1 pc = .ok (.lookupswitch df ps, len)) (k : mmT B d 0 0 Q tgt lc st mS mem) : mmT B d 0 0 Q pc lc ((0, x) :: st) mS mem :=
  st_lookup tgt hp (by rw [w32_id hx.1 hx.2]; exact ho) ht hd k
end MMro
