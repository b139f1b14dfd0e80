section MMar
variable {B : mmB} {d kc ks : Nat} {Q : mmQ} {pc : Nat} {lc st : List mmV} {sh : mmS} {mem : mmM}
theorem st_iadd {x y : Int} (hd : decode B.2.1 pc = .ok (.iadd, 1)) (k : mmT B d kc ks Q (pc + 1) lc ((0, x + y) :: st) sh mem) : mmT B d kc ks Q pc lc ((0, y) :: (0, x) :: st) sh mem := by
  intro p l e R s m args below meth c G H locs cells slots ls X
  have h := k p l e R s m args below meth c G H locs cells slots ls X
  change W p l e R s m args below meth c H locs cells slots _ (F0 m (pc + 1) ls (.int (Int32.ofInt (x + y)) :: st.map (mmEnc G))) at h
  rw [Int32.ofInt_add] at h
  exact lv_iadd X.1.1 X.1.2.1 hd h
theorem st_isub {x y : Int} (hd : decode B.2.1 pc = .ok (.isub, 1)) (k : mmT B d kc ks Q (pc + 1) lc ((0, x - y) :: st) sh mem) : mmT B d kc ks Q pc lc ((0, y) :: (0, x) :: st) sh mem := by
  intro p l e R s m args below meth c G H locs cells slots ls X
  have h := k p l e R s m args below meth c G H locs cells slots ls X
  change W p l e R s m args below meth c H locs cells slots _ (F0 m (pc + 1) ls (.int (Int32.ofInt (x - y)) :: st.map (mmEnc G))) at h
  rw [Int32.ofInt_sub] at h
  exact lv_isub X.1.1 X.1.2.1 hd h
theorem st_imul {x y : Int} (hd : decode B.2.1 pc = .ok (.imul, 1)) (k : mmT B d kc ks Q (pc + 1) lc ((0, x * y) :: st) sh mem) : mmT B d kc ks Q pc lc ((0, y) :: (0, x) :: st) sh mem := by
  intro p l e R s m args below meth c G H locs cells slots ls X
  have h := k p l e R s m args below meth c G H locs cells slots ls X
  change W p l e R s m args below meth c H locs cells slots _ (F0 m (pc + 1) ls (.int (Int32.ofInt (x * y)) :: st.map (mmEnc G))) at h
  rw [Int32.ofInt_mul] at h
  exact lv_imul X.1.1 X.1.2.1 hd h
theorem st_ladd {x y : Int} (hd : decode B.2.1 pc = .ok (.ladd, 1)) (k : mmT B d kc ks Q (pc + 1) lc ((1, x + y) :: st) sh mem) : mmT B d kc ks Q pc lc ((1, y) :: (1, x) :: st) sh mem := by
  intro p l e R s m args below meth c G H locs cells slots ls X
  have h := k p l e R s m args below meth c G H locs cells slots ls X
  change W p l e R s m args below meth c H locs cells slots _ (F0 m (pc + 1) ls (.long (Int64.ofInt (x + y)) :: st.map (mmEnc G))) at h
  rw [Int64.ofInt_add] at h
  exact lv_ladd X.1.1 X.1.2.1 hd h
theorem st_lsub {x y : Int} (hd : decode B.2.1 pc = .ok (.lsub, 1)) (k : mmT B d kc ks Q (pc + 1) lc ((1, x - y) :: st) sh mem) : mmT B d kc ks Q pc lc ((1, y) :: (1, x) :: st) sh mem := by
  intro p l e R s m args below meth c G H locs cells slots ls X
  have h := k p l e R s m args below meth c G H locs cells slots ls X
  change W p l e R s m args below meth c H locs cells slots _ (F0 m (pc + 1) ls (.long (Int64.ofInt (x - y)) :: st.map (mmEnc G))) at h
  rw [Int64.ofInt_sub] at h
  exact lv_lsub X.1.1 X.1.2.1 hd h
theorem st_lmul {x y : Int} (hd : decode B.2.1 pc = .ok (.lmul, 1)) (k : mmT B d kc ks Q (pc + 1) lc ((1, x * y) :: st) sh mem) : mmT B d kc ks Q pc lc ((1, y) :: (1, x) :: st) sh mem := by
  intro p l e R s m args below meth c G H locs cells slots ls X
  have h := k p l e R s m args below meth c G H locs cells slots ls X
  change W p l e R s m args below meth c H locs cells slots _ (F0 m (pc + 1) ls (.long (Int64.ofInt (x * y)) :: st.map (mmEnc G))) at h
  rw [Int64.ofInt_mul] at h
  exact lv_lmul X.1.1 X.1.2.1 hd h
theorem st_iand {x y : Int} (hd : decode B.2.1 pc = .ok (.iand, 1)) (k : mmT B d kc ks Q (pc + 1) lc ((0, and32 x y) :: st) sh mem) : mmT B d kc ks Q pc lc ((0, y) :: (0, x) :: st) sh mem := by
  intro p l e R s m args below meth c G H locs cells slots ls X
  have h := k p l e R s m args below meth c G H locs cells slots ls X
  change W p l e R s m args below meth c H locs cells slots _ (F0 m (pc + 1) ls (.int (Int32.ofInt (and32 x y)) :: st.map (mmEnc G))) at h
  unfold and32 at h
  rw [Int32.ofInt_toInt] at h
  exact lv_iand X.1.1 X.1.2.1 hd h
theorem st_ior {x y : Int} (hd : decode B.2.1 pc = .ok (.ior, 1)) (k : mmT B d kc ks Q (pc + 1) lc ((0, or32 x y) :: st) sh mem) : mmT B d kc ks Q pc lc ((0, y) :: (0, x) :: st) sh mem := by
  intro p l e R s m args below meth c G H locs cells slots ls X
  have h := k p l e R s m args below meth c G H locs cells slots ls X
  change W p l e R s m args below meth c H locs cells slots _ (F0 m (pc + 1) ls (.int (Int32.ofInt (or32 x y)) :: st.map (mmEnc G))) at h
  unfold or32 at h
  rw [Int32.ofInt_toInt] at h
  exact lv_ior X.1.1 X.1.2.1 hd h
theorem st_ixor {x y : Int} (hd : decode B.2.1 pc = .ok (.ixor, 1)) (k : mmT B d kc ks Q (pc + 1) lc ((0, xor32 x y) :: st) sh mem) : mmT B d kc ks Q pc lc ((0, y) :: (0, x) :: st) sh mem := by
  intro p l e R s m args below meth c G H locs cells slots ls X
  have h := k p l e R s m args below meth c G H locs cells slots ls X
  change W p l e R s m args below meth c H locs cells slots _ (F0 m (pc + 1) ls (.int (Int32.ofInt (xor32 x y)) :: st.map (mmEnc G))) at h
  unfold xor32 at h
  rw [Int32.ofInt_toInt] at h
  exact lv_ixor X.1.1 X.1.2.1 hd h
theorem st_ishl {x y : Int} (hd : decode B.2.1 pc = .ok (.ishl, 1)) (k : mmT B d kc ks Q (pc + 1) lc ((0, shl32 x y) :: st) sh mem) : mmT B d kc ks Q pc lc ((0, y) :: (0, x) :: st) sh mem := by
  intro p l e R s m args below meth c G H locs cells slots ls X
  have h := k p l e R s m args below meth c G H locs cells slots ls X
  change W p l e R s m args below meth c H locs cells slots _ (F0 m (pc + 1) ls (.int (Int32.ofInt (shl32 x y)) :: st.map (mmEnc G))) at h
  unfold shl32 at h
  rw [Int32.ofInt_toInt] at h
  exact lv_ishl X.1.1 X.1.2.1 hd h
theorem st_ishr {x y : Int} (hd : decode B.2.1 pc = .ok (.ishr, 1)) (k : mmT B d kc ks Q (pc + 1) lc ((0, shr32 x y) :: st) sh mem) : mmT B d kc ks Q pc lc ((0, y) :: (0, x) :: st) sh mem := by
  intro p l e R s m args below meth c G H locs cells slots ls X
  have h := k p l e R s m args below meth c G H locs cells slots ls X
  change W p l e R s m args below meth c H locs cells slots _ (F0 m (pc + 1) ls (.int (Int32.ofInt (shr32 x y)) :: st.map (mmEnc G))) at h
  unfold shr32 at h
  rw [Int32.ofInt_toInt] at h
  exact lv_ishr X.1.1 X.1.2.1 hd h
theorem st_iushr {x y : Int} (hd : decode B.2.1 pc = .ok (.iushr, 1)) (k : mmT B d kc ks Q (pc + 1) lc ((0, ushr32 x y) :: st) sh mem) : mmT B d kc ks Q pc lc ((0, y) :: (0, x) :: st) sh mem := by
  intro p l e R s m args below meth c G H locs cells slots ls X
  have h := k p l e R s m args below meth c G H locs cells slots ls X
  change W p l e R s m args below meth c H locs cells slots _ (F0 m (pc + 1) ls (.int (Int32.ofInt (ushr32 x y)) :: st.map (mmEnc G))) at h
  unfold ushr32 at h
  rw [Int32.ofInt_toInt] at h
  exact lv_iushr X.1.1 X.1.2.1 hd rfl h
theorem st_ineg {x : Int} (hd : decode B.2.1 pc = .ok (.ineg, 1)) (k : mmT B d kc ks Q (pc + 1) lc ((0, -x) :: st) sh mem) : mmT B d kc ks Q pc lc ((0, x) :: st) sh mem := by
  intro p l e R s m args below meth c G H locs cells slots ls X
  have h := k p l e R s m args below meth c G H locs cells slots ls X
  change W p l e R s m args below meth c H locs cells slots _ (F0 m (pc + 1) ls (.int (Int32.ofInt (-x)) :: st.map (mmEnc G))) at h
  rw [Int32.ofInt_neg] at h
  exact lv_ineg X.1.1 X.1.2.1 hd h
theorem st_land {x y : Int} (hd : decode B.2.1 pc = .ok (.land, 1)) (k : mmT B d kc ks Q (pc + 1) lc ((1, and64 x y) :: st) sh mem) : mmT B d kc ks Q pc lc ((1, y) :: (1, x) :: st) sh mem := by
  intro p l e R s m args below meth c G H locs cells slots ls X
  have h := k p l e R s m args below meth c G H locs cells slots ls X
  change W p l e R s m args below meth c H locs cells slots _ (F0 m (pc + 1) ls (.long (Int64.ofInt (and64 x y)) :: st.map (mmEnc G))) at h
  unfold and64 at h
  rw [Int64.ofInt_toInt] at h
  exact lv_land X.1.1 X.1.2.1 hd h
theorem st_lor {x y : Int} (hd : decode B.2.1 pc = .ok (.lor, 1)) (k : mmT B d kc ks Q (pc + 1) lc ((1, or64 x y) :: st) sh mem) : mmT B d kc ks Q pc lc ((1, y) :: (1, x) :: st) sh mem := by
  intro p l e R s m args below meth c G H locs cells slots ls X
  have h := k p l e R s m args below meth c G H locs cells slots ls X
  change W p l e R s m args below meth c H locs cells slots _ (F0 m (pc + 1) ls (.long (Int64.ofInt (or64 x y)) :: st.map (mmEnc G))) at h
  unfold or64 at h
  rw [Int64.ofInt_toInt] at h
  exact lv_lor X.1.1 X.1.2.1 hd h
theorem st_lshl {x y : Int} (hd : decode B.2.1 pc = .ok (.lshl, 1)) (k : mmT B d kc ks Q (pc + 1) lc ((1, shl64 x y) :: st) sh mem) : mmT B d kc ks Q pc lc ((0, y) :: (1, x) :: st) sh mem := by
  intro p l e R s m args below meth c G H locs cells slots ls X
  have h := k p l e R s m args below meth c G H locs cells slots ls X
  change W p l e R s m args below meth c H locs cells slots _ (F0 m (pc + 1) ls (.long (Int64.ofInt (shl64 x y)) :: st.map (mmEnc G))) at h
  unfold shl64 at h
  rw [Int64.ofInt_toInt] at h
  exact lv_lshl X.1.1 X.1.2.1 hd rfl h
theorem st_lushr {x y : Int} (hd : decode B.2.1 pc = .ok (.lushr, 1)) (k : mmT B d kc ks Q (pc + 1) lc ((1, ushr64 x y) :: st) sh mem) : mmT B d kc ks Q pc lc ((0, y) :: (1, x) :: st) sh mem := by
  intro p l e R s m args below meth c G H locs cells slots ls X
  have h := k p l e R s m args below meth c G H locs cells slots ls X
  change W p l e R s m args below meth c H locs cells slots _ (F0 m (pc + 1) ls (.long (Int64.ofInt (ushr64 x y)) :: st.map (mmEnc G))) at h
  unfold ushr64 at h
  rw [Int64.ofInt_toInt] at h
  exact lv_lushr X.1.1 X.1.2.1 hd rfl h
theorem mm_ne32 {y : Int} (h : w32 y ≠ 0) : ¬ Int32.ofInt y = 0 := fun q => h (by rw [← w32_toInt, q]; rfl)
theorem mm_ne64 {y : Int} (h : w64 y ≠ 0) : ¬ Int64.ofInt y = 0 := fun q => h (by rw [← w64_toInt, q]; rfl)
theorem st_idiv {x y : Int} (hy : w32 y ≠ 0) (hd : decode B.2.1 pc = .ok (.idiv, 1)) (k : mmT B d kc ks Q (pc + 1) lc ((0, div32 x y) :: st) sh mem) : mmT B d kc ks Q pc lc ((0, y) :: (0, x) :: st) sh mem := by
  intro p l e R s m args below meth c G H locs cells slots ls X
  have h := k p l e R s m args below meth c G H locs cells slots ls X
  change W p l e R s m args below meth c H locs cells slots _ (F0 m (pc + 1) ls (.int (Int32.ofInt (div32 x y)) :: st.map (mmEnc G))) at h
  unfold div32 at h
  rw [Int32.ofInt_toInt] at h
  exact lv_idiv X.1.1 X.1.2.1 hd (mm_ne32 hy) h
theorem st_irem {x y : Int} (hy : w32 y ≠ 0) (hd : decode B.2.1 pc = .ok (.irem, 1)) (k : mmT B d kc ks Q (pc + 1) lc ((0, rem32 x y) :: st) sh mem) : mmT B d kc ks Q pc lc ((0, y) :: (0, x) :: st) sh mem := by
  intro p l e R s m args below meth c G H locs cells slots ls X
  have h := k p l e R s m args below meth c G H locs cells slots ls X
  change W p l e R s m args below meth c H locs cells slots _ (F0 m (pc + 1) ls (.int (Int32.ofInt (rem32 x y)) :: st.map (mmEnc G))) at h
  unfold rem32 at h
  rw [Int32.ofInt_toInt] at h
  exact lv_irem X.1.1 X.1.2.1 hd (mm_ne32 hy) h
theorem st_ldiv {x y : Int} (hy : w64 y ≠ 0) (hd : decode B.2.1 pc = .ok (.ldiv, 1)) (k : mmT B d kc ks Q (pc + 1) lc ((1, div64 x y) :: st) sh mem) : mmT B d kc ks Q pc lc ((1, y) :: (1, x) :: st) sh mem := by
  intro p l e R s m args below meth c G H locs cells slots ls X
  have h := k p l e R s m args below meth c G H locs cells slots ls X
  change W p l e R s m args below meth c H locs cells slots _ (F0 m (pc + 1) ls (.long (Int64.ofInt (div64 x y)) :: st.map (mmEnc G))) at h
  unfold div64 at h
  rw [Int64.ofInt_toInt] at h
  exact lv_ldiv X.1.1 X.1.2.1 hd (mm_ne64 hy) h
theorem st_lrem {x y : Int} (hy : w64 y ≠ 0) (hd : decode B.2.1 pc = .ok (.lrem, 1)) (k : mmT B d kc ks Q (pc + 1) lc ((1, rem64 x y) :: st) sh mem) : mmT B d kc ks Q pc lc ((1, y) :: (1, x) :: st) sh mem := by
  intro p l e R s m args below meth c G H locs cells slots ls X
  have h := k p l e R s m args below meth c G H locs cells slots ls X
  change W p l e R s m args below meth c H locs cells slots _ (F0 m (pc + 1) ls (.long (Int64.ofInt (rem64 x y)) :: st.map (mmEnc G))) at h
  unfold rem64 at h
  rw [Int64.ofInt_toInt] at h
  exact lv_lrem X.1.1 X.1.2.1 hd (mm_ne64 hy) h
theorem st_i2l {x : Int} (hd : decode B.2.1 pc = .ok (.i2l, 1)) (k : mmT B d kc ks Q (pc + 1) lc ((1, w32 x) :: st) sh mem) : mmT B d kc ks Q pc lc ((0, x) :: st) sh mem := by
  intro p l e R s m args below meth c G H locs cells slots ls X
  have h := k p l e R s m args below meth c G H locs cells slots ls X
  exact lv_i2l X.1.1 X.1.2.1 hd (v := Int64.ofInt (w32 x)) (Int64.toInt_inj.mp (by rw [Int32.toInt_toInt64, w32_toInt, w64_toInt, w64_id (by have := w32_rng x; omega) (by have := w32_rng x; omega)])) h
theorem st_l2i {x : Int} (hd : decode B.2.1 pc = .ok (.l2i, 1)) (k : mmT B d kc ks Q (pc + 1) lc ((0, x) :: st) sh mem) : mmT B d kc ks Q pc lc ((1, x) :: st) sh mem := by
  intro p l e R s m args below meth c G H locs cells slots ls X
  have h := k p l e R s m args below meth c G H locs cells slots ls X
  exact lv_l2i X.1.1 X.1.2.1 hd (v := Int32.ofInt x) Int64.toInt32_ofInt h
theorem st_lcmp {x y : Int} (hd : decode B.2.1 pc = .ok (.lcmp, 1)) (k : mmT B d kc ks Q (pc + 1) lc ((0, cmp64 x y) :: st) sh mem) : mmT B d kc ks Q pc lc ((1, y) :: (1, x) :: st) sh mem := by
  intro p l e R s m args below meth c G H locs cells slots ls X
  have h := k p l e R s m args below meth c G H locs cells slots ls X
  have e : lg_cmp (Int64.ofInt x) (Int64.ofInt y) = Int32.ofInt (cmp64 x y) := by
    unfold lg_cmp cmp64
    have h1 : (Int64.ofInt y < Int64.ofInt x) ↔ w64 y < w64 x := by rw [Int64.lt_iff_toInt_lt, w64_toInt, w64_toInt]
    have h2 : (Int64.ofInt x = Int64.ofInt y) ↔ w64 x = w64 y := by rw [← Int64.toInt_inj, w64_toInt, w64_toInt]
    simp only [h1, h2]
    split
    · rfl
    · split <;> rfl
  exact W.lcmp X.1.1 X.1.2.1 hd (by rw [e]; exact h)
theorem st_dup {v : mmV} (hv : v.1 ≠ 1) (hd : decode B.2.1 pc = .ok (.dup, 1)) (k : mmT B d kc ks Q (pc + 1) lc (v :: v :: st) sh mem) : mmT B d kc ks Q pc lc (v :: st) sh mem := by
  intro p l e R s m args below meth c G H locs cells slots ls X
  have h := k p l e R s m args below meth c G H locs cells slots ls X
  exact lv_dup X.1.1 X.1.2.1 hd (mm_cat1 G hv) h
theorem st_dup_x1 {v w : mmV} (hv : v.1 ≠ 1) (hw : w.1 ≠ 1) (hd : decode B.2.1 pc = .ok (.dup_x1, 1)) (k : mmT B d kc ks Q (pc + 1) lc (v :: w :: v :: st) sh mem) : mmT B d kc ks Q pc lc (v :: w :: st) sh mem := by
  intro p l e R s m args below meth c G H locs cells slots ls X
  have h := k p l e R s m args below meth c G H locs cells slots ls X
  exact lv_dup_x1 X.1.1 X.1.2.1 hd (mm_cat1 G hv) (mm_cat1 G hw) h
theorem st_dup2 {v w : mmV} (hv : v.1 ≠ 1) (hw : w.1 ≠ 1) (hd : decode B.2.1 pc = .ok (.dup2, 1)) (k : mmT B d kc ks Q (pc + 1) lc (v :: w :: v :: w :: st) sh mem) : mmT B d kc ks Q pc lc (v :: w :: st) sh mem := by
  intro p l e R s m args below meth c G H locs cells slots ls X
  have h := k p l e R s m args below meth c G H locs cells slots ls X
  exact lv_dup2_11 X.1.1 X.1.2.1 hd (mm_cat1 G hv) (mm_cat1 G hw) h
theorem st_pop {v : mmV} (hv : v.1 ≠ 1) (hd : decode B.2.1 pc = .ok (.pop, 1)) (k : mmT B d kc ks Q (pc + 1) lc (st) sh mem) : mmT B d kc ks Q pc lc (v :: st) sh mem := by
  intro p l e R s m args below meth c G H locs cells slots ls X
  have h := k p l e R s m args below meth c G H locs cells slots ls X
  exact lv_pop X.1.1 X.1.2.1 hd (mm_cat1 G hv) h
theorem st_goto {off : Int} (tgt : Nat) (ht : (pc : Int) + off = (tgt : Int)) (hd : decode B.2.1 pc = .ok (.goto off, 3)) (k : mmT B d kc ks Q tgt lc st sh mem) : mmT B d kc ks Q pc lc st sh mem :=
  fun p l e R s m args below meth c G H locs cells slots ls X => lv_goto X.1.1 X.1.2.1 hd ht (k p l e R s m args below meth c G H locs cells slots ls X)
theorem mm_lt32 {x y : Int} : (Int32.ofInt x < Int32.ofInt y) ↔ w32 x < w32 y := by rw [Int32.lt_iff_toInt_lt, w32_toInt, w32_toInt]
theorem mm_le32 {x y : Int} : (Int32.ofInt x ≤ Int32.ofInt y) ↔ w32 x ≤ w32 y := by rw [Int32.le_iff_toInt_le, w32_toInt, w32_toInt]
theorem mm_eq32 {x y : Int} : (Int32.ofInt x = Int32.ofInt y) ↔ w32 x = w32 y := by rw [← Int32.toInt_inj, w32_toInt, w32_toInt]
theorem mm_w0 : w32 0 = 0 := by decide
theorem st_icmp_eq {x y off : Int} (tgt : Nat) (ht : (pc : Int) + off = (tgt : Int)) (hd : decode B.2.1 pc = .ok (.if_icmp .eq off, 3)) (kt : w32 x = w32 y → mmT B d kc ks Q tgt lc st sh mem) (kf : ¬ (w32 x = w32 y) → mmT B d kc ks Q (pc + 3) lc st sh mem) : mmT B d kc ks Q pc lc ((0, y) :: (0, x) :: st) sh mem :=
  fun p l e R s m args below meth c G H locs cells slots ls X => lv_icmp_eq X.1.1 X.1.2.1 hd ht (fun h => kt (mm_eq32.mp h) p l e R s m args below meth c G H locs cells slots ls X) (fun h => kf (fun q => h (mm_eq32.mpr q)) p l e R s m args below meth c G H locs cells slots ls X)
theorem st_if_eq {x off : Int} (tgt : Nat) (ht : (pc : Int) + off = (tgt : Int)) (hd : decode B.2.1 pc = .ok (.ifCond .eq off, 3)) (kt : w32 x = 0 → mmT B d kc ks Q tgt lc st sh mem) (kf : ¬ (w32 x = 0) → mmT B d kc ks Q (pc + 3) lc st sh mem) : mmT B d kc ks Q pc lc ((0, x) :: st) sh mem :=
  fun p l e R s m args below meth c G H locs cells slots ls X => lv_if_eq X.1.1 X.1.2.1 hd ht (fun h => kt (by have q := mm_eq32.mp (show Int32.ofInt x = Int32.ofInt 0 from h); rw [mm_w0] at q; exact q) p l e R s m args below meth c G H locs cells slots ls X) (fun h => kf (fun q => h (show Int32.ofInt x = Int32.ofInt 0 from mm_eq32.mpr (by rw [mm_w0]; exact q))) p l e R s m args below meth c G H locs cells slots ls X)
theorem st_icmp_ne {x y off : Int} (tgt : Nat) (ht : (pc : Int) + off = (tgt : Int)) (hd : decode B.2.1 pc = .ok (.if_icmp .ne off, 3)) (kt : w32 x ≠ w32 y → mmT B d kc ks Q tgt lc st sh mem) (kf : w32 x = w32 y → mmT B d kc ks Q (pc + 3) lc st sh mem) : mmT B d kc ks Q pc lc ((0, y) :: (0, x) :: st) sh mem :=
  fun p l e R s m args below meth c G H locs cells slots ls X => lv_icmp_ne X.1.1 X.1.2.1 hd ht (fun h => kt ((not_congr mm_eq32).mp h) p l e R s m args below meth c G H locs cells slots ls X) (fun h => kf (mm_eq32.mp h) p l e R s m args below meth c G H locs cells slots ls X)
theorem st_if_ne {x off : Int} (tgt : Nat) (ht : (pc : Int) + off = (tgt : Int)) (hd : decode B.2.1 pc = .ok (.ifCond .ne off, 3)) (kt : w32 x ≠ 0 → mmT B d kc ks Q tgt lc st sh mem) (kf : w32 x = 0 → mmT B d kc ks Q (pc + 3) lc st sh mem) : mmT B d kc ks Q pc lc ((0, x) :: st) sh mem :=
  fun p l e R s m args below meth c G H locs cells slots ls X => lv_if_ne X.1.1 X.1.2.1 hd ht (fun h => kt (by have q := (not_congr mm_eq32).mp (show ¬ Int32.ofInt x = Int32.ofInt 0 from h); rw [mm_w0] at q; exact q) p l e R s m args below meth c G H locs cells slots ls X) (fun h => kf (by have q := mm_eq32.mp (show Int32.ofInt x = Int32.ofInt 0 from h); rw [mm_w0] at q; exact q) p l e R s m args below meth c G H locs cells slots ls X)
theorem st_icmp_lt {x y off : Int} (tgt : Nat) (ht : (pc : Int) + off = (tgt : Int)) (hd : decode B.2.1 pc = .ok (.if_icmp .lt off, 3)) (kt : w32 x < w32 y → mmT B d kc ks Q tgt lc st sh mem) (kf : ¬ (w32 x < w32 y) → mmT B d kc ks Q (pc + 3) lc st sh mem) : mmT B d kc ks Q pc lc ((0, y) :: (0, x) :: st) sh mem :=
  fun p l e R s m args below meth c G H locs cells slots ls X => lv_icmp_lt X.1.1 X.1.2.1 hd ht (fun h => kt (mm_lt32.mp h) p l e R s m args below meth c G H locs cells slots ls X) (fun h => kf (fun q => h (mm_lt32.mpr q)) p l e R s m args below meth c G H locs cells slots ls X)
theorem st_if_lt {x off : Int} (tgt : Nat) (ht : (pc : Int) + off = (tgt : Int)) (hd : decode B.2.1 pc = .ok (.ifCond .lt off, 3)) (kt : w32 x < 0 → mmT B d kc ks Q tgt lc st sh mem) (kf : ¬ (w32 x < 0) → mmT B d kc ks Q (pc + 3) lc st sh mem) : mmT B d kc ks Q pc lc ((0, x) :: st) sh mem :=
  fun p l e R s m args below meth c G H locs cells slots ls X => lv_if_lt X.1.1 X.1.2.1 hd ht (fun h => kt (by have q := mm_lt32.mp (show Int32.ofInt x < Int32.ofInt 0 from h); rw [mm_w0] at q; exact q) p l e R s m args below meth c G H locs cells slots ls X) (fun h => kf (fun q => h (show Int32.ofInt x < Int32.ofInt 0 from mm_lt32.mpr (by rw [mm_w0]; exact q))) p l e R s m args below meth c G H locs cells slots ls X)
theorem st_icmp_ge {x y off : Int} (tgt : Nat) (ht : (pc : Int) + off = (tgt : Int)) (hd : decode B.2.1 pc = .ok (.if_icmp .ge off, 3)) (kt : w32 x ≥ w32 y → mmT B d kc ks Q tgt lc st sh mem) (kf : ¬ (w32 x ≥ w32 y) → mmT B d kc ks Q (pc + 3) lc st sh mem) : mmT B d kc ks Q pc lc ((0, y) :: (0, x) :: st) sh mem :=
  fun p l e R s m args below meth c G H locs cells slots ls X => lv_icmp_ge X.1.1 X.1.2.1 hd ht (fun h => kt (mm_le32.mp h) p l e R s m args below meth c G H locs cells slots ls X) (fun h => kf (fun q => h (mm_le32.mpr q)) p l e R s m args below meth c G H locs cells slots ls X)
theorem st_if_ge {x off : Int} (tgt : Nat) (ht : (pc : Int) + off = (tgt : Int)) (hd : decode B.2.1 pc = .ok (.ifCond .ge off, 3)) (kt : w32 x ≥ 0 → mmT B d kc ks Q tgt lc st sh mem) (kf : ¬ (w32 x ≥ 0) → mmT B d kc ks Q (pc + 3) lc st sh mem) : mmT B d kc ks Q pc lc ((0, x) :: st) sh mem :=
  fun p l e R s m args below meth c G H locs cells slots ls X => lv_if_ge X.1.1 X.1.2.1 hd ht (fun h => kt (by have q := mm_le32.mp (show Int32.ofInt 0 ≤ Int32.ofInt x from h); rw [mm_w0] at q; exact q) p l e R s m args below meth c G H locs cells slots ls X) (fun h => kf (fun q => h (show Int32.ofInt 0 ≤ Int32.ofInt x from mm_le32.mpr (by rw [mm_w0]; exact q))) p l e R s m args below meth c G H locs cells slots ls X)
theorem st_icmp_gt {x y off : Int} (tgt : Nat) (ht : (pc : Int) + off = (tgt : Int)) (hd : decode B.2.1 pc = .ok (.if_icmp .gt off, 3)) (kt : w32 x > w32 y → mmT B d kc ks Q tgt lc st sh mem) (kf : ¬ (w32 x > w32 y) → mmT B d kc ks Q (pc + 3) lc st sh mem) : mmT B d kc ks Q pc lc ((0, y) :: (0, x) :: st) sh mem :=
  fun p l e R s m args below meth c G H locs cells slots ls X => lv_icmp_gt X.1.1 X.1.2.1 hd ht (fun h => kt (mm_lt32.mp h) p l e R s m args below meth c G H locs cells slots ls X) (fun h => kf (fun q => h (mm_lt32.mpr q)) p l e R s m args below meth c G H locs cells slots ls X)
theorem st_if_gt {x off : Int} (tgt : Nat) (ht : (pc : Int) + off = (tgt : Int)) (hd : decode B.2.1 pc = .ok (.ifCond .gt off, 3)) (kt : w32 x > 0 → mmT B d kc ks Q tgt lc st sh mem) (kf : ¬ (w32 x > 0) → mmT B d kc ks Q (pc + 3) lc st sh mem) : mmT B d kc ks Q pc lc ((0, x) :: st) sh mem :=
  fun p l e R s m args below meth c G H locs cells slots ls X => lv_if_gt X.1.1 X.1.2.1 hd ht (fun h => kt (by have q := mm_lt32.mp (show Int32.ofInt 0 < Int32.ofInt x from h); rw [mm_w0] at q; exact q) p l e R s m args below meth c G H locs cells slots ls X) (fun h => kf (fun q => h (show Int32.ofInt 0 < Int32.ofInt x from mm_lt32.mpr (by rw [mm_w0]; exact q))) p l e R s m args below meth c G H locs cells slots ls X)
theorem st_icmp_le {x y off : Int} (tgt : Nat) (ht : (pc : Int) + off = (tgt : Int)) (hd : decode B.2.1 pc = .ok (.if_icmp .le off, 3)) (kt : w32 x ≤ w32 y → mmT B d kc ks Q tgt lc st sh mem) (kf : ¬ (w32 x ≤ w32 y) → mmT B d kc ks Q (pc + 3) lc st sh mem) : mmT B d kc ks Q pc lc ((0, y) :: (0, x) :: st) sh mem :=
  fun p l e R s m args below meth c G H locs cells slots ls X => lv_icmp_le X.1.1 X.1.2.1 hd ht (fun h => kt (mm_le32.mp h) p l e R s m args below meth c G H locs cells slots ls X) (fun h => kf (fun q => h (mm_le32.mpr q)) p l e R s m args below meth c G H locs cells slots ls X)
theorem st_if_le {x off : Int} (tgt : Nat) (ht : (pc : Int) + off = (tgt : Int)) (hd : decode B.2.1 pc = .ok (.ifCond .le off, 3)) (kt : w32 x ≤ 0 → mmT B d kc ks Q tgt lc st sh mem) (kf : ¬ (w32 x ≤ 0) → mmT B d kc ks Q (pc + 3) lc st sh mem) : mmT B d kc ks Q pc lc ((0, x) :: st) sh mem :=
  fun p l e R s m args below meth c G H locs cells slots ls X => lv_if_le X.1.1 X.1.2.1 hd ht (fun h => kt (by have q := mm_le32.mp (show Int32.ofInt x ≤ Int32.ofInt 0 from h); rw [mm_w0] at q; exact q) p l e R s m args below meth c G H locs cells slots ls X) (fun h => kf (fun q => h (show Int32.ofInt x ≤ Int32.ofInt 0 from mm_le32.mpr (by rw [mm_w0]; exact q))) p l e R s m args below meth c G H locs cells slots ls X)
theorem st_ifnonnull {x off : Int} (tgt : Nat) (ht : (pc : Int) + off = (tgt : Int)) (hd : decode B.2.1 pc = .ok (.ifnonnull off, 3)) (kt : 0 ≤ x → mmT B d kc ks Q tgt lc st sh mem) (kf : x < 0 → mmT B d kc ks Q (pc + 3) lc st sh mem) : mmT B d kc ks Q pc lc ((2, x) :: st) sh mem := by
  intro p l e R s m args below meth c G H locs cells slots ls X
  show W p l e R s m args below meth c H locs cells slots _ (F0 m pc ls (va_rf (mmRf G x) :: st.map (mmEnc G)))
  by_cases h : x < 0
  · have e1 : mmRf G x = none := by unfold mmRf; rw [if_pos h]
    rw [e1]
    exact lv_ifnonnullN X.1.1 X.1.2.1 hd (kf h p l e R s m args below meth c G H locs cells slots ls X)
  · have e1 : mmRf G x = some (mmAt G x.toNat) := by unfold mmRf; rw [if_neg h]
    rw [e1]
    exact lv_ifnonnull X.1.1 X.1.2.1 hd ht (kt (by omega) p l e R s m args below meth c G H locs cells slots ls X)
theorem st_ifnull {x off : Int} (tgt : Nat) (ht : (pc : Int) + off = (tgt : Int)) (hd : decode B.2.1 pc = .ok (.ifnull off, 3)) (kt : x < 0 → mmT B d kc ks Q tgt lc st sh mem) (kf : 0 ≤ x → mmT B d kc ks Q (pc + 3) lc st sh mem) : mmT B d kc ks Q pc lc ((2, x) :: st) sh mem := by
  intro p l e R s m args below meth c G H locs cells slots ls X
  show W p l e R s m args below meth c H locs cells slots _ (F0 m pc ls (va_rf (mmRf G x) :: st.map (mmEnc G)))
  by_cases h : x < 0
  · have e1 : mmRf G x = none := by unfold mmRf; rw [if_pos h]
    rw [e1]
    exact lv_ifnullN X.1.1 X.1.2.1 hd ht (kt h p l e R s m args below meth c G H locs cells slots ls X)
  · have e1 : mmRf G x = some (mmAt G x.toNat) := by unfold mmRf; rw [if_neg h]
    rw [e1]
    exact lv_ifnull X.1.1 X.1.2.1 hd (kf (by omega) p l e R s m args below meth c G H locs cells slots ls X)
theorem st_aconst_null (hd : decode B.2.1 pc = .ok (.aconst_null, 1)) (k : mmT B d kc ks Q (pc + 1) lc ((2, -1) :: st) sh mem) : mmT B d kc ks Q pc lc st sh mem :=
  fun p l e R s m args below meth c G H locs cells slots ls X => lv_null X.1.1 X.1.2.1 hd (k p l e R s m args below meth c G H locs cells slots ls X)
theorem st_tableOut {df lo hi x : Int} {offs : Array Int} {len : Nat} (tgt : Nat) (h : w32 x < lo ∨ hi < w32 x) (ht : (pc : Int) + df = (tgt : Int)) (hd : decode B.2.1 pc = .ok (.tableswitch df lo hi offs, len)) (k : mmT B d kc ks Q tgt lc st sh mem) : mmT B d kc ks Q pc lc ((0, x) :: st) sh mem :=
  fun p l e R s m args below meth c G H locs cells slots ls X => lv_tableOut X.1.1 X.1.2.1 hd (by rw [w32_toInt]; exact h) ht (k p l e R s m args below meth c G H locs cells slots ls X)
theorem st_tableIn {df lo hi x off : Int} {offs : Array Int} {len : Nat} (tgt : Nat) (h1 : ¬ w32 x < lo) (h2 : ¬ hi < w32 x) (ho : offs[(w32 x - lo).toNat]? = some off) (ht : (pc : Int) + off = (tgt : Int)) (hd : decode B.2.1 pc = .ok (.tableswitch df lo hi offs, len)) (k : mmT B d kc ks Q tgt lc st sh mem) : mmT B d kc ks Q pc lc ((0, x) :: st) sh mem :=
  fun p l e R s m args below meth c G H locs cells slots ls X => lv_tableIn X.1.1 X.1.2.1 hd (by rw [w32_toInt]; exact h1) (by rw [w32_toInt]; exact h2) (by rw [w32_toInt]; exact ho) ht (k p l e R s m args below meth c G H locs cells slots ls X)
theorem st_lookup {df x off : Int} {ps : Array (Int × Int)} {len : Nat} (tgt : Nat) (hp : (ps.toList.zip (ps.toList.drop 1)).all (fun (a, next) => a.1 < next.1) = true) (ho : Op.lookupswitch.offset ps.toList df (w32 x) = off) (ht : (pc : Int) + off = (tgt : Int)) (hd : decode B.2.1 pc = .ok (.lookupswitch df ps, len)) (k : mmT B d kc ks Q tgt lc st sh mem) : mmT B d kc ks Q pc lc ((0, x) :: st) sh mem :=
  fun p l e R s m args below meth c G H locs cells slots ls X => lv_lookup X.1.1 X.1.2.1 hd hp (by rw [w32_toInt]; exact ho) ht (k p l e R s m args below meth c G H locs cells slots ls X)
/-- a local that is said no more, or another list of locals that holds no more -/
def mmWk : List mmV → List mmV → Prop
  | [], _ => True
  | a :: as, b :: bs => (a.1 = 9 ∨ a = b) ∧ mmWk as bs
  | _ :: _, [] => False
theorem mmWk.at : ∀ {l' l : List mmV}, mmWk l' l → ∀ (i : Nat) (v : mmV), l'[i]? = some v → v.1 < 9 → l[i]? = some v
  | [], _, _, i, v, h, _ => by simp at h
  | a :: as, b :: bs, hw, i, v, h, hv => by
    cases i with
    | zero =>
      simp only [List.getElem?_cons_zero, Option.some.injEq] at h ⊢
      subst h
      rcases hw.1 with h1 | h1
      · omega
      · exact h1.symm
    | succ i =>
      simp only [List.getElem?_cons_succ] at h ⊢
      exact mmWk.at hw.2 i v h hv
theorem st_locals (lc' : List mmV) (h : mmWk lc' lc) (k : mmT B d kc ks Q pc lc' st sh mem) : mmT B d kc ks Q pc lc st sh mem := by
  intro p l e R s m args below meth c G H locs cells slots ls X
  obtain ⟨lv, h1, h2⟩ := X.2.2.2.2.1
  exact k p l e R s m args below meth c G H locs cells slots ls (mm_relc X ⟨lv, h1, fun i v hi hv => h2 i v (h.at i v hi hv) hv⟩)
end MMar
