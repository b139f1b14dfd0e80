/-! finer rows: comparisons of numbers within bounds, Math, divisions, results of calls -/
section MMfi
variable {B : mmB} {d kc ks : Nat} {Q : mmQ} {pc : Nat} {lc st : List mmV} {sh : mmS} {mem : mmM}
theorem st_ldcw {i : Nat} {v : Int} (hw : Cond.constant B.1.cls i (Int32.ofInt v) ∈ mm_tbl) (hd : decode B.2.1 pc = .ok (.ldc_w i, 3)) (k : mmT B d kc ks Q (pc + 3) lc ((0, v) :: st) sh mem) : mmT B d kc ks Q pc lc st sh mem :=
  fun p l e R s m args below meth c G H locs cells slots ls X => lv_ldcw X.1.1 X.1.2.1 X.1.2.2.2.2.1 (X.1.2.2.2.2.2.1 _ hw) hd (k p l e R s m args below meth c G H locs cells slots ls X)
theorem sr_icmp_eq {x y off : Int} (tgt : Nat) (hx : R32 x) (hy : R32 y) (ht : (pc : Int) + off = (tgt : Int)) (hd : decode B.2.1 pc = .ok (.if_icmp .eq off, 3)) (kt : x = y → mmT B d kc ks Q tgt lc st sh mem) (kf : ¬ (x = y) → mmT B d kc ks Q (pc + 3) lc st sh mem) : mmT B d kc ks Q pc lc ((0, y) :: (0, x) :: st) sh mem :=
  st_icmp_eq tgt ht hd (fun h => kt (by rw [w32_id hx.1 hx.2, w32_id hy.1 hy.2] at h; exact h)) (fun h => kf (by rw [w32_id hx.1 hx.2, w32_id hy.1 hy.2] at h; exact h))
theorem sr_if_eq {x off : Int} (tgt : Nat) (hx : R32 x) (ht : (pc : Int) + off = (tgt : Int)) (hd : decode B.2.1 pc = .ok (.ifCond .eq off, 3)) (kt : x = 0 → mmT B d kc ks Q tgt lc st sh mem) (kf : ¬ (x = 0) → mmT B d kc ks Q (pc + 3) lc st sh mem) : mmT B d kc ks Q pc lc ((0, x) :: st) sh mem :=
  st_if_eq tgt ht hd (fun h => kt (by rw [w32_id hx.1 hx.2] at h; exact h)) (fun h => kf (by rw [w32_id hx.1 hx.2] at h; exact h))
theorem sr_icmp_ne {x y off : Int} (tgt : Nat) (hx : R32 x) (hy : R32 y) (ht : (pc : Int) + off = (tgt : Int)) (hd : decode B.2.1 pc = .ok (.if_icmp .ne off, 3)) (kt : x ≠ y → mmT B d kc ks Q tgt lc st sh mem) (kf : x = y → mmT B d kc ks Q (pc + 3) lc st sh mem) : mmT B d kc ks Q pc lc ((0, y) :: (0, x) :: st) sh mem :=
  st_icmp_ne tgt ht hd (fun h => kt (by rw [w32_id hx.1 hx.2, w32_id hy.1 hy.2] at h; exact h)) (fun h => kf (by rw [w32_id hx.1 hx.2, w32_id hy.1 hy.2] at h; exact h))
theorem sr_if_ne {x off : Int} (tgt : Nat) (hx : R32 x) (ht : (pc : Int) + off = (tgt : Int)) (hd : decode B.2.1 pc = .ok (.ifCond .ne off, 3)) (kt : x ≠ 0 → mmT B d kc ks Q tgt lc st sh mem) (kf : x = 0 → mmT B d kc ks Q (pc + 3) lc st sh mem) : mmT B d kc ks Q pc lc ((0, x) :: st) sh mem :=
  st_if_ne tgt ht hd (fun h => kt (by rw [w32_id hx.1 hx.2] at h; exact h)) (fun h => kf (by rw [w32_id hx.1 hx.2] at h; exact h))
theorem sr_icmp_lt {x y off : Int} (tgt : Nat) (hx : R32 x) (hy : R32 y) (ht : (pc : Int) + off = (tgt : Int)) (hd : decode B.2.1 pc = .ok (.if_icmp .lt off, 3)) (kt : x < y → mmT B d kc ks Q tgt lc st sh mem) (kf : ¬ (x < y) → mmT B d kc ks Q (pc + 3) lc st sh mem) : mmT B d kc ks Q pc lc ((0, y) :: (0, x) :: st) sh mem :=
  st_icmp_lt tgt ht hd (fun h => kt (by rw [w32_id hx.1 hx.2, w32_id hy.1 hy.2] at h; exact h)) (fun h => kf (by rw [w32_id hx.1 hx.2, w32_id hy.1 hy.2] at h; exact h))
theorem sr_if_lt {x off : Int} (tgt : Nat) (hx : R32 x) (ht : (pc : Int) + off = (tgt : Int)) (hd : decode B.2.1 pc = .ok (.ifCond .lt off, 3)) (kt : x < 0 → mmT B d kc ks Q tgt lc st sh mem) (kf : ¬ (x < 0) → mmT B d kc ks Q (pc + 3) lc st sh mem) : mmT B d kc ks Q pc lc ((0, x) :: st) sh mem :=
  st_if_lt tgt ht hd (fun h => kt (by rw [w32_id hx.1 hx.2] at h; exact h)) (fun h => kf (by rw [w32_id hx.1 hx.2] at h; exact h))
theorem sr_icmp_ge {x y off : Int} (tgt : Nat) (hx : R32 x) (hy : R32 y) (ht : (pc : Int) + off = (tgt : Int)) (hd : decode B.2.1 pc = .ok (.if_icmp .ge off, 3)) (kt : x ≥ y → mmT B d kc ks Q tgt lc st sh mem) (kf : ¬ (x ≥ y) → mmT B d kc ks Q (pc + 3) lc st sh mem) : mmT B d kc ks Q pc lc ((0, y) :: (0, x) :: st) sh mem :=
  st_icmp_ge tgt ht hd (fun h => kt (by rw [w32_id hx.1 hx.2, w32_id hy.1 hy.2] at h; exact h)) (fun h => kf (by rw [w32_id hx.1 hx.2, w32_id hy.1 hy.2] at h; exact h))
theorem sr_if_ge {x off : Int} (tgt : Nat) (hx : R32 x) (ht : (pc : Int) + off = (tgt : Int)) (hd : decode B.2.1 pc = .ok (.ifCond .ge off, 3)) (kt : x ≥ 0 → mmT B d kc ks Q tgt lc st sh mem) (kf : ¬ (x ≥ 0) → mmT B d kc ks Q (pc + 3) lc st sh mem) : mmT B d kc ks Q pc lc ((0, x) :: st) sh mem :=
  st_if_ge tgt ht hd (fun h => kt (by rw [w32_id hx.1 hx.2] at h; exact h)) (fun h => kf (by rw [w32_id hx.1 hx.2] at h; exact h))
theorem sr_icmp_gt {x y off : Int} (tgt : Nat) (hx : R32 x) (hy : R32 y) (ht : (pc : Int) + off = (tgt : Int)) (hd : decode B.2.1 pc = .ok (.if_icmp .gt off, 3)) (kt : x > y → mmT B d kc ks Q tgt lc st sh mem) (kf : ¬ (x > y) → mmT B d kc ks Q (pc + 3) lc st sh mem) : mmT B d kc ks Q pc lc ((0, y) :: (0, x) :: st) sh mem :=
  st_icmp_gt tgt ht hd (fun h => kt (by rw [w32_id hx.1 hx.2, w32_id hy.1 hy.2] at h; exact h)) (fun h => kf (by rw [w32_id hx.1 hx.2, w32_id hy.1 hy.2] at h; exact h))
theorem sr_if_gt {x off : Int} (tgt : Nat) (hx : R32 x) (ht : (pc : Int) + off = (tgt : Int)) (hd : decode B.2.1 pc = .ok (.ifCond .gt off, 3)) (kt : x > 0 → mmT B d kc ks Q tgt lc st sh mem) (kf : ¬ (x > 0) → mmT B d kc ks Q (pc + 3) lc st sh mem) : mmT B d kc ks Q pc lc ((0, x) :: st) sh mem :=
  st_if_gt tgt ht hd (fun h => kt (by rw [w32_id hx.1 hx.2] at h; exact h)) (fun h => kf (by rw [w32_id hx.1 hx.2] at h; exact h))
theorem sr_icmp_le {x y off : Int} (tgt : Nat) (hx : R32 x) (hy : R32 y) (ht : (pc : Int) + off = (tgt : Int)) (hd : decode B.2.1 pc = .ok (.if_icmp .le off, 3)) (kt : x ≤ y → mmT B d kc ks Q tgt lc st sh mem) (kf : ¬ (x ≤ y) → mmT B d kc ks Q (pc + 3) lc st sh mem) : mmT B d kc ks Q pc lc ((0, y) :: (0, x) :: st) sh mem :=
  st_icmp_le tgt ht hd (fun h => kt (by rw [w32_id hx.1 hx.2, w32_id hy.1 hy.2] at h; exact h)) (fun h => kf (by rw [w32_id hx.1 hx.2, w32_id hy.1 hy.2] at h; exact h))
theorem sr_if_le {x off : Int} (tgt : Nat) (hx : R32 x) (ht : (pc : Int) + off = (tgt : Int)) (hd : decode B.2.1 pc = .ok (.ifCond .le off, 3)) (kt : x ≤ 0 → mmT B d kc ks Q tgt lc st sh mem) (kf : ¬ (x ≤ 0) → mmT B d kc ks Q (pc + 3) lc st sh mem) : mmT B d kc ks Q pc lc ((0, x) :: st) sh mem :=
  st_if_le tgt ht hd (fun h => kt (by rw [w32_id hx.1 hx.2] at h; exact h)) (fun h => kf (by rw [w32_id hx.1 hx.2] at h; exact h))
theorem sr_i2l {x : Int} (hx : R32 x) (hd : decode B.2.1 pc = .ok (.i2l, 1)) (k : mmT B d kc ks Q (pc + 1) lc ((1, x) :: st) sh mem) : mmT B d kc ks Q pc lc ((0, x) :: st) sh mem :=
  st_i2l hd (by rw [w32_id hx.1 hx.2]; exact k)
theorem cmp64_rng (x y : Int) : -1 ≤ cmp64 x y ∧ cmp64 x y ≤ 1 := by
  unfold cmp64
  split
  · omega
  · split <;> omega
theorem sr_lcmp_eq {x y off : Int} (tgt : Nat) (hx : R64 x) (hy : R64 y) (ht : ((pc + 1 : Nat) : Int) + off = (tgt : Int)) (hd : decode B.2.1 pc = .ok (.lcmp, 1)) (hd2 : decode B.2.1 (pc + 1) = .ok (.ifCond .eq off, 3)) (kt : x = y → mmT B d kc ks Q tgt lc st sh mem) (kf : ¬ (x = y) → mmT B d kc ks Q (pc + 1 + 3) lc st sh mem) : mmT B d kc ks Q pc lc ((1, y) :: (1, x) :: st) sh mem := by
  have hc := cmp64_rng x y
  have e : (y < x ∧ cmp64 x y = 1) ∨ (x = y ∧ cmp64 x y = 0) ∨ (x < y ∧ cmp64 x y = -1) := by
    unfold cmp64
    rw [w64_id hx.1 hx.2, w64_id hy.1 hy.2]
    split
    · exact Or.inl ⟨by assumption, rfl⟩
    · split
      · exact Or.inr (Or.inl ⟨by assumption, rfl⟩)
      · exact Or.inr (Or.inr ⟨by omega, rfl⟩)
  exact st_lcmp hd (sr_if_eq tgt (by omega) ht hd2 (fun h => kt (by omega)) (fun h => kf (by omega)))
theorem sr_lcmp_ne {x y off : Int} (tgt : Nat) (hx : R64 x) (hy : R64 y) (ht : ((pc + 1 : Nat) : Int) + off = (tgt : Int)) (hd : decode B.2.1 pc = .ok (.lcmp, 1)) (hd2 : decode B.2.1 (pc + 1) = .ok (.ifCond .ne off, 3)) (kt : x ≠ y → mmT B d kc ks Q tgt lc st sh mem) (kf : x = y → mmT B d kc ks Q (pc + 1 + 3) lc st sh mem) : mmT B d kc ks Q pc lc ((1, y) :: (1, x) :: st) sh mem := by
  have hc := cmp64_rng x y
  have e : (y < x ∧ cmp64 x y = 1) ∨ (x = y ∧ cmp64 x y = 0) ∨ (x < y ∧ cmp64 x y = -1) := by
    unfold cmp64
    rw [w64_id hx.1 hx.2, w64_id hy.1 hy.2]
    split
    · exact Or.inl ⟨by assumption, rfl⟩
    · split
      · exact Or.inr (Or.inl ⟨by assumption, rfl⟩)
      · exact Or.inr (Or.inr ⟨by omega, rfl⟩)
  exact st_lcmp hd (sr_if_ne tgt (by omega) ht hd2 (fun h => kt (by omega)) (fun h => kf (by omega)))
theorem sr_lcmp_lt {x y off : Int} (tgt : Nat) (hx : R64 x) (hy : R64 y) (ht : ((pc + 1 : Nat) : Int) + off = (tgt : Int)) (hd : decode B.2.1 pc = .ok (.lcmp, 1)) (hd2 : decode B.2.1 (pc + 1) = .ok (.ifCond .lt off, 3)) (kt : x < y → mmT B d kc ks Q tgt lc st sh mem) (kf : ¬ (x < y) → mmT B d kc ks Q (pc + 1 + 3) lc st sh mem) : mmT B d kc ks Q pc lc ((1, y) :: (1, x) :: st) sh mem := by
  have hc := cmp64_rng x y
  have e : (y < x ∧ cmp64 x y = 1) ∨ (x = y ∧ cmp64 x y = 0) ∨ (x < y ∧ cmp64 x y = -1) := by
    unfold cmp64
    rw [w64_id hx.1 hx.2, w64_id hy.1 hy.2]
    split
    · exact Or.inl ⟨by assumption, rfl⟩
    · split
      · exact Or.inr (Or.inl ⟨by assumption, rfl⟩)
      · exact Or.inr (Or.inr ⟨by omega, rfl⟩)
  exact st_lcmp hd (sr_if_lt tgt (by omega) ht hd2 (fun h => kt (by omega)) (fun h => kf (by omega)))
theorem sr_lcmp_ge {x y off : Int} (tgt : Nat) (hx : R64 x) (hy : R64 y) (ht : ((pc + 1 : Nat) : Int) + off = (tgt : Int)) (hd : decode B.2.1 pc = .ok (.lcmp, 1)) (hd2 : decode B.2.1 (pc + 1) = .ok (.ifCond .ge off, 3)) (kt : x ≥ y → mmT B d kc ks Q tgt lc st sh mem) (kf : ¬ (x ≥ y) → mmT B d kc ks Q (pc + 1 + 3) lc st sh mem) : mmT B d kc ks Q pc lc ((1, y) :: (1, x) :: st) sh mem := by
  have hc := cmp64_rng x y
  have e : (y < x ∧ cmp64 x y = 1) ∨ (x = y ∧ cmp64 x y = 0) ∨ (x < y ∧ cmp64 x y = -1) := by
    unfold cmp64
    rw [w64_id hx.1 hx.2, w64_id hy.1 hy.2]
    split
    · exact Or.inl ⟨by assumption, rfl⟩
    · split
      · exact Or.inr (Or.inl ⟨by assumption, rfl⟩)
      · exact Or.inr (Or.inr ⟨by omega, rfl⟩)
  exact st_lcmp hd (sr_if_ge tgt (by omega) ht hd2 (fun h => kt (by omega)) (fun h => kf (by omega)))
theorem sr_lcmp_gt {x y off : Int} (tgt : Nat) (hx : R64 x) (hy : R64 y) (ht : ((pc + 1 : Nat) : Int) + off = (tgt : Int)) (hd : decode B.2.1 pc = .ok (.lcmp, 1)) (hd2 : decode B.2.1 (pc + 1) = .ok (.ifCond .gt off, 3)) (kt : x > y → mmT B d kc ks Q tgt lc st sh mem) (kf : ¬ (x > y) → mmT B d kc ks Q (pc + 1 + 3) lc st sh mem) : mmT B d kc ks Q pc lc ((1, y) :: (1, x) :: st) sh mem := by
  have hc := cmp64_rng x y
  have e : (y < x ∧ cmp64 x y = 1) ∨ (x = y ∧ cmp64 x y = 0) ∨ (x < y ∧ cmp64 x y = -1) := by
    unfold cmp64
    rw [w64_id hx.1 hx.2, w64_id hy.1 hy.2]
    split
    · exact Or.inl ⟨by assumption, rfl⟩
    · split
      · exact Or.inr (Or.inl ⟨by assumption, rfl⟩)
      · exact Or.inr (Or.inr ⟨by omega, rfl⟩)
  exact st_lcmp hd (sr_if_gt tgt (by omega) ht hd2 (fun h => kt (by omega)) (fun h => kf (by omega)))
theorem sr_lcmp_le {x y off : Int} (tgt : Nat) (hx : R64 x) (hy : R64 y) (ht : ((pc + 1 : Nat) : Int) + off = (tgt : Int)) (hd : decode B.2.1 pc = .ok (.lcmp, 1)) (hd2 : decode B.2.1 (pc + 1) = .ok (.ifCond .le off, 3)) (kt : x ≤ y → mmT B d kc ks Q tgt lc st sh mem) (kf : ¬ (x ≤ y) → mmT B d kc ks Q (pc + 1 + 3) lc st sh mem) : mmT B d kc ks Q pc lc ((1, y) :: (1, x) :: st) sh mem := by
  have hc := cmp64_rng x y
  have e : (y < x ∧ cmp64 x y = 1) ∨ (x = y ∧ cmp64 x y = 0) ∨ (x < y ∧ cmp64 x y = -1) := by
    unfold cmp64
    rw [w64_id hx.1 hx.2, w64_id hy.1 hy.2]
    split
    · exact Or.inl ⟨by assumption, rfl⟩
    · split
      · exact Or.inr (Or.inl ⟨by assumption, rfl⟩)
      · exact Or.inr (Or.inr ⟨by omega, rfl⟩)
  exact st_lcmp hd (sr_if_le tgt (by omega) ht hd2 (fun h => kt (by omega)) (fun h => kf (by omega)))
theorem sr_mmax {idx : Nat} {x y : Int} (hx : R32 x) (hy : R32 y) (h1 : Cond.methodLink B.1.cls idx Lib.Math.max.name ∈ mm_tbl) (h2 : Cond.static Lib.Math.max.name ∈ mm_tbl) (h3 : Cond.initialized "java/lang/Math" ∈ mm_tbl) (h4 : Cond.code Lib.Math.max.name Lib.Math.max.code 2 (some .int) ∈ mm_tbl) (hd1 : 1 ≤ d) (hcat : mmCat st ≤ 8) (hd : decode B.2.1 pc = .ok (.invokestatic idx, 3)) (k : mmT B d kc ks Q (pc + 3) lc ((0, max x y) :: st) sh mem) : mmT B d kc ks Q pc lc ((0, y) :: (0, x) :: st) sh mem := by
  intro p l e R s m args below meth c G H locs cells slots ls X
  have hts := X.1.2.2.2.2.2.1
  have h := k p l e R s m args below meth c G H locs cells slots ls X
  obtain ⟨lv, hlv, -⟩ := X.2.2.2.2.1
  have hcc := mmCat_enc G st
  have q1 := X.2.2.2.2.2.1
  have q2 := X.2.2.2.2.2.2.1
  have q3 := X.2.2.2.2.2.2.2.1
  have q4 := X.2.2.2.2.2.2.2.2.1
  refine va_mmax X.1.1 X.1.2.1 (X.1.2.2.1.trans hlv.1.symm) X.1.2.2.2.2.1 (hts _ h1) (hts _ h2) (hts _ h3) (hts _ h4) (by omega) (by omega) (by omega) (by omega) hd ?_
  have e : (if Int32.ofInt x < Int32.ofInt y then Int32.ofInt y else Int32.ofInt x) = Int32.ofInt (max x y) := by
    simp only [mm_lt32, w32_id hx.1 hx.2, w32_id hy.1 hy.2]
    split
    · congr 1; omega
    · congr 1; omega
  rw [e]
  exact h
theorem sr_mmin {idx : Nat} {x y : Int} (hx : R32 x) (hy : R32 y) (h1 : Cond.methodLink B.1.cls idx Lib.Math.min.name ∈ mm_tbl) (h2 : Cond.static Lib.Math.min.name ∈ mm_tbl) (h3 : Cond.initialized "java/lang/Math" ∈ mm_tbl) (h4 : Cond.code Lib.Math.min.name Lib.Math.min.code 2 (some .int) ∈ mm_tbl) (hd1 : 1 ≤ d) (hcat : mmCat st ≤ 8) (hd : decode B.2.1 pc = .ok (.invokestatic idx, 3)) (k : mmT B d kc ks Q (pc + 3) lc ((0, min x y) :: st) sh mem) : mmT B d kc ks Q pc lc ((0, y) :: (0, x) :: st) sh mem := by
  intro p l e R s m args below meth c G H locs cells slots ls X
  have hts := X.1.2.2.2.2.2.1
  have h := k p l e R s m args below meth c G H locs cells slots ls X
  obtain ⟨lv, hlv, -⟩ := X.2.2.2.2.1
  have hcc := mmCat_enc G st
  have q1 := X.2.2.2.2.2.1
  have q2 := X.2.2.2.2.2.2.1
  have q3 := X.2.2.2.2.2.2.2.1
  have q4 := X.2.2.2.2.2.2.2.2.1
  refine va_mmin X.1.1 X.1.2.1 (X.1.2.2.1.trans hlv.1.symm) X.1.2.2.2.2.1 (hts _ h1) (hts _ h2) (hts _ h3) (hts _ h4) (by omega) (by omega) (by omega) (by omega) hd ?_
  have e : (if Int32.ofInt y < Int32.ofInt x then Int32.ofInt y else Int32.ofInt x) = Int32.ofInt (min x y) := by
    simp only [mm_lt32, w32_id hx.1 hx.2, w32_id hy.1 hy.2]
    split
    · congr 1; omega
    · congr 1; omega
  rw [e]
  exact h
theorem sr_mabs {idx : Nat} {x : Int} (hx : -2147483648 < x ∧ x < 2147483648) (h1 : Cond.methodLink B.1.cls idx Lib.Math.abs.name ∈ mm_tbl) (h2 : Cond.static Lib.Math.abs.name ∈ mm_tbl) (h3 : Cond.initialized "java/lang/Math" ∈ mm_tbl) (h4 : Cond.code Lib.Math.abs.name Lib.Math.abs.code 1 (some .int) ∈ mm_tbl) (hd1 : 1 ≤ d) (hcat : mmCat st ≤ 8) (hd : decode B.2.1 pc = .ok (.invokestatic idx, 3)) (k : mmT B d kc ks Q (pc + 3) lc ((0, if 0 ≤ x then x else -x) :: st) sh mem) : mmT B d kc ks Q pc lc ((0, x) :: st) sh mem := by
  intro p l e R s m args below meth c G H locs cells slots ls X
  have hts := X.1.2.2.2.2.2.1
  have h := k p l e R s m args below meth c G H locs cells slots ls X
  obtain ⟨lv, hlv, -⟩ := X.2.2.2.2.1
  have hcc := mmCat_enc G st
  have q1 := X.2.2.2.2.2.1
  have q2 := X.2.2.2.2.2.2.1
  have q3 := X.2.2.2.2.2.2.2.1
  have q4 := X.2.2.2.2.2.2.2.2.1
  refine va_mabs X.1.1 X.1.2.1 (X.1.2.2.1.trans hlv.1.symm) X.1.2.2.2.2.1 (hts _ h1) (hts _ h2) (hts _ h3) (hts _ h4) (by omega) (by omega) (by omega) (by omega) hd ?_
  have e : (if 0 ≤ Int32.ofInt x then Int32.ofInt x else 0 - Int32.ofInt x) = Int32.ofInt (if 0 ≤ x then x else -x) := by
    have z : (0 ≤ Int32.ofInt x) ↔ 0 ≤ x := by
      rw [show (0 : Int32) = Int32.ofInt 0 from rfl, mm_le32, mm_w0, w32_id (by omega) hx.2]
    simp only [z]
    split
    · rfl
    · rw [show (0 : Int32) = Int32.ofInt 0 from rfl, ← Int32.ofInt_sub]
      congr 1
      omega
  rw [e]
  exact h
theorem sr_mmaxl {idx : Nat} {x y : Int} (hx : R64 x) (hy : R64 y) (h1 : Cond.methodLink B.1.cls idx Lib.MathLoose.max_long.x ∈ mm_tbl) (h2 : Cond.static Lib.MathLoose.max_long.x ∈ mm_tbl) (h3 : Cond.initialized "java/lang/Math" ∈ mm_tbl) (h4 : Cond.code Lib.MathLoose.max_long.x Lib.MathLoose.max_long.code 4 (some .long) ∈ mm_tbl) (hd1 : 1 ≤ d) (hcat : mmCat st ≤ 8) (hd : decode B.2.1 pc = .ok (.invokestatic idx, 3)) (k : mmT B d kc ks Q (pc + 3) lc ((1, max x y) :: st) sh mem) : mmT B d kc ks Q pc lc ((1, y) :: (1, x) :: st) sh mem := by
  intro p l e R s m args below meth c G H locs cells slots ls X
  have hts := X.1.2.2.2.2.2.1
  have h := k p l e R s m args below meth c G H locs cells slots ls X
  obtain ⟨lv, hlv, -⟩ := X.2.2.2.2.1
  have hcc := mmCat_enc G st
  have q1 := X.2.2.2.2.2.1
  have q2 := X.2.2.2.2.2.2.1
  have q3 := X.2.2.2.2.2.2.2.1
  have q4 := X.2.2.2.2.2.2.2.2.1
  refine va_mmax_long X.1.1 X.1.2.1 (X.1.2.2.1.trans hlv.1.symm) X.1.2.2.2.2.1 (hts _ h1) (hts _ h2) (hts _ h3) (hts _ h4) (by omega) (by omega) (by omega) (by omega) hd ?_
  have z : (Int64.ofInt y < Int64.ofInt x) ↔ y < x := by rw [Int64.lt_iff_toInt_lt, w64_toInt, w64_toInt, w64_id hx.1 hx.2, w64_id hy.1 hy.2]
  have e : (if Int64.ofInt y < Int64.ofInt x then Int64.ofInt x else Int64.ofInt y) = Int64.ofInt (max x y) := by
    simp only [z]
    split
    · congr 1; omega
    · congr 1; omega
  rw [e]
  exact h
theorem sr_mminl {idx : Nat} {x y : Int} (hx : R64 x) (hy : R64 y) (h1 : Cond.methodLink B.1.cls idx Lib.MathLoose.min_long.x ∈ mm_tbl) (h2 : Cond.static Lib.MathLoose.min_long.x ∈ mm_tbl) (h3 : Cond.initialized "java/lang/Math" ∈ mm_tbl) (h4 : Cond.code Lib.MathLoose.min_long.x Lib.MathLoose.min_long.code 4 (some .long) ∈ mm_tbl) (hd1 : 1 ≤ d) (hcat : mmCat st ≤ 8) (hd : decode B.2.1 pc = .ok (.invokestatic idx, 3)) (k : mmT B d kc ks Q (pc + 3) lc ((1, min x y) :: st) sh mem) : mmT B d kc ks Q pc lc ((1, y) :: (1, x) :: st) sh mem := by
  intro p l e R s m args below meth c G H locs cells slots ls X
  have hts := X.1.2.2.2.2.2.1
  have h := k p l e R s m args below meth c G H locs cells slots ls X
  obtain ⟨lv, hlv, -⟩ := X.2.2.2.2.1
  have hcc := mmCat_enc G st
  have q1 := X.2.2.2.2.2.1
  have q2 := X.2.2.2.2.2.2.1
  have q3 := X.2.2.2.2.2.2.2.1
  have q4 := X.2.2.2.2.2.2.2.2.1
  refine va_mmin_long X.1.1 X.1.2.1 (X.1.2.2.1.trans hlv.1.symm) X.1.2.2.2.2.1 (hts _ h1) (hts _ h2) (hts _ h3) (hts _ h4) (by omega) (by omega) (by omega) (by omega) hd ?_
  have z : (Int64.ofInt y < Int64.ofInt x) ↔ y < x := by rw [Int64.lt_iff_toInt_lt, w64_toInt, w64_toInt, w64_id hx.1 hx.2, w64_id hy.1 hy.2]
  have e : (if Int64.ofInt y < Int64.ofInt x then Int64.ofInt y else Int64.ofInt x) = Int64.ofInt (min x y) := by
    simp only [z]
    split
    · congr 1; omega
    · congr 1; omega
  rw [e]
  exact h
theorem tdiv_bnd (x y : Int) (hy : y ≠ 0) : -(x.natAbs : Int) ≤ x.tdiv y ∧ x.tdiv y ≤ x.natAbs := by
  have h : (x.tdiv y).natAbs ≤ x.natAbs := by
    rw [Int.natAbs_tdiv]
    exact Nat.div_le_self _ _
  omega
theorem div32_eq {x y : Int} (hx : -2147483648 < x ∧ x < 2147483648) (hy : R32 y) (h0 : y ≠ 0) : div32 x y = x.tdiv y := by
  unfold div32
  rw [Int32.toInt_div, w32_toInt, w32_toInt, w32_id (by omega) hx.2, w32_id hy.1 hy.2, Int.bmod_def]
  have := tdiv_bnd x y h0
  split <;> omega
theorem div64_eq {x y : Int} (hx : -9223372036854775808 < x ∧ x < 9223372036854775808) (hy : R64 y) (h0 : y ≠ 0) : div64 x y = x.tdiv y := by
  unfold div64
  rw [Int64.toInt_div, w64_toInt, w64_toInt, w64_id (by omega) hx.2, w64_id hy.1 hy.2, Int.bmod_def]
  have := tdiv_bnd x y h0
  split <;> omega
theorem sr_idiv {x y : Int} (hx : -2147483648 < x ∧ x < 2147483648) (hy : R32 y) (h0 : y ≠ 0) (hd : decode B.2.1 pc = .ok (.idiv, 1)) (k : mmT B d kc ks Q (pc + 1) lc ((0, x.tdiv y) :: st) sh mem) : mmT B d kc ks Q pc lc ((0, y) :: (0, x) :: st) sh mem :=
  st_idiv (by rw [w32_id hy.1 hy.2]; exact h0) hd (by rw [div32_eq hx hy h0]; exact k)
theorem sr_ldiv {x y : Int} (hx : -9223372036854775808 < x ∧ x < 9223372036854775808) (hy : R64 y) (h0 : y ≠ 0) (hd : decode B.2.1 pc = .ok (.ldiv, 1)) (k : mmT B d kc ks Q (pc + 1) lc ((1, x.tdiv y) :: st) sh mem) : mmT B d kc ks Q pc lc ((1, y) :: (1, x) :: st) sh mem :=
  st_ldiv (by rw [w64_id hy.1 hy.2]; exact h0) hd (by rw [div64_eq hx hy h0]; exact k)
/-- what comes back: a number of kind t (0 an int, 1 a long, 2 a reference), or nothing; no cell is made -/
def mS : mmS := (false, mSH)
def mQ (t : Nat) (P : Int → mmM → Prop) : mmQ := fun r sh' m' => ∃ v, r = some (t, v) ∧ sh' = mS ∧ P v m'
def mQv (P : mmM → Prop) : mmQ := fun r sh' m' => r = none ∧ sh' = mS ∧ P m'
theorem mQ.elim {t : Nat} {P : Int → mmM → Prop} {d kc ks pc : Nat} (kk : ∀ (v : Int) (m' : mmM), P v m' → mmT B d kc ks Q pc lc ((t, v) :: st) mS m') : ∀ (r : Option mmV) (sh' : mmS) (mem' : mmM), mQ t P r sh' mem' → mmT B d kc ks Q pc lc (r.toList ++ st) sh' mem' := by
  intro r sh' mem' h
  obtain ⟨v, rfl, rfl, h⟩ := h
  exact kk v mem' h
theorem mQv.elim {P : mmM → Prop} {d kc ks pc : Nat} (kk : ∀ (m' : mmM), P m' → mmT B d kc ks Q pc lc st mS m') : ∀ (r : Option mmV) (sh' : mmS) (mem' : mmM), mQv P r sh' mem' → mmT B d kc ks Q pc lc (r.toList ++ st) sh' mem' := by
  intro r sh' mem' h
  obtain ⟨rfl, rfl, h⟩ := h
  exact kk mem' h
theorem mQ.ret {t : Nat} {P : Int → mmM → Prop} {v : Int} {m' : mmM} (h : P v m') : mQ t P (some (t, v)) mS m' := ⟨v, rfl, rfl, h⟩
theorem mQv.ret {P : mmM → Prop} {m' : mmM} (h : P m') : mQv P none mS m' := ⟨rfl, rfl, h⟩
/-- a contract: with these arguments over these cells the method comes back and P holds of what comes and of the cells -/
def con (t : Nat) (B : mmB) (d : Nat) (av : List mmV) (mem : mmM) (P : Int → mmM → Prop) : Prop := mmC B d 0 0 av mS mem (mQ t P)
def conv (B : mmB) (d : Nat) (av : List mmV) (mem : mmM) (P : mmM → Prop) : Prop := mmC B d 0 0 av mS mem (mQv P)
end MMfi
theorem Met.weak {l : Launch} {y : MethodName} {ws : List Cond} {rm : Room} {Pc : Array Value → State → Prop} {Qc Qc' : Array Value → State → Outcome → State → Prop} {mc ms : Nat} {free : Addr → Prop} (h : Met l y ws rm Pc Qc mc ms free) (hq : ∀ a s o t, Qc a s o t → Qc' a s o t) : Met l y ws rm Pc Qc' mc ms free := by
  intro p e ha hc hk s m args below hf happ hP hK
  obtain ⟨k, o, h1, h2, h3, hQ⟩ := h p e ha hc hk s m args below hf happ hP hK
  exact ⟨k, o, h1, h2, h3, hq _ _ _ _ hQ.1, hQ.2⟩
theorem con.mono {t : Nat} {B : mmB} {d : Nat} {av : List mmV} {mem : mmM} {P P' : Int → mmM → Prop} (h : con t B d av mem P) (hp : ∀ v m', P v m' → P' v m') : con t B d av mem P' :=
  fun l G hfl => (h l G hfl).weak fun _ _ _ _ ⟨⟨r, sh, m, h1, ⟨v, h2, h3, h4⟩, h5⟩, h6⟩ => ⟨⟨r, sh, m, h1, ⟨v, h2, h3, hp v m h4⟩, h5⟩, h6⟩
theorem conv.mono {B : mmB} {d : Nat} {av : List mmV} {mem : mmM} {P P' : mmM → Prop} (h : conv B d av mem P) (hp : ∀ m', P m' → P' m') : conv B d av mem P' :=
  fun l G hfl => (h l G hfl).weak fun _ _ _ _ ⟨⟨r, sh, m, h1, ⟨h2, h3, h4⟩, h5⟩, h6⟩ => ⟨⟨r, sh, m, h1, ⟨h2, h3, hp m h4⟩, h5⟩, h6⟩
