/-! what is read off the play -/
theorem loop_up {n : Int} (R : Int → Prop) (step : ∀ i, 0 ≤ i → i ≤ n → (i < n → R (i + 1)) → R i) : ∀ i, 0 ≤ i → i ≤ n → R i := by
  have key : ∀ (k : Nat) (i : Int), k = (n - i).toNat → 0 ≤ i → i ≤ n → R i := by
    intro k
    induction k with
    | zero => intro i hk h0 h1; exact step i h0 h1 (fun g => by omega)
    | succ k ih => intro i hk h0 h1; exact step i h0 h1 (fun g => ih (i + 1) (by omega) (by omega) (by omega))
  exact fun i h0 h1 => key _ i rfl h0 h1
def foldTo {α : Type} (g : α → Int → α) (z : α) : Nat → α
  | 0 => z
  | k + 1 => g (foldTo g z k) k
theorem foldTo_step {α : Type} (g : α → Int → α) (z : α) {i : Int} (h : 0 ≤ i) : foldTo g z (i + 1).toNat = g (foldTo g z i.toNat) i := by
  rw [show (i + 1).toNat = i.toNat + 1 by omega]
  show g (foldTo g z i.toNat) ((i.toNat : Nat) : Int) = _
  rw [Int.toNat_of_nonneg h]
theorem foldTo_congr {α : Type} {g g' : α → Int → α} {z : α} {n : Nat} (h : ∀ (i : Int) (a : α), 0 ≤ i → i < n → g a i = g' a i) : foldTo g z n = foldTo g' z n := by
  induction n with
  | zero => rfl
  | succ n ih =>
    show g (foldTo g z n) n = g' (foldTo g' z n) n
    rw [ih (fun i a h1 h2 => h i a h1 (by omega)), h n _ (by omega) (by omega)]
theorem sumTo_step (f : Int → Int) {i : Int} (h : 0 ≤ i) : sumTo f (i + 1).toNat = sumTo f i.toNat + f i := by
  rw [show (i + 1).toNat = i.toNat + 1 by omega, sumTo_succ, Int.toNat_of_nonneg h]
def actF (n : Int) (a : Int → Int) : Int := foldTo (fun acc i => or32 acc (shl32 1 (a i))) 0 n.toNat
theorem foldTo_rng {g : Int → Int → Int} {z : Int} (hz : R32 z) (hg : ∀ a i, R32 (g a i)) (n : Nat) : R32 (foldTo g z n) := by
  cases n with
  | zero => exact hz
  | succ n => exact hg _ _
theorem actF_rng {n : Int} {a : Int → Int} : R32 (actF n a) := foldTo_rng ⟨by decide, by decide⟩ (fun _ _ => or32_rng _ _) _
abbrev chgF (n : Int) (c : Int → Int) (f k : Int) : Prop := 1 ≤ f ∧ (0 ≤ f ∧ f < n) ∧ (0 ≤ f + k ∧ f + k < n) ∧ ¬ c (f + k) = c f
def spareF (n : Int) (c : Int → Int) (k : Int) : Int := if upFrom (fun i => decide (c (i + k) = c i)) 1 (n - 1 - k).toNat = -1 then (if n - 1 - k < 1 then -1 else 1) else upFrom (fun i => decide (c (i + k) = c i)) 1 (n - 1 - k).toNat
theorem spareF_bnd {n : Int} {c : Int → Int} {k : Int} (hk : 1 ≤ k ∧ k ≤ 8) (hn : 0 ≤ n ∧ n ≤ 24) : -1 ≤ spareF n c k ∧ spareF n c k ≤ 24 := by
  unfold spareF
  have := upFrom_spec (fun i => decide (c (i + k) = c i)) (n - 1 - k).toNat 1 (by omega)
  repeat' split <;> omega
theorem spareF_rng {n : Int} {c : Int → Int} {k : Int} (hk : 1 ≤ k ∧ k ≤ 8) (hn : 0 ≤ n ∧ n ≤ 24) : R32 (spareF n c k) := by
  have := spareF_bnd (c := c) hk hn
  omega
def wtcF (n : Int) (a c : Int → Int) : Int := sumTo (fun i => b2i (¬ aheadF n a c i = -1)) n.toNat
theorem wtcF_rng {n : Int} {a c : Int → Int} (hn : 0 ≤ n ∧ n ≤ 24) : R32 (wtcF n a c) := by
  unfold wtcF
  have := sumTo_bnd (f := fun i => b2i (¬ aheadF n a c i = -1)) (n := n.toNat) (b := 1) (fun i _ _ => b2i_rng _)
  omega
def fwtF (n : Int) (a c : Int → Int) : Int := if upFrom (fun i => decide (¬ aheadF n a c i = -1)) 0 n.toNat = -1 then -1 else upFrom (fun i => decide (¬ aheadF n a c i = -1)) 0 n.toNat - 1
theorem fwtF_rng {n : Int} {a c : Int → Int} (hn : 0 ≤ n ∧ n ≤ 24) : R32 (fwtF n a c) := by
  unfold fwtF
  have := upFrom_spec (fun i => decide (¬ aheadF n a c i = -1)) n.toNat 0 (by omega)
  split <;> omega
def wltF (n : Int) (to : Int → Int) (t : Int) : Int := foldTo (fun acc i => or32 acc (if to i = t then shl32 1 i else 0)) 0 n.toNat
def loopF (n : Int) (to : Int → Int) : Int × Int := foldTo (fun p i => if ¬ to i = -1 ∧ to i < i ∧ (p.2 = -1 ∨ i - to i < p.1) then (i - to i, i) else p) (-1, -1) n.toNat
def holeF (n : Int) (to : Int → Int) : Int × Int := foldTo (fun p i => if i < to i ∧ p.1 < to i - i then (to i - i, i) else p) (-1, -1) n.toNat
def silF (n : Int) (a len : Int → Int) (x : Int) : Int := (foldTo (fun (p : Int × Int) i => if a i = x then (max p.1 p.2, 0) else if p.2 = -1 then p else (p.1, p.2 + len i)) (-1, -1) n.toNat).1
def dbtF (n : Int) (a lk : Int → Int) (x : Int) : Int := sumTo (fun i => b2i (a i = x ∧ 0 < lk i)) n.toNat
theorem cn_X8_actors {d : Nat} {P : Int → mmM → Prop} {mem : mmM} (h : mmT bX8_actors d 0 0 (mQ 0 P) 0 [(2, 23), (9, 0), (9, 0)] [] mS mem) : con 0 bX8_actors d [(2, 23)] mem P := mmC_of [(2, 23), (9, 0), (9, 0)] ok_X8_actors.2.2.2.2 rfl (Nat.le_of_ble_eq_true rfl) h
theorem bk_X8_actors_0 {d : Nat} {P : Int → mmM → Prop} {mem : mmM}
  (k1 : mmT bX8_actors d 0 0 (mQ 0 P) 4 [(2, 23), (0, 0), (0, 0)] [] mS mem)
  : mmT bX8_actors d 0 0 (mQ 0 P) 0 [(2, 23), (9, 0), (9, 0)] [] mS mem := by
  refine st_iconst dX8_actors_0 ?_
  refine st_istore_n (i := 1) rfl (by decide) (lc' := [(2, 23), (0, 0), (9, 0)]) rfl dX8_actors_1 ?_
  refine st_iconst dX8_actors_2 ?_
  refine st_istore_n (i := 2) rfl (by decide) (lc' := [(2, 23), (0, 0), (0, 0)]) rfl dX8_actors_3 ?_
  exact st_locals [(2, 23), (0, 0), (0, 0)] ⟨Or.inr rfl, Or.inr rfl, Or.inr rfl, trivial⟩ k1
theorem bk_X8_actors_4 {d : Nat} {P : Int → mmM → Prop} {mem : mmM} {x1 x2 : Int}
  (k1 : x2 < (mem 23 1) → mmT bX8_actors d 0 0 (mQ 0 P) 4 [(2, 23), (0, (or32 x1 (shl32 1 (mem 24 x2)))), (0, (x2 + 1))] [] mS mem)
  (q1 : (mem 23 1) ≤ x2 → P x1 mem)
  (s1 : R32 x2 := by intros; omega)
  (s2 : x2 < (mem 23 1) → 0 ≤ x2 ∧ x2 < 24 := by intros; omega)
  : mmT bX8_actors d 0 0 (mQ 0 P) 4 [(2, 23), (0, x1), (0, x2)] [] mS mem := by
  refine st_iload_n (i := 2) rfl rfl dX8_actors_4 ?_
  refine st_aload_n (i := 0) rfl (t := 0) rfl (by decide) dX8_actors_5 ?_
  refine so_getI (v := (mem 23 1)) 23 1 fr_X8_60_8 rfl sh_23 rfl dX8_actors_6 (fun r1 => ?_)
  refine sr_icmp_ge 29 s1 r1 (by decide) dX8_actors_9 (fun h1 => ?_) (fun h1 => ?_)
  · have h1 : (mem 23 1) ≤ x2 := by omega
    refine st_iload_n (i := 1) rfl rfl dX8_actors_29 ?_
    exact st_ireturn rfl dX8_actors_30 (mQ.ret (q1 h1))
  · have h1 : x2 < (mem 23 1) := by omega
    refine st_iload_n (i := 1) rfl rfl dX8_actors_12 ?_
    refine st_iconst dX8_actors_13 ?_
    refine st_aload_n (i := 0) rfl (t := 0) rfl (by decide) dX8_actors_14 ?_
    refine so_getA 23 2 fr_X8_9_8 rfl sh_23 fx_23_2 dX8_actors_15 ?_
    refine st_iload_n (i := 2) rfl rfl dX8_actors_18 ?_
    refine so_iald (v := (mem 24 x2)) 24 rfl sh_24 (by decide) (s2 h1) rfl dX8_actors_19 (fun r2 => ?_)
    refine st_ishl dX8_actors_20 ?_
    refine st_ior dX8_actors_21 ?_
    refine st_istore_n (i := 1) rfl (by decide) (lc' := [(2, 23), (0, (or32 x1 (shl32 1 (mem 24 x2)))), (0, x2)]) rfl dX8_actors_22 ?_
    refine st_iinc (y := (x2 + 1)) (by decide) (i := 2) rfl rfl (lc' := [(2, 23), (0, (or32 x1 (shl32 1 (mem 24 x2)))), (0, (x2 + 1))]) rfl dX8_actors_23 ?_
    refine st_goto 4 (by decide) dX8_actors_26 ?_
    exact st_locals [(2, 23), (0, (or32 x1 (shl32 1 (mem 24 x2)))), (0, (x2 + 1))] ⟨Or.inr rfl, Or.inr rfl, Or.inr rfl, trivial⟩ (k1 h1)
theorem c_X8_actors (mem : mmM) (hn : 0 ≤ mem 23 1 ∧ mem 23 1 ≤ 24) : con 0 bX8_actors 1 [(2, 23)] mem (fun v m => v = actF (mem 23 1) (mem 24) ∧ m = mem) := by
  refine cn_X8_actors (bk_X8_actors_0 ?_)
  refine loop_up (n := mem 23 1) (fun i => ∀ acc, acc = foldTo (fun acc i => or32 acc (shl32 1 (mem 24 i))) 0 i.toNat → mmT bX8_actors 1 0 0 (mQ 0 (fun v m => v = actF (mem 23 1) (mem 24) ∧ m = mem)) 4 [(2, 23), (0, acc), (0, i)] [] mS mem) (fun i h0 h1 ih acc ha => ?_) 0 (by omega) (by omega) 0 rfl
  refine bk_X8_actors_4 (fun g => ih g _ ?_) (fun g => ⟨?_, rfl⟩)
  · rw [foldTo_step _ _ h0, ← ha]
  · rw [ha, show i = mem 23 1 by omega]
    rfl
theorem cn_X8_hasActor {d : Nat} {P : Int → mmM → Prop} {mem : mmM} {x1 : Int} (h : mmT bX8_hasActor d 0 0 (mQ 0 P) 0 [(2, 23), (0, x1)] [] mS mem) : con 0 bX8_hasActor d [(2, 23), (0, x1)] mem P := mmC_of [(2, 23), (0, x1)] ok_X8_hasActor.2.2.2.2 rfl (Nat.le_of_ble_eq_true rfl) h
theorem bk_X8_hasActor_0 {d : Nat} {P : Int → mmM → Prop} {mem : mmM} {x1 : Int}
  (q1 : x1 < 0 → P 0 mem)
  (q2 : 0 ≤ x1 → 8 ≤ x1 → P 0 mem)
  (q3 : 0 ≤ x1 → x1 < 8 → (and32 (shr32 (actF (mem 23 1) (mem 24)) x1) 1) = 0 → P 0 mem)
  (q4 : 0 ≤ x1 → x1 < 8 → ¬ (and32 (shr32 (actF (mem 23 1) (mem 24)) x1) 1) = 0 → P 1 mem)
  (hd2 : 2 ≤ d := by omega)
  (s1 : R32 x1 := by intros; omega)
  (s2 : 0 ≤ x1 → x1 < 8 → 0 ≤ (mem 23 1) ∧ (mem 23 1) ≤ 24 := by intros; omega)
  : mmT bX8_hasActor d 0 0 (mQ 0 P) 0 [(2, 23), (0, x1)] [] mS mem := by
  refine st_iload_n (i := 1) rfl rfl dX8_hasActor_0 ?_
  refine sr_if_lt 25 s1 (by decide) dX8_hasActor_1 (fun h1 => ?_) (fun h1 => ?_)
  · have h1 : x1 < 0 := by omega
    refine st_iconst dX8_hasActor_25 ?_
    exact st_zreturn rfl (by decide) dX8_hasActor_26 (mQ.ret (q1 h1))
  · have h1 : 0 ≤ x1 := by omega
    refine st_iload_n (i := 1) rfl rfl dX8_hasActor_4 ?_
    refine st_bipush rfl dX8_hasActor_5 ?_
    refine sr_icmp_ge 25 s1 ⟨by decide, by decide⟩ (by decide) dX8_hasActor_7 (fun h2 => ?_) (fun h2 => ?_)
    · have h2 : 8 ≤ x1 := by omega
      refine st_iconst dX8_hasActor_25 ?_
      exact st_zreturn rfl (by decide) dX8_hasActor_26 (mQ.ret (q2 h1 h2))
    · have h2 : x1 < 8 := by omega
      refine st_aload_n (i := 0) rfl (t := 0) rfl (by decide) dX8_hasActor_10 ?_
      refine st_callV (kc2 := 0) (ks2 := 0) (av := []) 23 8 mr_X8_81 ok_X8_actors (c_X8_actors mem ((s2 h1 h2))) rfl sh_23 ⟨_, rfl, rfl, by decide⟩ rfl rfl hd2 (Nat.le_refl 0) (Nat.le_refl 0) (Nat.le_of_ble_eq_true rfl) dX8_hasActor_11 (mQ.elim fun v1 m1 hp => ?_)
      obtain ⟨hpv, hpm⟩ := hp
      subst hpv
      have hpm := hpm.symm
      subst hpm
      refine st_iload_n (i := 1) rfl rfl dX8_hasActor_14 ?_
      refine st_ishr dX8_hasActor_15 ?_
      refine st_iconst dX8_hasActor_16 ?_
      refine st_iand dX8_hasActor_17 ?_
      refine sr_if_eq 25 (and32_rng (shr32 (actF (mem 23 1) (mem 24)) x1) 1) (by decide) dX8_hasActor_18 (fun h3 => ?_) (fun h3 => ?_)
      · have h3 : (and32 (shr32 (actF (mem 23 1) (mem 24)) x1) 1) = 0 := by omega
        refine st_iconst dX8_hasActor_25 ?_
        exact st_zreturn rfl (by decide) dX8_hasActor_26 (mQ.ret (q3 h1 h2 h3))
      · have h3 : ¬ (and32 (shr32 (actF (mem 23 1) (mem 24)) x1) 1) = 0 := by omega
        refine st_iconst dX8_hasActor_21 ?_
        refine st_goto 26 (by decide) dX8_hasActor_22 ?_
        exact st_zreturn rfl (by decide) dX8_hasActor_26 (mQ.ret (q4 h1 h2 h3))
theorem cn_X8_hasAll {d : Nat} {P : Int → mmM → Prop} {mem : mmM} {x1 : Int} (h : mmT bX8_hasAll d 0 0 (mQ 0 P) 0 [(2, 23), (0, x1)] [] mS mem) : con 0 bX8_hasAll d [(2, 23), (0, x1)] mem P := mmC_of [(2, 23), (0, x1)] ok_X8_hasAll.2.2.2.2 rfl (Nat.le_of_ble_eq_true rfl) h
theorem bk_X8_hasAll_0 {d : Nat} {P : Int → mmM → Prop} {mem : mmM} {x1 : Int}
  (q1 : (mem 23 1) ≤ 0 → P 0 mem)
  (q2 : 0 < (mem 23 1) → x1 < 0 → P 0 mem)
  (q3 : 0 < (mem 23 1) → 0 ≤ x1 → ¬ (shr32 x1 (mem 23 1)) = 0 → P 0 mem)
  (q4 : 0 < (mem 23 1) → 0 ≤ x1 → (shr32 x1 (mem 23 1)) = 0 → P 1 mem)
  (s1 : 0 < (mem 23 1) → R32 x1 := by intros; omega)
  : mmT bX8_hasAll d 0 0 (mQ 0 P) 0 [(2, 23), (0, x1)] [] mS mem := by
  refine st_aload_n (i := 0) rfl (t := 0) rfl (by decide) dX8_hasAll_0 ?_
  refine so_getI (v := (mem 23 1)) 23 1 fr_X8_60_8 rfl sh_23 rfl dX8_hasAll_1 (fun r1 => ?_)
  refine sr_if_le 24 r1 (by decide) dX8_hasAll_4 (fun h1 => ?_) (fun h1 => ?_)
  · have h1 : (mem 23 1) ≤ 0 := by omega
    refine st_iconst dX8_hasAll_24 ?_
    exact st_zreturn rfl (by decide) dX8_hasAll_25 (mQ.ret (q1 h1))
  · have h1 : 0 < (mem 23 1) := by omega
    refine st_iload_n (i := 1) rfl rfl dX8_hasAll_7 ?_
    refine sr_if_lt 24 (s1 h1) (by decide) dX8_hasAll_8 (fun h2 => ?_) (fun h2 => ?_)
    · have h2 : x1 < 0 := by omega
      refine st_iconst dX8_hasAll_24 ?_
      exact st_zreturn rfl (by decide) dX8_hasAll_25 (mQ.ret (q2 h1 h2))
    · have h2 : 0 ≤ x1 := by omega
      refine st_iload_n (i := 1) rfl rfl dX8_hasAll_11 ?_
      refine st_aload_n (i := 0) rfl (t := 0) rfl (by decide) dX8_hasAll_12 ?_
      refine so_getI (v := (mem 23 1)) 23 1 fr_X8_60_8 rfl sh_23 rfl dX8_hasAll_13 (fun r2 => ?_)
      refine st_ishr dX8_hasAll_16 ?_
      refine sr_if_ne 24 (shr32_rng x1 (mem 23 1)) (by decide) dX8_hasAll_17 (fun h3 => ?_) (fun h3 => ?_)
      · have h3 : ¬ (shr32 x1 (mem 23 1)) = 0 := by omega
        refine st_iconst dX8_hasAll_24 ?_
        exact st_zreturn rfl (by decide) dX8_hasAll_25 (mQ.ret (q3 h1 h2 h3))
      · have h3 : (shr32 x1 (mem 23 1)) = 0 := by omega
        refine st_iconst dX8_hasAll_20 ?_
        refine st_goto 25 (by decide) dX8_hasAll_21 ?_
        exact st_zreturn rfl (by decide) dX8_hasAll_25 (mQ.ret (q4 h1 h2 h3))
theorem c_X8_hasActor (mem : mmM) (x1 : Int) (h1 : R32 x1) (hn : 0 ≤ mem 23 1 ∧ mem 23 1 ≤ 24) : con 0 bX8_hasActor 2 [(2, 23), (0, x1)] mem (fun v m => v = b2i ((0 ≤ x1 ∧ x1 < 8) ∧ and32 (shr32 (actF (mem 23 1) (mem 24)) x1) 1 = 1) ∧ m = mem) := by
  have h01 := and1_01 (shr32 (actF (mem 23 1) (mem 24)) x1)
  refine cn_X8_hasActor (bk_X8_hasActor_0 ?_ ?_ ?_ ?_) <;> (intros; refine ⟨?_, rfl⟩; unfold b2i; split <;> omega)
theorem shr_zero {x k : Int} (h0 : 0 ≤ x) (h1 : x < 2147483648) (k0 : 0 ≤ k) (k1 : k < 32) : shr32 x k = 0 ↔ x < p2 k := by
  rw [shr32_eq h0 h1 k0 k1]
  have hp := p2_pos k
  constructor
  · intro h
    have h2 := Int.lt_mul_ediv_self_add (x := x) hp
    rw [h] at h2
    omega
  · intro h
    exact Int.ediv_eq_zero_of_lt h0 h
theorem c_X8_hasAll (mem : mmM) (x1 : Int) (h1 : R32 x1) (hn : 0 ≤ mem 23 1 ∧ mem 23 1 ≤ 24) : con 0 bX8_hasAll 1 [(2, 23), (0, x1)] mem (fun v m => v = b2i (0 < mem 23 1 ∧ 0 ≤ x1 ∧ x1 < p2 (mem 23 1)) ∧ m = mem) := by
  refine cn_X8_hasAll (bk_X8_hasAll_0 (fun g => ⟨?_, rfl⟩) (fun g g2 => ⟨?_, rfl⟩) (fun g g2 g3 => ⟨?_, rfl⟩) (fun g g2 g3 => ⟨?_, rfl⟩))
  · rw [b2i_0]; omega
  · rw [b2i_0]; omega
  · rw [b2i_0]
    intro q
    exact g3 ((shr_zero g2 (by omega) (by omega) (by omega)).mpr q.2.2)
  · rw [b2i_1]
    exact ⟨g, g2, (shr_zero g2 (by omega) (by omega) (by omega)).mp g3⟩
theorem cn_X8_wordsToChange {d : Nat} {P : Int → mmM → Prop} {mem : mmM} (h : mmT bX8_wordsToChange d 0 0 (mQ 0 P) 0 [(2, 23), (9, 0), (9, 0)] [] mS mem) : con 0 bX8_wordsToChange d [(2, 23)] mem P := mmC_of [(2, 23), (9, 0), (9, 0)] ok_X8_wordsToChange.2.2.2.2 rfl (Nat.le_of_ble_eq_true rfl) h
theorem bk_X8_wordsToChange_0 {d : Nat} {P : Int → mmM → Prop} {mem : mmM}
  (k1 : mmT bX8_wordsToChange d 0 0 (mQ 0 P) 4 [(2, 23), (0, 0), (0, 0)] [] mS mem)
  : mmT bX8_wordsToChange d 0 0 (mQ 0 P) 0 [(2, 23), (9, 0), (9, 0)] [] mS mem := by
  refine st_iconst dX8_wordsToChange_0 ?_
  refine st_istore_n (i := 1) rfl (by decide) (lc' := [(2, 23), (0, 0), (9, 0)]) rfl dX8_wordsToChange_1 ?_
  refine st_iconst dX8_wordsToChange_2 ?_
  refine st_istore_n (i := 2) rfl (by decide) (lc' := [(2, 23), (0, 0), (0, 0)]) rfl dX8_wordsToChange_3 ?_
  exact st_locals [(2, 23), (0, 0), (0, 0)] ⟨Or.inr rfl, Or.inr rfl, Or.inr rfl, trivial⟩ k1
theorem bk_X8_wordsToChange_4 {d : Nat} {P : Int → mmM → Prop} {mem : mmM} {x1 x2 : Int}
  (k1 : x2 < (mem 23 1) → (aheadF (mem 23 1) (mem 24) (mem 28) x2) = (-1) → mmT bX8_wordsToChange d 0 0 (mQ 0 P) 4 [(2, 23), (0, (x1 + 0)), (0, (x2 + 1))] [] mS mem)
  (k2 : x2 < (mem 23 1) → ¬ (aheadF (mem 23 1) (mem 24) (mem 28) x2) = (-1) → mmT bX8_wordsToChange d 0 0 (mQ 0 P) 4 [(2, 23), (0, (x1 + 1)), (0, (x2 + 1))] [] mS mem)
  (q1 : (mem 23 1) ≤ x2 → P x1 mem)
  (hd4 : 4 ≤ d := by omega)
  (s1 : R32 x2 := by intros; omega)
  (s2 : x2 < (mem 23 1) → 0 ≤ x2 ∧ x2 < 24 := by intros; omega)
  (s3 : x2 < (mem 23 1) → 0 ≤ (mem 23 1) ∧ (mem 23 1) ≤ 24 := by intros; omega)
  : mmT bX8_wordsToChange d 0 0 (mQ 0 P) 4 [(2, 23), (0, x1), (0, x2)] [] mS mem := by
  refine st_iload_n (i := 2) rfl rfl dX8_wordsToChange_4 ?_
  refine st_aload_n (i := 0) rfl (t := 0) rfl (by decide) dX8_wordsToChange_5 ?_
  refine so_getI (v := (mem 23 1)) 23 1 fr_X8_60_8 rfl sh_23 rfl dX8_wordsToChange_6 (fun r1 => ?_)
  refine sr_icmp_ge 35 s1 r1 (by decide) dX8_wordsToChange_9 (fun h1 => ?_) (fun h1 => ?_)
  · have h1 : (mem 23 1) ≤ x2 := by omega
    refine st_iload_n (i := 1) rfl rfl dX8_wordsToChange_35 ?_
    exact st_ireturn rfl dX8_wordsToChange_36 (mQ.ret (q1 h1))
  · have h1 : x2 < (mem 23 1) := by omega
    refine st_iload_n (i := 1) rfl rfl dX8_wordsToChange_12 ?_
    refine st_aload_n (i := 0) rfl (t := 0) rfl (by decide) dX8_wordsToChange_13 ?_
    refine st_iload_n (i := 2) rfl rfl dX8_wordsToChange_14 ?_
    refine st_callV (kc2 := 0) (ks2 := 0) (av := [(0, x2)]) 23 8 mr_X8_107 ok_X8_lastLikeAhead (c_X8_lastLikeAhead mem x2 ((s2 h1)) ((s3 h1))) rfl sh_23 ⟨_, rfl, rfl, by decide⟩ rfl rfl hd4 (Nat.le_refl 0) (Nat.le_refl 0) (Nat.le_of_ble_eq_true rfl) dX8_wordsToChange_15 (mQ.elim fun v1 m1 hp => ?_)
    obtain ⟨hpv, hpm⟩ := hp
    subst hpv
    have hpm := hpm.symm
    subst hpm
    refine st_iconst dX8_wordsToChange_18 ?_
    refine sr_icmp_eq 26 (aheadF_rng ((s2 h1)) ((s3 h1))) ⟨by decide, by decide⟩ (by decide) dX8_wordsToChange_19 (fun h2 => ?_) (fun h2 => ?_)
    · have h2 : (aheadF (mem 23 1) (mem 24) (mem 28) x2) = (-1) := by omega
      refine st_iconst dX8_wordsToChange_26 ?_
      refine st_iadd dX8_wordsToChange_27 ?_
      refine st_istore_n (i := 1) rfl (by decide) (lc' := [(2, 23), (0, (x1 + 0)), (0, x2)]) rfl dX8_wordsToChange_28 ?_
      refine st_iinc (y := (x2 + 1)) (by decide) (i := 2) rfl rfl (lc' := [(2, 23), (0, (x1 + 0)), (0, (x2 + 1))]) rfl dX8_wordsToChange_29 ?_
      refine st_goto 4 (by decide) dX8_wordsToChange_32 ?_
      exact st_locals [(2, 23), (0, (x1 + 0)), (0, (x2 + 1))] ⟨Or.inr rfl, Or.inr rfl, Or.inr rfl, trivial⟩ (k1 h1 h2)
    · have h2 : ¬ (aheadF (mem 23 1) (mem 24) (mem 28) x2) = (-1) := by omega
      refine st_iconst dX8_wordsToChange_22 ?_
      refine st_goto 27 (by decide) dX8_wordsToChange_23 ?_
      refine st_iadd dX8_wordsToChange_27 ?_
      refine st_istore_n (i := 1) rfl (by decide) (lc' := [(2, 23), (0, (x1 + 1)), (0, x2)]) rfl dX8_wordsToChange_28 ?_
      refine st_iinc (y := (x2 + 1)) (by decide) (i := 2) rfl rfl (lc' := [(2, 23), (0, (x1 + 1)), (0, (x2 + 1))]) rfl dX8_wordsToChange_29 ?_
      refine st_goto 4 (by decide) dX8_wordsToChange_32 ?_
      exact st_locals [(2, 23), (0, (x1 + 1)), (0, (x2 + 1))] ⟨Or.inr rfl, Or.inr rfl, Or.inr rfl, trivial⟩ (k2 h1 h2)
theorem cn_X8_firstWordToChange {d : Nat} {P : Int → mmM → Prop} {mem : mmM} (h : mmT bX8_firstWordToChange d 0 0 (mQ 0 P) 0 [(2, 23), (9, 0)] [] mS mem) : con 0 bX8_firstWordToChange d [(2, 23)] mem P := mmC_of [(2, 23), (9, 0)] ok_X8_firstWordToChange.2.2.2.2 rfl (Nat.le_of_ble_eq_true rfl) h
theorem bk_X8_firstWordToChange_0 {d : Nat} {P : Int → mmM → Prop} {mem : mmM}
  (k1 : mmT bX8_firstWordToChange d 0 0 (mQ 0 P) 2 [(2, 23), (0, 0)] [] mS mem)
  : mmT bX8_firstWordToChange d 0 0 (mQ 0 P) 0 [(2, 23), (9, 0)] [] mS mem := by
  refine st_iconst dX8_firstWordToChange_0 ?_
  refine st_istore_n (i := 1) rfl (by decide) (lc' := [(2, 23), (0, 0)]) rfl dX8_firstWordToChange_1 ?_
  exact st_locals [(2, 23), (0, 0)] ⟨Or.inr rfl, Or.inr rfl, trivial⟩ k1
theorem bk_X8_firstWordToChange_2 {d : Nat} {P : Int → mmM → Prop} {mem : mmM} {x1 : Int}
  (k1 : x1 < (mem 23 1) → (aheadF (mem 23 1) (mem 24) (mem 28) x1) = (-1) → mmT bX8_firstWordToChange d 0 0 (mQ 0 P) 2 [(2, 23), (0, (x1 + 1))] [] mS mem)
  (q1 : (mem 23 1) ≤ x1 → P (-1) mem)
  (q2 : x1 < (mem 23 1) → ¬ (aheadF (mem 23 1) (mem 24) (mem 28) x1) = (-1) → P (x1 - 1) mem)
  (hd4 : 4 ≤ d := by omega)
  (s1 : R32 x1 := by intros; omega)
  (s2 : x1 < (mem 23 1) → 0 ≤ x1 ∧ x1 < 24 := by intros; omega)
  (s3 : x1 < (mem 23 1) → 0 ≤ (mem 23 1) ∧ (mem 23 1) ≤ 24 := by intros; omega)
  : mmT bX8_firstWordToChange d 0 0 (mQ 0 P) 2 [(2, 23), (0, x1)] [] mS mem := by
  refine st_iload_n (i := 1) rfl rfl dX8_firstWordToChange_2 ?_
  refine st_aload_n (i := 0) rfl (t := 0) rfl (by decide) dX8_firstWordToChange_3 ?_
  refine so_getI (v := (mem 23 1)) 23 1 fr_X8_60_8 rfl sh_23 rfl dX8_firstWordToChange_4 (fun r1 => ?_)
  refine sr_icmp_ge 29 s1 r1 (by decide) dX8_firstWordToChange_7 (fun h1 => ?_) (fun h1 => ?_)
  · have h1 : (mem 23 1) ≤ x1 := by omega
    refine st_iconst dX8_firstWordToChange_29 ?_
    exact st_ireturn rfl dX8_firstWordToChange_30 (mQ.ret (q1 h1))
  · have h1 : x1 < (mem 23 1) := by omega
    refine st_aload_n (i := 0) rfl (t := 0) rfl (by decide) dX8_firstWordToChange_10 ?_
    refine st_iload_n (i := 1) rfl rfl dX8_firstWordToChange_11 ?_
    refine st_callV (kc2 := 0) (ks2 := 0) (av := [(0, x1)]) 23 8 mr_X8_107 ok_X8_lastLikeAhead (c_X8_lastLikeAhead mem x1 ((s2 h1)) ((s3 h1))) rfl sh_23 ⟨_, rfl, rfl, by decide⟩ rfl rfl hd4 (Nat.le_refl 0) (Nat.le_refl 0) (Nat.le_of_ble_eq_true rfl) dX8_firstWordToChange_12 (mQ.elim fun v1 m1 hp => ?_)
    obtain ⟨hpv, hpm⟩ := hp
    subst hpv
    have hpm := hpm.symm
    subst hpm
    refine st_iconst dX8_firstWordToChange_15 ?_
    refine sr_icmp_eq 23 (aheadF_rng ((s2 h1)) ((s3 h1))) ⟨by decide, by decide⟩ (by decide) dX8_firstWordToChange_16 (fun h2 => ?_) (fun h2 => ?_)
    · have h2 : (aheadF (mem 23 1) (mem 24) (mem 28) x1) = (-1) := by omega
      refine st_iinc (y := (x1 + 1)) (by decide) (i := 1) rfl rfl (lc' := [(2, 23), (0, (x1 + 1))]) rfl dX8_firstWordToChange_23 ?_
      refine st_goto 2 (by decide) dX8_firstWordToChange_26 ?_
      exact st_locals [(2, 23), (0, (x1 + 1))] ⟨Or.inr rfl, Or.inr rfl, trivial⟩ (k1 h1 h2)
    · have h2 : ¬ (aheadF (mem 23 1) (mem 24) (mem 28) x1) = (-1) := by omega
      refine st_iload_n (i := 1) rfl rfl dX8_firstWordToChange_19 ?_
      refine st_iconst dX8_firstWordToChange_20 ?_
      refine st_isub dX8_firstWordToChange_21 ?_
      exact st_ireturn rfl dX8_firstWordToChange_22 (mQ.ret (q2 h1 h2))
theorem c_X8_wordsToChange (mem : mmM) (hn : 0 ≤ mem 23 1 ∧ mem 23 1 ≤ 24) : con 0 bX8_wordsToChange 4 [(2, 23)] mem (fun v m => v = wtcF (mem 23 1) (mem 24) (mem 28) ∧ m = mem) := by
  refine cn_X8_wordsToChange (bk_X8_wordsToChange_0 ?_)
  refine loop_up (n := mem 23 1) (fun i => ∀ acc, acc = sumTo (fun i => b2i (¬ aheadF (mem 23 1) (mem 24) (mem 28) i = -1)) i.toNat → mmT bX8_wordsToChange 4 0 0 (mQ 0 (fun v m => v = wtcF (mem 23 1) (mem 24) (mem 28) ∧ m = mem)) 4 [(2, 23), (0, acc), (0, i)] [] mS mem) (fun i h0 h1 ih acc ha => ?_) 0 (by omega) (by omega) 0 rfl
  refine bk_X8_wordsToChange_4 (fun g g2 => ih g _ ?_) (fun g g2 => ih g _ ?_) (fun g => ⟨?_, rfl⟩)
  · rw [sumTo_step _ h0, ← ha, b2i_0 (fun q => q g2)]
  · rw [sumTo_step _ h0, ← ha, b2i_1 g2]
  · rw [ha, show i = mem 23 1 by omega]
    rfl
theorem c_X8_firstWordToChange (mem : mmM) (hn : 0 ≤ mem 23 1 ∧ mem 23 1 ≤ 24) : con 0 bX8_firstWordToChange 4 [(2, 23)] mem (fun v m => v = fwtF (mem 23 1) (mem 24) (mem 28) ∧ m = mem) := by
  refine cn_X8_firstWordToChange (bk_X8_firstWordToChange_0 ?_)
  have key : ∀ (k : Nat) (i : Int), 0 ≤ i → k = (mem 23 1 - i).toNat → i ≤ 24 → upFrom (fun i => decide (¬ aheadF (mem 23 1) (mem 24) (mem 28) i = -1)) i k = upFrom (fun i => decide (¬ aheadF (mem 23 1) (mem 24) (mem 28) i = -1)) 0 (mem 23 1).toNat → mmT bX8_firstWordToChange 4 0 0 (mQ 0 (fun v m => v = fwtF (mem 23 1) (mem 24) (mem 28) ∧ m = mem)) 2 [(2, 23), (0, i)] [] mS mem := by
    intro k
    induction k with
    | zero =>
      intro i h0 hk hi he
      refine bk_X8_firstWordToChange_2 (fun g1 g2 => by omega) (fun g => ⟨?_, rfl⟩) (fun g1 g2 => by omega)
      unfold fwtF
      rw [← he]
      rfl
    | succ k ih =>
      intro i h0 hk hi he
      rw [upFrom_succ] at he
      refine bk_X8_firstWordToChange_2 (fun g1 g2 => ?_) (fun g => by omega) (fun g1 g2 => ⟨?_, rfl⟩)
      · refine ih (i + 1) (by omega) (by omega) (by omega) ?_
        rw [if_neg (fun q => (of_decide_eq_true q) g2)] at he
        exact he
      · rw [if_pos (decide_eq_true g2)] at he
        unfold fwtF
        rw [← he, if_neg (by omega)]
  exact key _ 0 (by omega) rfl (by omega) (by rw [show mem 23 1 - 0 = mem 23 1 by omega])
theorem cn_X4_whichLeapTo {d : Nat} {P : Int → mmM → Prop} {mem : mmM} {x1 : Int} (h : mmT bX4_whichLeapTo d 0 0 (mQ 0 P) 0 [(2, 35), (0, x1), (9, 0), (9, 0)] [] mS mem) : con 0 bX4_whichLeapTo d [(2, 35), (0, x1)] mem P := mmC_of [(2, 35), (0, x1), (9, 0), (9, 0)] ok_X4_whichLeapTo.2.2.2.2 rfl (Nat.le_of_ble_eq_true rfl) h
theorem bk_X4_whichLeapTo_0 {d : Nat} {P : Int → mmM → Prop} {mem : mmM} {x1 : Int}
  (k1 : mmT bX4_whichLeapTo d 0 0 (mQ 0 P) 4 [(2, 35), (0, x1), (0, 0), (0, 0)] [] mS mem)
  : mmT bX4_whichLeapTo d 0 0 (mQ 0 P) 0 [(2, 35), (0, x1), (9, 0), (9, 0)] [] mS mem := by
  refine st_iconst dX4_whichLeapTo_0 ?_
  refine st_istore_n (i := 2) rfl (by decide) (lc' := [(2, 35), (0, x1), (0, 0), (9, 0)]) rfl dX4_whichLeapTo_1 ?_
  refine st_iconst dX4_whichLeapTo_2 ?_
  refine st_istore_n (i := 3) rfl (by decide) (lc' := [(2, 35), (0, x1), (0, 0), (0, 0)]) rfl dX4_whichLeapTo_3 ?_
  exact st_locals [(2, 35), (0, x1), (0, 0), (0, 0)] ⟨Or.inr rfl, Or.inr rfl, Or.inr rfl, Or.inr rfl, trivial⟩ k1
theorem bk_X4_whichLeapTo_4 {d : Nat} {P : Int → mmM → Prop} {mem : mmM} {x1 x2 x3 : Int}
  (k1 : x3 < (mem 23 1) → ¬ (mem 38 x3) = x1 → mmT bX4_whichLeapTo d 0 0 (mQ 0 P) 4 [(2, 35), (0, x1), (0, (or32 x2 0)), (0, (x3 + 1))] [] mS mem)
  (k2 : x3 < (mem 23 1) → (mem 38 x3) = x1 → mmT bX4_whichLeapTo d 0 0 (mQ 0 P) 4 [(2, 35), (0, x1), (0, (or32 x2 (shl32 1 x3))), (0, (x3 + 1))] [] mS mem)
  (q1 : (mem 23 1) ≤ x3 → P x2 mem)
  (s1 : R32 x3 := by intros; omega)
  (s2 : x3 < (mem 23 1) → 0 ≤ x3 ∧ x3 < 24 := by intros; omega)
  (s3 : x3 < (mem 23 1) → R32 x1 := by intros; omega)
  : mmT bX4_whichLeapTo d 0 0 (mQ 0 P) 4 [(2, 35), (0, x1), (0, x2), (0, x3)] [] mS mem := by
  refine st_iload_n (i := 3) rfl rfl dX4_whichLeapTo_4 ?_
  refine st_aload_n (i := 0) rfl (t := 0) rfl (by decide) dX4_whichLeapTo_5 ?_
  refine so_getA 35 0 fr_X4_26_4 rfl sh_35 fx_35_0 dX4_whichLeapTo_6 ?_
  refine so_getI (v := (mem 23 1)) 23 1 fr_X4_36_8 rfl sh_23 rfl dX4_whichLeapTo_9 (fun r1 => ?_)
  refine sr_icmp_ge 41 s1 r1 (by decide) dX4_whichLeapTo_12 (fun h1 => ?_) (fun h1 => ?_)
  · have h1 : (mem 23 1) ≤ x3 := by omega
    refine st_iload_n (i := 2) rfl rfl dX4_whichLeapTo_41 ?_
    exact st_ireturn rfl dX4_whichLeapTo_42 (mQ.ret (q1 h1))
  · have h1 : x3 < (mem 23 1) := by omega
    refine st_iload_n (i := 2) rfl rfl dX4_whichLeapTo_15 ?_
    refine st_aload_n (i := 0) rfl (t := 0) rfl (by decide) dX4_whichLeapTo_16 ?_
    refine so_getA 35 3 fr_X4_18_4 rfl sh_35 fx_35_3 dX4_whichLeapTo_17 ?_
    refine st_iload_n (i := 3) rfl rfl dX4_whichLeapTo_20 ?_
    refine so_iald (v := (mem 38 x3)) 38 rfl sh_38 (by decide) (s2 h1) rfl dX4_whichLeapTo_21 (fun r2 => ?_)
    refine st_iload_n (i := 1) rfl rfl dX4_whichLeapTo_22 ?_
    refine sr_icmp_ne 32 r2 (s3 h1) (by decide) dX4_whichLeapTo_23 (fun h2 => ?_) (fun h2 => ?_)
    · have h2 : ¬ (mem 38 x3) = x1 := by omega
      refine st_iconst dX4_whichLeapTo_32 ?_
      refine st_ior dX4_whichLeapTo_33 ?_
      refine st_istore_n (i := 2) rfl (by decide) (lc' := [(2, 35), (0, x1), (0, (or32 x2 0)), (0, x3)]) rfl dX4_whichLeapTo_34 ?_
      refine st_iinc (y := (x3 + 1)) (by decide) (i := 3) rfl rfl (lc' := [(2, 35), (0, x1), (0, (or32 x2 0)), (0, (x3 + 1))]) rfl dX4_whichLeapTo_35 ?_
      refine st_goto 4 (by decide) dX4_whichLeapTo_38 ?_
      exact st_locals [(2, 35), (0, x1), (0, (or32 x2 0)), (0, (x3 + 1))] ⟨Or.inr rfl, Or.inr rfl, Or.inr rfl, Or.inr rfl, trivial⟩ (k1 h1 h2)
    · have h2 : (mem 38 x3) = x1 := by omega
      refine st_iconst dX4_whichLeapTo_26 ?_
      refine st_iload_n (i := 3) rfl rfl dX4_whichLeapTo_27 ?_
      refine st_ishl dX4_whichLeapTo_28 ?_
      refine st_goto 33 (by decide) dX4_whichLeapTo_29 ?_
      refine st_ior dX4_whichLeapTo_33 ?_
      refine st_istore_n (i := 2) rfl (by decide) (lc' := [(2, 35), (0, x1), (0, (or32 x2 (shl32 1 x3))), (0, x3)]) rfl dX4_whichLeapTo_34 ?_
      refine st_iinc (y := (x3 + 1)) (by decide) (i := 3) rfl rfl (lc' := [(2, 35), (0, x1), (0, (or32 x2 (shl32 1 x3))), (0, (x3 + 1))]) rfl dX4_whichLeapTo_35 ?_
      refine st_goto 4 (by decide) dX4_whichLeapTo_38 ?_
      exact st_locals [(2, 35), (0, x1), (0, (or32 x2 (shl32 1 x3))), (0, (x3 + 1))] ⟨Or.inr rfl, Or.inr rfl, Or.inr rfl, Or.inr rfl, trivial⟩ (k2 h1 h2)
theorem c_X4_whichLeapTo (mem : mmM) (x1 : Int) (h1 : R32 x1) (hn : 0 ≤ mem 23 1 ∧ mem 23 1 ≤ 24) : con 0 bX4_whichLeapTo 1 [(2, 35), (0, x1)] mem (fun v m => v = wltF (mem 23 1) (mem 38) x1 ∧ m = mem) := by
  refine cn_X4_whichLeapTo (bk_X4_whichLeapTo_0 ?_)
  refine loop_up (n := mem 23 1) (fun i => ∀ acc, acc = foldTo (fun acc i => or32 acc (if mem 38 i = x1 then shl32 1 i else 0)) 0 i.toNat → mmT bX4_whichLeapTo 1 0 0 (mQ 0 (fun v m => v = wltF (mem 23 1) (mem 38) x1 ∧ m = mem)) 4 [(2, 35), (0, x1), (0, acc), (0, i)] [] mS mem) (fun i h0 h1 ih acc ha => ?_) 0 (by omega) (by omega) 0 rfl
  refine bk_X4_whichLeapTo_4 (fun g g2 => ih g _ ?_) (fun g g2 => ih g _ ?_) (fun g => ⟨?_, rfl⟩)
  · rw [foldTo_step _ _ h0, ← ha, if_neg g2]
  · rw [foldTo_step _ _ h0, ← ha, if_pos g2]
  · rw [ha, show i = mem 23 1 by omega]
    rfl