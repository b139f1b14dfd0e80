/-! what is read off the play -/
theorem loop_up {n : Int} (R : Int → Prop) (step : ∀ i, 0 ≤ i → i ≤ n → (i < n → R (i + 1)) → R i) : ∀ i, 0 ≤ i → i ≤ n → R i := by
  have key : ∀ (k : Nat) (i : Int), k = (n - i).toNat → 0 ≤ i → i ≤ n → R i := by
    intro k
    induction k with
    | zero => intro i hk h0 h1; exact step i h0 h1 (fun g => by omega)
    | succ k ih => intro i hk h0 h1; exact step i h0 h1 (fun g => ih (i + 1) (by omega) (by omega) (by omega))
  exact fun i h0 h1 => key _ i rfl h0 h1
def foldTo {α : Type} (g : α → Int → α) (z : α) : Nat → α
  | 0 => z
  | k + 1 => g (foldTo g z k) k
theorem foldTo_step {α : Type} (g : α → Int → α) (z : α) {i : Int} (h : 0 ≤ i) : foldTo g z (i + 1).toNat = g (foldTo g z i.toNat) i := by
  rw [show (i + 1).toNat = i.toNat + 1 by omega]
  show g (foldTo g z i.toNat) ((i.toNat : Nat) : Int) = _
  rw [Int.toNat_of_nonneg h]
theorem foldTo_congr {α : Type} {g g' : α → Int → α} {z : α} {n : Nat} (h : ∀ (i : Int) (a : α), 0 ≤ i → i < n → g a i = g' a i) : foldTo g z n = foldTo g' z n := by
  induction n with
  | zero => rfl
  | succ n ih =>
    show g (foldTo g z n) n = g' (foldTo g' z n) n
    rw [ih (fun i a h1 h2 => h i a h1 (by omega)), h n _ (by omega) (by omega)]
theorem sumTo_step (f : Int → Int) {i : Int} (h : 0 ≤ i) : sumTo f (i + 1).toNat = sumTo f i.toNat + f i := by
  rw [show (i + 1).toNat = i.toNat + 1 by omega, sumTo_succ, Int.toNat_of_nonneg h]
def actF (n : Int) (a : Int → Int) : Int := foldTo (fun acc i => or32 acc (shl32 1 (a i))) 0 n.toNat
theorem foldTo_rng {g : Int → Int → Int} {z : Int} (hz : R32 z) (hg : ∀ a i, R32 (g a i)) (n : Nat) : R32 (foldTo g z n) := by
  cases n with
  | zero => exact hz
  | succ n => exact hg _ _
theorem actF_rng {n : Int} {a : Int → Int} : R32 (actF n a) := foldTo_rng ⟨by decide, by decide⟩ (fun _ _ => or32_rng _ _) _
abbrev chgF (n : Int) (c : Int → Int) (f k : Int) : Prop := 1 ≤ f ∧ (0 ≤ f ∧ f < n) ∧ (0 ≤ f + k ∧ f + k < n) ∧ ¬ c (f + k) = c f
def spareF (n : Int) (c : Int → Int) (k : Int) : Int := if upFrom (fun i => decide (c (i + k) = c i)) 1 (n - 1 - k).toNat = -1 then (if n - 1 - k < 1 then -1 else 1) else upFrom (fun i => decide (c (i + k) = c i)) 1 (n - 1 - k).toNat
theorem spareF_bnd {n : Int} {c : Int → Int} {k : Int} (hk : 1 ≤ k ∧ k ≤ 8) (hn : 0 ≤ n ∧ n ≤ 24) : -1 ≤ spareF n c k ∧ spareF n c k ≤ 24 := by
  unfold spareF
  have := upFrom_spec (fun i => decide (c (i + k) = c i)) (n - 1 - k).toNat 1 (by omega)
  repeat' split <;> omega
theorem spareF_rng {n : Int} {c : Int → Int} {k : Int} (hk : 1 ≤ k ∧ k ≤ 8) (hn : 0 ≤ n ∧ n ≤ 24) : R32 (spareF n c k) := by
  have := spareF_bnd (c := c) hk hn
  omega
def wtcF (n : Int) (a c : Int → Int) : Int := sumTo (fun i => b2i (¬ aheadF n a c i = -1)) n.toNat
theorem wtcF_rng {n : Int} {a c : Int → Int} (hn : 0 ≤ n ∧ n ≤ 24) : R32 (wtcF n a c) := by
  unfold wtcF
  have := sumTo_bnd (f := fun i => b2i (¬ aheadF n a c i = -1)) (n := n.toNat) (b := 1) (fun i _ _ => b2i_rng _)
  omega
def fwtF (n : Int) (a c : Int → Int) : Int := if upFrom (fun i => decide (¬ aheadF n a c i = -1)) 0 n.toNat = -1 then -1 else upFrom (fun i => decide (¬ aheadF n a c i = -1)) 0 n.toNat - 1
theorem fwtF_rng {n : Int} {a c : Int → Int} (hn : 0 ≤ n ∧ n ≤ 24) : R32 (fwtF n a c) := by
  unfold fwtF
  have := upFrom_spec (fun i => decide (¬ aheadF n a c i = -1)) n.toNat 0 (by omega)
  split <;> omega
def wltF (n : Int) (to : Int → Int) (t : Int) : Int := foldTo (fun acc i => or32 acc (if to i = t then shl32 1 i else 0)) 0 n.toNat
def loopF (n : Int) (to : Int → Int) : Int × Int := foldTo (fun p i => if ¬ to i = -1 ∧ to i < i ∧ (p.2 = -1 ∨ i - to i < p.1) then (i - to i, i) else p) (-1, -1) n.toNat
def holeF (n : Int) (to : Int → Int) : Int × Int := foldTo (fun p i => if i < to i ∧ p.1 < to i - i then (to i - i, i) else p) (-1, -1) n.toNat
def silF (n : Int) (a len : Int → Int) (x : Int) : Int := (foldTo (fun (p : Int × Int) i => if a i = x then (max p.1 p.2, 0) else if p.2 = -1 then p else (p.1, p.2 + len i)) (-1, -1) n.toNat).1
def dbtF (n : Int) (a lk : Int → Int) (x : Int) : Int := sumTo (fun i => b2i (a i = x ∧ 0 < lk i)) n.toNat
theorem cn_X8_actors {d : Nat} {P : Int → mmM → Prop} {mem : mmM} (h : mmT bX8_actors d 0 0 (mQ 0 P) 0 [(2, 23), (9, 0), (9, 0)] [] mS mem) : con 0 bX8_actors d [(2, 23)] mem P := mmC_of [(2, 23), (9, 0), (9, 0)] ok_X8_actors.2.2.2.2 rfl (Nat.le_of_ble_eq_true rfl) h
theorem bk_X8_actors_0 {d : Nat} {P : Int → mmM → Prop} {mem : mmM}
  (k1 : mmT bX8_actors d 0 0 (mQ 0 P) 4 [(2, 23), (0, 0), (0, 0)] [] mS mem)
  : mmT bX8_actors d 0 0 (mQ 0 P) 0 [(2, 23), (9, 0), (9, 0)] [] mS mem := by
  refine st_iconst dX8_actors_0 ?_
  refine st_istore_n (i := 1) rfl (by decide) (lc' := [(2, 23), (0, 0), (9, 0)]) rfl dX8_actors_1 ?_
  refine st_iconst dX8_actors_2 ?_
  refine st_istore_n (i := 2) rfl (by decide) (lc' := [(2, 23), (0, 0), (0, 0)]) rfl dX8_actors_3 ?_
  exact st_locals [(2, 23), (0, 0), (0, 0)] ⟨Or.inr rfl, Or.inr rfl, Or.inr rfl, trivial⟩ k1
theorem bk_X8_actors_4 {d : Nat} {P : Int → mmM → Prop} {mem : mmM} {x1 x2 : Int}
  (k1 : x2 < (mem 23 1) → mmT bX8_actors d 0 0 (mQ 0 P) 4 [(2, 23), (0, (or32 x1 (shl32 1 (mem 24 x2)))), (0, (x2 + 1))] [] mS mem)
  (q1 : (mem 23 1) ≤ x2 → P x1 mem)
  (s1 : R32 x2 := by intros; omega)
  (s2 : x2 < (mem 23 1) → 0 ≤ x2 ∧ x2 < 24 := by intros; omega)
  : mmT bX8_actors d 0 0 (mQ 0 P) 4 [(2, 23), (0, x1), (0, x2)] [] mS mem := by
  refine st_iload_n (i := 2) rfl rfl dX8_actors_4 ?_
  refine st_aload_n (i := 0) rfl (t := 0) rfl (by decide) dX8_actors_5 ?_
  refine so_getI (v := (mem 23 1)) 23 1 fr_X8_60_8 rfl sh_23 rfl dX8_actors_6 (fun r1 => ?_)
  refine sr_icmp_ge 29 s1 r1 (by decide) dX8_actors_9 (fun h1 => ?_) (fun h1 => ?_)
  · have h1 : (mem 23 1) ≤ x2 := by omega
    refine st_iload_n (i := 1) rfl rfl dX8_actors_29 ?_
    exact st_ireturn rfl dX8_actors_30 (mQ.ret (q1 h1))
  · have h1 : x2 < (mem 23 1) := by omega
    refine st_iload_n (i := 1) rfl rfl dX8_actors_12 ?_
    refine st_iconst dX8_actors_13 ?_
    refine st_aload_n (i := 0) rfl (t := 0) rfl (by decide) dX8_actors_14 ?_
    refine so_getA 23 2 fr_X8_9_8 rfl sh_23 fx_23_2 dX8_actors_15 ?_
    refine st_iload_n (i := 2) rfl rfl dX8_actors_18 ?_
    refine so_iald (v := (mem 24 x2)) 24 rfl sh_24 (by decide) (s2 h1) rfl dX8_actors_19 (fun r2 => ?_)
    refine st_ishl dX8_actors_20 ?_
    refine st_ior dX8_actors_21 ?_
    refine st_istore_n (i := 1) rfl (by decide) (lc' := [(2, 23), (0, (or32 x1 (shl32 1 (mem 24 x2)))), (0, x2)]) rfl dX8_actors_22 ?_
    refine st_iinc (y := (x2 + 1)) (by decide) (i := 2) rfl rfl (lc' := [(2, 23), (0, (or32 x1 (shl32 1 (mem 24 x2)))), (0, (x2 + 1))]) rfl dX8_actors_23 ?_
    refine st_goto 4 (by decide) dX8_actors_26 ?_
    exact st_locals [(2, 23), (0, (or32 x1 (shl32 1 (mem 24 x2)))), (0, (x2 + 1))] ⟨Or.inr rfl, Or.inr rfl, Or.inr rfl, trivial⟩ (k1 h1)
theorem c_X8_actors (mem : mmM) (hn : 0 ≤ mem 23 1 ∧ mem 23 1 ≤ 24) : con 0 bX8_actors 1 [(2, 23)] mem (fun v m => v = actF (mem 23 1) (mem 24) ∧ m = mem) := by
  refine cn_X8_actors (bk_X8_actors_0 ?_)
  refine loop_up (n := mem 23 1) (fun i => ∀ acc, acc = foldTo (fun acc i => or32 acc (shl32 1 (mem 24 i))) 0 i.toNat → mmT bX8_actors 1 0 0 (mQ 0 (fun v m => v = actF (mem 23 1) (mem 24) ∧ m = mem)) 4 [(2, 23), (0, acc), (0, i)] [] mS mem) (fun i h0 h1 ih acc ha => ?_) 0 (by omega) (by omega) 0 rfl
  refine bk_X8_actors_4 (fun g => ih g _ ?_) (fun g => ⟨?_, rfl⟩)
  · rw [foldTo_step _ _ h0, ← ha]
  · rw [ha, show i = mem 23 1 by omega]
    rfl
theorem cn_X8_hasActor {d : Nat} {P : Int → mmM → Prop} {mem : mmM} {x1 : Int} (h : mmT bX8_hasActor d 0 0 (mQ 0 P) 0 [(2, 23), (0, x1)] [] mS mem) : con 0 bX8_hasActor d [(2, 23), (0, x1)] mem P := mmC_of [(2, 23), (0, x1)] ok_X8_hasActor.2.2.2.2 rfl (Nat.le_of_ble_eq_true rfl) h
theorem bk_X8_hasActor_0 {d : Nat} {P : Int → mmM → Prop} {mem : mmM} {x1 : Int}
  (q1 : x1 < 0 → P 0 mem)
  (q2 : 0 ≤ x1 → 8 ≤ x1 → P 0 mem)
  (q3 : 0 ≤ x1 → x1 < 8 → (and32 (shr32 (actF (mem 23 1) (mem 24)) x1) 1) = 0 → P 0 mem)
  (q4 : 0 ≤ x1 → x1 < 8 → ¬ (and32 (shr32 (actF (mem 23 1) (mem 24)) x1) 1) = 0 → P 1 mem)
  (hd2 : 2 ≤ d := by omega)
  (s1 : R32 x1 := by intros; omega)
  (s2 : 0 ≤ x1 → x1 < 8 → 0 ≤ (mem 23 1) ∧ (mem 23 1) ≤ 24 := by intros; omega)
  : mmT bX8_hasActor d 0 0 (mQ 0 P) 0 [(2, 23), (0, x1)] [] mS mem := by
  refine st_iload_n (i := 1) rfl rfl dX8_hasActor_0 ?_
  refine sr_if_lt 25 s1 (by decide) dX8_hasActor_1 (fun h1 => ?_) (fun h1 => ?_)
  · have h1 : x1 < 0 := by omega
    refine st_iconst dX8_hasActor_25 ?_
    exact st_zreturn rfl (by decide) dX8_hasActor_26 (mQ.ret (q1 h1))
  · have h1 : 0 ≤ x1 := by omega
    refine st_iload_n (i := 1) rfl rfl dX8_hasActor_4 ?_
    refine st_bipush rfl dX8_hasActor_5 ?_
    refine sr_icmp_ge 25 s1 ⟨by decide, by decide⟩ (by decide) dX8_hasActor_7 (fun h2 => ?_) (fun h2 => ?_)
    · have h2 : 8 ≤ x1 := by omega
      refine st_iconst dX8_hasActor_25 ?_
      exact st_zreturn rfl (by decide) dX8_hasActor_26 (mQ.ret (q2 h1 h2))
    · have h2 : x1 < 8 := by omega
      refine st_aload_n (i := 0) rfl (t := 0) rfl (by decide) dX8_hasActor_10 ?_
      refine st_callV (kc2 := 0) (ks2 := 0) (av := []) 23 8 mr_X8_81 ok_X8_actors (c_X8_actors mem ((s2 h1 h2))) rfl sh_23 ⟨_, rfl, rfl, by decide⟩ rfl rfl hd2 (Nat.le_refl 0) (Nat.le_refl 0) (Nat.le_of_ble_eq_true rfl) dX8_hasActor_11 (mQ.elim fun v1 m1 hp => ?_)
      obtain ⟨hpv, hpm⟩ := hp
      subst hpv
      have hpm := hpm.symm
      subst hpm
      refine st_iload_n (i := 1) rfl rfl dX8_hasActor_14 ?_
      refine st_ishr dX8_hasActor_15 ?_
      refine st_iconst dX8_hasActor_16 ?_
      refine st_iand dX8_hasActor_17 ?_
      refine sr_if_eq 25 (and32_rng (shr32 (actF (mem 23 1) (mem 24)) x1) 1) (by decide) dX8_hasActor_18 (fun h3 => ?_) (fun h3 => ?_)
      · have h3 : (and32 (shr32 (actF (mem 23 1) (mem 24)) x1) 1) = 0 := by omega
        refine st_iconst dX8_hasActor_25 ?_
        exact st_zreturn rfl (by decide) dX8_hasActor_26 (mQ.ret (q3 h1 h2 h3))
      · have h3 : ¬ (and32 (shr32 (actF (mem 23 1) (mem 24)) x1) 1) = 0 := by omega
        refine st_iconst dX8_hasActor_21 ?_
        refine st_goto 26 (by decide) dX8_hasActor_22 ?_
        exact st_zreturn rfl (by decide) dX8_hasActor_26 (mQ.ret (q4 h1 h2 h3))
theorem cn_X8_changesCue {d : Nat} {P : Int → mmM → Prop} {mem : mmM} {x1 x2 : Int} (h : mmT bX8_changesCue d 0 0 (mQ 0 P) 0 [(2, 23), (0, x1), (0, x2)] [] mS mem) : con 0 bX8_changesCue d [(2, 23), (0, x1), (0, x2)] mem P := mmC_of [(2, 23), (0, x1), (0, x2)] ok_X8_changesCue.2.2.2.2 rfl (Nat.le_of_ble_eq_true rfl) h
theorem bk_X8_changesCue_0 {d : Nat} {P : Int → mmM → Prop} {mem : mmM} {x1 x2 : Int}
  (q1 : x1 < 1 → P 0 mem)
  (q2 : 1 ≤ x1 → ¬ (0 ≤ x1 ∧ x1 < (mem 23 1)) → P 0 mem)
  (q3 : 1 ≤ x1 → (0 ≤ x1 ∧ x1 < (mem 23 1)) → ¬ (0 ≤ (x1 + x2) ∧ (x1 + x2) < (mem 23 1)) → P 0 mem)
  (q4 : 1 ≤ x1 → (0 ≤ x1 ∧ x1 < (mem 23 1)) → (0 ≤ (x1 + x2) ∧ (x1 + x2) < (mem 23 1)) → (mem 28 (x1 + x2)) = (mem 28 x1) → P 0 mem)
  (q5 : 1 ≤ x1 → (0 ≤ x1 ∧ x1 < (mem 23 1)) → (0 ≤ (x1 + x2) ∧ (x1 + x2) < (mem 23 1)) → ¬ (mem 28 (x1 + x2)) = (mem 28 x1) → P 1 mem)
  (hd2 : 2 ≤ d := by omega)
  (s1 : R32 x1 := by intros; omega)
  (s2 : 1 ≤ x1 → (0 ≤ x1 ∧ x1 < (mem 23 1)) → R32 (x1 + x2) := by intros; omega)
  (s3 : 1 ≤ x1 → (0 ≤ x1 ∧ x1 < (mem 23 1)) → (0 ≤ (x1 + x2) ∧ (x1 + x2) < (mem 23 1)) → 0 ≤ (x1 + x2) ∧ (x1 + x2) < 24 := by intros; omega)
  (s4 : 1 ≤ x1 → (0 ≤ x1 ∧ x1 < (mem 23 1)) → (0 ≤ (x1 + x2) ∧ (x1 + x2) < (mem 23 1)) → 0 ≤ x1 ∧ x1 < 24 := by intros; omega)
  : mmT bX8_changesCue d 0 0 (mQ 0 P) 0 [(2, 23), (0, x1), (0, x2)] [] mS mem := by
  refine st_iload_n (i := 1) rfl rfl dX8_changesCue_0 ?_
  refine st_iconst dX8_changesCue_1 ?_
  refine sr_icmp_lt 44 s1 ⟨by decide, by decide⟩ (by decide) dX8_changesCue_2 (fun h1 => ?_) (fun h1 => ?_)
  · have h1 : x1 < 1 := by omega
    refine st_iconst dX8_changesCue_44 ?_
    exact st_zreturn rfl (by decide) dX8_changesCue_45 (mQ.ret (q1 h1))
  · have h1 : 1 ≤ x1 := by omega
    refine st_aload_n (i := 0) rfl (t := 0) rfl (by decide) dX8_changesCue_5 ?_
    refine st_iload_n (i := 1) rfl rfl dX8_changesCue_6 ?_
    refine st_callV (kc2 := 0) (ks2 := 0) (av := [(0, x1)]) 23 8 mr_X8_85 ok_X8_has (c_X8_has mem x1 (s1)) rfl sh_23 ⟨_, rfl, rfl, by decide⟩ rfl rfl hd2 (Nat.le_refl 0) (Nat.le_refl 0) (Nat.le_of_ble_eq_true rfl) dX8_changesCue_7 (mQ.elim fun v1 m1 hp => ?_)
    obtain ⟨hpv, hpm⟩ := hp
    subst hpv
    have hpm := hpm.symm
    subst hpm
    refine so_ifeqB 44 (by decide) dX8_changesCue_10 (fun h2 => ?_) (fun h2 => ?_)
    · have h2 : ¬ (0 ≤ x1 ∧ x1 < (mem 23 1)) := h2
      refine st_iconst dX8_changesCue_44 ?_
      exact st_zreturn rfl (by decide) dX8_changesCue_45 (mQ.ret (q2 h1 h2))
    · have h2 : (0 ≤ x1 ∧ x1 < (mem 23 1)) := h2
      refine st_aload_n (i := 0) rfl (t := 0) rfl (by decide) dX8_changesCue_13 ?_
      refine st_iload_n (i := 1) rfl rfl dX8_changesCue_14 ?_
      refine st_iload_n (i := 2) rfl rfl dX8_changesCue_15 ?_
      refine st_iadd dX8_changesCue_16 ?_
      refine st_callV (kc2 := 0) (ks2 := 0) (av := [(0, (x1 + x2))]) 23 8 mr_X8_85 ok_X8_has (c_X8_has mem (x1 + x2) ((s2 h1 h2))) rfl sh_23 ⟨_, rfl, rfl, by decide⟩ rfl rfl hd2 (Nat.le_refl 0) (Nat.le_refl 0) (Nat.le_of_ble_eq_true rfl) dX8_changesCue_17 (mQ.elim fun v2 m2 hp => ?_)
      obtain ⟨hpv, hpm⟩ := hp
      subst hpv
      have hpm := hpm.symm
      subst hpm
      refine so_ifeqB 44 (by decide) dX8_changesCue_20 (fun h3 => ?_) (fun h3 => ?_)
      · have h3 : ¬ (0 ≤ (x1 + x2) ∧ (x1 + x2) < (mem 23 1)) := h3
        refine st_iconst dX8_changesCue_44 ?_
        exact st_zreturn rfl (by decide) dX8_changesCue_45 (mQ.ret (q3 h1 h2 h3))
      · have h3 : (0 ≤ (x1 + x2) ∧ (x1 + x2) < (mem 23 1)) := h3
        refine st_aload_n (i := 0) rfl (t := 0) rfl (by decide) dX8_changesCue_23 ?_
        refine so_getA 23 6 fr_X8_24_8 rfl sh_23 fx_23_6 dX8_changesCue_24 ?_
        refine st_iload_n (i := 1) rfl rfl dX8_changesCue_27 ?_
        refine st_iload_n (i := 2) rfl rfl dX8_changesCue_28 ?_
        refine st_iadd dX8_changesCue_29 ?_
        refine so_iald (v := (mem 28 (x1 + x2))) 28 rfl sh_28 (by decide) (s3 h1 h2 h3) rfl dX8_changesCue_30 (fun r1 => ?_)
        refine st_aload_n (i := 0) rfl (t := 0) rfl (by decide) dX8_changesCue_31 ?_
        refine so_getA 23 6 fr_X8_24_8 rfl sh_23 fx_23_6 dX8_changesCue_32 ?_
        refine st_iload_n (i := 1) rfl rfl dX8_changesCue_35 ?_
        refine so_iald (v := (mem 28 x1)) 28 rfl sh_28 (by decide) (s4 h1 h2 h3) rfl dX8_changesCue_36 (fun r2 => ?_)
        refine sr_icmp_eq 44 r1 r2 (by decide) dX8_changesCue_37 (fun h4 => ?_) (fun h4 => ?_)
        · have h4 : (mem 28 (x1 + x2)) = (mem 28 x1) := by omega
          refine st_iconst dX8_changesCue_44 ?_
          exact st_zreturn rfl (by decide) dX8_changesCue_45 (mQ.ret (q4 h1 h2 h3 h4))
        · have h4 : ¬ (mem 28 (x1 + x2)) = (mem 28 x1) := by omega
          refine st_iconst dX8_changesCue_40 ?_
          refine st_goto 45 (by decide) dX8_changesCue_41 ?_
          exact st_zreturn rfl (by decide) dX8_changesCue_45 (mQ.ret (q5 h1 h2 h3 h4))
theorem cn_X8_hasAll {d : Nat} {P : Int → mmM → Prop} {mem : mmM} {x1 : Int} (h : mmT bX8_hasAll d 0 0 (mQ 0 P) 0 [(2, 23), (0, x1)] [] mS mem) : con 0 bX8_hasAll d [(2, 23), (0, x1)] mem P := mmC_of [(2, 23), (0, x1)] ok_X8_hasAll.2.2.2.2 rfl (Nat.le_of_ble_eq_true rfl) h
theorem bk_X8_hasAll_0 {d : Nat} {P : Int → mmM → Prop} {mem : mmM} {x1 : Int}
  (q1 : (mem 23 1) ≤ 0 → P 0 mem)
  (q2 : 0 < (mem 23 1) → x1 < 0 → P 0 mem)
  (q3 : 0 < (mem 23 1) → 0 ≤ x1 → ¬ (shr32 x1 (mem 23 1)) = 0 → P 0 mem)
  (q4 : 0 < (mem 23 1) → 0 ≤ x1 → (shr32 x1 (mem 23 1)) = 0 → P 1 mem)
  (s1 : 0 < (mem 23 1) → R32 x1 := by intros; omega)
  : mmT bX8_hasAll d 0 0 (mQ 0 P) 0 [(2, 23), (0, x1)] [] mS mem := by
  refine st_aload_n (i := 0) rfl (t := 0) rfl (by decide) dX8_hasAll_0 ?_
  refine so_getI (v := (mem 23 1)) 23 1 fr_X8_60_8 rfl sh_23 rfl dX8_hasAll_1 (fun r1 => ?_)
  refine sr_if_le 24 r1 (by decide) dX8_hasAll_4 (fun h1 => ?_) (fun h1 => ?_)
  · have h1 : (mem 23 1) ≤ 0 := by omega
    refine st_iconst dX8_hasAll_24 ?_
    exact st_zreturn rfl (by decide) dX8_hasAll_25 (mQ.ret (q1 h1))
  · have h1 : 0 < (mem 23 1) := by omega
    refine st_iload_n (i := 1) rfl rfl dX8_hasAll_7 ?_
    refine sr_if_lt 24 (s1 h1) (by decide) dX8_hasAll_8 (fun h2 => ?_) (fun h2 => ?_)
    · have h2 : x1 < 0 := by omega
      refine st_iconst dX8_hasAll_24 ?_
      exact st_zreturn rfl (by decide) dX8_hasAll_25 (mQ.ret (q2 h1 h2))
    · have h2 : 0 ≤ x1 := by omega
      refine st_iload_n (i := 1) rfl rfl dX8_hasAll_11 ?_
      refine st_aload_n (i := 0) rfl (t := 0) rfl (by decide) dX8_hasAll_12 ?_
      refine so_getI (v := (mem 23 1)) 23 1 fr_X8_60_8 rfl sh_23 rfl dX8_hasAll_13 (fun r2 => ?_)
      refine st_ishr dX8_hasAll_16 ?_
      refine sr_if_ne 24 (shr32_rng x1 (mem 23 1)) (by decide) dX8_hasAll_17 (fun h3 => ?_) (fun h3 => ?_)
      · have h3 : ¬ (shr32 x1 (mem 23 1)) = 0 := by omega
        refine st_iconst dX8_hasAll_24 ?_
        exact st_zreturn rfl (by decide) dX8_hasAll_25 (mQ.ret (q3 h1 h2 h3))
      · have h3 : (shr32 x1 (mem 23 1)) = 0 := by omega
        refine st_iconst dX8_hasAll_20 ?_
        refine st_goto 25 (by decide) dX8_hasAll_21 ?_
        exact st_zreturn rfl (by decide) dX8_hasAll_25 (mQ.ret (q4 h1 h2 h3))
theorem c_X8_hasActor (mem : mmM) (x1 : Int) (h1 : R32 x1) (hn : 0 ≤ mem 23 1 ∧ mem 23 1 ≤ 24) : con 0 bX8_hasActor 2 [(2, 23), (0, x1)] mem (fun v m => v = b2i ((0 ≤ x1 ∧ x1 < 8) ∧ and32 (shr32 (actF (mem 23 1) (mem 24)) x1) 1 = 1) ∧ m = mem) := by
  have h01 := and1_01 (shr32 (actF (mem 23 1) (mem 24)) x1)
  refine cn_X8_hasActor (bk_X8_hasActor_0 ?_ ?_ ?_ ?_) <;> (intros; refine ⟨?_, rfl⟩; unfold b2i; split <;> omega)
theorem c_X8_changesCue (mem : mmM) (x1 x2 : Int) (h1 : R32 x1) (h2 : R32 (x1 + x2)) (hn : 0 ≤ mem 23 1 ∧ mem 23 1 ≤ 24) : con 0 bX8_changesCue 2 [(2, 23), (0, x1), (0, x2)] mem (fun v m => v = b2i (chgF (mem 23 1) (mem 28) x1 x2) ∧ m = mem) := by
  refine cn_X8_changesCue (bk_X8_changesCue_0 ?_ ?_ ?_ ?_ ?_) <;> (intros; refine ⟨?_, rfl⟩; unfold b2i; split <;> first | rfl | (exfalso; omega))
theorem shr_zero {x k : Int} (h0 : 0 ≤ x) (h1 : x < 2147483648) (k0 : 0 ≤ k) (k1 : k < 32) : shr32 x k = 0 ↔ x < p2 k := by
  rw [shr32_eq h0 h1 k0 k1]
  have hp := p2_pos k
  constructor
  · intro h
    have h2 := Int.lt_mul_ediv_self_add (x := x) hp
    rw [h] at h2
    omega
  · intro h
    exact Int.ediv_eq_zero_of_lt h0 h
theorem c_X8_hasAll (mem : mmM) (x1 : Int) (h1 : R32 x1) (hn : 0 ≤ mem 23 1 ∧ mem 23 1 ≤ 24) : con 0 bX8_hasAll 1 [(2, 23), (0, x1)] mem (fun v m => v = b2i (0 < mem 23 1 ∧ 0 ≤ x1 ∧ x1 < p2 (mem 23 1)) ∧ m = mem) := by
  refine cn_X8_hasAll (bk_X8_hasAll_0 (fun g => ⟨?_, rfl⟩) (fun g g2 => ⟨?_, rfl⟩) (fun g g2 g3 => ⟨?_, rfl⟩) (fun g g2 g3 => ⟨?_, rfl⟩))
  · rw [b2i_0]; omega
  · rw [b2i_0]; omega
  · rw [b2i_0]
    intro q
    exact g3 ((shr_zero g2 (by omega) (by omega) (by omega)).mpr q.2.2)
  · rw [b2i_1]
    exact ⟨g, g2, (shr_zero g2 (by omega) (by omega) (by omega)).mp g3⟩
theorem cn_X8_sparePlace {d : Nat} {P : Int → mmM → Prop} {mem : mmM} {x1 : Int} (h : mmT bX8_sparePlace d 0 0 (mQ 0 P) 0 [(2, 23), (0, x1), (9, 0), (9, 0)] [] mS mem) : con 0 bX8_sparePlace d [(2, 23), (0, x1)] mem P := mmC_of [(2, 23), (0, x1), (9, 0), (9, 0)] ok_X8_sparePlace.2.2.2.2 rfl (Nat.le_of_ble_eq_true rfl) h
theorem bk_X8_sparePlace_0 {d : Nat} {P : Int → mmM → Prop} {mem : mmM} {x1 : Int}
  (k1 : mmT bX8_sparePlace d 0 0 (mQ 0 P) 11 [(2, 23), (0, x1), (0, (((mem 23 1) - 1) - x1)), (0, 1)] [] mS mem)
  : mmT bX8_sparePlace d 0 0 (mQ 0 P) 0 [(2, 23), (0, x1), (9, 0), (9, 0)] [] mS mem := by
  refine st_aload_n (i := 0) rfl (t := 0) rfl (by decide) dX8_sparePlace_0 ?_
  refine so_getI (v := (mem 23 1)) 23 1 fr_X8_60_8 rfl sh_23 rfl dX8_sparePlace_1 (fun r1 => ?_)
  refine st_iconst dX8_sparePlace_4 ?_
  refine st_isub dX8_sparePlace_5 ?_
  refine st_iload_n (i := 1) rfl rfl dX8_sparePlace_6 ?_
  refine st_isub dX8_sparePlace_7 ?_
  refine st_istore_n (i := 2) rfl (by decide) (lc' := [(2, 23), (0, x1), (0, (((mem 23 1) - 1) - x1)), (9, 0)]) rfl dX8_sparePlace_8 ?_
  refine st_iconst dX8_sparePlace_9 ?_
  refine st_istore_n (i := 3) rfl (by decide) (lc' := [(2, 23), (0, x1), (0, (((mem 23 1) - 1) - x1)), (0, 1)]) rfl dX8_sparePlace_10 ?_
  exact st_locals [(2, 23), (0, x1), (0, (((mem 23 1) - 1) - x1)), (0, 1)] ⟨Or.inr rfl, Or.inr rfl, Or.inr rfl, Or.inr rfl, trivial⟩ k1
theorem bk_X8_sparePlace_11 {d : Nat} {P : Int → mmM → Prop} {mem : mmM} {x1 x2 x3 : Int}
  (k1 : x3 ≤ x2 → (chgF (mem 23 1) (mem 28) x3 x1) → mmT bX8_sparePlace d 0 0 (mQ 0 P) 11 [(2, 23), (0, x1), (0, x2), (0, (x3 + 1))] [] mS mem)
  (q1 : x2 < x3 → 1 ≤ x2 → P 1 mem)
  (q2 : x2 < x3 → x2 < 1 → P (-1) mem)
  (q3 : x3 ≤ x2 → ¬ (chgF (mem 23 1) (mem 28) x3 x1) → P x3 mem)
  (hd3 : 3 ≤ d := by omega)
  (s1 : R32 x3 := by intros; omega)
  (s2 : R32 x2 := by intros; omega)
  (s3 : x3 ≤ x2 → R32 (x3 + x1) := by intros; omega)
  (s4 : x3 ≤ x2 → 0 ≤ (mem 23 1) ∧ (mem 23 1) ≤ 24 := by intros; omega)
  : mmT bX8_sparePlace d 0 0 (mQ 0 P) 11 [(2, 23), (0, x1), (0, x2), (0, x3)] [] mS mem := by
  refine st_iload_n (i := 3) rfl rfl dX8_sparePlace_11 ?_
  refine st_iload_n (i := 2) rfl rfl dX8_sparePlace_12 ?_
  refine sr_icmp_gt 33 s1 s2 (by decide) dX8_sparePlace_13 (fun h1 => ?_) (fun h1 => ?_)
  · have h1 : x2 < x3 := by omega
    refine st_iload_n (i := 2) rfl rfl dX8_sparePlace_33 ?_
    refine st_iconst dX8_sparePlace_34 ?_
    refine sr_icmp_ge 42 s2 ⟨by decide, by decide⟩ (by decide) dX8_sparePlace_35 (fun h2 => ?_) (fun h2 => ?_)
    · have h2 : 1 ≤ x2 := by omega
      refine st_iconst dX8_sparePlace_42 ?_
      exact st_ireturn rfl dX8_sparePlace_43 (mQ.ret (q1 h1 h2))
    · have h2 : x2 < 1 := by omega
      refine st_iconst dX8_sparePlace_38 ?_
      refine st_goto 43 (by decide) dX8_sparePlace_39 ?_
      exact st_ireturn rfl dX8_sparePlace_43 (mQ.ret (q2 h1 h2))
  · have h1 : x3 ≤ x2 := by omega
    refine st_aload_n (i := 0) rfl (t := 0) rfl (by decide) dX8_sparePlace_16 ?_
    refine st_iload_n (i := 3) rfl rfl dX8_sparePlace_17 ?_
    refine st_iload_n (i := 1) rfl rfl dX8_sparePlace_18 ?_
    refine st_callV (kc2 := 0) (ks2 := 0) (av := [(0, x3), (0, x1)]) 23 8 mr_X8_101 ok_X8_changesCue (c_X8_changesCue mem x3 x1 (s1) ((s3 h1)) ((s4 h1))) rfl sh_23 ⟨_, rfl, rfl, by decide⟩ rfl rfl hd3 (Nat.le_refl 0) (Nat.le_refl 0) (Nat.le_of_ble_eq_true rfl) dX8_sparePlace_19 (mQ.elim fun v1 m1 hp => ?_)
    obtain ⟨hpv, hpm⟩ := hp
    subst hpv
    have hpm := hpm.symm
    subst hpm
    refine so_ifneB 27 (by decide) dX8_sparePlace_22 (fun h3 => ?_) (fun h3 => ?_)
    · have h3 : (chgF (mem 23 1) (mem 28) x3 x1) := h3
      refine st_iinc (y := (x3 + 1)) (by decide) (i := 3) rfl rfl (lc' := [(2, 23), (0, x1), (0, x2), (0, (x3 + 1))]) rfl dX8_sparePlace_27 ?_
      refine st_goto 11 (by decide) dX8_sparePlace_30 ?_
      exact st_locals [(2, 23), (0, x1), (0, x2), (0, (x3 + 1))] ⟨Or.inr rfl, Or.inr rfl, Or.inr rfl, Or.inr rfl, trivial⟩ (k1 h1 h3)
    · have h3 : ¬ (chgF (mem 23 1) (mem 28) x3 x1) := h3
      refine st_iload_n (i := 3) rfl rfl dX8_sparePlace_25 ?_
      exact st_ireturn rfl dX8_sparePlace_26 (mQ.ret (q3 h1 h3))
theorem c_X8_sparePlace (mem : mmM) (x1 : Int) (h1 : 1 ≤ x1 ∧ x1 ≤ 8) (hn : 0 ≤ mem 23 1 ∧ mem 23 1 ≤ 24) : con 0 bX8_sparePlace 3 [(2, 23), (0, x1)] mem (fun v m => v = spareF (mem 23 1) (mem 28) x1 ∧ m = mem) := by
  refine cn_X8_sparePlace (bk_X8_sparePlace_0 ?_)
  have key : ∀ (k : Nat) (i : Int), 1 ≤ i → k = (mem 23 1 - 1 - x1 + 1 - i).toNat → (i ≤ mem 23 1 - x1 ∨ i = 1) → upFrom (fun i => decide (mem 28 (i + x1) = mem 28 i)) i k = upFrom (fun i => decide (mem 28 (i + x1) = mem 28 i)) 1 (mem 23 1 - 1 - x1).toNat → mmT bX8_sparePlace 3 0 0 (mQ 0 (fun v m => v = spareF (mem 23 1) (mem 28) x1 ∧ m = mem)) 11 [(2, 23), (0, x1), (0, mem 23 1 - 1 - x1), (0, i)] [] mS mem := by
    intro k
    induction k with
    | zero =>
      intro i h0 hk hi he
      refine bk_X8_sparePlace_11 (fun g1 g2 => by omega) (fun g1 g2 => ⟨?_, rfl⟩) (fun g1 g2 => ⟨?_, rfl⟩) (fun g1 g2 => by omega)
      · unfold spareF
        rw [← he]
        show _ = if (-1 : Int) = -1 then _ else _
        rw [if_pos rfl, if_neg (by omega)]
      · unfold spareF
        rw [← he]
        show _ = if (-1 : Int) = -1 then _ else _
        rw [if_pos rfl, if_pos (by omega)]
    | succ k ih =>
      intro i h0 hk hi he
      rw [upFrom_succ] at he
      refine bk_X8_sparePlace_11 (fun g1 g2 => ?_) (fun g1 g2 => by omega) (fun g1 g2 => by omega) (fun g1 g2 => ⟨?_, rfl⟩)
      · refine ih (i + 1) (by omega) (by omega) (Or.inl (by omega)) ?_
        rw [if_neg (fun q => g2.2.2.2 (of_decide_eq_true q))] at he
        exact he
      · have : mem 28 (i + x1) = mem 28 i := Classical.byContradiction fun q => g2 ⟨by omega, ⟨by omega, by omega⟩, ⟨by omega, by omega⟩, q⟩
        rw [if_pos (decide_eq_true this)] at he
        unfold spareF
        rw [← he, if_neg (by omega)]
  exact key _ 1 (by omega) rfl (Or.inr rfl) (by rw [show mem 23 1 - 1 - x1 + 1 - 1 = mem 23 1 - 1 - x1 by omega])
theorem cn_X8_wordsToChange {d : Nat} {P : Int → mmM → Prop} {mem : mmM} (h : mmT bX8_wordsToChange d 0 0 (mQ 0 P) 0 [(2, 23), (9, 0), (9, 0)] [] mS mem) : con 0 bX8_wordsToChange d [(2, 23)] mem P := mmC_of [(2, 23), (9, 0), (9, 0)] ok_X8_wordsToChange.2.2.2.2 rfl (Nat.le_of_ble_eq_true rfl) h
theorem bk_X8_wordsToChange_0 {d : Nat} {P : Int → mmM → Prop} {mem : mmM}
  (k1 : mmT bX8_wordsToChange d 0 0 (mQ 0 P) 4 [(2, 23), (0, 0), (0, 0)] [] mS mem)
  : mmT bX8_wordsToChange d 0 0 (mQ 0 P) 0 [(2, 23), (9, 0), (9, 0)] [] mS mem := by
  refine st_iconst dX8_wordsToChange_0 ?_
  refine st_istore_n (i := 1) rfl (by decide) (lc' := [(2, 23), (0, 0), (9, 0)]) rfl dX8_wordsToChange_1 ?_
  refine st_iconst dX8_wordsToChange_2 ?_
  refine st_istore_n (i := 2) rfl (by decide) (lc' := [(2, 23), (0, 0), (0, 0)]) rfl dX8_wordsToChange_3 ?_
  exact st_locals [(2, 23), (0, 0), (0, 0)] ⟨Or.inr rfl, Or.inr rfl, Or.inr rfl, trivial⟩ k1
theorem bk_X8_wordsToChange_4 {d : Nat} {P : Int → mmM → Prop} {mem : mmM} {x1 x2 : Int}
  (k1 : x2 < (mem 23 1) → (aheadF (mem 23 1) (mem 24) (mem 28) x2) = (-1) → mmT bX8_wordsToChange d 0 0 (mQ 0 P) 4 [(2, 23), (0, (x1 + 0)), (0, (x2 + 1))] [] mS mem)
  (k2 : x2 < (mem 23 1) → ¬ (aheadF (mem 23 1) (mem 24) (mem 28) x2) = (-1) → mmT bX8_wordsToChange d 0 0 (mQ 0 P) 4 [(2, 23), (0, (x1 + 1)), (0, (x2 + 1))] [] mS mem)
  (q1 : (mem 23 1) ≤ x2 → P x1 mem)
  (hd4 : 4 ≤ d := by omega)
  (s1 : R32 x2 := by intros; omega)
  (s2 : x2 < (mem 23 1) → 0 ≤ x2 ∧ x2 < 24 := by intros; omega)
  (s3 : x2 < (mem 23 1) → 0 ≤ (mem 23 1) ∧ (mem 23 1) ≤ 24 := by intros; omega)
  : mmT bX8_wordsToChange d 0 0 (mQ 0 P) 4 [(2, 23), (0, x1), (0, x2)] [] mS mem := by
  refine st_iload_n (i := 2) rfl rfl dX8_wordsToChange_4 ?_
  refine st_aload_n (i := 0) rfl (t := 0) rfl (by decide) dX8_wordsToChange_5 ?_
  refine so_getI (v := (mem 23 1)) 23 1 fr_X8_60_8 rfl sh_23 rfl dX8_wordsToChange_6 (fun r1 => ?_)
  refine sr_icmp_ge 35 s1 r1 (by decide) dX8_wordsToChange_9 (fun h1 => ?_) (fun h1 => ?_)
  · have h1 : (mem 23 1) ≤ x2 := by omega
    refine st_iload_n (i := 1) rfl rfl dX8_wordsToChange_35 ?_
    exact st_ireturn rfl dX8_wordsToChange_36 (mQ.ret (q1 h1))
  · have h1 : x2 < (mem 23 1) := by omega
    refine st_iload_n (i := 1) rfl rfl dX8_wordsToChange_12 ?_
    refine st_aload_n (i := 0) rfl (t := 0) rfl (by decide) dX8_wordsToChange_13 ?_
    refine st_iload_n (i := 2) rfl rfl dX8_wordsToChange_14 ?_
    refine st_callV (kc2 := 0) (ks2 := 0) (av := [(0, x2)]) 23 8 mr_X8_107 ok_X8_lastLikeAhead (c_X8_lastLikeAhead mem x2 ((s2 h1)) ((s3 h1))) rfl sh_23 ⟨_, rfl, rfl, by decide⟩ rfl rfl hd4 (Nat.le_refl 0) (Nat.le_refl 0) (Nat.le_of_ble_eq_true rfl) dX8_wordsToChange_15 (mQ.elim fun v1 m1 hp => ?_)
    obtain ⟨hpv, hpm⟩ := hp
    subst hpv
    have hpm := hpm.symm
    subst hpm
    refine st_iconst dX8_wordsToChange_18 ?_
    refine sr_icmp_eq 26 (aheadF_rng ((s2 h1)) ((s3 h1))) ⟨by decide, by decide⟩ (by decide) dX8_wordsToChange_19 (fun h2 => ?_) (fun h2 => ?_)
    · have h2 : (aheadF (mem 23 1) (mem 24) (mem 28) x2) = (-1) := by omega
      refine st_iconst dX8_wordsToChange_26 ?_
      refine st_iadd dX8_wordsToChange_27 ?_
      refine st_istore_n (i := 1) rfl (by decide) (lc' := [(2, 23), (0, (x1 + 0)), (0, x2)]) rfl dX8_wordsToChange_28 ?_
      refine st_iinc (y := (x2 + 1)) (by decide) (i := 2) rfl rfl (lc' := [(2, 23), (0, (x1 + 0)), (0, (x2 + 1))]) rfl dX8_wordsToChange_29 ?_
      refine st_goto 4 (by decide) dX8_wordsToChange_32 ?_
      exact st_locals [(2, 23), (0, (x1 + 0)), (0, (x2 + 1))] ⟨Or.inr rfl, Or.inr rfl, Or.inr rfl, trivial⟩ (k1 h1 h2)
    · have h2 : ¬ (aheadF (mem 23 1) (mem 24) (mem 28) x2) = (-1) := by omega
      refine st_iconst dX8_wordsToChange_22 ?_
      refine st_goto 27 (by decide) dX8_wordsToChange_23 ?_
      refine st_iadd dX8_wordsToChange_27 ?_
      refine st_istore_n (i := 1) rfl (by decide) (lc' := [(2, 23), (0, (x1 + 1)), (0, x2)]) rfl dX8_wordsToChange_28 ?_
      refine st_iinc (y := (x2 + 1)) (by decide) (i := 2) rfl rfl (lc' := [(2, 23), (0, (x1 + 1)), (0, (x2 + 1))]) rfl dX8_wordsToChange_29 ?_
      refine st_goto 4 (by decide) dX8_wordsToChange_32 ?_
      exact st_locals [(2, 23), (0, (x1 + 1)), (0, (x2 + 1))] ⟨Or.inr rfl, Or.inr rfl, Or.inr rfl, trivial⟩ (k2 h1 h2)
theorem cn_X8_firstWordToChange {d : Nat} {P : Int → mmM → Prop} {mem : mmM} (h : mmT bX8_firstWordToChange d 0 0 (mQ 0 P) 0 [(2, 23), (9, 0)] [] mS mem) : con 0 bX8_firstWordToChange d [(2, 23)] mem P := mmC_of [(2, 23), (9, 0)] ok_X8_firstWordToChange.2.2.2.2 rfl (Nat.le_of_ble_eq_true rfl) h
theorem bk_X8_firstWordToChange_0 {d : Nat} {P : Int → mmM → Prop} {mem : mmM}
  (k1 : mmT bX8_firstWordToChange d 0 0 (mQ 0 P) 2 [(2, 23), (0, 0)] [] mS mem)
  : mmT bX8_firstWordToChange d 0 0 (mQ 0 P) 0 [(2, 23), (9, 0)] [] mS mem := by
  refine st_iconst dX8_firstWordToChange_0 ?_
  refine st_istore_n (i := 1) rfl (by decide) (lc' := [(2, 23), (0, 0)]) rfl dX8_firstWordToChange_1 ?_
  exact st_locals [(2, 23), (0, 0)] ⟨Or.inr rfl, Or.inr rfl, trivial⟩ k1
theorem bk_X8_firstWordToChange_2 {d : Nat} {P : Int → mmM → Prop} {mem : mmM} {x1 : Int}
  (k1 : x1 < (mem 23 1) → (aheadF (mem 23 1) (mem 24) (mem 28) x1) = (-1) → mmT bX8_firstWordToChange d 0 0 (mQ 0 P) 2 [(2, 23), (0, (x1 + 1))] [] mS mem)
  (q1 : (mem 23 1) ≤ x1 → P (-1) mem)
  (q2 : x1 < (mem 23 1) → ¬ (aheadF (mem 23 1) (mem 24) (mem 28) x1) = (-1) → P (x1 - 1) mem)
  (hd4 : 4 ≤ d := by omega)
  (s1 : R32 x1 := by intros; omega)
  (s2 : x1 < (mem 23 1) → 0 ≤ x1 ∧ x1 < 24 := by intros; omega)
  (s3 : x1 < (mem 23 1) → 0 ≤ (mem 23 1) ∧ (mem 23 1) ≤ 24 := by intros; omega)
  : mmT bX8_firstWordToChange d 0 0 (mQ 0 P) 2 [(2, 23), (0, x1)] [] mS mem := by
  refine st_iload_n (i := 1) rfl rfl dX8_firstWordToChange_2 ?_
  refine st_aload_n (i := 0) rfl (t := 0) rfl (by decide) dX8_firstWordToChange_3 ?_
  refine so_getI (v := (mem 23 1)) 23 1 fr_X8_60_8 rfl sh_23 rfl dX8_firstWordToChange_4 (fun r1 => ?_)
  refine sr_icmp_ge 29 s1 r1 (by decide) dX8_firstWordToChange_7 (fun h1 => ?_) (fun h1 => ?_)
  · have h1 : (mem 23 1) ≤ x1 := by omega
    refine st_iconst dX8_firstWordToChange_29 ?_
    exact st_ireturn rfl dX8_firstWordToChange_30 (mQ.ret (q1 h1))
  · have h1 : x1 < (mem 23 1) := by omega
    refine st_aload_n (i := 0) rfl (t := 0) rfl (by decide) dX8_firstWordToChange_10 ?_
    refine st_iload_n (i := 1) rfl rfl dX8_firstWordToChange_11 ?_
    refine st_callV (kc2 := 0) (ks2 := 0) (av := [(0, x1)]) 23 8 mr_X8_107 ok_X8_lastLikeAhead (c_X8_lastLikeAhead mem x1 ((s2 h1)) ((s3 h1))) rfl sh_23 ⟨_, rfl, rfl, by decide⟩ rfl rfl hd4 (Nat.le_refl 0) (Nat.le_refl 0) (Nat.le_of_ble_eq_true rfl) dX8_firstWordToChange_12 (mQ.elim fun v1 m1 hp => ?_)
    obtain ⟨hpv, hpm⟩ := hp
    subst hpv
    have hpm := hpm.symm
    subst hpm
    refine st_iconst dX8_firstWordToChange_15 ?_
    refine sr_icmp_eq 23 (aheadF_rng ((s2 h1)) ((s3 h1))) ⟨by decide, by decide⟩ (by decide) dX8_firstWordToChange_16 (fun h2 => ?_) (fun h2 => ?_)
    · have h2 : (aheadF (mem 23 1) (mem 24) (mem 28) x1) = (-1) := by omega
      refine st_iinc (y := (x1 + 1)) (by decide) (i := 1) rfl rfl (lc' := [(2, 23), (0, (x1 + 1))]) rfl dX8_firstWordToChange_23 ?_
      refine st_goto 2 (by decide) dX8_firstWordToChange_26 ?_
      exact st_locals [(2, 23), (0, (x1 + 1))] ⟨Or.inr rfl, Or.inr rfl, trivial⟩ (k1 h1 h2)
    · have h2 : ¬ (aheadF (mem 23 1) (mem 24) (mem 28) x1) = (-1) := by omega
      refine st_iload_n (i := 1) rfl rfl dX8_firstWordToChange_19 ?_
      refine st_iconst dX8_firstWordToChange_20 ?_
      refine st_isub dX8_firstWordToChange_21 ?_
      exact st_ireturn rfl dX8_firstWordToChange_22 (mQ.ret (q2 h1 h2))
theorem cn_X8_doubtfulOf {d : Nat} {P : Int → mmM → Prop} {mem : mmM} {x1 : Int} (h : mmT bX8_doubtfulOf d 0 0 (mQ 0 P) 0 [(2, 23), (0, x1), (9, 0), (9, 0)] [] mS mem) : con 0 bX8_doubtfulOf d [(2, 23), (0, x1)] mem P := mmC_of [(2, 23), (0, x1), (9, 0), (9, 0)] ok_X8_doubtfulOf.2.2.2.2 rfl (Nat.le_of_ble_eq_true rfl) h
theorem bk_X8_doubtfulOf_0 {d : Nat} {P : Int → mmM → Prop} {mem : mmM} {x1 : Int}
  (k1 : mmT bX8_doubtfulOf d 0 0 (mQ 0 P) 4 [(2, 23), (0, x1), (0, 0), (0, 0)] [] mS mem)
  : mmT bX8_doubtfulOf d 0 0 (mQ 0 P) 0 [(2, 23), (0, x1), (9, 0), (9, 0)] [] mS mem := by
  refine st_iconst dX8_doubtfulOf_0 ?_
  refine st_istore_n (i := 2) rfl (by decide) (lc' := [(2, 23), (0, x1), (0, 0), (9, 0)]) rfl dX8_doubtfulOf_1 ?_
  refine st_iconst dX8_doubtfulOf_2 ?_
  refine st_istore_n (i := 3) rfl (by decide) (lc' := [(2, 23), (0, x1), (0, 0), (0, 0)]) rfl dX8_doubtfulOf_3 ?_
  exact st_locals [(2, 23), (0, x1), (0, 0), (0, 0)] ⟨Or.inr rfl, Or.inr rfl, Or.inr rfl, Or.inr rfl, trivial⟩ k1
theorem bk_X8_doubtfulOf_4 {d : Nat} {P : Int → mmM → Prop} {mem : mmM} {x1 x2 x3 : Int}
  (k1 : x3 < (mem 23 1) → ¬ (mem 24 x3) = x1 → mmT bX8_doubtfulOf d 0 0 (mQ 0 P) 4 [(2, 23), (0, x1), (0, (x2 + 0)), (0, (x3 + 1))] [] mS mem)
  (k2 : x3 < (mem 23 1) → (mem 24 x3) = x1 → (mem 30 x3) ≤ 0 → mmT bX8_doubtfulOf d 0 0 (mQ 0 P) 4 [(2, 23), (0, x1), (0, (x2 + 0)), (0, (x3 + 1))] [] mS mem)
  (k3 : x3 < (mem 23 1) → (mem 24 x3) = x1 → 0 < (mem 30 x3) → mmT bX8_doubtfulOf d 0 0 (mQ 0 P) 4 [(2, 23), (0, x1), (0, (x2 + 1)), (0, (x3 + 1))] [] mS mem)
  (q1 : (mem 23 1) ≤ x3 → P x2 mem)
  (s1 : R32 x3 := by intros; omega)
  (s2 : x3 < (mem 23 1) → 0 ≤ x3 ∧ x3 < 24 := by intros; omega)
  (s3 : x3 < (mem 23 1) → R32 x1 := by intros; omega)
  : mmT bX8_doubtfulOf d 0 0 (mQ 0 P) 4 [(2, 23), (0, x1), (0, x2), (0, x3)] [] mS mem := by
  refine st_iload_n (i := 3) rfl rfl dX8_doubtfulOf_4 ?_
  refine st_aload_n (i := 0) rfl (t := 0) rfl (by decide) dX8_doubtfulOf_5 ?_
  refine so_getI (v := (mem 23 1)) 23 1 fr_X8_60_8 rfl sh_23 rfl dX8_doubtfulOf_6 (fun r1 => ?_)
  refine sr_icmp_ge 45 s1 r1 (by decide) dX8_doubtfulOf_9 (fun h1 => ?_) (fun h1 => ?_)
  · have h1 : (mem 23 1) ≤ x3 := by omega
    refine st_iload_n (i := 2) rfl rfl dX8_doubtfulOf_45 ?_
    exact st_ireturn rfl dX8_doubtfulOf_46 (mQ.ret (q1 h1))
  · have h1 : x3 < (mem 23 1) := by omega
    refine st_iload_n (i := 2) rfl rfl dX8_doubtfulOf_12 ?_
    refine st_aload_n (i := 0) rfl (t := 0) rfl (by decide) dX8_doubtfulOf_13 ?_
    refine so_getA 23 2 fr_X8_9_8 rfl sh_23 fx_23_2 dX8_doubtfulOf_14 ?_
    refine st_iload_n (i := 3) rfl rfl dX8_doubtfulOf_17 ?_
    refine so_iald (v := (mem 24 x3)) 24 rfl sh_24 (by decide) (s2 h1) rfl dX8_doubtfulOf_18 (fun r2 => ?_)
    refine st_iload_n (i := 1) rfl rfl dX8_doubtfulOf_19 ?_
    refine sr_icmp_ne 36 r2 (s3 h1) (by decide) dX8_doubtfulOf_20 (fun h2 => ?_) (fun h2 => ?_)
    · have h2 : ¬ (mem 24 x3) = x1 := by omega
      refine st_iconst dX8_doubtfulOf_36 ?_
      refine st_iadd dX8_doubtfulOf_37 ?_
      refine st_istore_n (i := 2) rfl (by decide) (lc' := [(2, 23), (0, x1), (0, (x2 + 0)), (0, x3)]) rfl dX8_doubtfulOf_38 ?_
      refine st_iinc (y := (x3 + 1)) (by decide) (i := 3) rfl rfl (lc' := [(2, 23), (0, x1), (0, (x2 + 0)), (0, (x3 + 1))]) rfl dX8_doubtfulOf_39 ?_
      refine st_goto 4 (by decide) dX8_doubtfulOf_42 ?_
      exact st_locals [(2, 23), (0, x1), (0, (x2 + 0)), (0, (x3 + 1))] ⟨Or.inr rfl, Or.inr rfl, Or.inr rfl, Or.inr rfl, trivial⟩ (k1 h1 h2)
    · have h2 : (mem 24 x3) = x1 := by omega
      refine st_aload_n (i := 0) rfl (t := 0) rfl (by decide) dX8_doubtfulOf_23 ?_
      refine so_getA 23 8 fr_X8_30_8 rfl sh_23 fx_23_8 dX8_doubtfulOf_24 ?_
      refine st_iload_n (i := 3) rfl rfl dX8_doubtfulOf_27 ?_
      refine so_iald (v := (mem 30 x3)) 30 rfl sh_30 (by decide) (s2 h1) rfl dX8_doubtfulOf_28 (fun r3 => ?_)
      refine sr_if_le 36 r3 (by decide) dX8_doubtfulOf_29 (fun h3 => ?_) (fun h3 => ?_)
      · have h3 : (mem 30 x3) ≤ 0 := by omega
        refine st_iconst dX8_doubtfulOf_36 ?_
        refine st_iadd dX8_doubtfulOf_37 ?_
        refine st_istore_n (i := 2) rfl (by decide) (lc' := [(2, 23), (0, x1), (0, (x2 + 0)), (0, x3)]) rfl dX8_doubtfulOf_38 ?_
        refine st_iinc (y := (x3 + 1)) (by decide) (i := 3) rfl rfl (lc' := [(2, 23), (0, x1), (0, (x2 + 0)), (0, (x3 + 1))]) rfl dX8_doubtfulOf_39 ?_
        refine st_goto 4 (by decide) dX8_doubtfulOf_42 ?_
        exact st_locals [(2, 23), (0, x1), (0, (x2 + 0)), (0, (x3 + 1))] ⟨Or.inr rfl, Or.inr rfl, Or.inr rfl, Or.inr rfl, trivial⟩ (k2 h1 h2 h3)
      · have h3 : 0 < (mem 30 x3) := by omega
        refine st_iconst dX8_doubtfulOf_32 ?_
        refine st_goto 37 (by decide) dX8_doubtfulOf_33 ?_
        refine st_iadd dX8_doubtfulOf_37 ?_
        refine st_istore_n (i := 2) rfl (by decide) (lc' := [(2, 23), (0, x1), (0, (x2 + 1)), (0, x3)]) rfl dX8_doubtfulOf_38 ?_
        refine st_iinc (y := (x3 + 1)) (by decide) (i := 3) rfl rfl (lc' := [(2, 23), (0, x1), (0, (x2 + 1)), (0, (x3 + 1))]) rfl dX8_doubtfulOf_39 ?_
        refine st_goto 4 (by decide) dX8_doubtfulOf_42 ?_
        exact st_locals [(2, 23), (0, x1), (0, (x2 + 1)), (0, (x3 + 1))] ⟨Or.inr rfl, Or.inr rfl, Or.inr rfl, Or.inr rfl, trivial⟩ (k3 h1 h2 h3)
theorem cn_X8_longestSilence {d : Nat} {P : Int → mmM → Prop} {mem : mmM} {x1 : Int} (h : mmT bX8_longestSilence d 0 0 (mQ 0 P) 0 [(2, 23), (0, x1), (9, 0), (9, 0), (9, 0)] [] mS mem) : con 0 bX8_longestSilence d [(2, 23), (0, x1)] mem P := mmC_of [(2, 23), (0, x1), (9, 0), (9, 0), (9, 0)] ok_X8_longestSilence.2.2.2.2 rfl (Nat.le_of_ble_eq_true rfl) h
theorem bk_X8_longestSilence_0 {d : Nat} {P : Int → mmM → Prop} {mem : mmM} {x1 : Int}
  (k1 : mmT bX8_longestSilence d 0 0 (mQ 0 P) 7 [(2, 23), (0, x1), (0, (-1)), (0, (-1)), (0, 0)] [] mS mem)
  : mmT bX8_longestSilence d 0 0 (mQ 0 P) 0 [(2, 23), (0, x1), (9, 0), (9, 0), (9, 0)] [] mS mem := by
  refine st_iconst dX8_longestSilence_0 ?_
  refine st_istore_n (i := 2) rfl (by decide) (lc' := [(2, 23), (0, x1), (0, (-1)), (9, 0), (9, 0)]) rfl dX8_longestSilence_1 ?_
  refine st_iconst dX8_longestSilence_2 ?_
  refine st_istore_n (i := 3) rfl (by decide) (lc' := [(2, 23), (0, x1), (0, (-1)), (0, (-1)), (9, 0)]) rfl dX8_longestSilence_3 ?_
  refine st_iconst dX8_longestSilence_4 ?_
  refine st_istore (by decide) (lc' := [(2, 23), (0, x1), (0, (-1)), (0, (-1)), (0, 0)]) rfl dX8_longestSilence_5 ?_
  exact st_locals [(2, 23), (0, x1), (0, (-1)), (0, (-1)), (0, 0)] ⟨Or.inr rfl, Or.inr rfl, Or.inr rfl, Or.inr rfl, Or.inr rfl, trivial⟩ k1
theorem bk_X8_longestSilence_7 {d : Nat} {P : Int → mmM → Prop} {mem : mmM} {x1 x2 x3 x4 : Int}
  (k1 : x4 < (mem 23 1) → ¬ (mem 24 x4) = x1 → x3 = (-1) → mmT bX8_longestSilence d 0 0 (mQ 0 P) 7 [(2, 23), (0, x1), (0, x2), (0, x3), (0, (x4 + 1))] [] mS mem)
  (k2 : x4 < (mem 23 1) → ¬ (mem 24 x4) = x1 → ¬ x3 = (-1) → mmT bX8_longestSilence d 0 0 (mQ 0 P) 7 [(2, 23), (0, x1), (0, x2), (0, (x3 + (mem 26 x4))), (0, (x4 + 1))] [] mS mem)
  (k3 : x4 < (mem 23 1) → (mem 24 x4) = x1 → mmT bX8_longestSilence d 0 0 (mQ 0 P) 7 [(2, 23), (0, x1), (0, (max x2 x3)), (0, 0), (0, (x4 + 1))] [] mS mem)
  (q1 : (mem 23 1) ≤ x4 → P x2 mem)
  (hd1 : 1 ≤ d := by omega)
  (s1 : R32 x4 := by intros; omega)
  (s2 : x4 < (mem 23 1) → 0 ≤ x4 ∧ x4 < 24 := by intros; omega)
  (s3 : x4 < (mem 23 1) → R32 x1 := by intros; omega)
  (s4 : x4 < (mem 23 1) → ¬ (mem 24 x4) = x1 → R32 x3 := by intros; omega)
  (s5 : x4 < (mem 23 1) → (mem 24 x4) = x1 → R32 x2 := by intros; omega)
  (s6 : x4 < (mem 23 1) → (mem 24 x4) = x1 → R32 x3 := by intros; omega)
  : mmT bX8_longestSilence d 0 0 (mQ 0 P) 7 [(2, 23), (0, x1), (0, x2), (0, x3), (0, x4)] [] mS mem := by
  refine st_iload rfl dX8_longestSilence_7 ?_
  refine st_aload_n (i := 0) rfl (t := 0) rfl (by decide) dX8_longestSilence_9 ?_
  refine so_getI (v := (mem 23 1)) 23 1 fr_X8_60_8 rfl sh_23 rfl dX8_longestSilence_10 (fun r1 => ?_)
  refine sr_icmp_ge 59 s1 r1 (by decide) dX8_longestSilence_13 (fun h1 => ?_) (fun h1 => ?_)
  · have h1 : (mem 23 1) ≤ x4 := by omega
    refine st_iload_n (i := 2) rfl rfl dX8_longestSilence_59 ?_
    exact st_ireturn rfl dX8_longestSilence_60 (mQ.ret (q1 h1))
  · have h1 : x4 < (mem 23 1) := by omega
    refine st_aload_n (i := 0) rfl (t := 0) rfl (by decide) dX8_longestSilence_16 ?_
    refine so_getA 23 2 fr_X8_9_8 rfl sh_23 fx_23_2 dX8_longestSilence_17 ?_
    refine st_iload rfl dX8_longestSilence_20 ?_
    refine so_iald (v := (mem 24 x4)) 24 rfl sh_24 (by decide) (s2 h1) rfl dX8_longestSilence_22 (fun r2 => ?_)
    refine st_iload_n (i := 1) rfl rfl dX8_longestSilence_23 ?_
    refine sr_icmp_ne 38 r2 (s3 h1) (by decide) dX8_longestSilence_24 (fun h2 => ?_) (fun h2 => ?_)
    · have h2 : ¬ (mem 24 x4) = x1 := by omega
      refine st_iload_n (i := 3) rfl rfl dX8_longestSilence_38 ?_
      refine st_iconst dX8_longestSilence_39 ?_
      refine sr_icmp_eq 53 (s4 h1 h2) ⟨by decide, by decide⟩ (by decide) dX8_longestSilence_40 (fun h3 => ?_) (fun h3 => ?_)
      · have h3 : x3 = (-1) := by omega
        refine st_iinc (y := (x4 + 1)) (by decide) (i := 4) rfl rfl (lc' := [(2, 23), (0, x1), (0, x2), (0, x3), (0, (x4 + 1))]) rfl dX8_longestSilence_53 ?_
        refine st_goto 7 (by decide) dX8_longestSilence_56 ?_
        exact st_locals [(2, 23), (0, x1), (0, x2), (0, x3), (0, (x4 + 1))] ⟨Or.inr rfl, Or.inr rfl, Or.inr rfl, Or.inr rfl, Or.inr rfl, trivial⟩ (k1 h1 h2 h3)
      · have h3 : ¬ x3 = (-1) := by omega
        refine st_iload_n (i := 3) rfl rfl dX8_longestSilence_43 ?_
        refine st_aload_n (i := 0) rfl (t := 0) rfl (by decide) dX8_longestSilence_44 ?_
        refine so_getA 23 4 fr_X8_18_8 rfl sh_23 fx_23_4 dX8_longestSilence_45 ?_
        refine st_iload rfl dX8_longestSilence_48 ?_
        refine so_iald (v := (mem 26 x4)) 26 rfl sh_26 (by decide) (s2 h1) rfl dX8_longestSilence_50 (fun r3 => ?_)
        refine st_iadd dX8_longestSilence_51 ?_
        refine st_istore_n (i := 3) rfl (by decide) (lc' := [(2, 23), (0, x1), (0, x2), (0, (x3 + (mem 26 x4))), (0, x4)]) rfl dX8_longestSilence_52 ?_
        refine st_iinc (y := (x4 + 1)) (by decide) (i := 4) rfl rfl (lc' := [(2, 23), (0, x1), (0, x2), (0, (x3 + (mem 26 x4))), (0, (x4 + 1))]) rfl dX8_longestSilence_53 ?_
        refine st_goto 7 (by decide) dX8_longestSilence_56 ?_
        exact st_locals [(2, 23), (0, x1), (0, x2), (0, (x3 + (mem 26 x4))), (0, (x4 + 1))] ⟨Or.inr rfl, Or.inr rfl, Or.inr rfl, Or.inr rfl, Or.inr rfl, trivial⟩ (k2 h1 h2 h3)
    · have h2 : (mem 24 x4) = x1 := by omega
      refine st_iload_n (i := 2) rfl rfl dX8_longestSilence_27 ?_
      refine st_iload_n (i := 3) rfl rfl dX8_longestSilence_28 ?_
      refine sr_mmax (s5 h1 h2) (s6 h1 h2) mr_X8_98 ms_maxi mi_Math mc_maxi hd1 (Nat.le_of_ble_eq_true rfl) dX8_longestSilence_29 ?_
      refine st_istore_n (i := 2) rfl (by decide) (lc' := [(2, 23), (0, x1), (0, (max x2 x3)), (0, x3), (0, x4)]) rfl dX8_longestSilence_32 ?_
      refine st_iconst dX8_longestSilence_33 ?_
      refine st_istore_n (i := 3) rfl (by decide) (lc' := [(2, 23), (0, x1), (0, (max x2 x3)), (0, 0), (0, x4)]) rfl dX8_longestSilence_34 ?_
      refine st_goto 53 (by decide) dX8_longestSilence_35 ?_
      refine st_iinc (y := (x4 + 1)) (by decide) (i := 4) rfl rfl (lc' := [(2, 23), (0, x1), (0, (max x2 x3)), (0, 0), (0, (x4 + 1))]) rfl dX8_longestSilence_53 ?_
      refine st_goto 7 (by decide) dX8_longestSilence_56 ?_
      exact st_locals [(2, 23), (0, x1), (0, (max x2 x3)), (0, 0), (0, (x4 + 1))] ⟨Or.inr rfl, Or.inr rfl, Or.inr rfl, Or.inr rfl, Or.inr rfl, trivial⟩ (k3 h1 h2)
theorem c_X8_wordsToChange (mem : mmM) (hn : 0 ≤ mem 23 1 ∧ mem 23 1 ≤ 24) : con 0 bX8_wordsToChange 4 [(2, 23)] mem (fun v m => v = wtcF (mem 23 1) (mem 24) (mem 28) ∧ m = mem) := by
  refine cn_X8_wordsToChange (bk_X8_wordsToChange_0 ?_)
  refine loop_up (n := mem 23 1) (fun i => ∀ acc, acc = sumTo (fun i => b2i (¬ aheadF (mem 23 1) (mem 24) (mem 28) i = -1)) i.toNat → mmT bX8_wordsToChange 4 0 0 (mQ 0 (fun v m => v = wtcF (mem 23 1) (mem 24) (mem 28) ∧ m = mem)) 4 [(2, 23), (0, acc), (0, i)] [] mS mem) (fun i h0 h1 ih acc ha => ?_) 0 (by omega) (by omega) 0 rfl
  refine bk_X8_wordsToChange_4 (fun g g2 => ih g _ ?_) (fun g g2 => ih g _ ?_) (fun g => ⟨?_, rfl⟩)
  · rw [sumTo_step _ h0, ← ha, b2i_0 (fun q => q g2)]
  · rw [sumTo_step _ h0, ← ha, b2i_1 g2]
  · rw [ha, show i = mem 23 1 by omega]
    rfl
theorem c_X8_firstWordToChange (mem : mmM) (hn : 0 ≤ mem 23 1 ∧ mem 23 1 ≤ 24) : con 0 bX8_firstWordToChange 4 [(2, 23)] mem (fun v m => v = fwtF (mem 23 1) (mem 24) (mem 28) ∧ m = mem) := by
  refine cn_X8_firstWordToChange (bk_X8_firstWordToChange_0 ?_)
  have key : ∀ (k : Nat) (i : Int), 0 ≤ i → k = (mem 23 1 - i).toNat → i ≤ 24 → upFrom (fun i => decide (¬ aheadF (mem 23 1) (mem 24) (mem 28) i = -1)) i k = upFrom (fun i => decide (¬ aheadF (mem 23 1) (mem 24) (mem 28) i = -1)) 0 (mem 23 1).toNat → mmT bX8_firstWordToChange 4 0 0 (mQ 0 (fun v m => v = fwtF (mem 23 1) (mem 24) (mem 28) ∧ m = mem)) 2 [(2, 23), (0, i)] [] mS mem := by
    intro k
    induction k with
    | zero =>
      intro i h0 hk hi he
      refine bk_X8_firstWordToChange_2 (fun g1 g2 => by omega) (fun g => ⟨?_, rfl⟩) (fun g1 g2 => by omega)
      unfold fwtF
      rw [← he]
      rfl
    | succ k ih =>
      intro i h0 hk hi he
      rw [upFrom_succ] at he
      refine bk_X8_firstWordToChange_2 (fun g1 g2 => ?_) (fun g => by omega) (fun g1 g2 => ⟨?_, rfl⟩)
      · refine ih (i + 1) (by omega) (by omega) (by omega) ?_
        rw [if_neg (fun q => (of_decide_eq_true q) g2)] at he
        exact he
      · rw [if_pos (decide_eq_true g2)] at he
        unfold fwtF
        rw [← he, if_neg (by omega)]
  exact key _ 0 (by omega) rfl (by omega) (by rw [show mem 23 1 - 0 = mem 23 1 by omega])
theorem c_X8_doubtfulOf (mem : mmM) (x1 : Int) (h1 : R32 x1) (hn : 0 ≤ mem 23 1 ∧ mem 23 1 ≤ 24) : con 0 bX8_doubtfulOf 1 [(2, 23), (0, x1)] mem (fun v m => v = dbtF (mem 23 1) (mem 24) (mem 30) x1 ∧ m = mem) := by
  refine cn_X8_doubtfulOf (bk_X8_doubtfulOf_0 ?_)
  refine loop_up (n := mem 23 1) (fun i => ∀ acc, acc = sumTo (fun i => b2i (mem 24 i = x1 ∧ 0 < mem 30 i)) i.toNat → mmT bX8_doubtfulOf 1 0 0 (mQ 0 (fun v m => v = dbtF (mem 23 1) (mem 24) (mem 30) x1 ∧ m = mem)) 4 [(2, 23), (0, x1), (0, acc), (0, i)] [] mS mem) (fun i h0 h1 ih acc ha => ?_) 0 (by omega) (by omega) 0 rfl
  refine bk_X8_doubtfulOf_4 (fun g g2 => ih g _ ?_) (fun g g2 g3 => ih g _ ?_) (fun g g2 g3 => ih g _ ?_) (fun g => ⟨?_, rfl⟩)
  · rw [sumTo_step _ h0, ← ha, b2i_0 (by omega)]
  · rw [sumTo_step _ h0, ← ha, b2i_0 (by omega)]
  · rw [sumTo_step _ h0, ← ha, b2i_1 (by omega)]
  · rw [ha, show i = mem 23 1 by omega]
    rfl
theorem c_X8_longestSilence (mem : mmM) (x1 : Int) (h1 : R32 x1) (hn : 0 ≤ mem 23 1 ∧ mem 23 1 ≤ 24) (hl : ∀ i, 0 ≤ i → i < mem 23 1 → 1 ≤ mem 26 i ∧ mem 26 i ≤ 99) : con 0 bX8_longestSilence 1 [(2, 23), (0, x1)] mem (fun v m => v = silF (mem 23 1) (mem 24) (mem 26) x1 ∧ m = mem) := by
  refine cn_X8_longestSilence (bk_X8_longestSilence_0 ?_)
  refine loop_up (n := mem 23 1) (fun i => ∀ p q, (p, q) = foldTo (fun (p : Int × Int) i => if mem 24 i = x1 then (max p.1 p.2, 0) else if p.2 = -1 then p else (p.1, p.2 + mem 26 i)) (-1, -1) i.toNat → (-1 ≤ p ∧ p ≤ 100 * i) → (-1 ≤ q ∧ q ≤ 100 * i) → mmT bX8_longestSilence 1 0 0 (mQ 0 (fun v m => v = silF (mem 23 1) (mem 24) (mem 26) x1 ∧ m = mem)) 7 [(2, 23), (0, x1), (0, p), (0, q), (0, i)] [] mS mem) (fun i h0 h1 ih p q ha hp hq => ?_) 0 (by omega) (by omega) (-1) (-1) rfl (by omega) (by omega)
  have hli := hl i h0
  refine bk_X8_longestSilence_7 (fun g g2 g3 => ih g _ _ ?_ (by omega) (by omega)) (fun g g2 g3 => ih g _ _ ?_ (by omega) (by omega)) (fun g g2 => ih g _ _ ?_ (by omega) (by omega)) (fun g => ⟨?_, rfl⟩)
  · rw [foldTo_step _ _ h0, ← ha, if_neg g2, if_pos g3]
  · rw [foldTo_step _ _ h0, ← ha, if_neg g2, if_neg g3]
  · rw [foldTo_step _ _ h0, ← ha, if_pos g2]
  · unfold silF
    rw [show i = mem 23 1 by omega] at ha
    rw [← ha]
theorem cn_X4_whichLeapTo {d : Nat} {P : Int → mmM → Prop} {mem : mmM} {x1 : Int} (h : mmT bX4_whichLeapTo d 0 0 (mQ 0 P) 0 [(2, 35), (0, x1), (9, 0), (9, 0)] [] mS mem) : con 0 bX4_whichLeapTo d [(2, 35), (0, x1)] mem P := mmC_of [(2, 35), (0, x1), (9, 0), (9, 0)] ok_X4_whichLeapTo.2.2.2.2 rfl (Nat.le_of_ble_eq_true rfl) h
theorem bk_X4_whichLeapTo_0 {d : Nat} {P : Int → mmM → Prop} {mem : mmM} {x1 : Int}
  (k1 : mmT bX4_whichLeapTo d 0 0 (mQ 0 P) 4 [(2, 35), (0, x1), (0, 0), (0, 0)] [] mS mem)
  : mmT bX4_whichLeapTo d 0 0 (mQ 0 P) 0 [(2, 35), (0, x1), (9, 0), (9, 0)] [] mS mem := by
  refine st_iconst dX4_whichLeapTo_0 ?_
  refine st_istore_n (i := 2) rfl (by decide) (lc' := [(2, 35), (0, x1), (0, 0), (9, 0)]) rfl dX4_whichLeapTo_1 ?_
  refine st_iconst dX4_whichLeapTo_2 ?_
  refine st_istore_n (i := 3) rfl (by decide) (lc' := [(2, 35), (0, x1), (0, 0), (0, 0)]) rfl dX4_whichLeapTo_3 ?_
  exact st_locals [(2, 35), (0, x1), (0, 0), (0, 0)] ⟨Or.inr rfl, Or.inr rfl, Or.inr rfl, Or.inr rfl, trivial⟩ k1
theorem bk_X4_whichLeapTo_4 {d : Nat} {P : Int → mmM → Prop} {mem : mmM} {x1 x2 x3 : Int}
  (k1 : x3 < (mem 23 1) → ¬ (mem 38 x3) = x1 → mmT bX4_whichLeapTo d 0 0 (mQ 0 P) 4 [(2, 35), (0, x1), (0, (or32 x2 0)), (0, (x3 + 1))] [] mS mem)
  (k2 : x3 < (mem 23 1) → (mem 38 x3) = x1 → mmT bX4_whichLeapTo d 0 0 (mQ 0 P) 4 [(2, 35), (0, x1), (0, (or32 x2 (shl32 1 x3))), (0, (x3 + 1))] [] mS mem)
  (q1 : (mem 23 1) ≤ x3 → P x2 mem)
  (s1 : R32 x3 := by intros; omega)
  (s2 : x3 < (mem 23 1) → 0 ≤ x3 ∧ x3 < 24 := by intros; omega)
  (s3 : x3 < (mem 23 1) → R32 x1 := by intros; omega)
  : mmT bX4_whichLeapTo d 0 0 (mQ 0 P) 4 [(2, 35), (0, x1), (0, x2), (0, x3)] [] mS mem := by
  refine st_iload_n (i := 3) rfl rfl dX4_whichLeapTo_4 ?_
  refine st_aload_n (i := 0) rfl (t := 0) rfl (by decide) dX4_whichLeapTo_5 ?_
  refine so_getA 35 0 fr_X4_26_4 rfl sh_35 fx_35_0 dX4_whichLeapTo_6 ?_
  refine so_getI (v := (mem 23 1)) 23 1 fr_X4_36_8 rfl sh_23 rfl dX4_whichLeapTo_9 (fun r1 => ?_)
  refine sr_icmp_ge 41 s1 r1 (by decide) dX4_whichLeapTo_12 (fun h1 => ?_) (fun h1 => ?_)
  · have h1 : (mem 23 1) ≤ x3 := by omega
    refine st_iload_n (i := 2) rfl rfl dX4_whichLeapTo_41 ?_
    exact st_ireturn rfl dX4_whichLeapTo_42 (mQ.ret (q1 h1))
  · have h1 : x3 < (mem 23 1) := by omega
    refine st_iload_n (i := 2) rfl rfl dX4_whichLeapTo_15 ?_
    refine st_aload_n (i := 0) rfl (t := 0) rfl (by decide) dX4_whichLeapTo_16 ?_
    refine so_getA 35 3 fr_X4_18_4 rfl sh_35 fx_35_3 dX4_whichLeapTo_17 ?_
    refine st_iload_n (i := 3) rfl rfl dX4_whichLeapTo_20 ?_
    refine so_iald (v := (mem 38 x3)) 38 rfl sh_38 (by decide) (s2 h1) rfl dX4_whichLeapTo_21 (fun r2 => ?_)
    refine st_iload_n (i := 1) rfl rfl dX4_whichLeapTo_22 ?_
    refine sr_icmp_ne 32 r2 (s3 h1) (by decide) dX4_whichLeapTo_23 (fun h2 => ?_) (fun h2 => ?_)
    · have h2 : ¬ (mem 38 x3) = x1 := by omega
      refine st_iconst dX4_whichLeapTo_32 ?_
      refine st_ior dX4_whichLeapTo_33 ?_
      refine st_istore_n (i := 2) rfl (by decide) (lc' := [(2, 35), (0, x1), (0, (or32 x2 0)), (0, x3)]) rfl dX4_whichLeapTo_34 ?_
      refine st_iinc (y := (x3 + 1)) (by decide) (i := 3) rfl rfl (lc' := [(2, 35), (0, x1), (0, (or32 x2 0)), (0, (x3 + 1))]) rfl dX4_whichLeapTo_35 ?_
      refine st_goto 4 (by decide) dX4_whichLeapTo_38 ?_
      exact st_locals [(2, 35), (0, x1), (0, (or32 x2 0)), (0, (x3 + 1))] ⟨Or.inr rfl, Or.inr rfl, Or.inr rfl, Or.inr rfl, trivial⟩ (k1 h1 h2)
    · have h2 : (mem 38 x3) = x1 := by omega
      refine st_iconst dX4_whichLeapTo_26 ?_
      refine st_iload_n (i := 3) rfl rfl dX4_whichLeapTo_27 ?_
      refine st_ishl dX4_whichLeapTo_28 ?_
      refine st_goto 33 (by decide) dX4_whichLeapTo_29 ?_
      refine st_ior dX4_whichLeapTo_33 ?_
      refine st_istore_n (i := 2) rfl (by decide) (lc' := [(2, 35), (0, x1), (0, (or32 x2 (shl32 1 x3))), (0, x3)]) rfl dX4_whichLeapTo_34 ?_
      refine st_iinc (y := (x3 + 1)) (by decide) (i := 3) rfl rfl (lc' := [(2, 35), (0, x1), (0, (or32 x2 (shl32 1 x3))), (0, (x3 + 1))]) rfl dX4_whichLeapTo_35 ?_
      refine st_goto 4 (by decide) dX4_whichLeapTo_38 ?_
      exact st_locals [(2, 35), (0, x1), (0, (or32 x2 (shl32 1 x3))), (0, (x3 + 1))] ⟨Or.inr rfl, Or.inr rfl, Or.inr rfl, Or.inr rfl, trivial⟩ (k2 h1 h2)
theorem cn_X4_shortestLoop {d : Nat} {P : Int → mmM → Prop} {mem : mmM} {x1 : Int} (h : mmT bX4_shortestLoop d 0 0 (mQ 0 P) 0 [(2, 35), (0, x1), (9, 0), (9, 0), (9, 0)] [] mS mem) : con 0 bX4_shortestLoop d [(2, 35), (0, x1)] mem P := mmC_of [(2, 35), (0, x1), (9, 0), (9, 0), (9, 0)] ok_X4_shortestLoop.2.2.2.2 rfl (Nat.le_of_ble_eq_true rfl) h
theorem bk_X4_shortestLoop_0 {d : Nat} {P : Int → mmM → Prop} {mem : mmM} {x1 : Int}
  (k1 : mmT bX4_shortestLoop d 0 0 (mQ 0 P) 7 [(2, 35), (0, x1), (0, (-1)), (0, (-1)), (0, 0)] [] mS mem)
  : mmT bX4_shortestLoop d 0 0 (mQ 0 P) 0 [(2, 35), (0, x1), (9, 0), (9, 0), (9, 0)] [] mS mem := by
  refine st_iconst dX4_shortestLoop_0 ?_
  refine st_istore_n (i := 2) rfl (by decide) (lc' := [(2, 35), (0, x1), (0, (-1)), (9, 0), (9, 0)]) rfl dX4_shortestLoop_1 ?_
  refine st_iconst dX4_shortestLoop_2 ?_
  refine st_istore_n (i := 3) rfl (by decide) (lc' := [(2, 35), (0, x1), (0, (-1)), (0, (-1)), (9, 0)]) rfl dX4_shortestLoop_3 ?_
  refine st_iconst dX4_shortestLoop_4 ?_
  refine st_istore (by decide) (lc' := [(2, 35), (0, x1), (0, (-1)), (0, (-1)), (0, 0)]) rfl dX4_shortestLoop_5 ?_
  exact st_locals [(2, 35), (0, x1), (0, (-1)), (0, (-1)), (0, 0)] ⟨Or.inr rfl, Or.inr rfl, Or.inr rfl, Or.inr rfl, Or.inr rfl, trivial⟩ k1
theorem bk_X4_shortestLoop_7 {d : Nat} {P : Int → mmM → Prop} {mem : mmM} {x1 x2 x3 x4 : Int}
  (k1 : x4 < (mem 23 1) → (mem 38 x4) = (-1) → mmT bX4_shortestLoop d 0 0 (mQ 0 P) 7 [(2, 35), (0, x1), (0, x2), (0, x3), (0, (x4 + 1))] [] mS mem)
  (k2 : x4 < (mem 23 1) → ¬ (mem 38 x4) = (-1) → x4 ≤ (mem 38 x4) → mmT bX4_shortestLoop d 0 0 (mQ 0 P) 7 [(2, 35), (0, x1), (0, x2), (0, x3), (0, (x4 + 1))] [] mS mem)
  (k3 : x4 < (mem 23 1) → ¬ (mem 38 x4) = (-1) → (mem 38 x4) < x4 → x3 = (-1) → mmT bX4_shortestLoop d 0 0 (mQ 0 P) 7 [(2, 35), (0, x1), (0, (x4 - (mem 38 x4))), (0, x4), (0, (x4 + 1))] [] mS mem)
  (k4 : x4 < (mem 23 1) → ¬ (mem 38 x4) = (-1) → (mem 38 x4) < x4 → ¬ x3 = (-1) → x2 ≤ (x4 - (mem 38 x4)) → mmT bX4_shortestLoop d 0 0 (mQ 0 P) 7 [(2, 35), (0, x1), (0, x2), (0, x3), (0, (x4 + 1))] [] mS mem)
  (k5 : x4 < (mem 23 1) → ¬ (mem 38 x4) = (-1) → (mem 38 x4) < x4 → ¬ x3 = (-1) → (x4 - (mem 38 x4)) < x2 → mmT bX4_shortestLoop d 0 0 (mQ 0 P) 7 [(2, 35), (0, x1), (0, (x4 - (mem 38 x4))), (0, x4), (0, (x4 + 1))] [] mS mem)
  (q1 : (mem 23 1) ≤ x4 → x1 = 0 → P x3 mem)
  (q2 : (mem 23 1) ≤ x4 → ¬ x1 = 0 → P x2 mem)
  (s1 : R32 x4 := by intros; omega)
  (s2 : (mem 23 1) ≤ x4 → R32 x1 := by intros; omega)
  (s3 : x4 < (mem 23 1) → 0 ≤ x4 ∧ x4 < 24 := by intros; omega)
  (s4 : x4 < (mem 23 1) → ¬ (mem 38 x4) = (-1) → (mem 38 x4) < x4 → R32 x3 := by intros; omega)
  (s5 : x4 < (mem 23 1) → ¬ (mem 38 x4) = (-1) → (mem 38 x4) < x4 → ¬ x3 = (-1) → R32 (x4 - (mem 38 x4)) := by intros; omega)
  (s6 : x4 < (mem 23 1) → ¬ (mem 38 x4) = (-1) → (mem 38 x4) < x4 → ¬ x3 = (-1) → R32 x2 := by intros; omega)
  : mmT bX4_shortestLoop d 0 0 (mQ 0 P) 7 [(2, 35), (0, x1), (0, x2), (0, x3), (0, x4)] [] mS mem := by
  refine st_iload rfl dX4_shortestLoop_7 ?_
  refine st_aload_n (i := 0) rfl (t := 0) rfl (by decide) dX4_shortestLoop_9 ?_
  refine so_getA 35 0 fr_X4_26_4 rfl sh_35 fx_35_0 dX4_shortestLoop_10 ?_
  refine so_getI (v := (mem 23 1)) 23 1 fr_X4_36_8 rfl sh_23 rfl dX4_shortestLoop_13 (fun r1 => ?_)
  refine sr_icmp_ge 81 s1 r1 (by decide) dX4_shortestLoop_16 (fun h1 => ?_) (fun h1 => ?_)
  · have h1 : (mem 23 1) ≤ x4 := by omega
    refine st_iload_n (i := 1) rfl rfl dX4_shortestLoop_81 ?_
    refine sr_if_eq 89 (s2 h1) (by decide) dX4_shortestLoop_82 (fun h2 => ?_) (fun h2 => ?_)
    · have h2 : x1 = 0 := by omega
      refine st_iload_n (i := 3) rfl rfl dX4_shortestLoop_89 ?_
      exact st_ireturn rfl dX4_shortestLoop_90 (mQ.ret (q1 h1 h2))
    · have h2 : ¬ x1 = 0 := by omega
      refine st_iload_n (i := 2) rfl rfl dX4_shortestLoop_85 ?_
      refine st_goto 90 (by decide) dX4_shortestLoop_86 ?_
      exact st_ireturn rfl dX4_shortestLoop_90 (mQ.ret (q2 h1 h2))
  · have h1 : x4 < (mem 23 1) := by omega
    refine st_aload_n (i := 0) rfl (t := 0) rfl (by decide) dX4_shortestLoop_19 ?_
    refine so_getA 35 3 fr_X4_18_4 rfl sh_35 fx_35_3 dX4_shortestLoop_20 ?_
    refine st_iload rfl dX4_shortestLoop_23 ?_
    refine so_iald (v := (mem 38 x4)) 38 rfl sh_38 (by decide) (s3 h1) rfl dX4_shortestLoop_25 (fun r2 => ?_)
    refine st_iconst dX4_shortestLoop_26 ?_
    refine sr_icmp_eq 75 r2 ⟨by decide, by decide⟩ (by decide) dX4_shortestLoop_27 (fun h3 => ?_) (fun h3 => ?_)
    · have h3 : (mem 38 x4) = (-1) := by omega
      refine st_iinc (y := (x4 + 1)) (by decide) (i := 4) rfl rfl (lc' := [(2, 35), (0, x1), (0, x2), (0, x3), (0, (x4 + 1))]) rfl dX4_shortestLoop_75 ?_
      refine st_goto 7 (by decide) dX4_shortestLoop_78 ?_
      exact st_locals [(2, 35), (0, x1), (0, x2), (0, x3), (0, (x4 + 1))] ⟨Or.inr rfl, Or.inr rfl, Or.inr rfl, Or.inr rfl, Or.inr rfl, trivial⟩ (k1 h1 h3)
    · have h3 : ¬ (mem 38 x4) = (-1) := by omega
      refine st_aload_n (i := 0) rfl (t := 0) rfl (by decide) dX4_shortestLoop_30 ?_
      refine so_getA 35 3 fr_X4_18_4 rfl sh_35 fx_35_3 dX4_shortestLoop_31 ?_
      refine st_iload rfl dX4_shortestLoop_34 ?_
      refine so_iald (v := (mem 38 x4)) 38 rfl sh_38 (by decide) (s3 h1) rfl dX4_shortestLoop_36 (fun r3 => ?_)
      refine st_iload rfl dX4_shortestLoop_37 ?_
      refine sr_icmp_ge 75 r3 s1 (by decide) dX4_shortestLoop_39 (fun h4 => ?_) (fun h4 => ?_)
      · have h4 : x4 ≤ (mem 38 x4) := by omega
        refine st_iinc (y := (x4 + 1)) (by decide) (i := 4) rfl rfl (lc' := [(2, 35), (0, x1), (0, x2), (0, x3), (0, (x4 + 1))]) rfl dX4_shortestLoop_75 ?_
        refine st_goto 7 (by decide) dX4_shortestLoop_78 ?_
        exact st_locals [(2, 35), (0, x1), (0, x2), (0, x3), (0, (x4 + 1))] ⟨Or.inr rfl, Or.inr rfl, Or.inr rfl, Or.inr rfl, Or.inr rfl, trivial⟩ (k2 h1 h3 h4)
      · have h4 : (mem 38 x4) < x4 := by omega
        refine st_iload_n (i := 3) rfl rfl dX4_shortestLoop_42 ?_
        refine st_iconst dX4_shortestLoop_43 ?_
        refine sr_icmp_eq 61 (s4 h1 h3 h4) ⟨by decide, by decide⟩ (by decide) dX4_shortestLoop_44 (fun h5 => ?_) (fun h5 => ?_)
        · have h5 : x3 = (-1) := by omega
          refine st_iload rfl dX4_shortestLoop_61 ?_
          refine st_aload_n (i := 0) rfl (t := 0) rfl (by decide) dX4_shortestLoop_63 ?_
          refine so_getA 35 3 fr_X4_18_4 rfl sh_35 fx_35_3 dX4_shortestLoop_64 ?_
          refine st_iload rfl dX4_shortestLoop_67 ?_
          refine so_iald (v := (mem 38 x4)) 38 rfl sh_38 (by decide) (s3 h1) rfl dX4_shortestLoop_69 (fun r4 => ?_)
          refine st_isub dX4_shortestLoop_70 ?_
          refine st_istore_n (i := 2) rfl (by decide) (lc' := [(2, 35), (0, x1), (0, (x4 - (mem 38 x4))), (0, x3), (0, x4)]) rfl dX4_shortestLoop_71 ?_
          refine st_iload rfl dX4_shortestLoop_72 ?_
          refine st_istore_n (i := 3) rfl (by decide) (lc' := [(2, 35), (0, x1), (0, (x4 - (mem 38 x4))), (0, x4), (0, x4)]) rfl dX4_shortestLoop_74 ?_
          refine st_iinc (y := (x4 + 1)) (by decide) (i := 4) rfl rfl (lc' := [(2, 35), (0, x1), (0, (x4 - (mem 38 x4))), (0, x4), (0, (x4 + 1))]) rfl dX4_shortestLoop_75 ?_
          refine st_goto 7 (by decide) dX4_shortestLoop_78 ?_
          exact st_locals [(2, 35), (0, x1), (0, (x4 - (mem 38 x4))), (0, x4), (0, (x4 + 1))] ⟨Or.inr rfl, Or.inr rfl, Or.inr rfl, Or.inr rfl, Or.inr rfl, trivial⟩ (k3 h1 h3 h4 h5)
        · have h5 : ¬ x3 = (-1) := by omega
          refine st_iload rfl dX4_shortestLoop_47 ?_
          refine st_aload_n (i := 0) rfl (t := 0) rfl (by decide) dX4_shortestLoop_49 ?_
          refine so_getA 35 3 fr_X4_18_4 rfl sh_35 fx_35_3 dX4_shortestLoop_50 ?_
          refine st_iload rfl dX4_shortestLoop_53 ?_
          refine so_iald (v := (mem 38 x4)) 38 rfl sh_38 (by decide) (s3 h1) rfl dX4_shortestLoop_55 (fun r5 => ?_)
          refine st_isub dX4_shortestLoop_56 ?_
          refine st_iload_n (i := 2) rfl rfl dX4_shortestLoop_57 ?_
          refine sr_icmp_ge 75 (s5 h1 h3 h4 h5) (s6 h1 h3 h4 h5) (by decide) dX4_shortestLoop_58 (fun h6 => ?_) (fun h6 => ?_)
          · have h6 : x2 ≤ (x4 - (mem 38 x4)) := by omega
            refine st_iinc (y := (x4 + 1)) (by decide) (i := 4) rfl rfl (lc' := [(2, 35), (0, x1), (0, x2), (0, x3), (0, (x4 + 1))]) rfl dX4_shortestLoop_75 ?_
            refine st_goto 7 (by decide) dX4_shortestLoop_78 ?_
            exact st_locals [(2, 35), (0, x1), (0, x2), (0, x3), (0, (x4 + 1))] ⟨Or.inr rfl, Or.inr rfl, Or.inr rfl, Or.inr rfl, Or.inr rfl, trivial⟩ (k4 h1 h3 h4 h5 h6)
          · have h6 : (x4 - (mem 38 x4)) < x2 := by omega
            refine st_iload rfl dX4_shortestLoop_61 ?_
            refine st_aload_n (i := 0) rfl (t := 0) rfl (by decide) dX4_shortestLoop_63 ?_
            refine so_getA 35 3 fr_X4_18_4 rfl sh_35 fx_35_3 dX4_shortestLoop_64 ?_
            refine st_iload rfl dX4_shortestLoop_67 ?_
            refine so_iald (v := (mem 38 x4)) 38 rfl sh_38 (by decide) (s3 h1) rfl dX4_shortestLoop_69 (fun r6 => ?_)
            refine st_isub dX4_shortestLoop_70 ?_
            refine st_istore_n (i := 2) rfl (by decide) (lc' := [(2, 35), (0, x1), (0, (x4 - (mem 38 x4))), (0, x3), (0, x4)]) rfl dX4_shortestLoop_71 ?_
            refine st_iload rfl dX4_shortestLoop_72 ?_
            refine st_istore_n (i := 3) rfl (by decide) (lc' := [(2, 35), (0, x1), (0, (x4 - (mem 38 x4))), (0, x4), (0, x4)]) rfl dX4_shortestLoop_74 ?_
            refine st_iinc (y := (x4 + 1)) (by decide) (i := 4) rfl rfl (lc' := [(2, 35), (0, x1), (0, (x4 - (mem 38 x4))), (0, x4), (0, (x4 + 1))]) rfl dX4_shortestLoop_75 ?_
            refine st_goto 7 (by decide) dX4_shortestLoop_78 ?_
            exact st_locals [(2, 35), (0, x1), (0, (x4 - (mem 38 x4))), (0, x4), (0, (x4 + 1))] ⟨Or.inr rfl, Or.inr rfl, Or.inr rfl, Or.inr rfl, Or.inr rfl, trivial⟩ (k5 h1 h3 h4 h5 h6)
theorem cn_X4_longestHole {d : Nat} {P : Int → mmM → Prop} {mem : mmM} {x1 : Int} (h : mmT bX4_longestHole d 0 0 (mQ 0 P) 0 [(2, 35), (0, x1), (9, 0), (9, 0), (9, 0)] [] mS mem) : con 0 bX4_longestHole d [(2, 35), (0, x1)] mem P := mmC_of [(2, 35), (0, x1), (9, 0), (9, 0), (9, 0)] ok_X4_longestHole.2.2.2.2 rfl (Nat.le_of_ble_eq_true rfl) h
theorem bk_X4_longestHole_0 {d : Nat} {P : Int → mmM → Prop} {mem : mmM} {x1 : Int}
  (k1 : mmT bX4_longestHole d 0 0 (mQ 0 P) 7 [(2, 35), (0, x1), (0, (-1)), (0, (-1)), (0, 0)] [] mS mem)
  : mmT bX4_longestHole d 0 0 (mQ 0 P) 0 [(2, 35), (0, x1), (9, 0), (9, 0), (9, 0)] [] mS mem := by
  refine st_iconst dX4_longestHole_0 ?_
  refine st_istore_n (i := 2) rfl (by decide) (lc' := [(2, 35), (0, x1), (0, (-1)), (9, 0), (9, 0)]) rfl dX4_longestHole_1 ?_
  refine st_iconst dX4_longestHole_2 ?_
  refine st_istore_n (i := 3) rfl (by decide) (lc' := [(2, 35), (0, x1), (0, (-1)), (0, (-1)), (9, 0)]) rfl dX4_longestHole_3 ?_
  refine st_iconst dX4_longestHole_4 ?_
  refine st_istore (by decide) (lc' := [(2, 35), (0, x1), (0, (-1)), (0, (-1)), (0, 0)]) rfl dX4_longestHole_5 ?_
  exact st_locals [(2, 35), (0, x1), (0, (-1)), (0, (-1)), (0, 0)] ⟨Or.inr rfl, Or.inr rfl, Or.inr rfl, Or.inr rfl, Or.inr rfl, trivial⟩ k1
theorem bk_X4_longestHole_7 {d : Nat} {P : Int → mmM → Prop} {mem : mmM} {x1 x2 x3 x4 : Int}
  (k1 : x4 < (mem 23 1) → (mem 38 x4) ≤ x4 → mmT bX4_longestHole d 0 0 (mQ 0 P) 7 [(2, 35), (0, x1), (0, x2), (0, x3), (0, (x4 + 1))] [] mS mem)
  (k2 : x4 < (mem 23 1) → x4 < (mem 38 x4) → ((mem 38 x4) - x4) ≤ x2 → mmT bX4_longestHole d 0 0 (mQ 0 P) 7 [(2, 35), (0, x1), (0, x2), (0, x3), (0, (x4 + 1))] [] mS mem)
  (k3 : x4 < (mem 23 1) → x4 < (mem 38 x4) → x2 < ((mem 38 x4) - x4) → mmT bX4_longestHole d 0 0 (mQ 0 P) 7 [(2, 35), (0, x1), (0, ((mem 38 x4) - x4)), (0, x4), (0, (x4 + 1))] [] mS mem)
  (q1 : (mem 23 1) ≤ x4 → x1 = 0 → P x3 mem)
  (q2 : (mem 23 1) ≤ x4 → ¬ x1 = 0 → P x2 mem)
  (s1 : R32 x4 := by intros; omega)
  (s2 : (mem 23 1) ≤ x4 → R32 x1 := by intros; omega)
  (s3 : x4 < (mem 23 1) → 0 ≤ x4 ∧ x4 < 24 := by intros; omega)
  (s4 : x4 < (mem 23 1) → x4 < (mem 38 x4) → R32 ((mem 38 x4) - x4) := by intros; omega)
  (s5 : x4 < (mem 23 1) → x4 < (mem 38 x4) → R32 x2 := by intros; omega)
  : mmT bX4_longestHole d 0 0 (mQ 0 P) 7 [(2, 35), (0, x1), (0, x2), (0, x3), (0, x4)] [] mS mem := by
  refine st_iload rfl dX4_longestHole_7 ?_
  refine st_aload_n (i := 0) rfl (t := 0) rfl (by decide) dX4_longestHole_9 ?_
  refine so_getA 35 0 fr_X4_26_4 rfl sh_35 fx_35_0 dX4_longestHole_10 ?_
  refine so_getI (v := (mem 23 1)) 23 1 fr_X4_36_8 rfl sh_23 rfl dX4_longestHole_13 (fun r1 => ?_)
  refine sr_icmp_ge 65 s1 r1 (by decide) dX4_longestHole_16 (fun h1 => ?_) (fun h1 => ?_)
  · have h1 : (mem 23 1) ≤ x4 := by omega
    refine st_iload_n (i := 1) rfl rfl dX4_longestHole_65 ?_
    refine sr_if_eq 73 (s2 h1) (by decide) dX4_longestHole_66 (fun h2 => ?_) (fun h2 => ?_)
    · have h2 : x1 = 0 := by omega
      refine st_iload_n (i := 3) rfl rfl dX4_longestHole_73 ?_
      exact st_ireturn rfl dX4_longestHole_74 (mQ.ret (q1 h1 h2))
    · have h2 : ¬ x1 = 0 := by omega
      refine st_iload_n (i := 2) rfl rfl dX4_longestHole_69 ?_
      refine st_goto 74 (by decide) dX4_longestHole_70 ?_
      exact st_ireturn rfl dX4_longestHole_74 (mQ.ret (q2 h1 h2))
  · have h1 : x4 < (mem 23 1) := by omega
    refine st_aload_n (i := 0) rfl (t := 0) rfl (by decide) dX4_longestHole_19 ?_
    refine so_getA 35 3 fr_X4_18_4 rfl sh_35 fx_35_3 dX4_longestHole_20 ?_
    refine st_iload rfl dX4_longestHole_23 ?_
    refine so_iald (v := (mem 38 x4)) 38 rfl sh_38 (by decide) (s3 h1) rfl dX4_longestHole_25 (fun r2 => ?_)
    refine st_iload rfl dX4_longestHole_26 ?_
    refine sr_icmp_le 59 r2 s1 (by decide) dX4_longestHole_28 (fun h3 => ?_) (fun h3 => ?_)
    · have h3 : (mem 38 x4) ≤ x4 := by omega
      refine st_iinc (y := (x4 + 1)) (by decide) (i := 4) rfl rfl (lc' := [(2, 35), (0, x1), (0, x2), (0, x3), (0, (x4 + 1))]) rfl dX4_longestHole_59 ?_
      refine st_goto 7 (by decide) dX4_longestHole_62 ?_
      exact st_locals [(2, 35), (0, x1), (0, x2), (0, x3), (0, (x4 + 1))] ⟨Or.inr rfl, Or.inr rfl, Or.inr rfl, Or.inr rfl, Or.inr rfl, trivial⟩ (k1 h1 h3)
    · have h3 : x4 < (mem 38 x4) := by omega
      refine st_aload_n (i := 0) rfl (t := 0) rfl (by decide) dX4_longestHole_31 ?_
      refine so_getA 35 3 fr_X4_18_4 rfl sh_35 fx_35_3 dX4_longestHole_32 ?_
      refine st_iload rfl dX4_longestHole_35 ?_
      refine so_iald (v := (mem 38 x4)) 38 rfl sh_38 (by decide) (s3 h1) rfl dX4_longestHole_37 (fun r3 => ?_)
      refine st_iload rfl dX4_longestHole_38 ?_
      refine st_isub dX4_longestHole_40 ?_
      refine st_iload_n (i := 2) rfl rfl dX4_longestHole_41 ?_
      refine sr_icmp_le 59 (s4 h1 h3) (s5 h1 h3) (by decide) dX4_longestHole_42 (fun h4 => ?_) (fun h4 => ?_)
      · have h4 : ((mem 38 x4) - x4) ≤ x2 := by omega
        refine st_iinc (y := (x4 + 1)) (by decide) (i := 4) rfl rfl (lc' := [(2, 35), (0, x1), (0, x2), (0, x3), (0, (x4 + 1))]) rfl dX4_longestHole_59 ?_
        refine st_goto 7 (by decide) dX4_longestHole_62 ?_
        exact st_locals [(2, 35), (0, x1), (0, x2), (0, x3), (0, (x4 + 1))] ⟨Or.inr rfl, Or.inr rfl, Or.inr rfl, Or.inr rfl, Or.inr rfl, trivial⟩ (k2 h1 h3 h4)
      · have h4 : x2 < ((mem 38 x4) - x4) := by omega
        refine st_aload_n (i := 0) rfl (t := 0) rfl (by decide) dX4_longestHole_45 ?_
        refine so_getA 35 3 fr_X4_18_4 rfl sh_35 fx_35_3 dX4_longestHole_46 ?_
        refine st_iload rfl dX4_longestHole_49 ?_
        refine so_iald (v := (mem 38 x4)) 38 rfl sh_38 (by decide) (s3 h1) rfl dX4_longestHole_51 (fun r4 => ?_)
        refine st_iload rfl dX4_longestHole_52 ?_
        refine st_isub dX4_longestHole_54 ?_
        refine st_istore_n (i := 2) rfl (by decide) (lc' := [(2, 35), (0, x1), (0, ((mem 38 x4) - x4)), (0, x3), (0, x4)]) rfl dX4_longestHole_55 ?_
        refine st_iload rfl dX4_longestHole_56 ?_
        refine st_istore_n (i := 3) rfl (by decide) (lc' := [(2, 35), (0, x1), (0, ((mem 38 x4) - x4)), (0, x4), (0, x4)]) rfl dX4_longestHole_58 ?_
        refine st_iinc (y := (x4 + 1)) (by decide) (i := 4) rfl rfl (lc' := [(2, 35), (0, x1), (0, ((mem 38 x4) - x4)), (0, x4), (0, (x4 + 1))]) rfl dX4_longestHole_59 ?_
        refine st_goto 7 (by decide) dX4_longestHole_62 ?_
        exact st_locals [(2, 35), (0, x1), (0, ((mem 38 x4) - x4)), (0, x4), (0, (x4 + 1))] ⟨Or.inr rfl, Or.inr rfl, Or.inr rfl, Or.inr rfl, Or.inr rfl, trivial⟩ (k3 h1 h3 h4)
theorem c_X4_whichLeapTo (mem : mmM) (x1 : Int) (h1 : R32 x1) (hn : 0 ≤ mem 23 1 ∧ mem 23 1 ≤ 24) : con 0 bX4_whichLeapTo 1 [(2, 35), (0, x1)] mem (fun v m => v = wltF (mem 23 1) (mem 38) x1 ∧ m = mem) := by
  refine cn_X4_whichLeapTo (bk_X4_whichLeapTo_0 ?_)
  refine loop_up (n := mem 23 1) (fun i => ∀ acc, acc = foldTo (fun acc i => or32 acc (if mem 38 i = x1 then shl32 1 i else 0)) 0 i.toNat → mmT bX4_whichLeapTo 1 0 0 (mQ 0 (fun v m => v = wltF (mem 23 1) (mem 38) x1 ∧ m = mem)) 4 [(2, 35), (0, x1), (0, acc), (0, i)] [] mS mem) (fun i h0 h1 ih acc ha => ?_) 0 (by omega) (by omega) 0 rfl
  refine bk_X4_whichLeapTo_4 (fun g g2 => ih g _ ?_) (fun g g2 => ih g _ ?_) (fun g => ⟨?_, rfl⟩)
  · rw [foldTo_step _ _ h0, ← ha, if_neg g2]
  · rw [foldTo_step _ _ h0, ← ha, if_pos g2]
  · rw [ha, show i = mem 23 1 by omega]
    rfl
theorem c_X4_shortestLoop (mem : mmM) (x1 : Int) (hx : x1 = 0 ∨ x1 = 1) (hn : 0 ≤ mem 23 1 ∧ mem 23 1 ≤ 24) (ht : ∀ i, 0 ≤ i → i < mem 23 1 → -1 ≤ mem 38 i ∧ mem 38 i < mem 23 1) : con 0 bX4_shortestLoop 1 [(2, 35), (0, x1)] mem (fun v m => v = (if x1 = 0 then (loopF (mem 23 1) (mem 38)).2 else (loopF (mem 23 1) (mem 38)).1) ∧ m = mem) := by
  refine cn_X4_shortestLoop (bk_X4_shortestLoop_0 ?_)
  refine loop_up (n := mem 23 1) (fun i => ∀ p q, (p, q) = foldTo (fun p i => if ¬ mem 38 i = -1 ∧ mem 38 i < i ∧ (p.2 = -1 ∨ i - mem 38 i < p.1) then (i - mem 38 i, i) else p) (-1, -1) i.toNat → (-1 ≤ p ∧ p ≤ 24) → (-1 ≤ q ∧ q ≤ 24) → mmT bX4_shortestLoop 1 0 0 (mQ 0 (fun v m => v = (if x1 = 0 then (loopF (mem 23 1) (mem 38)).2 else (loopF (mem 23 1) (mem 38)).1) ∧ m = mem)) 7 [(2, 35), (0, x1), (0, p), (0, q), (0, i)] [] mS mem) (fun i h0 h1 ih p q ha hp hq => ?_) 0 (by omega) (by omega) (-1) (-1) rfl (by omega) (by omega)
  have hti := ht i h0
  refine bk_X4_shortestLoop_7 (fun g g2 => ih g _ _ ?_ (by omega) (by omega)) (fun g g2 g3 => ih g _ _ ?_ (by omega) (by omega)) (fun g g2 g3 g4 => ih g _ _ ?_ (by omega) (by omega)) (fun g g2 g3 g4 g5 => ih g _ _ ?_ (by omega) (by omega)) (fun g g2 g3 g4 g5 => ih g _ _ ?_ (by omega) (by omega)) (fun g g2 => ⟨?_, rfl⟩) (fun g g2 => ⟨?_, rfl⟩)
  · rw [foldTo_step _ _ h0, ← ha, if_neg (by omega)]
  · rw [foldTo_step _ _ h0, ← ha, if_neg (by omega)]
  · rw [foldTo_step _ _ h0, ← ha, if_pos (by omega)]
  · rw [foldTo_step _ _ h0, ← ha, if_neg (by omega)]
  · rw [foldTo_step _ _ h0, ← ha, if_pos (by omega)]
  · unfold loopF
    rw [show i = mem 23 1 by omega] at ha
    rw [← ha, if_pos g2]
  · unfold loopF
    rw [show i = mem 23 1 by omega] at ha
    rw [← ha, if_neg g2]
theorem c_X4_longestHole (mem : mmM) (x1 : Int) (hx : x1 = 0 ∨ x1 = 1) (hn : 0 ≤ mem 23 1 ∧ mem 23 1 ≤ 24) (ht : ∀ i, 0 ≤ i → i < mem 23 1 → -1 ≤ mem 38 i ∧ mem 38 i < mem 23 1) : con 0 bX4_longestHole 1 [(2, 35), (0, x1)] mem (fun v m => v = (if x1 = 0 then (holeF (mem 23 1) (mem 38)).2 else (holeF (mem 23 1) (mem 38)).1) ∧ m = mem) := by
  refine cn_X4_longestHole (bk_X4_longestHole_0 ?_)
  refine loop_up (n := mem 23 1) (fun i => ∀ p q, (p, q) = foldTo (fun p i => if i < mem 38 i ∧ p.1 < mem 38 i - i then (mem 38 i - i, i) else p) (-1, -1) i.toNat → (-1 ≤ p ∧ p ≤ 24) → (-1 ≤ q ∧ q ≤ 24) → mmT bX4_longestHole 1 0 0 (mQ 0 (fun v m => v = (if x1 = 0 then (holeF (mem 23 1) (mem 38)).2 else (holeF (mem 23 1) (mem 38)).1) ∧ m = mem)) 7 [(2, 35), (0, x1), (0, p), (0, q), (0, i)] [] mS mem) (fun i h0 h1 ih p q ha hp hq => ?_) 0 (by omega) (by omega) (-1) (-1) rfl (by omega) (by omega)
  have hti := ht i h0
  refine bk_X4_longestHole_7 (fun g g2 => ih g _ _ ?_ (by omega) (by omega)) (fun g g2 g3 => ih g _ _ ?_ (by omega) (by omega)) (fun g g2 g3 => ih g _ _ ?_ (by omega) (by omega)) (fun g g2 => ⟨?_, rfl⟩) (fun g g2 => ⟨?_, rfl⟩)
  · rw [foldTo_step _ _ h0, ← ha, if_neg (by omega)]
  · rw [foldTo_step _ _ h0, ← ha, if_neg (by omega)]
  · rw [foldTo_step _ _ h0, ← ha, if_pos (by omega)]
  · unfold holeF
    rw [show i = mem 23 1 by omega] at ha
    rw [← ha, if_pos g2]
  · unfold holeF
    rw [show i = mem 23 1 by omega] at ha
    rw [← ha, if_neg g2]
