/-! a night -/
theorem st_norm64 {B : mmB} {d kc ks : Nat} {Q : mmQ} {pc : Nat} {lc st : List mmV} {sh : mmS} {mem : mmM} {x : Int} (k : mmT B d kc ks Q pc lc ((1, w64 x) :: st) sh mem) : mmT B d kc ks Q pc lc ((1, x) :: st) sh mem := by
  intro p l e R s m args below meth c G H locs cells slots ls X
  have h := k p l e R s m args below meth c G H locs cells slots ls X
  change W p l e R s m args below meth c H locs cells slots _ (F0 m pc ls (.long (Int64.ofInt (w64 x)) :: st.map (mmEnc G))) at h
  have e1 : Int64.ofInt (w64 x) = Int64.ofInt x := Int64.toInt_inj.mp (by rw [w64_toInt, w64_toInt, w64_id (w64_rng x).1 (w64_rng x).2])
  rw [e1] at h
  exact h
theorem st_norm32 {B : mmB} {d kc ks : Nat} {Q : mmQ} {pc : Nat} {lc st : List mmV} {sh : mmS} {mem : mmM} {x : Int} (k : mmT B d kc ks Q pc lc ((0, w32 x) :: st) sh mem) : mmT B d kc ks Q pc lc ((0, x) :: st) sh mem := by
  intro p l e R s m args below meth c G H locs cells slots ls X
  have h := k p l e R s m args below meth c G H locs cells slots ls X
  change W p l e R s m args below meth c H locs cells slots _ (F0 m pc ls (.int (Int32.ofInt (w32 x)) :: st.map (mmEnc G))) at h
  have e1 : Int32.ofInt (w32 x) = Int32.ofInt x := Int32.toInt_inj.mp (by rw [w32_toInt, w32_toInt, w32_id (w32_rng x).1 (w32_rng x).2])
  rw [e1] at h
  exact h
theorem w64_R64 (x : Int) : R64 (w64 x) := ⟨(w64_rng x).1, (w64_rng x).2⟩
def nextX (x : Int) : Int := w64 (x * 6364136223846793005 + 1442695040888963407)
def drawS (x : Int) : Int := w32 (rem64 (ushr64 (nextX x) 33) 100)
theorem drawS_rng {x : Int} : R32 (drawS x) := ⟨(w32_rng _).1, (w32_rng _).2⟩
theorem nextX_rng {x : Int} : R64 (nextX x) := w64_R64 _
theorem cn_X5_draw_52 {d : Nat} {P : Int → mmM → Prop} {mem : mmM} (h : mmT bX5_draw d 0 0 (mQ 0 P) 0 [(2, 52)] [] mS mem) : con 0 bX5_draw d [(2, 52)] mem P := mmC_of [(2, 52)] ok_X5_draw.2.2.2.2 rfl (Nat.le_of_ble_eq_true rfl) h
theorem bk_X5_draw_52_0 {d : Nat} {P : Int → mmM → Prop} {mem : mmM}
  (q1 : P (w32 (rem64 (ushr64 (w64 (((mem 52 7) * 6364136223846793005) + 1442695040888963407)) 33) 100)) (mset mem 52 7 (w64 (((mem 52 7) * 6364136223846793005) + 1442695040888963407))))
  : mmT bX5_draw d 0 0 (mQ 0 P) 0 [(2, 52)] [] mS mem := by
  refine st_aload_n (i := 0) rfl (t := 0) rfl (by decide) dX5_draw_0 ?_
  refine st_aload_n (i := 0) rfl (t := 0) rfl (by decide) dX5_draw_1 ?_
  refine so_getJ (v := (mem 52 7)) 52 7 fr_X5_15_5 rfl sh_52 rfl dX5_draw_2 (fun r1 => ?_)
  refine st_ldc2 cw_X5_42 dX5_draw_5 ?_
  refine st_lmul dX5_draw_8 ?_
  refine st_ldc2 cw_X5_44 dX5_draw_9 ?_
  refine st_ladd dX5_draw_12 ?_
  refine st_norm64 ?_
  refine so_putJ 52 7 fr_X5_15_5 pf_5_7 fo_52_7 rfl sh_52 (w64_R64 _) dX5_draw_13 ?_
  refine st_aload_n (i := 0) rfl (t := 0) rfl (by decide) dX5_draw_16 ?_
  refine so_getJ (v := (w64 (((mem 52 7) * 6364136223846793005) + 1442695040888963407))) 52 7 fr_X5_15_5 rfl sh_52 rfl dX5_draw_17 (fun r2 => ?_)
  refine st_bipush rfl dX5_draw_20 ?_
  refine st_lushr dX5_draw_22 ?_
  refine st_ldc2 cw_X5_46 dX5_draw_23 ?_
  refine st_lrem (by decide) dX5_draw_26 ?_
  refine st_l2i dX5_draw_27 ?_
  refine st_norm32 ?_
  exact st_ireturn rfl dX5_draw_28 (mQ.ret q1)
theorem cn_X5_draw_55 {d : Nat} {P : Int → mmM → Prop} {mem : mmM} (h : mmT bX5_draw d 0 0 (mQ 0 P) 0 [(2, 55)] [] mS mem) : con 0 bX5_draw d [(2, 55)] mem P := mmC_of [(2, 55)] ok_X5_draw.2.2.2.2 rfl (Nat.le_of_ble_eq_true rfl) h
theorem bk_X5_draw_55_0 {d : Nat} {P : Int → mmM → Prop} {mem : mmM}
  (q1 : P (w32 (rem64 (ushr64 (w64 (((mem 55 7) * 6364136223846793005) + 1442695040888963407)) 33) 100)) (mset mem 55 7 (w64 (((mem 55 7) * 6364136223846793005) + 1442695040888963407))))
  : mmT bX5_draw d 0 0 (mQ 0 P) 0 [(2, 55)] [] mS mem := by
  refine st_aload_n (i := 0) rfl (t := 0) rfl (by decide) dX5_draw_0 ?_
  refine st_aload_n (i := 0) rfl (t := 0) rfl (by decide) dX5_draw_1 ?_
  refine so_getJ (v := (mem 55 7)) 55 7 fr_X5_15_5 rfl sh_55 rfl dX5_draw_2 (fun r1 => ?_)
  refine st_ldc2 cw_X5_42 dX5_draw_5 ?_
  refine st_lmul dX5_draw_8 ?_
  refine st_ldc2 cw_X5_44 dX5_draw_9 ?_
  refine st_ladd dX5_draw_12 ?_
  refine st_norm64 ?_
  refine so_putJ 55 7 fr_X5_15_5 pf_5_7 fo_55_7 rfl sh_55 (w64_R64 _) dX5_draw_13 ?_
  refine st_aload_n (i := 0) rfl (t := 0) rfl (by decide) dX5_draw_16 ?_
  refine so_getJ (v := (w64 (((mem 55 7) * 6364136223846793005) + 1442695040888963407))) 55 7 fr_X5_15_5 rfl sh_55 rfl dX5_draw_17 (fun r2 => ?_)
  refine st_bipush rfl dX5_draw_20 ?_
  refine st_lushr dX5_draw_22 ?_
  refine st_ldc2 cw_X5_46 dX5_draw_23 ?_
  refine st_lrem (by decide) dX5_draw_26 ?_
  refine st_l2i dX5_draw_27 ?_
  refine st_norm32 ?_
  exact st_ireturn rfl dX5_draw_28 (mQ.ret q1)
theorem cn_X4_takeOf {d : Nat} {P : Int → mmM → Prop} {mem : mmM} {x1 : Int} (h : mmT bX4_takeOf d 0 0 (mQ 0 P) 0 [(2, 35), (0, x1)] [] mS mem) : con 0 bX4_takeOf d [(2, 35), (0, x1)] mem P := mmC_of [(2, 35), (0, x1)] ok_X4_takeOf.2.2.2.2 rfl (Nat.le_of_ble_eq_true rfl) h
theorem bk_X4_takeOf_0 {d : Nat} {P : Int → mmM → Prop} {mem : mmM} {x1 : Int}
  (q1 : ¬ (0 ≤ x1 ∧ x1 < (mem 23 1)) → P 0 mem)
  (q2 : (0 ≤ x1 ∧ x1 < (mem 23 1)) → P (mem 37 (mem 24 x1)) mem)
  (hd2 : 2 ≤ d := by omega)
  (s1 : R32 x1 := by intros; first | omega | assumption | solve_by_elim)
  (s2 : (0 ≤ x1 ∧ x1 < (mem 23 1)) → 0 ≤ x1 ∧ x1 < 24 := by intros; first | omega | assumption | solve_by_elim)
  (s3 : (0 ≤ x1 ∧ x1 < (mem 23 1)) → 0 ≤ (mem 24 x1) ∧ (mem 24 x1) < 8 := by intros; first | omega | assumption | solve_by_elim)
  : mmT bX4_takeOf d 0 0 (mQ 0 P) 0 [(2, 35), (0, x1)] [] mS mem := by
  refine st_aload_n (i := 0) rfl (t := 0) rfl (by decide) dX4_takeOf_0 ?_
  refine so_getA 35 0 fr_X4_26_4 rfl sh_35 fx_35_0 dX4_takeOf_1 ?_
  refine st_iload_n (i := 1) rfl rfl dX4_takeOf_4 ?_
  refine st_callV (kc2 := 0) (ks2 := 0) (av := [(0, x1)]) 23 8 mr_X4_61 ok_X8_has (c_X8_has mem x1 (s1)) rfl sh_23 ⟨_, rfl, rfl, by decide⟩ rfl rfl hd2 (Nat.le_refl 0) (Nat.le_refl 0) (Nat.le_of_ble_eq_true rfl) dX4_takeOf_5 (mQ.elim fun v1 m1 hp => ?_)
  obtain ⟨hpv, hpm⟩ := hp
  subst hpv
  have hpm := hpm.symm
  subst hpm
  refine so_ifeqB 28 (by decide) dX4_takeOf_8 (fun h1 => ?_) (fun h1 => ?_)
  · have h1 : ¬ (0 ≤ x1 ∧ x1 < (mem 23 1)) := h1
    refine st_iconst dX4_takeOf_28 ?_
    exact st_ireturn rfl dX4_takeOf_29 (mQ.ret (q1 h1))
  · have h1 : (0 ≤ x1 ∧ x1 < (mem 23 1)) := h1
    refine st_aload_n (i := 0) rfl (t := 0) rfl (by decide) dX4_takeOf_11 ?_
    refine so_getA 35 2 fr_X4_15_4 rfl sh_35 fx_35_2 dX4_takeOf_12 ?_
    refine st_aload_n (i := 0) rfl (t := 0) rfl (by decide) dX4_takeOf_15 ?_
    refine so_getA 35 0 fr_X4_26_4 rfl sh_35 fx_35_0 dX4_takeOf_16 ?_
    refine so_getA 23 2 fr_X4_52_8 rfl sh_23 fx_23_2 dX4_takeOf_19 ?_
    refine st_iload_n (i := 1) rfl rfl dX4_takeOf_22 ?_
    refine so_iald (v := (mem 24 x1)) 24 rfl sh_24 (by decide) (s2 h1) rfl dX4_takeOf_23 (fun r1 => ?_)
    refine so_iald (v := (mem 37 (mem 24 x1))) 37 rfl sh_37 (by decide) (s3 h1) rfl dX4_takeOf_24 (fun r2 => ?_)
    refine st_goto 29 (by decide) dX4_takeOf_25 ?_
    exact st_ireturn rfl dX4_takeOf_29 (mQ.ret (q2 h1))
theorem c_X5_draw_52 (mem : mmM) : con 0 bX5_draw 0 [(2, 52)] mem (fun v m => v = drawS (mem 52 7) ∧ m = mset mem 52 7 (nextX (mem 52 7))) := cn_X5_draw_52 (bk_X5_draw_52_0 ⟨rfl, rfl⟩)
theorem c_X5_draw_55 (mem : mmM) : con 0 bX5_draw 0 [(2, 55)] mem (fun v m => v = drawS (mem 55 7) ∧ m = mset mem 55 7 (nextX (mem 55 7))) := cn_X5_draw_55 (bk_X5_draw_55_0 ⟨rfl, rfl⟩)
def takeX (mem : mmM) (s : Int) : Int := if 0 ≤ s ∧ s < mem 23 1 then mem 37 (mem 24 s) else 0
def takeP (mem : mmM) : Prop := (0 ≤ mem 23 1 ∧ mem 23 1 ≤ 24) ∧ ∀ i, 0 ≤ i → i < mem 23 1 → 0 ≤ mem 24 i ∧ mem 24 i < 8
theorem c_X4_takeOf (mem : mmM) (x1 : Int) (h1 : R32 x1) (hT : takeP mem) : con 0 bX4_takeOf 2 [(2, 35), (0, x1)] mem (fun v m => v = takeX mem x1 ∧ m = mem) := by
  have hn := hT.1
  have h24 := hT.2 x1
  refine cn_X4_takeOf (bk_X4_takeOf_0 (fun g => ⟨?_, rfl⟩) (fun g => ⟨?_, rfl⟩))
  · unfold takeX
    rw [if_neg g]
  · unfold takeX
    rw [if_pos g]
/-! ## what a night is: draws, place come to, lost, saved, leapt, lost at -/
abbrev ntT : Type := Int × Int × Int × Int × Int × (Int → Int)
abbrev ntLost (fg : Int → Int → Int) (mk : Int) (x c : Int) : Prop := drawS x < fg c (and32 (shr32 mk c) 1)
abbrev ntSave (tk : Int → Int) (mk : Int) (x c : Int) : Prop := and32 (shr32 mk c) 1 = 1 ∧ drawS (nextX x) < tk c
def ntStep (fg : Int → Int → Int) (tk to : Int → Int) (mk : Int) (s : ntT) : ntT :=
  if ntLost fg mk s.1 s.2.1 then
    (if ntSave tk mk s.1 s.2.1 then (nextX (nextX s.1), s.2.1 + 1, s.2.2.1 + 1, s.2.2.2.1 + 1, s.2.2.2.2.1, fun j => if j = s.2.1 then s.2.2.2.2.2 s.2.1 + 1 else s.2.2.2.2.2 j)
    else ((if and32 (shr32 mk s.2.1) 1 = 1 then nextX (nextX s.1) else nextX s.1), to s.2.1 + 1, s.2.2.1 + 1, s.2.2.2.1, s.2.2.2.2.1 + (if to s.2.1 = -1 then 0 else 1), fun j => if j = s.2.1 then s.2.2.2.2.2 s.2.1 + 1 else s.2.2.2.2.2 j))
  else (nextX s.1, s.2.1 + 1, s.2.2.1, s.2.2.2.1, s.2.2.2.2.1, s.2.2.2.2.2)
def ntV (fg : Int → Int → Int) (tk to : Int → Int) (mk : Int) (s : ntT) : Int := if ntLost fg mk s.1 s.2.1 ∧ ¬ ntSave tk mk s.1 s.2.1 then to s.2.1 else s.2.1
def ntSt (fg : Int → Int → Int) (tk to : Int → Int) (mk seed : Int) : Nat → ntT
  | 0 => (seed, 0, 0, 0, 0, fun _ => 0)
  | k + 1 => ntStep fg tk to mk (ntSt fg tk to mk seed k)
theorem ntStep_come (fg : Int → Int → Int) (tk to : Int → Int) (mk : Int) (s : ntT) : (ntStep fg tk to mk s).2.1 = ntV fg tk to mk s + 1 := by
  unfold ntStep ntV
  by_cases h : ntLost fg mk s.1 s.2.1
  · by_cases h2 : ntSave tk mk s.1 s.2.1
    · rw [if_pos h, if_pos h2]
      show s.2.1 + 1 = _
      exact congrArg (· + 1) (if_neg (fun z : ntLost fg mk s.1 s.2.1 ∧ ¬ ntSave tk mk s.1 s.2.1 => z.2 h2)).symm
    · rw [if_pos h, if_neg h2]
      show to s.2.1 + 1 = _
      exact congrArg (· + 1) (if_pos (⟨h, h2⟩ : _ ∧ _)).symm
  · rw [if_neg h]
    show s.2.1 + 1 = _
    exact congrArg (· + 1) (if_neg (fun z : _ ∧ _ => h z.1)).symm
def ntAlive (n : Int) (fg : Int → Int → Int) (tk to : Int → Int) (mk seed : Int) (k : Nat) : Prop := k < 200 ∧ (ntSt fg tk to mk seed k).2.1 < n ∧ ¬ ntV fg tk to mk (ntSt fg tk to mk seed k) = -1
def ntEnd (n : Int) (fg : Int → Int → Int) (tk to : Int → Int) (mk seed : Int) (k : Nat) : Prop := (∀ i, i < k → ntAlive n fg tk to mk seed i) ∧ ¬ ntAlive n fg tk to mk seed k
def ntOut (n : Int) (fg : Int → Int → Int) (tk to : Int → Int) (mk seed : Int) (k : Nat) : Int := if n ≤ (ntSt fg tk to mk seed k).2.1 then 0 else if 200 ≤ k then 2 else 1
def ntFin (n : Int) (fg : Int → Int → Int) (tk to : Int → Int) (mk seed : Int) (k : Nat) : ntT := if ntOut n fg tk to mk seed k = 1 then ntSt fg tk to mk seed (k + 1) else ntSt fg tk to mk seed k
def ntSec (len : Int → Int) (fg : Int → Int → Int) (tk to : Int → Int) (mk seed : Int) (k : Nat) : Int := sumTo (fun j => len (ntV fg tk to mk (ntSt fg tk to mk seed j.toNat))) k
theorem ntSec_succ (len : Int → Int) (fg : Int → Int → Int) (tk to : Int → Int) (mk seed : Int) (k : Nat) : ntSec len fg tk to mk seed (k + 1) = ntSec len fg tk to mk seed k + len (ntV fg tk to mk (ntSt fg tk to mk seed k)) := rfl
theorem ntEnd_unique {n : Int} {fg : Int → Int → Int} {tk to : Int → Int} {mk seed : Int} {k k' : Nat} (h : ntEnd n fg tk to mk seed k) (h' : ntEnd n fg tk to mk seed k') : k = k' := by
  rcases Nat.lt_trichotomy k k' with q | q | q
  · exact absurd (h'.1 k q) h.2
  · exact q
  · exact absurd (h.1 k' q) h'.2
theorem ntV_cases (fg : Int → Int → Int) (tk to : Int → Int) (mk : Int) (s : ntT) : ntV fg tk to mk s = to s.2.1 ∨ ntV fg tk to mk s = s.2.1 := by
  unfold ntV
  split
  · exact Or.inl rfl
  · exact Or.inr rfl
theorem ntSt_come {n : Int} {fg : Int → Int → Int} {tk to : Int → Int} {mk seed : Int} (hn : 0 ≤ n) (ht : ∀ i, 0 ≤ i → i < n → -1 ≤ to i ∧ to i < n) : ∀ k : Nat, (∀ i, i < k → ntAlive n fg tk to mk seed i) → 0 ≤ (ntSt fg tk to mk seed k).2.1 ∧ (ntSt fg tk to mk seed k).2.1 ≤ n := by
  intro k
  induction k with
  | zero => intro _; exact ⟨by show (0 : Int) ≤ 0; omega, hn⟩
  | succ k ih =>
    intro h
    have i1 := ih (fun i q => h i (by omega))
    have a := h k (by omega)
    have t := ht (ntSt fg tk to mk seed k).2.1 i1.1 a.2.1
    have v := ntV_cases fg tk to mk (ntSt fg tk to mk seed k)
    have a3 := a.2.2
    have a2 := a.2.1
    have e : (ntSt fg tk to mk seed (k + 1)).2.1 = ntV fg tk to mk (ntSt fg tk to mk seed k) + 1 := ntStep_come _ _ _ _ _
    rw [e]
    omega
theorem ntV_bnd {n : Int} {fg : Int → Int → Int} {tk to : Int → Int} {mk seed : Int} (hn : 0 ≤ n) (ht : ∀ i, 0 ≤ i → i < n → -1 ≤ to i ∧ to i < n) {k : Nat} (h : ∀ i, i < k → ntAlive n fg tk to mk seed i) (hc : (ntSt fg tk to mk seed k).2.1 < n) : -1 ≤ ntV fg tk to mk (ntSt fg tk to mk seed k) ∧ ntV fg tk to mk (ntSt fg tk to mk seed k) < n := by
  have b := ntSt_come hn ht k h
  have t := ht (ntSt fg tk to mk seed k).2.1 b.1 hc
  have v := ntV_cases fg tk to mk (ntSt fg tk to mk seed k)
  omega
theorem ntSec_bnd {n : Int} {len : Int → Int} {fg : Int → Int → Int} {tk to : Int → Int} {mk seed : Int} (hl : ∀ i, 0 ≤ i → i < n → 0 ≤ len i ∧ len i ≤ 99) (hn : 0 ≤ n) (ht : ∀ i, 0 ≤ i → i < n → -1 ≤ to i ∧ to i < n) : ∀ k : Nat, (∀ i, i < k → ntAlive n fg tk to mk seed i) → 0 ≤ ntSec len fg tk to mk seed k ∧ ntSec len fg tk to mk seed k ≤ 99 * k := by
  intro k
  induction k with
  | zero => intro _; exact ⟨Int.le_refl _, by show (0 : Int) ≤ 99 * 0; omega⟩
  | succ k ih =>
    intro h
    have i1 := ih (fun i q => h i (by omega))
    have a := h k (by omega)
    have v := ntV_bnd hn ht (fun i q => h i (by omega)) a.2.1
    have l := hl _ (by have := a.2.2; omega : 0 ≤ ntV fg tk to mk (ntSt fg tk to mk seed k)) v.2
    rw [ntSec_succ]
    omega
theorem ntStep_cnt (fg : Int → Int → Int) (tk to : Int → Int) (mk : Int) (s : ntT) (k : Int) (h : (0 ≤ s.2.2.1 ∧ s.2.2.1 ≤ k) ∧ (0 ≤ s.2.2.2.1 ∧ s.2.2.2.1 ≤ k) ∧ (0 ≤ s.2.2.2.2.1 ∧ s.2.2.2.2.1 ≤ k) ∧ ∀ j, 0 ≤ s.2.2.2.2.2 j ∧ s.2.2.2.2.2 j ≤ k) :
    (0 ≤ (ntStep fg tk to mk s).2.2.1 ∧ (ntStep fg tk to mk s).2.2.1 ≤ k + 1) ∧ (0 ≤ (ntStep fg tk to mk s).2.2.2.1 ∧ (ntStep fg tk to mk s).2.2.2.1 ≤ k + 1) ∧ (0 ≤ (ntStep fg tk to mk s).2.2.2.2.1 ∧ (ntStep fg tk to mk s).2.2.2.2.1 ≤ k + 1) ∧ ∀ j, 0 ≤ (ntStep fg tk to mk s).2.2.2.2.2 j ∧ (ntStep fg tk to mk s).2.2.2.2.2 j ≤ k + 1 := by
  obtain ⟨x, c, l, sv, lp, at'⟩ := s
  obtain ⟨h1, h2, h3, h4⟩ := h
  simp only at h1 h2 h3 h4
  unfold ntStep
  split
  · split
    · refine ⟨⟨?_, ?_⟩, ⟨?_, ?_⟩, ⟨?_, ?_⟩, fun j => ?_⟩ <;> simp only
      all_goals first | omega | skip
      have := h4 c
      have := h4 j
      split <;> omega
    · refine ⟨⟨?_, ?_⟩, ⟨?_, ?_⟩, ⟨?_, ?_⟩, fun j => ?_⟩ <;> simp only
      all_goals first | omega | skip
      have := h4 c
      have := h4 j
      split <;> omega
  · refine ⟨⟨?_, ?_⟩, ⟨?_, ?_⟩, ⟨?_, ?_⟩, fun j => ?_⟩ <;> simp only
    all_goals first | omega | skip
    have := h4 j
    omega
theorem ntSt_cnt (fg : Int → Int → Int) (tk to : Int → Int) (mk seed : Int) (k : Nat) : (0 ≤ (ntSt fg tk to mk seed k).2.2.1 ∧ (ntSt fg tk to mk seed k).2.2.1 ≤ k) ∧ (0 ≤ (ntSt fg tk to mk seed k).2.2.2.1 ∧ (ntSt fg tk to mk seed k).2.2.2.1 ≤ k) ∧ (0 ≤ (ntSt fg tk to mk seed k).2.2.2.2.1 ∧ (ntSt fg tk to mk seed k).2.2.2.2.1 ≤ k) ∧ ∀ j, 0 ≤ (ntSt fg tk to mk seed k).2.2.2.2.2 j ∧ (ntSt fg tk to mk seed k).2.2.2.2.2 j ≤ k := by
  induction k with
  | zero => exact ⟨⟨by show (0 : Int) ≤ 0; omega, by show (0 : Int) ≤ 0; omega⟩, ⟨by show (0 : Int) ≤ 0; omega, by show (0 : Int) ≤ 0; omega⟩, ⟨by show (0 : Int) ≤ 0; omega, by show (0 : Int) ≤ 0; omega⟩, fun j => ⟨by show (0 : Int) ≤ 0; omega, by show (0 : Int) ≤ 0; omega⟩⟩
  | succ k ih => exact ntStep_cnt fg tk to mk _ k ih
/-- the play as a night needs it -/
def nightP (mem : mmM) : Prop := playX mem ∧ (∀ s b, 0 ≤ forgetsX mem s b ∧ forgetsX mem s b ≤ 100) ∧ (∀ s, 0 ≤ takeX mem s ∧ takeX mem s ≤ 100)
theorem forgetsX_52 (m : mmM) (k v : Int) : forgetsX (mset m 52 k v) = forgetsX m := by
  funext s b
  unfold forgetsX
  rw [mset_ne (by decide), mset_ne (by decide), mset_ne (by decide)]
theorem forgetsX_54 (m : mmM) (k v : Int) : forgetsX (mset m 54 k v) = forgetsX m := by
  funext s b
  unfold forgetsX
  rw [mset_ne (by decide), mset_ne (by decide), mset_ne (by decide)]
theorem takeX_52 (m : mmM) (k v : Int) : takeX (mset m 52 k v) = takeX m := by
  funext s
  unfold takeX
  rw [mset_ne (by decide), mset_ne (by decide), mset_ne (by decide)]
theorem takeX_54 (m : mmM) (k v : Int) : takeX (mset m 54 k v) = takeX m := by
  funext s
  unfold takeX
  rw [mset_ne (by decide), mset_ne (by decide), mset_ne (by decide)]
theorem takeP_52 {m : mmM} {k v : Int} (h : takeP m) : takeP (mset m 52 k v) := by
  unfold takeP
  rw [mset_ne (by decide), mset_ne (by decide)]
  exact h
theorem takeP_54 {m : mmM} {k v : Int} (h : takeP m) : takeP (mset m 54 k v) := by
  unfold takeP
  rw [mset_ne (by decide), mset_ne (by decide)]
  exact h
def lostX_52 (mem : mmM) (s : Int) : Prop := drawS (mem 52 7) < forgetsX mem s (and32 (shr32 (mem 52 8) s) 1)
def savedX_52 (mem : mmM) (s : Int) : Prop := and32 (shr32 (mem 52 8) s) 1 = 1 ∧ drawS (nextX (mem 52 7)) < takeX mem s
def saidP_52 (mem : mmM) (x1 v : Int) (m : mmM) : Prop :=
  ((¬ lostX_52 mem x1 ∧ v = x1 ∧ m 52 7 = nextX (mem 52 7) ∧ m 52 9 = mem 52 9 ∧ m 52 10 = mem 52 10 ∧ m 52 11 = mem 52 11 ∧ m 54 = mem 54) ∨
  (lostX_52 mem x1 ∧ savedX_52 mem x1 ∧ v = x1 ∧ m 52 7 = nextX (nextX (mem 52 7)) ∧ m 52 9 = mem 52 9 + 1 ∧ m 52 10 = mem 52 10 + 1 ∧ m 52 11 = mem 52 11 ∧ m 54 = fun j => if j = x1 then mem 54 x1 + 1 else mem 54 j) ∨
  (lostX_52 mem x1 ∧ ¬ savedX_52 mem x1 ∧ v = mem 38 x1 ∧ m 52 7 = (if and32 (shr32 (mem 52 8) x1) 1 = 1 then nextX (nextX (mem 52 7)) else nextX (mem 52 7)) ∧ m 52 9 = mem 52 9 + 1 ∧ m 52 10 = mem 52 10 ∧ m 52 11 = mem 52 11 + (if mem 38 x1 = -1 then 0 else 1) ∧ m 54 = fun j => if j = x1 then mem 54 x1 + 1 else mem 54 j)) ∧
  (∀ a, a ≠ 52 → a ≠ 54 → m a = mem a) ∧ (∀ j, j ≠ 7 → j ≠ 9 → j ≠ 10 → j ≠ 11 → m 52 j = mem 52 j)
theorem cn_X5_saidAt_52 {d : Nat} {P : Int → mmM → Prop} {mem : mmM} {x1 : Int} (h : mmT bX5_saidAt d 0 0 (mQ 0 P) 0 [(2, 52), (0, x1), (9, 0), (9, 0)] [] mS mem) : con 0 bX5_saidAt d [(2, 52), (0, x1)] mem P := mmC_of [(2, 52), (0, x1), (9, 0), (9, 0)] ok_X5_saidAt.2.2.2.2 rfl (Nat.le_of_ble_eq_true rfl) h
theorem bk_X5_saidAt_52_0 {d : Nat} {P : Int → mmM → Prop} {mem : mmM} {x1 : Int}
  (q1 : (0 ≤ x1 ∧ x1 < (mem 23 1)) → (and32 (shr32 (mem 52 8) x1) 1) = 0 → (drawS (mem 52 7)) < (forgetsX (mset mem 52 7 (nextX (mem 52 7))) x1 0) → ¬ (mem 38 x1) = (-1) → P (mem 38 x1) (mset (mset (mset (mset mem 52 7 (nextX (mem 52 7))) 52 9 ((mem 52 9) + 1)) 54 x1 ((mem 54 x1) + 1)) 52 11 ((mem 52 11) + 1)))
  (q2 : (0 ≤ x1 ∧ x1 < (mem 23 1)) → (and32 (shr32 (mem 52 8) x1) 1) = 0 → (drawS (mem 52 7)) < (forgetsX (mset mem 52 7 (nextX (mem 52 7))) x1 0) → (mem 38 x1) = (-1) → P (mem 38 x1) (mset (mset (mset (mset mem 52 7 (nextX (mem 52 7))) 52 9 ((mem 52 9) + 1)) 54 x1 ((mem 54 x1) + 1)) 52 11 ((mem 52 11) + 0)))
  (q3 : (0 ≤ x1 ∧ x1 < (mem 23 1)) → (and32 (shr32 (mem 52 8) x1) 1) = 0 → (forgetsX (mset mem 52 7 (nextX (mem 52 7))) x1 0) ≤ (drawS (mem 52 7)) → P x1 (mset mem 52 7 (nextX (mem 52 7))))
  (q4 : (0 ≤ x1 ∧ x1 < (mem 23 1)) → ¬ (and32 (shr32 (mem 52 8) x1) 1) = 0 → (drawS (mem 52 7)) < (forgetsX (mset mem 52 7 (nextX (mem 52 7))) x1 1) → (takeX (mset (mset (mset (mset mem 52 7 (nextX (mem 52 7))) 52 9 ((mem 52 9) + 1)) 54 x1 ((mem 54 x1) + 1)) 52 7 (nextX ((mset (mset (mset mem 52 7 (nextX (mem 52 7))) 52 9 ((mem 52 9) + 1)) 54 x1 ((mem 54 x1) + 1)) 52 7))) x1) ≤ (drawS ((mset (mset (mset mem 52 7 (nextX (mem 52 7))) 52 9 ((mem 52 9) + 1)) 54 x1 ((mem 54 x1) + 1)) 52 7)) → ¬ (mem 38 x1) = (-1) → P (mem 38 x1) (mset (mset (mset (mset (mset mem 52 7 (nextX (mem 52 7))) 52 9 ((mem 52 9) + 1)) 54 x1 ((mem 54 x1) + 1)) 52 7 (nextX ((mset (mset (mset mem 52 7 (nextX (mem 52 7))) 52 9 ((mem 52 9) + 1)) 54 x1 ((mem 54 x1) + 1)) 52 7))) 52 11 ((mem 52 11) + 1)))
  (q5 : (0 ≤ x1 ∧ x1 < (mem 23 1)) → ¬ (and32 (shr32 (mem 52 8) x1) 1) = 0 → (drawS (mem 52 7)) < (forgetsX (mset mem 52 7 (nextX (mem 52 7))) x1 1) → (takeX (mset (mset (mset (mset mem 52 7 (nextX (mem 52 7))) 52 9 ((mem 52 9) + 1)) 54 x1 ((mem 54 x1) + 1)) 52 7 (nextX ((mset (mset (mset mem 52 7 (nextX (mem 52 7))) 52 9 ((mem 52 9) + 1)) 54 x1 ((mem 54 x1) + 1)) 52 7))) x1) ≤ (drawS ((mset (mset (mset mem 52 7 (nextX (mem 52 7))) 52 9 ((mem 52 9) + 1)) 54 x1 ((mem 54 x1) + 1)) 52 7)) → (mem 38 x1) = (-1) → P (mem 38 x1) (mset (mset (mset (mset (mset mem 52 7 (nextX (mem 52 7))) 52 9 ((mem 52 9) + 1)) 54 x1 ((mem 54 x1) + 1)) 52 7 (nextX ((mset (mset (mset mem 52 7 (nextX (mem 52 7))) 52 9 ((mem 52 9) + 1)) 54 x1 ((mem 54 x1) + 1)) 52 7))) 52 11 ((mem 52 11) + 0)))
  (q6 : (0 ≤ x1 ∧ x1 < (mem 23 1)) → ¬ (and32 (shr32 (mem 52 8) x1) 1) = 0 → (drawS (mem 52 7)) < (forgetsX (mset mem 52 7 (nextX (mem 52 7))) x1 1) → (drawS ((mset (mset (mset mem 52 7 (nextX (mem 52 7))) 52 9 ((mem 52 9) + 1)) 54 x1 ((mem 54 x1) + 1)) 52 7)) < (takeX (mset (mset (mset (mset mem 52 7 (nextX (mem 52 7))) 52 9 ((mem 52 9) + 1)) 54 x1 ((mem 54 x1) + 1)) 52 7 (nextX ((mset (mset (mset mem 52 7 (nextX (mem 52 7))) 52 9 ((mem 52 9) + 1)) 54 x1 ((mem 54 x1) + 1)) 52 7))) x1) → P x1 (mset (mset (mset (mset (mset mem 52 7 (nextX (mem 52 7))) 52 9 ((mem 52 9) + 1)) 54 x1 ((mem 54 x1) + 1)) 52 7 (nextX ((mset (mset (mset mem 52 7 (nextX (mem 52 7))) 52 9 ((mem 52 9) + 1)) 54 x1 ((mem 54 x1) + 1)) 52 7))) 52 10 ((mem 52 10) + 1)))
  (q7 : (0 ≤ x1 ∧ x1 < (mem 23 1)) → ¬ (and32 (shr32 (mem 52 8) x1) 1) = 0 → (forgetsX (mset mem 52 7 (nextX (mem 52 7))) x1 1) ≤ (drawS (mem 52 7)) → P x1 (mset mem 52 7 (nextX (mem 52 7))))
  (q8 : ¬ (0 ≤ x1 ∧ x1 < (mem 23 1)) → P (-1) mem)
  (hd1 : 1 ≤ d := by omega)
  (hd2 : 2 ≤ d := by omega)
  (hd3 : 3 ≤ d := by omega)
  (s1 : R32 x1 := by intros; first | omega | assumption | solve_by_elim)
  (s2 : (0 ≤ x1 ∧ x1 < (mem 23 1)) → (and32 (shr32 (mem 52 8) x1) 1) = 0 → 0 ≤ ((mset mem 52 7 (nextX (mem 52 7))) 23 1) ∧ ((mset mem 52 7 (nextX (mem 52 7))) 23 1) ≤ 24 := by intros; first | omega | assumption | solve_by_elim)
  (s3 : (0 ≤ x1 ∧ x1 < (mem 23 1)) → (and32 (shr32 (mem 52 8) x1) 1) = 0 → R32 (forgetsX (mset mem 52 7 (nextX (mem 52 7))) x1 0) := by intros; first | omega | assumption | solve_by_elim)
  (s4 : (0 ≤ x1 ∧ x1 < (mem 23 1)) → (and32 (shr32 (mem 52 8) x1) 1) = 0 → (drawS (mem 52 7)) < (forgetsX (mset mem 52 7 (nextX (mem 52 7))) x1 0) → R32 ((mem 52 9) + 1) := by intros; first | omega | assumption | solve_by_elim)
  (s5 : (0 ≤ x1 ∧ x1 < (mem 23 1)) → (and32 (shr32 (mem 52 8) x1) 1) = 0 → (drawS (mem 52 7)) < (forgetsX (mset mem 52 7 (nextX (mem 52 7))) x1 0) → 0 ≤ x1 ∧ x1 < 24 := by intros; first | omega | assumption | solve_by_elim)
  (s6 : (0 ≤ x1 ∧ x1 < (mem 23 1)) → (and32 (shr32 (mem 52 8) x1) 1) = 0 → (drawS (mem 52 7)) < (forgetsX (mset mem 52 7 (nextX (mem 52 7))) x1 0) → R32 ((mem 54 x1) + 1) := by intros; first | omega | assumption | solve_by_elim)
  (s7 : (0 ≤ x1 ∧ x1 < (mem 23 1)) → (and32 (shr32 (mem 52 8) x1) 1) = 0 → (drawS (mem 52 7)) < (forgetsX (mset mem 52 7 (nextX (mem 52 7))) x1 0) → ¬ (mem 38 x1) = (-1) → R32 ((mem 52 11) + 1) := by intros; first | omega | assumption | solve_by_elim)
  (s8 : (0 ≤ x1 ∧ x1 < (mem 23 1)) → (and32 (shr32 (mem 52 8) x1) 1) = 0 → (drawS (mem 52 7)) < (forgetsX (mset mem 52 7 (nextX (mem 52 7))) x1 0) → (mem 38 x1) = (-1) → R32 ((mem 52 11) + 0) := by intros; first | omega | assumption | solve_by_elim)
  (s9 : (0 ≤ x1 ∧ x1 < (mem 23 1)) → ¬ (and32 (shr32 (mem 52 8) x1) 1) = 0 → 0 ≤ ((mset mem 52 7 (nextX (mem 52 7))) 23 1) ∧ ((mset mem 52 7 (nextX (mem 52 7))) 23 1) ≤ 24 := by intros; first | omega | assumption | solve_by_elim)
  (s10 : (0 ≤ x1 ∧ x1 < (mem 23 1)) → ¬ (and32 (shr32 (mem 52 8) x1) 1) = 0 → R32 (forgetsX (mset mem 52 7 (nextX (mem 52 7))) x1 1) := by intros; first | omega | assumption | solve_by_elim)
  (s11 : (0 ≤ x1 ∧ x1 < (mem 23 1)) → ¬ (and32 (shr32 (mem 52 8) x1) 1) = 0 → (drawS (mem 52 7)) < (forgetsX (mset mem 52 7 (nextX (mem 52 7))) x1 1) → R32 ((mem 52 9) + 1) := by intros; first | omega | assumption | solve_by_elim)
  (s12 : (0 ≤ x1 ∧ x1 < (mem 23 1)) → ¬ (and32 (shr32 (mem 52 8) x1) 1) = 0 → (drawS (mem 52 7)) < (forgetsX (mset mem 52 7 (nextX (mem 52 7))) x1 1) → 0 ≤ x1 ∧ x1 < 24 := by intros; first | omega | assumption | solve_by_elim)
  (s13 : (0 ≤ x1 ∧ x1 < (mem 23 1)) → ¬ (and32 (shr32 (mem 52 8) x1) 1) = 0 → (drawS (mem 52 7)) < (forgetsX (mset mem 52 7 (nextX (mem 52 7))) x1 1) → R32 ((mem 54 x1) + 1) := by intros; first | omega | assumption | solve_by_elim)
  (s14 : (0 ≤ x1 ∧ x1 < (mem 23 1)) → ¬ (and32 (shr32 (mem 52 8) x1) 1) = 0 → (drawS (mem 52 7)) < (forgetsX (mset mem 52 7 (nextX (mem 52 7))) x1 1) → takeP (mset (mset (mset (mset mem 52 7 (nextX (mem 52 7))) 52 9 ((mem 52 9) + 1)) 54 x1 ((mem 54 x1) + 1)) 52 7 (nextX ((mset (mset (mset mem 52 7 (nextX (mem 52 7))) 52 9 ((mem 52 9) + 1)) 54 x1 ((mem 54 x1) + 1)) 52 7))) := by intros; first | omega | assumption | solve_by_elim)
  (s15 : (0 ≤ x1 ∧ x1 < (mem 23 1)) → ¬ (and32 (shr32 (mem 52 8) x1) 1) = 0 → (drawS (mem 52 7)) < (forgetsX (mset mem 52 7 (nextX (mem 52 7))) x1 1) → R32 (takeX (mset (mset (mset (mset mem 52 7 (nextX (mem 52 7))) 52 9 ((mem 52 9) + 1)) 54 x1 ((mem 54 x1) + 1)) 52 7 (nextX ((mset (mset (mset mem 52 7 (nextX (mem 52 7))) 52 9 ((mem 52 9) + 1)) 54 x1 ((mem 54 x1) + 1)) 52 7))) x1) := by intros; first | omega | assumption | solve_by_elim)
  (s16 : (0 ≤ x1 ∧ x1 < (mem 23 1)) → ¬ (and32 (shr32 (mem 52 8) x1) 1) = 0 → (drawS (mem 52 7)) < (forgetsX (mset mem 52 7 (nextX (mem 52 7))) x1 1) → (takeX (mset (mset (mset (mset mem 52 7 (nextX (mem 52 7))) 52 9 ((mem 52 9) + 1)) 54 x1 ((mem 54 x1) + 1)) 52 7 (nextX ((mset (mset (mset mem 52 7 (nextX (mem 52 7))) 52 9 ((mem 52 9) + 1)) 54 x1 ((mem 54 x1) + 1)) 52 7))) x1) ≤ (drawS ((mset (mset (mset mem 52 7 (nextX (mem 52 7))) 52 9 ((mem 52 9) + 1)) 54 x1 ((mem 54 x1) + 1)) 52 7)) → ¬ (mem 38 x1) = (-1) → R32 ((mem 52 11) + 1) := by intros; first | omega | assumption | solve_by_elim)
  (s17 : (0 ≤ x1 ∧ x1 < (mem 23 1)) → ¬ (and32 (shr32 (mem 52 8) x1) 1) = 0 → (drawS (mem 52 7)) < (forgetsX (mset mem 52 7 (nextX (mem 52 7))) x1 1) → (takeX (mset (mset (mset (mset mem 52 7 (nextX (mem 52 7))) 52 9 ((mem 52 9) + 1)) 54 x1 ((mem 54 x1) + 1)) 52 7 (nextX ((mset (mset (mset mem 52 7 (nextX (mem 52 7))) 52 9 ((mem 52 9) + 1)) 54 x1 ((mem 54 x1) + 1)) 52 7))) x1) ≤ (drawS ((mset (mset (mset mem 52 7 (nextX (mem 52 7))) 52 9 ((mem 52 9) + 1)) 54 x1 ((mem 54 x1) + 1)) 52 7)) → (mem 38 x1) = (-1) → R32 ((mem 52 11) + 0) := by intros; first | omega | assumption | solve_by_elim)
  (s18 : (0 ≤ x1 ∧ x1 < (mem 23 1)) → ¬ (and32 (shr32 (mem 52 8) x1) 1) = 0 → (drawS (mem 52 7)) < (forgetsX (mset mem 52 7 (nextX (mem 52 7))) x1 1) → (drawS ((mset (mset (mset mem 52 7 (nextX (mem 52 7))) 52 9 ((mem 52 9) + 1)) 54 x1 ((mem 54 x1) + 1)) 52 7)) < (takeX (mset (mset (mset (mset mem 52 7 (nextX (mem 52 7))) 52 9 ((mem 52 9) + 1)) 54 x1 ((mem 54 x1) + 1)) 52 7 (nextX ((mset (mset (mset mem 52 7 (nextX (mem 52 7))) 52 9 ((mem 52 9) + 1)) 54 x1 ((mem 54 x1) + 1)) 52 7))) x1) → R32 ((mem 52 10) + 1) := by intros; first | omega | assumption | solve_by_elim)
  : mmT bX5_saidAt d 0 0 (mQ 0 P) 0 [(2, 52), (0, x1), (9, 0), (9, 0)] [] mS mem := by
  refine st_aload_n (i := 0) rfl (t := 0) rfl (by decide) dX5_saidAt_0 ?_
  refine so_getA 52 0 fr_X5_48_5 rfl sh_52 fx_52_0 dX5_saidAt_1 ?_
  refine st_iload_n (i := 1) rfl rfl dX5_saidAt_4 ?_
  refine st_callV (kc2 := 0) (ks2 := 0) (av := [(0, x1)]) 23 8 mr_X5_52 ok_X8_has (c_X8_has mem x1 (s1)) rfl sh_23 ⟨_, rfl, rfl, by decide⟩ rfl rfl hd2 (Nat.le_refl 0) (Nat.le_refl 0) (Nat.le_of_ble_eq_true rfl) dX5_saidAt_5 (mQ.elim fun v1 m1 hp => ?_)
  obtain ⟨hpv, hpm⟩ := hp
  subst hpv
  have hpm := hpm.symm
  subst hpm
  refine so_ifneB 13 (by decide) dX5_saidAt_8 (fun h1 => ?_) (fun h1 => ?_)
  · have h1 : (0 ≤ x1 ∧ x1 < (mem 23 1)) := h1
    refine st_aload_n (i := 0) rfl (t := 0) rfl (by decide) dX5_saidAt_13 ?_
    refine so_getI (v := (mem 52 8)) 52 8 fr_X5_19_5 rfl sh_52 rfl dX5_saidAt_14 (fun r1 => ?_)
    refine st_iload_n (i := 1) rfl rfl dX5_saidAt_17 ?_
    refine st_ishr dX5_saidAt_18 ?_
    refine st_iconst dX5_saidAt_19 ?_
    refine st_iand dX5_saidAt_20 ?_
    refine sr_if_eq 28 (and32_rng (shr32 (mem 52 8) x1) 1) (by decide) dX5_saidAt_21 (fun h2 => ?_) (fun h2 => ?_)
    · have h2 : (and32 (shr32 (mem 52 8) x1) 1) = 0 := by omega
      refine st_iconst dX5_saidAt_28 ?_
      refine st_istore_n (i := 2) rfl (by decide) (lc' := [(2, 52), (0, x1), (0, 0), (9, 0)]) rfl dX5_saidAt_29 ?_
      refine st_aload_n (i := 0) rfl (t := 0) rfl (by decide) dX5_saidAt_30 ?_
      refine st_callV (kc2 := 0) (ks2 := 0) (av := []) 52 5 mr_X5_58 ok_X5_draw (c_X5_draw_52 mem ) rfl sh_52 ⟨_, rfl, rfl, by decide⟩ rfl rfl hd1 (Nat.le_refl 0) (Nat.le_refl 0) (Nat.le_of_ble_eq_true rfl) dX5_saidAt_31 (mQ.elim fun v2 m2 hp => ?_)
      obtain ⟨hpv, hpm⟩ := hp
      subst hpv
      have hpm := hpm.symm
      subst hpm
      refine st_aload_n (i := 0) rfl (t := 0) rfl (by decide) dX5_saidAt_34 ?_
      refine so_getA 52 0 fr_X5_48_5 rfl sh_52 fx_52_0 dX5_saidAt_35 ?_
      refine st_iload_n (i := 1) rfl rfl dX5_saidAt_38 ?_
      refine st_iload_n (i := 2) rfl rfl dX5_saidAt_39 ?_
      refine st_callV (kc2 := 0) (ks2 := 0) (av := [(0, x1), (0, 0)]) 23 8 mr_X5_62 ok_X8_forgets (c_X8_forgets (mset mem 52 7 (nextX (mem 52 7))) x1 0 (s1) (⟨by decide, by decide⟩) ((s2 h1 h2))) rfl sh_23 ⟨_, rfl, rfl, by decide⟩ rfl rfl hd3 (Nat.le_refl 0) (Nat.le_refl 0) (Nat.le_of_ble_eq_true rfl) dX5_saidAt_40 (mQ.elim fun v3 m3 hp => ?_)
      obtain ⟨hpv, hpm⟩ := hp
      subst hpv
      have hpm := hpm.symm
      subst hpm
      refine sr_icmp_lt 48 (drawS_rng) (s3 h1 h2) (by decide) dX5_saidAt_43 (fun h3 => ?_) (fun h3 => ?_)
      · have h3 : (drawS (mem 52 7)) < (forgetsX (mset mem 52 7 (nextX (mem 52 7))) x1 0) := by omega
        refine st_aload_n (i := 0) rfl (t := 0) rfl (by decide) dX5_saidAt_48 ?_
        refine st_dup (Nat.ne_of_beq_eq_false rfl) dX5_saidAt_49 ?_
        refine so_getI (v := (mem 52 9)) 52 9 fr_X5_23_5 rfl sh_52 rfl dX5_saidAt_50 (fun r2 => ?_)
        refine st_iconst dX5_saidAt_53 ?_
        refine st_iadd dX5_saidAt_54 ?_
        refine so_putI 52 9 fr_X5_23_5 pf_5_9 fo_52_9 rfl sh_52 (s4 h1 h2 h3) dX5_saidAt_55 ?_
        refine st_aload_n (i := 0) rfl (t := 0) rfl (by decide) dX5_saidAt_58 ?_
        refine so_getA 52 12 fr_X5_9_5 rfl sh_52 fx_52_12 dX5_saidAt_59 ?_
        refine st_iload_n (i := 1) rfl rfl dX5_saidAt_62 ?_
        refine st_dup2 (Nat.ne_of_beq_eq_false rfl) (Nat.ne_of_beq_eq_false rfl) dX5_saidAt_63 ?_
        refine so_iald (v := (mem 54 x1)) 54 rfl sh_54 (by decide) (s5 h1 h2 h3) rfl dX5_saidAt_64 (fun r3 => ?_)
        refine st_iconst dX5_saidAt_65 ?_
        refine st_iadd dX5_saidAt_66 ?_
        refine so_iast 54 fr_54 rfl sh_54 (by decide) (s5 h1 h2 h3) (s6 h1 h2 h3) dX5_saidAt_67 ?_
        refine st_iload_n (i := 2) rfl rfl dX5_saidAt_68 ?_
        refine sr_if_eq 99 ⟨by decide, by decide⟩ (by decide) dX5_saidAt_69 (fun h => ?_) (fun h => ?_)
        rotate_left
        · exact absurd h (by decide)
        refine st_aload_n (i := 0) rfl (t := 0) rfl (by decide) dX5_saidAt_99 ?_
        refine so_getA 52 1 fr_X5_66_5 rfl sh_52 fx_52_1 dX5_saidAt_100 ?_
        refine so_getA 35 3 fr_X5_76_4 rfl sh_35 fx_35_3 dX5_saidAt_103 ?_
        refine st_iload_n (i := 1) rfl rfl dX5_saidAt_106 ?_
        refine so_iald (v := (mem 38 x1)) 38 rfl sh_38 (by decide) (s5 h1 h2 h3) rfl dX5_saidAt_107 (fun r4 => ?_)
        refine st_istore_n (i := 3) rfl (by decide) (lc' := [(2, 52), (0, x1), (0, 0), (0, (mem 38 x1))]) rfl dX5_saidAt_108 ?_
        refine st_aload_n (i := 0) rfl (t := 0) rfl (by decide) dX5_saidAt_109 ?_
        refine st_dup (Nat.ne_of_beq_eq_false rfl) dX5_saidAt_110 ?_
        refine so_getI (v := (mem 52 11)) 52 11 fr_X5_29_5 rfl sh_52 rfl dX5_saidAt_111 (fun r5 => ?_)
        refine st_iload_n (i := 3) rfl rfl dX5_saidAt_114 ?_
        refine st_iconst dX5_saidAt_115 ?_
        refine sr_icmp_ne 123 r4 ⟨by decide, by decide⟩ (by decide) dX5_saidAt_116 (fun h4 => ?_) (fun h4 => ?_)
        · have h4 : ¬ (mem 38 x1) = (-1) := by omega
          refine st_iconst dX5_saidAt_123 ?_
          refine st_iadd dX5_saidAt_124 ?_
          refine so_putI 52 11 fr_X5_29_5 pf_5_11 fo_52_11 rfl sh_52 (s7 h1 h2 h3 h4) dX5_saidAt_125 ?_
          refine st_iload_n (i := 3) rfl rfl dX5_saidAt_128 ?_
          exact st_ireturn rfl dX5_saidAt_129 (mQ.ret (q1 h1 h2 h3 h4))
        · have h4 : (mem 38 x1) = (-1) := by omega
          refine st_iconst dX5_saidAt_119 ?_
          refine st_goto 124 (by decide) dX5_saidAt_120 ?_
          refine st_iadd dX5_saidAt_124 ?_
          refine so_putI 52 11 fr_X5_29_5 pf_5_11 fo_52_11 rfl sh_52 (s8 h1 h2 h3 h4) dX5_saidAt_125 ?_
          refine st_iload_n (i := 3) rfl rfl dX5_saidAt_128 ?_
          exact st_ireturn rfl dX5_saidAt_129 (mQ.ret (q2 h1 h2 h3 h4))
      · have h3 : (forgetsX (mset mem 52 7 (nextX (mem 52 7))) x1 0) ≤ (drawS (mem 52 7)) := by omega
        refine st_iload_n (i := 1) rfl rfl dX5_saidAt_46 ?_
        exact st_ireturn rfl dX5_saidAt_47 (mQ.ret (q3 h1 h2 h3))
    · have h2 : ¬ (and32 (shr32 (mem 52 8) x1) 1) = 0 := by omega
      refine st_iconst dX5_saidAt_24 ?_
      refine st_goto 29 (by decide) dX5_saidAt_25 ?_
      refine st_istore_n (i := 2) rfl (by decide) (lc' := [(2, 52), (0, x1), (0, 1), (9, 0)]) rfl dX5_saidAt_29 ?_
      refine st_aload_n (i := 0) rfl (t := 0) rfl (by decide) dX5_saidAt_30 ?_
      refine st_callV (kc2 := 0) (ks2 := 0) (av := []) 52 5 mr_X5_58 ok_X5_draw (c_X5_draw_52 mem ) rfl sh_52 ⟨_, rfl, rfl, by decide⟩ rfl rfl hd1 (Nat.le_refl 0) (Nat.le_refl 0) (Nat.le_of_ble_eq_true rfl) dX5_saidAt_31 (mQ.elim fun v4 m4 hp => ?_)
      obtain ⟨hpv, hpm⟩ := hp
      subst hpv
      have hpm := hpm.symm
      subst hpm
      refine st_aload_n (i := 0) rfl (t := 0) rfl (by decide) dX5_saidAt_34 ?_
      refine so_getA 52 0 fr_X5_48_5 rfl sh_52 fx_52_0 dX5_saidAt_35 ?_
      refine st_iload_n (i := 1) rfl rfl dX5_saidAt_38 ?_
      refine st_iload_n (i := 2) rfl rfl dX5_saidAt_39 ?_
      refine st_callV (kc2 := 0) (ks2 := 0) (av := [(0, x1), (0, 1)]) 23 8 mr_X5_62 ok_X8_forgets (c_X8_forgets (mset mem 52 7 (nextX (mem 52 7))) x1 1 (s1) (⟨by decide, by decide⟩) ((s9 h1 h2))) rfl sh_23 ⟨_, rfl, rfl, by decide⟩ rfl rfl hd3 (Nat.le_refl 0) (Nat.le_refl 0) (Nat.le_of_ble_eq_true rfl) dX5_saidAt_40 (mQ.elim fun v5 m5 hp => ?_)
      obtain ⟨hpv, hpm⟩ := hp
      subst hpv
      have hpm := hpm.symm
      subst hpm
      refine sr_icmp_lt 48 (drawS_rng) (s10 h1 h2) (by decide) dX5_saidAt_43 (fun h5 => ?_) (fun h5 => ?_)
      · have h5 : (drawS (mem 52 7)) < (forgetsX (mset mem 52 7 (nextX (mem 52 7))) x1 1) := by omega
        refine st_aload_n (i := 0) rfl (t := 0) rfl (by decide) dX5_saidAt_48 ?_
        refine st_dup (Nat.ne_of_beq_eq_false rfl) dX5_saidAt_49 ?_
        refine so_getI (v := (mem 52 9)) 52 9 fr_X5_23_5 rfl sh_52 rfl dX5_saidAt_50 (fun r6 => ?_)
        refine st_iconst dX5_saidAt_53 ?_
        refine st_iadd dX5_saidAt_54 ?_
        refine so_putI 52 9 fr_X5_23_5 pf_5_9 fo_52_9 rfl sh_52 (s11 h1 h2 h5) dX5_saidAt_55 ?_
        refine st_aload_n (i := 0) rfl (t := 0) rfl (by decide) dX5_saidAt_58 ?_
        refine so_getA 52 12 fr_X5_9_5 rfl sh_52 fx_52_12 dX5_saidAt_59 ?_
        refine st_iload_n (i := 1) rfl rfl dX5_saidAt_62 ?_
        refine st_dup2 (Nat.ne_of_beq_eq_false rfl) (Nat.ne_of_beq_eq_false rfl) dX5_saidAt_63 ?_
        refine so_iald (v := (mem 54 x1)) 54 rfl sh_54 (by decide) (s12 h1 h2 h5) rfl dX5_saidAt_64 (fun r7 => ?_)
        refine st_iconst dX5_saidAt_65 ?_
        refine st_iadd dX5_saidAt_66 ?_
        refine so_iast 54 fr_54 rfl sh_54 (by decide) (s12 h1 h2 h5) (s13 h1 h2 h5) dX5_saidAt_67 ?_
        refine st_iload_n (i := 2) rfl rfl dX5_saidAt_68 ?_
        refine sr_if_eq 99 ⟨by decide, by decide⟩ (by decide) dX5_saidAt_69 (fun h => ?_) (fun h => ?_)
        · exact absurd h (by decide)
        refine st_aload_n (i := 0) rfl (t := 0) rfl (by decide) dX5_saidAt_72 ?_
        refine st_callV (kc2 := 0) (ks2 := 0) (av := []) 52 5 mr_X5_58 ok_X5_draw (c_X5_draw_52 (mset (mset (mset mem 52 7 (nextX (mem 52 7))) 52 9 ((mem 52 9) + 1)) 54 x1 ((mem 54 x1) + 1)) ) rfl sh_52 ⟨_, rfl, rfl, by decide⟩ rfl rfl hd1 (Nat.le_refl 0) (Nat.le_refl 0) (Nat.le_of_ble_eq_true rfl) dX5_saidAt_73 (mQ.elim fun v6 m6 hp => ?_)
        obtain ⟨hpv, hpm⟩ := hp
        subst hpv
        have hpm := hpm.symm
        subst hpm
        refine st_aload_n (i := 0) rfl (t := 0) rfl (by decide) dX5_saidAt_76 ?_
        refine so_getA 52 1 fr_X5_66_5 rfl sh_52 fx_52_1 dX5_saidAt_77 ?_
        refine st_iload_n (i := 1) rfl rfl dX5_saidAt_80 ?_
        refine st_callV (kc2 := 0) (ks2 := 0) (av := [(0, x1)]) 35 4 mr_X5_70 ok_X4_takeOf (c_X4_takeOf (mset (mset (mset (mset mem 52 7 (nextX (mem 52 7))) 52 9 ((mem 52 9) + 1)) 54 x1 ((mem 54 x1) + 1)) 52 7 (nextX ((mset (mset (mset mem 52 7 (nextX (mem 52 7))) 52 9 ((mem 52 9) + 1)) 54 x1 ((mem 54 x1) + 1)) 52 7))) x1 (s1) ((s14 h1 h2 h5))) rfl sh_35 ⟨_, rfl, rfl, by decide⟩ rfl rfl hd3 (Nat.le_refl 0) (Nat.le_refl 0) (Nat.le_of_ble_eq_true rfl) dX5_saidAt_81 (mQ.elim fun v7 m7 hp => ?_)
        obtain ⟨hpv, hpm⟩ := hp
        subst hpv
        have hpm := hpm.symm
        subst hpm
        refine sr_icmp_ge 99 (drawS_rng) (s15 h1 h2 h5) (by decide) dX5_saidAt_84 (fun h6 => ?_) (fun h6 => ?_)
        · have h6 : (takeX (mset (mset (mset (mset mem 52 7 (nextX (mem 52 7))) 52 9 ((mem 52 9) + 1)) 54 x1 ((mem 54 x1) + 1)) 52 7 (nextX ((mset (mset (mset mem 52 7 (nextX (mem 52 7))) 52 9 ((mem 52 9) + 1)) 54 x1 ((mem 54 x1) + 1)) 52 7))) x1) ≤ (drawS ((mset (mset (mset mem 52 7 (nextX (mem 52 7))) 52 9 ((mem 52 9) + 1)) 54 x1 ((mem 54 x1) + 1)) 52 7)) := by omega
          refine st_aload_n (i := 0) rfl (t := 0) rfl (by decide) dX5_saidAt_99 ?_
          refine so_getA 52 1 fr_X5_66_5 rfl sh_52 fx_52_1 dX5_saidAt_100 ?_
          refine so_getA 35 3 fr_X5_76_4 rfl sh_35 fx_35_3 dX5_saidAt_103 ?_
          refine st_iload_n (i := 1) rfl rfl dX5_saidAt_106 ?_
          refine so_iald (v := (mem 38 x1)) 38 rfl sh_38 (by decide) (s12 h1 h2 h5) rfl dX5_saidAt_107 (fun r8 => ?_)
          refine st_istore_n (i := 3) rfl (by decide) (lc' := [(2, 52), (0, x1), (0, 1), (0, (mem 38 x1))]) rfl dX5_saidAt_108 ?_
          refine st_aload_n (i := 0) rfl (t := 0) rfl (by decide) dX5_saidAt_109 ?_
          refine st_dup (Nat.ne_of_beq_eq_false rfl) dX5_saidAt_110 ?_
          refine so_getI (v := (mem 52 11)) 52 11 fr_X5_29_5 rfl sh_52 rfl dX5_saidAt_111 (fun r9 => ?_)
          refine st_iload_n (i := 3) rfl rfl dX5_saidAt_114 ?_
          refine st_iconst dX5_saidAt_115 ?_
          refine sr_icmp_ne 123 r8 ⟨by decide, by decide⟩ (by decide) dX5_saidAt_116 (fun h7 => ?_) (fun h7 => ?_)
          · have h7 : ¬ (mem 38 x1) = (-1) := by omega
            refine st_iconst dX5_saidAt_123 ?_
            refine st_iadd dX5_saidAt_124 ?_
            refine so_putI 52 11 fr_X5_29_5 pf_5_11 fo_52_11 rfl sh_52 (s16 h1 h2 h5 h6 h7) dX5_saidAt_125 ?_
            refine st_iload_n (i := 3) rfl rfl dX5_saidAt_128 ?_
            exact st_ireturn rfl dX5_saidAt_129 (mQ.ret (q4 h1 h2 h5 h6 h7))
          · have h7 : (mem 38 x1) = (-1) := by omega
            refine st_iconst dX5_saidAt_119 ?_
            refine st_goto 124 (by decide) dX5_saidAt_120 ?_
            refine st_iadd dX5_saidAt_124 ?_
            refine so_putI 52 11 fr_X5_29_5 pf_5_11 fo_52_11 rfl sh_52 (s17 h1 h2 h5 h6 h7) dX5_saidAt_125 ?_
            refine st_iload_n (i := 3) rfl rfl dX5_saidAt_128 ?_
            exact st_ireturn rfl dX5_saidAt_129 (mQ.ret (q5 h1 h2 h5 h6 h7))
        · have h6 : (drawS ((mset (mset (mset mem 52 7 (nextX (mem 52 7))) 52 9 ((mem 52 9) + 1)) 54 x1 ((mem 54 x1) + 1)) 52 7)) < (takeX (mset (mset (mset (mset mem 52 7 (nextX (mem 52 7))) 52 9 ((mem 52 9) + 1)) 54 x1 ((mem 54 x1) + 1)) 52 7 (nextX ((mset (mset (mset mem 52 7 (nextX (mem 52 7))) 52 9 ((mem 52 9) + 1)) 54 x1 ((mem 54 x1) + 1)) 52 7))) x1) := by omega
          refine st_aload_n (i := 0) rfl (t := 0) rfl (by decide) dX5_saidAt_87 ?_
          refine st_dup (Nat.ne_of_beq_eq_false rfl) dX5_saidAt_88 ?_
          refine so_getI (v := (mem 52 10)) 52 10 fr_X5_26_5 rfl sh_52 rfl dX5_saidAt_89 (fun r10 => ?_)
          refine st_iconst dX5_saidAt_92 ?_
          refine st_iadd dX5_saidAt_93 ?_
          refine so_putI 52 10 fr_X5_26_5 pf_5_10 fo_52_10 rfl sh_52 (s18 h1 h2 h5 h6) dX5_saidAt_94 ?_
          refine st_iload_n (i := 1) rfl rfl dX5_saidAt_97 ?_
          exact st_ireturn rfl dX5_saidAt_98 (mQ.ret (q6 h1 h2 h5 h6))
      · have h5 : (forgetsX (mset mem 52 7 (nextX (mem 52 7))) x1 1) ≤ (drawS (mem 52 7)) := by omega
        refine st_iload_n (i := 1) rfl rfl dX5_saidAt_46 ?_
        exact st_ireturn rfl dX5_saidAt_47 (mQ.ret (q7 h1 h2 h5))
  · have h1 : ¬ (0 ≤ x1 ∧ x1 < (mem 23 1)) := h1
    refine st_iconst dX5_saidAt_11 ?_
    exact st_ireturn rfl dX5_saidAt_12 (mQ.ret (q8 h1))
theorem c_X5_saidAt_52 (mem : mmM) (x1 : Int) (hT : takeP mem) (h1 : 0 ≤ x1 ∧ x1 < mem 23 1) (hf : ∀ b, b = 0 ∨ b = 1 → 0 ≤ forgetsX mem x1 b ∧ forgetsX mem x1 b ≤ 100) (ht : 0 ≤ takeX mem x1 ∧ takeX mem x1 ≤ 100) (h9 : 0 ≤ mem 52 9 ∧ mem 52 9 ≤ 200) (h10 : 0 ≤ mem 52 10 ∧ mem 52 10 ≤ 200) (h11 : 0 ≤ mem 52 11 ∧ mem 52 11 ≤ 200) (hat : 0 ≤ mem 54 x1 ∧ mem 54 x1 ≤ 200) : con 0 bX5_saidAt 3 [(2, 52), (0, x1)] mem (saidP_52 mem x1) := by
  have hn := hT.1
  have f0 := hf 0 (Or.inl rfl)
  have f1 := hf 1 (Or.inr rfl)
  have b01 := and1_01 (shr32 (mem 52 8) x1)
  have e23 : ∀ k v, mset mem 52 k v 23 = mem 23 := fun k v => mset_ne (by decide)
  have x2 : (mset (mset (mset mem 52 7 (nextX (mem 52 7))) 52 9 (mem 52 9 + 1)) 54 x1 (mem 54 x1 + 1)) 52 7 = nextX (mem 52 7) := by
    rw [mset_ne (by decide), mset_at, if_neg (by decide), mset_same]
  have rows : ∀ (m' : mmM) (a : Nat) (k v : Int), mset m' a k v a = fun j => if j = k then v else m' a j := fun m' a k v => funext (fun j => mset_at _ _ _ _ _)
  refine cn_X5_saidAt_52 (bk_X5_saidAt_52_0 (fun g g2 g3 g4 => ?_) (fun g g2 g3 g4 => ?_) (fun g g2 g3 => ?_) (fun g g2 g3 g4 g5 => ?_) (fun g g2 g3 g4 g5 => ?_) (fun g g2 g3 g4 => ?_) (fun g g2 g3 => ?_) (fun g => absurd h1 g)
    (s2 := fun _ _ => by rw [e23]; exact hn) (s3 := fun _ _ => by rw [forgetsX_52]; omega) (s9 := fun _ _ => by rw [e23]; exact hn) (s10 := fun _ _ => by rw [forgetsX_52]; omega) (s14 := fun _ _ _ => takeP_52 (takeP_54 (takeP_52 (takeP_52 hT)))) (s15 := fun _ _ _ => by rw [takeX_52, takeX_54, takeX_52, takeX_52]; omega))
  · rw [forgetsX_52] at g3
    have hl : lostX_52 mem x1 := by unfold lostX_52; rw [g2]; exact g3
    have hs : ¬ savedX_52 mem x1 := fun z => by have := z.1; omega
    refine ⟨Or.inr (Or.inr ⟨hl, hs, rfl, ?_, ?_, ?_, ?_, ?_⟩), fun a a1 a2 => ?_, fun j j1 j2 j3 j4 => ?_⟩
    · rw [if_neg (by omega), mset_at, if_neg (by decide), mset_ne (by decide), mset_at, if_neg (by decide), mset_same]
    · rw [mset_at, if_neg (by decide), mset_ne (by decide), mset_same]
    · rw [mset_at, if_neg (by decide), mset_ne (by decide), mset_at, if_neg (by decide), mset_at, if_neg (by decide)]
    · rw [mset_same, if_neg g4]
    · rw [mset_ne (by decide), rows, mset_ne (by decide), mset_ne (by decide)]
    · rw [mset_ne a1, mset_ne a2, mset_ne a1, mset_ne a1]
    · rw [mset_at, if_neg (by omega), mset_ne (by decide), mset_at, if_neg (by omega), mset_at, if_neg (by omega)]
  · rw [forgetsX_52] at g3
    have hl : lostX_52 mem x1 := by unfold lostX_52; rw [g2]; exact g3
    have hs : ¬ savedX_52 mem x1 := fun z => by have := z.1; omega
    refine ⟨Or.inr (Or.inr ⟨hl, hs, rfl, ?_, ?_, ?_, ?_, ?_⟩), fun a a1 a2 => ?_, fun j j1 j2 j3 j4 => ?_⟩
    · rw [if_neg (by omega), mset_at, if_neg (by decide), mset_ne (by decide), mset_at, if_neg (by decide), mset_same]
    · rw [mset_at, if_neg (by decide), mset_ne (by decide), mset_same]
    · rw [mset_at, if_neg (by decide), mset_ne (by decide), mset_at, if_neg (by decide), mset_at, if_neg (by decide)]
    · rw [mset_same, if_pos g4]
    · rw [mset_ne (by decide), rows, mset_ne (by decide), mset_ne (by decide)]
    · rw [mset_ne a1, mset_ne a2, mset_ne a1, mset_ne a1]
    · rw [mset_at, if_neg (by omega), mset_ne (by decide), mset_at, if_neg (by omega), mset_at, if_neg (by omega)]
  · rw [forgetsX_52] at g3
    have hl : ¬ lostX_52 mem x1 := by unfold lostX_52; rw [g2]; omega
    refine ⟨Or.inl ⟨hl, rfl, ?_, ?_, ?_, ?_, ?_⟩, fun a a1 a2 => ?_, fun j j1 j2 j3 j4 => ?_⟩
    · rw [mset_same]
    · rw [mset_at, if_neg (by decide)]
    · rw [mset_at, if_neg (by decide)]
    · rw [mset_at, if_neg (by decide)]
    · rw [mset_ne (by decide)]
    · rw [mset_ne a1]
    · rw [mset_at, if_neg (by omega)]
  · rw [forgetsX_52] at g3
    rw [x2, takeX_52, takeX_54, takeX_52, takeX_52] at g4
    have gb : and32 (shr32 (mem 52 8) x1) 1 = 1 := by omega
    have hl : lostX_52 mem x1 := by unfold lostX_52; rw [gb]; exact g3
    have hs : ¬ savedX_52 mem x1 := fun z => by have := z.2; omega
    rw [x2]
    refine ⟨Or.inr (Or.inr ⟨hl, hs, rfl, ?_, ?_, ?_, ?_, ?_⟩), fun a a1 a2 => ?_, fun j j1 j2 j3 j4 => ?_⟩
    · rw [if_pos gb, mset_at, if_neg (by decide), mset_same]
    · rw [mset_at, if_neg (by decide), mset_at, if_neg (by decide), mset_ne (by decide), mset_same]
    · rw [mset_at, if_neg (by decide), mset_at, if_neg (by decide), mset_ne (by decide), mset_at, if_neg (by decide), mset_at, if_neg (by decide)]
    · rw [mset_same, if_neg g5]
    · rw [mset_ne (by decide), mset_ne (by decide), rows, mset_ne (by decide), mset_ne (by decide)]
    · rw [mset_ne a1, mset_ne a1, mset_ne a2, mset_ne a1, mset_ne a1]
    · rw [mset_at, if_neg (by omega), mset_at, if_neg (by omega), mset_ne (by decide), mset_at, if_neg (by omega), mset_at, if_neg (by omega)]
  · rw [forgetsX_52] at g3
    rw [x2, takeX_52, takeX_54, takeX_52, takeX_52] at g4
    have gb : and32 (shr32 (mem 52 8) x1) 1 = 1 := by omega
    have hl : lostX_52 mem x1 := by unfold lostX_52; rw [gb]; exact g3
    have hs : ¬ savedX_52 mem x1 := fun z => by have := z.2; omega
    rw [x2]
    refine ⟨Or.inr (Or.inr ⟨hl, hs, rfl, ?_, ?_, ?_, ?_, ?_⟩), fun a a1 a2 => ?_, fun j j1 j2 j3 j4 => ?_⟩
    · rw [if_pos gb, mset_at, if_neg (by decide), mset_same]
    · rw [mset_at, if_neg (by decide), mset_at, if_neg (by decide), mset_ne (by decide), mset_same]
    · rw [mset_at, if_neg (by decide), mset_at, if_neg (by decide), mset_ne (by decide), mset_at, if_neg (by decide), mset_at, if_neg (by decide)]
    · rw [mset_same, if_pos g5]
    · rw [mset_ne (by decide), mset_ne (by decide), rows, mset_ne (by decide), mset_ne (by decide)]
    · rw [mset_ne a1, mset_ne a1, mset_ne a2, mset_ne a1, mset_ne a1]
    · rw [mset_at, if_neg (by omega), mset_at, if_neg (by omega), mset_ne (by decide), mset_at, if_neg (by omega), mset_at, if_neg (by omega)]
  · rw [forgetsX_52] at g3
    rw [x2, takeX_52, takeX_54, takeX_52, takeX_52] at g4
    have gb : and32 (shr32 (mem 52 8) x1) 1 = 1 := by omega
    have hl : lostX_52 mem x1 := by unfold lostX_52; rw [gb]; exact g3
    have hs : savedX_52 mem x1 := ⟨gb, g4⟩
    rw [x2]
    refine ⟨Or.inr (Or.inl ⟨hl, hs, rfl, ?_, ?_, ?_, ?_, ?_⟩), fun a a1 a2 => ?_, fun j j1 j2 j3 j4 => ?_⟩
    · rw [mset_at, if_neg (by decide), mset_same]
    · rw [mset_at, if_neg (by decide), mset_at, if_neg (by decide), mset_ne (by decide), mset_same]
    · rw [mset_same]
    · rw [mset_at, if_neg (by decide), mset_at, if_neg (by decide), mset_ne (by decide), mset_at, if_neg (by decide), mset_at, if_neg (by decide)]
    · rw [mset_ne (by decide), mset_ne (by decide), rows, mset_ne (by decide), mset_ne (by decide)]
    · rw [mset_ne a1, mset_ne a1, mset_ne a2, mset_ne a1, mset_ne a1]
    · rw [mset_at, if_neg (by omega), mset_at, if_neg (by omega), mset_ne (by decide), mset_at, if_neg (by omega), mset_at, if_neg (by omega)]
  · rw [forgetsX_52] at g3
    have gb : and32 (shr32 (mem 52 8) x1) 1 = 1 := by omega
    have hl : ¬ lostX_52 mem x1 := by unfold lostX_52; rw [gb]; omega
    refine ⟨Or.inl ⟨hl, rfl, ?_, ?_, ?_, ?_, ?_⟩, fun a a1 a2 => ?_, fun j j1 j2 j3 j4 => ?_⟩
    · rw [mset_same]
    · rw [mset_at, if_neg (by decide)]
    · rw [mset_at, if_neg (by decide)]
    · rw [mset_at, if_neg (by decide)]
    · rw [mset_ne (by decide)]
    · rw [mset_ne a1]
    · rw [mset_at, if_neg (by omega)]
theorem cn_X10_walk_52 {d : Nat} {P : mmM → Prop} {mem : mmM} (h : mmT bX10_walk d 0 0 (mQv P) 0 [(2, 52), (9, 0), (9, 0), (9, 0)] [] mS mem) : conv bX10_walk d [(2, 52)] mem P := mmC_of [(2, 52), (9, 0), (9, 0), (9, 0)] ok_X10_walk.2.2.2.2 rfl (Nat.le_of_ble_eq_true rfl) h
theorem bk_X10_walk_52_0 {d : Nat} {P : mmM → Prop} {mem : mmM}
  (k1 : mmT bX10_walk d 0 0 (mQv P) 24 [(2, 52), (0, 0), (0, 0), (9, 0)] [] mS (mset (mset (mset (mset mem 52 3 0) 52 4 0) 52 5 2) 52 6 (-1)))
  : mmT bX10_walk d 0 0 (mQv P) 0 [(2, 52), (9, 0), (9, 0), (9, 0)] [] mS mem := by
  refine st_aload_n (i := 0) rfl (t := 0) rfl (by decide) dX10_walk_0 ?_
  refine st_iconst dX10_walk_1 ?_
  refine so_putI 52 3 fr_X10_23_5 pf_5_3 fo_52_3 rfl sh_52 ⟨by decide, by decide⟩ dX10_walk_2 ?_
  refine st_aload_n (i := 0) rfl (t := 0) rfl (by decide) dX10_walk_5 ?_
  refine st_iconst dX10_walk_6 ?_
  refine so_putI 52 4 fr_X10_27_5 pf_5_4 fo_52_4 rfl sh_52 ⟨by decide, by decide⟩ dX10_walk_7 ?_
  refine st_aload_n (i := 0) rfl (t := 0) rfl (by decide) dX10_walk_10 ?_
  refine st_iconst dX10_walk_11 ?_
  refine so_putI 52 5 fr_X10_30_5 pf_5_5 fo_52_5 rfl sh_52 ⟨by decide, by decide⟩ dX10_walk_12 ?_
  refine st_aload_n (i := 0) rfl (t := 0) rfl (by decide) dX10_walk_15 ?_
  refine st_iconst dX10_walk_16 ?_
  refine so_putI 52 6 fr_X10_33_5 pf_5_6 fo_52_6 rfl sh_52 ⟨by decide, by decide⟩ dX10_walk_17 ?_
  refine st_iconst dX10_walk_20 ?_
  refine st_istore_n (i := 1) rfl (by decide) (lc' := [(2, 52), (0, 0), (9, 0), (9, 0)]) rfl dX10_walk_21 ?_
  refine st_iconst dX10_walk_22 ?_
  refine st_istore_n (i := 2) rfl (by decide) (lc' := [(2, 52), (0, 0), (0, 0), (9, 0)]) rfl dX10_walk_23 ?_
  exact st_locals [(2, 52), (0, 0), (0, 0), (9, 0)] ⟨Or.inr rfl, Or.inr rfl, Or.inr rfl, Or.inl rfl, trivial⟩ k1
theorem bk_X10_walk_52_24 {d : Nat} {d1 : Nat} {P1 : Int → mmM → Prop} {P : mmM → Prop} {mem : mmM} {x1 x2 : Int}
  (c1 : x2 < 200 → (0 ≤ x1 ∧ x1 < (mem 23 1)) → con 0 bX5_saidAt d1 [(2, 52), (0, x1)] mem P1)
  (k1 : x2 < 200 → (0 ≤ x1 ∧ x1 < (mem 23 1)) → ∀ (v4 : Int), ∀ (m4 : mmM), P1 v4 m4 → (0 ≤ v4 ∧ v4 < (m4 23 1)) → mmT bX10_walk d 0 0 (mQv P) 24 [(2, 52), (0, (v4 + 1)), (0, (x2 + 1)), (9, 0)] [] mS (mset (mset (mset m4 53 x2 v4) 52 3 ((m4 52 3) + 1)) 52 4 ((m4 52 4) + (m4 26 v4))))
  (q1 : 200 ≤ x2 → (0 ≤ x1 ∧ x1 < (mem 23 1)) → P mem)
  (q2 : 200 ≤ x2 → ¬ (0 ≤ x1 ∧ x1 < (mem 23 1)) → P (mset mem 52 5 0))
  (q3 : x2 < 200 → ¬ (0 ≤ x1 ∧ x1 < (mem 23 1)) → (0 ≤ x1 ∧ x1 < (mem 23 1)) → P mem)
  (q4 : x2 < 200 → ¬ (0 ≤ x1 ∧ x1 < (mem 23 1)) → ¬ (0 ≤ x1 ∧ x1 < (mem 23 1)) → P (mset mem 52 5 0))
  (q5 : x2 < 200 → (0 ≤ x1 ∧ x1 < (mem 23 1)) → ∀ (v4 : Int), ∀ (m4 : mmM), P1 v4 m4 → ¬ (0 ≤ v4 ∧ v4 < (m4 23 1)) → P (mset (mset m4 52 5 1) 52 6 x1))
  (hd_d1 : d1 + 1 ≤ d := by omega)
  (hd2 : 2 ≤ d := by omega)
  (s1 : R32 x2 := by intros; first | omega | assumption | solve_by_elim)
  (s2 : 200 ≤ x2 → R32 x1 := by intros; first | omega | assumption | solve_by_elim)
  (s3 : x2 < 200 → R32 x1 := by intros; first | omega | assumption | solve_by_elim)
  (s4 : x2 < 200 → (0 ≤ x1 ∧ x1 < (mem 23 1)) → ∀ (v4 : Int), ∀ (m4 : mmM), P1 v4 m4 → R32 v4 := by intros; first | omega | assumption | solve_by_elim)
  (s5 : x2 < 200 → (0 ≤ x1 ∧ x1 < (mem 23 1)) → ∀ (v4 : Int), ∀ (m4 : mmM), P1 v4 m4 → (0 ≤ v4 ∧ v4 < (m4 23 1)) → 0 ≤ x2 ∧ x2 < 200 := by intros; first | omega | assumption | solve_by_elim)
  (s6 : x2 < 200 → (0 ≤ x1 ∧ x1 < (mem 23 1)) → ∀ (v4 : Int), ∀ (m4 : mmM), P1 v4 m4 → (0 ≤ v4 ∧ v4 < (m4 23 1)) → R32 ((m4 52 3) + 1) := by intros; first | omega | assumption | solve_by_elim)
  (s7 : x2 < 200 → (0 ≤ x1 ∧ x1 < (mem 23 1)) → ∀ (v4 : Int), ∀ (m4 : mmM), P1 v4 m4 → (0 ≤ v4 ∧ v4 < (m4 23 1)) → 0 ≤ v4 ∧ v4 < 24 := by intros; first | omega | assumption | solve_by_elim)
  (s8 : x2 < 200 → (0 ≤ x1 ∧ x1 < (mem 23 1)) → ∀ (v4 : Int), ∀ (m4 : mmM), P1 v4 m4 → (0 ≤ v4 ∧ v4 < (m4 23 1)) → R32 ((m4 52 4) + (m4 26 v4)) := by intros; first | omega | assumption | solve_by_elim)
  : mmT bX10_walk d 0 0 (mQv P) 24 [(2, 52), (0, x1), (0, x2), (9, 0)] [] mS mem := by
  refine st_iload_n (i := 2) rfl rfl dX10_walk_24 ?_
  refine st_sipush rfl dX10_walk_25 ?_
  refine sr_icmp_ge 115 s1 ⟨by decide, by decide⟩ (by decide) dX10_walk_28 (fun h1 => ?_) (fun h1 => ?_)
  · have h1 : 200 ≤ x2 := by omega
    refine st_aload_n (i := 0) rfl (t := 0) rfl (by decide) dX10_walk_115 ?_
    refine so_getA 52 0 fr_X10_15_5 rfl sh_52 fx_52_0 dX10_walk_116 ?_
    refine st_iload_n (i := 1) rfl rfl dX10_walk_119 ?_
    refine st_callV (kc2 := 0) (ks2 := 0) (av := [(0, x1)]) 23 8 mr_X10_36 ok_X8_has (c_X8_has mem x1 ((s2 h1))) rfl sh_23 ⟨_, rfl, rfl, by decide⟩ rfl rfl hd2 (Nat.le_refl 0) (Nat.le_refl 0) (Nat.le_of_ble_eq_true rfl) dX10_walk_120 (mQ.elim fun v1 m1 hp => ?_)
    obtain ⟨hpv, hpm⟩ := hp
    subst hpv
    have hpm := hpm.symm
    subst hpm
    refine so_ifneB 131 (by decide) dX10_walk_123 (fun h2 => ?_) (fun h2 => ?_)
    · have h2 : (0 ≤ x1 ∧ x1 < (mem 23 1)) := h2
      exact st_return rfl dX10_walk_131 (mQv.ret (q1 h1 h2))
    · have h2 : ¬ (0 ≤ x1 ∧ x1 < (mem 23 1)) := h2
      refine st_aload_n (i := 0) rfl (t := 0) rfl (by decide) dX10_walk_126 ?_
      refine st_iconst dX10_walk_127 ?_
      refine so_putI 52 5 fr_X10_30_5 pf_5_5 fo_52_5 rfl sh_52 ⟨by decide, by decide⟩ dX10_walk_128 ?_
      exact st_return rfl dX10_walk_131 (mQv.ret (q2 h1 h2))
  · have h1 : x2 < 200 := by omega
    refine st_aload_n (i := 0) rfl (t := 0) rfl (by decide) dX10_walk_31 ?_
    refine so_getA 52 0 fr_X10_15_5 rfl sh_52 fx_52_0 dX10_walk_32 ?_
    refine st_iload_n (i := 1) rfl rfl dX10_walk_35 ?_
    refine st_callV (kc2 := 0) (ks2 := 0) (av := [(0, x1)]) 23 8 mr_X10_36 ok_X8_has (c_X8_has mem x1 ((s3 h1))) rfl sh_23 ⟨_, rfl, rfl, by decide⟩ rfl rfl hd2 (Nat.le_refl 0) (Nat.le_refl 0) (Nat.le_of_ble_eq_true rfl) dX10_walk_36 (mQ.elim fun v2 m2 hp => ?_)
    obtain ⟨hpv, hpm⟩ := hp
    subst hpv
    have hpm := hpm.symm
    subst hpm
    refine so_ifeqB 115 (by decide) dX10_walk_39 (fun h3 => ?_) (fun h3 => ?_)
    · have h3 : ¬ (0 ≤ x1 ∧ x1 < (mem 23 1)) := h3
      refine st_aload_n (i := 0) rfl (t := 0) rfl (by decide) dX10_walk_115 ?_
      refine so_getA 52 0 fr_X10_15_5 rfl sh_52 fx_52_0 dX10_walk_116 ?_
      refine st_iload_n (i := 1) rfl rfl dX10_walk_119 ?_
      refine st_callV (kc2 := 0) (ks2 := 0) (av := [(0, x1)]) 23 8 mr_X10_36 ok_X8_has (c_X8_has mem x1 ((s3 h1))) rfl sh_23 ⟨_, rfl, rfl, by decide⟩ rfl rfl hd2 (Nat.le_refl 0) (Nat.le_refl 0) (Nat.le_of_ble_eq_true rfl) dX10_walk_120 (mQ.elim fun v3 m3 hp => ?_)
      obtain ⟨hpv, hpm⟩ := hp
      subst hpv
      have hpm := hpm.symm
      subst hpm
      refine so_ifneB 131 (by decide) dX10_walk_123 (fun h4 => ?_) (fun h4 => ?_)
      · have h4 : (0 ≤ x1 ∧ x1 < (mem 23 1)) := h4
        exact st_return rfl dX10_walk_131 (mQv.ret (q3 h1 h3 h4))
      · have h4 : ¬ (0 ≤ x1 ∧ x1 < (mem 23 1)) := h4
        refine st_aload_n (i := 0) rfl (t := 0) rfl (by decide) dX10_walk_126 ?_
        refine st_iconst dX10_walk_127 ?_
        refine so_putI 52 5 fr_X10_30_5 pf_5_5 fo_52_5 rfl sh_52 ⟨by decide, by decide⟩ dX10_walk_128 ?_
        exact st_return rfl dX10_walk_131 (mQv.ret (q4 h1 h3 h4))
    · have h3 : (0 ≤ x1 ∧ x1 < (mem 23 1)) := h3
      refine st_aload_n (i := 0) rfl (t := 0) rfl (by decide) dX10_walk_42 ?_
      refine st_iload_n (i := 1) rfl rfl dX10_walk_43 ?_
      refine st_callU _ _ _ (kc2 := 0) (ks2 := 0) (av := [(0, x1)]) 52 5 mr_X10_42_5 ok_X5_saidAt (c1 h1 h3) rfl sh_52 ⟨_, rfl, rfl, by decide⟩ rfl rfl hd_d1 (Nat.le_refl 0) (Nat.le_refl 0) (Nat.le_of_ble_eq_true rfl) dX10_walk_44 (mQ.elim fun v4 m4 p1 => ?_)
      refine st_istore_n (i := 3) rfl (by decide) (lc' := [(2, 52), (0, x1), (0, x2), (0, v4)]) rfl dX10_walk_47 ?_
      refine st_aload_n (i := 0) rfl (t := 0) rfl (by decide) dX10_walk_48 ?_
      refine so_getA 52 0 fr_X10_15_5 rfl sh_52 fx_52_0 dX10_walk_49 ?_
      refine st_iload_n (i := 3) rfl rfl dX10_walk_52 ?_
      refine st_callV (kc2 := 0) (ks2 := 0) (av := [(0, v4)]) 23 8 mr_X10_36 ok_X8_has (c_X8_has m4 v4 ((s4 h1 h3 v4 m4 p1))) rfl sh_23 ⟨_, rfl, rfl, by decide⟩ rfl rfl hd2 (Nat.le_refl 0) (Nat.le_refl 0) (Nat.le_of_ble_eq_true rfl) dX10_walk_53 (mQ.elim fun v5 m5 hp => ?_)
      obtain ⟨hpv, hpm⟩ := hp
      subst hpv
      have hpm := hpm.symm
      subst hpm
      refine so_ifneB 70 (by decide) dX10_walk_56 (fun h5 => ?_) (fun h5 => ?_)
      · have h5 : (0 ≤ v4 ∧ v4 < (m4 23 1)) := h5
        refine st_aload_n (i := 0) rfl (t := 0) rfl (by decide) dX10_walk_70 ?_
        refine so_getA 52 2 fr_X10_9_5 rfl sh_52 fx_52_2 dX10_walk_71 ?_
        refine st_iload_n (i := 2) rfl rfl dX10_walk_74 ?_
        refine st_iload_n (i := 3) rfl rfl dX10_walk_75 ?_
        refine so_iast 53 fr_53 rfl sh_53 (by decide) (s5 h1 h3 v4 m4 p1 h5) (s4 h1 h3 v4 m4 p1) dX10_walk_76 ?_
        refine st_aload_n (i := 0) rfl (t := 0) rfl (by decide) dX10_walk_77 ?_
        refine st_dup (Nat.ne_of_beq_eq_false rfl) dX10_walk_78 ?_
        refine so_getI (v := (m4 52 3)) 52 3 fr_X10_23_5 rfl sh_52 rfl dX10_walk_79 (fun r1 => ?_)
        refine st_iconst dX10_walk_82 ?_
        refine st_iadd dX10_walk_83 ?_
        refine so_putI 52 3 fr_X10_23_5 pf_5_3 fo_52_3 rfl sh_52 (s6 h1 h3 v4 m4 p1 h5) dX10_walk_84 ?_
        refine st_aload_n (i := 0) rfl (t := 0) rfl (by decide) dX10_walk_87 ?_
        refine st_dup (Nat.ne_of_beq_eq_false rfl) dX10_walk_88 ?_
        refine so_getI (v := (m4 52 4)) 52 4 fr_X10_27_5 rfl sh_52 rfl dX10_walk_89 (fun r2 => ?_)
        refine st_aload_n (i := 0) rfl (t := 0) rfl (by decide) dX10_walk_92 ?_
        refine so_getA 52 0 fr_X10_15_5 rfl sh_52 fx_52_0 dX10_walk_93 ?_
        refine so_getA 23 4 fr_X10_46_8 rfl sh_23 fx_23_4 dX10_walk_96 ?_
        refine st_iload_n (i := 3) rfl rfl dX10_walk_99 ?_
        refine so_iald (v := (m4 26 v4)) 26 rfl sh_26 (by decide) (s7 h1 h3 v4 m4 p1 h5) rfl dX10_walk_100 (fun r3 => ?_)
        refine st_iadd dX10_walk_101 ?_
        refine so_putI 52 4 fr_X10_27_5 pf_5_4 fo_52_4 rfl sh_52 (s8 h1 h3 v4 m4 p1 h5) dX10_walk_102 ?_
        refine st_iload_n (i := 3) rfl rfl dX10_walk_105 ?_
        refine st_iconst dX10_walk_106 ?_
        refine st_iadd dX10_walk_107 ?_
        refine st_istore_n (i := 1) rfl (by decide) (lc' := [(2, 52), (0, (v4 + 1)), (0, x2), (0, v4)]) rfl dX10_walk_108 ?_
        refine st_iinc (y := (x2 + 1)) (by decide) (i := 2) rfl rfl (lc' := [(2, 52), (0, (v4 + 1)), (0, (x2 + 1)), (0, v4)]) rfl dX10_walk_109 ?_
        refine st_goto 24 (by decide) dX10_walk_112 ?_
        exact st_locals [(2, 52), (0, (v4 + 1)), (0, (x2 + 1)), (9, 0)] ⟨Or.inr rfl, Or.inr rfl, Or.inr rfl, Or.inl rfl, trivial⟩ (k1 h1 h3 v4 m4 p1 h5)
      · have h5 : ¬ (0 ≤ v4 ∧ v4 < (m4 23 1)) := h5
        refine st_aload_n (i := 0) rfl (t := 0) rfl (by decide) dX10_walk_59 ?_
        refine st_iconst dX10_walk_60 ?_
        refine so_putI 52 5 fr_X10_30_5 pf_5_5 fo_52_5 rfl sh_52 ⟨by decide, by decide⟩ dX10_walk_61 ?_
        refine st_aload_n (i := 0) rfl (t := 0) rfl (by decide) dX10_walk_64 ?_
        refine st_iload_n (i := 1) rfl rfl dX10_walk_65 ?_
        refine so_putI 52 6 fr_X10_33_5 pf_5_6 fo_52_6 rfl sh_52 (s3 h1) dX10_walk_66 ?_
        exact st_return rfl dX10_walk_69 (mQv.ret (q5 h1 h3 v4 m4 p1 h5))
theorem cn_X5_play_52 {d : Nat} {P : mmM → Prop} {mem : mmM} {x1 x3 : Int} (h : mmT bX5_play d 0 0 (mQv P) 0 [(2, 52), (1, x1), (9, 0), (0, x3)] [] mS mem) : conv bX5_play d [(2, 52), (1, x1), (0, x3)] mem P := mmC_of [(2, 52), (1, x1), (9, 0), (0, x3)] ok_X5_play.2.2.2.2 rfl (Nat.le_of_ble_eq_true rfl) h
theorem bk_X5_play_52_0 {d : Nat} {d1 : Nat} {P1 : mmM → Prop} {P : mmM → Prop} {mem : mmM} {x1 x3 : Int}
  (c1 : conv bX10_walk d1 [(2, 52)] (mrow (mset (mset (mset (mset (mset mem 52 7 x1) 52 8 x3) 52 9 0) 52 10 0) 52 11 0) 54 (fun j => if 0 ≤ j ∧ j < 24 then 0 else (mset (mset (mset (mset (mset mem 52 7 x1) 52 8 x3) 52 9 0) 52 10 0) 52 11 0) 54 j)) P1)
  (q1 : ∀ (m2 : mmM), P1 m2 → P m2)
  (hd_d1 : d1 + 1 ≤ d := by omega)
  (hd2 : 2 ≤ d := by omega)
  (s1 : R64 x1 := by intros; first | omega | assumption | solve_by_elim)
  (s2 : R32 x3 := by intros; first | omega | assumption | solve_by_elim)
  : mmT bX5_play d 0 0 (mQv P) 0 [(2, 52), (1, x1), (9, 0), (0, x3)] [] mS mem := by
  refine st_aload_n (i := 0) rfl (t := 0) rfl (by decide) dX5_play_0 ?_
  refine st_lload_n (i := 1) rfl rfl dX5_play_1 ?_
  refine so_putJ 52 7 fr_X5_15_5 pf_5_7 fo_52_7 rfl sh_52 s1 dX5_play_2 ?_
  refine st_aload_n (i := 0) rfl (t := 0) rfl (by decide) dX5_play_5 ?_
  refine st_iload_n (i := 3) rfl rfl dX5_play_6 ?_
  refine so_putI 52 8 fr_X5_19_5 pf_5_8 fo_52_8 rfl sh_52 s2 dX5_play_7 ?_
  refine st_aload_n (i := 0) rfl (t := 0) rfl (by decide) dX5_play_10 ?_
  refine st_iconst dX5_play_11 ?_
  refine so_putI 52 9 fr_X5_23_5 pf_5_9 fo_52_9 rfl sh_52 ⟨by decide, by decide⟩ dX5_play_12 ?_
  refine st_aload_n (i := 0) rfl (t := 0) rfl (by decide) dX5_play_15 ?_
  refine st_iconst dX5_play_16 ?_
  refine so_putI 52 10 fr_X5_26_5 pf_5_10 fo_52_10 rfl sh_52 ⟨by decide, by decide⟩ dX5_play_17 ?_
  refine st_aload_n (i := 0) rfl (t := 0) rfl (by decide) dX5_play_20 ?_
  refine st_iconst dX5_play_21 ?_
  refine so_putI 52 11 fr_X5_29_5 pf_5_11 fo_52_11 rfl sh_52 ⟨by decide, by decide⟩ dX5_play_22 ?_
  refine st_aload_n (i := 0) rfl (t := 0) rfl (by decide) dX5_play_25 ?_
  refine so_getA 52 12 fr_X5_9_5 rfl sh_52 fx_52_12 dX5_play_26 ?_
  refine st_iconst dX5_play_29 ?_
  refine st_callS (kc2 := 0) (ks2 := 0) (av := [(2, 54), (0, 0)]) mr_X5_32 ok_J7_fill_53178 (c_fill54 (mset (mset (mset (mset (mset mem 52 7 x1) 52 8 x3) 52 9 0) 52 10 0) 52 11 0) 0 (⟨by decide, by decide⟩)) rfl rfl hd2 (Nat.le_refl 0) (Nat.le_refl 0) (Nat.le_of_ble_eq_true rfl) dX5_play_30 (mQv.elim fun m1 hp => ?_)
  have hp := hp.symm
  subst hp
  refine st_aload_n (i := 0) rfl (t := 0) rfl (by decide) dX5_play_33 ?_
  refine st_callU _ _ _ (kc2 := 0) (ks2 := 0) (av := []) 52 5 mr_X5_38_5 ok_X10_walk c1 rfl sh_52 ⟨_, rfl, rfl, by decide⟩ rfl rfl hd_d1 (Nat.le_refl 0) (Nat.le_refl 0) (Nat.le_of_ble_eq_true rfl) dX5_play_34 (mQv.elim fun m2 p1 => ?_)
  exact st_return rfl dX5_play_37 (mQv.ret (q1 m2 p1))
theorem cn_X5_secondsInAll_52 {d : Nat} {P : Int → mmM → Prop} {mem : mmM} (h : mmT bX5_secondsInAll d 0 0 (mQ 0 P) 0 [(2, 52)] [] mS mem) : con 0 bX5_secondsInAll d [(2, 52)] mem P := mmC_of [(2, 52)] ok_X5_secondsInAll.2.2.2.2 rfl (Nat.le_of_ble_eq_true rfl) h
theorem bk_X5_secondsInAll_52_0 {d : Nat} {P : Int → mmM → Prop} {mem : mmM}
  (q1 : P ((mem 52 4) + (3 * (mem 52 10))) mem)
  : mmT bX5_secondsInAll d 0 0 (mQ 0 P) 0 [(2, 52)] [] mS mem := by
  refine st_aload_n (i := 0) rfl (t := 0) rfl (by decide) dX5_secondsInAll_0 ?_
  refine so_getI (v := (mem 52 4)) 52 4 fr_X5_79_5 rfl sh_52 rfl dX5_secondsInAll_1 (fun r1 => ?_)
  refine st_iconst dX5_secondsInAll_4 ?_
  refine st_aload_n (i := 0) rfl (t := 0) rfl (by decide) dX5_secondsInAll_5 ?_
  refine so_getI (v := (mem 52 10)) 52 10 fr_X5_26_5 rfl sh_52 rfl dX5_secondsInAll_6 (fun r2 => ?_)
  refine st_imul dX5_secondsInAll_9 ?_
  refine st_iadd dX5_secondsInAll_10 ?_
  exact st_ireturn rfl dX5_secondsInAll_11 (mQ.ret q1)
/-- the class's night, after k said -/
def ntXI_52 (mem : mmM) (mk seed : Int) (k : Nat) (m : mmM) : Prop := (∀ a, a ≠ 52 → a ≠ 54 → a ≠ 53 → m a = mem a) ∧ m 52 3 = k ∧ m 52 4 = ntSec (mem 26) (forgetsX mem) (takeX mem) (mem 38) mk seed k
def ntXS_52 (s : ntT) (m : mmM) : Prop := m 52 7 = s.1 ∧ m 52 9 = s.2.2.1 ∧ m 52 10 = s.2.2.2.1 ∧ m 52 11 = s.2.2.2.2.1 ∧ ∀ j, 0 ≤ j → j < 24 → m 54 j = s.2.2.2.2.2 j
def ntXP_52 (mem : mmM) (mk seed : Int) (m : mmM) : Prop := ∃ k : Nat, ntEnd (mem 23 1) (forgetsX mem) (takeX mem) (mem 38) mk seed k ∧ ntXI_52 mem mk seed k m ∧ ntXS_52 (ntFin (mem 23 1) (forgetsX mem) (takeX mem) (mem 38) mk seed k) m ∧ m 52 5 = ntOut (mem 23 1) (forgetsX mem) (takeX mem) (mem 38) mk seed k
theorem ntXS_step_52 {mem : mmM} {mk : Int} {s : ntT} {m m' : mmM} {v : Int} (hs : ntXS_52 s m) (h8 : m 52 8 = mk) (hc : 0 ≤ s.2.1 ∧ s.2.1 < 24) (hfx : forgetsX m = forgetsX mem) (htx : takeX m = takeX mem) (h38 : m 38 = mem 38) (q : saidP_52 m s.2.1 v m') : v = ntV (forgetsX mem) (takeX mem) (mem 38) mk s ∧ ntXS_52 (ntStep (forgetsX mem) (takeX mem) (mem 38) mk s) m' := by
  obtain ⟨h7, h9, h10, h11, hat⟩ := hs
  have hL : lostX_52 m s.2.1 ↔ ntLost (forgetsX mem) mk s.1 s.2.1 := by
    unfold lostX_52
    rw [h7, h8, hfx]
  have hS : savedX_52 m s.2.1 ↔ ntSave (takeX mem) mk s.1 s.2.1 := by
    unfold savedX_52
    rw [h7, h8, htx]
  rw [saidP_52, h7, h8, h9, h10, h11, h38] at q
  have up : ∀ j, 0 ≤ j → j < 24 → (if j = s.2.1 then m 54 s.2.1 + 1 else m 54 j) = if j = s.2.1 then s.2.2.2.2.2 s.2.1 + 1 else s.2.2.2.2.2 j := by
    intro j j0 j1
    rw [hat j j0 j1, hat s.2.1 hc.1 hc.2]
  rcases q.1 with ⟨l, q1, q2, q3, q4, q5, q6⟩ | ⟨l, sv, q1, q2, q3, q4, q5, q6⟩ | ⟨l, sv, q1, q2, q3, q4, q5, q6⟩
  · have l' : ¬ ntLost (forgetsX mem) mk s.1 s.2.1 := fun z => l (hL.mpr z)
    have e : ntStep (forgetsX mem) (takeX mem) (mem 38) mk s = (nextX s.1, s.2.1 + 1, s.2.2.1, s.2.2.2.1, s.2.2.2.2.1, s.2.2.2.2.2) := if_neg l'
    have e2 : ntV (forgetsX mem) (takeX mem) (mem 38) mk s = s.2.1 := if_neg (fun z : ntLost (forgetsX mem) mk s.1 s.2.1 ∧ _ => l' z.1)
    rw [e, e2]
    exact ⟨q1, q2, q3, q4, q5, fun j j0 j1 => by rw [q6]; exact hat j j0 j1⟩
  · have l' := hL.mp l
    have s' := hS.mp sv
    have e : ntStep (forgetsX mem) (takeX mem) (mem 38) mk s = (nextX (nextX s.1), s.2.1 + 1, s.2.2.1 + 1, s.2.2.2.1 + 1, s.2.2.2.2.1, fun j => if j = s.2.1 then s.2.2.2.2.2 s.2.1 + 1 else s.2.2.2.2.2 j) := (if_pos l').trans (if_pos s')
    have e2 : ntV (forgetsX mem) (takeX mem) (mem 38) mk s = s.2.1 := if_neg (fun z : ntLost (forgetsX mem) mk s.1 s.2.1 ∧ ¬ ntSave (takeX mem) mk s.1 s.2.1 => z.2 s')
    rw [e, e2]
    exact ⟨q1, q2, q3, q4, q5, fun j j0 j1 => by rw [q6]; exact up j j0 j1⟩
  · have l' := hL.mp l
    have s' : ¬ ntSave (takeX mem) mk s.1 s.2.1 := fun z => sv (hS.mpr z)
    have e : ntStep (forgetsX mem) (takeX mem) (mem 38) mk s = ((if and32 (shr32 mk s.2.1) 1 = 1 then nextX (nextX s.1) else nextX s.1), mem 38 s.2.1 + 1, s.2.2.1 + 1, s.2.2.2.1, s.2.2.2.2.1 + (if mem 38 s.2.1 = -1 then 0 else 1), fun j => if j = s.2.1 then s.2.2.2.2.2 s.2.1 + 1 else s.2.2.2.2.2 j) := (if_pos l').trans (if_neg s')
    have e2 : ntV (forgetsX mem) (takeX mem) (mem 38) mk s = mem 38 s.2.1 := if_pos (⟨l', s'⟩ : ntLost (forgetsX mem) mk s.1 s.2.1 ∧ ¬ ntSave (takeX mem) mk s.1 s.2.1)
    rw [e, e2]
    exact ⟨q1, q2, q3, q4, q5, fun j j0 j1 => by rw [q6]; exact up j j0 j1⟩


theorem c_X10_walk_52 (mem : mmM) (mk seed : Int) (hp : nightP mem) (m0 : mmM) (h0 : ∀ a, a ≠ 52 → a ≠ 54 → a ≠ 53 → m0 a = mem a) (h8 : m0 52 8 = mk) (hs0 : ntXS_52 (seed, 0, 0, 0, 0, fun _ => 0) m0) : conv bX10_walk 4 [(2, 52)] m0 (fun m => ntXP_52 mem mk seed m) := by
  have hn := hp.1.1
  have ht : ∀ i, 0 ≤ i → i < mem 23 1 → -1 ≤ mem 38 i ∧ mem 38 i < mem 23 1 := fun i a b => (hp.1.2 i a b).2.2
  have hl : ∀ i, 0 ≤ i → i < mem 23 1 → 0 ≤ mem 26 i ∧ mem 26 i ≤ 99 := fun i a b => by have := (hp.1.2 i a b).2.1; omega
  have hT0 : takeP mem := ⟨hn, fun i a b => (hp.1.2 i a b).1⟩
  refine cn_X10_walk_52 (bk_X10_walk_52_0 ?_)
  have key : ∀ (t k : Nat) (m : mmM), t = 200 - k → k ≤ 200 → (∀ i, i < k → ntAlive (mem 23 1) (forgetsX mem) (takeX mem) (mem 38) mk seed i) → ntXI_52 mem mk seed k m → ntXS_52 (ntSt (forgetsX mem) (takeX mem) (mem 38) mk seed k) m → m 52 8 = mk → m 52 5 = 2 → mmT bX10_walk 4 0 0 (mQv (fun m => ntXP_52 mem mk seed m)) 24 [(2, 52), (0, (ntSt (forgetsX mem) (takeX mem) (mem 38) mk seed k).2.1), (0, (k : Int)), (9, 0)] [] mS m := by
    intro t
    induction t using Nat.strongRecOn with
    | _ t ih =>
      intro k m htk hk hal hi hs i8 h5
      have e23 : m 23 = mem 23 := hi.1 23 (by decide) (by decide) (by decide)
      have e24 : m 24 = mem 24 := hi.1 24 (by decide) (by decide) (by decide)
      have e26 : m 26 = mem 26 := hi.1 26 (by decide) (by decide) (by decide)
      have e37 : m 37 = mem 37 := hi.1 37 (by decide) (by decide) (by decide)
      have e38 : m 38 = mem 38 := hi.1 38 (by decide) (by decide) (by decide)
      have efx : forgetsX m = forgetsX mem := by
        funext s b
        unfold forgetsX
        rw [e23, hi.1 31 (by decide) (by decide) (by decide), hi.1 32 (by decide) (by decide) (by decide)]
      have etx : takeX m = takeX mem := by
        funext s
        unfold takeX
        rw [e23, e24, e37]
      have hT : takeP m := by
        unfold takeP
        rw [e23, e24]
        exact hT0
      have b := ntSt_come (fg := forgetsX mem) (tk := takeX mem) (mk := mk) (seed := seed) hn.1 ht k hal
      have sb := ntSec_bnd (fg := forgetsX mem) (tk := takeX mem) (mk := mk) (seed := seed) hl hn.1 ht k hal
      have cn := ntSt_cnt (forgetsX mem) (takeX mem) (mem 38) mk seed k
      have i3 := hi.2.1
      have i4 := hi.2.2
      have es : ∀ v m', saidP_52 m (ntSt (forgetsX mem) (takeX mem) (mem 38) mk seed k).2.1 v m' → (ntSt (forgetsX mem) (takeX mem) (mem 38) mk seed k).2.1 < mem 23 1 → v = ntV (forgetsX mem) (takeX mem) (mem 38) mk (ntSt (forgetsX mem) (takeX mem) (mem 38) mk seed k) ∧ ntXS_52 (ntSt (forgetsX mem) (takeX mem) (mem 38) mk seed (k + 1)) m' := fun v m' q g => ntXS_step_52 hs i8 ⟨b.1, by omega⟩ efx etx e38 q
      have cb : (0 ≤ (ntSt (forgetsX mem) (takeX mem) (mem 38) mk seed k).2.1 ∧ (ntSt (forgetsX mem) (takeX mem) (mem 38) mk seed k).2.1 < m 23 1) → con 0 bX5_saidAt 3 [(2, 52), (0, (ntSt (forgetsX mem) (takeX mem) (mem 38) mk seed k).2.1)] m (saidP_52 m (ntSt (forgetsX mem) (takeX mem) (mem 38) mk seed k).2.1) := by
        intro g
        have g' := g
        rw [e23] at g'
        have cj := cn.2.2.2 (ntSt (forgetsX mem) (takeX mem) (mem 38) mk seed k).2.1
        refine c_X5_saidAt_52 m _ hT g (fun z _ => ?_) ?_ ?_ ?_ ?_ ?_
        · rw [efx]
          exact hp.2.1 _ _
        · rw [etx]
          exact hp.2.2 _
        · rw [hs.2.1]
          omega
        · rw [hs.2.2.1]
          omega
        · rw [hs.2.2.2.1]
          omega
        · rw [hs.2.2.2.2 _ g'.1 (by omega)]
          omega
      have vb : (ntSt (forgetsX mem) (takeX mem) (mem 38) mk seed k).2.1 < mem 23 1 → -1 ≤ ntV (forgetsX mem) (takeX mem) (mem 38) mk (ntSt (forgetsX mem) (takeX mem) (mem 38) mk seed k) ∧ ntV (forgetsX mem) (takeX mem) (mem 38) mk (ntSt (forgetsX mem) (takeX mem) (mem 38) mk seed k) < mem 23 1 := fun gc => ntV_bnd hn.1 ht hal gc
      have ste : ∀ (m' : mmM) (j v : Int), j = 5 ∨ j = 6 → ntXS_52 (ntSt (forgetsX mem) (takeX mem) (mem 38) mk seed k) m' → ntXS_52 (ntSt (forgetsX mem) (takeX mem) (mem 38) mk seed k) (mset m' 52 j v) := by
        intro m' j v hj w
        exact ⟨by rw [mset_at, if_neg (by omega)]; exact w.1, by rw [mset_at, if_neg (by omega)]; exact w.2.1, by rw [mset_at, if_neg (by omega)]; exact w.2.2.1, by rw [mset_at, if_neg (by omega)]; exact w.2.2.2.1, by rw [mset_ne (by decide)]; exact w.2.2.2.2⟩
      have ste1 : ∀ (s : ntT) (m' : mmM) (j v : Int), j = 5 ∨ j = 6 → ntXS_52 s m' → ntXS_52 s (mset m' 52 j v) := by
        intro s m' j v hj w
        exact ⟨by rw [mset_at, if_neg (by omega)]; exact w.1, by rw [mset_at, if_neg (by omega)]; exact w.2.1, by rw [mset_at, if_neg (by omega)]; exact w.2.2.1, by rw [mset_at, if_neg (by omega)]; exact w.2.2.2.1, by rw [mset_ne (by decide)]; exact w.2.2.2.2⟩
      have sti : ∀ (m' : mmM) (j v : Int), j = 5 ∨ j = 6 → ntXI_52 mem mk seed k m' → ntXI_52 mem mk seed k (mset m' 52 j v) := by
        intro m' j v hj w
        exact ⟨fun a a1 a2 a3 => by rw [mset_ne a1]; exact w.1 a a1 a2 a3, by rw [mset_at, if_neg (by omega)]; exact w.2.1, by rw [mset_at, if_neg (by omega)]; exact w.2.2⟩
      refine bk_X10_walk_52_24 (fun g g2 => cb g2) (fun g g2 v m' q g3 => ?_) (fun g g2 => ?_) (fun g g2 => ?_) (fun g g2 g3 => absurd g3 g2) (fun g g2 g3 => ?_) (fun g g2 v m' q g3 => ?_) (s4 := fun _ g2 v m' q => ?_) (s6 := fun _ g2 v m' q g3 => ?_) (s7 := fun _ g2 v m' q g3 => ?_) (s8 := fun _ g2 v m' q g3 => ?_)
      · rw [e23] at g2
        have f := es v m' q g2.2
        have fa := q.2.1
        have f23 : m' 23 = mem 23 := (fa 23 (by decide) (by decide)).trans e23
        have f26 : m' 26 = mem 26 := (fa 26 (by decide) (by decide)).trans e26
        rw [f23, f.1] at g3
        have al : ntAlive (mem 23 1) (forgetsX mem) (takeX mem) (mem 38) mk seed k := ⟨by omega, g2.2, by omega⟩
        have e2 : (ntSt (forgetsX mem) (takeX mem) (mem 38) mk seed (k + 1)).2.1 = ntV (forgetsX mem) (takeX mem) (mem 38) mk (ntSt (forgetsX mem) (takeX mem) (mem 38) mk seed k) + 1 := ntStep_come _ _ _ _ _
        rw [f.1, q.2.2 3 (by decide) (by decide) (by decide) (by decide), q.2.2 4 (by decide) (by decide) (by decide) (by decide), i3, i4, f26, ← e2, ← ntSec_succ, show (k : Int) + 1 = ((k + 1 : Nat) : Int) by omega]
        refine ih (200 - (k + 1)) (by omega) (k + 1) _ rfl (by omega) (fun i z => ?_) ⟨?_, ?_, ?_⟩ ⟨?_, ?_, ?_, ?_, ?_⟩ ?_ ?_
        · rcases Nat.lt_or_ge i k with z2 | z2
          · exact hal i z2
          · rw [show i = k by omega]
            exact al
        · intro a a1 a2 a3
          rw [mset_ne a1, mset_ne a1, mset_ne a3]
          exact (fa a a1 a2).trans (hi.1 a a1 a2 a3)
        · rw [mset_at, if_neg (by decide), mset_same]
        · rw [mset_same]
        · rw [mset_at, if_neg (by decide), mset_at, if_neg (by decide), mset_ne (by decide)]
          exact f.2.1
        · rw [mset_at, if_neg (by decide), mset_at, if_neg (by decide), mset_ne (by decide)]
          exact f.2.2.1
        · rw [mset_at, if_neg (by decide), mset_at, if_neg (by decide), mset_ne (by decide)]
          exact f.2.2.2.1
        · rw [mset_at, if_neg (by decide), mset_at, if_neg (by decide), mset_ne (by decide)]
          exact f.2.2.2.2.1
        · rw [mset_ne (by decide), mset_ne (by decide), mset_ne (by decide)]
          exact f.2.2.2.2.2
        · rw [mset_at, if_neg (by decide), mset_at, if_neg (by decide), mset_ne (by decide), q.2.2 8 (by decide) (by decide) (by decide) (by decide)]
          exact i8
        · rw [mset_at, if_neg (by decide), mset_at, if_neg (by decide), mset_ne (by decide), q.2.2 5 (by decide) (by decide) (by decide) (by decide)]
          exact h5
      · rw [e23] at g2
        have o : ntOut (mem 23 1) (forgetsX mem) (takeX mem) (mem 38) mk seed k = 2 := by
          unfold ntOut
          rw [if_neg (by omega), if_pos (by omega)]
        refine ⟨k, ⟨hal, fun z => by have := z.1; omega⟩, hi, ?_, by rw [h5, o]⟩
        unfold ntFin
        rw [o]
        exact hs
      · rw [e23] at g2
        have o : ntOut (mem 23 1) (forgetsX mem) (takeX mem) (mem 38) mk seed k = 0 := by
          unfold ntOut
          rw [if_pos (by omega)]
        refine ⟨k, ⟨hal, fun z => by have := z.1; omega⟩, sti _ 5 _ (Or.inl rfl) hi, ?_, by rw [mset_same, o]⟩
        unfold ntFin
        rw [o]
        exact ste _ 5 _ (Or.inl rfl) hs
      · rw [e23] at g2
        have o : ntOut (mem 23 1) (forgetsX mem) (takeX mem) (mem 38) mk seed k = 0 := by
          unfold ntOut
          rw [if_pos (by omega)]
        refine ⟨k, ⟨hal, fun z => by have := z.2.1; omega⟩, sti _ 5 _ (Or.inl rfl) hi, ?_, by rw [mset_same, o]⟩
        unfold ntFin
        rw [o]
        exact ste _ 5 _ (Or.inl rfl) hs
      · rw [e23] at g2
        have f := es v m' q g2.2
        have fa := q.2.1
        have f23 : m' 23 = mem 23 := (fa 23 (by decide) (by decide)).trans e23
        rw [f23, f.1] at g3
        have vb := vb g2.2
        have o : ntOut (mem 23 1) (forgetsX mem) (takeX mem) (mem 38) mk seed k = 1 := by
          unfold ntOut
          rw [if_neg (by omega), if_neg (by omega)]
        have hi' : ntXI_52 mem mk seed k m' := ⟨fun a a1 a2 a3 => (fa a a1 a2).trans (hi.1 a a1 a2 a3), (q.2.2 3 (by decide) (by decide) (by decide) (by decide)).trans i3, (q.2.2 4 (by decide) (by decide) (by decide) (by decide)).trans i4⟩
        refine ⟨k, ⟨hal, fun z => by have := z.2.2; omega⟩, sti _ 6 _ (Or.inr rfl) (sti _ 5 _ (Or.inl rfl) hi'), ?_, by rw [mset_at, if_neg (by decide), mset_same, o]⟩
        unfold ntFin
        rw [if_pos o]
        exact ste1 _ _ 6 _ (Or.inr rfl) (ste1 _ _ 5 _ (Or.inl rfl) f.2)
      · rw [e23] at g2
        have f := es v m' q g2.2
        have vb := vb g2.2
        rw [f.1]
        omega
      · rw [q.2.2 3 (by decide) (by decide) (by decide) (by decide), i3]
        omega
      · have f23 : m' 23 = mem 23 := (q.2.1 23 (by decide) (by decide)).trans e23
        rw [f23] at g3
        omega
      · have f23 : m' 23 = mem 23 := (q.2.1 23 (by decide) (by decide)).trans e23
        have f26 : m' 26 = mem 26 := (q.2.1 26 (by decide) (by decide)).trans e26
        rw [f23] at g3
        have l := hl v g3.1 g3.2
        rw [q.2.2 4 (by decide) (by decide) (by decide) (by decide), i4, f26]
        omega
  refine key 200 0 _ rfl (by omega) (fun i z => by omega) ⟨?_, ?_, ?_⟩ ⟨?_, ?_, ?_, ?_, ?_⟩ ?_ ?_
  · intro a a1 a2 a3
    rw [mset_ne a1, mset_ne a1, mset_ne a1, mset_ne a1]
    exact h0 a a1 a2 a3
  · rw [mset_at, if_neg (by decide), mset_at, if_neg (by decide), mset_at, if_neg (by decide), mset_same]
    rfl
  · rw [mset_at, if_neg (by decide), mset_at, if_neg (by decide), mset_same]
    rfl
  · rw [mset_at, if_neg (by decide), mset_at, if_neg (by decide), mset_at, if_neg (by decide), mset_at, if_neg (by decide)]
    exact hs0.1
  · rw [mset_at, if_neg (by decide), mset_at, if_neg (by decide), mset_at, if_neg (by decide), mset_at, if_neg (by decide)]
    exact hs0.2.1
  · rw [mset_at, if_neg (by decide), mset_at, if_neg (by decide), mset_at, if_neg (by decide), mset_at, if_neg (by decide)]
    exact hs0.2.2.1
  · rw [mset_at, if_neg (by decide), mset_at, if_neg (by decide), mset_at, if_neg (by decide), mset_at, if_neg (by decide)]
    exact hs0.2.2.2.1
  · rw [mset_ne (by decide), mset_ne (by decide), mset_ne (by decide), mset_ne (by decide)]
    exact hs0.2.2.2.2
  · rw [mset_at, if_neg (by decide), mset_at, if_neg (by decide), mset_at, if_neg (by decide), mset_at, if_neg (by decide)]
    exact h8
  · rw [mset_at, if_neg (by decide), mset_same]
theorem c_X5_play_52 (mem : mmM) (seed mk : Int) (hp : nightP mem) (h1 : R64 seed) (h3 : R32 mk) : conv bX5_play 5 [(2, 52), (1, seed), (0, mk)] mem (fun m => ntXP_52 mem mk seed m) := by
  refine cn_X5_play_52 (bk_X5_play_52_0 (c_X10_walk_52 mem mk seed hp _ (fun a a1 a2 a3 => ?_) ?_ ⟨?_, ?_, ?_, ?_, fun j j0 j1 => ?_⟩) (fun m q => q))
  · rw [mrow_ne a2, mset_ne a1, mset_ne a1, mset_ne a1, mset_ne a1, mset_ne a1]
  · rw [mrow_ne (by decide), mset_at, if_neg (by decide), mset_at, if_neg (by decide), mset_at, if_neg (by decide), mset_same]
  · rw [mrow_ne (by decide), mset_at, if_neg (by decide), mset_at, if_neg (by decide), mset_at, if_neg (by decide), mset_at, if_neg (by decide), mset_same]
  · rw [mrow_ne (by decide), mset_at, if_neg (by decide), mset_at, if_neg (by decide), mset_same]
  · rw [mrow_ne (by decide), mset_at, if_neg (by decide), mset_same]
  · rw [mrow_ne (by decide), mset_same]
  · rw [mrow_same, if_pos ⟨j0, j1⟩]
theorem forgetsX_55 (m : mmM) (k v : Int) : forgetsX (mset m 55 k v) = forgetsX m := by
  funext s b
  unfold forgetsX
  rw [mset_ne (by decide), mset_ne (by decide), mset_ne (by decide)]
theorem forgetsX_57 (m : mmM) (k v : Int) : forgetsX (mset m 57 k v) = forgetsX m := by
  funext s b
  unfold forgetsX
  rw [mset_ne (by decide), mset_ne (by decide), mset_ne (by decide)]
theorem takeX_55 (m : mmM) (k v : Int) : takeX (mset m 55 k v) = takeX m := by
  funext s
  unfold takeX
  rw [mset_ne (by decide), mset_ne (by decide), mset_ne (by decide)]
theorem takeX_57 (m : mmM) (k v : Int) : takeX (mset m 57 k v) = takeX m := by
  funext s
  unfold takeX
  rw [mset_ne (by decide), mset_ne (by decide), mset_ne (by decide)]
theorem takeP_55 {m : mmM} {k v : Int} (h : takeP m) : takeP (mset m 55 k v) := by
  unfold takeP
  rw [mset_ne (by decide), mset_ne (by decide)]
  exact h
theorem takeP_57 {m : mmM} {k v : Int} (h : takeP m) : takeP (mset m 57 k v) := by
  unfold takeP
  rw [mset_ne (by decide), mset_ne (by decide)]
  exact h
def lostX_55 (mem : mmM) (s : Int) : Prop := drawS (mem 55 7) < forgetsX mem s (and32 (shr32 (mem 55 8) s) 1)
def savedX_55 (mem : mmM) (s : Int) : Prop := and32 (shr32 (mem 55 8) s) 1 = 1 ∧ drawS (nextX (mem 55 7)) < takeX mem s
def saidP_55 (mem : mmM) (x1 v : Int) (m : mmM) : Prop :=
  ((¬ lostX_55 mem x1 ∧ v = x1 ∧ m 55 7 = nextX (mem 55 7) ∧ m 55 9 = mem 55 9 ∧ m 55 10 = mem 55 10 ∧ m 55 11 = mem 55 11 ∧ m 57 = mem 57) ∨
  (lostX_55 mem x1 ∧ savedX_55 mem x1 ∧ v = x1 ∧ m 55 7 = nextX (nextX (mem 55 7)) ∧ m 55 9 = mem 55 9 + 1 ∧ m 55 10 = mem 55 10 + 1 ∧ m 55 11 = mem 55 11 ∧ m 57 = fun j => if j = x1 then mem 57 x1 + 1 else mem 57 j) ∨
  (lostX_55 mem x1 ∧ ¬ savedX_55 mem x1 ∧ v = mem 38 x1 ∧ m 55 7 = (if and32 (shr32 (mem 55 8) x1) 1 = 1 then nextX (nextX (mem 55 7)) else nextX (mem 55 7)) ∧ m 55 9 = mem 55 9 + 1 ∧ m 55 10 = mem 55 10 ∧ m 55 11 = mem 55 11 + (if mem 38 x1 = -1 then 0 else 1) ∧ m 57 = fun j => if j = x1 then mem 57 x1 + 1 else mem 57 j)) ∧
  (∀ a, a ≠ 55 → a ≠ 57 → m a = mem a) ∧ (∀ j, j ≠ 7 → j ≠ 9 → j ≠ 10 → j ≠ 11 → m 55 j = mem 55 j)
theorem cn_X5_saidAt_55 {d : Nat} {P : Int → mmM → Prop} {mem : mmM} {x1 : Int} (h : mmT bX5_saidAt d 0 0 (mQ 0 P) 0 [(2, 55), (0, x1), (9, 0), (9, 0)] [] mS mem) : con 0 bX5_saidAt d [(2, 55), (0, x1)] mem P := mmC_of [(2, 55), (0, x1), (9, 0), (9, 0)] ok_X5_saidAt.2.2.2.2 rfl (Nat.le_of_ble_eq_true rfl) h
theorem bk_X5_saidAt_55_0 {d : Nat} {P : Int → mmM → Prop} {mem : mmM} {x1 : Int}
  (q1 : (0 ≤ x1 ∧ x1 < (mem 23 1)) → (and32 (shr32 (mem 55 8) x1) 1) = 0 → (drawS (mem 55 7)) < (forgetsX (mset mem 55 7 (nextX (mem 55 7))) x1 0) → ¬ (mem 38 x1) = (-1) → P (mem 38 x1) (mset (mset (mset (mset mem 55 7 (nextX (mem 55 7))) 55 9 ((mem 55 9) + 1)) 57 x1 ((mem 57 x1) + 1)) 55 11 ((mem 55 11) + 1)))
  (q2 : (0 ≤ x1 ∧ x1 < (mem 23 1)) → (and32 (shr32 (mem 55 8) x1) 1) = 0 → (drawS (mem 55 7)) < (forgetsX (mset mem 55 7 (nextX (mem 55 7))) x1 0) → (mem 38 x1) = (-1) → P (mem 38 x1) (mset (mset (mset (mset mem 55 7 (nextX (mem 55 7))) 55 9 ((mem 55 9) + 1)) 57 x1 ((mem 57 x1) + 1)) 55 11 ((mem 55 11) + 0)))
  (q3 : (0 ≤ x1 ∧ x1 < (mem 23 1)) → (and32 (shr32 (mem 55 8) x1) 1) = 0 → (forgetsX (mset mem 55 7 (nextX (mem 55 7))) x1 0) ≤ (drawS (mem 55 7)) → P x1 (mset mem 55 7 (nextX (mem 55 7))))
  (q4 : (0 ≤ x1 ∧ x1 < (mem 23 1)) → ¬ (and32 (shr32 (mem 55 8) x1) 1) = 0 → (drawS (mem 55 7)) < (forgetsX (mset mem 55 7 (nextX (mem 55 7))) x1 1) → (takeX (mset (mset (mset (mset mem 55 7 (nextX (mem 55 7))) 55 9 ((mem 55 9) + 1)) 57 x1 ((mem 57 x1) + 1)) 55 7 (nextX ((mset (mset (mset mem 55 7 (nextX (mem 55 7))) 55 9 ((mem 55 9) + 1)) 57 x1 ((mem 57 x1) + 1)) 55 7))) x1) ≤ (drawS ((mset (mset (mset mem 55 7 (nextX (mem 55 7))) 55 9 ((mem 55 9) + 1)) 57 x1 ((mem 57 x1) + 1)) 55 7)) → ¬ (mem 38 x1) = (-1) → P (mem 38 x1) (mset (mset (mset (mset (mset mem 55 7 (nextX (mem 55 7))) 55 9 ((mem 55 9) + 1)) 57 x1 ((mem 57 x1) + 1)) 55 7 (nextX ((mset (mset (mset mem 55 7 (nextX (mem 55 7))) 55 9 ((mem 55 9) + 1)) 57 x1 ((mem 57 x1) + 1)) 55 7))) 55 11 ((mem 55 11) + 1)))
  (q5 : (0 ≤ x1 ∧ x1 < (mem 23 1)) → ¬ (and32 (shr32 (mem 55 8) x1) 1) = 0 → (drawS (mem 55 7)) < (forgetsX (mset mem 55 7 (nextX (mem 55 7))) x1 1) → (takeX (mset (mset (mset (mset mem 55 7 (nextX (mem 55 7))) 55 9 ((mem 55 9) + 1)) 57 x1 ((mem 57 x1) + 1)) 55 7 (nextX ((mset (mset (mset mem 55 7 (nextX (mem 55 7))) 55 9 ((mem 55 9) + 1)) 57 x1 ((mem 57 x1) + 1)) 55 7))) x1) ≤ (drawS ((mset (mset (mset mem 55 7 (nextX (mem 55 7))) 55 9 ((mem 55 9) + 1)) 57 x1 ((mem 57 x1) + 1)) 55 7)) → (mem 38 x1) = (-1) → P (mem 38 x1) (mset (mset (mset (mset (mset mem 55 7 (nextX (mem 55 7))) 55 9 ((mem 55 9) + 1)) 57 x1 ((mem 57 x1) + 1)) 55 7 (nextX ((mset (mset (mset mem 55 7 (nextX (mem 55 7))) 55 9 ((mem 55 9) + 1)) 57 x1 ((mem 57 x1) + 1)) 55 7))) 55 11 ((mem 55 11) + 0)))
  (q6 : (0 ≤ x1 ∧ x1 < (mem 23 1)) → ¬ (and32 (shr32 (mem 55 8) x1) 1) = 0 → (drawS (mem 55 7)) < (forgetsX (mset mem 55 7 (nextX (mem 55 7))) x1 1) → (drawS ((mset (mset (mset mem 55 7 (nextX (mem 55 7))) 55 9 ((mem 55 9) + 1)) 57 x1 ((mem 57 x1) + 1)) 55 7)) < (takeX (mset (mset (mset (mset mem 55 7 (nextX (mem 55 7))) 55 9 ((mem 55 9) + 1)) 57 x1 ((mem 57 x1) + 1)) 55 7 (nextX ((mset (mset (mset mem 55 7 (nextX (mem 55 7))) 55 9 ((mem 55 9) + 1)) 57 x1 ((mem 57 x1) + 1)) 55 7))) x1) → P x1 (mset (mset (mset (mset (mset mem 55 7 (nextX (mem 55 7))) 55 9 ((mem 55 9) + 1)) 57 x1 ((mem 57 x1) + 1)) 55 7 (nextX ((mset (mset (mset mem 55 7 (nextX (mem 55 7))) 55 9 ((mem 55 9) + 1)) 57 x1 ((mem 57 x1) + 1)) 55 7))) 55 10 ((mem 55 10) + 1)))
  (q7 : (0 ≤ x1 ∧ x1 < (mem 23 1)) → ¬ (and32 (shr32 (mem 55 8) x1) 1) = 0 → (forgetsX (mset mem 55 7 (nextX (mem 55 7))) x1 1) ≤ (drawS (mem 55 7)) → P x1 (mset mem 55 7 (nextX (mem 55 7))))
  (q8 : ¬ (0 ≤ x1 ∧ x1 < (mem 23 1)) → P (-1) mem)
  (hd1 : 1 ≤ d := by omega)
  (hd2 : 2 ≤ d := by omega)
  (hd3 : 3 ≤ d := by omega)
  (s1 : R32 x1 := by intros; first | omega | assumption | solve_by_elim)
  (s2 : (0 ≤ x1 ∧ x1 < (mem 23 1)) → (and32 (shr32 (mem 55 8) x1) 1) = 0 → 0 ≤ ((mset mem 55 7 (nextX (mem 55 7))) 23 1) ∧ ((mset mem 55 7 (nextX (mem 55 7))) 23 1) ≤ 24 := by intros; first | omega | assumption | solve_by_elim)
  (s3 : (0 ≤ x1 ∧ x1 < (mem 23 1)) → (and32 (shr32 (mem 55 8) x1) 1) = 0 → R32 (forgetsX (mset mem 55 7 (nextX (mem 55 7))) x1 0) := by intros; first | omega | assumption | solve_by_elim)
  (s4 : (0 ≤ x1 ∧ x1 < (mem 23 1)) → (and32 (shr32 (mem 55 8) x1) 1) = 0 → (drawS (mem 55 7)) < (forgetsX (mset mem 55 7 (nextX (mem 55 7))) x1 0) → R32 ((mem 55 9) + 1) := by intros; first | omega | assumption | solve_by_elim)
  (s5 : (0 ≤ x1 ∧ x1 < (mem 23 1)) → (and32 (shr32 (mem 55 8) x1) 1) = 0 → (drawS (mem 55 7)) < (forgetsX (mset mem 55 7 (nextX (mem 55 7))) x1 0) → 0 ≤ x1 ∧ x1 < 24 := by intros; first | omega | assumption | solve_by_elim)
  (s6 : (0 ≤ x1 ∧ x1 < (mem 23 1)) → (and32 (shr32 (mem 55 8) x1) 1) = 0 → (drawS (mem 55 7)) < (forgetsX (mset mem 55 7 (nextX (mem 55 7))) x1 0) → R32 ((mem 57 x1) + 1) := by intros; first | omega | assumption | solve_by_elim)
  (s7 : (0 ≤ x1 ∧ x1 < (mem 23 1)) → (and32 (shr32 (mem 55 8) x1) 1) = 0 → (drawS (mem 55 7)) < (forgetsX (mset mem 55 7 (nextX (mem 55 7))) x1 0) → ¬ (mem 38 x1) = (-1) → R32 ((mem 55 11) + 1) := by intros; first | omega | assumption | solve_by_elim)
  (s8 : (0 ≤ x1 ∧ x1 < (mem 23 1)) → (and32 (shr32 (mem 55 8) x1) 1) = 0 → (drawS (mem 55 7)) < (forgetsX (mset mem 55 7 (nextX (mem 55 7))) x1 0) → (mem 38 x1) = (-1) → R32 ((mem 55 11) + 0) := by intros; first | omega | assumption | solve_by_elim)
  (s9 : (0 ≤ x1 ∧ x1 < (mem 23 1)) → ¬ (and32 (shr32 (mem 55 8) x1) 1) = 0 → 0 ≤ ((mset mem 55 7 (nextX (mem 55 7))) 23 1) ∧ ((mset mem 55 7 (nextX (mem 55 7))) 23 1) ≤ 24 := by intros; first | omega | assumption | solve_by_elim)
  (s10 : (0 ≤ x1 ∧ x1 < (mem 23 1)) → ¬ (and32 (shr32 (mem 55 8) x1) 1) = 0 → R32 (forgetsX (mset mem 55 7 (nextX (mem 55 7))) x1 1) := by intros; first | omega | assumption | solve_by_elim)
  (s11 : (0 ≤ x1 ∧ x1 < (mem 23 1)) → ¬ (and32 (shr32 (mem 55 8) x1) 1) = 0 → (drawS (mem 55 7)) < (forgetsX (mset mem 55 7 (nextX (mem 55 7))) x1 1) → R32 ((mem 55 9) + 1) := by intros; first | omega | assumption | solve_by_elim)
  (s12 : (0 ≤ x1 ∧ x1 < (mem 23 1)) → ¬ (and32 (shr32 (mem 55 8) x1) 1) = 0 → (drawS (mem 55 7)) < (forgetsX (mset mem 55 7 (nextX (mem 55 7))) x1 1) → 0 ≤ x1 ∧ x1 < 24 := by intros; first | omega | assumption | solve_by_elim)
  (s13 : (0 ≤ x1 ∧ x1 < (mem 23 1)) → ¬ (and32 (shr32 (mem 55 8) x1) 1) = 0 → (drawS (mem 55 7)) < (forgetsX (mset mem 55 7 (nextX (mem 55 7))) x1 1) → R32 ((mem 57 x1) + 1) := by intros; first | omega | assumption | solve_by_elim)
  (s14 : (0 ≤ x1 ∧ x1 < (mem 23 1)) → ¬ (and32 (shr32 (mem 55 8) x1) 1) = 0 → (drawS (mem 55 7)) < (forgetsX (mset mem 55 7 (nextX (mem 55 7))) x1 1) → takeP (mset (mset (mset (mset mem 55 7 (nextX (mem 55 7))) 55 9 ((mem 55 9) + 1)) 57 x1 ((mem 57 x1) + 1)) 55 7 (nextX ((mset (mset (mset mem 55 7 (nextX (mem 55 7))) 55 9 ((mem 55 9) + 1)) 57 x1 ((mem 57 x1) + 1)) 55 7))) := by intros; first | omega | assumption | solve_by_elim)
  (s15 : (0 ≤ x1 ∧ x1 < (mem 23 1)) → ¬ (and32 (shr32 (mem 55 8) x1) 1) = 0 → (drawS (mem 55 7)) < (forgetsX (mset mem 55 7 (nextX (mem 55 7))) x1 1) → R32 (takeX (mset (mset (mset (mset mem 55 7 (nextX (mem 55 7))) 55 9 ((mem 55 9) + 1)) 57 x1 ((mem 57 x1) + 1)) 55 7 (nextX ((mset (mset (mset mem 55 7 (nextX (mem 55 7))) 55 9 ((mem 55 9) + 1)) 57 x1 ((mem 57 x1) + 1)) 55 7))) x1) := by intros; first | omega | assumption | solve_by_elim)
  (s16 : (0 ≤ x1 ∧ x1 < (mem 23 1)) → ¬ (and32 (shr32 (mem 55 8) x1) 1) = 0 → (drawS (mem 55 7)) < (forgetsX (mset mem 55 7 (nextX (mem 55 7))) x1 1) → (takeX (mset (mset (mset (mset mem 55 7 (nextX (mem 55 7))) 55 9 ((mem 55 9) + 1)) 57 x1 ((mem 57 x1) + 1)) 55 7 (nextX ((mset (mset (mset mem 55 7 (nextX (mem 55 7))) 55 9 ((mem 55 9) + 1)) 57 x1 ((mem 57 x1) + 1)) 55 7))) x1) ≤ (drawS ((mset (mset (mset mem 55 7 (nextX (mem 55 7))) 55 9 ((mem 55 9) + 1)) 57 x1 ((mem 57 x1) + 1)) 55 7)) → ¬ (mem 38 x1) = (-1) → R32 ((mem 55 11) + 1) := by intros; first | omega | assumption | solve_by_elim)
  (s17 : (0 ≤ x1 ∧ x1 < (mem 23 1)) → ¬ (and32 (shr32 (mem 55 8) x1) 1) = 0 → (drawS (mem 55 7)) < (forgetsX (mset mem 55 7 (nextX (mem 55 7))) x1 1) → (takeX (mset (mset (mset (mset mem 55 7 (nextX (mem 55 7))) 55 9 ((mem 55 9) + 1)) 57 x1 ((mem 57 x1) + 1)) 55 7 (nextX ((mset (mset (mset mem 55 7 (nextX (mem 55 7))) 55 9 ((mem 55 9) + 1)) 57 x1 ((mem 57 x1) + 1)) 55 7))) x1) ≤ (drawS ((mset (mset (mset mem 55 7 (nextX (mem 55 7))) 55 9 ((mem 55 9) + 1)) 57 x1 ((mem 57 x1) + 1)) 55 7)) → (mem 38 x1) = (-1) → R32 ((mem 55 11) + 0) := by intros; first | omega | assumption | solve_by_elim)
  (s18 : (0 ≤ x1 ∧ x1 < (mem 23 1)) → ¬ (and32 (shr32 (mem 55 8) x1) 1) = 0 → (drawS (mem 55 7)) < (forgetsX (mset mem 55 7 (nextX (mem 55 7))) x1 1) → (drawS ((mset (mset (mset mem 55 7 (nextX (mem 55 7))) 55 9 ((mem 55 9) + 1)) 57 x1 ((mem 57 x1) + 1)) 55 7)) < (takeX (mset (mset (mset (mset mem 55 7 (nextX (mem 55 7))) 55 9 ((mem 55 9) + 1)) 57 x1 ((mem 57 x1) + 1)) 55 7 (nextX ((mset (mset (mset mem 55 7 (nextX (mem 55 7))) 55 9 ((mem 55 9) + 1)) 57 x1 ((mem 57 x1) + 1)) 55 7))) x1) → R32 ((mem 55 10) + 1) := by intros; first | omega | assumption | solve_by_elim)
  : mmT bX5_saidAt d 0 0 (mQ 0 P) 0 [(2, 55), (0, x1), (9, 0), (9, 0)] [] mS mem := by
  refine st_aload_n (i := 0) rfl (t := 0) rfl (by decide) dX5_saidAt_0 ?_
  refine so_getA 55 0 fr_X5_48_5 rfl sh_55 fx_55_0 dX5_saidAt_1 ?_
  refine st_iload_n (i := 1) rfl rfl dX5_saidAt_4 ?_
  refine st_callV (kc2 := 0) (ks2 := 0) (av := [(0, x1)]) 23 8 mr_X5_52 ok_X8_has (c_X8_has mem x1 (s1)) rfl sh_23 ⟨_, rfl, rfl, by decide⟩ rfl rfl hd2 (Nat.le_refl 0) (Nat.le_refl 0) (Nat.le_of_ble_eq_true rfl) dX5_saidAt_5 (mQ.elim fun v1 m1 hp => ?_)
  obtain ⟨hpv, hpm⟩ := hp
  subst hpv
  have hpm := hpm.symm
  subst hpm
  refine so_ifneB 13 (by decide) dX5_saidAt_8 (fun h1 => ?_) (fun h1 => ?_)
  · have h1 : (0 ≤ x1 ∧ x1 < (mem 23 1)) := h1
    refine st_aload_n (i := 0) rfl (t := 0) rfl (by decide) dX5_saidAt_13 ?_
    refine so_getI (v := (mem 55 8)) 55 8 fr_X5_19_5 rfl sh_55 rfl dX5_saidAt_14 (fun r1 => ?_)
    refine st_iload_n (i := 1) rfl rfl dX5_saidAt_17 ?_
    refine st_ishr dX5_saidAt_18 ?_
    refine st_iconst dX5_saidAt_19 ?_
    refine st_iand dX5_saidAt_20 ?_
    refine sr_if_eq 28 (and32_rng (shr32 (mem 55 8) x1) 1) (by decide) dX5_saidAt_21 (fun h2 => ?_) (fun h2 => ?_)
    · have h2 : (and32 (shr32 (mem 55 8) x1) 1) = 0 := by omega
      refine st_iconst dX5_saidAt_28 ?_
      refine st_istore_n (i := 2) rfl (by decide) (lc' := [(2, 55), (0, x1), (0, 0), (9, 0)]) rfl dX5_saidAt_29 ?_
      refine st_aload_n (i := 0) rfl (t := 0) rfl (by decide) dX5_saidAt_30 ?_
      refine st_callV (kc2 := 0) (ks2 := 0) (av := []) 55 5 mr_X5_58 ok_X5_draw (c_X5_draw_55 mem ) rfl sh_55 ⟨_, rfl, rfl, by decide⟩ rfl rfl hd1 (Nat.le_refl 0) (Nat.le_refl 0) (Nat.le_of_ble_eq_true rfl) dX5_saidAt_31 (mQ.elim fun v2 m2 hp => ?_)
      obtain ⟨hpv, hpm⟩ := hp
      subst hpv
      have hpm := hpm.symm
      subst hpm
      refine st_aload_n (i := 0) rfl (t := 0) rfl (by decide) dX5_saidAt_34 ?_
      refine so_getA 55 0 fr_X5_48_5 rfl sh_55 fx_55_0 dX5_saidAt_35 ?_
      refine st_iload_n (i := 1) rfl rfl dX5_saidAt_38 ?_
      refine st_iload_n (i := 2) rfl rfl dX5_saidAt_39 ?_
      refine st_callV (kc2 := 0) (ks2 := 0) (av := [(0, x1), (0, 0)]) 23 8 mr_X5_62 ok_X8_forgets (c_X8_forgets (mset mem 55 7 (nextX (mem 55 7))) x1 0 (s1) (⟨by decide, by decide⟩) ((s2 h1 h2))) rfl sh_23 ⟨_, rfl, rfl, by decide⟩ rfl rfl hd3 (Nat.le_refl 0) (Nat.le_refl 0) (Nat.le_of_ble_eq_true rfl) dX5_saidAt_40 (mQ.elim fun v3 m3 hp => ?_)
      obtain ⟨hpv, hpm⟩ := hp
      subst hpv
      have hpm := hpm.symm
      subst hpm
      refine sr_icmp_lt 48 (drawS_rng) (s3 h1 h2) (by decide) dX5_saidAt_43 (fun h3 => ?_) (fun h3 => ?_)
      · have h3 : (drawS (mem 55 7)) < (forgetsX (mset mem 55 7 (nextX (mem 55 7))) x1 0) := by omega
        refine st_aload_n (i := 0) rfl (t := 0) rfl (by decide) dX5_saidAt_48 ?_
        refine st_dup (Nat.ne_of_beq_eq_false rfl) dX5_saidAt_49 ?_
        refine so_getI (v := (mem 55 9)) 55 9 fr_X5_23_5 rfl sh_55 rfl dX5_saidAt_50 (fun r2 => ?_)
        refine st_iconst dX5_saidAt_53 ?_
        refine st_iadd dX5_saidAt_54 ?_
        refine so_putI 55 9 fr_X5_23_5 pf_5_9 fo_55_9 rfl sh_55 (s4 h1 h2 h3) dX5_saidAt_55 ?_
        refine st_aload_n (i := 0) rfl (t := 0) rfl (by decide) dX5_saidAt_58 ?_
        refine so_getA 55 12 fr_X5_9_5 rfl sh_55 fx_55_12 dX5_saidAt_59 ?_
        refine st_iload_n (i := 1) rfl rfl dX5_saidAt_62 ?_
        refine st_dup2 (Nat.ne_of_beq_eq_false rfl) (Nat.ne_of_beq_eq_false rfl) dX5_saidAt_63 ?_
        refine so_iald (v := (mem 57 x1)) 57 rfl sh_57 (by decide) (s5 h1 h2 h3) rfl dX5_saidAt_64 (fun r3 => ?_)
        refine st_iconst dX5_saidAt_65 ?_
        refine st_iadd dX5_saidAt_66 ?_
        refine so_iast 57 fr_57 rfl sh_57 (by decide) (s5 h1 h2 h3) (s6 h1 h2 h3) dX5_saidAt_67 ?_
        refine st_iload_n (i := 2) rfl rfl dX5_saidAt_68 ?_
        refine sr_if_eq 99 ⟨by decide, by decide⟩ (by decide) dX5_saidAt_69 (fun h => ?_) (fun h => ?_)
        rotate_left
        · exact absurd h (by decide)
        refine st_aload_n (i := 0) rfl (t := 0) rfl (by decide) dX5_saidAt_99 ?_
        refine so_getA 55 1 fr_X5_66_5 rfl sh_55 fx_55_1 dX5_saidAt_100 ?_
        refine so_getA 35 3 fr_X5_76_4 rfl sh_35 fx_35_3 dX5_saidAt_103 ?_
        refine st_iload_n (i := 1) rfl rfl dX5_saidAt_106 ?_
        refine so_iald (v := (mem 38 x1)) 38 rfl sh_38 (by decide) (s5 h1 h2 h3) rfl dX5_saidAt_107 (fun r4 => ?_)
        refine st_istore_n (i := 3) rfl (by decide) (lc' := [(2, 55), (0, x1), (0, 0), (0, (mem 38 x1))]) rfl dX5_saidAt_108 ?_
        refine st_aload_n (i := 0) rfl (t := 0) rfl (by decide) dX5_saidAt_109 ?_
        refine st_dup (Nat.ne_of_beq_eq_false rfl) dX5_saidAt_110 ?_
        refine so_getI (v := (mem 55 11)) 55 11 fr_X5_29_5 rfl sh_55 rfl dX5_saidAt_111 (fun r5 => ?_)
        refine st_iload_n (i := 3) rfl rfl dX5_saidAt_114 ?_
        refine st_iconst dX5_saidAt_115 ?_
        refine sr_icmp_ne 123 r4 ⟨by decide, by decide⟩ (by decide) dX5_saidAt_116 (fun h4 => ?_) (fun h4 => ?_)
        · have h4 : ¬ (mem 38 x1) = (-1) := by omega
          refine st_iconst dX5_saidAt_123 ?_
          refine st_iadd dX5_saidAt_124 ?_
          refine so_putI 55 11 fr_X5_29_5 pf_5_11 fo_55_11 rfl sh_55 (s7 h1 h2 h3 h4) dX5_saidAt_125 ?_
          refine st_iload_n (i := 3) rfl rfl dX5_saidAt_128 ?_
          exact st_ireturn rfl dX5_saidAt_129 (mQ.ret (q1 h1 h2 h3 h4))
        · have h4 : (mem 38 x1) = (-1) := by omega
          refine st_iconst dX5_saidAt_119 ?_
          refine st_goto 124 (by decide) dX5_saidAt_120 ?_
          refine st_iadd dX5_saidAt_124 ?_
          refine so_putI 55 11 fr_X5_29_5 pf_5_11 fo_55_11 rfl sh_55 (s8 h1 h2 h3 h4) dX5_saidAt_125 ?_
          refine st_iload_n (i := 3) rfl rfl dX5_saidAt_128 ?_
          exact st_ireturn rfl dX5_saidAt_129 (mQ.ret (q2 h1 h2 h3 h4))
      · have h3 : (forgetsX (mset mem 55 7 (nextX (mem 55 7))) x1 0) ≤ (drawS (mem 55 7)) := by omega
        refine st_iload_n (i := 1) rfl rfl dX5_saidAt_46 ?_
        exact st_ireturn rfl dX5_saidAt_47 (mQ.ret (q3 h1 h2 h3))
    · have h2 : ¬ (and32 (shr32 (mem 55 8) x1) 1) = 0 := by omega
      refine st_iconst dX5_saidAt_24 ?_
      refine st_goto 29 (by decide) dX5_saidAt_25 ?_
      refine st_istore_n (i := 2) rfl (by decide) (lc' := [(2, 55), (0, x1), (0, 1), (9, 0)]) rfl dX5_saidAt_29 ?_
      refine st_aload_n (i := 0) rfl (t := 0) rfl (by decide) dX5_saidAt_30 ?_
      refine st_callV (kc2 := 0) (ks2 := 0) (av := []) 55 5 mr_X5_58 ok_X5_draw (c_X5_draw_55 mem ) rfl sh_55 ⟨_, rfl, rfl, by decide⟩ rfl rfl hd1 (Nat.le_refl 0) (Nat.le_refl 0) (Nat.le_of_ble_eq_true rfl) dX5_saidAt_31 (mQ.elim fun v4 m4 hp => ?_)
      obtain ⟨hpv, hpm⟩ := hp
      subst hpv
      have hpm := hpm.symm
      subst hpm
      refine st_aload_n (i := 0) rfl (t := 0) rfl (by decide) dX5_saidAt_34 ?_
      refine so_getA 55 0 fr_X5_48_5 rfl sh_55 fx_55_0 dX5_saidAt_35 ?_
      refine st_iload_n (i := 1) rfl rfl dX5_saidAt_38 ?_
      refine st_iload_n (i := 2) rfl rfl dX5_saidAt_39 ?_
      refine st_callV (kc2 := 0) (ks2 := 0) (av := [(0, x1), (0, 1)]) 23 8 mr_X5_62 ok_X8_forgets (c_X8_forgets (mset mem 55 7 (nextX (mem 55 7))) x1 1 (s1) (⟨by decide, by decide⟩) ((s9 h1 h2))) rfl sh_23 ⟨_, rfl, rfl, by decide⟩ rfl rfl hd3 (Nat.le_refl 0) (Nat.le_refl 0) (Nat.le_of_ble_eq_true rfl) dX5_saidAt_40 (mQ.elim fun v5 m5 hp => ?_)
      obtain ⟨hpv, hpm⟩ := hp
      subst hpv
      have hpm := hpm.symm
      subst hpm
      refine sr_icmp_lt 48 (drawS_rng) (s10 h1 h2) (by decide) dX5_saidAt_43 (fun h5 => ?_) (fun h5 => ?_)
      · have h5 : (drawS (mem 55 7)) < (forgetsX (mset mem 55 7 (nextX (mem 55 7))) x1 1) := by omega
        refine st_aload_n (i := 0) rfl (t := 0) rfl (by decide) dX5_saidAt_48 ?_
        refine st_dup (Nat.ne_of_beq_eq_false rfl) dX5_saidAt_49 ?_
        refine so_getI (v := (mem 55 9)) 55 9 fr_X5_23_5 rfl sh_55 rfl dX5_saidAt_50 (fun r6 => ?_)
        refine st_iconst dX5_saidAt_53 ?_
        refine st_iadd dX5_saidAt_54 ?_
        refine so_putI 55 9 fr_X5_23_5 pf_5_9 fo_55_9 rfl sh_55 (s11 h1 h2 h5) dX5_saidAt_55 ?_
        refine st_aload_n (i := 0) rfl (t := 0) rfl (by decide) dX5_saidAt_58 ?_
        refine so_getA 55 12 fr_X5_9_5 rfl sh_55 fx_55_12 dX5_saidAt_59 ?_
        refine st_iload_n (i := 1) rfl rfl dX5_saidAt_62 ?_
        refine st_dup2 (Nat.ne_of_beq_eq_false rfl) (Nat.ne_of_beq_eq_false rfl) dX5_saidAt_63 ?_
        refine so_iald (v := (mem 57 x1)) 57 rfl sh_57 (by decide) (s12 h1 h2 h5) rfl dX5_saidAt_64 (fun r7 => ?_)
        refine st_iconst dX5_saidAt_65 ?_
        refine st_iadd dX5_saidAt_66 ?_
        refine so_iast 57 fr_57 rfl sh_57 (by decide) (s12 h1 h2 h5) (s13 h1 h2 h5) dX5_saidAt_67 ?_
        refine st_iload_n (i := 2) rfl rfl dX5_saidAt_68 ?_
        refine sr_if_eq 99 ⟨by decide, by decide⟩ (by decide) dX5_saidAt_69 (fun h => ?_) (fun h => ?_)
        · exact absurd h (by decide)
        refine st_aload_n (i := 0) rfl (t := 0) rfl (by decide) dX5_saidAt_72 ?_
        refine st_callV (kc2 := 0) (ks2 := 0) (av := []) 55 5 mr_X5_58 ok_X5_draw (c_X5_draw_55 (mset (mset (mset mem 55 7 (nextX (mem 55 7))) 55 9 ((mem 55 9) + 1)) 57 x1 ((mem 57 x1) + 1)) ) rfl sh_55 ⟨_, rfl, rfl, by decide⟩ rfl rfl hd1 (Nat.le_refl 0) (Nat.le_refl 0) (Nat.le_of_ble_eq_true rfl) dX5_saidAt_73 (mQ.elim fun v6 m6 hp => ?_)
        obtain ⟨hpv, hpm⟩ := hp
        subst hpv
        have hpm := hpm.symm
        subst hpm
        refine st_aload_n (i := 0) rfl (t := 0) rfl (by decide) dX5_saidAt_76 ?_
        refine so_getA 55 1 fr_X5_66_5 rfl sh_55 fx_55_1 dX5_saidAt_77 ?_
        refine st_iload_n (i := 1) rfl rfl dX5_saidAt_80 ?_
        refine st_callV (kc2 := 0) (ks2 := 0) (av := [(0, x1)]) 35 4 mr_X5_70 ok_X4_takeOf (c_X4_takeOf (mset (mset (mset (mset mem 55 7 (nextX (mem 55 7))) 55 9 ((mem 55 9) + 1)) 57 x1 ((mem 57 x1) + 1)) 55 7 (nextX ((mset (mset (mset mem 55 7 (nextX (mem 55 7))) 55 9 ((mem 55 9) + 1)) 57 x1 ((mem 57 x1) + 1)) 55 7))) x1 (s1) ((s14 h1 h2 h5))) rfl sh_35 ⟨_, rfl, rfl, by decide⟩ rfl rfl hd3 (Nat.le_refl 0) (Nat.le_refl 0) (Nat.le_of_ble_eq_true rfl) dX5_saidAt_81 (mQ.elim fun v7 m7 hp => ?_)
        obtain ⟨hpv, hpm⟩ := hp
        subst hpv
        have hpm := hpm.symm
        subst hpm
        refine sr_icmp_ge 99 (drawS_rng) (s15 h1 h2 h5) (by decide) dX5_saidAt_84 (fun h6 => ?_) (fun h6 => ?_)
        · have h6 : (takeX (mset (mset (mset (mset mem 55 7 (nextX (mem 55 7))) 55 9 ((mem 55 9) + 1)) 57 x1 ((mem 57 x1) + 1)) 55 7 (nextX ((mset (mset (mset mem 55 7 (nextX (mem 55 7))) 55 9 ((mem 55 9) + 1)) 57 x1 ((mem 57 x1) + 1)) 55 7))) x1) ≤ (drawS ((mset (mset (mset mem 55 7 (nextX (mem 55 7))) 55 9 ((mem 55 9) + 1)) 57 x1 ((mem 57 x1) + 1)) 55 7)) := by omega
          refine st_aload_n (i := 0) rfl (t := 0) rfl (by decide) dX5_saidAt_99 ?_
          refine so_getA 55 1 fr_X5_66_5 rfl sh_55 fx_55_1 dX5_saidAt_100 ?_
          refine so_getA 35 3 fr_X5_76_4 rfl sh_35 fx_35_3 dX5_saidAt_103 ?_
          refine st_iload_n (i := 1) rfl rfl dX5_saidAt_106 ?_
          refine so_iald (v := (mem 38 x1)) 38 rfl sh_38 (by decide) (s12 h1 h2 h5) rfl dX5_saidAt_107 (fun r8 => ?_)
          refine st_istore_n (i := 3) rfl (by decide) (lc' := [(2, 55), (0, x1), (0, 1), (0, (mem 38 x1))]) rfl dX5_saidAt_108 ?_
          refine st_aload_n (i := 0) rfl (t := 0) rfl (by decide) dX5_saidAt_109 ?_
          refine st_dup (Nat.ne_of_beq_eq_false rfl) dX5_saidAt_110 ?_
          refine so_getI (v := (mem 55 11)) 55 11 fr_X5_29_5 rfl sh_55 rfl dX5_saidAt_111 (fun r9 => ?_)
          refine st_iload_n (i := 3) rfl rfl dX5_saidAt_114 ?_
          refine st_iconst dX5_saidAt_115 ?_
          refine sr_icmp_ne 123 r8 ⟨by decide, by decide⟩ (by decide) dX5_saidAt_116 (fun h7 => ?_) (fun h7 => ?_)
          · have h7 : ¬ (mem 38 x1) = (-1) := by omega
            refine st_iconst dX5_saidAt_123 ?_
            refine st_iadd dX5_saidAt_124 ?_
            refine so_putI 55 11 fr_X5_29_5 pf_5_11 fo_55_11 rfl sh_55 (s16 h1 h2 h5 h6 h7) dX5_saidAt_125 ?_
            refine st_iload_n (i := 3) rfl rfl dX5_saidAt_128 ?_
            exact st_ireturn rfl dX5_saidAt_129 (mQ.ret (q4 h1 h2 h5 h6 h7))
          · have h7 : (mem 38 x1) = (-1) := by omega
            refine st_iconst dX5_saidAt_119 ?_
            refine st_goto 124 (by decide) dX5_saidAt_120 ?_
            refine st_iadd dX5_saidAt_124 ?_
            refine so_putI 55 11 fr_X5_29_5 pf_5_11 fo_55_11 rfl sh_55 (s17 h1 h2 h5 h6 h7) dX5_saidAt_125 ?_
            refine st_iload_n (i := 3) rfl rfl dX5_saidAt_128 ?_
            exact st_ireturn rfl dX5_saidAt_129 (mQ.ret (q5 h1 h2 h5 h6 h7))
        · have h6 : (drawS ((mset (mset (mset mem 55 7 (nextX (mem 55 7))) 55 9 ((mem 55 9) + 1)) 57 x1 ((mem 57 x1) + 1)) 55 7)) < (takeX (mset (mset (mset (mset mem 55 7 (nextX (mem 55 7))) 55 9 ((mem 55 9) + 1)) 57 x1 ((mem 57 x1) + 1)) 55 7 (nextX ((mset (mset (mset mem 55 7 (nextX (mem 55 7))) 55 9 ((mem 55 9) + 1)) 57 x1 ((mem 57 x1) + 1)) 55 7))) x1) := by omega
          refine st_aload_n (i := 0) rfl (t := 0) rfl (by decide) dX5_saidAt_87 ?_
          refine st_dup (Nat.ne_of_beq_eq_false rfl) dX5_saidAt_88 ?_
          refine so_getI (v := (mem 55 10)) 55 10 fr_X5_26_5 rfl sh_55 rfl dX5_saidAt_89 (fun r10 => ?_)
          refine st_iconst dX5_saidAt_92 ?_
          refine st_iadd dX5_saidAt_93 ?_
          refine so_putI 55 10 fr_X5_26_5 pf_5_10 fo_55_10 rfl sh_55 (s18 h1 h2 h5 h6) dX5_saidAt_94 ?_
          refine st_iload_n (i := 1) rfl rfl dX5_saidAt_97 ?_
          exact st_ireturn rfl dX5_saidAt_98 (mQ.ret (q6 h1 h2 h5 h6))
      · have h5 : (forgetsX (mset mem 55 7 (nextX (mem 55 7))) x1 1) ≤ (drawS (mem 55 7)) := by omega
        refine st_iload_n (i := 1) rfl rfl dX5_saidAt_46 ?_
        exact st_ireturn rfl dX5_saidAt_47 (mQ.ret (q7 h1 h2 h5))
  · have h1 : ¬ (0 ≤ x1 ∧ x1 < (mem 23 1)) := h1
    refine st_iconst dX5_saidAt_11 ?_
    exact st_ireturn rfl dX5_saidAt_12 (mQ.ret (q8 h1))
theorem c_X5_saidAt_55 (mem : mmM) (x1 : Int) (hT : takeP mem) (h1 : 0 ≤ x1 ∧ x1 < mem 23 1) (hf : ∀ b, b = 0 ∨ b = 1 → 0 ≤ forgetsX mem x1 b ∧ forgetsX mem x1 b ≤ 100) (ht : 0 ≤ takeX mem x1 ∧ takeX mem x1 ≤ 100) (h9 : 0 ≤ mem 55 9 ∧ mem 55 9 ≤ 200) (h10 : 0 ≤ mem 55 10 ∧ mem 55 10 ≤ 200) (h11 : 0 ≤ mem 55 11 ∧ mem 55 11 ≤ 200) (hat : 0 ≤ mem 57 x1 ∧ mem 57 x1 ≤ 200) : con 0 bX5_saidAt 3 [(2, 55), (0, x1)] mem (saidP_55 mem x1) := by
  have hn := hT.1
  have f0 := hf 0 (Or.inl rfl)
  have f1 := hf 1 (Or.inr rfl)
  have b01 := and1_01 (shr32 (mem 55 8) x1)
  have e23 : ∀ k v, mset mem 55 k v 23 = mem 23 := fun k v => mset_ne (by decide)
  have x2 : (mset (mset (mset mem 55 7 (nextX (mem 55 7))) 55 9 (mem 55 9 + 1)) 57 x1 (mem 57 x1 + 1)) 55 7 = nextX (mem 55 7) := by
    rw [mset_ne (by decide), mset_at, if_neg (by decide), mset_same]
  have rows : ∀ (m' : mmM) (a : Nat) (k v : Int), mset m' a k v a = fun j => if j = k then v else m' a j := fun m' a k v => funext (fun j => mset_at _ _ _ _ _)
  refine cn_X5_saidAt_55 (bk_X5_saidAt_55_0 (fun g g2 g3 g4 => ?_) (fun g g2 g3 g4 => ?_) (fun g g2 g3 => ?_) (fun g g2 g3 g4 g5 => ?_) (fun g g2 g3 g4 g5 => ?_) (fun g g2 g3 g4 => ?_) (fun g g2 g3 => ?_) (fun g => absurd h1 g)
    (s2 := fun _ _ => by rw [e23]; exact hn) (s3 := fun _ _ => by rw [forgetsX_55]; omega) (s9 := fun _ _ => by rw [e23]; exact hn) (s10 := fun _ _ => by rw [forgetsX_55]; omega) (s14 := fun _ _ _ => takeP_55 (takeP_57 (takeP_55 (takeP_55 hT)))) (s15 := fun _ _ _ => by rw [takeX_55, takeX_57, takeX_55, takeX_55]; omega))
  · rw [forgetsX_55] at g3
    have hl : lostX_55 mem x1 := by unfold lostX_55; rw [g2]; exact g3
    have hs : ¬ savedX_55 mem x1 := fun z => by have := z.1; omega
    refine ⟨Or.inr (Or.inr ⟨hl, hs, rfl, ?_, ?_, ?_, ?_, ?_⟩), fun a a1 a2 => ?_, fun j j1 j2 j3 j4 => ?_⟩
    · rw [if_neg (by omega), mset_at, if_neg (by decide), mset_ne (by decide), mset_at, if_neg (by decide), mset_same]
    · rw [mset_at, if_neg (by decide), mset_ne (by decide), mset_same]
    · rw [mset_at, if_neg (by decide), mset_ne (by decide), mset_at, if_neg (by decide), mset_at, if_neg (by decide)]
    · rw [mset_same, if_neg g4]
    · rw [mset_ne (by decide), rows, mset_ne (by decide), mset_ne (by decide)]
    · rw [mset_ne a1, mset_ne a2, mset_ne a1, mset_ne a1]
    · rw [mset_at, if_neg (by omega), mset_ne (by decide), mset_at, if_neg (by omega), mset_at, if_neg (by omega)]
  · rw [forgetsX_55] at g3
    have hl : lostX_55 mem x1 := by unfold lostX_55; rw [g2]; exact g3
    have hs : ¬ savedX_55 mem x1 := fun z => by have := z.1; omega
    refine ⟨Or.inr (Or.inr ⟨hl, hs, rfl, ?_, ?_, ?_, ?_, ?_⟩), fun a a1 a2 => ?_, fun j j1 j2 j3 j4 => ?_⟩
    · rw [if_neg (by omega), mset_at, if_neg (by decide), mset_ne (by decide), mset_at, if_neg (by decide), mset_same]
    · rw [mset_at, if_neg (by decide), mset_ne (by decide), mset_same]
    · rw [mset_at, if_neg (by decide), mset_ne (by decide), mset_at, if_neg (by decide), mset_at, if_neg (by decide)]
    · rw [mset_same, if_pos g4]
    · rw [mset_ne (by decide), rows, mset_ne (by decide), mset_ne (by decide)]
    · rw [mset_ne a1, mset_ne a2, mset_ne a1, mset_ne a1]
    · rw [mset_at, if_neg (by omega), mset_ne (by decide), mset_at, if_neg (by omega), mset_at, if_neg (by omega)]
  · rw [forgetsX_55] at g3
    have hl : ¬ lostX_55 mem x1 := by unfold lostX_55; rw [g2]; omega
    refine ⟨Or.inl ⟨hl, rfl, ?_, ?_, ?_, ?_, ?_⟩, fun a a1 a2 => ?_, fun j j1 j2 j3 j4 => ?_⟩
    · rw [mset_same]
    · rw [mset_at, if_neg (by decide)]
    · rw [mset_at, if_neg (by decide)]
    · rw [mset_at, if_neg (by decide)]
    · rw [mset_ne (by decide)]
    · rw [mset_ne a1]
    · rw [mset_at, if_neg (by omega)]
  · rw [forgetsX_55] at g3
    rw [x2, takeX_55, takeX_57, takeX_55, takeX_55] at g4
    have gb : and32 (shr32 (mem 55 8) x1) 1 = 1 := by omega
    have hl : lostX_55 mem x1 := by unfold lostX_55; rw [gb]; exact g3
    have hs : ¬ savedX_55 mem x1 := fun z => by have := z.2; omega
    rw [x2]
    refine ⟨Or.inr (Or.inr ⟨hl, hs, rfl, ?_, ?_, ?_, ?_, ?_⟩), fun a a1 a2 => ?_, fun j j1 j2 j3 j4 => ?_⟩
    · rw [if_pos gb, mset_at, if_neg (by decide), mset_same]
    · rw [mset_at, if_neg (by decide), mset_at, if_neg (by decide), mset_ne (by decide), mset_same]
    · rw [mset_at, if_neg (by decide), mset_at, if_neg (by decide), mset_ne (by decide), mset_at, if_neg (by decide), mset_at, if_neg (by decide)]
    · rw [mset_same, if_neg g5]
    · rw [mset_ne (by decide), mset_ne (by decide), rows, mset_ne (by decide), mset_ne (by decide)]
    · rw [mset_ne a1, mset_ne a1, mset_ne a2, mset_ne a1, mset_ne a1]
    · rw [mset_at, if_neg (by omega), mset_at, if_neg (by omega), mset_ne (by decide), mset_at, if_neg (by omega), mset_at, if_neg (by omega)]
  · rw [forgetsX_55] at g3
    rw [x2, takeX_55, takeX_57, takeX_55, takeX_55] at g4
    have gb : and32 (shr32 (mem 55 8) x1) 1 = 1 := by omega
    have hl : lostX_55 mem x1 := by unfold lostX_55; rw [gb]; exact g3
    have hs : ¬ savedX_55 mem x1 := fun z => by have := z.2; omega
    rw [x2]
    refine ⟨Or.inr (Or.inr ⟨hl, hs, rfl, ?_, ?_, ?_, ?_, ?_⟩), fun a a1 a2 => ?_, fun j j1 j2 j3 j4 => ?_⟩
    · rw [if_pos gb, mset_at, if_neg (by decide), mset_same]
    · rw [mset_at, if_neg (by decide), mset_at, if_neg (by decide), mset_ne (by decide), mset_same]
    · rw [mset_at, if_neg (by decide), mset_at, if_neg (by decide), mset_ne (by decide), mset_at, if_neg (by decide), mset_at, if_neg (by decide)]
    · rw [mset_same, if_pos g5]
    · rw [mset_ne (by decide), mset_ne (by decide), rows, mset_ne (by decide), mset_ne (by decide)]
    · rw [mset_ne a1, mset_ne a1, mset_ne a2, mset_ne a1, mset_ne a1]
    · rw [mset_at, if_neg (by omega), mset_at, if_neg (by omega), mset_ne (by decide), mset_at, if_neg (by omega), mset_at, if_neg (by omega)]
  · rw [forgetsX_55] at g3
    rw [x2, takeX_55, takeX_57, takeX_55, takeX_55] at g4
    have gb : and32 (shr32 (mem 55 8) x1) 1 = 1 := by omega
    have hl : lostX_55 mem x1 := by unfold lostX_55; rw [gb]; exact g3
    have hs : savedX_55 mem x1 := ⟨gb, g4⟩
    rw [x2]
    refine ⟨Or.inr (Or.inl ⟨hl, hs, rfl, ?_, ?_, ?_, ?_, ?_⟩), fun a a1 a2 => ?_, fun j j1 j2 j3 j4 => ?_⟩
    · rw [mset_at, if_neg (by decide), mset_same]
    · rw [mset_at, if_neg (by decide), mset_at, if_neg (by decide), mset_ne (by decide), mset_same]
    · rw [mset_same]
    · rw [mset_at, if_neg (by decide), mset_at, if_neg (by decide), mset_ne (by decide), mset_at, if_neg (by decide), mset_at, if_neg (by decide)]
    · rw [mset_ne (by decide), mset_ne (by decide), rows, mset_ne (by decide), mset_ne (by decide)]
    · rw [mset_ne a1, mset_ne a1, mset_ne a2, mset_ne a1, mset_ne a1]
    · rw [mset_at, if_neg (by omega), mset_at, if_neg (by omega), mset_ne (by decide), mset_at, if_neg (by omega), mset_at, if_neg (by omega)]
  · rw [forgetsX_55] at g3
    have gb : and32 (shr32 (mem 55 8) x1) 1 = 1 := by omega
    have hl : ¬ lostX_55 mem x1 := by unfold lostX_55; rw [gb]; omega
    refine ⟨Or.inl ⟨hl, rfl, ?_, ?_, ?_, ?_, ?_⟩, fun a a1 a2 => ?_, fun j j1 j2 j3 j4 => ?_⟩
    · rw [mset_same]
    · rw [mset_at, if_neg (by decide)]
    · rw [mset_at, if_neg (by decide)]
    · rw [mset_at, if_neg (by decide)]
    · rw [mset_ne (by decide)]
    · rw [mset_ne a1]
    · rw [mset_at, if_neg (by omega)]
theorem cn_X10_walk_55 {d : Nat} {P : mmM → Prop} {mem : mmM} (h : mmT bX10_walk d 0 0 (mQv P) 0 [(2, 55), (9, 0), (9, 0), (9, 0)] [] mS mem) : conv bX10_walk d [(2, 55)] mem P := mmC_of [(2, 55), (9, 0), (9, 0), (9, 0)] ok_X10_walk.2.2.2.2 rfl (Nat.le_of_ble_eq_true rfl) h
theorem bk_X10_walk_55_0 {d : Nat} {P : mmM → Prop} {mem : mmM}
  (k1 : mmT bX10_walk d 0 0 (mQv P) 24 [(2, 55), (0, 0), (0, 0), (9, 0)] [] mS (mset (mset (mset (mset mem 55 3 0) 55 4 0) 55 5 2) 55 6 (-1)))
  : mmT bX10_walk d 0 0 (mQv P) 0 [(2, 55), (9, 0), (9, 0), (9, 0)] [] mS mem := by
  refine st_aload_n (i := 0) rfl (t := 0) rfl (by decide) dX10_walk_0 ?_
  refine st_iconst dX10_walk_1 ?_
  refine so_putI 55 3 fr_X10_23_5 pf_5_3 fo_55_3 rfl sh_55 ⟨by decide, by decide⟩ dX10_walk_2 ?_
  refine st_aload_n (i := 0) rfl (t := 0) rfl (by decide) dX10_walk_5 ?_
  refine st_iconst dX10_walk_6 ?_
  refine so_putI 55 4 fr_X10_27_5 pf_5_4 fo_55_4 rfl sh_55 ⟨by decide, by decide⟩ dX10_walk_7 ?_
  refine st_aload_n (i := 0) rfl (t := 0) rfl (by decide) dX10_walk_10 ?_
  refine st_iconst dX10_walk_11 ?_
  refine so_putI 55 5 fr_X10_30_5 pf_5_5 fo_55_5 rfl sh_55 ⟨by decide, by decide⟩ dX10_walk_12 ?_
  refine st_aload_n (i := 0) rfl (t := 0) rfl (by decide) dX10_walk_15 ?_
  refine st_iconst dX10_walk_16 ?_
  refine so_putI 55 6 fr_X10_33_5 pf_5_6 fo_55_6 rfl sh_55 ⟨by decide, by decide⟩ dX10_walk_17 ?_
  refine st_iconst dX10_walk_20 ?_
  refine st_istore_n (i := 1) rfl (by decide) (lc' := [(2, 55), (0, 0), (9, 0), (9, 0)]) rfl dX10_walk_21 ?_
  refine st_iconst dX10_walk_22 ?_
  refine st_istore_n (i := 2) rfl (by decide) (lc' := [(2, 55), (0, 0), (0, 0), (9, 0)]) rfl dX10_walk_23 ?_
  exact st_locals [(2, 55), (0, 0), (0, 0), (9, 0)] ⟨Or.inr rfl, Or.inr rfl, Or.inr rfl, Or.inl rfl, trivial⟩ k1
theorem bk_X10_walk_55_24 {d : Nat} {d1 : Nat} {P1 : Int → mmM → Prop} {P : mmM → Prop} {mem : mmM} {x1 x2 : Int}
  (c1 : x2 < 200 → (0 ≤ x1 ∧ x1 < (mem 23 1)) → con 0 bX5_saidAt d1 [(2, 55), (0, x1)] mem P1)
  (k1 : x2 < 200 → (0 ≤ x1 ∧ x1 < (mem 23 1)) → ∀ (v4 : Int), ∀ (m4 : mmM), P1 v4 m4 → (0 ≤ v4 ∧ v4 < (m4 23 1)) → mmT bX10_walk d 0 0 (mQv P) 24 [(2, 55), (0, (v4 + 1)), (0, (x2 + 1)), (9, 0)] [] mS (mset (mset (mset m4 56 x2 v4) 55 3 ((m4 55 3) + 1)) 55 4 ((m4 55 4) + (m4 26 v4))))
  (q1 : 200 ≤ x2 → (0 ≤ x1 ∧ x1 < (mem 23 1)) → P mem)
  (q2 : 200 ≤ x2 → ¬ (0 ≤ x1 ∧ x1 < (mem 23 1)) → P (mset mem 55 5 0))
  (q3 : x2 < 200 → ¬ (0 ≤ x1 ∧ x1 < (mem 23 1)) → (0 ≤ x1 ∧ x1 < (mem 23 1)) → P mem)
  (q4 : x2 < 200 → ¬ (0 ≤ x1 ∧ x1 < (mem 23 1)) → ¬ (0 ≤ x1 ∧ x1 < (mem 23 1)) → P (mset mem 55 5 0))
  (q5 : x2 < 200 → (0 ≤ x1 ∧ x1 < (mem 23 1)) → ∀ (v4 : Int), ∀ (m4 : mmM), P1 v4 m4 → ¬ (0 ≤ v4 ∧ v4 < (m4 23 1)) → P (mset (mset m4 55 5 1) 55 6 x1))
  (hd_d1 : d1 + 1 ≤ d := by omega)
  (hd2 : 2 ≤ d := by omega)
  (s1 : R32 x2 := by intros; first | omega | assumption | solve_by_elim)
  (s2 : 200 ≤ x2 → R32 x1 := by intros; first | omega | assumption | solve_by_elim)
  (s3 : x2 < 200 → R32 x1 := by intros; first | omega | assumption | solve_by_elim)
  (s4 : x2 < 200 → (0 ≤ x1 ∧ x1 < (mem 23 1)) → ∀ (v4 : Int), ∀ (m4 : mmM), P1 v4 m4 → R32 v4 := by intros; first | omega | assumption | solve_by_elim)
  (s5 : x2 < 200 → (0 ≤ x1 ∧ x1 < (mem 23 1)) → ∀ (v4 : Int), ∀ (m4 : mmM), P1 v4 m4 → (0 ≤ v4 ∧ v4 < (m4 23 1)) → 0 ≤ x2 ∧ x2 < 200 := by intros; first | omega | assumption | solve_by_elim)
  (s6 : x2 < 200 → (0 ≤ x1 ∧ x1 < (mem 23 1)) → ∀ (v4 : Int), ∀ (m4 : mmM), P1 v4 m4 → (0 ≤ v4 ∧ v4 < (m4 23 1)) → R32 ((m4 55 3) + 1) := by intros; first | omega | assumption | solve_by_elim)
  (s7 : x2 < 200 → (0 ≤ x1 ∧ x1 < (mem 23 1)) → ∀ (v4 : Int), ∀ (m4 : mmM), P1 v4 m4 → (0 ≤ v4 ∧ v4 < (m4 23 1)) → 0 ≤ v4 ∧ v4 < 24 := by intros; first | omega | assumption | solve_by_elim)
  (s8 : x2 < 200 → (0 ≤ x1 ∧ x1 < (mem 23 1)) → ∀ (v4 : Int), ∀ (m4 : mmM), P1 v4 m4 → (0 ≤ v4 ∧ v4 < (m4 23 1)) → R32 ((m4 55 4) + (m4 26 v4)) := by intros; first | omega | assumption | solve_by_elim)
  : mmT bX10_walk d 0 0 (mQv P) 24 [(2, 55), (0, x1), (0, x2), (9, 0)] [] mS mem := by
  refine st_iload_n (i := 2) rfl rfl dX10_walk_24 ?_
  refine st_sipush rfl dX10_walk_25 ?_
  refine sr_icmp_ge 115 s1 ⟨by decide, by decide⟩ (by decide) dX10_walk_28 (fun h1 => ?_) (fun h1 => ?_)
  · have h1 : 200 ≤ x2 := by omega
    refine st_aload_n (i := 0) rfl (t := 0) rfl (by decide) dX10_walk_115 ?_
    refine so_getA 55 0 fr_X10_15_5 rfl sh_55 fx_55_0 dX10_walk_116 ?_
    refine st_iload_n (i := 1) rfl rfl dX10_walk_119 ?_
    refine st_callV (kc2 := 0) (ks2 := 0) (av := [(0, x1)]) 23 8 mr_X10_36 ok_X8_has (c_X8_has mem x1 ((s2 h1))) rfl sh_23 ⟨_, rfl, rfl, by decide⟩ rfl rfl hd2 (Nat.le_refl 0) (Nat.le_refl 0) (Nat.le_of_ble_eq_true rfl) dX10_walk_120 (mQ.elim fun v1 m1 hp => ?_)
    obtain ⟨hpv, hpm⟩ := hp
    subst hpv
    have hpm := hpm.symm
    subst hpm
    refine so_ifneB 131 (by decide) dX10_walk_123 (fun h2 => ?_) (fun h2 => ?_)
    · have h2 : (0 ≤ x1 ∧ x1 < (mem 23 1)) := h2
      exact st_return rfl dX10_walk_131 (mQv.ret (q1 h1 h2))
    · have h2 : ¬ (0 ≤ x1 ∧ x1 < (mem 23 1)) := h2
      refine st_aload_n (i := 0) rfl (t := 0) rfl (by decide) dX10_walk_126 ?_
      refine st_iconst dX10_walk_127 ?_
      refine so_putI 55 5 fr_X10_30_5 pf_5_5 fo_55_5 rfl sh_55 ⟨by decide, by decide⟩ dX10_walk_128 ?_
      exact st_return rfl dX10_walk_131 (mQv.ret (q2 h1 h2))
  · have h1 : x2 < 200 := by omega
    refine st_aload_n (i := 0) rfl (t := 0) rfl (by decide) dX10_walk_31 ?_
    refine so_getA 55 0 fr_X10_15_5 rfl sh_55 fx_55_0 dX10_walk_32 ?_
    refine st_iload_n (i := 1) rfl rfl dX10_walk_35 ?_
    refine st_callV (kc2 := 0) (ks2 := 0) (av := [(0, x1)]) 23 8 mr_X10_36 ok_X8_has (c_X8_has mem x1 ((s3 h1))) rfl sh_23 ⟨_, rfl, rfl, by decide⟩ rfl rfl hd2 (Nat.le_refl 0) (Nat.le_refl 0) (Nat.le_of_ble_eq_true rfl) dX10_walk_36 (mQ.elim fun v2 m2 hp => ?_)
    obtain ⟨hpv, hpm⟩ := hp
    subst hpv
    have hpm := hpm.symm
    subst hpm
    refine so_ifeqB 115 (by decide) dX10_walk_39 (fun h3 => ?_) (fun h3 => ?_)
    · have h3 : ¬ (0 ≤ x1 ∧ x1 < (mem 23 1)) := h3
      refine st_aload_n (i := 0) rfl (t := 0) rfl (by decide) dX10_walk_115 ?_
      refine so_getA 55 0 fr_X10_15_5 rfl sh_55 fx_55_0 dX10_walk_116 ?_
      refine st_iload_n (i := 1) rfl rfl dX10_walk_119 ?_
      refine st_callV (kc2 := 0) (ks2 := 0) (av := [(0, x1)]) 23 8 mr_X10_36 ok_X8_has (c_X8_has mem x1 ((s3 h1))) rfl sh_23 ⟨_, rfl, rfl, by decide⟩ rfl rfl hd2 (Nat.le_refl 0) (Nat.le_refl 0) (Nat.le_of_ble_eq_true rfl) dX10_walk_120 (mQ.elim fun v3 m3 hp => ?_)
      obtain ⟨hpv, hpm⟩ := hp
      subst hpv
      have hpm := hpm.symm
      subst hpm
      refine so_ifneB 131 (by decide) dX10_walk_123 (fun h4 => ?_) (fun h4 => ?_)
      · have h4 : (0 ≤ x1 ∧ x1 < (mem 23 1)) := h4
        exact st_return rfl dX10_walk_131 (mQv.ret (q3 h1 h3 h4))
      · have h4 : ¬ (0 ≤ x1 ∧ x1 < (mem 23 1)) := h4
        refine st_aload_n (i := 0) rfl (t := 0) rfl (by decide) dX10_walk_126 ?_
        refine st_iconst dX10_walk_127 ?_
        refine so_putI 55 5 fr_X10_30_5 pf_5_5 fo_55_5 rfl sh_55 ⟨by decide, by decide⟩ dX10_walk_128 ?_
        exact st_return rfl dX10_walk_131 (mQv.ret (q4 h1 h3 h4))
    · have h3 : (0 ≤ x1 ∧ x1 < (mem 23 1)) := h3
      refine st_aload_n (i := 0) rfl (t := 0) rfl (by decide) dX10_walk_42 ?_
      refine st_iload_n (i := 1) rfl rfl dX10_walk_43 ?_
      refine st_callU _ _ _ (kc2 := 0) (ks2 := 0) (av := [(0, x1)]) 55 5 mr_X10_42_5 ok_X5_saidAt (c1 h1 h3) rfl sh_55 ⟨_, rfl, rfl, by decide⟩ rfl rfl hd_d1 (Nat.le_refl 0) (Nat.le_refl 0) (Nat.le_of_ble_eq_true rfl) dX10_walk_44 (mQ.elim fun v4 m4 p1 => ?_)
      refine st_istore_n (i := 3) rfl (by decide) (lc' := [(2, 55), (0, x1), (0, x2), (0, v4)]) rfl dX10_walk_47 ?_
      refine st_aload_n (i := 0) rfl (t := 0) rfl (by decide) dX10_walk_48 ?_
      refine so_getA 55 0 fr_X10_15_5 rfl sh_55 fx_55_0 dX10_walk_49 ?_
      refine st_iload_n (i := 3) rfl rfl dX10_walk_52 ?_
      refine st_callV (kc2 := 0) (ks2 := 0) (av := [(0, v4)]) 23 8 mr_X10_36 ok_X8_has (c_X8_has m4 v4 ((s4 h1 h3 v4 m4 p1))) rfl sh_23 ⟨_, rfl, rfl, by decide⟩ rfl rfl hd2 (Nat.le_refl 0) (Nat.le_refl 0) (Nat.le_of_ble_eq_true rfl) dX10_walk_53 (mQ.elim fun v5 m5 hp => ?_)
      obtain ⟨hpv, hpm⟩ := hp
      subst hpv
      have hpm := hpm.symm
      subst hpm
      refine so_ifneB 70 (by decide) dX10_walk_56 (fun h5 => ?_) (fun h5 => ?_)
      · have h5 : (0 ≤ v4 ∧ v4 < (m4 23 1)) := h5
        refine st_aload_n (i := 0) rfl (t := 0) rfl (by decide) dX10_walk_70 ?_
        refine so_getA 55 2 fr_X10_9_5 rfl sh_55 fx_55_2 dX10_walk_71 ?_
        refine st_iload_n (i := 2) rfl rfl dX10_walk_74 ?_
        refine st_iload_n (i := 3) rfl rfl dX10_walk_75 ?_
        refine so_iast 56 fr_56 rfl sh_56 (by decide) (s5 h1 h3 v4 m4 p1 h5) (s4 h1 h3 v4 m4 p1) dX10_walk_76 ?_
        refine st_aload_n (i := 0) rfl (t := 0) rfl (by decide) dX10_walk_77 ?_
        refine st_dup (Nat.ne_of_beq_eq_false rfl) dX10_walk_78 ?_
        refine so_getI (v := (m4 55 3)) 55 3 fr_X10_23_5 rfl sh_55 rfl dX10_walk_79 (fun r1 => ?_)
        refine st_iconst dX10_walk_82 ?_
        refine st_iadd dX10_walk_83 ?_
        refine so_putI 55 3 fr_X10_23_5 pf_5_3 fo_55_3 rfl sh_55 (s6 h1 h3 v4 m4 p1 h5) dX10_walk_84 ?_
        refine st_aload_n (i := 0) rfl (t := 0) rfl (by decide) dX10_walk_87 ?_
        refine st_dup (Nat.ne_of_beq_eq_false rfl) dX10_walk_88 ?_
        refine so_getI (v := (m4 55 4)) 55 4 fr_X10_27_5 rfl sh_55 rfl dX10_walk_89 (fun r2 => ?_)
        refine st_aload_n (i := 0) rfl (t := 0) rfl (by decide) dX10_walk_92 ?_
        refine so_getA 55 0 fr_X10_15_5 rfl sh_55 fx_55_0 dX10_walk_93 ?_
        refine so_getA 23 4 fr_X10_46_8 rfl sh_23 fx_23_4 dX10_walk_96 ?_
        refine st_iload_n (i := 3) rfl rfl dX10_walk_99 ?_
        refine so_iald (v := (m4 26 v4)) 26 rfl sh_26 (by decide) (s7 h1 h3 v4 m4 p1 h5) rfl dX10_walk_100 (fun r3 => ?_)
        refine st_iadd dX10_walk_101 ?_
        refine so_putI 55 4 fr_X10_27_5 pf_5_4 fo_55_4 rfl sh_55 (s8 h1 h3 v4 m4 p1 h5) dX10_walk_102 ?_
        refine st_iload_n (i := 3) rfl rfl dX10_walk_105 ?_
        refine st_iconst dX10_walk_106 ?_
        refine st_iadd dX10_walk_107 ?_
        refine st_istore_n (i := 1) rfl (by decide) (lc' := [(2, 55), (0, (v4 + 1)), (0, x2), (0, v4)]) rfl dX10_walk_108 ?_
        refine st_iinc (y := (x2 + 1)) (by decide) (i := 2) rfl rfl (lc' := [(2, 55), (0, (v4 + 1)), (0, (x2 + 1)), (0, v4)]) rfl dX10_walk_109 ?_
        refine st_goto 24 (by decide) dX10_walk_112 ?_
        exact st_locals [(2, 55), (0, (v4 + 1)), (0, (x2 + 1)), (9, 0)] ⟨Or.inr rfl, Or.inr rfl, Or.inr rfl, Or.inl rfl, trivial⟩ (k1 h1 h3 v4 m4 p1 h5)
      · have h5 : ¬ (0 ≤ v4 ∧ v4 < (m4 23 1)) := h5
        refine st_aload_n (i := 0) rfl (t := 0) rfl (by decide) dX10_walk_59 ?_
        refine st_iconst dX10_walk_60 ?_
        refine so_putI 55 5 fr_X10_30_5 pf_5_5 fo_55_5 rfl sh_55 ⟨by decide, by decide⟩ dX10_walk_61 ?_
        refine st_aload_n (i := 0) rfl (t := 0) rfl (by decide) dX10_walk_64 ?_
        refine st_iload_n (i := 1) rfl rfl dX10_walk_65 ?_
        refine so_putI 55 6 fr_X10_33_5 pf_5_6 fo_55_6 rfl sh_55 (s3 h1) dX10_walk_66 ?_
        exact st_return rfl dX10_walk_69 (mQv.ret (q5 h1 h3 v4 m4 p1 h5))
theorem cn_X5_play_55 {d : Nat} {P : mmM → Prop} {mem : mmM} {x1 x3 : Int} (h : mmT bX5_play d 0 0 (mQv P) 0 [(2, 55), (1, x1), (9, 0), (0, x3)] [] mS mem) : conv bX5_play d [(2, 55), (1, x1), (0, x3)] mem P := mmC_of [(2, 55), (1, x1), (9, 0), (0, x3)] ok_X5_play.2.2.2.2 rfl (Nat.le_of_ble_eq_true rfl) h
theorem bk_X5_play_55_0 {d : Nat} {d1 : Nat} {P1 : mmM → Prop} {P : mmM → Prop} {mem : mmM} {x1 x3 : Int}
  (c1 : conv bX10_walk d1 [(2, 55)] (mrow (mset (mset (mset (mset (mset mem 55 7 x1) 55 8 x3) 55 9 0) 55 10 0) 55 11 0) 57 (fun j => if 0 ≤ j ∧ j < 24 then 0 else (mset (mset (mset (mset (mset mem 55 7 x1) 55 8 x3) 55 9 0) 55 10 0) 55 11 0) 57 j)) P1)
  (q1 : ∀ (m2 : mmM), P1 m2 → P m2)
  (hd_d1 : d1 + 1 ≤ d := by omega)
  (hd2 : 2 ≤ d := by omega)
  (s1 : R64 x1 := by intros; first | omega | assumption | solve_by_elim)
  (s2 : R32 x3 := by intros; first | omega | assumption | solve_by_elim)
  : mmT bX5_play d 0 0 (mQv P) 0 [(2, 55), (1, x1), (9, 0), (0, x3)] [] mS mem := by
  refine st_aload_n (i := 0) rfl (t := 0) rfl (by decide) dX5_play_0 ?_
  refine st_lload_n (i := 1) rfl rfl dX5_play_1 ?_
  refine so_putJ 55 7 fr_X5_15_5 pf_5_7 fo_55_7 rfl sh_55 s1 dX5_play_2 ?_
  refine st_aload_n (i := 0) rfl (t := 0) rfl (by decide) dX5_play_5 ?_
  refine st_iload_n (i := 3) rfl rfl dX5_play_6 ?_
  refine so_putI 55 8 fr_X5_19_5 pf_5_8 fo_55_8 rfl sh_55 s2 dX5_play_7 ?_
  refine st_aload_n (i := 0) rfl (t := 0) rfl (by decide) dX5_play_10 ?_
  refine st_iconst dX5_play_11 ?_
  refine so_putI 55 9 fr_X5_23_5 pf_5_9 fo_55_9 rfl sh_55 ⟨by decide, by decide⟩ dX5_play_12 ?_
  refine st_aload_n (i := 0) rfl (t := 0) rfl (by decide) dX5_play_15 ?_
  refine st_iconst dX5_play_16 ?_
  refine so_putI 55 10 fr_X5_26_5 pf_5_10 fo_55_10 rfl sh_55 ⟨by decide, by decide⟩ dX5_play_17 ?_
  refine st_aload_n (i := 0) rfl (t := 0) rfl (by decide) dX5_play_20 ?_
  refine st_iconst dX5_play_21 ?_
  refine so_putI 55 11 fr_X5_29_5 pf_5_11 fo_55_11 rfl sh_55 ⟨by decide, by decide⟩ dX5_play_22 ?_
  refine st_aload_n (i := 0) rfl (t := 0) rfl (by decide) dX5_play_25 ?_
  refine so_getA 55 12 fr_X5_9_5 rfl sh_55 fx_55_12 dX5_play_26 ?_
  refine st_iconst dX5_play_29 ?_
  refine st_callS (kc2 := 0) (ks2 := 0) (av := [(2, 57), (0, 0)]) mr_X5_32 ok_J7_fill_53178 (c_fill57 (mset (mset (mset (mset (mset mem 55 7 x1) 55 8 x3) 55 9 0) 55 10 0) 55 11 0) 0 (⟨by decide, by decide⟩)) rfl rfl hd2 (Nat.le_refl 0) (Nat.le_refl 0) (Nat.le_of_ble_eq_true rfl) dX5_play_30 (mQv.elim fun m1 hp => ?_)
  have hp := hp.symm
  subst hp
  refine st_aload_n (i := 0) rfl (t := 0) rfl (by decide) dX5_play_33 ?_
  refine st_callU _ _ _ (kc2 := 0) (ks2 := 0) (av := []) 55 5 mr_X5_38_5 ok_X10_walk c1 rfl sh_55 ⟨_, rfl, rfl, by decide⟩ rfl rfl hd_d1 (Nat.le_refl 0) (Nat.le_refl 0) (Nat.le_of_ble_eq_true rfl) dX5_play_34 (mQv.elim fun m2 p1 => ?_)
  exact st_return rfl dX5_play_37 (mQv.ret (q1 m2 p1))
theorem cn_X5_secondsInAll_55 {d : Nat} {P : Int → mmM → Prop} {mem : mmM} (h : mmT bX5_secondsInAll d 0 0 (mQ 0 P) 0 [(2, 55)] [] mS mem) : con 0 bX5_secondsInAll d [(2, 55)] mem P := mmC_of [(2, 55)] ok_X5_secondsInAll.2.2.2.2 rfl (Nat.le_of_ble_eq_true rfl) h
theorem bk_X5_secondsInAll_55_0 {d : Nat} {P : Int → mmM → Prop} {mem : mmM}
  (q1 : P ((mem 55 4) + (3 * (mem 55 10))) mem)
  : mmT bX5_secondsInAll d 0 0 (mQ 0 P) 0 [(2, 55)] [] mS mem := by
  refine st_aload_n (i := 0) rfl (t := 0) rfl (by decide) dX5_secondsInAll_0 ?_
  refine so_getI (v := (mem 55 4)) 55 4 fr_X5_79_5 rfl sh_55 rfl dX5_secondsInAll_1 (fun r1 => ?_)
  refine st_iconst dX5_secondsInAll_4 ?_
  refine st_aload_n (i := 0) rfl (t := 0) rfl (by decide) dX5_secondsInAll_5 ?_
  refine so_getI (v := (mem 55 10)) 55 10 fr_X5_26_5 rfl sh_55 rfl dX5_secondsInAll_6 (fun r2 => ?_)
  refine st_imul dX5_secondsInAll_9 ?_
  refine st_iadd dX5_secondsInAll_10 ?_
  exact st_ireturn rfl dX5_secondsInAll_11 (mQ.ret q1)
/-- the class's night, after k said -/
def ntXI_55 (mem : mmM) (mk seed : Int) (k : Nat) (m : mmM) : Prop := (∀ a, a ≠ 55 → a ≠ 57 → a ≠ 56 → m a = mem a) ∧ m 55 3 = k ∧ m 55 4 = ntSec (mem 26) (forgetsX mem) (takeX mem) (mem 38) mk seed k
def ntXS_55 (s : ntT) (m : mmM) : Prop := m 55 7 = s.1 ∧ m 55 9 = s.2.2.1 ∧ m 55 10 = s.2.2.2.1 ∧ m 55 11 = s.2.2.2.2.1 ∧ ∀ j, 0 ≤ j → j < 24 → m 57 j = s.2.2.2.2.2 j
def ntXP_55 (mem : mmM) (mk seed : Int) (m : mmM) : Prop := ∃ k : Nat, ntEnd (mem 23 1) (forgetsX mem) (takeX mem) (mem 38) mk seed k ∧ ntXI_55 mem mk seed k m ∧ ntXS_55 (ntFin (mem 23 1) (forgetsX mem) (takeX mem) (mem 38) mk seed k) m ∧ m 55 5 = ntOut (mem 23 1) (forgetsX mem) (takeX mem) (mem 38) mk seed k
theorem ntXS_step_55 {mem : mmM} {mk : Int} {s : ntT} {m m' : mmM} {v : Int} (hs : ntXS_55 s m) (h8 : m 55 8 = mk) (hc : 0 ≤ s.2.1 ∧ s.2.1 < 24) (hfx : forgetsX m = forgetsX mem) (htx : takeX m = takeX mem) (h38 : m 38 = mem 38) (q : saidP_55 m s.2.1 v m') : v = ntV (forgetsX mem) (takeX mem) (mem 38) mk s ∧ ntXS_55 (ntStep (forgetsX mem) (takeX mem) (mem 38) mk s) m' := by
  obtain ⟨h7, h9, h10, h11, hat⟩ := hs
  have hL : lostX_55 m s.2.1 ↔ ntLost (forgetsX mem) mk s.1 s.2.1 := by
    unfold lostX_55
    rw [h7, h8, hfx]
  have hS : savedX_55 m s.2.1 ↔ ntSave (takeX mem) mk s.1 s.2.1 := by
    unfold savedX_55
    rw [h7, h8, htx]
  rw [saidP_55, h7, h8, h9, h10, h11, h38] at q
  have up : ∀ j, 0 ≤ j → j < 24 → (if j = s.2.1 then m 57 s.2.1 + 1 else m 57 j) = if j = s.2.1 then s.2.2.2.2.2 s.2.1 + 1 else s.2.2.2.2.2 j := by
    intro j j0 j1
    rw [hat j j0 j1, hat s.2.1 hc.1 hc.2]
  rcases q.1 with ⟨l, q1, q2, q3, q4, q5, q6⟩ | ⟨l, sv, q1, q2, q3, q4, q5, q6⟩ | ⟨l, sv, q1, q2, q3, q4, q5, q6⟩
  · have l' : ¬ ntLost (forgetsX mem) mk s.1 s.2.1 := fun z => l (hL.mpr z)
    have e : ntStep (forgetsX mem) (takeX mem) (mem 38) mk s = (nextX s.1, s.2.1 + 1, s.2.2.1, s.2.2.2.1, s.2.2.2.2.1, s.2.2.2.2.2) := if_neg l'
    have e2 : ntV (forgetsX mem) (takeX mem) (mem 38) mk s = s.2.1 := if_neg (fun z : ntLost (forgetsX mem) mk s.1 s.2.1 ∧ _ => l' z.1)
    rw [e, e2]
    exact ⟨q1, q2, q3, q4, q5, fun j j0 j1 => by rw [q6]; exact hat j j0 j1⟩
  · have l' := hL.mp l
    have s' := hS.mp sv
    have e : ntStep (forgetsX mem) (takeX mem) (mem 38) mk s = (nextX (nextX s.1), s.2.1 + 1, s.2.2.1 + 1, s.2.2.2.1 + 1, s.2.2.2.2.1, fun j => if j = s.2.1 then s.2.2.2.2.2 s.2.1 + 1 else s.2.2.2.2.2 j) := (if_pos l').trans (if_pos s')
    have e2 : ntV (forgetsX mem) (takeX mem) (mem 38) mk s = s.2.1 := if_neg (fun z : ntLost (forgetsX mem) mk s.1 s.2.1 ∧ ¬ ntSave (takeX mem) mk s.1 s.2.1 => z.2 s')
    rw [e, e2]
    exact ⟨q1, q2, q3, q4, q5, fun j j0 j1 => by rw [q6]; exact up j j0 j1⟩
  · have l' := hL.mp l
    have s' : ¬ ntSave (takeX mem) mk s.1 s.2.1 := fun z => sv (hS.mpr z)
    have e : ntStep (forgetsX mem) (takeX mem) (mem 38) mk s = ((if and32 (shr32 mk s.2.1) 1 = 1 then nextX (nextX s.1) else nextX s.1), mem 38 s.2.1 + 1, s.2.2.1 + 1, s.2.2.2.1, s.2.2.2.2.1 + (if mem 38 s.2.1 = -1 then 0 else 1), fun j => if j = s.2.1 then s.2.2.2.2.2 s.2.1 + 1 else s.2.2.2.2.2 j) := (if_pos l').trans (if_neg s')
    have e2 : ntV (forgetsX mem) (takeX mem) (mem 38) mk s = mem 38 s.2.1 := if_pos (⟨l', s'⟩ : ntLost (forgetsX mem) mk s.1 s.2.1 ∧ ¬ ntSave (takeX mem) mk s.1 s.2.1)
    rw [e, e2]
    exact ⟨q1, q2, q3, q4, q5, fun j j0 j1 => by rw [q6]; exact up j j0 j1⟩


theorem c_X10_walk_55 (mem : mmM) (mk seed : Int) (hp : nightP mem) (m0 : mmM) (h0 : ∀ a, a ≠ 55 → a ≠ 57 → a ≠ 56 → m0 a = mem a) (h8 : m0 55 8 = mk) (hs0 : ntXS_55 (seed, 0, 0, 0, 0, fun _ => 0) m0) : conv bX10_walk 4 [(2, 55)] m0 (fun m => ntXP_55 mem mk seed m) := by
  have hn := hp.1.1
  have ht : ∀ i, 0 ≤ i → i < mem 23 1 → -1 ≤ mem 38 i ∧ mem 38 i < mem 23 1 := fun i a b => (hp.1.2 i a b).2.2
  have hl : ∀ i, 0 ≤ i → i < mem 23 1 → 0 ≤ mem 26 i ∧ mem 26 i ≤ 99 := fun i a b => by have := (hp.1.2 i a b).2.1; omega
  have hT0 : takeP mem := ⟨hn, fun i a b => (hp.1.2 i a b).1⟩
  refine cn_X10_walk_55 (bk_X10_walk_55_0 ?_)
  have key : ∀ (t k : Nat) (m : mmM), t = 200 - k → k ≤ 200 → (∀ i, i < k → ntAlive (mem 23 1) (forgetsX mem) (takeX mem) (mem 38) mk seed i) → ntXI_55 mem mk seed k m → ntXS_55 (ntSt (forgetsX mem) (takeX mem) (mem 38) mk seed k) m → m 55 8 = mk → m 55 5 = 2 → mmT bX10_walk 4 0 0 (mQv (fun m => ntXP_55 mem mk seed m)) 24 [(2, 55), (0, (ntSt (forgetsX mem) (takeX mem) (mem 38) mk seed k).2.1), (0, (k : Int)), (9, 0)] [] mS m := by
    intro t
    induction t using Nat.strongRecOn with
    | _ t ih =>
      intro k m htk hk hal hi hs i8 h5
      have e23 : m 23 = mem 23 := hi.1 23 (by decide) (by decide) (by decide)
      have e24 : m 24 = mem 24 := hi.1 24 (by decide) (by decide) (by decide)
      have e26 : m 26 = mem 26 := hi.1 26 (by decide) (by decide) (by decide)
      have e37 : m 37 = mem 37 := hi.1 37 (by decide) (by decide) (by decide)
      have e38 : m 38 = mem 38 := hi.1 38 (by decide) (by decide) (by decide)
      have efx : forgetsX m = forgetsX mem := by
        funext s b
        unfold forgetsX
        rw [e23, hi.1 31 (by decide) (by decide) (by decide), hi.1 32 (by decide) (by decide) (by decide)]
      have etx : takeX m = takeX mem := by
        funext s
        unfold takeX
        rw [e23, e24, e37]
      have hT : takeP m := by
        unfold takeP
        rw [e23, e24]
        exact hT0
      have b := ntSt_come (fg := forgetsX mem) (tk := takeX mem) (mk := mk) (seed := seed) hn.1 ht k hal
      have sb := ntSec_bnd (fg := forgetsX mem) (tk := takeX mem) (mk := mk) (seed := seed) hl hn.1 ht k hal
      have cn := ntSt_cnt (forgetsX mem) (takeX mem) (mem 38) mk seed k
      have i3 := hi.2.1
      have i4 := hi.2.2
      have es : ∀ v m', saidP_55 m (ntSt (forgetsX mem) (takeX mem) (mem 38) mk seed k).2.1 v m' → (ntSt (forgetsX mem) (takeX mem) (mem 38) mk seed k).2.1 < mem 23 1 → v = ntV (forgetsX mem) (takeX mem) (mem 38) mk (ntSt (forgetsX mem) (takeX mem) (mem 38) mk seed k) ∧ ntXS_55 (ntSt (forgetsX mem) (takeX mem) (mem 38) mk seed (k + 1)) m' := fun v m' q g => ntXS_step_55 hs i8 ⟨b.1, by omega⟩ efx etx e38 q
      have cb : (0 ≤ (ntSt (forgetsX mem) (takeX mem) (mem 38) mk seed k).2.1 ∧ (ntSt (forgetsX mem) (takeX mem) (mem 38) mk seed k).2.1 < m 23 1) → con 0 bX5_saidAt 3 [(2, 55), (0, (ntSt (forgetsX mem) (takeX mem) (mem 38) mk seed k).2.1)] m (saidP_55 m (ntSt (forgetsX mem) (takeX mem) (mem 38) mk seed k).2.1) := by
        intro g
        have g' := g
        rw [e23] at g'
        have cj := cn.2.2.2 (ntSt (forgetsX mem) (takeX mem) (mem 38) mk seed k).2.1
        refine c_X5_saidAt_55 m _ hT g (fun z _ => ?_) ?_ ?_ ?_ ?_ ?_
        · rw [efx]
          exact hp.2.1 _ _
        · rw [etx]
          exact hp.2.2 _
        · rw [hs.2.1]
          omega
        · rw [hs.2.2.1]
          omega
        · rw [hs.2.2.2.1]
          omega
        · rw [hs.2.2.2.2 _ g'.1 (by omega)]
          omega
      have vb : (ntSt (forgetsX mem) (takeX mem) (mem 38) mk seed k).2.1 < mem 23 1 → -1 ≤ ntV (forgetsX mem) (takeX mem) (mem 38) mk (ntSt (forgetsX mem) (takeX mem) (mem 38) mk seed k) ∧ ntV (forgetsX mem) (takeX mem) (mem 38) mk (ntSt (forgetsX mem) (takeX mem) (mem 38) mk seed k) < mem 23 1 := fun gc => ntV_bnd hn.1 ht hal gc
      have ste : ∀ (m' : mmM) (j v : Int), j = 5 ∨ j = 6 → ntXS_55 (ntSt (forgetsX mem) (takeX mem) (mem 38) mk seed k) m' → ntXS_55 (ntSt (forgetsX mem) (takeX mem) (mem 38) mk seed k) (mset m' 55 j v) := by
        intro m' j v hj w
        exact ⟨by rw [mset_at, if_neg (by omega)]; exact w.1, by rw [mset_at, if_neg (by omega)]; exact w.2.1, by rw [mset_at, if_neg (by omega)]; exact w.2.2.1, by rw [mset_at, if_neg (by omega)]; exact w.2.2.2.1, by rw [mset_ne (by decide)]; exact w.2.2.2.2⟩
      have ste1 : ∀ (s : ntT) (m' : mmM) (j v : Int), j = 5 ∨ j = 6 → ntXS_55 s m' → ntXS_55 s (mset m' 55 j v) := by
        intro s m' j v hj w
        exact ⟨by rw [mset_at, if_neg (by omega)]; exact w.1, by rw [mset_at, if_neg (by omega)]; exact w.2.1, by rw [mset_at, if_neg (by omega)]; exact w.2.2.1, by rw [mset_at, if_neg (by omega)]; exact w.2.2.2.1, by rw [mset_ne (by decide)]; exact w.2.2.2.2⟩
      have sti : ∀ (m' : mmM) (j v : Int), j = 5 ∨ j = 6 → ntXI_55 mem mk seed k m' → ntXI_55 mem mk seed k (mset m' 55 j v) := by
        intro m' j v hj w
        exact ⟨fun a a1 a2 a3 => by rw [mset_ne a1]; exact w.1 a a1 a2 a3, by rw [mset_at, if_neg (by omega)]; exact w.2.1, by rw [mset_at, if_neg (by omega)]; exact w.2.2⟩
      refine bk_X10_walk_55_24 (fun g g2 => cb g2) (fun g g2 v m' q g3 => ?_) (fun g g2 => ?_) (fun g g2 => ?_) (fun g g2 g3 => absurd g3 g2) (fun g g2 g3 => ?_) (fun g g2 v m' q g3 => ?_) (s4 := fun _ g2 v m' q => ?_) (s6 := fun _ g2 v m' q g3 => ?_) (s7 := fun _ g2 v m' q g3 => ?_) (s8 := fun _ g2 v m' q g3 => ?_)
      · rw [e23] at g2
        have f := es v m' q g2.2
        have fa := q.2.1
        have f23 : m' 23 = mem 23 := (fa 23 (by decide) (by decide)).trans e23
        have f26 : m' 26 = mem 26 := (fa 26 (by decide) (by decide)).trans e26
        rw [f23, f.1] at g3
        have al : ntAlive (mem 23 1) (forgetsX mem) (takeX mem) (mem 38) mk seed k := ⟨by omega, g2.2, by omega⟩
        have e2 : (ntSt (forgetsX mem) (takeX mem) (mem 38) mk seed (k + 1)).2.1 = ntV (forgetsX mem) (takeX mem) (mem 38) mk (ntSt (forgetsX mem) (takeX mem) (mem 38) mk seed k) + 1 := ntStep_come _ _ _ _ _
        rw [f.1, q.2.2 3 (by decide) (by decide) (by decide) (by decide), q.2.2 4 (by decide) (by decide) (by decide) (by decide), i3, i4, f26, ← e2, ← ntSec_succ, show (k : Int) + 1 = ((k + 1 : Nat) : Int) by omega]
        refine ih (200 - (k + 1)) (by omega) (k + 1) _ rfl (by omega) (fun i z => ?_) ⟨?_, ?_, ?_⟩ ⟨?_, ?_, ?_, ?_, ?_⟩ ?_ ?_
        · rcases Nat.lt_or_ge i k with z2 | z2
          · exact hal i z2
          · rw [show i = k by omega]
            exact al
        · intro a a1 a2 a3
          rw [mset_ne a1, mset_ne a1, mset_ne a3]
          exact (fa a a1 a2).trans (hi.1 a a1 a2 a3)
        · rw [mset_at, if_neg (by decide), mset_same]
        · rw [mset_same]
        · rw [mset_at, if_neg (by decide), mset_at, if_neg (by decide), mset_ne (by decide)]
          exact f.2.1
        · rw [mset_at, if_neg (by decide), mset_at, if_neg (by decide), mset_ne (by decide)]
          exact f.2.2.1
        · rw [mset_at, if_neg (by decide), mset_at, if_neg (by decide), mset_ne (by decide)]
          exact f.2.2.2.1
        · rw [mset_at, if_neg (by decide), mset_at, if_neg (by decide), mset_ne (by decide)]
          exact f.2.2.2.2.1
        · rw [mset_ne (by decide), mset_ne (by decide), mset_ne (by decide)]
          exact f.2.2.2.2.2
        · rw [mset_at, if_neg (by decide), mset_at, if_neg (by decide), mset_ne (by decide), q.2.2 8 (by decide) (by decide) (by decide) (by decide)]
          exact i8
        · rw [mset_at, if_neg (by decide), mset_at, if_neg (by decide), mset_ne (by decide), q.2.2 5 (by decide) (by decide) (by decide) (by decide)]
          exact h5
      · rw [e23] at g2
        have o : ntOut (mem 23 1) (forgetsX mem) (takeX mem) (mem 38) mk seed k = 2 := by
          unfold ntOut
          rw [if_neg (by omega), if_pos (by omega)]
        refine ⟨k, ⟨hal, fun z => by have := z.1; omega⟩, hi, ?_, by rw [h5, o]⟩
        unfold ntFin
        rw [o]
        exact hs
      · rw [e23] at g2
        have o : ntOut (mem 23 1) (forgetsX mem) (takeX mem) (mem 38) mk seed k = 0 := by
          unfold ntOut
          rw [if_pos (by omega)]
        refine ⟨k, ⟨hal, fun z => by have := z.1; omega⟩, sti _ 5 _ (Or.inl rfl) hi, ?_, by rw [mset_same, o]⟩
        unfold ntFin
        rw [o]
        exact ste _ 5 _ (Or.inl rfl) hs
      · rw [e23] at g2
        have o : ntOut (mem 23 1) (forgetsX mem) (takeX mem) (mem 38) mk seed k = 0 := by
          unfold ntOut
          rw [if_pos (by omega)]
        refine ⟨k, ⟨hal, fun z => by have := z.2.1; omega⟩, sti _ 5 _ (Or.inl rfl) hi, ?_, by rw [mset_same, o]⟩
        unfold ntFin
        rw [o]
        exact ste _ 5 _ (Or.inl rfl) hs
      · rw [e23] at g2
        have f := es v m' q g2.2
        have fa := q.2.1
        have f23 : m' 23 = mem 23 := (fa 23 (by decide) (by decide)).trans e23
        rw [f23, f.1] at g3
        have vb := vb g2.2
        have o : ntOut (mem 23 1) (forgetsX mem) (takeX mem) (mem 38) mk seed k = 1 := by
          unfold ntOut
          rw [if_neg (by omega), if_neg (by omega)]
        have hi' : ntXI_55 mem mk seed k m' := ⟨fun a a1 a2 a3 => (fa a a1 a2).trans (hi.1 a a1 a2 a3), (q.2.2 3 (by decide) (by decide) (by decide) (by decide)).trans i3, (q.2.2 4 (by decide) (by decide) (by decide) (by decide)).trans i4⟩
        refine ⟨k, ⟨hal, fun z => by have := z.2.2; omega⟩, sti _ 6 _ (Or.inr rfl) (sti _ 5 _ (Or.inl rfl) hi'), ?_, by rw [mset_at, if_neg (by decide), mset_same, o]⟩
        unfold ntFin
        rw [if_pos o]
        exact ste1 _ _ 6 _ (Or.inr rfl) (ste1 _ _ 5 _ (Or.inl rfl) f.2)
      · rw [e23] at g2
        have f := es v m' q g2.2
        have vb := vb g2.2
        rw [f.1]
        omega
      · rw [q.2.2 3 (by decide) (by decide) (by decide) (by decide), i3]
        omega
      · have f23 : m' 23 = mem 23 := (q.2.1 23 (by decide) (by decide)).trans e23
        rw [f23] at g3
        omega
      · have f23 : m' 23 = mem 23 := (q.2.1 23 (by decide) (by decide)).trans e23
        have f26 : m' 26 = mem 26 := (q.2.1 26 (by decide) (by decide)).trans e26
        rw [f23] at g3
        have l := hl v g3.1 g3.2
        rw [q.2.2 4 (by decide) (by decide) (by decide) (by decide), i4, f26]
        omega
  refine key 200 0 _ rfl (by omega) (fun i z => by omega) ⟨?_, ?_, ?_⟩ ⟨?_, ?_, ?_, ?_, ?_⟩ ?_ ?_
  · intro a a1 a2 a3
    rw [mset_ne a1, mset_ne a1, mset_ne a1, mset_ne a1]
    exact h0 a a1 a2 a3
  · rw [mset_at, if_neg (by decide), mset_at, if_neg (by decide), mset_at, if_neg (by decide), mset_same]
    rfl
  · rw [mset_at, if_neg (by decide), mset_at, if_neg (by decide), mset_same]
    rfl
  · rw [mset_at, if_neg (by decide), mset_at, if_neg (by decide), mset_at, if_neg (by decide), mset_at, if_neg (by decide)]
    exact hs0.1
  · rw [mset_at, if_neg (by decide), mset_at, if_neg (by decide), mset_at, if_neg (by decide), mset_at, if_neg (by decide)]
    exact hs0.2.1
  · rw [mset_at, if_neg (by decide), mset_at, if_neg (by decide), mset_at, if_neg (by decide), mset_at, if_neg (by decide)]
    exact hs0.2.2.1
  · rw [mset_at, if_neg (by decide), mset_at, if_neg (by decide), mset_at, if_neg (by decide), mset_at, if_neg (by decide)]
    exact hs0.2.2.2.1
  · rw [mset_ne (by decide), mset_ne (by decide), mset_ne (by decide), mset_ne (by decide)]
    exact hs0.2.2.2.2
  · rw [mset_at, if_neg (by decide), mset_at, if_neg (by decide), mset_at, if_neg (by decide), mset_at, if_neg (by decide)]
    exact h8
  · rw [mset_at, if_neg (by decide), mset_same]
theorem c_X5_play_55 (mem : mmM) (seed mk : Int) (hp : nightP mem) (h1 : R64 seed) (h3 : R32 mk) : conv bX5_play 5 [(2, 55), (1, seed), (0, mk)] mem (fun m => ntXP_55 mem mk seed m) := by
  refine cn_X5_play_55 (bk_X5_play_55_0 (c_X10_walk_55 mem mk seed hp _ (fun a a1 a2 a3 => ?_) ?_ ⟨?_, ?_, ?_, ?_, fun j j0 j1 => ?_⟩) (fun m q => q))
  · rw [mrow_ne a2, mset_ne a1, mset_ne a1, mset_ne a1, mset_ne a1, mset_ne a1]
  · rw [mrow_ne (by decide), mset_at, if_neg (by decide), mset_at, if_neg (by decide), mset_at, if_neg (by decide), mset_same]
  · rw [mrow_ne (by decide), mset_at, if_neg (by decide), mset_at, if_neg (by decide), mset_at, if_neg (by decide), mset_at, if_neg (by decide), mset_same]
  · rw [mrow_ne (by decide), mset_at, if_neg (by decide), mset_at, if_neg (by decide), mset_same]
  · rw [mrow_ne (by decide), mset_at, if_neg (by decide), mset_same]
  · rw [mrow_ne (by decide), mset_same]
  · rw [mrow_same, if_pos ⟨j0, j1⟩]
theorem cn_X6_keep {d : Nat} {P : mmM → Prop} {mem : mmM} (h : mmT bX6_keep d 0 0 (mQv P) 0 [(2, 47), (2, 52), (9, 0)] [] mS mem) : conv bX6_keep d [(2, 47), (2, 52)] mem P := mmC_of [(2, 47), (2, 52), (9, 0)] ok_X6_keep.2.2.2.2 rfl (Nat.le_of_ble_eq_true rfl) h
theorem bk_X6_keep_0 {d : Nat} {P : mmM → Prop} {mem : mmM}
  (k1 : mmT bX6_keep d 0 0 (mQv P) 12 [(2, 47), (2, 52), (0, 0)] [] mS (mset mem 47 2 ((mem 47 2) + 1)))
  (s1 : R32 ((mem 47 2) + 1) := by intros; first | omega | assumption | solve_by_elim)
  : mmT bX6_keep d 0 0 (mQv P) 0 [(2, 47), (2, 52), (9, 0)] [] mS mem := by
  refine st_aload_n (i := 0) rfl (t := 0) rfl (by decide) dX6_keep_0 ?_
  refine st_dup (Nat.ne_of_beq_eq_false rfl) dX6_keep_1 ?_
  refine so_getI (v := (mem 47 2)) 47 2 fr_X6_25_6 rfl sh_47 rfl dX6_keep_2 (fun r1 => ?_)
  refine st_iconst dX6_keep_5 ?_
  refine st_iadd dX6_keep_6 ?_
  refine so_putI 47 2 fr_X6_25_6 pf_6_2 fo_47_2 rfl sh_47 s1 dX6_keep_7 ?_
  refine st_iconst dX6_keep_10 ?_
  refine st_istore_n (i := 2) rfl (by decide) (lc' := [(2, 47), (2, 52), (0, 0)]) rfl dX6_keep_11 ?_
  exact st_locals [(2, 47), (2, 52), (0, 0)] ⟨Or.inr rfl, Or.inr rfl, Or.inr rfl, trivial⟩ k1
theorem bk_X6_keep_12 {d : Nat} {P : mmM → Prop} {mem : mmM} {x2 : Int}
  (k1 : x2 < 24 → mmT bX6_keep d 0 0 (mQv P) 12 [(2, 47), (2, 52), (0, (x2 + 1))] [] mS (mset mem 48 x2 ((mem 48 x2) + (mem 54 x2))))
  (q1 : 24 ≤ x2 → P mem)
  (s1 : R32 x2 := by intros; first | omega | assumption | solve_by_elim)
  (s2 : x2 < 24 → 0 ≤ x2 ∧ x2 < 24 := by intros; first | omega | assumption | solve_by_elim)
  (s3 : x2 < 24 → R32 ((mem 48 x2) + (mem 54 x2)) := by intros; first | omega | assumption | solve_by_elim)
  : mmT bX6_keep d 0 0 (mQv P) 12 [(2, 47), (2, 52), (0, x2)] [] mS mem := by
  refine st_iload_n (i := 2) rfl rfl dX6_keep_12 ?_
  refine st_aload_n (i := 0) rfl (t := 0) rfl (by decide) dX6_keep_13 ?_
  refine so_getA 47 3 fr_X6_9_6 rfl sh_47 fx_47_3 dX6_keep_14 ?_
  refine so_alen (v := 24) 48 rfl sh_48 (by decide) rfl dX6_keep_17 ?_
  refine sr_icmp_ge 42 s1 ⟨by decide, by decide⟩ (by decide) dX6_keep_18 (fun h1 => ?_) (fun h1 => ?_)
  · have h1 : 24 ≤ x2 := by omega
    exact st_return rfl dX6_keep_42 (mQv.ret (q1 h1))
  · have h1 : x2 < 24 := by omega
    refine st_aload_n (i := 0) rfl (t := 0) rfl (by decide) dX6_keep_21 ?_
    refine so_getA 47 3 fr_X6_9_6 rfl sh_47 fx_47_3 dX6_keep_22 ?_
    refine st_iload_n (i := 2) rfl rfl dX6_keep_25 ?_
    refine st_dup2 (Nat.ne_of_beq_eq_false rfl) (Nat.ne_of_beq_eq_false rfl) dX6_keep_26 ?_
    refine so_iald (v := (mem 48 x2)) 48 rfl sh_48 (by decide) (s2 h1) rfl dX6_keep_27 (fun r1 => ?_)
    refine st_aload_n (i := 1) rfl (t := 0) rfl (by decide) dX6_keep_28 ?_
    refine so_getA 52 12 fr_X6_38_5 rfl sh_52 fx_52_12 dX6_keep_29 ?_
    refine st_iload_n (i := 2) rfl rfl dX6_keep_32 ?_
    refine so_iald (v := (mem 54 x2)) 54 rfl sh_54 (by decide) (s2 h1) rfl dX6_keep_33 (fun r2 => ?_)
    refine st_iadd dX6_keep_34 ?_
    refine so_iast 48 fr_48 rfl sh_48 (by decide) (s2 h1) (s3 h1) dX6_keep_35 ?_
    refine st_iinc (y := (x2 + 1)) (by decide) (i := 2) rfl rfl (lc' := [(2, 47), (2, 52), (0, (x2 + 1))]) rfl dX6_keep_36 ?_
    refine st_goto 12 (by decide) dX6_keep_39 ?_
    exact st_locals [(2, 47), (2, 52), (0, (x2 + 1))] ⟨Or.inr rfl, Or.inr rfl, Or.inr rfl, trivial⟩ (k1 h1)
theorem cn_X11_night {d : Nat} {P : Int → mmM → Prop} {mem : mmM} {x1 : Int} (h : mmT bX11_night d 0 0 (mQ 0 P) 0 [(2, 0), (1, x1), (9, 0)] [] mS mem) : con 0 bX11_night d [(2, 0), (1, x1)] mem P := mmC_of [(2, 0), (1, x1), (9, 0)] ok_X11_night.2.2.2.2 rfl (Nat.le_of_ble_eq_true rfl) h
theorem bk_X11_night_0 {d : Nat} {d1 : Nat} {P1 : mmM → Prop} {d2 : Nat} {P2 : mmM → Prop} {P : Int → mmM → Prop} {mem : mmM} {x1 : Int}
  (c1 : ¬ (mem 23 1) = 0 → conv bX5_play d1 [(2, 52), (1, x1), (0, (mem 47 0))] mem P1)
  (c2 : ¬ (mem 23 1) = 0 → ∀ (m1 : mmM), P1 m1 → conv bX6_keep d2 [(2, 47), (2, 52)] m1 P2)
  (q1 : ¬ (mem 23 1) = 0 → ∀ (m1 : mmM), P1 m1 → ∀ (m2 : mmM), P2 m2 → P (m2 52 5) m2)
  (q2 : (mem 23 1) = 0 → P (-1) mem)
  (hd_d1 : d1 + 1 ≤ d := by omega)
  (hd_d2 : d2 + 1 ≤ d := by omega)
  : mmT bX11_night d 0 0 (mQ 0 P) 0 [(2, 0), (1, x1), (9, 0)] [] mS mem := by
  refine st_aload_n (i := 0) rfl (t := 0) rfl (by decide) dX11_night_0 ?_
  refine so_getA 0 4 fr_X11_42_10 rfl sh_0 fx_0_4 dX11_night_1 ?_
  refine so_getI (v := (mem 23 1)) 23 1 fr_X11_135_8 rfl sh_23 rfl dX11_night_4 (fun r1 => ?_)
  refine sr_if_ne 12 r1 (by decide) dX11_night_7 (fun h1 => ?_) (fun h1 => ?_)
  · have h1 : ¬ (mem 23 1) = 0 := by omega
    refine st_aload_n (i := 0) rfl (t := 0) rfl (by decide) dX11_night_12 ?_
    refine so_getA 0 8 fr_X11_74_10 rfl sh_0 fx_0_8 dX11_night_13 ?_
    refine st_lload_n (i := 1) rfl rfl dX11_night_16 ?_
    refine st_aload_n (i := 0) rfl (t := 0) rfl (by decide) dX11_night_17 ?_
    refine so_getA 0 6 fr_X11_58_10 rfl sh_0 fx_0_6 dX11_night_18 ?_
    refine so_getI (v := (mem 47 0)) 47 0 fr_X11_188_6 rfl sh_47 rfl dX11_night_21 (fun r2 => ?_)
    refine st_callV (kc2 := 0) (ks2 := 0) (av := [(1, x1), (0, (mem 47 0))]) 52 5 mr_X11_215 ok_X5_play (c1 h1) rfl sh_52 ⟨_, rfl, rfl, by decide⟩ rfl rfl hd_d1 (Nat.le_refl 0) (Nat.le_refl 0) (Nat.le_of_ble_eq_true rfl) dX11_night_24 (mQv.elim fun m1 p1 => ?_)
    refine st_aload_n (i := 0) rfl (t := 0) rfl (by decide) dX11_night_27 ?_
    refine so_getA 0 6 fr_X11_58_10 rfl sh_0 fx_0_6 dX11_night_28 ?_
    refine st_aload_n (i := 0) rfl (t := 0) rfl (by decide) dX11_night_31 ?_
    refine so_getA 0 8 fr_X11_74_10 rfl sh_0 fx_0_8 dX11_night_32 ?_
    refine st_callV (kc2 := 0) (ks2 := 0) (av := [(2, 52)]) 47 6 mr_X11_218 ok_X6_keep (c2 h1 m1 p1) rfl sh_47 ⟨_, rfl, rfl, by decide⟩ rfl rfl hd_d2 (Nat.le_refl 0) (Nat.le_refl 0) (Nat.le_of_ble_eq_true rfl) dX11_night_35 (mQv.elim fun m2 p2 => ?_)
    refine st_aload_n (i := 0) rfl (t := 0) rfl (by decide) dX11_night_38 ?_
    refine so_getA 0 8 fr_X11_74_10 rfl sh_0 fx_0_8 dX11_night_39 ?_
    refine so_getI (v := (m2 52 5)) 52 5 fr_X11_222_5 rfl sh_52 rfl dX11_night_42 (fun r3 => ?_)
    exact st_ireturn rfl dX11_night_45 (mQ.ret (q1 h1 m1 p1 m2 p2))
  · have h1 : (mem 23 1) = 0 := by omega
    refine st_iconst dX11_night_10 ?_
    exact st_ireturn rfl dX11_night_11 (mQ.ret (q2 h1))
theorem cn_X11_latest {d : Nat} {P : Int → mmM → Prop} {mem : mmM} {x1 : Int} (h : mmT bX11_latest d 0 0 (mQ 0 P) 0 [(2, 0), (0, x1)] [] mS mem) : con 0 bX11_latest d [(2, 0), (0, x1)] mem P := mmC_of [(2, 0), (0, x1)] ok_X11_latest.2.2.2.2 rfl (Nat.le_of_ble_eq_true rfl) h
theorem bk_X11_latest_0 {d : Nat} {d1 : Nat} {P1 : Int → mmM → Prop} {P : Int → mmM → Prop} {mem : mmM} {x1 : Int}
  (c1 : ¬ (mem 47 2) = 0 → ¬ x1 = 0 → ¬ x1 = 1 → ¬ x1 = 2 → x1 = 3 → con 0 bX5_secondsInAll d1 [(2, 52)] mem P1)
  (q1 : ¬ (mem 47 2) = 0 → x1 = 0 → P (mem 52 3) mem)
  (q2 : ¬ (mem 47 2) = 0 → ¬ x1 = 0 → x1 = 1 → P (mem 52 9) mem)
  (q3 : ¬ (mem 47 2) = 0 → ¬ x1 = 0 → ¬ x1 = 1 → x1 = 2 → P (mem 52 10) mem)
  (q4 : ¬ (mem 47 2) = 0 → ¬ x1 = 0 → ¬ x1 = 1 → ¬ x1 = 2 → x1 = 3 → ∀ (v1 : Int), ∀ (m1 : mmM), P1 v1 m1 → P v1 m1)
  (q5 : ¬ (mem 47 2) = 0 → ¬ x1 = 0 → ¬ x1 = 1 → ¬ x1 = 2 → ¬ x1 = 3 → x1 = 4 → P (mem 52 11) mem)
  (q6 : ¬ (mem 47 2) = 0 → ¬ x1 = 0 → ¬ x1 = 1 → ¬ x1 = 2 → ¬ x1 = 3 → ¬ x1 = 4 → P (-1) mem)
  (q7 : (mem 47 2) = 0 → P (-1) mem)
  (hd_d1 : d1 + 1 ≤ d := by omega)
  (s1 : ¬ (mem 47 2) = 0 → R32 x1 := by intros; first | omega | assumption | solve_by_elim)
  : mmT bX11_latest d 0 0 (mQ 0 P) 0 [(2, 0), (0, x1)] [] mS mem := by
  refine st_aload_n (i := 0) rfl (t := 0) rfl (by decide) dX11_latest_0 ?_
  refine so_getA 0 6 fr_X11_58_10 rfl sh_0 fx_0_6 dX11_latest_1 ?_
  refine so_getI (v := (mem 47 2)) 47 2 fr_X11_223_6 rfl sh_47 rfl dX11_latest_4 (fun r1 => ?_)
  refine sr_if_ne 12 r1 (by decide) dX11_latest_7 (fun h1 => ?_) (fun h1 => ?_)
  · have h1 : ¬ (mem 47 2) = 0 := by omega
    refine st_iload_n (i := 1) rfl rfl dX11_latest_12 ?_
    by_cases h2 : x1 = 0
    · refine so_tabI 48 (s1 h1) 0 h2 (by decide) (by decide) rfl (by decide) dX11_latest_13 ?_
      refine st_aload_n (i := 0) rfl (t := 0) rfl (by decide) dX11_latest_48 ?_
      refine so_getA 0 8 fr_X11_74_10 rfl sh_0 fx_0_8 dX11_latest_49 ?_
      refine so_getI (v := (mem 52 3)) 52 3 fr_X11_226_5 rfl sh_52 rfl dX11_latest_52 (fun r2 => ?_)
      exact st_ireturn rfl dX11_latest_55 (mQ.ret (q1 h1 h2))
    by_cases h3 : x1 = 1
    · refine so_tabI 56 (s1 h1) 1 h3 (by decide) (by decide) rfl (by decide) dX11_latest_13 ?_
      refine st_aload_n (i := 0) rfl (t := 0) rfl (by decide) dX11_latest_56 ?_
      refine so_getA 0 8 fr_X11_74_10 rfl sh_0 fx_0_8 dX11_latest_57 ?_
      refine so_getI (v := (mem 52 9)) 52 9 fr_X11_227_5 rfl sh_52 rfl dX11_latest_60 (fun r3 => ?_)
      exact st_ireturn rfl dX11_latest_63 (mQ.ret (q2 h1 h2 h3))
    by_cases h4 : x1 = 2
    · refine so_tabI 64 (s1 h1) 2 h4 (by decide) (by decide) rfl (by decide) dX11_latest_13 ?_
      refine st_aload_n (i := 0) rfl (t := 0) rfl (by decide) dX11_latest_64 ?_
      refine so_getA 0 8 fr_X11_74_10 rfl sh_0 fx_0_8 dX11_latest_65 ?_
      refine so_getI (v := (mem 52 10)) 52 10 fr_X11_230_5 rfl sh_52 rfl dX11_latest_68 (fun r4 => ?_)
      exact st_ireturn rfl dX11_latest_71 (mQ.ret (q3 h1 h2 h3 h4))
    by_cases h5 : x1 = 3
    · refine so_tabI 72 (s1 h1) 3 h5 (by decide) (by decide) rfl (by decide) dX11_latest_13 ?_
      refine st_aload_n (i := 0) rfl (t := 0) rfl (by decide) dX11_latest_72 ?_
      refine so_getA 0 8 fr_X11_74_10 rfl sh_0 fx_0_8 dX11_latest_73 ?_
      refine st_callV (kc2 := 0) (ks2 := 0) (av := []) 52 5 mr_X11_233 ok_X5_secondsInAll (c1 h1 h2 h3 h4 h5) rfl sh_52 ⟨_, rfl, rfl, by decide⟩ rfl rfl hd_d1 (Nat.le_refl 0) (Nat.le_refl 0) (Nat.le_of_ble_eq_true rfl) dX11_latest_76 (mQ.elim fun v1 m1 p1 => ?_)
      exact st_ireturn rfl dX11_latest_79 (mQ.ret (q4 h1 h2 h3 h4 h5 v1 m1 p1))
    by_cases h6 : x1 = 4
    · refine so_tabI 80 (s1 h1) 4 h6 (by decide) (by decide) rfl (by decide) dX11_latest_13 ?_
      refine st_aload_n (i := 0) rfl (t := 0) rfl (by decide) dX11_latest_80 ?_
      refine so_getA 0 8 fr_X11_74_10 rfl sh_0 fx_0_8 dX11_latest_81 ?_
      refine so_getI (v := (mem 52 11)) 52 11 fr_X11_236_5 rfl sh_52 rfl dX11_latest_84 (fun r5 => ?_)
      exact st_ireturn rfl dX11_latest_87 (mQ.ret (q5 h1 h2 h3 h4 h5 h6))
    refine so_tabO 88 (s1 h1) (by omega) (by decide) dX11_latest_13 ?_
    refine st_iconst dX11_latest_88 ?_
    exact st_ireturn rfl dX11_latest_89 (mQ.ret (q6 h1 h2 h3 h4 h5 h6))
  · have h1 : (mem 47 2) = 0 := by omega
    refine st_iconst dX11_latest_10 ?_
    exact st_ireturn rfl dX11_latest_11 (mQ.ret (q7 h1))
def keepX (mem : mmM) : mmM := rowTo (mset mem 47 2 (mem 47 2 + 1)) 48 (fun i => mem 48 i + mem 54 i) 24
theorem c_X6_keep (mem : mmM) (hk : 0 ≤ mem 47 2 ∧ mem 47 2 < 100000) (hl : ∀ i, 0 ≤ i → i < 24 → R32 (mem 48 i + mem 54 i)) : conv bX6_keep 0 [(2, 47), (2, 52)] mem (fun m => m = keepX mem) := by
  refine cn_X6_keep (bk_X6_keep_0 ?_)
  refine loop_up (n := 24) (fun i => ∀ m, m = rowTo (mset mem 47 2 (mem 47 2 + 1)) 48 (fun i => mem 48 i + mem 54 i) i → mmT bX6_keep 0 0 0 (mQv (fun m => m = keepX mem)) 12 [(2, 47), (2, 52), (0, i)] [] mS m) (fun i h0 h1 ih m hm => ?_) 0 (by omega) (by omega) _ (rowTo_0 _ _ _).symm
  have e48 : m 48 i = mem 48 i := by rw [hm, rowTo_out _ _ _ (by omega), mset_ne (by decide)]
  have e54 : m 54 = mem 54 := by rw [hm, rowTo_ne _ _ _ (by decide), mset_ne (by decide)]
  refine bk_X6_keep_12 (fun g => ih g _ ?_) (fun g => ?_) (s3 := fun g => by rw [e48, e54]; exact hl i h0 g)
  · rw [e48, e54, hm]
    exact rowTo_step _ 48 (fun i => mem 48 i + mem 54 i) h0
  · rw [hm, show i = 24 by omega]
    rfl
theorem ntFin_cnt (n : Int) (fg : Int → Int → Int) (tk to : Int → Int) (mk seed : Int) (k : Nat) (j : Int) : 0 ≤ (ntFin n fg tk to mk seed k).2.2.2.2.2 j ∧ (ntFin n fg tk to mk seed k).2.2.2.2.2 j ≤ k + 1 := by
  unfold ntFin
  split
  · have := (ntSt_cnt fg tk to mk seed (k + 1)).2.2.2 j
    omega
  · have := (ntSt_cnt fg tk to mk seed k).2.2.2 j
    omega
theorem ntEnd_200 {n : Int} {fg : Int → Int → Int} {tk to : Int → Int} {mk seed : Int} {k : Nat} (h : ntEnd n fg tk to mk seed k) : k ≤ 200 := by
  refine Nat.le_of_not_lt (fun z => ?_)
  have := (h.1 200 z).1
  omega
theorem c_X11_night (mem : mmM) (x1 : Int) (h1 : R64 x1) (hp : nightP mem) (hm : R32 (mem 47 0)) (hk : 0 ≤ mem 47 2 ∧ mem 47 2 < 100000) (hl : ∀ i, 0 ≤ i → i < 24 → 0 ≤ mem 48 i ∧ mem 48 i < 1000000000) : con 0 bX11_night 6 [(2, 0), (1, x1)] mem (fun v m => (mem 23 1 = 0 ∧ v = -1 ∧ m = mem) ∨ (¬ mem 23 1 = 0 ∧ ∃ m1, ntXP_52 mem (mem 47 0) x1 m1 ∧ m = keepX m1 ∧ v = m1 52 5)) := by
  refine cn_X11_night (bk_X11_night_0 (d2 := 0) (P2 := fun m => ∃ m1, ntXP_52 mem (mem 47 0) x1 m1 ∧ m = keepX m1) (fun g => c_X5_play_52 mem x1 (mem 47 0) hp h1 hm) (fun g m1 q => ?_) (fun g m1 q m2 q2 => ?_) (fun g => Or.inl ⟨g, rfl, rfl⟩))
  · obtain ⟨k, hk1, hi, hs, h5⟩ := id q
    have e47 : m1 47 = mem 47 := hi.1 47 (by decide) (by decide) (by decide)
    have e48 : m1 48 = mem 48 := hi.1 48 (by decide) (by decide) (by decide)
    have k2 := ntEnd_200 hk1
    have c := c_X6_keep m1 (by rw [e47]; exact hk) (fun i i0 i1 => by
      have a := ntFin_cnt (mem 23 1) (forgetsX mem) (takeX mem) (mem 38) (mem 47 0) x1 k i
      have b := hl i i0 i1
      rw [e48, hs.2.2.2.2 i i0 i1]
      omega)
    exact conv.mono c (fun m e => ⟨m1, q, e⟩)
  · obtain ⟨m3, q3, e⟩ := q2
    refine Or.inr ⟨g, m3, q3, e, ?_⟩
    have : keepX m3 52 5 = m3 52 5 := by
      unfold keepX
      rw [rowTo_ne _ _ _ (by decide), mset_ne (by decide)]
    rw [e, this]
theorem c_X5_secondsInAll_52 (mem : mmM) : con 0 bX5_secondsInAll 0 [(2, 52)] mem (fun v m => v = mem 52 4 + 3 * mem 52 10 ∧ m = mem) := cn_X5_secondsInAll_52 (bk_X5_secondsInAll_52_0 ⟨rfl, rfl⟩)
theorem c_X11_latest (mem : mmM) (x1 : Int) (h1 : R32 x1) : con 0 bX11_latest 2 [(2, 0), (0, x1)] mem (fun v m => v = (if mem 47 2 = 0 then -1 else if x1 = 0 then mem 52 3 else if x1 = 1 then mem 52 9 else if x1 = 2 then mem 52 10 else if x1 = 3 then mem 52 4 + 3 * mem 52 10 else if x1 = 4 then mem 52 11 else -1) ∧ m = mem) := by
  refine cn_X11_latest (bk_X11_latest_0 (P1 := fun v m => v = mem 52 4 + 3 * mem 52 10 ∧ m = mem) (fun _ _ _ _ _ => c_X5_secondsInAll_52 mem) ?_ ?_ ?_ (fun g g1 g2 g3 g4 v m q => ⟨?_, q.2⟩) ?_ ?_ ?_)
  · intros; refine ⟨?_, rfl⟩; (repeat' split) <;> first | rfl | omega
  · intros; refine ⟨?_, rfl⟩; (repeat' split) <;> first | rfl | omega
  · intros; refine ⟨?_, rfl⟩; (repeat' split) <;> first | rfl | omega
  · have := q.1
    (repeat' split) <;> first | exact this | omega
  · intros; refine ⟨?_, rfl⟩; (repeat' split) <;> first | rfl | omega
  · intros; refine ⟨?_, rfl⟩; (repeat' split) <;> first | rfl | omega
  · intros; refine ⟨?_, rfl⟩; (repeat' split) <;> first | rfl | omega
/-! ## the model's night -/
/-- cells that a night of the model leaves alone -/
def nightFr (mem m : mmM) : Prop := (∀ a, a ≠ 65 → a ≠ 74 → a ≠ 75 → a ≠ 86 → a ≠ 88 → m a = mem a) ∧ (∀ j, j < 36 ∨ 43 < j → m 65 j = mem 65 j)
theorem nightFr.trans {a b c : mmM} (h : nightFr a b) (h2 : nightFr b c) : nightFr a c := ⟨fun x h1 h2' h3 h4 h5 => (h2.1 x h1 h2' h3 h4 h5).trans (h.1 x h1 h2' h3 h4 h5), fun j hj => (h2.2 j hj).trans (h.2 j hj)⟩
theorem nightFr.refl (a : mmM) : nightFr a a := ⟨fun _ _ _ _ _ _ => rfl, fun _ _ => rfl⟩
theorem nightFr.s65 {mem m : mmM} (h : nightFr mem m) {j v : Int} (hj : 36 ≤ j ∧ j ≤ 43) : nightFr mem (mset m 65 j v) := ⟨fun a h1 h2 h3 h4 h5 => by rw [mset_ne h1]; exact h.1 a h1 h2 h3 h4 h5, fun i hi => by rw [mset_at, if_neg (by omega)]; exact h.2 i hi⟩
theorem nightFr.s88 {mem m : mmM} (h : nightFr mem m) {j v : Int} : nightFr mem (mset m 88 j v) := ⟨fun a h1 h2 h3 h4 h5 => by rw [mset_ne h5]; exact h.1 a h1 h2 h3 h4 h5, fun i hi => by rw [mset_ne (by decide)]; exact h.2 i hi⟩
theorem nightFr.s86 {mem m : mmM} (h : nightFr mem m) {j v : Int} : nightFr mem (mset m 86 j v) := ⟨fun a h1 h2 h3 h4 h5 => by rw [mset_ne h4]; exact h.1 a h1 h2 h3 h4 h5, fun i hi => by rw [mset_ne (by decide)]; exact h.2 i hi⟩
theorem nightFr.say {mem m : mmM} (h : nightFr mem m) (s : Int) : nightFr mem (sayM m s) := ((h.s86).s65 (by omega)).s65 (by omega)
theorem nightFr.play {mem m : mmM} (h : nightFr mem m) (hp : playM mem) : playM m := playM_congr hp (h.2 27 (by omega)) (h.1 79 (by decide) (by decide) (by decide) (by decide) (by decide)) (h.1 80 (by decide) (by decide) (by decide) (by decide) (by decide)) (h.1 81 (by decide) (by decide) (by decide) (by decide) (by decide))
theorem nightFr.leap {mem m : mmM} (h : nightFr mem m) : leapM m = leapM mem := leapM_congr (h.2 27 (by omega)) (h.1 79 (by decide) (by decide) (by decide) (by decide) (by decide)) (h.1 80 (by decide) (by decide) (by decide) (by decide) (by decide)) (h.1 83 (by decide) (by decide) (by decide) (by decide) (by decide))
def lostM (mem : mmM) (F : Int → Int) (s : Int) : Prop := drawS (mem 65 40) < F s
def savedM (mem : mmM) (s : Int) : Prop := and32 (shr32 (mem 65 31) s) 1 = 1 ∧ drawS (nextX (mem 65 40)) < mem 84 (mem 79 s)
def at1 (f : Int → Int) (s : Int) : Int → Int := fun j => if j = s then f s + 1 else f j
def comeP (mem : mmM) (F : Int → Int) (s v : Int) (m : mmM) : Prop :=
  ((¬ lostM mem F s ∧ v = s + 1 ∧ m 65 40 = nextX (mem 65 40) ∧ m 65 41 = mem 65 41 ∧ m 65 42 = mem 65 42 ∧ m 65 43 = mem 65 43 ∧ m 88 = mem 88 ∧ m 65 36 = mem 65 36 + 1 ∧ m 65 39 = mem 65 39 + mem 81 s ∧ m 65 37 = mem 65 37 ∧ m 65 38 = mem 65 38) ∨
  (lostM mem F s ∧ savedM mem s ∧ v = s + 1 ∧ m 65 40 = nextX (nextX (mem 65 40)) ∧ m 65 41 = mem 65 41 + 1 ∧ m 65 42 = mem 65 42 + 1 ∧ m 65 43 = mem 65 43 ∧ m 88 = at1 (mem 88) s ∧ m 65 36 = mem 65 36 + 1 ∧ m 65 39 = mem 65 39 + 3 + mem 81 s ∧ m 65 37 = mem 65 37 ∧ m 65 38 = mem 65 38) ∨
  (lostM mem F s ∧ ¬ savedM mem s ∧ ¬ leapM mem s = -1 ∧ v = leapM mem s + 1 ∧ m 65 40 = (if and32 (shr32 (mem 65 31) s) 1 = 1 then nextX (nextX (mem 65 40)) else nextX (mem 65 40)) ∧ m 65 41 = mem 65 41 + 1 ∧ m 65 42 = mem 65 42 ∧ m 65 43 = mem 65 43 + 1 ∧ m 88 = at1 (mem 88) s ∧ m 65 36 = mem 65 36 + 1 ∧ m 65 39 = mem 65 39 + mem 81 (leapM mem s) ∧ m 65 37 = mem 65 37 ∧ m 65 38 = mem 65 38) ∨
  (lostM mem F s ∧ ¬ savedM mem s ∧ leapM mem s = -1 ∧ v = -1 ∧ m 65 40 = (if and32 (shr32 (mem 65 31) s) 1 = 1 then nextX (nextX (mem 65 40)) else nextX (mem 65 40)) ∧ m 65 41 = mem 65 41 + 1 ∧ m 65 42 = mem 65 42 ∧ m 65 43 = mem 65 43 ∧ m 88 = at1 (mem 88) s ∧ m 65 36 = mem 65 36 ∧ m 65 39 = mem 65 39 ∧ m 65 37 = 1 ∧ m 65 38 = s)) ∧ nightFr mem m
theorem say_at (A : mmM) (s : Int) : (∀ j, j ≠ 36 → j ≠ 39 → sayM A s 65 j = A 65 j) ∧ sayM A s 65 36 = A 65 36 + 1 ∧ sayM A s 65 39 = A 65 39 + A 81 s ∧ sayM A s 88 = A 88 := by
  unfold sayM
  refine ⟨fun j h1 h2 => ?_, ?_, ?_, ?_⟩
  · rw [mset_at, if_neg h2, mset_at, if_neg h1, mset_ne (by decide)]
  · rw [mset_at, if_neg (by decide), mset_same]
  · rw [mset_same]
  · rw [mset_ne (by decide), mset_ne (by decide), mset_ne (by decide)]
/-- what stands after a speech of the model is lost, before it leaps -/
def cmA (mem : mmM) (x1 x : Int) (A : mmM) : Prop := nightFr mem A ∧ A 65 40 = x ∧ A 65 41 = mem 65 41 + 1 ∧ (∀ j, j ≠ 40 → j ≠ 41 → A 65 j = mem 65 j) ∧ A 88 = at1 (mem 88) x1 ∧ A 81 = mem 81
def loseP (mem : mmM) (x1 x v : Int) (m : mmM) : Prop := nightFr mem m ∧ m 65 40 = x ∧ m 65 41 = mem 65 41 + 1 ∧ m 65 42 = mem 65 42 ∧ m 65 43 = mem 65 43 ∧ m 88 = at1 (mem 88) x1 ∧
  ((¬ leapM mem x1 = -1 ∧ v = leapM mem x1 + 1 ∧ m 65 36 = mem 65 36 + 1 ∧ m 65 39 = mem 65 39 + mem 81 (leapM mem x1) ∧ m 65 37 = mem 65 37 ∧ m 65 38 = mem 65 38) ∨ (leapM mem x1 = -1 ∧ v = -1 ∧ m 65 36 = mem 65 36 ∧ m 65 39 = mem 65 39 ∧ m 65 37 = 1 ∧ m 65 38 = x1))
theorem lose_come {mem : mmM} {F : Int → Int} {x1 v x : Int} {m : mmM} (w : Int) (hl : lostM mem F x1) (hs : ¬ savedM mem x1) (hx : x = if and32 (shr32 (mem 65 31) x1) 1 = 1 then nextX (nextX (mem 65 40)) else nextX (mem 65 40)) (h : loseP mem x1 x v m) (hw : w = if v = -1 then 0 else 1) (hb : 0 ≤ x1 ∧ x1 < mem 65 27) : comeP mem F x1 v (mset m 65 43 (m 65 43 + w)) := by
  have lb := leapM_bnd hb
  obtain ⟨f, e40, e41, e42, e43, e88, r⟩ := h
  refine ⟨?_, f.s65 (by omega)⟩
  rcases r with ⟨r0, r1, r2, r3, r4, r5⟩ | ⟨r0, r1, r2, r3, r4, r5⟩
  · refine Or.inr (Or.inr (Or.inl ⟨hl, hs, r0, r1, ?_, ?_, ?_, ?_, ?_, ?_, ?_, ?_, ?_⟩))
    · rw [mset_at, if_neg (by decide), e40, hx]
    · rw [mset_at, if_neg (by decide)]; exact e41
    · rw [mset_at, if_neg (by decide)]; exact e42
    · rw [mset_same, e43, hw, if_neg (by omega)]
    · rw [mset_ne (by decide)]; exact e88
    · rw [mset_at, if_neg (by decide)]; exact r2
    · rw [mset_at, if_neg (by decide)]; exact r3
    · rw [mset_at, if_neg (by decide)]; exact r4
    · rw [mset_at, if_neg (by decide)]; exact r5
  · refine Or.inr (Or.inr (Or.inr ⟨hl, hs, r0, r1, ?_, ?_, ?_, ?_, ?_, ?_, ?_, ?_, ?_⟩))
    · rw [mset_at, if_neg (by decide), e40, hx]
    · rw [mset_at, if_neg (by decide)]; exact e41
    · rw [mset_at, if_neg (by decide)]; exact e42
    · rw [mset_same, e43, hw, if_pos r1, Int.add_zero]
    · rw [mset_ne (by decide)]; exact e88
    · rw [mset_at, if_neg (by decide)]; exact r2
    · rw [mset_at, if_neg (by decide)]; exact r3
    · rw [mset_at, if_neg (by decide)]; exact r4
    · rw [mset_at, if_neg (by decide)]; exact r5
/-! the model's whole night -/
abbrev fgM (F : Int → Int) : Int → Int → Int := fun s _ => F s
abbrev tkM (mem : mmM) : Int → Int := fun s => mem 84 (mem 79 s)
def ntMS (mem : mmM) (s : ntT) (m : mmM) : Prop := m 65 40 = s.1 ∧ m 65 41 = s.2.2.1 ∧ m 65 42 = s.2.2.2.1 ∧ m 65 43 = s.2.2.2.2.1 ∧ ∀ j, 0 ≤ j → j < mem 65 27 → m 88 j = s.2.2.2.2.2 j
def ntMI (mem : mmM) (F : Int → Int) (seed : Int) (k : Nat) (m : mmM) : Prop := nightFr mem m ∧ m 65 36 = k ∧ ntMS mem (ntSt (fgM F) (tkM mem) (leapM mem) (mem 65 31) seed k) m ∧ m 65 39 = ntSec (mem 81) (fgM F) (tkM mem) (leapM mem) (mem 65 31) seed k + 3 * (ntSt (fgM F) (tkM mem) (leapM mem) (mem 65 31) seed k).2.2.2.1
def ntMP (mem : mmM) (F : Int → Int) (seed : Int) (m : mmM) : Prop := ∃ k : Nat, ntEnd (mem 65 27) (fgM F) (tkM mem) (leapM mem) (mem 65 31) seed k ∧ nightFr mem m ∧ m 65 36 = k ∧ ntMS mem (ntFin (mem 65 27) (fgM F) (tkM mem) (leapM mem) (mem 65 31) seed k) m ∧ m 65 39 = ntSec (mem 81) (fgM F) (tkM mem) (leapM mem) (mem 65 31) seed k + 3 * (ntFin (mem 65 27) (fgM F) (tkM mem) (leapM mem) (mem 65 31) seed k).2.2.2.1 ∧ m 65 37 = ntOut (mem 65 27) (fgM F) (tkM mem) (leapM mem) (mem 65 31) seed k
theorem come_step {mem : mmM} {F : Int → Int} {seed : Int} {k : Nat} {m m' : mmM} {v : Int} (hi : ntMI mem F seed k m) (hc : 0 ≤ (ntSt (fgM F) (tkM mem) (leapM mem) (mem 65 31) seed k).2.1 ∧ (ntSt (fgM F) (tkM mem) (leapM mem) (mem 65 31) seed k).2.1 < mem 65 27) (q : comeP m F (ntSt (fgM F) (tkM mem) (leapM mem) (mem 65 31) seed k).2.1 v m') :
    nightFr mem m' ∧ ntMS mem (ntSt (fgM F) (tkM mem) (leapM mem) (mem 65 31) seed (k + 1)) m' ∧
    ((¬ ntV (fgM F) (tkM mem) (leapM mem) (mem 65 31) (ntSt (fgM F) (tkM mem) (leapM mem) (mem 65 31) seed k) = -1 ∧ v = (ntSt (fgM F) (tkM mem) (leapM mem) (mem 65 31) seed (k + 1)).2.1 ∧ ntMI mem F seed (k + 1) m' ∧ m' 65 37 = m 65 37) ∨
     (ntV (fgM F) (tkM mem) (leapM mem) (mem 65 31) (ntSt (fgM F) (tkM mem) (leapM mem) (mem 65 31) seed k) = -1 ∧ m' 65 36 = k ∧ m' 65 37 = 1 ∧ m' 65 39 = ntSec (mem 81) (fgM F) (tkM mem) (leapM mem) (mem 65 31) seed k + 3 * (ntSt (fgM F) (tkM mem) (leapM mem) (mem 65 31) seed (k + 1)).2.2.2.1)) := by
  obtain ⟨f, h36, ⟨h40, h41, h42, h43, h88⟩, h39⟩ := hi
  have e31 : m 65 31 = mem 65 31 := f.2 31 (by omega)
  have el : leapM m = leapM mem := f.leap
  have e79 : m 79 = mem 79 := f.1 79 (by decide) (by decide) (by decide) (by decide) (by decide)
  have e84 : m 84 = mem 84 := f.1 84 (by decide) (by decide) (by decide) (by decide) (by decide)
  have e81 : m 81 = mem 81 := f.1 81 (by decide) (by decide) (by decide) (by decide) (by decide)
  have e1 : ntSt (fgM F) (tkM mem) (leapM mem) (mem 65 31) seed (k + 1) = ntStep (fgM F) (tkM mem) (leapM mem) (mem 65 31) (ntSt (fgM F) (tkM mem) (leapM mem) (mem 65 31) seed k) := rfl
  have sec := ntSec_succ (mem 81) (fgM F) (tkM mem) (leapM mem) (mem 65 31) seed k
  unfold ntMI
  rw [sec, e1]
  rw [comeP] at q
  unfold lostM savedM at q
  rw [h40, h41, h42, h43, h36, h39, e31, el, e79, e84, e81] at q
  generalize ntSec (mem 81) (fgM F) (tkM mem) (leapM mem) (mem 65 31) seed k = sc at q sec ⊢
  generalize ntSt (fgM F) (tkM mem) (leapM mem) (mem 65 31) seed k = s at hc h88 q ⊢
  have fr : nightFr mem m' := f.trans q.2
  have up : ∀ j, 0 ≤ j → j < mem 65 27 → at1 (m 88) s.2.1 j = if j = s.2.1 then s.2.2.2.2.2 s.2.1 + 1 else s.2.2.2.2.2 j := by
    intro j j0 j1
    unfold at1
    rw [h88 j j0 j1, h88 s.2.1 hc.1 hc.2]
  rcases q.1 with ⟨l, q1, q40, q41, q42, q43, q88, q36, q39, q37, q38⟩ | ⟨l, sv, q1, q40, q41, q42, q43, q88, q36, q39, q37, q38⟩ | ⟨l, sv, w, q1, q40, q41, q42, q43, q88, q36, q39, q37, q38⟩ | ⟨l, sv, w, q1, q40, q41, q42, q43, q88, q36, q39, q37, q38⟩
  · have e : ntStep (fgM F) (tkM mem) (leapM mem) (mem 65 31) s = (nextX s.1, s.2.1 + 1, s.2.2.1, s.2.2.2.1, s.2.2.2.2.1, s.2.2.2.2.2) := if_neg l
    have e2 : ntV (fgM F) (tkM mem) (leapM mem) (mem 65 31) s = s.2.1 := if_neg (fun z : ntLost (fgM F) (mem 65 31) s.1 s.2.1 ∧ _ => l z.1)
    rw [e, e2]
    have S : ntMS mem (nextX s.1, s.2.1 + 1, s.2.2.1, s.2.2.2.1, s.2.2.2.2.1, s.2.2.2.2.2) m' := ⟨q40, q41, q42, q43, fun j j0 j1 => by rw [q88]; exact h88 j j0 j1⟩
    refine ⟨fr, S, Or.inl ⟨by omega, q1, ⟨fr, by rw [q36]; omega, S, ?_⟩, q37⟩⟩
    show m' 65 39 = sc + mem 81 s.2.1 + 3 * s.2.2.2.1
    omega
  · have e : ntStep (fgM F) (tkM mem) (leapM mem) (mem 65 31) s = (nextX (nextX s.1), s.2.1 + 1, s.2.2.1 + 1, s.2.2.2.1 + 1, s.2.2.2.2.1, fun j => if j = s.2.1 then s.2.2.2.2.2 s.2.1 + 1 else s.2.2.2.2.2 j) := (if_pos l).trans (if_pos sv)
    have e2 : ntV (fgM F) (tkM mem) (leapM mem) (mem 65 31) s = s.2.1 := if_neg (fun z : ntLost (fgM F) (mem 65 31) s.1 s.2.1 ∧ ¬ ntSave (tkM mem) (mem 65 31) s.1 s.2.1 => z.2 sv)
    rw [e, e2]
    have S : ntMS mem (nextX (nextX s.1), s.2.1 + 1, s.2.2.1 + 1, s.2.2.2.1 + 1, s.2.2.2.2.1, fun j => if j = s.2.1 then s.2.2.2.2.2 s.2.1 + 1 else s.2.2.2.2.2 j) m' := ⟨q40, q41, q42, q43, fun j j0 j1 => by rw [q88]; exact up j j0 j1⟩
    refine ⟨fr, S, Or.inl ⟨by omega, q1, ⟨fr, by rw [q36]; omega, S, ?_⟩, q37⟩⟩
    show m' 65 39 = sc + mem 81 s.2.1 + 3 * (s.2.2.2.1 + 1)
    omega
  · have e : ntStep (fgM F) (tkM mem) (leapM mem) (mem 65 31) s = ((if and32 (shr32 (mem 65 31) s.2.1) 1 = 1 then nextX (nextX s.1) else nextX s.1), leapM mem s.2.1 + 1, s.2.2.1 + 1, s.2.2.2.1, s.2.2.2.2.1 + (if leapM mem s.2.1 = -1 then 0 else 1), fun j => if j = s.2.1 then s.2.2.2.2.2 s.2.1 + 1 else s.2.2.2.2.2 j) := (if_pos l).trans (if_neg sv)
    have e2 : ntV (fgM F) (tkM mem) (leapM mem) (mem 65 31) s = leapM mem s.2.1 := if_pos (⟨l, sv⟩ : ntLost (fgM F) (mem 65 31) s.1 s.2.1 ∧ ¬ ntSave (tkM mem) (mem 65 31) s.1 s.2.1)
    rw [e, e2]
    have S : ntMS mem ((if and32 (shr32 (mem 65 31) s.2.1) 1 = 1 then nextX (nextX s.1) else nextX s.1), leapM mem s.2.1 + 1, s.2.2.1 + 1, s.2.2.2.1, s.2.2.2.2.1 + (if leapM mem s.2.1 = -1 then 0 else 1), fun j => if j = s.2.1 then s.2.2.2.2.2 s.2.1 + 1 else s.2.2.2.2.2 j) m' := ⟨q40, q41, q42, by rw [if_neg w]; exact q43, fun j j0 j1 => by rw [q88]; exact up j j0 j1⟩
    refine ⟨fr, S, Or.inl ⟨w, q1, ⟨fr, by rw [q36]; omega, S, ?_⟩, q37⟩⟩
    show m' 65 39 = sc + mem 81 (leapM mem s.2.1) + 3 * s.2.2.2.1
    omega
  · have e : ntStep (fgM F) (tkM mem) (leapM mem) (mem 65 31) s = ((if and32 (shr32 (mem 65 31) s.2.1) 1 = 1 then nextX (nextX s.1) else nextX s.1), leapM mem s.2.1 + 1, s.2.2.1 + 1, s.2.2.2.1, s.2.2.2.2.1 + (if leapM mem s.2.1 = -1 then 0 else 1), fun j => if j = s.2.1 then s.2.2.2.2.2 s.2.1 + 1 else s.2.2.2.2.2 j) := (if_pos l).trans (if_neg sv)
    have e2 : ntV (fgM F) (tkM mem) (leapM mem) (mem 65 31) s = leapM mem s.2.1 := if_pos (⟨l, sv⟩ : ntLost (fgM F) (mem 65 31) s.1 s.2.1 ∧ ¬ ntSave (tkM mem) (mem 65 31) s.1 s.2.1)
    rw [e, e2]
    have S : ntMS mem ((if and32 (shr32 (mem 65 31) s.2.1) 1 = 1 then nextX (nextX s.1) else nextX s.1), leapM mem s.2.1 + 1, s.2.2.1 + 1, s.2.2.2.1, s.2.2.2.2.1 + (if leapM mem s.2.1 = -1 then 0 else 1), fun j => if j = s.2.1 then s.2.2.2.2.2 s.2.1 + 1 else s.2.2.2.2.2 j) m' := ⟨q40, q41, q42, by rw [if_pos w, Int.add_zero]; exact q43, fun j j0 j1 => by rw [q88]; exact up j j0 j1⟩
    exact ⟨fr, S, Or.inr ⟨w, q36, q37, q39⟩⟩
/-- what the model keeps of a night -/
def nightM (n : Int) (m : mmM) : mmM := mset (mset (mset (mset (mset (mset (mset (rowTo m 85 (fun i => m 85 i + m 88 i) n) 87 0 (m 65 36)) 87 1 (m 65 41)) 87 2 (m 65 42)) 87 3 (m 65 39)) 87 4 (m 65 43)) 65 45 1) 65 34 (m 65 34 + 1)
/-! the two nights are one -/
theorem ntStep_congr {n : Int} {fg fg' : Int → Int → Int} {tk tk' to to' : Int → Int} {mk : Int} (hf : ∀ s, 0 ≤ s → s < n → fg s (and32 (shr32 mk s) 1) = fg' s (and32 (shr32 mk s) 1)) (ht : ∀ s, 0 ≤ s → s < n → tk s = tk' s) (hto : ∀ s, 0 ≤ s → s < n → to s = to' s) (s : ntT) (h : 0 ≤ s.2.1 ∧ s.2.1 < n) : ntStep fg tk to mk s = ntStep fg' tk' to' mk s ∧ ntV fg tk to mk s = ntV fg' tk' to' mk s := by
  have e1 := hf s.2.1 h.1 h.2
  have e2 := ht s.2.1 h.1 h.2
  have e3 := hto s.2.1 h.1 h.2
  unfold ntStep ntV ntLost ntSave
  rw [e1, e2, e3]
  exact ⟨rfl, rfl⟩
theorem ntSt_congr {n : Int} {fg fg' : Int → Int → Int} {tk tk' to to' : Int → Int} {mk seed : Int} (hn : 0 ≤ n) (hb : ∀ i, 0 ≤ i → i < n → -1 ≤ to i ∧ to i < n) (hf : ∀ s, 0 ≤ s → s < n → fg s (and32 (shr32 mk s) 1) = fg' s (and32 (shr32 mk s) 1)) (ht : ∀ s, 0 ≤ s → s < n → tk s = tk' s) (hto : ∀ s, 0 ≤ s → s < n → to s = to' s) : ∀ k : Nat, (∀ i, i < k → ntAlive n fg tk to mk seed i) → ntSt fg tk to mk seed k = ntSt fg' tk' to' mk seed k ∧ (∀ i, i < k → ntAlive n fg' tk' to' mk seed i ∧ ntV fg tk to mk (ntSt fg tk to mk seed i) = ntV fg' tk' to' mk (ntSt fg' tk' to' mk seed i)) := by
  intro k
  induction k with
  | zero => intro _; exact ⟨rfl, fun i h => by omega⟩
  | succ k ih =>
    intro h
    have i1 := ih (fun i q => h i (by omega))
    have a := h k (by omega)
    have b := ntSt_come (fg := fg) (tk := tk) (mk := mk) (seed := seed) hn hb k (fun i q => h i (by omega))
    have c := ntStep_congr (mk := mk) hf ht hto (ntSt fg tk to mk seed k) ⟨b.1, a.2.1⟩
    have e : ntV fg tk to mk (ntSt fg tk to mk seed k) = ntV fg' tk' to' mk (ntSt fg' tk' to' mk seed k) := by rw [c.2, i1.1]
    refine ⟨?_, fun i q => ?_⟩
    · show ntStep fg tk to mk (ntSt fg tk to mk seed k) = ntStep fg' tk' to' mk (ntSt fg' tk' to' mk seed k)
      rw [c.1, i1.1]
    · rcases Nat.lt_or_ge i k with z | z
      · exact i1.2 i z
      · rw [show i = k by omega]
        refine ⟨⟨a.1, ?_, ?_⟩, e⟩
        · rw [← i1.1]
          exact a.2.1
        · rw [← e]
          exact a.2.2
