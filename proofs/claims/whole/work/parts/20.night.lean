/-! a night -/
theorem st_norm64 {B : mmB} {d kc ks : Nat} {Q : mmQ} {pc : Nat} {lc st : List mmV} {sh : mmS} {mem : mmM} {x : Int} (k : mmT B d kc ks Q pc lc ((1, w64 x) :: st) sh mem) : mmT B d kc ks Q pc lc ((1, x) :: st) sh mem := by
  intro p l e R s m args below meth c G H locs cells slots ls X
  have h := k p l e R s m args below meth c G H locs cells slots ls X
  change W p l e R s m args below meth c H locs cells slots _ (F0 m pc ls (.long (Int64.ofInt (w64 x)) :: st.map (mmEnc G))) at h
  have e1 : Int64.ofInt (w64 x) = Int64.ofInt x := Int64.toInt_inj.mp (by rw [w64_toInt, w64_toInt, w64_id (w64_rng x).1 (w64_rng x).2])
  rw [e1] at h
  exact h
theorem st_norm32 {B : mmB} {d kc ks : Nat} {Q : mmQ} {pc : Nat} {lc st : List mmV} {sh : mmS} {mem : mmM} {x : Int} (k : mmT B d kc ks Q pc lc ((0, w32 x) :: st) sh mem) : mmT B d kc ks Q pc lc ((0, x) :: st) sh mem := by
  intro p l e R s m args below meth c G H locs cells slots ls X
  have h := k p l e R s m args below meth c G H locs cells slots ls X
  change W p l e R s m args below meth c H locs cells slots _ (F0 m pc ls (.int (Int32.ofInt (w32 x)) :: st.map (mmEnc G))) at h
  have e1 : Int32.ofInt (w32 x) = Int32.ofInt x := Int32.toInt_inj.mp (by rw [w32_toInt, w32_toInt, w32_id (w32_rng x).1 (w32_rng x).2])
  rw [e1] at h
  exact h
theorem w64_R64 (x : Int) : R64 (w64 x) := ⟨(w64_rng x).1, (w64_rng x).2⟩
def nextX (x : Int) : Int := w64 (x * 6364136223846793005 + 1442695040888963407)
def drawS (x : Int) : Int := w32 (rem64 (ushr64 (nextX x) 33) 100)
theorem drawS_rng {x : Int} : R32 (drawS x) := ⟨(w32_rng _).1, (w32_rng _).2⟩
theorem nextX_rng {x : Int} : R64 (nextX x) := w64_R64 _
theorem cn_X5_draw_52 {d : Nat} {P : Int → mmM → Prop} {mem : mmM} (h : mmT bX5_draw d 0 0 (mQ 0 P) 0 [(2, 52)] [] mS mem) : con 0 bX5_draw d [(2, 52)] mem P := mmC_of [(2, 52)] ok_X5_draw.2.2.2.2 rfl (Nat.le_of_ble_eq_true rfl) h
theorem bk_X5_draw_52_0 {d : Nat} {P : Int → mmM → Prop} {mem : mmM}
  (q1 : P (w32 (rem64 (ushr64 (w64 (((mem 52 7) * 6364136223846793005) + 1442695040888963407)) 33) 100)) (mset mem 52 7 (w64 (((mem 52 7) * 6364136223846793005) + 1442695040888963407))))
  : mmT bX5_draw d 0 0 (mQ 0 P) 0 [(2, 52)] [] mS mem := by
  refine st_aload_n (i := 0) rfl (t := 0) rfl (by decide) dX5_draw_0 ?_
  refine st_aload_n (i := 0) rfl (t := 0) rfl (by decide) dX5_draw_1 ?_
  refine so_getJ (v := (mem 52 7)) 52 7 fr_X5_15_5 rfl sh_52 rfl dX5_draw_2 (fun r1 => ?_)
  refine st_ldc2 cw_X5_42 dX5_draw_5 ?_
  refine st_lmul dX5_draw_8 ?_
  refine st_ldc2 cw_X5_44 dX5_draw_9 ?_
  refine st_ladd dX5_draw_12 ?_
  refine st_norm64 ?_
  refine so_putJ 52 7 fr_X5_15_5 pf_5_7 fo_52_7 rfl sh_52 (w64_R64 _) dX5_draw_13 ?_
  refine st_aload_n (i := 0) rfl (t := 0) rfl (by decide) dX5_draw_16 ?_
  refine so_getJ (v := (w64 (((mem 52 7) * 6364136223846793005) + 1442695040888963407))) 52 7 fr_X5_15_5 rfl sh_52 rfl dX5_draw_17 (fun r2 => ?_)
  refine st_bipush rfl dX5_draw_20 ?_
  refine st_lushr dX5_draw_22 ?_
  refine st_ldc2 cw_X5_46 dX5_draw_23 ?_
  refine st_lrem (by decide) dX5_draw_26 ?_
  refine st_l2i dX5_draw_27 ?_
  refine st_norm32 ?_
  exact st_ireturn rfl dX5_draw_28 (mQ.ret q1)
theorem cn_X5_draw_55 {d : Nat} {P : Int → mmM → Prop} {mem : mmM} (h : mmT bX5_draw d 0 0 (mQ 0 P) 0 [(2, 55)] [] mS mem) : con 0 bX5_draw d [(2, 55)] mem P := mmC_of [(2, 55)] ok_X5_draw.2.2.2.2 rfl (Nat.le_of_ble_eq_true rfl) h
theorem bk_X5_draw_55_0 {d : Nat} {P : Int → mmM → Prop} {mem : mmM}
  (q1 : P (w32 (rem64 (ushr64 (w64 (((mem 55 7) * 6364136223846793005) + 1442695040888963407)) 33) 100)) (mset mem 55 7 (w64 (((mem 55 7) * 6364136223846793005) + 1442695040888963407))))
  : mmT bX5_draw d 0 0 (mQ 0 P) 0 [(2, 55)] [] mS mem := by
  refine st_aload_n (i := 0) rfl (t := 0) rfl (by decide) dX5_draw_0 ?_
  refine st_aload_n (i := 0) rfl (t := 0) rfl (by decide) dX5_draw_1 ?_
  refine so_getJ (v := (mem 55 7)) 55 7 fr_X5_15_5 rfl sh_55 rfl dX5_draw_2 (fun r1 => ?_)
  refine st_ldc2 cw_X5_42 dX5_draw_5 ?_
  refine st_lmul dX5_draw_8 ?_
  refine st_ldc2 cw_X5_44 dX5_draw_9 ?_
  refine st_ladd dX5_draw_12 ?_
  refine st_norm64 ?_
  refine so_putJ 55 7 fr_X5_15_5 pf_5_7 fo_55_7 rfl sh_55 (w64_R64 _) dX5_draw_13 ?_
  refine st_aload_n (i := 0) rfl (t := 0) rfl (by decide) dX5_draw_16 ?_
  refine so_getJ (v := (w64 (((mem 55 7) * 6364136223846793005) + 1442695040888963407))) 55 7 fr_X5_15_5 rfl sh_55 rfl dX5_draw_17 (fun r2 => ?_)
  refine st_bipush rfl dX5_draw_20 ?_
  refine st_lushr dX5_draw_22 ?_
  refine st_ldc2 cw_X5_46 dX5_draw_23 ?_
  refine st_lrem (by decide) dX5_draw_26 ?_
  refine st_l2i dX5_draw_27 ?_
  refine st_norm32 ?_
  exact st_ireturn rfl dX5_draw_28 (mQ.ret q1)
theorem cn_X12_draw {d : Nat} {P : Int → mmM → Prop} {mem : mmM} (h : mmT bX12_draw d 0 0 (mQ 0 P) 0 [(2, 65)] [] mS mem) : con 0 bX12_draw d [(2, 65)] mem P := mmC_of [(2, 65)] ok_X12_draw.2.2.2.2 rfl (Nat.le_of_ble_eq_true rfl) h
theorem bk_X12_draw_0 {d : Nat} {P : Int → mmM → Prop} {mem : mmM}
  (q1 : P (w32 (rem64 (ushr64 (w64 (((mem 65 40) * 6364136223846793005) + 1442695040888963407)) 33) 100)) (mset mem 65 40 (w64 (((mem 65 40) * 6364136223846793005) + 1442695040888963407))))
  : mmT bX12_draw d 0 0 (mQ 0 P) 0 [(2, 65)] [] mS mem := by
  refine st_aload_n (i := 0) rfl (t := 0) rfl (by decide) dX12_draw_0 ?_
  refine st_aload_n (i := 0) rfl (t := 0) rfl (by decide) dX12_draw_1 ?_
  refine so_getJ (v := (mem 65 40)) 65 40 fr_X12_357_11 rfl sh_65 rfl dX12_draw_2 (fun r1 => ?_)
  refine st_ldc2 cw_X12_361 dX12_draw_5 ?_
  refine st_lmul dX12_draw_8 ?_
  refine st_ldc2 cw_X12_363 dX12_draw_9 ?_
  refine st_ladd dX12_draw_12 ?_
  refine st_norm64 ?_
  refine so_putJ 65 40 fr_X12_357_11 pf_11_40 fo_65_40 rfl sh_65 (w64_R64 _) dX12_draw_13 ?_
  refine st_aload_n (i := 0) rfl (t := 0) rfl (by decide) dX12_draw_16 ?_
  refine so_getJ (v := (w64 (((mem 65 40) * 6364136223846793005) + 1442695040888963407))) 65 40 fr_X12_357_11 rfl sh_65 rfl dX12_draw_17 (fun r2 => ?_)
  refine st_bipush rfl dX12_draw_20 ?_
  refine st_lushr dX12_draw_22 ?_
  refine st_ldc2 cw_X12_365 dX12_draw_23 ?_
  refine st_lrem (by decide) dX12_draw_26 ?_
  refine st_l2i dX12_draw_27 ?_
  refine st_norm32 ?_
  exact st_ireturn rfl dX12_draw_28 (mQ.ret q1)
theorem cn_X4_takeOf {d : Nat} {P : Int → mmM → Prop} {mem : mmM} {x1 : Int} (h : mmT bX4_takeOf d 0 0 (mQ 0 P) 0 [(2, 35), (0, x1)] [] mS mem) : con 0 bX4_takeOf d [(2, 35), (0, x1)] mem P := mmC_of [(2, 35), (0, x1)] ok_X4_takeOf.2.2.2.2 rfl (Nat.le_of_ble_eq_true rfl) h
theorem bk_X4_takeOf_0 {d : Nat} {P : Int → mmM → Prop} {mem : mmM} {x1 : Int}
  (q1 : ¬ (0 ≤ x1 ∧ x1 < (mem 23 1)) → P 0 mem)
  (q2 : (0 ≤ x1 ∧ x1 < (mem 23 1)) → P (mem 37 (mem 24 x1)) mem)
  (hd2 : 2 ≤ d := by omega)
  (s1 : R32 x1 := by intros; first | omega | assumption | solve_by_elim)
  (s2 : (0 ≤ x1 ∧ x1 < (mem 23 1)) → 0 ≤ x1 ∧ x1 < 24 := by intros; first | omega | assumption | solve_by_elim)
  (s3 : (0 ≤ x1 ∧ x1 < (mem 23 1)) → 0 ≤ (mem 24 x1) ∧ (mem 24 x1) < 8 := by intros; first | omega | assumption | solve_by_elim)
  : mmT bX4_takeOf d 0 0 (mQ 0 P) 0 [(2, 35), (0, x1)] [] mS mem := by
  refine st_aload_n (i := 0) rfl (t := 0) rfl (by decide) dX4_takeOf_0 ?_
  refine so_getA 35 0 fr_X4_26_4 rfl sh_35 fx_35_0 dX4_takeOf_1 ?_
  refine st_iload_n (i := 1) rfl rfl dX4_takeOf_4 ?_
  refine st_callV (kc2 := 0) (ks2 := 0) (av := [(0, x1)]) 23 8 mr_X4_61 ok_X8_has (c_X8_has mem x1 (s1)) rfl sh_23 ⟨_, rfl, rfl, by decide⟩ rfl rfl hd2 (Nat.le_refl 0) (Nat.le_refl 0) (Nat.le_of_ble_eq_true rfl) dX4_takeOf_5 (mQ.elim fun v1 m1 hp => ?_)
  obtain ⟨hpv, hpm⟩ := hp
  subst hpv
  have hpm := hpm.symm
  subst hpm
  refine so_ifeqB 28 (by decide) dX4_takeOf_8 (fun h1 => ?_) (fun h1 => ?_)
  · have h1 : ¬ (0 ≤ x1 ∧ x1 < (mem 23 1)) := h1
    refine st_iconst dX4_takeOf_28 ?_
    exact st_ireturn rfl dX4_takeOf_29 (mQ.ret (q1 h1))
  · have h1 : (0 ≤ x1 ∧ x1 < (mem 23 1)) := h1
    refine st_aload_n (i := 0) rfl (t := 0) rfl (by decide) dX4_takeOf_11 ?_
    refine so_getA 35 2 fr_X4_15_4 rfl sh_35 fx_35_2 dX4_takeOf_12 ?_
    refine st_aload_n (i := 0) rfl (t := 0) rfl (by decide) dX4_takeOf_15 ?_
    refine so_getA 35 0 fr_X4_26_4 rfl sh_35 fx_35_0 dX4_takeOf_16 ?_
    refine so_getA 23 2 fr_X4_52_8 rfl sh_23 fx_23_2 dX4_takeOf_19 ?_
    refine st_iload_n (i := 1) rfl rfl dX4_takeOf_22 ?_
    refine so_iald (v := (mem 24 x1)) 24 rfl sh_24 (by decide) (s2 h1) rfl dX4_takeOf_23 (fun r1 => ?_)
    refine so_iald (v := (mem 37 (mem 24 x1))) 37 rfl sh_37 (by decide) (s3 h1) rfl dX4_takeOf_24 (fun r2 => ?_)
    refine st_goto 29 (by decide) dX4_takeOf_25 ?_
    exact st_ireturn rfl dX4_takeOf_29 (mQ.ret (q2 h1))
theorem c_X5_draw_52 (mem : mmM) : con 0 bX5_draw 0 [(2, 52)] mem (fun v m => v = drawS (mem 52 7) ∧ m = mset mem 52 7 (nextX (mem 52 7))) := cn_X5_draw_52 (bk_X5_draw_52_0 ⟨rfl, rfl⟩)
theorem c_X5_draw_55 (mem : mmM) : con 0 bX5_draw 0 [(2, 55)] mem (fun v m => v = drawS (mem 55 7) ∧ m = mset mem 55 7 (nextX (mem 55 7))) := cn_X5_draw_55 (bk_X5_draw_55_0 ⟨rfl, rfl⟩)
theorem c_X12_draw (mem : mmM) : con 0 bX12_draw 0 [(2, 65)] mem (fun v m => v = drawS (mem 65 40) ∧ m = mset mem 65 40 (nextX (mem 65 40))) := cn_X12_draw (bk_X12_draw_0 ⟨rfl, rfl⟩)
def takeX (mem : mmM) (s : Int) : Int := if 0 ≤ s ∧ s < mem 23 1 then mem 37 (mem 24 s) else 0
