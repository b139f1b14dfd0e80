/-! the class reads a clause, and a law -/
theorem c_X3_cond (b : Int) (hb01 : b = 0 ∨ b = 1) (mem : mmM) (hp : preX mem) : con 0 bX3_readCondition 34 [(2, 8), (0, 0), (0, b)] mem (resX mem (cond1 (CX mem) (SX mem) 6 b (mem 1 2))) := by
  have hF : ∀ mem m : mmM, lxFr mem m → unit1 (CX m) (SX m) 6 0 = unit1 (CX mem) (SX mem) 6 0 := fun mem m h => by rw [lxFr_C h, lxFr_S h]
  have U := c_X3_readUnit 6 (by decide)
  have T := fun b hb m hm => rd_Truth (fun b m => unit1 (CX m) (SX m) 6 b) (6 - ((6 : Nat) : Int)) b 32 (by decide) hb U hF (fun b m _ => good_unit1 m 6 b) m hm
  have hF2 : ∀ mem m : mmM, lxFr mem m → truth1 (CX m) (SX m) 6 0 = truth1 (CX mem) (SX mem) 6 0 := fun mem m h => by rw [lxFr_C h, lxFr_S h]
  have eu : ∀ m : mmM, unit1 (CX m) (SX m) 6 0 = unitL (CX m) (SX m) 6 := fun m => funext (fun j => if_pos rfl)
  have et : ∀ m : mmM, truth1 (CX m) (SX m) 6 0 = truthO (CX m) (SX m) (unitL (CX m) (SX m) 6) := fun m => funext (truth1_0 _ _ _)
  have gT : ∀ b (m : mmM), goodP (m 1 1) (truth1 (CX m) (SX m) 6 b) := fun b m j j0 j1 => good_go (tapX_P m) (fun _ _ h => (opA_pos h).1) (good_unitL (tapX_P m) 6) j0 (good_unit1 m 6 b j j0 j1)
  have T' : ∀ b, (b = 0 ∨ b = 1) → ∀ m, preX m → con 0 bX3_readTruth 33 [(2, 8), (0, 6 - ((6 : Nat) : Int)), (0, b)] m (resX m (truth1 (CX m) (SX m) 6 b (m 1 2))) := fun b hb m hm => by
    have := T b hb m hm
    rw [eu] at this
    exact this
  have Z := rd_Cond (fun b m => truth1 (CX m) (SX m) 6 b) (6 - ((6 : Nat) : Int)) b 33 (by decide) hb01 T' hF2 (fun b m _ => gT b m) mem hp
  rw [et] at Z
  exact Z
theorem c_X3_sum0 (mem : mmM) (hp : preX mem) : con 0 bX3_readSum 24 [(2, 8), (0, 0)] mem (resX mem (sumL (CX mem) (SX mem) 6 (mem 1 2))) := c_X3_readSum 6 (by decide) mem hp
theorem good_cond1 (mem : mmM) (b : Int) : goodP (mem 1 1) (cond1 (CX mem) (SX mem) 6 b) := by
  have gU := good_unitL (tapX_P mem) 6
  have gT : goodP (mem 1 1) (truthO (CX mem) (SX mem) (unitL (CX mem) (SX mem) 6)) := good_chain (tapX_P mem) (fun _ _ h => (opA_pos h).1) gU
  intro j j0 j1
  exact good_go (tapX_P mem) (fun _ _ h => (opO_pos h).1) gT j0 (good_go (tapX_P mem) (fun _ _ h => (opA_pos h).1) gU j0 (good_unit1 mem 6 b j j0 j1))
theorem cn_X3_readClause {d : Nat} {P : Int → mmM → Prop} {mem : mmM} (h : mmT bX3_readClause d 0 0 (mQ 0 P) 0 [(2, 8), (9, 0), (9, 0)] [] mS mem) : con 0 bX3_readClause d [(2, 8)] mem P := mmC_of [(2, 8), (9, 0), (9, 0)] ok_X3_readClause.2.2.2.2 rfl (Nat.le_of_ble_eq_true rfl) h
theorem bk_X3_readClause_0 {d : Nat} {d1 : Nat} {P1 : Int → mmM → Prop} {d2 : Nat} {P2 : Int → mmM → Prop} {d3 : Nat} {P3 : Int → mmM → Prop} {d4 : Nat} {P4 : Int → mmM → Prop} {d5 : Nat} {P5 : Int → mmM → Prop} {P : Int → mmM → Prop} {mem : mmM}
  (c1 : con 0 bX9_takes d1 [(2, 1), (0, 121)] mem P1)
  (c2 : ∀ (v1 : Int), ∀ (m1 : mmM), P1 v1 m1 → ¬ v1 = 0 → con 0 bX9_takes d2 [(2, 1), (0, 58)] m1 P2)
  (c3 : ∀ (v1 : Int), ∀ (m1 : mmM), P1 v1 m1 → ¬ v1 = 0 → ∀ (v2 : Int), ∀ (m2 : mmM), P2 v2 m2 → ¬ v2 = 0 → con 0 bX9_sign d3 [(2, 1)] m2 P3)
  (c4 : ∀ (v1 : Int), ∀ (m1 : mmM), P1 v1 m1 → ¬ v1 = 0 → ∀ (v2 : Int), ∀ (m2 : mmM), P2 v2 m2 → ¬ v2 = 0 → ∀ (v3 : Int), ∀ (m3 : mmM), P3 v3 m3 → ¬ v3 = 33 → ¬ v3 = 40 → con 0 bX3_readSum d4 [(2, 8), (0, 0)] m3 P4)
  (c5 : ∀ (v1 : Int), ∀ (m1 : mmM), P1 v1 m1 → ¬ v1 = 0 → ∀ (v2 : Int), ∀ (m2 : mmM), P2 v2 m2 → ¬ v2 = 0 → ∀ (v3 : Int), ∀ (m3 : mmM), P3 v3 m3 → ¬ v3 = 33 → ¬ v3 = 40 → ∀ (v4 : Int), ∀ (m4 : mmM), P4 v4 m4 → ¬ v4 = 0 → con 0 bX3_atComparison d5 [(2, 8)] m4 P5)
  (k1 : ∀ (v1 : Int), ∀ (m1 : mmM), P1 v1 m1 → ¬ v1 = 0 → ∀ (v2 : Int), ∀ (m2 : mmM), P2 v2 m2 → ¬ v2 = 0 → ∀ (v3 : Int), ∀ (m3 : mmM), P3 v3 m3 → v3 = 33 → mmT bX3_readClause d 0 0 (mQ 0 P) 75 [(2, 8), (9, 0), (0, 0)] [] mS m3)
  (k2 : ∀ (v1 : Int), ∀ (m1 : mmM), P1 v1 m1 → ¬ v1 = 0 → ∀ (v2 : Int), ∀ (m2 : mmM), P2 v2 m2 → ¬ v2 = 0 → ∀ (v3 : Int), ∀ (m3 : mmM), P3 v3 m3 → ¬ v3 = 33 → v3 = 40 → mmT bX3_readClause d 0 0 (mQ 0 P) 75 [(2, 8), (9, 0), (0, 0)] [] mS m3)
  (k3 : ∀ (v1 : Int), ∀ (m1 : mmM), P1 v1 m1 → ¬ v1 = 0 → ∀ (v2 : Int), ∀ (m2 : mmM), P2 v2 m2 → ¬ v2 = 0 → ∀ (v3 : Int), ∀ (m3 : mmM), P3 v3 m3 → ¬ v3 = 33 → ¬ v3 = 40 → ∀ (v4 : Int), ∀ (m4 : mmM), P4 v4 m4 → ¬ v4 = 0 → ∀ (v5 : Int), ∀ (m5 : mmM), P5 v5 m5 → ¬ v5 = 0 → mmT bX3_readClause d 0 0 (mQ 0 P) 75 [(2, 8), (9, 0), (0, 1)] [] mS m5)
  (q1 : ∀ (v1 : Int), ∀ (m1 : mmM), P1 v1 m1 → v1 = 0 → P 0 m1)
  (q2 : ∀ (v1 : Int), ∀ (m1 : mmM), P1 v1 m1 → ¬ v1 = 0 → ∀ (v2 : Int), ∀ (m2 : mmM), P2 v2 m2 → ¬ v2 = 0 → ∀ (v3 : Int), ∀ (m3 : mmM), P3 v3 m3 → ¬ v3 = 33 → ¬ v3 = 40 → ∀ (v4 : Int), ∀ (m4 : mmM), P4 v4 m4 → ¬ v4 = 0 → ∀ (v5 : Int), ∀ (m5 : mmM), P5 v5 m5 → v5 = 0 → P 1 m5)
  (q3 : ∀ (v1 : Int), ∀ (m1 : mmM), P1 v1 m1 → ¬ v1 = 0 → ∀ (v2 : Int), ∀ (m2 : mmM), P2 v2 m2 → ¬ v2 = 0 → ∀ (v3 : Int), ∀ (m3 : mmM), P3 v3 m3 → ¬ v3 = 33 → ¬ v3 = 40 → ∀ (v4 : Int), ∀ (m4 : mmM), P4 v4 m4 → v4 = 0 → P 0 m4)
  (q4 : ∀ (v1 : Int), ∀ (m1 : mmM), P1 v1 m1 → ¬ v1 = 0 → ∀ (v2 : Int), ∀ (m2 : mmM), P2 v2 m2 → v2 = 0 → P 0 m2)
  (hd_d1 : d1 + 1 ≤ d := by omega)
  (hd_d2 : d2 + 1 ≤ d := by omega)
  (hd_d3 : d3 + 1 ≤ d := by omega)
  (hd_d4 : d4 + 1 ≤ d := by omega)
  (hd_d5 : d5 + 1 ≤ d := by omega)
  (s1 : ∀ (v1 : Int), ∀ (m1 : mmM), P1 v1 m1 → R32 v1 := by intros; first | omega | assumption | solve_by_elim)
  (s2 : ∀ (v1 : Int), ∀ (m1 : mmM), P1 v1 m1 → ¬ v1 = 0 → ∀ (v2 : Int), ∀ (m2 : mmM), P2 v2 m2 → R32 v2 := by intros; first | omega | assumption | solve_by_elim)
  (s3 : ∀ (v1 : Int), ∀ (m1 : mmM), P1 v1 m1 → ¬ v1 = 0 → ∀ (v2 : Int), ∀ (m2 : mmM), P2 v2 m2 → ¬ v2 = 0 → ∀ (v3 : Int), ∀ (m3 : mmM), P3 v3 m3 → R32 v3 := by intros; first | omega | assumption | solve_by_elim)
  (s4 : ∀ (v1 : Int), ∀ (m1 : mmM), P1 v1 m1 → ¬ v1 = 0 → ∀ (v2 : Int), ∀ (m2 : mmM), P2 v2 m2 → ¬ v2 = 0 → ∀ (v3 : Int), ∀ (m3 : mmM), P3 v3 m3 → ¬ v3 = 33 → ¬ v3 = 40 → ∀ (v4 : Int), ∀ (m4 : mmM), P4 v4 m4 → R32 v4 := by intros; first | omega | assumption | solve_by_elim)
  (s5 : ∀ (v1 : Int), ∀ (m1 : mmM), P1 v1 m1 → ¬ v1 = 0 → ∀ (v2 : Int), ∀ (m2 : mmM), P2 v2 m2 → ¬ v2 = 0 → ∀ (v3 : Int), ∀ (m3 : mmM), P3 v3 m3 → ¬ v3 = 33 → ¬ v3 = 40 → ∀ (v4 : Int), ∀ (m4 : mmM), P4 v4 m4 → ¬ v4 = 0 → ∀ (v5 : Int), ∀ (m5 : mmM), P5 v5 m5 → R32 v5 := by intros; first | omega | assumption | solve_by_elim)
  : mmT bX3_readClause d 0 0 (mQ 0 P) 0 [(2, 8), (9, 0), (9, 0)] [] mS mem := by
  refine st_aload_n (i := 0) rfl (t := 0) rfl (by decide) dX3_readClause_0 ?_
  refine so_getA 8 0 fr_X3_17_3 rfl sh_8 fx_8_0 dX3_readClause_1 ?_
  refine st_bipush rfl dX3_readClause_4 ?_
  refine st_callV (kc2 := 0) (ks2 := 0) (av := [(0, 121)]) 1 9 mr_X3_38 ok_X9_takes c1 rfl sh_1 ⟨_, rfl, rfl, by decide⟩ rfl rfl hd_d1 (Nat.le_refl 0) (Nat.le_refl 0) (Nat.le_of_ble_eq_true rfl) dX3_readClause_6 (mQ.elim fun v1 m1 p1 => ?_)
  refine sr_if_eq 24 (s1 v1 m1 p1) (by decide) dX3_readClause_9 (fun h1 => ?_) (fun h1 => ?_)
  · have h1 : v1 = 0 := by omega
    refine st_iconst dX3_readClause_24 ?_
    exact st_zreturn rfl (by decide) dX3_readClause_25 (mQ.ret (q1 v1 m1 p1 h1))
  · have h1 : ¬ v1 = 0 := by omega
    refine st_aload_n (i := 0) rfl (t := 0) rfl (by decide) dX3_readClause_12 ?_
    refine so_getA 8 0 fr_X3_17_3 rfl sh_8 fx_8_0 dX3_readClause_13 ?_
    refine st_bipush rfl dX3_readClause_16 ?_
    refine st_callV (kc2 := 0) (ks2 := 0) (av := [(0, 58)]) 1 9 mr_X3_38 ok_X9_takes (c2 v1 m1 p1 h1) rfl sh_1 ⟨_, rfl, rfl, by decide⟩ rfl rfl hd_d2 (Nat.le_refl 0) (Nat.le_refl 0) (Nat.le_of_ble_eq_true rfl) dX3_readClause_18 (mQ.elim fun v2 m2 p2 => ?_)
    refine sr_if_ne 26 (s2 v1 m1 p1 h1 v2 m2 p2) (by decide) dX3_readClause_21 (fun h2 => ?_) (fun h2 => ?_)
    · have h2 : ¬ v2 = 0 := by omega
      refine st_aload_n (i := 0) rfl (t := 0) rfl (by decide) dX3_readClause_26 ?_
      refine so_getA 8 0 fr_X3_17_3 rfl sh_8 fx_8_0 dX3_readClause_27 ?_
      refine st_callV (kc2 := 0) (ks2 := 0) (av := []) 1 9 mr_X3_42 ok_X9_sign (c3 v1 m1 p1 h1 v2 m2 p2 h2) rfl sh_1 ⟨_, rfl, rfl, by decide⟩ rfl rfl hd_d3 (Nat.le_refl 0) (Nat.le_refl 0) (Nat.le_of_ble_eq_true rfl) dX3_readClause_30 (mQ.elim fun v3 m3 p3 => ?_)
      refine st_istore_n (i := 1) rfl (by decide) (lc' := [(2, 8), (0, v3), (9, 0)]) rfl dX3_readClause_33 ?_
      refine st_iload_n (i := 1) rfl rfl dX3_readClause_34 ?_
      refine st_bipush rfl dX3_readClause_35 ?_
      refine sr_icmp_eq 50 (s3 v1 m1 p1 h1 v2 m2 p2 h2 v3 m3 p3) ⟨by decide, by decide⟩ (by decide) dX3_readClause_37 (fun h3 => ?_) (fun h3 => ?_)
      · have h3 : v3 = 33 := by omega
        refine st_iconst dX3_readClause_50 ?_
        refine st_istore_n (i := 2) rfl (by decide) (lc' := [(2, 8), (0, v3), (0, 0)]) rfl dX3_readClause_51 ?_
        refine st_iload_n (i := 2) rfl rfl dX3_readClause_52 ?_
        refine sr_if_eq 75 ⟨by decide, by decide⟩ (by decide) dX3_readClause_53 (fun h => ?_) (fun h => ?_)
        rotate_left
        · exact absurd h (by decide)
        exact st_locals [(2, 8), (9, 0), (0, 0)] ⟨Or.inr rfl, Or.inl rfl, Or.inr rfl, trivial⟩ (k1 v1 m1 p1 h1 v2 m2 p2 h2 v3 m3 p3 h3)
      · have h3 : ¬ v3 = 33 := by omega
        refine st_iload_n (i := 1) rfl rfl dX3_readClause_40 ?_
        refine st_bipush rfl dX3_readClause_41 ?_
        refine sr_icmp_eq 50 (s3 v1 m1 p1 h1 v2 m2 p2 h2 v3 m3 p3) ⟨by decide, by decide⟩ (by decide) dX3_readClause_43 (fun h4 => ?_) (fun h4 => ?_)
        · have h4 : v3 = 40 := by omega
          refine st_iconst dX3_readClause_50 ?_
          refine st_istore_n (i := 2) rfl (by decide) (lc' := [(2, 8), (0, v3), (0, 0)]) rfl dX3_readClause_51 ?_
          refine st_iload_n (i := 2) rfl rfl dX3_readClause_52 ?_
          refine sr_if_eq 75 ⟨by decide, by decide⟩ (by decide) dX3_readClause_53 (fun h => ?_) (fun h => ?_)
          rotate_left
          · exact absurd h (by decide)
          exact st_locals [(2, 8), (9, 0), (0, 0)] ⟨Or.inr rfl, Or.inl rfl, Or.inr rfl, trivial⟩ (k2 v1 m1 p1 h1 v2 m2 p2 h2 v3 m3 p3 h3 h4)
        · have h4 : ¬ v3 = 40 := by omega
          refine st_iconst dX3_readClause_46 ?_
          refine st_goto 51 (by decide) dX3_readClause_47 ?_
          refine st_istore_n (i := 2) rfl (by decide) (lc' := [(2, 8), (0, v3), (0, 1)]) rfl dX3_readClause_51 ?_
          refine st_iload_n (i := 2) rfl rfl dX3_readClause_52 ?_
          refine sr_if_eq 75 ⟨by decide, by decide⟩ (by decide) dX3_readClause_53 (fun h => ?_) (fun h => ?_)
          · exact absurd h (by decide)
          refine st_aload_n (i := 0) rfl (t := 0) rfl (by decide) dX3_readClause_56 ?_
          refine st_iconst dX3_readClause_57 ?_
          refine st_callV (kc2 := 0) (ks2 := 0) (av := [(0, 0)]) 8 3 mr_X3_46 ok_X3_readSum (c4 v1 m1 p1 h1 v2 m2 p2 h2 v3 m3 p3 h3 h4) rfl sh_8 ⟨_, rfl, rfl, by decide⟩ rfl rfl hd_d4 (Nat.le_refl 0) (Nat.le_refl 0) (Nat.le_of_ble_eq_true rfl) dX3_readClause_58 (mQ.elim fun v4 m4 p4 => ?_)
          refine sr_if_ne 66 (s4 v1 m1 p1 h1 v2 m2 p2 h2 v3 m3 p3 h3 h4 v4 m4 p4) (by decide) dX3_readClause_61 (fun h5 => ?_) (fun h5 => ?_)
          · have h5 : ¬ v4 = 0 := by omega
            refine st_aload_n (i := 0) rfl (t := 0) rfl (by decide) dX3_readClause_66 ?_
            refine st_callV (kc2 := 0) (ks2 := 0) (av := []) 8 3 mr_X3_49 ok_X3_atComparison (c5 v1 m1 p1 h1 v2 m2 p2 h2 v3 m3 p3 h3 h4 v4 m4 p4 h5) rfl sh_8 ⟨_, rfl, rfl, by decide⟩ rfl rfl hd_d5 (Nat.le_refl 0) (Nat.le_refl 0) (Nat.le_of_ble_eq_true rfl) dX3_readClause_67 (mQ.elim fun v5 m5 p5 => ?_)
            refine sr_if_ne 75 (s5 v1 m1 p1 h1 v2 m2 p2 h2 v3 m3 p3 h3 h4 v4 m4 p4 h5 v5 m5 p5) (by decide) dX3_readClause_70 (fun h6 => ?_) (fun h6 => ?_)
            · have h6 : ¬ v5 = 0 := by omega
              exact st_locals [(2, 8), (9, 0), (0, 1)] ⟨Or.inr rfl, Or.inl rfl, Or.inr rfl, trivial⟩ (k3 v1 m1 p1 h1 v2 m2 p2 h2 v3 m3 p3 h3 h4 v4 m4 p4 h5 v5 m5 p5 h6)
            · have h6 : v5 = 0 := by omega
              refine st_iconst dX3_readClause_73 ?_
              exact st_zreturn rfl (by decide) dX3_readClause_74 (mQ.ret (q2 v1 m1 p1 h1 v2 m2 p2 h2 v3 m3 p3 h3 h4 v4 m4 p4 h5 v5 m5 p5 h6))
          · have h5 : v4 = 0 := by omega
            refine st_iconst dX3_readClause_64 ?_
            exact st_zreturn rfl (by decide) dX3_readClause_65 (mQ.ret (q3 v1 m1 p1 h1 v2 m2 p2 h2 v3 m3 p3 h3 h4 v4 m4 p4 h5))
    · have h2 : v2 = 0 := by omega
      refine st_iconst dX3_readClause_24 ?_
      exact st_zreturn rfl (by decide) dX3_readClause_25 (mQ.ret (q4 v1 m1 p1 h1 v2 m2 p2 h2))
theorem bk_X3_readClause_75 {d : Nat} {d1 : Nat} {P1 : Int → mmM → Prop} {d2 : Nat} {P2 : Int → mmM → Prop} {d3 : Nat} {P3 : Int → mmM → Prop} {P : Int → mmM → Prop} {mem : mmM} {x2 : Int}
  (c1 : con 0 bX3_readCondition d1 [(2, 8), (0, 0), (0, x2)] mem P1)
  (c2 : ∀ (v1 : Int), ∀ (m1 : mmM), P1 v1 m1 → ¬ v1 = 0 → con 0 bX9_takes d2 [(2, 1), (0, 63)] m1 P2)
  (c3 : ∀ (v1 : Int), ∀ (m1 : mmM), P1 v1 m1 → ¬ v1 = 0 → ∀ (v2 : Int), ∀ (m2 : mmM), P2 v2 m2 → ¬ v2 = 0 → con 0 bX3_readSum d3 [(2, 8), (0, 0)] (wrX m2 63) P3)
  (q1 : ∀ (v1 : Int), ∀ (m1 : mmM), P1 v1 m1 → v1 = 0 → P 0 m1)
  (q2 : ∀ (v1 : Int), ∀ (m1 : mmM), P1 v1 m1 → ¬ v1 = 0 → ∀ (v2 : Int), ∀ (m2 : mmM), P2 v2 m2 → ¬ v2 = 0 → ∀ (v3 : Int), ∀ (m4 : mmM), P3 v3 m4 → P v3 m4)
  (q3 : ∀ (v1 : Int), ∀ (m1 : mmM), P1 v1 m1 → ¬ v1 = 0 → ∀ (v2 : Int), ∀ (m2 : mmM), P2 v2 m2 → v2 = 0 → P 0 m2)
  (hd_d1 : d1 + 1 ≤ d := by omega)
  (hd_d2 : d2 + 1 ≤ d := by omega)
  (hd_d3 : d3 + 1 ≤ d := by omega)
  (hd1 : 1 ≤ d := by omega)
  (s1 : ∀ (v1 : Int), ∀ (m1 : mmM), P1 v1 m1 → R32 v1 := by intros; first | omega | assumption | solve_by_elim)
  (s2 : ∀ (v1 : Int), ∀ (m1 : mmM), P1 v1 m1 → ¬ v1 = 0 → ∀ (v2 : Int), ∀ (m2 : mmM), P2 v2 m2 → R32 v2 := by intros; first | omega | assumption | solve_by_elim)
  (s3 : ∀ (v1 : Int), ∀ (m1 : mmM), P1 v1 m1 → ¬ v1 = 0 → ∀ (v2 : Int), ∀ (m2 : mmM), P2 v2 m2 → ¬ v2 = 0 → 0 ≤ (m2 8 2) ∧ (m2 8 2) < 160 := by intros; first | omega | assumption | solve_by_elim)
  (s4 : ∀ (v1 : Int), ∀ (m1 : mmM), P1 v1 m1 → ¬ v1 = 0 → ∀ (v2 : Int), ∀ (m2 : mmM), P2 v2 m2 → ¬ v2 = 0 → ∀ (v3 : Int), ∀ (m4 : mmM), P3 v3 m4 → v3 = 0 ∨ v3 = 1 := by intros; first | omega | assumption | solve_by_elim)
  : mmT bX3_readClause d 0 0 (mQ 0 P) 75 [(2, 8), (9, 0), (0, x2)] [] mS mem := by
  refine st_aload_n (i := 0) rfl (t := 0) rfl (by decide) dX3_readClause_75 ?_
  refine st_iconst dX3_readClause_76 ?_
  refine st_iload_n (i := 2) rfl rfl dX3_readClause_77 ?_
  refine st_callV (kc2 := 0) (ks2 := 0) (av := [(0, 0), (0, x2)]) 8 3 mr_X3_52 ok_X3_readCondition c1 rfl sh_8 ⟨_, rfl, rfl, by decide⟩ rfl rfl hd_d1 (Nat.le_refl 0) (Nat.le_refl 0) (Nat.le_of_ble_eq_true rfl) dX3_readClause_78 (mQ.elim fun v1 m1 p1 => ?_)
  refine sr_if_eq 96 (s1 v1 m1 p1) (by decide) dX3_readClause_81 (fun h1 => ?_) (fun h1 => ?_)
  · have h1 : v1 = 0 := by omega
    refine st_iconst dX3_readClause_96 ?_
    exact st_zreturn rfl (by decide) dX3_readClause_97 (mQ.ret (q1 v1 m1 p1 h1))
  · have h1 : ¬ v1 = 0 := by omega
    refine st_aload_n (i := 0) rfl (t := 0) rfl (by decide) dX3_readClause_84 ?_
    refine so_getA 8 0 fr_X3_17_3 rfl sh_8 fx_8_0 dX3_readClause_85 ?_
    refine st_bipush rfl dX3_readClause_88 ?_
    refine st_callV (kc2 := 0) (ks2 := 0) (av := [(0, 63)]) 1 9 mr_X3_38 ok_X9_takes (c2 v1 m1 p1 h1) rfl sh_1 ⟨_, rfl, rfl, by decide⟩ rfl rfl hd_d2 (Nat.le_refl 0) (Nat.le_refl 0) (Nat.le_of_ble_eq_true rfl) dX3_readClause_90 (mQ.elim fun v2 m2 p2 => ?_)
    refine sr_if_ne 98 (s2 v1 m1 p1 h1 v2 m2 p2) (by decide) dX3_readClause_93 (fun h2 => ?_) (fun h2 => ?_)
    · have h2 : ¬ v2 = 0 := by omega
      refine st_aload_n (i := 0) rfl (t := 0) rfl (by decide) dX3_readClause_98 ?_
      refine st_bipush rfl dX3_readClause_99 ?_
      refine st_callV (kc2 := 0) (ks2 := 0) (av := [(0, 63)]) 8 3 mr_X3_34 ok_X3_write (c_X3_write m2 63 (⟨by decide, by decide⟩) ((s3 v1 m1 p1 h1 v2 m2 p2 h2))) rfl sh_8 ⟨_, rfl, rfl, by decide⟩ rfl rfl hd1 (Nat.le_refl 0) (Nat.le_refl 0) (Nat.le_of_ble_eq_true rfl) dX3_readClause_101 (mQv.elim fun m3 hp => ?_)
      have hp := hp.symm
      subst hp
      refine st_aload_n (i := 0) rfl (t := 0) rfl (by decide) dX3_readClause_104 ?_
      refine st_iconst dX3_readClause_105 ?_
      refine st_callV (kc2 := 0) (ks2 := 0) (av := [(0, 0)]) 8 3 mr_X3_46 ok_X3_readSum (c3 v1 m1 p1 h1 v2 m2 p2 h2) rfl sh_8 ⟨_, rfl, rfl, by decide⟩ rfl rfl hd_d3 (Nat.le_refl 0) (Nat.le_refl 0) (Nat.le_of_ble_eq_true rfl) dX3_readClause_106 (mQ.elim fun v3 m4 p3 => ?_)
      exact st_zreturn rfl (s4 v1 m1 p1 h1 v2 m2 p2 h2 v3 m4 p3) dX3_readClause_109 (mQ.ret (q2 v1 m1 p1 h1 v2 m2 p2 h2 v3 m4 p3))
    · have h2 : v2 = 0 := by omega
      refine st_iconst dX3_readClause_96 ?_
      exact st_zreturn rfl (by decide) dX3_readClause_97 (mQ.ret (q3 v1 m1 p1 h1 v2 m2 p2 h2))
/-- a clause read: its test and its sum lie behind what lay there -/
def resC (mem : mmM) : Int ⊕ (Int × List tokT × List tokT) → Int → mmM → Prop
  | .inl f, v, m => v = 0 ∧ lxFr mem m ∧ m 1 2 = f
  | .inr (q, ts, us), v, m => v = 1 ∧ lxFr mem m ∧ m 1 2 = q ∧ (mem 1 2 < q ∧ q ≤ mem 1 1) ∧ m 8 2 ≤ q - 2 ∧ (∀ i, i < mem 8 2 → m 9 i = mem 9 i) ∧
    ((ts.length = 0 ∧ m 8 2 = mem 8 2 + us.length ∧ tokX (m 9) (mem 8 2) us) ∨ (¬ ts.length = 0 ∧ m 8 2 = mem 8 2 + ts.length + 1 + us.length ∧ tokX (m 9) (mem 8 2) ts ∧ m 9 (mem 8 2 + ts.length) = 63 ∧ tokX (m 9) (mem 8 2 + ts.length + 1) us))
theorem resC_01 {mem m : mmM} {R : Int ⊕ (Int × List tokT × List tokT)} {v : Int} (h : resC mem R v m) : v = 0 ∨ v = 1 := by
  cases R with
  | inl f => exact Or.inl h.1
  | inr x =>
    obtain ⟨q, ts, us⟩ := x
    exact Or.inr h.1
theorem wrX_8 (m : mmM) (v : Int) : wrX m v 8 2 = m 8 2 + 1 := by
  unfold wrX
  rw [mset_same]
theorem wrX_9 (m : mmM) (v i : Int) : wrX m v 9 i = if i = m 8 2 then v else m 9 i := by
  unfold wrX
  rw [mset_ne (by decide), mset_at]
theorem wrX_1 (m : mmM) (v : Int) : wrX m v 1 = m 1 := by
  unfold wrX
  rw [mset_ne (by decide), mset_ne (by decide)]
/-- from the condition on -/
theorem rc_75 (mem : mmM) (hp : preX mem) (b : Int) (hb01 : b = 0 ∨ b = 1) (R : Int ⊕ (Int × List tokT × List tokT)) (m : mmM) (q : Int) (ts : List tokT) (hm : resX mem (.inr (q, ts)) 1 m) (hq : mem 1 2 + 2 ≤ q ∧ q ≤ mem 1 1 ∧ (ts.length : Int) ≤ q - mem 1 2 - 2) (hR : R = bindP (preT ts (cond1 (CX mem) (SX mem) 6 b q)) (behP (CX mem) (SX mem))) : mmT bX3_readClause 35 0 0 (mQ 0 (resC mem R)) 75 [(2, 8), (9, 0), (0, b)] [] mS m := by
  have hb := hp.1
  have hn := hb.1
  have h0 := hp.2.1
  have hsz := hp.2.2
  obtain ⟨-, a2, a3, a4, -, -⟩ := id hm
  have eC := lxFr_C a2
  have eS := lxFr_S a2
  have hbm := lxFr_B a2 hb
  have pm : preX m := ⟨hbm, by rw [a3, lxFr_1 a2]; omega, by rw [a3, a4]; omega⟩
  have cc := c_X3_cond b hb01 m pm
  rw [eC, eS, a3] at cc
  have gC := good_cond1 mem b q (by omega) (by omega)
  refine bk_X3_readClause_75 (d1 := 34) (d2 := 3) (d3 := 24) (P1 := resX m (cond1 (CX mem) (SX mem) 6 b q))
    (P2 := fun v m' => ∃ w vs, cond1 (CX mem) (SX mem) 6 b q = .inr (w, vs) ∧ ((CX mem (SX mem w) = 63 ∧ v = 1 ∧ resX mem (.inr (SX mem w + 1, ts ++ vs)) 1 m') ∨ (¬ CX mem (SX mem w) = 63 ∧ v = 0 ∧ lxFr mem m' ∧ m' 1 2 = SX mem w)))
    (P3 := resC mem R) cc (fun v1 m1 w1 g => ?_) (fun v1 m1 w1 g v2 m2 w2 g2 => ?_) (fun v1 m1 w1 g => ?_) (fun v1 m1 w1 g v2 m2 w2 g2 v3 m3 w3 => w3) (fun v1 m1 w1 g v2 m2 w2 g2 => ?_) (s1 := fun v1 m1 w1 => resX_R w1) (s2 := fun v1 m1 w1 g v2 m2 w2 => ?_) (s3 := fun v1 m1 w1 g v2 m2 w2 g2 => ?_) (s4 := fun v1 m1 w1 g v2 m2 w2 g2 v3 m3 w3 => resC_01 w3)
  · obtain ⟨w, vs, e, w3⟩ := resX_yes w1 g
    have gd := gC.2 w vs e
    have w4 := resX_app hm w3
    have fr := w4.2.1
    have e12 := w4.2.2.1
    have tk := s_takes' m1 (lxFr_B fr hb) (x := 63) (by omega) (by rw [lxFr_1 fr]; omega) ⟨by decide, by decide⟩
    rw [lxFr_C fr, lxFr_S fr, e12] at tk
    refine con.mono tk (fun v m' t => ⟨w, vs, e, ?_⟩)
    rcases t with ⟨t1, t2, rfl⟩ | ⟨t1, t2, rfl⟩
    · exact Or.inl ⟨t1, t2, resX_cu w4 _⟩
    · exact Or.inr ⟨t1, t2, (resX_cu w4 (SX mem w)).2.1, cuX_at _ _⟩
  · obtain ⟨w, vs, e, w3⟩ := w2
    rcases w3 with ⟨z, -, w3⟩ | ⟨z, w4, -⟩
    · have gd := gC.2 w vs e
      have ge := SX_ge mem w
      have lt := CX_lt (mem := mem) (j := SX mem w) (by omega)
      obtain ⟨-, f2, f3, f4, f5, f6⟩ := w3
      rw [List.length_append] at f4
      have fw := lxFr_trans f2 (lxFr_wr m2 63)
      have pw : preX (wrX m2 63) := ⟨lxFr_B fw hb, by rw [wrX_1, f3, lxFr_1 f2]; omega, by rw [wrX_1, wrX_8, f3, f4]; omega⟩
      have sm := c_X3_sum0 (wrX m2 63) pw
      rw [lxFr_C fw, lxFr_S fw, wrX_1, f3] at sm
      have gs := good_sum (tapX_P mem) 6 (SX mem w + 1) (by omega) (by omega)
      refine con.mono sm (fun v m' s => ?_)
      rw [hR, e]
      show resC mem (behP (CX mem) (SX mem) w (ts ++ vs)) v m'
      unfold behP
      rw [if_neg (fun y => y z)]
      cases hs : sumL (CX mem) (SX mem) 6 (SX mem w + 1) with
      | inl f =>
        rw [hs] at s
        exact ⟨s.1, lxFr_trans fw s.2.1, s.2.2⟩
      | inr x =>
        obtain ⟨t, us⟩ := x
        rw [hs] at s
        have g3 := gs.2 t us hs
        obtain ⟨s1, s2, s3, s4, s5, s6⟩ := s
        rw [wrX_8] at s4 s5 s6
        refine ⟨s1, lxFr_trans fw s2, s3, by omega, by omega, fun i hi => ?_, Or.inr ⟨?_, ?_, ?_, ?_, ?_⟩⟩
        · rw [s6 i (by omega), wrX_9, if_neg (by omega)]
          exact f6 i hi
        · rw [List.length_append]
          omega
        · rw [s4, f4, List.length_append]
        · refine tokX_congr _ _ (fun i i0 i1 => ?_) f5
          rw [List.length_append] at i1
          rw [s6 i (by omega), wrX_9, if_neg (by omega)]
        · rw [List.length_append, show mem 8 2 + ((ts.length + vs.length : Nat) : Int) = m2 8 2 by omega, s6 _ (by omega), wrX_9, if_pos rfl]
        · rw [List.length_append, show mem 8 2 + ((ts.length + vs.length : Nat) : Int) + 1 = m2 8 2 + 1 by omega]
          exact s5
    · exact absurd w4 g2
  · obtain ⟨f, e, w3, w4⟩ := resX_no w1 g
    rw [hR, e]
    exact ⟨rfl, lxFr_trans a2 w3, w4⟩
  · obtain ⟨w, vs, e, w3⟩ := w2
    rw [hR, e]
    show resC mem (behP (CX mem) (SX mem) w (ts ++ vs)) 0 m2
    rcases w3 with ⟨z, w4, -⟩ | ⟨z, -, w4, w5⟩
    · exact absurd (w4.symm.trans g2) (by decide)
    · unfold behP
      rw [if_pos z]
      exact ⟨rfl, w4, w5⟩
  · obtain ⟨w, vs, e, w3⟩ := w2
    rcases w3 with ⟨z, rfl, -⟩ | ⟨z, rfl, -⟩ <;> exact ⟨by decide, by decide⟩
  · obtain ⟨w, vs, e, w3⟩ := w2
    rcases w3 with ⟨z, -, w3⟩ | ⟨z, w4, -⟩
    · have gd := gC.2 w vs e
      have ge := SX_ge mem w
      have lt := CX_lt (mem := mem) (j := SX mem w) (by omega)
      have f4 := w3.2.2.2.1
      rw [List.length_append] at f4
      omega
    · exact absurd w4 g2
theorem c_X3_readClause (mem : mmM) (hp : preX mem) : con 0 bX3_readClause 35 [(2, 8)] mem (resC mem (clauseP (CX mem) (SX mem) (mem 1 2))) := by
  have hb := hp.1
  have hn := hb.1
  have h0 := hp.2.1
  have hsz := hp.2.2
  obtain ⟨j, hj⟩ : ∃ j, mem 1 2 = j := ⟨_, rfl⟩
  obtain ⟨a, ha⟩ : ∃ a, SX mem j = a := ⟨_, rfl⟩
  obtain ⟨c, hc⟩ : ∃ c, SX mem (a + 1) = c := ⟨_, rfl⟩
  obtain ⟨p, hpp⟩ : ∃ p, SX mem (c + 1) = p := ⟨_, rfl⟩
  have ga := SX_ge mem j
  have gc := SX_ge mem (a + 1)
  have gp := SX_ge mem (c + 1)
  rw [ha] at ga
  rw [hc] at gc
  rw [hpp] at gp
  have lt : ∀ z, 0 < CX mem z → z < mem 1 1 := fun z h => CX_lt h
  have lp : CX mem c = 58 → p ≤ mem 1 1 := by
    intro z
    have := lt c (by omega)
    rw [← hpp]
    exact SX_le (by omega)
  have rp := CX_rng hb p
  have em : mem = cuX mem j := by rw [← hj, cuX_id]
  obtain ⟨R, hR⟩ : ∃ R, clauseP (CX mem) (SX mem) j = R := ⟨_, rfl⟩
  have base : ∀ z, resX mem (.inr (z, [])) 1 (cuX mem z) := fun z => resX_cu (resX_nil mem) z
  have e1 : ¬ CX mem a = 121 → R = .inl a := fun z => by rw [← hR, clauseP_1 (by rw [ha]; exact z), ha]
  have e2 : CX mem a = 121 → ¬ CX mem c = 58 → R = .inl c := fun z z2 => by rw [← hR, clauseP_2 (by rw [ha]; exact z) (by rw [ha, hc]; exact z2), ha, hc]
  have e3 : CX mem a = 121 → CX mem c = 58 → (CX mem p = 33 ∨ CX mem p = 40) → R = bindP (preT [] (cond1 (CX mem) (SX mem) 6 0 p)) (behP (CX mem) (SX mem)) := fun z z2 z3 => by
    rw [← hR, clauseP_c (by rw [ha]; exact z) (by rw [ha, hc]; exact z2) (by rw [ha, hc, hpp]; exact z3), ha, hc, hpp, cond1_0]
    cases condO (CX mem) (SX mem) (unitL (CX mem) (SX mem) 6) p <;> rfl
  have e4 : CX mem a = 121 → CX mem c = 58 → ¬ (CX mem p = 33 ∨ CX mem p = 40) → R = bindP (sumL (CX mem) (SX mem) 6 p) (fun q ts => if opC (CX mem (SX mem q)) = none then .inr (SX mem q, [], ts) else bindP (preT ts (cond1 (CX mem) (SX mem) 6 1 q)) (behP (CX mem) (SX mem))) := fun z z2 z3 => by
    rw [← hR, clauseP_s (by rw [ha]; exact z) (by rw [ha, hc]; exact z2) (by rw [ha, hc, hpp]; exact z3), ha, hc, hpp]
  rw [hj, hR]
  have t1 := s_takes mem hb (j := j) (x := 121) (by omega) (by omega) ⟨by decide, by decide⟩
  rw [ha, ← em] at t1
  refine cn_X3_readClause (bk_X3_readClause_0 (d1 := 3) (d2 := 3) (d3 := 2) (d4 := 24) (d5 := 3) (P1 := fun v m => (CX mem a = 121 ∧ v = 1 ∧ m = cuX mem (a + 1)) ∨ (¬ CX mem a = 121 ∧ v = 0 ∧ m = cuX mem a)) (P2 := fun v m => CX mem a = 121 ∧ ((CX mem c = 58 ∧ v = 1 ∧ m = cuX mem (c + 1)) ∨ (¬ CX mem c = 58 ∧ v = 0 ∧ m = cuX mem c)))
    (P3 := fun v m => CX mem a = 121 ∧ CX mem c = 58 ∧ v = CX mem p ∧ m = cuX mem p) (P4 := fun v m => CX mem a = 121 ∧ CX mem c = 58 ∧ resX (cuX mem p) (sumL (CX mem) (SX mem) 6 p) v m)
    (P5 := fun v m => CX mem a = 121 ∧ CX mem c = 58 ∧ ∃ q ts m', sumL (CX mem) (SX mem) 6 p = .inr (q, ts) ∧ (p < q ∧ q ≤ mem 1 1 ∧ (ts.length : Int) ≤ q - p) ∧ resX mem (.inr (q, ts)) 1 m' ∧ (((∃ op, opC (CX mem (SX mem q)) = some op) ∧ v = 1) ∨ (opC (CX mem (SX mem q)) = none ∧ v = 0)) ∧ m = cuX m' (SX mem q))
    t1 ?_ ?_ ?_ ?_ ?_ ?_ ?_ ?_ ?_ ?_ ?_ (s1 := ?_) (s2 := ?_) (s3 := ?_) (s4 := ?_) (s5 := ?_))
  · rintro v m (⟨z, rfl, rfl⟩ | ⟨z, rfl, rfl⟩) g
    · have := lt a (by omega)
      have t2 := s_takes mem hb (j := a + 1) (x := 58) (by omega) (by omega) ⟨by decide, by decide⟩
      rw [hc] at t2
      exact con.mono t2 (fun v m t => ⟨z, t⟩)
    · exact absurd rfl g
  · rintro v m _ _ v2 m2 ⟨z, (⟨z2, rfl, rfl⟩ | ⟨z2, rfl, rfl⟩)⟩ g2
    · have := s_sign mem hb (j := c + 1) (by omega)
      rw [hpp] at this
      exact con.mono this (fun v m t => ⟨z, z2, t⟩)
    · exact absurd rfl g2
  · rintro v m _ _ v2 m2 _ _ v3 m3 ⟨z, z2, rfl, rfl⟩ g3 g4
    have := lp z2
    have sm := c_X3_sum0 (cuX mem p) ⟨bytX_cu hb _, by rw [cuX_at, cuX_1]; omega, by rw [cuX_at, cuX_ne _ _ (by decide)]; omega⟩
    rw [CX_cu, SX_cu, cuX_at] at sm
    exact con.mono sm (fun v m t => ⟨z, z2, t⟩)
  · rintro v m _ _ v2 m2 _ _ v3 m3 _ _ _ v4 m4 ⟨z, z2, w⟩ g4
    obtain ⟨q, ts, e, w2⟩ := resX_yes w g4
    have lpp := lp z2
    have gd := (good_sum (tapX_P mem) 6 p (by omega) lpp).2 q ts e
    have w3 := resX_app (base p) w2
    have fr := w3.2.1
    have cm := s_cmp m4 (lxFr_B fr hb) (by rw [w3.2.2.1]; omega)
    rw [lxFr_C fr, lxFr_S fr, w3.2.2.1] at cm
    exact con.mono cm (fun v m t => ⟨z, z2, q, ts, m4, e, ⟨gd.1, gd.2.1, gd.2.2.1⟩, w3, t⟩)
  · rintro v m _ _ v2 m2 _ _ v3 m3 ⟨z, z2, rfl, rfl⟩ g3
    have lpp := lp z2
    exact rc_75 mem hp 0 (Or.inl rfl) R (cuX mem p) p [] (base p) ⟨by omega, lpp, by show ((0 : Nat) : Int) ≤ _; omega⟩ (e3 z z2 (Or.inl g3))
  · rintro v m _ _ v2 m2 _ _ v3 m3 ⟨z, z2, rfl, rfl⟩ g3 g4
    have lpp := lp z2
    exact rc_75 mem hp 0 (Or.inl rfl) R (cuX mem p) p [] (base p) ⟨by omega, lpp, by show ((0 : Nat) : Int) ≤ _; omega⟩ (e3 z z2 (Or.inr g4))
  · rintro v m _ _ v2 m2 _ _ v3 m3 ⟨-, -, rfl, -⟩ g3 g4 v4 m4 _ _ v5 m5 ⟨z, z2, q, ts, m', e, gd, w3, w4, rfl⟩ g5
    rcases w4 with ⟨⟨op, ho⟩, -⟩ | ⟨-, w4⟩
    · have ls := lt (SX mem q) (opC_pos ho).1
      have gs := SX_ge mem q
      refine rc_75 mem hp 1 (Or.inr rfl) R _ (SX mem q) ts (resX_cu w3 _) ⟨by omega, by omega, by omega⟩ ?_
      rw [e4 z z2 (fun y => y.elim g3 g4), e]
      show (if opC (CX mem (SX mem q)) = none then _ else _) = _
      rw [ho, if_neg (fun y => by cases y)]
      have es : cond1 (CX mem) (SX mem) 6 1 (SX mem q) = cond1 (CX mem) (SX mem) 6 1 q := by
        show goP _ _ opO _ (goP _ _ opA _ (cmpP _ _ _ (SX mem q) [])) = goP _ _ opO _ (goP _ _ opA _ (cmpP _ _ _ q []))
        rw [cmpP_S (SX_SX mem)]
      rw [es]
    · exact absurd w4 g5
  · rintro v m (⟨z, rfl, rfl⟩ | ⟨z, -, rfl⟩) g
    · exact absurd g (by decide)
    · rw [e1 z]
      exact ⟨rfl, lxFr_cu mem _, cuX_at _ _⟩
  · rintro v m _ _ v2 m2 _ _ v3 m3 ⟨-, -, rfl, -⟩ g3 g4 v4 m4 _ _ v5 m5 ⟨z, z2, q, ts, m', e, gd, w3, w4, rfl⟩ g5
    rcases w4 with ⟨-, w4⟩ | ⟨ho, -⟩
    · exact absurd (w4.symm.trans g5) (by decide)
    · rw [e4 z z2 (fun y => y.elim g3 g4), e]
      show resC mem (if opC (CX mem (SX mem q)) = none then _ else _) 1 _
      rw [if_pos ho]
      have gs := SX_ge mem q
      have ls := SX_le (mem := mem) (j := q) gd.2.1
      obtain ⟨-, f2, f3, f4, f5, f6⟩ := w3
      refine ⟨rfl, lxFr_trans f2 (lxFr_cu m' _), cuX_at _ _, by omega, ?_, ?_, Or.inl ⟨rfl, ?_, ?_⟩⟩
      · rw [cuX_ne _ _ (by decide), f4]
        omega
      · rw [cuX_ne _ _ (by decide)]
        exact f6
      · rw [cuX_ne _ _ (by decide), f4]
      · rw [cuX_ne _ _ (by decide)]
        exact f5
  · rintro v m _ _ v2 m2 _ _ v3 m3 ⟨-, -, rfl, -⟩ g3 g4 v4 m4 ⟨z, z2, w⟩ g5
    obtain ⟨f, e, w2, w3⟩ := resX_no w g5
    rw [e4 z z2 (fun y => y.elim g3 g4), e]
    exact ⟨rfl, lxFr_trans (lxFr_cu mem _) w2, w3⟩
  · rintro v m _ _ v2 m2 ⟨z, (⟨z2, rfl, rfl⟩ | ⟨z2, -, rfl⟩)⟩ g2
    · exact absurd g2 (by decide)
    · rw [e2 z z2]
      exact ⟨rfl, lxFr_cu mem _, cuX_at _ _⟩
  · rintro v m (⟨z, rfl, rfl⟩ | ⟨z, rfl, rfl⟩) <;> exact ⟨by decide, by decide⟩
  · rintro v m _ _ v2 m2 ⟨z, (⟨z2, rfl, rfl⟩ | ⟨z2, rfl, rfl⟩)⟩ <;> exact ⟨by decide, by decide⟩
  · rintro v m _ _ v2 m2 _ _ v3 m3 ⟨z, z2, rfl, rfl⟩
    exact ⟨by omega, by omega⟩
  · rintro v m _ _ v2 m2 _ _ v3 m3 _ _ _ v4 m4 ⟨z, z2, w⟩
    exact resX_R w
  · rintro v m _ _ v2 m2 _ _ v3 m3 _ _ _ v4 m4 _ _ v5 m5 ⟨z, z2, q, ts, m', e, gd, w3, w4, rfl⟩
    rcases w4 with ⟨-, rfl⟩ | ⟨-, rfl⟩ <;> exact ⟨by decide, by decide⟩
