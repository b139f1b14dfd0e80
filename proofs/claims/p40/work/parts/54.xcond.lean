/-! the class reads conditions -/
def goP (C S : Int → Int) (ops : Int → Option Int) (f : Int → PR) : PR → PR
  | .inl e => .inl e
  | .inr (q, ts) => loopP C S ops f 200 q ts
theorem chainP_go (C S : Int → Int) (ops : Int → Option Int) (f : Int → PR) (j : Int) : chainP C S ops f j = goP C S ops f (f j) := by
  unfold chainP
  cases f j with
  | inl e => rfl
  | inr x => rfl
theorem encC {c op : Int} (h : opC c = some op) : encX (op, 0) = c := by
  unfold opC at h
  split at h
  · cases h
    rename_i e
    rw [e]
    decide
  · split at h
    · cases h
      rename_i e
      rw [e]
      decide
    · split at h
      · cases h
        rename_i e
        rw [e]
        decide
      · cases h
theorem encA {c op : Int} (h : opA c = some op) : encX (op, 0) = c := by
  unfold opA at h
  split at h
  · cases h
    rename_i e
    rw [e]
    decide
  · cases h
theorem encO {c op : Int} (h : opO c = some op) : encX (op, 0) = c := by
  unfold opO at h
  split at h
  · cases h
    rename_i e
    rw [e]
    decide
  · cases h
theorem cmpP_no {C S : Int → Int} {f : Int → PR} {q : Int} {ts : List tokT} (h : opC (C (S q)) = none) : cmpP C S f q ts = .inl (S q) := by
  unfold cmpP
  rw [h]
theorem cmpP_bad {C S : Int → Int} {f : Int → PR} {q op e : Int} {ts : List tokT} (h : opC (C (S q)) = some op) (hf : f (S q + 1) = .inl e) : cmpP C S f q ts = .inl e := by
  unfold cmpP
  rw [h]
  show (match f (S q + 1) with | .inl e => _ | .inr (t, us) => _) = _
  rw [hf]
theorem cmpP_yes {C S : Int → Int} {f : Int → PR} {q op t : Int} {ts us : List tokT} (h : opC (C (S q)) = some op) (hf : f (S q + 1) = .inr (t, us)) : cmpP C S f q ts = .inr (t, ts ++ us ++ [(op, 0)]) := by
  unfold cmpP
  rw [h]
  show (match f (S q + 1) with | .inl e => _ | .inr (t, us) => _) = _
  rw [hf]
theorem cn_X3_atComparison {d : Nat} {P : Int → mmM → Prop} {mem : mmM} (h : mmT bX3_atComparison d 0 0 (mQ 0 P) 0 [(2, 8), (9, 0)] [] mS mem) : con 0 bX3_atComparison d [(2, 8)] mem P := mmC_of [(2, 8), (9, 0)] ok_X3_atComparison.2.2.2.2 rfl (Nat.le_of_ble_eq_true rfl) h
theorem bk_X3_atComparison_0 {d : Nat} {d1 : Nat} {P1 : Int → mmM → Prop} {P : Int → mmM → Prop} {mem : mmM}
  (c1 : con 0 bX9_sign d1 [(2, 1)] mem P1)
  (q1 : ∀ (v1 : Int), ∀ (m1 : mmM), P1 v1 m1 → v1 = 61 → P 1 m1)
  (q2 : ∀ (v1 : Int), ∀ (m1 : mmM), P1 v1 m1 → ¬ v1 = 61 → v1 = 60 → P 1 m1)
  (q3 : ∀ (v1 : Int), ∀ (m1 : mmM), P1 v1 m1 → ¬ v1 = 61 → ¬ v1 = 60 → ¬ v1 = 62 → P 0 m1)
  (q4 : ∀ (v1 : Int), ∀ (m1 : mmM), P1 v1 m1 → ¬ v1 = 61 → ¬ v1 = 60 → v1 = 62 → P 1 m1)
  (hd_d1 : d1 + 1 ≤ d := by omega)
  (s1 : ∀ (v1 : Int), ∀ (m1 : mmM), P1 v1 m1 → R32 v1 := by intros; first | omega | assumption | solve_by_elim)
  : mmT bX3_atComparison d 0 0 (mQ 0 P) 0 [(2, 8), (9, 0)] [] mS mem := by
  refine st_aload_n (i := 0) rfl (t := 0) rfl (by decide) dX3_atComparison_0 ?_
  refine so_getA 8 0 fr_X3_17_3 rfl sh_8 fx_8_0 dX3_atComparison_1 ?_
  refine st_callV (kc2 := 0) (ks2 := 0) (av := []) 1 9 mr_X3_42 ok_X9_sign c1 rfl sh_1 ⟨_, rfl, rfl, by decide⟩ rfl rfl hd_d1 (Nat.le_refl 0) (Nat.le_refl 0) (Nat.le_of_ble_eq_true rfl) dX3_atComparison_4 (mQ.elim fun v1 m1 p1 => ?_)
  refine st_istore_n (i := 1) rfl (by decide) (lc' := [(2, 8), (0, v1)]) rfl dX3_atComparison_7 ?_
  refine st_iload_n (i := 1) rfl rfl dX3_atComparison_8 ?_
  refine st_bipush rfl dX3_atComparison_9 ?_
  refine sr_icmp_eq 26 (s1 v1 m1 p1) ⟨by decide, by decide⟩ (by decide) dX3_atComparison_11 (fun h1 => ?_) (fun h1 => ?_)
  · have h1 : v1 = 61 := by omega
    refine st_iconst dX3_atComparison_26 ?_
    refine st_goto 31 (by decide) dX3_atComparison_27 ?_
    exact st_zreturn rfl (by decide) dX3_atComparison_31 (mQ.ret (q1 v1 m1 p1 h1))
  · have h1 : ¬ v1 = 61 := by omega
    refine st_iload_n (i := 1) rfl rfl dX3_atComparison_14 ?_
    refine st_bipush rfl dX3_atComparison_15 ?_
    refine sr_icmp_eq 26 (s1 v1 m1 p1) ⟨by decide, by decide⟩ (by decide) dX3_atComparison_17 (fun h2 => ?_) (fun h2 => ?_)
    · have h2 : v1 = 60 := by omega
      refine st_iconst dX3_atComparison_26 ?_
      refine st_goto 31 (by decide) dX3_atComparison_27 ?_
      exact st_zreturn rfl (by decide) dX3_atComparison_31 (mQ.ret (q2 v1 m1 p1 h1 h2))
    · have h2 : ¬ v1 = 60 := by omega
      refine st_iload_n (i := 1) rfl rfl dX3_atComparison_20 ?_
      refine st_bipush rfl dX3_atComparison_21 ?_
      refine sr_icmp_ne 30 (s1 v1 m1 p1) ⟨by decide, by decide⟩ (by decide) dX3_atComparison_23 (fun h3 => ?_) (fun h3 => ?_)
      · have h3 : ¬ v1 = 62 := by omega
        refine st_iconst dX3_atComparison_30 ?_
        exact st_zreturn rfl (by decide) dX3_atComparison_31 (mQ.ret (q3 v1 m1 p1 h1 h2 h3))
      · have h3 : v1 = 62 := by omega
        refine st_iconst dX3_atComparison_26 ?_
        refine st_goto 31 (by decide) dX3_atComparison_27 ?_
        exact st_zreturn rfl (by decide) dX3_atComparison_31 (mQ.ret (q4 v1 m1 p1 h1 h2 h3))
theorem s_cmp (m : mmM) (hb : bytX m) (h0 : 0 ≤ m 1 2) : con 0 bX3_atComparison 3 [(2, 8)] m (fun v m' => (((∃ op, opC (CX m (SX m (m 1 2))) = some op) ∧ v = 1) ∨ (opC (CX m (SX m (m 1 2))) = none ∧ v = 0)) ∧ m' = cuX m (SX m (m 1 2))) := by
  have rg := CX_rng hb (SX m (m 1 2))
  refine cn_X3_atComparison (bk_X3_atComparison_0 (d1 := 2) (P1 := fun v m' => v = CX m (SX m (m 1 2)) ∧ m' = cuX m (SX m (m 1 2))) (sign_m m hb h0) ?_ ?_ ?_ ?_ (s1 := ?_))
  · rintro v m' ⟨rfl, rfl⟩ g
    exact ⟨Or.inl ⟨⟨6, by rw [g]; rfl⟩, rfl⟩, rfl⟩
  · rintro v m' ⟨rfl, rfl⟩ _ g
    exact ⟨Or.inl ⟨⟨7, by rw [g]; rfl⟩, rfl⟩, rfl⟩
  · rintro v m' ⟨rfl, rfl⟩ g g2 g3
    refine ⟨Or.inr ⟨?_, rfl⟩, rfl⟩
    unfold opC
    rw [if_neg g, if_neg g2, if_neg g3]
  · rintro v m' ⟨rfl, rfl⟩ _ _ g
    exact ⟨Or.inl ⟨⟨8, by rw [g]; rfl⟩, rfl⟩, rfl⟩
  · rintro v m' ⟨rfl, rfl⟩
    exact ⟨by omega, by omega⟩
theorem cn_X3_readUnit {d : Nat} {P : Int → mmM → Prop} {mem : mmM} {x1 x2 : Int} (h : mmT bX3_readUnit d 0 0 (mQ 0 P) 0 [(2, 8), (0, x1), (0, x2), (9, 0), (9, 0)] [] mS mem) : con 0 bX3_readUnit d [(2, 8), (0, x1), (0, x2)] mem P := mmC_of [(2, 8), (0, x1), (0, x2), (9, 0), (9, 0)] ok_X3_readUnit.2.2.2.2 rfl (Nat.le_of_ble_eq_true rfl) h
theorem bk_X3_readUnit_0 {d : Nat} {d1 : Nat} {P1 : Int → mmM → Prop} {d2 : Nat} {P2 : Int → mmM → Prop} {d3 : Nat} {P3 : Int → mmM → Prop} {P : Int → mmM → Prop} {mem : mmM} {x1 x2 : Int}
  (c1 : con 0 bX9_sign d1 [(2, 1)] mem P1)
  (c2 : ∀ (v1 : Int), ∀ (m1 : mmM), P1 v1 m1 → x2 = 0 → v1 = 33 → con 0 bX3_readNested d2 [(2, 8), (0, x1), (0, v1)] m1 P2)
  (c3 : ∀ (v1 : Int), ∀ (m1 : mmM), P1 v1 m1 → x2 = 0 → ¬ v1 = 33 → v1 = 40 → con 0 bX3_readNested d3 [(2, 8), (0, x1), (0, v1)] m1 P3)
  (k1 : ∀ (v1 : Int), ∀ (m1 : mmM), P1 v1 m1 → ¬ x2 = 0 → mmT bX3_readUnit d 0 0 (mQ 0 P) 31 [(2, 8), (0, x1), (0, x2), (9, 0), (9, 0)] [] mS m1)
  (k2 : ∀ (v1 : Int), ∀ (m1 : mmM), P1 v1 m1 → x2 = 0 → ¬ v1 = 33 → ¬ v1 = 40 → mmT bX3_readUnit d 0 0 (mQ 0 P) 31 [(2, 8), (0, x1), (0, x2), (9, 0), (9, 0)] [] mS m1)
  (q1 : ∀ (v1 : Int), ∀ (m1 : mmM), P1 v1 m1 → x2 = 0 → v1 = 33 → ∀ (v2 : Int), ∀ (m2 : mmM), P2 v2 m2 → P v2 m2)
  (q2 : ∀ (v1 : Int), ∀ (m1 : mmM), P1 v1 m1 → x2 = 0 → ¬ v1 = 33 → v1 = 40 → ∀ (v3 : Int), ∀ (m3 : mmM), P3 v3 m3 → P v3 m3)
  (hd_d1 : d1 + 1 ≤ d := by omega)
  (hd_d2 : d2 + 1 ≤ d := by omega)
  (hd_d3 : d3 + 1 ≤ d := by omega)
  (s1 : ∀ (v1 : Int), ∀ (m1 : mmM), P1 v1 m1 → R32 x2 := by intros; first | omega | assumption | solve_by_elim)
  (s2 : ∀ (v1 : Int), ∀ (m1 : mmM), P1 v1 m1 → x2 = 0 → R32 v1 := by intros; first | omega | assumption | solve_by_elim)
  (s3 : ∀ (v1 : Int), ∀ (m1 : mmM), P1 v1 m1 → x2 = 0 → v1 = 33 → ∀ (v2 : Int), ∀ (m2 : mmM), P2 v2 m2 → v2 = 0 ∨ v2 = 1 := by intros; first | omega | assumption | solve_by_elim)
  (s4 : ∀ (v1 : Int), ∀ (m1 : mmM), P1 v1 m1 → x2 = 0 → ¬ v1 = 33 → v1 = 40 → ∀ (v3 : Int), ∀ (m3 : mmM), P3 v3 m3 → v3 = 0 ∨ v3 = 1 := by intros; first | omega | assumption | solve_by_elim)
  : mmT bX3_readUnit d 0 0 (mQ 0 P) 0 [(2, 8), (0, x1), (0, x2), (9, 0), (9, 0)] [] mS mem := by
  refine st_aload_n (i := 0) rfl (t := 0) rfl (by decide) dX3_readUnit_0 ?_
  refine so_getA 8 0 fr_X3_17_3 rfl sh_8 fx_8_0 dX3_readUnit_1 ?_
  refine st_callV (kc2 := 0) (ks2 := 0) (av := []) 1 9 mr_X3_42 ok_X9_sign c1 rfl sh_1 ⟨_, rfl, rfl, by decide⟩ rfl rfl hd_d1 (Nat.le_refl 0) (Nat.le_refl 0) (Nat.le_of_ble_eq_true rfl) dX3_readUnit_4 (mQ.elim fun v1 m1 p1 => ?_)
  refine st_istore_n (i := 3) rfl (by decide) (lc' := [(2, 8), (0, x1), (0, x2), (0, v1), (9, 0)]) rfl dX3_readUnit_7 ?_
  refine st_iload_n (i := 2) rfl rfl dX3_readUnit_8 ?_
  refine sr_if_ne 31 (s1 v1 m1 p1) (by decide) dX3_readUnit_9 (fun h1 => ?_) (fun h1 => ?_)
  · have h1 : ¬ x2 = 0 := by omega
    exact st_locals [(2, 8), (0, x1), (0, x2), (9, 0), (9, 0)] ⟨Or.inr rfl, Or.inr rfl, Or.inr rfl, Or.inl rfl, Or.inl rfl, trivial⟩ (k1 v1 m1 p1 h1)
  · have h1 : x2 = 0 := by omega
    refine st_iload_n (i := 3) rfl rfl dX3_readUnit_12 ?_
    refine st_bipush rfl dX3_readUnit_13 ?_
    refine sr_icmp_eq 24 (s2 v1 m1 p1 h1) ⟨by decide, by decide⟩ (by decide) dX3_readUnit_15 (fun h2 => ?_) (fun h2 => ?_)
    · have h2 : v1 = 33 := by omega
      refine st_aload_n (i := 0) rfl (t := 0) rfl (by decide) dX3_readUnit_24 ?_
      refine st_iload_n (i := 1) rfl rfl dX3_readUnit_25 ?_
      refine st_iload_n (i := 3) rfl rfl dX3_readUnit_26 ?_
      refine st_callV (kc2 := 0) (ks2 := 0) (av := [(0, x1), (0, v1)]) 8 3 mr_X3_62 ok_X3_readNested (c2 v1 m1 p1 h1 h2) rfl sh_8 ⟨_, rfl, rfl, by decide⟩ rfl rfl hd_d2 (Nat.le_refl 0) (Nat.le_refl 0) (Nat.le_of_ble_eq_true rfl) dX3_readUnit_27 (mQ.elim fun v2 m2 p2 => ?_)
      exact st_zreturn rfl (s3 v1 m1 p1 h1 h2 v2 m2 p2) dX3_readUnit_30 (mQ.ret (q1 v1 m1 p1 h1 h2 v2 m2 p2))
    · have h2 : ¬ v1 = 33 := by omega
      refine st_iload_n (i := 3) rfl rfl dX3_readUnit_18 ?_
      refine st_bipush rfl dX3_readUnit_19 ?_
      refine sr_icmp_ne 31 (s2 v1 m1 p1 h1) ⟨by decide, by decide⟩ (by decide) dX3_readUnit_21 (fun h3 => ?_) (fun h3 => ?_)
      · have h3 : ¬ v1 = 40 := by omega
        exact st_locals [(2, 8), (0, x1), (0, x2), (9, 0), (9, 0)] ⟨Or.inr rfl, Or.inr rfl, Or.inr rfl, Or.inl rfl, Or.inl rfl, trivial⟩ (k2 v1 m1 p1 h1 h2 h3)
      · have h3 : v1 = 40 := by omega
        refine st_aload_n (i := 0) rfl (t := 0) rfl (by decide) dX3_readUnit_24 ?_
        refine st_iload_n (i := 1) rfl rfl dX3_readUnit_25 ?_
        refine st_iload_n (i := 3) rfl rfl dX3_readUnit_26 ?_
        refine st_callV (kc2 := 0) (ks2 := 0) (av := [(0, x1), (0, v1)]) 8 3 mr_X3_62 ok_X3_readNested (c3 v1 m1 p1 h1 h2 h3) rfl sh_8 ⟨_, rfl, rfl, by decide⟩ rfl rfl hd_d3 (Nat.le_refl 0) (Nat.le_refl 0) (Nat.le_of_ble_eq_true rfl) dX3_readUnit_27 (mQ.elim fun v3 m3 p3 => ?_)
        exact st_zreturn rfl (s4 v1 m1 p1 h1 h2 h3 v3 m3 p3) dX3_readUnit_30 (mQ.ret (q2 v1 m1 p1 h1 h2 h3 v3 m3 p3))
theorem bk_X3_readUnit_31 {d : Nat} {d1 : Nat} {P1 : Int → mmM → Prop} {P : Int → mmM → Prop} {mem : mmM} {x1 x2 : Int}
  (c1 : x2 = 0 → con 0 bX3_readSum d1 [(2, 8), (0, x1)] mem P1)
  (k1 : ¬ x2 = 0 → mmT bX3_readUnit d 0 0 (mQ 0 P) 43 [(2, 8), (0, x1), (9, 0), (9, 0), (9, 0)] [] mS mem)
  (k2 : x2 = 0 → ∀ (v1 : Int), ∀ (m1 : mmM), P1 v1 m1 → ¬ v1 = 0 → mmT bX3_readUnit d 0 0 (mQ 0 P) 43 [(2, 8), (0, x1), (9, 0), (9, 0), (9, 0)] [] mS m1)
  (q1 : x2 = 0 → ∀ (v1 : Int), ∀ (m1 : mmM), P1 v1 m1 → v1 = 0 → P 0 m1)
  (hd_d1 : d1 + 1 ≤ d := by omega)
  (s1 : R32 x2 := by intros; first | omega | assumption | solve_by_elim)
  (s2 : x2 = 0 → ∀ (v1 : Int), ∀ (m1 : mmM), P1 v1 m1 → R32 v1 := by intros; first | omega | assumption | solve_by_elim)
  : mmT bX3_readUnit d 0 0 (mQ 0 P) 31 [(2, 8), (0, x1), (0, x2), (9, 0), (9, 0)] [] mS mem := by
  refine st_iload_n (i := 2) rfl rfl dX3_readUnit_31 ?_
  refine sr_if_ne 43 s1 (by decide) dX3_readUnit_32 (fun h1 => ?_) (fun h1 => ?_)
  · have h1 : ¬ x2 = 0 := by omega
    exact st_locals [(2, 8), (0, x1), (9, 0), (9, 0), (9, 0)] ⟨Or.inr rfl, Or.inr rfl, Or.inl rfl, Or.inl rfl, Or.inl rfl, trivial⟩ (k1 h1)
  · have h1 : x2 = 0 := by omega
    refine st_aload_n (i := 0) rfl (t := 0) rfl (by decide) dX3_readUnit_35 ?_
    refine st_iload_n (i := 1) rfl rfl dX3_readUnit_36 ?_
    refine st_callV (kc2 := 0) (ks2 := 0) (av := [(0, x1)]) 8 3 mr_X3_46 ok_X3_readSum (c1 h1) rfl sh_8 ⟨_, rfl, rfl, by decide⟩ rfl rfl hd_d1 (Nat.le_refl 0) (Nat.le_refl 0) (Nat.le_of_ble_eq_true rfl) dX3_readUnit_37 (mQ.elim fun v1 m1 p1 => ?_)
    refine sr_if_eq 50 (s2 h1 v1 m1 p1) (by decide) dX3_readUnit_40 (fun h2 => ?_) (fun h2 => ?_)
    · have h2 : v1 = 0 := by omega
      refine st_iconst dX3_readUnit_50 ?_
      exact st_zreturn rfl (by decide) dX3_readUnit_51 (mQ.ret (q1 h1 v1 m1 p1 h2))
    · have h2 : ¬ v1 = 0 := by omega
      exact st_locals [(2, 8), (0, x1), (9, 0), (9, 0), (9, 0)] ⟨Or.inr rfl, Or.inr rfl, Or.inl rfl, Or.inl rfl, Or.inl rfl, trivial⟩ (k2 h1 v1 m1 p1 h2)
theorem bk_X3_readUnit_43 {d : Nat} {d1 : Nat} {P1 : Int → mmM → Prop} {P : Int → mmM → Prop} {mem : mmM} {x1 : Int}
  (c1 : con 0 bX3_atComparison d1 [(2, 8)] mem P1)
  (k1 : ∀ (v1 : Int), ∀ (m1 : mmM), P1 v1 m1 → ¬ v1 = 0 → mmT bX3_readUnit d 0 0 (mQ 0 P) 52 [(2, 8), (0, x1), (9, 0), (9, 0), (9, 0)] [] mS m1)
  (q1 : ∀ (v1 : Int), ∀ (m1 : mmM), P1 v1 m1 → v1 = 0 → P 0 m1)
  (hd_d1 : d1 + 1 ≤ d := by omega)
  (s1 : ∀ (v1 : Int), ∀ (m1 : mmM), P1 v1 m1 → R32 v1 := by intros; first | omega | assumption | solve_by_elim)
  : mmT bX3_readUnit d 0 0 (mQ 0 P) 43 [(2, 8), (0, x1), (9, 0), (9, 0), (9, 0)] [] mS mem := by
  refine st_aload_n (i := 0) rfl (t := 0) rfl (by decide) dX3_readUnit_43 ?_
  refine st_callV (kc2 := 0) (ks2 := 0) (av := []) 8 3 mr_X3_49 ok_X3_atComparison c1 rfl sh_8 ⟨_, rfl, rfl, by decide⟩ rfl rfl hd_d1 (Nat.le_refl 0) (Nat.le_refl 0) (Nat.le_of_ble_eq_true rfl) dX3_readUnit_44 (mQ.elim fun v1 m1 p1 => ?_)
  refine sr_if_ne 52 (s1 v1 m1 p1) (by decide) dX3_readUnit_47 (fun h1 => ?_) (fun h1 => ?_)
  · have h1 : ¬ v1 = 0 := by omega
    exact st_locals [(2, 8), (0, x1), (9, 0), (9, 0), (9, 0)] ⟨Or.inr rfl, Or.inr rfl, Or.inl rfl, Or.inl rfl, Or.inl rfl, trivial⟩ (k1 v1 m1 p1 h1)
  · have h1 : v1 = 0 := by omega
    refine st_iconst dX3_readUnit_50 ?_
    exact st_zreturn rfl (by decide) dX3_readUnit_51 (mQ.ret (q1 v1 m1 p1 h1))
theorem bk_X3_readUnit_52 {d : Nat} {d1 : Nat} {P1 : Int → mmM → Prop} {P : Int → mmM → Prop} {mem : mmM} {x1 : Int}
  (c1 : con 0 bX3_readSum d1 [(2, 8), (0, x1)] (mset mem 1 2 ((mem 1 2) + 1)) P1)
  (q1 : ∀ (v2 : Int), ∀ (m2 : mmM), P1 v2 m2 → ¬ v2 = 0 → P 1 (wrX m2 (hereX mem)))
  (q2 : ∀ (v2 : Int), ∀ (m2 : mmM), P1 v2 m2 → v2 = 0 → P 0 m2)
  (hd_d1 : d1 + 1 ≤ d := by omega)
  (hd1 : 1 ≤ d := by omega)
  (hd2 : 2 ≤ d := by omega)
  (s1 : bytX mem := by intros; first | omega | assumption | solve_by_elim)
  (s2 : R32 ((mem 1 2) + 1) := by intros; first | omega | assumption | solve_by_elim)
  (s3 : ∀ (v2 : Int), ∀ (m2 : mmM), P1 v2 m2 → R32 v2 := by intros; first | omega | assumption | solve_by_elim)
  (s4 : ∀ (v2 : Int), ∀ (m2 : mmM), P1 v2 m2 → ¬ v2 = 0 → 0 ≤ (m2 8 2) ∧ (m2 8 2) < 160 := by intros; first | omega | assumption | solve_by_elim)
  : mmT bX3_readUnit d 0 0 (mQ 0 P) 52 [(2, 8), (0, x1), (9, 0), (9, 0), (9, 0)] [] mS mem := by
  refine st_aload_n (i := 0) rfl (t := 0) rfl (by decide) dX3_readUnit_52 ?_
  refine so_getA 8 0 fr_X3_17_3 rfl sh_8 fx_8_0 dX3_readUnit_53 ?_
  refine st_callV (kc2 := 0) (ks2 := 0) (av := []) 1 9 mr_X3_66 ok_X9_here (c_X9_hereB mem (s1)) rfl sh_1 ⟨_, rfl, rfl, by decide⟩ rfl rfl hd2 (Nat.le_refl 0) (Nat.le_refl 0) (Nat.le_of_ble_eq_true rfl) dX3_readUnit_56 (mQ.elim fun v1 m1 hp => ?_)
  obtain ⟨hpv, hpm⟩ := hp
  subst hpv
  have hpm := hpm.symm
  subst hpm
  refine st_istore (by decide) (lc' := [(2, 8), (0, x1), (9, 0), (9, 0), (0, (hereX mem))]) rfl dX3_readUnit_59 ?_
  refine st_aload_n (i := 0) rfl (t := 0) rfl (by decide) dX3_readUnit_61 ?_
  refine so_getA 8 0 fr_X3_17_3 rfl sh_8 fx_8_0 dX3_readUnit_62 ?_
  refine st_dup (Nat.ne_of_beq_eq_false rfl) dX3_readUnit_65 ?_
  refine so_getI (v := (mem 1 2)) 1 2 fr_X3_21_9 rfl sh_1 rfl dX3_readUnit_66 (fun r1 => ?_)
  refine st_iconst dX3_readUnit_69 ?_
  refine st_iadd dX3_readUnit_70 ?_
  refine so_putI 1 2 fr_X3_21_9 pf_9_2 fo_1_2 rfl sh_1 s2 dX3_readUnit_71 ?_
  refine st_aload_n (i := 0) rfl (t := 0) rfl (by decide) dX3_readUnit_74 ?_
  refine st_iload_n (i := 1) rfl rfl dX3_readUnit_75 ?_
  refine st_callV (kc2 := 0) (ks2 := 0) (av := [(0, x1)]) 8 3 mr_X3_46 ok_X3_readSum c1 rfl sh_8 ⟨_, rfl, rfl, by decide⟩ rfl rfl hd_d1 (Nat.le_refl 0) (Nat.le_refl 0) (Nat.le_of_ble_eq_true rfl) dX3_readUnit_76 (mQ.elim fun v2 m2 p1 => ?_)
  refine sr_if_ne 84 (s3 v2 m2 p1) (by decide) dX3_readUnit_79 (fun h1 => ?_) (fun h1 => ?_)
  · have h1 : ¬ v2 = 0 := by omega
    refine st_aload_n (i := 0) rfl (t := 0) rfl (by decide) dX3_readUnit_84 ?_
    refine st_iload rfl dX3_readUnit_85 ?_
    refine st_callV (kc2 := 0) (ks2 := 0) (av := [(0, (hereX mem))]) 8 3 mr_X3_34 ok_X3_write (c_X3_write m2 (hereX mem) ((hereX_rng mem (s1))) ((s4 v2 m2 p1 h1))) rfl sh_8 ⟨_, rfl, rfl, by decide⟩ rfl rfl hd1 (Nat.le_refl 0) (Nat.le_refl 0) (Nat.le_of_ble_eq_true rfl) dX3_readUnit_87 (mQv.elim fun m3 hp => ?_)
    have hp := hp.symm
    subst hp
    refine st_iconst dX3_readUnit_90 ?_
    exact st_zreturn rfl (by decide) dX3_readUnit_91 (mQ.ret (q1 v2 m2 p1 h1))
  · have h1 : v2 = 0 := by omega
    refine st_iconst dX3_readUnit_82 ?_
    exact st_zreturn rfl (by decide) dX3_readUnit_83 (mQ.ret (q2 v2 m2 p1 h1))
/-- behind a sum: the comparison -/
theorem ru_43 (r : Nat) (hr : r ≤ 6) (d : Nat) (hd : 3 * r + 7 ≤ d) (mem : mmM) (hp : preX mem) (R : PR) (m : mmM) (q : Int) (ts : List tokT) (hm : resX mem (.inr (q, ts)) 1 m) (hq : mem 1 2 ≤ q ∧ q ≤ mem 1 1 ∧ (ts.length : Int) ≤ q - mem 1 2) (hR : R = cmpP (CX mem) (SX mem) (sumL (CX mem) (SX mem) r) q ts) : mmT bX3_readUnit d 0 0 (mQ 0 (resX mem R)) 43 [(2, 8), (0, 6 - (r : Int)), (9, 0), (9, 0), (9, 0)] [] mS m := by
  have hb := hp.1
  have hn := hb.1
  have h0 := hp.2.1
  have hsz := hp.2.2
  obtain ⟨-, a2, a3, a4, -, -⟩ := id hm
  have eC := lxFr_C a2
  have eS := lxFr_S a2
  have hbm := lxFr_B a2 hb
  have ge := SX_ge mem q
  have le := SX_le (mem := mem) (j := q) hq.2.1
  have cm := s_cmp m hbm (by omega)
  rw [eC, eS, a3] at cm
  refine bk_X3_readUnit_43 (d1 := 3) (P1 := fun v m' => (((∃ op, opC (CX mem (SX mem q)) = some op) ∧ v = 1) ∨ (opC (CX mem (SX mem q)) = none ∧ v = 0)) ∧ m' = cuX m (SX mem q)) cm ?_ ?_ (s1 := ?_)
  · rintro v m' ⟨w, rfl⟩ g
    rcases w with ⟨⟨op, ho⟩, -⟩ | ⟨-, w⟩
    · have lt := CX_lt (mem := mem) (j := SX mem q) (opC_pos ho).1
      have sm := c_X3_readSum r hr (cuX m (SX mem q + 1)) ⟨bytX_cu hbm _, by rw [cuX_at, cuX_1, lxFr_1 a2]; omega, by rw [cuX_at, cuX_ne _ _ (by decide), a4]; omega⟩
      rw [cuX_at, CX_cu, SX_cu, eC, eS] at sm
      have eh : hereX (cuX m (SX mem q)) = CX mem (SX mem q) := by
        rw [hereX_eq (bytX_cu hbm _).1, CX_cu, cuX_at, eC]
      have yes : ∀ v m', resX (cuX m (SX mem q + 1)) (sumL (CX mem) (SX mem) r (SX mem q + 1)) v m' → ¬ v = 0 → (0 ≤ m' 8 2 ∧ m' 8 2 < 160) ∧ resX mem R 1 (wrX m' (CX mem (SX mem q))) := by
        intro v m' w g
        obtain ⟨t, us, e, w1⟩ := resX_yes w g
        have gd := (good_sum (tapX_P mem) r (SX mem q + 1) (by omega) (by omega)).2 t us e
        have w2 := resX_app (resX_cu hm (SX mem q + 1)) w1
        have w3 := resX_wr (t := (op, 0)) w2
        rw [encC ho] at w3
        have e8 := w2.2.2.2.1
        rw [List.length_append] at e8
        refine ⟨by omega, ?_⟩
        rw [hR, cmpP_yes ho e]
        exact w3
      refine bk_X3_readUnit_52 (d1 := 3 * r + 6) (P1 := resX (cuX m (SX mem q + 1)) (sumL (CX mem) (SX mem) r (SX mem q + 1))) (by rw [cuX_at, cuX_cu]; exact sm) (fun v2 m2 w2 g2 => ?_) (fun v2 m2 w2 g2 => ?_) (s1 := bytX_cu hbm _) (s2 := by rw [cuX_at]; exact ⟨by omega, by omega⟩) (s3 := fun v2 m2 w2 => resX_R w2) (s4 := fun v2 m2 w2 g2 => (yes v2 m2 w2 g2).1)
      · rw [eh]
        exact (yes v2 m2 w2 g2).2
      · obtain ⟨f, e, w1, w3⟩ := resX_no w2 g2
        rw [hR, cmpP_bad ho e]
        exact ⟨rfl, lxFr_trans (lxFr_trans a2 (lxFr_cu m _)) w1, w3⟩
    · exact absurd w g
  · rintro v m' ⟨w, rfl⟩ g
    rcases w with ⟨-, w⟩ | ⟨ho, -⟩
    · exact absurd (w.symm.trans g) (by decide)
    · rw [hR, cmpP_no ho]
      exact ⟨rfl, lxFr_trans a2 (lxFr_cu m _), cuX_at _ _⟩
  · rintro v m' ⟨w, rfl⟩
    rcases w with ⟨-, rfl⟩ | ⟨-, rfl⟩ <;> exact ⟨by decide, by decide⟩
/-- a unit, or the rest of one whose sum was read -/
def unit1 (C S : Int → Int) (r : Nat) (b j : Int) : PR := if b = 0 then unitL C S r j else cmpP C S (sumL C S r) j []
theorem cmpP_S {C S : Int → Int} (hS : ∀ i, S (S i) = S i) (f : Int → PR) (q : Int) (ts : List tokT) : cmpP C S f (S q) ts = cmpP C S f q ts := by
  unfold cmpP
  rw [hS]
theorem SX_SX (mem : mmM) (j : Int) : SX mem (SX mem j) = SX mem j := skT_sk _ _ _
theorem rd_Unit (r : Nat) (hr : r ≤ 6) (d : Nat) (hd : 3 * r + 7 ≤ d) (hN : ∀ mem, preX mem → ∀ p, mem 1 2 ≤ p → p < mem 1 1 → SX mem p = p → (CX mem p = 33 ∨ CX mem p = 40) → con 0 bX3_readNested d [(2, 8), (0, 6 - (r : Int)), (0, CX mem p)] (cuX mem p) (resX mem (unitP (CX mem) (SX mem) (sumL (CX mem) (SX mem) r) (nestU (CX mem) (SX mem) r) p))) (b : Int) (hb01 : b = 0 ∨ b = 1) (mem : mmM) (hp : preX mem) : con 0 bX3_readUnit (d + 1) [(2, 8), (0, 6 - (r : Int)), (0, b)] mem (resX mem (unit1 (CX mem) (SX mem) r b (mem 1 2))) := by
  have hb := hp.1
  have hn := hb.1
  have h0 := hp.2.1
  have hsz := hp.2.2
  obtain ⟨p, hpp⟩ : ∃ p, SX mem (mem 1 2) = p := ⟨_, rfl⟩
  have hSp : SX mem p = p := by rw [← hpp]; exact SX_SX _ _
  have ge := SX_ge mem (mem 1 2)
  have le := SX_le (mem := mem) (j := mem 1 2) h0.2
  have sg := sign_m mem hb h0.1
  rw [hpp] at ge le sg
  have rg := CX_rng hb p
  have eU : unitL (CX mem) (SX mem) r (mem 1 2) = unitP (CX mem) (SX mem) (sumL (CX mem) (SX mem) r) (nestU (CX mem) (SX mem) r) p := by
    rw [unitL_eq]
    unfold unitP
    rw [hpp, hSp]
  have nst : b = 0 → (CX mem p = 33 ∨ CX mem p = 40) → con 0 bX3_readNested d [(2, 8), (0, 6 - (r : Int)), (0, CX mem p)] (cuX mem p) (resX mem (unit1 (CX mem) (SX mem) r b (mem 1 2))) := by
    intro b0 z
    have lt := CX_lt (mem := mem) (j := p) (by omega)
    have := hN mem hp p ge lt hSp z
    unfold unit1
    rw [if_pos b0, eU]
    exact this
  have base : resX mem (.inr (p, [])) 1 (cuX mem p) := resX_cu (resX_nil mem) p
  refine cn_X3_readUnit (bk_X3_readUnit_0 (d1 := 2) (d2 := d) (d3 := d) (P1 := fun v m => v = CX mem p ∧ m = cuX mem p) (P2 := resX mem (unit1 (CX mem) (SX mem) r b (mem 1 2))) (P3 := resX mem (unit1 (CX mem) (SX mem) r b (mem 1 2))) sg ?_ ?_ ?_ ?_ ?_ ?_ (s1 := ?_) (s2 := ?_) (s3 := ?_) (s4 := ?_))
  · rintro v m ⟨rfl, rfl⟩ g g2
    exact nst g (Or.inl g2)
  · rintro v m ⟨rfl, rfl⟩ g _ g2
    exact nst g (Or.inr g2)
  · rintro v m ⟨rfl, rfl⟩ g
    refine bk_X3_readUnit_31 (d1 := 0) (P1 := fun _ _ => True) (fun g2 => absurd g2 g) (fun _ => ?_) (fun g2 => absurd g2 g) (fun g2 => absurd g2 g) (s1 := ⟨by omega, by omega⟩) (s2 := fun g2 => absurd g2 g)
    refine ru_43 r hr (d + 1) (by omega) mem hp _ (cuX mem p) p [] base ⟨ge, le, by show ((0 : Nat) : Int) ≤ _; omega⟩ ?_
    unfold unit1
    rw [if_neg g, ← hpp, cmpP_S (SX_SX mem)]
  · rintro v m ⟨rfl, rfl⟩ g g2 g3
    have sm := c_X3_readSum r hr (cuX mem p) ⟨bytX_cu hb _, by rw [cuX_at, cuX_1]; omega, by rw [cuX_at, cuX_ne _ _ (by decide)]; omega⟩
    rw [cuX_at, CX_cu, SX_cu] at sm
    have e1 : unit1 (CX mem) (SX mem) r b (mem 1 2) = (match sumL (CX mem) (SX mem) r p with
      | .inl e => .inl e
      | .inr (q, ts) => cmpP (CX mem) (SX mem) (sumL (CX mem) (SX mem) r) q ts) := by
      unfold unit1
      rw [if_pos g, eU]
      unfold unitP
      rw [hSp, if_neg g2, if_neg g3]
      rfl
    refine bk_X3_readUnit_31 (d1 := 3 * r + 6) (P1 := resX (cuX mem p) (sumL (CX mem) (SX mem) r p)) (fun _ => sm) (fun g4 => absurd g g4) (fun _ v1 m1 w1 g4 => ?_) (fun _ v1 m1 w1 g4 => ?_) (s1 := ⟨by omega, by omega⟩) (s2 := fun _ v1 m1 w1 => resX_R w1)
    · obtain ⟨q, ts, e, w2⟩ := resX_yes w1 g4
      have gd := (good_sum (tapX_P mem) r p (by omega) le).2 q ts e
      refine ru_43 r hr (d + 1) (by omega) mem hp _ m1 q ts (resX_app base w2) ⟨by omega, by omega, by omega⟩ ?_
      rw [e1, e]
    · obtain ⟨f, e, w2, w3⟩ := resX_no w1 g4
      rw [e1, e]
      exact ⟨rfl, lxFr_trans (lxFr_cu mem _) w2, w3⟩
  · rintro v m ⟨rfl, rfl⟩ g g2 v2 m2 w2
    exact w2
  · rintro v m ⟨rfl, rfl⟩ g g2 g3 v2 m2 w2
    exact w2
  · rintro v m ⟨rfl, rfl⟩
    exact ⟨by omega, by omega⟩
  · rintro v m ⟨rfl, rfl⟩ _
    exact ⟨by omega, by omega⟩
  · rintro v m ⟨rfl, rfl⟩ _ _ v2 m2 w2
    exact resX_01 w2
  · rintro v m ⟨rfl, rfl⟩ _ _ _ v2 m2 w2
    exact resX_01 w2
theorem cn_X3_readTruth {d : Nat} {P : Int → mmM → Prop} {mem : mmM} {x1 x2 : Int} (h : mmT bX3_readTruth d 0 0 (mQ 0 P) 0 [(2, 8), (0, x1), (0, x2), (9, 0)] [] mS mem) : con 0 bX3_readTruth d [(2, 8), (0, x1), (0, x2)] mem P := mmC_of [(2, 8), (0, x1), (0, x2), (9, 0)] ok_X3_readTruth.2.2.2.2 rfl (Nat.le_of_ble_eq_true rfl) h
theorem bk_X3_readTruth_0 {d : Nat} {d1 : Nat} {P1 : Int → mmM → Prop} {P : Int → mmM → Prop} {mem : mmM} {x1 x2 : Int}
  (c1 : con 0 bX3_readUnit d1 [(2, 8), (0, x1), (0, x2)] mem P1)
  (k1 : ∀ (v1 : Int), ∀ (m1 : mmM), P1 v1 m1 → ¬ v1 = 0 → mmT bX3_readTruth d 0 0 (mQ 0 P) 13 [(2, 8), (0, x1), (9, 0), (0, 0)] [] mS m1)
  (q1 : ∀ (v1 : Int), ∀ (m1 : mmM), P1 v1 m1 → v1 = 0 → P 0 m1)
  (hd_d1 : d1 + 1 ≤ d := by omega)
  (s1 : ∀ (v1 : Int), ∀ (m1 : mmM), P1 v1 m1 → R32 v1 := by intros; first | omega | assumption | solve_by_elim)
  : mmT bX3_readTruth d 0 0 (mQ 0 P) 0 [(2, 8), (0, x1), (0, x2), (9, 0)] [] mS mem := by
  refine st_aload_n (i := 0) rfl (t := 0) rfl (by decide) dX3_readTruth_0 ?_
  refine st_iload_n (i := 1) rfl rfl dX3_readTruth_1 ?_
  refine st_iload_n (i := 2) rfl rfl dX3_readTruth_2 ?_
  refine st_callV (kc2 := 0) (ks2 := 0) (av := [(0, x1), (0, x2)]) 8 3 mr_X3_59 ok_X3_readUnit c1 rfl sh_8 ⟨_, rfl, rfl, by decide⟩ rfl rfl hd_d1 (Nat.le_refl 0) (Nat.le_refl 0) (Nat.le_of_ble_eq_true rfl) dX3_readTruth_3 (mQ.elim fun v1 m1 p1 => ?_)
  refine sr_if_ne 11 (s1 v1 m1 p1) (by decide) dX3_readTruth_6 (fun h1 => ?_) (fun h1 => ?_)
  · have h1 : ¬ v1 = 0 := by omega
    refine st_iconst dX3_readTruth_11 ?_
    refine st_istore_n (i := 3) rfl (by decide) (lc' := [(2, 8), (0, x1), (0, x2), (0, 0)]) rfl dX3_readTruth_12 ?_
    exact st_locals [(2, 8), (0, x1), (9, 0), (0, 0)] ⟨Or.inr rfl, Or.inr rfl, Or.inl rfl, Or.inr rfl, trivial⟩ (k1 v1 m1 p1 h1)
  · have h1 : v1 = 0 := by omega
    refine st_iconst dX3_readTruth_9 ?_
    exact st_zreturn rfl (by decide) dX3_readTruth_10 (mQ.ret (q1 v1 m1 p1 h1))
theorem bk_X3_readTruth_13 {d : Nat} {d1 : Nat} {P1 : Int → mmM → Prop} {d2 : Nat} {P2 : Int → mmM → Prop} {P : Int → mmM → Prop} {mem : mmM} {x1 x3 : Int}
  (c1 : x3 < 160 → con 0 bX9_takes d1 [(2, 1), (0, 38)] mem P1)
  (c2 : x3 < 160 → ∀ (v1 : Int), ∀ (m1 : mmM), P1 v1 m1 → ¬ v1 = 0 → con 0 bX3_readUnit d2 [(2, 8), (0, x1), (0, 0)] m1 P2)
  (k1 : x3 < 160 → ∀ (v1 : Int), ∀ (m1 : mmM), P1 v1 m1 → ¬ v1 = 0 → ∀ (v2 : Int), ∀ (m2 : mmM), P2 v2 m2 → ¬ v2 = 0 → mmT bX3_readTruth d 0 0 (mQ 0 P) 13 [(2, 8), (0, x1), (9, 0), (0, (x3 + 1))] [] mS (wrX m2 38))
  (q1 : 160 ≤ x3 → P 1 mem)
  (q2 : x3 < 160 → ∀ (v1 : Int), ∀ (m1 : mmM), P1 v1 m1 → v1 = 0 → P 1 m1)
  (q3 : x3 < 160 → ∀ (v1 : Int), ∀ (m1 : mmM), P1 v1 m1 → ¬ v1 = 0 → ∀ (v2 : Int), ∀ (m2 : mmM), P2 v2 m2 → v2 = 0 → P 0 m2)
  (hd_d1 : d1 + 1 ≤ d := by omega)
  (hd_d2 : d2 + 1 ≤ d := by omega)
  (hd1 : 1 ≤ d := by omega)
  (s1 : R32 x3 := by intros; first | omega | assumption | solve_by_elim)
  (s2 : x3 < 160 → ∀ (v1 : Int), ∀ (m1 : mmM), P1 v1 m1 → R32 v1 := by intros; first | omega | assumption | solve_by_elim)
  (s3 : x3 < 160 → ∀ (v1 : Int), ∀ (m1 : mmM), P1 v1 m1 → ¬ v1 = 0 → ∀ (v2 : Int), ∀ (m2 : mmM), P2 v2 m2 → R32 v2 := by intros; first | omega | assumption | solve_by_elim)
  (s4 : x3 < 160 → ∀ (v1 : Int), ∀ (m1 : mmM), P1 v1 m1 → ¬ v1 = 0 → ∀ (v2 : Int), ∀ (m2 : mmM), P2 v2 m2 → ¬ v2 = 0 → 0 ≤ (m2 8 2) ∧ (m2 8 2) < 160 := by intros; first | omega | assumption | solve_by_elim)
  : mmT bX3_readTruth d 0 0 (mQ 0 P) 13 [(2, 8), (0, x1), (9, 0), (0, x3)] [] mS mem := by
  refine st_iload_n (i := 3) rfl rfl dX3_readTruth_13 ?_
  refine st_sipush rfl dX3_readTruth_14 ?_
  refine sr_icmp_ge 55 s1 ⟨by decide, by decide⟩ (by decide) dX3_readTruth_17 (fun h1 => ?_) (fun h1 => ?_)
  · have h1 : 160 ≤ x3 := by omega
    refine st_iconst dX3_readTruth_55 ?_
    exact st_zreturn rfl (by decide) dX3_readTruth_56 (mQ.ret (q1 h1))
  · have h1 : x3 < 160 := by omega
    refine st_aload_n (i := 0) rfl (t := 0) rfl (by decide) dX3_readTruth_20 ?_
    refine so_getA 8 0 fr_X3_17_3 rfl sh_8 fx_8_0 dX3_readTruth_21 ?_
    refine st_bipush rfl dX3_readTruth_24 ?_
    refine st_callV (kc2 := 0) (ks2 := 0) (av := [(0, 38)]) 1 9 mr_X3_38 ok_X9_takes (c1 h1) rfl sh_1 ⟨_, rfl, rfl, by decide⟩ rfl rfl hd_d1 (Nat.le_refl 0) (Nat.le_refl 0) (Nat.le_of_ble_eq_true rfl) dX3_readTruth_26 (mQ.elim fun v1 m1 p1 => ?_)
    refine sr_if_eq 55 (s2 h1 v1 m1 p1) (by decide) dX3_readTruth_29 (fun h2 => ?_) (fun h2 => ?_)
    · have h2 : v1 = 0 := by omega
      refine st_iconst dX3_readTruth_55 ?_
      exact st_zreturn rfl (by decide) dX3_readTruth_56 (mQ.ret (q2 h1 v1 m1 p1 h2))
    · have h2 : ¬ v1 = 0 := by omega
      refine st_aload_n (i := 0) rfl (t := 0) rfl (by decide) dX3_readTruth_32 ?_
      refine st_iload_n (i := 1) rfl rfl dX3_readTruth_33 ?_
      refine st_iconst dX3_readTruth_34 ?_
      refine st_callV (kc2 := 0) (ks2 := 0) (av := [(0, x1), (0, 0)]) 8 3 mr_X3_59 ok_X3_readUnit (c2 h1 v1 m1 p1 h2) rfl sh_8 ⟨_, rfl, rfl, by decide⟩ rfl rfl hd_d2 (Nat.le_refl 0) (Nat.le_refl 0) (Nat.le_of_ble_eq_true rfl) dX3_readTruth_35 (mQ.elim fun v2 m2 p2 => ?_)
      refine sr_if_ne 43 (s3 h1 v1 m1 p1 h2 v2 m2 p2) (by decide) dX3_readTruth_38 (fun h3 => ?_) (fun h3 => ?_)
      · have h3 : ¬ v2 = 0 := by omega
        refine st_aload_n (i := 0) rfl (t := 0) rfl (by decide) dX3_readTruth_43 ?_
        refine st_bipush rfl dX3_readTruth_44 ?_
        refine st_callV (kc2 := 0) (ks2 := 0) (av := [(0, 38)]) 8 3 mr_X3_34 ok_X3_write (c_X3_write m2 38 (⟨by decide, by decide⟩) ((s4 h1 v1 m1 p1 h2 v2 m2 p2 h3))) rfl sh_8 ⟨_, rfl, rfl, by decide⟩ rfl rfl hd1 (Nat.le_refl 0) (Nat.le_refl 0) (Nat.le_of_ble_eq_true rfl) dX3_readTruth_46 (mQv.elim fun m3 hp => ?_)
        have hp := hp.symm
        subst hp
        refine st_iinc (y := (x3 + 1)) (by decide) (i := 3) rfl rfl (lc' := [(2, 8), (0, x1), (9, 0), (0, (x3 + 1))]) rfl dX3_readTruth_49 ?_
        refine st_goto 13 (by decide) dX3_readTruth_52 ?_
        exact st_locals [(2, 8), (0, x1), (9, 0), (0, (x3 + 1))] ⟨Or.inr rfl, Or.inr rfl, Or.inl rfl, Or.inr rfl, trivial⟩ (k1 h1 v1 m1 p1 h2 v2 m2 p2 h3)
      · have h3 : v2 = 0 := by omega
        refine st_iconst dX3_readTruth_41 ?_
        exact st_zreturn rfl (by decide) dX3_readTruth_42 (mQ.ret (q3 h1 v1 m1 p1 h2 v2 m2 p2 h3))
theorem rd_Truth (F : Int → mmM → Int → PR) (x1 b : Int) (dU : Nat) (hd : 3 ≤ dU) (hb01 : b = 0 ∨ b = 1) (hU : ∀ b, (b = 0 ∨ b = 1) → ∀ m, preX m → con 0 bX3_readUnit dU [(2, 8), (0, x1), (0, b)] m (resX m (F b m (m 1 2)))) (hF : ∀ mem m, lxFr mem m → F 0 m = F 0 mem) (hg : ∀ b m, bytX m → goodP (m 1 1) (F b m)) (mem : mmM) (hp : preX mem) : con 0 bX3_readTruth (dU + 1) [(2, 8), (0, x1), (0, b)] mem (resX mem (goP (CX mem) (SX mem) opA (F 0 mem) (F b mem (mem 1 2)))) := by
  have hb := hp.1
  have hn := hb.1
  have h0 := hp.2.1
  have hsz := hp.2.2
  have main : ∀ (k : Nat) (R : PR) (m : mmM) (i j : Int) (ts : List tokT), resX mem (.inr (j, ts)) 1 m → (mem 1 2 < j ∧ j ≤ mem 1 1 ∧ (ts.length : Int) ≤ j - mem 1 2) → mem 1 1 - j < k → (0 ≤ i ∧ i < j) → R = loopP (CX mem) (SX mem) opA (F 0 mem) k j ts → mmT bX3_readTruth (dU + 1) 0 0 (mQ 0 (resX mem R)) 13 [(2, 8), (0, x1), (9, 0), (0, i)] [] mS m := by
    intro k R
    induction k with
    | zero =>
      intro m i j ts _ _ h
      omega
    | succ k ih =>
      intro m i j ts hm hj hk hi hR
      obtain ⟨-, a2, a3, a4, -, -⟩ := id hm
      have eC := lxFr_C a2
      have eS := lxFr_S a2
      have hbm := lxFr_B a2 hb
      have ge := SX_ge mem j
      have le := SX_le (mem := mem) (j := j) hj.2.1
      have tk := s_takes' m hbm (x := 38) (by omega) (by rw [lxFr_1 a2]; omega) ⟨by decide, by decide⟩
      rw [eC, eS, a3] at tk
      have o1 : CX mem (SX mem j) = 38 → opA (CX mem (SX mem j)) = some 10 := fun z => by rw [z]; rfl
      have o3 : ¬ CX mem (SX mem j) = 38 → opA (CX mem (SX mem j)) = none := fun z => if_neg z
      have good : ∀ v m', CX mem (SX mem j) = 38 → resX (cuX m (SX mem j + 1)) (F 0 mem (SX mem j + 1)) v m' → ¬ v = 0 → (0 ≤ m' 8 2 ∧ m' 8 2 < 160) ∧ mmT bX3_readTruth (dU + 1) 0 0 (mQ 0 (resX mem R)) 13 [(2, 8), (0, x1), (9, 0), (0, i + 1)] [] mS (wrX m' 38) := by
        intro v m' z w g
        obtain ⟨q, us, e, w1⟩ := resX_yes w g
        have lt := CX_lt (mem := mem) (j := SX mem j) (by omega)
        have gd := (hg 0 mem hb (SX mem j + 1) (by omega) (by omega)).2 q us e
        have w2 := resX_app (resX_cu hm (SX mem j + 1)) w1
        have w3 := resX_wr (t := (10, 0)) w2
        rw [encA (o1 z), z] at w3
        have e8 := w2.2.2.2.1
        rw [List.length_append] at e8
        refine ⟨by omega, ?_⟩
        refine ih _ (i + 1) q (ts ++ us ++ [(10, 0)]) w3 ?_ (by omega) (by omega) (by rw [hR]; exact loopP_yes (o1 z) e)
        rw [List.length_append, List.length_append, List.length_singleton]
        omega
      refine bk_X3_readTruth_13 (d1 := 3) (d2 := dU) (P1 := fun v m' => (CX mem (SX mem j) = 38 ∧ v = 1 ∧ m' = cuX m (SX mem j + 1)) ∨ (¬ CX mem (SX mem j) = 38 ∧ v = 0 ∧ m' = cuX m (SX mem j))) (P2 := fun v m' => CX mem (SX mem j) = 38 ∧ resX (cuX m (SX mem j + 1)) (F 0 mem (SX mem j + 1)) v m') (fun _ => tk) (fun _ v1 m1 w1 g => ?_) (fun _ v1 m1 w1 g v2 m2 w2 g2 => (good v2 m2 w2.1 w2.2 g2).2) (fun g => absurd g (by omega)) (fun _ v1 m1 w1 g => ?_) (fun _ v1 m1 w1 g v2 m2 w2 g2 => ?_) (s1 := ⟨by omega, by omega⟩) (s2 := fun _ v1 m1 w1 => ?_) (s3 := fun _ v1 m1 w1 g v2 m2 w2 => resX_R w2.2) (s4 := ?_)
      · rcases w1 with ⟨z, rfl, rfl⟩ | ⟨z, w, -⟩
        · have lt := CX_lt (mem := mem) (j := SX mem j) (by omega)
          have := hU 0 (Or.inl rfl) (cuX m (SX mem j + 1)) ⟨bytX_cu hbm _, by rw [cuX_at, cuX_1, lxFr_1 a2]; omega, by rw [cuX_at, cuX_ne _ _ (by decide), a4]; omega⟩
          rw [cuX_at, hF mem _ (lxFr_trans a2 (lxFr_cu m _))] at this
          exact con.mono this (fun v m' w => ⟨z, w⟩)
        · exact absurd w g
      · rcases w1 with ⟨z, w, -⟩ | ⟨z, -, rfl⟩
        · exact absurd (w.symm.trans g) (by decide)
        · rw [hR, loopP_no (o3 z)]
          exact resX_cu hm _
      · obtain ⟨f, e, w3, w4⟩ := resX_no w2.2 g2
        rw [hR, loopP_bad (o1 w2.1) e]
        exact ⟨rfl, lxFr_trans (lxFr_trans a2 (lxFr_cu m _)) w3, w4⟩
      · rcases w1 with ⟨z, rfl, -⟩ | ⟨z, rfl, -⟩ <;> exact ⟨by decide, by decide⟩
      · exact fun _ v1 m1 w1 g v2 m2 w2 g2 => (good v2 m2 w2.1 w2.2 g2).1
  refine cn_X3_readTruth (bk_X3_readTruth_0 (d1 := dU) (P1 := resX mem (F b mem (mem 1 2))) (hU b hb01 mem hp) (fun v m w g => ?_) (fun v m w g => ?_) (s1 := fun v m w => resX_R w))
  · obtain ⟨q, ts, e, w1⟩ := resX_yes w g
    have gd := (hg b mem hb (mem 1 2) h0.1 h0.2).2 q ts e
    rw [e]
    exact main 200 _ m 0 q ts w1 ⟨by omega, by omega, by omega⟩ (by omega) (by omega) rfl
  · obtain ⟨f, e, w1, w2⟩ := resX_no w g
    rw [e]
    exact ⟨rfl, w1, w2⟩
theorem cn_X3_readCondition {d : Nat} {P : Int → mmM → Prop} {mem : mmM} {x1 x2 : Int} (h : mmT bX3_readCondition d 0 0 (mQ 0 P) 0 [(2, 8), (0, x1), (0, x2), (9, 0)] [] mS mem) : con 0 bX3_readCondition d [(2, 8), (0, x1), (0, x2)] mem P := mmC_of [(2, 8), (0, x1), (0, x2), (9, 0)] ok_X3_readCondition.2.2.2.2 rfl (Nat.le_of_ble_eq_true rfl) h
theorem bk_X3_readCondition_0 {d : Nat} {d1 : Nat} {P1 : Int → mmM → Prop} {P : Int → mmM → Prop} {mem : mmM} {x1 x2 : Int}
  (c1 : con 0 bX3_readTruth d1 [(2, 8), (0, x1), (0, x2)] mem P1)
  (k1 : ∀ (v1 : Int), ∀ (m1 : mmM), P1 v1 m1 → ¬ v1 = 0 → mmT bX3_readCondition d 0 0 (mQ 0 P) 13 [(2, 8), (0, x1), (9, 0), (0, 0)] [] mS m1)
  (q1 : ∀ (v1 : Int), ∀ (m1 : mmM), P1 v1 m1 → v1 = 0 → P 0 m1)
  (hd_d1 : d1 + 1 ≤ d := by omega)
  (s1 : ∀ (v1 : Int), ∀ (m1 : mmM), P1 v1 m1 → R32 v1 := by intros; first | omega | assumption | solve_by_elim)
  : mmT bX3_readCondition d 0 0 (mQ 0 P) 0 [(2, 8), (0, x1), (0, x2), (9, 0)] [] mS mem := by
  refine st_aload_n (i := 0) rfl (t := 0) rfl (by decide) dX3_readCondition_0 ?_
  refine st_iload_n (i := 1) rfl rfl dX3_readCondition_1 ?_
  refine st_iload_n (i := 2) rfl rfl dX3_readCondition_2 ?_
  refine st_callV (kc2 := 0) (ks2 := 0) (av := [(0, x1), (0, x2)]) 8 3 mr_X3_56 ok_X3_readTruth c1 rfl sh_8 ⟨_, rfl, rfl, by decide⟩ rfl rfl hd_d1 (Nat.le_refl 0) (Nat.le_refl 0) (Nat.le_of_ble_eq_true rfl) dX3_readCondition_3 (mQ.elim fun v1 m1 p1 => ?_)
  refine sr_if_ne 11 (s1 v1 m1 p1) (by decide) dX3_readCondition_6 (fun h1 => ?_) (fun h1 => ?_)
  · have h1 : ¬ v1 = 0 := by omega
    refine st_iconst dX3_readCondition_11 ?_
    refine st_istore_n (i := 3) rfl (by decide) (lc' := [(2, 8), (0, x1), (0, x2), (0, 0)]) rfl dX3_readCondition_12 ?_
    exact st_locals [(2, 8), (0, x1), (9, 0), (0, 0)] ⟨Or.inr rfl, Or.inr rfl, Or.inl rfl, Or.inr rfl, trivial⟩ (k1 v1 m1 p1 h1)
  · have h1 : v1 = 0 := by omega
    refine st_iconst dX3_readCondition_9 ?_
    exact st_zreturn rfl (by decide) dX3_readCondition_10 (mQ.ret (q1 v1 m1 p1 h1))
theorem bk_X3_readCondition_13 {d : Nat} {d1 : Nat} {P1 : Int → mmM → Prop} {d2 : Nat} {P2 : Int → mmM → Prop} {P : Int → mmM → Prop} {mem : mmM} {x1 x3 : Int}
  (c1 : x3 < 160 → con 0 bX9_takes d1 [(2, 1), (0, 124)] mem P1)
  (c2 : x3 < 160 → ∀ (v1 : Int), ∀ (m1 : mmM), P1 v1 m1 → ¬ v1 = 0 → con 0 bX3_readTruth d2 [(2, 8), (0, x1), (0, 0)] m1 P2)
  (k1 : x3 < 160 → ∀ (v1 : Int), ∀ (m1 : mmM), P1 v1 m1 → ¬ v1 = 0 → ∀ (v2 : Int), ∀ (m2 : mmM), P2 v2 m2 → ¬ v2 = 0 → mmT bX3_readCondition d 0 0 (mQ 0 P) 13 [(2, 8), (0, x1), (9, 0), (0, (x3 + 1))] [] mS (wrX m2 124))
  (q1 : 160 ≤ x3 → P 1 mem)
  (q2 : x3 < 160 → ∀ (v1 : Int), ∀ (m1 : mmM), P1 v1 m1 → v1 = 0 → P 1 m1)
  (q3 : x3 < 160 → ∀ (v1 : Int), ∀ (m1 : mmM), P1 v1 m1 → ¬ v1 = 0 → ∀ (v2 : Int), ∀ (m2 : mmM), P2 v2 m2 → v2 = 0 → P 0 m2)
  (hd_d1 : d1 + 1 ≤ d := by omega)
  (hd_d2 : d2 + 1 ≤ d := by omega)
  (hd1 : 1 ≤ d := by omega)
  (s1 : R32 x3 := by intros; first | omega | assumption | solve_by_elim)
  (s2 : x3 < 160 → ∀ (v1 : Int), ∀ (m1 : mmM), P1 v1 m1 → R32 v1 := by intros; first | omega | assumption | solve_by_elim)
  (s3 : x3 < 160 → ∀ (v1 : Int), ∀ (m1 : mmM), P1 v1 m1 → ¬ v1 = 0 → ∀ (v2 : Int), ∀ (m2 : mmM), P2 v2 m2 → R32 v2 := by intros; first | omega | assumption | solve_by_elim)
  (s4 : x3 < 160 → ∀ (v1 : Int), ∀ (m1 : mmM), P1 v1 m1 → ¬ v1 = 0 → ∀ (v2 : Int), ∀ (m2 : mmM), P2 v2 m2 → ¬ v2 = 0 → 0 ≤ (m2 8 2) ∧ (m2 8 2) < 160 := by intros; first | omega | assumption | solve_by_elim)
  : mmT bX3_readCondition d 0 0 (mQ 0 P) 13 [(2, 8), (0, x1), (9, 0), (0, x3)] [] mS mem := by
  refine st_iload_n (i := 3) rfl rfl dX3_readCondition_13 ?_
  refine st_sipush rfl dX3_readCondition_14 ?_
  refine sr_icmp_ge 55 s1 ⟨by decide, by decide⟩ (by decide) dX3_readCondition_17 (fun h1 => ?_) (fun h1 => ?_)
  · have h1 : 160 ≤ x3 := by omega
    refine st_iconst dX3_readCondition_55 ?_
    exact st_zreturn rfl (by decide) dX3_readCondition_56 (mQ.ret (q1 h1))
  · have h1 : x3 < 160 := by omega
    refine st_aload_n (i := 0) rfl (t := 0) rfl (by decide) dX3_readCondition_20 ?_
    refine so_getA 8 0 fr_X3_17_3 rfl sh_8 fx_8_0 dX3_readCondition_21 ?_
    refine st_bipush rfl dX3_readCondition_24 ?_
    refine st_callV (kc2 := 0) (ks2 := 0) (av := [(0, 124)]) 1 9 mr_X3_38 ok_X9_takes (c1 h1) rfl sh_1 ⟨_, rfl, rfl, by decide⟩ rfl rfl hd_d1 (Nat.le_refl 0) (Nat.le_refl 0) (Nat.le_of_ble_eq_true rfl) dX3_readCondition_26 (mQ.elim fun v1 m1 p1 => ?_)
    refine sr_if_eq 55 (s2 h1 v1 m1 p1) (by decide) dX3_readCondition_29 (fun h2 => ?_) (fun h2 => ?_)
    · have h2 : v1 = 0 := by omega
      refine st_iconst dX3_readCondition_55 ?_
      exact st_zreturn rfl (by decide) dX3_readCondition_56 (mQ.ret (q2 h1 v1 m1 p1 h2))
    · have h2 : ¬ v1 = 0 := by omega
      refine st_aload_n (i := 0) rfl (t := 0) rfl (by decide) dX3_readCondition_32 ?_
      refine st_iload_n (i := 1) rfl rfl dX3_readCondition_33 ?_
      refine st_iconst dX3_readCondition_34 ?_
      refine st_callV (kc2 := 0) (ks2 := 0) (av := [(0, x1), (0, 0)]) 8 3 mr_X3_56 ok_X3_readTruth (c2 h1 v1 m1 p1 h2) rfl sh_8 ⟨_, rfl, rfl, by decide⟩ rfl rfl hd_d2 (Nat.le_refl 0) (Nat.le_refl 0) (Nat.le_of_ble_eq_true rfl) dX3_readCondition_35 (mQ.elim fun v2 m2 p2 => ?_)
      refine sr_if_ne 43 (s3 h1 v1 m1 p1 h2 v2 m2 p2) (by decide) dX3_readCondition_38 (fun h3 => ?_) (fun h3 => ?_)
      · have h3 : ¬ v2 = 0 := by omega
        refine st_aload_n (i := 0) rfl (t := 0) rfl (by decide) dX3_readCondition_43 ?_
        refine st_bipush rfl dX3_readCondition_44 ?_
        refine st_callV (kc2 := 0) (ks2 := 0) (av := [(0, 124)]) 8 3 mr_X3_34 ok_X3_write (c_X3_write m2 124 (⟨by decide, by decide⟩) ((s4 h1 v1 m1 p1 h2 v2 m2 p2 h3))) rfl sh_8 ⟨_, rfl, rfl, by decide⟩ rfl rfl hd1 (Nat.le_refl 0) (Nat.le_refl 0) (Nat.le_of_ble_eq_true rfl) dX3_readCondition_46 (mQv.elim fun m3 hp => ?_)
        have hp := hp.symm
        subst hp
        refine st_iinc (y := (x3 + 1)) (by decide) (i := 3) rfl rfl (lc' := [(2, 8), (0, x1), (9, 0), (0, (x3 + 1))]) rfl dX3_readCondition_49 ?_
        refine st_goto 13 (by decide) dX3_readCondition_52 ?_
        exact st_locals [(2, 8), (0, x1), (9, 0), (0, (x3 + 1))] ⟨Or.inr rfl, Or.inr rfl, Or.inl rfl, Or.inr rfl, trivial⟩ (k1 h1 v1 m1 p1 h2 v2 m2 p2 h3)
      · have h3 : v2 = 0 := by omega
        refine st_iconst dX3_readCondition_41 ?_
        exact st_zreturn rfl (by decide) dX3_readCondition_42 (mQ.ret (q3 h1 v1 m1 p1 h2 v2 m2 p2 h3))
theorem rd_Cond (F : Int → mmM → Int → PR) (x1 b : Int) (dU : Nat) (hd : 3 ≤ dU) (hb01 : b = 0 ∨ b = 1) (hU : ∀ b, (b = 0 ∨ b = 1) → ∀ m, preX m → con 0 bX3_readTruth dU [(2, 8), (0, x1), (0, b)] m (resX m (F b m (m 1 2)))) (hF : ∀ mem m, lxFr mem m → F 0 m = F 0 mem) (hg : ∀ b m, bytX m → goodP (m 1 1) (F b m)) (mem : mmM) (hp : preX mem) : con 0 bX3_readCondition (dU + 1) [(2, 8), (0, x1), (0, b)] mem (resX mem (goP (CX mem) (SX mem) opO (F 0 mem) (F b mem (mem 1 2)))) := by
  have hb := hp.1
  have hn := hb.1
  have h0 := hp.2.1
  have hsz := hp.2.2
  have main : ∀ (k : Nat) (R : PR) (m : mmM) (i j : Int) (ts : List tokT), resX mem (.inr (j, ts)) 1 m → (mem 1 2 < j ∧ j ≤ mem 1 1 ∧ (ts.length : Int) ≤ j - mem 1 2) → mem 1 1 - j < k → (0 ≤ i ∧ i < j) → R = loopP (CX mem) (SX mem) opO (F 0 mem) k j ts → mmT bX3_readCondition (dU + 1) 0 0 (mQ 0 (resX mem R)) 13 [(2, 8), (0, x1), (9, 0), (0, i)] [] mS m := by
    intro k R
    induction k with
    | zero =>
      intro m i j ts _ _ h
      omega
    | succ k ih =>
      intro m i j ts hm hj hk hi hR
      obtain ⟨-, a2, a3, a4, -, -⟩ := id hm
      have eC := lxFr_C a2
      have eS := lxFr_S a2
      have hbm := lxFr_B a2 hb
      have ge := SX_ge mem j
      have le := SX_le (mem := mem) (j := j) hj.2.1
      have tk := s_takes' m hbm (x := 124) (by omega) (by rw [lxFr_1 a2]; omega) ⟨by decide, by decide⟩
      rw [eC, eS, a3] at tk
      have o1 : CX mem (SX mem j) = 124 → opO (CX mem (SX mem j)) = some 11 := fun z => by rw [z]; rfl
      have o3 : ¬ CX mem (SX mem j) = 124 → opO (CX mem (SX mem j)) = none := fun z => if_neg z
      have good : ∀ v m', CX mem (SX mem j) = 124 → resX (cuX m (SX mem j + 1)) (F 0 mem (SX mem j + 1)) v m' → ¬ v = 0 → (0 ≤ m' 8 2 ∧ m' 8 2 < 160) ∧ mmT bX3_readCondition (dU + 1) 0 0 (mQ 0 (resX mem R)) 13 [(2, 8), (0, x1), (9, 0), (0, i + 1)] [] mS (wrX m' 124) := by
        intro v m' z w g
        obtain ⟨q, us, e, w1⟩ := resX_yes w g
        have lt := CX_lt (mem := mem) (j := SX mem j) (by omega)
        have gd := (hg 0 mem hb (SX mem j + 1) (by omega) (by omega)).2 q us e
        have w2 := resX_app (resX_cu hm (SX mem j + 1)) w1
        have w3 := resX_wr (t := (11, 0)) w2
        rw [encO (o1 z), z] at w3
        have e8 := w2.2.2.2.1
        rw [List.length_append] at e8
        refine ⟨by omega, ?_⟩
        refine ih _ (i + 1) q (ts ++ us ++ [(11, 0)]) w3 ?_ (by omega) (by omega) (by rw [hR]; exact loopP_yes (o1 z) e)
        rw [List.length_append, List.length_append, List.length_singleton]
        omega
      refine bk_X3_readCondition_13 (d1 := 3) (d2 := dU) (P1 := fun v m' => (CX mem (SX mem j) = 124 ∧ v = 1 ∧ m' = cuX m (SX mem j + 1)) ∨ (¬ CX mem (SX mem j) = 124 ∧ v = 0 ∧ m' = cuX m (SX mem j))) (P2 := fun v m' => CX mem (SX mem j) = 124 ∧ resX (cuX m (SX mem j + 1)) (F 0 mem (SX mem j + 1)) v m') (fun _ => tk) (fun _ v1 m1 w1 g => ?_) (fun _ v1 m1 w1 g v2 m2 w2 g2 => (good v2 m2 w2.1 w2.2 g2).2) (fun g => absurd g (by omega)) (fun _ v1 m1 w1 g => ?_) (fun _ v1 m1 w1 g v2 m2 w2 g2 => ?_) (s1 := ⟨by omega, by omega⟩) (s2 := fun _ v1 m1 w1 => ?_) (s3 := fun _ v1 m1 w1 g v2 m2 w2 => resX_R w2.2) (s4 := ?_)
      · rcases w1 with ⟨z, rfl, rfl⟩ | ⟨z, w, -⟩
        · have lt := CX_lt (mem := mem) (j := SX mem j) (by omega)
          have := hU 0 (Or.inl rfl) (cuX m (SX mem j + 1)) ⟨bytX_cu hbm _, by rw [cuX_at, cuX_1, lxFr_1 a2]; omega, by rw [cuX_at, cuX_ne _ _ (by decide), a4]; omega⟩
          rw [cuX_at, hF mem _ (lxFr_trans a2 (lxFr_cu m _))] at this
          exact con.mono this (fun v m' w => ⟨z, w⟩)
        · exact absurd w g
      · rcases w1 with ⟨z, w, -⟩ | ⟨z, -, rfl⟩
        · exact absurd (w.symm.trans g) (by decide)
        · rw [hR, loopP_no (o3 z)]
          exact resX_cu hm _
      · obtain ⟨f, e, w3, w4⟩ := resX_no w2.2 g2
        rw [hR, loopP_bad (o1 w2.1) e]
        exact ⟨rfl, lxFr_trans (lxFr_trans a2 (lxFr_cu m _)) w3, w4⟩
      · rcases w1 with ⟨z, rfl, -⟩ | ⟨z, rfl, -⟩ <;> exact ⟨by decide, by decide⟩
      · exact fun _ v1 m1 w1 g v2 m2 w2 g2 => (good v2 m2 w2.1 w2.2 g2).1
  refine cn_X3_readCondition (bk_X3_readCondition_0 (d1 := dU) (P1 := resX mem (F b mem (mem 1 2))) (hU b hb01 mem hp) (fun v m w g => ?_) (fun v m w g => ?_) (s1 := fun v m w => resX_R w))
  · obtain ⟨q, ts, e, w1⟩ := resX_yes w g
    have gd := (hg b mem hb (mem 1 2) h0.1 h0.2).2 q ts e
    rw [e]
    exact main 200 _ m 0 q ts w1 ⟨by omega, by omega, by omega⟩ (by omega) (by omega) rfl
  · obtain ⟨f, e, w1, w2⟩ := resX_no w g
    rw [e]
    exact ⟨rfl, w1, w2⟩
theorem gd_cmp0 {C S : Int → Int} {n q : Int} (ht : tapP C S n) {f : Int → PR} (hf : goodP n f) (q0 : 0 ≤ q) (h : q ≤ n) : gdR n q (cmpP C S f q []) := by
  have sq := ht.2.1 q
  have sq2 := ht.2.2.1 q h
  cases hop : opC (C (S q)) with
  | none =>
    rw [cmpP_no hop]
    exact gdR_inl (by omega)
  | some op =>
    have l := ht.1 (S q) (opC_pos hop).1
    have g := hf (S q + 1) (by omega) (by omega)
    cases hfj : f (S q + 1) with
    | inl e =>
      rw [cmpP_bad hop hfj]
      exact gdR_inl (g.1 e hfj)
    | inr x =>
      obtain ⟨t, us⟩ := x
      have g2 := g.2 t us hfj
      rw [cmpP_yes hop hfj]
      refine gdR_inr ?_
      rw [List.length_append, List.length_append, List.length_singleton, List.length_nil]
      omega
theorem good_unit1 (mem : mmM) (r : Nat) (b : Int) : goodP (mem 1 1) (unit1 (CX mem) (SX mem) r b) := by
  intro j j0 j1
  unfold unit1
  by_cases q : b = 0
  · rw [if_pos q]
    exact good_unitL (tapX_P mem) r j j0 j1
  · rw [if_neg q]
    exact gd_cmp0 (tapX_P mem) (good_sum (tapX_P mem) r) j0 j1
theorem good_go {C S : Int → Int} {n j : Int} (ht : tapP C S n) {ops : Int → Option Int} (ho : ∀ c op, ops c = some op → 0 < c) {f : Int → PR} (hf : goodP n f) (j0 : 0 ≤ j) {R : PR} (h : gdR n j R) : gdR n j (goP C S ops f R) := by
  cases R with
  | inl e => exact h
  | inr x =>
    obtain ⟨q, ts⟩ := x
    have g := h.2 q ts rfl
    have l := good_loop ht ho hf 200 q ts (by omega) (by omega)
    refine ⟨l.1, fun q' us' e => ?_⟩
    have := l.2 q' us' e
    omega
theorem cn_X3_readNested {d : Nat} {P : Int → mmM → Prop} {mem : mmM} {x1 x2 : Int} (h : mmT bX3_readNested d 0 0 (mQ 0 P) 0 [(2, 8), (0, x1), (0, x2)] [] mS mem) : con 0 bX3_readNested d [(2, 8), (0, x1), (0, x2)] mem P := mmC_of [(2, 8), (0, x1), (0, x2)] ok_X3_readNested.2.2.2.2 rfl (Nat.le_of_ble_eq_true rfl) h
theorem bk_X3_readNested_0 {d : Nat} {d1 : Nat} {P1 : Int → mmM → Prop} {d2 : Nat} {P2 : Int → mmM → Prop} {d3 : Nat} {P3 : Int → mmM → Prop} {P : Int → mmM → Prop} {mem : mmM} {x1 x2 : Int}
  (c1 : x1 < 6 → ¬ x2 = 40 → con 0 bX3_readUnit d1 [(2, 8), (0, (x1 + 1)), (0, 0)] (mset mem 1 2 ((mem 1 2) + 1)) P1)
  (c2 : x1 < 6 → x2 = 40 → con 0 bX3_readCondition d2 [(2, 8), (0, (x1 + 1)), (0, 0)] (mset mem 1 2 ((mem 1 2) + 1)) P2)
  (c3 : x1 < 6 → x2 = 40 → ∀ (v2 : Int), ∀ (m3 : mmM), P2 v2 m3 → ¬ v2 = 0 → con 0 bX9_takes d3 [(2, 1), (0, 41)] m3 P3)
  (q1 : x1 < 6 → ¬ x2 = 40 → ∀ (v1 : Int), ∀ (m1 : mmM), P1 v1 m1 → ¬ v1 = 0 → P 1 (wrX m1 33))
  (q2 : x1 < 6 → ¬ x2 = 40 → ∀ (v1 : Int), ∀ (m1 : mmM), P1 v1 m1 → v1 = 0 → P 0 m1)
  (q3 : x1 < 6 → x2 = 40 → ∀ (v2 : Int), ∀ (m3 : mmM), P2 v2 m3 → v2 = 0 → P 0 m3)
  (q4 : x1 < 6 → x2 = 40 → ∀ (v2 : Int), ∀ (m3 : mmM), P2 v2 m3 → ¬ v2 = 0 → ∀ (v3 : Int), ∀ (m4 : mmM), P3 v3 m4 → v3 = 0 → P 0 m4)
  (q5 : x1 < 6 → x2 = 40 → ∀ (v2 : Int), ∀ (m3 : mmM), P2 v2 m3 → ¬ v2 = 0 → ∀ (v3 : Int), ∀ (m4 : mmM), P3 v3 m4 → ¬ v3 = 0 → P 1 m4)
  (q6 : 6 ≤ x1 → P 0 mem)
  (hd_d1 : d1 + 1 ≤ d := by omega)
  (hd_d2 : d2 + 1 ≤ d := by omega)
  (hd_d3 : d3 + 1 ≤ d := by omega)
  (hd1 : 1 ≤ d := by omega)
  (s1 : R32 x1 := by intros; first | omega | assumption | solve_by_elim)
  (s2 : x1 < 6 → R32 ((mem 1 2) + 1) := by intros; first | omega | assumption | solve_by_elim)
  (s3 : x1 < 6 → R32 x2 := by intros; first | omega | assumption | solve_by_elim)
  (s4 : x1 < 6 → ¬ x2 = 40 → ∀ (v1 : Int), ∀ (m1 : mmM), P1 v1 m1 → R32 v1 := by intros; first | omega | assumption | solve_by_elim)
  (s5 : x1 < 6 → ¬ x2 = 40 → ∀ (v1 : Int), ∀ (m1 : mmM), P1 v1 m1 → ¬ v1 = 0 → 0 ≤ (m1 8 2) ∧ (m1 8 2) < 160 := by intros; first | omega | assumption | solve_by_elim)
  (s6 : x1 < 6 → x2 = 40 → ∀ (v2 : Int), ∀ (m3 : mmM), P2 v2 m3 → R32 v2 := by intros; first | omega | assumption | solve_by_elim)
  (s7 : x1 < 6 → x2 = 40 → ∀ (v2 : Int), ∀ (m3 : mmM), P2 v2 m3 → ¬ v2 = 0 → ∀ (v3 : Int), ∀ (m4 : mmM), P3 v3 m4 → R32 v3 := by intros; first | omega | assumption | solve_by_elim)
  : mmT bX3_readNested d 0 0 (mQ 0 P) 0 [(2, 8), (0, x1), (0, x2)] [] mS mem := by
  refine st_iload_n (i := 1) rfl rfl dX3_readNested_0 ?_
  refine st_bipush rfl dX3_readNested_1 ?_
  refine sr_icmp_lt 8 s1 ⟨by decide, by decide⟩ (by decide) dX3_readNested_3 (fun h1 => ?_) (fun h1 => ?_)
  · have h1 : x1 < 6 := by omega
    refine st_aload_n (i := 0) rfl (t := 0) rfl (by decide) dX3_readNested_8 ?_
    refine so_getA 8 0 fr_X3_17_3 rfl sh_8 fx_8_0 dX3_readNested_9 ?_
    refine st_dup (Nat.ne_of_beq_eq_false rfl) dX3_readNested_12 ?_
    refine so_getI (v := (mem 1 2)) 1 2 fr_X3_21_9 rfl sh_1 rfl dX3_readNested_13 (fun r1 => ?_)
    refine st_iconst dX3_readNested_16 ?_
    refine st_iadd dX3_readNested_17 ?_
    refine so_putI 1 2 fr_X3_21_9 pf_9_2 fo_1_2 rfl sh_1 (s2 h1) dX3_readNested_18 ?_
    refine st_iload_n (i := 2) rfl rfl dX3_readNested_21 ?_
    refine st_bipush rfl dX3_readNested_22 ?_
    refine sr_icmp_ne 56 (s3 h1) ⟨by decide, by decide⟩ (by decide) dX3_readNested_24 (fun h2 => ?_) (fun h2 => ?_)
    · have h2 : ¬ x2 = 40 := by omega
      refine st_aload_n (i := 0) rfl (t := 0) rfl (by decide) dX3_readNested_56 ?_
      refine st_iload_n (i := 1) rfl rfl dX3_readNested_57 ?_
      refine st_iconst dX3_readNested_58 ?_
      refine st_iadd dX3_readNested_59 ?_
      refine st_iconst dX3_readNested_60 ?_
      refine st_callV (kc2 := 0) (ks2 := 0) (av := [(0, (x1 + 1)), (0, 0)]) 8 3 mr_X3_59 ok_X3_readUnit (c1 h1 h2) rfl sh_8 ⟨_, rfl, rfl, by decide⟩ rfl rfl hd_d1 (Nat.le_refl 0) (Nat.le_refl 0) (Nat.le_of_ble_eq_true rfl) dX3_readNested_61 (mQ.elim fun v1 m1 p1 => ?_)
      refine sr_if_ne 69 (s4 h1 h2 v1 m1 p1) (by decide) dX3_readNested_64 (fun h3 => ?_) (fun h3 => ?_)
      · have h3 : ¬ v1 = 0 := by omega
        refine st_aload_n (i := 0) rfl (t := 0) rfl (by decide) dX3_readNested_69 ?_
        refine st_bipush rfl dX3_readNested_70 ?_
        refine st_callV (kc2 := 0) (ks2 := 0) (av := [(0, 33)]) 8 3 mr_X3_34 ok_X3_write (c_X3_write m1 33 (⟨by decide, by decide⟩) ((s5 h1 h2 v1 m1 p1 h3))) rfl sh_8 ⟨_, rfl, rfl, by decide⟩ rfl rfl hd1 (Nat.le_refl 0) (Nat.le_refl 0) (Nat.le_of_ble_eq_true rfl) dX3_readNested_72 (mQv.elim fun m2 hp => ?_)
        have hp := hp.symm
        subst hp
        refine st_iconst dX3_readNested_75 ?_
        exact st_zreturn rfl (by decide) dX3_readNested_76 (mQ.ret (q1 h1 h2 v1 m1 p1 h3))
      · have h3 : v1 = 0 := by omega
        refine st_iconst dX3_readNested_67 ?_
        exact st_zreturn rfl (by decide) dX3_readNested_68 (mQ.ret (q2 h1 h2 v1 m1 p1 h3))
    · have h2 : x2 = 40 := by omega
      refine st_aload_n (i := 0) rfl (t := 0) rfl (by decide) dX3_readNested_27 ?_
      refine st_iload_n (i := 1) rfl rfl dX3_readNested_28 ?_
      refine st_iconst dX3_readNested_29 ?_
      refine st_iadd dX3_readNested_30 ?_
      refine st_iconst dX3_readNested_31 ?_
      refine st_callV (kc2 := 0) (ks2 := 0) (av := [(0, (x1 + 1)), (0, 0)]) 8 3 mr_X3_52 ok_X3_readCondition (c2 h1 h2) rfl sh_8 ⟨_, rfl, rfl, by decide⟩ rfl rfl hd_d2 (Nat.le_refl 0) (Nat.le_refl 0) (Nat.le_of_ble_eq_true rfl) dX3_readNested_32 (mQ.elim fun v2 m3 p2 => ?_)
      refine sr_if_eq 54 (s6 h1 h2 v2 m3 p2) (by decide) dX3_readNested_35 (fun h4 => ?_) (fun h4 => ?_)
      · have h4 : v2 = 0 := by omega
        refine st_iconst dX3_readNested_54 ?_
        exact st_zreturn rfl (by decide) dX3_readNested_55 (mQ.ret (q3 h1 h2 v2 m3 p2 h4))
      · have h4 : ¬ v2 = 0 := by omega
        refine st_aload_n (i := 0) rfl (t := 0) rfl (by decide) dX3_readNested_38 ?_
        refine so_getA 8 0 fr_X3_17_3 rfl sh_8 fx_8_0 dX3_readNested_39 ?_
        refine st_bipush rfl dX3_readNested_42 ?_
        refine st_callV (kc2 := 0) (ks2 := 0) (av := [(0, 41)]) 1 9 mr_X3_38 ok_X9_takes (c3 h1 h2 v2 m3 p2 h4) rfl sh_1 ⟨_, rfl, rfl, by decide⟩ rfl rfl hd_d3 (Nat.le_refl 0) (Nat.le_refl 0) (Nat.le_of_ble_eq_true rfl) dX3_readNested_44 (mQ.elim fun v3 m4 p3 => ?_)
        refine sr_if_eq 54 (s7 h1 h2 v2 m3 p2 h4 v3 m4 p3) (by decide) dX3_readNested_47 (fun h5 => ?_) (fun h5 => ?_)
        · have h5 : v3 = 0 := by omega
          refine st_iconst dX3_readNested_54 ?_
          exact st_zreturn rfl (by decide) dX3_readNested_55 (mQ.ret (q4 h1 h2 v2 m3 p2 h4 v3 m4 p3 h5))
        · have h5 : ¬ v3 = 0 := by omega
          refine st_iconst dX3_readNested_50 ?_
          refine st_goto 55 (by decide) dX3_readNested_51 ?_
          exact st_zreturn rfl (by decide) dX3_readNested_55 (mQ.ret (q5 h1 h2 v2 m3 p2 h4 v3 m4 p3 h5))
  · have h1 : 6 ≤ x1 := by omega
    refine st_iconst dX3_readNested_6 ?_
    exact st_zreturn rfl (by decide) dX3_readNested_7 (mQ.ret (q6 h1))
def truth1 (C S : Int → Int) (r : Nat) (b j : Int) : PR := goP C S opA (unitL C S r) (unit1 C S r b j)
def cond1 (C S : Int → Int) (r : Nat) (b j : Int) : PR := goP C S opO (truthO C S (unitL C S r)) (truth1 C S r b j)
theorem truth1_0 (C S : Int → Int) (r : Nat) (j : Int) : truth1 C S r 0 j = truthO C S (unitL C S r) j := (chainP_go C S opA _ j).symm
theorem cond1_0 (C S : Int → Int) (r : Nat) (j : Int) : cond1 C S r 0 j = condO C S (unitL C S r) j := by
  unfold cond1
  rw [truth1_0]
  exact (chainP_go C S opO _ j).symm
theorem rd_Nest (r : Nat) (hr : r ≤ 6) (d dU dC : Nat) (hd : 3 ≤ d ∧ dU ≤ d ∧ dC ≤ d) (hU : ∀ r', r = r' + 1 → ∀ m, preX m → con 0 bX3_readUnit dU [(2, 8), (0, 6 - (r : Int) + 1), (0, 0)] m (resX m (unitL (CX m) (SX m) r' (m 1 2)))) (hC : ∀ r', r = r' + 1 → ∀ m, preX m → con 0 bX3_readCondition dC [(2, 8), (0, 6 - (r : Int) + 1), (0, 0)] m (resX m (condO (CX m) (SX m) (unitL (CX m) (SX m) r') (m 1 2)))) (mem : mmM) (hp : preX mem) (p : Int) (hp0 : mem 1 2 ≤ p) (hp1 : p < mem 1 1) (hSp : SX mem p = p) (z : CX mem p = 33 ∨ CX mem p = 40) : con 0 bX3_readNested (d + 1) [(2, 8), (0, 6 - (r : Int)), (0, CX mem p)] (cuX mem p) (resX mem (unitP (CX mem) (SX mem) (sumL (CX mem) (SX mem) r) (nestU (CX mem) (SX mem) r) p)) := by
  have hb := hp.1
  have hn := hb.1
  have h0 := hp.2.1
  have hsz := hp.2.2
  have rg := CX_rng hb p
  have base : resX mem (.inr (p + 1, [])) 1 (cuX mem (p + 1)) := resX_cu (resX_nil mem) (p + 1)
  have pre : preX (cuX mem (p + 1)) := ⟨bytX_cu hb _, by rw [cuX_at, cuX_1]; omega, by rw [cuX_at, cuX_ne _ _ (by decide)]; omega⟩
  obtain ⟨R, hR⟩ : ∃ R, unitP (CX mem) (SX mem) (sumL (CX mem) (SX mem) r) (nestU (CX mem) (SX mem) r) p = R := ⟨_, rfl⟩
  rw [hR]
  unfold unitP at hR
  rw [hSp] at hR
  cases r with
  | zero =>
    have e : R = .inl p := by
      rw [← hR]
      rcases z with z | z
      · rw [if_pos z]
        rfl
      · rw [if_neg (by omega), if_pos z]
        rfl
    rw [e]
    refine cn_X3_readNested (bk_X3_readNested_0 (d1 := 0) (d2 := 0) (d3 := 0) (P1 := fun _ _ => True) (P2 := fun _ _ => True) (P3 := fun _ _ => True) (fun g => absurd g (by omega)) (fun g => absurd g (by omega)) (fun g => absurd g (by omega)) (fun g => absurd g (by omega)) (fun g => absurd g (by omega)) (fun g => absurd g (by omega)) (fun g => absurd g (by omega)) (fun g => absurd g (by omega)) (fun _ => ⟨rfl, lxFr_cu mem _, cuX_at _ _⟩) (s1 := ⟨by omega, by omega⟩) (s2 := fun g => absurd g (by omega)) (s3 := fun g => absurd g (by omega)) (s4 := fun g => absurd g (by omega)) (s5 := fun g => absurd g (by omega)) (s6 := fun g => absurd g (by omega)) (s7 := fun g => absurd g (by omega)))
  | succ r =>
    have cU := hU r rfl (cuX mem (p + 1)) pre
    have cC := hC r rfl (cuX mem (p + 1)) pre
    rw [CX_cu, SX_cu, cuX_at] at cU cC
    have e33 : CX mem p = 33 → R = notP (unitL (CX mem) (SX mem) r (p + 1)) := fun z => by
      rw [← hR, if_pos z]
      rfl
    have e40 : CX mem p = 40 → R = closeP (CX mem) (SX mem) 41 (condO (CX mem) (SX mem) (unitL (CX mem) (SX mem) r) (p + 1)) := fun z => by
      rw [← hR, if_neg (by omega), if_pos z]
      rfl
    have gU := good_unitL (tapX_P mem) r
    have gC := good_cond (tapX_P mem) gU
    have yes : ∀ v m', ¬ CX mem p = 40 → resX (cuX mem (p + 1)) (unitL (CX mem) (SX mem) r (p + 1)) v m' → ¬ v = 0 → (0 ≤ m' 8 2 ∧ m' 8 2 < 160) ∧ resX mem R 1 (wrX m' 33) := by
      intro v m' g w g2
      obtain ⟨q, ts, e, w2⟩ := resX_yes w g2
      have gd := (gU (p + 1) (by omega) (by omega)).2 q ts e
      have w3 : resX mem (.inr (q, ts)) 1 m' := resX_app base w2
      have w4 := resX_wr (t := (9, 0)) w3
      have e9 : encX (9, 0) = 33 := by decide
      rw [e9] at w4
      have e8 := w3.2.2.2.1
      refine ⟨by omega, ?_⟩
      rw [e33 (by omega), e]
      exact w4
    refine cn_X3_readNested (bk_X3_readNested_0 (d1 := dU) (d2 := dC) (d3 := 3) (P1 := resX (cuX mem (p + 1)) (unitL (CX mem) (SX mem) r (p + 1))) (P2 := resX (cuX mem (p + 1)) (condO (CX mem) (SX mem) (unitL (CX mem) (SX mem) r) (p + 1)))
      (P3 := fun v m => ∃ q ts, condO (CX mem) (SX mem) (unitL (CX mem) (SX mem) r) (p + 1) = .inr (q, ts) ∧ ((CX mem (SX mem q) = 41 ∧ v = 1 ∧ resX mem (.inr (SX mem q + 1, ts)) 1 m) ∨ (¬ CX mem (SX mem q) = 41 ∧ v = 0 ∧ lxFr mem m ∧ m 1 2 = SX mem q)))
      (fun _ _ => ?_) (fun _ _ => ?_) (fun _ g v2 m3 w2 g2 => ?_) (fun _ g v1 m1 w1 g2 => ?_) (fun _ g v1 m1 w1 g2 => ?_) (fun _ g v2 m3 w2 g2 => ?_) (fun _ g v2 m3 w2 g2 v3 m4 w3 g3 => ?_) (fun _ g v2 m3 w2 g2 v3 m4 w3 g3 => ?_) (fun g => absurd g (by omega)) (s1 := ⟨by omega, by omega⟩) (s2 := fun _ => by rw [cuX_at]; exact ⟨by omega, by omega⟩) (s3 := fun _ => ⟨by omega, by omega⟩) (s4 := fun _ _ v1 m1 w1 => resX_R w1) (s5 := fun _ g v1 m1 w1 g2 => (yes v1 m1 g w1 g2).1) (s6 := fun _ _ v2 m3 w2 => resX_R w2) (s7 := fun _ _ v2 m3 w2 _ v3 m4 w3 => ?_))
    · rw [cuX_at, cuX_cu]
      exact cU
    · rw [cuX_at, cuX_cu]
      exact cC
    · obtain ⟨q, ts, e, w⟩ := resX_yes w2 g2
      have gd := (gC (p + 1) (by omega) (by omega)).2 q ts e
      have fr := w.2.1
      have hbm := lxFr_B fr (bytX_cu hb _)
      have e12 := w.2.2.1
      have tk := s_takes' m3 hbm (x := 41) (by omega) (by rw [lxFr_1 fr, cuX_1]; omega) ⟨by decide, by decide⟩
      rw [lxFr_C fr, lxFr_S fr, CX_cu, SX_cu, e12] at tk
      have w3 : resX mem (.inr (q, ts)) 1 m3 := resX_app base w
      refine con.mono tk (fun v m t => ⟨q, ts, e, ?_⟩)
      rcases t with ⟨t1, t2, rfl⟩ | ⟨t1, t2, rfl⟩
      · exact Or.inl ⟨t1, t2, resX_cu w3 _⟩
      · exact Or.inr ⟨t1, t2, (resX_cu w3 (SX mem q)).2.1, cuX_at _ _⟩
    · exact (yes v1 m1 g w1 g2).2
    · obtain ⟨f, e, w2, w3⟩ := resX_no w1 g2
      rw [e33 (by omega), e]
      exact ⟨rfl, lxFr_trans (lxFr_cu mem _) w2, w3⟩
    · obtain ⟨f, e, w3, w4⟩ := resX_no w2 g2
      rw [e40 g, e]
      exact ⟨rfl, lxFr_trans (lxFr_cu mem _) w3, w4⟩
    · obtain ⟨q, ts, e, w⟩ := w3
      rw [e40 g, e]
      rcases w with ⟨w1, w2, w3⟩ | ⟨w1, w2, w3, w4⟩
      · exact absurd (w2.symm.trans g3) (by decide)
      · show resX mem (if CX mem (SX mem q) = 41 then _ else _) 0 m4
        rw [if_neg w1]
        exact ⟨rfl, w3, w4⟩
    · obtain ⟨q, ts, e, w⟩ := w3
      rw [e40 g, e]
      rcases w with ⟨w1, w2, w3⟩ | ⟨w1, w2, w3, w4⟩
      · show resX mem (if CX mem (SX mem q) = 41 then _ else _) 1 m4
        rw [if_pos w1]
        exact w3
      · exact absurd w2 g3
    · obtain ⟨q, ts, e, w⟩ := w3
      rcases w with ⟨-, rfl, -⟩ | ⟨-, rfl, -⟩ <;> exact ⟨by decide, by decide⟩
theorem c_X3_readUnit : ∀ (r : Nat), r ≤ 6 → ∀ b, (b = 0 ∨ b = 1) → ∀ mem, preX mem → con 0 bX3_readUnit (4 * r + 8) [(2, 8), (0, 6 - (r : Int)), (0, b)] mem (resX mem (unit1 (CX mem) (SX mem) r b (mem 1 2))) := by
  intro r
  induction r with
  | zero =>
    intro hr b hb01 mem hp
    exact rd_Unit 0 hr 7 (by decide) (fun mem hp p p0 p1 hSp z => rd_Nest 0 hr 6 0 0 (by decide) (fun r' e => by cases e) (fun r' e => by cases e) mem hp p p0 p1 hSp z) b hb01 mem hp
  | succ r ih =>
    intro hr b hb01 mem hp
    have e1 : (6 - ((r + 1 : Nat) : Int)) + 1 = 6 - (r : Int) := by omega
    have ihr := ih (by omega)
    have hF : ∀ mem m : mmM, lxFr mem m → unit1 (CX m) (SX m) r 0 = unit1 (CX mem) (SX mem) r 0 := fun mem m h => by rw [lxFr_C h, lxFr_S h]
    have T := fun b hb m hm => rd_Truth (fun b m => unit1 (CX m) (SX m) r b) (6 - (r : Int)) b (4 * r + 8) (by omega) hb ihr hF (fun b m _ => good_unit1 m r b) m hm
    have hF2 : ∀ mem m : mmM, lxFr mem m → truth1 (CX m) (SX m) r 0 = truth1 (CX mem) (SX mem) r 0 := fun mem m h => by rw [lxFr_C h, lxFr_S h]
    have gT : ∀ b (m : mmM), goodP (m 1 1) (truth1 (CX m) (SX m) r b) := fun b m j j0 j1 => good_go (tapX_P m) (fun _ _ h => (opA_pos h).1) (good_unitL (tapX_P m) r) j0 (good_unit1 m r b j j0 j1)
    have Z := fun b hb m hm => rd_Cond (fun b m => truth1 (CX m) (SX m) r b) (6 - (r : Int)) b (4 * r + 8 + 1) (by omega) hb T hF2 (fun b m _ => gT b m) m hm
    refine rd_Unit (r + 1) hr (4 * r + 11) (by omega) (fun mem hp p p0 p1 hSp z => rd_Nest (r + 1) hr (4 * r + 10) (4 * r + 8) (4 * r + 8 + 1 + 1) (by omega) (fun r' e m hm => ?_) (fun r' e m hm => ?_) mem hp p p0 p1 hSp z) b hb01 mem hp
    · have e' : r' = r := by omega
      subst e'
      rw [e1]
      exact ihr 0 (Or.inl rfl) m hm
    · have e' : r' = r := by omega
      subst e'
      rw [e1]
      have := Z 0 (Or.inl rfl) m hm
      have e0 : goP (CX m) (SX m) opO (truth1 (CX m) (SX m) r' 0) (truth1 (CX m) (SX m) r' 0 (m 1 2)) = condO (CX m) (SX m) (unitL (CX m) (SX m) r') (m 1 2) := by
        have f : truth1 (CX m) (SX m) r' 0 = truthO (CX m) (SX m) (unitL (CX m) (SX m) r') := funext (truth1_0 _ _ _)
        rw [f]
        exact (chainP_go _ _ opO _ _).symm
      rw [← e0]
      exact this
