/-! the class reads a law -/
theorem typ_go {C S : Int → Int} {ops : Int → Option Int} {f : Int → PR} {h : Nat} {b : Bool} (ho : ∀ c op, ops c = some op → opB b op) (hf : typP h b f) {r : PR} (hr : ∀ q ts, r = .inr (q, ts) → typT (h + 1) b ts) {q : Int} {ts : List tokT} (e : goP C S ops f r = .inr (q, ts)) : typT (h + 1) b ts := by
  cases r with
  | inl z => cases e
  | inr x =>
    obtain ⟨t, vs⟩ := x
    exact typ_loop ho hf 200 t vs (hr _ _ rfl) e
theorem beh_wf {C S : Int → Int} {w q : Int} {vs ts us : List tokT} (hv : wfX true [] vs) (e : behP C S w vs = .inr (q, ts, us)) : wfX false [] us ∧ (ts.length = 0 ∨ wfX true [] ts) := by
  unfold behP at e
  by_cases z : C (S w) = 63
  · rw [if_neg (fun y => y z)] at e
    cases hs : sumL C S 6 (S w + 1) with
    | inl f =>
      rw [hs] at e
      cases e
    | inr x =>
      obtain ⟨t, xs⟩ := x
      rw [hs] at e
      cases e
      exact ⟨wfX_of (typ_sum C S 6 _ _ _ hs) (by decide), Or.inr hv⟩
  · rw [if_pos z] at e
    cases e
theorem clause_wf {C S : Int → Int} {j q : Int} {ts us : List tokT} (e : clauseP C S j = .inr (q, ts, us)) : wfX false [] us ∧ (ts.length = 0 ∨ wfX true [] ts) := by
  by_cases z : C (S j) = 121
  · by_cases z2 : C (S (S j + 1)) = 58
    · by_cases z3 : C (S (S (S j + 1) + 1)) = 33 ∨ C (S (S (S j + 1) + 1)) = 40
      · rw [clauseP_c z z2 z3] at e
        cases hc : condO C S (unitL C S 6) (S (S (S j + 1) + 1)) with
        | inl f =>
          rw [hc] at e
          cases e
        | inr x =>
          obtain ⟨w, vs⟩ := x
          rw [hc] at e
          exact beh_wf (wfX_of (typ_cond (typ_unitL C S 6) _ _ _ hc) (by decide)) e
      · rw [clauseP_s z z2 z3] at e
        cases hc : sumL C S 6 (S (S (S j + 1) + 1)) with
        | inl f =>
          rw [hc] at e
          cases e
        | inr x =>
          obtain ⟨w, vs⟩ := x
          rw [hc] at e
          have e' : (if opC (C (S w)) = none then (.inr (S w, [], vs) : Int ⊕ (Int × List tokT × List tokT)) else bindP (preT vs (cond1 C S 6 1 w)) (behP C S)) = .inr (q, ts, us) := e
          by_cases ho : opC (C (S w)) = none
          · rw [if_pos ho] at e'
            cases e'
            exact ⟨wfX_of (typ_sum C S 6 _ _ _ hc) (by decide), Or.inl rfl⟩
          · rw [if_neg ho] at e'
            cases hp : preT vs (cond1 C S 6 1 w) with
            | inl f =>
              rw [hp] at e'
              cases e'
            | inr y =>
              obtain ⟨t, xs⟩ := y
              rw [hp] at e'
              refine beh_wf (wfX_of (h := 18) ?_ (by decide)) e'
              have ec : cond1 C S 6 1 w = goP C S opO (truthO C S (unitL C S 6)) (goP C S opA (unitL C S 6) (cmpP C S (sumL C S 6) w [])) := rfl
              rw [ec, ← goP_pre, ← goP_pre, ← cmpP_pre] at hp
              have tU := typ_unitL C S 6
              have tT : typP 17 true (truthO C S (unitL C S 6)) := typ_chain (fun _ _ z => Or.inl (opA_pos z).2) tU
              refine typ_go (b := true) (fun _ _ z => Or.inr (opO_pos z).2) tT (fun q ts e => ?_) hp
              refine typT_mono (h := 17) (typ_go (b := true) (fun _ _ z => Or.inl (opA_pos z).2) tU (fun q ts e => ?_) e) (by decide)
              exact typT_mono (h := 16) (typ_cmp (h := 15) (typ_sum C S 6) (typT_mono (typ_sum C S 6 _ _ _ hc) (by decide)) e) (by decide)
    · rw [clauseP_2 z z2] at e
      cases e
  · rw [clauseP_1 z] at e
    cases e
theorem lawX_app {f : Int → Int} {s1 s2 : Int} {cl1 : lawT} (h12 : s1 ≤ s2) (h1 : lawX f s2 s1 cl1) : ∀ (cl0 : lawT) (p : Int), lawX f s1 p cl0 → lawX f s2 p (cl0 ++ cl1) := by
  intro cl0
  induction cl0 with
  | nil =>
    intro p h
    have h' : p = s1 := h
    rw [h']
    exact h1
  | cons q r ih =>
    intro p h
    obtain ⟨w, h⟩ := h
    refine ⟨w, ?_⟩
    rcases h with ⟨a1, a2, a3, a4, a5⟩ | ⟨a1, a2, a3, a4, a5, a6, a7, a8⟩
    · exact Or.inl ⟨a1, a2, a3, by omega, ih _ a5⟩
    · exact Or.inr ⟨a1, a2, a3, a4, a5, a6, by omega, ih _ a8⟩
theorem lawX_congr {f g : Int → Int} {sz : Int} : ∀ (cl : lawT) (p : Int), (∀ i, p ≤ i → i < sz → f i = g i) → lawX f sz p cl → lawX g sz p cl := by
  intro cl
  induction cl with
  | nil => exact fun _ _ h => h
  | cons q r ih =>
    intro p e h
    obtain ⟨w, h⟩ := h
    refine ⟨w, ?_⟩
    rcases h with ⟨a1, a2, a3, a4, a5⟩ | ⟨a1, a2, a3, a4, a5, a6, a7, a8⟩
    · exact Or.inl ⟨a1, tokX_congr _ _ (fun i i0 i1 => e i i0 (by omega)) a2, by rw [← e _ (by omega) a4]; exact a3, a4, ih _ (fun i i0 i1 => e i (by omega) i1) a5⟩
    · refine Or.inr ⟨a1, a2, tokX_congr _ _ (fun i i0 i1 => e i i0 (by omega)) a3, by rw [← e _ (by omega) (by omega)]; exact a4, tokX_congr _ _ (fun i i0 i1 => e i (by omega) (by omega)) a5, by rw [← e _ (by omega) a7]; exact a6, a7, ih _ (fun i i0 i1 => e i (by omega) i1) a8⟩
theorem lawX_1a {f : Int → Int} {sz p : Int} {ts us : List tokT} (w : wfX false [] us) (h0 : ts.length = 0) (h1 : tokX f p us) (h2 : f (p + us.length) = 59) (h3 : p + us.length + 1 = sz) : lawX f sz p [(ts, us)] := ⟨w, Or.inl ⟨h0, h1, h2, by show p + (us.length : Int) < sz; omega, h3⟩⟩
theorem lawX_1b {f : Int → Int} {sz p : Int} {ts us : List tokT} (w : wfX false [] us) (wt : wfX true [] ts) (h0 : ¬ ts.length = 0) (h1 : tokX f p ts) (h2 : f (p + ts.length) = 63) (h3 : tokX f (p + ts.length + 1) us) (h4 : f (p + ts.length + 1 + us.length) = 59) (h5 : p + ts.length + 1 + us.length + 1 = sz) : lawX f sz p [(ts, us)] := ⟨w, Or.inr ⟨wt, h0, h1, h2, h3, h4, by show p + (ts.length : Int) + 1 + (us.length : Int) < sz; omega, h5⟩⟩
theorem lawP_bad {C S : Int → Int} {k : Nat} {j e : Int} (h : clauseP C S j = .inl e) : lawP C S (k + 1) j = .inl e := by
  unfold lawP
  rw [h]
theorem lawP_go {C S : Int → Int} {k : Nat} {j q : Int} {ts us : List tokT} (h : clauseP C S j = .inr (q, ts, us)) (z : C (S q) = 59) : lawP C S (k + 1) j = (match lawP C S k (S q + 1) with
        | .inl e => .inl e
        | .inr cl => .inr ((ts, us) :: cl)) := by
  show (match clauseP C S j with | .inl e => _ | .inr (q, ts, us) => _) = _
  rw [h]
  exact if_pos z
theorem lawP_end {C S : Int → Int} {k : Nat} {j q : Int} {ts us : List tokT} (h : clauseP C S j = .inr (q, ts, us)) (z : ¬ C (S q) = 59) : lawP C S (k + 1) j = if C (S q) = 0 then .inr [(ts, us)] else .inl (S q) := by
  show (match clauseP C S j with | .inl e => _ | .inr (q, ts, us) => _) = _
  rw [h]
  exact if_neg z
theorem cn_X3_read {d : Nat} {P : Int → mmM → Prop} {mem : mmM} (h : mmT bX3_read d 0 0 (mQ 0 P) 0 [(2, 8), (9, 0)] [] mS mem) : con 0 bX3_read d [(2, 8)] mem P := mmC_of [(2, 8), (9, 0)] ok_X3_read.2.2.2.2 rfl (Nat.le_of_ble_eq_true rfl) h
theorem bk_X3_read_0 {d : Nat} {P : Int → mmM → Prop} {mem : mmM}
  (k1 : mmT bX3_read d 0 0 (mQ 0 P) 15 [(2, 8), (0, 0)] [] mS (mset (mset mem 1 2 0) 8 2 0))
  : mmT bX3_read d 0 0 (mQ 0 P) 0 [(2, 8), (9, 0)] [] mS mem := by
  refine st_aload_n (i := 0) rfl (t := 0) rfl (by decide) dX3_read_0 ?_
  refine so_getA 8 0 fr_X3_17_3 rfl sh_8 fx_8_0 dX3_read_1 ?_
  refine st_iconst dX3_read_4 ?_
  refine so_putI 1 2 fr_X3_21_9 pf_9_2 fo_1_2 rfl sh_1 ⟨by decide, by decide⟩ dX3_read_5 ?_
  refine st_aload_n (i := 0) rfl (t := 0) rfl (by decide) dX3_read_8 ?_
  refine st_iconst dX3_read_9 ?_
  refine so_putI 8 2 fr_X3_27_3 pf_3_2 fo_8_2 rfl sh_8 ⟨by decide, by decide⟩ dX3_read_10 ?_
  refine st_iconst dX3_read_13 ?_
  refine st_istore_n (i := 1) rfl (by decide) (lc' := [(2, 8), (0, 0)]) rfl dX3_read_14 ?_
  exact st_locals [(2, 8), (0, 0)] ⟨Or.inr rfl, Or.inr rfl, trivial⟩ k1
theorem bk_X3_read_15 {d : Nat} {d1 : Nat} {P1 : Int → mmM → Prop} {d2 : Nat} {P2 : Int → mmM → Prop} {d3 : Nat} {P3 : Int → mmM → Prop} {d4 : Nat} {P4 : Int → mmM → Prop} {P : Int → mmM → Prop} {mem : mmM} {x1 : Int}
  (c1 : 160 ≤ x1 → con 0 bX9_sign d1 [(2, 1)] mem P1)
  (c2 : x1 < 160 → con 0 bX3_readClause d2 [(2, 8)] mem P2)
  (c3 : x1 < 160 → ∀ (v2 : Int), ∀ (m2 : mmM), P2 v2 m2 → ¬ v2 = 0 → con 0 bX9_takes d3 [(2, 1), (0, 59)] (wrX m2 59) P3)
  (c4 : x1 < 160 → ∀ (v2 : Int), ∀ (m2 : mmM), P2 v2 m2 → ¬ v2 = 0 → ∀ (v3 : Int), ∀ (m4 : mmM), P3 v3 m4 → v3 = 0 → con 0 bX9_sign d4 [(2, 1)] m4 P4)
  (k1 : x1 < 160 → ∀ (v2 : Int), ∀ (m2 : mmM), P2 v2 m2 → ¬ v2 = 0 → ∀ (v3 : Int), ∀ (m4 : mmM), P3 v3 m4 → ¬ v3 = 0 → mmT bX3_read d 0 0 (mQ 0 P) 15 [(2, 8), (0, (x1 + 1))] [] mS m4)
  (q1 : 160 ≤ x1 → ∀ (v1 : Int), ∀ (m1 : mmM), P1 v1 m1 → ¬ v1 = 0 → P (m1 1 2) m1)
  (q2 : 160 ≤ x1 → ∀ (v1 : Int), ∀ (m1 : mmM), P1 v1 m1 → v1 = 0 → P (-1) m1)
  (q3 : x1 < 160 → ∀ (v2 : Int), ∀ (m2 : mmM), P2 v2 m2 → ¬ v2 = 0 → ∀ (v3 : Int), ∀ (m4 : mmM), P3 v3 m4 → v3 = 0 → ∀ (v4 : Int), ∀ (m5 : mmM), P4 v4 m5 → ¬ v4 = 0 → P (m5 1 2) m5)
  (q4 : x1 < 160 → ∀ (v2 : Int), ∀ (m2 : mmM), P2 v2 m2 → ¬ v2 = 0 → ∀ (v3 : Int), ∀ (m4 : mmM), P3 v3 m4 → v3 = 0 → ∀ (v4 : Int), ∀ (m5 : mmM), P4 v4 m5 → v4 = 0 → P (-1) m5)
  (q5 : x1 < 160 → ∀ (v2 : Int), ∀ (m2 : mmM), P2 v2 m2 → v2 = 0 → P (m2 1 2) m2)
  (hd_d1 : d1 + 1 ≤ d := by omega)
  (hd_d2 : d2 + 1 ≤ d := by omega)
  (hd_d3 : d3 + 1 ≤ d := by omega)
  (hd_d4 : d4 + 1 ≤ d := by omega)
  (hd1 : 1 ≤ d := by omega)
  (s1 : R32 x1 := by intros; first | omega | assumption | solve_by_elim)
  (s2 : 160 ≤ x1 → ∀ (v1 : Int), ∀ (m1 : mmM), P1 v1 m1 → R32 v1 := by intros; first | omega | assumption | solve_by_elim)
  (s3 : x1 < 160 → ∀ (v2 : Int), ∀ (m2 : mmM), P2 v2 m2 → R32 v2 := by intros; first | omega | assumption | solve_by_elim)
  (s4 : x1 < 160 → ∀ (v2 : Int), ∀ (m2 : mmM), P2 v2 m2 → ¬ v2 = 0 → 0 ≤ (m2 8 2) ∧ (m2 8 2) < 160 := by intros; first | omega | assumption | solve_by_elim)
  (s5 : x1 < 160 → ∀ (v2 : Int), ∀ (m2 : mmM), P2 v2 m2 → ¬ v2 = 0 → ∀ (v3 : Int), ∀ (m4 : mmM), P3 v3 m4 → R32 v3 := by intros; first | omega | assumption | solve_by_elim)
  (s6 : x1 < 160 → ∀ (v2 : Int), ∀ (m2 : mmM), P2 v2 m2 → ¬ v2 = 0 → ∀ (v3 : Int), ∀ (m4 : mmM), P3 v3 m4 → v3 = 0 → ∀ (v4 : Int), ∀ (m5 : mmM), P4 v4 m5 → R32 v4 := by intros; first | omega | assumption | solve_by_elim)
  : mmT bX3_read d 0 0 (mQ 0 P) 15 [(2, 8), (0, x1)] [] mS mem := by
  refine st_iload_n (i := 1) rfl rfl dX3_read_15 ?_
  refine st_sipush rfl dX3_read_16 ?_
  refine sr_icmp_ge 64 s1 ⟨by decide, by decide⟩ (by decide) dX3_read_19 (fun h1 => ?_) (fun h1 => ?_)
  · have h1 : 160 ≤ x1 := by omega
    refine st_aload_n (i := 0) rfl (t := 0) rfl (by decide) dX3_read_64 ?_
    refine so_getA 8 0 fr_X3_17_3 rfl sh_8 fx_8_0 dX3_read_65 ?_
    refine st_callV (kc2 := 0) (ks2 := 0) (av := []) 1 9 mr_X3_42 ok_X9_sign (c1 h1) rfl sh_1 ⟨_, rfl, rfl, by decide⟩ rfl rfl hd_d1 (Nat.le_refl 0) (Nat.le_refl 0) (Nat.le_of_ble_eq_true rfl) dX3_read_68 (mQ.elim fun v1 m1 p1 => ?_)
    refine sr_if_ne 78 (s2 h1 v1 m1 p1) (by decide) dX3_read_71 (fun h2 => ?_) (fun h2 => ?_)
    · have h2 : ¬ v1 = 0 := by omega
      refine st_aload_n (i := 0) rfl (t := 0) rfl (by decide) dX3_read_78 ?_
      refine so_getA 8 0 fr_X3_17_3 rfl sh_8 fx_8_0 dX3_read_79 ?_
      refine so_getI (v := (m1 1 2)) 1 2 fr_X3_21_9 rfl sh_1 rfl dX3_read_82 (fun r1 => ?_)
      exact st_ireturn rfl dX3_read_85 (mQ.ret (q1 h1 v1 m1 p1 h2))
    · have h2 : v1 = 0 := by omega
      refine st_iconst dX3_read_74 ?_
      refine st_goto 85 (by decide) dX3_read_75 ?_
      exact st_ireturn rfl dX3_read_85 (mQ.ret (q2 h1 v1 m1 p1 h2))
  · have h1 : x1 < 160 := by omega
    refine st_aload_n (i := 0) rfl (t := 0) rfl (by decide) dX3_read_22 ?_
    refine st_callV (kc2 := 0) (ks2 := 0) (av := []) 8 3 mr_X3_30 ok_X3_readClause (c2 h1) rfl sh_8 ⟨_, rfl, rfl, by decide⟩ rfl rfl hd_d2 (Nat.le_refl 0) (Nat.le_refl 0) (Nat.le_of_ble_eq_true rfl) dX3_read_23 (mQ.elim fun v2 m2 p2 => ?_)
    refine sr_if_ne 37 (s3 h1 v2 m2 p2) (by decide) dX3_read_26 (fun h3 => ?_) (fun h3 => ?_)
    · have h3 : ¬ v2 = 0 := by omega
      refine st_aload_n (i := 0) rfl (t := 0) rfl (by decide) dX3_read_37 ?_
      refine st_bipush rfl dX3_read_38 ?_
      refine st_callV (kc2 := 0) (ks2 := 0) (av := [(0, 59)]) 8 3 mr_X3_34 ok_X3_write (c_X3_write m2 59 (⟨by decide, by decide⟩) ((s4 h1 v2 m2 p2 h3))) rfl sh_8 ⟨_, rfl, rfl, by decide⟩ rfl rfl hd1 (Nat.le_refl 0) (Nat.le_refl 0) (Nat.le_of_ble_eq_true rfl) dX3_read_40 (mQv.elim fun m3 hp => ?_)
      have hp := hp.symm
      subst hp
      refine st_aload_n (i := 0) rfl (t := 0) rfl (by decide) dX3_read_43 ?_
      refine so_getA 8 0 fr_X3_17_3 rfl sh_8 fx_8_0 dX3_read_44 ?_
      refine st_bipush rfl dX3_read_47 ?_
      refine st_callV (kc2 := 0) (ks2 := 0) (av := [(0, 59)]) 1 9 mr_X3_38 ok_X9_takes (c3 h1 v2 m2 p2 h3) rfl sh_1 ⟨_, rfl, rfl, by decide⟩ rfl rfl hd_d3 (Nat.le_refl 0) (Nat.le_refl 0) (Nat.le_of_ble_eq_true rfl) dX3_read_49 (mQ.elim fun v3 m4 p3 => ?_)
      refine sr_if_ne 58 (s5 h1 v2 m2 p2 h3 v3 m4 p3) (by decide) dX3_read_52 (fun h4 => ?_) (fun h4 => ?_)
      · have h4 : ¬ v3 = 0 := by omega
        refine st_iinc (y := (x1 + 1)) (by decide) (i := 1) rfl rfl (lc' := [(2, 8), (0, (x1 + 1))]) rfl dX3_read_58 ?_
        refine st_goto 15 (by decide) dX3_read_61 ?_
        exact st_locals [(2, 8), (0, (x1 + 1))] ⟨Or.inr rfl, Or.inr rfl, trivial⟩ (k1 h1 v2 m2 p2 h3 v3 m4 p3 h4)
      · have h4 : v3 = 0 := by omega
        refine st_goto 64 (by decide) dX3_read_55 ?_
        refine st_aload_n (i := 0) rfl (t := 0) rfl (by decide) dX3_read_64 ?_
        refine so_getA 8 0 fr_X3_17_3 rfl sh_8 fx_8_0 dX3_read_65 ?_
        refine st_callV (kc2 := 0) (ks2 := 0) (av := []) 1 9 mr_X3_42 ok_X9_sign (c4 h1 v2 m2 p2 h3 v3 m4 p3 h4) rfl sh_1 ⟨_, rfl, rfl, by decide⟩ rfl rfl hd_d4 (Nat.le_refl 0) (Nat.le_refl 0) (Nat.le_of_ble_eq_true rfl) dX3_read_68 (mQ.elim fun v4 m5 p4 => ?_)
        refine sr_if_ne 78 (s6 h1 v2 m2 p2 h3 v3 m4 p3 h4 v4 m5 p4) (by decide) dX3_read_71 (fun h5 => ?_) (fun h5 => ?_)
        · have h5 : ¬ v4 = 0 := by omega
          refine st_aload_n (i := 0) rfl (t := 0) rfl (by decide) dX3_read_78 ?_
          refine so_getA 8 0 fr_X3_17_3 rfl sh_8 fx_8_0 dX3_read_79 ?_
          refine so_getI (v := (m5 1 2)) 1 2 fr_X3_21_9 rfl sh_1 rfl dX3_read_82 (fun r2 => ?_)
          exact st_ireturn rfl dX3_read_85 (mQ.ret (q3 h1 v2 m2 p2 h3 v3 m4 p3 h4 v4 m5 p4 h5))
        · have h5 : v4 = 0 := by omega
          refine st_iconst dX3_read_74 ?_
          refine st_goto 85 (by decide) dX3_read_75 ?_
          exact st_ireturn rfl dX3_read_85 (mQ.ret (q4 h1 v2 m2 p2 h3 v3 m4 p3 h4 v4 m5 p4 h5))
    · have h3 : v2 = 0 := by omega
      refine st_aload_n (i := 0) rfl (t := 0) rfl (by decide) dX3_read_29 ?_
      refine so_getA 8 0 fr_X3_17_3 rfl sh_8 fx_8_0 dX3_read_30 ?_
      refine so_getI (v := (m2 1 2)) 1 2 fr_X3_21_9 rfl sh_1 rfl dX3_read_33 (fun r3 => ?_)
      exact st_ireturn rfl dX3_read_36 (mQ.ret (q5 h1 v2 m2 p2 h3))
def lawRX (mem : mmM) : Int ⊕ lawT → Int → mmM → Prop
  | .inl f, v, m => v = f ∧ lxFr mem m
  | .inr cl, v, m => v = -1 ∧ lxFr mem m ∧ (0 ≤ m 8 2 ∧ m 8 2 ≤ 160) ∧ lawX (m 9) (m 8 2) 0 cl
def consL (cl0 : lawT) : Int ⊕ lawT → Int ⊕ lawT
  | .inl e => .inl e
  | .inr cl => .inr (cl0 ++ cl)
theorem rl_15 (mem : mmM) (hb : bytX mem) : ∀ (k : Nat) (R : Int ⊕ lawT) (m : mmM) (i : Int) (cl0 : lawT), lxFr mem m → preX m → lawX (m 9) (m 8 2) 0 cl0 → (0 ≤ i ∧ 2 * i ≤ m 1 2) → mem 1 1 - m 1 2 < k → R = consL cl0 (lawP (CX mem) (SX mem) k (m 1 2)) → mmT bX3_read 36 0 0 (mQ 0 (lawRX mem R)) 15 [(2, 8), (0, i)] [] mS m := by
  intro k
  induction k with
  | zero =>
    intro R m i cl0 fr hp _ _ h
    have := hp.2.1
    rw [lxFr_1 fr] at this
    omega
  | succ k ih =>
    intro R m i cl0 fr hp hl hi hk hR
    have hn := hb.1
    have h0 := hp.2.1
    have h8 := hp.2.2
    rw [lxFr_1 fr] at h0
    have eC := lxFr_C fr
    have eS := lxFr_S fr
    obtain ⟨j, hj⟩ : ∃ j, m 1 2 = j := ⟨_, rfl⟩
    have cc := c_X3_readClause m hp
    rw [eC, eS, hj] at cc
    rw [hj] at hR h0 h8 hk hi
    have fact : ∀ {q ts us m2}, clauseP (CX mem) (SX mem) j = .inr (q, ts, us) → resC m (.inr (q, ts, us)) 1 m2 → (0 ≤ m2 8 2 ∧ m2 8 2 < 160) ∧ (j < q ∧ q ≤ mem 1 1) ∧ lxFr mem (wrX m2 59) ∧ wrX m2 59 8 2 ≤ q - 1 ∧ wrX m2 59 1 2 = q ∧ lawX (wrX m2 59 9) (wrX m2 59 8 2) 0 (cl0 ++ [(ts, us)]) := by
      intro q ts us m2 e w
      obtain ⟨-, w2, w3, w4, w5, w6, w7⟩ := w
      rw [hj, lxFr_1 fr] at w4
      have wf := clause_wf e
      have z8 : m 8 2 ≤ m2 8 2 := by
        rcases w7 with ⟨a1, a2, -⟩ | ⟨a1, a2, -⟩ <;> omega
      have fw := lxFr_trans (lxFr_trans fr w2) (lxFr_wr m2 59)
      have u9 : ∀ i, i < m2 8 2 → m2 9 i = wrX m2 59 9 i := fun i hi => by rw [wrX_9, if_neg (by omega)]
      refine ⟨⟨by omega, by omega⟩, w4, fw, by rw [wrX_8]; omega, by rw [wrX_1, w3], ?_⟩
      rw [wrX_8]
      refine lawX_app (s1 := m 8 2) (by omega) ?_ cl0 0 (lawX_congr cl0 0 (fun i i0 i1 => ?_) hl)
      · rcases w7 with ⟨a1, a2, a3⟩ | ⟨a1, a2, a3, a4, a5⟩
        · refine lawX_1a wf.1 a1 (tokX_congr _ _ (fun i i0 i1 => u9 i (by omega)) a3) ?_ (by omega)
          rw [← a2, wrX_9, if_pos rfl]
        · have wt : wfX true [] ts := by
            rcases wf.2 with y | y
            · exact absurd y a1
            · exact y
          refine lawX_1b wf.1 wt a1 (tokX_congr _ _ (fun i i0 i1 => u9 i (by omega)) a3) ?_ (tokX_congr _ _ (fun i i0 i1 => u9 i (by omega)) a5) ?_ (by omega)
          · rw [← u9 _ (by omega)]
            exact a4
          · rw [← a2, wrX_9, if_pos rfl]
      · rw [← u9 i (by omega), w6 i i1]
    have yes : ∀ {v2 m2}, resC m (clauseP (CX mem) (SX mem) j) v2 m2 → ¬ v2 = 0 → ∃ q ts us, clauseP (CX mem) (SX mem) j = .inr (q, ts, us) ∧ resC m (.inr (q, ts, us)) 1 m2 := by
      intro v2 m2 w g
      cases hc : clauseP (CX mem) (SX mem) j with
      | inl f =>
        rw [hc] at w
        exact absurd w.1 g
      | inr x =>
        obtain ⟨q, ts, us⟩ := x
        rw [hc] at w
        exact ⟨q, ts, us, rfl, rfl, w.2⟩
    refine bk_X3_read_15 (d1 := 0) (d2 := 35) (d3 := 3) (d4 := 2) (P1 := fun _ _ => True) (P2 := resC m (clauseP (CX mem) (SX mem) j))
      (P3 := fun v m' => ∃ q ts us m2, clauseP (CX mem) (SX mem) j = .inr (q, ts, us) ∧ resC m (.inr (q, ts, us)) 1 m2 ∧ ((CX mem (SX mem q) = 59 ∧ v = 1 ∧ m' = cuX (wrX m2 59) (SX mem q + 1)) ∨ (¬ CX mem (SX mem q) = 59 ∧ v = 0 ∧ m' = cuX (wrX m2 59) (SX mem q))))
      (P4 := fun v m' => ∃ q ts us m2, clauseP (CX mem) (SX mem) j = .inr (q, ts, us) ∧ resC m (.inr (q, ts, us)) 1 m2 ∧ ¬ CX mem (SX mem q) = 59 ∧ v = CX mem (SX mem q) ∧ m' = cuX (wrX m2 59) (SX mem q))
      (fun g => absurd g (by omega)) (fun _ => cc) (fun _ v2 m2 w2 g => ?_) (fun _ v2 m2 w2 g v3 m4 w3 g3 => ?_) (fun _ v2 m2 w2 g v3 m4 w3 g3 => ?_) (fun g => absurd g (by omega)) (fun g => absurd g (by omega)) (fun _ v2 m2 w2 g v3 m4 w3 g3 v4 m5 w4 g4 => ?_) (fun _ v2 m2 w2 g v3 m4 w3 g3 v4 m5 w4 g4 => ?_) (fun _ v2 m2 w2 g => ?_) (s1 := ⟨by omega, by omega⟩) (s2 := fun g => absurd g (by omega)) (s3 := fun _ v2 m2 w2 => ?_) (s4 := fun _ v2 m2 w2 g => ?_) (s5 := fun _ v2 m2 w2 g v3 m4 w3 => ?_) (s6 := fun _ v2 m2 w2 g v3 m4 w3 g3 v4 m5 w4 => ?_)
    · obtain ⟨q, ts, us, e, w⟩ := yes w2 g
      obtain ⟨f1, f2, f3, f4, f5, f6⟩ := fact e w
      have tk := s_takes' (wrX m2 59) (lxFr_B f3 hb) (x := 59) (by omega) (by rw [f5, lxFr_1 f3]; omega) ⟨by decide, by decide⟩
      rw [lxFr_C f3, lxFr_S f3, f5] at tk
      exact con.mono tk (fun v m' t => ⟨q, ts, us, m2, e, w, t⟩)
    · obtain ⟨q, ts, us, m2', e, w, t⟩ := w3
      rcases t with ⟨-, t, -⟩ | ⟨t1, -, rfl⟩
      · exact absurd (t.symm.trans g3) (by decide)
      · obtain ⟨f1, f2, f3, f4, f5, f6⟩ := fact e w
        have ge := SX_ge mem q
        have sg := s_sign (wrX m2' 59) (lxFr_B f3 hb) (j := SX mem q) (by omega)
        rw [lxFr_C f3, lxFr_S f3, SX_SX] at sg
        exact con.mono sg (fun v m' s => ⟨q, ts, us, m2', e, w, t1, s⟩)
    · obtain ⟨q, ts, us, m2', e, w, t⟩ := w3
      rcases t with ⟨t1, -, rfl⟩ | ⟨-, t, -⟩
      · obtain ⟨f1, f2, f3, f4, f5, f6⟩ := fact e w
        have ge := SX_ge mem q
        have lt := CX_lt (mem := mem) (j := SX mem q) (by omega)
        have fc := lxFr_trans f3 (lxFr_cu (wrX m2' 59) (SX mem q + 1))
        refine ih R _ (i + 1) (cl0 ++ [(ts, us)]) fc ⟨lxFr_B fc hb, by rw [cuX_at, lxFr_1 fc]; omega, by rw [cuX_at, cuX_ne _ _ (by decide), wrX_8]; rw [wrX_8] at f4; omega⟩ (by rw [cuX_ne _ _ (by decide), cuX_ne _ _ (by decide)]; exact f6) (by rw [cuX_at]; omega) (by rw [cuX_at]; omega) ?_
        rw [cuX_at, hR, lawP_go e t1]
        cases lawP (CX mem) (SX mem) k (SX mem q + 1) with
        | inl z => rfl
        | inr cl =>
          show Sum.inr (cl0 ++ (ts, us) :: cl) = Sum.inr ((cl0 ++ [(ts, us)]) ++ cl)
          rw [List.append_assoc]
          rfl
      · exact absurd t g3
    · obtain ⟨q, ts, us, m2', e, w, t1, rfl, rfl⟩ := w4
      obtain ⟨f1, f2, f3, f4, f5, f6⟩ := fact e w
      rw [hR, lawP_end e t1, if_neg g4]
      exact ⟨cuX_at _ _, lxFr_trans f3 (lxFr_cu _ _)⟩
    · obtain ⟨q, ts, us, m2', e, w, t1, rfl, rfl⟩ := w4
      obtain ⟨f1, f2, f3, f4, f5, f6⟩ := fact e w
      rw [hR, lawP_end e t1, if_pos g4]
      refine ⟨rfl, lxFr_trans f3 (lxFr_cu _ _), ?_, ?_⟩
      · rw [cuX_ne _ _ (by decide), wrX_8]
        omega
      · rw [cuX_ne _ _ (by decide), cuX_ne _ _ (by decide)]
        exact f6
    · cases hc : clauseP (CX mem) (SX mem) j with
      | inl f =>
        rw [hc] at w2
        rw [hR, lawP_bad hc]
        exact ⟨w2.2.2, lxFr_trans fr w2.2.1⟩
      | inr x =>
        obtain ⟨q, ts, us⟩ := x
        rw [hc] at w2
        exact absurd (w2.1.symm.trans g) (by decide)
    · rcases resC_01 w2 with y | y <;> rw [y] <;> exact ⟨by decide, by decide⟩
    · obtain ⟨q, ts, us, e, w⟩ := yes w2 g
      exact (fact e w).1
    · obtain ⟨q, ts, us, m2', e, w, t⟩ := w3
      rcases t with ⟨-, rfl, -⟩ | ⟨-, rfl, -⟩ <;> exact ⟨by decide, by decide⟩
    · obtain ⟨q, ts, us, m2', e, w, t1, rfl, rfl⟩ := w4
      have := CX_rng hb (SX mem q)
      exact ⟨by omega, by omega⟩
theorem c_X3_read (mem : mmM) (hb : bytX mem) : con 0 bX3_read 36 [(2, 8)] mem (lawRX mem (lawP (CX mem) (SX mem) 200 0)) := by
  have hn := hb.1
  obtain ⟨m0, hm⟩ : ∃ m0, m0 = mset (mset mem 1 2 0) 8 2 0 := ⟨_, rfl⟩
  have e12 : m0 1 2 = 0 := by rw [hm, mset_ne (by decide), mset_same]
  have e82 : m0 8 2 = 0 := by rw [hm, mset_same]
  have fr : lxFr mem m0 := by
    rw [hm]
    refine ⟨fun a a1 a8 a9 => by rw [mset_ne a8, mset_ne a1], fun j hj => by rw [mset_ne (by decide), mset_at, if_neg hj], fun j hj => by rw [mset_at, if_neg hj, mset_ne (by decide)]⟩
  refine cn_X3_read (bk_X3_read_0 ?_)
  rw [← hm]
  refine rl_15 mem hb 200 _ m0 0 [] fr ⟨lxFr_B fr hb, by rw [e12, lxFr_1 fr]; omega, by rw [e12, e82]; omega⟩ e82.symm (by rw [e12]; omega) (by rw [e12]; omega) ?_
  rw [e12]
  cases lawP (CX mem) (SX mem) 200 0 <;> rfl
