/-! trials -/
def trT (n : Int) (fg : Int → Int → Int) (tk to len : Int → Int) (mk what seed w : Int) : Prop := ∃ k : Nat, ntEnd n fg tk to mk seed k ∧ w = (if what = 0 then (if ntOut n fg tk to mk seed k = 0 then 1 else 0) else if what = 1 then ntSec len fg tk to mk seed k + 3 * (ntFin n fg tk to mk seed k).2.2.2.1 else (ntFin n fg tk to mk seed k).2.2.1)
def trialP (n : Int) (fg : Int → Int → Int) (tk to len : Int → Int) (mk x1 x2 v : Int) : Prop := (¬ (0 < n ∧ (1 ≤ x1 ∧ x1 ≤ 50) ∧ 0 ≤ x2 ∧ x2 ≤ 2) ∧ v = -1) ∨ ((0 < n ∧ (1 ≤ x1 ∧ x1 ≤ 50) ∧ 0 ≤ x2 ∧ x2 ≤ 2) ∧ ∃ f : Int → Int, (∀ s, 0 ≤ s → s < x1 → trT n fg tk to len mk x2 s (f s)) ∧ v = sumTo f x1.toNat)
theorem trT_unique {n : Int} {fg : Int → Int → Int} {tk to len : Int → Int} {mk what seed w w' : Int} (h : trT n fg tk to len mk what seed w) (h' : trT n fg tk to len mk what seed w') : w = w' := by
  obtain ⟨k, h1, h2⟩ := h
  obtain ⟨k', g1, g2⟩ := h'
  have e := ntEnd_unique h1 g1
  subst e
  rw [h2, g2]
theorem trialP_unique {n : Int} {fg : Int → Int → Int} {tk to len : Int → Int} {mk x1 x2 v v' : Int} (h : trialP n fg tk to len mk x1 x2 v) (h' : trialP n fg tk to len mk x1 x2 v') : v = v' := by
  rcases h with ⟨h1, h2⟩ | ⟨h1, f, h2, h3⟩
  · rcases h' with ⟨g1, g2⟩ | ⟨g1, _⟩
    · rw [h2, g2]
    · exact absurd g1 h1
  · rcases h' with ⟨g1, g2⟩ | ⟨g1, f', g2, g3⟩
    · exact absurd h1 g1
    · rw [h3, g3]
      exact sumTo_congr (fun i i0 i1 => trT_unique (h2 i i0 (by omega)) (g2 i i0 (by omega)))
/-- the two nights end alike -/
theorem ntEnd_congr {n : Int} {fg fg' : Int → Int → Int} {tk tk' to to' len len' : Int → Int} {mk seed : Int} (hn : 0 ≤ n) (hb : ∀ i, 0 ≤ i → i < n → -1 ≤ to i ∧ to i < n) (hf : ∀ s, 0 ≤ s → s < n → fg s (and32 (shr32 mk s) 1) = fg' s (and32 (shr32 mk s) 1)) (ht : ∀ s, 0 ≤ s → s < n → tk s = tk' s) (hto : ∀ s, 0 ≤ s → s < n → to s = to' s) (hl : ∀ s, 0 ≤ s → s < n → len s = len' s) {k : Nat} (h : ntEnd n fg tk to mk seed k) : ntEnd n fg' tk' to' mk seed k ∧ ntOut n fg' tk' to' mk seed k = ntOut n fg tk to mk seed k ∧ ntFin n fg' tk' to' mk seed k = ntFin n fg tk to mk seed k ∧ ntSec len' fg' tk' to' mk seed k = ntSec len fg tk to mk seed k ∧ ∀ i, i < k → ntV fg tk to mk (ntSt fg tk to mk seed i) = ntV fg' tk' to' mk (ntSt fg' tk' to' mk seed i) := by
  have c := ntSt_congr hn hb hf ht hto k h.1
  have cb := ntSt_come (fg := fg) (tk := tk) (mk := mk) (seed := seed) hn hb k h.1
  have out : ntOut n fg' tk' to' mk seed k = ntOut n fg tk to mk seed k := by
    unfold ntOut
    rw [c.1]
  refine ⟨⟨fun i hi => (c.2 i hi).1, fun z => h.2 ?_⟩, out, ?_, ?_, fun i hi => (c.2 i hi).2⟩
  · have cc := ntStep_congr (mk := mk) hf ht hto (ntSt fg tk to mk seed k) ⟨cb.1, by rw [c.1]; exact z.2.1⟩
    refine ⟨z.1, by rw [c.1]; exact z.2.1, ?_⟩
    rw [cc.2, c.1]
    exact z.2.2
  · unfold ntFin
    rw [out]
    by_cases q : ntOut n fg tk to mk seed k = 1
    · rw [if_pos q, if_pos q]
      have hc : (ntSt fg tk to mk seed k).2.1 < n := by
        unfold ntOut at q
        by_cases z : n ≤ (ntSt fg tk to mk seed k).2.1
        · rw [if_pos z] at q
          omega
        · omega
      have cc := ntStep_congr (mk := mk) hf ht hto (ntSt fg tk to mk seed k) ⟨cb.1, hc⟩
      show ntStep fg' tk' to' mk (ntSt fg' tk' to' mk seed k) = ntStep fg tk to mk (ntSt fg tk to mk seed k)
      rw [cc.1, c.1]
    · rw [if_neg q, if_neg q, c.1]
  · refine sumTo_congr (fun i i0 i1 => ?_)
    have q := (c.2 i.toNat (by omega)).2
    have a := h.1 i.toNat (by omega)
    have v := ntV_bnd (fg := fg) (tk := tk) (mk := mk) (seed := seed) hn hb (k := i.toNat) (fun t z => h.1 t (by omega)) a.2.1
    show len' (ntV fg' tk' to' mk (ntSt fg' tk' to' mk seed i.toNat)) = len (ntV fg tk to mk (ntSt fg tk to mk seed i.toNat))
    rw [← q]
    exact (hl _ (by have := a.2.2; omega) v.2).symm
theorem trialP_congr {n : Int} {fg fg' : Int → Int → Int} {tk tk' to to' len len' : Int → Int} {mk x1 x2 v : Int} (hn : 0 ≤ n) (hb : ∀ i, 0 ≤ i → i < n → -1 ≤ to i ∧ to i < n) (hf : ∀ s, 0 ≤ s → s < n → fg s (and32 (shr32 mk s) 1) = fg' s (and32 (shr32 mk s) 1)) (ht : ∀ s, 0 ≤ s → s < n → tk s = tk' s) (hto : ∀ s, 0 ≤ s → s < n → to s = to' s) (hl : ∀ s, 0 ≤ s → s < n → len s = len' s) (h : trialP n fg tk to len mk x1 x2 v) : trialP n fg' tk' to' len' mk x1 x2 v := by
  rcases h with h | ⟨h1, f, h2, h3⟩
  · exact Or.inl h
  · refine Or.inr ⟨h1, f, fun s s0 s1 => ?_, h3⟩
    obtain ⟨k, k1, k2⟩ := h2 s s0 s1
    obtain ⟨e1, e2, e3, e4, -⟩ := ntEnd_congr hn hb hf ht hto hl k1
    exact ⟨k, e1, by rw [e2, e3, e4]; exact k2⟩
theorem cn_X11_trial {d : Nat} {P : Int → mmM → Prop} {mem : mmM} {x1 x2 : Int} (h : mmT bX11_trial d 0 0 (mQ 0 P) 0 [(2, 0), (0, x1), (0, x2), (9, 0), (9, 0)] [] mS mem) : con 0 bX11_trial d [(2, 0), (0, x1), (0, x2)] mem P := mmC_of [(2, 0), (0, x1), (0, x2), (9, 0), (9, 0)] ok_X11_trial.2.2.2.2 rfl (Nat.le_of_ble_eq_true rfl) h
theorem bk_X11_trial_0 {d : Nat} {P : Int → mmM → Prop} {mem : mmM} {x1 x2 : Int}
  (k1 : ¬ (mem 23 1) = 0 → 1 ≤ x1 → x1 ≤ 50 → 0 ≤ x2 → x2 ≤ 2 → mmT bX11_trial d 0 0 (mQ 0 P) 37 [(2, 0), (0, x1), (0, x2), (0, 0), (0, 0)] [] mS mem)
  (q1 : (mem 23 1) = 0 → P (-1) mem)
  (q2 : ¬ (mem 23 1) = 0 → x1 < 1 → P (-1) mem)
  (q3 : ¬ (mem 23 1) = 0 → 1 ≤ x1 → 50 < x1 → P (-1) mem)
  (q4 : ¬ (mem 23 1) = 0 → 1 ≤ x1 → x1 ≤ 50 → x2 < 0 → P (-1) mem)
  (q5 : ¬ (mem 23 1) = 0 → 1 ≤ x1 → x1 ≤ 50 → 0 ≤ x2 → 2 < x2 → P (-1) mem)
  (s1 : ¬ (mem 23 1) = 0 → R32 x1 := by intros; first | omega | assumption | solve_by_elim)
  (s2 : ¬ (mem 23 1) = 0 → 1 ≤ x1 → x1 ≤ 50 → R32 x2 := by intros; first | omega | assumption | solve_by_elim)
  : mmT bX11_trial d 0 0 (mQ 0 P) 0 [(2, 0), (0, x1), (0, x2), (9, 0), (9, 0)] [] mS mem := by
  refine st_aload_n (i := 0) rfl (t := 0) rfl (by decide) dX11_trial_0 ?_
  refine so_getA 0 4 fr_X11_42_10 rfl sh_0 fx_0_4 dX11_trial_1 ?_
  refine so_getI (v := (mem 23 1)) 23 1 fr_X11_135_8 rfl sh_23 rfl dX11_trial_4 (fun r1 => ?_)
  refine sr_if_eq 30 r1 (by decide) dX11_trial_7 (fun h1 => ?_) (fun h1 => ?_)
  · have h1 : (mem 23 1) = 0 := by omega
    refine st_iconst dX11_trial_30 ?_
    exact st_ireturn rfl dX11_trial_31 (mQ.ret (q1 h1))
  · have h1 : ¬ (mem 23 1) = 0 := by omega
    refine st_iload_n (i := 1) rfl rfl dX11_trial_10 ?_
    refine st_iconst dX11_trial_11 ?_
    refine sr_icmp_lt 30 (s1 h1) ⟨by decide, by decide⟩ (by decide) dX11_trial_12 (fun h2 => ?_) (fun h2 => ?_)
    · have h2 : x1 < 1 := by omega
      refine st_iconst dX11_trial_30 ?_
      exact st_ireturn rfl dX11_trial_31 (mQ.ret (q2 h1 h2))
    · have h2 : 1 ≤ x1 := by omega
      refine st_iload_n (i := 1) rfl rfl dX11_trial_15 ?_
      refine st_bipush rfl dX11_trial_16 ?_
      refine sr_icmp_gt 30 (s1 h1) ⟨by decide, by decide⟩ (by decide) dX11_trial_18 (fun h3 => ?_) (fun h3 => ?_)
      · have h3 : 50 < x1 := by omega
        refine st_iconst dX11_trial_30 ?_
        exact st_ireturn rfl dX11_trial_31 (mQ.ret (q3 h1 h2 h3))
      · have h3 : x1 ≤ 50 := by omega
        refine st_iload_n (i := 2) rfl rfl dX11_trial_21 ?_
        refine sr_if_lt 30 (s2 h1 h2 h3) (by decide) dX11_trial_22 (fun h4 => ?_) (fun h4 => ?_)
        · have h4 : x2 < 0 := by omega
          refine st_iconst dX11_trial_30 ?_
          exact st_ireturn rfl dX11_trial_31 (mQ.ret (q4 h1 h2 h3 h4))
        · have h4 : 0 ≤ x2 := by omega
          refine st_iload_n (i := 2) rfl rfl dX11_trial_25 ?_
          refine st_iconst dX11_trial_26 ?_
          refine sr_icmp_le 32 (s2 h1 h2 h3) ⟨by decide, by decide⟩ (by decide) dX11_trial_27 (fun h5 => ?_) (fun h5 => ?_)
          · have h5 : x2 ≤ 2 := by omega
            refine st_iconst dX11_trial_32 ?_
            refine st_istore_n (i := 3) rfl (by decide) (lc' := [(2, 0), (0, x1), (0, x2), (0, 0), (9, 0)]) rfl dX11_trial_33 ?_
            refine st_iconst dX11_trial_34 ?_
            refine st_istore (by decide) (lc' := [(2, 0), (0, x1), (0, x2), (0, 0), (0, 0)]) rfl dX11_trial_35 ?_
            exact st_locals [(2, 0), (0, x1), (0, x2), (0, 0), (0, 0)] ⟨Or.inr rfl, Or.inr rfl, Or.inr rfl, Or.inr rfl, Or.inr rfl, trivial⟩ (k1 h1 h2 h3 h4 h5)
          · have h5 : 2 < x2 := by omega
            refine st_iconst dX11_trial_30 ?_
            exact st_ireturn rfl dX11_trial_31 (mQ.ret (q5 h1 h2 h3 h4 h5))
theorem bk_X11_trial_37 {d : Nat} {d1 : Nat} {P1 : mmM → Prop} {d2 : Nat} {P2 : Int → mmM → Prop} {P : Int → mmM → Prop} {mem : mmM} {x1 x2 x3 x4 : Int}
  (c1 : x4 < x1 → conv bX5_play d1 [(2, 55), (1, x4), (0, (mem 47 0))] mem P1)
  (c2 : x4 < x1 → ∀ (m1 : mmM), P1 m1 → ¬ x2 = 0 → x2 = 1 → con 0 bX5_secondsInAll d2 [(2, 55)] m1 P2)
  (k1 : x4 < x1 → ∀ (m1 : mmM), P1 m1 → x2 = 0 → ¬ (m1 55 5) = 0 → mmT bX11_trial d 0 0 (mQ 0 P) 37 [(2, 0), (0, x1), (0, x2), (0, (x3 + 0)), (0, (x4 + 1))] [] mS m1)
  (k2 : x4 < x1 → ∀ (m1 : mmM), P1 m1 → x2 = 0 → (m1 55 5) = 0 → mmT bX11_trial d 0 0 (mQ 0 P) 37 [(2, 0), (0, x1), (0, x2), (0, (x3 + 1)), (0, (x4 + 1))] [] mS m1)
  (k3 : x4 < x1 → ∀ (m1 : mmM), P1 m1 → ¬ x2 = 0 → x2 = 1 → ∀ (v1 : Int), ∀ (m2 : mmM), P2 v1 m2 → mmT bX11_trial d 0 0 (mQ 0 P) 37 [(2, 0), (0, x1), (0, x2), (0, (x3 + v1)), (0, (x4 + 1))] [] mS m2)
  (k4 : x4 < x1 → ∀ (m1 : mmM), P1 m1 → ¬ x2 = 0 → ¬ x2 = 1 → mmT bX11_trial d 0 0 (mQ 0 P) 37 [(2, 0), (0, x1), (0, x2), (0, (x3 + (m1 55 9))), (0, (x4 + 1))] [] mS m1)
  (q1 : x1 ≤ x4 → P x3 mem)
  (hd_d1 : d1 + 1 ≤ d := by omega)
  (hd_d2 : d2 + 1 ≤ d := by omega)
  (s1 : R32 x4 := by intros; first | omega | assumption | solve_by_elim)
  (s2 : R32 x1 := by intros; first | omega | assumption | solve_by_elim)
  (s3 : x4 < x1 → ∀ (m1 : mmM), P1 m1 → R32 x2 := by intros; first | omega | assumption | solve_by_elim)
  : mmT bX11_trial d 0 0 (mQ 0 P) 37 [(2, 0), (0, x1), (0, x2), (0, x3), (0, x4)] [] mS mem := by
  refine st_iload rfl dX11_trial_37 ?_
  refine st_iload_n (i := 1) rfl rfl dX11_trial_39 ?_
  refine sr_icmp_ge 138 s1 s2 (by decide) dX11_trial_40 (fun h1 => ?_) (fun h1 => ?_)
  · have h1 : x1 ≤ x4 := by omega
    refine st_iload_n (i := 3) rfl rfl dX11_trial_138 ?_
    exact st_ireturn rfl dX11_trial_139 (mQ.ret (q1 h1))
  · have h1 : x4 < x1 := by omega
    refine st_aload_n (i := 0) rfl (t := 0) rfl (by decide) dX11_trial_43 ?_
    refine so_getA 0 9 fr_X11_78_10 rfl sh_0 fx_0_9 dX11_trial_44 ?_
    refine st_iload rfl dX11_trial_47 ?_
    refine sr_i2l s1 dX11_trial_49 ?_
    refine st_aload_n (i := 0) rfl (t := 0) rfl (by decide) dX11_trial_50 ?_
    refine so_getA 0 6 fr_X11_58_10 rfl sh_0 fx_0_6 dX11_trial_51 ?_
    refine so_getI (v := (mem 47 0)) 47 0 fr_X11_188_6 rfl sh_47 rfl dX11_trial_54 (fun r1 => ?_)
    refine st_callV (kc2 := 0) (ks2 := 0) (av := [(1, x4), (0, (mem 47 0))]) 55 5 mr_X11_215 ok_X5_play (c1 h1) rfl sh_55 ⟨_, rfl, rfl, by decide⟩ rfl rfl hd_d1 (Nat.le_refl 0) (Nat.le_refl 0) (Nat.le_of_ble_eq_true rfl) dX11_trial_57 (mQv.elim fun m1 p1 => ?_)
    refine st_iload_n (i := 2) rfl rfl dX11_trial_60 ?_
    by_cases h2 : x2 = 0
    · refine so_look (off := 27) 88 (s3 h1 m1 p1) (by decide) (by rw [h2]; rfl) (by decide) dX11_trial_61 ?_
      refine st_iload_n (i := 3) rfl rfl dX11_trial_88 ?_
      refine st_aload_n (i := 0) rfl (t := 0) rfl (by decide) dX11_trial_89 ?_
      refine so_getA 0 9 fr_X11_78_10 rfl sh_0 fx_0_9 dX11_trial_90 ?_
      refine so_getI (v := (m1 55 5)) 55 5 fr_X11_222_5 rfl sh_55 rfl dX11_trial_93 (fun r2 => ?_)
      refine sr_if_ne 103 r2 (by decide) dX11_trial_96 (fun h3 => ?_) (fun h3 => ?_)
      · have h3 : ¬ (m1 55 5) = 0 := by omega
        refine st_iconst dX11_trial_103 ?_
        refine st_iadd dX11_trial_104 ?_
        refine st_istore_n (i := 3) rfl (by decide) (lc' := [(2, 0), (0, x1), (0, x2), (0, (x3 + 0)), (0, x4)]) rfl dX11_trial_105 ?_
        refine st_goto 132 (by decide) dX11_trial_106 ?_
        refine st_iinc (y := (x4 + 1)) (by decide) (i := 4) rfl rfl (lc' := [(2, 0), (0, x1), (0, x2), (0, (x3 + 0)), (0, (x4 + 1))]) rfl dX11_trial_132 ?_
        refine st_goto 37 (by decide) dX11_trial_135 ?_
        exact st_locals [(2, 0), (0, x1), (0, x2), (0, (x3 + 0)), (0, (x4 + 1))] ⟨Or.inr rfl, Or.inr rfl, Or.inr rfl, Or.inr rfl, Or.inr rfl, trivial⟩ (k1 h1 m1 p1 h2 h3)
      · have h3 : (m1 55 5) = 0 := by omega
        refine st_iconst dX11_trial_99 ?_
        refine st_goto 104 (by decide) dX11_trial_100 ?_
        refine st_iadd dX11_trial_104 ?_
        refine st_istore_n (i := 3) rfl (by decide) (lc' := [(2, 0), (0, x1), (0, x2), (0, (x3 + 1)), (0, x4)]) rfl dX11_trial_105 ?_
        refine st_goto 132 (by decide) dX11_trial_106 ?_
        refine st_iinc (y := (x4 + 1)) (by decide) (i := 4) rfl rfl (lc' := [(2, 0), (0, x1), (0, x2), (0, (x3 + 1)), (0, (x4 + 1))]) rfl dX11_trial_132 ?_
        refine st_goto 37 (by decide) dX11_trial_135 ?_
        exact st_locals [(2, 0), (0, x1), (0, x2), (0, (x3 + 1)), (0, (x4 + 1))] ⟨Or.inr rfl, Or.inr rfl, Or.inr rfl, Or.inr rfl, Or.inr rfl, trivial⟩ (k2 h1 m1 p1 h2 h3)
    by_cases h4 : x2 = 1
    · refine so_look (off := 48) 109 (s3 h1 m1 p1) (by decide) (by rw [h4]; rfl) (by decide) dX11_trial_61 ?_
      refine st_iload_n (i := 3) rfl rfl dX11_trial_109 ?_
      refine st_aload_n (i := 0) rfl (t := 0) rfl (by decide) dX11_trial_110 ?_
      refine so_getA 0 9 fr_X11_78_10 rfl sh_0 fx_0_9 dX11_trial_111 ?_
      refine st_callV (kc2 := 0) (ks2 := 0) (av := []) 55 5 mr_X11_233 ok_X5_secondsInAll (c2 h1 m1 p1 h2 h4) rfl sh_55 ⟨_, rfl, rfl, by decide⟩ rfl rfl hd_d2 (Nat.le_refl 0) (Nat.le_refl 0) (Nat.le_of_ble_eq_true rfl) dX11_trial_114 (mQ.elim fun v1 m2 p2 => ?_)
      refine st_iadd dX11_trial_117 ?_
      refine st_istore_n (i := 3) rfl (by decide) (lc' := [(2, 0), (0, x1), (0, x2), (0, (x3 + v1)), (0, x4)]) rfl dX11_trial_118 ?_
      refine st_goto 132 (by decide) dX11_trial_119 ?_
      refine st_iinc (y := (x4 + 1)) (by decide) (i := 4) rfl rfl (lc' := [(2, 0), (0, x1), (0, x2), (0, (x3 + v1)), (0, (x4 + 1))]) rfl dX11_trial_132 ?_
      refine st_goto 37 (by decide) dX11_trial_135 ?_
      exact st_locals [(2, 0), (0, x1), (0, x2), (0, (x3 + v1)), (0, (x4 + 1))] ⟨Or.inr rfl, Or.inr rfl, Or.inr rfl, Or.inr rfl, Or.inr rfl, trivial⟩ (k3 h1 m1 p1 h2 h4 v1 m2 p2)
    refine so_look (off := 61) 122 (s3 h1 m1 p1) (by decide) (by simp [Op.lookupswitch.offset, Ne.symm h2, Ne.symm h4]) (by decide) dX11_trial_61 ?_
    refine st_iload_n (i := 3) rfl rfl dX11_trial_122 ?_
    refine st_aload_n (i := 0) rfl (t := 0) rfl (by decide) dX11_trial_123 ?_
    refine so_getA 0 9 fr_X11_78_10 rfl sh_0 fx_0_9 dX11_trial_124 ?_
    refine so_getI (v := (m1 55 9)) 55 9 fr_X11_227_5 rfl sh_55 rfl dX11_trial_127 (fun r3 => ?_)
    refine st_iadd dX11_trial_130 ?_
    refine st_istore_n (i := 3) rfl (by decide) (lc' := [(2, 0), (0, x1), (0, x2), (0, (x3 + (m1 55 9))), (0, x4)]) rfl dX11_trial_131 ?_
    refine st_iinc (y := (x4 + 1)) (by decide) (i := 4) rfl rfl (lc' := [(2, 0), (0, x1), (0, x2), (0, (x3 + (m1 55 9))), (0, (x4 + 1))]) rfl dX11_trial_132 ?_
    refine st_goto 37 (by decide) dX11_trial_135 ?_
    exact st_locals [(2, 0), (0, x1), (0, x2), (0, (x3 + (m1 55 9))), (0, (x4 + 1))] ⟨Or.inr rfl, Or.inr rfl, Or.inr rfl, Or.inr rfl, Or.inr rfl, trivial⟩ (k4 h1 m1 p1 h2 h4)
theorem c_X5_secondsInAll_55 (mem : mmM) : con 0 bX5_secondsInAll 0 [(2, 55)] mem (fun v m => v = mem 55 4 + 3 * mem 55 10 ∧ m = mem) := cn_X5_secondsInAll_55 (bk_X5_secondsInAll_55_0 ⟨rfl, rfl⟩)
def trFr (mem m : mmM) : Prop := ∀ a, a ≠ 55 → a ≠ 56 → a ≠ 57 → m a = mem a
theorem c_X11_trial (mem : mmM) (x1 x2 : Int) (h1 : R32 x1) (h2 : R32 x2) (hp : nightP mem) (hm : R32 (mem 47 0)) : con 0 bX11_trial 6 [(2, 0), (0, x1), (0, x2)] mem (fun v m => trialP (mem 23 1) (forgetsX mem) (takeX mem) (mem 38) (mem 26) (mem 47 0) x1 x2 v ∧ trFr mem m) := by
  have hn := hp.1.1
  have no : trFr mem mem := fun _ _ _ _ => rfl
  refine cn_X11_trial (bk_X11_trial_0 (fun g g2 g3 g4 g5 => ?_) (fun g => ⟨Or.inl ⟨by omega, rfl⟩, no⟩) (fun g g2 => ⟨Or.inl ⟨by omega, rfl⟩, no⟩) (fun g g2 g3 => ⟨Or.inl ⟨by omega, rfl⟩, no⟩) (fun g g2 g3 g4 => ⟨Or.inl ⟨by omega, rfl⟩, no⟩) (fun g g2 g3 g4 g5 => ⟨Or.inl ⟨by omega, rfl⟩, no⟩))
  refine loop_up (n := x1) (fun i => ∀ (m : mmM) (acc : Int) (f : Int → Int), trFr mem m → (∀ s, 0 ≤ s → s < i → trT (mem 23 1) (forgetsX mem) (takeX mem) (mem 38) (mem 26) (mem 47 0) x2 s (f s)) → acc = sumTo f i.toNat → mmT bX11_trial 6 0 0 (mQ 0 (fun v m => trialP (mem 23 1) (forgetsX mem) (takeX mem) (mem 38) (mem 26) (mem 47 0) x1 x2 v ∧ trFr mem m)) 37 [(2, 0), (0, x1), (0, x2), (0, acc), (0, i)] [] mS m) (fun i i0 i1 ih m acc f fr hf ha => ?_) 0 (by omega) (by omega) mem 0 (fun _ => 0) no (fun s s0 s1 => by omega) rfl
  have e23 : m 23 = mem 23 := fr 23 (by decide) (by decide) (by decide)
  have e47 : m 47 = mem 47 := fr 47 (by decide) (by decide) (by decide)
  have e38 : m 38 = mem 38 := fr 38 (by decide) (by decide) (by decide)
  have e26 : m 26 = mem 26 := fr 26 (by decide) (by decide) (by decide)
  have e24 : m 24 = mem 24 := fr 24 (by decide) (by decide) (by decide)
  have ef : forgetsX m = forgetsX mem := by
    funext a b
    unfold forgetsX
    rw [e23, fr 31 (by decide) (by decide) (by decide), fr 32 (by decide) (by decide) (by decide)]
  have et : takeX m = takeX mem := by
    funext a
    unfold takeX
    rw [e23, fr 37 (by decide) (by decide) (by decide), e24]
  have hp' : nightP m := by
    unfold nightP playX
    rw [ef, et, e23, e24, e26, e38]
    exact hp
  have nx : ∀ (m' : mmM) (w : Int), i < x1 → trFr mem m' → trT (mem 23 1) (forgetsX mem) (takeX mem) (mem 38) (mem 26) (mem 47 0) x2 i w → mmT bX11_trial 6 0 0 (mQ 0 (fun v m => trialP (mem 23 1) (forgetsX mem) (takeX mem) (mem 38) (mem 26) (mem 47 0) x1 x2 v ∧ trFr mem m)) 37 [(2, 0), (0, x1), (0, x2), (0, acc + w), (0, i + 1)] [] mS m' := by
    intro m' w g fr' hw
    refine ih g m' _ (updF f i w) fr' (fun s s0 s1 => ?_) ?_
    · unfold updF
      split
      · rename_i e
        rw [e]
        exact hw
      · exact hf s s0 (by omega)
    · rw [show (i + 1).toNat = i.toNat + 1 by omega]
      show acc + w = sumTo (updF f i w) i.toNat + updF f i w ((i.toNat : Nat) : Int)
      rw [sumTo_updOut _ _ _ _ (by omega), ← ha, show ((i.toNat : Nat) : Int) = i by omega, updF_same]
  refine bk_X11_trial_37 (d1 := 5) (d2 := 0) (P1 := fun m' => ∃ k : Nat, ntEnd (mem 23 1) (forgetsX mem) (takeX mem) (mem 38) (mem 47 0) i k ∧ trFr mem m' ∧ m' 55 5 = ntOut (mem 23 1) (forgetsX mem) (takeX mem) (mem 38) (mem 47 0) i k ∧ m' 55 4 = ntSec (mem 26) (forgetsX mem) (takeX mem) (mem 38) (mem 47 0) i k ∧ m' 55 10 = (ntFin (mem 23 1) (forgetsX mem) (takeX mem) (mem 38) (mem 47 0) i k).2.2.2.1 ∧ m' 55 9 = (ntFin (mem 23 1) (forgetsX mem) (takeX mem) (mem 38) (mem 47 0) i k).2.2.1) (P2 := fun v m' => (∃ k : Nat, ntEnd (mem 23 1) (forgetsX mem) (takeX mem) (mem 38) (mem 47 0) i k ∧ v = ntSec (mem 26) (forgetsX mem) (takeX mem) (mem 38) (mem 47 0) i k + 3 * (ntFin (mem 23 1) (forgetsX mem) (takeX mem) (mem 38) (mem 47 0) i k).2.2.2.1) ∧ trFr mem m') (fun g => ?_) (fun g m1 w g2 g3 => ?_) (fun g m1 w g2 g3 => ?_) (fun g m1 w g2 g3 => ?_) (fun g m1 w g2 g3 v m2 w2 => ?_) (fun g m1 w g2 g3 => ?_) (fun g => ⟨Or.inr ⟨by omega, f, fun s s0 s1 => hf s s0 (by omega), by rw [ha, show i = x1 by omega]⟩, fr⟩)
  · have c := c_X5_play_55 m i (m 47 0) hp' (by omega) (by rw [e47]; exact hm)
    refine conv.mono c (fun m' w => ?_)
    obtain ⟨k, w1, w2, w3, w4⟩ := w
    rw [ef, et, e23, e38, e47] at w1 w3 w4
    unfold ntXI_55 at w2
    rw [ef, et, e38, e26, e47] at w2
    exact ⟨k, w1, fun a a1 a2 a3 => (w2.1 a a1 a3 a2).trans (fr a a1 a2 a3), w4, w2.2.2, w3.2.2.1, w3.2.1⟩
  · obtain ⟨k, w1, w2, w3, w4, w5, w6⟩ := w
    have c := c_X5_secondsInAll_55 m1
    exact con.mono c (fun v m' q => ⟨⟨k, w1, by rw [q.1, w4, w5]⟩, by rw [q.2]; exact w2⟩)
  · obtain ⟨k, w1, w2, w3, w4, w5, w6⟩ := w
    refine nx m1 0 g w2 ⟨k, w1, ?_⟩
    rw [if_pos g2, if_neg (by rw [← w3]; exact g3)]
  · obtain ⟨k, w1, w2, w3, w4, w5, w6⟩ := w
    refine nx m1 1 g w2 ⟨k, w1, ?_⟩
    rw [if_pos g2, if_pos (by rw [← w3]; exact g3)]
  · obtain ⟨⟨k, w1, w4⟩, w5⟩ := w2
    refine nx m2 v g w5 ⟨k, w1, ?_⟩
    rw [if_neg g2, if_pos g3]
    exact w4
  · obtain ⟨k, w1, w2, w3, w4, w5, w6⟩ := w
    refine nx m1 _ g w2 ⟨k, w1, ?_⟩
    rw [if_neg g2, if_neg g3]
    exact w6