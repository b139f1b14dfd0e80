/-! SPEECH told of a SPEECH of the PLAY -/
theorem cn_X11_speech {d : Nat} {P : Int → mmM → Prop} {mem : mmM} {x1 x2 : Int} (h : mmT bX11_speech d 0 0 (mQ 0 P) 0 [(2, 0), (0, x1), (0, x2)] [] mS mem) : con 0 bX11_speech d [(2, 0), (0, x1), (0, x2)] mem P := mmC_of [(2, 0), (0, x1), (0, x2)] ok_X11_speech.2.2.2.2 rfl (Nat.le_of_ble_eq_true rfl) h
theorem bk_X11_speech_0 {d : Nat} {P : Int → mmM → Prop} {mem : mmM} {x1 x2 : Int}
  (k1 : ¬ (0 ≤ x1 ∧ x1 < (mem 23 1)) → mmT bX11_speech d 0 0 (mQ 0 P) 21 [(9, 0), (9, 0), (9, 0)] [] mS mem)
  (k2 : (0 ≤ x1 ∧ x1 < (mem 23 1)) → x2 < 0 → mmT bX11_speech d 0 0 (mQ 0 P) 21 [(9, 0), (9, 0), (9, 0)] [] mS mem)
  (k3 : (0 ≤ x1 ∧ x1 < (mem 23 1)) → 0 ≤ x2 → 9 < x2 → mmT bX11_speech d 0 0 (mQ 0 P) 21 [(9, 0), (9, 0), (9, 0)] [] mS mem)
  (q1 : (0 ≤ x1 ∧ x1 < (mem 23 1)) → 0 ≤ x2 → x2 ≤ 9 → x2 = 0 → P (mem 24 x1) mem)
  (q2 : (0 ≤ x1 ∧ x1 < (mem 23 1)) → 0 ≤ x2 → x2 ≤ 9 → ¬ x2 = 0 → x2 = 1 → P (mem 25 x1) mem)
  (q3 : (0 ≤ x1 ∧ x1 < (mem 23 1)) → 0 ≤ x2 → x2 ≤ 9 → ¬ x2 = 0 → ¬ x2 = 1 → x2 = 2 → P (mem 26 x1) mem)
  (q4 : (0 ≤ x1 ∧ x1 < (mem 23 1)) → 0 ≤ x2 → x2 ≤ 9 → ¬ x2 = 0 → ¬ x2 = 1 → ¬ x2 = 2 → x2 = 3 → P (mem 28 x1) mem)
  (q5 : (0 ≤ x1 ∧ x1 < (mem 23 1)) → 0 ≤ x2 → x2 ≤ 9 → ¬ x2 = 0 → ¬ x2 = 1 → ¬ x2 = 2 → ¬ x2 = 3 → x2 = 4 → P (mem 29 x1) mem)
  (q6 : (0 ≤ x1 ∧ x1 < (mem 23 1)) → 0 ≤ x2 → x2 ≤ 9 → ¬ x2 = 0 → ¬ x2 = 1 → ¬ x2 = 2 → ¬ x2 = 3 → ¬ x2 = 4 → x2 = 5 → P (mem 30 x1) mem)
  (q7 : (0 ≤ x1 ∧ x1 < (mem 23 1)) → 0 ≤ x2 → x2 ≤ 9 → ¬ x2 = 0 → ¬ x2 = 1 → ¬ x2 = 2 → ¬ x2 = 3 → ¬ x2 = 4 → ¬ x2 = 5 → x2 = 6 → ¬ (and32 (shr32 (mem 47 0) x1) 1 = 1) → P 0 mem)
  (q8 : (0 ≤ x1 ∧ x1 < (mem 23 1)) → 0 ≤ x2 → x2 ≤ 9 → ¬ x2 = 0 → ¬ x2 = 1 → ¬ x2 = 2 → ¬ x2 = 3 → ¬ x2 = 4 → ¬ x2 = 5 → x2 = 6 → (and32 (shr32 (mem 47 0) x1) 1 = 1) → P 1 mem)
  (q9 : (0 ≤ x1 ∧ x1 < (mem 23 1)) → 0 ≤ x2 → x2 ≤ 9 → ¬ x2 = 0 → ¬ x2 = 1 → ¬ x2 = 2 → ¬ x2 = 3 → ¬ x2 = 4 → ¬ x2 = 5 → ¬ x2 = 6 → x2 = 7 → P (forgetsX mem x1 (b2i (and32 (shr32 (mem 47 0) x1) 1 = 1))) mem)
  (q10 : (0 ≤ x1 ∧ x1 < (mem 23 1)) → 0 ≤ x2 → x2 ≤ 9 → ¬ x2 = 0 → ¬ x2 = 1 → ¬ x2 = 2 → ¬ x2 = 3 → ¬ x2 = 4 → ¬ x2 = 5 → ¬ x2 = 6 → ¬ x2 = 7 → x2 = 8 → P (mem 27 x1) mem)
  (q11 : (0 ≤ x1 ∧ x1 < (mem 23 1)) → 0 ≤ x2 → x2 ≤ 9 → ¬ x2 = 0 → ¬ x2 = 1 → ¬ x2 = 2 → ¬ x2 = 3 → ¬ x2 = 4 → ¬ x2 = 5 → ¬ x2 = 6 → ¬ x2 = 7 → ¬ x2 = 8 → P (mem 48 x1) mem)
  (hd2 : 2 ≤ d := by omega)
  (hd3 : 3 ≤ d := by omega)
  (s1 : R32 x1 := by intros; first | omega | assumption | solve_by_elim)
  (s2 : (0 ≤ x1 ∧ x1 < (mem 23 1)) → R32 x2 := by intros; first | omega | assumption | solve_by_elim)
  (s3 : (0 ≤ x1 ∧ x1 < (mem 23 1)) → 0 ≤ x2 → x2 ≤ 9 → x2 = 0 → 0 ≤ x1 ∧ x1 < 24 := by intros; first | omega | assumption | solve_by_elim)
  (s4 : (0 ≤ x1 ∧ x1 < (mem 23 1)) → 0 ≤ x2 → x2 ≤ 9 → ¬ x2 = 0 → x2 = 1 → 0 ≤ x1 ∧ x1 < 24 := by intros; first | omega | assumption | solve_by_elim)
  (s5 : (0 ≤ x1 ∧ x1 < (mem 23 1)) → 0 ≤ x2 → x2 ≤ 9 → ¬ x2 = 0 → ¬ x2 = 1 → x2 = 2 → 0 ≤ x1 ∧ x1 < 24 := by intros; first | omega | assumption | solve_by_elim)
  (s6 : (0 ≤ x1 ∧ x1 < (mem 23 1)) → 0 ≤ x2 → x2 ≤ 9 → ¬ x2 = 0 → ¬ x2 = 1 → ¬ x2 = 2 → x2 = 3 → 0 ≤ x1 ∧ x1 < 24 := by intros; first | omega | assumption | solve_by_elim)
  (s7 : (0 ≤ x1 ∧ x1 < (mem 23 1)) → 0 ≤ x2 → x2 ≤ 9 → ¬ x2 = 0 → ¬ x2 = 1 → ¬ x2 = 2 → ¬ x2 = 3 → x2 = 4 → 0 ≤ x1 ∧ x1 < 24 := by intros; first | omega | assumption | solve_by_elim)
  (s8 : (0 ≤ x1 ∧ x1 < (mem 23 1)) → 0 ≤ x2 → x2 ≤ 9 → ¬ x2 = 0 → ¬ x2 = 1 → ¬ x2 = 2 → ¬ x2 = 3 → ¬ x2 = 4 → x2 = 5 → 0 ≤ x1 ∧ x1 < 24 := by intros; first | omega | assumption | solve_by_elim)
  (s9 : (0 ≤ x1 ∧ x1 < (mem 23 1)) → 0 ≤ x2 → x2 ≤ 9 → ¬ x2 = 0 → ¬ x2 = 1 → ¬ x2 = 2 → ¬ x2 = 3 → ¬ x2 = 4 → ¬ x2 = 5 → ¬ x2 = 6 → x2 = 7 → 0 ≤ (mem 23 1) ∧ (mem 23 1) ≤ 24 := by intros; first | omega | assumption | solve_by_elim)
  (s10 : (0 ≤ x1 ∧ x1 < (mem 23 1)) → 0 ≤ x2 → x2 ≤ 9 → ¬ x2 = 0 → ¬ x2 = 1 → ¬ x2 = 2 → ¬ x2 = 3 → ¬ x2 = 4 → ¬ x2 = 5 → ¬ x2 = 6 → ¬ x2 = 7 → x2 = 8 → 0 ≤ x1 ∧ x1 < 24 := by intros; first | omega | assumption | solve_by_elim)
  (s11 : (0 ≤ x1 ∧ x1 < (mem 23 1)) → 0 ≤ x2 → x2 ≤ 9 → ¬ x2 = 0 → ¬ x2 = 1 → ¬ x2 = 2 → ¬ x2 = 3 → ¬ x2 = 4 → ¬ x2 = 5 → ¬ x2 = 6 → ¬ x2 = 7 → ¬ x2 = 8 → 0 ≤ x1 ∧ x1 < 24 := by intros; first | omega | assumption | solve_by_elim)
  : mmT bX11_speech d 0 0 (mQ 0 P) 0 [(2, 0), (0, x1), (0, x2)] [] mS mem := by
  refine st_aload_n (i := 0) rfl (t := 0) rfl (by decide) dX11_speech_0 ?_
  refine so_getA 0 4 fr_X11_42_10 rfl sh_0 fx_0_4 dX11_speech_1 ?_
  refine st_iload_n (i := 1) rfl rfl dX11_speech_4 ?_
  refine st_callV (kc2 := 0) (ks2 := 0) (av := [(0, x1)]) 23 8 mr_X11_136 ok_X8_has (c_X8_has mem x1 (s1)) rfl sh_23 ⟨_, rfl, rfl, by decide⟩ rfl rfl hd2 (Nat.le_refl 0) (Nat.le_refl 0) (Nat.le_of_ble_eq_true rfl) dX11_speech_5 (mQ.elim fun v1 m1 hp => ?_)
  obtain ⟨hpv, hpm⟩ := hp
  subst hpv
  have hpm := hpm.symm
  subst hpm
  refine so_ifeqB 21 (by decide) dX11_speech_8 (fun h1 => ?_) (fun h1 => ?_)
  · have h1 : ¬ (0 ≤ x1 ∧ x1 < (mem 23 1)) := h1
    exact st_locals [(9, 0), (9, 0), (9, 0)] ⟨Or.inl rfl, Or.inl rfl, Or.inl rfl, trivial⟩ (k1 h1)
  · have h1 : (0 ≤ x1 ∧ x1 < (mem 23 1)) := h1
    refine st_iload_n (i := 2) rfl rfl dX11_speech_11 ?_
    refine sr_if_lt 21 (s2 h1) (by decide) dX11_speech_12 (fun h2 => ?_) (fun h2 => ?_)
    · have h2 : x2 < 0 := by omega
      exact st_locals [(9, 0), (9, 0), (9, 0)] ⟨Or.inl rfl, Or.inl rfl, Or.inl rfl, trivial⟩ (k2 h1 h2)
    · have h2 : 0 ≤ x2 := by omega
      refine st_iload_n (i := 2) rfl rfl dX11_speech_15 ?_
      refine st_bipush rfl dX11_speech_16 ?_
      refine sr_icmp_le 31 (s2 h1) ⟨by decide, by decide⟩ (by decide) dX11_speech_18 (fun h3 => ?_) (fun h3 => ?_)
      · have h3 : x2 ≤ 9 := by omega
        refine st_iload_n (i := 2) rfl rfl dX11_speech_31 ?_
        by_cases h4 : x2 = 0
        · refine so_tabI 84 (s2 h1) 0 h4 (by decide) (by decide) rfl (by decide) dX11_speech_32 ?_
          refine st_aload_n (i := 0) rfl (t := 0) rfl (by decide) dX11_speech_84 ?_
          refine so_getA 0 4 fr_X11_42_10 rfl sh_0 fx_0_4 dX11_speech_85 ?_
          refine so_getA 23 2 fr_X11_147_8 rfl sh_23 fx_23_2 dX11_speech_88 ?_
          refine st_iload_n (i := 1) rfl rfl dX11_speech_91 ?_
          refine so_iald (v := (mem 24 x1)) 24 rfl sh_24 (by decide) (s3 h1 h2 h3 h4) rfl dX11_speech_92 (fun r1 => ?_)
          exact st_ireturn rfl dX11_speech_93 (mQ.ret (q1 h1 h2 h3 h4))
        by_cases h5 : x2 = 1
        · refine so_tabI 94 (s2 h1) 1 h5 (by decide) (by decide) rfl (by decide) dX11_speech_32 ?_
          refine st_aload_n (i := 0) rfl (t := 0) rfl (by decide) dX11_speech_94 ?_
          refine so_getA 0 4 fr_X11_42_10 rfl sh_0 fx_0_4 dX11_speech_95 ?_
          refine so_getA 23 3 fr_X11_151_8 rfl sh_23 fx_23_3 dX11_speech_98 ?_
          refine st_iload_n (i := 1) rfl rfl dX11_speech_101 ?_
          refine so_iald (v := (mem 25 x1)) 25 rfl sh_25 (by decide) (s4 h1 h2 h3 h4 h5) rfl dX11_speech_102 (fun r2 => ?_)
          exact st_ireturn rfl dX11_speech_103 (mQ.ret (q2 h1 h2 h3 h4 h5))
        by_cases h6 : x2 = 2
        · refine so_tabI 104 (s2 h1) 2 h6 (by decide) (by decide) rfl (by decide) dX11_speech_32 ?_
          refine st_aload_n (i := 0) rfl (t := 0) rfl (by decide) dX11_speech_104 ?_
          refine so_getA 0 4 fr_X11_42_10 rfl sh_0 fx_0_4 dX11_speech_105 ?_
          refine so_getA 23 4 fr_X11_154_8 rfl sh_23 fx_23_4 dX11_speech_108 ?_
          refine st_iload_n (i := 1) rfl rfl dX11_speech_111 ?_
          refine so_iald (v := (mem 26 x1)) 26 rfl sh_26 (by decide) (s5 h1 h2 h3 h4 h5 h6) rfl dX11_speech_112 (fun r3 => ?_)
          exact st_ireturn rfl dX11_speech_113 (mQ.ret (q3 h1 h2 h3 h4 h5 h6))
        by_cases h7 : x2 = 3
        · refine so_tabI 114 (s2 h1) 3 h7 (by decide) (by decide) rfl (by decide) dX11_speech_32 ?_
          refine st_aload_n (i := 0) rfl (t := 0) rfl (by decide) dX11_speech_114 ?_
          refine so_getA 0 4 fr_X11_42_10 rfl sh_0 fx_0_4 dX11_speech_115 ?_
          refine so_getA 23 6 fr_X11_157_8 rfl sh_23 fx_23_6 dX11_speech_118 ?_
          refine st_iload_n (i := 1) rfl rfl dX11_speech_121 ?_
          refine so_iald (v := (mem 28 x1)) 28 rfl sh_28 (by decide) (s6 h1 h2 h3 h4 h5 h6 h7) rfl dX11_speech_122 (fun r4 => ?_)
          exact st_ireturn rfl dX11_speech_123 (mQ.ret (q4 h1 h2 h3 h4 h5 h6 h7))
        by_cases h8 : x2 = 4
        · refine so_tabI 124 (s2 h1) 4 h8 (by decide) (by decide) rfl (by decide) dX11_speech_32 ?_
          refine st_aload_n (i := 0) rfl (t := 0) rfl (by decide) dX11_speech_124 ?_
          refine so_getA 0 4 fr_X11_42_10 rfl sh_0 fx_0_4 dX11_speech_125 ?_
          refine so_getA 23 7 fr_X11_160_8 rfl sh_23 fx_23_7 dX11_speech_128 ?_
          refine st_iload_n (i := 1) rfl rfl dX11_speech_131 ?_
          refine so_iald (v := (mem 29 x1)) 29 rfl sh_29 (by decide) (s7 h1 h2 h3 h4 h5 h6 h7 h8) rfl dX11_speech_132 (fun r5 => ?_)
          exact st_ireturn rfl dX11_speech_133 (mQ.ret (q5 h1 h2 h3 h4 h5 h6 h7 h8))
        by_cases h9 : x2 = 5
        · refine so_tabI 134 (s2 h1) 5 h9 (by decide) (by decide) rfl (by decide) dX11_speech_32 ?_
          refine st_aload_n (i := 0) rfl (t := 0) rfl (by decide) dX11_speech_134 ?_
          refine so_getA 0 4 fr_X11_42_10 rfl sh_0 fx_0_4 dX11_speech_135 ?_
          refine so_getA 23 8 fr_X11_163_8 rfl sh_23 fx_23_8 dX11_speech_138 ?_
          refine st_iload_n (i := 1) rfl rfl dX11_speech_141 ?_
          refine so_iald (v := (mem 30 x1)) 30 rfl sh_30 (by decide) (s8 h1 h2 h3 h4 h5 h6 h7 h8 h9) rfl dX11_speech_142 (fun r6 => ?_)
          exact st_ireturn rfl dX11_speech_143 (mQ.ret (q6 h1 h2 h3 h4 h5 h6 h7 h8 h9))
        by_cases h10 : x2 = 6
        · refine so_tabI 144 (s2 h1) 6 h10 (by decide) (by decide) rfl (by decide) dX11_speech_32 ?_
          refine st_aload_n (i := 0) rfl (t := 0) rfl (by decide) dX11_speech_144 ?_
          refine so_getA 0 6 fr_X11_58_10 rfl sh_0 fx_0_6 dX11_speech_145 ?_
          refine st_iload_n (i := 1) rfl rfl dX11_speech_148 ?_
          refine st_callV (kc2 := 0) (ks2 := 0) (av := [(0, x1)]) 47 6 mr_X11_166 ok_X6_isMarked (c_X6_isMarked mem x1 ) rfl sh_47 ⟨_, rfl, rfl, by decide⟩ rfl rfl hd2 (Nat.le_refl 0) (Nat.le_refl 0) (Nat.le_of_ble_eq_true rfl) dX11_speech_149 (mQ.elim fun v2 m2 hp => ?_)
          obtain ⟨hpv, hpm⟩ := hp
          subst hpv
          have hpm := hpm.symm
          subst hpm
          refine so_ifeqB 159 (by decide) dX11_speech_152 (fun h11 => ?_) (fun h11 => ?_)
          · have h11 : ¬ (and32 (shr32 (mem 47 0) x1) 1 = 1) := h11
            refine st_iconst dX11_speech_159 ?_
            exact st_ireturn rfl dX11_speech_160 (mQ.ret (q7 h1 h2 h3 h4 h5 h6 h7 h8 h9 h10 h11))
          · have h11 : (and32 (shr32 (mem 47 0) x1) 1 = 1) := h11
            refine st_iconst dX11_speech_155 ?_
            refine st_goto 160 (by decide) dX11_speech_156 ?_
            exact st_ireturn rfl dX11_speech_160 (mQ.ret (q8 h1 h2 h3 h4 h5 h6 h7 h8 h9 h10 h11))
        by_cases h12 : x2 = 7
        · refine so_tabI 161 (s2 h1) 7 h12 (by decide) (by decide) rfl (by decide) dX11_speech_32 ?_
          refine st_aload_n (i := 0) rfl (t := 0) rfl (by decide) dX11_speech_161 ?_
          refine so_getA 0 4 fr_X11_42_10 rfl sh_0 fx_0_4 dX11_speech_162 ?_
          refine st_iload_n (i := 1) rfl rfl dX11_speech_165 ?_
          refine st_aload_n (i := 0) rfl (t := 0) rfl (by decide) dX11_speech_166 ?_
          refine so_getA 0 6 fr_X11_58_10 rfl sh_0 fx_0_6 dX11_speech_167 ?_
          refine st_iload_n (i := 1) rfl rfl dX11_speech_170 ?_
          refine st_callV (kc2 := 0) (ks2 := 0) (av := [(0, x1)]) 47 6 mr_X11_166 ok_X6_isMarked (c_X6_isMarked mem x1 ) rfl sh_47 ⟨_, rfl, rfl, by decide⟩ rfl rfl hd2 (Nat.le_refl 0) (Nat.le_refl 0) (Nat.le_of_ble_eq_true rfl) dX11_speech_171 (mQ.elim fun v3 m3 hp => ?_)
          obtain ⟨hpv, hpm⟩ := hp
          subst hpv
          have hpm := hpm.symm
          subst hpm
          refine st_callV (kc2 := 0) (ks2 := 0) (av := [(0, x1), (0, (b2i (and32 (shr32 (mem 47 0) x1) 1 = 1)))]) 23 8 mr_X11_169 ok_X8_forgets (c_X8_forgets mem x1 (b2i (and32 (shr32 (mem 47 0) x1) 1 = 1)) (s1) ((by have := b2i_rng (and32 (shr32 (mem 47 0) x1) 1 = 1); omega)) ((s9 h1 h2 h3 h4 h5 h6 h7 h8 h9 h10 h12))) rfl sh_23 ⟨_, rfl, rfl, by decide⟩ rfl rfl hd3 (Nat.le_refl 0) (Nat.le_refl 0) (Nat.le_of_ble_eq_true rfl) dX11_speech_174 (mQ.elim fun v4 m4 hp => ?_)
          obtain ⟨hpv, hpm⟩ := hp
          subst hpv
          have hpm := hpm.symm
          subst hpm
          exact st_ireturn rfl dX11_speech_177 (mQ.ret (q9 h1 h2 h3 h4 h5 h6 h7 h8 h9 h10 h12))
        by_cases h13 : x2 = 8
        · refine so_tabI 178 (s2 h1) 8 h13 (by decide) (by decide) rfl (by decide) dX11_speech_32 ?_
          refine st_aload_n (i := 0) rfl (t := 0) rfl (by decide) dX11_speech_178 ?_
          refine so_getA 0 4 fr_X11_42_10 rfl sh_0 fx_0_4 dX11_speech_179 ?_
          refine so_getA 23 5 fr_X11_173_8 rfl sh_23 fx_23_5 dX11_speech_182 ?_
          refine st_iload_n (i := 1) rfl rfl dX11_speech_185 ?_
          refine so_iald (v := (mem 27 x1)) 27 rfl sh_27 (by decide) (s10 h1 h2 h3 h4 h5 h6 h7 h8 h9 h10 h12 h13) rfl dX11_speech_186 (fun r7 => ?_)
          exact st_ireturn rfl dX11_speech_187 (mQ.ret (q10 h1 h2 h3 h4 h5 h6 h7 h8 h9 h10 h12 h13))
        refine so_tabO 188 (s2 h1) (by omega) (by decide) dX11_speech_32 ?_
        refine st_aload_n (i := 0) rfl (t := 0) rfl (by decide) dX11_speech_188 ?_
        refine so_getA 0 6 fr_X11_58_10 rfl sh_0 fx_0_6 dX11_speech_189 ?_
        refine so_getA 47 3 fr_X11_176_6 rfl sh_47 fx_47_3 dX11_speech_192 ?_
        refine st_iload_n (i := 1) rfl rfl dX11_speech_195 ?_
        refine so_iald (v := (mem 48 x1)) 48 rfl sh_48 (by decide) (s11 h1 h2 h3 h4 h5 h6 h7 h8 h9 h10 h12 h13) rfl dX11_speech_196 (fun r8 => ?_)
        exact st_ireturn rfl dX11_speech_197 (mQ.ret (q11 h1 h2 h3 h4 h5 h6 h7 h8 h9 h10 h12 h13))
      · have h3 : 9 < x2 := by omega
        exact st_locals [(9, 0), (9, 0), (9, 0)] ⟨Or.inl rfl, Or.inl rfl, Or.inl rfl, trivial⟩ (k3 h1 h2 h3)
def tellX (mem : mmM) (x y : Int) : Int := if y = 0 then mem 24 x else if y = 1 then mem 25 x else if y = 2 then mem 26 x else if y = 3 then mem 28 x else if y = 4 then mem 29 x else if y = 5 then mem 30 x else if y = 6 then b2i (and32 (shr32 (mem 47 0) x) 1 = 1) else if y = 7 then forgetsX mem x (b2i (and32 (shr32 (mem 47 0) x) 1 = 1)) else if y = 8 then mem 27 x else mem 48 x
theorem c_X11_speech (mem : mmM) (x y : Int) (hn : 0 ≤ mem 23 1 ∧ mem 23 1 ≤ 24) (hx : 0 ≤ x ∧ x < mem 23 1) (hy : 0 ≤ y ∧ y ≤ 9) : con 0 bX11_speech 3 [(2, 0), (0, x), (0, y)] mem (fun v m => v = tellX mem x y ∧ m = mem) := by
  have hr : R32 x := by omega
  refine cn_X11_speech (bk_X11_speech_0 (k1 := fun h => absurd hx h) (k2 := fun _ h => by omega) (k3 := fun _ _ h => by omega)
    (q1 := fun _ _ _ e => ⟨?_, rfl⟩) (q2 := fun _ _ _ n0 e => ⟨?_, rfl⟩) (q3 := fun _ _ _ n0 n1 e => ⟨?_, rfl⟩) (q4 := fun _ _ _ n0 n1 n2 e => ⟨?_, rfl⟩) (q5 := fun _ _ _ n0 n1 n2 n3 e => ⟨?_, rfl⟩) (q6 := fun _ _ _ n0 n1 n2 n3 n4 e => ⟨?_, rfl⟩)
    (q7 := fun _ _ _ n0 n1 n2 n3 n4 n5 e g => ⟨?_, rfl⟩) (q8 := fun _ _ _ n0 n1 n2 n3 n4 n5 e g => ⟨?_, rfl⟩) (q9 := fun _ _ _ n0 n1 n2 n3 n4 n5 n6 e => ⟨?_, rfl⟩) (q10 := fun _ _ _ n0 n1 n2 n3 n4 n5 n6 n7 e => ⟨?_, rfl⟩) (q11 := fun _ _ _ n0 n1 n2 n3 n4 n5 n6 n7 n8 => ⟨?_, rfl⟩))
  · unfold tellX
    rw [if_pos e]
  · unfold tellX
    rw [if_neg n0, if_pos e]
  · unfold tellX
    rw [if_neg n0, if_neg n1, if_pos e]
  · unfold tellX
    rw [if_neg n0, if_neg n1, if_neg n2, if_pos e]
  · unfold tellX
    rw [if_neg n0, if_neg n1, if_neg n2, if_neg n3, if_pos e]
  · unfold tellX
    rw [if_neg n0, if_neg n1, if_neg n2, if_neg n3, if_neg n4, if_pos e]
  · unfold tellX
    rw [if_neg n0, if_neg n1, if_neg n2, if_neg n3, if_neg n4, if_neg n5, if_pos e, b2i_0 g]
  · unfold tellX
    rw [if_neg n0, if_neg n1, if_neg n2, if_neg n3, if_neg n4, if_neg n5, if_pos e, b2i_1 g]
  · unfold tellX
    rw [if_neg n0, if_neg n1, if_neg n2, if_neg n3, if_neg n4, if_neg n5, if_neg n6, if_pos e]
  · unfold tellX
    rw [if_neg n0, if_neg n1, if_neg n2, if_neg n3, if_neg n4, if_neg n5, if_neg n6, if_neg n7, if_pos e]
  · unfold tellX
    rw [if_neg n0, if_neg n1, if_neg n2, if_neg n3, if_neg n4, if_neg n5, if_neg n6, if_neg n7, if_neg n8]

