theorem cn_X8_has {d : Nat} {P : Int → mmM → Prop} {mem : mmM} {x1 : Int} (h : mmT bX8_has d 0 0 (mQ 0 P) 0 [(2, 23), (0, x1)] [] mS mem) : con 0 bX8_has d [(2, 23), (0, x1)] mem P := mmC_of [(2, 23), (0, x1)] ok_X8_has.2.2.2.2 rfl (Nat.le_of_ble_eq_true rfl) h
theorem bk_X8_has_0 {d : Nat} {P : Int → mmM → Prop} {mem : mmM} {x1 : Int}
  (q1 : x1 < 0 → P 0 mem)
  (q2 : 0 ≤ x1 → (mem 23 1) ≤ x1 → P 0 mem)
  (q3 : 0 ≤ x1 → x1 < (mem 23 1) → P 1 mem)
  (s1 : R32 x1 := by intros; omega)
  : mmT bX8_has d 0 0 (mQ 0 P) 0 [(2, 23), (0, x1)] [] mS mem := by
  refine st_iload_n (i := 1) rfl rfl dX8_has_0 ?_
  refine sr_if_lt 16 s1 (by decide) dX8_has_1 (fun h1 => ?_) (fun h1 => ?_)
  · have h1 : x1 < 0 := by omega
    refine st_iconst dX8_has_16 ?_
    exact st_zreturn rfl (by decide) dX8_has_17 (mQ.ret (q1 h1))
  · have h1 : 0 ≤ x1 := by omega
    refine st_iload_n (i := 1) rfl rfl dX8_has_4 ?_
    refine st_aload_n (i := 0) rfl (t := 0) rfl (by decide) dX8_has_5 ?_
    refine so_getI (v := (mem 23 1)) 23 1 fr_X8_60_8 rfl sh_23 rfl dX8_has_6 (fun r1 => ?_)
    refine sr_icmp_ge 16 s1 r1 (by decide) dX8_has_9 (fun h2 => ?_) (fun h2 => ?_)
    · have h2 : (mem 23 1) ≤ x1 := by omega
      refine st_iconst dX8_has_16 ?_
      exact st_zreturn rfl (by decide) dX8_has_17 (mQ.ret (q2 h1 h2))
    · have h2 : x1 < (mem 23 1) := by omega
      refine st_iconst dX8_has_12 ?_
      refine st_goto 17 (by decide) dX8_has_13 ?_
      exact st_zreturn rfl (by decide) dX8_has_17 (mQ.ret (q3 h1 h2))
theorem cn_X9_isDigit {d : Nat} {P : Int → mmM → Prop} {mem : mmM} {x0 : Int} (h : mmT bX9_isDigit d 0 0 (mQ 0 P) 0 [(0, x0)] [] mS mem) : con 0 bX9_isDigit d [(0, x0)] mem P := mmC_of [(0, x0)] ok_X9_isDigit.2.2.2.2 rfl (Nat.le_of_ble_eq_true rfl) h
theorem bk_X9_isDigit_0 {d : Nat} {P : Int → mmM → Prop} {mem : mmM} {x0 : Int}
  (q1 : x0 < 48 → P 0 mem)
  (q2 : 48 ≤ x0 → 57 < x0 → P 0 mem)
  (q3 : 48 ≤ x0 → x0 ≤ 57 → P 1 mem)
  (s1 : R32 x0 := by intros; omega)
  : mmT bX9_isDigit d 0 0 (mQ 0 P) 0 [(0, x0)] [] mS mem := by
  refine st_iload_n (i := 0) rfl rfl dX9_isDigit_0 ?_
  refine st_bipush rfl dX9_isDigit_1 ?_
  refine sr_icmp_lt 16 s1 ⟨by decide, by decide⟩ (by decide) dX9_isDigit_3 (fun h1 => ?_) (fun h1 => ?_)
  · have h1 : x0 < 48 := by omega
    refine st_iconst dX9_isDigit_16 ?_
    exact st_zreturn rfl (by decide) dX9_isDigit_17 (mQ.ret (q1 h1))
  · have h1 : 48 ≤ x0 := by omega
    refine st_iload_n (i := 0) rfl rfl dX9_isDigit_6 ?_
    refine st_bipush rfl dX9_isDigit_7 ?_
    refine sr_icmp_gt 16 s1 ⟨by decide, by decide⟩ (by decide) dX9_isDigit_9 (fun h2 => ?_) (fun h2 => ?_)
    · have h2 : 57 < x0 := by omega
      refine st_iconst dX9_isDigit_16 ?_
      exact st_zreturn rfl (by decide) dX9_isDigit_17 (mQ.ret (q2 h1 h2))
    · have h2 : x0 ≤ 57 := by omega
      refine st_iconst dX9_isDigit_12 ?_
      refine st_goto 17 (by decide) dX9_isDigit_13 ?_
      exact st_zreturn rfl (by decide) dX9_isDigit_17 (mQ.ret (q3 h1 h2))
theorem cn_X9_here {d : Nat} {P : Int → mmM → Prop} {mem : mmM} (h : mmT bX9_here d 0 0 (mQ 0 P) 0 [(2, 1)] [] mS mem) : con 0 bX9_here d [(2, 1)] mem P := mmC_of [(2, 1)] ok_X9_here.2.2.2.2 rfl (Nat.le_of_ble_eq_true rfl) h
theorem bk_X9_here_0 {d : Nat} {P : Int → mmM → Prop} {mem : mmM}
  (q1 : (mem 1 2) < 0 → P 0 mem)
  (q2 : 0 ≤ (mem 1 2) → (mem 1 1) ≤ (mem 1 2) → P 0 mem)
  (q3 : 0 ≤ (mem 1 2) → (mem 1 2) < (mem 1 1) → 160 ≤ (mem 1 2) → P 0 mem)
  (q4 : 0 ≤ (mem 1 2) → (mem 1 2) < (mem 1 1) → (mem 1 2) < 160 → P (mem 2 (mem 1 2)) mem)
  (s1 : 0 ≤ (mem 1 2) → (mem 1 2) < (mem 1 1) → (mem 1 2) < 160 → 0 ≤ (mem 1 2) ∧ (mem 1 2) < 160 := by intros; omega)
  : mmT bX9_here d 0 0 (mQ 0 P) 0 [(2, 1)] [] mS mem := by
  refine st_aload_n (i := 0) rfl (t := 0) rfl (by decide) dX9_here_0 ?_
  refine so_getI (v := (mem 1 2)) 1 2 fr_X9_19_9 rfl sh_1 rfl dX9_here_1 (fun r1 => ?_)
  refine sr_if_lt 42 r1 (by decide) dX9_here_4 (fun h1 => ?_) (fun h1 => ?_)
  · have h1 : (mem 1 2) < 0 := by omega
    refine st_iconst dX9_here_42 ?_
    exact st_ireturn rfl dX9_here_43 (mQ.ret (q1 h1))
  · have h1 : 0 ≤ (mem 1 2) := by omega
    refine st_aload_n (i := 0) rfl (t := 0) rfl (by decide) dX9_here_7 ?_
    refine so_getI (v := (mem 1 2)) 1 2 fr_X9_19_9 rfl sh_1 rfl dX9_here_8 (fun r2 => ?_)
    refine st_aload_n (i := 0) rfl (t := 0) rfl (by decide) dX9_here_11 ?_
    refine so_getI (v := (mem 1 1)) 1 1 fr_X9_15_9 rfl sh_1 rfl dX9_here_12 (fun r3 => ?_)
    refine sr_icmp_ge 42 r2 r3 (by decide) dX9_here_15 (fun h2 => ?_) (fun h2 => ?_)
    · have h2 : (mem 1 1) ≤ (mem 1 2) := by omega
      refine st_iconst dX9_here_42 ?_
      exact st_ireturn rfl dX9_here_43 (mQ.ret (q2 h1 h2))
    · have h2 : (mem 1 2) < (mem 1 1) := by omega
      refine st_aload_n (i := 0) rfl (t := 0) rfl (by decide) dX9_here_18 ?_
      refine so_getI (v := (mem 1 2)) 1 2 fr_X9_19_9 rfl sh_1 rfl dX9_here_19 (fun r4 => ?_)
      refine st_aload_n (i := 0) rfl (t := 0) rfl (by decide) dX9_here_22 ?_
      refine so_getA 1 0 fr_X9_9_9 rfl sh_1 fx_1_0 dX9_here_23 ?_
      refine so_alen (v := 160) 2 rfl sh_2 (by decide) rfl dX9_here_26 ?_
      refine sr_icmp_ge 42 r4 ⟨by decide, by decide⟩ (by decide) dX9_here_27 (fun h3 => ?_) (fun h3 => ?_)
      · have h3 : 160 ≤ (mem 1 2) := by omega
        refine st_iconst dX9_here_42 ?_
        exact st_ireturn rfl dX9_here_43 (mQ.ret (q3 h1 h2 h3))
      · have h3 : (mem 1 2) < 160 := by omega
        refine st_aload_n (i := 0) rfl (t := 0) rfl (by decide) dX9_here_30 ?_
        refine so_getA 1 0 fr_X9_9_9 rfl sh_1 fx_1_0 dX9_here_31 ?_
        refine st_aload_n (i := 0) rfl (t := 0) rfl (by decide) dX9_here_34 ?_
        refine so_getI (v := (mem 1 2)) 1 2 fr_X9_19_9 rfl sh_1 rfl dX9_here_35 (fun r5 => ?_)
        refine so_iald (v := (mem 2 (mem 1 2))) 2 rfl sh_2 (by decide) (s1 h1 h2 h3) rfl dX9_here_38 (fun r6 => ?_)
        refine st_goto 43 (by decide) dX9_here_39 ?_
        exact st_ireturn rfl dX9_here_43 (mQ.ret (q4 h1 h2 h3))
theorem cn_X9_bytesIn {d : Nat} {P : Int → mmM → Prop} {mem : mmM} {x0 : Int} (h : mmT bX9_bytesIn d 0 0 (mQ 0 P) 0 [(0, x0), (9, 0), (9, 0)] [] mS mem) : con 0 bX9_bytesIn d [(0, x0)] mem P := mmC_of [(0, x0), (9, 0), (9, 0)] ok_X9_bytesIn.2.2.2.2 rfl (Nat.le_of_ble_eq_true rfl) h
theorem bk_X9_bytesIn_0 {d : Nat} {P : Int → mmM → Prop} {mem : mmM} {x0 : Int}
  (k1 : mmT bX9_bytesIn d 0 0 (mQ 0 P) 5 [(0, x0), (0, 0), (0, 24)] [] mS mem)
  : mmT bX9_bytesIn d 0 0 (mQ 0 P) 0 [(0, x0), (9, 0), (9, 0)] [] mS mem := by
  refine st_iconst dX9_bytesIn_0 ?_
  refine st_istore_n (i := 1) rfl (by decide) (lc' := [(0, x0), (0, 0), (9, 0)]) rfl dX9_bytesIn_1 ?_
  refine st_bipush rfl dX9_bytesIn_2 ?_
  refine st_istore_n (i := 2) rfl (by decide) (lc' := [(0, x0), (0, 0), (0, 24)]) rfl dX9_bytesIn_4 ?_
  exact st_locals [(0, x0), (0, 0), (0, 24)] ⟨Or.inr rfl, Or.inr rfl, Or.inr rfl, trivial⟩ k1
theorem bk_X9_bytesIn_5 {d : Nat} {P : Int → mmM → Prop} {mem : mmM} {x0 x1 x2 : Int}
  (k1 : 0 ≤ x2 → (and32 (ushr32 x0 x2) 255) = 0 → mmT bX9_bytesIn d 0 0 (mQ 0 P) 5 [(0, x0), (0, (x1 + 0)), (0, (x2 + (-8)))] [] mS mem)
  (k2 : 0 ≤ x2 → ¬ (and32 (ushr32 x0 x2) 255) = 0 → mmT bX9_bytesIn d 0 0 (mQ 0 P) 5 [(0, x0), (0, (x1 + 1)), (0, (x2 + (-8)))] [] mS mem)
  (q1 : x2 < 0 → P x1 mem)
  (s1 : R32 x2 := by intros; omega)
  : mmT bX9_bytesIn d 0 0 (mQ 0 P) 5 [(0, x0), (0, x1), (0, x2)] [] mS mem := by
  refine st_iload_n (i := 2) rfl rfl dX9_bytesIn_5 ?_
  refine sr_if_lt 33 s1 (by decide) dX9_bytesIn_6 (fun h1 => ?_) (fun h1 => ?_)
  · have h1 : x2 < 0 := by omega
    refine st_iload_n (i := 1) rfl rfl dX9_bytesIn_33 ?_
    exact st_ireturn rfl dX9_bytesIn_34 (mQ.ret (q1 h1))
  · have h1 : 0 ≤ x2 := by omega
    refine st_iload_n (i := 1) rfl rfl dX9_bytesIn_9 ?_
    refine st_iload_n (i := 0) rfl rfl dX9_bytesIn_10 ?_
    refine st_iload_n (i := 2) rfl rfl dX9_bytesIn_11 ?_
    refine st_iushr dX9_bytesIn_12 ?_
    refine st_sipush rfl dX9_bytesIn_13 ?_
    refine st_iand dX9_bytesIn_16 ?_
    refine sr_if_eq 24 (and32_rng (ushr32 x0 x2) 255) (by decide) dX9_bytesIn_17 (fun h2 => ?_) (fun h2 => ?_)
    · have h2 : (and32 (ushr32 x0 x2) 255) = 0 := by omega
      refine st_iconst dX9_bytesIn_24 ?_
      refine st_iadd dX9_bytesIn_25 ?_
      refine st_istore_n (i := 1) rfl (by decide) (lc' := [(0, x0), (0, (x1 + 0)), (0, x2)]) rfl dX9_bytesIn_26 ?_
      refine st_iinc (y := (x2 + (-8))) (by decide) (i := 2) rfl rfl (lc' := [(0, x0), (0, (x1 + 0)), (0, (x2 + (-8)))]) rfl dX9_bytesIn_27 ?_
      refine st_goto 5 (by decide) dX9_bytesIn_30 ?_
      exact st_locals [(0, x0), (0, (x1 + 0)), (0, (x2 + (-8)))] ⟨Or.inr rfl, Or.inr rfl, Or.inr rfl, trivial⟩ (k1 h1 h2)
    · have h2 : ¬ (and32 (ushr32 x0 x2) 255) = 0 := by omega
      refine st_iconst dX9_bytesIn_20 ?_
      refine st_goto 25 (by decide) dX9_bytesIn_21 ?_
      refine st_iadd dX9_bytesIn_25 ?_
      refine st_istore_n (i := 1) rfl (by decide) (lc' := [(0, x0), (0, (x1 + 1)), (0, x2)]) rfl dX9_bytesIn_26 ?_
      refine st_iinc (y := (x2 + (-8))) (by decide) (i := 2) rfl rfl (lc' := [(0, x0), (0, (x1 + 1)), (0, (x2 + (-8)))]) rfl dX9_bytesIn_27 ?_
      refine st_goto 5 (by decide) dX9_bytesIn_30 ?_
      exact st_locals [(0, x0), (0, (x1 + 1)), (0, (x2 + (-8)))] ⟨Or.inr rfl, Or.inr rfl, Or.inr rfl, trivial⟩ (k2 h1 h2)
theorem cn_X2_isLetter {d : Nat} {P : Int → mmM → Prop} {mem : mmM} {x0 : Int} (h : mmT bX2_isLetter d 0 0 (mQ 0 P) 0 [(0, x0)] [] mS mem) : con 0 bX2_isLetter d [(0, x0)] mem P := mmC_of [(0, x0)] ok_X2_isLetter.2.2.2.2 rfl (Nat.le_of_ble_eq_true rfl) h
theorem bk_X2_isLetter_0 {d : Nat} {P : Int → mmM → Prop} {mem : mmM} {x0 : Int}
  (q1 : x0 = 97 → P 1 mem)
  (q2 : ¬ x0 = 97 → x0 = 115 → P 1 mem)
  (q3 : ¬ x0 = 97 → ¬ x0 = 115 → x0 = 108 → P 1 mem)
  (q4 : ¬ x0 = 97 → ¬ x0 = 115 → ¬ x0 = 108 → x0 = 103 → P 1 mem)
  (q5 : ¬ x0 = 97 → ¬ x0 = 115 → ¬ x0 = 108 → ¬ x0 = 103 → x0 = 99 → P 1 mem)
  (q6 : ¬ x0 = 97 → ¬ x0 = 115 → ¬ x0 = 108 → ¬ x0 = 103 → ¬ x0 = 99 → ¬ x0 = 109 → P 0 mem)
  (q7 : ¬ x0 = 97 → ¬ x0 = 115 → ¬ x0 = 108 → ¬ x0 = 103 → ¬ x0 = 99 → x0 = 109 → P 1 mem)
  (s1 : R32 x0 := by intros; omega)
  : mmT bX2_isLetter d 0 0 (mQ 0 P) 0 [(0, x0)] [] mS mem := by
  refine st_iload_n (i := 0) rfl rfl dX2_isLetter_0 ?_
  refine st_bipush rfl dX2_isLetter_1 ?_
  refine sr_icmp_eq 36 s1 ⟨by decide, by decide⟩ (by decide) dX2_isLetter_3 (fun h1 => ?_) (fun h1 => ?_)
  · have h1 : x0 = 97 := by omega
    refine st_iconst dX2_isLetter_36 ?_
    refine st_goto 41 (by decide) dX2_isLetter_37 ?_
    exact st_zreturn rfl (by decide) dX2_isLetter_41 (mQ.ret (q1 h1))
  · have h1 : ¬ x0 = 97 := by omega
    refine st_iload_n (i := 0) rfl rfl dX2_isLetter_6 ?_
    refine st_bipush rfl dX2_isLetter_7 ?_
    refine sr_icmp_eq 36 s1 ⟨by decide, by decide⟩ (by decide) dX2_isLetter_9 (fun h2 => ?_) (fun h2 => ?_)
    · have h2 : x0 = 115 := by omega
      refine st_iconst dX2_isLetter_36 ?_
      refine st_goto 41 (by decide) dX2_isLetter_37 ?_
      exact st_zreturn rfl (by decide) dX2_isLetter_41 (mQ.ret (q2 h1 h2))
    · have h2 : ¬ x0 = 115 := by omega
      refine st_iload_n (i := 0) rfl rfl dX2_isLetter_12 ?_
      refine st_bipush rfl dX2_isLetter_13 ?_
      refine sr_icmp_eq 36 s1 ⟨by decide, by decide⟩ (by decide) dX2_isLetter_15 (fun h3 => ?_) (fun h3 => ?_)
      · have h3 : x0 = 108 := by omega
        refine st_iconst dX2_isLetter_36 ?_
        refine st_goto 41 (by decide) dX2_isLetter_37 ?_
        exact st_zreturn rfl (by decide) dX2_isLetter_41 (mQ.ret (q3 h1 h2 h3))
      · have h3 : ¬ x0 = 108 := by omega
        refine st_iload_n (i := 0) rfl rfl dX2_isLetter_18 ?_
        refine st_bipush rfl dX2_isLetter_19 ?_
        refine sr_icmp_eq 36 s1 ⟨by decide, by decide⟩ (by decide) dX2_isLetter_21 (fun h4 => ?_) (fun h4 => ?_)
        · have h4 : x0 = 103 := by omega
          refine st_iconst dX2_isLetter_36 ?_
          refine st_goto 41 (by decide) dX2_isLetter_37 ?_
          exact st_zreturn rfl (by decide) dX2_isLetter_41 (mQ.ret (q4 h1 h2 h3 h4))
        · have h4 : ¬ x0 = 103 := by omega
          refine st_iload_n (i := 0) rfl rfl dX2_isLetter_24 ?_
          refine st_bipush rfl dX2_isLetter_25 ?_
          refine sr_icmp_eq 36 s1 ⟨by decide, by decide⟩ (by decide) dX2_isLetter_27 (fun h5 => ?_) (fun h5 => ?_)
          · have h5 : x0 = 99 := by omega
            refine st_iconst dX2_isLetter_36 ?_
            refine st_goto 41 (by decide) dX2_isLetter_37 ?_
            exact st_zreturn rfl (by decide) dX2_isLetter_41 (mQ.ret (q5 h1 h2 h3 h4 h5))
          · have h5 : ¬ x0 = 99 := by omega
            refine st_iload_n (i := 0) rfl rfl dX2_isLetter_30 ?_
            refine st_bipush rfl dX2_isLetter_31 ?_
            refine sr_icmp_ne 40 s1 ⟨by decide, by decide⟩ (by decide) dX2_isLetter_33 (fun h6 => ?_) (fun h6 => ?_)
            · have h6 : ¬ x0 = 109 := by omega
              refine st_iconst dX2_isLetter_40 ?_
              exact st_zreturn rfl (by decide) dX2_isLetter_41 (mQ.ret (q6 h1 h2 h3 h4 h5 h6))
            · have h6 : x0 = 109 := by omega
              refine st_iconst dX2_isLetter_36 ?_
              refine st_goto 41 (by decide) dX2_isLetter_37 ?_
              exact st_zreturn rfl (by decide) dX2_isLetter_41 (mQ.ret (q7 h1 h2 h3 h4 h5 h6))
theorem cn_X2_within {d : Nat} {P : Int → mmM → Prop} {mem : mmM} {x0 : Int} (h : mmT bX2_within d 0 0 (mQ 0 P) 0 [(1, x0), (9, 0)] [] mS mem) : con 0 bX2_within d [(1, x0)] mem P := mmC_of [(1, x0), (9, 0)] ok_X2_within.2.2.2.2 rfl (Nat.le_of_ble_eq_true rfl) h
theorem bk_X2_within_0 {d : Nat} {P : Int → mmM → Prop} {mem : mmM} {x0 : Int}
  (q1 : x0 ≤ 1000000 → (-1000000) ≤ x0 → P x0 mem)
  (q2 : x0 ≤ 1000000 → x0 < (-1000000) → P (-1000000) mem)
  (q3 : 1000000 < x0 → P 1000000 mem)
  (s1 : R64 x0 := by intros; omega)
  : mmT bX2_within d 0 0 (mQ 0 P) 0 [(1, x0), (9, 0)] [] mS mem := by
  refine st_lload_n (i := 0) rfl rfl dX2_within_0 ?_
  refine st_ldc2 cw_X2_65 dX2_within_1 ?_
  refine sr_lcmp_le 13 s1 ⟨by decide, by decide⟩ (by decide) dX2_within_4 dX2_within_5 (fun h1 => ?_) (fun h1 => ?_)
  · have h1 : x0 ≤ 1000000 := by omega
    refine st_lload_n (i := 0) rfl rfl dX2_within_13 ?_
    refine st_ldc2 cw_X2_68 dX2_within_14 ?_
    refine sr_lcmp_ge 26 s1 ⟨by decide, by decide⟩ (by decide) dX2_within_17 dX2_within_18 (fun h2 => ?_) (fun h2 => ?_)
    · have h2 : (-1000000) ≤ x0 := by omega
      refine st_lload_n (i := 0) rfl rfl dX2_within_26 ?_
      refine st_l2i dX2_within_27 ?_
      exact st_ireturn rfl dX2_within_28 (mQ.ret (q1 h1 h2))
    · have h2 : x0 < (-1000000) := by omega
      refine st_ldc cw_X2_70 dX2_within_21 ?_
      refine st_goto 28 (by decide) dX2_within_23 ?_
      exact st_ireturn rfl dX2_within_28 (mQ.ret (q2 h1 h2))
  · have h1 : 1000000 < x0 := by omega
    refine st_ldc cw_X2_67 dX2_within_8 ?_
    refine st_goto 28 (by decide) dX2_within_10 ?_
    exact st_ireturn rfl dX2_within_28 (mQ.ret (q3 h1))
theorem cn_X8_percent {d : Nat} {P : Int → mmM → Prop} {mem : mmM} {x0 : Int} (h : mmT bX8_percent d 0 0 (mQ 0 P) 0 [(0, x0)] [] mS mem) : con 0 bX8_percent d [(0, x0)] mem P := mmC_of [(0, x0)] ok_X8_percent.2.2.2.2 rfl (Nat.le_of_ble_eq_true rfl) h
theorem bk_X8_percent_0 {d : Nat} {P : Int → mmM → Prop} {mem : mmM} {x0 : Int}
  (q1 : P (max 0 (min 100 x0)) mem)
  (hd1 : 1 ≤ d := by omega)
  (s1 : R32 x0 := by intros; omega)
  : mmT bX8_percent d 0 0 (mQ 0 P) 0 [(0, x0)] [] mS mem := by
  refine st_iconst dX8_percent_0 ?_
  refine st_bipush rfl dX8_percent_1 ?_
  refine st_iload_n (i := 0) rfl rfl dX8_percent_3 ?_
  refine sr_mmin ⟨by decide, by decide⟩ s1 mr_X8_51 ms_mini mi_Math mc_mini hd1 (Nat.le_of_ble_eq_true rfl) dX8_percent_4 ?_
  refine sr_mmax ⟨by decide, by decide⟩ (imin32_rng ⟨by decide, by decide⟩ s1) mr_X8_98 ms_maxi mi_Math mc_maxi hd1 (Nat.le_of_ble_eq_true rfl) dX8_percent_7 ?_
  exact st_ireturn rfl dX8_percent_10 (mQ.ret q1)
theorem cn_X11_isActor {d : Nat} {P : Int → mmM → Prop} {mem : mmM} {x0 : Int} (h : mmT bX11_isActor d 0 0 (mQ 0 P) 0 [(0, x0)] [] mS mem) : con 0 bX11_isActor d [(0, x0)] mem P := mmC_of [(0, x0)] ok_X11_isActor.2.2.2.2 rfl (Nat.le_of_ble_eq_true rfl) h
theorem bk_X11_isActor_0 {d : Nat} {P : Int → mmM → Prop} {mem : mmM} {x0 : Int}
  (q1 : x0 < 0 → P 0 mem)
  (q2 : 0 ≤ x0 → 8 ≤ x0 → P 0 mem)
  (q3 : 0 ≤ x0 → x0 < 8 → P 1 mem)
  (s1 : R32 x0 := by intros; omega)
  : mmT bX11_isActor d 0 0 (mQ 0 P) 0 [(0, x0)] [] mS mem := by
  refine st_iload_n (i := 0) rfl rfl dX11_isActor_0 ?_
  refine sr_if_lt 14 s1 (by decide) dX11_isActor_1 (fun h1 => ?_) (fun h1 => ?_)
  · have h1 : x0 < 0 := by omega
    refine st_iconst dX11_isActor_14 ?_
    exact st_zreturn rfl (by decide) dX11_isActor_15 (mQ.ret (q1 h1))
  · have h1 : 0 ≤ x0 := by omega
    refine st_iload_n (i := 0) rfl rfl dX11_isActor_4 ?_
    refine st_bipush rfl dX11_isActor_5 ?_
    refine sr_icmp_ge 14 s1 ⟨by decide, by decide⟩ (by decide) dX11_isActor_7 (fun h2 => ?_) (fun h2 => ?_)
    · have h2 : 8 ≤ x0 := by omega
      refine st_iconst dX11_isActor_14 ?_
      exact st_zreturn rfl (by decide) dX11_isActor_15 (mQ.ret (q2 h1 h2))
    · have h2 : x0 < 8 := by omega
      refine st_iconst dX11_isActor_10 ?_
      refine st_goto 15 (by decide) dX11_isActor_11 ?_
      exact st_zreturn rfl (by decide) dX11_isActor_15 (mQ.ret (q3 h1 h2))
theorem cn_X11_isMostSaid {d : Nat} {P : Int → mmM → Prop} {mem : mmM} {x0 : Int} (h : mmT bX11_isMostSaid d 0 0 (mQ 0 P) 0 [(0, x0)] [] mS mem) : con 0 bX11_isMostSaid d [(0, x0)] mem P := mmC_of [(0, x0)] ok_X11_isMostSaid.2.2.2.2 rfl (Nat.le_of_ble_eq_true rfl) h
theorem bk_X11_isMostSaid_0 {d : Nat} {P : Int → mmM → Prop} {mem : mmM} {x0 : Int}
  (q1 : x0 < 1 → P 0 mem)
  (q2 : 1 ≤ x0 → 200 < x0 → P 0 mem)
  (q3 : 1 ≤ x0 → x0 ≤ 200 → P 1 mem)
  (s1 : R32 x0 := by intros; omega)
  : mmT bX11_isMostSaid d 0 0 (mQ 0 P) 0 [(0, x0)] [] mS mem := by
  refine st_iload_n (i := 0) rfl rfl dX11_isMostSaid_0 ?_
  refine st_iconst dX11_isMostSaid_1 ?_
  refine sr_icmp_lt 16 s1 ⟨by decide, by decide⟩ (by decide) dX11_isMostSaid_2 (fun h1 => ?_) (fun h1 => ?_)
  · have h1 : x0 < 1 := by omega
    refine st_iconst dX11_isMostSaid_16 ?_
    exact st_zreturn rfl (by decide) dX11_isMostSaid_17 (mQ.ret (q1 h1))
  · have h1 : 1 ≤ x0 := by omega
    refine st_iload_n (i := 0) rfl rfl dX11_isMostSaid_5 ?_
    refine st_sipush rfl dX11_isMostSaid_6 ?_
    refine sr_icmp_gt 16 s1 ⟨by decide, by decide⟩ (by decide) dX11_isMostSaid_9 (fun h2 => ?_) (fun h2 => ?_)
    · have h2 : 200 < x0 := by omega
      refine st_iconst dX11_isMostSaid_16 ?_
      exact st_zreturn rfl (by decide) dX11_isMostSaid_17 (mQ.ret (q2 h1 h2))
    · have h2 : x0 ≤ 200 := by omega
      refine st_iconst dX11_isMostSaid_12 ?_
      refine st_goto 17 (by decide) dX11_isMostSaid_13 ?_
      exact st_zreturn rfl (by decide) dX11_isMostSaid_17 (mQ.ret (q3 h1 h2))
theorem cn_X6_isMarked {d : Nat} {P : Int → mmM → Prop} {mem : mmM} {x1 : Int} (h : mmT bX6_isMarked d 0 0 (mQ 0 P) 0 [(2, 47), (0, x1)] [] mS mem) : con 0 bX6_isMarked d [(2, 47), (0, x1)] mem P := mmC_of [(2, 47), (0, x1)] ok_X6_isMarked.2.2.2.2 rfl (Nat.le_of_ble_eq_true rfl) h
theorem bk_X6_isMarked_0 {d : Nat} {P : Int → mmM → Prop} {mem : mmM} {x1 : Int}
  (q1 : (and32 (shr32 (mem 47 0) x1) 1) = 0 → P 0 mem)
  (q2 : ¬ (and32 (shr32 (mem 47 0) x1) 1) = 0 → P 1 mem)
  : mmT bX6_isMarked d 0 0 (mQ 0 P) 0 [(2, 47), (0, x1)] [] mS mem := by
  refine st_aload_n (i := 0) rfl (t := 0) rfl (by decide) dX6_isMarked_0 ?_
  refine so_getI (v := (mem 47 0)) 47 0 fr_X6_18_6 rfl sh_47 rfl dX6_isMarked_1 (fun r1 => ?_)
  refine st_iload_n (i := 1) rfl rfl dX6_isMarked_4 ?_
  refine st_ishr dX6_isMarked_5 ?_
  refine st_iconst dX6_isMarked_6 ?_
  refine st_iand dX6_isMarked_7 ?_
  refine sr_if_eq 15 (and32_rng (shr32 (mem 47 0) x1) 1) (by decide) dX6_isMarked_8 (fun h1 => ?_) (fun h1 => ?_)
  · have h1 : (and32 (shr32 (mem 47 0) x1) 1) = 0 := by omega
    refine st_iconst dX6_isMarked_15 ?_
    exact st_zreturn rfl (by decide) dX6_isMarked_16 (mQ.ret (q1 h1))
  · have h1 : ¬ (and32 (shr32 (mem 47 0) x1) 1) = 0 := by omega
    refine st_iconst dX6_isMarked_11 ?_
    refine st_goto 16 (by decide) dX6_isMarked_12 ?_
    exact st_zreturn rfl (by decide) dX6_isMarked_16 (mQ.ret (q2 h1))