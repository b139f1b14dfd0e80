theorem cn_X8_has {d : Nat} {P : Int → mmM → Prop} {mem : mmM} {x1 : Int} (h : mmT bX8_has d 0 0 (mQ 0 P) 0 [(2, 23), (0, x1)] [] mS mem) : con 0 bX8_has d [(2, 23), (0, x1)] mem P := mmC_of [(2, 23), (0, x1)] ok_X8_has.2.2.2.2 rfl (Nat.le_of_ble_eq_true rfl) h
theorem bk_X8_has_0 {d : Nat} {P : Int → mmM → Prop} {mem : mmM} {x1 : Int}
  (q1 : x1 < 0 → P 0 mem)
  (q2 : 0 ≤ x1 → (mem 23 1) ≤ x1 → P 0 mem)
  (q3 : 0 ≤ x1 → x1 < (mem 23 1) → P 1 mem)
  (s1 : R32 x1 := by intros; omega)
  : mmT bX8_has d 0 0 (mQ 0 P) 0 [(2, 23), (0, x1)] [] mS mem := by
  refine st_iload_n (i := 1) rfl rfl dX8_has_0 ?_
  refine sr_if_lt 16 s1 (by decide) dX8_has_1 (fun h1 => ?_) (fun h1 => ?_)
  · have h1 : x1 < 0 := by omega
    refine st_iconst dX8_has_16 ?_
    exact st_zreturn rfl (by decide) dX8_has_17 (mQ.ret (q1 h1))
  · have h1 : 0 ≤ x1 := by omega
    refine st_iload_n (i := 1) rfl rfl dX8_has_4 ?_
    refine st_aload_n (i := 0) rfl (t := 0) rfl (by decide) dX8_has_5 ?_
    refine so_getI (v := (mem 23 1)) 23 1 fr_X8_60_8 rfl sh_23 rfl dX8_has_6 (fun r1 => ?_)
    refine sr_icmp_ge 16 s1 r1 (by decide) dX8_has_9 (fun h2 => ?_) (fun h2 => ?_)
    · have h2 : (mem 23 1) ≤ x1 := by omega
      refine st_iconst dX8_has_16 ?_
      exact st_zreturn rfl (by decide) dX8_has_17 (mQ.ret (q2 h1 h2))
    · have h2 : x1 < (mem 23 1) := by omega
      refine st_iconst dX8_has_12 ?_
      refine st_goto 17 (by decide) dX8_has_13 ?_
      exact st_zreturn rfl (by decide) dX8_has_17 (mQ.ret (q3 h1 h2))
theorem cn_X9_isDigit {d : Nat} {P : Int → mmM → Prop} {mem : mmM} {x0 : Int} (h : mmT bX9_isDigit d 0 0 (mQ 0 P) 0 [(0, x0)] [] mS mem) : con 0 bX9_isDigit d [(0, x0)] mem P := mmC_of [(0, x0)] ok_X9_isDigit.2.2.2.2 rfl (Nat.le_of_ble_eq_true rfl) h
theorem bk_X9_isDigit_0 {d : Nat} {P : Int → mmM → Prop} {mem : mmM} {x0 : Int}
  (q1 : x0 < 48 → P 0 mem)
  (q2 : 48 ≤ x0 → 57 < x0 → P 0 mem)
  (q3 : 48 ≤ x0 → x0 ≤ 57 → P 1 mem)
  (s1 : R32 x0 := by intros; omega)
  : mmT bX9_isDigit d 0 0 (mQ 0 P) 0 [(0, x0)] [] mS mem := by
  refine st_iload_n (i := 0) rfl rfl dX9_isDigit_0 ?_
  refine st_bipush rfl dX9_isDigit_1 ?_
  refine sr_icmp_lt 16 s1 ⟨by decide, by decide⟩ (by decide) dX9_isDigit_3 (fun h1 => ?_) (fun h1 => ?_)
  · have h1 : x0 < 48 := by omega
    refine st_iconst dX9_isDigit_16 ?_
    exact st_zreturn rfl (by decide) dX9_isDigit_17 (mQ.ret (q1 h1))
  · have h1 : 48 ≤ x0 := by omega
    refine st_iload_n (i := 0) rfl rfl dX9_isDigit_6 ?_
    refine st_bipush rfl dX9_isDigit_7 ?_
    refine sr_icmp_gt 16 s1 ⟨by decide, by decide⟩ (by decide) dX9_isDigit_9 (fun h2 => ?_) (fun h2 => ?_)
    · have h2 : 57 < x0 := by omega
      refine st_iconst dX9_isDigit_16 ?_
      exact st_zreturn rfl (by decide) dX9_isDigit_17 (mQ.ret (q2 h1 h2))
    · have h2 : x0 ≤ 57 := by omega
      refine st_iconst dX9_isDigit_12 ?_
      refine st_goto 17 (by decide) dX9_isDigit_13 ?_
      exact st_zreturn rfl (by decide) dX9_isDigit_17 (mQ.ret (q3 h1 h2))
theorem cn_X9_here {d : Nat} {P : Int → mmM → Prop} {mem : mmM} (h : mmT bX9_here d 0 0 (mQ 0 P) 0 [(2, 1)] [] mS mem) : con 0 bX9_here d [(2, 1)] mem P := mmC_of [(2, 1)] ok_X9_here.2.2.2.2 rfl (Nat.le_of_ble_eq_true rfl) h
theorem bk_X9_here_0 {d : Nat} {P : Int → mmM → Prop} {mem : mmM}
  (q1 : (mem 1 2) < 0 → P 0 mem)
  (q2 : 0 ≤ (mem 1 2) → (mem 1 1) ≤ (mem 1 2) → P 0 mem)
  (q3 : 0 ≤ (mem 1 2) → (mem 1 2) < (mem 1 1) → 160 ≤ (mem 1 2) → P 0 mem)
  (q4 : 0 ≤ (mem 1 2) → (mem 1 2) < (mem 1 1) → (mem 1 2) < 160 → P (mem 2 (mem 1 2)) mem)
  (s1 : 0 ≤ (mem 1 2) → (mem 1 2) < (mem 1 1) → (mem 1 2) < 160 → 0 ≤ (mem 1 2) ∧ (mem 1 2) < 160 := by intros; omega)
  : mmT bX9_here d 0 0 (mQ 0 P) 0 [(2, 1)] [] mS mem := by
  refine st_aload_n (i := 0) rfl (t := 0) rfl (by decide) dX9_here_0 ?_
  refine so_getI (v := (mem 1 2)) 1 2 fr_X9_19_9 rfl sh_1 rfl dX9_here_1 (fun r1 => ?_)
  refine sr_if_lt 42 r1 (by decide) dX9_here_4 (fun h1 => ?_) (fun h1 => ?_)
  · have h1 : (mem 1 2) < 0 := by omega
    refine st_iconst dX9_here_42 ?_
    exact st_ireturn rfl dX9_here_43 (mQ.ret (q1 h1))
  · have h1 : 0 ≤ (mem 1 2) := by omega
    refine st_aload_n (i := 0) rfl (t := 0) rfl (by decide) dX9_here_7 ?_
    refine so_getI (v := (mem 1 2)) 1 2 fr_X9_19_9 rfl sh_1 rfl dX9_here_8 (fun r2 => ?_)
    refine st_aload_n (i := 0) rfl (t := 0) rfl (by decide) dX9_here_11 ?_
    refine so_getI (v := (mem 1 1)) 1 1 fr_X9_15_9 rfl sh_1 rfl dX9_here_12 (fun r3 => ?_)
    refine sr_icmp_ge 42 r2 r3 (by decide) dX9_here_15 (fun h2 => ?_) (fun h2 => ?_)
    · have h2 : (mem 1 1) ≤ (mem 1 2) := by omega
      refine st_iconst dX9_here_42 ?_
      exact st_ireturn rfl dX9_here_43 (mQ.ret (q2 h1 h2))
    · have h2 : (mem 1 2) < (mem 1 1) := by omega
      refine st_aload_n (i := 0) rfl (t := 0) rfl (by decide) dX9_here_18 ?_
      refine so_getI (v := (mem 1 2)) 1 2 fr_X9_19_9 rfl sh_1 rfl dX9_here_19 (fun r4 => ?_)
      refine st_aload_n (i := 0) rfl (t := 0) rfl (by decide) dX9_here_22 ?_
      refine so_getA 1 0 fr_X9_9_9 rfl sh_1 fx_1_0 dX9_here_23 ?_
      refine so_alen (v := 160) 2 rfl sh_2 (by decide) rfl dX9_here_26 ?_
      refine sr_icmp_ge 42 r4 ⟨by decide, by decide⟩ (by decide) dX9_here_27 (fun h3 => ?_) (fun h3 => ?_)
      · have h3 : 160 ≤ (mem 1 2) := by omega
        refine st_iconst dX9_here_42 ?_
        exact st_ireturn rfl dX9_here_43 (mQ.ret (q3 h1 h2 h3))
      · have h3 : (mem 1 2) < 160 := by omega
        refine st_aload_n (i := 0) rfl (t := 0) rfl (by decide) dX9_here_30 ?_
        refine so_getA 1 0 fr_X9_9_9 rfl sh_1 fx_1_0 dX9_here_31 ?_
        refine st_aload_n (i := 0) rfl (t := 0) rfl (by decide) dX9_here_34 ?_
        refine so_getI (v := (mem 1 2)) 1 2 fr_X9_19_9 rfl sh_1 rfl dX9_here_35 (fun r5 => ?_)
        refine so_iald (v := (mem 2 (mem 1 2))) 2 rfl sh_2 (by decide) (s1 h1 h2 h3) rfl dX9_here_38 (fun r6 => ?_)
        refine st_goto 43 (by decide) dX9_here_39 ?_
        exact st_ireturn rfl dX9_here_43 (mQ.ret (q4 h1 h2 h3))
theorem cn_X9_bytesIn {d : Nat} {P : Int → mmM → Prop} {mem : mmM} {x0 : Int} (h : mmT bX9_bytesIn d 0 0 (mQ 0 P) 0 [(0, x0), (9, 0), (9, 0)] [] mS mem) : con 0 bX9_bytesIn d [(0, x0)] mem P := mmC_of [(0, x0), (9, 0), (9, 0)] ok_X9_bytesIn.2.2.2.2 rfl (Nat.le_of_ble_eq_true rfl) h
theorem bk_X9_bytesIn_0 {d : Nat} {P : Int → mmM → Prop} {mem : mmM} {x0 : Int}
  (k1 : mmT bX9_bytesIn d 0 0 (mQ 0 P) 5 [(0, x0), (0, 0), (0, 24)] [] mS mem)
  : mmT bX9_bytesIn d 0 0 (mQ 0 P) 0 [(0, x0), (9, 0), (9, 0)] [] mS mem := by
  refine st_iconst dX9_bytesIn_0 ?_
  refine st_istore_n (i := 1) rfl (by decide) (lc' := [(0, x0), (0, 0), (9, 0)]) rfl dX9_bytesIn_1 ?_
  refine st_bipush rfl dX9_bytesIn_2 ?_
  refine st_istore_n (i := 2) rfl (by decide) (lc' := [(0, x0), (0, 0), (0, 24)]) rfl dX9_bytesIn_4 ?_
  exact st_locals [(0, x0), (0, 0), (0, 24)] ⟨Or.inr rfl, Or.inr rfl, Or.inr rfl, trivial⟩ k1
theorem bk_X9_bytesIn_5 {d : Nat} {P : Int → mmM → Prop} {mem : mmM} {x0 x1 x2 : Int}
  (k1 : 0 ≤ x2 → (and32 (ushr32 x0 x2) 255) = 0 → mmT bX9_bytesIn d 0 0 (mQ 0 P) 5 [(0, x0), (0, (x1 + 0)), (0, (x2 + (-8)))] [] mS mem)
  (k2 : 0 ≤ x2 → ¬ (and32 (ushr32 x0 x2) 255) = 0 → mmT bX9_bytesIn d 0 0 (mQ 0 P) 5 [(0, x0), (0, (x1 + 1)), (0, (x2 + (-8)))] [] mS mem)
  (q1 : x2 < 0 → P x1 mem)
  (s1 : R32 x2 := by intros; omega)
  : mmT bX9_bytesIn d 0 0 (mQ 0 P) 5 [(0, x0), (0, x1), (0, x2)] [] mS mem := by
  refine st_iload_n (i := 2) rfl rfl dX9_bytesIn_5 ?_
  refine sr_if_lt 33 s1 (by decide) dX9_bytesIn_6 (fun h1 => ?_) (fun h1 => ?_)
  · have h1 : x2 < 0 := by omega
    refine st_iload_n (i := 1) rfl rfl dX9_bytesIn_33 ?_
    exact st_ireturn rfl dX9_bytesIn_34 (mQ.ret (q1 h1))
  · have h1 : 0 ≤ x2 := by omega
    refine st_iload_n (i := 1) rfl rfl dX9_bytesIn_9 ?_
    refine st_iload_n (i := 0) rfl rfl dX9_bytesIn_10 ?_
    refine st_iload_n (i := 2) rfl rfl dX9_bytesIn_11 ?_
    refine st_iushr dX9_bytesIn_12 ?_
    refine st_sipush rfl dX9_bytesIn_13 ?_
    refine st_iand dX9_bytesIn_16 ?_
    refine sr_if_eq 24 (and32_rng (ushr32 x0 x2) 255) (by decide) dX9_bytesIn_17 (fun h2 => ?_) (fun h2 => ?_)
    · have h2 : (and32 (ushr32 x0 x2) 255) = 0 := by omega
      refine st_iconst dX9_bytesIn_24 ?_
      refine st_iadd dX9_bytesIn_25 ?_
      refine st_istore_n (i := 1) rfl (by decide) (lc' := [(0, x0), (0, (x1 + 0)), (0, x2)]) rfl dX9_bytesIn_26 ?_
      refine st_iinc (y := (x2 + (-8))) (by decide) (i := 2) rfl rfl (lc' := [(0, x0), (0, (x1 + 0)), (0, (x2 + (-8)))]) rfl dX9_bytesIn_27 ?_
      refine st_goto 5 (by decide) dX9_bytesIn_30 ?_
      exact st_locals [(0, x0), (0, (x1 + 0)), (0, (x2 + (-8)))] ⟨Or.inr rfl, Or.inr rfl, Or.inr rfl, trivial⟩ (k1 h1 h2)
    · have h2 : ¬ (and32 (ushr32 x0 x2) 255) = 0 := by omega
      refine st_iconst dX9_bytesIn_20 ?_
      refine st_goto 25 (by decide) dX9_bytesIn_21 ?_
      refine st_iadd dX9_bytesIn_25 ?_
      refine st_istore_n (i := 1) rfl (by decide) (lc' := [(0, x0), (0, (x1 + 1)), (0, x2)]) rfl dX9_bytesIn_26 ?_
      refine st_iinc (y := (x2 + (-8))) (by decide) (i := 2) rfl rfl (lc' := [(0, x0), (0, (x1 + 1)), (0, (x2 + (-8)))]) rfl dX9_bytesIn_27 ?_
      refine st_goto 5 (by decide) dX9_bytesIn_30 ?_
      exact st_locals [(0, x0), (0, (x1 + 1)), (0, (x2 + (-8)))] ⟨Or.inr rfl, Or.inr rfl, Or.inr rfl, trivial⟩ (k2 h1 h2)
theorem cn_X2_isLetter {d : Nat} {P : Int → mmM → Prop} {mem : mmM} {x0 : Int} (h : mmT bX2_isLetter d 0 0 (mQ 0 P) 0 [(0, x0)] [] mS mem) : con 0 bX2_isLetter d [(0, x0)] mem P := mmC_of [(0, x0)] ok_X2_isLetter.2.2.2.2 rfl (Nat.le_of_ble_eq_true rfl) h
theorem bk_X2_isLetter_0 {d : Nat} {P : Int → mmM → Prop} {mem : mmM} {x0 : Int}
  (q1 : x0 = 97 → P 1 mem)
  (q2 : ¬ x0 = 97 → x0 = 115 → P 1 mem)
  (q3 : ¬ x0 = 97 → ¬ x0 = 115 → x0 = 108 → P 1 mem)
  (q4 : ¬ x0 = 97 → ¬ x0 = 115 → ¬ x0 = 108 → x0 = 103 → P 1 mem)
  (q5 : ¬ x0 = 97 → ¬ x0 = 115 → ¬ x0 = 108 → ¬ x0 = 103 → x0 = 99 → P 1 mem)
  (q6 : ¬ x0 = 97 → ¬ x0 = 115 → ¬ x0 = 108 → ¬ x0 = 103 → ¬ x0 = 99 → ¬ x0 = 109 → P 0 mem)
  (q7 : ¬ x0 = 97 → ¬ x0 = 115 → ¬ x0 = 108 → ¬ x0 = 103 → ¬ x0 = 99 → x0 = 109 → P 1 mem)
  (s1 : R32 x0 := by intros; omega)
  : mmT bX2_isLetter d 0 0 (mQ 0 P) 0 [(0, x0)] [] mS mem := by
  refine st_iload_n (i := 0) rfl rfl dX2_isLetter_0 ?_
  refine st_bipush rfl dX2_isLetter_1 ?_
  refine sr_icmp_eq 36 s1 ⟨by decide, by decide⟩ (by decide) dX2_isLetter_3 (fun h1 => ?_) (fun h1 => ?_)
  · have h1 : x0 = 97 := by omega
    refine st_iconst dX2_isLetter_36 ?_
    refine st_goto 41 (by decide) dX2_isLetter_37 ?_
    exact st_zreturn rfl (by decide) dX2_isLetter_41 (mQ.ret (q1 h1))
  · have h1 : ¬ x0 = 97 := by omega
    refine st_iload_n (i := 0) rfl rfl dX2_isLetter_6 ?_
    refine st_bipush rfl dX2_isLetter_7 ?_
    refine sr_icmp_eq 36 s1 ⟨by decide, by decide⟩ (by decide) dX2_isLetter_9 (fun h2 => ?_) (fun h2 => ?_)
    · have h2 : x0 = 115 := by omega
      refine st_iconst dX2_isLetter_36 ?_
      refine st_goto 41 (by decide) dX2_isLetter_37 ?_
      exact st_zreturn rfl (by decide) dX2_isLetter_41 (mQ.ret (q2 h1 h2))
    · have h2 : ¬ x0 = 115 := by omega
      refine st_iload_n (i := 0) rfl rfl dX2_isLetter_12 ?_
      refine st_bipush rfl dX2_isLetter_13 ?_
      refine sr_icmp_eq 36 s1 ⟨by decide, by decide⟩ (by decide) dX2_isLetter_15 (fun h3 => ?_) (fun h3 => ?_)
      · have h3 : x0 = 108 := by omega
        refine st_iconst dX2_isLetter_36 ?_
        refine st_goto 41 (by decide) dX2_isLetter_37 ?_
        exact st_zreturn rfl (by decide) dX2_isLetter_41 (mQ.ret (q3 h1 h2 h3))
      · have h3 : ¬ x0 = 108 := by omega
        refine st_iload_n (i := 0) rfl rfl dX2_isLetter_18 ?_
        refine st_bipush rfl dX2_isLetter_19 ?_
        refine sr_icmp_eq 36 s1 ⟨by decide, by decide⟩ (by decide) dX2_isLetter_21 (fun h4 => ?_) (fun h4 => ?_)
        · have h4 : x0 = 103 := by omega
          refine st_iconst dX2_isLetter_36 ?_
          refine st_goto 41 (by decide) dX2_isLetter_37 ?_
          exact st_zreturn rfl (by decide) dX2_isLetter_41 (mQ.ret (q4 h1 h2 h3 h4))
        · have h4 : ¬ x0 = 103 := by omega
          refine st_iload_n (i := 0) rfl rfl dX2_isLetter_24 ?_
          refine st_bipush rfl dX2_isLetter_25 ?_
          refine sr_icmp_eq 36 s1 ⟨by decide, by decide⟩ (by decide) dX2_isLetter_27 (fun h5 => ?_) (fun h5 => ?_)
          · have h5 : x0 = 99 := by omega
            refine st_iconst dX2_isLetter_36 ?_
            refine st_goto 41 (by decide) dX2_isLetter_37 ?_
            exact st_zreturn rfl (by decide) dX2_isLetter_41 (mQ.ret (q5 h1 h2 h3 h4 h5))
          · have h5 : ¬ x0 = 99 := by omega
            refine st_iload_n (i := 0) rfl rfl dX2_isLetter_30 ?_
            refine st_bipush rfl dX2_isLetter_31 ?_
            refine sr_icmp_ne 40 s1 ⟨by decide, by decide⟩ (by decide) dX2_isLetter_33 (fun h6 => ?_) (fun h6 => ?_)
            · have h6 : ¬ x0 = 109 := by omega
              refine st_iconst dX2_isLetter_40 ?_
              exact st_zreturn rfl (by decide) dX2_isLetter_41 (mQ.ret (q6 h1 h2 h3 h4 h5 h6))
            · have h6 : x0 = 109 := by omega
              refine st_iconst dX2_isLetter_36 ?_
              refine st_goto 41 (by decide) dX2_isLetter_37 ?_
              exact st_zreturn rfl (by decide) dX2_isLetter_41 (mQ.ret (q7 h1 h2 h3 h4 h5 h6))
theorem cn_X2_within {d : Nat} {P : Int → mmM → Prop} {mem : mmM} {x0 : Int} (h : mmT bX2_within d 0 0 (mQ 0 P) 0 [(1, x0), (9, 0)] [] mS mem) : con 0 bX2_within d [(1, x0)] mem P := mmC_of [(1, x0), (9, 0)] ok_X2_within.2.2.2.2 rfl (Nat.le_of_ble_eq_true rfl) h
theorem bk_X2_within_0 {d : Nat} {P : Int → mmM → Prop} {mem : mmM} {x0 : Int}
  (q1 : x0 ≤ 1000000 → (-1000000) ≤ x0 → P x0 mem)
  (q2 : x0 ≤ 1000000 → x0 < (-1000000) → P (-1000000) mem)
  (q3 : 1000000 < x0 → P 1000000 mem)
  (s1 : R64 x0 := by intros; omega)
  : mmT bX2_within d 0 0 (mQ 0 P) 0 [(1, x0), (9, 0)] [] mS mem := by
  refine st_lload_n (i := 0) rfl rfl dX2_within_0 ?_
  refine st_ldc2 cw_X2_65 dX2_within_1 ?_
  refine sr_lcmp_le 13 s1 ⟨by decide, by decide⟩ (by decide) dX2_within_4 dX2_within_5 (fun h1 => ?_) (fun h1 => ?_)
  · have h1 : x0 ≤ 1000000 := by omega
    refine st_lload_n (i := 0) rfl rfl dX2_within_13 ?_
    refine st_ldc2 cw_X2_68 dX2_within_14 ?_
    refine sr_lcmp_ge 26 s1 ⟨by decide, by decide⟩ (by decide) dX2_within_17 dX2_within_18 (fun h2 => ?_) (fun h2 => ?_)
    · have h2 : (-1000000) ≤ x0 := by omega
      refine st_lload_n (i := 0) rfl rfl dX2_within_26 ?_
      refine st_l2i dX2_within_27 ?_
      exact st_ireturn rfl dX2_within_28 (mQ.ret (q1 h1 h2))
    · have h2 : x0 < (-1000000) := by omega
      refine st_ldc cw_X2_70 dX2_within_21 ?_
      refine st_goto 28 (by decide) dX2_within_23 ?_
      exact st_ireturn rfl dX2_within_28 (mQ.ret (q2 h1 h2))
  · have h1 : 1000000 < x0 := by omega
    refine st_ldc cw_X2_67 dX2_within_8 ?_
    refine st_goto 28 (by decide) dX2_within_10 ?_
    exact st_ireturn rfl dX2_within_28 (mQ.ret (q3 h1))
theorem cn_X8_percent {d : Nat} {P : Int → mmM → Prop} {mem : mmM} {x0 : Int} (h : mmT bX8_percent d 0 0 (mQ 0 P) 0 [(0, x0)] [] mS mem) : con 0 bX8_percent d [(0, x0)] mem P := mmC_of [(0, x0)] ok_X8_percent.2.2.2.2 rfl (Nat.le_of_ble_eq_true rfl) h
theorem bk_X8_percent_0 {d : Nat} {P : Int → mmM → Prop} {mem : mmM} {x0 : Int}
  (q1 : P (max 0 (min 100 x0)) mem)
  (hd1 : 1 ≤ d := by omega)
  (s1 : R32 x0 := by intros; omega)
  : mmT bX8_percent d 0 0 (mQ 0 P) 0 [(0, x0)] [] mS mem := by
  refine st_iconst dX8_percent_0 ?_
  refine st_bipush rfl dX8_percent_1 ?_
  refine st_iload_n (i := 0) rfl rfl dX8_percent_3 ?_
  refine sr_mmin ⟨by decide, by decide⟩ s1 mr_X8_51 ms_mini mi_Math mc_mini hd1 (Nat.le_of_ble_eq_true rfl) dX8_percent_4 ?_
  refine sr_mmax ⟨by decide, by decide⟩ (imin32_rng ⟨by decide, by decide⟩ s1) mr_X8_98 ms_maxi mi_Math mc_maxi hd1 (Nat.le_of_ble_eq_true rfl) dX8_percent_7 ?_
  exact st_ireturn rfl dX8_percent_10 (mQ.ret q1)
theorem cn_X11_isActor {d : Nat} {P : Int → mmM → Prop} {mem : mmM} {x0 : Int} (h : mmT bX11_isActor d 0 0 (mQ 0 P) 0 [(0, x0)] [] mS mem) : con 0 bX11_isActor d [(0, x0)] mem P := mmC_of [(0, x0)] ok_X11_isActor.2.2.2.2 rfl (Nat.le_of_ble_eq_true rfl) h
theorem bk_X11_isActor_0 {d : Nat} {P : Int → mmM → Prop} {mem : mmM} {x0 : Int}
  (q1 : x0 < 0 → P 0 mem)
  (q2 : 0 ≤ x0 → 8 ≤ x0 → P 0 mem)
  (q3 : 0 ≤ x0 → x0 < 8 → P 1 mem)
  (s1 : R32 x0 := by intros; omega)
  : mmT bX11_isActor d 0 0 (mQ 0 P) 0 [(0, x0)] [] mS mem := by
  refine st_iload_n (i := 0) rfl rfl dX11_isActor_0 ?_
  refine sr_if_lt 14 s1 (by decide) dX11_isActor_1 (fun h1 => ?_) (fun h1 => ?_)
  · have h1 : x0 < 0 := by omega
    refine st_iconst dX11_isActor_14 ?_
    exact st_zreturn rfl (by decide) dX11_isActor_15 (mQ.ret (q1 h1))
  · have h1 : 0 ≤ x0 := by omega
    refine st_iload_n (i := 0) rfl rfl dX11_isActor_4 ?_
    refine st_bipush rfl dX11_isActor_5 ?_
    refine sr_icmp_ge 14 s1 ⟨by decide, by decide⟩ (by decide) dX11_isActor_7 (fun h2 => ?_) (fun h2 => ?_)
    · have h2 : 8 ≤ x0 := by omega
      refine st_iconst dX11_isActor_14 ?_
      exact st_zreturn rfl (by decide) dX11_isActor_15 (mQ.ret (q2 h1 h2))
    · have h2 : x0 < 8 := by omega
      refine st_iconst dX11_isActor_10 ?_
      refine st_goto 15 (by decide) dX11_isActor_11 ?_
      exact st_zreturn rfl (by decide) dX11_isActor_15 (mQ.ret (q3 h1 h2))
theorem cn_X11_isMostSaid {d : Nat} {P : Int → mmM → Prop} {mem : mmM} {x0 : Int} (h : mmT bX11_isMostSaid d 0 0 (mQ 0 P) 0 [(0, x0)] [] mS mem) : con 0 bX11_isMostSaid d [(0, x0)] mem P := mmC_of [(0, x0)] ok_X11_isMostSaid.2.2.2.2 rfl (Nat.le_of_ble_eq_true rfl) h
theorem bk_X11_isMostSaid_0 {d : Nat} {P : Int → mmM → Prop} {mem : mmM} {x0 : Int}
  (q1 : x0 < 1 → P 0 mem)
  (q2 : 1 ≤ x0 → 200 < x0 → P 0 mem)
  (q3 : 1 ≤ x0 → x0 ≤ 200 → P 1 mem)
  (s1 : R32 x0 := by intros; omega)
  : mmT bX11_isMostSaid d 0 0 (mQ 0 P) 0 [(0, x0)] [] mS mem := by
  refine st_iload_n (i := 0) rfl rfl dX11_isMostSaid_0 ?_
  refine st_iconst dX11_isMostSaid_1 ?_
  refine sr_icmp_lt 16 s1 ⟨by decide, by decide⟩ (by decide) dX11_isMostSaid_2 (fun h1 => ?_) (fun h1 => ?_)
  · have h1 : x0 < 1 := by omega
    refine st_iconst dX11_isMostSaid_16 ?_
    exact st_zreturn rfl (by decide) dX11_isMostSaid_17 (mQ.ret (q1 h1))
  · have h1 : 1 ≤ x0 := by omega
    refine st_iload_n (i := 0) rfl rfl dX11_isMostSaid_5 ?_
    refine st_sipush rfl dX11_isMostSaid_6 ?_
    refine sr_icmp_gt 16 s1 ⟨by decide, by decide⟩ (by decide) dX11_isMostSaid_9 (fun h2 => ?_) (fun h2 => ?_)
    · have h2 : 200 < x0 := by omega
      refine st_iconst dX11_isMostSaid_16 ?_
      exact st_zreturn rfl (by decide) dX11_isMostSaid_17 (mQ.ret (q2 h1 h2))
    · have h2 : x0 ≤ 200 := by omega
      refine st_iconst dX11_isMostSaid_12 ?_
      refine st_goto 17 (by decide) dX11_isMostSaid_13 ?_
      exact st_zreturn rfl (by decide) dX11_isMostSaid_17 (mQ.ret (q3 h1 h2))
theorem cn_X6_isMarked {d : Nat} {P : Int → mmM → Prop} {mem : mmM} {x1 : Int} (h : mmT bX6_isMarked d 0 0 (mQ 0 P) 0 [(2, 47), (0, x1)] [] mS mem) : con 0 bX6_isMarked d [(2, 47), (0, x1)] mem P := mmC_of [(2, 47), (0, x1)] ok_X6_isMarked.2.2.2.2 rfl (Nat.le_of_ble_eq_true rfl) h
theorem bk_X6_isMarked_0 {d : Nat} {P : Int → mmM → Prop} {mem : mmM} {x1 : Int}
  (q1 : (and32 (shr32 (mem 47 0) x1) 1) = 0 → P 0 mem)
  (q2 : ¬ (and32 (shr32 (mem 47 0) x1) 1) = 0 → P 1 mem)
  : mmT bX6_isMarked d 0 0 (mQ 0 P) 0 [(2, 47), (0, x1)] [] mS mem := by
  refine st_aload_n (i := 0) rfl (t := 0) rfl (by decide) dX6_isMarked_0 ?_
  refine so_getI (v := (mem 47 0)) 47 0 fr_X6_18_6 rfl sh_47 rfl dX6_isMarked_1 (fun r1 => ?_)
  refine st_iload_n (i := 1) rfl rfl dX6_isMarked_4 ?_
  refine st_ishr dX6_isMarked_5 ?_
  refine st_iconst dX6_isMarked_6 ?_
  refine st_iand dX6_isMarked_7 ?_
  refine sr_if_eq 15 (and32_rng (shr32 (mem 47 0) x1) 1) (by decide) dX6_isMarked_8 (fun h1 => ?_) (fun h1 => ?_)
  · have h1 : (and32 (shr32 (mem 47 0) x1) 1) = 0 := by omega
    refine st_iconst dX6_isMarked_15 ?_
    exact st_zreturn rfl (by decide) dX6_isMarked_16 (mQ.ret (q1 h1))
  · have h1 : ¬ (and32 (shr32 (mem 47 0) x1) 1) = 0 := by omega
    refine st_iconst dX6_isMarked_11 ?_
    refine st_goto 16 (by decide) dX6_isMarked_12 ?_
    exact st_zreturn rfl (by decide) dX6_isMarked_16 (mQ.ret (q2 h1))
theorem cn_X6_couldBe {d : Nat} {P : Int → mmM → Prop} {mem : mmM} {x1 : Int} (h : mmT bX6_couldBe d 0 0 (mQ 0 P) 0 [(2, 47), (0, x1)] [] mS mem) : con 0 bX6_couldBe d [(2, 47), (0, x1)] mem P := mmC_of [(2, 47), (0, x1)] ok_X6_couldBe.2.2.2.2 rfl (Nat.le_of_ble_eq_true rfl) h
theorem bk_X6_couldBe_0 {d : Nat} {P : Int → mmM → Prop} {mem : mmM} {x1 : Int}
  (q1 : (and32 (shr32 (mem 47 1) x1) 1) = 0 → P 0 mem)
  (q2 : ¬ (and32 (shr32 (mem 47 1) x1) 1) = 0 → P 1 mem)
  : mmT bX6_couldBe d 0 0 (mQ 0 P) 0 [(2, 47), (0, x1)] [] mS mem := by
  refine st_aload_n (i := 0) rfl (t := 0) rfl (by decide) dX6_couldBe_0 ?_
  refine so_getI (v := (mem 47 1)) 47 1 fr_X6_22_6 rfl sh_47 rfl dX6_couldBe_1 (fun r1 => ?_)
  refine st_iload_n (i := 1) rfl rfl dX6_couldBe_4 ?_
  refine st_ishr dX6_couldBe_5 ?_
  refine st_iconst dX6_couldBe_6 ?_
  refine st_iand dX6_couldBe_7 ?_
  refine sr_if_eq 15 (and32_rng (shr32 (mem 47 1) x1) 1) (by decide) dX6_couldBe_8 (fun h1 => ?_) (fun h1 => ?_)
  · have h1 : (and32 (shr32 (mem 47 1) x1) 1) = 0 := by omega
    refine st_iconst dX6_couldBe_15 ?_
    exact st_zreturn rfl (by decide) dX6_couldBe_16 (mQ.ret (q1 h1))
  · have h1 : ¬ (and32 (shr32 (mem 47 1) x1) 1) = 0 := by omega
    refine st_iconst dX6_couldBe_11 ?_
    refine st_goto 16 (by decide) dX6_couldBe_12 ?_
    exact st_zreturn rfl (by decide) dX6_couldBe_16 (mQ.ret (q2 h1))
theorem cn_X12_in {d : Nat} {P : Int → mmM → Prop} {mem : mmM} {x0 x1 x2 : Int} (h : mmT bX12_in d 0 0 (mQ 0 P) 0 [(0, x0), (0, x1), (0, x2)] [] mS mem) : con 0 bX12_in d [(0, x0), (0, x1), (0, x2)] mem P := mmC_of [(0, x0), (0, x1), (0, x2)] ok_X12_in.2.2.2.2 rfl (Nat.le_of_ble_eq_true rfl) h
theorem bk_X12_in_0 {d : Nat} {P : Int → mmM → Prop} {mem : mmM} {x0 x1 x2 : Int}
  (q1 : x0 < x1 → P 0 mem)
  (q2 : x1 ≤ x0 → x2 < x0 → P 0 mem)
  (q3 : x1 ≤ x0 → x0 ≤ x2 → P 1 mem)
  (s1 : R32 x0 := by intros; omega)
  (s2 : R32 x1 := by intros; omega)
  (s3 : x1 ≤ x0 → R32 x2 := by intros; omega)
  : mmT bX12_in d 0 0 (mQ 0 P) 0 [(0, x0), (0, x1), (0, x2)] [] mS mem := by
  refine st_iload_n (i := 0) rfl rfl dX12_in_0 ?_
  refine st_iload_n (i := 1) rfl rfl dX12_in_1 ?_
  refine sr_icmp_lt 14 s1 s2 (by decide) dX12_in_2 (fun h1 => ?_) (fun h1 => ?_)
  · have h1 : x0 < x1 := by omega
    refine st_iconst dX12_in_14 ?_
    exact st_zreturn rfl (by decide) dX12_in_15 (mQ.ret (q1 h1))
  · have h1 : x1 ≤ x0 := by omega
    refine st_iload_n (i := 0) rfl rfl dX12_in_5 ?_
    refine st_iload_n (i := 2) rfl rfl dX12_in_6 ?_
    refine sr_icmp_gt 14 s1 (s3 h1) (by decide) dX12_in_7 (fun h2 => ?_) (fun h2 => ?_)
    · have h2 : x2 < x0 := by omega
      refine st_iconst dX12_in_14 ?_
      exact st_zreturn rfl (by decide) dX12_in_15 (mQ.ret (q2 h1 h2))
    · have h2 : x0 ≤ x2 := by omega
      refine st_iconst dX12_in_10 ?_
      refine st_goto 15 (by decide) dX12_in_11 ?_
      exact st_zreturn rfl (by decide) dX12_in_15 (mQ.ret (q3 h1 h2))
theorem cn_X12_has {d : Nat} {P : Int → mmM → Prop} {mem : mmM} {x0 x1 : Int} (h : mmT bX12_has d 0 0 (mQ 0 P) 0 [(0, x0), (0, x1)] [] mS mem) : con 0 bX12_has d [(0, x0), (0, x1)] mem P := mmC_of [(0, x0), (0, x1)] ok_X12_has.2.2.2.2 rfl (Nat.le_of_ble_eq_true rfl) h
theorem bk_X12_has_0 {d : Nat} {P : Int → mmM → Prop} {mem : mmM} {x0 x1 : Int}
  (q1 : ¬ (and32 (shr32 x0 x1) 1) = 1 → P 0 mem)
  (q2 : (and32 (shr32 x0 x1) 1) = 1 → P 1 mem)
  : mmT bX12_has d 0 0 (mQ 0 P) 0 [(0, x0), (0, x1)] [] mS mem := by
  refine st_iload_n (i := 0) rfl rfl dX12_has_0 ?_
  refine st_iload_n (i := 1) rfl rfl dX12_has_1 ?_
  refine st_ishr dX12_has_2 ?_
  refine st_iconst dX12_has_3 ?_
  refine st_iand dX12_has_4 ?_
  refine st_iconst dX12_has_5 ?_
  refine sr_icmp_ne 13 (and32_rng (shr32 x0 x1) 1) ⟨by decide, by decide⟩ (by decide) dX12_has_6 (fun h1 => ?_) (fun h1 => ?_)
  · have h1 : ¬ (and32 (shr32 x0 x1) 1) = 1 := by omega
    refine st_iconst dX12_has_13 ?_
    exact st_zreturn rfl (by decide) dX12_has_14 (mQ.ret (q1 h1))
  · have h1 : (and32 (shr32 x0 x1) 1) = 1 := by omega
    refine st_iconst dX12_has_9 ?_
    refine st_goto 14 (by decide) dX12_has_10 ?_
    exact st_zreturn rfl (by decide) dX12_has_14 (mQ.ret (q2 h1))
theorem cn_X12_here {d : Nat} {P : Int → mmM → Prop} {mem : mmM} (h : mmT bX12_here d 0 0 (mQ 0 P) 0 [(2, 65)] [] mS mem) : con 0 bX12_here d [(2, 65)] mem P := mmC_of [(2, 65)] ok_X12_here.2.2.2.2 rfl (Nat.le_of_ble_eq_true rfl) h
theorem bk_X12_here_0 {d : Nat} {P : Int → mmM → Prop} {mem : mmM}
  (q1 : (mem 65 2) ≤ (mem 65 3) → P (-1) mem)
  (q2 : (mem 65 3) < (mem 65 2) → P (mem 66 (mem 65 3)) mem)
  (s1 : (mem 65 3) < (mem 65 2) → 0 ≤ (mem 65 3) ∧ (mem 65 3) < 160 := by intros; omega)
  : mmT bX12_here d 0 0 (mQ 0 P) 0 [(2, 65)] [] mS mem := by
  refine st_aload_n (i := 0) rfl (t := 0) rfl (by decide) dX12_here_0 ?_
  refine so_getI (v := (mem 65 3)) 65 3 fr_X12_124_11 rfl sh_65 rfl dX12_here_1 (fun r1 => ?_)
  refine st_aload_n (i := 0) rfl (t := 0) rfl (by decide) dX12_here_4 ?_
  refine so_getI (v := (mem 65 2)) 65 2 fr_X12_121_11 rfl sh_65 rfl dX12_here_5 (fun r2 => ?_)
  refine sr_icmp_ge 23 r1 r2 (by decide) dX12_here_8 (fun h1 => ?_) (fun h1 => ?_)
  · have h1 : (mem 65 2) ≤ (mem 65 3) := by omega
    refine st_iconst dX12_here_23 ?_
    exact st_ireturn rfl dX12_here_24 (mQ.ret (q1 h1))
  · have h1 : (mem 65 3) < (mem 65 2) := by omega
    refine st_aload_n (i := 0) rfl (t := 0) rfl (by decide) dX12_here_11 ?_
    refine so_getA 65 1 fr_X12_9_11 rfl sh_65 fx_65_1 dX12_here_12 ?_
    refine st_aload_n (i := 0) rfl (t := 0) rfl (by decide) dX12_here_15 ?_
    refine so_getI (v := (mem 65 3)) 65 3 fr_X12_124_11 rfl sh_65 rfl dX12_here_16 (fun r3 => ?_)
    refine so_iald (v := (mem 66 (mem 65 3))) 66 rfl sh_66 (by decide) (s1 h1) rfl dX12_here_19 (fun r4 => ?_)
    refine st_goto 24 (by decide) dX12_here_20 ?_
    exact st_ireturn rfl dX12_here_24 (mQ.ret (q2 h1))
theorem cn_X12_isDigit {d : Nat} {P : Int → mmM → Prop} {mem : mmM} {x0 : Int} (h : mmT bX12_isDigit d 0 0 (mQ 0 P) 0 [(0, x0)] [] mS mem) : con 0 bX12_isDigit d [(0, x0)] mem P := mmC_of [(0, x0)] ok_X12_isDigit.2.2.2.2 rfl (Nat.le_of_ble_eq_true rfl) h
theorem bk_X12_isDigit_0 {d : Nat} {P : Int → mmM → Prop} {mem : mmM} {x0 : Int}
  (q1 : x0 < 48 → P 0 mem)
  (q2 : 48 ≤ x0 → 57 < x0 → P 0 mem)
  (q3 : 48 ≤ x0 → x0 ≤ 57 → P 1 mem)
  (s1 : R32 x0 := by intros; omega)
  : mmT bX12_isDigit d 0 0 (mQ 0 P) 0 [(0, x0)] [] mS mem := by
  refine st_iload_n (i := 0) rfl rfl dX12_isDigit_0 ?_
  refine st_bipush rfl dX12_isDigit_1 ?_
  refine sr_icmp_lt 16 s1 ⟨by decide, by decide⟩ (by decide) dX12_isDigit_3 (fun h1 => ?_) (fun h1 => ?_)
  · have h1 : x0 < 48 := by omega
    refine st_iconst dX12_isDigit_16 ?_
    exact st_zreturn rfl (by decide) dX12_isDigit_17 (mQ.ret (q1 h1))
  · have h1 : 48 ≤ x0 := by omega
    refine st_iload_n (i := 0) rfl rfl dX12_isDigit_6 ?_
    refine st_bipush rfl dX12_isDigit_7 ?_
    refine sr_icmp_gt 16 s1 ⟨by decide, by decide⟩ (by decide) dX12_isDigit_9 (fun h2 => ?_) (fun h2 => ?_)
    · have h2 : 57 < x0 := by omega
      refine st_iconst dX12_isDigit_16 ?_
      exact st_zreturn rfl (by decide) dX12_isDigit_17 (mQ.ret (q2 h1 h2))
    · have h2 : x0 ≤ 57 := by omega
      refine st_iconst dX12_isDigit_12 ?_
      refine st_goto 17 (by decide) dX12_isDigit_13 ?_
      exact st_zreturn rfl (by decide) dX12_isDigit_17 (mQ.ret (q3 h1 h2))
theorem cn_X12_isSign {d : Nat} {P : Int → mmM → Prop} {mem : mmM} {x0 : Int} (h : mmT bX12_isSign d 0 0 (mQ 0 P) 0 [(0, x0)] [] mS mem) : con 0 bX12_isSign d [(0, x0)] mem P := mmC_of [(0, x0)] ok_X12_isSign.2.2.2.2 rfl (Nat.le_of_ble_eq_true rfl) h
theorem bk_X12_isSign_0 {d : Nat} {P : Int → mmM → Prop} {mem : mmM} {x0 : Int}
  (q1 : x0 = 61 → P 1 mem)
  (q2 : ¬ x0 = 61 → x0 = 60 → P 1 mem)
  (q3 : ¬ x0 = 61 → ¬ x0 = 60 → ¬ x0 = 62 → P 0 mem)
  (q4 : ¬ x0 = 61 → ¬ x0 = 60 → x0 = 62 → P 1 mem)
  (s1 : R32 x0 := by intros; omega)
  : mmT bX12_isSign d 0 0 (mQ 0 P) 0 [(0, x0)] [] mS mem := by
  refine st_iload_n (i := 0) rfl rfl dX12_isSign_0 ?_
  refine st_bipush rfl dX12_isSign_1 ?_
  refine sr_icmp_eq 18 s1 ⟨by decide, by decide⟩ (by decide) dX12_isSign_3 (fun h1 => ?_) (fun h1 => ?_)
  · have h1 : x0 = 61 := by omega
    refine st_iconst dX12_isSign_18 ?_
    refine st_goto 23 (by decide) dX12_isSign_19 ?_
    exact st_zreturn rfl (by decide) dX12_isSign_23 (mQ.ret (q1 h1))
  · have h1 : ¬ x0 = 61 := by omega
    refine st_iload_n (i := 0) rfl rfl dX12_isSign_6 ?_
    refine st_bipush rfl dX12_isSign_7 ?_
    refine sr_icmp_eq 18 s1 ⟨by decide, by decide⟩ (by decide) dX12_isSign_9 (fun h2 => ?_) (fun h2 => ?_)
    · have h2 : x0 = 60 := by omega
      refine st_iconst dX12_isSign_18 ?_
      refine st_goto 23 (by decide) dX12_isSign_19 ?_
      exact st_zreturn rfl (by decide) dX12_isSign_23 (mQ.ret (q2 h1 h2))
    · have h2 : ¬ x0 = 60 := by omega
      refine st_iload_n (i := 0) rfl rfl dX12_isSign_12 ?_
      refine st_bipush rfl dX12_isSign_13 ?_
      refine sr_icmp_ne 22 s1 ⟨by decide, by decide⟩ (by decide) dX12_isSign_15 (fun h3 => ?_) (fun h3 => ?_)
      · have h3 : ¬ x0 = 62 := by omega
        refine st_iconst dX12_isSign_22 ?_
        exact st_zreturn rfl (by decide) dX12_isSign_23 (mQ.ret (q3 h1 h2 h3))
      · have h3 : x0 = 62 := by omega
        refine st_iconst dX12_isSign_18 ?_
        refine st_goto 23 (by decide) dX12_isSign_19 ?_
        exact st_zreturn rfl (by decide) dX12_isSign_23 (mQ.ret (q4 h1 h2 h3))
theorem cn_X12_letterOf {d : Nat} {P : Int → mmM → Prop} {mem : mmM} {x0 : Int} (h : mmT bX12_letterOf d 0 0 (mQ 0 P) 0 [(0, x0)] [] mS mem) : con 0 bX12_letterOf d [(0, x0)] mem P := mmC_of [(0, x0)] ok_X12_letterOf.2.2.2.2 rfl (Nat.le_of_ble_eq_true rfl) h
theorem bk_X12_letterOf_0 {d : Nat} {P : Int → mmM → Prop} {mem : mmM} {x0 : Int}
  (q1 : ¬ x0 = 97 → ¬ x0 = 115 → ¬ x0 = 108 → ¬ x0 = 103 → ¬ x0 = 99 → ¬ x0 = 109 → P (-1) mem)
  (q2 : ¬ x0 = 97 → ¬ x0 = 115 → ¬ x0 = 108 → ¬ x0 = 103 → ¬ x0 = 99 → x0 = 109 → P 5 mem)
  (q3 : ¬ x0 = 97 → ¬ x0 = 115 → ¬ x0 = 108 → ¬ x0 = 103 → x0 = 99 → P 4 mem)
  (q4 : ¬ x0 = 97 → ¬ x0 = 115 → ¬ x0 = 108 → x0 = 103 → P 3 mem)
  (q5 : ¬ x0 = 97 → ¬ x0 = 115 → x0 = 108 → P 2 mem)
  (q6 : ¬ x0 = 97 → x0 = 115 → P 1 mem)
  (q7 : x0 = 97 → P 0 mem)
  (s1 : R32 x0 := by intros; omega)
  : mmT bX12_letterOf d 0 0 (mQ 0 P) 0 [(0, x0)] [] mS mem := by
  refine st_iload_n (i := 0) rfl rfl dX12_letterOf_0 ?_
  refine st_bipush rfl dX12_letterOf_1 ?_
  refine sr_icmp_ne 10 s1 ⟨by decide, by decide⟩ (by decide) dX12_letterOf_3 (fun h1 => ?_) (fun h1 => ?_)
  · have h1 : ¬ x0 = 97 := by omega
    refine st_iload_n (i := 0) rfl rfl dX12_letterOf_10 ?_
    refine st_bipush rfl dX12_letterOf_11 ?_
    refine sr_icmp_ne 20 s1 ⟨by decide, by decide⟩ (by decide) dX12_letterOf_13 (fun h2 => ?_) (fun h2 => ?_)
    · have h2 : ¬ x0 = 115 := by omega
      refine st_iload_n (i := 0) rfl rfl dX12_letterOf_20 ?_
      refine st_bipush rfl dX12_letterOf_21 ?_
      refine sr_icmp_ne 30 s1 ⟨by decide, by decide⟩ (by decide) dX12_letterOf_23 (fun h3 => ?_) (fun h3 => ?_)
      · have h3 : ¬ x0 = 108 := by omega
        refine st_iload_n (i := 0) rfl rfl dX12_letterOf_30 ?_
        refine st_bipush rfl dX12_letterOf_31 ?_
        refine sr_icmp_ne 40 s1 ⟨by decide, by decide⟩ (by decide) dX12_letterOf_33 (fun h4 => ?_) (fun h4 => ?_)
        · have h4 : ¬ x0 = 103 := by omega
          refine st_iload_n (i := 0) rfl rfl dX12_letterOf_40 ?_
          refine st_bipush rfl dX12_letterOf_41 ?_
          refine sr_icmp_ne 50 s1 ⟨by decide, by decide⟩ (by decide) dX12_letterOf_43 (fun h5 => ?_) (fun h5 => ?_)
          · have h5 : ¬ x0 = 99 := by omega
            refine st_iload_n (i := 0) rfl rfl dX12_letterOf_50 ?_
            refine st_bipush rfl dX12_letterOf_51 ?_
            refine sr_icmp_ne 60 s1 ⟨by decide, by decide⟩ (by decide) dX12_letterOf_53 (fun h6 => ?_) (fun h6 => ?_)
            · have h6 : ¬ x0 = 109 := by omega
              refine st_iconst dX12_letterOf_60 ?_
              exact st_ireturn rfl dX12_letterOf_61 (mQ.ret (q1 h1 h2 h3 h4 h5 h6))
            · have h6 : x0 = 109 := by omega
              refine st_iconst dX12_letterOf_56 ?_
              refine st_goto 61 (by decide) dX12_letterOf_57 ?_
              exact st_ireturn rfl dX12_letterOf_61 (mQ.ret (q2 h1 h2 h3 h4 h5 h6))
          · have h5 : x0 = 99 := by omega
            refine st_iconst dX12_letterOf_46 ?_
            refine st_goto 61 (by decide) dX12_letterOf_47 ?_
            exact st_ireturn rfl dX12_letterOf_61 (mQ.ret (q3 h1 h2 h3 h4 h5))
        · have h4 : x0 = 103 := by omega
          refine st_iconst dX12_letterOf_36 ?_
          refine st_goto 61 (by decide) dX12_letterOf_37 ?_
          exact st_ireturn rfl dX12_letterOf_61 (mQ.ret (q4 h1 h2 h3 h4))
      · have h3 : x0 = 108 := by omega
        refine st_iconst dX12_letterOf_26 ?_
        refine st_goto 61 (by decide) dX12_letterOf_27 ?_
        exact st_ireturn rfl dX12_letterOf_61 (mQ.ret (q5 h1 h2 h3))
    · have h2 : x0 = 115 := by omega
      refine st_iconst dX12_letterOf_16 ?_
      refine st_goto 61 (by decide) dX12_letterOf_17 ?_
      exact st_ireturn rfl dX12_letterOf_61 (mQ.ret (q6 h1 h2))
  · have h1 : x0 = 97 := by omega
    refine st_iconst dX12_letterOf_6 ?_
    refine st_goto 61 (by decide) dX12_letterOf_7 ?_
    exact st_ireturn rfl dX12_letterOf_61 (mQ.ret (q7 h1))
theorem cn_X12_byteOf {d : Nat} {P : Int → mmM → Prop} {mem : mmM} {x0 x1 x2 x3 x4 x5 : Int} (h : mmT bX12_byteOf d 0 0 (mQ 0 P) 0 [(0, x0), (0, x1), (0, x2), (0, x3), (0, x4), (0, x5), (9, 0)] [] mS mem) : con 0 bX12_byteOf d [(0, x0), (0, x1), (0, x2), (0, x3), (0, x4), (0, x5)] mem P := mmC_of [(0, x0), (0, x1), (0, x2), (0, x3), (0, x4), (0, x5), (9, 0)] ok_X12_byteOf.2.2.2.2 rfl (Nat.le_of_ble_eq_true rfl) h
theorem bk_X12_byteOf_0 {d : Nat} {P : Int → mmM → Prop} {mem : mmM} {x0 x1 x2 x3 x4 x5 : Int}
  (q1 : 4 ≤ x5 → 8 ≤ x5 → 12 ≤ x5 → 16 ≤ x5 → P (and32 (shr32 x4 (24 - (8 * (rem32 x5 4)))) 255) mem)
  (q2 : 4 ≤ x5 → 8 ≤ x5 → 12 ≤ x5 → x5 < 16 → P (and32 (shr32 x3 (24 - (8 * (rem32 x5 4)))) 255) mem)
  (q3 : 4 ≤ x5 → 8 ≤ x5 → x5 < 12 → P (and32 (shr32 x2 (24 - (8 * (rem32 x5 4)))) 255) mem)
  (q4 : 4 ≤ x5 → x5 < 8 → P (and32 (shr32 x1 (24 - (8 * (rem32 x5 4)))) 255) mem)
  (q5 : x5 < 4 → P (and32 (shr32 x0 (24 - (8 * (rem32 x5 4)))) 255) mem)
  (s1 : R32 x5 := by intros; omega)
  : mmT bX12_byteOf d 0 0 (mQ 0 P) 0 [(0, x0), (0, x1), (0, x2), (0, x3), (0, x4), (0, x5), (9, 0)] [] mS mem := by
  refine st_iload rfl dX12_byteOf_0 ?_
  refine st_iconst dX12_byteOf_2 ?_
  refine sr_icmp_ge 10 s1 ⟨by decide, by decide⟩ (by decide) dX12_byteOf_3 (fun h1 => ?_) (fun h1 => ?_)
  · have h1 : 4 ≤ x5 := by omega
    refine st_iload rfl dX12_byteOf_10 ?_
    refine st_bipush rfl dX12_byteOf_12 ?_
    refine sr_icmp_ge 21 s1 ⟨by decide, by decide⟩ (by decide) dX12_byteOf_14 (fun h2 => ?_) (fun h2 => ?_)
    · have h2 : 8 ≤ x5 := by omega
      refine st_iload rfl dX12_byteOf_21 ?_
      refine st_bipush rfl dX12_byteOf_23 ?_
      refine sr_icmp_ge 32 s1 ⟨by decide, by decide⟩ (by decide) dX12_byteOf_25 (fun h3 => ?_) (fun h3 => ?_)
      · have h3 : 12 ≤ x5 := by omega
        refine st_iload rfl dX12_byteOf_32 ?_
        refine st_bipush rfl dX12_byteOf_34 ?_
        refine sr_icmp_ge 43 s1 ⟨by decide, by decide⟩ (by decide) dX12_byteOf_36 (fun h4 => ?_) (fun h4 => ?_)
        · have h4 : 16 ≤ x5 := by omega
          refine st_iload rfl dX12_byteOf_43 ?_
          refine st_istore (by decide) (lc' := [(0, x0), (0, x1), (0, x2), (0, x3), (0, x4), (0, x5), (0, x4)]) rfl dX12_byteOf_45 ?_
          refine st_iload rfl dX12_byteOf_47 ?_
          refine st_bipush rfl dX12_byteOf_49 ?_
          refine st_bipush rfl dX12_byteOf_51 ?_
          refine st_iload rfl dX12_byteOf_53 ?_
          refine st_iconst dX12_byteOf_55 ?_
          refine st_irem (by decide) dX12_byteOf_56 ?_
          refine st_imul dX12_byteOf_57 ?_
          refine st_isub dX12_byteOf_58 ?_
          refine st_ishr dX12_byteOf_59 ?_
          refine st_sipush rfl dX12_byteOf_60 ?_
          refine st_iand dX12_byteOf_63 ?_
          exact st_ireturn rfl dX12_byteOf_64 (mQ.ret (q1 h1 h2 h3 h4))
        · have h4 : x5 < 16 := by omega
          refine st_iload_n (i := 3) rfl rfl dX12_byteOf_39 ?_
          refine st_goto 45 (by decide) dX12_byteOf_40 ?_
          refine st_istore (by decide) (lc' := [(0, x0), (0, x1), (0, x2), (0, x3), (0, x4), (0, x5), (0, x3)]) rfl dX12_byteOf_45 ?_
          refine st_iload rfl dX12_byteOf_47 ?_
          refine st_bipush rfl dX12_byteOf_49 ?_
          refine st_bipush rfl dX12_byteOf_51 ?_
          refine st_iload rfl dX12_byteOf_53 ?_
          refine st_iconst dX12_byteOf_55 ?_
          refine st_irem (by decide) dX12_byteOf_56 ?_
          refine st_imul dX12_byteOf_57 ?_
          refine st_isub dX12_byteOf_58 ?_
          refine st_ishr dX12_byteOf_59 ?_
          refine st_sipush rfl dX12_byteOf_60 ?_
          refine st_iand dX12_byteOf_63 ?_
          exact st_ireturn rfl dX12_byteOf_64 (mQ.ret (q2 h1 h2 h3 h4))
      · have h3 : x5 < 12 := by omega
        refine st_iload_n (i := 2) rfl rfl dX12_byteOf_28 ?_
        refine st_goto 45 (by decide) dX12_byteOf_29 ?_
        refine st_istore (by decide) (lc' := [(0, x0), (0, x1), (0, x2), (0, x3), (0, x4), (0, x5), (0, x2)]) rfl dX12_byteOf_45 ?_
        refine st_iload rfl dX12_byteOf_47 ?_
        refine st_bipush rfl dX12_byteOf_49 ?_
        refine st_bipush rfl dX12_byteOf_51 ?_
        refine st_iload rfl dX12_byteOf_53 ?_
        refine st_iconst dX12_byteOf_55 ?_
        refine st_irem (by decide) dX12_byteOf_56 ?_
        refine st_imul dX12_byteOf_57 ?_
        refine st_isub dX12_byteOf_58 ?_
        refine st_ishr dX12_byteOf_59 ?_
        refine st_sipush rfl dX12_byteOf_60 ?_
        refine st_iand dX12_byteOf_63 ?_
        exact st_ireturn rfl dX12_byteOf_64 (mQ.ret (q3 h1 h2 h3))
    · have h2 : x5 < 8 := by omega
      refine st_iload_n (i := 1) rfl rfl dX12_byteOf_17 ?_
      refine st_goto 45 (by decide) dX12_byteOf_18 ?_
      refine st_istore (by decide) (lc' := [(0, x0), (0, x1), (0, x2), (0, x3), (0, x4), (0, x5), (0, x1)]) rfl dX12_byteOf_45 ?_
      refine st_iload rfl dX12_byteOf_47 ?_
      refine st_bipush rfl dX12_byteOf_49 ?_
      refine st_bipush rfl dX12_byteOf_51 ?_
      refine st_iload rfl dX12_byteOf_53 ?_
      refine st_iconst dX12_byteOf_55 ?_
      refine st_irem (by decide) dX12_byteOf_56 ?_
      refine st_imul dX12_byteOf_57 ?_
      refine st_isub dX12_byteOf_58 ?_
      refine st_ishr dX12_byteOf_59 ?_
      refine st_sipush rfl dX12_byteOf_60 ?_
      refine st_iand dX12_byteOf_63 ?_
      exact st_ireturn rfl dX12_byteOf_64 (mQ.ret (q4 h1 h2))
  · have h1 : x5 < 4 := by omega
    refine st_iload_n (i := 0) rfl rfl dX12_byteOf_6 ?_
    refine st_goto 45 (by decide) dX12_byteOf_7 ?_
    refine st_istore (by decide) (lc' := [(0, x0), (0, x1), (0, x2), (0, x3), (0, x4), (0, x5), (0, x0)]) rfl dX12_byteOf_45 ?_
    refine st_iload rfl dX12_byteOf_47 ?_
    refine st_bipush rfl dX12_byteOf_49 ?_
    refine st_bipush rfl dX12_byteOf_51 ?_
    refine st_iload rfl dX12_byteOf_53 ?_
    refine st_iconst dX12_byteOf_55 ?_
    refine st_irem (by decide) dX12_byteOf_56 ?_
    refine st_imul dX12_byteOf_57 ?_
    refine st_isub dX12_byteOf_58 ?_
    refine st_ishr dX12_byteOf_59 ?_
    refine st_sipush rfl dX12_byteOf_60 ?_
    refine st_iand dX12_byteOf_63 ?_
    exact st_ireturn rfl dX12_byteOf_64 (mQ.ret (q5 h1))
theorem cn_X12_bounded {d : Nat} {P : Int → mmM → Prop} {mem : mmM} {x0 : Int} (h : mmT bX12_bounded d 0 0 (mQ 0 P) 0 [(1, x0), (9, 0)] [] mS mem) : con 0 bX12_bounded d [(1, x0)] mem P := mmC_of [(1, x0), (9, 0)] ok_X12_bounded.2.2.2.2 rfl (Nat.le_of_ble_eq_true rfl) h
theorem bk_X12_bounded_0 {d : Nat} {P : Int → mmM → Prop} {mem : mmM} {x0 : Int}
  (q1 : P (max (-1000000) (min 1000000 x0)) mem)
  (hd1 : 1 ≤ d := by omega)
  (s1 : R64 x0 := by intros; omega)
  : mmT bX12_bounded d 0 0 (mQ 0 P) 0 [(1, x0), (9, 0)] [] mS mem := by
  refine st_ldc2 cw_X12_204 dX12_bounded_0 ?_
  refine st_ldc2 cw_X12_206 dX12_bounded_3 ?_
  refine st_lload_n (i := 0) rfl rfl dX12_bounded_6 ?_
  refine sr_mminl ⟨by decide, by decide⟩ s1 mr_X12_208 ms_minj mi_Math mc_minj hd1 (Nat.le_of_ble_eq_true rfl) dX12_bounded_7 ?_
  refine sr_mmaxl ⟨by decide, by decide⟩ (imin64_rng ⟨by decide, by decide⟩ s1) mr_X12_214 ms_maxj mi_Math mc_maxj hd1 (Nat.le_of_ble_eq_true rfl) dX12_bounded_10 ?_
  refine st_l2i dX12_bounded_13 ?_
  exact st_ireturn rfl dX12_bounded_14 (mQ.ret q1)
theorem cn_X12_cue {d : Nat} {P : Int → mmM → Prop} {mem : mmM} {x1 : Int} (h : mmT bX12_cue d 0 0 (mQ 0 P) 0 [(2, 65), (0, x1)] [] mS mem) : con 0 bX12_cue d [(2, 65), (0, x1)] mem P := mmC_of [(2, 65), (0, x1)] ok_X12_cue.2.2.2.2 rfl (Nat.le_of_ble_eq_true rfl) h
theorem bk_X12_cue_0 {d : Nat} {P : Int → mmM → Prop} {mem : mmM} {x1 : Int}
  (q1 : ¬ x1 = 0 → P (mem 80 (x1 - 1)) mem)
  (q2 : x1 = 0 → P (-1) mem)
  (s1 : R32 x1 := by intros; omega)
  (s2 : ¬ x1 = 0 → 0 ≤ (x1 - 1) ∧ (x1 - 1) < 24 := by intros; omega)
  : mmT bX12_cue d 0 0 (mQ 0 P) 0 [(2, 65), (0, x1)] [] mS mem := by
  refine st_iload_n (i := 1) rfl rfl dX12_cue_0 ?_
  refine sr_if_ne 8 s1 (by decide) dX12_cue_1 (fun h1 => ?_) (fun h1 => ?_)
  · have h1 : ¬ x1 = 0 := by omega
    refine st_aload_n (i := 0) rfl (t := 0) rfl (by decide) dX12_cue_8 ?_
    refine so_getA 65 23 fr_X12_52_11 rfl sh_65 fx_65_23 dX12_cue_9 ?_
    refine st_iload_n (i := 1) rfl rfl dX12_cue_12 ?_
    refine st_iconst dX12_cue_13 ?_
    refine st_isub dX12_cue_14 ?_
    refine so_iald (v := (mem 80 (x1 - 1))) 80 rfl sh_80 (by decide) (s2 h1) rfl dX12_cue_15 (fun r1 => ?_)
    exact st_ireturn rfl dX12_cue_16 (mQ.ret (q1 h1))
  · have h1 : x1 = 0 := by omega
    refine st_iconst dX12_cue_4 ?_
    refine st_goto 16 (by decide) dX12_cue_5 ?_
    exact st_ireturn rfl dX12_cue_16 (mQ.ret (q2 h1))
theorem cn_X12_thrown {d : Nat} {P : Int → mmM → Prop} {mem : mmM} (h : mmT bX12_thrown d 0 0 (mQ 0 P) 0 [(2, 65)] [] mS mem) : con 0 bX12_thrown d [(2, 65)] mem P := mmC_of [(2, 65)] ok_X12_thrown.2.2.2.2 rfl (Nat.le_of_ble_eq_true rfl) h
theorem bk_X12_thrown_0 {d : Nat} {P : Int → mmM → Prop} {mem : mmM}
  (q1 : P (mem 65 0) mem)
  : mmT bX12_thrown d 0 0 (mQ 0 P) 0 [(2, 65)] [] mS mem := by
  refine st_aload_n (i := 0) rfl (t := 0) rfl (by decide) dX12_thrown_0 ?_
  refine so_getI (v := (mem 65 0)) 65 0 fr_X12_114_11 rfl sh_65 rfl dX12_thrown_1 (fun r1 => ?_)
  exact st_ireturn rfl dX12_thrown_4 (mQ.ret q1)
