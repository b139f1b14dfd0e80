/-! the highest bit of a set of speeches -/
theorem p2_of {a b : Int} (a0 : 0 ≤ a) (b0 : 0 ≤ b) (h : p2 a < p2 b) : a < b := by
  by_cases q : a < b
  · exact q
  · have := p2_mono (i := b) (j := a) (by omega)
    omega
theorem nlz_fin {x lo t y : Int} (h : p2 lo ≤ x ∧ x < p2 (lo + 1)) (l0 : 0 ≤ lo) (t0 : 0 ≤ t) (hy : (y = 0 ∧ p2 t ≤ x ∧ x < p2 (t + 1)) ∨ (y = 1 ∧ p2 (t + 1) ≤ x ∧ x < p2 (t + 2))) : lo = t + y := by
  rcases hy with ⟨rfl, h1, h2⟩ | ⟨rfl, h1, h2⟩
  · have a := p2_of l0 (b := t + 1) (by omega) (by omega)
    have b := p2_of t0 (b := lo + 1) (by omega) (by omega)
    omega
  · have a := p2_of l0 (b := t + 2) (by omega) (by omega)
    have b := p2_of (a := t + 1) (b := lo + 1) (by omega) (by omega) (by omega)
    omega
theorem ushr_lit {x k p : Int} (h0 : 0 ≤ x) (h1 : x < 2147483648) (k0 : 0 ≤ k) (k1 : k < 32) (hp : p2 k = p) : ushr32 x k = x / p := by
  rw [ushr32_eq h0 h1 k0 k1, hp]
theorem cn_J6_numberOfLeadingZeros_0f7a4 {d : Nat} {P : Int → mmM → Prop} {mem : mmM} {x0 : Int} (h : mmT bJ6_numberOfLeadingZeros_0f7a4 d 0 0 (mQ 0 P) 0 [(0, x0), (9, 0)] [] mS mem) : con 0 bJ6_numberOfLeadingZeros_0f7a4 d [(0, x0)] mem P := mmC_of [(0, x0), (9, 0)] ok_J6_numberOfLeadingZeros_0f7a4.2.2.2.2 rfl (Nat.le_of_ble_eq_true rfl) h
theorem bk_J6_numberOfLeadingZeros_0f7a4_0 {d : Nat} {P : Int → mmM → Prop} {mem : mmM} {x0 : Int}
  (q1 : 0 < x0 → x0 < 65536 → x0 < 256 → x0 < 16 → x0 < 4 → P (31 - (ushr32 x0 1)) mem)
  (q2 : 0 < x0 → x0 < 65536 → x0 < 256 → x0 < 16 → 4 ≤ x0 → P ((31 + (-2)) - (ushr32 (ushr32 x0 2) 1)) mem)
  (q3 : 0 < x0 → x0 < 65536 → x0 < 256 → 16 ≤ x0 → (ushr32 x0 4) < 4 → P ((31 + (-4)) - (ushr32 (ushr32 x0 4) 1)) mem)
  (q4 : 0 < x0 → x0 < 65536 → x0 < 256 → 16 ≤ x0 → 4 ≤ (ushr32 x0 4) → P (((31 + (-4)) + (-2)) - (ushr32 (ushr32 (ushr32 x0 4) 2) 1)) mem)
  (q5 : 0 < x0 → x0 < 65536 → 256 ≤ x0 → (ushr32 x0 8) < 16 → (ushr32 x0 8) < 4 → P ((31 + (-8)) - (ushr32 (ushr32 x0 8) 1)) mem)
  (q6 : 0 < x0 → x0 < 65536 → 256 ≤ x0 → (ushr32 x0 8) < 16 → 4 ≤ (ushr32 x0 8) → P (((31 + (-8)) + (-2)) - (ushr32 (ushr32 (ushr32 x0 8) 2) 1)) mem)
  (q7 : 0 < x0 → x0 < 65536 → 256 ≤ x0 → 16 ≤ (ushr32 x0 8) → (ushr32 (ushr32 x0 8) 4) < 4 → P (((31 + (-8)) + (-4)) - (ushr32 (ushr32 (ushr32 x0 8) 4) 1)) mem)
  (q8 : 0 < x0 → x0 < 65536 → 256 ≤ x0 → 16 ≤ (ushr32 x0 8) → 4 ≤ (ushr32 (ushr32 x0 8) 4) → P ((((31 + (-8)) + (-4)) + (-2)) - (ushr32 (ushr32 (ushr32 (ushr32 x0 8) 4) 2) 1)) mem)
  (q9 : 0 < x0 → 65536 ≤ x0 → (ushr32 x0 16) < 256 → (ushr32 x0 16) < 16 → (ushr32 x0 16) < 4 → P ((31 + (-16)) - (ushr32 (ushr32 x0 16) 1)) mem)
  (q10 : 0 < x0 → 65536 ≤ x0 → (ushr32 x0 16) < 256 → (ushr32 x0 16) < 16 → 4 ≤ (ushr32 x0 16) → P (((31 + (-16)) + (-2)) - (ushr32 (ushr32 (ushr32 x0 16) 2) 1)) mem)
  (q11 : 0 < x0 → 65536 ≤ x0 → (ushr32 x0 16) < 256 → 16 ≤ (ushr32 x0 16) → (ushr32 (ushr32 x0 16) 4) < 4 → P (((31 + (-16)) + (-4)) - (ushr32 (ushr32 (ushr32 x0 16) 4) 1)) mem)
  (q12 : 0 < x0 → 65536 ≤ x0 → (ushr32 x0 16) < 256 → 16 ≤ (ushr32 x0 16) → 4 ≤ (ushr32 (ushr32 x0 16) 4) → P ((((31 + (-16)) + (-4)) + (-2)) - (ushr32 (ushr32 (ushr32 (ushr32 x0 16) 4) 2) 1)) mem)
  (q13 : 0 < x0 → 65536 ≤ x0 → 256 ≤ (ushr32 x0 16) → (ushr32 (ushr32 x0 16) 8) < 16 → (ushr32 (ushr32 x0 16) 8) < 4 → P (((31 + (-16)) + (-8)) - (ushr32 (ushr32 (ushr32 x0 16) 8) 1)) mem)
  (q14 : 0 < x0 → 65536 ≤ x0 → 256 ≤ (ushr32 x0 16) → (ushr32 (ushr32 x0 16) 8) < 16 → 4 ≤ (ushr32 (ushr32 x0 16) 8) → P ((((31 + (-16)) + (-8)) + (-2)) - (ushr32 (ushr32 (ushr32 (ushr32 x0 16) 8) 2) 1)) mem)
  (q15 : 0 < x0 → 65536 ≤ x0 → 256 ≤ (ushr32 x0 16) → 16 ≤ (ushr32 (ushr32 x0 16) 8) → (ushr32 (ushr32 (ushr32 x0 16) 8) 4) < 4 → P ((((31 + (-16)) + (-8)) + (-4)) - (ushr32 (ushr32 (ushr32 (ushr32 x0 16) 8) 4) 1)) mem)
  (q16 : 0 < x0 → 65536 ≤ x0 → 256 ≤ (ushr32 x0 16) → 16 ≤ (ushr32 (ushr32 x0 16) 8) → 4 ≤ (ushr32 (ushr32 (ushr32 x0 16) 8) 4) → P (((((31 + (-16)) + (-8)) + (-4)) + (-2)) - (ushr32 (ushr32 (ushr32 (ushr32 (ushr32 x0 16) 8) 4) 2) 1)) mem)
  (q17 : x0 ≤ 0 → ¬ x0 = 0 → P 0 mem)
  (q18 : x0 ≤ 0 → x0 = 0 → P 32 mem)
  (s1 : R32 x0 := by intros; first | omega | assumption | solve_by_elim)
  : mmT bJ6_numberOfLeadingZeros_0f7a4 d 0 0 (mQ 0 P) 0 [(0, x0), (9, 0)] [] mS mem := by
  refine st_iload_n (i := 0) rfl rfl dJ6_numberOfLeadingZeros_0f7a4_0 ?_
  refine sr_if_gt 15 s1 (by decide) dJ6_numberOfLeadingZeros_0f7a4_1 (fun h1 => ?_) (fun h1 => ?_)
  · have h1 : 0 < x0 := by omega
    refine st_bipush rfl dJ6_numberOfLeadingZeros_0f7a4_15 ?_
    refine st_istore_n (i := 1) rfl (by decide) (lc' := [(0, x0), (0, 31)]) rfl dJ6_numberOfLeadingZeros_0f7a4_17 ?_
    refine st_iload_n (i := 0) rfl rfl dJ6_numberOfLeadingZeros_0f7a4_18 ?_
    refine st_ldcw cw_J6_264 dJ6_numberOfLeadingZeros_0f7a4_19 ?_
    refine sr_icmp_lt 33 s1 ⟨by decide, by decide⟩ (by decide) dJ6_numberOfLeadingZeros_0f7a4_22 (fun h2 => ?_) (fun h2 => ?_)
    · have h2 : x0 < 65536 := by omega
      refine st_iload_n (i := 0) rfl rfl dJ6_numberOfLeadingZeros_0f7a4_33 ?_
      refine st_sipush rfl dJ6_numberOfLeadingZeros_0f7a4_34 ?_
      refine sr_icmp_lt 48 s1 ⟨by decide, by decide⟩ (by decide) dJ6_numberOfLeadingZeros_0f7a4_37 (fun h3 => ?_) (fun h3 => ?_)
      · have h3 : x0 < 256 := by omega
        refine st_iload_n (i := 0) rfl rfl dJ6_numberOfLeadingZeros_0f7a4_48 ?_
        refine st_bipush rfl dJ6_numberOfLeadingZeros_0f7a4_49 ?_
        refine sr_icmp_lt 61 s1 ⟨by decide, by decide⟩ (by decide) dJ6_numberOfLeadingZeros_0f7a4_51 (fun h4 => ?_) (fun h4 => ?_)
        · have h4 : x0 < 16 := by omega
          refine st_iload_n (i := 0) rfl rfl dJ6_numberOfLeadingZeros_0f7a4_61 ?_
          refine st_iconst dJ6_numberOfLeadingZeros_0f7a4_62 ?_
          refine sr_icmp_lt 73 s1 ⟨by decide, by decide⟩ (by decide) dJ6_numberOfLeadingZeros_0f7a4_63 (fun h5 => ?_) (fun h5 => ?_)
          · have h5 : x0 < 4 := by omega
            refine st_iload_n (i := 1) rfl rfl dJ6_numberOfLeadingZeros_0f7a4_73 ?_
            refine st_iload_n (i := 0) rfl rfl dJ6_numberOfLeadingZeros_0f7a4_74 ?_
            refine st_iconst dJ6_numberOfLeadingZeros_0f7a4_75 ?_
            refine st_iushr dJ6_numberOfLeadingZeros_0f7a4_76 ?_
            refine st_isub dJ6_numberOfLeadingZeros_0f7a4_77 ?_
            exact st_ireturn rfl dJ6_numberOfLeadingZeros_0f7a4_78 (mQ.ret (q1 h1 h2 h3 h4 h5))
          · have h5 : 4 ≤ x0 := by omega
            refine st_iinc (y := (31 + (-2))) (by decide) (i := 1) rfl rfl (lc' := [(0, x0), (0, (31 + (-2)))]) rfl dJ6_numberOfLeadingZeros_0f7a4_66 ?_
            refine st_iload_n (i := 0) rfl rfl dJ6_numberOfLeadingZeros_0f7a4_69 ?_
            refine st_iconst dJ6_numberOfLeadingZeros_0f7a4_70 ?_
            refine st_iushr dJ6_numberOfLeadingZeros_0f7a4_71 ?_
            refine st_istore_n (i := 0) rfl (by decide) (lc' := [(0, (ushr32 x0 2)), (0, (31 + (-2)))]) rfl dJ6_numberOfLeadingZeros_0f7a4_72 ?_
            refine st_iload_n (i := 1) rfl rfl dJ6_numberOfLeadingZeros_0f7a4_73 ?_
            refine st_iload_n (i := 0) rfl rfl dJ6_numberOfLeadingZeros_0f7a4_74 ?_
            refine st_iconst dJ6_numberOfLeadingZeros_0f7a4_75 ?_
            refine st_iushr dJ6_numberOfLeadingZeros_0f7a4_76 ?_
            refine st_isub dJ6_numberOfLeadingZeros_0f7a4_77 ?_
            exact st_ireturn rfl dJ6_numberOfLeadingZeros_0f7a4_78 (mQ.ret (q2 h1 h2 h3 h4 h5))
        · have h4 : 16 ≤ x0 := by omega
          refine st_iinc (y := (31 + (-4))) (by decide) (i := 1) rfl rfl (lc' := [(0, x0), (0, (31 + (-4)))]) rfl dJ6_numberOfLeadingZeros_0f7a4_54 ?_
          refine st_iload_n (i := 0) rfl rfl dJ6_numberOfLeadingZeros_0f7a4_57 ?_
          refine st_iconst dJ6_numberOfLeadingZeros_0f7a4_58 ?_
          refine st_iushr dJ6_numberOfLeadingZeros_0f7a4_59 ?_
          refine st_istore_n (i := 0) rfl (by decide) (lc' := [(0, (ushr32 x0 4)), (0, (31 + (-4)))]) rfl dJ6_numberOfLeadingZeros_0f7a4_60 ?_
          refine st_iload_n (i := 0) rfl rfl dJ6_numberOfLeadingZeros_0f7a4_61 ?_
          refine st_iconst dJ6_numberOfLeadingZeros_0f7a4_62 ?_
          refine sr_icmp_lt 73 (ushr32_rng x0 4) ⟨by decide, by decide⟩ (by decide) dJ6_numberOfLeadingZeros_0f7a4_63 (fun h6 => ?_) (fun h6 => ?_)
          · have h6 : (ushr32 x0 4) < 4 := by omega
            refine st_iload_n (i := 1) rfl rfl dJ6_numberOfLeadingZeros_0f7a4_73 ?_
            refine st_iload_n (i := 0) rfl rfl dJ6_numberOfLeadingZeros_0f7a4_74 ?_
            refine st_iconst dJ6_numberOfLeadingZeros_0f7a4_75 ?_
            refine st_iushr dJ6_numberOfLeadingZeros_0f7a4_76 ?_
            refine st_isub dJ6_numberOfLeadingZeros_0f7a4_77 ?_
            exact st_ireturn rfl dJ6_numberOfLeadingZeros_0f7a4_78 (mQ.ret (q3 h1 h2 h3 h4 h6))
          · have h6 : 4 ≤ (ushr32 x0 4) := by omega
            refine st_iinc (y := ((31 + (-4)) + (-2))) (by decide) (i := 1) rfl rfl (lc' := [(0, (ushr32 x0 4)), (0, ((31 + (-4)) + (-2)))]) rfl dJ6_numberOfLeadingZeros_0f7a4_66 ?_
            refine st_iload_n (i := 0) rfl rfl dJ6_numberOfLeadingZeros_0f7a4_69 ?_
            refine st_iconst dJ6_numberOfLeadingZeros_0f7a4_70 ?_
            refine st_iushr dJ6_numberOfLeadingZeros_0f7a4_71 ?_
            refine st_istore_n (i := 0) rfl (by decide) (lc' := [(0, (ushr32 (ushr32 x0 4) 2)), (0, ((31 + (-4)) + (-2)))]) rfl dJ6_numberOfLeadingZeros_0f7a4_72 ?_
            refine st_iload_n (i := 1) rfl rfl dJ6_numberOfLeadingZeros_0f7a4_73 ?_
            refine st_iload_n (i := 0) rfl rfl dJ6_numberOfLeadingZeros_0f7a4_74 ?_
            refine st_iconst dJ6_numberOfLeadingZeros_0f7a4_75 ?_
            refine st_iushr dJ6_numberOfLeadingZeros_0f7a4_76 ?_
            refine st_isub dJ6_numberOfLeadingZeros_0f7a4_77 ?_
            exact st_ireturn rfl dJ6_numberOfLeadingZeros_0f7a4_78 (mQ.ret (q4 h1 h2 h3 h4 h6))
      · have h3 : 256 ≤ x0 := by omega
        refine st_iinc (y := (31 + (-8))) (by decide) (i := 1) rfl rfl (lc' := [(0, x0), (0, (31 + (-8)))]) rfl dJ6_numberOfLeadingZeros_0f7a4_40 ?_
        refine st_iload_n (i := 0) rfl rfl dJ6_numberOfLeadingZeros_0f7a4_43 ?_
        refine st_bipush rfl dJ6_numberOfLeadingZeros_0f7a4_44 ?_
        refine st_iushr dJ6_numberOfLeadingZeros_0f7a4_46 ?_
        refine st_istore_n (i := 0) rfl (by decide) (lc' := [(0, (ushr32 x0 8)), (0, (31 + (-8)))]) rfl dJ6_numberOfLeadingZeros_0f7a4_47 ?_
        refine st_iload_n (i := 0) rfl rfl dJ6_numberOfLeadingZeros_0f7a4_48 ?_
        refine st_bipush rfl dJ6_numberOfLeadingZeros_0f7a4_49 ?_
        refine sr_icmp_lt 61 (ushr32_rng x0 8) ⟨by decide, by decide⟩ (by decide) dJ6_numberOfLeadingZeros_0f7a4_51 (fun h7 => ?_) (fun h7 => ?_)
        · have h7 : (ushr32 x0 8) < 16 := by omega
          refine st_iload_n (i := 0) rfl rfl dJ6_numberOfLeadingZeros_0f7a4_61 ?_
          refine st_iconst dJ6_numberOfLeadingZeros_0f7a4_62 ?_
          refine sr_icmp_lt 73 (ushr32_rng x0 8) ⟨by decide, by decide⟩ (by decide) dJ6_numberOfLeadingZeros_0f7a4_63 (fun h8 => ?_) (fun h8 => ?_)
          · have h8 : (ushr32 x0 8) < 4 := by omega
            refine st_iload_n (i := 1) rfl rfl dJ6_numberOfLeadingZeros_0f7a4_73 ?_
            refine st_iload_n (i := 0) rfl rfl dJ6_numberOfLeadingZeros_0f7a4_74 ?_
            refine st_iconst dJ6_numberOfLeadingZeros_0f7a4_75 ?_
            refine st_iushr dJ6_numberOfLeadingZeros_0f7a4_76 ?_
            refine st_isub dJ6_numberOfLeadingZeros_0f7a4_77 ?_
            exact st_ireturn rfl dJ6_numberOfLeadingZeros_0f7a4_78 (mQ.ret (q5 h1 h2 h3 h7 h8))
          · have h8 : 4 ≤ (ushr32 x0 8) := by omega
            refine st_iinc (y := ((31 + (-8)) + (-2))) (by decide) (i := 1) rfl rfl (lc' := [(0, (ushr32 x0 8)), (0, ((31 + (-8)) + (-2)))]) rfl dJ6_numberOfLeadingZeros_0f7a4_66 ?_
            refine st_iload_n (i := 0) rfl rfl dJ6_numberOfLeadingZeros_0f7a4_69 ?_
            refine st_iconst dJ6_numberOfLeadingZeros_0f7a4_70 ?_
            refine st_iushr dJ6_numberOfLeadingZeros_0f7a4_71 ?_
            refine st_istore_n (i := 0) rfl (by decide) (lc' := [(0, (ushr32 (ushr32 x0 8) 2)), (0, ((31 + (-8)) + (-2)))]) rfl dJ6_numberOfLeadingZeros_0f7a4_72 ?_
            refine st_iload_n (i := 1) rfl rfl dJ6_numberOfLeadingZeros_0f7a4_73 ?_
            refine st_iload_n (i := 0) rfl rfl dJ6_numberOfLeadingZeros_0f7a4_74 ?_
            refine st_iconst dJ6_numberOfLeadingZeros_0f7a4_75 ?_
            refine st_iushr dJ6_numberOfLeadingZeros_0f7a4_76 ?_
            refine st_isub dJ6_numberOfLeadingZeros_0f7a4_77 ?_
            exact st_ireturn rfl dJ6_numberOfLeadingZeros_0f7a4_78 (mQ.ret (q6 h1 h2 h3 h7 h8))
        · have h7 : 16 ≤ (ushr32 x0 8) := by omega
          refine st_iinc (y := ((31 + (-8)) + (-4))) (by decide) (i := 1) rfl rfl (lc' := [(0, (ushr32 x0 8)), (0, ((31 + (-8)) + (-4)))]) rfl dJ6_numberOfLeadingZeros_0f7a4_54 ?_
          refine st_iload_n (i := 0) rfl rfl dJ6_numberOfLeadingZeros_0f7a4_57 ?_
          refine st_iconst dJ6_numberOfLeadingZeros_0f7a4_58 ?_
          refine st_iushr dJ6_numberOfLeadingZeros_0f7a4_59 ?_
          refine st_istore_n (i := 0) rfl (by decide) (lc' := [(0, (ushr32 (ushr32 x0 8) 4)), (0, ((31 + (-8)) + (-4)))]) rfl dJ6_numberOfLeadingZeros_0f7a4_60 ?_
          refine st_iload_n (i := 0) rfl rfl dJ6_numberOfLeadingZeros_0f7a4_61 ?_
          refine st_iconst dJ6_numberOfLeadingZeros_0f7a4_62 ?_
          refine sr_icmp_lt 73 (ushr32_rng (ushr32 x0 8) 4) ⟨by decide, by decide⟩ (by decide) dJ6_numberOfLeadingZeros_0f7a4_63 (fun h9 => ?_) (fun h9 => ?_)
          · have h9 : (ushr32 (ushr32 x0 8) 4) < 4 := by omega
            refine st_iload_n (i := 1) rfl rfl dJ6_numberOfLeadingZeros_0f7a4_73 ?_
            refine st_iload_n (i := 0) rfl rfl dJ6_numberOfLeadingZeros_0f7a4_74 ?_
            refine st_iconst dJ6_numberOfLeadingZeros_0f7a4_75 ?_
            refine st_iushr dJ6_numberOfLeadingZeros_0f7a4_76 ?_
            refine st_isub dJ6_numberOfLeadingZeros_0f7a4_77 ?_
            exact st_ireturn rfl dJ6_numberOfLeadingZeros_0f7a4_78 (mQ.ret (q7 h1 h2 h3 h7 h9))
          · have h9 : 4 ≤ (ushr32 (ushr32 x0 8) 4) := by omega
            refine st_iinc (y := (((31 + (-8)) + (-4)) + (-2))) (by decide) (i := 1) rfl rfl (lc' := [(0, (ushr32 (ushr32 x0 8) 4)), (0, (((31 + (-8)) + (-4)) + (-2)))]) rfl dJ6_numberOfLeadingZeros_0f7a4_66 ?_
            refine st_iload_n (i := 0) rfl rfl dJ6_numberOfLeadingZeros_0f7a4_69 ?_
            refine st_iconst dJ6_numberOfLeadingZeros_0f7a4_70 ?_
            refine st_iushr dJ6_numberOfLeadingZeros_0f7a4_71 ?_
            refine st_istore_n (i := 0) rfl (by decide) (lc' := [(0, (ushr32 (ushr32 (ushr32 x0 8) 4) 2)), (0, (((31 + (-8)) + (-4)) + (-2)))]) rfl dJ6_numberOfLeadingZeros_0f7a4_72 ?_
            refine st_iload_n (i := 1) rfl rfl dJ6_numberOfLeadingZeros_0f7a4_73 ?_
            refine st_iload_n (i := 0) rfl rfl dJ6_numberOfLeadingZeros_0f7a4_74 ?_
            refine st_iconst dJ6_numberOfLeadingZeros_0f7a4_75 ?_
            refine st_iushr dJ6_numberOfLeadingZeros_0f7a4_76 ?_
            refine st_isub dJ6_numberOfLeadingZeros_0f7a4_77 ?_
            exact st_ireturn rfl dJ6_numberOfLeadingZeros_0f7a4_78 (mQ.ret (q8 h1 h2 h3 h7 h9))
    · have h2 : 65536 ≤ x0 := by omega
      refine st_iinc (y := (31 + (-16))) (by decide) (i := 1) rfl rfl (lc' := [(0, x0), (0, (31 + (-16)))]) rfl dJ6_numberOfLeadingZeros_0f7a4_25 ?_
      refine st_iload_n (i := 0) rfl rfl dJ6_numberOfLeadingZeros_0f7a4_28 ?_
      refine st_bipush rfl dJ6_numberOfLeadingZeros_0f7a4_29 ?_
      refine st_iushr dJ6_numberOfLeadingZeros_0f7a4_31 ?_
      refine st_istore_n (i := 0) rfl (by decide) (lc' := [(0, (ushr32 x0 16)), (0, (31 + (-16)))]) rfl dJ6_numberOfLeadingZeros_0f7a4_32 ?_
      refine st_iload_n (i := 0) rfl rfl dJ6_numberOfLeadingZeros_0f7a4_33 ?_
      refine st_sipush rfl dJ6_numberOfLeadingZeros_0f7a4_34 ?_
      refine sr_icmp_lt 48 (ushr32_rng x0 16) ⟨by decide, by decide⟩ (by decide) dJ6_numberOfLeadingZeros_0f7a4_37 (fun h10 => ?_) (fun h10 => ?_)
      · have h10 : (ushr32 x0 16) < 256 := by omega
        refine st_iload_n (i := 0) rfl rfl dJ6_numberOfLeadingZeros_0f7a4_48 ?_
        refine st_bipush rfl dJ6_numberOfLeadingZeros_0f7a4_49 ?_
        refine sr_icmp_lt 61 (ushr32_rng x0 16) ⟨by decide, by decide⟩ (by decide) dJ6_numberOfLeadingZeros_0f7a4_51 (fun h11 => ?_) (fun h11 => ?_)
        · have h11 : (ushr32 x0 16) < 16 := by omega
          refine st_iload_n (i := 0) rfl rfl dJ6_numberOfLeadingZeros_0f7a4_61 ?_
          refine st_iconst dJ6_numberOfLeadingZeros_0f7a4_62 ?_
          refine sr_icmp_lt 73 (ushr32_rng x0 16) ⟨by decide, by decide⟩ (by decide) dJ6_numberOfLeadingZeros_0f7a4_63 (fun h12 => ?_) (fun h12 => ?_)
          · have h12 : (ushr32 x0 16) < 4 := by omega
            refine st_iload_n (i := 1) rfl rfl dJ6_numberOfLeadingZeros_0f7a4_73 ?_
            refine st_iload_n (i := 0) rfl rfl dJ6_numberOfLeadingZeros_0f7a4_74 ?_
            refine st_iconst dJ6_numberOfLeadingZeros_0f7a4_75 ?_
            refine st_iushr dJ6_numberOfLeadingZeros_0f7a4_76 ?_
            refine st_isub dJ6_numberOfLeadingZeros_0f7a4_77 ?_
            exact st_ireturn rfl dJ6_numberOfLeadingZeros_0f7a4_78 (mQ.ret (q9 h1 h2 h10 h11 h12))
          · have h12 : 4 ≤ (ushr32 x0 16) := by omega
            refine st_iinc (y := ((31 + (-16)) + (-2))) (by decide) (i := 1) rfl rfl (lc' := [(0, (ushr32 x0 16)), (0, ((31 + (-16)) + (-2)))]) rfl dJ6_numberOfLeadingZeros_0f7a4_66 ?_
            refine st_iload_n (i := 0) rfl rfl dJ6_numberOfLeadingZeros_0f7a4_69 ?_
            refine st_iconst dJ6_numberOfLeadingZeros_0f7a4_70 ?_
            refine st_iushr dJ6_numberOfLeadingZeros_0f7a4_71 ?_
            refine st_istore_n (i := 0) rfl (by decide) (lc' := [(0, (ushr32 (ushr32 x0 16) 2)), (0, ((31 + (-16)) + (-2)))]) rfl dJ6_numberOfLeadingZeros_0f7a4_72 ?_
            refine st_iload_n (i := 1) rfl rfl dJ6_numberOfLeadingZeros_0f7a4_73 ?_
            refine st_iload_n (i := 0) rfl rfl dJ6_numberOfLeadingZeros_0f7a4_74 ?_
            refine st_iconst dJ6_numberOfLeadingZeros_0f7a4_75 ?_
            refine st_iushr dJ6_numberOfLeadingZeros_0f7a4_76 ?_
            refine st_isub dJ6_numberOfLeadingZeros_0f7a4_77 ?_
            exact st_ireturn rfl dJ6_numberOfLeadingZeros_0f7a4_78 (mQ.ret (q10 h1 h2 h10 h11 h12))
        · have h11 : 16 ≤ (ushr32 x0 16) := by omega
          refine st_iinc (y := ((31 + (-16)) + (-4))) (by decide) (i := 1) rfl rfl (lc' := [(0, (ushr32 x0 16)), (0, ((31 + (-16)) + (-4)))]) rfl dJ6_numberOfLeadingZeros_0f7a4_54 ?_
          refine st_iload_n (i := 0) rfl rfl dJ6_numberOfLeadingZeros_0f7a4_57 ?_
          refine st_iconst dJ6_numberOfLeadingZeros_0f7a4_58 ?_
          refine st_iushr dJ6_numberOfLeadingZeros_0f7a4_59 ?_
          refine st_istore_n (i := 0) rfl (by decide) (lc' := [(0, (ushr32 (ushr32 x0 16) 4)), (0, ((31 + (-16)) + (-4)))]) rfl dJ6_numberOfLeadingZeros_0f7a4_60 ?_
          refine st_iload_n (i := 0) rfl rfl dJ6_numberOfLeadingZeros_0f7a4_61 ?_
          refine st_iconst dJ6_numberOfLeadingZeros_0f7a4_62 ?_
          refine sr_icmp_lt 73 (ushr32_rng (ushr32 x0 16) 4) ⟨by decide, by decide⟩ (by decide) dJ6_numberOfLeadingZeros_0f7a4_63 (fun h13 => ?_) (fun h13 => ?_)
          · have h13 : (ushr32 (ushr32 x0 16) 4) < 4 := by omega
            refine st_iload_n (i := 1) rfl rfl dJ6_numberOfLeadingZeros_0f7a4_73 ?_
            refine st_iload_n (i := 0) rfl rfl dJ6_numberOfLeadingZeros_0f7a4_74 ?_
            refine st_iconst dJ6_numberOfLeadingZeros_0f7a4_75 ?_
            refine st_iushr dJ6_numberOfLeadingZeros_0f7a4_76 ?_
            refine st_isub dJ6_numberOfLeadingZeros_0f7a4_77 ?_
            exact st_ireturn rfl dJ6_numberOfLeadingZeros_0f7a4_78 (mQ.ret (q11 h1 h2 h10 h11 h13))
          · have h13 : 4 ≤ (ushr32 (ushr32 x0 16) 4) := by omega
            refine st_iinc (y := (((31 + (-16)) + (-4)) + (-2))) (by decide) (i := 1) rfl rfl (lc' := [(0, (ushr32 (ushr32 x0 16) 4)), (0, (((31 + (-16)) + (-4)) + (-2)))]) rfl dJ6_numberOfLeadingZeros_0f7a4_66 ?_
            refine st_iload_n (i := 0) rfl rfl dJ6_numberOfLeadingZeros_0f7a4_69 ?_
            refine st_iconst dJ6_numberOfLeadingZeros_0f7a4_70 ?_
            refine st_iushr dJ6_numberOfLeadingZeros_0f7a4_71 ?_
            refine st_istore_n (i := 0) rfl (by decide) (lc' := [(0, (ushr32 (ushr32 (ushr32 x0 16) 4) 2)), (0, (((31 + (-16)) + (-4)) + (-2)))]) rfl dJ6_numberOfLeadingZeros_0f7a4_72 ?_
            refine st_iload_n (i := 1) rfl rfl dJ6_numberOfLeadingZeros_0f7a4_73 ?_
            refine st_iload_n (i := 0) rfl rfl dJ6_numberOfLeadingZeros_0f7a4_74 ?_
            refine st_iconst dJ6_numberOfLeadingZeros_0f7a4_75 ?_
            refine st_iushr dJ6_numberOfLeadingZeros_0f7a4_76 ?_
            refine st_isub dJ6_numberOfLeadingZeros_0f7a4_77 ?_
            exact st_ireturn rfl dJ6_numberOfLeadingZeros_0f7a4_78 (mQ.ret (q12 h1 h2 h10 h11 h13))
      · have h10 : 256 ≤ (ushr32 x0 16) := by omega
        refine st_iinc (y := ((31 + (-16)) + (-8))) (by decide) (i := 1) rfl rfl (lc' := [(0, (ushr32 x0 16)), (0, ((31 + (-16)) + (-8)))]) rfl dJ6_numberOfLeadingZeros_0f7a4_40 ?_
        refine st_iload_n (i := 0) rfl rfl dJ6_numberOfLeadingZeros_0f7a4_43 ?_
        refine st_bipush rfl dJ6_numberOfLeadingZeros_0f7a4_44 ?_
        refine st_iushr dJ6_numberOfLeadingZeros_0f7a4_46 ?_
        refine st_istore_n (i := 0) rfl (by decide) (lc' := [(0, (ushr32 (ushr32 x0 16) 8)), (0, ((31 + (-16)) + (-8)))]) rfl dJ6_numberOfLeadingZeros_0f7a4_47 ?_
        refine st_iload_n (i := 0) rfl rfl dJ6_numberOfLeadingZeros_0f7a4_48 ?_
        refine st_bipush rfl dJ6_numberOfLeadingZeros_0f7a4_49 ?_
        refine sr_icmp_lt 61 (ushr32_rng (ushr32 x0 16) 8) ⟨by decide, by decide⟩ (by decide) dJ6_numberOfLeadingZeros_0f7a4_51 (fun h14 => ?_) (fun h14 => ?_)
        · have h14 : (ushr32 (ushr32 x0 16) 8) < 16 := by omega
          refine st_iload_n (i := 0) rfl rfl dJ6_numberOfLeadingZeros_0f7a4_61 ?_
          refine st_iconst dJ6_numberOfLeadingZeros_0f7a4_62 ?_
          refine sr_icmp_lt 73 (ushr32_rng (ushr32 x0 16) 8) ⟨by decide, by decide⟩ (by decide) dJ6_numberOfLeadingZeros_0f7a4_63 (fun h15 => ?_) (fun h15 => ?_)
          · have h15 : (ushr32 (ushr32 x0 16) 8) < 4 := by omega
            refine st_iload_n (i := 1) rfl rfl dJ6_numberOfLeadingZeros_0f7a4_73 ?_
            refine st_iload_n (i := 0) rfl rfl dJ6_numberOfLeadingZeros_0f7a4_74 ?_
            refine st_iconst dJ6_numberOfLeadingZeros_0f7a4_75 ?_
            refine st_iushr dJ6_numberOfLeadingZeros_0f7a4_76 ?_
            refine st_isub dJ6_numberOfLeadingZeros_0f7a4_77 ?_
            exact st_ireturn rfl dJ6_numberOfLeadingZeros_0f7a4_78 (mQ.ret (q13 h1 h2 h10 h14 h15))
          · have h15 : 4 ≤ (ushr32 (ushr32 x0 16) 8) := by omega
            refine st_iinc (y := (((31 + (-16)) + (-8)) + (-2))) (by decide) (i := 1) rfl rfl (lc' := [(0, (ushr32 (ushr32 x0 16) 8)), (0, (((31 + (-16)) + (-8)) + (-2)))]) rfl dJ6_numberOfLeadingZeros_0f7a4_66 ?_
            refine st_iload_n (i := 0) rfl rfl dJ6_numberOfLeadingZeros_0f7a4_69 ?_
            refine st_iconst dJ6_numberOfLeadingZeros_0f7a4_70 ?_
            refine st_iushr dJ6_numberOfLeadingZeros_0f7a4_71 ?_
            refine st_istore_n (i := 0) rfl (by decide) (lc' := [(0, (ushr32 (ushr32 (ushr32 x0 16) 8) 2)), (0, (((31 + (-16)) + (-8)) + (-2)))]) rfl dJ6_numberOfLeadingZeros_0f7a4_72 ?_
            refine st_iload_n (i := 1) rfl rfl dJ6_numberOfLeadingZeros_0f7a4_73 ?_
            refine st_iload_n (i := 0) rfl rfl dJ6_numberOfLeadingZeros_0f7a4_74 ?_
            refine st_iconst dJ6_numberOfLeadingZeros_0f7a4_75 ?_
            refine st_iushr dJ6_numberOfLeadingZeros_0f7a4_76 ?_
            refine st_isub dJ6_numberOfLeadingZeros_0f7a4_77 ?_
            exact st_ireturn rfl dJ6_numberOfLeadingZeros_0f7a4_78 (mQ.ret (q14 h1 h2 h10 h14 h15))
        · have h14 : 16 ≤ (ushr32 (ushr32 x0 16) 8) := by omega
          refine st_iinc (y := (((31 + (-16)) + (-8)) + (-4))) (by decide) (i := 1) rfl rfl (lc' := [(0, (ushr32 (ushr32 x0 16) 8)), (0, (((31 + (-16)) + (-8)) + (-4)))]) rfl dJ6_numberOfLeadingZeros_0f7a4_54 ?_
          refine st_iload_n (i := 0) rfl rfl dJ6_numberOfLeadingZeros_0f7a4_57 ?_
          refine st_iconst dJ6_numberOfLeadingZeros_0f7a4_58 ?_
          refine st_iushr dJ6_numberOfLeadingZeros_0f7a4_59 ?_
          refine st_istore_n (i := 0) rfl (by decide) (lc' := [(0, (ushr32 (ushr32 (ushr32 x0 16) 8) 4)), (0, (((31 + (-16)) + (-8)) + (-4)))]) rfl dJ6_numberOfLeadingZeros_0f7a4_60 ?_
          refine st_iload_n (i := 0) rfl rfl dJ6_numberOfLeadingZeros_0f7a4_61 ?_
          refine st_iconst dJ6_numberOfLeadingZeros_0f7a4_62 ?_
          refine sr_icmp_lt 73 (ushr32_rng (ushr32 (ushr32 x0 16) 8) 4) ⟨by decide, by decide⟩ (by decide) dJ6_numberOfLeadingZeros_0f7a4_63 (fun h16 => ?_) (fun h16 => ?_)
          · have h16 : (ushr32 (ushr32 (ushr32 x0 16) 8) 4) < 4 := by omega
            refine st_iload_n (i := 1) rfl rfl dJ6_numberOfLeadingZeros_0f7a4_73 ?_
            refine st_iload_n (i := 0) rfl rfl dJ6_numberOfLeadingZeros_0f7a4_74 ?_
            refine st_iconst dJ6_numberOfLeadingZeros_0f7a4_75 ?_
            refine st_iushr dJ6_numberOfLeadingZeros_0f7a4_76 ?_
            refine st_isub dJ6_numberOfLeadingZeros_0f7a4_77 ?_
            exact st_ireturn rfl dJ6_numberOfLeadingZeros_0f7a4_78 (mQ.ret (q15 h1 h2 h10 h14 h16))
          · have h16 : 4 ≤ (ushr32 (ushr32 (ushr32 x0 16) 8) 4) := by omega
            refine st_iinc (y := ((((31 + (-16)) + (-8)) + (-4)) + (-2))) (by decide) (i := 1) rfl rfl (lc' := [(0, (ushr32 (ushr32 (ushr32 x0 16) 8) 4)), (0, ((((31 + (-16)) + (-8)) + (-4)) + (-2)))]) rfl dJ6_numberOfLeadingZeros_0f7a4_66 ?_
            refine st_iload_n (i := 0) rfl rfl dJ6_numberOfLeadingZeros_0f7a4_69 ?_
            refine st_iconst dJ6_numberOfLeadingZeros_0f7a4_70 ?_
            refine st_iushr dJ6_numberOfLeadingZeros_0f7a4_71 ?_
            refine st_istore_n (i := 0) rfl (by decide) (lc' := [(0, (ushr32 (ushr32 (ushr32 (ushr32 x0 16) 8) 4) 2)), (0, ((((31 + (-16)) + (-8)) + (-4)) + (-2)))]) rfl dJ6_numberOfLeadingZeros_0f7a4_72 ?_
            refine st_iload_n (i := 1) rfl rfl dJ6_numberOfLeadingZeros_0f7a4_73 ?_
            refine st_iload_n (i := 0) rfl rfl dJ6_numberOfLeadingZeros_0f7a4_74 ?_
            refine st_iconst dJ6_numberOfLeadingZeros_0f7a4_75 ?_
            refine st_iushr dJ6_numberOfLeadingZeros_0f7a4_76 ?_
            refine st_isub dJ6_numberOfLeadingZeros_0f7a4_77 ?_
            exact st_ireturn rfl dJ6_numberOfLeadingZeros_0f7a4_78 (mQ.ret (q16 h1 h2 h10 h14 h16))
  · have h1 : x0 ≤ 0 := by omega
    refine st_iload_n (i := 0) rfl rfl dJ6_numberOfLeadingZeros_0f7a4_4 ?_
    refine sr_if_ne 13 s1 (by decide) dJ6_numberOfLeadingZeros_0f7a4_5 (fun h17 => ?_) (fun h17 => ?_)
    · have h17 : ¬ x0 = 0 := by omega
      refine st_iconst dJ6_numberOfLeadingZeros_0f7a4_13 ?_
      exact st_ireturn rfl dJ6_numberOfLeadingZeros_0f7a4_14 (mQ.ret (q17 h1 h17))
    · have h17 : x0 = 0 := by omega
      refine st_bipush rfl dJ6_numberOfLeadingZeros_0f7a4_8 ?_
      refine st_goto 14 (by decide) dJ6_numberOfLeadingZeros_0f7a4_10 ?_
      exact st_ireturn rfl dJ6_numberOfLeadingZeros_0f7a4_14 (mQ.ret (q18 h1 h17))
theorem c_nlz (mem : mmM) {x lo : Int} (x1 : x < 2147483648) (l0 : 0 ≤ lo) (h : p2 lo ≤ x ∧ x < p2 (lo + 1)) : con 0 bJ6_numberOfLeadingZeros_0f7a4 0 [(0, x)] mem (fun v m => v = 31 - lo ∧ m = mem) := by
  have hp := p2_pos lo
  refine cn_J6_numberOfLeadingZeros_0f7a4 (bk_J6_numberOfLeadingZeros_0f7a4_0 (fun g0 g1 g2 g3 g4 => ⟨?_, rfl⟩) (fun g0 g1 g2 g3 g4 => ⟨?_, rfl⟩) (fun g0 g1 g2 g3 g4 => ⟨?_, rfl⟩) (fun g0 g1 g2 g3 g4 => ⟨?_, rfl⟩) (fun g0 g1 g2 g3 g4 => ⟨?_, rfl⟩) (fun g0 g1 g2 g3 g4 => ⟨?_, rfl⟩) (fun g0 g1 g2 g3 g4 => ⟨?_, rfl⟩) (fun g0 g1 g2 g3 g4 => ⟨?_, rfl⟩) (fun g0 g1 g2 g3 g4 => ⟨?_, rfl⟩) (fun g0 g1 g2 g3 g4 => ⟨?_, rfl⟩) (fun g0 g1 g2 g3 g4 => ⟨?_, rfl⟩) (fun g0 g1 g2 g3 g4 => ⟨?_, rfl⟩) (fun g0 g1 g2 g3 g4 => ⟨?_, rfl⟩) (fun g0 g1 g2 g3 g4 => ⟨?_, rfl⟩) (fun g0 g1 g2 g3 g4 => ⟨?_, rfl⟩) (fun g0 g1 g2 g3 g4 => ⟨?_, rfl⟩) (fun g0 g1 => ⟨?_, rfl⟩) (fun g0 g1 => ⟨?_, rfl⟩) (s1 := ⟨by omega, by omega⟩))
  · have b0 : 0 ≤ x := by omega
    have e0 : ushr32 x 1 = x / 2 := ushr_lit (by omega) (by omega) (by decide) (by decide) rfl
    rw [e0]
    have f := nlz_fin (t := 0) (y := x / 2) h l0 (by decide) (by
      have z0 : p2 0 = 1 := rfl
      have z1 : p2 (0 + 1) = 2 := rfl
      have z2 : p2 (0 + 2) = 4 := rfl
      rw [z0, z1, z2]
      omega)
    omega
  · have b0 : 0 ≤ x := by omega
    have e0 : ushr32 x 2 = x / 4 := ushr_lit (by omega) (by omega) (by decide) (by decide) rfl
    have e1 : ushr32 (x / 4) 1 = (x / 4) / 2 := ushr_lit (by omega) (by omega) (by decide) (by decide) rfl
    rw [e0, e1]
    have f := nlz_fin (t := 2) (y := (x / 4) / 2) h l0 (by decide) (by
      have z0 : p2 2 = 4 := rfl
      have z1 : p2 (2 + 1) = 8 := rfl
      have z2 : p2 (2 + 2) = 16 := rfl
      rw [z0, z1, z2]
      omega)
    omega
  · have b0 : 0 ≤ x := by omega
    have e0 : ushr32 x 4 = x / 16 := ushr_lit (by omega) (by omega) (by decide) (by decide) rfl
    have e1 : ushr32 (x / 16) 1 = (x / 16) / 2 := ushr_lit (by omega) (by omega) (by decide) (by decide) rfl
    rw [e0] at g4
    rw [e0, e1]
    have f := nlz_fin (t := 4) (y := (x / 16) / 2) h l0 (by decide) (by
      have z0 : p2 4 = 16 := rfl
      have z1 : p2 (4 + 1) = 32 := rfl
      have z2 : p2 (4 + 2) = 64 := rfl
      rw [z0, z1, z2]
      omega)
    omega
  · have b0 : 0 ≤ x := by omega
    have e0 : ushr32 x 4 = x / 16 := ushr_lit (by omega) (by omega) (by decide) (by decide) rfl
    have e1 : ushr32 (x / 16) 2 = (x / 16) / 4 := ushr_lit (by omega) (by omega) (by decide) (by decide) rfl
    have e2 : ushr32 ((x / 16) / 4) 1 = ((x / 16) / 4) / 2 := ushr_lit (by omega) (by omega) (by decide) (by decide) rfl
    rw [e0] at g4
    rw [e0, e1, e2]
    have f := nlz_fin (t := 6) (y := ((x / 16) / 4) / 2) h l0 (by decide) (by
      have z0 : p2 6 = 64 := rfl
      have z1 : p2 (6 + 1) = 128 := rfl
      have z2 : p2 (6 + 2) = 256 := rfl
      rw [z0, z1, z2]
      omega)
    omega
  · have b0 : 0 ≤ x := by omega
    have e0 : ushr32 x 8 = x / 256 := ushr_lit (by omega) (by omega) (by decide) (by decide) rfl
    have e1 : ushr32 (x / 256) 1 = (x / 256) / 2 := ushr_lit (by omega) (by omega) (by decide) (by decide) rfl
    rw [e0] at g3
    rw [e0] at g4
    rw [e0, e1]
    have f := nlz_fin (t := 8) (y := (x / 256) / 2) h l0 (by decide) (by
      have z0 : p2 8 = 256 := rfl
      have z1 : p2 (8 + 1) = 512 := rfl
      have z2 : p2 (8 + 2) = 1024 := rfl
      rw [z0, z1, z2]
      omega)
    omega
  · have b0 : 0 ≤ x := by omega
    have e0 : ushr32 x 8 = x / 256 := ushr_lit (by omega) (by omega) (by decide) (by decide) rfl
    have e1 : ushr32 (x / 256) 2 = (x / 256) / 4 := ushr_lit (by omega) (by omega) (by decide) (by decide) rfl
    have e2 : ushr32 ((x / 256) / 4) 1 = ((x / 256) / 4) / 2 := ushr_lit (by omega) (by omega) (by decide) (by decide) rfl
    rw [e0] at g3
    rw [e0] at g4
    rw [e0, e1, e2]
    have f := nlz_fin (t := 10) (y := ((x / 256) / 4) / 2) h l0 (by decide) (by
      have z0 : p2 10 = 1024 := rfl
      have z1 : p2 (10 + 1) = 2048 := rfl
      have z2 : p2 (10 + 2) = 4096 := rfl
      rw [z0, z1, z2]
      omega)
    omega
  · have b0 : 0 ≤ x := by omega
    have e0 : ushr32 x 8 = x / 256 := ushr_lit (by omega) (by omega) (by decide) (by decide) rfl
    have e1 : ushr32 (x / 256) 4 = (x / 256) / 16 := ushr_lit (by omega) (by omega) (by decide) (by decide) rfl
    have e2 : ushr32 ((x / 256) / 16) 1 = ((x / 256) / 16) / 2 := ushr_lit (by omega) (by omega) (by decide) (by decide) rfl
    rw [e0] at g3
    rw [e0, e1] at g4
    rw [e0, e1, e2]
    have f := nlz_fin (t := 12) (y := ((x / 256) / 16) / 2) h l0 (by decide) (by
      have z0 : p2 12 = 4096 := rfl
      have z1 : p2 (12 + 1) = 8192 := rfl
      have z2 : p2 (12 + 2) = 16384 := rfl
      rw [z0, z1, z2]
      omega)
    omega
  · have b0 : 0 ≤ x := by omega
    have e0 : ushr32 x 8 = x / 256 := ushr_lit (by omega) (by omega) (by decide) (by decide) rfl
    have e1 : ushr32 (x / 256) 4 = (x / 256) / 16 := ushr_lit (by omega) (by omega) (by decide) (by decide) rfl
    have e2 : ushr32 ((x / 256) / 16) 2 = ((x / 256) / 16) / 4 := ushr_lit (by omega) (by omega) (by decide) (by decide) rfl
    have e3 : ushr32 (((x / 256) / 16) / 4) 1 = (((x / 256) / 16) / 4) / 2 := ushr_lit (by omega) (by omega) (by decide) (by decide) rfl
    rw [e0] at g3
    rw [e0, e1] at g4
    rw [e0, e1, e2, e3]
    have f := nlz_fin (t := 14) (y := (((x / 256) / 16) / 4) / 2) h l0 (by decide) (by
      have z0 : p2 14 = 16384 := rfl
      have z1 : p2 (14 + 1) = 32768 := rfl
      have z2 : p2 (14 + 2) = 65536 := rfl
      rw [z0, z1, z2]
      omega)
    omega
  · have b0 : 0 ≤ x := by omega
    have e0 : ushr32 x 16 = x / 65536 := ushr_lit (by omega) (by omega) (by decide) (by decide) rfl
    have e1 : ushr32 (x / 65536) 1 = (x / 65536) / 2 := ushr_lit (by omega) (by omega) (by decide) (by decide) rfl
    rw [e0] at g2
    rw [e0] at g3
    rw [e0] at g4
    rw [e0, e1]
    have f := nlz_fin (t := 16) (y := (x / 65536) / 2) h l0 (by decide) (by
      have z0 : p2 16 = 65536 := rfl
      have z1 : p2 (16 + 1) = 131072 := rfl
      have z2 : p2 (16 + 2) = 262144 := rfl
      rw [z0, z1, z2]
      omega)
    omega
  · have b0 : 0 ≤ x := by omega
    have e0 : ushr32 x 16 = x / 65536 := ushr_lit (by omega) (by omega) (by decide) (by decide) rfl
    have e1 : ushr32 (x / 65536) 2 = (x / 65536) / 4 := ushr_lit (by omega) (by omega) (by decide) (by decide) rfl
    have e2 : ushr32 ((x / 65536) / 4) 1 = ((x / 65536) / 4) / 2 := ushr_lit (by omega) (by omega) (by decide) (by decide) rfl
    rw [e0] at g2
    rw [e0] at g3
    rw [e0] at g4
    rw [e0, e1, e2]
    have f := nlz_fin (t := 18) (y := ((x / 65536) / 4) / 2) h l0 (by decide) (by
      have z0 : p2 18 = 262144 := rfl
      have z1 : p2 (18 + 1) = 524288 := rfl
      have z2 : p2 (18 + 2) = 1048576 := rfl
      rw [z0, z1, z2]
      omega)
    omega
  · have b0 : 0 ≤ x := by omega
    have e0 : ushr32 x 16 = x / 65536 := ushr_lit (by omega) (by omega) (by decide) (by decide) rfl
    have e1 : ushr32 (x / 65536) 4 = (x / 65536) / 16 := ushr_lit (by omega) (by omega) (by decide) (by decide) rfl
    have e2 : ushr32 ((x / 65536) / 16) 1 = ((x / 65536) / 16) / 2 := ushr_lit (by omega) (by omega) (by decide) (by decide) rfl
    rw [e0] at g2
    rw [e0] at g3
    rw [e0, e1] at g4
    rw [e0, e1, e2]
    have f := nlz_fin (t := 20) (y := ((x / 65536) / 16) / 2) h l0 (by decide) (by
      have z0 : p2 20 = 1048576 := rfl
      have z1 : p2 (20 + 1) = 2097152 := rfl
      have z2 : p2 (20 + 2) = 4194304 := rfl
      rw [z0, z1, z2]
      omega)
    omega
  · have b0 : 0 ≤ x := by omega
    have e0 : ushr32 x 16 = x / 65536 := ushr_lit (by omega) (by omega) (by decide) (by decide) rfl
    have e1 : ushr32 (x / 65536) 4 = (x / 65536) / 16 := ushr_lit (by omega) (by omega) (by decide) (by decide) rfl
    have e2 : ushr32 ((x / 65536) / 16) 2 = ((x / 65536) / 16) / 4 := ushr_lit (by omega) (by omega) (by decide) (by decide) rfl
    have e3 : ushr32 (((x / 65536) / 16) / 4) 1 = (((x / 65536) / 16) / 4) / 2 := ushr_lit (by omega) (by omega) (by decide) (by decide) rfl
    rw [e0] at g2
    rw [e0] at g3
    rw [e0, e1] at g4
    rw [e0, e1, e2, e3]
    have f := nlz_fin (t := 22) (y := (((x / 65536) / 16) / 4) / 2) h l0 (by decide) (by
      have z0 : p2 22 = 4194304 := rfl
      have z1 : p2 (22 + 1) = 8388608 := rfl
      have z2 : p2 (22 + 2) = 16777216 := rfl
      rw [z0, z1, z2]
      omega)
    omega
  · have b0 : 0 ≤ x := by omega
    have e0 : ushr32 x 16 = x / 65536 := ushr_lit (by omega) (by omega) (by decide) (by decide) rfl
    have e1 : ushr32 (x / 65536) 8 = (x / 65536) / 256 := ushr_lit (by omega) (by omega) (by decide) (by decide) rfl
    have e2 : ushr32 ((x / 65536) / 256) 1 = ((x / 65536) / 256) / 2 := ushr_lit (by omega) (by omega) (by decide) (by decide) rfl
    rw [e0] at g2
    rw [e0, e1] at g3
    rw [e0, e1] at g4
    rw [e0, e1, e2]
    have f := nlz_fin (t := 24) (y := ((x / 65536) / 256) / 2) h l0 (by decide) (by
      have z0 : p2 24 = 16777216 := rfl
      have z1 : p2 (24 + 1) = 33554432 := rfl
      have z2 : p2 (24 + 2) = 67108864 := rfl
      rw [z0, z1, z2]
      omega)
    omega
  · have b0 : 0 ≤ x := by omega
    have e0 : ushr32 x 16 = x / 65536 := ushr_lit (by omega) (by omega) (by decide) (by decide) rfl
    have e1 : ushr32 (x / 65536) 8 = (x / 65536) / 256 := ushr_lit (by omega) (by omega) (by decide) (by decide) rfl
    have e2 : ushr32 ((x / 65536) / 256) 2 = ((x / 65536) / 256) / 4 := ushr_lit (by omega) (by omega) (by decide) (by decide) rfl
    have e3 : ushr32 (((x / 65536) / 256) / 4) 1 = (((x / 65536) / 256) / 4) / 2 := ushr_lit (by omega) (by omega) (by decide) (by decide) rfl
    rw [e0] at g2
    rw [e0, e1] at g3
    rw [e0, e1] at g4
    rw [e0, e1, e2, e3]
    have f := nlz_fin (t := 26) (y := (((x / 65536) / 256) / 4) / 2) h l0 (by decide) (by
      have z0 : p2 26 = 67108864 := rfl
      have z1 : p2 (26 + 1) = 134217728 := rfl
      have z2 : p2 (26 + 2) = 268435456 := rfl
      rw [z0, z1, z2]
      omega)
    omega
  · have b0 : 0 ≤ x := by omega
    have e0 : ushr32 x 16 = x / 65536 := ushr_lit (by omega) (by omega) (by decide) (by decide) rfl
    have e1 : ushr32 (x / 65536) 8 = (x / 65536) / 256 := ushr_lit (by omega) (by omega) (by decide) (by decide) rfl
    have e2 : ushr32 ((x / 65536) / 256) 4 = ((x / 65536) / 256) / 16 := ushr_lit (by omega) (by omega) (by decide) (by decide) rfl
    have e3 : ushr32 (((x / 65536) / 256) / 16) 1 = (((x / 65536) / 256) / 16) / 2 := ushr_lit (by omega) (by omega) (by decide) (by decide) rfl
    rw [e0] at g2
    rw [e0, e1] at g3
    rw [e0, e1, e2] at g4
    rw [e0, e1, e2, e3]
    have f := nlz_fin (t := 28) (y := (((x / 65536) / 256) / 16) / 2) h l0 (by decide) (by
      have z0 : p2 28 = 268435456 := rfl
      have z1 : p2 (28 + 1) = 536870912 := rfl
      have z2 : p2 (28 + 2) = 1073741824 := rfl
      rw [z0, z1, z2]
      omega)
    omega
  · have b0 : 0 ≤ x := by omega
    have e0 : ushr32 x 16 = x / 65536 := ushr_lit (by omega) (by omega) (by decide) (by decide) rfl
    have e1 : ushr32 (x / 65536) 8 = (x / 65536) / 256 := ushr_lit (by omega) (by omega) (by decide) (by decide) rfl
    have e2 : ushr32 ((x / 65536) / 256) 4 = ((x / 65536) / 256) / 16 := ushr_lit (by omega) (by omega) (by decide) (by decide) rfl
    have e3 : ushr32 (((x / 65536) / 256) / 16) 2 = (((x / 65536) / 256) / 16) / 4 := ushr_lit (by omega) (by omega) (by decide) (by decide) rfl
    have e4 : ushr32 ((((x / 65536) / 256) / 16) / 4) 1 = ((((x / 65536) / 256) / 16) / 4) / 2 := ushr_lit (by omega) (by omega) (by decide) (by decide) rfl
    rw [e0] at g2
    rw [e0, e1] at g3
    rw [e0, e1, e2] at g4
    rw [e0, e1, e2, e3, e4]
    have f := nlz_fin (t := 30) (y := ((((x / 65536) / 256) / 16) / 4) / 2) h l0 (by decide) (by
      have z0 : p2 30 = 1073741824 := rfl
      have z1 : p2 (30 + 1) = 2147483648 := rfl
      have z2 : p2 (30 + 2) = 4294967296 := rfl
      rw [z0, z1, z2]
      omega)
    omega
  · omega
  · omega
