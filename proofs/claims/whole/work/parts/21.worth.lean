/-! a law's worth: the model's postfix machine -/
def opF (c a b : Int) : Int := if c = 2 then withinS (a + b) else if c = 3 then withinS (a - b) else if c = 4 then withinS (a * b) else if c = 5 then (if b = 0 then 0 else withinS (Int.tdiv a b)) else if c = 6 then b2i (a = b) else if c = 7 then b2i (a < b) else if c = 8 then b2i (b < a) else if c = 10 then b2i (¬ a = 0 ∧ ¬ b = 0) else b2i (¬ a = 0 ∨ ¬ b = 0)
theorem mul_bnd {a b : Int} (ha : -1001000 ≤ a ∧ a ≤ 1001000) (hb : -1001000 ≤ b ∧ b ≤ 1001000) : -1002001000000 ≤ a * b ∧ a * b ≤ 1002001000000 := by
  have h : (a * b).natAbs ≤ 1001000 * 1001000 := by
    rw [Int.natAbs_mul]
    exact Nat.mul_le_mul (by omega) (by omega)
  omega
theorem tdiv_bnd2 {a : Int} (b : Int) (ha : -1001000 ≤ a ∧ a ≤ 1001000) : -1001000 ≤ Int.tdiv a b ∧ Int.tdiv a b ≤ 1001000 := by
  have h : (Int.tdiv a b).natAbs ≤ a.natAbs := by
    rw [Int.natAbs_tdiv]
    exact Nat.div_le_self _ _
  omega
theorem cn_X12_worked {d : Nat} {P : Int → mmM → Prop} {mem : mmM} {x0 x1 x3 : Int} (h : mmT bX12_worked d 0 0 (mQ 0 P) 0 [(0, x0), (1, x1), (9, 0), (1, x3), (9, 0)] [] mS mem) : con 0 bX12_worked d [(0, x0), (1, x1), (1, x3)] mem P := mmC_of [(0, x0), (1, x1), (9, 0), (1, x3), (9, 0)] ok_X12_worked.2.2.2.2 rfl (Nat.le_of_ble_eq_true rfl) h
theorem bk_X12_worked_0 {d : Nat} {P : Int → mmM → Prop} {mem : mmM} {x0 x1 x3 : Int}
  (q1 : x0 = 2 → P (withinS (x1 + x3)) mem)
  (q2 : ¬ x0 = 2 → x0 = 3 → P (withinS (x1 - x3)) mem)
  (q3 : ¬ x0 = 2 → ¬ x0 = 3 → x0 = 4 → P (withinS (x1 * x3)) mem)
  (q4 : ¬ x0 = 2 → ¬ x0 = 3 → ¬ x0 = 4 → x0 = 5 → ¬ x3 = 0 → P (withinS (Int.tdiv x1 x3)) mem)
  (q5 : ¬ x0 = 2 → ¬ x0 = 3 → ¬ x0 = 4 → x0 = 5 → x3 = 0 → P 0 mem)
  (q6 : ¬ x0 = 2 → ¬ x0 = 3 → ¬ x0 = 4 → ¬ x0 = 5 → x0 = 6 → ¬ x1 = x3 → P 0 mem)
  (q7 : ¬ x0 = 2 → ¬ x0 = 3 → ¬ x0 = 4 → ¬ x0 = 5 → x0 = 6 → x1 = x3 → P 1 mem)
  (q8 : ¬ x0 = 2 → ¬ x0 = 3 → ¬ x0 = 4 → ¬ x0 = 5 → ¬ x0 = 6 → x0 = 7 → x3 ≤ x1 → P 0 mem)
  (q9 : ¬ x0 = 2 → ¬ x0 = 3 → ¬ x0 = 4 → ¬ x0 = 5 → ¬ x0 = 6 → x0 = 7 → x1 < x3 → P 1 mem)
  (q10 : ¬ x0 = 2 → ¬ x0 = 3 → ¬ x0 = 4 → ¬ x0 = 5 → ¬ x0 = 6 → ¬ x0 = 7 → x0 = 8 → x1 ≤ x3 → P 0 mem)
  (q11 : ¬ x0 = 2 → ¬ x0 = 3 → ¬ x0 = 4 → ¬ x0 = 5 → ¬ x0 = 6 → ¬ x0 = 7 → x0 = 8 → x3 < x1 → P 1 mem)
  (q12 : ¬ x0 = 2 → ¬ x0 = 3 → ¬ x0 = 4 → ¬ x0 = 5 → ¬ x0 = 6 → ¬ x0 = 7 → ¬ x0 = 8 → x0 = 9 → ¬ x1 = 0 → P 1 mem)
  (q13 : ¬ x0 = 2 → ¬ x0 = 3 → ¬ x0 = 4 → ¬ x0 = 5 → ¬ x0 = 6 → ¬ x0 = 7 → ¬ x0 = 8 → x0 = 9 → x1 = 0 → x3 = 0 → P 0 mem)
  (q14 : ¬ x0 = 2 → ¬ x0 = 3 → ¬ x0 = 4 → ¬ x0 = 5 → ¬ x0 = 6 → ¬ x0 = 7 → ¬ x0 = 8 → x0 = 9 → x1 = 0 → ¬ x3 = 0 → P 1 mem)
  (q15 : ¬ x0 = 2 → ¬ x0 = 3 → ¬ x0 = 4 → ¬ x0 = 5 → ¬ x0 = 6 → ¬ x0 = 7 → ¬ x0 = 8 → ¬ x0 = 9 → x0 = 10 → x1 = 0 → P 0 mem)
  (q16 : ¬ x0 = 2 → ¬ x0 = 3 → ¬ x0 = 4 → ¬ x0 = 5 → ¬ x0 = 6 → ¬ x0 = 7 → ¬ x0 = 8 → ¬ x0 = 9 → x0 = 10 → ¬ x1 = 0 → x3 = 0 → P 0 mem)
  (q17 : ¬ x0 = 2 → ¬ x0 = 3 → ¬ x0 = 4 → ¬ x0 = 5 → ¬ x0 = 6 → ¬ x0 = 7 → ¬ x0 = 8 → ¬ x0 = 9 → x0 = 10 → ¬ x1 = 0 → ¬ x3 = 0 → P 1 mem)
  (q18 : ¬ x0 = 2 → ¬ x0 = 3 → ¬ x0 = 4 → ¬ x0 = 5 → ¬ x0 = 6 → ¬ x0 = 7 → ¬ x0 = 8 → ¬ x0 = 9 → ¬ x0 = 10 → ¬ x1 = 0 → P 1 mem)
  (q19 : ¬ x0 = 2 → ¬ x0 = 3 → ¬ x0 = 4 → ¬ x0 = 5 → ¬ x0 = 6 → ¬ x0 = 7 → ¬ x0 = 8 → ¬ x0 = 9 → ¬ x0 = 10 → x1 = 0 → x3 = 0 → P 0 mem)
  (q20 : ¬ x0 = 2 → ¬ x0 = 3 → ¬ x0 = 4 → ¬ x0 = 5 → ¬ x0 = 6 → ¬ x0 = 7 → ¬ x0 = 8 → ¬ x0 = 9 → ¬ x0 = 10 → x1 = 0 → ¬ x3 = 0 → P 1 mem)
  (hd3 : 3 ≤ d := by omega)
  (s1 : R32 x0 := by intros; first | omega | assumption | solve_by_elim)
  (s2 : x0 = 2 → R64 (x1 + x3) := by intros; first | omega | assumption | solve_by_elim)
  (s3 : ¬ x0 = 2 → x0 = 3 → R64 (x1 - x3) := by intros; first | omega | assumption | solve_by_elim)
  (s4 : ¬ x0 = 2 → ¬ x0 = 3 → x0 = 4 → R64 (x1 * x3) := by intros; first | omega | assumption | solve_by_elim)
  (s5 : ¬ x0 = 2 → ¬ x0 = 3 → ¬ x0 = 4 → x0 = 5 → R64 x3 := by intros; first | omega | assumption | solve_by_elim)
  (s6 : ¬ x0 = 2 → ¬ x0 = 3 → ¬ x0 = 4 → x0 = 5 → ¬ x3 = 0 → (-9223372036854775808) < x1 ∧ x1 < 9223372036854775808 := by intros; first | omega | assumption | solve_by_elim)
  (s7 : ¬ x0 = 2 → ¬ x0 = 3 → ¬ x0 = 4 → x0 = 5 → ¬ x3 = 0 → R64 (Int.tdiv x1 x3) := by intros; first | omega | assumption | solve_by_elim)
  (s8 : ¬ x0 = 2 → ¬ x0 = 3 → ¬ x0 = 4 → ¬ x0 = 5 → x0 = 6 → R64 x1 := by intros; first | omega | assumption | solve_by_elim)
  (s9 : ¬ x0 = 2 → ¬ x0 = 3 → ¬ x0 = 4 → ¬ x0 = 5 → x0 = 6 → R64 x3 := by intros; first | omega | assumption | solve_by_elim)
  (s10 : ¬ x0 = 2 → ¬ x0 = 3 → ¬ x0 = 4 → ¬ x0 = 5 → ¬ x0 = 6 → x0 = 7 → R64 x1 := by intros; first | omega | assumption | solve_by_elim)
  (s11 : ¬ x0 = 2 → ¬ x0 = 3 → ¬ x0 = 4 → ¬ x0 = 5 → ¬ x0 = 6 → x0 = 7 → R64 x3 := by intros; first | omega | assumption | solve_by_elim)
  (s12 : ¬ x0 = 2 → ¬ x0 = 3 → ¬ x0 = 4 → ¬ x0 = 5 → ¬ x0 = 6 → ¬ x0 = 7 → x0 = 8 → R64 x1 := by intros; first | omega | assumption | solve_by_elim)
  (s13 : ¬ x0 = 2 → ¬ x0 = 3 → ¬ x0 = 4 → ¬ x0 = 5 → ¬ x0 = 6 → ¬ x0 = 7 → x0 = 8 → R64 x3 := by intros; first | omega | assumption | solve_by_elim)
  (s14 : ¬ x0 = 2 → ¬ x0 = 3 → ¬ x0 = 4 → ¬ x0 = 5 → ¬ x0 = 6 → ¬ x0 = 7 → ¬ x0 = 8 → x0 = 9 → R64 x1 := by intros; first | omega | assumption | solve_by_elim)
  (s15 : ¬ x0 = 2 → ¬ x0 = 3 → ¬ x0 = 4 → ¬ x0 = 5 → ¬ x0 = 6 → ¬ x0 = 7 → ¬ x0 = 8 → x0 = 9 → x1 = 0 → R64 x3 := by intros; first | omega | assumption | solve_by_elim)
  (s16 : ¬ x0 = 2 → ¬ x0 = 3 → ¬ x0 = 4 → ¬ x0 = 5 → ¬ x0 = 6 → ¬ x0 = 7 → ¬ x0 = 8 → ¬ x0 = 9 → x0 = 10 → R64 x1 := by intros; first | omega | assumption | solve_by_elim)
  (s17 : ¬ x0 = 2 → ¬ x0 = 3 → ¬ x0 = 4 → ¬ x0 = 5 → ¬ x0 = 6 → ¬ x0 = 7 → ¬ x0 = 8 → ¬ x0 = 9 → x0 = 10 → ¬ x1 = 0 → R64 x3 := by intros; first | omega | assumption | solve_by_elim)
  (s18 : ¬ x0 = 2 → ¬ x0 = 3 → ¬ x0 = 4 → ¬ x0 = 5 → ¬ x0 = 6 → ¬ x0 = 7 → ¬ x0 = 8 → ¬ x0 = 9 → ¬ x0 = 10 → R64 x1 := by intros; first | omega | assumption | solve_by_elim)
  (s19 : ¬ x0 = 2 → ¬ x0 = 3 → ¬ x0 = 4 → ¬ x0 = 5 → ¬ x0 = 6 → ¬ x0 = 7 → ¬ x0 = 8 → ¬ x0 = 9 → ¬ x0 = 10 → x1 = 0 → R64 x3 := by intros; first | omega | assumption | solve_by_elim)
  : mmT bX12_worked d 0 0 (mQ 0 P) 0 [(0, x0), (1, x1), (9, 0), (1, x3), (9, 0)] [] mS mem := by
  refine st_iload_n (i := 0) rfl rfl dX12_worked_0 ?_
  by_cases h1 : x0 = 2
  · refine so_tabI 52 s1 2 h1 (by decide) (by decide) rfl (by decide) dX12_worked_1 ?_
    refine st_lload_n (i := 1) rfl rfl dX12_worked_52 ?_
    refine st_lload_n (i := 3) rfl rfl dX12_worked_53 ?_
    refine st_ladd dX12_worked_54 ?_
    refine st_callS (kc2 := 0) (ks2 := 0) (av := [(1, (x1 + x3))]) mr_X12_217 ok_X12_bounded (c_X12_bounded mem (x1 + x3) ((s2 h1))) rfl rfl hd3 (Nat.le_refl 0) (Nat.le_refl 0) (Nat.le_of_ble_eq_true rfl) dX12_worked_55 (mQ.elim fun v1 m1 hp => ?_)
    obtain ⟨hpv, hpm⟩ := hp
    subst hpv
    have hpm := hpm.symm
    subst hpm
    exact st_ireturn rfl dX12_worked_58 (mQ.ret (q1 h1))
  by_cases h2 : x0 = 3
  · refine so_tabI 59 s1 3 h2 (by decide) (by decide) rfl (by decide) dX12_worked_1 ?_
    refine st_lload_n (i := 1) rfl rfl dX12_worked_59 ?_
    refine st_lload_n (i := 3) rfl rfl dX12_worked_60 ?_
    refine st_lsub dX12_worked_61 ?_
    refine st_callS (kc2 := 0) (ks2 := 0) (av := [(1, (x1 - x3))]) mr_X12_217 ok_X12_bounded (c_X12_bounded mem (x1 - x3) ((s3 h1 h2))) rfl rfl hd3 (Nat.le_refl 0) (Nat.le_refl 0) (Nat.le_of_ble_eq_true rfl) dX12_worked_62 (mQ.elim fun v2 m2 hp => ?_)
    obtain ⟨hpv, hpm⟩ := hp
    subst hpv
    have hpm := hpm.symm
    subst hpm
    exact st_ireturn rfl dX12_worked_65 (mQ.ret (q2 h1 h2))
  by_cases h3 : x0 = 4
  · refine so_tabI 66 s1 4 h3 (by decide) (by decide) rfl (by decide) dX12_worked_1 ?_
    refine st_lload_n (i := 1) rfl rfl dX12_worked_66 ?_
    refine st_lload_n (i := 3) rfl rfl dX12_worked_67 ?_
    refine st_lmul dX12_worked_68 ?_
    refine st_callS (kc2 := 0) (ks2 := 0) (av := [(1, (x1 * x3))]) mr_X12_217 ok_X12_bounded (c_X12_bounded mem (x1 * x3) ((s4 h1 h2 h3))) rfl rfl hd3 (Nat.le_refl 0) (Nat.le_refl 0) (Nat.le_of_ble_eq_true rfl) dX12_worked_69 (mQ.elim fun v3 m3 hp => ?_)
    obtain ⟨hpv, hpm⟩ := hp
    subst hpv
    have hpm := hpm.symm
    subst hpm
    exact st_ireturn rfl dX12_worked_72 (mQ.ret (q3 h1 h2 h3))
  by_cases h4 : x0 = 5
  · refine so_tabI 73 s1 5 h4 (by decide) (by decide) rfl (by decide) dX12_worked_1 ?_
    refine st_lload_n (i := 3) rfl rfl dX12_worked_73 ?_
    refine st_lconst (v := 0) rfl dX12_worked_74 ?_
    refine sr_lcmp_ne 83 (s5 h1 h2 h3 h4) ⟨by decide, by decide⟩ (by decide) dX12_worked_75 dX12_worked_76 (fun h5 => ?_) (fun h5 => ?_)
    · have h5 : ¬ x3 = 0 := by omega
      refine st_lload_n (i := 1) rfl rfl dX12_worked_83 ?_
      refine st_lload_n (i := 3) rfl rfl dX12_worked_84 ?_
      refine sr_ldiv (s6 h1 h2 h3 h4 h5) (s5 h1 h2 h3 h4) h5 dX12_worked_85 ?_
      refine st_callS (kc2 := 0) (ks2 := 0) (av := [(1, (Int.tdiv x1 x3))]) mr_X12_217 ok_X12_bounded (c_X12_bounded mem (Int.tdiv x1 x3) ((s7 h1 h2 h3 h4 h5))) rfl rfl hd3 (Nat.le_refl 0) (Nat.le_refl 0) (Nat.le_of_ble_eq_true rfl) dX12_worked_86 (mQ.elim fun v4 m4 hp => ?_)
      obtain ⟨hpv, hpm⟩ := hp
      subst hpv
      have hpm := hpm.symm
      subst hpm
      exact st_ireturn rfl dX12_worked_89 (mQ.ret (q4 h1 h2 h3 h4 h5))
    · have h5 : x3 = 0 := by omega
      refine st_iconst dX12_worked_79 ?_
      refine st_goto 89 (by decide) dX12_worked_80 ?_
      exact st_ireturn rfl dX12_worked_89 (mQ.ret (q5 h1 h2 h3 h4 h5))
  by_cases h6 : x0 = 6
  · refine so_tabI 90 s1 6 h6 (by decide) (by decide) rfl (by decide) dX12_worked_1 ?_
    refine st_lload_n (i := 1) rfl rfl dX12_worked_90 ?_
    refine st_lload_n (i := 3) rfl rfl dX12_worked_91 ?_
    refine sr_lcmp_ne 100 (s8 h1 h2 h3 h4 h6) (s9 h1 h2 h3 h4 h6) (by decide) dX12_worked_92 dX12_worked_93 (fun h7 => ?_) (fun h7 => ?_)
    · have h7 : ¬ x1 = x3 := by omega
      refine st_iconst dX12_worked_100 ?_
      exact st_ireturn rfl dX12_worked_101 (mQ.ret (q6 h1 h2 h3 h4 h6 h7))
    · have h7 : x1 = x3 := by omega
      refine st_iconst dX12_worked_96 ?_
      refine st_goto 101 (by decide) dX12_worked_97 ?_
      exact st_ireturn rfl dX12_worked_101 (mQ.ret (q7 h1 h2 h3 h4 h6 h7))
  by_cases h8 : x0 = 7
  · refine so_tabI 102 s1 7 h8 (by decide) (by decide) rfl (by decide) dX12_worked_1 ?_
    refine st_lload_n (i := 1) rfl rfl dX12_worked_102 ?_
    refine st_lload_n (i := 3) rfl rfl dX12_worked_103 ?_
    refine sr_lcmp_ge 112 (s10 h1 h2 h3 h4 h6 h8) (s11 h1 h2 h3 h4 h6 h8) (by decide) dX12_worked_104 dX12_worked_105 (fun h9 => ?_) (fun h9 => ?_)
    · have h9 : x3 ≤ x1 := by omega
      refine st_iconst dX12_worked_112 ?_
      exact st_ireturn rfl dX12_worked_113 (mQ.ret (q8 h1 h2 h3 h4 h6 h8 h9))
    · have h9 : x1 < x3 := by omega
      refine st_iconst dX12_worked_108 ?_
      refine st_goto 113 (by decide) dX12_worked_109 ?_
      exact st_ireturn rfl dX12_worked_113 (mQ.ret (q9 h1 h2 h3 h4 h6 h8 h9))
  by_cases h10 : x0 = 8
  · refine so_tabI 114 s1 8 h10 (by decide) (by decide) rfl (by decide) dX12_worked_1 ?_
    refine st_lload_n (i := 1) rfl rfl dX12_worked_114 ?_
    refine st_lload_n (i := 3) rfl rfl dX12_worked_115 ?_
    refine sr_lcmp_le 124 (s12 h1 h2 h3 h4 h6 h8 h10) (s13 h1 h2 h3 h4 h6 h8 h10) (by decide) dX12_worked_116 dX12_worked_117 (fun h11 => ?_) (fun h11 => ?_)
    · have h11 : x1 ≤ x3 := by omega
      refine st_iconst dX12_worked_124 ?_
      exact st_ireturn rfl dX12_worked_125 (mQ.ret (q10 h1 h2 h3 h4 h6 h8 h10 h11))
    · have h11 : x3 < x1 := by omega
      refine st_iconst dX12_worked_120 ?_
      refine st_goto 125 (by decide) dX12_worked_121 ?_
      exact st_ireturn rfl dX12_worked_125 (mQ.ret (q11 h1 h2 h3 h4 h6 h8 h10 h11))
  by_cases h12 : x0 = 9
  · refine so_tabI 144 s1 9 h12 (by decide) (by decide) rfl (by decide) dX12_worked_1 ?_
    refine st_lload_n (i := 1) rfl rfl dX12_worked_144 ?_
    refine st_lconst (v := 0) rfl dX12_worked_145 ?_
    refine sr_lcmp_ne 156 (s14 h1 h2 h3 h4 h6 h8 h10 h12) ⟨by decide, by decide⟩ (by decide) dX12_worked_146 dX12_worked_147 (fun h13 => ?_) (fun h13 => ?_)
    · have h13 : ¬ x1 = 0 := by omega
      refine st_iconst dX12_worked_156 ?_
      refine st_goto 161 (by decide) dX12_worked_157 ?_
      exact st_ireturn rfl dX12_worked_161 (mQ.ret (q12 h1 h2 h3 h4 h6 h8 h10 h12 h13))
    · have h13 : x1 = 0 := by omega
      refine st_lload_n (i := 3) rfl rfl dX12_worked_150 ?_
      refine st_lconst (v := 0) rfl dX12_worked_151 ?_
      refine sr_lcmp_eq 160 (s15 h1 h2 h3 h4 h6 h8 h10 h12 h13) ⟨by decide, by decide⟩ (by decide) dX12_worked_152 dX12_worked_153 (fun h14 => ?_) (fun h14 => ?_)
      · have h14 : x3 = 0 := by omega
        refine st_iconst dX12_worked_160 ?_
        exact st_ireturn rfl dX12_worked_161 (mQ.ret (q13 h1 h2 h3 h4 h6 h8 h10 h12 h13 h14))
      · have h14 : ¬ x3 = 0 := by omega
        refine st_iconst dX12_worked_156 ?_
        refine st_goto 161 (by decide) dX12_worked_157 ?_
        exact st_ireturn rfl dX12_worked_161 (mQ.ret (q14 h1 h2 h3 h4 h6 h8 h10 h12 h13 h14))
  by_cases h15 : x0 = 10
  · refine so_tabI 126 s1 10 h15 (by decide) (by decide) rfl (by decide) dX12_worked_1 ?_
    refine st_lload_n (i := 1) rfl rfl dX12_worked_126 ?_
    refine st_lconst (v := 0) rfl dX12_worked_127 ?_
    refine sr_lcmp_eq 142 (s16 h1 h2 h3 h4 h6 h8 h10 h12 h15) ⟨by decide, by decide⟩ (by decide) dX12_worked_128 dX12_worked_129 (fun h16 => ?_) (fun h16 => ?_)
    · have h16 : x1 = 0 := by omega
      refine st_iconst dX12_worked_142 ?_
      exact st_ireturn rfl dX12_worked_143 (mQ.ret (q15 h1 h2 h3 h4 h6 h8 h10 h12 h15 h16))
    · have h16 : ¬ x1 = 0 := by omega
      refine st_lload_n (i := 3) rfl rfl dX12_worked_132 ?_
      refine st_lconst (v := 0) rfl dX12_worked_133 ?_
      refine sr_lcmp_eq 142 (s17 h1 h2 h3 h4 h6 h8 h10 h12 h15 h16) ⟨by decide, by decide⟩ (by decide) dX12_worked_134 dX12_worked_135 (fun h17 => ?_) (fun h17 => ?_)
      · have h17 : x3 = 0 := by omega
        refine st_iconst dX12_worked_142 ?_
        exact st_ireturn rfl dX12_worked_143 (mQ.ret (q16 h1 h2 h3 h4 h6 h8 h10 h12 h15 h16 h17))
      · have h17 : ¬ x3 = 0 := by omega
        refine st_iconst dX12_worked_138 ?_
        refine st_goto 143 (by decide) dX12_worked_139 ?_
        exact st_ireturn rfl dX12_worked_143 (mQ.ret (q17 h1 h2 h3 h4 h6 h8 h10 h12 h15 h16 h17))
  refine so_tabO 144 s1 (by omega) (by decide) dX12_worked_1 ?_
  refine st_lload_n (i := 1) rfl rfl dX12_worked_144 ?_
  refine st_lconst (v := 0) rfl dX12_worked_145 ?_
  refine sr_lcmp_ne 156 (s18 h1 h2 h3 h4 h6 h8 h10 h12 h15) ⟨by decide, by decide⟩ (by decide) dX12_worked_146 dX12_worked_147 (fun h18 => ?_) (fun h18 => ?_)
  · have h18 : ¬ x1 = 0 := by omega
    refine st_iconst dX12_worked_156 ?_
    refine st_goto 161 (by decide) dX12_worked_157 ?_
    exact st_ireturn rfl dX12_worked_161 (mQ.ret (q18 h1 h2 h3 h4 h6 h8 h10 h12 h15 h18))
  · have h18 : x1 = 0 := by omega
    refine st_lload_n (i := 3) rfl rfl dX12_worked_150 ?_
    refine st_lconst (v := 0) rfl dX12_worked_151 ?_
    refine sr_lcmp_eq 160 (s19 h1 h2 h3 h4 h6 h8 h10 h12 h15 h18) ⟨by decide, by decide⟩ (by decide) dX12_worked_152 dX12_worked_153 (fun h19 => ?_) (fun h19 => ?_)
    · have h19 : x3 = 0 := by omega
      refine st_iconst dX12_worked_160 ?_
      exact st_ireturn rfl dX12_worked_161 (mQ.ret (q19 h1 h2 h3 h4 h6 h8 h10 h12 h15 h18 h19))
    · have h19 : ¬ x3 = 0 := by omega
      refine st_iconst dX12_worked_156 ?_
      refine st_goto 161 (by decide) dX12_worked_157 ?_
      exact st_ireturn rfl dX12_worked_161 (mQ.ret (q20 h1 h2 h3 h4 h6 h8 h10 h12 h15 h18 h19))
theorem c_X12_worked (mem : mmM) (x0 x1 x3 : Int) (h0 : R32 x0) (h9 : ¬ x0 = 9) (ha : -1001000 ≤ x1 ∧ x1 ≤ 1001000) (hb : -1001000 ≤ x3 ∧ x3 ≤ 1001000) : con 0 bX12_worked 3 [(0, x0), (1, x1), (1, x3)] mem (fun v m => v = opF x0 x1 x3 ∧ m = mem) := by
  have hm := mul_bnd ha hb
  have ht := tdiv_bnd2 x3 ha
  refine cn_X12_worked (bk_X12_worked_0 ?_ ?_ ?_ ?_ ?_ ?_ ?_ ?_ ?_ ?_ ?_ ?_ ?_ ?_ ?_ ?_ ?_ ?_ ?_ ?_) <;> (intros; refine ⟨?_, rfl⟩; unfold opF b2i; (repeat' split) <;> first | rfl | omega)
theorem withinS_bnd (z : Int) : -1000000 ≤ withinS z ∧ withinS z ≤ 1000000 := by
  unfold withinS
  repeat' split <;> omega
theorem opF_bnd (c a b : Int) : -1000000 ≤ opF c a b ∧ opF c a b ≤ 1000000 := by
  unfold opF b2i
  (repeat' split) <;> first | exact withinS_bnd _ | omega
/-- a sign of a law, and its number: 0 a number, 1 a letter, 9 not, else what joins two -/
abbrev tokT : Type := Int × Int
def evTok (L : Int → Int) (st : List Int) (t : tokT) : List Int :=
  if t.1 = 0 then t.2 :: st else if t.1 = 1 then L t.2 :: st else if t.1 = 9 then (match st with | a :: r => (1 - a) :: r | [] => [])
  else (match st with | b :: a :: r => opF t.1 a b :: r | _ => [])
def evToks (L : Int → Int) : List Int → List tokT → List Int
  | st, [] => st
  | st, t :: r => evToks L (evTok L st t) r
/-- enough stands on the stack at each sign, and never more than 64; one thing is left -/
def wfToks : Nat → List tokT → Prop
  | d, [] => d = 1
  | d, t :: r => if t.1 = 0 then d < 64 ∧ (-1000000 ≤ t.2 ∧ t.2 ≤ 1000000) ∧ wfToks (d + 1) r else if t.1 = 1 then d < 64 ∧ (0 ≤ t.2 ∧ t.2 < 6) ∧ wfToks (d + 1) r else if t.1 = 9 then 1 ≤ d ∧ wfToks d r else 2 ≤ d ∧ (2 ≤ t.1 ∧ t.1 ≤ 11) ∧ wfToks (d - 1) r
/-- the stack lies in a row, its top at place n - 1 -/
def stkR (f : Int → Int) : List Int → Prop
  | [] => True
  | a :: r => f r.length = a ∧ stkR f r
theorem stkR_set {f g : Int → Int} : ∀ (st : List Int), (∀ j : Int, j < st.length → g j = f j) → stkR f st → stkR g st := by
  intro st
  induction st with
  | nil => intro _ _; trivial
  | cons a r ih =>
    intro h hs
    refine ⟨?_, ih (fun j hj => h j (by simp only [List.length_cons]; omega)) hs.2⟩
    rw [h _ (by simp only [List.length_cons]; omega)]
    exact hs.1
/-- signs lie in two rows from place p on -/
def tokR (c v : Int → Int) : Int → List tokT → Prop
  | _, [] => True
  | p, t :: r => c p = t.1 ∧ ((t.1 = 0 ∨ t.1 = 1) → v p = t.2) ∧ tokR c v (p + 1) r
theorem opF_rng {c a b : Int} : R32 (opF c a b) := by
  have := opF_bnd c a b
  omega
theorem cn_X12_workOut {d : Nat} {P : Int → mmM → Prop} {mem : mmM} {x1 x2 x3 : Int} (h : mmT bX12_workOut d 0 0 (mQ 0 P) 0 [(2, 65), (0, x1), (0, x2), (0, x3), (9, 0), (9, 0)] [] mS mem) : con 0 bX12_workOut d [(2, 65), (0, x1), (0, x2), (0, x3)] mem P := mmC_of [(2, 65), (0, x1), (0, x2), (0, x3), (9, 0), (9, 0)] ok_X12_workOut.2.2.2.2 rfl (Nat.le_of_ble_eq_true rfl) h
theorem bk_X12_workOut_0 {d : Nat} {P : Int → mmM → Prop} {mem : mmM} {x1 x2 x3 : Int}
  (k1 : mmT bX12_workOut d 0 0 (mQ 0 P) 12 [(2, 65), (0, x1), (9, 0), (0, x3), (0, 0), (0, ((340 * x1) + x2))] [] mS mem)
  : mmT bX12_workOut d 0 0 (mQ 0 P) 0 [(2, 65), (0, x1), (0, x2), (0, x3), (9, 0), (9, 0)] [] mS mem := by
  refine st_iconst dX12_workOut_0 ?_
  refine st_istore (by decide) (lc' := [(2, 65), (0, x1), (0, x2), (0, x3), (0, 0), (9, 0)]) rfl dX12_workOut_1 ?_
  refine st_sipush rfl dX12_workOut_3 ?_
  refine st_iload_n (i := 1) rfl rfl dX12_workOut_6 ?_
  refine st_imul dX12_workOut_7 ?_
  refine st_iload_n (i := 2) rfl rfl dX12_workOut_8 ?_
  refine st_iadd dX12_workOut_9 ?_
  refine st_istore (by decide) (lc' := [(2, 65), (0, x1), (0, x2), (0, x3), (0, 0), (0, ((340 * x1) + x2))]) rfl dX12_workOut_10 ?_
  exact st_locals [(2, 65), (0, x1), (9, 0), (0, x3), (0, 0), (0, ((340 * x1) + x2))] ⟨Or.inr rfl, Or.inr rfl, Or.inl rfl, Or.inr rfl, Or.inr rfl, Or.inr rfl, trivial⟩ k1
theorem bk_X12_workOut_12 {d : Nat} {P : Int → mmM → Prop} {mem : mmM} {x1 x3 x4 x5 : Int}
  (k1 : x5 < ((340 * x1) + x3) → (mem 67 x5) = 0 → ¬ (mem 67 x5) = 0 → mmT bX12_workOut d 0 0 (mQ 0 P) 12 [(2, 65), (0, x1), (9, 0), (0, x3), (0, (x4 + 1)), (0, (x5 + 1))] [] mS (mset mem 75 x4 (mem 74 (mem 68 x5))))
  (k2 : x5 < ((340 * x1) + x3) → (mem 67 x5) = 0 → (mem 67 x5) = 0 → mmT bX12_workOut d 0 0 (mQ 0 P) 12 [(2, 65), (0, x1), (9, 0), (0, x3), (0, (x4 + 1)), (0, (x5 + 1))] [] mS (mset mem 75 x4 (mem 68 x5)))
  (k3 : x5 < ((340 * x1) + x3) → ¬ (mem 67 x5) = 0 → ¬ (mem 67 x5) = 1 → ¬ (mem 67 x5) = 9 → mmT bX12_workOut d 0 0 (mQ 0 P) 12 [(2, 65), (0, x1), (9, 0), (0, x3), (0, (x4 + (-1))), (0, (x5 + 1))] [] mS (mset mem 75 ((x4 + (-1)) - 1) (opF (mem 67 x5) (mem 75 ((x4 + (-1)) - 1)) (mem 75 (x4 + (-1))))))
  (k4 : x5 < ((340 * x1) + x3) → ¬ (mem 67 x5) = 0 → ¬ (mem 67 x5) = 1 → (mem 67 x5) = 9 → mmT bX12_workOut d 0 0 (mQ 0 P) 12 [(2, 65), (0, x1), (9, 0), (0, x3), (0, x4), (0, (x5 + 1))] [] mS (mset mem 75 (x4 - 1) (1 - (mem 75 (x4 - 1)))))
  (k5 : x5 < ((340 * x1) + x3) → ¬ (mem 67 x5) = 0 → (mem 67 x5) = 1 → ¬ (mem 67 x5) = 0 → mmT bX12_workOut d 0 0 (mQ 0 P) 12 [(2, 65), (0, x1), (9, 0), (0, x3), (0, (x4 + 1)), (0, (x5 + 1))] [] mS (mset mem 75 x4 (mem 74 (mem 68 x5))))
  (k6 : x5 < ((340 * x1) + x3) → ¬ (mem 67 x5) = 0 → (mem 67 x5) = 1 → (mem 67 x5) = 0 → mmT bX12_workOut d 0 0 (mQ 0 P) 12 [(2, 65), (0, x1), (9, 0), (0, x3), (0, (x4 + 1)), (0, (x5 + 1))] [] mS (mset mem 75 x4 (mem 68 x5)))
  (q1 : ((340 * x1) + x3) ≤ x5 → P (mem 75 0) mem)
  (hd4 : 4 ≤ d := by omega)
  (s1 : R32 x5 := by intros; first | omega | assumption | solve_by_elim)
  (s2 : R32 ((340 * x1) + x3) := by intros; first | omega | assumption | solve_by_elim)
  (s3 : x5 < ((340 * x1) + x3) → 0 ≤ x5 ∧ x5 < 1700 := by intros; first | omega | assumption | solve_by_elim)
  (s4 : x5 < ((340 * x1) + x3) → (mem 67 x5) = 0 → ¬ (mem 67 x5) = 0 → 0 ≤ (mem 68 x5) ∧ (mem 68 x5) < 6 := by intros; first | omega | assumption | solve_by_elim)
  (s5 : x5 < ((340 * x1) + x3) → (mem 67 x5) = 0 → ¬ (mem 67 x5) = 0 → 0 ≤ x4 ∧ x4 < 80 := by intros; first | omega | assumption | solve_by_elim)
  (s6 : x5 < ((340 * x1) + x3) → (mem 67 x5) = 0 → (mem 67 x5) = 0 → 0 ≤ x4 ∧ x4 < 80 := by intros; first | omega | assumption | solve_by_elim)
  (s7 : x5 < ((340 * x1) + x3) → ¬ (mem 67 x5) = 0 → ¬ (mem 67 x5) = 1 → ¬ (mem 67 x5) = 9 → 0 ≤ ((x4 + (-1)) - 1) ∧ ((x4 + (-1)) - 1) < 80 := by intros; first | omega | assumption | solve_by_elim)
  (s8 : x5 < ((340 * x1) + x3) → ¬ (mem 67 x5) = 0 → ¬ (mem 67 x5) = 1 → ¬ (mem 67 x5) = 9 → 0 ≤ (x4 + (-1)) ∧ (x4 + (-1)) < 80 := by intros; first | omega | assumption | solve_by_elim)
  (s9 : x5 < ((340 * x1) + x3) → ¬ (mem 67 x5) = 0 → ¬ (mem 67 x5) = 1 → ¬ (mem 67 x5) = 9 → ¬ (mem 67 x5) = 9 := by intros; first | omega | assumption | solve_by_elim)
  (s10 : x5 < ((340 * x1) + x3) → ¬ (mem 67 x5) = 0 → ¬ (mem 67 x5) = 1 → ¬ (mem 67 x5) = 9 → -1001000 ≤ (mem 75 ((x4 + (-1)) - 1)) ∧ (mem 75 ((x4 + (-1)) - 1)) ≤ 1001000 := by intros; first | omega | assumption | solve_by_elim)
  (s11 : x5 < ((340 * x1) + x3) → ¬ (mem 67 x5) = 0 → ¬ (mem 67 x5) = 1 → ¬ (mem 67 x5) = 9 → -1001000 ≤ (mem 75 (x4 + (-1))) ∧ (mem 75 (x4 + (-1))) ≤ 1001000 := by intros; first | omega | assumption | solve_by_elim)
  (s12 : x5 < ((340 * x1) + x3) → ¬ (mem 67 x5) = 0 → ¬ (mem 67 x5) = 1 → (mem 67 x5) = 9 → 0 ≤ (x4 - 1) ∧ (x4 - 1) < 80 := by intros; first | omega | assumption | solve_by_elim)
  (s13 : x5 < ((340 * x1) + x3) → ¬ (mem 67 x5) = 0 → ¬ (mem 67 x5) = 1 → (mem 67 x5) = 9 → R32 (1 - (mem 75 (x4 - 1))) := by intros; first | omega | assumption | solve_by_elim)
  (s14 : x5 < ((340 * x1) + x3) → ¬ (mem 67 x5) = 0 → (mem 67 x5) = 1 → ¬ (mem 67 x5) = 0 → 0 ≤ (mem 68 x5) ∧ (mem 68 x5) < 6 := by intros; first | omega | assumption | solve_by_elim)
  (s15 : x5 < ((340 * x1) + x3) → ¬ (mem 67 x5) = 0 → (mem 67 x5) = 1 → ¬ (mem 67 x5) = 0 → 0 ≤ x4 ∧ x4 < 80 := by intros; first | omega | assumption | solve_by_elim)
  (s16 : x5 < ((340 * x1) + x3) → ¬ (mem 67 x5) = 0 → (mem 67 x5) = 1 → (mem 67 x5) = 0 → 0 ≤ x4 ∧ x4 < 80 := by intros; first | omega | assumption | solve_by_elim)
  : mmT bX12_workOut d 0 0 (mQ 0 P) 12 [(2, 65), (0, x1), (9, 0), (0, x3), (0, x4), (0, x5)] [] mS mem := by
  refine st_iload rfl dX12_workOut_12 ?_
  refine st_sipush rfl dX12_workOut_14 ?_
  refine st_iload_n (i := 1) rfl rfl dX12_workOut_17 ?_
  refine st_imul dX12_workOut_18 ?_
  refine st_iload_n (i := 3) rfl rfl dX12_workOut_19 ?_
  refine st_iadd dX12_workOut_20 ?_
  refine sr_icmp_ge 171 s1 s2 (by decide) dX12_workOut_21 (fun h1 => ?_) (fun h1 => ?_)
  · have h1 : ((340 * x1) + x3) ≤ x5 := by omega
    refine st_aload_n (i := 0) rfl (t := 0) rfl (by decide) dX12_workOut_171 ?_
    refine so_getA 65 16 fr_X12_37_11 rfl sh_65 fx_65_16 dX12_workOut_172 ?_
    refine st_iconst dX12_workOut_175 ?_
    refine so_iald (v := (mem 75 0)) 75 rfl sh_75 (by decide) ⟨by decide, by decide⟩ rfl dX12_workOut_176 (fun r1 => ?_)
    exact st_ireturn rfl dX12_workOut_177 (mQ.ret (q1 h1))
  · have h1 : x5 < ((340 * x1) + x3) := by omega
    refine st_aload_n (i := 0) rfl (t := 0) rfl (by decide) dX12_workOut_24 ?_
    refine so_getA 65 6 fr_X12_13_11 rfl sh_65 fx_65_6 dX12_workOut_25 ?_
    refine st_iload rfl dX12_workOut_28 ?_
    refine so_iald (v := (mem 67 x5)) 67 rfl sh_67 (by decide) (s3 h1) rfl dX12_workOut_30 (fun r2 => ?_)
    refine sr_if_eq 45 r2 (by decide) dX12_workOut_31 (fun h2 => ?_) (fun h2 => ?_)
    · have h2 : (mem 67 x5) = 0 := by omega
      refine st_aload_n (i := 0) rfl (t := 0) rfl (by decide) dX12_workOut_45 ?_
      refine so_getA 65 16 fr_X12_37_11 rfl sh_65 fx_65_16 dX12_workOut_46 ?_
      refine st_iload rfl dX12_workOut_49 ?_
      refine st_aload_n (i := 0) rfl (t := 0) rfl (by decide) dX12_workOut_51 ?_
      refine so_getA 65 6 fr_X12_13_11 rfl sh_65 fx_65_6 dX12_workOut_52 ?_
      refine st_iload rfl dX12_workOut_55 ?_
      refine so_iald (v := (mem 67 x5)) 67 rfl sh_67 (by decide) (s3 h1) rfl dX12_workOut_57 (fun r3 => ?_)
      refine sr_if_ne 71 r3 (by decide) dX12_workOut_58 (fun h3 => ?_) (fun h3 => ?_)
      · have h3 : ¬ (mem 67 x5) = 0 := by omega
        refine st_aload_n (i := 0) rfl (t := 0) rfl (by decide) dX12_workOut_71 ?_
        refine so_getA 65 15 fr_X12_34_11 rfl sh_65 fx_65_15 dX12_workOut_72 ?_
        refine st_aload_n (i := 0) rfl (t := 0) rfl (by decide) dX12_workOut_75 ?_
        refine so_getA 65 7 fr_X12_16_11 rfl sh_65 fx_65_7 dX12_workOut_76 ?_
        refine st_iload rfl dX12_workOut_79 ?_
        refine so_iald (v := (mem 68 x5)) 68 rfl sh_68 (by decide) (s3 h1) rfl dX12_workOut_81 (fun r4 => ?_)
        refine so_iald (v := (mem 74 (mem 68 x5))) 74 rfl sh_74 (by decide) (s4 h1 h2 h3) rfl dX12_workOut_82 (fun r5 => ?_)
        refine so_iast 75 fr_75 rfl sh_75 (by decide) (s5 h1 h2 h3) r5 dX12_workOut_83 ?_
        refine st_iinc (y := (x4 + 1)) (by decide) (i := 4) rfl rfl (lc' := [(2, 65), (0, x1), (9, 0), (0, x3), (0, (x4 + 1)), (0, x5)]) rfl dX12_workOut_84 ?_
        refine st_goto 165 (by decide) dX12_workOut_87 ?_
        refine st_iinc (y := (x5 + 1)) (by decide) (i := 5) rfl rfl (lc' := [(2, 65), (0, x1), (9, 0), (0, x3), (0, (x4 + 1)), (0, (x5 + 1))]) rfl dX12_workOut_165 ?_
        refine st_goto 12 (by decide) dX12_workOut_168 ?_
        exact st_locals [(2, 65), (0, x1), (9, 0), (0, x3), (0, (x4 + 1)), (0, (x5 + 1))] ⟨Or.inr rfl, Or.inr rfl, Or.inl rfl, Or.inr rfl, Or.inr rfl, Or.inr rfl, trivial⟩ (k1 h1 h2 h3)
      · have h3 : (mem 67 x5) = 0 := by omega
        refine st_aload_n (i := 0) rfl (t := 0) rfl (by decide) dX12_workOut_61 ?_
        refine so_getA 65 7 fr_X12_16_11 rfl sh_65 fx_65_7 dX12_workOut_62 ?_
        refine st_iload rfl dX12_workOut_65 ?_
        refine so_iald (v := (mem 68 x5)) 68 rfl sh_68 (by decide) (s3 h1) rfl dX12_workOut_67 (fun r6 => ?_)
        refine st_goto 83 (by decide) dX12_workOut_68 ?_
        refine so_iast 75 fr_75 rfl sh_75 (by decide) (s6 h1 h2 h3) r6 dX12_workOut_83 ?_
        refine st_iinc (y := (x4 + 1)) (by decide) (i := 4) rfl rfl (lc' := [(2, 65), (0, x1), (9, 0), (0, x3), (0, (x4 + 1)), (0, x5)]) rfl dX12_workOut_84 ?_
        refine st_goto 165 (by decide) dX12_workOut_87 ?_
        refine st_iinc (y := (x5 + 1)) (by decide) (i := 5) rfl rfl (lc' := [(2, 65), (0, x1), (9, 0), (0, x3), (0, (x4 + 1)), (0, (x5 + 1))]) rfl dX12_workOut_165 ?_
        refine st_goto 12 (by decide) dX12_workOut_168 ?_
        exact st_locals [(2, 65), (0, x1), (9, 0), (0, x3), (0, (x4 + 1)), (0, (x5 + 1))] ⟨Or.inr rfl, Or.inr rfl, Or.inl rfl, Or.inr rfl, Or.inr rfl, Or.inr rfl, trivial⟩ (k2 h1 h2 h3)
    · have h2 : ¬ (mem 67 x5) = 0 := by omega
      refine st_aload_n (i := 0) rfl (t := 0) rfl (by decide) dX12_workOut_34 ?_
      refine so_getA 65 6 fr_X12_13_11 rfl sh_65 fx_65_6 dX12_workOut_35 ?_
      refine st_iload rfl dX12_workOut_38 ?_
      refine so_iald (v := (mem 67 x5)) 67 rfl sh_67 (by decide) (s3 h1) rfl dX12_workOut_40 (fun r7 => ?_)
      refine st_iconst dX12_workOut_41 ?_
      refine sr_icmp_ne 90 r7 ⟨by decide, by decide⟩ (by decide) dX12_workOut_42 (fun h4 => ?_) (fun h4 => ?_)
      · have h4 : ¬ (mem 67 x5) = 1 := by omega
        refine st_aload_n (i := 0) rfl (t := 0) rfl (by decide) dX12_workOut_90 ?_
        refine so_getA 65 6 fr_X12_13_11 rfl sh_65 fx_65_6 dX12_workOut_91 ?_
        refine st_iload rfl dX12_workOut_94 ?_
        refine so_iald (v := (mem 67 x5)) 67 rfl sh_67 (by decide) (s3 h1) rfl dX12_workOut_96 (fun r8 => ?_)
        refine st_bipush rfl dX12_workOut_97 ?_
        refine sr_icmp_ne 125 r8 ⟨by decide, by decide⟩ (by decide) dX12_workOut_99 (fun h5 => ?_) (fun h5 => ?_)
        · have h5 : ¬ (mem 67 x5) = 9 := by omega
          refine st_iinc (y := (x4 + (-1))) (by decide) (i := 4) rfl rfl (lc' := [(2, 65), (0, x1), (9, 0), (0, x3), (0, (x4 + (-1))), (0, x5)]) rfl dX12_workOut_125 ?_
          refine st_aload_n (i := 0) rfl (t := 0) rfl (by decide) dX12_workOut_128 ?_
          refine so_getA 65 16 fr_X12_37_11 rfl sh_65 fx_65_16 dX12_workOut_129 ?_
          refine st_iload rfl dX12_workOut_132 ?_
          refine st_iconst dX12_workOut_134 ?_
          refine st_isub dX12_workOut_135 ?_
          refine st_aload_n (i := 0) rfl (t := 0) rfl (by decide) dX12_workOut_136 ?_
          refine so_getA 65 6 fr_X12_13_11 rfl sh_65 fx_65_6 dX12_workOut_137 ?_
          refine st_iload rfl dX12_workOut_140 ?_
          refine so_iald (v := (mem 67 x5)) 67 rfl sh_67 (by decide) (s3 h1) rfl dX12_workOut_142 (fun r9 => ?_)
          refine st_aload_n (i := 0) rfl (t := 0) rfl (by decide) dX12_workOut_143 ?_
          refine so_getA 65 16 fr_X12_37_11 rfl sh_65 fx_65_16 dX12_workOut_144 ?_
          refine st_iload rfl dX12_workOut_147 ?_
          refine st_iconst dX12_workOut_149 ?_
          refine st_isub dX12_workOut_150 ?_
          refine so_iald (v := (mem 75 ((x4 + (-1)) - 1))) 75 rfl sh_75 (by decide) (s7 h1 h2 h4 h5) rfl dX12_workOut_151 (fun r10 => ?_)
          refine sr_i2l r10 dX12_workOut_152 ?_
          refine st_aload_n (i := 0) rfl (t := 0) rfl (by decide) dX12_workOut_153 ?_
          refine so_getA 65 16 fr_X12_37_11 rfl sh_65 fx_65_16 dX12_workOut_154 ?_
          refine st_iload rfl dX12_workOut_157 ?_
          refine so_iald (v := (mem 75 (x4 + (-1)))) 75 rfl sh_75 (by decide) (s8 h1 h2 h4 h5) rfl dX12_workOut_159 (fun r11 => ?_)
          refine sr_i2l r11 dX12_workOut_160 ?_
          refine st_callS (kc2 := 0) (ks2 := 0) (av := [(0, (mem 67 x5)), (1, (mem 75 ((x4 + (-1)) - 1))), (1, (mem 75 (x4 + (-1))))]) mr_X12_221 ok_X12_worked (c_X12_worked mem (mem 67 x5) (mem 75 ((x4 + (-1)) - 1)) (mem 75 (x4 + (-1))) (r9) ((s9 h1 h2 h4 h5)) ((s10 h1 h2 h4 h5)) ((s11 h1 h2 h4 h5))) rfl rfl hd4 (Nat.le_refl 0) (Nat.le_refl 0) (Nat.le_of_ble_eq_true rfl) dX12_workOut_161 (mQ.elim fun v1 m1 hp => ?_)
          obtain ⟨hpv, hpm⟩ := hp
          subst hpv
          have hpm := hpm.symm
          subst hpm
          refine so_iast 75 fr_75 rfl sh_75 (by decide) (s7 h1 h2 h4 h5) (opF_rng) dX12_workOut_164 ?_
          refine st_iinc (y := (x5 + 1)) (by decide) (i := 5) rfl rfl (lc' := [(2, 65), (0, x1), (9, 0), (0, x3), (0, (x4 + (-1))), (0, (x5 + 1))]) rfl dX12_workOut_165 ?_
          refine st_goto 12 (by decide) dX12_workOut_168 ?_
          exact st_locals [(2, 65), (0, x1), (9, 0), (0, x3), (0, (x4 + (-1))), (0, (x5 + 1))] ⟨Or.inr rfl, Or.inr rfl, Or.inl rfl, Or.inr rfl, Or.inr rfl, Or.inr rfl, trivial⟩ (k3 h1 h2 h4 h5)
        · have h5 : (mem 67 x5) = 9 := by omega
          refine st_aload_n (i := 0) rfl (t := 0) rfl (by decide) dX12_workOut_102 ?_
          refine so_getA 65 16 fr_X12_37_11 rfl sh_65 fx_65_16 dX12_workOut_103 ?_
          refine st_iload rfl dX12_workOut_106 ?_
          refine st_iconst dX12_workOut_108 ?_
          refine st_isub dX12_workOut_109 ?_
          refine st_iconst dX12_workOut_110 ?_
          refine st_aload_n (i := 0) rfl (t := 0) rfl (by decide) dX12_workOut_111 ?_
          refine so_getA 65 16 fr_X12_37_11 rfl sh_65 fx_65_16 dX12_workOut_112 ?_
          refine st_iload rfl dX12_workOut_115 ?_
          refine st_iconst dX12_workOut_117 ?_
          refine st_isub dX12_workOut_118 ?_
          refine so_iald (v := (mem 75 (x4 - 1))) 75 rfl sh_75 (by decide) (s12 h1 h2 h4 h5) rfl dX12_workOut_119 (fun r12 => ?_)
          refine st_isub dX12_workOut_120 ?_
          refine so_iast 75 fr_75 rfl sh_75 (by decide) (s12 h1 h2 h4 h5) (s13 h1 h2 h4 h5) dX12_workOut_121 ?_
          refine st_goto 165 (by decide) dX12_workOut_122 ?_
          refine st_iinc (y := (x5 + 1)) (by decide) (i := 5) rfl rfl (lc' := [(2, 65), (0, x1), (9, 0), (0, x3), (0, x4), (0, (x5 + 1))]) rfl dX12_workOut_165 ?_
          refine st_goto 12 (by decide) dX12_workOut_168 ?_
          exact st_locals [(2, 65), (0, x1), (9, 0), (0, x3), (0, x4), (0, (x5 + 1))] ⟨Or.inr rfl, Or.inr rfl, Or.inl rfl, Or.inr rfl, Or.inr rfl, Or.inr rfl, trivial⟩ (k4 h1 h2 h4 h5)
      · have h4 : (mem 67 x5) = 1 := by omega
        refine st_aload_n (i := 0) rfl (t := 0) rfl (by decide) dX12_workOut_45 ?_
        refine so_getA 65 16 fr_X12_37_11 rfl sh_65 fx_65_16 dX12_workOut_46 ?_
        refine st_iload rfl dX12_workOut_49 ?_
        refine st_aload_n (i := 0) rfl (t := 0) rfl (by decide) dX12_workOut_51 ?_
        refine so_getA 65 6 fr_X12_13_11 rfl sh_65 fx_65_6 dX12_workOut_52 ?_
        refine st_iload rfl dX12_workOut_55 ?_
        refine so_iald (v := (mem 67 x5)) 67 rfl sh_67 (by decide) (s3 h1) rfl dX12_workOut_57 (fun r13 => ?_)
        refine sr_if_ne 71 r13 (by decide) dX12_workOut_58 (fun h6 => ?_) (fun h6 => ?_)
        · have h6 : ¬ (mem 67 x5) = 0 := by omega
          refine st_aload_n (i := 0) rfl (t := 0) rfl (by decide) dX12_workOut_71 ?_
          refine so_getA 65 15 fr_X12_34_11 rfl sh_65 fx_65_15 dX12_workOut_72 ?_
          refine st_aload_n (i := 0) rfl (t := 0) rfl (by decide) dX12_workOut_75 ?_
          refine so_getA 65 7 fr_X12_16_11 rfl sh_65 fx_65_7 dX12_workOut_76 ?_
          refine st_iload rfl dX12_workOut_79 ?_
          refine so_iald (v := (mem 68 x5)) 68 rfl sh_68 (by decide) (s3 h1) rfl dX12_workOut_81 (fun r14 => ?_)
          refine so_iald (v := (mem 74 (mem 68 x5))) 74 rfl sh_74 (by decide) (s14 h1 h2 h4 h6) rfl dX12_workOut_82 (fun r15 => ?_)
          refine so_iast 75 fr_75 rfl sh_75 (by decide) (s15 h1 h2 h4 h6) r15 dX12_workOut_83 ?_
          refine st_iinc (y := (x4 + 1)) (by decide) (i := 4) rfl rfl (lc' := [(2, 65), (0, x1), (9, 0), (0, x3), (0, (x4 + 1)), (0, x5)]) rfl dX12_workOut_84 ?_
          refine st_goto 165 (by decide) dX12_workOut_87 ?_
          refine st_iinc (y := (x5 + 1)) (by decide) (i := 5) rfl rfl (lc' := [(2, 65), (0, x1), (9, 0), (0, x3), (0, (x4 + 1)), (0, (x5 + 1))]) rfl dX12_workOut_165 ?_
          refine st_goto 12 (by decide) dX12_workOut_168 ?_
          exact st_locals [(2, 65), (0, x1), (9, 0), (0, x3), (0, (x4 + 1)), (0, (x5 + 1))] ⟨Or.inr rfl, Or.inr rfl, Or.inl rfl, Or.inr rfl, Or.inr rfl, Or.inr rfl, trivial⟩ (k5 h1 h2 h4 h6)
        · have h6 : (mem 67 x5) = 0 := by omega
          refine st_aload_n (i := 0) rfl (t := 0) rfl (by decide) dX12_workOut_61 ?_
          refine so_getA 65 7 fr_X12_16_11 rfl sh_65 fx_65_7 dX12_workOut_62 ?_
          refine st_iload rfl dX12_workOut_65 ?_
          refine so_iald (v := (mem 68 x5)) 68 rfl sh_68 (by decide) (s3 h1) rfl dX12_workOut_67 (fun r16 => ?_)
          refine st_goto 83 (by decide) dX12_workOut_68 ?_
          refine so_iast 75 fr_75 rfl sh_75 (by decide) (s16 h1 h2 h4 h6) r16 dX12_workOut_83 ?_
          refine st_iinc (y := (x4 + 1)) (by decide) (i := 4) rfl rfl (lc' := [(2, 65), (0, x1), (9, 0), (0, x3), (0, (x4 + 1)), (0, x5)]) rfl dX12_workOut_84 ?_
          refine st_goto 165 (by decide) dX12_workOut_87 ?_
          refine st_iinc (y := (x5 + 1)) (by decide) (i := 5) rfl rfl (lc' := [(2, 65), (0, x1), (9, 0), (0, x3), (0, (x4 + 1)), (0, (x5 + 1))]) rfl dX12_workOut_165 ?_
          refine st_goto 12 (by decide) dX12_workOut_168 ?_
          exact st_locals [(2, 65), (0, x1), (9, 0), (0, x3), (0, (x4 + 1)), (0, (x5 + 1))] ⟨Or.inr rfl, Or.inr rfl, Or.inl rfl, Or.inr rfl, Or.inr rfl, Or.inr rfl, trivial⟩ (k6 h1 h2 h4 h6)
theorem c_X12_workOut (mem : mmM) (x1 x2 x3 : Int) (ts : List tokT) (hr : tokR (mem 67) (mem 68) (340 * x1 + x2) ts) (hlen : (ts.length : Int) = x3 - x2) (hw : wfToks 0 ts) (hL : ∀ k, 0 ≤ k → k < 6 → -1000000 ≤ mem 74 k ∧ mem 74 k ≤ 1000000) (h1 : 0 ≤ x1 ∧ x1 < 5) (h2 : 0 ≤ x2) (h3 : x3 ≤ 340) : con 0 bX12_workOut 4 [(2, 65), (0, x1), (0, x2), (0, x3)] mem (fun v m => evToks (mem 74) [] ts = [v] ∧ (-1001000 ≤ v ∧ v ≤ 1001000) ∧ ∀ a, a ≠ 75 → m a = mem a) := by
  refine cn_X12_workOut (bk_X12_workOut_0 ?_)
  have key : ∀ (r : List tokT) (st : List Int) (p B : Int) (m : mmM), tokR (mem 67) (mem 68) p r → (r.length : Int) = 340 * x1 + x3 - p → 0 ≤ p → wfToks st.length r → (∀ a, a ∈ st → -B ≤ a ∧ a ≤ B) → 1000000 ≤ B → B + r.length ≤ 1001000 → st.length ≤ 64 → stkR (m 75) st → (∀ a, a ≠ 75 → m a = mem a) → evToks (mem 74) st r = evToks (mem 74) [] ts →
      mmT bX12_workOut 4 0 0 (mQ 0 (fun v m => evToks (mem 74) [] ts = [v] ∧ (-1001000 ≤ v ∧ v ≤ 1001000) ∧ ∀ a, a ≠ 75 → m a = mem a)) 12 [(2, 65), (0, x1), (9, 0), (0, x3), (0, (st.length : Int)), (0, p)] [] mS m := by
    intro r
    induction r with
    | nil =>
      intro st p B m hr hl hp hw hst hB hBr h64 hs hm he
      have hl' : p = 340 * x1 + x3 := by
        have : ((0 : Nat) : Int) = 340 * x1 + x3 - p := hl
        omega
      have hd : st.length = 1 := hw
      refine bk_X12_workOut_12 (fun g => by omega) (fun g => by omega) (fun g => by omega) (fun g => by omega) (fun g => by omega) (fun g => by omega) (fun g => ?_)
      rw [← he]
      match st, hd, hs, hst with
      | [a], _, hs, hst =>
        have e : m 75 0 = a := hs.1
        have b := hst a (List.mem_cons_self ..)
        have hz : B ≤ 1001000 := by
          have : B + ((0 : Nat) : Int) ≤ 1001000 := hBr
          omega
        refine ⟨?_, by omega, hm⟩
        show [a] = [m 75 0]
        rw [e]
    | cons t r ih =>
      intro st p B m hr hl hp hw hst hB hBr h64 hs hm he
      have e67 : m 67 = mem 67 := hm 67 (by decide)
      have e68 : m 68 = mem 68 := hm 68 (by decide)
      have e74 : m 74 = mem 74 := hm 74 (by decide)
      obtain ⟨r1, r2, r3⟩ := hr
      have hlr : (r.length : Int) = 340 * x1 + x3 - (p + 1) := by
        simp only [List.length_cons] at hl
        omega
      have hBr' : B + 1 + (r.length : Int) ≤ 1001000 := by
        simp only [List.length_cons] at hBr
        omega
      have hlt : p < 340 * x1 + x3 := by omega
      have hm' : ∀ (j v : Int), ∀ a, a ≠ 75 → mset m 75 j v a = mem a := fun j v a ha => by rw [mset_ne ha]; exact hm a ha
      have push : ∀ v : Int, stkR (mset m 75 (st.length : Int) v 75) (v :: st) := by
        intro v
        refine ⟨mset_same _ _ _ _, stkR_set st (fun j hj => ?_) hs⟩
        rw [mset_at, if_neg (by omega)]
      have cw : t.1 = m 67 p := by rw [e67, r1]
      unfold wfToks at hw
      have he' : evToks (mem 74) (evTok (mem 74) st t) r = evToks (mem 74) [] ts := he
      unfold evTok at he'
      rw [cw] at hw he'
      by_cases c0 : m 67 p = 0
      · rw [if_pos c0] at hw he'
        have ev : m 68 p = t.2 := by rw [e68]; exact r2 (Or.inl (by omega))
        refine bk_X12_workOut_12 (fun g g2 g3 => absurd g2 g3) (fun g g2 g3 => ?_) (fun g g2 => absurd c0 g2) (fun g g2 => absurd c0 g2) (fun g g2 => absurd c0 g2) (fun g g2 => absurd c0 g2) (fun g => by omega) (s5 := fun g g2 g3 => absurd g2 g3) (s6 := fun g g2 g3 => by omega) (s4 := fun g g2 g3 => absurd g2 g3) (s7 := fun g g2 => absurd c0 g2) (s8 := fun g g2 => absurd c0 g2) (s10 := fun g g2 => absurd c0 g2) (s11 := fun g g2 => absurd c0 g2) (s12 := fun g g2 => absurd c0 g2) (s13 := fun g g2 => absurd c0 g2) (s14 := fun g g2 => absurd c0 g2) (s15 := fun g g2 => absurd c0 g2) (s16 := fun g g2 => absurd c0 g2) (s3 := fun _ => by omega)
        rw [ev]
        refine ih (t.2 :: st) (p + 1) B (mset m 75 (st.length : Int) t.2) r3 hlr (by omega) hw.2.2 (fun a ha => ?_) hB (by omega) (by simp only [List.length_cons]; omega) (push t.2) (hm' _ _) he'
        rcases List.mem_cons.mp ha with q | q
        · rw [q]
          omega
        · exact hst a q
      · rw [if_neg c0] at hw he'
        by_cases c1 : m 67 p = 1
        · rw [if_pos c1] at hw he'
          have ev : m 68 p = t.2 := by rw [e68]; exact r2 (Or.inr (by omega))
          have lb := hL t.2 hw.2.1.1 hw.2.1.2
          refine bk_X12_workOut_12 (fun g g2 => absurd g2 c0) (fun g g2 => absurd g2 c0) (fun g g2 g3 => absurd c1 g3) (fun g g2 g3 => absurd c1 g3) (fun g g2 g3 g4 => ?_) (fun g g2 g3 g4 => absurd g4 c0) (fun g => by omega) (s5 := fun g g2 => absurd g2 c0) (s6 := fun g g2 => absurd g2 c0) (s4 := fun g g2 => absurd g2 c0) (s7 := fun g g2 g3 => absurd c1 g3) (s8 := fun g g2 g3 => absurd c1 g3) (s10 := fun g g2 g3 => absurd c1 g3) (s11 := fun g g2 g3 => absurd c1 g3) (s12 := fun g g2 g3 => absurd c1 g3) (s13 := fun g g2 g3 => absurd c1 g3) (s14 := fun g g2 g3 g4 => by rw [ev]; omega) (s15 := fun g g2 g3 g4 => by omega) (s16 := fun g g2 g3 g4 => absurd g4 c0) (s3 := fun _ => by omega)
          rw [ev, e74]
          refine ih (mem 74 t.2 :: st) (p + 1) B (mset m 75 (st.length : Int) (mem 74 t.2)) r3 hlr (by omega) hw.2.2 (fun a ha => ?_) hB (by omega) (by simp only [List.length_cons]; omega) (push _) (hm' _ _) he'
          rcases List.mem_cons.mp ha with q | q
          · rw [q]
            omega
          · exact hst a q
        · rw [if_neg c1] at hw he'
          by_cases c9 : m 67 p = 9
          · rw [if_pos c9] at hw he'
            match st, hw, hs, he', hst, h64 with
            | a :: s', hw, hs, he', hst, h64 =>
              have ea : m 75 (s'.length : Int) = a := hs.1
              have el : ((a :: s').length : Int) - 1 = s'.length := by simp only [List.length_cons]; omega
              have ab := hst a (List.mem_cons_self ..)
              have l64 : s'.length + 1 ≤ 64 := h64
              refine bk_X12_workOut_12 (fun g g2 => absurd g2 c0) (fun g g2 => absurd g2 c0) (fun g g2 g3 g4 => absurd c9 g4) (fun g g2 g3 g4 => ?_) (fun g g2 g3 => absurd g3 c1) (fun g g2 g3 => absurd g3 c1) (fun g => by omega) (s5 := fun g g2 => absurd g2 c0) (s6 := fun g g2 => absurd g2 c0) (s4 := fun g g2 => absurd g2 c0) (s7 := fun g g2 g3 g4 => absurd c9 g4) (s8 := fun g g2 g3 g4 => absurd c9 g4) (s10 := fun g g2 g3 g4 => absurd c9 g4) (s11 := fun g g2 g3 g4 => absurd c9 g4) (s12 := fun g g2 g3 g4 => by omega) (s13 := fun g g2 g3 g4 => by rw [el, ea]; omega) (s14 := fun g g2 g3 => absurd g3 c1) (s15 := fun g g2 g3 => absurd g3 c1) (s16 := fun g g2 g3 => absurd g3 c1) (s3 := fun _ => by omega)
              rw [el, ea]
              refine ih ((1 - a) :: s') (p + 1) (B + 1) (mset m 75 (s'.length : Int) (1 - a)) r3 hlr (by omega) hw.2 (fun b hb => ?_) (by omega) (by omega) h64 ⟨mset_same _ _ _ _, stkR_set s' (fun j hj => by rw [mset_at, if_neg (by omega)]) hs.2⟩ (hm' _ _) he'
              rcases List.mem_cons.mp hb with q | q
              · rw [q]
                omega
              · have := hst b (List.mem_cons_of_mem _ q)
                omega
          · rw [if_neg c9] at hw he'
            match st, hw, hs, he', hst, h64 with
            | [], hw, hs, he', hst, h64 =>
              have : 2 ≤ 0 := hw.1
              omega
            | [a], hw, hs, he', hst, h64 =>
              have : 2 ≤ 1 := hw.1
              omega
            | b :: a :: s', hw, hs, he', hst, h64 =>
              have eb : m 75 ((a :: s').length : Int) = b := hs.1
              have ea : m 75 (s'.length : Int) = a := hs.2.1
              have el1 : ((b :: a :: s').length : Int) + (-1) = ((a :: s').length : Int) := by simp only [List.length_cons]; omega
              have el2 : ((a :: s').length : Int) - 1 = s'.length := by simp only [List.length_cons]; omega
              have bb := hst b (List.mem_cons_self ..)
              have ab := hst a (List.mem_cons_of_mem _ (List.mem_cons_self ..))
              have l64 : s'.length + 1 + 1 ≤ 64 := h64
              have ob := opF_bnd (m 67 p) a b
              refine bk_X12_workOut_12 (fun g g2 => absurd g2 c0) (fun g g2 => absurd g2 c0) (fun g g2 g3 g4 => ?_) (fun g g2 g3 g4 => absurd g4 c9) (fun g g2 g3 => absurd g3 c1) (fun g g2 g3 => absurd g3 c1) (fun g => by omega) (s5 := fun g g2 => absurd g2 c0) (s6 := fun g g2 => absurd g2 c0) (s4 := fun g g2 => absurd g2 c0) (s7 := fun g g2 g3 g4 => by rw [el1, el2]; omega) (s8 := fun g g2 g3 g4 => by rw [el1]; simp only [List.length_cons]; omega) (s10 := fun g g2 g3 g4 => by rw [el1, el2, ea]; omega) (s11 := fun g g2 g3 g4 => by rw [el1, eb]; omega) (s12 := fun g g2 g3 g4 => absurd g4 c9) (s13 := fun g g2 g3 g4 => absurd g4 c9) (s14 := fun g g2 g3 => absurd g3 c1) (s15 := fun g g2 g3 => absurd g3 c1) (s16 := fun g g2 g3 => absurd g3 c1) (s3 := fun _ => by omega)
              rw [el1, el2, ea, eb]
              refine ih (opF (m 67 p) a b :: s') (p + 1) B (mset m 75 (s'.length : Int) (opF (m 67 p) a b)) r3 hlr (by omega) hw.2.2 (fun z hz => ?_) hB (by omega) (by show s'.length + 1 ≤ 64; omega) ⟨mset_same _ _ _ _, stkR_set s' (fun j hj => by rw [mset_at, if_neg (by omega)]) hs.2.2⟩ (hm' _ _) he'
              rcases List.mem_cons.mp hz with q | q
              · rw [q]
                omega
              · exact hst z (List.mem_cons_of_mem _ (List.mem_cons_of_mem _ q))
  refine key ts [] (340 * x1 + x2) 1000000 mem hr (by omega) (by omega) hw (fun a ha => by cases ha) (by omega) (by omega) (by decide) trivial (fun a _ => rfl) rfl
/-- a law: its clauses, each a test, or none, and a sum -/
abbrev lawT : Type := List (List tokT × List tokT)
def top1 : List Int → Int
  | [] => 0
  | a :: _ => a
def lawV (L : Int → Int) : lawT → Int
  | [] => 0
  | q :: r => if q.1.length = 0 ∨ ¬ top1 (evToks L [] q.1) = 0 then top1 (evToks L [] q.2) else lawV L r
/-- law n lies in the model's rows, from clause c on -/
def lawR (mem : mmM) (n : Int) : Int → lawT → Prop
  | c, [] => c = 90 * n + mem 70 n
  | c, q :: r => c < 90 * n + mem 70 n ∧ (0 ≤ mem 71 c ∧ (q.1.length : Int) = mem 72 c - mem 71 c ∧ (q.2.length : Int) = mem 73 c - mem 72 c ∧ mem 73 c ≤ 340) ∧ (tokR (mem 67) (mem 68) (340 * n + mem 71 c) q.1 ∧ tokR (mem 67) (mem 68) (340 * n + mem 72 c) q.2) ∧ (q.1.length = 0 ∨ wfToks 0 q.1) ∧ wfToks 0 q.2 ∧ lawR mem n (c + 1) r
theorem lawR_congr {mem m : mmM} {n : Int} (h : ∀ a, a ≠ 74 → a ≠ 75 → m a = mem a) : ∀ (cl : lawT) (c : Int), lawR mem n c cl → lawR m n c cl := by
  intro cl
  induction cl with
  | nil =>
    intro c hc
    unfold lawR at hc ⊢
    rw [h 70 (by decide) (by decide)]
    exact hc
  | cons q r ih =>
    intro c hc
    unfold lawR at hc ⊢
    rw [h 70 (by decide) (by decide), h 71 (by decide) (by decide), h 72 (by decide) (by decide), h 73 (by decide) (by decide), h 67 (by decide) (by decide), h 68 (by decide) (by decide)]
    exact ⟨hc.1, hc.2.1, hc.2.2.1, hc.2.2.2.1, hc.2.2.2.2.1, ih _ hc.2.2.2.2.2⟩
theorem cn_X12_worthOf {d : Nat} {P : Int → mmM → Prop} {mem : mmM} {x1 : Int} (h : mmT bX12_worthOf d 0 0 (mQ 0 P) 0 [(2, 65), (0, x1), (9, 0)] [] mS mem) : con 0 bX12_worthOf d [(2, 65), (0, x1)] mem P := mmC_of [(2, 65), (0, x1), (9, 0)] ok_X12_worthOf.2.2.2.2 rfl (Nat.le_of_ble_eq_true rfl) h
theorem bk_X12_worthOf_0 {d : Nat} {P : Int → mmM → Prop} {mem : mmM} {x1 : Int}
  (k1 : mmT bX12_worthOf d 0 0 (mQ 0 P) 5 [(2, 65), (0, x1), (0, (90 * x1))] [] mS mem)
  : mmT bX12_worthOf d 0 0 (mQ 0 P) 0 [(2, 65), (0, x1), (9, 0)] [] mS mem := by
  refine st_bipush rfl dX12_worthOf_0 ?_
  refine st_iload_n (i := 1) rfl rfl dX12_worthOf_2 ?_
  refine st_imul dX12_worthOf_3 ?_
  refine st_istore_n (i := 2) rfl (by decide) (lc' := [(2, 65), (0, x1), (0, (90 * x1))]) rfl dX12_worthOf_4 ?_
  exact st_locals [(2, 65), (0, x1), (0, (90 * x1))] ⟨Or.inr rfl, Or.inr rfl, Or.inr rfl, trivial⟩ k1
theorem bk_X12_worthOf_5 {d : Nat} {d1 : Nat} {P1 : Int → mmM → Prop} {d2 : Nat} {P2 : Int → mmM → Prop} {d3 : Nat} {P3 : Int → mmM → Prop} {P : Int → mmM → Prop} {mem : mmM} {x1 x2 : Int}
  (c1 : x2 < ((90 * x1) + (mem 70 x1)) → (mem 71 x2) = (mem 72 x2) → con 0 bX12_workOut d1 [(2, 65), (0, x1), (0, (mem 72 x2)), (0, (mem 73 x2))] mem P1)
  (c2 : x2 < ((90 * x1) + (mem 70 x1)) → ¬ (mem 71 x2) = (mem 72 x2) → con 0 bX12_workOut d2 [(2, 65), (0, x1), (0, (mem 71 x2)), (0, (mem 72 x2))] mem P2)
  (c3 : x2 < ((90 * x1) + (mem 70 x1)) → ¬ (mem 71 x2) = (mem 72 x2) → ∀ (v2 : Int), ∀ (m2 : mmM), P2 v2 m2 → ¬ v2 = 0 → con 0 bX12_workOut d3 [(2, 65), (0, x1), (0, (m2 72 x2)), (0, (m2 73 x2))] m2 P3)
  (k1 : x2 < ((90 * x1) + (mem 70 x1)) → ¬ (mem 71 x2) = (mem 72 x2) → ∀ (v2 : Int), ∀ (m2 : mmM), P2 v2 m2 → v2 = 0 → mmT bX12_worthOf d 0 0 (mQ 0 P) 5 [(2, 65), (0, x1), (0, (x2 + 1))] [] mS m2)
  (q1 : ((90 * x1) + (mem 70 x1)) ≤ x2 → P 0 mem)
  (q2 : x2 < ((90 * x1) + (mem 70 x1)) → (mem 71 x2) = (mem 72 x2) → ∀ (v1 : Int), ∀ (m1 : mmM), P1 v1 m1 → P v1 m1)
  (q3 : x2 < ((90 * x1) + (mem 70 x1)) → ¬ (mem 71 x2) = (mem 72 x2) → ∀ (v2 : Int), ∀ (m2 : mmM), P2 v2 m2 → ¬ v2 = 0 → ∀ (v3 : Int), ∀ (m3 : mmM), P3 v3 m3 → P v3 m3)
  (hd_d1 : d1 + 1 ≤ d := by omega)
  (hd_d2 : d2 + 1 ≤ d := by omega)
  (hd_d3 : d3 + 1 ≤ d := by omega)
  (s1 : 0 ≤ x1 ∧ x1 < 5 := by intros; first | omega | assumption | solve_by_elim)
  (s2 : R32 x2 := by intros; first | omega | assumption | solve_by_elim)
  (s3 : R32 ((90 * x1) + (mem 70 x1)) := by intros; first | omega | assumption | solve_by_elim)
  (s4 : x2 < ((90 * x1) + (mem 70 x1)) → 0 ≤ x2 ∧ x2 < 450 := by intros; first | omega | assumption | solve_by_elim)
  (s5 : x2 < ((90 * x1) + (mem 70 x1)) → ¬ (mem 71 x2) = (mem 72 x2) → ∀ (v2 : Int), ∀ (m2 : mmM), P2 v2 m2 → R32 v2 := by intros; first | omega | assumption | solve_by_elim)
  : mmT bX12_worthOf d 0 0 (mQ 0 P) 5 [(2, 65), (0, x1), (0, x2)] [] mS mem := by
  refine st_iload_n (i := 2) rfl rfl dX12_worthOf_5 ?_
  refine st_bipush rfl dX12_worthOf_6 ?_
  refine st_iload_n (i := 1) rfl rfl dX12_worthOf_8 ?_
  refine st_imul dX12_worthOf_9 ?_
  refine st_aload_n (i := 0) rfl (t := 0) rfl (by decide) dX12_worthOf_10 ?_
  refine so_getA 65 9 fr_X12_22_11 rfl sh_65 fx_65_9 dX12_worthOf_11 ?_
  refine st_iload_n (i := 1) rfl rfl dX12_worthOf_14 ?_
  refine so_iald (v := (mem 70 x1)) 70 rfl sh_70 (by decide) s1 rfl dX12_worthOf_15 (fun r1 => ?_)
  refine st_iadd dX12_worthOf_16 ?_
  refine sr_icmp_ge 79 s2 s3 (by decide) dX12_worthOf_17 (fun h1 => ?_) (fun h1 => ?_)
  · have h1 : ((90 * x1) + (mem 70 x1)) ≤ x2 := by omega
    refine st_iconst dX12_worthOf_79 ?_
    exact st_ireturn rfl dX12_worthOf_80 (mQ.ret (q1 h1))
  · have h1 : x2 < ((90 * x1) + (mem 70 x1)) := by omega
    refine st_aload_n (i := 0) rfl (t := 0) rfl (by decide) dX12_worthOf_20 ?_
    refine so_getA 65 10 fr_X12_25_11 rfl sh_65 fx_65_10 dX12_worthOf_21 ?_
    refine st_iload_n (i := 2) rfl rfl dX12_worthOf_24 ?_
    refine so_iald (v := (mem 71 x2)) 71 rfl sh_71 (by decide) (s4 h1) rfl dX12_worthOf_25 (fun r2 => ?_)
    refine st_aload_n (i := 0) rfl (t := 0) rfl (by decide) dX12_worthOf_26 ?_
    refine so_getA 65 11 fr_X12_28_11 rfl sh_65 fx_65_11 dX12_worthOf_27 ?_
    refine st_iload_n (i := 2) rfl rfl dX12_worthOf_30 ?_
    refine so_iald (v := (mem 72 x2)) 72 rfl sh_72 (by decide) (s4 h1) rfl dX12_worthOf_31 (fun r3 => ?_)
    refine sr_icmp_eq 55 r2 r3 (by decide) dX12_worthOf_32 (fun h2 => ?_) (fun h2 => ?_)
    · have h2 : (mem 71 x2) = (mem 72 x2) := by omega
      refine st_aload_n (i := 0) rfl (t := 0) rfl (by decide) dX12_worthOf_55 ?_
      refine st_iload_n (i := 1) rfl rfl dX12_worthOf_56 ?_
      refine st_aload_n (i := 0) rfl (t := 0) rfl (by decide) dX12_worthOf_57 ?_
      refine so_getA 65 11 fr_X12_28_11 rfl sh_65 fx_65_11 dX12_worthOf_58 ?_
      refine st_iload_n (i := 2) rfl rfl dX12_worthOf_61 ?_
      refine so_iald (v := (mem 72 x2)) 72 rfl sh_72 (by decide) (s4 h1) rfl dX12_worthOf_62 (fun r4 => ?_)
      refine st_aload_n (i := 0) rfl (t := 0) rfl (by decide) dX12_worthOf_63 ?_
      refine so_getA 65 12 fr_X12_31_11 rfl sh_65 fx_65_12 dX12_worthOf_64 ?_
      refine st_iload_n (i := 2) rfl rfl dX12_worthOf_67 ?_
      refine so_iald (v := (mem 73 x2)) 73 rfl sh_73 (by decide) (s4 h1) rfl dX12_worthOf_68 (fun r5 => ?_)
      refine st_callV (kc2 := 0) (ks2 := 0) (av := [(0, x1), (0, (mem 72 x2)), (0, (mem 73 x2))]) 65 11 mr_X12_225 ok_X12_workOut (c1 h1 h2) rfl sh_65 ⟨_, rfl, rfl, by decide⟩ rfl rfl hd_d1 (Nat.le_refl 0) (Nat.le_refl 0) (Nat.le_of_ble_eq_true rfl) dX12_worthOf_69 (mQ.elim fun v1 m1 p1 => ?_)
      exact st_ireturn rfl dX12_worthOf_72 (mQ.ret (q2 h1 h2 v1 m1 p1))
    · have h2 : ¬ (mem 71 x2) = (mem 72 x2) := by omega
      refine st_aload_n (i := 0) rfl (t := 0) rfl (by decide) dX12_worthOf_35 ?_
      refine st_iload_n (i := 1) rfl rfl dX12_worthOf_36 ?_
      refine st_aload_n (i := 0) rfl (t := 0) rfl (by decide) dX12_worthOf_37 ?_
      refine so_getA 65 10 fr_X12_25_11 rfl sh_65 fx_65_10 dX12_worthOf_38 ?_
      refine st_iload_n (i := 2) rfl rfl dX12_worthOf_41 ?_
      refine so_iald (v := (mem 71 x2)) 71 rfl sh_71 (by decide) (s4 h1) rfl dX12_worthOf_42 (fun r6 => ?_)
      refine st_aload_n (i := 0) rfl (t := 0) rfl (by decide) dX12_worthOf_43 ?_
      refine so_getA 65 11 fr_X12_28_11 rfl sh_65 fx_65_11 dX12_worthOf_44 ?_
      refine st_iload_n (i := 2) rfl rfl dX12_worthOf_47 ?_
      refine so_iald (v := (mem 72 x2)) 72 rfl sh_72 (by decide) (s4 h1) rfl dX12_worthOf_48 (fun r7 => ?_)
      refine st_callV (kc2 := 0) (ks2 := 0) (av := [(0, x1), (0, (mem 71 x2)), (0, (mem 72 x2))]) 65 11 mr_X12_225 ok_X12_workOut (c2 h1 h2) rfl sh_65 ⟨_, rfl, rfl, by decide⟩ rfl rfl hd_d2 (Nat.le_refl 0) (Nat.le_refl 0) (Nat.le_of_ble_eq_true rfl) dX12_worthOf_49 (mQ.elim fun v2 m2 p2 => ?_)
      refine sr_if_eq 73 (s5 h1 h2 v2 m2 p2) (by decide) dX12_worthOf_52 (fun h3 => ?_) (fun h3 => ?_)
      · have h3 : v2 = 0 := by omega
        refine st_iinc (y := (x2 + 1)) (by decide) (i := 2) rfl rfl (lc' := [(2, 65), (0, x1), (0, (x2 + 1))]) rfl dX12_worthOf_73 ?_
        refine st_goto 5 (by decide) dX12_worthOf_76 ?_
        exact st_locals [(2, 65), (0, x1), (0, (x2 + 1))] ⟨Or.inr rfl, Or.inr rfl, Or.inr rfl, trivial⟩ (k1 h1 h2 v2 m2 p2 h3)
      · have h3 : ¬ v2 = 0 := by omega
        refine st_aload_n (i := 0) rfl (t := 0) rfl (by decide) dX12_worthOf_55 ?_
        refine st_iload_n (i := 1) rfl rfl dX12_worthOf_56 ?_
        refine st_aload_n (i := 0) rfl (t := 0) rfl (by decide) dX12_worthOf_57 ?_
        refine so_getA 65 11 fr_X12_28_11 rfl sh_65 fx_65_11 dX12_worthOf_58 ?_
        refine st_iload_n (i := 2) rfl rfl dX12_worthOf_61 ?_
        refine so_iald (v := (m2 72 x2)) 72 rfl sh_72 (by decide) (s4 h1) rfl dX12_worthOf_62 (fun r8 => ?_)
        refine st_aload_n (i := 0) rfl (t := 0) rfl (by decide) dX12_worthOf_63 ?_
        refine so_getA 65 12 fr_X12_31_11 rfl sh_65 fx_65_12 dX12_worthOf_64 ?_
        refine st_iload_n (i := 2) rfl rfl dX12_worthOf_67 ?_
        refine so_iald (v := (m2 73 x2)) 73 rfl sh_73 (by decide) (s4 h1) rfl dX12_worthOf_68 (fun r9 => ?_)
        refine st_callV (kc2 := 0) (ks2 := 0) (av := [(0, x1), (0, (m2 72 x2)), (0, (m2 73 x2))]) 65 11 mr_X12_225 ok_X12_workOut (c3 h1 h2 v2 m2 p2 h3) rfl sh_65 ⟨_, rfl, rfl, by decide⟩ rfl rfl hd_d3 (Nat.le_refl 0) (Nat.le_refl 0) (Nat.le_of_ble_eq_true rfl) dX12_worthOf_69 (mQ.elim fun v3 m3 p3 => ?_)
        exact st_ireturn rfl dX12_worthOf_72 (mQ.ret (q3 h1 h2 v2 m2 p2 h3 v3 m3 p3))
theorem c_X12_worthOf (mem : mmM) (x1 : Int) (cl : lawT) (h1 : 0 ≤ x1 ∧ x1 < 5) (hr : lawR mem x1 (90 * x1) cl) (h70 : 0 ≤ mem 70 x1 ∧ mem 70 x1 ≤ 90) (hL : ∀ k, 0 ≤ k → k < 6 → -1000000 ≤ mem 74 k ∧ mem 74 k ≤ 1000000) : con 0 bX12_worthOf 5 [(2, 65), (0, x1)] mem (fun v m => v = lawV (mem 74) cl ∧ (-1001000 ≤ v ∧ v ≤ 1001000) ∧ ∀ a, a ≠ 75 → m a = mem a) := by
  refine cn_X12_worthOf (bk_X12_worthOf_0 ?_)
  have key : ∀ (r : lawT) (c : Int) (m : mmM), 90 * x1 ≤ c → (∀ a, a ≠ 75 → m a = mem a) → lawR mem x1 c r → lawV (mem 74) r = lawV (mem 74) cl → mmT bX12_worthOf 5 0 0 (mQ 0 (fun v m => v = lawV (mem 74) cl ∧ (-1001000 ≤ v ∧ v ≤ 1001000) ∧ ∀ a, a ≠ 75 → m a = mem a)) 5 [(2, 65), (0, x1), (0, c)] [] mS m := by
    intro r
    induction r with
    | nil =>
      intro c m hc hm hr he
      have e70 : m 70 = mem 70 := hm 70 (by decide)
      have hr' : c = 90 * x1 + mem 70 x1 := hr
      refine bk_X12_worthOf_5 (d1 := 4) (d2 := 4) (d3 := 4) (P1 := fun _ _ => True) (P2 := fun _ _ => True) (P3 := fun _ _ => True) (fun g => by rw [e70] at g; omega) (fun g => by rw [e70] at g; omega) (fun g => by rw [e70] at g; omega) (fun g => by rw [e70] at g; omega) (fun g => ⟨?_, by omega, hm⟩) (fun g => by rw [e70] at g; omega) (fun g => by rw [e70] at g; omega) (s3 := by rw [e70]; omega) (s4 := fun g => by rw [e70] at g; omega) (s5 := fun g => by rw [e70] at g; omega)
      rw [← he]
      rfl
    | cons q r ih =>
      intro c m hc hm hr he
      have e70 : m 70 = mem 70 := hm 70 (by decide)
      have e71 : m 71 = mem 71 := hm 71 (by decide)
      have e72 : m 72 = mem 72 := hm 72 (by decide)
      have e73 : m 73 = mem 73 := hm 73 (by decide)
      obtain ⟨r0, ⟨r1, r2, r3, r4⟩, ⟨r5, r6⟩, r7, r8, r9⟩ := hr
      have he' : (if q.1.length = 0 ∨ ¬ top1 (evToks (mem 74) [] q.1) = 0 then top1 (evToks (mem 74) [] q.2) else lawV (mem 74) r) = lawV (mem 74) cl := he
      have wo : ∀ (m' : mmM) (f t : Int) (ts : List tokT), (∀ a, a ≠ 75 → m' a = mem a) → tokR (mem 67) (mem 68) (340 * x1 + f) ts → (ts.length : Int) = t - f → wfToks 0 ts → 0 ≤ f → t ≤ 340 → con 0 bX12_workOut 4 [(2, 65), (0, x1), (0, f), (0, t)] m' (fun v m => v = top1 (evToks (mem 74) [] ts) ∧ (-1001000 ≤ v ∧ v ≤ 1001000) ∧ ∀ a, a ≠ 75 → m a = mem a) := by
        intro m' f t ts h hk hln hwf h0 h340
        have cw := c_X12_workOut m' x1 f t ts (by rw [h 67 (by decide), h 68 (by decide)]; exact hk) hln hwf (by rw [h 74 (by decide)]; exact hL) h1 h0 h340
        refine con.mono cw (fun v m2 w => ⟨?_, w.2.1, fun a ha => (w.2.2 a ha).trans (h a ha)⟩)
        have w1 := w.1
        rw [h 74 (by decide)] at w1
        rw [w1]
        rfl
      refine bk_X12_worthOf_5 (fun g g2 => ?_) (fun g g2 => ?_) (fun g g2 v m2 w g3 => ?_) (fun g g2 v m2 w g3 => ih (c + 1) m2 (by omega) w.2.2 r9 ?_) (fun g => by rw [e70] at g; omega) (fun g g2 v m2 w => ⟨?_, w.2⟩) (fun g g2 v2 m2 w g3 v m3 w2 => ⟨?_, w2.2⟩) (P1 := fun v m => v = top1 (evToks (mem 74) [] q.2) ∧ (-1001000 ≤ v ∧ v ≤ 1001000) ∧ ∀ a, a ≠ 75 → m a = mem a) (P2 := fun v m => v = top1 (evToks (mem 74) [] q.1) ∧ (-1001000 ≤ v ∧ v ≤ 1001000) ∧ ∀ a, a ≠ 75 → m a = mem a) (P3 := fun v m => v = top1 (evToks (mem 74) [] q.2) ∧ (-1001000 ≤ v ∧ v ≤ 1001000) ∧ ∀ a, a ≠ 75 → m a = mem a) (d1 := 4) (d2 := 4) (d3 := 4) (s3 := by rw [e70]; omega) (s4 := fun g => by omega) (s5 := fun g g2 v m2 w => by have := w.2.1; omega)
      · rw [e72, e73]
        exact wo m _ _ q.2 hm r6 r3 r8 (by omega) r4
      · rw [e71, e72] at g2 ⊢
        rcases r7 with r7 | r7
        · omega
        · exact wo m _ _ q.1 hm r5 r2 r7 r1 (by omega)
      · rw [w.2.2 72 (by decide), w.2.2 73 (by decide)]
        exact wo m2 _ _ q.2 w.2.2 r6 r3 r8 (by omega) r4
      · rw [e71, e72] at g2
        rw [← he', if_neg (fun z => by rcases z with z | z; · omega
                                       · exact z (by rw [← w.1]; exact g3))]
      · rw [e71, e72] at g2
        rw [← he', if_pos (Or.inl (by omega))]
        exact w.1
      · rw [← he', if_pos (Or.inr (by rw [← w.1]; exact g3))]
        exact w2.1
  exact key cl (90 * x1) mem (by omega) (fun a _ => rfl) hr rfl
theorem evToks_congr {L L' : Int → Int} (h : ∀ k, 0 ≤ k → k < 6 → L k = L' k) : ∀ (ts : List tokT) (d : Nat) (st : List Int), wfToks d ts → evToks L st ts = evToks L' st ts := by
  intro ts
  induction ts with
  | nil => intro d st _; rfl
  | cons t r ih =>
    intro d st hw
    show evToks L (evTok L st t) r = evToks L' (evTok L' st t) r
    unfold wfToks at hw
    have e : evTok L st t = evTok L' st t := by
      unfold evTok
      by_cases c1 : t.1 = 1
      · rw [if_neg (by omega), if_pos c1] at hw
        rw [h t.2 hw.2.1.1 hw.2.1.2]
      · rw [if_neg c1, if_neg c1]
    rw [e]
    by_cases c0 : t.1 = 0
    · rw [if_pos c0] at hw
      exact ih _ _ hw.2.2
    · rw [if_neg c0] at hw
      by_cases c1 : t.1 = 1
      · rw [if_pos c1] at hw
        exact ih _ _ hw.2.2
      · rw [if_neg c1] at hw
        by_cases c9 : t.1 = 9
        · rw [if_pos c9] at hw
          exact ih _ _ hw.2
        · rw [if_neg c9] at hw
          exact ih _ _ hw.2.2
def wfLaw : lawT → Prop
  | [] => True
  | q :: r => (q.1.length = 0 ∨ wfToks 0 q.1) ∧ wfToks 0 q.2 ∧ wfLaw r
theorem lawV_congr {L L' : Int → Int} (h : ∀ k, 0 ≤ k → k < 6 → L k = L' k) : ∀ (cl : lawT), wfLaw cl → lawV L cl = lawV L' cl := by
  intro cl
  induction cl with
  | nil => intro _; rfl
  | cons q r ih =>
    intro hw
    obtain ⟨h1, h2, h3⟩ := hw
    show (if q.1.length = 0 ∨ ¬ top1 (evToks L [] q.1) = 0 then top1 (evToks L [] q.2) else lawV L r) = (if q.1.length = 0 ∨ ¬ top1 (evToks L' [] q.1) = 0 then top1 (evToks L' [] q.2) else lawV L' r)
    rw [ih h3, evToks_congr h q.2 0 [] h2]
    rcases h1 with h1 | h1
    · rw [if_pos (Or.inl h1), if_pos (Or.inl h1)]
    · rw [evToks_congr h q.1 0 [] h1]
theorem lawR_wf {mem : mmM} {n : Int} : ∀ (cl : lawT) (c : Int), lawR mem n c cl → wfLaw cl := by
  intro cl
  induction cl with
  | nil => intro _ _; trivial
  | cons q r ih =>
    intro c hc
    exact ⟨hc.2.2.2.1, hc.2.2.2.2.1, ih _ hc.2.2.2.2.2⟩
/-- the letters of a speech, in the model -/
def letM (mem : mmM) (s b k : Int) : Int := if k = 0 then mem 79 s else if k = 1 then s else if k = 2 then mem 81 s else if k = 3 then gapF (mem 79) s else if k = 4 then likesF (mem 65 27) (mem 79) (cueF (mem 80)) s else b
theorem letM_bnd {mem : mmM} (hp : playM mem) {s b : Int} (hs : 0 ≤ s ∧ s < mem 65 27) (hb : b = 0 ∨ b = 1) (k : Int) : -1000000 ≤ letM mem s b k ∧ letM mem s b k ≤ 1000000 := by
  have hn := hp.1
  have hx := hp.2 s hs.1 (by omega)
  have g := gapF_bnd (a := mem 79) hs.1
  have l := likesF_bnd (mem 65 27) (mem 79) (cueF (mem 80)) s hn.1
  unfold letM
  (repeat' split) <;> omega
theorem cn_X12_forgets {d : Nat} {P : Int → mmM → Prop} {mem : mmM} {x1 : Int} (h : mmT bX12_forgets d 0 0 (mQ 0 P) 0 [(2, 65), (0, x1)] [] mS mem) : con 0 bX12_forgets d [(2, 65), (0, x1)] mem P := mmC_of [(2, 65), (0, x1)] ok_X12_forgets.2.2.2.2 rfl (Nat.le_of_ble_eq_true rfl) h
theorem bk_X12_forgets_0 {d : Nat} {d1 : Nat} {P1 : Int → mmM → Prop} {d2 : Nat} {P2 : Int → mmM → Prop} {P : Int → mmM → Prop} {mem : mmM} {x1 : Int}
  (c1 : ¬ (mem 65 28) = (-1) → ¬ (and32 (shr32 (mem 65 31) x1) 1 = 1) → con 0 bX12_worthOf d1 [(2, 65), (0, (mem 65 28))] (mset (mset (mset (mset (mset (mset mem 74 0 (mem 79 x1)) 74 1 x1) 74 2 (mem 81 x1)) 74 3 (gapF ((mset (mset (mset mem 74 0 (mem 79 x1)) 74 1 x1) 74 2 (mem 81 x1)) 79) x1)) 74 4 (likesF ((mset (mset (mset (mset mem 74 0 (mem 79 x1)) 74 1 x1) 74 2 (mem 81 x1)) 74 3 (gapF ((mset (mset (mset mem 74 0 (mem 79 x1)) 74 1 x1) 74 2 (mem 81 x1)) 79) x1)) 65 27) ((mset (mset (mset (mset mem 74 0 (mem 79 x1)) 74 1 x1) 74 2 (mem 81 x1)) 74 3 (gapF ((mset (mset (mset mem 74 0 (mem 79 x1)) 74 1 x1) 74 2 (mem 81 x1)) 79) x1)) 79) (cueF ((mset (mset (mset (mset mem 74 0 (mem 79 x1)) 74 1 x1) 74 2 (mem 81 x1)) 74 3 (gapF ((mset (mset (mset mem 74 0 (mem 79 x1)) 74 1 x1) 74 2 (mem 81 x1)) 79) x1)) 80)) x1)) 74 5 0) P1)
  (c2 : ¬ (mem 65 28) = (-1) → (and32 (shr32 (mem 65 31) x1) 1 = 1) → con 0 bX12_worthOf d2 [(2, 65), (0, (mem 65 28))] (mset (mset (mset (mset (mset (mset mem 74 0 (mem 79 x1)) 74 1 x1) 74 2 (mem 81 x1)) 74 3 (gapF ((mset (mset (mset mem 74 0 (mem 79 x1)) 74 1 x1) 74 2 (mem 81 x1)) 79) x1)) 74 4 (likesF ((mset (mset (mset (mset mem 74 0 (mem 79 x1)) 74 1 x1) 74 2 (mem 81 x1)) 74 3 (gapF ((mset (mset (mset mem 74 0 (mem 79 x1)) 74 1 x1) 74 2 (mem 81 x1)) 79) x1)) 65 27) ((mset (mset (mset (mset mem 74 0 (mem 79 x1)) 74 1 x1) 74 2 (mem 81 x1)) 74 3 (gapF ((mset (mset (mset mem 74 0 (mem 79 x1)) 74 1 x1) 74 2 (mem 81 x1)) 79) x1)) 79) (cueF ((mset (mset (mset (mset mem 74 0 (mem 79 x1)) 74 1 x1) 74 2 (mem 81 x1)) 74 3 (gapF ((mset (mset (mset mem 74 0 (mem 79 x1)) 74 1 x1) 74 2 (mem 81 x1)) 79) x1)) 80)) x1)) 74 5 1) P2)
  (q1 : ¬ (mem 65 28) = (-1) → ¬ (and32 (shr32 (mem 65 31) x1) 1 = 1) → ∀ (v4 : Int), ∀ (m4 : mmM), P1 v4 m4 → P (max 0 (min 100 v4)) m4)
  (q2 : ¬ (mem 65 28) = (-1) → (and32 (shr32 (mem 65 31) x1) 1 = 1) → ∀ (v5 : Int), ∀ (m5 : mmM), P2 v5 m5 → P (max 0 (min 100 v5)) m5)
  (q3 : (mem 65 28) = (-1) → P 0 mem)
  (hd_d1 : d1 + 1 ≤ d := by omega)
  (hd_d2 : d2 + 1 ≤ d := by omega)
  (hd1 : 1 ≤ d := by omega)
  (hd2 : 2 ≤ d := by omega)
  (hd4 : 4 ≤ d := by omega)
  (s1 : ¬ (mem 65 28) = (-1) → 0 ≤ x1 ∧ x1 < 24 := by intros; first | omega | assumption | solve_by_elim)
  (s2 : ¬ (mem 65 28) = (-1) → R32 x1 := by intros; first | omega | assumption | solve_by_elim)
  (s3 : ¬ (mem 65 28) = (-1) → playM (mset (mset (mset (mset mem 74 0 (mem 79 x1)) 74 1 x1) 74 2 (mem 81 x1)) 74 3 (gapF ((mset (mset (mset mem 74 0 (mem 79 x1)) 74 1 x1) 74 2 (mem 81 x1)) 79) x1)) := by intros; first | omega | assumption | solve_by_elim)
  (s4 : ¬ (mem 65 28) = (-1) → 0 ≤ x1 ∧ x1 < ((mset (mset (mset (mset mem 74 0 (mem 79 x1)) 74 1 x1) 74 2 (mem 81 x1)) 74 3 (gapF ((mset (mset (mset mem 74 0 (mem 79 x1)) 74 1 x1) 74 2 (mem 81 x1)) 79) x1)) 65 27) := by intros; first | omega | assumption | solve_by_elim)
  (s5 : ¬ (mem 65 28) = (-1) → ¬ (and32 (shr32 (mem 65 31) x1) 1 = 1) → ∀ (v4 : Int), ∀ (m4 : mmM), P1 v4 m4 → R32 v4 := by intros; first | omega | assumption | solve_by_elim)
  (s6 : ¬ (mem 65 28) = (-1) → (and32 (shr32 (mem 65 31) x1) 1 = 1) → ∀ (v5 : Int), ∀ (m5 : mmM), P2 v5 m5 → R32 v5 := by intros; first | omega | assumption | solve_by_elim)
  : mmT bX12_forgets d 0 0 (mQ 0 P) 0 [(2, 65), (0, x1)] [] mS mem := by
  refine st_aload_n (i := 0) rfl (t := 0) rfl (by decide) dX12_forgets_0 ?_
  refine so_getI (v := (mem 65 28)) 65 28 fr_X12_61_11 rfl sh_65 rfl dX12_forgets_1 (fun r1 => ?_)
  refine st_iconst dX12_forgets_4 ?_
  refine sr_icmp_ne 10 r1 ⟨by decide, by decide⟩ (by decide) dX12_forgets_5 (fun h1 => ?_) (fun h1 => ?_)
  · have h1 : ¬ (mem 65 28) = (-1) := by omega
    refine st_aload_n (i := 0) rfl (t := 0) rfl (by decide) dX12_forgets_10 ?_
    refine so_getA 65 15 fr_X12_34_11 rfl sh_65 fx_65_15 dX12_forgets_11 ?_
    refine st_iconst dX12_forgets_14 ?_
    refine st_aload_n (i := 0) rfl (t := 0) rfl (by decide) dX12_forgets_15 ?_
    refine so_getA 65 22 fr_X12_49_11 rfl sh_65 fx_65_22 dX12_forgets_16 ?_
    refine st_iload_n (i := 1) rfl rfl dX12_forgets_19 ?_
    refine so_iald (v := (mem 79 x1)) 79 rfl sh_79 (by decide) (s1 h1) rfl dX12_forgets_20 (fun r2 => ?_)
    refine so_iast 74 fr_74 rfl sh_74 (by decide) ⟨by decide, by decide⟩ r2 dX12_forgets_21 ?_
    refine st_aload_n (i := 0) rfl (t := 0) rfl (by decide) dX12_forgets_22 ?_
    refine so_getA 65 15 fr_X12_34_11 rfl sh_65 fx_65_15 dX12_forgets_23 ?_
    refine st_iconst dX12_forgets_26 ?_
    refine st_iload_n (i := 1) rfl rfl dX12_forgets_27 ?_
    refine so_iast 74 fr_74 rfl sh_74 (by decide) ⟨by decide, by decide⟩ (s2 h1) dX12_forgets_28 ?_
    refine st_aload_n (i := 0) rfl (t := 0) rfl (by decide) dX12_forgets_29 ?_
    refine so_getA 65 15 fr_X12_34_11 rfl sh_65 fx_65_15 dX12_forgets_30 ?_
    refine st_iconst dX12_forgets_33 ?_
    refine st_aload_n (i := 0) rfl (t := 0) rfl (by decide) dX12_forgets_34 ?_
    refine so_getA 65 24 fr_X12_55_11 rfl sh_65 fx_65_24 dX12_forgets_35 ?_
    refine st_iload_n (i := 1) rfl rfl dX12_forgets_38 ?_
    refine so_iald (v := (mem 81 x1)) 81 rfl sh_81 (by decide) (s1 h1) rfl dX12_forgets_39 (fun r3 => ?_)
    refine so_iast 74 fr_74 rfl sh_74 (by decide) ⟨by decide, by decide⟩ r3 dX12_forgets_40 ?_
    refine st_aload_n (i := 0) rfl (t := 0) rfl (by decide) dX12_forgets_41 ?_
    refine so_getA 65 15 fr_X12_34_11 rfl sh_65 fx_65_15 dX12_forgets_42 ?_
    refine st_iconst dX12_forgets_45 ?_
    refine st_aload_n (i := 0) rfl (t := 0) rfl (by decide) dX12_forgets_46 ?_
    refine st_iload_n (i := 1) rfl rfl dX12_forgets_47 ?_
    refine st_callV (kc2 := 0) (ks2 := 0) (av := [(0, x1)]) 65 11 mr_X12_303 ok_X12_gap (c_X12_gap (mset (mset (mset mem 74 0 (mem 79 x1)) 74 1 x1) 74 2 (mem 81 x1)) x1 ((s1 h1))) rfl sh_65 ⟨_, rfl, rfl, by decide⟩ rfl rfl hd2 (Nat.le_refl 0) (Nat.le_refl 0) (Nat.le_of_ble_eq_true rfl) dX12_forgets_48 (mQ.elim fun v1 m1 hp => ?_)
    obtain ⟨hpv, hpm⟩ := hp
    subst hpv
    have hpm := hpm.symm
    subst hpm
    refine so_iast 74 fr_74 rfl sh_74 (by decide) ⟨by decide, by decide⟩ (gapF_rng ((s1 h1))) dX12_forgets_51 ?_
    refine st_aload_n (i := 0) rfl (t := 0) rfl (by decide) dX12_forgets_52 ?_
    refine so_getA 65 15 fr_X12_34_11 rfl sh_65 fx_65_15 dX12_forgets_53 ?_
    refine st_iconst dX12_forgets_56 ?_
    refine st_aload_n (i := 0) rfl (t := 0) rfl (by decide) dX12_forgets_57 ?_
    refine st_iload_n (i := 1) rfl rfl dX12_forgets_58 ?_
    refine st_callV (kc2 := 0) (ks2 := 0) (av := [(0, x1)]) 65 11 mr_X12_306 ok_X12_likes (c_X12_likes (mset (mset (mset (mset mem 74 0 (mem 79 x1)) 74 1 x1) 74 2 (mem 81 x1)) 74 3 (gapF ((mset (mset (mset mem 74 0 (mem 79 x1)) 74 1 x1) 74 2 (mem 81 x1)) 79) x1)) x1 ((s3 h1)) ((s4 h1))) rfl sh_65 ⟨_, rfl, rfl, by decide⟩ rfl rfl hd4 (Nat.le_refl 0) (Nat.le_refl 0) (Nat.le_of_ble_eq_true rfl) dX12_forgets_59 (mQ.elim fun v2 m2 hp => ?_)
    obtain ⟨hpv, hpm⟩ := hp
    subst hpv
    have hpm := hpm.symm
    subst hpm
    refine so_iast 74 fr_74 rfl sh_74 (by decide) ⟨by decide, by decide⟩ (likesM_rng ((s3 h1)) ((s4 h1))) dX12_forgets_62 ?_
    refine st_aload_n (i := 0) rfl (t := 0) rfl (by decide) dX12_forgets_63 ?_
    refine so_getA 65 15 fr_X12_34_11 rfl sh_65 fx_65_15 dX12_forgets_64 ?_
    refine st_iconst dX12_forgets_67 ?_
    refine st_aload_n (i := 0) rfl (t := 0) rfl (by decide) dX12_forgets_68 ?_
    refine so_getI (v := (mem 65 31)) 65 31 fr_X12_275_11 rfl sh_65 rfl dX12_forgets_69 (fun r4 => ?_)
    refine st_iload_n (i := 1) rfl rfl dX12_forgets_72 ?_
    refine st_callS (kc2 := 0) (ks2 := 0) (av := [(0, (mem 65 31)), (0, x1)]) mr_X12_271 ok_X12_has (c_X12_has (mset (mset (mset (mset (mset mem 74 0 (mem 79 x1)) 74 1 x1) 74 2 (mem 81 x1)) 74 3 (gapF ((mset (mset (mset mem 74 0 (mem 79 x1)) 74 1 x1) 74 2 (mem 81 x1)) 79) x1)) 74 4 (likesF ((mset (mset (mset (mset mem 74 0 (mem 79 x1)) 74 1 x1) 74 2 (mem 81 x1)) 74 3 (gapF ((mset (mset (mset mem 74 0 (mem 79 x1)) 74 1 x1) 74 2 (mem 81 x1)) 79) x1)) 65 27) ((mset (mset (mset (mset mem 74 0 (mem 79 x1)) 74 1 x1) 74 2 (mem 81 x1)) 74 3 (gapF ((mset (mset (mset mem 74 0 (mem 79 x1)) 74 1 x1) 74 2 (mem 81 x1)) 79) x1)) 79) (cueF ((mset (mset (mset (mset mem 74 0 (mem 79 x1)) 74 1 x1) 74 2 (mem 81 x1)) 74 3 (gapF ((mset (mset (mset mem 74 0 (mem 79 x1)) 74 1 x1) 74 2 (mem 81 x1)) 79) x1)) 80)) x1)) (mem 65 31) x1 ) rfl rfl hd2 (Nat.le_refl 0) (Nat.le_refl 0) (Nat.le_of_ble_eq_true rfl) dX12_forgets_73 (mQ.elim fun v3 m3 hp => ?_)
    obtain ⟨hpv, hpm⟩ := hp
    subst hpv
    have hpm := hpm.symm
    subst hpm
    refine so_ifeqB 83 (by decide) dX12_forgets_76 (fun h2 => ?_) (fun h2 => ?_)
    · have h2 : ¬ (and32 (shr32 (mem 65 31) x1) 1 = 1) := h2
      refine st_iconst dX12_forgets_83 ?_
      refine so_iast 74 fr_74 rfl sh_74 (by decide) ⟨by decide, by decide⟩ ⟨by decide, by decide⟩ dX12_forgets_84 ?_
      refine st_iconst dX12_forgets_85 ?_
      refine st_bipush rfl dX12_forgets_86 ?_
      refine st_aload_n (i := 0) rfl (t := 0) rfl (by decide) dX12_forgets_88 ?_
      refine st_aload_n (i := 0) rfl (t := 0) rfl (by decide) dX12_forgets_89 ?_
      refine so_getI (v := (mem 65 28)) 65 28 fr_X12_61_11 rfl sh_65 rfl dX12_forgets_90 (fun r5 => ?_)
      refine st_callV (kc2 := 0) (ks2 := 0) (av := [(0, (mem 65 28))]) 65 11 mr_X12_309 ok_X12_worthOf (c1 h1 h2) rfl sh_65 ⟨_, rfl, rfl, by decide⟩ rfl rfl hd_d1 (Nat.le_refl 0) (Nat.le_refl 0) (Nat.le_of_ble_eq_true rfl) dX12_forgets_93 (mQ.elim fun v4 m4 p1 => ?_)
      refine sr_mmin ⟨by decide, by decide⟩ (s5 h1 h2 v4 m4 p1) mr_X12_312 ms_mini mi_Math mc_mini hd1 (Nat.le_of_ble_eq_true rfl) dX12_forgets_96 ?_
      refine sr_mmax ⟨by decide, by decide⟩ (imin32_rng ⟨by decide, by decide⟩ (s5 h1 h2 v4 m4 p1)) mr_X12_315 ms_maxi mi_Math mc_maxi hd1 (Nat.le_of_ble_eq_true rfl) dX12_forgets_99 ?_
      exact st_ireturn rfl dX12_forgets_102 (mQ.ret (q1 h1 h2 v4 m4 p1))
    · have h2 : (and32 (shr32 (mem 65 31) x1) 1 = 1) := h2
      refine st_iconst dX12_forgets_79 ?_
      refine st_goto 84 (by decide) dX12_forgets_80 ?_
      refine so_iast 74 fr_74 rfl sh_74 (by decide) ⟨by decide, by decide⟩ ⟨by decide, by decide⟩ dX12_forgets_84 ?_
      refine st_iconst dX12_forgets_85 ?_
      refine st_bipush rfl dX12_forgets_86 ?_
      refine st_aload_n (i := 0) rfl (t := 0) rfl (by decide) dX12_forgets_88 ?_
      refine st_aload_n (i := 0) rfl (t := 0) rfl (by decide) dX12_forgets_89 ?_
      refine so_getI (v := (mem 65 28)) 65 28 fr_X12_61_11 rfl sh_65 rfl dX12_forgets_90 (fun r6 => ?_)
      refine st_callV (kc2 := 0) (ks2 := 0) (av := [(0, (mem 65 28))]) 65 11 mr_X12_309 ok_X12_worthOf (c2 h1 h2) rfl sh_65 ⟨_, rfl, rfl, by decide⟩ rfl rfl hd_d2 (Nat.le_refl 0) (Nat.le_refl 0) (Nat.le_of_ble_eq_true rfl) dX12_forgets_93 (mQ.elim fun v5 m5 p2 => ?_)
      refine sr_mmin ⟨by decide, by decide⟩ (s6 h1 h2 v5 m5 p2) mr_X12_312 ms_mini mi_Math mc_mini hd1 (Nat.le_of_ble_eq_true rfl) dX12_forgets_96 ?_
      refine sr_mmax ⟨by decide, by decide⟩ (imin32_rng ⟨by decide, by decide⟩ (s6 h1 h2 v5 m5 p2)) mr_X12_315 ms_maxi mi_Math mc_maxi hd1 (Nat.le_of_ble_eq_true rfl) dX12_forgets_99 ?_
      exact st_ireturn rfl dX12_forgets_102 (mQ.ret (q2 h1 h2 v5 m5 p2))
  · have h1 : (mem 65 28) = (-1) := by omega
    refine st_iconst dX12_forgets_8 ?_
    exact st_ireturn rfl dX12_forgets_9 (mQ.ret (q3 h1))
def bitN (mk s : Int) : Int := and32 (shr32 mk s) 1
/-- what the model's law held makes one forget -/
def forgF (mem : mmM) (cl : lawT) (s : Int) : Int := if mem 65 28 = -1 then 0 else max 0 (min 100 (lawV (letM mem s (bitN (mem 65 31) s)) cl))
theorem forgF_bnd (mem : mmM) (cl : lawT) (s : Int) : 0 ≤ forgF mem cl s ∧ forgF mem cl s ≤ 100 := by
  unfold forgF
  split <;> omega
theorem c_X12_forgets (mem : mmM) (x1 : Int) (cl : lawT) (hp : playM mem) (h1 : 0 ≤ x1 ∧ x1 < mem 65 27) (h28 : -1 ≤ mem 65 28 ∧ mem 65 28 < 5) (hr : ¬ mem 65 28 = -1 → lawR mem (mem 65 28) (90 * mem 65 28) cl ∧ 0 ≤ mem 70 (mem 65 28) ∧ mem 70 (mem 65 28) ≤ 90) : con 0 bX12_forgets 8 [(2, 65), (0, x1)] mem (fun v m => v = forgF mem cl x1 ∧ ∀ a, a ≠ 74 → a ≠ 75 → m a = mem a) := by
  have hn := hp.1
  have n79 : ∀ (m : mmM) (k v : Int), mset m 74 k v 79 = m 79 := fun m k v => mset_ne (by decide)
  have n80 : ∀ (m : mmM) (k v : Int), mset m 74 k v 80 = m 80 := fun m k v => mset_ne (by decide)
  have n65 : ∀ (m : mmM) (k v : Int), mset m 74 k v 65 = m 65 := fun m k v => mset_ne (by decide)
  have pl : ∀ (m : mmM) (k v : Int), playM m → playM (mset m 74 k v) := fun m k v h => playM_congr h (by rw [mset_ne (by decide)]) (mset_ne (by decide)) (mset_ne (by decide)) (mset_ne (by decide))
  have b01 := and1_01 (shr32 (mem 65 31) x1)
  have wk : ∀ (A : mmM) (b : Int), ¬ mem 65 28 = -1 → (∀ a, a ≠ 74 → A a = mem a) → (∀ k, 0 ≤ k → k < 6 → A 74 k = letM mem x1 b k) → (b = 0 ∨ b = 1) → con 0 bX12_worthOf 5 [(2, 65), (0, mem 65 28)] A (fun v m => v = lawV (letM mem x1 b) cl ∧ (-1001000 ≤ v ∧ v ≤ 1001000) ∧ ∀ a, a ≠ 74 → a ≠ 75 → m a = mem a) := by
    intro A b g hA hk hb
    have r := hr g
    have lb := letM_bnd hp h1 hb
    have c := c_X12_worthOf A (mem 65 28) cl (by omega) (lawR_congr (fun a a1 _ => hA a a1) cl _ r.1) (by rw [hA 70 (by decide)]; exact r.2) (fun k k0 k1 => by rw [hk k k0 k1]; exact lb k)
    refine con.mono c (fun v m w => ⟨?_, w.2.1, fun a a1 a2 => (w.2.2 a a2).trans (hA a a1)⟩)
    rw [w.1]
    exact lawV_congr hk cl (lawR_wf cl _ r.1)
  have fin : ∀ b v, bitN (mem 65 31) x1 = b → ¬ mem 65 28 = -1 → v = lawV (letM mem x1 b) cl → max 0 (min 100 v) = forgF mem cl x1 := by
    intro b v e g ev
    unfold forgF
    rw [if_neg g, e, ev]
  refine cn_X12_forgets (bk_X12_forgets_0 (d1 := 5) (d2 := 5) (P1 := fun v m => v = lawV (letM mem x1 0) cl ∧ (-1001000 ≤ v ∧ v ≤ 1001000) ∧ ∀ a, a ≠ 74 → a ≠ 75 → m a = mem a) (P2 := fun v m => v = lawV (letM mem x1 1) cl ∧ (-1001000 ≤ v ∧ v ≤ 1001000) ∧ ∀ a, a ≠ 74 → a ≠ 75 → m a = mem a) (fun g g2 => wk _ 0 g (fun a ha => ?_) (fun k k0 k1 => ?_) (Or.inl rfl)) (fun g g2 => wk _ 1 g (fun a ha => ?_) (fun k k0 k1 => ?_) (Or.inr rfl)) (fun g g2 v m w => ⟨fin 0 v (by unfold bitN; omega) g w.1, w.2.2⟩) (fun g g2 v m w => ⟨fin 1 v g2 g w.1, w.2.2⟩) (fun g => ⟨?_, fun a _ _ => rfl⟩) (s3 := fun _ => pl _ _ _ (pl _ _ _ (pl _ _ _ (pl _ _ _ hp)))) (s4 := fun _ => by rw [n65, n65, n65, n65]; exact h1) (s5 := fun g g2 v m w => by have := w.2.1; omega) (s6 := fun g g2 v m w => by have := w.2.1; omega))
  · rw [mset_ne ha, mset_ne ha, mset_ne ha, mset_ne ha, mset_ne ha, mset_ne ha]
  · simp only [n79, n80, n65, mset_at]
    unfold letM
    (repeat' split) <;> first | rfl | omega
  · rw [mset_ne ha, mset_ne ha, mset_ne ha, mset_ne ha, mset_ne ha, mset_ne ha]
  · simp only [n79, n80, n65, mset_at]
    unfold letM
    (repeat' split) <;> first | rfl | omega
  · unfold forgF
    rw [if_pos g]
theorem forgF_congr {mem m : mmM} (h : nightFr mem m) (cl : lawT) : forgF m cl = forgF mem cl := by
  funext s
  unfold forgF letM
  rw [h.2 28 (by omega), h.2 31 (by omega), h.2 27 (by omega), h.1 79 (by decide) (by decide) (by decide) (by decide) (by decide), h.1 80 (by decide) (by decide) (by decide) (by decide) (by decide), h.1 81 (by decide) (by decide) (by decide) (by decide) (by decide)]
theorem forgM_law (mem : mmM) (cl : lawT) (hp : playM mem) (h28 : -1 ≤ mem 65 28 ∧ mem 65 28 < 5) (hr : ¬ mem 65 28 = -1 → lawR mem (mem 65 28) (90 * mem 65 28) cl ∧ 0 ≤ mem 70 (mem 65 28) ∧ mem 70 (mem 65 28) ≤ 90) : forgM mem (forgF mem cl) := by
  refine ⟨forgF_bnd mem cl, fun m s hf hs => ?_⟩
  have e28 : m 65 28 = mem 65 28 := hf.2 28 (by omega)
  have e70 : m 70 = mem 70 := hf.1 70 (by decide) (by decide) (by decide) (by decide) (by decide)
  have c := c_X12_forgets m s cl (hf.play hp) (by rw [hf.2 27 (by omega)]; exact hs) (by rw [e28]; exact h28) (fun g => by
    rw [e28] at g ⊢
    rw [e70]
    refine ⟨?_, (hr g).2⟩
    have : ∀ (cl : lawT) (c : Int), lawR mem (mem 65 28) c cl → lawR m (mem 65 28) c cl := by
      intro cl
      induction cl with
      | nil =>
        intro c hc
        unfold lawR at hc ⊢
        rw [e70]
        exact hc
      | cons q r ih =>
        intro c hc
        unfold lawR at hc ⊢
        rw [e70, hf.1 71 (by decide) (by decide) (by decide) (by decide) (by decide), hf.1 72 (by decide) (by decide) (by decide) (by decide) (by decide), hf.1 73 (by decide) (by decide) (by decide) (by decide) (by decide), hf.1 67 (by decide) (by decide) (by decide) (by decide) (by decide), hf.1 68 (by decide) (by decide) (by decide) (by decide) (by decide)]
        exact ⟨hc.1, hc.2.1, hc.2.2.1, hc.2.2.2.1, hc.2.2.2.2.1, ih _ hc.2.2.2.2.2⟩
    exact this cl _ (hr g).1)
  rw [forgF_congr hf] at c
  exact c
