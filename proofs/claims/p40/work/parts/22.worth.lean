/-! a law's worth: the class's postfix machine -/
def sgF (c : Int) : Int := if c = 2 then 43 else if c = 3 then 45 else if c = 4 then 42 else if c = 5 then 47 else if c = 6 then 61 else if c = 7 then 60 else if c = 8 then 62 else if c = 9 then 33 else if c = 10 then 38 else 124
theorem cn_X2_join {d : Nat} {P : Int → mmM → Prop} {mem : mmM} {x0 x1 x2 : Int} (h : mmT bX2_join d 0 0 (mQ 0 P) 0 [(0, x0), (0, x1), (0, x2)] [] mS mem) : con 0 bX2_join d [(0, x0), (0, x1), (0, x2)] mem P := mmC_of [(0, x0), (0, x1), (0, x2)] ok_X2_join.2.2.2.2 rfl (Nat.le_of_ble_eq_true rfl) h
theorem bk_X2_join_0 {d : Nat} {P : Int → mmM → Prop} {mem : mmM} {x0 x1 x2 : Int}
  (q1 : x1 = 38 → P (and32 x0 x2) mem)
  (q2 : ¬ x1 = 38 → x1 = 39 → P (or32 x0 x2) mem)
  (q3 : ¬ x1 = 38 → ¬ x1 = 39 → x1 = 40 → P (or32 x0 x2) mem)
  (q4 : ¬ x1 = 38 → ¬ x1 = 39 → ¬ x1 = 40 → x1 = 41 → P (or32 x0 x2) mem)
  (q5 : ¬ x1 = 38 → ¬ x1 = 39 → ¬ x1 = 40 → ¬ x1 = 41 → x1 = 42 → P (withinS (x0 * x2)) mem)
  (q6 : ¬ x1 = 38 → ¬ x1 = 39 → ¬ x1 = 40 → ¬ x1 = 41 → ¬ x1 = 42 → x1 = 43 → P (withinS (x0 + x2)) mem)
  (q7 : ¬ x1 = 38 → ¬ x1 = 39 → ¬ x1 = 40 → ¬ x1 = 41 → ¬ x1 = 42 → ¬ x1 = 43 → x1 = 44 → P (or32 x0 x2) mem)
  (q8 : ¬ x1 = 38 → ¬ x1 = 39 → ¬ x1 = 40 → ¬ x1 = 41 → ¬ x1 = 42 → ¬ x1 = 43 → ¬ x1 = 44 → x1 = 45 → P (withinS (x0 - x2)) mem)
  (q9 : ¬ x1 = 38 → ¬ x1 = 39 → ¬ x1 = 40 → ¬ x1 = 41 → ¬ x1 = 42 → ¬ x1 = 43 → ¬ x1 = 44 → ¬ x1 = 45 → x1 = 46 → P (or32 x0 x2) mem)
  (q10 : ¬ x1 = 38 → ¬ x1 = 39 → ¬ x1 = 40 → ¬ x1 = 41 → ¬ x1 = 42 → ¬ x1 = 43 → ¬ x1 = 44 → ¬ x1 = 45 → ¬ x1 = 46 → x1 = 47 → ¬ x2 = 0 → P (Int.tdiv x0 x2) mem)
  (q11 : ¬ x1 = 38 → ¬ x1 = 39 → ¬ x1 = 40 → ¬ x1 = 41 → ¬ x1 = 42 → ¬ x1 = 43 → ¬ x1 = 44 → ¬ x1 = 45 → ¬ x1 = 46 → x1 = 47 → x2 = 0 → P 0 mem)
  (q12 : ¬ x1 = 38 → ¬ x1 = 39 → ¬ x1 = 40 → ¬ x1 = 41 → ¬ x1 = 42 → ¬ x1 = 43 → ¬ x1 = 44 → ¬ x1 = 45 → ¬ x1 = 46 → ¬ x1 = 47 → x1 = 48 → P (or32 x0 x2) mem)
  (q13 : ¬ x1 = 38 → ¬ x1 = 39 → ¬ x1 = 40 → ¬ x1 = 41 → ¬ x1 = 42 → ¬ x1 = 43 → ¬ x1 = 44 → ¬ x1 = 45 → ¬ x1 = 46 → ¬ x1 = 47 → ¬ x1 = 48 → x1 = 49 → P (or32 x0 x2) mem)
  (q14 : ¬ x1 = 38 → ¬ x1 = 39 → ¬ x1 = 40 → ¬ x1 = 41 → ¬ x1 = 42 → ¬ x1 = 43 → ¬ x1 = 44 → ¬ x1 = 45 → ¬ x1 = 46 → ¬ x1 = 47 → ¬ x1 = 48 → ¬ x1 = 49 → x1 = 50 → P (or32 x0 x2) mem)
  (q15 : ¬ x1 = 38 → ¬ x1 = 39 → ¬ x1 = 40 → ¬ x1 = 41 → ¬ x1 = 42 → ¬ x1 = 43 → ¬ x1 = 44 → ¬ x1 = 45 → ¬ x1 = 46 → ¬ x1 = 47 → ¬ x1 = 48 → ¬ x1 = 49 → ¬ x1 = 50 → x1 = 51 → P (or32 x0 x2) mem)
  (q16 : ¬ x1 = 38 → ¬ x1 = 39 → ¬ x1 = 40 → ¬ x1 = 41 → ¬ x1 = 42 → ¬ x1 = 43 → ¬ x1 = 44 → ¬ x1 = 45 → ¬ x1 = 46 → ¬ x1 = 47 → ¬ x1 = 48 → ¬ x1 = 49 → ¬ x1 = 50 → ¬ x1 = 51 → x1 = 52 → P (or32 x0 x2) mem)
  (q17 : ¬ x1 = 38 → ¬ x1 = 39 → ¬ x1 = 40 → ¬ x1 = 41 → ¬ x1 = 42 → ¬ x1 = 43 → ¬ x1 = 44 → ¬ x1 = 45 → ¬ x1 = 46 → ¬ x1 = 47 → ¬ x1 = 48 → ¬ x1 = 49 → ¬ x1 = 50 → ¬ x1 = 51 → ¬ x1 = 52 → x1 = 53 → P (or32 x0 x2) mem)
  (q18 : ¬ x1 = 38 → ¬ x1 = 39 → ¬ x1 = 40 → ¬ x1 = 41 → ¬ x1 = 42 → ¬ x1 = 43 → ¬ x1 = 44 → ¬ x1 = 45 → ¬ x1 = 46 → ¬ x1 = 47 → ¬ x1 = 48 → ¬ x1 = 49 → ¬ x1 = 50 → ¬ x1 = 51 → ¬ x1 = 52 → ¬ x1 = 53 → x1 = 54 → P (or32 x0 x2) mem)
  (q19 : ¬ x1 = 38 → ¬ x1 = 39 → ¬ x1 = 40 → ¬ x1 = 41 → ¬ x1 = 42 → ¬ x1 = 43 → ¬ x1 = 44 → ¬ x1 = 45 → ¬ x1 = 46 → ¬ x1 = 47 → ¬ x1 = 48 → ¬ x1 = 49 → ¬ x1 = 50 → ¬ x1 = 51 → ¬ x1 = 52 → ¬ x1 = 53 → ¬ x1 = 54 → x1 = 55 → P (or32 x0 x2) mem)
  (q20 : ¬ x1 = 38 → ¬ x1 = 39 → ¬ x1 = 40 → ¬ x1 = 41 → ¬ x1 = 42 → ¬ x1 = 43 → ¬ x1 = 44 → ¬ x1 = 45 → ¬ x1 = 46 → ¬ x1 = 47 → ¬ x1 = 48 → ¬ x1 = 49 → ¬ x1 = 50 → ¬ x1 = 51 → ¬ x1 = 52 → ¬ x1 = 53 → ¬ x1 = 54 → ¬ x1 = 55 → x1 = 56 → P (or32 x0 x2) mem)
  (q21 : ¬ x1 = 38 → ¬ x1 = 39 → ¬ x1 = 40 → ¬ x1 = 41 → ¬ x1 = 42 → ¬ x1 = 43 → ¬ x1 = 44 → ¬ x1 = 45 → ¬ x1 = 46 → ¬ x1 = 47 → ¬ x1 = 48 → ¬ x1 = 49 → ¬ x1 = 50 → ¬ x1 = 51 → ¬ x1 = 52 → ¬ x1 = 53 → ¬ x1 = 54 → ¬ x1 = 55 → ¬ x1 = 56 → x1 = 57 → P (or32 x0 x2) mem)
  (q22 : ¬ x1 = 38 → ¬ x1 = 39 → ¬ x1 = 40 → ¬ x1 = 41 → ¬ x1 = 42 → ¬ x1 = 43 → ¬ x1 = 44 → ¬ x1 = 45 → ¬ x1 = 46 → ¬ x1 = 47 → ¬ x1 = 48 → ¬ x1 = 49 → ¬ x1 = 50 → ¬ x1 = 51 → ¬ x1 = 52 → ¬ x1 = 53 → ¬ x1 = 54 → ¬ x1 = 55 → ¬ x1 = 56 → ¬ x1 = 57 → x1 = 58 → P (or32 x0 x2) mem)
  (q23 : ¬ x1 = 38 → ¬ x1 = 39 → ¬ x1 = 40 → ¬ x1 = 41 → ¬ x1 = 42 → ¬ x1 = 43 → ¬ x1 = 44 → ¬ x1 = 45 → ¬ x1 = 46 → ¬ x1 = 47 → ¬ x1 = 48 → ¬ x1 = 49 → ¬ x1 = 50 → ¬ x1 = 51 → ¬ x1 = 52 → ¬ x1 = 53 → ¬ x1 = 54 → ¬ x1 = 55 → ¬ x1 = 56 → ¬ x1 = 57 → ¬ x1 = 58 → x1 = 59 → P (or32 x0 x2) mem)
  (q24 : ¬ x1 = 38 → ¬ x1 = 39 → ¬ x1 = 40 → ¬ x1 = 41 → ¬ x1 = 42 → ¬ x1 = 43 → ¬ x1 = 44 → ¬ x1 = 45 → ¬ x1 = 46 → ¬ x1 = 47 → ¬ x1 = 48 → ¬ x1 = 49 → ¬ x1 = 50 → ¬ x1 = 51 → ¬ x1 = 52 → ¬ x1 = 53 → ¬ x1 = 54 → ¬ x1 = 55 → ¬ x1 = 56 → ¬ x1 = 57 → ¬ x1 = 58 → ¬ x1 = 59 → x1 = 60 → x2 ≤ x0 → P 0 mem)
  (q25 : ¬ x1 = 38 → ¬ x1 = 39 → ¬ x1 = 40 → ¬ x1 = 41 → ¬ x1 = 42 → ¬ x1 = 43 → ¬ x1 = 44 → ¬ x1 = 45 → ¬ x1 = 46 → ¬ x1 = 47 → ¬ x1 = 48 → ¬ x1 = 49 → ¬ x1 = 50 → ¬ x1 = 51 → ¬ x1 = 52 → ¬ x1 = 53 → ¬ x1 = 54 → ¬ x1 = 55 → ¬ x1 = 56 → ¬ x1 = 57 → ¬ x1 = 58 → ¬ x1 = 59 → x1 = 60 → x0 < x2 → P 1 mem)
  (q26 : ¬ x1 = 38 → ¬ x1 = 39 → ¬ x1 = 40 → ¬ x1 = 41 → ¬ x1 = 42 → ¬ x1 = 43 → ¬ x1 = 44 → ¬ x1 = 45 → ¬ x1 = 46 → ¬ x1 = 47 → ¬ x1 = 48 → ¬ x1 = 49 → ¬ x1 = 50 → ¬ x1 = 51 → ¬ x1 = 52 → ¬ x1 = 53 → ¬ x1 = 54 → ¬ x1 = 55 → ¬ x1 = 56 → ¬ x1 = 57 → ¬ x1 = 58 → ¬ x1 = 59 → ¬ x1 = 60 → x1 = 61 → ¬ x0 = x2 → P 0 mem)
  (q27 : ¬ x1 = 38 → ¬ x1 = 39 → ¬ x1 = 40 → ¬ x1 = 41 → ¬ x1 = 42 → ¬ x1 = 43 → ¬ x1 = 44 → ¬ x1 = 45 → ¬ x1 = 46 → ¬ x1 = 47 → ¬ x1 = 48 → ¬ x1 = 49 → ¬ x1 = 50 → ¬ x1 = 51 → ¬ x1 = 52 → ¬ x1 = 53 → ¬ x1 = 54 → ¬ x1 = 55 → ¬ x1 = 56 → ¬ x1 = 57 → ¬ x1 = 58 → ¬ x1 = 59 → ¬ x1 = 60 → x1 = 61 → x0 = x2 → P 1 mem)
  (q28 : ¬ x1 = 38 → ¬ x1 = 39 → ¬ x1 = 40 → ¬ x1 = 41 → ¬ x1 = 42 → ¬ x1 = 43 → ¬ x1 = 44 → ¬ x1 = 45 → ¬ x1 = 46 → ¬ x1 = 47 → ¬ x1 = 48 → ¬ x1 = 49 → ¬ x1 = 50 → ¬ x1 = 51 → ¬ x1 = 52 → ¬ x1 = 53 → ¬ x1 = 54 → ¬ x1 = 55 → ¬ x1 = 56 → ¬ x1 = 57 → ¬ x1 = 58 → ¬ x1 = 59 → ¬ x1 = 60 → ¬ x1 = 61 → x1 = 62 → x0 ≤ x2 → P 0 mem)
  (q29 : ¬ x1 = 38 → ¬ x1 = 39 → ¬ x1 = 40 → ¬ x1 = 41 → ¬ x1 = 42 → ¬ x1 = 43 → ¬ x1 = 44 → ¬ x1 = 45 → ¬ x1 = 46 → ¬ x1 = 47 → ¬ x1 = 48 → ¬ x1 = 49 → ¬ x1 = 50 → ¬ x1 = 51 → ¬ x1 = 52 → ¬ x1 = 53 → ¬ x1 = 54 → ¬ x1 = 55 → ¬ x1 = 56 → ¬ x1 = 57 → ¬ x1 = 58 → ¬ x1 = 59 → ¬ x1 = 60 → ¬ x1 = 61 → x1 = 62 → x2 < x0 → P 1 mem)
  (q30 : ¬ x1 = 38 → ¬ x1 = 39 → ¬ x1 = 40 → ¬ x1 = 41 → ¬ x1 = 42 → ¬ x1 = 43 → ¬ x1 = 44 → ¬ x1 = 45 → ¬ x1 = 46 → ¬ x1 = 47 → ¬ x1 = 48 → ¬ x1 = 49 → ¬ x1 = 50 → ¬ x1 = 51 → ¬ x1 = 52 → ¬ x1 = 53 → ¬ x1 = 54 → ¬ x1 = 55 → ¬ x1 = 56 → ¬ x1 = 57 → ¬ x1 = 58 → ¬ x1 = 59 → ¬ x1 = 60 → ¬ x1 = 61 → ¬ x1 = 62 → P (or32 x0 x2) mem)
  (hd2 : 2 ≤ d := by omega)
  (s1 : R32 x1 := by intros; first | omega | assumption | solve_by_elim)
  (s2 : ¬ x1 = 38 → ¬ x1 = 39 → ¬ x1 = 40 → ¬ x1 = 41 → x1 = 42 → R32 x0 := by intros; first | omega | assumption | solve_by_elim)
  (s3 : ¬ x1 = 38 → ¬ x1 = 39 → ¬ x1 = 40 → ¬ x1 = 41 → x1 = 42 → R32 x2 := by intros; first | omega | assumption | solve_by_elim)
  (s4 : ¬ x1 = 38 → ¬ x1 = 39 → ¬ x1 = 40 → ¬ x1 = 41 → x1 = 42 → R64 (x0 * x2) := by intros; first | omega | assumption | solve_by_elim)
  (s5 : ¬ x1 = 38 → ¬ x1 = 39 → ¬ x1 = 40 → ¬ x1 = 41 → ¬ x1 = 42 → x1 = 43 → R32 x0 := by intros; first | omega | assumption | solve_by_elim)
  (s6 : ¬ x1 = 38 → ¬ x1 = 39 → ¬ x1 = 40 → ¬ x1 = 41 → ¬ x1 = 42 → x1 = 43 → R32 x2 := by intros; first | omega | assumption | solve_by_elim)
  (s7 : ¬ x1 = 38 → ¬ x1 = 39 → ¬ x1 = 40 → ¬ x1 = 41 → ¬ x1 = 42 → x1 = 43 → R64 (x0 + x2) := by intros; first | omega | assumption | solve_by_elim)
  (s8 : ¬ x1 = 38 → ¬ x1 = 39 → ¬ x1 = 40 → ¬ x1 = 41 → ¬ x1 = 42 → ¬ x1 = 43 → ¬ x1 = 44 → x1 = 45 → R32 x0 := by intros; first | omega | assumption | solve_by_elim)
  (s9 : ¬ x1 = 38 → ¬ x1 = 39 → ¬ x1 = 40 → ¬ x1 = 41 → ¬ x1 = 42 → ¬ x1 = 43 → ¬ x1 = 44 → x1 = 45 → R32 x2 := by intros; first | omega | assumption | solve_by_elim)
  (s10 : ¬ x1 = 38 → ¬ x1 = 39 → ¬ x1 = 40 → ¬ x1 = 41 → ¬ x1 = 42 → ¬ x1 = 43 → ¬ x1 = 44 → x1 = 45 → R64 (x0 - x2) := by intros; first | omega | assumption | solve_by_elim)
  (s11 : ¬ x1 = 38 → ¬ x1 = 39 → ¬ x1 = 40 → ¬ x1 = 41 → ¬ x1 = 42 → ¬ x1 = 43 → ¬ x1 = 44 → ¬ x1 = 45 → ¬ x1 = 46 → x1 = 47 → R32 x2 := by intros; first | omega | assumption | solve_by_elim)
  (s12 : ¬ x1 = 38 → ¬ x1 = 39 → ¬ x1 = 40 → ¬ x1 = 41 → ¬ x1 = 42 → ¬ x1 = 43 → ¬ x1 = 44 → ¬ x1 = 45 → ¬ x1 = 46 → x1 = 47 → ¬ x2 = 0 → (-2147483648) < x0 ∧ x0 < 2147483648 := by intros; first | omega | assumption | solve_by_elim)
  (s13 : ¬ x1 = 38 → ¬ x1 = 39 → ¬ x1 = 40 → ¬ x1 = 41 → ¬ x1 = 42 → ¬ x1 = 43 → ¬ x1 = 44 → ¬ x1 = 45 → ¬ x1 = 46 → ¬ x1 = 47 → ¬ x1 = 48 → ¬ x1 = 49 → ¬ x1 = 50 → ¬ x1 = 51 → ¬ x1 = 52 → ¬ x1 = 53 → ¬ x1 = 54 → ¬ x1 = 55 → ¬ x1 = 56 → ¬ x1 = 57 → ¬ x1 = 58 → ¬ x1 = 59 → x1 = 60 → R32 x0 := by intros; first | omega | assumption | solve_by_elim)
  (s14 : ¬ x1 = 38 → ¬ x1 = 39 → ¬ x1 = 40 → ¬ x1 = 41 → ¬ x1 = 42 → ¬ x1 = 43 → ¬ x1 = 44 → ¬ x1 = 45 → ¬ x1 = 46 → ¬ x1 = 47 → ¬ x1 = 48 → ¬ x1 = 49 → ¬ x1 = 50 → ¬ x1 = 51 → ¬ x1 = 52 → ¬ x1 = 53 → ¬ x1 = 54 → ¬ x1 = 55 → ¬ x1 = 56 → ¬ x1 = 57 → ¬ x1 = 58 → ¬ x1 = 59 → x1 = 60 → R32 x2 := by intros; first | omega | assumption | solve_by_elim)
  (s15 : ¬ x1 = 38 → ¬ x1 = 39 → ¬ x1 = 40 → ¬ x1 = 41 → ¬ x1 = 42 → ¬ x1 = 43 → ¬ x1 = 44 → ¬ x1 = 45 → ¬ x1 = 46 → ¬ x1 = 47 → ¬ x1 = 48 → ¬ x1 = 49 → ¬ x1 = 50 → ¬ x1 = 51 → ¬ x1 = 52 → ¬ x1 = 53 → ¬ x1 = 54 → ¬ x1 = 55 → ¬ x1 = 56 → ¬ x1 = 57 → ¬ x1 = 58 → ¬ x1 = 59 → ¬ x1 = 60 → x1 = 61 → R32 x0 := by intros; first | omega | assumption | solve_by_elim)
  (s16 : ¬ x1 = 38 → ¬ x1 = 39 → ¬ x1 = 40 → ¬ x1 = 41 → ¬ x1 = 42 → ¬ x1 = 43 → ¬ x1 = 44 → ¬ x1 = 45 → ¬ x1 = 46 → ¬ x1 = 47 → ¬ x1 = 48 → ¬ x1 = 49 → ¬ x1 = 50 → ¬ x1 = 51 → ¬ x1 = 52 → ¬ x1 = 53 → ¬ x1 = 54 → ¬ x1 = 55 → ¬ x1 = 56 → ¬ x1 = 57 → ¬ x1 = 58 → ¬ x1 = 59 → ¬ x1 = 60 → x1 = 61 → R32 x2 := by intros; first | omega | assumption | solve_by_elim)
  (s17 : ¬ x1 = 38 → ¬ x1 = 39 → ¬ x1 = 40 → ¬ x1 = 41 → ¬ x1 = 42 → ¬ x1 = 43 → ¬ x1 = 44 → ¬ x1 = 45 → ¬ x1 = 46 → ¬ x1 = 47 → ¬ x1 = 48 → ¬ x1 = 49 → ¬ x1 = 50 → ¬ x1 = 51 → ¬ x1 = 52 → ¬ x1 = 53 → ¬ x1 = 54 → ¬ x1 = 55 → ¬ x1 = 56 → ¬ x1 = 57 → ¬ x1 = 58 → ¬ x1 = 59 → ¬ x1 = 60 → ¬ x1 = 61 → x1 = 62 → R32 x0 := by intros; first | omega | assumption | solve_by_elim)
  (s18 : ¬ x1 = 38 → ¬ x1 = 39 → ¬ x1 = 40 → ¬ x1 = 41 → ¬ x1 = 42 → ¬ x1 = 43 → ¬ x1 = 44 → ¬ x1 = 45 → ¬ x1 = 46 → ¬ x1 = 47 → ¬ x1 = 48 → ¬ x1 = 49 → ¬ x1 = 50 → ¬ x1 = 51 → ¬ x1 = 52 → ¬ x1 = 53 → ¬ x1 = 54 → ¬ x1 = 55 → ¬ x1 = 56 → ¬ x1 = 57 → ¬ x1 = 58 → ¬ x1 = 59 → ¬ x1 = 60 → ¬ x1 = 61 → x1 = 62 → R32 x2 := by intros; first | omega | assumption | solve_by_elim)
  : mmT bX2_join d 0 0 (mQ 0 P) 0 [(0, x0), (0, x1), (0, x2)] [] mS mem := by
  refine st_iload_n (i := 1) rfl rfl dX2_join_0 ?_
  by_cases h1 : x1 = 38
  · refine so_tabI 188 s1 38 h1 (by decide) (by decide) rfl (by decide) dX2_join_1 ?_
    refine st_iload_n (i := 0) rfl rfl dX2_join_188 ?_
    refine st_iload_n (i := 2) rfl rfl dX2_join_189 ?_
    refine st_iand dX2_join_190 ?_
    exact st_ireturn rfl dX2_join_191 (mQ.ret (q1 h1))
  by_cases h2 : x1 = 39
  · refine so_tabI 192 s1 39 h2 (by decide) (by decide) rfl (by decide) dX2_join_1 ?_
    refine st_iload_n (i := 0) rfl rfl dX2_join_192 ?_
    refine st_iload_n (i := 2) rfl rfl dX2_join_193 ?_
    refine st_ior dX2_join_194 ?_
    exact st_ireturn rfl dX2_join_195 (mQ.ret (q2 h1 h2))
  by_cases h3 : x1 = 40
  · refine so_tabI 192 s1 40 h3 (by decide) (by decide) rfl (by decide) dX2_join_1 ?_
    refine st_iload_n (i := 0) rfl rfl dX2_join_192 ?_
    refine st_iload_n (i := 2) rfl rfl dX2_join_193 ?_
    refine st_ior dX2_join_194 ?_
    exact st_ireturn rfl dX2_join_195 (mQ.ret (q3 h1 h2 h3))
  by_cases h4 : x1 = 41
  · refine so_tabI 192 s1 41 h4 (by decide) (by decide) rfl (by decide) dX2_join_1 ?_
    refine st_iload_n (i := 0) rfl rfl dX2_join_192 ?_
    refine st_iload_n (i := 2) rfl rfl dX2_join_193 ?_
    refine st_ior dX2_join_194 ?_
    exact st_ireturn rfl dX2_join_195 (mQ.ret (q4 h1 h2 h3 h4))
  by_cases h5 : x1 = 42
  · refine so_tabI 134 s1 42 h5 (by decide) (by decide) rfl (by decide) dX2_join_1 ?_
    refine st_iload_n (i := 0) rfl rfl dX2_join_134 ?_
    refine sr_i2l (s2 h1 h2 h3 h4 h5) dX2_join_135 ?_
    refine st_iload_n (i := 2) rfl rfl dX2_join_136 ?_
    refine sr_i2l (s3 h1 h2 h3 h4 h5) dX2_join_137 ?_
    refine st_lmul dX2_join_138 ?_
    refine st_callS (kc2 := 0) (ks2 := 0) (av := [(1, (x0 * x2))]) mr_X2_61 ok_X2_within (c_X2_within mem (x0 * x2) ((s4 h1 h2 h3 h4 h5))) rfl rfl hd2 (Nat.le_refl 0) (Nat.le_refl 0) (Nat.le_of_ble_eq_true rfl) dX2_join_139 (mQ.elim fun v1 m1 hp => ?_)
    obtain ⟨hpv, hpm⟩ := hp
    subst hpv
    have hpm := hpm.symm
    subst hpm
    exact st_ireturn rfl dX2_join_142 (mQ.ret (q5 h1 h2 h3 h4 h5))
  by_cases h6 : x1 = 43
  · refine so_tabI 116 s1 43 h6 (by decide) (by decide) rfl (by decide) dX2_join_1 ?_
    refine st_iload_n (i := 0) rfl rfl dX2_join_116 ?_
    refine sr_i2l (s5 h1 h2 h3 h4 h5 h6) dX2_join_117 ?_
    refine st_iload_n (i := 2) rfl rfl dX2_join_118 ?_
    refine sr_i2l (s6 h1 h2 h3 h4 h5 h6) dX2_join_119 ?_
    refine st_ladd dX2_join_120 ?_
    refine st_callS (kc2 := 0) (ks2 := 0) (av := [(1, (x0 + x2))]) mr_X2_61 ok_X2_within (c_X2_within mem (x0 + x2) ((s7 h1 h2 h3 h4 h5 h6))) rfl rfl hd2 (Nat.le_refl 0) (Nat.le_refl 0) (Nat.le_of_ble_eq_true rfl) dX2_join_121 (mQ.elim fun v2 m2 hp => ?_)
    obtain ⟨hpv, hpm⟩ := hp
    subst hpv
    have hpm := hpm.symm
    subst hpm
    exact st_ireturn rfl dX2_join_124 (mQ.ret (q6 h1 h2 h3 h4 h5 h6))
  by_cases h7 : x1 = 44
  · refine so_tabI 192 s1 44 h7 (by decide) (by decide) rfl (by decide) dX2_join_1 ?_
    refine st_iload_n (i := 0) rfl rfl dX2_join_192 ?_
    refine st_iload_n (i := 2) rfl rfl dX2_join_193 ?_
    refine st_ior dX2_join_194 ?_
    exact st_ireturn rfl dX2_join_195 (mQ.ret (q7 h1 h2 h3 h4 h5 h6 h7))
  by_cases h8 : x1 = 45
  · refine so_tabI 125 s1 45 h8 (by decide) (by decide) rfl (by decide) dX2_join_1 ?_
    refine st_iload_n (i := 0) rfl rfl dX2_join_125 ?_
    refine sr_i2l (s8 h1 h2 h3 h4 h5 h6 h7 h8) dX2_join_126 ?_
    refine st_iload_n (i := 2) rfl rfl dX2_join_127 ?_
    refine sr_i2l (s9 h1 h2 h3 h4 h5 h6 h7 h8) dX2_join_128 ?_
    refine st_lsub dX2_join_129 ?_
    refine st_callS (kc2 := 0) (ks2 := 0) (av := [(1, (x0 - x2))]) mr_X2_61 ok_X2_within (c_X2_within mem (x0 - x2) ((s10 h1 h2 h3 h4 h5 h6 h7 h8))) rfl rfl hd2 (Nat.le_refl 0) (Nat.le_refl 0) (Nat.le_of_ble_eq_true rfl) dX2_join_130 (mQ.elim fun v3 m3 hp => ?_)
    obtain ⟨hpv, hpm⟩ := hp
    subst hpv
    have hpm := hpm.symm
    subst hpm
    exact st_ireturn rfl dX2_join_133 (mQ.ret (q8 h1 h2 h3 h4 h5 h6 h7 h8))
  by_cases h9 : x1 = 46
  · refine so_tabI 192 s1 46 h9 (by decide) (by decide) rfl (by decide) dX2_join_1 ?_
    refine st_iload_n (i := 0) rfl rfl dX2_join_192 ?_
    refine st_iload_n (i := 2) rfl rfl dX2_join_193 ?_
    refine st_ior dX2_join_194 ?_
    exact st_ireturn rfl dX2_join_195 (mQ.ret (q9 h1 h2 h3 h4 h5 h6 h7 h8 h9))
  by_cases h10 : x1 = 47
  · refine so_tabI 143 s1 47 h10 (by decide) (by decide) rfl (by decide) dX2_join_1 ?_
    refine st_iload_n (i := 2) rfl rfl dX2_join_143 ?_
    refine sr_if_ne 151 (s11 h1 h2 h3 h4 h5 h6 h7 h8 h9 h10) (by decide) dX2_join_144 (fun h11 => ?_) (fun h11 => ?_)
    · have h11 : ¬ x2 = 0 := by omega
      refine st_iload_n (i := 0) rfl rfl dX2_join_151 ?_
      refine st_iload_n (i := 2) rfl rfl dX2_join_152 ?_
      refine sr_idiv (s12 h1 h2 h3 h4 h5 h6 h7 h8 h9 h10 h11) (s11 h1 h2 h3 h4 h5 h6 h7 h8 h9 h10) h11 dX2_join_153 ?_
      exact st_ireturn rfl dX2_join_154 (mQ.ret (q10 h1 h2 h3 h4 h5 h6 h7 h8 h9 h10 h11))
    · have h11 : x2 = 0 := by omega
      refine st_iconst dX2_join_147 ?_
      refine st_goto 154 (by decide) dX2_join_148 ?_
      exact st_ireturn rfl dX2_join_154 (mQ.ret (q11 h1 h2 h3 h4 h5 h6 h7 h8 h9 h10 h11))
  by_cases h12 : x1 = 48
  · refine so_tabI 192 s1 48 h12 (by decide) (by decide) rfl (by decide) dX2_join_1 ?_
    refine st_iload_n (i := 0) rfl rfl dX2_join_192 ?_
    refine st_iload_n (i := 2) rfl rfl dX2_join_193 ?_
    refine st_ior dX2_join_194 ?_
    exact st_ireturn rfl dX2_join_195 (mQ.ret (q12 h1 h2 h3 h4 h5 h6 h7 h8 h9 h10 h12))
  by_cases h13 : x1 = 49
  · refine so_tabI 192 s1 49 h13 (by decide) (by decide) rfl (by decide) dX2_join_1 ?_
    refine st_iload_n (i := 0) rfl rfl dX2_join_192 ?_
    refine st_iload_n (i := 2) rfl rfl dX2_join_193 ?_
    refine st_ior dX2_join_194 ?_
    exact st_ireturn rfl dX2_join_195 (mQ.ret (q13 h1 h2 h3 h4 h5 h6 h7 h8 h9 h10 h12 h13))
  by_cases h14 : x1 = 50
  · refine so_tabI 192 s1 50 h14 (by decide) (by decide) rfl (by decide) dX2_join_1 ?_
    refine st_iload_n (i := 0) rfl rfl dX2_join_192 ?_
    refine st_iload_n (i := 2) rfl rfl dX2_join_193 ?_
    refine st_ior dX2_join_194 ?_
    exact st_ireturn rfl dX2_join_195 (mQ.ret (q14 h1 h2 h3 h4 h5 h6 h7 h8 h9 h10 h12 h13 h14))
  by_cases h15 : x1 = 51
  · refine so_tabI 192 s1 51 h15 (by decide) (by decide) rfl (by decide) dX2_join_1 ?_
    refine st_iload_n (i := 0) rfl rfl dX2_join_192 ?_
    refine st_iload_n (i := 2) rfl rfl dX2_join_193 ?_
    refine st_ior dX2_join_194 ?_
    exact st_ireturn rfl dX2_join_195 (mQ.ret (q15 h1 h2 h3 h4 h5 h6 h7 h8 h9 h10 h12 h13 h14 h15))
  by_cases h16 : x1 = 52
  · refine so_tabI 192 s1 52 h16 (by decide) (by decide) rfl (by decide) dX2_join_1 ?_
    refine st_iload_n (i := 0) rfl rfl dX2_join_192 ?_
    refine st_iload_n (i := 2) rfl rfl dX2_join_193 ?_
    refine st_ior dX2_join_194 ?_
    exact st_ireturn rfl dX2_join_195 (mQ.ret (q16 h1 h2 h3 h4 h5 h6 h7 h8 h9 h10 h12 h13 h14 h15 h16))
  by_cases h17 : x1 = 53
  · refine so_tabI 192 s1 53 h17 (by decide) (by decide) rfl (by decide) dX2_join_1 ?_
    refine st_iload_n (i := 0) rfl rfl dX2_join_192 ?_
    refine st_iload_n (i := 2) rfl rfl dX2_join_193 ?_
    refine st_ior dX2_join_194 ?_
    exact st_ireturn rfl dX2_join_195 (mQ.ret (q17 h1 h2 h3 h4 h5 h6 h7 h8 h9 h10 h12 h13 h14 h15 h16 h17))
  by_cases h18 : x1 = 54
  · refine so_tabI 192 s1 54 h18 (by decide) (by decide) rfl (by decide) dX2_join_1 ?_
    refine st_iload_n (i := 0) rfl rfl dX2_join_192 ?_
    refine st_iload_n (i := 2) rfl rfl dX2_join_193 ?_
    refine st_ior dX2_join_194 ?_
    exact st_ireturn rfl dX2_join_195 (mQ.ret (q18 h1 h2 h3 h4 h5 h6 h7 h8 h9 h10 h12 h13 h14 h15 h16 h17 h18))
  by_cases h19 : x1 = 55
  · refine so_tabI 192 s1 55 h19 (by decide) (by decide) rfl (by decide) dX2_join_1 ?_
    refine st_iload_n (i := 0) rfl rfl dX2_join_192 ?_
    refine st_iload_n (i := 2) rfl rfl dX2_join_193 ?_
    refine st_ior dX2_join_194 ?_
    exact st_ireturn rfl dX2_join_195 (mQ.ret (q19 h1 h2 h3 h4 h5 h6 h7 h8 h9 h10 h12 h13 h14 h15 h16 h17 h18 h19))
  by_cases h20 : x1 = 56
  · refine so_tabI 192 s1 56 h20 (by decide) (by decide) rfl (by decide) dX2_join_1 ?_
    refine st_iload_n (i := 0) rfl rfl dX2_join_192 ?_
    refine st_iload_n (i := 2) rfl rfl dX2_join_193 ?_
    refine st_ior dX2_join_194 ?_
    exact st_ireturn rfl dX2_join_195 (mQ.ret (q20 h1 h2 h3 h4 h5 h6 h7 h8 h9 h10 h12 h13 h14 h15 h16 h17 h18 h19 h20))
  by_cases h21 : x1 = 57
  · refine so_tabI 192 s1 57 h21 (by decide) (by decide) rfl (by decide) dX2_join_1 ?_
    refine st_iload_n (i := 0) rfl rfl dX2_join_192 ?_
    refine st_iload_n (i := 2) rfl rfl dX2_join_193 ?_
    refine st_ior dX2_join_194 ?_
    exact st_ireturn rfl dX2_join_195 (mQ.ret (q21 h1 h2 h3 h4 h5 h6 h7 h8 h9 h10 h12 h13 h14 h15 h16 h17 h18 h19 h20 h21))
  by_cases h22 : x1 = 58
  · refine so_tabI 192 s1 58 h22 (by decide) (by decide) rfl (by decide) dX2_join_1 ?_
    refine st_iload_n (i := 0) rfl rfl dX2_join_192 ?_
    refine st_iload_n (i := 2) rfl rfl dX2_join_193 ?_
    refine st_ior dX2_join_194 ?_
    exact st_ireturn rfl dX2_join_195 (mQ.ret (q22 h1 h2 h3 h4 h5 h6 h7 h8 h9 h10 h12 h13 h14 h15 h16 h17 h18 h19 h20 h21 h22))
  by_cases h23 : x1 = 59
  · refine so_tabI 192 s1 59 h23 (by decide) (by decide) rfl (by decide) dX2_join_1 ?_
    refine st_iload_n (i := 0) rfl rfl dX2_join_192 ?_
    refine st_iload_n (i := 2) rfl rfl dX2_join_193 ?_
    refine st_ior dX2_join_194 ?_
    exact st_ireturn rfl dX2_join_195 (mQ.ret (q23 h1 h2 h3 h4 h5 h6 h7 h8 h9 h10 h12 h13 h14 h15 h16 h17 h18 h19 h20 h21 h22 h23))
  by_cases h24 : x1 = 60
  · refine so_tabI 166 s1 60 h24 (by decide) (by decide) rfl (by decide) dX2_join_1 ?_
    refine st_iload_n (i := 0) rfl rfl dX2_join_166 ?_
    refine st_iload_n (i := 2) rfl rfl dX2_join_167 ?_
    refine sr_icmp_ge 175 (s13 h1 h2 h3 h4 h5 h6 h7 h8 h9 h10 h12 h13 h14 h15 h16 h17 h18 h19 h20 h21 h22 h23 h24) (s14 h1 h2 h3 h4 h5 h6 h7 h8 h9 h10 h12 h13 h14 h15 h16 h17 h18 h19 h20 h21 h22 h23 h24) (by decide) dX2_join_168 (fun h25 => ?_) (fun h25 => ?_)
    · have h25 : x2 ≤ x0 := by omega
      refine st_iconst dX2_join_175 ?_
      exact st_ireturn rfl dX2_join_176 (mQ.ret (q24 h1 h2 h3 h4 h5 h6 h7 h8 h9 h10 h12 h13 h14 h15 h16 h17 h18 h19 h20 h21 h22 h23 h24 h25))
    · have h25 : x0 < x2 := by omega
      refine st_iconst dX2_join_171 ?_
      refine st_goto 176 (by decide) dX2_join_172 ?_
      exact st_ireturn rfl dX2_join_176 (mQ.ret (q25 h1 h2 h3 h4 h5 h6 h7 h8 h9 h10 h12 h13 h14 h15 h16 h17 h18 h19 h20 h21 h22 h23 h24 h25))
  by_cases h26 : x1 = 61
  · refine so_tabI 155 s1 61 h26 (by decide) (by decide) rfl (by decide) dX2_join_1 ?_
    refine st_iload_n (i := 0) rfl rfl dX2_join_155 ?_
    refine st_iload_n (i := 2) rfl rfl dX2_join_156 ?_
    refine sr_icmp_ne 164 (s15 h1 h2 h3 h4 h5 h6 h7 h8 h9 h10 h12 h13 h14 h15 h16 h17 h18 h19 h20 h21 h22 h23 h24 h26) (s16 h1 h2 h3 h4 h5 h6 h7 h8 h9 h10 h12 h13 h14 h15 h16 h17 h18 h19 h20 h21 h22 h23 h24 h26) (by decide) dX2_join_157 (fun h27 => ?_) (fun h27 => ?_)
    · have h27 : ¬ x0 = x2 := by omega
      refine st_iconst dX2_join_164 ?_
      exact st_ireturn rfl dX2_join_165 (mQ.ret (q26 h1 h2 h3 h4 h5 h6 h7 h8 h9 h10 h12 h13 h14 h15 h16 h17 h18 h19 h20 h21 h22 h23 h24 h26 h27))
    · have h27 : x0 = x2 := by omega
      refine st_iconst dX2_join_160 ?_
      refine st_goto 165 (by decide) dX2_join_161 ?_
      exact st_ireturn rfl dX2_join_165 (mQ.ret (q27 h1 h2 h3 h4 h5 h6 h7 h8 h9 h10 h12 h13 h14 h15 h16 h17 h18 h19 h20 h21 h22 h23 h24 h26 h27))
  by_cases h28 : x1 = 62
  · refine so_tabI 177 s1 62 h28 (by decide) (by decide) rfl (by decide) dX2_join_1 ?_
    refine st_iload_n (i := 0) rfl rfl dX2_join_177 ?_
    refine st_iload_n (i := 2) rfl rfl dX2_join_178 ?_
    refine sr_icmp_le 186 (s17 h1 h2 h3 h4 h5 h6 h7 h8 h9 h10 h12 h13 h14 h15 h16 h17 h18 h19 h20 h21 h22 h23 h24 h26 h28) (s18 h1 h2 h3 h4 h5 h6 h7 h8 h9 h10 h12 h13 h14 h15 h16 h17 h18 h19 h20 h21 h22 h23 h24 h26 h28) (by decide) dX2_join_179 (fun h29 => ?_) (fun h29 => ?_)
    · have h29 : x0 ≤ x2 := by omega
      refine st_iconst dX2_join_186 ?_
      exact st_ireturn rfl dX2_join_187 (mQ.ret (q28 h1 h2 h3 h4 h5 h6 h7 h8 h9 h10 h12 h13 h14 h15 h16 h17 h18 h19 h20 h21 h22 h23 h24 h26 h28 h29))
    · have h29 : x2 < x0 := by omega
      refine st_iconst dX2_join_182 ?_
      refine st_goto 187 (by decide) dX2_join_183 ?_
      exact st_ireturn rfl dX2_join_187 (mQ.ret (q29 h1 h2 h3 h4 h5 h6 h7 h8 h9 h10 h12 h13 h14 h15 h16 h17 h18 h19 h20 h21 h22 h23 h24 h26 h28 h29))
  refine so_tabO 192 s1 (by omega) (by decide) dX2_join_1 ?_
  refine st_iload_n (i := 0) rfl rfl dX2_join_192 ?_
  refine st_iload_n (i := 2) rfl rfl dX2_join_193 ?_
  refine st_ior dX2_join_194 ?_
  exact st_ireturn rfl dX2_join_195 (mQ.ret (q30 h1 h2 h3 h4 h5 h6 h7 h8 h9 h10 h12 h13 h14 h15 h16 h17 h18 h19 h20 h21 h22 h23 h24 h26 h28))
theorem c_X2_join_2 (mem : mmM) (x0 x2 : Int) (ha : -1000000 ≤ x0 ∧ x0 ≤ 1000000) (hb : -1000000 ≤ x2 ∧ x2 ≤ 1000000) : con 0 bX2_join 2 [(0, x0), (0, 43), (0, x2)] mem (fun v m => v = withinS (x0 + x2) ∧ m = mem) := by
  refine cn_X2_join (bk_X2_join_0 ?_ ?_ ?_ ?_ ?_ ?_ ?_ ?_ ?_ ?_ ?_ ?_ ?_ ?_ ?_ ?_ ?_ ?_ ?_ ?_ ?_ ?_ ?_ ?_ ?_ ?_ ?_ ?_ ?_ ?_) <;> (intros; first | (exfalso; omega) | exact ⟨rfl, rfl⟩ | (refine ⟨?_, rfl⟩; (try unfold b2i); (repeat' split) <;> first | rfl | omega))
theorem c_X2_join_3 (mem : mmM) (x0 x2 : Int) (ha : -1000000 ≤ x0 ∧ x0 ≤ 1000000) (hb : -1000000 ≤ x2 ∧ x2 ≤ 1000000) : con 0 bX2_join 2 [(0, x0), (0, 45), (0, x2)] mem (fun v m => v = withinS (x0 - x2) ∧ m = mem) := by
  refine cn_X2_join (bk_X2_join_0 ?_ ?_ ?_ ?_ ?_ ?_ ?_ ?_ ?_ ?_ ?_ ?_ ?_ ?_ ?_ ?_ ?_ ?_ ?_ ?_ ?_ ?_ ?_ ?_ ?_ ?_ ?_ ?_ ?_ ?_) <;> (intros; first | (exfalso; omega) | exact ⟨rfl, rfl⟩ | (refine ⟨?_, rfl⟩; (try unfold b2i); (repeat' split) <;> first | rfl | omega))
theorem c_X2_join_4 (mem : mmM) (x0 x2 : Int) (ha : -1000000 ≤ x0 ∧ x0 ≤ 1000000) (hb : -1000000 ≤ x2 ∧ x2 ≤ 1000000) (hm : -1002001000000 ≤ x0 * x2 ∧ x0 * x2 ≤ 1002001000000) : con 0 bX2_join 2 [(0, x0), (0, 42), (0, x2)] mem (fun v m => v = withinS (x0 * x2) ∧ m = mem) := by
  refine cn_X2_join (bk_X2_join_0 ?_ ?_ ?_ ?_ ?_ ?_ ?_ ?_ ?_ ?_ ?_ ?_ ?_ ?_ ?_ ?_ ?_ ?_ ?_ ?_ ?_ ?_ ?_ ?_ ?_ ?_ ?_ ?_ ?_ ?_) <;> (intros; first | (exfalso; omega) | exact ⟨rfl, rfl⟩ | (refine ⟨?_, rfl⟩; (try unfold b2i); (repeat' split) <;> first | rfl | omega))
theorem c_X2_join_5 (mem : mmM) (x0 x2 : Int) (ha : -1000000 ≤ x0 ∧ x0 ≤ 1000000) (hb : -1000000 ≤ x2 ∧ x2 ≤ 1000000) : con 0 bX2_join 2 [(0, x0), (0, 47), (0, x2)] mem (fun v m => v = (if x2 = 0 then 0 else Int.tdiv x0 x2) ∧ m = mem) := by
  refine cn_X2_join (bk_X2_join_0 ?_ ?_ ?_ ?_ ?_ ?_ ?_ ?_ ?_ ?_ ?_ ?_ ?_ ?_ ?_ ?_ ?_ ?_ ?_ ?_ ?_ ?_ ?_ ?_ ?_ ?_ ?_ ?_ ?_ ?_) <;> (intros; first | (exfalso; omega) | exact ⟨rfl, rfl⟩ | (refine ⟨?_, rfl⟩; (try unfold b2i); (repeat' split) <;> first | rfl | omega))
theorem c_X2_join_6 (mem : mmM) (x0 x2 : Int) (ha : -1000000 ≤ x0 ∧ x0 ≤ 1000000) (hb : -1000000 ≤ x2 ∧ x2 ≤ 1000000) : con 0 bX2_join 2 [(0, x0), (0, 61), (0, x2)] mem (fun v m => v = b2i (x0 = x2) ∧ m = mem) := by
  refine cn_X2_join (bk_X2_join_0 ?_ ?_ ?_ ?_ ?_ ?_ ?_ ?_ ?_ ?_ ?_ ?_ ?_ ?_ ?_ ?_ ?_ ?_ ?_ ?_ ?_ ?_ ?_ ?_ ?_ ?_ ?_ ?_ ?_ ?_) <;> (intros; first | (exfalso; omega) | exact ⟨rfl, rfl⟩ | (refine ⟨?_, rfl⟩; (try unfold b2i); (repeat' split) <;> first | rfl | omega))
theorem c_X2_join_7 (mem : mmM) (x0 x2 : Int) (ha : -1000000 ≤ x0 ∧ x0 ≤ 1000000) (hb : -1000000 ≤ x2 ∧ x2 ≤ 1000000) : con 0 bX2_join 2 [(0, x0), (0, 60), (0, x2)] mem (fun v m => v = b2i (x0 < x2) ∧ m = mem) := by
  refine cn_X2_join (bk_X2_join_0 ?_ ?_ ?_ ?_ ?_ ?_ ?_ ?_ ?_ ?_ ?_ ?_ ?_ ?_ ?_ ?_ ?_ ?_ ?_ ?_ ?_ ?_ ?_ ?_ ?_ ?_ ?_ ?_ ?_ ?_) <;> (intros; first | (exfalso; omega) | exact ⟨rfl, rfl⟩ | (refine ⟨?_, rfl⟩; (try unfold b2i); (repeat' split) <;> first | rfl | omega))
theorem c_X2_join_8 (mem : mmM) (x0 x2 : Int) (ha : -1000000 ≤ x0 ∧ x0 ≤ 1000000) (hb : -1000000 ≤ x2 ∧ x2 ≤ 1000000) : con 0 bX2_join 2 [(0, x0), (0, 62), (0, x2)] mem (fun v m => v = b2i (x2 < x0) ∧ m = mem) := by
  refine cn_X2_join (bk_X2_join_0 ?_ ?_ ?_ ?_ ?_ ?_ ?_ ?_ ?_ ?_ ?_ ?_ ?_ ?_ ?_ ?_ ?_ ?_ ?_ ?_ ?_ ?_ ?_ ?_ ?_ ?_ ?_ ?_ ?_ ?_) <;> (intros; first | (exfalso; omega) | exact ⟨rfl, rfl⟩ | (refine ⟨?_, rfl⟩; (try unfold b2i); (repeat' split) <;> first | rfl | omega))
theorem c_X2_join_10 (mem : mmM) (x0 x2 : Int) (ha : -1000000 ≤ x0 ∧ x0 ≤ 1000000) (hb : -1000000 ≤ x2 ∧ x2 ≤ 1000000) : con 0 bX2_join 2 [(0, x0), (0, 38), (0, x2)] mem (fun v m => v = and32 x0 x2 ∧ m = mem) := by
  refine cn_X2_join (bk_X2_join_0 ?_ ?_ ?_ ?_ ?_ ?_ ?_ ?_ ?_ ?_ ?_ ?_ ?_ ?_ ?_ ?_ ?_ ?_ ?_ ?_ ?_ ?_ ?_ ?_ ?_ ?_ ?_ ?_ ?_ ?_) <;> (intros; first | (exfalso; omega) | exact ⟨rfl, rfl⟩ | (refine ⟨?_, rfl⟩; (try unfold b2i); (repeat' split) <;> first | rfl | omega))
theorem c_X2_join_11 (mem : mmM) (x0 x2 : Int) (ha : -1000000 ≤ x0 ∧ x0 ≤ 1000000) (hb : -1000000 ≤ x2 ∧ x2 ≤ 1000000) : con 0 bX2_join 2 [(0, x0), (0, 124), (0, x2)] mem (fun v m => v = or32 x0 x2 ∧ m = mem) := by
  refine cn_X2_join (bk_X2_join_0 ?_ ?_ ?_ ?_ ?_ ?_ ?_ ?_ ?_ ?_ ?_ ?_ ?_ ?_ ?_ ?_ ?_ ?_ ?_ ?_ ?_ ?_ ?_ ?_ ?_ ?_ ?_ ?_ ?_ ?_) <;> (intros; first | (exfalso; omega) | exact ⟨rfl, rfl⟩ | (refine ⟨?_, rfl⟩; (try unfold b2i); (repeat' split) <;> first | rfl | omega))
theorem c_X2_join (mem : mmM) (x0 x2 c : Int) (hc : c = 2 ∨ c = 3 ∨ c = 4 ∨ c = 5 ∨ c = 6 ∨ c = 7 ∨ c = 8 ∨ c = 10 ∨ c = 11) (ha : -1000000 ≤ x0 ∧ x0 ≤ 1000000) (hb : -1000000 ≤ x2 ∧ x2 ≤ 1000000) (ht : 10 ≤ c → (x0 = 0 ∨ x0 = 1) ∧ (x2 = 0 ∨ x2 = 1)) : con 0 bX2_join 2 [(0, x0), (0, sgF c), (0, x2)] mem (fun v m => v = opF c x0 x2 ∧ m = mem) := by
  have hwd : ¬ x2 = 0 → withinS (Int.tdiv x0 x2) = Int.tdiv x0 x2 := by
    intro h0
    have := tdiv_bnd x0 x2 h0
    unfold withinS
    rw [if_neg (by omega), if_neg (by omega)]
  rcases hc with h | h | h | h | h | h | h | h | h <;> subst h
  · have e : sgF 2 = 43 := by decide
    rw [e]
    refine con.mono (c_X2_join_2 mem x0 x2 ha hb) (fun v m q => ⟨q.1.trans ?_, q.2⟩)
    unfold opF
    rw [if_pos rfl]
  · have e : sgF 3 = 45 := by decide
    rw [e]
    refine con.mono (c_X2_join_3 mem x0 x2 ha hb) (fun v m q => ⟨q.1.trans ?_, q.2⟩)
    unfold opF
    rw [if_neg (by decide), if_pos rfl]
  · have e : sgF 4 = 42 := by decide
    rw [e]
    refine con.mono (c_X2_join_4 mem x0 x2 ha hb (mul_bnd (by omega) (by omega))) (fun v m q => ⟨q.1.trans ?_, q.2⟩)
    unfold opF
    rw [if_neg (by decide), if_neg (by decide), if_pos rfl]
  · have e : sgF 5 = 47 := by decide
    rw [e]
    refine con.mono (c_X2_join_5 mem x0 x2 ha hb) (fun v m q => ⟨q.1.trans ?_, q.2⟩)
    have e5 : opF 5 x0 x2 = if x2 = 0 then 0 else withinS (Int.tdiv x0 x2) := by
      unfold opF
      rw [if_neg (by decide), if_neg (by decide), if_neg (by decide), if_pos rfl]
    rw [e5]
    by_cases z : x2 = 0
    · rw [if_pos z, if_pos z]
    · rw [if_neg z, if_neg z, hwd z]
  · have e : sgF 6 = 61 := by decide
    rw [e]
    refine con.mono (c_X2_join_6 mem x0 x2 ha hb) (fun v m q => ⟨q.1.trans ?_, q.2⟩)
    unfold opF
    rw [if_neg (by decide), if_neg (by decide), if_neg (by decide), if_neg (by decide), if_pos rfl]
  · have e : sgF 7 = 60 := by decide
    rw [e]
    refine con.mono (c_X2_join_7 mem x0 x2 ha hb) (fun v m q => ⟨q.1.trans ?_, q.2⟩)
    unfold opF
    rw [if_neg (by decide), if_neg (by decide), if_neg (by decide), if_neg (by decide), if_neg (by decide), if_pos rfl]
  · have e : sgF 8 = 62 := by decide
    rw [e]
    refine con.mono (c_X2_join_8 mem x0 x2 ha hb) (fun v m q => ⟨q.1.trans ?_, q.2⟩)
    unfold opF
    rw [if_neg (by decide), if_neg (by decide), if_neg (by decide), if_neg (by decide), if_neg (by decide), if_neg (by decide), if_pos rfl]
  · have e : sgF 10 = 38 := by decide
    rw [e]
    refine con.mono (c_X2_join_10 mem x0 x2 ha hb) (fun v m q => ⟨q.1.trans ?_, q.2⟩)
    obtain ⟨t1, t2⟩ := ht (by decide)
    rcases t1 with t1 | t1 <;> rcases t2 with t2 | t2 <;> subst t1 <;> subst t2 <;> decide
  · have e : sgF 11 = 124 := by decide
    rw [e]
    refine con.mono (c_X2_join_11 mem x0 x2 ha hb) (fun v m q => ⟨q.1.trans ?_, q.2⟩)
    obtain ⟨t1, t2⟩ := ht (by decide)
    rcases t1 with t1 | t1 <;> rcases t2 with t2 | t2 <;> subst t1 <;> subst t2 <;> decide
def leF (k : Int) : Int := if k = 0 then 97 else if k = 1 then 115 else if k = 2 then 108 else if k = 3 then 103 else if k = 4 then 99 else 109
/-- a sign as the class keeps it -/
def encX (t : tokT) : Int := if t.1 = 0 then t.2 + 1000 else if t.1 = 1 then leF t.2 else sgF t.1
theorem leF_let (k : Int) : isLet (leF k) ∧ leF k < 1000 ∧ 0 ≤ leF k := by
  unfold leF isLet
  (repeat' split) <;> omega
theorem sgF_not {c : Int} : ¬ isLet (sgF c) ∧ sgF c < 1000 ∧ 0 ≤ sgF c := by
  unfold sgF isLet
  (repeat' split) <;> omega
theorem sgF_33 {c : Int} : sgF c = 33 ↔ c = 9 := by
  unfold sgF
  (repeat' split) <;> omega
/-- signs with the kinds of what stands on the stack: true for what is 0 or 1 -/
def wfX (o : Bool) : List Bool → List tokT → Prop
  | ty, [] => ty = [o]
  | ty, t :: r =>
    if t.1 = 0 then ty.length < 64 ∧ (0 ≤ t.2 ∧ t.2 ≤ 1000000) ∧ wfX o (false :: ty) r
    else if t.1 = 1 then ty.length < 64 ∧ (0 ≤ t.2 ∧ t.2 < 6) ∧ wfX o (false :: ty) r
    else if t.1 = 9 then (∃ q, ty = true :: q) ∧ wfX o ty r
    else if t.1 = 10 ∨ t.1 = 11 then ∃ q, ty = true :: true :: q ∧ wfX o (true :: q) r
    else if 6 ≤ t.1 ∧ t.1 ≤ 8 then ∃ q, ty = false :: false :: q ∧ wfX o (true :: q) r
    else (2 ≤ t.1 ∧ t.1 ≤ 5) ∧ ∃ q, ty = false :: false :: q ∧ wfX o (false :: q) r
def valR : List Bool → List Int → Prop
  | [], [] => True
  | b :: bs, v :: vs => (if b then v = 0 ∨ v = 1 else -1000000 ≤ v ∧ v ≤ 1000000) ∧ valR bs vs
  | _, _ => False
theorem valR_len : ∀ (ty : List Bool) (st : List Int), valR ty st → ty.length = st.length := by
  intro ty
  induction ty with
  | nil =>
    intro st h
    cases st with
    | nil => rfl
    | cons a r => exact h.elim
  | cons b bs ih =>
    intro st h
    cases st with
    | nil => exact h.elim
    | cons a r =>
      show bs.length + 1 = r.length + 1
      rw [ih r h.2]
theorem opF_truth {c a b : Int} (hc : 6 ≤ c) : opF c a b = 0 ∨ opF c a b = 1 := by
  unfold opF b2i
  rw [if_neg (by omega), if_neg (by omega), if_neg (by omega), if_neg (by omega)]
  (repeat' split) <;> omega
/-- what is typed is well formed for the model -/
theorem wfX_wf (o : Bool) : ∀ (ts : List tokT) (ty : List Bool), wfX o ty ts → wfToks ty.length ts := by
  intro ts
  induction ts with
  | nil =>
    intro ty h
    have h' : ty = [o] := h
    rw [h']
    rfl
  | cons t r ih =>
    intro ty h
    unfold wfX at h
    unfold wfToks
    by_cases c0 : t.1 = 0
    · rw [if_pos c0] at h ⊢
      exact ⟨h.1, by omega, ih _ h.2.2⟩
    · rw [if_neg c0] at h ⊢
      by_cases c1 : t.1 = 1
      · rw [if_pos c1] at h ⊢
        exact ⟨h.1, h.2.1, ih _ h.2.2⟩
      · rw [if_neg c1] at h ⊢
        by_cases c9 : t.1 = 9
        · rw [if_pos c9] at h ⊢
          obtain ⟨⟨q, e⟩, h⟩ := h
          refine ⟨?_, ih _ h⟩
          rw [e]
          simp
        · rw [if_neg c9] at h ⊢
          by_cases c10 : t.1 = 10 ∨ t.1 = 11
          · rw [if_pos c10] at h
            obtain ⟨q, e, h⟩ := h
            subst e
            exact ⟨by simp, by omega, ih _ h⟩
          · rw [if_neg c10] at h
            by_cases c6 : 6 ≤ t.1 ∧ t.1 ≤ 8
            · rw [if_pos c6] at h
              obtain ⟨q, e, h⟩ := h
              subst e
              exact ⟨by simp, by omega, ih (true :: q) h⟩
            · rw [if_neg c6] at h
              obtain ⟨h2, q, e, h⟩ := h
              subst e
              exact ⟨by simp, by omega, ih _ h⟩
theorem valR_two {b c : Bool} {q : List Bool} {st : List Int} (h : valR (b :: c :: q) st) : ∃ z a r, st = z :: a :: r ∧ (if b then z = 0 ∨ z = 1 else -1000000 ≤ z ∧ z ≤ 1000000) ∧ (if c then a = 0 ∨ a = 1 else -1000000 ≤ a ∧ a ≤ 1000000) ∧ valR q r := by
  cases st with
  | nil => exact h.elim
  | cons z s =>
    cases s with
    | nil => exact h.2.elim
    | cons a r => exact ⟨z, a, r, rfl, h.1, h.2.1, h.2.2⟩
def tokX (f : Int → Int) : Int → List tokT → Prop
  | _, [] => True
  | p, t :: r => f p = encX t ∧ tokX f (p + 1) r
theorem encX_not {o : Bool} {ty : List Bool} {t : tokT} {r : List tokT} (h : wfX o ty (t :: r)) : ¬ encX t = 59 ∧ ¬ encX t = 63 := by
  unfold wfX at h
  unfold encX
  by_cases c0 : t.1 = 0
  · rw [if_pos c0] at h ⊢
    omega
  · rw [if_neg c0] at h ⊢
    by_cases c1 : t.1 = 1
    · rw [if_pos c1]
      unfold leF
      (repeat' split) <;> omega
    · rw [if_neg c1]
      unfold sgF
      (repeat' split) <;> omega
/-- a law in the class's row of signs, from place p on -/
def lawX (f : Int → Int) (sz : Int) : Int → lawT → Prop
  | p, [] => p = sz
  | p, q :: r => wfX false [] q.2 ∧ ((q.1.length = 0 ∧ tokX f p q.2 ∧ f (p + q.2.length) = 59 ∧ p + q.2.length < sz ∧ lawX f sz (p + q.2.length + 1) r) ∨
      (wfX true [] q.1 ∧ ¬ q.1.length = 0 ∧ tokX f p q.1 ∧ f (p + q.1.length) = 63 ∧ tokX f (p + q.1.length + 1) q.2 ∧ f (p + q.1.length + 1 + q.2.length) = 59 ∧ p + q.1.length + 1 + q.2.length < sz ∧ lawX f sz (p + q.1.length + 1 + q.2.length + 1) r))
theorem cn_X2_push_11 {d : Nat} {P : mmM → Prop} {mem : mmM} {x1 : Int} (h : mmT bX2_push d 0 0 (mQv P) 0 [(2, 11), (0, x1)] [] mS mem) : conv bX2_push d [(2, 11), (0, x1)] mem P := mmC_of [(2, 11), (0, x1)] ok_X2_push.2.2.2.2 rfl (Nat.le_of_ble_eq_true rfl) h
theorem bk_X2_push_11_0 {d : Nat} {P : mmM → Prop} {mem : mmM} {x1 : Int}
  (q1 : 64 ≤ (mem 11 3) → P mem)
  (q2 : (mem 11 3) < 64 → P (mset (mset mem 13 (mem 11 3) x1) 11 3 ((mem 11 3) + 1)))
  (s1 : (mem 11 3) < 64 → 0 ≤ (mem 11 3) ∧ (mem 11 3) < 64 := by intros; first | omega | assumption | solve_by_elim)
  (s2 : (mem 11 3) < 64 → R32 x1 := by intros; first | omega | assumption | solve_by_elim)
  (s3 : (mem 11 3) < 64 → R32 ((mem 11 3) + 1) := by intros; first | omega | assumption | solve_by_elim)
  : mmT bX2_push d 0 0 (mQv P) 0 [(2, 11), (0, x1)] [] mS mem := by
  refine st_aload_n (i := 0) rfl (t := 0) rfl (by decide) dX2_push_0 ?_
  refine so_getI (v := (mem 11 3)) 11 3 fr_X2_32_2 rfl sh_11 rfl dX2_push_1 (fun r1 => ?_)
  refine st_aload_n (i := 0) rfl (t := 0) rfl (by decide) dX2_push_4 ?_
  refine so_getA 11 2 fr_X2_15_2 rfl sh_11 fx_11_2 dX2_push_5 ?_
  refine so_alen (v := 64) 13 rfl sh_13 (by decide) rfl dX2_push_8 ?_
  refine sr_icmp_ge 32 r1 ⟨by decide, by decide⟩ (by decide) dX2_push_9 (fun h1 => ?_) (fun h1 => ?_)
  · have h1 : 64 ≤ (mem 11 3) := by omega
    exact st_return rfl dX2_push_32 (mQv.ret (q1 h1))
  · have h1 : (mem 11 3) < 64 := by omega
    refine st_aload_n (i := 0) rfl (t := 0) rfl (by decide) dX2_push_12 ?_
    refine so_getA 11 2 fr_X2_15_2 rfl sh_11 fx_11_2 dX2_push_13 ?_
    refine st_aload_n (i := 0) rfl (t := 0) rfl (by decide) dX2_push_16 ?_
    refine so_getI (v := (mem 11 3)) 11 3 fr_X2_32_2 rfl sh_11 rfl dX2_push_17 (fun r2 => ?_)
    refine st_iload_n (i := 1) rfl rfl dX2_push_20 ?_
    refine so_iast 13 fr_13 rfl sh_13 (by decide) (s1 h1) (s2 h1) dX2_push_21 ?_
    refine st_aload_n (i := 0) rfl (t := 0) rfl (by decide) dX2_push_22 ?_
    refine st_dup (Nat.ne_of_beq_eq_false rfl) dX2_push_23 ?_
    refine so_getI (v := (mem 11 3)) 11 3 fr_X2_32_2 rfl sh_11 rfl dX2_push_24 (fun r3 => ?_)
    refine st_iconst dX2_push_27 ?_
    refine st_iadd dX2_push_28 ?_
    refine so_putI 11 3 fr_X2_32_2 pf_2_3 fo_11_3 rfl sh_11 (s3 h1) dX2_push_29 ?_
    exact st_return rfl dX2_push_32 (mQv.ret (q2 h1))
theorem cn_X2_pop_11 {d : Nat} {P : Int → mmM → Prop} {mem : mmM} (h : mmT bX2_pop d 0 0 (mQ 0 P) 0 [(2, 11)] [] mS mem) : con 0 bX2_pop d [(2, 11)] mem P := mmC_of [(2, 11)] ok_X2_pop.2.2.2.2 rfl (Nat.le_of_ble_eq_true rfl) h
theorem bk_X2_pop_11_0 {d : Nat} {P : Int → mmM → Prop} {mem : mmM}
  (q1 : 0 < (mem 11 3) → P (mem 13 ((mem 11 3) - 1)) (mset mem 11 3 ((mem 11 3) - 1)))
  (q2 : (mem 11 3) ≤ 0 → P 0 mem)
  (s1 : 0 < (mem 11 3) → R32 ((mem 11 3) - 1) := by intros; first | omega | assumption | solve_by_elim)
  (s2 : 0 < (mem 11 3) → 0 ≤ ((mem 11 3) - 1) ∧ ((mem 11 3) - 1) < 64 := by intros; first | omega | assumption | solve_by_elim)
  : mmT bX2_pop d 0 0 (mQ 0 P) 0 [(2, 11)] [] mS mem := by
  refine st_aload_n (i := 0) rfl (t := 0) rfl (by decide) dX2_pop_0 ?_
  refine so_getI (v := (mem 11 3)) 11 3 fr_X2_32_2 rfl sh_11 rfl dX2_pop_1 (fun r1 => ?_)
  refine sr_if_gt 9 r1 (by decide) dX2_pop_4 (fun h1 => ?_) (fun h1 => ?_)
  · have h1 : 0 < (mem 11 3) := by omega
    refine st_aload_n (i := 0) rfl (t := 0) rfl (by decide) dX2_pop_9 ?_
    refine st_dup (Nat.ne_of_beq_eq_false rfl) dX2_pop_10 ?_
    refine so_getI (v := (mem 11 3)) 11 3 fr_X2_32_2 rfl sh_11 rfl dX2_pop_11 (fun r2 => ?_)
    refine st_iconst dX2_pop_14 ?_
    refine st_isub dX2_pop_15 ?_
    refine so_putI 11 3 fr_X2_32_2 pf_2_3 fo_11_3 rfl sh_11 (s1 h1) dX2_pop_16 ?_
    refine st_aload_n (i := 0) rfl (t := 0) rfl (by decide) dX2_pop_19 ?_
    refine so_getA 11 2 fr_X2_15_2 rfl sh_11 fx_11_2 dX2_pop_20 ?_
    refine st_aload_n (i := 0) rfl (t := 0) rfl (by decide) dX2_pop_23 ?_
    refine so_getI (v := ((mem 11 3) - 1)) 11 3 fr_X2_32_2 rfl sh_11 rfl dX2_pop_24 (fun r3 => ?_)
    refine so_iald (v := (mem 13 ((mem 11 3) - 1))) 13 rfl sh_13 (by decide) (s2 h1) rfl dX2_pop_27 (fun r4 => ?_)
    exact st_ireturn rfl dX2_pop_28 (mQ.ret (q1 h1))
  · have h1 : (mem 11 3) ≤ 0 := by omega
    refine st_iconst dX2_pop_7 ?_
    exact st_ireturn rfl dX2_pop_8 (mQ.ret (q2 h1))
theorem c_X2_push_11 (mem : mmM) (x1 : Int) (h1 : R32 x1) (h : 0 ≤ mem 11 3 ∧ mem 11 3 < 64) : conv bX2_push 0 [(2, 11), (0, x1)] mem (fun m => m = mset (mset mem 13 (mem 11 3) x1) 11 3 (mem 11 3 + 1)) :=
  cn_X2_push_11 (bk_X2_push_11_0 (fun g => by omega) (fun g => rfl))
theorem c_X2_pop_11 (mem : mmM) (h : 0 < mem 11 3 ∧ mem 11 3 ≤ 64) : con 0 bX2_pop 0 [(2, 11)] mem (fun v m => v = mem 13 (mem 11 3 - 1) ∧ m = mset mem 11 3 (mem 11 3 - 1)) :=
  cn_X2_pop_11 (bk_X2_pop_11_0 (fun g => ⟨rfl, rfl⟩) (fun g => by omega))
theorem cn_X2_push_14 {d : Nat} {P : mmM → Prop} {mem : mmM} {x1 : Int} (h : mmT bX2_push d 0 0 (mQv P) 0 [(2, 14), (0, x1)] [] mS mem) : conv bX2_push d [(2, 14), (0, x1)] mem P := mmC_of [(2, 14), (0, x1)] ok_X2_push.2.2.2.2 rfl (Nat.le_of_ble_eq_true rfl) h
theorem bk_X2_push_14_0 {d : Nat} {P : mmM → Prop} {mem : mmM} {x1 : Int}
  (q1 : 64 ≤ (mem 14 3) → P mem)
  (q2 : (mem 14 3) < 64 → P (mset (mset mem 16 (mem 14 3) x1) 14 3 ((mem 14 3) + 1)))
  (s1 : (mem 14 3) < 64 → 0 ≤ (mem 14 3) ∧ (mem 14 3) < 64 := by intros; first | omega | assumption | solve_by_elim)
  (s2 : (mem 14 3) < 64 → R32 x1 := by intros; first | omega | assumption | solve_by_elim)
  (s3 : (mem 14 3) < 64 → R32 ((mem 14 3) + 1) := by intros; first | omega | assumption | solve_by_elim)
  : mmT bX2_push d 0 0 (mQv P) 0 [(2, 14), (0, x1)] [] mS mem := by
  refine st_aload_n (i := 0) rfl (t := 0) rfl (by decide) dX2_push_0 ?_
  refine so_getI (v := (mem 14 3)) 14 3 fr_X2_32_2 rfl sh_14 rfl dX2_push_1 (fun r1 => ?_)
  refine st_aload_n (i := 0) rfl (t := 0) rfl (by decide) dX2_push_4 ?_
  refine so_getA 14 2 fr_X2_15_2 rfl sh_14 fx_14_2 dX2_push_5 ?_
  refine so_alen (v := 64) 16 rfl sh_16 (by decide) rfl dX2_push_8 ?_
  refine sr_icmp_ge 32 r1 ⟨by decide, by decide⟩ (by decide) dX2_push_9 (fun h1 => ?_) (fun h1 => ?_)
  · have h1 : 64 ≤ (mem 14 3) := by omega
    exact st_return rfl dX2_push_32 (mQv.ret (q1 h1))
  · have h1 : (mem 14 3) < 64 := by omega
    refine st_aload_n (i := 0) rfl (t := 0) rfl (by decide) dX2_push_12 ?_
    refine so_getA 14 2 fr_X2_15_2 rfl sh_14 fx_14_2 dX2_push_13 ?_
    refine st_aload_n (i := 0) rfl (t := 0) rfl (by decide) dX2_push_16 ?_
    refine so_getI (v := (mem 14 3)) 14 3 fr_X2_32_2 rfl sh_14 rfl dX2_push_17 (fun r2 => ?_)
    refine st_iload_n (i := 1) rfl rfl dX2_push_20 ?_
    refine so_iast 16 fr_16 rfl sh_16 (by decide) (s1 h1) (s2 h1) dX2_push_21 ?_
    refine st_aload_n (i := 0) rfl (t := 0) rfl (by decide) dX2_push_22 ?_
    refine st_dup (Nat.ne_of_beq_eq_false rfl) dX2_push_23 ?_
    refine so_getI (v := (mem 14 3)) 14 3 fr_X2_32_2 rfl sh_14 rfl dX2_push_24 (fun r3 => ?_)
    refine st_iconst dX2_push_27 ?_
    refine st_iadd dX2_push_28 ?_
    refine so_putI 14 3 fr_X2_32_2 pf_2_3 fo_14_3 rfl sh_14 (s3 h1) dX2_push_29 ?_
    exact st_return rfl dX2_push_32 (mQv.ret (q2 h1))
theorem cn_X2_pop_14 {d : Nat} {P : Int → mmM → Prop} {mem : mmM} (h : mmT bX2_pop d 0 0 (mQ 0 P) 0 [(2, 14)] [] mS mem) : con 0 bX2_pop d [(2, 14)] mem P := mmC_of [(2, 14)] ok_X2_pop.2.2.2.2 rfl (Nat.le_of_ble_eq_true rfl) h
theorem bk_X2_pop_14_0 {d : Nat} {P : Int → mmM → Prop} {mem : mmM}
  (q1 : 0 < (mem 14 3) → P (mem 16 ((mem 14 3) - 1)) (mset mem 14 3 ((mem 14 3) - 1)))
  (q2 : (mem 14 3) ≤ 0 → P 0 mem)
  (s1 : 0 < (mem 14 3) → R32 ((mem 14 3) - 1) := by intros; first | omega | assumption | solve_by_elim)
  (s2 : 0 < (mem 14 3) → 0 ≤ ((mem 14 3) - 1) ∧ ((mem 14 3) - 1) < 64 := by intros; first | omega | assumption | solve_by_elim)
  : mmT bX2_pop d 0 0 (mQ 0 P) 0 [(2, 14)] [] mS mem := by
  refine st_aload_n (i := 0) rfl (t := 0) rfl (by decide) dX2_pop_0 ?_
  refine so_getI (v := (mem 14 3)) 14 3 fr_X2_32_2 rfl sh_14 rfl dX2_pop_1 (fun r1 => ?_)
  refine sr_if_gt 9 r1 (by decide) dX2_pop_4 (fun h1 => ?_) (fun h1 => ?_)
  · have h1 : 0 < (mem 14 3) := by omega
    refine st_aload_n (i := 0) rfl (t := 0) rfl (by decide) dX2_pop_9 ?_
    refine st_dup (Nat.ne_of_beq_eq_false rfl) dX2_pop_10 ?_
    refine so_getI (v := (mem 14 3)) 14 3 fr_X2_32_2 rfl sh_14 rfl dX2_pop_11 (fun r2 => ?_)
    refine st_iconst dX2_pop_14 ?_
    refine st_isub dX2_pop_15 ?_
    refine so_putI 14 3 fr_X2_32_2 pf_2_3 fo_14_3 rfl sh_14 (s1 h1) dX2_pop_16 ?_
    refine st_aload_n (i := 0) rfl (t := 0) rfl (by decide) dX2_pop_19 ?_
    refine so_getA 14 2 fr_X2_15_2 rfl sh_14 fx_14_2 dX2_pop_20 ?_
    refine st_aload_n (i := 0) rfl (t := 0) rfl (by decide) dX2_pop_23 ?_
    refine so_getI (v := ((mem 14 3) - 1)) 14 3 fr_X2_32_2 rfl sh_14 rfl dX2_pop_24 (fun r3 => ?_)
    refine so_iald (v := (mem 16 ((mem 14 3) - 1))) 16 rfl sh_16 (by decide) (s2 h1) rfl dX2_pop_27 (fun r4 => ?_)
    exact st_ireturn rfl dX2_pop_28 (mQ.ret (q1 h1))
  · have h1 : (mem 14 3) ≤ 0 := by omega
    refine st_iconst dX2_pop_7 ?_
    exact st_ireturn rfl dX2_pop_8 (mQ.ret (q2 h1))
theorem c_X2_push_14 (mem : mmM) (x1 : Int) (h1 : R32 x1) (h : 0 ≤ mem 14 3 ∧ mem 14 3 < 64) : conv bX2_push 0 [(2, 14), (0, x1)] mem (fun m => m = mset (mset mem 16 (mem 14 3) x1) 14 3 (mem 14 3 + 1)) :=
  cn_X2_push_14 (bk_X2_push_14_0 (fun g => by omega) (fun g => rfl))
theorem c_X2_pop_14 (mem : mmM) (h : 0 < mem 14 3 ∧ mem 14 3 ≤ 64) : con 0 bX2_pop 0 [(2, 14)] mem (fun v m => v = mem 16 (mem 14 3 - 1) ∧ m = mset mem 14 3 (mem 14 3 - 1)) :=
  cn_X2_pop_14 (bk_X2_pop_14_0 (fun g => ⟨rfl, rfl⟩) (fun g => by omega))
theorem cn_X2_push_17 {d : Nat} {P : mmM → Prop} {mem : mmM} {x1 : Int} (h : mmT bX2_push d 0 0 (mQv P) 0 [(2, 17), (0, x1)] [] mS mem) : conv bX2_push d [(2, 17), (0, x1)] mem P := mmC_of [(2, 17), (0, x1)] ok_X2_push.2.2.2.2 rfl (Nat.le_of_ble_eq_true rfl) h
theorem bk_X2_push_17_0 {d : Nat} {P : mmM → Prop} {mem : mmM} {x1 : Int}
  (q1 : 64 ≤ (mem 17 3) → P mem)
  (q2 : (mem 17 3) < 64 → P (mset (mset mem 19 (mem 17 3) x1) 17 3 ((mem 17 3) + 1)))
  (s1 : (mem 17 3) < 64 → 0 ≤ (mem 17 3) ∧ (mem 17 3) < 64 := by intros; first | omega | assumption | solve_by_elim)
  (s2 : (mem 17 3) < 64 → R32 x1 := by intros; first | omega | assumption | solve_by_elim)
  (s3 : (mem 17 3) < 64 → R32 ((mem 17 3) + 1) := by intros; first | omega | assumption | solve_by_elim)
  : mmT bX2_push d 0 0 (mQv P) 0 [(2, 17), (0, x1)] [] mS mem := by
  refine st_aload_n (i := 0) rfl (t := 0) rfl (by decide) dX2_push_0 ?_
  refine so_getI (v := (mem 17 3)) 17 3 fr_X2_32_2 rfl sh_17 rfl dX2_push_1 (fun r1 => ?_)
  refine st_aload_n (i := 0) rfl (t := 0) rfl (by decide) dX2_push_4 ?_
  refine so_getA 17 2 fr_X2_15_2 rfl sh_17 fx_17_2 dX2_push_5 ?_
  refine so_alen (v := 64) 19 rfl sh_19 (by decide) rfl dX2_push_8 ?_
  refine sr_icmp_ge 32 r1 ⟨by decide, by decide⟩ (by decide) dX2_push_9 (fun h1 => ?_) (fun h1 => ?_)
  · have h1 : 64 ≤ (mem 17 3) := by omega
    exact st_return rfl dX2_push_32 (mQv.ret (q1 h1))
  · have h1 : (mem 17 3) < 64 := by omega
    refine st_aload_n (i := 0) rfl (t := 0) rfl (by decide) dX2_push_12 ?_
    refine so_getA 17 2 fr_X2_15_2 rfl sh_17 fx_17_2 dX2_push_13 ?_
    refine st_aload_n (i := 0) rfl (t := 0) rfl (by decide) dX2_push_16 ?_
    refine so_getI (v := (mem 17 3)) 17 3 fr_X2_32_2 rfl sh_17 rfl dX2_push_17 (fun r2 => ?_)
    refine st_iload_n (i := 1) rfl rfl dX2_push_20 ?_
    refine so_iast 19 fr_19 rfl sh_19 (by decide) (s1 h1) (s2 h1) dX2_push_21 ?_
    refine st_aload_n (i := 0) rfl (t := 0) rfl (by decide) dX2_push_22 ?_
    refine st_dup (Nat.ne_of_beq_eq_false rfl) dX2_push_23 ?_
    refine so_getI (v := (mem 17 3)) 17 3 fr_X2_32_2 rfl sh_17 rfl dX2_push_24 (fun r3 => ?_)
    refine st_iconst dX2_push_27 ?_
    refine st_iadd dX2_push_28 ?_
    refine so_putI 17 3 fr_X2_32_2 pf_2_3 fo_17_3 rfl sh_17 (s3 h1) dX2_push_29 ?_
    exact st_return rfl dX2_push_32 (mQv.ret (q2 h1))
theorem cn_X2_pop_17 {d : Nat} {P : Int → mmM → Prop} {mem : mmM} (h : mmT bX2_pop d 0 0 (mQ 0 P) 0 [(2, 17)] [] mS mem) : con 0 bX2_pop d [(2, 17)] mem P := mmC_of [(2, 17)] ok_X2_pop.2.2.2.2 rfl (Nat.le_of_ble_eq_true rfl) h
theorem bk_X2_pop_17_0 {d : Nat} {P : Int → mmM → Prop} {mem : mmM}
  (q1 : 0 < (mem 17 3) → P (mem 19 ((mem 17 3) - 1)) (mset mem 17 3 ((mem 17 3) - 1)))
  (q2 : (mem 17 3) ≤ 0 → P 0 mem)
  (s1 : 0 < (mem 17 3) → R32 ((mem 17 3) - 1) := by intros; first | omega | assumption | solve_by_elim)
  (s2 : 0 < (mem 17 3) → 0 ≤ ((mem 17 3) - 1) ∧ ((mem 17 3) - 1) < 64 := by intros; first | omega | assumption | solve_by_elim)
  : mmT bX2_pop d 0 0 (mQ 0 P) 0 [(2, 17)] [] mS mem := by
  refine st_aload_n (i := 0) rfl (t := 0) rfl (by decide) dX2_pop_0 ?_
  refine so_getI (v := (mem 17 3)) 17 3 fr_X2_32_2 rfl sh_17 rfl dX2_pop_1 (fun r1 => ?_)
  refine sr_if_gt 9 r1 (by decide) dX2_pop_4 (fun h1 => ?_) (fun h1 => ?_)
  · have h1 : 0 < (mem 17 3) := by omega
    refine st_aload_n (i := 0) rfl (t := 0) rfl (by decide) dX2_pop_9 ?_
    refine st_dup (Nat.ne_of_beq_eq_false rfl) dX2_pop_10 ?_
    refine so_getI (v := (mem 17 3)) 17 3 fr_X2_32_2 rfl sh_17 rfl dX2_pop_11 (fun r2 => ?_)
    refine st_iconst dX2_pop_14 ?_
    refine st_isub dX2_pop_15 ?_
    refine so_putI 17 3 fr_X2_32_2 pf_2_3 fo_17_3 rfl sh_17 (s1 h1) dX2_pop_16 ?_
    refine st_aload_n (i := 0) rfl (t := 0) rfl (by decide) dX2_pop_19 ?_
    refine so_getA 17 2 fr_X2_15_2 rfl sh_17 fx_17_2 dX2_pop_20 ?_
    refine st_aload_n (i := 0) rfl (t := 0) rfl (by decide) dX2_pop_23 ?_
    refine so_getI (v := ((mem 17 3) - 1)) 17 3 fr_X2_32_2 rfl sh_17 rfl dX2_pop_24 (fun r3 => ?_)
    refine so_iald (v := (mem 19 ((mem 17 3) - 1))) 19 rfl sh_19 (by decide) (s2 h1) rfl dX2_pop_27 (fun r4 => ?_)
    exact st_ireturn rfl dX2_pop_28 (mQ.ret (q1 h1))
  · have h1 : (mem 17 3) ≤ 0 := by omega
    refine st_iconst dX2_pop_7 ?_
    exact st_ireturn rfl dX2_pop_8 (mQ.ret (q2 h1))
theorem c_X2_push_17 (mem : mmM) (x1 : Int) (h1 : R32 x1) (h : 0 ≤ mem 17 3 ∧ mem 17 3 < 64) : conv bX2_push 0 [(2, 17), (0, x1)] mem (fun m => m = mset (mset mem 19 (mem 17 3) x1) 17 3 (mem 17 3 + 1)) :=
  cn_X2_push_17 (bk_X2_push_17_0 (fun g => by omega) (fun g => rfl))
theorem c_X2_pop_17 (mem : mmM) (h : 0 < mem 17 3 ∧ mem 17 3 ≤ 64) : con 0 bX2_pop 0 [(2, 17)] mem (fun v m => v = mem 19 (mem 17 3 - 1) ∧ m = mset mem 17 3 (mem 17 3 - 1)) :=
  cn_X2_pop_17 (bk_X2_pop_17_0 (fun g => ⟨rfl, rfl⟩) (fun g => by omega))
theorem cn_X2_push_20 {d : Nat} {P : mmM → Prop} {mem : mmM} {x1 : Int} (h : mmT bX2_push d 0 0 (mQv P) 0 [(2, 20), (0, x1)] [] mS mem) : conv bX2_push d [(2, 20), (0, x1)] mem P := mmC_of [(2, 20), (0, x1)] ok_X2_push.2.2.2.2 rfl (Nat.le_of_ble_eq_true rfl) h
theorem bk_X2_push_20_0 {d : Nat} {P : mmM → Prop} {mem : mmM} {x1 : Int}
  (q1 : 64 ≤ (mem 20 3) → P mem)
  (q2 : (mem 20 3) < 64 → P (mset (mset mem 22 (mem 20 3) x1) 20 3 ((mem 20 3) + 1)))
  (s1 : (mem 20 3) < 64 → 0 ≤ (mem 20 3) ∧ (mem 20 3) < 64 := by intros; first | omega | assumption | solve_by_elim)
  (s2 : (mem 20 3) < 64 → R32 x1 := by intros; first | omega | assumption | solve_by_elim)
  (s3 : (mem 20 3) < 64 → R32 ((mem 20 3) + 1) := by intros; first | omega | assumption | solve_by_elim)
  : mmT bX2_push d 0 0 (mQv P) 0 [(2, 20), (0, x1)] [] mS mem := by
  refine st_aload_n (i := 0) rfl (t := 0) rfl (by decide) dX2_push_0 ?_
  refine so_getI (v := (mem 20 3)) 20 3 fr_X2_32_2 rfl sh_20 rfl dX2_push_1 (fun r1 => ?_)
  refine st_aload_n (i := 0) rfl (t := 0) rfl (by decide) dX2_push_4 ?_
  refine so_getA 20 2 fr_X2_15_2 rfl sh_20 fx_20_2 dX2_push_5 ?_
  refine so_alen (v := 64) 22 rfl sh_22 (by decide) rfl dX2_push_8 ?_
  refine sr_icmp_ge 32 r1 ⟨by decide, by decide⟩ (by decide) dX2_push_9 (fun h1 => ?_) (fun h1 => ?_)
  · have h1 : 64 ≤ (mem 20 3) := by omega
    exact st_return rfl dX2_push_32 (mQv.ret (q1 h1))
  · have h1 : (mem 20 3) < 64 := by omega
    refine st_aload_n (i := 0) rfl (t := 0) rfl (by decide) dX2_push_12 ?_
    refine so_getA 20 2 fr_X2_15_2 rfl sh_20 fx_20_2 dX2_push_13 ?_
    refine st_aload_n (i := 0) rfl (t := 0) rfl (by decide) dX2_push_16 ?_
    refine so_getI (v := (mem 20 3)) 20 3 fr_X2_32_2 rfl sh_20 rfl dX2_push_17 (fun r2 => ?_)
    refine st_iload_n (i := 1) rfl rfl dX2_push_20 ?_
    refine so_iast 22 fr_22 rfl sh_22 (by decide) (s1 h1) (s2 h1) dX2_push_21 ?_
    refine st_aload_n (i := 0) rfl (t := 0) rfl (by decide) dX2_push_22 ?_
    refine st_dup (Nat.ne_of_beq_eq_false rfl) dX2_push_23 ?_
    refine so_getI (v := (mem 20 3)) 20 3 fr_X2_32_2 rfl sh_20 rfl dX2_push_24 (fun r3 => ?_)
    refine st_iconst dX2_push_27 ?_
    refine st_iadd dX2_push_28 ?_
    refine so_putI 20 3 fr_X2_32_2 pf_2_3 fo_20_3 rfl sh_20 (s3 h1) dX2_push_29 ?_
    exact st_return rfl dX2_push_32 (mQv.ret (q2 h1))
theorem cn_X2_pop_20 {d : Nat} {P : Int → mmM → Prop} {mem : mmM} (h : mmT bX2_pop d 0 0 (mQ 0 P) 0 [(2, 20)] [] mS mem) : con 0 bX2_pop d [(2, 20)] mem P := mmC_of [(2, 20)] ok_X2_pop.2.2.2.2 rfl (Nat.le_of_ble_eq_true rfl) h
theorem bk_X2_pop_20_0 {d : Nat} {P : Int → mmM → Prop} {mem : mmM}
  (q1 : 0 < (mem 20 3) → P (mem 22 ((mem 20 3) - 1)) (mset mem 20 3 ((mem 20 3) - 1)))
  (q2 : (mem 20 3) ≤ 0 → P 0 mem)
  (s1 : 0 < (mem 20 3) → R32 ((mem 20 3) - 1) := by intros; first | omega | assumption | solve_by_elim)
  (s2 : 0 < (mem 20 3) → 0 ≤ ((mem 20 3) - 1) ∧ ((mem 20 3) - 1) < 64 := by intros; first | omega | assumption | solve_by_elim)
  : mmT bX2_pop d 0 0 (mQ 0 P) 0 [(2, 20)] [] mS mem := by
  refine st_aload_n (i := 0) rfl (t := 0) rfl (by decide) dX2_pop_0 ?_
  refine so_getI (v := (mem 20 3)) 20 3 fr_X2_32_2 rfl sh_20 rfl dX2_pop_1 (fun r1 => ?_)
  refine sr_if_gt 9 r1 (by decide) dX2_pop_4 (fun h1 => ?_) (fun h1 => ?_)
  · have h1 : 0 < (mem 20 3) := by omega
    refine st_aload_n (i := 0) rfl (t := 0) rfl (by decide) dX2_pop_9 ?_
    refine st_dup (Nat.ne_of_beq_eq_false rfl) dX2_pop_10 ?_
    refine so_getI (v := (mem 20 3)) 20 3 fr_X2_32_2 rfl sh_20 rfl dX2_pop_11 (fun r2 => ?_)
    refine st_iconst dX2_pop_14 ?_
    refine st_isub dX2_pop_15 ?_
    refine so_putI 20 3 fr_X2_32_2 pf_2_3 fo_20_3 rfl sh_20 (s1 h1) dX2_pop_16 ?_
    refine st_aload_n (i := 0) rfl (t := 0) rfl (by decide) dX2_pop_19 ?_
    refine so_getA 20 2 fr_X2_15_2 rfl sh_20 fx_20_2 dX2_pop_20 ?_
    refine st_aload_n (i := 0) rfl (t := 0) rfl (by decide) dX2_pop_23 ?_
    refine so_getI (v := ((mem 20 3) - 1)) 20 3 fr_X2_32_2 rfl sh_20 rfl dX2_pop_24 (fun r3 => ?_)
    refine so_iald (v := (mem 22 ((mem 20 3) - 1))) 22 rfl sh_22 (by decide) (s2 h1) rfl dX2_pop_27 (fun r4 => ?_)
    exact st_ireturn rfl dX2_pop_28 (mQ.ret (q1 h1))
  · have h1 : (mem 20 3) ≤ 0 := by omega
    refine st_iconst dX2_pop_7 ?_
    exact st_ireturn rfl dX2_pop_8 (mQ.ret (q2 h1))
theorem c_X2_push_20 (mem : mmM) (x1 : Int) (h1 : R32 x1) (h : 0 ≤ mem 20 3 ∧ mem 20 3 < 64) : conv bX2_push 0 [(2, 20), (0, x1)] mem (fun m => m = mset (mset mem 22 (mem 20 3) x1) 20 3 (mem 20 3 + 1)) :=
  cn_X2_push_20 (bk_X2_push_20_0 (fun g => by omega) (fun g => rfl))
theorem c_X2_pop_20 (mem : mmM) (h : 0 < mem 20 3 ∧ mem 20 3 ≤ 64) : con 0 bX2_pop 0 [(2, 20)] mem (fun v m => v = mem 22 (mem 20 3 - 1) ∧ m = mset mem 20 3 (mem 20 3 - 1)) :=
  cn_X2_pop_20 (bk_X2_pop_20_0 (fun g => ⟨rfl, rfl⟩) (fun g => by omega))
theorem cn_X2_work_11 {d : Nat} {P : mmM → Prop} {mem : mmM} {x1 x3 x4 : Int} (h : mmT bX2_work d 0 0 (mQv P) 0 [(2, 11), (0, x1), (2, 23), (0, x3), (0, x4), (9, 0), (9, 0)] [] mS mem) : conv bX2_work d [(2, 11), (0, x1), (2, 23), (0, x3), (0, x4)] mem P := mmC_of [(2, 11), (0, x1), (2, 23), (0, x3), (0, x4), (9, 0), (9, 0)] ok_X2_work.2.2.2.2 rfl (Nat.le_of_ble_eq_true rfl) h
theorem bk_X2_work_11_0 {d : Nat} {d1 : Nat} {P1 : Int → mmM → Prop} {P : mmM → Prop} {mem : mmM} {x1 x3 x4 : Int}
  (c1 : x1 < 1000 → ¬ (isLet x1) → ¬ x1 = 33 → con 0 bX2_join d1 [(0, ((mset mem 11 3 ((mem 11 3) - 1)) 13 (((mset mem 11 3 ((mem 11 3) - 1)) 11 3) - 1))), (0, x1), (0, (mem 13 ((mem 11 3) - 1)))] (mset (mset mem 11 3 ((mem 11 3) - 1)) 11 3 (((mset mem 11 3 ((mem 11 3) - 1)) 11 3) - 1)) P1)
  (q1 : x1 < 1000 → ¬ (isLet x1) → ¬ x1 = 33 → ∀ (v4 : Int), ∀ (m4 : mmM), P1 v4 m4 → P (mset (mset m4 13 (m4 11 3) v4) 11 3 ((m4 11 3) + 1)))
  (q2 : x1 < 1000 → ¬ (isLet x1) → x1 = 33 → ¬ (mem 13 ((mem 11 3) - 1)) = 0 → P (mset (mset (mset mem 11 3 ((mem 11 3) - 1)) 13 ((mset mem 11 3 ((mem 11 3) - 1)) 11 3) 0) 11 3 (((mset mem 11 3 ((mem 11 3) - 1)) 11 3) + 1)))
  (q3 : x1 < 1000 → ¬ (isLet x1) → x1 = 33 → (mem 13 ((mem 11 3) - 1)) = 0 → P (mset (mset (mset mem 11 3 ((mem 11 3) - 1)) 13 ((mset mem 11 3 ((mem 11 3) - 1)) 11 3) 1) 11 3 (((mset mem 11 3 ((mem 11 3) - 1)) 11 3) + 1)))
  (q4 : x1 < 1000 → (isLet x1) → P (mset (mset mem 13 (mem 11 3) (letterX mem x1 x3 x4)) 11 3 ((mem 11 3) + 1)))
  (q5 : 1000 ≤ x1 → P (mset (mset mem 13 (mem 11 3) (x1 - 1000)) 11 3 ((mem 11 3) + 1)))
  (hd_d1 : d1 + 1 ≤ d := by omega)
  (hd1 : 1 ≤ d := by omega)
  (hd2 : 2 ≤ d := by omega)
  (hd3 : 3 ≤ d := by omega)
  (s1 : R32 x1 := by intros; first | omega | assumption | solve_by_elim)
  (s2 : x1 < 1000 → ¬ (isLet x1) → ¬ x1 = 33 → 0 < (mem 11 3) ∧ (mem 11 3) ≤ 64 := by intros; first | omega | assumption | solve_by_elim)
  (s3 : x1 < 1000 → ¬ (isLet x1) → ¬ x1 = 33 → 0 < ((mset mem 11 3 ((mem 11 3) - 1)) 11 3) ∧ ((mset mem 11 3 ((mem 11 3) - 1)) 11 3) ≤ 64 := by intros; first | omega | assumption | solve_by_elim)
  (s4 : x1 < 1000 → ¬ (isLet x1) → ¬ x1 = 33 → ∀ (v4 : Int), ∀ (m4 : mmM), P1 v4 m4 → R32 v4 := by intros; first | omega | assumption | solve_by_elim)
  (s5 : x1 < 1000 → ¬ (isLet x1) → ¬ x1 = 33 → ∀ (v4 : Int), ∀ (m4 : mmM), P1 v4 m4 → 0 ≤ (m4 11 3) ∧ (m4 11 3) < 64 := by intros; first | omega | assumption | solve_by_elim)
  (s6 : x1 < 1000 → ¬ (isLet x1) → x1 = 33 → 0 < (mem 11 3) ∧ (mem 11 3) ≤ 64 := by intros; first | omega | assumption | solve_by_elim)
  (s7 : x1 < 1000 → ¬ (isLet x1) → x1 = 33 → R32 (mem 13 ((mem 11 3) - 1)) := by intros; first | omega | assumption | solve_by_elim)
  (s8 : x1 < 1000 → ¬ (isLet x1) → x1 = 33 → ¬ (mem 13 ((mem 11 3) - 1)) = 0 → 0 ≤ ((mset mem 11 3 ((mem 11 3) - 1)) 11 3) ∧ ((mset mem 11 3 ((mem 11 3) - 1)) 11 3) < 64 := by intros; first | omega | assumption | solve_by_elim)
  (s9 : x1 < 1000 → ¬ (isLet x1) → x1 = 33 → (mem 13 ((mem 11 3) - 1)) = 0 → 0 ≤ ((mset mem 11 3 ((mem 11 3) - 1)) 11 3) ∧ ((mset mem 11 3 ((mem 11 3) - 1)) 11 3) < 64 := by intros; first | omega | assumption | solve_by_elim)
  (s10 : x1 < 1000 → (isLet x1) → R32 x3 := by intros; first | omega | assumption | solve_by_elim)
  (s11 : x1 < 1000 → (isLet x1) → R32 x4 := by intros; first | omega | assumption | solve_by_elim)
  (s12 : x1 < 1000 → (isLet x1) → 0 ≤ (mem 23 1) ∧ (mem 23 1) ≤ 24 := by intros; first | omega | assumption | solve_by_elim)
  (s13 : x1 < 1000 → (isLet x1) → R32 (letterX mem x1 x3 x4) := by intros; first | omega | assumption | solve_by_elim)
  (s14 : x1 < 1000 → (isLet x1) → 0 ≤ (mem 11 3) ∧ (mem 11 3) < 64 := by intros; first | omega | assumption | solve_by_elim)
  (s15 : 1000 ≤ x1 → R32 (x1 - 1000) := by intros; first | omega | assumption | solve_by_elim)
  (s16 : 1000 ≤ x1 → 0 ≤ (mem 11 3) ∧ (mem 11 3) < 64 := by intros; first | omega | assumption | solve_by_elim)
  : mmT bX2_work d 0 0 (mQv P) 0 [(2, 11), (0, x1), (2, 23), (0, x3), (0, x4), (9, 0), (9, 0)] [] mS mem := by
  refine st_iload_n (i := 1) rfl rfl dX2_work_0 ?_
  refine st_sipush rfl dX2_work_1 ?_
  refine sr_icmp_lt 19 s1 ⟨by decide, by decide⟩ (by decide) dX2_work_4 (fun h1 => ?_) (fun h1 => ?_)
  · have h1 : x1 < 1000 := by omega
    refine st_iload_n (i := 1) rfl rfl dX2_work_19 ?_
    refine st_callS (kc2 := 0) (ks2 := 0) (av := [(0, x1)]) mr_X2_47 ok_X2_isLetter (c_X2_isLetter mem x1 (s1)) rfl rfl hd2 (Nat.le_refl 0) (Nat.le_refl 0) (Nat.le_of_ble_eq_true rfl) dX2_work_20 (mQ.elim fun v1 m1 hp => ?_)
    obtain ⟨hpv, hpm⟩ := hp
    subst hpv
    have hpm := hpm.symm
    subst hpm
    refine so_ifeqB 41 (by decide) dX2_work_23 (fun h2 => ?_) (fun h2 => ?_)
    · have h2 : ¬ (isLet x1) := h2
      refine st_iload_n (i := 1) rfl rfl dX2_work_41 ?_
      refine st_bipush rfl dX2_work_42 ?_
      refine sr_icmp_ne 66 s1 ⟨by decide, by decide⟩ (by decide) dX2_work_44 (fun h3 => ?_) (fun h3 => ?_)
      · have h3 : ¬ x1 = 33 := by omega
        refine st_aload_n (i := 0) rfl (t := 0) rfl (by decide) dX2_work_66 ?_
        refine st_callV (kc2 := 0) (ks2 := 0) (av := []) 11 2 mr_X2_35 ok_X2_pop (c_X2_pop_11 mem ((s2 h1 h2 h3))) rfl sh_11 ⟨_, rfl, rfl, by decide⟩ rfl rfl hd1 (Nat.le_refl 0) (Nat.le_refl 0) (Nat.le_of_ble_eq_true rfl) dX2_work_67 (mQ.elim fun v2 m2 hp => ?_)
        obtain ⟨hpv, hpm⟩ := hp
        subst hpv
        have hpm := hpm.symm
        subst hpm
        refine st_istore (by decide) (lc' := [(2, 11), (0, x1), (2, 23), (0, x3), (0, x4), (0, (mem 13 ((mem 11 3) - 1))), (9, 0)]) rfl dX2_work_70 ?_
        refine st_aload_n (i := 0) rfl (t := 0) rfl (by decide) dX2_work_72 ?_
        refine st_callV (kc2 := 0) (ks2 := 0) (av := []) 11 2 mr_X2_35 ok_X2_pop (c_X2_pop_11 (mset mem 11 3 ((mem 11 3) - 1)) ((s3 h1 h2 h3))) rfl sh_11 ⟨_, rfl, rfl, by decide⟩ rfl rfl hd1 (Nat.le_refl 0) (Nat.le_refl 0) (Nat.le_of_ble_eq_true rfl) dX2_work_73 (mQ.elim fun v3 m3 hp => ?_)
        obtain ⟨hpv, hpm⟩ := hp
        subst hpv
        have hpm := hpm.symm
        subst hpm
        refine st_istore (by decide) (lc' := [(2, 11), (0, x1), (2, 23), (0, x3), (0, x4), (0, (mem 13 ((mem 11 3) - 1))), (0, ((mset mem 11 3 ((mem 11 3) - 1)) 13 (((mset mem 11 3 ((mem 11 3) - 1)) 11 3) - 1)))]) rfl dX2_work_76 ?_
        refine st_aload_n (i := 0) rfl (t := 0) rfl (by decide) dX2_work_78 ?_
        refine st_iload rfl dX2_work_79 ?_
        refine st_iload_n (i := 1) rfl rfl dX2_work_81 ?_
        refine st_iload rfl dX2_work_82 ?_
        refine st_callS (kc2 := 0) (ks2 := 0) (av := [(0, ((mset mem 11 3 ((mem 11 3) - 1)) 13 (((mset mem 11 3 ((mem 11 3) - 1)) 11 3) - 1))), (0, x1), (0, (mem 13 ((mem 11 3) - 1)))]) mr_X2_57 ok_X2_join (c1 h1 h2 h3) rfl rfl hd_d1 (Nat.le_refl 0) (Nat.le_refl 0) (Nat.le_of_ble_eq_true rfl) dX2_work_84 (mQ.elim fun v4 m4 p1 => ?_)
        refine st_callV (kc2 := 0) (ks2 := 0) (av := [(0, v4)]) 11 2 mr_X2_43 ok_X2_push (c_X2_push_11 m4 v4 ((s4 h1 h2 h3 v4 m4 p1)) ((s5 h1 h2 h3 v4 m4 p1))) rfl sh_11 ⟨_, rfl, rfl, by decide⟩ rfl rfl hd1 (Nat.le_refl 0) (Nat.le_refl 0) (Nat.le_of_ble_eq_true rfl) dX2_work_87 (mQv.elim fun m5 hp => ?_)
        have hp := hp.symm
        subst hp
        exact st_return rfl dX2_work_90 (mQv.ret (q1 h1 h2 h3 v4 m4 p1))
      · have h3 : x1 = 33 := by omega
        refine st_aload_n (i := 0) rfl (t := 0) rfl (by decide) dX2_work_47 ?_
        refine st_aload_n (i := 0) rfl (t := 0) rfl (by decide) dX2_work_48 ?_
        refine st_callV (kc2 := 0) (ks2 := 0) (av := []) 11 2 mr_X2_35 ok_X2_pop (c_X2_pop_11 mem ((s6 h1 h2 h3))) rfl sh_11 ⟨_, rfl, rfl, by decide⟩ rfl rfl hd1 (Nat.le_refl 0) (Nat.le_refl 0) (Nat.le_of_ble_eq_true rfl) dX2_work_49 (mQ.elim fun v5 m6 hp => ?_)
        obtain ⟨hpv, hpm⟩ := hp
        subst hpv
        have hpm := hpm.symm
        subst hpm
        refine sr_if_ne 59 (s7 h1 h2 h3) (by decide) dX2_work_52 (fun h4 => ?_) (fun h4 => ?_)
        · have h4 : ¬ (mem 13 ((mem 11 3) - 1)) = 0 := by omega
          refine st_iconst dX2_work_59 ?_
          refine st_callV (kc2 := 0) (ks2 := 0) (av := [(0, 0)]) 11 2 mr_X2_43 ok_X2_push (c_X2_push_11 (mset mem 11 3 ((mem 11 3) - 1)) 0 (⟨by decide, by decide⟩) ((s8 h1 h2 h3 h4))) rfl sh_11 ⟨_, rfl, rfl, by decide⟩ rfl rfl hd1 (Nat.le_refl 0) (Nat.le_refl 0) (Nat.le_of_ble_eq_true rfl) dX2_work_60 (mQv.elim fun m7 hp => ?_)
          have hp := hp.symm
          subst hp
          refine st_goto 90 (by decide) dX2_work_63 ?_
          exact st_return rfl dX2_work_90 (mQv.ret (q2 h1 h2 h3 h4))
        · have h4 : (mem 13 ((mem 11 3) - 1)) = 0 := by omega
          refine st_iconst dX2_work_55 ?_
          refine st_goto 60 (by decide) dX2_work_56 ?_
          refine st_callV (kc2 := 0) (ks2 := 0) (av := [(0, 1)]) 11 2 mr_X2_43 ok_X2_push (c_X2_push_11 (mset mem 11 3 ((mem 11 3) - 1)) 1 (⟨by decide, by decide⟩) ((s9 h1 h2 h3 h4))) rfl sh_11 ⟨_, rfl, rfl, by decide⟩ rfl rfl hd1 (Nat.le_refl 0) (Nat.le_refl 0) (Nat.le_of_ble_eq_true rfl) dX2_work_60 (mQv.elim fun m8 hp => ?_)
          have hp := hp.symm
          subst hp
          refine st_goto 90 (by decide) dX2_work_63 ?_
          exact st_return rfl dX2_work_90 (mQv.ret (q3 h1 h2 h3 h4))
    · have h2 : (isLet x1) := h2
      refine st_aload_n (i := 0) rfl (t := 0) rfl (by decide) dX2_work_26 ?_
      refine st_aload_n (i := 2) rfl (t := 0) rfl (by decide) dX2_work_27 ?_
      refine st_iload_n (i := 1) rfl rfl dX2_work_28 ?_
      refine st_iload_n (i := 3) rfl rfl dX2_work_29 ?_
      refine st_iload rfl dX2_work_30 ?_
      refine st_callV (kc2 := 0) (ks2 := 0) (av := [(0, x1), (0, x3), (0, x4)]) 23 8 mr_X2_51 ok_X8_letter (c_X8_letter mem x1 x3 x4 (s1) ((s10 h1 h2)) ((s11 h1 h2)) ((s12 h1 h2))) rfl sh_23 ⟨_, rfl, rfl, by decide⟩ rfl rfl hd3 (Nat.le_refl 0) (Nat.le_refl 0) (Nat.le_of_ble_eq_true rfl) dX2_work_32 (mQ.elim fun v6 m9 hp => ?_)
      obtain ⟨hpv, hpm⟩ := hp
      subst hpv
      have hpm := hpm.symm
      subst hpm
      refine st_callV (kc2 := 0) (ks2 := 0) (av := [(0, (letterX mem x1 x3 x4))]) 11 2 mr_X2_43 ok_X2_push (c_X2_push_11 mem (letterX mem x1 x3 x4) ((s13 h1 h2)) ((s14 h1 h2))) rfl sh_11 ⟨_, rfl, rfl, by decide⟩ rfl rfl hd1 (Nat.le_refl 0) (Nat.le_refl 0) (Nat.le_of_ble_eq_true rfl) dX2_work_35 (mQv.elim fun m10 hp => ?_)
      have hp := hp.symm
      subst hp
      refine st_goto 90 (by decide) dX2_work_38 ?_
      exact st_return rfl dX2_work_90 (mQv.ret (q4 h1 h2))
  · have h1 : 1000 ≤ x1 := by omega
    refine st_aload_n (i := 0) rfl (t := 0) rfl (by decide) dX2_work_7 ?_
    refine st_iload_n (i := 1) rfl rfl dX2_work_8 ?_
    refine st_sipush rfl dX2_work_9 ?_
    refine st_isub dX2_work_12 ?_
    refine st_callV (kc2 := 0) (ks2 := 0) (av := [(0, (x1 - 1000))]) 11 2 mr_X2_43 ok_X2_push (c_X2_push_11 mem (x1 - 1000) ((s15 h1)) ((s16 h1))) rfl sh_11 ⟨_, rfl, rfl, by decide⟩ rfl rfl hd1 (Nat.le_refl 0) (Nat.le_refl 0) (Nat.le_of_ble_eq_true rfl) dX2_work_13 (mQv.elim fun m11 hp => ?_)
    have hp := hp.symm
    subst hp
    refine st_goto 90 (by decide) dX2_work_16 ?_
    exact st_return rfl dX2_work_90 (mQv.ret (q5 h1))
def lawSt_11 (mem : mmM) (st : List Int) (m : mmM) : Prop := (∀ a, a ≠ 11 → a ≠ 13 → m a = mem a) ∧ (∀ j, j ≠ 3 → m 11 j = mem 11 j) ∧ m 11 3 = (st.length : Int) ∧ stkR (m 13) st
theorem lawSt_push_11 {mem m : mmM} {st : List Int} (v : Int) (h : lawSt_11 mem st m) : lawSt_11 mem (v :: st) (mset (mset m 13 (m 11 3) v) 11 3 (m 11 3 + 1)) := by
  obtain ⟨h1, h2, h3, h4⟩ := h
  refine ⟨fun a a1 a2 => ?_, fun j hj => ?_, ?_, ?_, ?_⟩
  · rw [mset_ne a1, mset_ne a2]
    exact h1 a a1 a2
  · rw [mset_at, if_neg hj, mset_ne (by decide)]
    exact h2 j hj
  · rw [mset_same, h3]
    simp only [List.length_cons]
    omega
  · rw [mset_ne (by decide), h3, mset_same]
  · rw [mset_ne (by decide), h3]
    exact stkR_set st (fun j hj => by rw [mset_at, if_neg (by omega)]) h4
theorem lawSt_pop_11 {mem m : mmM} {st : List Int} {v : Int} (h : lawSt_11 mem (v :: st) m) : lawSt_11 mem st (mset m 11 3 (m 11 3 - 1)) ∧ m 13 (m 11 3 - 1) = v ∧ m 11 3 = (st.length : Int) + 1 := by
  obtain ⟨h1, h2, h3, h4⟩ := h
  have e : m 11 3 - 1 = st.length := by
    rw [h3]
    simp only [List.length_cons]
    omega
  refine ⟨⟨fun a a1 a2 => ?_, fun j hj => ?_, ?_, ?_⟩, ?_, by omega⟩
  · rw [mset_ne a1]
    exact h1 a a1 a2
  · rw [mset_at, if_neg hj]
    exact h2 j hj
  · rw [mset_same, e]
  · rw [mset_ne (by decide)]
    exact h4.2
  · rw [e]
    exact h4.1
theorem c_X2_num_11 (mem m : mmM) (st : List Int) (v s b : Int) (h : lawSt_11 mem st m) (hd : st.length < 64) (hv : 0 ≤ v ∧ v ≤ 1000000) : conv bX2_work 3 [(2, 11), (0, v + 1000), (2, 23), (0, s), (0, b)] m (fun m' => lawSt_11 mem (v :: st) m') := by
  have h3 := h.2.2.1
  refine cn_X2_work_11 (bk_X2_work_11_0 (d1 := 2) (P1 := fun _ _ => True) (fun g => by omega) (fun g => by omega) (fun g => by omega) (fun g => by omega) (fun g => by omega) (fun g => ?_) (s2 := fun g => by omega) (s3 := fun g => by omega) (s4 := fun g => by omega) (s5 := fun g => by omega) (s6 := fun g => by omega) (s7 := fun g => by omega) (s8 := fun g => by omega) (s9 := fun g => by omega) (s10 := fun g => by omega) (s11 := fun g => by omega) (s12 := fun g => by omega) (s13 := fun g => by omega))
  have p := lawSt_push_11 v h
  rw [show v + 1000 - 1000 = v by omega]
  exact p
theorem c_X2_let_11 (mem m : mmM) (st : List Int) (k s b : Int) (h : lawSt_11 mem st m) (hd : st.length < 64) (hs : R32 s) (hb : R32 b) (hn : 0 ≤ mem 23 1 ∧ mem 23 1 ≤ 24) (hv : R32 (letterX m (leF k) s b)) : conv bX2_work 3 [(2, 11), (0, leF k), (2, 23), (0, s), (0, b)] m (fun m' => lawSt_11 mem (letterX m (leF k) s b :: st) m') := by
  have h3 := h.2.2.1
  have l := leF_let k
  have e23 : m 23 = mem 23 := h.1 23 (by decide) (by decide)
  refine cn_X2_work_11 (bk_X2_work_11_0 (d1 := 2) (P1 := fun _ _ => True) (fun g g2 => absurd l.1 g2) (fun g g2 => absurd l.1 g2) (fun g g2 => absurd l.1 g2) (fun g g2 => absurd l.1 g2) (fun g g2 => lawSt_push_11 _ h) (fun g => by omega) (s2 := fun g g2 => absurd l.1 g2) (s3 := fun g g2 => absurd l.1 g2) (s4 := fun g g2 => absurd l.1 g2) (s5 := fun g g2 => absurd l.1 g2) (s6 := fun g g2 => absurd l.1 g2) (s7 := fun g g2 => absurd l.1 g2) (s8 := fun g g2 => absurd l.1 g2) (s9 := fun g g2 => absurd l.1 g2) (s10 := fun g g2 => hs) (s11 := fun g g2 => hb) (s12 := fun g g2 => by rw [e23]; exact hn) (s13 := fun g g2 => by omega) (s14 := fun g => by omega) (s15 := fun g => by omega))
theorem c_X2_not_11 (mem m : mmM) (st : List Int) (a s b : Int) (h : lawSt_11 mem (a :: st) m) (hd : st.length < 64) (ha : a = 0 ∨ a = 1) : conv bX2_work 3 [(2, 11), (0, 33), (2, 23), (0, s), (0, b)] m (fun m' => lawSt_11 mem ((1 - a) :: st) m') := by
  have p := lawSt_pop_11 h
  have nl : ¬ isLet 33 := by unfold isLet; omega
  have e3 : ∀ v, mset m 11 3 v 11 3 = v := fun v => mset_same _ _ _ _
  refine cn_X2_work_11 (bk_X2_work_11_0 (d1 := 2) (P1 := fun _ _ => True) (fun g g2 g3 => by omega) (fun g g2 g3 => by omega) (fun g g2 g3 g4 => ?_) (fun g g2 g3 g4 => ?_) (fun g g2 => absurd g2 nl) (fun g => by omega) (s2 := fun g g2 g3 => by omega) (s3 := fun g g2 g3 => by omega) (s4 := fun g g2 g3 => by omega) (s5 := fun g g2 g3 => by omega) (s6 := fun g g2 g3 => by omega) (s7 := fun g g2 g3 => by rw [p.2.1]; omega) (s8 := fun g g2 g3 g4 => by rw [e3]; omega) (s9 := fun g g2 g3 g4 => by rw [e3]; omega) (s10 := fun g g2 => absurd g2 nl) (s11 := fun g g2 => absurd g2 nl) (s12 := fun g g2 => absurd g2 nl) (s13 := fun g g2 => absurd g2 nl) (s14 := fun g => by omega) (s15 := fun g => by omega))
  · rw [p.2.1] at g4
    have q := lawSt_push_11 0 p.1
    rw [show 1 - a = 0 by omega]
    exact q
  · rw [p.2.1] at g4
    have q := lawSt_push_11 1 p.1
    rw [show 1 - a = 1 by omega]
    exact q
theorem c_X2_op_11 (mem m : mmM) (st : List Int) (c a z s b : Int) (h : lawSt_11 mem (z :: a :: st) m) (hd : st.length + 2 ≤ 64) (hc : c = 2 ∨ c = 3 ∨ c = 4 ∨ c = 5 ∨ c = 6 ∨ c = 7 ∨ c = 8 ∨ c = 10 ∨ c = 11) (ha : -1000000 ≤ a ∧ a ≤ 1000000) (hz : -1000000 ≤ z ∧ z ≤ 1000000) (ht : 10 ≤ c → (a = 0 ∨ a = 1) ∧ (z = 0 ∨ z = 1)) : conv bX2_work 3 [(2, 11), (0, sgF c), (2, 23), (0, s), (0, b)] m (fun m' => lawSt_11 mem (opF c a z :: st) m') := by
  have p := lawSt_pop_11 h
  have p2 := lawSt_pop_11 p.1
  have nl := sgF_not (c := c)
  have n33 : ¬ sgF c = 33 := fun e => by have := sgF_33.mp e; omega
  have e3 : ∀ v, mset m 11 3 v 11 3 = v := fun v => mset_same _ _ _ _
  have lz : ((a :: st).length : Int) = st.length + 1 := by simp only [List.length_cons]; omega
  refine cn_X2_work_11 (bk_X2_work_11_0 (d1 := 2) (P1 := fun v m' => v = opF c a z ∧ lawSt_11 mem st m') (fun g g2 g3 => ?_) (fun g g2 g3 v m4 q => ?_) (fun g g2 g3 => absurd g3 n33) (fun g g2 g3 => absurd g3 n33) (fun g g2 => absurd g2 nl.1) (fun g => by omega) (s2 := fun g g2 g3 => by omega) (s3 := fun g g2 g3 => by rw [e3]; omega) (s4 := fun g g2 g3 v m4 q => by rw [q.1]; exact opF_rng) (s5 := fun g g2 g3 v m4 q => by have := q.2.2.2.1; omega) (s6 := fun g g2 g3 => absurd g3 n33) (s7 := fun g g2 g3 => absurd g3 n33) (s8 := fun g g2 g3 => absurd g3 n33) (s9 := fun g g2 g3 => absurd g3 n33) (s10 := fun g g2 => absurd g2 nl.1) (s11 := fun g g2 => absurd g2 nl.1) (s12 := fun g g2 => absurd g2 nl.1) (s13 := fun g g2 => absurd g2 nl.1) (s14 := fun g => by omega) (s15 := fun g => by omega))
  · rw [p.2.1, p2.2.1]
    refine con.mono (c_X2_join _ a z c hc ha hz ht) (fun v m' q => ⟨q.1, ?_⟩)
    rw [q.2]
    exact p2.1
  · rw [q.1]
    exact lawSt_push_11 _ q.2
theorem c_X2_sign_11 (o : Bool) (mem m : mmM) (st : List Int) (ty : List Bool) (t : tokT) (r : List tokT) (s b : Int) (h : lawSt_11 mem st m) (hw : wfX o ty (t :: r)) (hv : valR ty st) (h64 : st.length ≤ 64) (hs : R32 s) (hb : R32 b) (hn : 0 ≤ mem 23 1 ∧ mem 23 1 ≤ 24) (hL : ∀ k, 0 ≤ k → k < 6 → -1000000 ≤ letterX mem (leF k) s b ∧ letterX mem (leF k) s b ≤ 1000000) : conv bX2_work 3 [(2, 11), (0, encX t), (2, 23), (0, s), (0, b)] m (fun m' => lawSt_11 mem (evTok (fun k => letterX mem (leF k) s b) st t) m' ∧ ∃ ty', valR ty' (evTok (fun k => letterX mem (leF k) s b) st t) ∧ wfX o ty' r ∧ (evTok (fun k => letterX mem (leF k) s b) st t).length ≤ 64) := by
  have hlen := valR_len ty st hv
  have el : ∀ k, letterX m k s b = letterX mem k s b := by
    intro k
    unfold letterX
    rw [h.1 23 (by decide) (by decide), h.1 24 (by decide) (by decide), h.1 26 (by decide) (by decide), h.1 29 (by decide) (by decide), h.1 30 (by decide) (by decide)]
  unfold wfX at hw
  unfold encX evTok
  by_cases c0 : t.1 = 0
  · rw [if_pos c0] at hw ⊢
    rw [if_pos c0]
    refine conv.mono (c_X2_num_11 mem m st t.2 s b h (by omega) hw.2.1) (fun m' q => ⟨q, false :: ty, ⟨?_, hv⟩, hw.2.2, ?_⟩)
    · show -1000000 ≤ t.2 ∧ t.2 ≤ 1000000
      omega
    · simp only [List.length_cons]
      omega
  · rw [if_neg c0] at hw ⊢
    rw [if_neg c0]
    by_cases c1 : t.1 = 1
    · rw [if_pos c1] at hw ⊢
      rw [if_pos c1]
      have lb := hL t.2 hw.2.1.1 hw.2.1.2
      refine conv.mono (c_X2_let_11 mem m st t.2 s b h (by omega) hs hb hn (by rw [el]; omega)) (fun m' q => ⟨?_, false :: ty, ⟨?_, hv⟩, hw.2.2, ?_⟩)
      · rw [el] at q
        exact q
      · exact lb
      · simp only [List.length_cons]
        omega
    · rw [if_neg c1] at hw ⊢
      rw [if_neg c1]
      by_cases c9 : t.1 = 9
      · rw [if_pos c9] at hw ⊢
        obtain ⟨⟨q, e⟩, hw⟩ := hw
        subst e
        match st, hv, h, h64 with
        | a :: st', hv, h, h64 =>
          have ha : a = 0 ∨ a = 1 := hv.1
          have l64 : st'.length + 1 ≤ 64 := h64
          rw [c9, show sgF 9 = 33 by decide]
          refine conv.mono (c_X2_not_11 mem m st' a s b h (by omega) ha) (fun m' w => ⟨w, true :: q, ⟨?_, hv.2⟩, hw, h64⟩)
          show 1 - a = 0 ∨ 1 - a = 1
          omega
      · rw [if_neg c9] at hw ⊢
        have go : ∀ (a z : Int) (st' : List Int) (q : List Bool) (o2 : Bool), st = z :: a :: st' → valR q st' → wfX o (o2 :: q) r → (-1000000 ≤ a ∧ a ≤ 1000000) → (-1000000 ≤ z ∧ z ≤ 1000000) → (t.1 = 2 ∨ t.1 = 3 ∨ t.1 = 4 ∨ t.1 = 5 ∨ t.1 = 6 ∨ t.1 = 7 ∨ t.1 = 8 ∨ t.1 = 10 ∨ t.1 = 11) → (10 ≤ t.1 → (a = 0 ∨ a = 1) ∧ (z = 0 ∨ z = 1)) → (o2 = true → 6 ≤ t.1) →
            conv bX2_work 3 [(2, 11), (0, sgF t.1), (2, 23), (0, s), (0, b)] m (fun m' => lawSt_11 mem (opF t.1 a z :: st') m' ∧ ∃ ty', valR ty' (opF t.1 a z :: st') ∧ wfX o ty' r ∧ (opF t.1 a z :: st').length ≤ 64) := by
          intro a z st' q o2 e hq hw2 ha hz hc ht ho
          subst e
          have l64 : st'.length + 1 + 1 ≤ 64 := h64
          refine conv.mono (c_X2_op_11 mem m st' t.1 a z s b h (by omega) hc ha hz ht) (fun m' w => ⟨w, o2 :: q, ⟨?_, hq⟩, hw2, ?_⟩)
          · cases o2 with
            | true => exact opF_truth (ho rfl)
            | false => exact opF_bnd _ _ _
          · show st'.length + 1 ≤ 64
            omega
        by_cases c10 : t.1 = 10 ∨ t.1 = 11
        · rw [if_pos c10] at hw
          obtain ⟨q, e, hw⟩ := hw
          rw [e] at hv
          obtain ⟨z, a, st', e2, hz, ha, hq⟩ := valR_two hv
          have hz : z = 0 ∨ z = 1 := hz
          have ha : a = 0 ∨ a = 1 := ha
          have g := go a z st' q true e2 hq hw (by omega) (by omega) (by omega) (fun _ => ⟨ha, hz⟩) (fun _ => by omega)
          subst e2
          exact g
        · rw [if_neg c10] at hw
          by_cases c6 : 6 ≤ t.1 ∧ t.1 ≤ 8
          · rw [if_pos c6] at hw
            obtain ⟨q, e, hw⟩ := hw
            rw [e] at hv
            obtain ⟨z, a, st', e2, hz, ha, hq⟩ := valR_two hv
            have g := go a z st' q true e2 hq hw ha hz (by omega) (fun _ => by omega) (fun _ => by omega)
            subst e2
            exact g
          · rw [if_neg c6] at hw
            obtain ⟨h2, q, e, hw⟩ := hw
            rw [e] at hv
            obtain ⟨z, a, st', e2, hz, ha, hq⟩ := valR_two hv
            have g := go a z st' q false e2 hq hw ha hz (by omega) (fun _ => by omega) (fun z => by cases z)
            subst e2
            exact g
theorem cn_X2_work_14 {d : Nat} {P : mmM → Prop} {mem : mmM} {x1 x3 x4 : Int} (h : mmT bX2_work d 0 0 (mQv P) 0 [(2, 14), (0, x1), (2, 23), (0, x3), (0, x4), (9, 0), (9, 0)] [] mS mem) : conv bX2_work d [(2, 14), (0, x1), (2, 23), (0, x3), (0, x4)] mem P := mmC_of [(2, 14), (0, x1), (2, 23), (0, x3), (0, x4), (9, 0), (9, 0)] ok_X2_work.2.2.2.2 rfl (Nat.le_of_ble_eq_true rfl) h
theorem bk_X2_work_14_0 {d : Nat} {d1 : Nat} {P1 : Int → mmM → Prop} {P : mmM → Prop} {mem : mmM} {x1 x3 x4 : Int}
  (c1 : x1 < 1000 → ¬ (isLet x1) → ¬ x1 = 33 → con 0 bX2_join d1 [(0, ((mset mem 14 3 ((mem 14 3) - 1)) 16 (((mset mem 14 3 ((mem 14 3) - 1)) 14 3) - 1))), (0, x1), (0, (mem 16 ((mem 14 3) - 1)))] (mset (mset mem 14 3 ((mem 14 3) - 1)) 14 3 (((mset mem 14 3 ((mem 14 3) - 1)) 14 3) - 1)) P1)
  (q1 : x1 < 1000 → ¬ (isLet x1) → ¬ x1 = 33 → ∀ (v4 : Int), ∀ (m4 : mmM), P1 v4 m4 → P (mset (mset m4 16 (m4 14 3) v4) 14 3 ((m4 14 3) + 1)))
  (q2 : x1 < 1000 → ¬ (isLet x1) → x1 = 33 → ¬ (mem 16 ((mem 14 3) - 1)) = 0 → P (mset (mset (mset mem 14 3 ((mem 14 3) - 1)) 16 ((mset mem 14 3 ((mem 14 3) - 1)) 14 3) 0) 14 3 (((mset mem 14 3 ((mem 14 3) - 1)) 14 3) + 1)))
  (q3 : x1 < 1000 → ¬ (isLet x1) → x1 = 33 → (mem 16 ((mem 14 3) - 1)) = 0 → P (mset (mset (mset mem 14 3 ((mem 14 3) - 1)) 16 ((mset mem 14 3 ((mem 14 3) - 1)) 14 3) 1) 14 3 (((mset mem 14 3 ((mem 14 3) - 1)) 14 3) + 1)))
  (q4 : x1 < 1000 → (isLet x1) → P (mset (mset mem 16 (mem 14 3) (letterX mem x1 x3 x4)) 14 3 ((mem 14 3) + 1)))
  (q5 : 1000 ≤ x1 → P (mset (mset mem 16 (mem 14 3) (x1 - 1000)) 14 3 ((mem 14 3) + 1)))
  (hd_d1 : d1 + 1 ≤ d := by omega)
  (hd1 : 1 ≤ d := by omega)
  (hd2 : 2 ≤ d := by omega)
  (hd3 : 3 ≤ d := by omega)
  (s1 : R32 x1 := by intros; first | omega | assumption | solve_by_elim)
  (s2 : x1 < 1000 → ¬ (isLet x1) → ¬ x1 = 33 → 0 < (mem 14 3) ∧ (mem 14 3) ≤ 64 := by intros; first | omega | assumption | solve_by_elim)
  (s3 : x1 < 1000 → ¬ (isLet x1) → ¬ x1 = 33 → 0 < ((mset mem 14 3 ((mem 14 3) - 1)) 14 3) ∧ ((mset mem 14 3 ((mem 14 3) - 1)) 14 3) ≤ 64 := by intros; first | omega | assumption | solve_by_elim)
  (s4 : x1 < 1000 → ¬ (isLet x1) → ¬ x1 = 33 → ∀ (v4 : Int), ∀ (m4 : mmM), P1 v4 m4 → R32 v4 := by intros; first | omega | assumption | solve_by_elim)
  (s5 : x1 < 1000 → ¬ (isLet x1) → ¬ x1 = 33 → ∀ (v4 : Int), ∀ (m4 : mmM), P1 v4 m4 → 0 ≤ (m4 14 3) ∧ (m4 14 3) < 64 := by intros; first | omega | assumption | solve_by_elim)
  (s6 : x1 < 1000 → ¬ (isLet x1) → x1 = 33 → 0 < (mem 14 3) ∧ (mem 14 3) ≤ 64 := by intros; first | omega | assumption | solve_by_elim)
  (s7 : x1 < 1000 → ¬ (isLet x1) → x1 = 33 → R32 (mem 16 ((mem 14 3) - 1)) := by intros; first | omega | assumption | solve_by_elim)
  (s8 : x1 < 1000 → ¬ (isLet x1) → x1 = 33 → ¬ (mem 16 ((mem 14 3) - 1)) = 0 → 0 ≤ ((mset mem 14 3 ((mem 14 3) - 1)) 14 3) ∧ ((mset mem 14 3 ((mem 14 3) - 1)) 14 3) < 64 := by intros; first | omega | assumption | solve_by_elim)
  (s9 : x1 < 1000 → ¬ (isLet x1) → x1 = 33 → (mem 16 ((mem 14 3) - 1)) = 0 → 0 ≤ ((mset mem 14 3 ((mem 14 3) - 1)) 14 3) ∧ ((mset mem 14 3 ((mem 14 3) - 1)) 14 3) < 64 := by intros; first | omega | assumption | solve_by_elim)
  (s10 : x1 < 1000 → (isLet x1) → R32 x3 := by intros; first | omega | assumption | solve_by_elim)
  (s11 : x1 < 1000 → (isLet x1) → R32 x4 := by intros; first | omega | assumption | solve_by_elim)
  (s12 : x1 < 1000 → (isLet x1) → 0 ≤ (mem 23 1) ∧ (mem 23 1) ≤ 24 := by intros; first | omega | assumption | solve_by_elim)
  (s13 : x1 < 1000 → (isLet x1) → R32 (letterX mem x1 x3 x4) := by intros; first | omega | assumption | solve_by_elim)
  (s14 : x1 < 1000 → (isLet x1) → 0 ≤ (mem 14 3) ∧ (mem 14 3) < 64 := by intros; first | omega | assumption | solve_by_elim)
  (s15 : 1000 ≤ x1 → R32 (x1 - 1000) := by intros; first | omega | assumption | solve_by_elim)
  (s16 : 1000 ≤ x1 → 0 ≤ (mem 14 3) ∧ (mem 14 3) < 64 := by intros; first | omega | assumption | solve_by_elim)
  : mmT bX2_work d 0 0 (mQv P) 0 [(2, 14), (0, x1), (2, 23), (0, x3), (0, x4), (9, 0), (9, 0)] [] mS mem := by
  refine st_iload_n (i := 1) rfl rfl dX2_work_0 ?_
  refine st_sipush rfl dX2_work_1 ?_
  refine sr_icmp_lt 19 s1 ⟨by decide, by decide⟩ (by decide) dX2_work_4 (fun h1 => ?_) (fun h1 => ?_)
  · have h1 : x1 < 1000 := by omega
    refine st_iload_n (i := 1) rfl rfl dX2_work_19 ?_
    refine st_callS (kc2 := 0) (ks2 := 0) (av := [(0, x1)]) mr_X2_47 ok_X2_isLetter (c_X2_isLetter mem x1 (s1)) rfl rfl hd2 (Nat.le_refl 0) (Nat.le_refl 0) (Nat.le_of_ble_eq_true rfl) dX2_work_20 (mQ.elim fun v1 m1 hp => ?_)
    obtain ⟨hpv, hpm⟩ := hp
    subst hpv
    have hpm := hpm.symm
    subst hpm
    refine so_ifeqB 41 (by decide) dX2_work_23 (fun h2 => ?_) (fun h2 => ?_)
    · have h2 : ¬ (isLet x1) := h2
      refine st_iload_n (i := 1) rfl rfl dX2_work_41 ?_
      refine st_bipush rfl dX2_work_42 ?_
      refine sr_icmp_ne 66 s1 ⟨by decide, by decide⟩ (by decide) dX2_work_44 (fun h3 => ?_) (fun h3 => ?_)
      · have h3 : ¬ x1 = 33 := by omega
        refine st_aload_n (i := 0) rfl (t := 0) rfl (by decide) dX2_work_66 ?_
        refine st_callV (kc2 := 0) (ks2 := 0) (av := []) 14 2 mr_X2_35 ok_X2_pop (c_X2_pop_14 mem ((s2 h1 h2 h3))) rfl sh_14 ⟨_, rfl, rfl, by decide⟩ rfl rfl hd1 (Nat.le_refl 0) (Nat.le_refl 0) (Nat.le_of_ble_eq_true rfl) dX2_work_67 (mQ.elim fun v2 m2 hp => ?_)
        obtain ⟨hpv, hpm⟩ := hp
        subst hpv
        have hpm := hpm.symm
        subst hpm
        refine st_istore (by decide) (lc' := [(2, 14), (0, x1), (2, 23), (0, x3), (0, x4), (0, (mem 16 ((mem 14 3) - 1))), (9, 0)]) rfl dX2_work_70 ?_
        refine st_aload_n (i := 0) rfl (t := 0) rfl (by decide) dX2_work_72 ?_
        refine st_callV (kc2 := 0) (ks2 := 0) (av := []) 14 2 mr_X2_35 ok_X2_pop (c_X2_pop_14 (mset mem 14 3 ((mem 14 3) - 1)) ((s3 h1 h2 h3))) rfl sh_14 ⟨_, rfl, rfl, by decide⟩ rfl rfl hd1 (Nat.le_refl 0) (Nat.le_refl 0) (Nat.le_of_ble_eq_true rfl) dX2_work_73 (mQ.elim fun v3 m3 hp => ?_)
        obtain ⟨hpv, hpm⟩ := hp
        subst hpv
        have hpm := hpm.symm
        subst hpm
        refine st_istore (by decide) (lc' := [(2, 14), (0, x1), (2, 23), (0, x3), (0, x4), (0, (mem 16 ((mem 14 3) - 1))), (0, ((mset mem 14 3 ((mem 14 3) - 1)) 16 (((mset mem 14 3 ((mem 14 3) - 1)) 14 3) - 1)))]) rfl dX2_work_76 ?_
        refine st_aload_n (i := 0) rfl (t := 0) rfl (by decide) dX2_work_78 ?_
        refine st_iload rfl dX2_work_79 ?_
        refine st_iload_n (i := 1) rfl rfl dX2_work_81 ?_
        refine st_iload rfl dX2_work_82 ?_
        refine st_callS (kc2 := 0) (ks2 := 0) (av := [(0, ((mset mem 14 3 ((mem 14 3) - 1)) 16 (((mset mem 14 3 ((mem 14 3) - 1)) 14 3) - 1))), (0, x1), (0, (mem 16 ((mem 14 3) - 1)))]) mr_X2_57 ok_X2_join (c1 h1 h2 h3) rfl rfl hd_d1 (Nat.le_refl 0) (Nat.le_refl 0) (Nat.le_of_ble_eq_true rfl) dX2_work_84 (mQ.elim fun v4 m4 p1 => ?_)
        refine st_callV (kc2 := 0) (ks2 := 0) (av := [(0, v4)]) 14 2 mr_X2_43 ok_X2_push (c_X2_push_14 m4 v4 ((s4 h1 h2 h3 v4 m4 p1)) ((s5 h1 h2 h3 v4 m4 p1))) rfl sh_14 ⟨_, rfl, rfl, by decide⟩ rfl rfl hd1 (Nat.le_refl 0) (Nat.le_refl 0) (Nat.le_of_ble_eq_true rfl) dX2_work_87 (mQv.elim fun m5 hp => ?_)
        have hp := hp.symm
        subst hp
        exact st_return rfl dX2_work_90 (mQv.ret (q1 h1 h2 h3 v4 m4 p1))
      · have h3 : x1 = 33 := by omega
        refine st_aload_n (i := 0) rfl (t := 0) rfl (by decide) dX2_work_47 ?_
        refine st_aload_n (i := 0) rfl (t := 0) rfl (by decide) dX2_work_48 ?_
        refine st_callV (kc2 := 0) (ks2 := 0) (av := []) 14 2 mr_X2_35 ok_X2_pop (c_X2_pop_14 mem ((s6 h1 h2 h3))) rfl sh_14 ⟨_, rfl, rfl, by decide⟩ rfl rfl hd1 (Nat.le_refl 0) (Nat.le_refl 0) (Nat.le_of_ble_eq_true rfl) dX2_work_49 (mQ.elim fun v5 m6 hp => ?_)
        obtain ⟨hpv, hpm⟩ := hp
        subst hpv
        have hpm := hpm.symm
        subst hpm
        refine sr_if_ne 59 (s7 h1 h2 h3) (by decide) dX2_work_52 (fun h4 => ?_) (fun h4 => ?_)
        · have h4 : ¬ (mem 16 ((mem 14 3) - 1)) = 0 := by omega
          refine st_iconst dX2_work_59 ?_
          refine st_callV (kc2 := 0) (ks2 := 0) (av := [(0, 0)]) 14 2 mr_X2_43 ok_X2_push (c_X2_push_14 (mset mem 14 3 ((mem 14 3) - 1)) 0 (⟨by decide, by decide⟩) ((s8 h1 h2 h3 h4))) rfl sh_14 ⟨_, rfl, rfl, by decide⟩ rfl rfl hd1 (Nat.le_refl 0) (Nat.le_refl 0) (Nat.le_of_ble_eq_true rfl) dX2_work_60 (mQv.elim fun m7 hp => ?_)
          have hp := hp.symm
          subst hp
          refine st_goto 90 (by decide) dX2_work_63 ?_
          exact st_return rfl dX2_work_90 (mQv.ret (q2 h1 h2 h3 h4))
        · have h4 : (mem 16 ((mem 14 3) - 1)) = 0 := by omega
          refine st_iconst dX2_work_55 ?_
          refine st_goto 60 (by decide) dX2_work_56 ?_
          refine st_callV (kc2 := 0) (ks2 := 0) (av := [(0, 1)]) 14 2 mr_X2_43 ok_X2_push (c_X2_push_14 (mset mem 14 3 ((mem 14 3) - 1)) 1 (⟨by decide, by decide⟩) ((s9 h1 h2 h3 h4))) rfl sh_14 ⟨_, rfl, rfl, by decide⟩ rfl rfl hd1 (Nat.le_refl 0) (Nat.le_refl 0) (Nat.le_of_ble_eq_true rfl) dX2_work_60 (mQv.elim fun m8 hp => ?_)
          have hp := hp.symm
          subst hp
          refine st_goto 90 (by decide) dX2_work_63 ?_
          exact st_return rfl dX2_work_90 (mQv.ret (q3 h1 h2 h3 h4))
    · have h2 : (isLet x1) := h2
      refine st_aload_n (i := 0) rfl (t := 0) rfl (by decide) dX2_work_26 ?_
      refine st_aload_n (i := 2) rfl (t := 0) rfl (by decide) dX2_work_27 ?_
      refine st_iload_n (i := 1) rfl rfl dX2_work_28 ?_
      refine st_iload_n (i := 3) rfl rfl dX2_work_29 ?_
      refine st_iload rfl dX2_work_30 ?_
      refine st_callV (kc2 := 0) (ks2 := 0) (av := [(0, x1), (0, x3), (0, x4)]) 23 8 mr_X2_51 ok_X8_letter (c_X8_letter mem x1 x3 x4 (s1) ((s10 h1 h2)) ((s11 h1 h2)) ((s12 h1 h2))) rfl sh_23 ⟨_, rfl, rfl, by decide⟩ rfl rfl hd3 (Nat.le_refl 0) (Nat.le_refl 0) (Nat.le_of_ble_eq_true rfl) dX2_work_32 (mQ.elim fun v6 m9 hp => ?_)
      obtain ⟨hpv, hpm⟩ := hp
      subst hpv
      have hpm := hpm.symm
      subst hpm
      refine st_callV (kc2 := 0) (ks2 := 0) (av := [(0, (letterX mem x1 x3 x4))]) 14 2 mr_X2_43 ok_X2_push (c_X2_push_14 mem (letterX mem x1 x3 x4) ((s13 h1 h2)) ((s14 h1 h2))) rfl sh_14 ⟨_, rfl, rfl, by decide⟩ rfl rfl hd1 (Nat.le_refl 0) (Nat.le_refl 0) (Nat.le_of_ble_eq_true rfl) dX2_work_35 (mQv.elim fun m10 hp => ?_)
      have hp := hp.symm
      subst hp
      refine st_goto 90 (by decide) dX2_work_38 ?_
      exact st_return rfl dX2_work_90 (mQv.ret (q4 h1 h2))
  · have h1 : 1000 ≤ x1 := by omega
    refine st_aload_n (i := 0) rfl (t := 0) rfl (by decide) dX2_work_7 ?_
    refine st_iload_n (i := 1) rfl rfl dX2_work_8 ?_
    refine st_sipush rfl dX2_work_9 ?_
    refine st_isub dX2_work_12 ?_
    refine st_callV (kc2 := 0) (ks2 := 0) (av := [(0, (x1 - 1000))]) 14 2 mr_X2_43 ok_X2_push (c_X2_push_14 mem (x1 - 1000) ((s15 h1)) ((s16 h1))) rfl sh_14 ⟨_, rfl, rfl, by decide⟩ rfl rfl hd1 (Nat.le_refl 0) (Nat.le_refl 0) (Nat.le_of_ble_eq_true rfl) dX2_work_13 (mQv.elim fun m11 hp => ?_)
    have hp := hp.symm
    subst hp
    refine st_goto 90 (by decide) dX2_work_16 ?_
    exact st_return rfl dX2_work_90 (mQv.ret (q5 h1))
def lawSt_14 (mem : mmM) (st : List Int) (m : mmM) : Prop := (∀ a, a ≠ 14 → a ≠ 16 → m a = mem a) ∧ (∀ j, j ≠ 3 → m 14 j = mem 14 j) ∧ m 14 3 = (st.length : Int) ∧ stkR (m 16) st
theorem lawSt_push_14 {mem m : mmM} {st : List Int} (v : Int) (h : lawSt_14 mem st m) : lawSt_14 mem (v :: st) (mset (mset m 16 (m 14 3) v) 14 3 (m 14 3 + 1)) := by
  obtain ⟨h1, h2, h3, h4⟩ := h
  refine ⟨fun a a1 a2 => ?_, fun j hj => ?_, ?_, ?_, ?_⟩
  · rw [mset_ne a1, mset_ne a2]
    exact h1 a a1 a2
  · rw [mset_at, if_neg hj, mset_ne (by decide)]
    exact h2 j hj
  · rw [mset_same, h3]
    simp only [List.length_cons]
    omega
  · rw [mset_ne (by decide), h3, mset_same]
  · rw [mset_ne (by decide), h3]
    exact stkR_set st (fun j hj => by rw [mset_at, if_neg (by omega)]) h4
theorem lawSt_pop_14 {mem m : mmM} {st : List Int} {v : Int} (h : lawSt_14 mem (v :: st) m) : lawSt_14 mem st (mset m 14 3 (m 14 3 - 1)) ∧ m 16 (m 14 3 - 1) = v ∧ m 14 3 = (st.length : Int) + 1 := by
  obtain ⟨h1, h2, h3, h4⟩ := h
  have e : m 14 3 - 1 = st.length := by
    rw [h3]
    simp only [List.length_cons]
    omega
  refine ⟨⟨fun a a1 a2 => ?_, fun j hj => ?_, ?_, ?_⟩, ?_, by omega⟩
  · rw [mset_ne a1]
    exact h1 a a1 a2
  · rw [mset_at, if_neg hj]
    exact h2 j hj
  · rw [mset_same, e]
  · rw [mset_ne (by decide)]
    exact h4.2
  · rw [e]
    exact h4.1
theorem c_X2_num_14 (mem m : mmM) (st : List Int) (v s b : Int) (h : lawSt_14 mem st m) (hd : st.length < 64) (hv : 0 ≤ v ∧ v ≤ 1000000) : conv bX2_work 3 [(2, 14), (0, v + 1000), (2, 23), (0, s), (0, b)] m (fun m' => lawSt_14 mem (v :: st) m') := by
  have h3 := h.2.2.1
  refine cn_X2_work_14 (bk_X2_work_14_0 (d1 := 2) (P1 := fun _ _ => True) (fun g => by omega) (fun g => by omega) (fun g => by omega) (fun g => by omega) (fun g => by omega) (fun g => ?_) (s2 := fun g => by omega) (s3 := fun g => by omega) (s4 := fun g => by omega) (s5 := fun g => by omega) (s6 := fun g => by omega) (s7 := fun g => by omega) (s8 := fun g => by omega) (s9 := fun g => by omega) (s10 := fun g => by omega) (s11 := fun g => by omega) (s12 := fun g => by omega) (s13 := fun g => by omega))
  have p := lawSt_push_14 v h
  rw [show v + 1000 - 1000 = v by omega]
  exact p
theorem c_X2_let_14 (mem m : mmM) (st : List Int) (k s b : Int) (h : lawSt_14 mem st m) (hd : st.length < 64) (hs : R32 s) (hb : R32 b) (hn : 0 ≤ mem 23 1 ∧ mem 23 1 ≤ 24) (hv : R32 (letterX m (leF k) s b)) : conv bX2_work 3 [(2, 14), (0, leF k), (2, 23), (0, s), (0, b)] m (fun m' => lawSt_14 mem (letterX m (leF k) s b :: st) m') := by
  have h3 := h.2.2.1
  have l := leF_let k
  have e23 : m 23 = mem 23 := h.1 23 (by decide) (by decide)
  refine cn_X2_work_14 (bk_X2_work_14_0 (d1 := 2) (P1 := fun _ _ => True) (fun g g2 => absurd l.1 g2) (fun g g2 => absurd l.1 g2) (fun g g2 => absurd l.1 g2) (fun g g2 => absurd l.1 g2) (fun g g2 => lawSt_push_14 _ h) (fun g => by omega) (s2 := fun g g2 => absurd l.1 g2) (s3 := fun g g2 => absurd l.1 g2) (s4 := fun g g2 => absurd l.1 g2) (s5 := fun g g2 => absurd l.1 g2) (s6 := fun g g2 => absurd l.1 g2) (s7 := fun g g2 => absurd l.1 g2) (s8 := fun g g2 => absurd l.1 g2) (s9 := fun g g2 => absurd l.1 g2) (s10 := fun g g2 => hs) (s11 := fun g g2 => hb) (s12 := fun g g2 => by rw [e23]; exact hn) (s13 := fun g g2 => by omega) (s14 := fun g => by omega) (s15 := fun g => by omega))
theorem c_X2_not_14 (mem m : mmM) (st : List Int) (a s b : Int) (h : lawSt_14 mem (a :: st) m) (hd : st.length < 64) (ha : a = 0 ∨ a = 1) : conv bX2_work 3 [(2, 14), (0, 33), (2, 23), (0, s), (0, b)] m (fun m' => lawSt_14 mem ((1 - a) :: st) m') := by
  have p := lawSt_pop_14 h
  have nl : ¬ isLet 33 := by unfold isLet; omega
  have e3 : ∀ v, mset m 14 3 v 14 3 = v := fun v => mset_same _ _ _ _
  refine cn_X2_work_14 (bk_X2_work_14_0 (d1 := 2) (P1 := fun _ _ => True) (fun g g2 g3 => by omega) (fun g g2 g3 => by omega) (fun g g2 g3 g4 => ?_) (fun g g2 g3 g4 => ?_) (fun g g2 => absurd g2 nl) (fun g => by omega) (s2 := fun g g2 g3 => by omega) (s3 := fun g g2 g3 => by omega) (s4 := fun g g2 g3 => by omega) (s5 := fun g g2 g3 => by omega) (s6 := fun g g2 g3 => by omega) (s7 := fun g g2 g3 => by rw [p.2.1]; omega) (s8 := fun g g2 g3 g4 => by rw [e3]; omega) (s9 := fun g g2 g3 g4 => by rw [e3]; omega) (s10 := fun g g2 => absurd g2 nl) (s11 := fun g g2 => absurd g2 nl) (s12 := fun g g2 => absurd g2 nl) (s13 := fun g g2 => absurd g2 nl) (s14 := fun g => by omega) (s15 := fun g => by omega))
  · rw [p.2.1] at g4
    have q := lawSt_push_14 0 p.1
    rw [show 1 - a = 0 by omega]
    exact q
  · rw [p.2.1] at g4
    have q := lawSt_push_14 1 p.1
    rw [show 1 - a = 1 by omega]
    exact q
theorem c_X2_op_14 (mem m : mmM) (st : List Int) (c a z s b : Int) (h : lawSt_14 mem (z :: a :: st) m) (hd : st.length + 2 ≤ 64) (hc : c = 2 ∨ c = 3 ∨ c = 4 ∨ c = 5 ∨ c = 6 ∨ c = 7 ∨ c = 8 ∨ c = 10 ∨ c = 11) (ha : -1000000 ≤ a ∧ a ≤ 1000000) (hz : -1000000 ≤ z ∧ z ≤ 1000000) (ht : 10 ≤ c → (a = 0 ∨ a = 1) ∧ (z = 0 ∨ z = 1)) : conv bX2_work 3 [(2, 14), (0, sgF c), (2, 23), (0, s), (0, b)] m (fun m' => lawSt_14 mem (opF c a z :: st) m') := by
  have p := lawSt_pop_14 h
  have p2 := lawSt_pop_14 p.1
  have nl := sgF_not (c := c)
  have n33 : ¬ sgF c = 33 := fun e => by have := sgF_33.mp e; omega
  have e3 : ∀ v, mset m 14 3 v 14 3 = v := fun v => mset_same _ _ _ _
  have lz : ((a :: st).length : Int) = st.length + 1 := by simp only [List.length_cons]; omega
  refine cn_X2_work_14 (bk_X2_work_14_0 (d1 := 2) (P1 := fun v m' => v = opF c a z ∧ lawSt_14 mem st m') (fun g g2 g3 => ?_) (fun g g2 g3 v m4 q => ?_) (fun g g2 g3 => absurd g3 n33) (fun g g2 g3 => absurd g3 n33) (fun g g2 => absurd g2 nl.1) (fun g => by omega) (s2 := fun g g2 g3 => by omega) (s3 := fun g g2 g3 => by rw [e3]; omega) (s4 := fun g g2 g3 v m4 q => by rw [q.1]; exact opF_rng) (s5 := fun g g2 g3 v m4 q => by have := q.2.2.2.1; omega) (s6 := fun g g2 g3 => absurd g3 n33) (s7 := fun g g2 g3 => absurd g3 n33) (s8 := fun g g2 g3 => absurd g3 n33) (s9 := fun g g2 g3 => absurd g3 n33) (s10 := fun g g2 => absurd g2 nl.1) (s11 := fun g g2 => absurd g2 nl.1) (s12 := fun g g2 => absurd g2 nl.1) (s13 := fun g g2 => absurd g2 nl.1) (s14 := fun g => by omega) (s15 := fun g => by omega))
  · rw [p.2.1, p2.2.1]
    refine con.mono (c_X2_join _ a z c hc ha hz ht) (fun v m' q => ⟨q.1, ?_⟩)
    rw [q.2]
    exact p2.1
  · rw [q.1]
    exact lawSt_push_14 _ q.2
theorem c_X2_sign_14 (o : Bool) (mem m : mmM) (st : List Int) (ty : List Bool) (t : tokT) (r : List tokT) (s b : Int) (h : lawSt_14 mem st m) (hw : wfX o ty (t :: r)) (hv : valR ty st) (h64 : st.length ≤ 64) (hs : R32 s) (hb : R32 b) (hn : 0 ≤ mem 23 1 ∧ mem 23 1 ≤ 24) (hL : ∀ k, 0 ≤ k → k < 6 → -1000000 ≤ letterX mem (leF k) s b ∧ letterX mem (leF k) s b ≤ 1000000) : conv bX2_work 3 [(2, 14), (0, encX t), (2, 23), (0, s), (0, b)] m (fun m' => lawSt_14 mem (evTok (fun k => letterX mem (leF k) s b) st t) m' ∧ ∃ ty', valR ty' (evTok (fun k => letterX mem (leF k) s b) st t) ∧ wfX o ty' r ∧ (evTok (fun k => letterX mem (leF k) s b) st t).length ≤ 64) := by
  have hlen := valR_len ty st hv
  have el : ∀ k, letterX m k s b = letterX mem k s b := by
    intro k
    unfold letterX
    rw [h.1 23 (by decide) (by decide), h.1 24 (by decide) (by decide), h.1 26 (by decide) (by decide), h.1 29 (by decide) (by decide), h.1 30 (by decide) (by decide)]
  unfold wfX at hw
  unfold encX evTok
  by_cases c0 : t.1 = 0
  · rw [if_pos c0] at hw ⊢
    rw [if_pos c0]
    refine conv.mono (c_X2_num_14 mem m st t.2 s b h (by omega) hw.2.1) (fun m' q => ⟨q, false :: ty, ⟨?_, hv⟩, hw.2.2, ?_⟩)
    · show -1000000 ≤ t.2 ∧ t.2 ≤ 1000000
      omega
    · simp only [List.length_cons]
      omega
  · rw [if_neg c0] at hw ⊢
    rw [if_neg c0]
    by_cases c1 : t.1 = 1
    · rw [if_pos c1] at hw ⊢
      rw [if_pos c1]
      have lb := hL t.2 hw.2.1.1 hw.2.1.2
      refine conv.mono (c_X2_let_14 mem m st t.2 s b h (by omega) hs hb hn (by rw [el]; omega)) (fun m' q => ⟨?_, false :: ty, ⟨?_, hv⟩, hw.2.2, ?_⟩)
      · rw [el] at q
        exact q
      · exact lb
      · simp only [List.length_cons]
        omega
    · rw [if_neg c1] at hw ⊢
      rw [if_neg c1]
      by_cases c9 : t.1 = 9
      · rw [if_pos c9] at hw ⊢
        obtain ⟨⟨q, e⟩, hw⟩ := hw
        subst e
        match st, hv, h, h64 with
        | a :: st', hv, h, h64 =>
          have ha : a = 0 ∨ a = 1 := hv.1
          have l64 : st'.length + 1 ≤ 64 := h64
          rw [c9, show sgF 9 = 33 by decide]
          refine conv.mono (c_X2_not_14 mem m st' a s b h (by omega) ha) (fun m' w => ⟨w, true :: q, ⟨?_, hv.2⟩, hw, h64⟩)
          show 1 - a = 0 ∨ 1 - a = 1
          omega
      · rw [if_neg c9] at hw ⊢
        have go : ∀ (a z : Int) (st' : List Int) (q : List Bool) (o2 : Bool), st = z :: a :: st' → valR q st' → wfX o (o2 :: q) r → (-1000000 ≤ a ∧ a ≤ 1000000) → (-1000000 ≤ z ∧ z ≤ 1000000) → (t.1 = 2 ∨ t.1 = 3 ∨ t.1 = 4 ∨ t.1 = 5 ∨ t.1 = 6 ∨ t.1 = 7 ∨ t.1 = 8 ∨ t.1 = 10 ∨ t.1 = 11) → (10 ≤ t.1 → (a = 0 ∨ a = 1) ∧ (z = 0 ∨ z = 1)) → (o2 = true → 6 ≤ t.1) →
            conv bX2_work 3 [(2, 14), (0, sgF t.1), (2, 23), (0, s), (0, b)] m (fun m' => lawSt_14 mem (opF t.1 a z :: st') m' ∧ ∃ ty', valR ty' (opF t.1 a z :: st') ∧ wfX o ty' r ∧ (opF t.1 a z :: st').length ≤ 64) := by
          intro a z st' q o2 e hq hw2 ha hz hc ht ho
          subst e
          have l64 : st'.length + 1 + 1 ≤ 64 := h64
          refine conv.mono (c_X2_op_14 mem m st' t.1 a z s b h (by omega) hc ha hz ht) (fun m' w => ⟨w, o2 :: q, ⟨?_, hq⟩, hw2, ?_⟩)
          · cases o2 with
            | true => exact opF_truth (ho rfl)
            | false => exact opF_bnd _ _ _
          · show st'.length + 1 ≤ 64
            omega
        by_cases c10 : t.1 = 10 ∨ t.1 = 11
        · rw [if_pos c10] at hw
          obtain ⟨q, e, hw⟩ := hw
          rw [e] at hv
          obtain ⟨z, a, st', e2, hz, ha, hq⟩ := valR_two hv
          have hz : z = 0 ∨ z = 1 := hz
          have ha : a = 0 ∨ a = 1 := ha
          have g := go a z st' q true e2 hq hw (by omega) (by omega) (by omega) (fun _ => ⟨ha, hz⟩) (fun _ => by omega)
          subst e2
          exact g
        · rw [if_neg c10] at hw
          by_cases c6 : 6 ≤ t.1 ∧ t.1 ≤ 8
          · rw [if_pos c6] at hw
            obtain ⟨q, e, hw⟩ := hw
            rw [e] at hv
            obtain ⟨z, a, st', e2, hz, ha, hq⟩ := valR_two hv
            have g := go a z st' q true e2 hq hw ha hz (by omega) (fun _ => by omega) (fun _ => by omega)
            subst e2
            exact g
          · rw [if_neg c6] at hw
            obtain ⟨h2, q, e, hw⟩ := hw
            rw [e] at hv
            obtain ⟨z, a, st', e2, hz, ha, hq⟩ := valR_two hv
            have g := go a z st' q false e2 hq hw ha hz (by omega) (fun _ => by omega) (fun z => by cases z)
            subst e2
            exact g
theorem cn_X2_work_17 {d : Nat} {P : mmM → Prop} {mem : mmM} {x1 x3 x4 : Int} (h : mmT bX2_work d 0 0 (mQv P) 0 [(2, 17), (0, x1), (2, 23), (0, x3), (0, x4), (9, 0), (9, 0)] [] mS mem) : conv bX2_work d [(2, 17), (0, x1), (2, 23), (0, x3), (0, x4)] mem P := mmC_of [(2, 17), (0, x1), (2, 23), (0, x3), (0, x4), (9, 0), (9, 0)] ok_X2_work.2.2.2.2 rfl (Nat.le_of_ble_eq_true rfl) h
theorem bk_X2_work_17_0 {d : Nat} {d1 : Nat} {P1 : Int → mmM → Prop} {P : mmM → Prop} {mem : mmM} {x1 x3 x4 : Int}
  (c1 : x1 < 1000 → ¬ (isLet x1) → ¬ x1 = 33 → con 0 bX2_join d1 [(0, ((mset mem 17 3 ((mem 17 3) - 1)) 19 (((mset mem 17 3 ((mem 17 3) - 1)) 17 3) - 1))), (0, x1), (0, (mem 19 ((mem 17 3) - 1)))] (mset (mset mem 17 3 ((mem 17 3) - 1)) 17 3 (((mset mem 17 3 ((mem 17 3) - 1)) 17 3) - 1)) P1)
  (q1 : x1 < 1000 → ¬ (isLet x1) → ¬ x1 = 33 → ∀ (v4 : Int), ∀ (m4 : mmM), P1 v4 m4 → P (mset (mset m4 19 (m4 17 3) v4) 17 3 ((m4 17 3) + 1)))
  (q2 : x1 < 1000 → ¬ (isLet x1) → x1 = 33 → ¬ (mem 19 ((mem 17 3) - 1)) = 0 → P (mset (mset (mset mem 17 3 ((mem 17 3) - 1)) 19 ((mset mem 17 3 ((mem 17 3) - 1)) 17 3) 0) 17 3 (((mset mem 17 3 ((mem 17 3) - 1)) 17 3) + 1)))
  (q3 : x1 < 1000 → ¬ (isLet x1) → x1 = 33 → (mem 19 ((mem 17 3) - 1)) = 0 → P (mset (mset (mset mem 17 3 ((mem 17 3) - 1)) 19 ((mset mem 17 3 ((mem 17 3) - 1)) 17 3) 1) 17 3 (((mset mem 17 3 ((mem 17 3) - 1)) 17 3) + 1)))
  (q4 : x1 < 1000 → (isLet x1) → P (mset (mset mem 19 (mem 17 3) (letterX mem x1 x3 x4)) 17 3 ((mem 17 3) + 1)))
  (q5 : 1000 ≤ x1 → P (mset (mset mem 19 (mem 17 3) (x1 - 1000)) 17 3 ((mem 17 3) + 1)))
  (hd_d1 : d1 + 1 ≤ d := by omega)
  (hd1 : 1 ≤ d := by omega)
  (hd2 : 2 ≤ d := by omega)
  (hd3 : 3 ≤ d := by omega)
  (s1 : R32 x1 := by intros; first | omega | assumption | solve_by_elim)
  (s2 : x1 < 1000 → ¬ (isLet x1) → ¬ x1 = 33 → 0 < (mem 17 3) ∧ (mem 17 3) ≤ 64 := by intros; first | omega | assumption | solve_by_elim)
  (s3 : x1 < 1000 → ¬ (isLet x1) → ¬ x1 = 33 → 0 < ((mset mem 17 3 ((mem 17 3) - 1)) 17 3) ∧ ((mset mem 17 3 ((mem 17 3) - 1)) 17 3) ≤ 64 := by intros; first | omega | assumption | solve_by_elim)
  (s4 : x1 < 1000 → ¬ (isLet x1) → ¬ x1 = 33 → ∀ (v4 : Int), ∀ (m4 : mmM), P1 v4 m4 → R32 v4 := by intros; first | omega | assumption | solve_by_elim)
  (s5 : x1 < 1000 → ¬ (isLet x1) → ¬ x1 = 33 → ∀ (v4 : Int), ∀ (m4 : mmM), P1 v4 m4 → 0 ≤ (m4 17 3) ∧ (m4 17 3) < 64 := by intros; first | omega | assumption | solve_by_elim)
  (s6 : x1 < 1000 → ¬ (isLet x1) → x1 = 33 → 0 < (mem 17 3) ∧ (mem 17 3) ≤ 64 := by intros; first | omega | assumption | solve_by_elim)
  (s7 : x1 < 1000 → ¬ (isLet x1) → x1 = 33 → R32 (mem 19 ((mem 17 3) - 1)) := by intros; first | omega | assumption | solve_by_elim)
  (s8 : x1 < 1000 → ¬ (isLet x1) → x1 = 33 → ¬ (mem 19 ((mem 17 3) - 1)) = 0 → 0 ≤ ((mset mem 17 3 ((mem 17 3) - 1)) 17 3) ∧ ((mset mem 17 3 ((mem 17 3) - 1)) 17 3) < 64 := by intros; first | omega | assumption | solve_by_elim)
  (s9 : x1 < 1000 → ¬ (isLet x1) → x1 = 33 → (mem 19 ((mem 17 3) - 1)) = 0 → 0 ≤ ((mset mem 17 3 ((mem 17 3) - 1)) 17 3) ∧ ((mset mem 17 3 ((mem 17 3) - 1)) 17 3) < 64 := by intros; first | omega | assumption | solve_by_elim)
  (s10 : x1 < 1000 → (isLet x1) → R32 x3 := by intros; first | omega | assumption | solve_by_elim)
  (s11 : x1 < 1000 → (isLet x1) → R32 x4 := by intros; first | omega | assumption | solve_by_elim)
  (s12 : x1 < 1000 → (isLet x1) → 0 ≤ (mem 23 1) ∧ (mem 23 1) ≤ 24 := by intros; first | omega | assumption | solve_by_elim)
  (s13 : x1 < 1000 → (isLet x1) → R32 (letterX mem x1 x3 x4) := by intros; first | omega | assumption | solve_by_elim)
  (s14 : x1 < 1000 → (isLet x1) → 0 ≤ (mem 17 3) ∧ (mem 17 3) < 64 := by intros; first | omega | assumption | solve_by_elim)
  (s15 : 1000 ≤ x1 → R32 (x1 - 1000) := by intros; first | omega | assumption | solve_by_elim)
  (s16 : 1000 ≤ x1 → 0 ≤ (mem 17 3) ∧ (mem 17 3) < 64 := by intros; first | omega | assumption | solve_by_elim)
  : mmT bX2_work d 0 0 (mQv P) 0 [(2, 17), (0, x1), (2, 23), (0, x3), (0, x4), (9, 0), (9, 0)] [] mS mem := by
  refine st_iload_n (i := 1) rfl rfl dX2_work_0 ?_
  refine st_sipush rfl dX2_work_1 ?_
  refine sr_icmp_lt 19 s1 ⟨by decide, by decide⟩ (by decide) dX2_work_4 (fun h1 => ?_) (fun h1 => ?_)
  · have h1 : x1 < 1000 := by omega
    refine st_iload_n (i := 1) rfl rfl dX2_work_19 ?_
    refine st_callS (kc2 := 0) (ks2 := 0) (av := [(0, x1)]) mr_X2_47 ok_X2_isLetter (c_X2_isLetter mem x1 (s1)) rfl rfl hd2 (Nat.le_refl 0) (Nat.le_refl 0) (Nat.le_of_ble_eq_true rfl) dX2_work_20 (mQ.elim fun v1 m1 hp => ?_)
    obtain ⟨hpv, hpm⟩ := hp
    subst hpv
    have hpm := hpm.symm
    subst hpm
    refine so_ifeqB 41 (by decide) dX2_work_23 (fun h2 => ?_) (fun h2 => ?_)
    · have h2 : ¬ (isLet x1) := h2
      refine st_iload_n (i := 1) rfl rfl dX2_work_41 ?_
      refine st_bipush rfl dX2_work_42 ?_
      refine sr_icmp_ne 66 s1 ⟨by decide, by decide⟩ (by decide) dX2_work_44 (fun h3 => ?_) (fun h3 => ?_)
      · have h3 : ¬ x1 = 33 := by omega
        refine st_aload_n (i := 0) rfl (t := 0) rfl (by decide) dX2_work_66 ?_
        refine st_callV (kc2 := 0) (ks2 := 0) (av := []) 17 2 mr_X2_35 ok_X2_pop (c_X2_pop_17 mem ((s2 h1 h2 h3))) rfl sh_17 ⟨_, rfl, rfl, by decide⟩ rfl rfl hd1 (Nat.le_refl 0) (Nat.le_refl 0) (Nat.le_of_ble_eq_true rfl) dX2_work_67 (mQ.elim fun v2 m2 hp => ?_)
        obtain ⟨hpv, hpm⟩ := hp
        subst hpv
        have hpm := hpm.symm
        subst hpm
        refine st_istore (by decide) (lc' := [(2, 17), (0, x1), (2, 23), (0, x3), (0, x4), (0, (mem 19 ((mem 17 3) - 1))), (9, 0)]) rfl dX2_work_70 ?_
        refine st_aload_n (i := 0) rfl (t := 0) rfl (by decide) dX2_work_72 ?_
        refine st_callV (kc2 := 0) (ks2 := 0) (av := []) 17 2 mr_X2_35 ok_X2_pop (c_X2_pop_17 (mset mem 17 3 ((mem 17 3) - 1)) ((s3 h1 h2 h3))) rfl sh_17 ⟨_, rfl, rfl, by decide⟩ rfl rfl hd1 (Nat.le_refl 0) (Nat.le_refl 0) (Nat.le_of_ble_eq_true rfl) dX2_work_73 (mQ.elim fun v3 m3 hp => ?_)
        obtain ⟨hpv, hpm⟩ := hp
        subst hpv
        have hpm := hpm.symm
        subst hpm
        refine st_istore (by decide) (lc' := [(2, 17), (0, x1), (2, 23), (0, x3), (0, x4), (0, (mem 19 ((mem 17 3) - 1))), (0, ((mset mem 17 3 ((mem 17 3) - 1)) 19 (((mset mem 17 3 ((mem 17 3) - 1)) 17 3) - 1)))]) rfl dX2_work_76 ?_
        refine st_aload_n (i := 0) rfl (t := 0) rfl (by decide) dX2_work_78 ?_
        refine st_iload rfl dX2_work_79 ?_
        refine st_iload_n (i := 1) rfl rfl dX2_work_81 ?_
        refine st_iload rfl dX2_work_82 ?_
        refine st_callS (kc2 := 0) (ks2 := 0) (av := [(0, ((mset mem 17 3 ((mem 17 3) - 1)) 19 (((mset mem 17 3 ((mem 17 3) - 1)) 17 3) - 1))), (0, x1), (0, (mem 19 ((mem 17 3) - 1)))]) mr_X2_57 ok_X2_join (c1 h1 h2 h3) rfl rfl hd_d1 (Nat.le_refl 0) (Nat.le_refl 0) (Nat.le_of_ble_eq_true rfl) dX2_work_84 (mQ.elim fun v4 m4 p1 => ?_)
        refine st_callV (kc2 := 0) (ks2 := 0) (av := [(0, v4)]) 17 2 mr_X2_43 ok_X2_push (c_X2_push_17 m4 v4 ((s4 h1 h2 h3 v4 m4 p1)) ((s5 h1 h2 h3 v4 m4 p1))) rfl sh_17 ⟨_, rfl, rfl, by decide⟩ rfl rfl hd1 (Nat.le_refl 0) (Nat.le_refl 0) (Nat.le_of_ble_eq_true rfl) dX2_work_87 (mQv.elim fun m5 hp => ?_)
        have hp := hp.symm
        subst hp
        exact st_return rfl dX2_work_90 (mQv.ret (q1 h1 h2 h3 v4 m4 p1))
      · have h3 : x1 = 33 := by omega
        refine st_aload_n (i := 0) rfl (t := 0) rfl (by decide) dX2_work_47 ?_
        refine st_aload_n (i := 0) rfl (t := 0) rfl (by decide) dX2_work_48 ?_
        refine st_callV (kc2 := 0) (ks2 := 0) (av := []) 17 2 mr_X2_35 ok_X2_pop (c_X2_pop_17 mem ((s6 h1 h2 h3))) rfl sh_17 ⟨_, rfl, rfl, by decide⟩ rfl rfl hd1 (Nat.le_refl 0) (Nat.le_refl 0) (Nat.le_of_ble_eq_true rfl) dX2_work_49 (mQ.elim fun v5 m6 hp => ?_)
        obtain ⟨hpv, hpm⟩ := hp
        subst hpv
        have hpm := hpm.symm
        subst hpm
        refine sr_if_ne 59 (s7 h1 h2 h3) (by decide) dX2_work_52 (fun h4 => ?_) (fun h4 => ?_)
        · have h4 : ¬ (mem 19 ((mem 17 3) - 1)) = 0 := by omega
          refine st_iconst dX2_work_59 ?_
          refine st_callV (kc2 := 0) (ks2 := 0) (av := [(0, 0)]) 17 2 mr_X2_43 ok_X2_push (c_X2_push_17 (mset mem 17 3 ((mem 17 3) - 1)) 0 (⟨by decide, by decide⟩) ((s8 h1 h2 h3 h4))) rfl sh_17 ⟨_, rfl, rfl, by decide⟩ rfl rfl hd1 (Nat.le_refl 0) (Nat.le_refl 0) (Nat.le_of_ble_eq_true rfl) dX2_work_60 (mQv.elim fun m7 hp => ?_)
          have hp := hp.symm
          subst hp
          refine st_goto 90 (by decide) dX2_work_63 ?_
          exact st_return rfl dX2_work_90 (mQv.ret (q2 h1 h2 h3 h4))
        · have h4 : (mem 19 ((mem 17 3) - 1)) = 0 := by omega
          refine st_iconst dX2_work_55 ?_
          refine st_goto 60 (by decide) dX2_work_56 ?_
          refine st_callV (kc2 := 0) (ks2 := 0) (av := [(0, 1)]) 17 2 mr_X2_43 ok_X2_push (c_X2_push_17 (mset mem 17 3 ((mem 17 3) - 1)) 1 (⟨by decide, by decide⟩) ((s9 h1 h2 h3 h4))) rfl sh_17 ⟨_, rfl, rfl, by decide⟩ rfl rfl hd1 (Nat.le_refl 0) (Nat.le_refl 0) (Nat.le_of_ble_eq_true rfl) dX2_work_60 (mQv.elim fun m8 hp => ?_)
          have hp := hp.symm
          subst hp
          refine st_goto 90 (by decide) dX2_work_63 ?_
          exact st_return rfl dX2_work_90 (mQv.ret (q3 h1 h2 h3 h4))
    · have h2 : (isLet x1) := h2
      refine st_aload_n (i := 0) rfl (t := 0) rfl (by decide) dX2_work_26 ?_
      refine st_aload_n (i := 2) rfl (t := 0) rfl (by decide) dX2_work_27 ?_
      refine st_iload_n (i := 1) rfl rfl dX2_work_28 ?_
      refine st_iload_n (i := 3) rfl rfl dX2_work_29 ?_
      refine st_iload rfl dX2_work_30 ?_
      refine st_callV (kc2 := 0) (ks2 := 0) (av := [(0, x1), (0, x3), (0, x4)]) 23 8 mr_X2_51 ok_X8_letter (c_X8_letter mem x1 x3 x4 (s1) ((s10 h1 h2)) ((s11 h1 h2)) ((s12 h1 h2))) rfl sh_23 ⟨_, rfl, rfl, by decide⟩ rfl rfl hd3 (Nat.le_refl 0) (Nat.le_refl 0) (Nat.le_of_ble_eq_true rfl) dX2_work_32 (mQ.elim fun v6 m9 hp => ?_)
      obtain ⟨hpv, hpm⟩ := hp
      subst hpv
      have hpm := hpm.symm
      subst hpm
      refine st_callV (kc2 := 0) (ks2 := 0) (av := [(0, (letterX mem x1 x3 x4))]) 17 2 mr_X2_43 ok_X2_push (c_X2_push_17 mem (letterX mem x1 x3 x4) ((s13 h1 h2)) ((s14 h1 h2))) rfl sh_17 ⟨_, rfl, rfl, by decide⟩ rfl rfl hd1 (Nat.le_refl 0) (Nat.le_refl 0) (Nat.le_of_ble_eq_true rfl) dX2_work_35 (mQv.elim fun m10 hp => ?_)
      have hp := hp.symm
      subst hp
      refine st_goto 90 (by decide) dX2_work_38 ?_
      exact st_return rfl dX2_work_90 (mQv.ret (q4 h1 h2))
  · have h1 : 1000 ≤ x1 := by omega
    refine st_aload_n (i := 0) rfl (t := 0) rfl (by decide) dX2_work_7 ?_
    refine st_iload_n (i := 1) rfl rfl dX2_work_8 ?_
    refine st_sipush rfl dX2_work_9 ?_
    refine st_isub dX2_work_12 ?_
    refine st_callV (kc2 := 0) (ks2 := 0) (av := [(0, (x1 - 1000))]) 17 2 mr_X2_43 ok_X2_push (c_X2_push_17 mem (x1 - 1000) ((s15 h1)) ((s16 h1))) rfl sh_17 ⟨_, rfl, rfl, by decide⟩ rfl rfl hd1 (Nat.le_refl 0) (Nat.le_refl 0) (Nat.le_of_ble_eq_true rfl) dX2_work_13 (mQv.elim fun m11 hp => ?_)
    have hp := hp.symm
    subst hp
    refine st_goto 90 (by decide) dX2_work_16 ?_
    exact st_return rfl dX2_work_90 (mQv.ret (q5 h1))
def lawSt_17 (mem : mmM) (st : List Int) (m : mmM) : Prop := (∀ a, a ≠ 17 → a ≠ 19 → m a = mem a) ∧ (∀ j, j ≠ 3 → m 17 j = mem 17 j) ∧ m 17 3 = (st.length : Int) ∧ stkR (m 19) st
theorem lawSt_push_17 {mem m : mmM} {st : List Int} (v : Int) (h : lawSt_17 mem st m) : lawSt_17 mem (v :: st) (mset (mset m 19 (m 17 3) v) 17 3 (m 17 3 + 1)) := by
  obtain ⟨h1, h2, h3, h4⟩ := h
  refine ⟨fun a a1 a2 => ?_, fun j hj => ?_, ?_, ?_, ?_⟩
  · rw [mset_ne a1, mset_ne a2]
    exact h1 a a1 a2
  · rw [mset_at, if_neg hj, mset_ne (by decide)]
    exact h2 j hj
  · rw [mset_same, h3]
    simp only [List.length_cons]
    omega
  · rw [mset_ne (by decide), h3, mset_same]
  · rw [mset_ne (by decide), h3]
    exact stkR_set st (fun j hj => by rw [mset_at, if_neg (by omega)]) h4
theorem lawSt_pop_17 {mem m : mmM} {st : List Int} {v : Int} (h : lawSt_17 mem (v :: st) m) : lawSt_17 mem st (mset m 17 3 (m 17 3 - 1)) ∧ m 19 (m 17 3 - 1) = v ∧ m 17 3 = (st.length : Int) + 1 := by
  obtain ⟨h1, h2, h3, h4⟩ := h
  have e : m 17 3 - 1 = st.length := by
    rw [h3]
    simp only [List.length_cons]
    omega
  refine ⟨⟨fun a a1 a2 => ?_, fun j hj => ?_, ?_, ?_⟩, ?_, by omega⟩
  · rw [mset_ne a1]
    exact h1 a a1 a2
  · rw [mset_at, if_neg hj]
    exact h2 j hj
  · rw [mset_same, e]
  · rw [mset_ne (by decide)]
    exact h4.2
  · rw [e]
    exact h4.1
theorem c_X2_num_17 (mem m : mmM) (st : List Int) (v s b : Int) (h : lawSt_17 mem st m) (hd : st.length < 64) (hv : 0 ≤ v ∧ v ≤ 1000000) : conv bX2_work 3 [(2, 17), (0, v + 1000), (2, 23), (0, s), (0, b)] m (fun m' => lawSt_17 mem (v :: st) m') := by
  have h3 := h.2.2.1
  refine cn_X2_work_17 (bk_X2_work_17_0 (d1 := 2) (P1 := fun _ _ => True) (fun g => by omega) (fun g => by omega) (fun g => by omega) (fun g => by omega) (fun g => by omega) (fun g => ?_) (s2 := fun g => by omega) (s3 := fun g => by omega) (s4 := fun g => by omega) (s5 := fun g => by omega) (s6 := fun g => by omega) (s7 := fun g => by omega) (s8 := fun g => by omega) (s9 := fun g => by omega) (s10 := fun g => by omega) (s11 := fun g => by omega) (s12 := fun g => by omega) (s13 := fun g => by omega))
  have p := lawSt_push_17 v h
  rw [show v + 1000 - 1000 = v by omega]
  exact p
theorem c_X2_let_17 (mem m : mmM) (st : List Int) (k s b : Int) (h : lawSt_17 mem st m) (hd : st.length < 64) (hs : R32 s) (hb : R32 b) (hn : 0 ≤ mem 23 1 ∧ mem 23 1 ≤ 24) (hv : R32 (letterX m (leF k) s b)) : conv bX2_work 3 [(2, 17), (0, leF k), (2, 23), (0, s), (0, b)] m (fun m' => lawSt_17 mem (letterX m (leF k) s b :: st) m') := by
  have h3 := h.2.2.1
  have l := leF_let k
  have e23 : m 23 = mem 23 := h.1 23 (by decide) (by decide)
  refine cn_X2_work_17 (bk_X2_work_17_0 (d1 := 2) (P1 := fun _ _ => True) (fun g g2 => absurd l.1 g2) (fun g g2 => absurd l.1 g2) (fun g g2 => absurd l.1 g2) (fun g g2 => absurd l.1 g2) (fun g g2 => lawSt_push_17 _ h) (fun g => by omega) (s2 := fun g g2 => absurd l.1 g2) (s3 := fun g g2 => absurd l.1 g2) (s4 := fun g g2 => absurd l.1 g2) (s5 := fun g g2 => absurd l.1 g2) (s6 := fun g g2 => absurd l.1 g2) (s7 := fun g g2 => absurd l.1 g2) (s8 := fun g g2 => absurd l.1 g2) (s9 := fun g g2 => absurd l.1 g2) (s10 := fun g g2 => hs) (s11 := fun g g2 => hb) (s12 := fun g g2 => by rw [e23]; exact hn) (s13 := fun g g2 => by omega) (s14 := fun g => by omega) (s15 := fun g => by omega))
theorem c_X2_not_17 (mem m : mmM) (st : List Int) (a s b : Int) (h : lawSt_17 mem (a :: st) m) (hd : st.length < 64) (ha : a = 0 ∨ a = 1) : conv bX2_work 3 [(2, 17), (0, 33), (2, 23), (0, s), (0, b)] m (fun m' => lawSt_17 mem ((1 - a) :: st) m') := by
  have p := lawSt_pop_17 h
  have nl : ¬ isLet 33 := by unfold isLet; omega
  have e3 : ∀ v, mset m 17 3 v 17 3 = v := fun v => mset_same _ _ _ _
  refine cn_X2_work_17 (bk_X2_work_17_0 (d1 := 2) (P1 := fun _ _ => True) (fun g g2 g3 => by omega) (fun g g2 g3 => by omega) (fun g g2 g3 g4 => ?_) (fun g g2 g3 g4 => ?_) (fun g g2 => absurd g2 nl) (fun g => by omega) (s2 := fun g g2 g3 => by omega) (s3 := fun g g2 g3 => by omega) (s4 := fun g g2 g3 => by omega) (s5 := fun g g2 g3 => by omega) (s6 := fun g g2 g3 => by omega) (s7 := fun g g2 g3 => by rw [p.2.1]; omega) (s8 := fun g g2 g3 g4 => by rw [e3]; omega) (s9 := fun g g2 g3 g4 => by rw [e3]; omega) (s10 := fun g g2 => absurd g2 nl) (s11 := fun g g2 => absurd g2 nl) (s12 := fun g g2 => absurd g2 nl) (s13 := fun g g2 => absurd g2 nl) (s14 := fun g => by omega) (s15 := fun g => by omega))
  · rw [p.2.1] at g4
    have q := lawSt_push_17 0 p.1
    rw [show 1 - a = 0 by omega]
    exact q
  · rw [p.2.1] at g4
    have q := lawSt_push_17 1 p.1
    rw [show 1 - a = 1 by omega]
    exact q
theorem c_X2_op_17 (mem m : mmM) (st : List Int) (c a z s b : Int) (h : lawSt_17 mem (z :: a :: st) m) (hd : st.length + 2 ≤ 64) (hc : c = 2 ∨ c = 3 ∨ c = 4 ∨ c = 5 ∨ c = 6 ∨ c = 7 ∨ c = 8 ∨ c = 10 ∨ c = 11) (ha : -1000000 ≤ a ∧ a ≤ 1000000) (hz : -1000000 ≤ z ∧ z ≤ 1000000) (ht : 10 ≤ c → (a = 0 ∨ a = 1) ∧ (z = 0 ∨ z = 1)) : conv bX2_work 3 [(2, 17), (0, sgF c), (2, 23), (0, s), (0, b)] m (fun m' => lawSt_17 mem (opF c a z :: st) m') := by
  have p := lawSt_pop_17 h
  have p2 := lawSt_pop_17 p.1
  have nl := sgF_not (c := c)
  have n33 : ¬ sgF c = 33 := fun e => by have := sgF_33.mp e; omega
  have e3 : ∀ v, mset m 17 3 v 17 3 = v := fun v => mset_same _ _ _ _
  have lz : ((a :: st).length : Int) = st.length + 1 := by simp only [List.length_cons]; omega
  refine cn_X2_work_17 (bk_X2_work_17_0 (d1 := 2) (P1 := fun v m' => v = opF c a z ∧ lawSt_17 mem st m') (fun g g2 g3 => ?_) (fun g g2 g3 v m4 q => ?_) (fun g g2 g3 => absurd g3 n33) (fun g g2 g3 => absurd g3 n33) (fun g g2 => absurd g2 nl.1) (fun g => by omega) (s2 := fun g g2 g3 => by omega) (s3 := fun g g2 g3 => by rw [e3]; omega) (s4 := fun g g2 g3 v m4 q => by rw [q.1]; exact opF_rng) (s5 := fun g g2 g3 v m4 q => by have := q.2.2.2.1; omega) (s6 := fun g g2 g3 => absurd g3 n33) (s7 := fun g g2 g3 => absurd g3 n33) (s8 := fun g g2 g3 => absurd g3 n33) (s9 := fun g g2 g3 => absurd g3 n33) (s10 := fun g g2 => absurd g2 nl.1) (s11 := fun g g2 => absurd g2 nl.1) (s12 := fun g g2 => absurd g2 nl.1) (s13 := fun g g2 => absurd g2 nl.1) (s14 := fun g => by omega) (s15 := fun g => by omega))
  · rw [p.2.1, p2.2.1]
    refine con.mono (c_X2_join _ a z c hc ha hz ht) (fun v m' q => ⟨q.1, ?_⟩)
    rw [q.2]
    exact p2.1
  · rw [q.1]
    exact lawSt_push_17 _ q.2
theorem c_X2_sign_17 (o : Bool) (mem m : mmM) (st : List Int) (ty : List Bool) (t : tokT) (r : List tokT) (s b : Int) (h : lawSt_17 mem st m) (hw : wfX o ty (t :: r)) (hv : valR ty st) (h64 : st.length ≤ 64) (hs : R32 s) (hb : R32 b) (hn : 0 ≤ mem 23 1 ∧ mem 23 1 ≤ 24) (hL : ∀ k, 0 ≤ k → k < 6 → -1000000 ≤ letterX mem (leF k) s b ∧ letterX mem (leF k) s b ≤ 1000000) : conv bX2_work 3 [(2, 17), (0, encX t), (2, 23), (0, s), (0, b)] m (fun m' => lawSt_17 mem (evTok (fun k => letterX mem (leF k) s b) st t) m' ∧ ∃ ty', valR ty' (evTok (fun k => letterX mem (leF k) s b) st t) ∧ wfX o ty' r ∧ (evTok (fun k => letterX mem (leF k) s b) st t).length ≤ 64) := by
  have hlen := valR_len ty st hv
  have el : ∀ k, letterX m k s b = letterX mem k s b := by
    intro k
    unfold letterX
    rw [h.1 23 (by decide) (by decide), h.1 24 (by decide) (by decide), h.1 26 (by decide) (by decide), h.1 29 (by decide) (by decide), h.1 30 (by decide) (by decide)]
  unfold wfX at hw
  unfold encX evTok
  by_cases c0 : t.1 = 0
  · rw [if_pos c0] at hw ⊢
    rw [if_pos c0]
    refine conv.mono (c_X2_num_17 mem m st t.2 s b h (by omega) hw.2.1) (fun m' q => ⟨q, false :: ty, ⟨?_, hv⟩, hw.2.2, ?_⟩)
    · show -1000000 ≤ t.2 ∧ t.2 ≤ 1000000
      omega
    · simp only [List.length_cons]
      omega
  · rw [if_neg c0] at hw ⊢
    rw [if_neg c0]
    by_cases c1 : t.1 = 1
    · rw [if_pos c1] at hw ⊢
      rw [if_pos c1]
      have lb := hL t.2 hw.2.1.1 hw.2.1.2
      refine conv.mono (c_X2_let_17 mem m st t.2 s b h (by omega) hs hb hn (by rw [el]; omega)) (fun m' q => ⟨?_, false :: ty, ⟨?_, hv⟩, hw.2.2, ?_⟩)
      · rw [el] at q
        exact q
      · exact lb
      · simp only [List.length_cons]
        omega
    · rw [if_neg c1] at hw ⊢
      rw [if_neg c1]
      by_cases c9 : t.1 = 9
      · rw [if_pos c9] at hw ⊢
        obtain ⟨⟨q, e⟩, hw⟩ := hw
        subst e
        match st, hv, h, h64 with
        | a :: st', hv, h, h64 =>
          have ha : a = 0 ∨ a = 1 := hv.1
          have l64 : st'.length + 1 ≤ 64 := h64
          rw [c9, show sgF 9 = 33 by decide]
          refine conv.mono (c_X2_not_17 mem m st' a s b h (by omega) ha) (fun m' w => ⟨w, true :: q, ⟨?_, hv.2⟩, hw, h64⟩)
          show 1 - a = 0 ∨ 1 - a = 1
          omega
      · rw [if_neg c9] at hw ⊢
        have go : ∀ (a z : Int) (st' : List Int) (q : List Bool) (o2 : Bool), st = z :: a :: st' → valR q st' → wfX o (o2 :: q) r → (-1000000 ≤ a ∧ a ≤ 1000000) → (-1000000 ≤ z ∧ z ≤ 1000000) → (t.1 = 2 ∨ t.1 = 3 ∨ t.1 = 4 ∨ t.1 = 5 ∨ t.1 = 6 ∨ t.1 = 7 ∨ t.1 = 8 ∨ t.1 = 10 ∨ t.1 = 11) → (10 ≤ t.1 → (a = 0 ∨ a = 1) ∧ (z = 0 ∨ z = 1)) → (o2 = true → 6 ≤ t.1) →
            conv bX2_work 3 [(2, 17), (0, sgF t.1), (2, 23), (0, s), (0, b)] m (fun m' => lawSt_17 mem (opF t.1 a z :: st') m' ∧ ∃ ty', valR ty' (opF t.1 a z :: st') ∧ wfX o ty' r ∧ (opF t.1 a z :: st').length ≤ 64) := by
          intro a z st' q o2 e hq hw2 ha hz hc ht ho
          subst e
          have l64 : st'.length + 1 + 1 ≤ 64 := h64
          refine conv.mono (c_X2_op_17 mem m st' t.1 a z s b h (by omega) hc ha hz ht) (fun m' w => ⟨w, o2 :: q, ⟨?_, hq⟩, hw2, ?_⟩)
          · cases o2 with
            | true => exact opF_truth (ho rfl)
            | false => exact opF_bnd _ _ _
          · show st'.length + 1 ≤ 64
            omega
        by_cases c10 : t.1 = 10 ∨ t.1 = 11
        · rw [if_pos c10] at hw
          obtain ⟨q, e, hw⟩ := hw
          rw [e] at hv
          obtain ⟨z, a, st', e2, hz, ha, hq⟩ := valR_two hv
          have hz : z = 0 ∨ z = 1 := hz
          have ha : a = 0 ∨ a = 1 := ha
          have g := go a z st' q true e2 hq hw (by omega) (by omega) (by omega) (fun _ => ⟨ha, hz⟩) (fun _ => by omega)
          subst e2
          exact g
        · rw [if_neg c10] at hw
          by_cases c6 : 6 ≤ t.1 ∧ t.1 ≤ 8
          · rw [if_pos c6] at hw
            obtain ⟨q, e, hw⟩ := hw
            rw [e] at hv
            obtain ⟨z, a, st', e2, hz, ha, hq⟩ := valR_two hv
            have g := go a z st' q true e2 hq hw ha hz (by omega) (fun _ => by omega) (fun _ => by omega)
            subst e2
            exact g
          · rw [if_neg c6] at hw
            obtain ⟨h2, q, e, hw⟩ := hw
            rw [e] at hv
            obtain ⟨z, a, st', e2, hz, ha, hq⟩ := valR_two hv
            have g := go a z st' q false e2 hq hw ha hz (by omega) (fun _ => by omega) (fun z => by cases z)
            subst e2
            exact g
theorem cn_X2_work_20 {d : Nat} {P : mmM → Prop} {mem : mmM} {x1 x3 x4 : Int} (h : mmT bX2_work d 0 0 (mQv P) 0 [(2, 20), (0, x1), (2, 23), (0, x3), (0, x4), (9, 0), (9, 0)] [] mS mem) : conv bX2_work d [(2, 20), (0, x1), (2, 23), (0, x3), (0, x4)] mem P := mmC_of [(2, 20), (0, x1), (2, 23), (0, x3), (0, x4), (9, 0), (9, 0)] ok_X2_work.2.2.2.2 rfl (Nat.le_of_ble_eq_true rfl) h
theorem bk_X2_work_20_0 {d : Nat} {d1 : Nat} {P1 : Int → mmM → Prop} {P : mmM → Prop} {mem : mmM} {x1 x3 x4 : Int}
  (c1 : x1 < 1000 → ¬ (isLet x1) → ¬ x1 = 33 → con 0 bX2_join d1 [(0, ((mset mem 20 3 ((mem 20 3) - 1)) 22 (((mset mem 20 3 ((mem 20 3) - 1)) 20 3) - 1))), (0, x1), (0, (mem 22 ((mem 20 3) - 1)))] (mset (mset mem 20 3 ((mem 20 3) - 1)) 20 3 (((mset mem 20 3 ((mem 20 3) - 1)) 20 3) - 1)) P1)
  (q1 : x1 < 1000 → ¬ (isLet x1) → ¬ x1 = 33 → ∀ (v4 : Int), ∀ (m4 : mmM), P1 v4 m4 → P (mset (mset m4 22 (m4 20 3) v4) 20 3 ((m4 20 3) + 1)))
  (q2 : x1 < 1000 → ¬ (isLet x1) → x1 = 33 → ¬ (mem 22 ((mem 20 3) - 1)) = 0 → P (mset (mset (mset mem 20 3 ((mem 20 3) - 1)) 22 ((mset mem 20 3 ((mem 20 3) - 1)) 20 3) 0) 20 3 (((mset mem 20 3 ((mem 20 3) - 1)) 20 3) + 1)))
  (q3 : x1 < 1000 → ¬ (isLet x1) → x1 = 33 → (mem 22 ((mem 20 3) - 1)) = 0 → P (mset (mset (mset mem 20 3 ((mem 20 3) - 1)) 22 ((mset mem 20 3 ((mem 20 3) - 1)) 20 3) 1) 20 3 (((mset mem 20 3 ((mem 20 3) - 1)) 20 3) + 1)))
  (q4 : x1 < 1000 → (isLet x1) → P (mset (mset mem 22 (mem 20 3) (letterX mem x1 x3 x4)) 20 3 ((mem 20 3) + 1)))
  (q5 : 1000 ≤ x1 → P (mset (mset mem 22 (mem 20 3) (x1 - 1000)) 20 3 ((mem 20 3) + 1)))
  (hd_d1 : d1 + 1 ≤ d := by omega)
  (hd1 : 1 ≤ d := by omega)
  (hd2 : 2 ≤ d := by omega)
  (hd3 : 3 ≤ d := by omega)
  (s1 : R32 x1 := by intros; first | omega | assumption | solve_by_elim)
  (s2 : x1 < 1000 → ¬ (isLet x1) → ¬ x1 = 33 → 0 < (mem 20 3) ∧ (mem 20 3) ≤ 64 := by intros; first | omega | assumption | solve_by_elim)
  (s3 : x1 < 1000 → ¬ (isLet x1) → ¬ x1 = 33 → 0 < ((mset mem 20 3 ((mem 20 3) - 1)) 20 3) ∧ ((mset mem 20 3 ((mem 20 3) - 1)) 20 3) ≤ 64 := by intros; first | omega | assumption | solve_by_elim)
  (s4 : x1 < 1000 → ¬ (isLet x1) → ¬ x1 = 33 → ∀ (v4 : Int), ∀ (m4 : mmM), P1 v4 m4 → R32 v4 := by intros; first | omega | assumption | solve_by_elim)
  (s5 : x1 < 1000 → ¬ (isLet x1) → ¬ x1 = 33 → ∀ (v4 : Int), ∀ (m4 : mmM), P1 v4 m4 → 0 ≤ (m4 20 3) ∧ (m4 20 3) < 64 := by intros; first | omega | assumption | solve_by_elim)
  (s6 : x1 < 1000 → ¬ (isLet x1) → x1 = 33 → 0 < (mem 20 3) ∧ (mem 20 3) ≤ 64 := by intros; first | omega | assumption | solve_by_elim)
  (s7 : x1 < 1000 → ¬ (isLet x1) → x1 = 33 → R32 (mem 22 ((mem 20 3) - 1)) := by intros; first | omega | assumption | solve_by_elim)
  (s8 : x1 < 1000 → ¬ (isLet x1) → x1 = 33 → ¬ (mem 22 ((mem 20 3) - 1)) = 0 → 0 ≤ ((mset mem 20 3 ((mem 20 3) - 1)) 20 3) ∧ ((mset mem 20 3 ((mem 20 3) - 1)) 20 3) < 64 := by intros; first | omega | assumption | solve_by_elim)
  (s9 : x1 < 1000 → ¬ (isLet x1) → x1 = 33 → (mem 22 ((mem 20 3) - 1)) = 0 → 0 ≤ ((mset mem 20 3 ((mem 20 3) - 1)) 20 3) ∧ ((mset mem 20 3 ((mem 20 3) - 1)) 20 3) < 64 := by intros; first | omega | assumption | solve_by_elim)
  (s10 : x1 < 1000 → (isLet x1) → R32 x3 := by intros; first | omega | assumption | solve_by_elim)
  (s11 : x1 < 1000 → (isLet x1) → R32 x4 := by intros; first | omega | assumption | solve_by_elim)
  (s12 : x1 < 1000 → (isLet x1) → 0 ≤ (mem 23 1) ∧ (mem 23 1) ≤ 24 := by intros; first | omega | assumption | solve_by_elim)
  (s13 : x1 < 1000 → (isLet x1) → R32 (letterX mem x1 x3 x4) := by intros; first | omega | assumption | solve_by_elim)
  (s14 : x1 < 1000 → (isLet x1) → 0 ≤ (mem 20 3) ∧ (mem 20 3) < 64 := by intros; first | omega | assumption | solve_by_elim)
  (s15 : 1000 ≤ x1 → R32 (x1 - 1000) := by intros; first | omega | assumption | solve_by_elim)
  (s16 : 1000 ≤ x1 → 0 ≤ (mem 20 3) ∧ (mem 20 3) < 64 := by intros; first | omega | assumption | solve_by_elim)
  : mmT bX2_work d 0 0 (mQv P) 0 [(2, 20), (0, x1), (2, 23), (0, x3), (0, x4), (9, 0), (9, 0)] [] mS mem := by
  refine st_iload_n (i := 1) rfl rfl dX2_work_0 ?_
  refine st_sipush rfl dX2_work_1 ?_
  refine sr_icmp_lt 19 s1 ⟨by decide, by decide⟩ (by decide) dX2_work_4 (fun h1 => ?_) (fun h1 => ?_)
  · have h1 : x1 < 1000 := by omega
    refine st_iload_n (i := 1) rfl rfl dX2_work_19 ?_
    refine st_callS (kc2 := 0) (ks2 := 0) (av := [(0, x1)]) mr_X2_47 ok_X2_isLetter (c_X2_isLetter mem x1 (s1)) rfl rfl hd2 (Nat.le_refl 0) (Nat.le_refl 0) (Nat.le_of_ble_eq_true rfl) dX2_work_20 (mQ.elim fun v1 m1 hp => ?_)
    obtain ⟨hpv, hpm⟩ := hp
    subst hpv
    have hpm := hpm.symm
    subst hpm
    refine so_ifeqB 41 (by decide) dX2_work_23 (fun h2 => ?_) (fun h2 => ?_)
    · have h2 : ¬ (isLet x1) := h2
      refine st_iload_n (i := 1) rfl rfl dX2_work_41 ?_
      refine st_bipush rfl dX2_work_42 ?_
      refine sr_icmp_ne 66 s1 ⟨by decide, by decide⟩ (by decide) dX2_work_44 (fun h3 => ?_) (fun h3 => ?_)
      · have h3 : ¬ x1 = 33 := by omega
        refine st_aload_n (i := 0) rfl (t := 0) rfl (by decide) dX2_work_66 ?_
        refine st_callV (kc2 := 0) (ks2 := 0) (av := []) 20 2 mr_X2_35 ok_X2_pop (c_X2_pop_20 mem ((s2 h1 h2 h3))) rfl sh_20 ⟨_, rfl, rfl, by decide⟩ rfl rfl hd1 (Nat.le_refl 0) (Nat.le_refl 0) (Nat.le_of_ble_eq_true rfl) dX2_work_67 (mQ.elim fun v2 m2 hp => ?_)
        obtain ⟨hpv, hpm⟩ := hp
        subst hpv
        have hpm := hpm.symm
        subst hpm
        refine st_istore (by decide) (lc' := [(2, 20), (0, x1), (2, 23), (0, x3), (0, x4), (0, (mem 22 ((mem 20 3) - 1))), (9, 0)]) rfl dX2_work_70 ?_
        refine st_aload_n (i := 0) rfl (t := 0) rfl (by decide) dX2_work_72 ?_
        refine st_callV (kc2 := 0) (ks2 := 0) (av := []) 20 2 mr_X2_35 ok_X2_pop (c_X2_pop_20 (mset mem 20 3 ((mem 20 3) - 1)) ((s3 h1 h2 h3))) rfl sh_20 ⟨_, rfl, rfl, by decide⟩ rfl rfl hd1 (Nat.le_refl 0) (Nat.le_refl 0) (Nat.le_of_ble_eq_true rfl) dX2_work_73 (mQ.elim fun v3 m3 hp => ?_)
        obtain ⟨hpv, hpm⟩ := hp
        subst hpv
        have hpm := hpm.symm
        subst hpm
        refine st_istore (by decide) (lc' := [(2, 20), (0, x1), (2, 23), (0, x3), (0, x4), (0, (mem 22 ((mem 20 3) - 1))), (0, ((mset mem 20 3 ((mem 20 3) - 1)) 22 (((mset mem 20 3 ((mem 20 3) - 1)) 20 3) - 1)))]) rfl dX2_work_76 ?_
        refine st_aload_n (i := 0) rfl (t := 0) rfl (by decide) dX2_work_78 ?_
        refine st_iload rfl dX2_work_79 ?_
        refine st_iload_n (i := 1) rfl rfl dX2_work_81 ?_
        refine st_iload rfl dX2_work_82 ?_
        refine st_callS (kc2 := 0) (ks2 := 0) (av := [(0, ((mset mem 20 3 ((mem 20 3) - 1)) 22 (((mset mem 20 3 ((mem 20 3) - 1)) 20 3) - 1))), (0, x1), (0, (mem 22 ((mem 20 3) - 1)))]) mr_X2_57 ok_X2_join (c1 h1 h2 h3) rfl rfl hd_d1 (Nat.le_refl 0) (Nat.le_refl 0) (Nat.le_of_ble_eq_true rfl) dX2_work_84 (mQ.elim fun v4 m4 p1 => ?_)
        refine st_callV (kc2 := 0) (ks2 := 0) (av := [(0, v4)]) 20 2 mr_X2_43 ok_X2_push (c_X2_push_20 m4 v4 ((s4 h1 h2 h3 v4 m4 p1)) ((s5 h1 h2 h3 v4 m4 p1))) rfl sh_20 ⟨_, rfl, rfl, by decide⟩ rfl rfl hd1 (Nat.le_refl 0) (Nat.le_refl 0) (Nat.le_of_ble_eq_true rfl) dX2_work_87 (mQv.elim fun m5 hp => ?_)
        have hp := hp.symm
        subst hp
        exact st_return rfl dX2_work_90 (mQv.ret (q1 h1 h2 h3 v4 m4 p1))
      · have h3 : x1 = 33 := by omega
        refine st_aload_n (i := 0) rfl (t := 0) rfl (by decide) dX2_work_47 ?_
        refine st_aload_n (i := 0) rfl (t := 0) rfl (by decide) dX2_work_48 ?_
        refine st_callV (kc2 := 0) (ks2 := 0) (av := []) 20 2 mr_X2_35 ok_X2_pop (c_X2_pop_20 mem ((s6 h1 h2 h3))) rfl sh_20 ⟨_, rfl, rfl, by decide⟩ rfl rfl hd1 (Nat.le_refl 0) (Nat.le_refl 0) (Nat.le_of_ble_eq_true rfl) dX2_work_49 (mQ.elim fun v5 m6 hp => ?_)
        obtain ⟨hpv, hpm⟩ := hp
        subst hpv
        have hpm := hpm.symm
        subst hpm
        refine sr_if_ne 59 (s7 h1 h2 h3) (by decide) dX2_work_52 (fun h4 => ?_) (fun h4 => ?_)
        · have h4 : ¬ (mem 22 ((mem 20 3) - 1)) = 0 := by omega
          refine st_iconst dX2_work_59 ?_
          refine st_callV (kc2 := 0) (ks2 := 0) (av := [(0, 0)]) 20 2 mr_X2_43 ok_X2_push (c_X2_push_20 (mset mem 20 3 ((mem 20 3) - 1)) 0 (⟨by decide, by decide⟩) ((s8 h1 h2 h3 h4))) rfl sh_20 ⟨_, rfl, rfl, by decide⟩ rfl rfl hd1 (Nat.le_refl 0) (Nat.le_refl 0) (Nat.le_of_ble_eq_true rfl) dX2_work_60 (mQv.elim fun m7 hp => ?_)
          have hp := hp.symm
          subst hp
          refine st_goto 90 (by decide) dX2_work_63 ?_
          exact st_return rfl dX2_work_90 (mQv.ret (q2 h1 h2 h3 h4))
        · have h4 : (mem 22 ((mem 20 3) - 1)) = 0 := by omega
          refine st_iconst dX2_work_55 ?_
          refine st_goto 60 (by decide) dX2_work_56 ?_
          refine st_callV (kc2 := 0) (ks2 := 0) (av := [(0, 1)]) 20 2 mr_X2_43 ok_X2_push (c_X2_push_20 (mset mem 20 3 ((mem 20 3) - 1)) 1 (⟨by decide, by decide⟩) ((s9 h1 h2 h3 h4))) rfl sh_20 ⟨_, rfl, rfl, by decide⟩ rfl rfl hd1 (Nat.le_refl 0) (Nat.le_refl 0) (Nat.le_of_ble_eq_true rfl) dX2_work_60 (mQv.elim fun m8 hp => ?_)
          have hp := hp.symm
          subst hp
          refine st_goto 90 (by decide) dX2_work_63 ?_
          exact st_return rfl dX2_work_90 (mQv.ret (q3 h1 h2 h3 h4))
    · have h2 : (isLet x1) := h2
      refine st_aload_n (i := 0) rfl (t := 0) rfl (by decide) dX2_work_26 ?_
      refine st_aload_n (i := 2) rfl (t := 0) rfl (by decide) dX2_work_27 ?_
      refine st_iload_n (i := 1) rfl rfl dX2_work_28 ?_
      refine st_iload_n (i := 3) rfl rfl dX2_work_29 ?_
      refine st_iload rfl dX2_work_30 ?_
      refine st_callV (kc2 := 0) (ks2 := 0) (av := [(0, x1), (0, x3), (0, x4)]) 23 8 mr_X2_51 ok_X8_letter (c_X8_letter mem x1 x3 x4 (s1) ((s10 h1 h2)) ((s11 h1 h2)) ((s12 h1 h2))) rfl sh_23 ⟨_, rfl, rfl, by decide⟩ rfl rfl hd3 (Nat.le_refl 0) (Nat.le_refl 0) (Nat.le_of_ble_eq_true rfl) dX2_work_32 (mQ.elim fun v6 m9 hp => ?_)
      obtain ⟨hpv, hpm⟩ := hp
      subst hpv
      have hpm := hpm.symm
      subst hpm
      refine st_callV (kc2 := 0) (ks2 := 0) (av := [(0, (letterX mem x1 x3 x4))]) 20 2 mr_X2_43 ok_X2_push (c_X2_push_20 mem (letterX mem x1 x3 x4) ((s13 h1 h2)) ((s14 h1 h2))) rfl sh_20 ⟨_, rfl, rfl, by decide⟩ rfl rfl hd1 (Nat.le_refl 0) (Nat.le_refl 0) (Nat.le_of_ble_eq_true rfl) dX2_work_35 (mQv.elim fun m10 hp => ?_)
      have hp := hp.symm
      subst hp
      refine st_goto 90 (by decide) dX2_work_38 ?_
      exact st_return rfl dX2_work_90 (mQv.ret (q4 h1 h2))
  · have h1 : 1000 ≤ x1 := by omega
    refine st_aload_n (i := 0) rfl (t := 0) rfl (by decide) dX2_work_7 ?_
    refine st_iload_n (i := 1) rfl rfl dX2_work_8 ?_
    refine st_sipush rfl dX2_work_9 ?_
    refine st_isub dX2_work_12 ?_
    refine st_callV (kc2 := 0) (ks2 := 0) (av := [(0, (x1 - 1000))]) 20 2 mr_X2_43 ok_X2_push (c_X2_push_20 mem (x1 - 1000) ((s15 h1)) ((s16 h1))) rfl sh_20 ⟨_, rfl, rfl, by decide⟩ rfl rfl hd1 (Nat.le_refl 0) (Nat.le_refl 0) (Nat.le_of_ble_eq_true rfl) dX2_work_13 (mQv.elim fun m11 hp => ?_)
    have hp := hp.symm
    subst hp
    refine st_goto 90 (by decide) dX2_work_16 ?_
    exact st_return rfl dX2_work_90 (mQv.ret (q5 h1))
def lawSt_20 (mem : mmM) (st : List Int) (m : mmM) : Prop := (∀ a, a ≠ 20 → a ≠ 22 → m a = mem a) ∧ (∀ j, j ≠ 3 → m 20 j = mem 20 j) ∧ m 20 3 = (st.length : Int) ∧ stkR (m 22) st
theorem lawSt_push_20 {mem m : mmM} {st : List Int} (v : Int) (h : lawSt_20 mem st m) : lawSt_20 mem (v :: st) (mset (mset m 22 (m 20 3) v) 20 3 (m 20 3 + 1)) := by
  obtain ⟨h1, h2, h3, h4⟩ := h
  refine ⟨fun a a1 a2 => ?_, fun j hj => ?_, ?_, ?_, ?_⟩
  · rw [mset_ne a1, mset_ne a2]
    exact h1 a a1 a2
  · rw [mset_at, if_neg hj, mset_ne (by decide)]
    exact h2 j hj
  · rw [mset_same, h3]
    simp only [List.length_cons]
    omega
  · rw [mset_ne (by decide), h3, mset_same]
  · rw [mset_ne (by decide), h3]
    exact stkR_set st (fun j hj => by rw [mset_at, if_neg (by omega)]) h4
theorem lawSt_pop_20 {mem m : mmM} {st : List Int} {v : Int} (h : lawSt_20 mem (v :: st) m) : lawSt_20 mem st (mset m 20 3 (m 20 3 - 1)) ∧ m 22 (m 20 3 - 1) = v ∧ m 20 3 = (st.length : Int) + 1 := by
  obtain ⟨h1, h2, h3, h4⟩ := h
  have e : m 20 3 - 1 = st.length := by
    rw [h3]
    simp only [List.length_cons]
    omega
  refine ⟨⟨fun a a1 a2 => ?_, fun j hj => ?_, ?_, ?_⟩, ?_, by omega⟩
  · rw [mset_ne a1]
    exact h1 a a1 a2
  · rw [mset_at, if_neg hj]
    exact h2 j hj
  · rw [mset_same, e]
  · rw [mset_ne (by decide)]
    exact h4.2
  · rw [e]
    exact h4.1
theorem c_X2_num_20 (mem m : mmM) (st : List Int) (v s b : Int) (h : lawSt_20 mem st m) (hd : st.length < 64) (hv : 0 ≤ v ∧ v ≤ 1000000) : conv bX2_work 3 [(2, 20), (0, v + 1000), (2, 23), (0, s), (0, b)] m (fun m' => lawSt_20 mem (v :: st) m') := by
  have h3 := h.2.2.1
  refine cn_X2_work_20 (bk_X2_work_20_0 (d1 := 2) (P1 := fun _ _ => True) (fun g => by omega) (fun g => by omega) (fun g => by omega) (fun g => by omega) (fun g => by omega) (fun g => ?_) (s2 := fun g => by omega) (s3 := fun g => by omega) (s4 := fun g => by omega) (s5 := fun g => by omega) (s6 := fun g => by omega) (s7 := fun g => by omega) (s8 := fun g => by omega) (s9 := fun g => by omega) (s10 := fun g => by omega) (s11 := fun g => by omega) (s12 := fun g => by omega) (s13 := fun g => by omega))
  have p := lawSt_push_20 v h
  rw [show v + 1000 - 1000 = v by omega]
  exact p
theorem c_X2_let_20 (mem m : mmM) (st : List Int) (k s b : Int) (h : lawSt_20 mem st m) (hd : st.length < 64) (hs : R32 s) (hb : R32 b) (hn : 0 ≤ mem 23 1 ∧ mem 23 1 ≤ 24) (hv : R32 (letterX m (leF k) s b)) : conv bX2_work 3 [(2, 20), (0, leF k), (2, 23), (0, s), (0, b)] m (fun m' => lawSt_20 mem (letterX m (leF k) s b :: st) m') := by
  have h3 := h.2.2.1
  have l := leF_let k
  have e23 : m 23 = mem 23 := h.1 23 (by decide) (by decide)
  refine cn_X2_work_20 (bk_X2_work_20_0 (d1 := 2) (P1 := fun _ _ => True) (fun g g2 => absurd l.1 g2) (fun g g2 => absurd l.1 g2) (fun g g2 => absurd l.1 g2) (fun g g2 => absurd l.1 g2) (fun g g2 => lawSt_push_20 _ h) (fun g => by omega) (s2 := fun g g2 => absurd l.1 g2) (s3 := fun g g2 => absurd l.1 g2) (s4 := fun g g2 => absurd l.1 g2) (s5 := fun g g2 => absurd l.1 g2) (s6 := fun g g2 => absurd l.1 g2) (s7 := fun g g2 => absurd l.1 g2) (s8 := fun g g2 => absurd l.1 g2) (s9 := fun g g2 => absurd l.1 g2) (s10 := fun g g2 => hs) (s11 := fun g g2 => hb) (s12 := fun g g2 => by rw [e23]; exact hn) (s13 := fun g g2 => by omega) (s14 := fun g => by omega) (s15 := fun g => by omega))
theorem c_X2_not_20 (mem m : mmM) (st : List Int) (a s b : Int) (h : lawSt_20 mem (a :: st) m) (hd : st.length < 64) (ha : a = 0 ∨ a = 1) : conv bX2_work 3 [(2, 20), (0, 33), (2, 23), (0, s), (0, b)] m (fun m' => lawSt_20 mem ((1 - a) :: st) m') := by
  have p := lawSt_pop_20 h
  have nl : ¬ isLet 33 := by unfold isLet; omega
  have e3 : ∀ v, mset m 20 3 v 20 3 = v := fun v => mset_same _ _ _ _
  refine cn_X2_work_20 (bk_X2_work_20_0 (d1 := 2) (P1 := fun _ _ => True) (fun g g2 g3 => by omega) (fun g g2 g3 => by omega) (fun g g2 g3 g4 => ?_) (fun g g2 g3 g4 => ?_) (fun g g2 => absurd g2 nl) (fun g => by omega) (s2 := fun g g2 g3 => by omega) (s3 := fun g g2 g3 => by omega) (s4 := fun g g2 g3 => by omega) (s5 := fun g g2 g3 => by omega) (s6 := fun g g2 g3 => by omega) (s7 := fun g g2 g3 => by rw [p.2.1]; omega) (s8 := fun g g2 g3 g4 => by rw [e3]; omega) (s9 := fun g g2 g3 g4 => by rw [e3]; omega) (s10 := fun g g2 => absurd g2 nl) (s11 := fun g g2 => absurd g2 nl) (s12 := fun g g2 => absurd g2 nl) (s13 := fun g g2 => absurd g2 nl) (s14 := fun g => by omega) (s15 := fun g => by omega))
  · rw [p.2.1] at g4
    have q := lawSt_push_20 0 p.1
    rw [show 1 - a = 0 by omega]
    exact q
  · rw [p.2.1] at g4
    have q := lawSt_push_20 1 p.1
    rw [show 1 - a = 1 by omega]
    exact q
theorem c_X2_op_20 (mem m : mmM) (st : List Int) (c a z s b : Int) (h : lawSt_20 mem (z :: a :: st) m) (hd : st.length + 2 ≤ 64) (hc : c = 2 ∨ c = 3 ∨ c = 4 ∨ c = 5 ∨ c = 6 ∨ c = 7 ∨ c = 8 ∨ c = 10 ∨ c = 11) (ha : -1000000 ≤ a ∧ a ≤ 1000000) (hz : -1000000 ≤ z ∧ z ≤ 1000000) (ht : 10 ≤ c → (a = 0 ∨ a = 1) ∧ (z = 0 ∨ z = 1)) : conv bX2_work 3 [(2, 20), (0, sgF c), (2, 23), (0, s), (0, b)] m (fun m' => lawSt_20 mem (opF c a z :: st) m') := by
  have p := lawSt_pop_20 h
  have p2 := lawSt_pop_20 p.1
  have nl := sgF_not (c := c)
  have n33 : ¬ sgF c = 33 := fun e => by have := sgF_33.mp e; omega
  have e3 : ∀ v, mset m 20 3 v 20 3 = v := fun v => mset_same _ _ _ _
  have lz : ((a :: st).length : Int) = st.length + 1 := by simp only [List.length_cons]; omega
  refine cn_X2_work_20 (bk_X2_work_20_0 (d1 := 2) (P1 := fun v m' => v = opF c a z ∧ lawSt_20 mem st m') (fun g g2 g3 => ?_) (fun g g2 g3 v m4 q => ?_) (fun g g2 g3 => absurd g3 n33) (fun g g2 g3 => absurd g3 n33) (fun g g2 => absurd g2 nl.1) (fun g => by omega) (s2 := fun g g2 g3 => by omega) (s3 := fun g g2 g3 => by rw [e3]; omega) (s4 := fun g g2 g3 v m4 q => by rw [q.1]; exact opF_rng) (s5 := fun g g2 g3 v m4 q => by have := q.2.2.2.1; omega) (s6 := fun g g2 g3 => absurd g3 n33) (s7 := fun g g2 g3 => absurd g3 n33) (s8 := fun g g2 g3 => absurd g3 n33) (s9 := fun g g2 g3 => absurd g3 n33) (s10 := fun g g2 => absurd g2 nl.1) (s11 := fun g g2 => absurd g2 nl.1) (s12 := fun g g2 => absurd g2 nl.1) (s13 := fun g g2 => absurd g2 nl.1) (s14 := fun g => by omega) (s15 := fun g => by omega))
  · rw [p.2.1, p2.2.1]
    refine con.mono (c_X2_join _ a z c hc ha hz ht) (fun v m' q => ⟨q.1, ?_⟩)
    rw [q.2]
    exact p2.1
  · rw [q.1]
    exact lawSt_push_20 _ q.2
theorem c_X2_sign_20 (o : Bool) (mem m : mmM) (st : List Int) (ty : List Bool) (t : tokT) (r : List tokT) (s b : Int) (h : lawSt_20 mem st m) (hw : wfX o ty (t :: r)) (hv : valR ty st) (h64 : st.length ≤ 64) (hs : R32 s) (hb : R32 b) (hn : 0 ≤ mem 23 1 ∧ mem 23 1 ≤ 24) (hL : ∀ k, 0 ≤ k → k < 6 → -1000000 ≤ letterX mem (leF k) s b ∧ letterX mem (leF k) s b ≤ 1000000) : conv bX2_work 3 [(2, 20), (0, encX t), (2, 23), (0, s), (0, b)] m (fun m' => lawSt_20 mem (evTok (fun k => letterX mem (leF k) s b) st t) m' ∧ ∃ ty', valR ty' (evTok (fun k => letterX mem (leF k) s b) st t) ∧ wfX o ty' r ∧ (evTok (fun k => letterX mem (leF k) s b) st t).length ≤ 64) := by
  have hlen := valR_len ty st hv
  have el : ∀ k, letterX m k s b = letterX mem k s b := by
    intro k
    unfold letterX
    rw [h.1 23 (by decide) (by decide), h.1 24 (by decide) (by decide), h.1 26 (by decide) (by decide), h.1 29 (by decide) (by decide), h.1 30 (by decide) (by decide)]
  unfold wfX at hw
  unfold encX evTok
  by_cases c0 : t.1 = 0
  · rw [if_pos c0] at hw ⊢
    rw [if_pos c0]
    refine conv.mono (c_X2_num_20 mem m st t.2 s b h (by omega) hw.2.1) (fun m' q => ⟨q, false :: ty, ⟨?_, hv⟩, hw.2.2, ?_⟩)
    · show -1000000 ≤ t.2 ∧ t.2 ≤ 1000000
      omega
    · simp only [List.length_cons]
      omega
  · rw [if_neg c0] at hw ⊢
    rw [if_neg c0]
    by_cases c1 : t.1 = 1
    · rw [if_pos c1] at hw ⊢
      rw [if_pos c1]
      have lb := hL t.2 hw.2.1.1 hw.2.1.2
      refine conv.mono (c_X2_let_20 mem m st t.2 s b h (by omega) hs hb hn (by rw [el]; omega)) (fun m' q => ⟨?_, false :: ty, ⟨?_, hv⟩, hw.2.2, ?_⟩)
      · rw [el] at q
        exact q
      · exact lb
      · simp only [List.length_cons]
        omega
    · rw [if_neg c1] at hw ⊢
      rw [if_neg c1]
      by_cases c9 : t.1 = 9
      · rw [if_pos c9] at hw ⊢
        obtain ⟨⟨q, e⟩, hw⟩ := hw
        subst e
        match st, hv, h, h64 with
        | a :: st', hv, h, h64 =>
          have ha : a = 0 ∨ a = 1 := hv.1
          have l64 : st'.length + 1 ≤ 64 := h64
          rw [c9, show sgF 9 = 33 by decide]
          refine conv.mono (c_X2_not_20 mem m st' a s b h (by omega) ha) (fun m' w => ⟨w, true :: q, ⟨?_, hv.2⟩, hw, h64⟩)
          show 1 - a = 0 ∨ 1 - a = 1
          omega
      · rw [if_neg c9] at hw ⊢
        have go : ∀ (a z : Int) (st' : List Int) (q : List Bool) (o2 : Bool), st = z :: a :: st' → valR q st' → wfX o (o2 :: q) r → (-1000000 ≤ a ∧ a ≤ 1000000) → (-1000000 ≤ z ∧ z ≤ 1000000) → (t.1 = 2 ∨ t.1 = 3 ∨ t.1 = 4 ∨ t.1 = 5 ∨ t.1 = 6 ∨ t.1 = 7 ∨ t.1 = 8 ∨ t.1 = 10 ∨ t.1 = 11) → (10 ≤ t.1 → (a = 0 ∨ a = 1) ∧ (z = 0 ∨ z = 1)) → (o2 = true → 6 ≤ t.1) →
            conv bX2_work 3 [(2, 20), (0, sgF t.1), (2, 23), (0, s), (0, b)] m (fun m' => lawSt_20 mem (opF t.1 a z :: st') m' ∧ ∃ ty', valR ty' (opF t.1 a z :: st') ∧ wfX o ty' r ∧ (opF t.1 a z :: st').length ≤ 64) := by
          intro a z st' q o2 e hq hw2 ha hz hc ht ho
          subst e
          have l64 : st'.length + 1 + 1 ≤ 64 := h64
          refine conv.mono (c_X2_op_20 mem m st' t.1 a z s b h (by omega) hc ha hz ht) (fun m' w => ⟨w, o2 :: q, ⟨?_, hq⟩, hw2, ?_⟩)
          · cases o2 with
            | true => exact opF_truth (ho rfl)
            | false => exact opF_bnd _ _ _
          · show st'.length + 1 ≤ 64
            omega
        by_cases c10 : t.1 = 10 ∨ t.1 = 11
        · rw [if_pos c10] at hw
          obtain ⟨q, e, hw⟩ := hw
          rw [e] at hv
          obtain ⟨z, a, st', e2, hz, ha, hq⟩ := valR_two hv
          have hz : z = 0 ∨ z = 1 := hz
          have ha : a = 0 ∨ a = 1 := ha
          have g := go a z st' q true e2 hq hw (by omega) (by omega) (by omega) (fun _ => ⟨ha, hz⟩) (fun _ => by omega)
          subst e2
          exact g
        · rw [if_neg c10] at hw
          by_cases c6 : 6 ≤ t.1 ∧ t.1 ≤ 8
          · rw [if_pos c6] at hw
            obtain ⟨q, e, hw⟩ := hw
            rw [e] at hv
            obtain ⟨z, a, st', e2, hz, ha, hq⟩ := valR_two hv
            have g := go a z st' q true e2 hq hw ha hz (by omega) (fun _ => by omega) (fun _ => by omega)
            subst e2
            exact g
          · rw [if_neg c6] at hw
            obtain ⟨h2, q, e, hw⟩ := hw
            rw [e] at hv
            obtain ⟨z, a, st', e2, hz, ha, hq⟩ := valR_two hv
            have g := go a z st' q false e2 hq hw ha hz (by omega) (fun _ => by omega) (fun z => by cases z)
            subst e2
            exact g
theorem cn_X2_worth_11 {d : Nat} {P : Int → mmM → Prop} {mem : mmM} {x2 x3 : Int} (h : mmT bX2_worth d 0 0 (mQ 0 P) 0 [(2, 11), (2, 23), (0, x2), (0, x3), (9, 0), (9, 0), (9, 0)] [] mS mem) : con 0 bX2_worth d [(2, 11), (2, 23), (0, x2), (0, x3)] mem P := mmC_of [(2, 11), (2, 23), (0, x2), (0, x3), (9, 0), (9, 0), (9, 0)] ok_X2_worth.2.2.2.2 rfl (Nat.le_of_ble_eq_true rfl) h
theorem bk_X2_worth_11_0 {d : Nat} {P : Int → mmM → Prop} {mem : mmM} {x2 x3 : Int}
  (k1 : mmT bX2_worth d 0 0 (mQ 0 P) 11 [(2, 11), (2, 23), (0, x2), (0, x3), (0, 0), (0, 0), (9, 0)] [] mS (mset mem 11 3 0))
  : mmT bX2_worth d 0 0 (mQ 0 P) 0 [(2, 11), (2, 23), (0, x2), (0, x3), (9, 0), (9, 0), (9, 0)] [] mS mem := by
  refine st_aload_n (i := 0) rfl (t := 0) rfl (by decide) dX2_worth_0 ?_
  refine st_iconst dX2_worth_1 ?_
  refine so_putI 11 3 fr_X2_32_2 pf_2_3 fo_11_3 rfl sh_11 ⟨by decide, by decide⟩ dX2_worth_2 ?_
  refine st_iconst dX2_worth_5 ?_
  refine st_istore (by decide) (lc' := [(2, 11), (2, 23), (0, x2), (0, x3), (0, 0), (9, 0), (9, 0)]) rfl dX2_worth_6 ?_
  refine st_iconst dX2_worth_8 ?_
  refine st_istore (by decide) (lc' := [(2, 11), (2, 23), (0, x2), (0, x3), (0, 0), (0, 0), (9, 0)]) rfl dX2_worth_9 ?_
  exact st_locals [(2, 11), (2, 23), (0, x2), (0, x3), (0, 0), (0, 0), (9, 0)] ⟨Or.inr rfl, Or.inr rfl, Or.inr rfl, Or.inr rfl, Or.inr rfl, Or.inr rfl, Or.inl rfl, trivial⟩ k1
theorem bk_X2_worth_11_11 {d : Nat} {d1 : Nat} {P1 : mmM → Prop} {P : Int → mmM → Prop} {mem : mmM} {x2 x3 x4 x5 : Int}
  (c1 : x5 < (mem 11 1) → x4 = 0 → ¬ (mem 12 x5) = 59 → ¬ (mem 12 x5) = 63 → conv bX2_work d1 [(2, 11), (0, (mem 12 x5)), (2, 23), (0, x2), (0, x3)] mem P1)
  (k1 : x5 < (mem 11 1) → x4 = 0 → ¬ (mem 12 x5) = 59 → ¬ (mem 12 x5) = 63 → ∀ (m1 : mmM), P1 m1 → mmT bX2_worth d 0 0 (mQ 0 P) 11 [(2, 11), (2, 23), (0, x2), (0, x3), (0, x4), (0, (x5 + 1)), (9, 0)] [] mS m1)
  (k2 : x5 < (mem 11 1) → x4 = 0 → ¬ (mem 12 x5) = 59 → (mem 12 x5) = 63 → ¬ (mem 13 ((mem 11 3) - 1)) = 0 → mmT bX2_worth d 0 0 (mQ 0 P) 11 [(2, 11), (2, 23), (0, x2), (0, x3), (0, 0), (0, (x5 + 1)), (9, 0)] [] mS (mset mem 11 3 ((mem 11 3) - 1)))
  (k3 : x5 < (mem 11 1) → x4 = 0 → ¬ (mem 12 x5) = 59 → (mem 12 x5) = 63 → (mem 13 ((mem 11 3) - 1)) = 0 → mmT bX2_worth d 0 0 (mQ 0 P) 11 [(2, 11), (2, 23), (0, x2), (0, x3), (0, 1), (0, (x5 + 1)), (9, 0)] [] mS (mset mem 11 3 ((mem 11 3) - 1)))
  (k4 : x5 < (mem 11 1) → ¬ x4 = 0 → (mem 12 x5) = 59 → mmT bX2_worth d 0 0 (mQ 0 P) 11 [(2, 11), (2, 23), (0, x2), (0, x3), (0, 0), (0, (x5 + 1)), (9, 0)] [] mS mem)
  (k5 : x5 < (mem 11 1) → ¬ x4 = 0 → ¬ (mem 12 x5) = 59 → mmT bX2_worth d 0 0 (mQ 0 P) 11 [(2, 11), (2, 23), (0, x2), (0, x3), (0, 1), (0, (x5 + 1)), (9, 0)] [] mS mem)
  (q1 : (mem 11 1) ≤ x5 → P 0 mem)
  (q2 : x5 < (mem 11 1) → x4 = 0 → (mem 12 x5) = 59 → P (mem 13 ((mem 11 3) - 1)) (mset mem 11 3 ((mem 11 3) - 1)))
  (hd_d1 : d1 + 1 ≤ d := by omega)
  (hd1 : 1 ≤ d := by omega)
  (s1 : R32 x5 := by intros; first | omega | assumption | solve_by_elim)
  (s2 : x5 < (mem 11 1) → 0 ≤ x5 ∧ x5 < 160 := by intros; first | omega | assumption | solve_by_elim)
  (s3 : x5 < (mem 11 1) → R32 x4 := by intros; first | omega | assumption | solve_by_elim)
  (s4 : x5 < (mem 11 1) → x4 = 0 → ¬ (mem 12 x5) = 59 → (mem 12 x5) = 63 → 0 < (mem 11 3) ∧ (mem 11 3) ≤ 64 := by intros; first | omega | assumption | solve_by_elim)
  (s5 : x5 < (mem 11 1) → x4 = 0 → ¬ (mem 12 x5) = 59 → (mem 12 x5) = 63 → R32 (mem 13 ((mem 11 3) - 1)) := by intros; first | omega | assumption | solve_by_elim)
  (s6 : x5 < (mem 11 1) → x4 = 0 → (mem 12 x5) = 59 → 0 < (mem 11 3) ∧ (mem 11 3) ≤ 64 := by intros; first | omega | assumption | solve_by_elim)
  : mmT bX2_worth d 0 0 (mQ 0 P) 11 [(2, 11), (2, 23), (0, x2), (0, x3), (0, x4), (0, x5), (9, 0)] [] mS mem := by
  refine st_iload rfl dX2_worth_11 ?_
  refine st_aload_n (i := 0) rfl (t := 0) rfl (by decide) dX2_worth_13 ?_
  refine so_getI (v := (mem 11 1)) 11 1 fr_X2_30_2 rfl sh_11 rfl dX2_worth_14 (fun r1 => ?_)
  refine sr_icmp_ge 102 s1 r1 (by decide) dX2_worth_17 (fun h1 => ?_) (fun h1 => ?_)
  · have h1 : (mem 11 1) ≤ x5 := by omega
    refine st_iconst dX2_worth_102 ?_
    exact st_ireturn rfl dX2_worth_103 (mQ.ret (q1 h1))
  · have h1 : x5 < (mem 11 1) := by omega
    refine st_aload_n (i := 0) rfl (t := 0) rfl (by decide) dX2_worth_20 ?_
    refine so_getA 11 0 fr_X2_11_2 rfl sh_11 fx_11_0 dX2_worth_21 ?_
    refine st_iload rfl dX2_worth_24 ?_
    refine so_iald (v := (mem 12 x5)) 12 rfl sh_12 (by decide) (s2 h1) rfl dX2_worth_26 (fun r2 => ?_)
    refine st_istore (by decide) (lc' := [(2, 11), (2, 23), (0, x2), (0, x3), (0, x4), (0, x5), (0, (mem 12 x5))]) rfl dX2_worth_27 ?_
    refine st_iload rfl dX2_worth_29 ?_
    refine sr_if_eq 51 (s3 h1) (by decide) dX2_worth_31 (fun h2 => ?_) (fun h2 => ?_)
    · have h2 : x4 = 0 := by omega
      refine st_iload rfl dX2_worth_51 ?_
      refine st_bipush rfl dX2_worth_53 ?_
      refine sr_icmp_ne 63 r2 ⟨by decide, by decide⟩ (by decide) dX2_worth_55 (fun h3 => ?_) (fun h3 => ?_)
      · have h3 : ¬ (mem 12 x5) = 59 := by omega
        refine st_iload rfl dX2_worth_63 ?_
        refine st_bipush rfl dX2_worth_65 ?_
        refine sr_icmp_ne 87 r2 ⟨by decide, by decide⟩ (by decide) dX2_worth_67 (fun h4 => ?_) (fun h4 => ?_)
        · have h4 : ¬ (mem 12 x5) = 63 := by omega
          refine st_aload_n (i := 0) rfl (t := 0) rfl (by decide) dX2_worth_87 ?_
          refine st_iload rfl dX2_worth_88 ?_
          refine st_aload_n (i := 1) rfl (t := 0) rfl (by decide) dX2_worth_90 ?_
          refine st_iload_n (i := 2) rfl rfl dX2_worth_91 ?_
          refine st_iload_n (i := 3) rfl rfl dX2_worth_92 ?_
          refine st_callV (kc2 := 0) (ks2 := 0) (av := [(0, (mem 12 x5)), (2, 23), (0, x2), (0, x3)]) 11 2 mr_X2_39 ok_X2_work (c1 h1 h2 h3 h4) rfl sh_11 ⟨_, rfl, rfl, by decide⟩ rfl rfl hd_d1 (Nat.le_refl 0) (Nat.le_refl 0) (Nat.le_of_ble_eq_true rfl) dX2_worth_93 (mQv.elim fun m1 p1 => ?_)
          refine st_iinc (y := (x5 + 1)) (by decide) (i := 5) rfl rfl (lc' := [(2, 11), (2, 23), (0, x2), (0, x3), (0, x4), (0, (x5 + 1)), (0, (mem 12 x5))]) rfl dX2_worth_96 ?_
          refine st_goto 11 (by decide) dX2_worth_99 ?_
          exact st_locals [(2, 11), (2, 23), (0, x2), (0, x3), (0, x4), (0, (x5 + 1)), (9, 0)] ⟨Or.inr rfl, Or.inr rfl, Or.inr rfl, Or.inr rfl, Or.inr rfl, Or.inr rfl, Or.inl rfl, trivial⟩ (k1 h1 h2 h3 h4 m1 p1)
        · have h4 : (mem 12 x5) = 63 := by omega
          refine st_aload_n (i := 0) rfl (t := 0) rfl (by decide) dX2_worth_70 ?_
          refine st_callV (kc2 := 0) (ks2 := 0) (av := []) 11 2 mr_X2_35 ok_X2_pop (c_X2_pop_11 mem ((s4 h1 h2 h3 h4))) rfl sh_11 ⟨_, rfl, rfl, by decide⟩ rfl rfl hd1 (Nat.le_refl 0) (Nat.le_refl 0) (Nat.le_of_ble_eq_true rfl) dX2_worth_71 (mQ.elim fun v1 m2 hp => ?_)
          obtain ⟨hpv, hpm⟩ := hp
          subst hpv
          have hpm := hpm.symm
          subst hpm
          refine sr_if_ne 81 (s5 h1 h2 h3 h4) (by decide) dX2_worth_74 (fun h5 => ?_) (fun h5 => ?_)
          · have h5 : ¬ (mem 13 ((mem 11 3) - 1)) = 0 := by omega
            refine st_iconst dX2_worth_81 ?_
            refine st_istore (by decide) (lc' := [(2, 11), (2, 23), (0, x2), (0, x3), (0, 0), (0, x5), (0, (mem 12 x5))]) rfl dX2_worth_82 ?_
            refine st_goto 96 (by decide) dX2_worth_84 ?_
            refine st_iinc (y := (x5 + 1)) (by decide) (i := 5) rfl rfl (lc' := [(2, 11), (2, 23), (0, x2), (0, x3), (0, 0), (0, (x5 + 1)), (0, (mem 12 x5))]) rfl dX2_worth_96 ?_
            refine st_goto 11 (by decide) dX2_worth_99 ?_
            exact st_locals [(2, 11), (2, 23), (0, x2), (0, x3), (0, 0), (0, (x5 + 1)), (9, 0)] ⟨Or.inr rfl, Or.inr rfl, Or.inr rfl, Or.inr rfl, Or.inr rfl, Or.inr rfl, Or.inl rfl, trivial⟩ (k2 h1 h2 h3 h4 h5)
          · have h5 : (mem 13 ((mem 11 3) - 1)) = 0 := by omega
            refine st_iconst dX2_worth_77 ?_
            refine st_goto 82 (by decide) dX2_worth_78 ?_
            refine st_istore (by decide) (lc' := [(2, 11), (2, 23), (0, x2), (0, x3), (0, 1), (0, x5), (0, (mem 12 x5))]) rfl dX2_worth_82 ?_
            refine st_goto 96 (by decide) dX2_worth_84 ?_
            refine st_iinc (y := (x5 + 1)) (by decide) (i := 5) rfl rfl (lc' := [(2, 11), (2, 23), (0, x2), (0, x3), (0, 1), (0, (x5 + 1)), (0, (mem 12 x5))]) rfl dX2_worth_96 ?_
            refine st_goto 11 (by decide) dX2_worth_99 ?_
            exact st_locals [(2, 11), (2, 23), (0, x2), (0, x3), (0, 1), (0, (x5 + 1)), (9, 0)] ⟨Or.inr rfl, Or.inr rfl, Or.inr rfl, Or.inr rfl, Or.inr rfl, Or.inr rfl, Or.inl rfl, trivial⟩ (k3 h1 h2 h3 h4 h5)
      · have h3 : (mem 12 x5) = 59 := by omega
        refine st_aload_n (i := 0) rfl (t := 0) rfl (by decide) dX2_worth_58 ?_
        refine st_callV (kc2 := 0) (ks2 := 0) (av := []) 11 2 mr_X2_35 ok_X2_pop (c_X2_pop_11 mem ((s6 h1 h2 h3))) rfl sh_11 ⟨_, rfl, rfl, by decide⟩ rfl rfl hd1 (Nat.le_refl 0) (Nat.le_refl 0) (Nat.le_of_ble_eq_true rfl) dX2_worth_59 (mQ.elim fun v2 m3 hp => ?_)
        obtain ⟨hpv, hpm⟩ := hp
        subst hpv
        have hpm := hpm.symm
        subst hpm
        exact st_ireturn rfl dX2_worth_62 (mQ.ret (q2 h1 h2 h3))
    · have h2 : ¬ x4 = 0 := by omega
      refine st_iload rfl dX2_worth_34 ?_
      refine st_bipush rfl dX2_worth_36 ?_
      refine sr_icmp_eq 45 r2 ⟨by decide, by decide⟩ (by decide) dX2_worth_38 (fun h6 => ?_) (fun h6 => ?_)
      · have h6 : (mem 12 x5) = 59 := by omega
        refine st_iconst dX2_worth_45 ?_
        refine st_istore (by decide) (lc' := [(2, 11), (2, 23), (0, x2), (0, x3), (0, 0), (0, x5), (0, (mem 12 x5))]) rfl dX2_worth_46 ?_
        refine st_goto 96 (by decide) dX2_worth_48 ?_
        refine st_iinc (y := (x5 + 1)) (by decide) (i := 5) rfl rfl (lc' := [(2, 11), (2, 23), (0, x2), (0, x3), (0, 0), (0, (x5 + 1)), (0, (mem 12 x5))]) rfl dX2_worth_96 ?_
        refine st_goto 11 (by decide) dX2_worth_99 ?_
        exact st_locals [(2, 11), (2, 23), (0, x2), (0, x3), (0, 0), (0, (x5 + 1)), (9, 0)] ⟨Or.inr rfl, Or.inr rfl, Or.inr rfl, Or.inr rfl, Or.inr rfl, Or.inr rfl, Or.inl rfl, trivial⟩ (k4 h1 h2 h6)
      · have h6 : ¬ (mem 12 x5) = 59 := by omega
        refine st_iconst dX2_worth_41 ?_
        refine st_goto 46 (by decide) dX2_worth_42 ?_
        refine st_istore (by decide) (lc' := [(2, 11), (2, 23), (0, x2), (0, x3), (0, 1), (0, x5), (0, (mem 12 x5))]) rfl dX2_worth_46 ?_
        refine st_goto 96 (by decide) dX2_worth_48 ?_
        refine st_iinc (y := (x5 + 1)) (by decide) (i := 5) rfl rfl (lc' := [(2, 11), (2, 23), (0, x2), (0, x3), (0, 1), (0, (x5 + 1)), (0, (mem 12 x5))]) rfl dX2_worth_96 ?_
        refine st_goto 11 (by decide) dX2_worth_99 ?_
        exact st_locals [(2, 11), (2, 23), (0, x2), (0, x3), (0, 1), (0, (x5 + 1)), (9, 0)] ⟨Or.inr rfl, Or.inr rfl, Or.inr rfl, Or.inr rfl, Or.inr rfl, Or.inr rfl, Or.inl rfl, trivial⟩ (k5 h1 h2 h6)
theorem run_11 (o : Bool) (mem : mmM) (s b : Int) (P : Int → mmM → Prop) (hs : R32 s) (hb : R32 b) (hn : 0 ≤ mem 23 1 ∧ mem 23 1 ≤ 24) (hL : ∀ k, 0 ≤ k → k < 6 → -1000000 ≤ letterX mem (leF k) s b ∧ letterX mem (leF k) s b ≤ 1000000) (hsz : mem 11 1 ≤ 160) : ∀ (ts : List tokT) (p : Int) (st : List Int) (ty : List Bool) (m : mmM), tokX (mem 12) p ts → wfX o ty ts → valR ty st → st.length ≤ 64 → lawSt_11 mem st m → 0 ≤ p → p + ts.length < mem 11 1 →
    (∀ (m' : mmM) (v : Int), evToks (fun k => letterX mem (leF k) s b) st ts = [v] → valR [o] [v] → lawSt_11 mem [v] m' → mmT bX2_worth 4 0 0 (mQ 0 P) 11 [(2, 11), (2, 23), (0, s), (0, b), (0, 0), (0, p + ts.length), (9, 0)] [] mS m') →
    mmT bX2_worth 4 0 0 (mQ 0 P) 11 [(2, 11), (2, 23), (0, s), (0, b), (0, 0), (0, p), (9, 0)] [] mS m := by
  intro ts
  induction ts with
  | nil =>
    intro p st ty m ht hw hv h64 h hp hlt k
    have e : ty = [o] := hw
    rw [e] at hv
    have hl := valR_len _ _ hv
    match st, hl, hv, h, k with
    | [v], _, hv, h, k =>
      have k1 := k m v rfl hv h
      have e0 : p + (([] : List tokT).length : Int) = p := by simp
      rw [e0] at k1
      exact k1
  | cons t r ih =>
    intro p st ty m ht hw hv h64 h hp hlt k
    have hlen : ((t :: r).length : Int) = r.length + 1 := by simp
    rw [hlen] at hlt k
    have e1 : m 11 1 = mem 11 1 := h.2.1 1 (by decide)
    have eC : m 12 = mem 12 := h.1 12 (by decide) (by decide)
    have ec : m 12 p = encX t := by rw [eC]; exact ht.1
    have nt := encX_not hw
    have cs := c_X2_sign_11 o mem m st ty t r s b h hw hv h64 hs hb hn hL
    refine bk_X2_worth_11_11 (d1 := 3) (fun g g2 g3 g4 => by rw [ec]; exact cs) (fun g g2 g3 g4 m1 q => ?_) (fun g g2 g3 g4 => by rw [ec] at g4; exact absurd g4 nt.2) (fun g g2 g3 g4 => by rw [ec] at g4; exact absurd g4 nt.2) (fun g g2 => absurd rfl g2) (fun g g2 => absurd rfl g2) (fun g => by rw [e1] at g; omega) (fun g g2 g3 => by rw [ec] at g3; exact absurd g3 nt.1) (s2 := fun g => by rw [e1] at g; omega) (s4 := fun g g2 g3 g4 => by rw [ec] at g4; exact absurd g4 nt.2) (s5 := fun g g2 g3 g4 => by rw [ec] at g4; exact absurd g4 nt.2) (s6 := fun g g2 g3 => by rw [ec] at g3; exact absurd g3 nt.1)
    obtain ⟨q1, ty', q2, q3, q4⟩ := q
    refine ih (p + 1) _ ty' m1 ht.2 q3 q2 q4 q1 (by omega) (by omega) (fun m' v ev hv' h' => ?_)
    have k1 := k m' v ev hv' h'
    rw [show p + 1 + (r.length : Int) = p + ((r.length : Int) + 1) by omega]
    exact k1
theorem skip_11 (o : Bool) (mem m : mmM) (s b : Int) (P : Int → mmM → Prop) (hs : R32 s) (hb : R32 b) (hsz : mem 11 1 ≤ 160) (eC : m 12 = mem 12) (e1 : m 11 1 = mem 11 1) : ∀ (ts : List tokT) (p : Int) (ty : List Bool), tokX (mem 12) p ts → wfX o ty ts → 0 ≤ p → p + ts.length < mem 11 1 → mem 12 (p + ts.length) = 59 →
    mmT bX2_worth 4 0 0 (mQ 0 P) 11 [(2, 11), (2, 23), (0, s), (0, b), (0, 0), (0, p + ts.length + 1), (9, 0)] [] mS m →
    mmT bX2_worth 4 0 0 (mQ 0 P) 11 [(2, 11), (2, 23), (0, s), (0, b), (0, 1), (0, p), (9, 0)] [] mS m := by
  intro ts
  induction ts with
  | nil =>
    intro p ty ht hw hp hlt h59 k
    have e0 : p + (([] : List tokT).length : Int) = p := by simp
    rw [e0] at hlt h59 k
    exact bk_X2_worth_11_11 (d1 := 3) (P1 := fun _ => True) (fun g g2 => by omega) (fun g g2 => by omega) (fun g g2 => by omega) (fun g g2 => by omega) (fun g g2 g3 => k) (fun g g2 g3 => by rw [eC] at g3; exact absurd h59 g3) (fun g => by rw [e1] at g; omega) (fun g g2 => by omega) (s2 := fun g => by rw [e1] at g; omega) (s4 := fun g g2 => by omega) (s5 := fun g g2 => by omega) (s6 := fun g g2 => by omega)
  | cons t r ih =>
    intro p ty ht hw hp hlt h59 k
    have hlen : ((t :: r).length : Int) = r.length + 1 := by simp
    rw [hlen] at hlt h59 k
    have nt := encX_not hw
    have ec : m 12 p = encX t := by rw [eC]; exact ht.1
    have hw' : ∃ ty', wfX o ty' r := by
      unfold wfX at hw
      by_cases c0 : t.1 = 0
      · rw [if_pos c0] at hw
        exact ⟨_, hw.2.2⟩
      · rw [if_neg c0] at hw
        by_cases c1 : t.1 = 1
        · rw [if_pos c1] at hw
          exact ⟨_, hw.2.2⟩
        · rw [if_neg c1] at hw
          by_cases c9 : t.1 = 9
          · rw [if_pos c9] at hw
            exact ⟨_, hw.2⟩
          · rw [if_neg c9] at hw
            by_cases c10 : t.1 = 10 ∨ t.1 = 11
            · rw [if_pos c10] at hw
              obtain ⟨q, _, h⟩ := hw
              exact ⟨_, h⟩
            · rw [if_neg c10] at hw
              by_cases c6 : 6 ≤ t.1 ∧ t.1 ≤ 8
              · rw [if_pos c6] at hw
                obtain ⟨q, _, h⟩ := hw
                exact ⟨_, h⟩
              · rw [if_neg c6] at hw
                obtain ⟨_, q, _, h⟩ := hw
                exact ⟨_, h⟩
    obtain ⟨ty', hw'⟩ := hw'
    refine bk_X2_worth_11_11 (d1 := 3) (P1 := fun _ => True) (fun g g2 => by omega) (fun g g2 => by omega) (fun g g2 => by omega) (fun g g2 => by omega) (fun g g2 g3 => by rw [ec] at g3; exact absurd g3 nt.1) (fun g g2 g3 => ?_) (fun g => by rw [e1] at g; omega) (fun g g2 => by omega) (s2 := fun g => by rw [e1] at g; omega) (s4 := fun g g2 => by omega) (s5 := fun g g2 => by omega) (s6 := fun g g2 => by omega)
    refine ih (p + 1) ty' ht.2 hw' (by omega) (by omega) ?_ ?_
    · rw [show p + 1 + (r.length : Int) = p + ((r.length : Int) + 1) by omega]
      exact h59
    · rw [show p + 1 + (r.length : Int) + 1 = p + ((r.length : Int) + 1) + 1 by omega]
      exact k
theorem c_X2_worth_11 (mem : mmM) (s b : Int) (cl : lawT) (hs : R32 s) (hb : R32 b) (hn : 0 ≤ mem 23 1 ∧ mem 23 1 ≤ 24) (hL : ∀ k, 0 ≤ k → k < 6 → -1000000 ≤ letterX mem (leF k) s b ∧ letterX mem (leF k) s b ≤ 1000000) (hsz : 0 ≤ mem 11 1 ∧ mem 11 1 ≤ 160) (hl : lawX (mem 12) (mem 11 1) 0 cl) : con 0 bX2_worth 4 [(2, 11), (2, 23), (0, s), (0, b)] mem (fun v m => v = lawV (fun k => letterX mem (leF k) s b) cl ∧ (-1000000 ≤ v ∧ v ≤ 1000000) ∧ (∀ a, a ≠ 11 → a ≠ 13 → m a = mem a) ∧ ∀ j, j ≠ 3 → m 11 j = mem 11 j) := by
  refine cn_X2_worth_11 (bk_X2_worth_11_0 ?_)
  have key : ∀ (c : lawT) (p : Int) (m : mmM), lawX (mem 12) (mem 11 1) p c → 0 ≤ p → lawSt_11 mem [] m → lawV (fun k => letterX mem (leF k) s b) c = lawV (fun k => letterX mem (leF k) s b) cl → mmT bX2_worth 4 0 0 (mQ 0 (fun v m => v = lawV (fun k => letterX mem (leF k) s b) cl ∧ (-1000000 ≤ v ∧ v ≤ 1000000) ∧ (∀ a, a ≠ 11 → a ≠ 13 → m a = mem a) ∧ ∀ j, j ≠ 3 → m 11 j = mem 11 j)) 11 [(2, 11), (2, 23), (0, s), (0, b), (0, 0), (0, p), (9, 0)] [] mS m := by
    intro c
    induction c with
    | nil =>
      intro p m hx hp h he
      have e1 : m 11 1 = mem 11 1 := h.2.1 1 (by decide)
      have hx' : p = mem 11 1 := hx
      refine bk_X2_worth_11_11 (d1 := 3) (P1 := fun _ => True) (fun g => by rw [e1] at g; omega) (fun g => by rw [e1] at g; omega) (fun g => by rw [e1] at g; omega) (fun g => by rw [e1] at g; omega) (fun g => by rw [e1] at g; omega) (fun g => by rw [e1] at g; omega) (fun g => ⟨?_, by omega, h.1, h.2.1⟩) (fun g => by rw [e1] at g; omega) (s2 := fun g => by rw [e1] at g; omega) (s4 := fun g => by rw [e1] at g; omega) (s5 := fun g => by rw [e1] at g; omega) (s6 := fun g => by rw [e1] at g; omega)
      rw [← he]
      rfl
    | cons q r ih =>
      intro p m hx hp h he
      have he' : (if q.1.length = 0 ∨ ¬ top1 (evToks (fun k => letterX mem (leF k) s b) [] q.1) = 0 then top1 (evToks (fun k => letterX mem (leF k) s b) [] q.2) else lawV (fun k => letterX mem (leF k) s b) r) = lawV (fun k => letterX mem (leF k) s b) cl := he
      -- a sum worked out ends the law
      have sum : ∀ (p' : Int) (m' : mmM), lawSt_11 mem [] m' → wfX false [] q.2 → 0 ≤ p' → tokX (mem 12) p' q.2 → mem 12 (p' + q.2.length) = 59 → p' + q.2.length < mem 11 1 → top1 (evToks (fun k => letterX mem (leF k) s b) [] q.2) = lawV (fun k => letterX mem (leF k) s b) cl → mmT bX2_worth 4 0 0 (mQ 0 (fun v m => v = lawV (fun k => letterX mem (leF k) s b) cl ∧ (-1000000 ≤ v ∧ v ≤ 1000000) ∧ (∀ a, a ≠ 11 → a ≠ 13 → m a = mem a) ∧ ∀ j, j ≠ 3 → m 11 j = mem 11 j)) 11 [(2, 11), (2, 23), (0, s), (0, b), (0, 0), (0, p'), (9, 0)] [] mS m' := by
        intro p' m' h' hw hp' ht h59 hlt ev
        refine run_11 false mem s b _ hs hb hn hL hsz.2 q.2 p' [] [] m' ht hw trivial (by decide) h' hp' hlt (fun m2 v e2 hv2 h2 => ?_)
        have pp := lawSt_pop_11 h2
        have e1 : m2 11 1 = mem 11 1 := h2.2.1 1 (by decide)
        have eC : m2 12 = mem 12 := h2.1 12 (by decide) (by decide)
        have e3 : m2 11 3 = 1 := pp.2.2
        refine bk_X2_worth_11_11 (d1 := 3) (P1 := fun _ => True) (fun g g2 g3 => by rw [eC] at g3; exact absurd h59 g3) (fun g g2 g3 => by rw [eC] at g3; exact absurd h59 g3) (fun g g2 g3 => by rw [eC] at g3; exact absurd h59 g3) (fun g g2 g3 => by rw [eC] at g3; exact absurd h59 g3) (fun g g2 => absurd rfl g2) (fun g g2 => absurd rfl g2) (fun g => by rw [e1] at g; omega) (fun g g2 g3 => ⟨?_, by rw [pp.2.1]; exact hv2.1, pp.1.1, pp.1.2.1⟩) (s2 := fun g => by rw [e1] at g; omega) (s4 := fun g g2 g3 => by rw [eC] at g3; exact absurd h59 g3) (s5 := fun g g2 g3 => by rw [eC] at g3; exact absurd h59 g3) (s6 := fun g g2 g3 => by omega)
        rw [pp.2.1, ← ev, e2]
        rfl
      obtain ⟨hw2, hx⟩ := hx
      rcases hx with ⟨h0, t2, h59, hlt, hr⟩ | ⟨hw1, h0, t1, h63, t2, h59, hlt, hr⟩
      · rw [if_pos (Or.inl h0)] at he'
        exact sum p m h hw2 hp t2 h59 hlt he'
      · have l1 : 0 ≤ (q.1.length : Int) := by omega
        have l2 : 0 ≤ (q.2.length : Int) := by omega
        refine run_11 true mem s b _ hs hb hn hL hsz.2 q.1 p [] [] m t1 hw1 trivial (by decide) h hp (by omega) (fun m2 v e2 hv2 h2 => ?_)
        have pp := lawSt_pop_11 h2
        have e1 : m2 11 1 = mem 11 1 := h2.2.1 1 (by decide)
        have eC : m2 12 = mem 12 := h2.1 12 (by decide) (by decide)
        have e3 : m2 11 3 = 1 := pp.2.2
        have vb : v = 0 ∨ v = 1 := hv2.1
        have tv : top1 (evToks (fun k => letterX mem (leF k) s b) [] q.1) = v := by rw [e2]; rfl
        rw [tv] at he'
        refine bk_X2_worth_11_11 (d1 := 3) (P1 := fun _ => True) (fun g g2 g3 g4 => by rw [eC] at g4; exact absurd h63 g4) (fun g g2 g3 g4 => by rw [eC] at g4; exact absurd h63 g4) (fun g g2 g3 g4 g5 => ?_) (fun g g2 g3 g4 g5 => ?_) (fun g g2 => absurd rfl g2) (fun g g2 => absurd rfl g2) (fun g => by rw [e1] at g; omega) (fun g g2 g3 => by rw [eC, h63] at g3; omega) (s2 := fun g => by rw [e1] at g; omega) (s4 := fun g g2 g3 g4 => by omega) (s5 := fun g g2 g3 g4 => by rw [pp.2.1]; omega) (s6 := fun g g2 g3 => by omega)
        · rw [pp.2.1] at g5
          rw [if_pos (Or.inr g5)] at he'
          exact sum _ _ pp.1 hw2 (by omega) t2 h59 hlt he'
        · rw [pp.2.1] at g5
          rw [if_neg (fun z => by rcases z with z | z; · exact h0 z
                                  · exact z g5)] at he'
          have eC' := pp.1.1 12 (by decide) (by decide)
          have e1' := pp.1.2.1 1 (by decide)
          exact skip_11 false mem _ s b _ hs hb hsz.2 eC' e1' q.2 _ [] t2 hw2 (by omega) hlt h59 (ih _ _ hr (by omega) pp.1 he')
  refine key cl 0 _ hl (by omega) ⟨fun a a1 a2 => mset_ne a1, fun j hj => by rw [mset_at, if_neg hj], mset_same _ _ _ _, trivial⟩ rfl
theorem cn_X8_weigh_11 {d : Nat} {P : mmM → Prop} {mem : mmM} (h : mmT bX8_weigh d 0 0 (mQv P) 0 [(2, 23), (2, 11), (9, 0)] [] mS mem) : conv bX8_weigh d [(2, 23), (2, 11)] mem P := mmC_of [(2, 23), (2, 11), (9, 0)] ok_X8_weigh.2.2.2.2 rfl (Nat.le_of_ble_eq_true rfl) h
theorem bk_X8_weigh_11_0 {d : Nat} {P : mmM → Prop} {mem : mmM}
  (k1 : mmT bX8_weigh d 0 0 (mQv P) 2 [(2, 23), (2, 11), (0, 0)] [] mS mem)
  : mmT bX8_weigh d 0 0 (mQv P) 0 [(2, 23), (2, 11), (9, 0)] [] mS mem := by
  refine st_iconst dX8_weigh_0 ?_
  refine st_istore_n (i := 2) rfl (by decide) (lc' := [(2, 23), (2, 11), (0, 0)]) rfl dX8_weigh_1 ?_
  exact st_locals [(2, 23), (2, 11), (0, 0)] ⟨Or.inr rfl, Or.inr rfl, Or.inr rfl, trivial⟩ k1
theorem bk_X8_weigh_11_2 {d : Nat} {d1 : Nat} {P1 : Int → mmM → Prop} {d2 : Nat} {P2 : Int → mmM → Prop} {P : mmM → Prop} {mem : mmM} {x2 : Int}
  (c1 : x2 < (mem 23 1) → con 0 bX2_worth d1 [(2, 11), (2, 23), (0, x2), (0, 0)] mem P1)
  (c2 : x2 < (mem 23 1) → ∀ (v1 : Int), ∀ (m1 : mmM), P1 v1 m1 → con 0 bX2_worth d2 [(2, 11), (2, 23), (0, x2), (0, 1)] (mset m1 31 x2 (percS v1)) P2)
  (k1 : x2 < (mem 23 1) → ∀ (v1 : Int), ∀ (m1 : mmM), P1 v1 m1 → ∀ (v3 : Int), ∀ (m3 : mmM), P2 v3 m3 → mmT bX8_weigh d 0 0 (mQv P) 2 [(2, 23), (2, 11), (0, (x2 + 1))] [] mS (mset m3 32 x2 (percS v3)))
  (q1 : (mem 23 1) ≤ x2 → P mem)
  (hd_d1 : d1 + 1 ≤ d := by omega)
  (hd_d2 : d2 + 1 ≤ d := by omega)
  (hd3 : 3 ≤ d := by omega)
  (s1 : R32 x2 := by intros; first | omega | assumption | solve_by_elim)
  (s2 : x2 < (mem 23 1) → ∀ (v1 : Int), ∀ (m1 : mmM), P1 v1 m1 → R32 v1 := by intros; first | omega | assumption | solve_by_elim)
  (s3 : x2 < (mem 23 1) → ∀ (v1 : Int), ∀ (m1 : mmM), P1 v1 m1 → 0 ≤ x2 ∧ x2 < 24 := by intros; first | omega | assumption | solve_by_elim)
  (s4 : x2 < (mem 23 1) → ∀ (v1 : Int), ∀ (m1 : mmM), P1 v1 m1 → ∀ (v3 : Int), ∀ (m3 : mmM), P2 v3 m3 → R32 v3 := by intros; first | omega | assumption | solve_by_elim)
  : mmT bX8_weigh d 0 0 (mQv P) 2 [(2, 23), (2, 11), (0, x2)] [] mS mem := by
  refine st_iload_n (i := 2) rfl rfl dX8_weigh_2 ?_
  refine st_aload_n (i := 0) rfl (t := 0) rfl (by decide) dX8_weigh_3 ?_
  refine so_getI (v := (mem 23 1)) 23 1 fr_X8_60_8 rfl sh_23 rfl dX8_weigh_4 (fun r1 => ?_)
  refine sr_icmp_ge 64 s1 r1 (by decide) dX8_weigh_7 (fun h1 => ?_) (fun h1 => ?_)
  · have h1 : (mem 23 1) ≤ x2 := by omega
    exact st_return rfl dX8_weigh_64 (mQv.ret (q1 h1))
  · have h1 : x2 < (mem 23 1) := by omega
    refine st_aload_n (i := 0) rfl (t := 0) rfl (by decide) dX8_weigh_10 ?_
    refine so_getA 23 9 fr_X8_33_8 rfl sh_23 fx_23_9 dX8_weigh_11 ?_
    refine st_iload_n (i := 2) rfl rfl dX8_weigh_14 ?_
    refine st_aload_n (i := 1) rfl (t := 0) rfl (by decide) dX8_weigh_15 ?_
    refine st_ifnonnull 23 (by decide) dX8_weigh_16 (fun _ => ?_) (fun h => absurd h (by decide))
    refine st_aload_n (i := 1) rfl (t := 0) rfl (by decide) dX8_weigh_23 ?_
    refine st_aload_n (i := 0) rfl (t := 0) rfl (by decide) dX8_weigh_24 ?_
    refine st_iload_n (i := 2) rfl rfl dX8_weigh_25 ?_
    refine st_iconst dX8_weigh_26 ?_
    refine st_callV (kc2 := 0) (ks2 := 0) (av := [(2, 23), (0, x2), (0, 0)]) 11 2 mr_X8_89 ok_X2_worth (c1 h1) rfl sh_11 ⟨_, rfl, rfl, by decide⟩ rfl rfl hd_d1 (Nat.le_refl 0) (Nat.le_refl 0) (Nat.le_of_ble_eq_true rfl) dX8_weigh_27 (mQ.elim fun v1 m1 p1 => ?_)
    refine st_callS (kc2 := 0) (ks2 := 0) (av := [(0, v1)]) mr_X8_95 ok_X8_percent (c_X8_percent m1 v1 ((s2 h1 v1 m1 p1))) rfl rfl hd3 (Nat.le_refl 0) (Nat.le_refl 0) (Nat.le_of_ble_eq_true rfl) dX8_weigh_30 (mQ.elim fun v2 m2 hp => ?_)
    obtain ⟨hpv, hpm⟩ := hp
    subst hpv
    have hpm := hpm.symm
    subst hpm
    refine so_iast 31 fr_31 rfl sh_31 (by decide) (s3 h1 v1 m1 p1) (percS_rng v1) dX8_weigh_33 ?_
    refine st_aload_n (i := 0) rfl (t := 0) rfl (by decide) dX8_weigh_34 ?_
    refine so_getA 23 10 fr_X8_36_8 rfl sh_23 fx_23_10 dX8_weigh_35 ?_
    refine st_iload_n (i := 2) rfl rfl dX8_weigh_38 ?_
    refine st_aload_n (i := 1) rfl (t := 0) rfl (by decide) dX8_weigh_39 ?_
    refine st_ifnonnull 47 (by decide) dX8_weigh_40 (fun _ => ?_) (fun h => absurd h (by decide))
    refine st_aload_n (i := 1) rfl (t := 0) rfl (by decide) dX8_weigh_47 ?_
    refine st_aload_n (i := 0) rfl (t := 0) rfl (by decide) dX8_weigh_48 ?_
    refine st_iload_n (i := 2) rfl rfl dX8_weigh_49 ?_
    refine st_iconst dX8_weigh_50 ?_
    refine st_callV (kc2 := 0) (ks2 := 0) (av := [(2, 23), (0, x2), (0, 1)]) 11 2 mr_X8_89 ok_X2_worth (c2 h1 v1 m1 p1) rfl sh_11 ⟨_, rfl, rfl, by decide⟩ rfl rfl hd_d2 (Nat.le_refl 0) (Nat.le_refl 0) (Nat.le_of_ble_eq_true rfl) dX8_weigh_51 (mQ.elim fun v3 m3 p2 => ?_)
    refine st_callS (kc2 := 0) (ks2 := 0) (av := [(0, v3)]) mr_X8_95 ok_X8_percent (c_X8_percent m3 v3 ((s4 h1 v1 m1 p1 v3 m3 p2))) rfl rfl hd3 (Nat.le_refl 0) (Nat.le_refl 0) (Nat.le_of_ble_eq_true rfl) dX8_weigh_54 (mQ.elim fun v4 m4 hp => ?_)
    obtain ⟨hpv, hpm⟩ := hp
    subst hpv
    have hpm := hpm.symm
    subst hpm
    refine so_iast 32 fr_32 rfl sh_32 (by decide) (s3 h1 v1 m1 p1) (percS_rng v3) dX8_weigh_57 ?_
    refine st_iinc (y := (x2 + 1)) (by decide) (i := 2) rfl rfl (lc' := [(2, 23), (2, 11), (0, (x2 + 1))]) rfl dX8_weigh_58 ?_
    refine st_goto 2 (by decide) dX8_weigh_61 ?_
    exact st_locals [(2, 23), (2, 11), (0, (x2 + 1))] ⟨Or.inr rfl, Or.inr rfl, Or.inr rfl, trivial⟩ (k1 h1 v1 m1 p1 v3 m3 p2)
theorem c_X8_weigh_11 (mem : mmM) (cl : lawT) (hn : 0 ≤ mem 23 1 ∧ mem 23 1 ≤ 24) (hL : ∀ i b k, 0 ≤ i → i < mem 23 1 → (b = 0 ∨ b = 1) → -1000000 ≤ letterX mem (leF k) i b ∧ letterX mem (leF k) i b ≤ 1000000) (hsz : 0 ≤ mem 11 1 ∧ mem 11 1 ≤ 160) (hl : lawX (mem 12) (mem 11 1) 0 cl) : conv bX8_weigh 5 [(2, 23), (2, 11)] mem (fun m => (∀ a, a ≠ 31 → a ≠ 32 → a ≠ 11 → a ≠ 13 → m a = mem a) ∧ (∀ j, j ≠ 3 → m 11 j = mem 11 j) ∧ ∀ i, 0 ≤ i → i < mem 23 1 → m 31 i = percS (lawV (fun k => letterX mem (leF k) i 0) cl) ∧ m 32 i = percS (lawV (fun k => letterX mem (leF k) i 1) cl)) := by
  refine cn_X8_weigh_11 (bk_X8_weigh_11_0 ?_)
  refine loop_up (n := mem 23 1) (fun i => ∀ m : mmM, (∀ a, a ≠ 31 → a ≠ 32 → a ≠ 11 → a ≠ 13 → m a = mem a) → (∀ j, j ≠ 3 → m 11 j = mem 11 j) → (∀ t, 0 ≤ t → t < i → m 31 t = percS (lawV (fun k => letterX mem (leF k) t 0) cl) ∧ m 32 t = percS (lawV (fun k => letterX mem (leF k) t 1) cl)) → mmT bX8_weigh 5 0 0 (mQv (fun m => (∀ a, a ≠ 31 → a ≠ 32 → a ≠ 11 → a ≠ 13 → m a = mem a) ∧ (∀ j, j ≠ 3 → m 11 j = mem 11 j) ∧ ∀ i, 0 ≤ i → i < mem 23 1 → m 31 i = percS (lawV (fun k => letterX mem (leF k) i 0) cl) ∧ m 32 i = percS (lawV (fun k => letterX mem (leF k) i 1) cl))) 2 [(2, 23), (2, 11), (0, i)] [] mS m) (fun i h0 h1 ih m f g0 d => ?_) 0 (by omega) hn.1 mem (fun a _ _ _ _ => rfl) (fun j _ => rfl) (fun t t0 t1 => by omega)
  have w : ∀ (m' : mmM) (b : Int), (b = 0 ∨ b = 1) → i < mem 23 1 → (∀ a, a ≠ 31 → a ≠ 32 → a ≠ 11 → a ≠ 13 → m' a = mem a) → (∀ j, j ≠ 3 → m' 11 j = mem 11 j) → con 0 bX2_worth 4 [(2, 11), (2, 23), (0, i), (0, b)] m' (fun v m2 => v = lawV (fun k => letterX mem (leF k) i b) cl ∧ (-1000000 ≤ v ∧ v ≤ 1000000) ∧ (∀ a, a ≠ 11 → a ≠ 13 → m2 a = m' a) ∧ ∀ j, j ≠ 3 → m2 11 j = m' 11 j) := by
    intro m' b hb hi f' g'
    have el : letterX m' = letterX mem := by
      funext a c e
      unfold letterX
      rw [f' 23 (by decide) (by decide) (by decide) (by decide), f' 24 (by decide) (by decide) (by decide) (by decide), f' 26 (by decide) (by decide) (by decide) (by decide), f' 29 (by decide) (by decide) (by decide) (by decide), f' 30 (by decide) (by decide) (by decide) (by decide)]
    have c := c_X2_worth_11 m' i b cl (by omega) (by omega) (by rw [f' 23 (by decide) (by decide) (by decide) (by decide)]; exact hn) (fun k _ _ => by rw [el]; exact hL i b k h0 hi hb) (by rw [g' 1 (by decide)]; exact hsz) (by rw [f' 12 (by decide) (by decide) (by decide) (by decide), g' 1 (by decide)]; exact hl)
    rw [el] at c
    exact c
  have e23 : m 23 = mem 23 := f 23 (by decide) (by decide) (by decide) (by decide)
  refine bk_X8_weigh_11_2 (d1 := 4) (d2 := 4) (P1 := fun v m2 => v = lawV (fun k => letterX mem (leF k) i 0) cl ∧ (-1000000 ≤ v ∧ v ≤ 1000000) ∧ (∀ a, a ≠ 11 → a ≠ 13 → m2 a = m a) ∧ ∀ j, j ≠ 3 → m2 11 j = m 11 j) (P2 := fun v m3 => v = lawV (fun k => letterX mem (leF k) i 1) cl ∧ (-1000000 ≤ v ∧ v ≤ 1000000) ∧ (∀ a, a ≠ 31 → a ≠ 11 → a ≠ 13 → m3 a = m a) ∧ m3 31 = (fun j => if j = i then percS (lawV (fun k => letterX mem (leF k) i 0) cl) else m 31 j) ∧ ∀ j, j ≠ 3 → m3 11 j = m 11 j) (fun g => w m 0 (Or.inl rfl) (by rw [e23] at g; exact g) f g0) (fun g v1 m1 q => ?_) (fun g v1 m1 q v3 m3 q3 => ?_) (fun g => ?_) (s2 := fun g v1 m1 q => by have := q.2.1; omega) (s3 := fun g v1 m1 q => by rw [e23] at g; omega) (s4 := fun g v1 m1 q v3 m3 q3 => by have := q3.2.1; omega)
  · rw [e23] at g
    have c := w (mset m1 31 i (percS v1)) 1 (Or.inr rfl) g (fun a a1 a2 a3 a4 => by rw [mset_ne a1]; exact (q.2.2.1 a a3 a4).trans (f a a1 a2 a3 a4)) (fun j hj => by rw [mset_ne (by decide)]; exact (q.2.2.2 j hj).trans (g0 j hj))
    refine con.mono c (fun v m3 z => ⟨z.1, z.2.1, fun a a1 a2 a3 => ?_, ?_, fun j hj => ?_⟩)
    · rw [z.2.2.1 a a2 a3, mset_ne a1]
      exact q.2.2.1 a a2 a3
    · rw [z.2.2.1 31 (by decide) (by decide)]
      funext j
      rw [mset_at, q.2.2.1 31 (by decide) (by decide), q.1]
    · rw [z.2.2.2 j hj, mset_ne (by decide)]
      exact q.2.2.2 j hj
  · rw [e23] at g
    refine ih g _ (fun a a1 a2 a3 a4 => ?_) (fun j hj => ?_) (fun t t0 t1 => ⟨?_, ?_⟩)
    · rw [mset_ne a2, q3.2.2.1 a a1 a3 a4]
      exact f a a1 a2 a3 a4
    · rw [mset_ne (by decide)]
      exact (q3.2.2.2.2 j hj).trans (g0 j hj)
    · rw [mset_ne (by decide), q3.2.2.2.1]
      by_cases z : t = i
      · show (if t = i then _ else _) = _
        rw [if_pos z, z]
      · show (if t = i then _ else _) = _
        rw [if_neg z]
        exact (d t t0 (by omega)).1
    · rw [mset_at]
      by_cases z : t = i
      · rw [if_pos z, q3.1, z]
      · rw [if_neg z, q3.2.2.1 32 (by decide) (by decide) (by decide)]
        exact (d t t0 (by omega)).2
  · rw [e23] at g
    exact ⟨f, g0, fun t t0 t1 => d t t0 (by omega)⟩
theorem cn_X2_worth_14 {d : Nat} {P : Int → mmM → Prop} {mem : mmM} {x2 x3 : Int} (h : mmT bX2_worth d 0 0 (mQ 0 P) 0 [(2, 14), (2, 23), (0, x2), (0, x3), (9, 0), (9, 0), (9, 0)] [] mS mem) : con 0 bX2_worth d [(2, 14), (2, 23), (0, x2), (0, x3)] mem P := mmC_of [(2, 14), (2, 23), (0, x2), (0, x3), (9, 0), (9, 0), (9, 0)] ok_X2_worth.2.2.2.2 rfl (Nat.le_of_ble_eq_true rfl) h
theorem bk_X2_worth_14_0 {d : Nat} {P : Int → mmM → Prop} {mem : mmM} {x2 x3 : Int}
  (k1 : mmT bX2_worth d 0 0 (mQ 0 P) 11 [(2, 14), (2, 23), (0, x2), (0, x3), (0, 0), (0, 0), (9, 0)] [] mS (mset mem 14 3 0))
  : mmT bX2_worth d 0 0 (mQ 0 P) 0 [(2, 14), (2, 23), (0, x2), (0, x3), (9, 0), (9, 0), (9, 0)] [] mS mem := by
  refine st_aload_n (i := 0) rfl (t := 0) rfl (by decide) dX2_worth_0 ?_
  refine st_iconst dX2_worth_1 ?_
  refine so_putI 14 3 fr_X2_32_2 pf_2_3 fo_14_3 rfl sh_14 ⟨by decide, by decide⟩ dX2_worth_2 ?_
  refine st_iconst dX2_worth_5 ?_
  refine st_istore (by decide) (lc' := [(2, 14), (2, 23), (0, x2), (0, x3), (0, 0), (9, 0), (9, 0)]) rfl dX2_worth_6 ?_
  refine st_iconst dX2_worth_8 ?_
  refine st_istore (by decide) (lc' := [(2, 14), (2, 23), (0, x2), (0, x3), (0, 0), (0, 0), (9, 0)]) rfl dX2_worth_9 ?_
  exact st_locals [(2, 14), (2, 23), (0, x2), (0, x3), (0, 0), (0, 0), (9, 0)] ⟨Or.inr rfl, Or.inr rfl, Or.inr rfl, Or.inr rfl, Or.inr rfl, Or.inr rfl, Or.inl rfl, trivial⟩ k1
theorem bk_X2_worth_14_11 {d : Nat} {d1 : Nat} {P1 : mmM → Prop} {P : Int → mmM → Prop} {mem : mmM} {x2 x3 x4 x5 : Int}
  (c1 : x5 < (mem 14 1) → x4 = 0 → ¬ (mem 15 x5) = 59 → ¬ (mem 15 x5) = 63 → conv bX2_work d1 [(2, 14), (0, (mem 15 x5)), (2, 23), (0, x2), (0, x3)] mem P1)
  (k1 : x5 < (mem 14 1) → x4 = 0 → ¬ (mem 15 x5) = 59 → ¬ (mem 15 x5) = 63 → ∀ (m1 : mmM), P1 m1 → mmT bX2_worth d 0 0 (mQ 0 P) 11 [(2, 14), (2, 23), (0, x2), (0, x3), (0, x4), (0, (x5 + 1)), (9, 0)] [] mS m1)
  (k2 : x5 < (mem 14 1) → x4 = 0 → ¬ (mem 15 x5) = 59 → (mem 15 x5) = 63 → ¬ (mem 16 ((mem 14 3) - 1)) = 0 → mmT bX2_worth d 0 0 (mQ 0 P) 11 [(2, 14), (2, 23), (0, x2), (0, x3), (0, 0), (0, (x5 + 1)), (9, 0)] [] mS (mset mem 14 3 ((mem 14 3) - 1)))
  (k3 : x5 < (mem 14 1) → x4 = 0 → ¬ (mem 15 x5) = 59 → (mem 15 x5) = 63 → (mem 16 ((mem 14 3) - 1)) = 0 → mmT bX2_worth d 0 0 (mQ 0 P) 11 [(2, 14), (2, 23), (0, x2), (0, x3), (0, 1), (0, (x5 + 1)), (9, 0)] [] mS (mset mem 14 3 ((mem 14 3) - 1)))
  (k4 : x5 < (mem 14 1) → ¬ x4 = 0 → (mem 15 x5) = 59 → mmT bX2_worth d 0 0 (mQ 0 P) 11 [(2, 14), (2, 23), (0, x2), (0, x3), (0, 0), (0, (x5 + 1)), (9, 0)] [] mS mem)
  (k5 : x5 < (mem 14 1) → ¬ x4 = 0 → ¬ (mem 15 x5) = 59 → mmT bX2_worth d 0 0 (mQ 0 P) 11 [(2, 14), (2, 23), (0, x2), (0, x3), (0, 1), (0, (x5 + 1)), (9, 0)] [] mS mem)
  (q1 : (mem 14 1) ≤ x5 → P 0 mem)
  (q2 : x5 < (mem 14 1) → x4 = 0 → (mem 15 x5) = 59 → P (mem 16 ((mem 14 3) - 1)) (mset mem 14 3 ((mem 14 3) - 1)))
  (hd_d1 : d1 + 1 ≤ d := by omega)
  (hd1 : 1 ≤ d := by omega)
  (s1 : R32 x5 := by intros; first | omega | assumption | solve_by_elim)
  (s2 : x5 < (mem 14 1) → 0 ≤ x5 ∧ x5 < 160 := by intros; first | omega | assumption | solve_by_elim)
  (s3 : x5 < (mem 14 1) → R32 x4 := by intros; first | omega | assumption | solve_by_elim)
  (s4 : x5 < (mem 14 1) → x4 = 0 → ¬ (mem 15 x5) = 59 → (mem 15 x5) = 63 → 0 < (mem 14 3) ∧ (mem 14 3) ≤ 64 := by intros; first | omega | assumption | solve_by_elim)
  (s5 : x5 < (mem 14 1) → x4 = 0 → ¬ (mem 15 x5) = 59 → (mem 15 x5) = 63 → R32 (mem 16 ((mem 14 3) - 1)) := by intros; first | omega | assumption | solve_by_elim)
  (s6 : x5 < (mem 14 1) → x4 = 0 → (mem 15 x5) = 59 → 0 < (mem 14 3) ∧ (mem 14 3) ≤ 64 := by intros; first | omega | assumption | solve_by_elim)
  : mmT bX2_worth d 0 0 (mQ 0 P) 11 [(2, 14), (2, 23), (0, x2), (0, x3), (0, x4), (0, x5), (9, 0)] [] mS mem := by
  refine st_iload rfl dX2_worth_11 ?_
  refine st_aload_n (i := 0) rfl (t := 0) rfl (by decide) dX2_worth_13 ?_
  refine so_getI (v := (mem 14 1)) 14 1 fr_X2_30_2 rfl sh_14 rfl dX2_worth_14 (fun r1 => ?_)
  refine sr_icmp_ge 102 s1 r1 (by decide) dX2_worth_17 (fun h1 => ?_) (fun h1 => ?_)
  · have h1 : (mem 14 1) ≤ x5 := by omega
    refine st_iconst dX2_worth_102 ?_
    exact st_ireturn rfl dX2_worth_103 (mQ.ret (q1 h1))
  · have h1 : x5 < (mem 14 1) := by omega
    refine st_aload_n (i := 0) rfl (t := 0) rfl (by decide) dX2_worth_20 ?_
    refine so_getA 14 0 fr_X2_11_2 rfl sh_14 fx_14_0 dX2_worth_21 ?_
    refine st_iload rfl dX2_worth_24 ?_
    refine so_iald (v := (mem 15 x5)) 15 rfl sh_15 (by decide) (s2 h1) rfl dX2_worth_26 (fun r2 => ?_)
    refine st_istore (by decide) (lc' := [(2, 14), (2, 23), (0, x2), (0, x3), (0, x4), (0, x5), (0, (mem 15 x5))]) rfl dX2_worth_27 ?_
    refine st_iload rfl dX2_worth_29 ?_
    refine sr_if_eq 51 (s3 h1) (by decide) dX2_worth_31 (fun h2 => ?_) (fun h2 => ?_)
    · have h2 : x4 = 0 := by omega
      refine st_iload rfl dX2_worth_51 ?_
      refine st_bipush rfl dX2_worth_53 ?_
      refine sr_icmp_ne 63 r2 ⟨by decide, by decide⟩ (by decide) dX2_worth_55 (fun h3 => ?_) (fun h3 => ?_)
      · have h3 : ¬ (mem 15 x5) = 59 := by omega
        refine st_iload rfl dX2_worth_63 ?_
        refine st_bipush rfl dX2_worth_65 ?_
        refine sr_icmp_ne 87 r2 ⟨by decide, by decide⟩ (by decide) dX2_worth_67 (fun h4 => ?_) (fun h4 => ?_)
        · have h4 : ¬ (mem 15 x5) = 63 := by omega
          refine st_aload_n (i := 0) rfl (t := 0) rfl (by decide) dX2_worth_87 ?_
          refine st_iload rfl dX2_worth_88 ?_
          refine st_aload_n (i := 1) rfl (t := 0) rfl (by decide) dX2_worth_90 ?_
          refine st_iload_n (i := 2) rfl rfl dX2_worth_91 ?_
          refine st_iload_n (i := 3) rfl rfl dX2_worth_92 ?_
          refine st_callV (kc2 := 0) (ks2 := 0) (av := [(0, (mem 15 x5)), (2, 23), (0, x2), (0, x3)]) 14 2 mr_X2_39 ok_X2_work (c1 h1 h2 h3 h4) rfl sh_14 ⟨_, rfl, rfl, by decide⟩ rfl rfl hd_d1 (Nat.le_refl 0) (Nat.le_refl 0) (Nat.le_of_ble_eq_true rfl) dX2_worth_93 (mQv.elim fun m1 p1 => ?_)
          refine st_iinc (y := (x5 + 1)) (by decide) (i := 5) rfl rfl (lc' := [(2, 14), (2, 23), (0, x2), (0, x3), (0, x4), (0, (x5 + 1)), (0, (mem 15 x5))]) rfl dX2_worth_96 ?_
          refine st_goto 11 (by decide) dX2_worth_99 ?_
          exact st_locals [(2, 14), (2, 23), (0, x2), (0, x3), (0, x4), (0, (x5 + 1)), (9, 0)] ⟨Or.inr rfl, Or.inr rfl, Or.inr rfl, Or.inr rfl, Or.inr rfl, Or.inr rfl, Or.inl rfl, trivial⟩ (k1 h1 h2 h3 h4 m1 p1)
        · have h4 : (mem 15 x5) = 63 := by omega
          refine st_aload_n (i := 0) rfl (t := 0) rfl (by decide) dX2_worth_70 ?_
          refine st_callV (kc2 := 0) (ks2 := 0) (av := []) 14 2 mr_X2_35 ok_X2_pop (c_X2_pop_14 mem ((s4 h1 h2 h3 h4))) rfl sh_14 ⟨_, rfl, rfl, by decide⟩ rfl rfl hd1 (Nat.le_refl 0) (Nat.le_refl 0) (Nat.le_of_ble_eq_true rfl) dX2_worth_71 (mQ.elim fun v1 m2 hp => ?_)
          obtain ⟨hpv, hpm⟩ := hp
          subst hpv
          have hpm := hpm.symm
          subst hpm
          refine sr_if_ne 81 (s5 h1 h2 h3 h4) (by decide) dX2_worth_74 (fun h5 => ?_) (fun h5 => ?_)
          · have h5 : ¬ (mem 16 ((mem 14 3) - 1)) = 0 := by omega
            refine st_iconst dX2_worth_81 ?_
            refine st_istore (by decide) (lc' := [(2, 14), (2, 23), (0, x2), (0, x3), (0, 0), (0, x5), (0, (mem 15 x5))]) rfl dX2_worth_82 ?_
            refine st_goto 96 (by decide) dX2_worth_84 ?_
            refine st_iinc (y := (x5 + 1)) (by decide) (i := 5) rfl rfl (lc' := [(2, 14), (2, 23), (0, x2), (0, x3), (0, 0), (0, (x5 + 1)), (0, (mem 15 x5))]) rfl dX2_worth_96 ?_
            refine st_goto 11 (by decide) dX2_worth_99 ?_
            exact st_locals [(2, 14), (2, 23), (0, x2), (0, x3), (0, 0), (0, (x5 + 1)), (9, 0)] ⟨Or.inr rfl, Or.inr rfl, Or.inr rfl, Or.inr rfl, Or.inr rfl, Or.inr rfl, Or.inl rfl, trivial⟩ (k2 h1 h2 h3 h4 h5)
          · have h5 : (mem 16 ((mem 14 3) - 1)) = 0 := by omega
            refine st_iconst dX2_worth_77 ?_
            refine st_goto 82 (by decide) dX2_worth_78 ?_
            refine st_istore (by decide) (lc' := [(2, 14), (2, 23), (0, x2), (0, x3), (0, 1), (0, x5), (0, (mem 15 x5))]) rfl dX2_worth_82 ?_
            refine st_goto 96 (by decide) dX2_worth_84 ?_
            refine st_iinc (y := (x5 + 1)) (by decide) (i := 5) rfl rfl (lc' := [(2, 14), (2, 23), (0, x2), (0, x3), (0, 1), (0, (x5 + 1)), (0, (mem 15 x5))]) rfl dX2_worth_96 ?_
            refine st_goto 11 (by decide) dX2_worth_99 ?_
            exact st_locals [(2, 14), (2, 23), (0, x2), (0, x3), (0, 1), (0, (x5 + 1)), (9, 0)] ⟨Or.inr rfl, Or.inr rfl, Or.inr rfl, Or.inr rfl, Or.inr rfl, Or.inr rfl, Or.inl rfl, trivial⟩ (k3 h1 h2 h3 h4 h5)
      · have h3 : (mem 15 x5) = 59 := by omega
        refine st_aload_n (i := 0) rfl (t := 0) rfl (by decide) dX2_worth_58 ?_
        refine st_callV (kc2 := 0) (ks2 := 0) (av := []) 14 2 mr_X2_35 ok_X2_pop (c_X2_pop_14 mem ((s6 h1 h2 h3))) rfl sh_14 ⟨_, rfl, rfl, by decide⟩ rfl rfl hd1 (Nat.le_refl 0) (Nat.le_refl 0) (Nat.le_of_ble_eq_true rfl) dX2_worth_59 (mQ.elim fun v2 m3 hp => ?_)
        obtain ⟨hpv, hpm⟩ := hp
        subst hpv
        have hpm := hpm.symm
        subst hpm
        exact st_ireturn rfl dX2_worth_62 (mQ.ret (q2 h1 h2 h3))
    · have h2 : ¬ x4 = 0 := by omega
      refine st_iload rfl dX2_worth_34 ?_
      refine st_bipush rfl dX2_worth_36 ?_
      refine sr_icmp_eq 45 r2 ⟨by decide, by decide⟩ (by decide) dX2_worth_38 (fun h6 => ?_) (fun h6 => ?_)
      · have h6 : (mem 15 x5) = 59 := by omega
        refine st_iconst dX2_worth_45 ?_
        refine st_istore (by decide) (lc' := [(2, 14), (2, 23), (0, x2), (0, x3), (0, 0), (0, x5), (0, (mem 15 x5))]) rfl dX2_worth_46 ?_
        refine st_goto 96 (by decide) dX2_worth_48 ?_
        refine st_iinc (y := (x5 + 1)) (by decide) (i := 5) rfl rfl (lc' := [(2, 14), (2, 23), (0, x2), (0, x3), (0, 0), (0, (x5 + 1)), (0, (mem 15 x5))]) rfl dX2_worth_96 ?_
        refine st_goto 11 (by decide) dX2_worth_99 ?_
        exact st_locals [(2, 14), (2, 23), (0, x2), (0, x3), (0, 0), (0, (x5 + 1)), (9, 0)] ⟨Or.inr rfl, Or.inr rfl, Or.inr rfl, Or.inr rfl, Or.inr rfl, Or.inr rfl, Or.inl rfl, trivial⟩ (k4 h1 h2 h6)
      · have h6 : ¬ (mem 15 x5) = 59 := by omega
        refine st_iconst dX2_worth_41 ?_
        refine st_goto 46 (by decide) dX2_worth_42 ?_
        refine st_istore (by decide) (lc' := [(2, 14), (2, 23), (0, x2), (0, x3), (0, 1), (0, x5), (0, (mem 15 x5))]) rfl dX2_worth_46 ?_
        refine st_goto 96 (by decide) dX2_worth_48 ?_
        refine st_iinc (y := (x5 + 1)) (by decide) (i := 5) rfl rfl (lc' := [(2, 14), (2, 23), (0, x2), (0, x3), (0, 1), (0, (x5 + 1)), (0, (mem 15 x5))]) rfl dX2_worth_96 ?_
        refine st_goto 11 (by decide) dX2_worth_99 ?_
        exact st_locals [(2, 14), (2, 23), (0, x2), (0, x3), (0, 1), (0, (x5 + 1)), (9, 0)] ⟨Or.inr rfl, Or.inr rfl, Or.inr rfl, Or.inr rfl, Or.inr rfl, Or.inr rfl, Or.inl rfl, trivial⟩ (k5 h1 h2 h6)
theorem run_14 (o : Bool) (mem : mmM) (s b : Int) (P : Int → mmM → Prop) (hs : R32 s) (hb : R32 b) (hn : 0 ≤ mem 23 1 ∧ mem 23 1 ≤ 24) (hL : ∀ k, 0 ≤ k → k < 6 → -1000000 ≤ letterX mem (leF k) s b ∧ letterX mem (leF k) s b ≤ 1000000) (hsz : mem 14 1 ≤ 160) : ∀ (ts : List tokT) (p : Int) (st : List Int) (ty : List Bool) (m : mmM), tokX (mem 15) p ts → wfX o ty ts → valR ty st → st.length ≤ 64 → lawSt_14 mem st m → 0 ≤ p → p + ts.length < mem 14 1 →
    (∀ (m' : mmM) (v : Int), evToks (fun k => letterX mem (leF k) s b) st ts = [v] → valR [o] [v] → lawSt_14 mem [v] m' → mmT bX2_worth 4 0 0 (mQ 0 P) 11 [(2, 14), (2, 23), (0, s), (0, b), (0, 0), (0, p + ts.length), (9, 0)] [] mS m') →
    mmT bX2_worth 4 0 0 (mQ 0 P) 11 [(2, 14), (2, 23), (0, s), (0, b), (0, 0), (0, p), (9, 0)] [] mS m := by
  intro ts
  induction ts with
  | nil =>
    intro p st ty m ht hw hv h64 h hp hlt k
    have e : ty = [o] := hw
    rw [e] at hv
    have hl := valR_len _ _ hv
    match st, hl, hv, h, k with
    | [v], _, hv, h, k =>
      have k1 := k m v rfl hv h
      have e0 : p + (([] : List tokT).length : Int) = p := by simp
      rw [e0] at k1
      exact k1
  | cons t r ih =>
    intro p st ty m ht hw hv h64 h hp hlt k
    have hlen : ((t :: r).length : Int) = r.length + 1 := by simp
    rw [hlen] at hlt k
    have e1 : m 14 1 = mem 14 1 := h.2.1 1 (by decide)
    have eC : m 15 = mem 15 := h.1 15 (by decide) (by decide)
    have ec : m 15 p = encX t := by rw [eC]; exact ht.1
    have nt := encX_not hw
    have cs := c_X2_sign_14 o mem m st ty t r s b h hw hv h64 hs hb hn hL
    refine bk_X2_worth_14_11 (d1 := 3) (fun g g2 g3 g4 => by rw [ec]; exact cs) (fun g g2 g3 g4 m1 q => ?_) (fun g g2 g3 g4 => by rw [ec] at g4; exact absurd g4 nt.2) (fun g g2 g3 g4 => by rw [ec] at g4; exact absurd g4 nt.2) (fun g g2 => absurd rfl g2) (fun g g2 => absurd rfl g2) (fun g => by rw [e1] at g; omega) (fun g g2 g3 => by rw [ec] at g3; exact absurd g3 nt.1) (s2 := fun g => by rw [e1] at g; omega) (s4 := fun g g2 g3 g4 => by rw [ec] at g4; exact absurd g4 nt.2) (s5 := fun g g2 g3 g4 => by rw [ec] at g4; exact absurd g4 nt.2) (s6 := fun g g2 g3 => by rw [ec] at g3; exact absurd g3 nt.1)
    obtain ⟨q1, ty', q2, q3, q4⟩ := q
    refine ih (p + 1) _ ty' m1 ht.2 q3 q2 q4 q1 (by omega) (by omega) (fun m' v ev hv' h' => ?_)
    have k1 := k m' v ev hv' h'
    rw [show p + 1 + (r.length : Int) = p + ((r.length : Int) + 1) by omega]
    exact k1
theorem skip_14 (o : Bool) (mem m : mmM) (s b : Int) (P : Int → mmM → Prop) (hs : R32 s) (hb : R32 b) (hsz : mem 14 1 ≤ 160) (eC : m 15 = mem 15) (e1 : m 14 1 = mem 14 1) : ∀ (ts : List tokT) (p : Int) (ty : List Bool), tokX (mem 15) p ts → wfX o ty ts → 0 ≤ p → p + ts.length < mem 14 1 → mem 15 (p + ts.length) = 59 →
    mmT bX2_worth 4 0 0 (mQ 0 P) 11 [(2, 14), (2, 23), (0, s), (0, b), (0, 0), (0, p + ts.length + 1), (9, 0)] [] mS m →
    mmT bX2_worth 4 0 0 (mQ 0 P) 11 [(2, 14), (2, 23), (0, s), (0, b), (0, 1), (0, p), (9, 0)] [] mS m := by
  intro ts
  induction ts with
  | nil =>
    intro p ty ht hw hp hlt h59 k
    have e0 : p + (([] : List tokT).length : Int) = p := by simp
    rw [e0] at hlt h59 k
    exact bk_X2_worth_14_11 (d1 := 3) (P1 := fun _ => True) (fun g g2 => by omega) (fun g g2 => by omega) (fun g g2 => by omega) (fun g g2 => by omega) (fun g g2 g3 => k) (fun g g2 g3 => by rw [eC] at g3; exact absurd h59 g3) (fun g => by rw [e1] at g; omega) (fun g g2 => by omega) (s2 := fun g => by rw [e1] at g; omega) (s4 := fun g g2 => by omega) (s5 := fun g g2 => by omega) (s6 := fun g g2 => by omega)
  | cons t r ih =>
    intro p ty ht hw hp hlt h59 k
    have hlen : ((t :: r).length : Int) = r.length + 1 := by simp
    rw [hlen] at hlt h59 k
    have nt := encX_not hw
    have ec : m 15 p = encX t := by rw [eC]; exact ht.1
    have hw' : ∃ ty', wfX o ty' r := by
      unfold wfX at hw
      by_cases c0 : t.1 = 0
      · rw [if_pos c0] at hw
        exact ⟨_, hw.2.2⟩
      · rw [if_neg c0] at hw
        by_cases c1 : t.1 = 1
        · rw [if_pos c1] at hw
          exact ⟨_, hw.2.2⟩
        · rw [if_neg c1] at hw
          by_cases c9 : t.1 = 9
          · rw [if_pos c9] at hw
            exact ⟨_, hw.2⟩
          · rw [if_neg c9] at hw
            by_cases c10 : t.1 = 10 ∨ t.1 = 11
            · rw [if_pos c10] at hw
              obtain ⟨q, _, h⟩ := hw
              exact ⟨_, h⟩
            · rw [if_neg c10] at hw
              by_cases c6 : 6 ≤ t.1 ∧ t.1 ≤ 8
              · rw [if_pos c6] at hw
                obtain ⟨q, _, h⟩ := hw
                exact ⟨_, h⟩
              · rw [if_neg c6] at hw
                obtain ⟨_, q, _, h⟩ := hw
                exact ⟨_, h⟩
    obtain ⟨ty', hw'⟩ := hw'
    refine bk_X2_worth_14_11 (d1 := 3) (P1 := fun _ => True) (fun g g2 => by omega) (fun g g2 => by omega) (fun g g2 => by omega) (fun g g2 => by omega) (fun g g2 g3 => by rw [ec] at g3; exact absurd g3 nt.1) (fun g g2 g3 => ?_) (fun g => by rw [e1] at g; omega) (fun g g2 => by omega) (s2 := fun g => by rw [e1] at g; omega) (s4 := fun g g2 => by omega) (s5 := fun g g2 => by omega) (s6 := fun g g2 => by omega)
    refine ih (p + 1) ty' ht.2 hw' (by omega) (by omega) ?_ ?_
    · rw [show p + 1 + (r.length : Int) = p + ((r.length : Int) + 1) by omega]
      exact h59
    · rw [show p + 1 + (r.length : Int) + 1 = p + ((r.length : Int) + 1) + 1 by omega]
      exact k
theorem c_X2_worth_14 (mem : mmM) (s b : Int) (cl : lawT) (hs : R32 s) (hb : R32 b) (hn : 0 ≤ mem 23 1 ∧ mem 23 1 ≤ 24) (hL : ∀ k, 0 ≤ k → k < 6 → -1000000 ≤ letterX mem (leF k) s b ∧ letterX mem (leF k) s b ≤ 1000000) (hsz : 0 ≤ mem 14 1 ∧ mem 14 1 ≤ 160) (hl : lawX (mem 15) (mem 14 1) 0 cl) : con 0 bX2_worth 4 [(2, 14), (2, 23), (0, s), (0, b)] mem (fun v m => v = lawV (fun k => letterX mem (leF k) s b) cl ∧ (-1000000 ≤ v ∧ v ≤ 1000000) ∧ (∀ a, a ≠ 14 → a ≠ 16 → m a = mem a) ∧ ∀ j, j ≠ 3 → m 14 j = mem 14 j) := by
  refine cn_X2_worth_14 (bk_X2_worth_14_0 ?_)
  have key : ∀ (c : lawT) (p : Int) (m : mmM), lawX (mem 15) (mem 14 1) p c → 0 ≤ p → lawSt_14 mem [] m → lawV (fun k => letterX mem (leF k) s b) c = lawV (fun k => letterX mem (leF k) s b) cl → mmT bX2_worth 4 0 0 (mQ 0 (fun v m => v = lawV (fun k => letterX mem (leF k) s b) cl ∧ (-1000000 ≤ v ∧ v ≤ 1000000) ∧ (∀ a, a ≠ 14 → a ≠ 16 → m a = mem a) ∧ ∀ j, j ≠ 3 → m 14 j = mem 14 j)) 11 [(2, 14), (2, 23), (0, s), (0, b), (0, 0), (0, p), (9, 0)] [] mS m := by
    intro c
    induction c with
    | nil =>
      intro p m hx hp h he
      have e1 : m 14 1 = mem 14 1 := h.2.1 1 (by decide)
      have hx' : p = mem 14 1 := hx
      refine bk_X2_worth_14_11 (d1 := 3) (P1 := fun _ => True) (fun g => by rw [e1] at g; omega) (fun g => by rw [e1] at g; omega) (fun g => by rw [e1] at g; omega) (fun g => by rw [e1] at g; omega) (fun g => by rw [e1] at g; omega) (fun g => by rw [e1] at g; omega) (fun g => ⟨?_, by omega, h.1, h.2.1⟩) (fun g => by rw [e1] at g; omega) (s2 := fun g => by rw [e1] at g; omega) (s4 := fun g => by rw [e1] at g; omega) (s5 := fun g => by rw [e1] at g; omega) (s6 := fun g => by rw [e1] at g; omega)
      rw [← he]
      rfl
    | cons q r ih =>
      intro p m hx hp h he
      have he' : (if q.1.length = 0 ∨ ¬ top1 (evToks (fun k => letterX mem (leF k) s b) [] q.1) = 0 then top1 (evToks (fun k => letterX mem (leF k) s b) [] q.2) else lawV (fun k => letterX mem (leF k) s b) r) = lawV (fun k => letterX mem (leF k) s b) cl := he
      -- a sum worked out ends the law
      have sum : ∀ (p' : Int) (m' : mmM), lawSt_14 mem [] m' → wfX false [] q.2 → 0 ≤ p' → tokX (mem 15) p' q.2 → mem 15 (p' + q.2.length) = 59 → p' + q.2.length < mem 14 1 → top1 (evToks (fun k => letterX mem (leF k) s b) [] q.2) = lawV (fun k => letterX mem (leF k) s b) cl → mmT bX2_worth 4 0 0 (mQ 0 (fun v m => v = lawV (fun k => letterX mem (leF k) s b) cl ∧ (-1000000 ≤ v ∧ v ≤ 1000000) ∧ (∀ a, a ≠ 14 → a ≠ 16 → m a = mem a) ∧ ∀ j, j ≠ 3 → m 14 j = mem 14 j)) 11 [(2, 14), (2, 23), (0, s), (0, b), (0, 0), (0, p'), (9, 0)] [] mS m' := by
        intro p' m' h' hw hp' ht h59 hlt ev
        refine run_14 false mem s b _ hs hb hn hL hsz.2 q.2 p' [] [] m' ht hw trivial (by decide) h' hp' hlt (fun m2 v e2 hv2 h2 => ?_)
        have pp := lawSt_pop_14 h2
        have e1 : m2 14 1 = mem 14 1 := h2.2.1 1 (by decide)
        have eC : m2 15 = mem 15 := h2.1 15 (by decide) (by decide)
        have e3 : m2 14 3 = 1 := pp.2.2
        refine bk_X2_worth_14_11 (d1 := 3) (P1 := fun _ => True) (fun g g2 g3 => by rw [eC] at g3; exact absurd h59 g3) (fun g g2 g3 => by rw [eC] at g3; exact absurd h59 g3) (fun g g2 g3 => by rw [eC] at g3; exact absurd h59 g3) (fun g g2 g3 => by rw [eC] at g3; exact absurd h59 g3) (fun g g2 => absurd rfl g2) (fun g g2 => absurd rfl g2) (fun g => by rw [e1] at g; omega) (fun g g2 g3 => ⟨?_, by rw [pp.2.1]; exact hv2.1, pp.1.1, pp.1.2.1⟩) (s2 := fun g => by rw [e1] at g; omega) (s4 := fun g g2 g3 => by rw [eC] at g3; exact absurd h59 g3) (s5 := fun g g2 g3 => by rw [eC] at g3; exact absurd h59 g3) (s6 := fun g g2 g3 => by omega)
        rw [pp.2.1, ← ev, e2]
        rfl
      obtain ⟨hw2, hx⟩ := hx
      rcases hx with ⟨h0, t2, h59, hlt, hr⟩ | ⟨hw1, h0, t1, h63, t2, h59, hlt, hr⟩
      · rw [if_pos (Or.inl h0)] at he'
        exact sum p m h hw2 hp t2 h59 hlt he'
      · have l1 : 0 ≤ (q.1.length : Int) := by omega
        have l2 : 0 ≤ (q.2.length : Int) := by omega
        refine run_14 true mem s b _ hs hb hn hL hsz.2 q.1 p [] [] m t1 hw1 trivial (by decide) h hp (by omega) (fun m2 v e2 hv2 h2 => ?_)
        have pp := lawSt_pop_14 h2
        have e1 : m2 14 1 = mem 14 1 := h2.2.1 1 (by decide)
        have eC : m2 15 = mem 15 := h2.1 15 (by decide) (by decide)
        have e3 : m2 14 3 = 1 := pp.2.2
        have vb : v = 0 ∨ v = 1 := hv2.1
        have tv : top1 (evToks (fun k => letterX mem (leF k) s b) [] q.1) = v := by rw [e2]; rfl
        rw [tv] at he'
        refine bk_X2_worth_14_11 (d1 := 3) (P1 := fun _ => True) (fun g g2 g3 g4 => by rw [eC] at g4; exact absurd h63 g4) (fun g g2 g3 g4 => by rw [eC] at g4; exact absurd h63 g4) (fun g g2 g3 g4 g5 => ?_) (fun g g2 g3 g4 g5 => ?_) (fun g g2 => absurd rfl g2) (fun g g2 => absurd rfl g2) (fun g => by rw [e1] at g; omega) (fun g g2 g3 => by rw [eC, h63] at g3; omega) (s2 := fun g => by rw [e1] at g; omega) (s4 := fun g g2 g3 g4 => by omega) (s5 := fun g g2 g3 g4 => by rw [pp.2.1]; omega) (s6 := fun g g2 g3 => by omega)
        · rw [pp.2.1] at g5
          rw [if_pos (Or.inr g5)] at he'
          exact sum _ _ pp.1 hw2 (by omega) t2 h59 hlt he'
        · rw [pp.2.1] at g5
          rw [if_neg (fun z => by rcases z with z | z; · exact h0 z
                                  · exact z g5)] at he'
          have eC' := pp.1.1 15 (by decide) (by decide)
          have e1' := pp.1.2.1 1 (by decide)
          exact skip_14 false mem _ s b _ hs hb hsz.2 eC' e1' q.2 _ [] t2 hw2 (by omega) hlt h59 (ih _ _ hr (by omega) pp.1 he')
  refine key cl 0 _ hl (by omega) ⟨fun a a1 a2 => mset_ne a1, fun j hj => by rw [mset_at, if_neg hj], mset_same _ _ _ _, trivial⟩ rfl
theorem cn_X8_weigh_14 {d : Nat} {P : mmM → Prop} {mem : mmM} (h : mmT bX8_weigh d 0 0 (mQv P) 0 [(2, 23), (2, 14), (9, 0)] [] mS mem) : conv bX8_weigh d [(2, 23), (2, 14)] mem P := mmC_of [(2, 23), (2, 14), (9, 0)] ok_X8_weigh.2.2.2.2 rfl (Nat.le_of_ble_eq_true rfl) h
theorem bk_X8_weigh_14_0 {d : Nat} {P : mmM → Prop} {mem : mmM}
  (k1 : mmT bX8_weigh d 0 0 (mQv P) 2 [(2, 23), (2, 14), (0, 0)] [] mS mem)
  : mmT bX8_weigh d 0 0 (mQv P) 0 [(2, 23), (2, 14), (9, 0)] [] mS mem := by
  refine st_iconst dX8_weigh_0 ?_
  refine st_istore_n (i := 2) rfl (by decide) (lc' := [(2, 23), (2, 14), (0, 0)]) rfl dX8_weigh_1 ?_
  exact st_locals [(2, 23), (2, 14), (0, 0)] ⟨Or.inr rfl, Or.inr rfl, Or.inr rfl, trivial⟩ k1
theorem bk_X8_weigh_14_2 {d : Nat} {d1 : Nat} {P1 : Int → mmM → Prop} {d2 : Nat} {P2 : Int → mmM → Prop} {P : mmM → Prop} {mem : mmM} {x2 : Int}
  (c1 : x2 < (mem 23 1) → con 0 bX2_worth d1 [(2, 14), (2, 23), (0, x2), (0, 0)] mem P1)
  (c2 : x2 < (mem 23 1) → ∀ (v1 : Int), ∀ (m1 : mmM), P1 v1 m1 → con 0 bX2_worth d2 [(2, 14), (2, 23), (0, x2), (0, 1)] (mset m1 31 x2 (percS v1)) P2)
  (k1 : x2 < (mem 23 1) → ∀ (v1 : Int), ∀ (m1 : mmM), P1 v1 m1 → ∀ (v3 : Int), ∀ (m3 : mmM), P2 v3 m3 → mmT bX8_weigh d 0 0 (mQv P) 2 [(2, 23), (2, 14), (0, (x2 + 1))] [] mS (mset m3 32 x2 (percS v3)))
  (q1 : (mem 23 1) ≤ x2 → P mem)
  (hd_d1 : d1 + 1 ≤ d := by omega)
  (hd_d2 : d2 + 1 ≤ d := by omega)
  (hd3 : 3 ≤ d := by omega)
  (s1 : R32 x2 := by intros; first | omega | assumption | solve_by_elim)
  (s2 : x2 < (mem 23 1) → ∀ (v1 : Int), ∀ (m1 : mmM), P1 v1 m1 → R32 v1 := by intros; first | omega | assumption | solve_by_elim)
  (s3 : x2 < (mem 23 1) → ∀ (v1 : Int), ∀ (m1 : mmM), P1 v1 m1 → 0 ≤ x2 ∧ x2 < 24 := by intros; first | omega | assumption | solve_by_elim)
  (s4 : x2 < (mem 23 1) → ∀ (v1 : Int), ∀ (m1 : mmM), P1 v1 m1 → ∀ (v3 : Int), ∀ (m3 : mmM), P2 v3 m3 → R32 v3 := by intros; first | omega | assumption | solve_by_elim)
  : mmT bX8_weigh d 0 0 (mQv P) 2 [(2, 23), (2, 14), (0, x2)] [] mS mem := by
  refine st_iload_n (i := 2) rfl rfl dX8_weigh_2 ?_
  refine st_aload_n (i := 0) rfl (t := 0) rfl (by decide) dX8_weigh_3 ?_
  refine so_getI (v := (mem 23 1)) 23 1 fr_X8_60_8 rfl sh_23 rfl dX8_weigh_4 (fun r1 => ?_)
  refine sr_icmp_ge 64 s1 r1 (by decide) dX8_weigh_7 (fun h1 => ?_) (fun h1 => ?_)
  · have h1 : (mem 23 1) ≤ x2 := by omega
    exact st_return rfl dX8_weigh_64 (mQv.ret (q1 h1))
  · have h1 : x2 < (mem 23 1) := by omega
    refine st_aload_n (i := 0) rfl (t := 0) rfl (by decide) dX8_weigh_10 ?_
    refine so_getA 23 9 fr_X8_33_8 rfl sh_23 fx_23_9 dX8_weigh_11 ?_
    refine st_iload_n (i := 2) rfl rfl dX8_weigh_14 ?_
    refine st_aload_n (i := 1) rfl (t := 0) rfl (by decide) dX8_weigh_15 ?_
    refine st_ifnonnull 23 (by decide) dX8_weigh_16 (fun _ => ?_) (fun h => absurd h (by decide))
    refine st_aload_n (i := 1) rfl (t := 0) rfl (by decide) dX8_weigh_23 ?_
    refine st_aload_n (i := 0) rfl (t := 0) rfl (by decide) dX8_weigh_24 ?_
    refine st_iload_n (i := 2) rfl rfl dX8_weigh_25 ?_
    refine st_iconst dX8_weigh_26 ?_
    refine st_callV (kc2 := 0) (ks2 := 0) (av := [(2, 23), (0, x2), (0, 0)]) 14 2 mr_X8_89 ok_X2_worth (c1 h1) rfl sh_14 ⟨_, rfl, rfl, by decide⟩ rfl rfl hd_d1 (Nat.le_refl 0) (Nat.le_refl 0) (Nat.le_of_ble_eq_true rfl) dX8_weigh_27 (mQ.elim fun v1 m1 p1 => ?_)
    refine st_callS (kc2 := 0) (ks2 := 0) (av := [(0, v1)]) mr_X8_95 ok_X8_percent (c_X8_percent m1 v1 ((s2 h1 v1 m1 p1))) rfl rfl hd3 (Nat.le_refl 0) (Nat.le_refl 0) (Nat.le_of_ble_eq_true rfl) dX8_weigh_30 (mQ.elim fun v2 m2 hp => ?_)
    obtain ⟨hpv, hpm⟩ := hp
    subst hpv
    have hpm := hpm.symm
    subst hpm
    refine so_iast 31 fr_31 rfl sh_31 (by decide) (s3 h1 v1 m1 p1) (percS_rng v1) dX8_weigh_33 ?_
    refine st_aload_n (i := 0) rfl (t := 0) rfl (by decide) dX8_weigh_34 ?_
    refine so_getA 23 10 fr_X8_36_8 rfl sh_23 fx_23_10 dX8_weigh_35 ?_
    refine st_iload_n (i := 2) rfl rfl dX8_weigh_38 ?_
    refine st_aload_n (i := 1) rfl (t := 0) rfl (by decide) dX8_weigh_39 ?_
    refine st_ifnonnull 47 (by decide) dX8_weigh_40 (fun _ => ?_) (fun h => absurd h (by decide))
    refine st_aload_n (i := 1) rfl (t := 0) rfl (by decide) dX8_weigh_47 ?_
    refine st_aload_n (i := 0) rfl (t := 0) rfl (by decide) dX8_weigh_48 ?_
    refine st_iload_n (i := 2) rfl rfl dX8_weigh_49 ?_
    refine st_iconst dX8_weigh_50 ?_
    refine st_callV (kc2 := 0) (ks2 := 0) (av := [(2, 23), (0, x2), (0, 1)]) 14 2 mr_X8_89 ok_X2_worth (c2 h1 v1 m1 p1) rfl sh_14 ⟨_, rfl, rfl, by decide⟩ rfl rfl hd_d2 (Nat.le_refl 0) (Nat.le_refl 0) (Nat.le_of_ble_eq_true rfl) dX8_weigh_51 (mQ.elim fun v3 m3 p2 => ?_)
    refine st_callS (kc2 := 0) (ks2 := 0) (av := [(0, v3)]) mr_X8_95 ok_X8_percent (c_X8_percent m3 v3 ((s4 h1 v1 m1 p1 v3 m3 p2))) rfl rfl hd3 (Nat.le_refl 0) (Nat.le_refl 0) (Nat.le_of_ble_eq_true rfl) dX8_weigh_54 (mQ.elim fun v4 m4 hp => ?_)
    obtain ⟨hpv, hpm⟩ := hp
    subst hpv
    have hpm := hpm.symm
    subst hpm
    refine so_iast 32 fr_32 rfl sh_32 (by decide) (s3 h1 v1 m1 p1) (percS_rng v3) dX8_weigh_57 ?_
    refine st_iinc (y := (x2 + 1)) (by decide) (i := 2) rfl rfl (lc' := [(2, 23), (2, 14), (0, (x2 + 1))]) rfl dX8_weigh_58 ?_
    refine st_goto 2 (by decide) dX8_weigh_61 ?_
    exact st_locals [(2, 23), (2, 14), (0, (x2 + 1))] ⟨Or.inr rfl, Or.inr rfl, Or.inr rfl, trivial⟩ (k1 h1 v1 m1 p1 v3 m3 p2)
theorem c_X8_weigh_14 (mem : mmM) (cl : lawT) (hn : 0 ≤ mem 23 1 ∧ mem 23 1 ≤ 24) (hL : ∀ i b k, 0 ≤ i → i < mem 23 1 → (b = 0 ∨ b = 1) → -1000000 ≤ letterX mem (leF k) i b ∧ letterX mem (leF k) i b ≤ 1000000) (hsz : 0 ≤ mem 14 1 ∧ mem 14 1 ≤ 160) (hl : lawX (mem 15) (mem 14 1) 0 cl) : conv bX8_weigh 5 [(2, 23), (2, 14)] mem (fun m => (∀ a, a ≠ 31 → a ≠ 32 → a ≠ 14 → a ≠ 16 → m a = mem a) ∧ (∀ j, j ≠ 3 → m 14 j = mem 14 j) ∧ ∀ i, 0 ≤ i → i < mem 23 1 → m 31 i = percS (lawV (fun k => letterX mem (leF k) i 0) cl) ∧ m 32 i = percS (lawV (fun k => letterX mem (leF k) i 1) cl)) := by
  refine cn_X8_weigh_14 (bk_X8_weigh_14_0 ?_)
  refine loop_up (n := mem 23 1) (fun i => ∀ m : mmM, (∀ a, a ≠ 31 → a ≠ 32 → a ≠ 14 → a ≠ 16 → m a = mem a) → (∀ j, j ≠ 3 → m 14 j = mem 14 j) → (∀ t, 0 ≤ t → t < i → m 31 t = percS (lawV (fun k => letterX mem (leF k) t 0) cl) ∧ m 32 t = percS (lawV (fun k => letterX mem (leF k) t 1) cl)) → mmT bX8_weigh 5 0 0 (mQv (fun m => (∀ a, a ≠ 31 → a ≠ 32 → a ≠ 14 → a ≠ 16 → m a = mem a) ∧ (∀ j, j ≠ 3 → m 14 j = mem 14 j) ∧ ∀ i, 0 ≤ i → i < mem 23 1 → m 31 i = percS (lawV (fun k => letterX mem (leF k) i 0) cl) ∧ m 32 i = percS (lawV (fun k => letterX mem (leF k) i 1) cl))) 2 [(2, 23), (2, 14), (0, i)] [] mS m) (fun i h0 h1 ih m f g0 d => ?_) 0 (by omega) hn.1 mem (fun a _ _ _ _ => rfl) (fun j _ => rfl) (fun t t0 t1 => by omega)
  have w : ∀ (m' : mmM) (b : Int), (b = 0 ∨ b = 1) → i < mem 23 1 → (∀ a, a ≠ 31 → a ≠ 32 → a ≠ 14 → a ≠ 16 → m' a = mem a) → (∀ j, j ≠ 3 → m' 14 j = mem 14 j) → con 0 bX2_worth 4 [(2, 14), (2, 23), (0, i), (0, b)] m' (fun v m2 => v = lawV (fun k => letterX mem (leF k) i b) cl ∧ (-1000000 ≤ v ∧ v ≤ 1000000) ∧ (∀ a, a ≠ 14 → a ≠ 16 → m2 a = m' a) ∧ ∀ j, j ≠ 3 → m2 14 j = m' 14 j) := by
    intro m' b hb hi f' g'
    have el : letterX m' = letterX mem := by
      funext a c e
      unfold letterX
      rw [f' 23 (by decide) (by decide) (by decide) (by decide), f' 24 (by decide) (by decide) (by decide) (by decide), f' 26 (by decide) (by decide) (by decide) (by decide), f' 29 (by decide) (by decide) (by decide) (by decide), f' 30 (by decide) (by decide) (by decide) (by decide)]
    have c := c_X2_worth_14 m' i b cl (by omega) (by omega) (by rw [f' 23 (by decide) (by decide) (by decide) (by decide)]; exact hn) (fun k _ _ => by rw [el]; exact hL i b k h0 hi hb) (by rw [g' 1 (by decide)]; exact hsz) (by rw [f' 15 (by decide) (by decide) (by decide) (by decide), g' 1 (by decide)]; exact hl)
    rw [el] at c
    exact c
  have e23 : m 23 = mem 23 := f 23 (by decide) (by decide) (by decide) (by decide)
  refine bk_X8_weigh_14_2 (d1 := 4) (d2 := 4) (P1 := fun v m2 => v = lawV (fun k => letterX mem (leF k) i 0) cl ∧ (-1000000 ≤ v ∧ v ≤ 1000000) ∧ (∀ a, a ≠ 14 → a ≠ 16 → m2 a = m a) ∧ ∀ j, j ≠ 3 → m2 14 j = m 14 j) (P2 := fun v m3 => v = lawV (fun k => letterX mem (leF k) i 1) cl ∧ (-1000000 ≤ v ∧ v ≤ 1000000) ∧ (∀ a, a ≠ 31 → a ≠ 14 → a ≠ 16 → m3 a = m a) ∧ m3 31 = (fun j => if j = i then percS (lawV (fun k => letterX mem (leF k) i 0) cl) else m 31 j) ∧ ∀ j, j ≠ 3 → m3 14 j = m 14 j) (fun g => w m 0 (Or.inl rfl) (by rw [e23] at g; exact g) f g0) (fun g v1 m1 q => ?_) (fun g v1 m1 q v3 m3 q3 => ?_) (fun g => ?_) (s2 := fun g v1 m1 q => by have := q.2.1; omega) (s3 := fun g v1 m1 q => by rw [e23] at g; omega) (s4 := fun g v1 m1 q v3 m3 q3 => by have := q3.2.1; omega)
  · rw [e23] at g
    have c := w (mset m1 31 i (percS v1)) 1 (Or.inr rfl) g (fun a a1 a2 a3 a4 => by rw [mset_ne a1]; exact (q.2.2.1 a a3 a4).trans (f a a1 a2 a3 a4)) (fun j hj => by rw [mset_ne (by decide)]; exact (q.2.2.2 j hj).trans (g0 j hj))
    refine con.mono c (fun v m3 z => ⟨z.1, z.2.1, fun a a1 a2 a3 => ?_, ?_, fun j hj => ?_⟩)
    · rw [z.2.2.1 a a2 a3, mset_ne a1]
      exact q.2.2.1 a a2 a3
    · rw [z.2.2.1 31 (by decide) (by decide)]
      funext j
      rw [mset_at, q.2.2.1 31 (by decide) (by decide), q.1]
    · rw [z.2.2.2 j hj, mset_ne (by decide)]
      exact q.2.2.2 j hj
  · rw [e23] at g
    refine ih g _ (fun a a1 a2 a3 a4 => ?_) (fun j hj => ?_) (fun t t0 t1 => ⟨?_, ?_⟩)
    · rw [mset_ne a2, q3.2.2.1 a a1 a3 a4]
      exact f a a1 a2 a3 a4
    · rw [mset_ne (by decide)]
      exact (q3.2.2.2.2 j hj).trans (g0 j hj)
    · rw [mset_ne (by decide), q3.2.2.2.1]
      by_cases z : t = i
      · show (if t = i then _ else _) = _
        rw [if_pos z, z]
      · show (if t = i then _ else _) = _
        rw [if_neg z]
        exact (d t t0 (by omega)).1
    · rw [mset_at]
      by_cases z : t = i
      · rw [if_pos z, q3.1, z]
      · rw [if_neg z, q3.2.2.1 32 (by decide) (by decide) (by decide)]
        exact (d t t0 (by omega)).2
  · rw [e23] at g
    exact ⟨f, g0, fun t t0 t1 => d t t0 (by omega)⟩
theorem cn_X2_worth_17 {d : Nat} {P : Int → mmM → Prop} {mem : mmM} {x2 x3 : Int} (h : mmT bX2_worth d 0 0 (mQ 0 P) 0 [(2, 17), (2, 23), (0, x2), (0, x3), (9, 0), (9, 0), (9, 0)] [] mS mem) : con 0 bX2_worth d [(2, 17), (2, 23), (0, x2), (0, x3)] mem P := mmC_of [(2, 17), (2, 23), (0, x2), (0, x3), (9, 0), (9, 0), (9, 0)] ok_X2_worth.2.2.2.2 rfl (Nat.le_of_ble_eq_true rfl) h
theorem bk_X2_worth_17_0 {d : Nat} {P : Int → mmM → Prop} {mem : mmM} {x2 x3 : Int}
  (k1 : mmT bX2_worth d 0 0 (mQ 0 P) 11 [(2, 17), (2, 23), (0, x2), (0, x3), (0, 0), (0, 0), (9, 0)] [] mS (mset mem 17 3 0))
  : mmT bX2_worth d 0 0 (mQ 0 P) 0 [(2, 17), (2, 23), (0, x2), (0, x3), (9, 0), (9, 0), (9, 0)] [] mS mem := by
  refine st_aload_n (i := 0) rfl (t := 0) rfl (by decide) dX2_worth_0 ?_
  refine st_iconst dX2_worth_1 ?_
  refine so_putI 17 3 fr_X2_32_2 pf_2_3 fo_17_3 rfl sh_17 ⟨by decide, by decide⟩ dX2_worth_2 ?_
  refine st_iconst dX2_worth_5 ?_
  refine st_istore (by decide) (lc' := [(2, 17), (2, 23), (0, x2), (0, x3), (0, 0), (9, 0), (9, 0)]) rfl dX2_worth_6 ?_
  refine st_iconst dX2_worth_8 ?_
  refine st_istore (by decide) (lc' := [(2, 17), (2, 23), (0, x2), (0, x3), (0, 0), (0, 0), (9, 0)]) rfl dX2_worth_9 ?_
  exact st_locals [(2, 17), (2, 23), (0, x2), (0, x3), (0, 0), (0, 0), (9, 0)] ⟨Or.inr rfl, Or.inr rfl, Or.inr rfl, Or.inr rfl, Or.inr rfl, Or.inr rfl, Or.inl rfl, trivial⟩ k1
theorem bk_X2_worth_17_11 {d : Nat} {d1 : Nat} {P1 : mmM → Prop} {P : Int → mmM → Prop} {mem : mmM} {x2 x3 x4 x5 : Int}
  (c1 : x5 < (mem 17 1) → x4 = 0 → ¬ (mem 18 x5) = 59 → ¬ (mem 18 x5) = 63 → conv bX2_work d1 [(2, 17), (0, (mem 18 x5)), (2, 23), (0, x2), (0, x3)] mem P1)
  (k1 : x5 < (mem 17 1) → x4 = 0 → ¬ (mem 18 x5) = 59 → ¬ (mem 18 x5) = 63 → ∀ (m1 : mmM), P1 m1 → mmT bX2_worth d 0 0 (mQ 0 P) 11 [(2, 17), (2, 23), (0, x2), (0, x3), (0, x4), (0, (x5 + 1)), (9, 0)] [] mS m1)
  (k2 : x5 < (mem 17 1) → x4 = 0 → ¬ (mem 18 x5) = 59 → (mem 18 x5) = 63 → ¬ (mem 19 ((mem 17 3) - 1)) = 0 → mmT bX2_worth d 0 0 (mQ 0 P) 11 [(2, 17), (2, 23), (0, x2), (0, x3), (0, 0), (0, (x5 + 1)), (9, 0)] [] mS (mset mem 17 3 ((mem 17 3) - 1)))
  (k3 : x5 < (mem 17 1) → x4 = 0 → ¬ (mem 18 x5) = 59 → (mem 18 x5) = 63 → (mem 19 ((mem 17 3) - 1)) = 0 → mmT bX2_worth d 0 0 (mQ 0 P) 11 [(2, 17), (2, 23), (0, x2), (0, x3), (0, 1), (0, (x5 + 1)), (9, 0)] [] mS (mset mem 17 3 ((mem 17 3) - 1)))
  (k4 : x5 < (mem 17 1) → ¬ x4 = 0 → (mem 18 x5) = 59 → mmT bX2_worth d 0 0 (mQ 0 P) 11 [(2, 17), (2, 23), (0, x2), (0, x3), (0, 0), (0, (x5 + 1)), (9, 0)] [] mS mem)
  (k5 : x5 < (mem 17 1) → ¬ x4 = 0 → ¬ (mem 18 x5) = 59 → mmT bX2_worth d 0 0 (mQ 0 P) 11 [(2, 17), (2, 23), (0, x2), (0, x3), (0, 1), (0, (x5 + 1)), (9, 0)] [] mS mem)
  (q1 : (mem 17 1) ≤ x5 → P 0 mem)
  (q2 : x5 < (mem 17 1) → x4 = 0 → (mem 18 x5) = 59 → P (mem 19 ((mem 17 3) - 1)) (mset mem 17 3 ((mem 17 3) - 1)))
  (hd_d1 : d1 + 1 ≤ d := by omega)
  (hd1 : 1 ≤ d := by omega)
  (s1 : R32 x5 := by intros; first | omega | assumption | solve_by_elim)
  (s2 : x5 < (mem 17 1) → 0 ≤ x5 ∧ x5 < 160 := by intros; first | omega | assumption | solve_by_elim)
  (s3 : x5 < (mem 17 1) → R32 x4 := by intros; first | omega | assumption | solve_by_elim)
  (s4 : x5 < (mem 17 1) → x4 = 0 → ¬ (mem 18 x5) = 59 → (mem 18 x5) = 63 → 0 < (mem 17 3) ∧ (mem 17 3) ≤ 64 := by intros; first | omega | assumption | solve_by_elim)
  (s5 : x5 < (mem 17 1) → x4 = 0 → ¬ (mem 18 x5) = 59 → (mem 18 x5) = 63 → R32 (mem 19 ((mem 17 3) - 1)) := by intros; first | omega | assumption | solve_by_elim)
  (s6 : x5 < (mem 17 1) → x4 = 0 → (mem 18 x5) = 59 → 0 < (mem 17 3) ∧ (mem 17 3) ≤ 64 := by intros; first | omega | assumption | solve_by_elim)
  : mmT bX2_worth d 0 0 (mQ 0 P) 11 [(2, 17), (2, 23), (0, x2), (0, x3), (0, x4), (0, x5), (9, 0)] [] mS mem := by
  refine st_iload rfl dX2_worth_11 ?_
  refine st_aload_n (i := 0) rfl (t := 0) rfl (by decide) dX2_worth_13 ?_
  refine so_getI (v := (mem 17 1)) 17 1 fr_X2_30_2 rfl sh_17 rfl dX2_worth_14 (fun r1 => ?_)
  refine sr_icmp_ge 102 s1 r1 (by decide) dX2_worth_17 (fun h1 => ?_) (fun h1 => ?_)
  · have h1 : (mem 17 1) ≤ x5 := by omega
    refine st_iconst dX2_worth_102 ?_
    exact st_ireturn rfl dX2_worth_103 (mQ.ret (q1 h1))
  · have h1 : x5 < (mem 17 1) := by omega
    refine st_aload_n (i := 0) rfl (t := 0) rfl (by decide) dX2_worth_20 ?_
    refine so_getA 17 0 fr_X2_11_2 rfl sh_17 fx_17_0 dX2_worth_21 ?_
    refine st_iload rfl dX2_worth_24 ?_
    refine so_iald (v := (mem 18 x5)) 18 rfl sh_18 (by decide) (s2 h1) rfl dX2_worth_26 (fun r2 => ?_)
    refine st_istore (by decide) (lc' := [(2, 17), (2, 23), (0, x2), (0, x3), (0, x4), (0, x5), (0, (mem 18 x5))]) rfl dX2_worth_27 ?_
    refine st_iload rfl dX2_worth_29 ?_
    refine sr_if_eq 51 (s3 h1) (by decide) dX2_worth_31 (fun h2 => ?_) (fun h2 => ?_)
    · have h2 : x4 = 0 := by omega
      refine st_iload rfl dX2_worth_51 ?_
      refine st_bipush rfl dX2_worth_53 ?_
      refine sr_icmp_ne 63 r2 ⟨by decide, by decide⟩ (by decide) dX2_worth_55 (fun h3 => ?_) (fun h3 => ?_)
      · have h3 : ¬ (mem 18 x5) = 59 := by omega
        refine st_iload rfl dX2_worth_63 ?_
        refine st_bipush rfl dX2_worth_65 ?_
        refine sr_icmp_ne 87 r2 ⟨by decide, by decide⟩ (by decide) dX2_worth_67 (fun h4 => ?_) (fun h4 => ?_)
        · have h4 : ¬ (mem 18 x5) = 63 := by omega
          refine st_aload_n (i := 0) rfl (t := 0) rfl (by decide) dX2_worth_87 ?_
          refine st_iload rfl dX2_worth_88 ?_
          refine st_aload_n (i := 1) rfl (t := 0) rfl (by decide) dX2_worth_90 ?_
          refine st_iload_n (i := 2) rfl rfl dX2_worth_91 ?_
          refine st_iload_n (i := 3) rfl rfl dX2_worth_92 ?_
          refine st_callV (kc2 := 0) (ks2 := 0) (av := [(0, (mem 18 x5)), (2, 23), (0, x2), (0, x3)]) 17 2 mr_X2_39 ok_X2_work (c1 h1 h2 h3 h4) rfl sh_17 ⟨_, rfl, rfl, by decide⟩ rfl rfl hd_d1 (Nat.le_refl 0) (Nat.le_refl 0) (Nat.le_of_ble_eq_true rfl) dX2_worth_93 (mQv.elim fun m1 p1 => ?_)
          refine st_iinc (y := (x5 + 1)) (by decide) (i := 5) rfl rfl (lc' := [(2, 17), (2, 23), (0, x2), (0, x3), (0, x4), (0, (x5 + 1)), (0, (mem 18 x5))]) rfl dX2_worth_96 ?_
          refine st_goto 11 (by decide) dX2_worth_99 ?_
          exact st_locals [(2, 17), (2, 23), (0, x2), (0, x3), (0, x4), (0, (x5 + 1)), (9, 0)] ⟨Or.inr rfl, Or.inr rfl, Or.inr rfl, Or.inr rfl, Or.inr rfl, Or.inr rfl, Or.inl rfl, trivial⟩ (k1 h1 h2 h3 h4 m1 p1)
        · have h4 : (mem 18 x5) = 63 := by omega
          refine st_aload_n (i := 0) rfl (t := 0) rfl (by decide) dX2_worth_70 ?_
          refine st_callV (kc2 := 0) (ks2 := 0) (av := []) 17 2 mr_X2_35 ok_X2_pop (c_X2_pop_17 mem ((s4 h1 h2 h3 h4))) rfl sh_17 ⟨_, rfl, rfl, by decide⟩ rfl rfl hd1 (Nat.le_refl 0) (Nat.le_refl 0) (Nat.le_of_ble_eq_true rfl) dX2_worth_71 (mQ.elim fun v1 m2 hp => ?_)
          obtain ⟨hpv, hpm⟩ := hp
          subst hpv
          have hpm := hpm.symm
          subst hpm
          refine sr_if_ne 81 (s5 h1 h2 h3 h4) (by decide) dX2_worth_74 (fun h5 => ?_) (fun h5 => ?_)
          · have h5 : ¬ (mem 19 ((mem 17 3) - 1)) = 0 := by omega
            refine st_iconst dX2_worth_81 ?_
            refine st_istore (by decide) (lc' := [(2, 17), (2, 23), (0, x2), (0, x3), (0, 0), (0, x5), (0, (mem 18 x5))]) rfl dX2_worth_82 ?_
            refine st_goto 96 (by decide) dX2_worth_84 ?_
            refine st_iinc (y := (x5 + 1)) (by decide) (i := 5) rfl rfl (lc' := [(2, 17), (2, 23), (0, x2), (0, x3), (0, 0), (0, (x5 + 1)), (0, (mem 18 x5))]) rfl dX2_worth_96 ?_
            refine st_goto 11 (by decide) dX2_worth_99 ?_
            exact st_locals [(2, 17), (2, 23), (0, x2), (0, x3), (0, 0), (0, (x5 + 1)), (9, 0)] ⟨Or.inr rfl, Or.inr rfl, Or.inr rfl, Or.inr rfl, Or.inr rfl, Or.inr rfl, Or.inl rfl, trivial⟩ (k2 h1 h2 h3 h4 h5)
          · have h5 : (mem 19 ((mem 17 3) - 1)) = 0 := by omega
            refine st_iconst dX2_worth_77 ?_
            refine st_goto 82 (by decide) dX2_worth_78 ?_
            refine st_istore (by decide) (lc' := [(2, 17), (2, 23), (0, x2), (0, x3), (0, 1), (0, x5), (0, (mem 18 x5))]) rfl dX2_worth_82 ?_
            refine st_goto 96 (by decide) dX2_worth_84 ?_
            refine st_iinc (y := (x5 + 1)) (by decide) (i := 5) rfl rfl (lc' := [(2, 17), (2, 23), (0, x2), (0, x3), (0, 1), (0, (x5 + 1)), (0, (mem 18 x5))]) rfl dX2_worth_96 ?_
            refine st_goto 11 (by decide) dX2_worth_99 ?_
            exact st_locals [(2, 17), (2, 23), (0, x2), (0, x3), (0, 1), (0, (x5 + 1)), (9, 0)] ⟨Or.inr rfl, Or.inr rfl, Or.inr rfl, Or.inr rfl, Or.inr rfl, Or.inr rfl, Or.inl rfl, trivial⟩ (k3 h1 h2 h3 h4 h5)
      · have h3 : (mem 18 x5) = 59 := by omega
        refine st_aload_n (i := 0) rfl (t := 0) rfl (by decide) dX2_worth_58 ?_
        refine st_callV (kc2 := 0) (ks2 := 0) (av := []) 17 2 mr_X2_35 ok_X2_pop (c_X2_pop_17 mem ((s6 h1 h2 h3))) rfl sh_17 ⟨_, rfl, rfl, by decide⟩ rfl rfl hd1 (Nat.le_refl 0) (Nat.le_refl 0) (Nat.le_of_ble_eq_true rfl) dX2_worth_59 (mQ.elim fun v2 m3 hp => ?_)
        obtain ⟨hpv, hpm⟩ := hp
        subst hpv
        have hpm := hpm.symm
        subst hpm
        exact st_ireturn rfl dX2_worth_62 (mQ.ret (q2 h1 h2 h3))
    · have h2 : ¬ x4 = 0 := by omega
      refine st_iload rfl dX2_worth_34 ?_
      refine st_bipush rfl dX2_worth_36 ?_
      refine sr_icmp_eq 45 r2 ⟨by decide, by decide⟩ (by decide) dX2_worth_38 (fun h6 => ?_) (fun h6 => ?_)
      · have h6 : (mem 18 x5) = 59 := by omega
        refine st_iconst dX2_worth_45 ?_
        refine st_istore (by decide) (lc' := [(2, 17), (2, 23), (0, x2), (0, x3), (0, 0), (0, x5), (0, (mem 18 x5))]) rfl dX2_worth_46 ?_
        refine st_goto 96 (by decide) dX2_worth_48 ?_
        refine st_iinc (y := (x5 + 1)) (by decide) (i := 5) rfl rfl (lc' := [(2, 17), (2, 23), (0, x2), (0, x3), (0, 0), (0, (x5 + 1)), (0, (mem 18 x5))]) rfl dX2_worth_96 ?_
        refine st_goto 11 (by decide) dX2_worth_99 ?_
        exact st_locals [(2, 17), (2, 23), (0, x2), (0, x3), (0, 0), (0, (x5 + 1)), (9, 0)] ⟨Or.inr rfl, Or.inr rfl, Or.inr rfl, Or.inr rfl, Or.inr rfl, Or.inr rfl, Or.inl rfl, trivial⟩ (k4 h1 h2 h6)
      · have h6 : ¬ (mem 18 x5) = 59 := by omega
        refine st_iconst dX2_worth_41 ?_
        refine st_goto 46 (by decide) dX2_worth_42 ?_
        refine st_istore (by decide) (lc' := [(2, 17), (2, 23), (0, x2), (0, x3), (0, 1), (0, x5), (0, (mem 18 x5))]) rfl dX2_worth_46 ?_
        refine st_goto 96 (by decide) dX2_worth_48 ?_
        refine st_iinc (y := (x5 + 1)) (by decide) (i := 5) rfl rfl (lc' := [(2, 17), (2, 23), (0, x2), (0, x3), (0, 1), (0, (x5 + 1)), (0, (mem 18 x5))]) rfl dX2_worth_96 ?_
        refine st_goto 11 (by decide) dX2_worth_99 ?_
        exact st_locals [(2, 17), (2, 23), (0, x2), (0, x3), (0, 1), (0, (x5 + 1)), (9, 0)] ⟨Or.inr rfl, Or.inr rfl, Or.inr rfl, Or.inr rfl, Or.inr rfl, Or.inr rfl, Or.inl rfl, trivial⟩ (k5 h1 h2 h6)
theorem run_17 (o : Bool) (mem : mmM) (s b : Int) (P : Int → mmM → Prop) (hs : R32 s) (hb : R32 b) (hn : 0 ≤ mem 23 1 ∧ mem 23 1 ≤ 24) (hL : ∀ k, 0 ≤ k → k < 6 → -1000000 ≤ letterX mem (leF k) s b ∧ letterX mem (leF k) s b ≤ 1000000) (hsz : mem 17 1 ≤ 160) : ∀ (ts : List tokT) (p : Int) (st : List Int) (ty : List Bool) (m : mmM), tokX (mem 18) p ts → wfX o ty ts → valR ty st → st.length ≤ 64 → lawSt_17 mem st m → 0 ≤ p → p + ts.length < mem 17 1 →
    (∀ (m' : mmM) (v : Int), evToks (fun k => letterX mem (leF k) s b) st ts = [v] → valR [o] [v] → lawSt_17 mem [v] m' → mmT bX2_worth 4 0 0 (mQ 0 P) 11 [(2, 17), (2, 23), (0, s), (0, b), (0, 0), (0, p + ts.length), (9, 0)] [] mS m') →
    mmT bX2_worth 4 0 0 (mQ 0 P) 11 [(2, 17), (2, 23), (0, s), (0, b), (0, 0), (0, p), (9, 0)] [] mS m := by
  intro ts
  induction ts with
  | nil =>
    intro p st ty m ht hw hv h64 h hp hlt k
    have e : ty = [o] := hw
    rw [e] at hv
    have hl := valR_len _ _ hv
    match st, hl, hv, h, k with
    | [v], _, hv, h, k =>
      have k1 := k m v rfl hv h
      have e0 : p + (([] : List tokT).length : Int) = p := by simp
      rw [e0] at k1
      exact k1
  | cons t r ih =>
    intro p st ty m ht hw hv h64 h hp hlt k
    have hlen : ((t :: r).length : Int) = r.length + 1 := by simp
    rw [hlen] at hlt k
    have e1 : m 17 1 = mem 17 1 := h.2.1 1 (by decide)
    have eC : m 18 = mem 18 := h.1 18 (by decide) (by decide)
    have ec : m 18 p = encX t := by rw [eC]; exact ht.1
    have nt := encX_not hw
    have cs := c_X2_sign_17 o mem m st ty t r s b h hw hv h64 hs hb hn hL
    refine bk_X2_worth_17_11 (d1 := 3) (fun g g2 g3 g4 => by rw [ec]; exact cs) (fun g g2 g3 g4 m1 q => ?_) (fun g g2 g3 g4 => by rw [ec] at g4; exact absurd g4 nt.2) (fun g g2 g3 g4 => by rw [ec] at g4; exact absurd g4 nt.2) (fun g g2 => absurd rfl g2) (fun g g2 => absurd rfl g2) (fun g => by rw [e1] at g; omega) (fun g g2 g3 => by rw [ec] at g3; exact absurd g3 nt.1) (s2 := fun g => by rw [e1] at g; omega) (s4 := fun g g2 g3 g4 => by rw [ec] at g4; exact absurd g4 nt.2) (s5 := fun g g2 g3 g4 => by rw [ec] at g4; exact absurd g4 nt.2) (s6 := fun g g2 g3 => by rw [ec] at g3; exact absurd g3 nt.1)
    obtain ⟨q1, ty', q2, q3, q4⟩ := q
    refine ih (p + 1) _ ty' m1 ht.2 q3 q2 q4 q1 (by omega) (by omega) (fun m' v ev hv' h' => ?_)
    have k1 := k m' v ev hv' h'
    rw [show p + 1 + (r.length : Int) = p + ((r.length : Int) + 1) by omega]
    exact k1
theorem skip_17 (o : Bool) (mem m : mmM) (s b : Int) (P : Int → mmM → Prop) (hs : R32 s) (hb : R32 b) (hsz : mem 17 1 ≤ 160) (eC : m 18 = mem 18) (e1 : m 17 1 = mem 17 1) : ∀ (ts : List tokT) (p : Int) (ty : List Bool), tokX (mem 18) p ts → wfX o ty ts → 0 ≤ p → p + ts.length < mem 17 1 → mem 18 (p + ts.length) = 59 →
    mmT bX2_worth 4 0 0 (mQ 0 P) 11 [(2, 17), (2, 23), (0, s), (0, b), (0, 0), (0, p + ts.length + 1), (9, 0)] [] mS m →
    mmT bX2_worth 4 0 0 (mQ 0 P) 11 [(2, 17), (2, 23), (0, s), (0, b), (0, 1), (0, p), (9, 0)] [] mS m := by
  intro ts
  induction ts with
  | nil =>
    intro p ty ht hw hp hlt h59 k
    have e0 : p + (([] : List tokT).length : Int) = p := by simp
    rw [e0] at hlt h59 k
    exact bk_X2_worth_17_11 (d1 := 3) (P1 := fun _ => True) (fun g g2 => by omega) (fun g g2 => by omega) (fun g g2 => by omega) (fun g g2 => by omega) (fun g g2 g3 => k) (fun g g2 g3 => by rw [eC] at g3; exact absurd h59 g3) (fun g => by rw [e1] at g; omega) (fun g g2 => by omega) (s2 := fun g => by rw [e1] at g; omega) (s4 := fun g g2 => by omega) (s5 := fun g g2 => by omega) (s6 := fun g g2 => by omega)
  | cons t r ih =>
    intro p ty ht hw hp hlt h59 k
    have hlen : ((t :: r).length : Int) = r.length + 1 := by simp
    rw [hlen] at hlt h59 k
    have nt := encX_not hw
    have ec : m 18 p = encX t := by rw [eC]; exact ht.1
    have hw' : ∃ ty', wfX o ty' r := by
      unfold wfX at hw
      by_cases c0 : t.1 = 0
      · rw [if_pos c0] at hw
        exact ⟨_, hw.2.2⟩
      · rw [if_neg c0] at hw
        by_cases c1 : t.1 = 1
        · rw [if_pos c1] at hw
          exact ⟨_, hw.2.2⟩
        · rw [if_neg c1] at hw
          by_cases c9 : t.1 = 9
          · rw [if_pos c9] at hw
            exact ⟨_, hw.2⟩
          · rw [if_neg c9] at hw
            by_cases c10 : t.1 = 10 ∨ t.1 = 11
            · rw [if_pos c10] at hw
              obtain ⟨q, _, h⟩ := hw
              exact ⟨_, h⟩
            · rw [if_neg c10] at hw
              by_cases c6 : 6 ≤ t.1 ∧ t.1 ≤ 8
              · rw [if_pos c6] at hw
                obtain ⟨q, _, h⟩ := hw
                exact ⟨_, h⟩
              · rw [if_neg c6] at hw
                obtain ⟨_, q, _, h⟩ := hw
                exact ⟨_, h⟩
    obtain ⟨ty', hw'⟩ := hw'
    refine bk_X2_worth_17_11 (d1 := 3) (P1 := fun _ => True) (fun g g2 => by omega) (fun g g2 => by omega) (fun g g2 => by omega) (fun g g2 => by omega) (fun g g2 g3 => by rw [ec] at g3; exact absurd g3 nt.1) (fun g g2 g3 => ?_) (fun g => by rw [e1] at g; omega) (fun g g2 => by omega) (s2 := fun g => by rw [e1] at g; omega) (s4 := fun g g2 => by omega) (s5 := fun g g2 => by omega) (s6 := fun g g2 => by omega)
    refine ih (p + 1) ty' ht.2 hw' (by omega) (by omega) ?_ ?_
    · rw [show p + 1 + (r.length : Int) = p + ((r.length : Int) + 1) by omega]
      exact h59
    · rw [show p + 1 + (r.length : Int) + 1 = p + ((r.length : Int) + 1) + 1 by omega]
      exact k
theorem c_X2_worth_17 (mem : mmM) (s b : Int) (cl : lawT) (hs : R32 s) (hb : R32 b) (hn : 0 ≤ mem 23 1 ∧ mem 23 1 ≤ 24) (hL : ∀ k, 0 ≤ k → k < 6 → -1000000 ≤ letterX mem (leF k) s b ∧ letterX mem (leF k) s b ≤ 1000000) (hsz : 0 ≤ mem 17 1 ∧ mem 17 1 ≤ 160) (hl : lawX (mem 18) (mem 17 1) 0 cl) : con 0 bX2_worth 4 [(2, 17), (2, 23), (0, s), (0, b)] mem (fun v m => v = lawV (fun k => letterX mem (leF k) s b) cl ∧ (-1000000 ≤ v ∧ v ≤ 1000000) ∧ (∀ a, a ≠ 17 → a ≠ 19 → m a = mem a) ∧ ∀ j, j ≠ 3 → m 17 j = mem 17 j) := by
  refine cn_X2_worth_17 (bk_X2_worth_17_0 ?_)
  have key : ∀ (c : lawT) (p : Int) (m : mmM), lawX (mem 18) (mem 17 1) p c → 0 ≤ p → lawSt_17 mem [] m → lawV (fun k => letterX mem (leF k) s b) c = lawV (fun k => letterX mem (leF k) s b) cl → mmT bX2_worth 4 0 0 (mQ 0 (fun v m => v = lawV (fun k => letterX mem (leF k) s b) cl ∧ (-1000000 ≤ v ∧ v ≤ 1000000) ∧ (∀ a, a ≠ 17 → a ≠ 19 → m a = mem a) ∧ ∀ j, j ≠ 3 → m 17 j = mem 17 j)) 11 [(2, 17), (2, 23), (0, s), (0, b), (0, 0), (0, p), (9, 0)] [] mS m := by
    intro c
    induction c with
    | nil =>
      intro p m hx hp h he
      have e1 : m 17 1 = mem 17 1 := h.2.1 1 (by decide)
      have hx' : p = mem 17 1 := hx
      refine bk_X2_worth_17_11 (d1 := 3) (P1 := fun _ => True) (fun g => by rw [e1] at g; omega) (fun g => by rw [e1] at g; omega) (fun g => by rw [e1] at g; omega) (fun g => by rw [e1] at g; omega) (fun g => by rw [e1] at g; omega) (fun g => by rw [e1] at g; omega) (fun g => ⟨?_, by omega, h.1, h.2.1⟩) (fun g => by rw [e1] at g; omega) (s2 := fun g => by rw [e1] at g; omega) (s4 := fun g => by rw [e1] at g; omega) (s5 := fun g => by rw [e1] at g; omega) (s6 := fun g => by rw [e1] at g; omega)
      rw [← he]
      rfl
    | cons q r ih =>
      intro p m hx hp h he
      have he' : (if q.1.length = 0 ∨ ¬ top1 (evToks (fun k => letterX mem (leF k) s b) [] q.1) = 0 then top1 (evToks (fun k => letterX mem (leF k) s b) [] q.2) else lawV (fun k => letterX mem (leF k) s b) r) = lawV (fun k => letterX mem (leF k) s b) cl := he
      -- a sum worked out ends the law
      have sum : ∀ (p' : Int) (m' : mmM), lawSt_17 mem [] m' → wfX false [] q.2 → 0 ≤ p' → tokX (mem 18) p' q.2 → mem 18 (p' + q.2.length) = 59 → p' + q.2.length < mem 17 1 → top1 (evToks (fun k => letterX mem (leF k) s b) [] q.2) = lawV (fun k => letterX mem (leF k) s b) cl → mmT bX2_worth 4 0 0 (mQ 0 (fun v m => v = lawV (fun k => letterX mem (leF k) s b) cl ∧ (-1000000 ≤ v ∧ v ≤ 1000000) ∧ (∀ a, a ≠ 17 → a ≠ 19 → m a = mem a) ∧ ∀ j, j ≠ 3 → m 17 j = mem 17 j)) 11 [(2, 17), (2, 23), (0, s), (0, b), (0, 0), (0, p'), (9, 0)] [] mS m' := by
        intro p' m' h' hw hp' ht h59 hlt ev
        refine run_17 false mem s b _ hs hb hn hL hsz.2 q.2 p' [] [] m' ht hw trivial (by decide) h' hp' hlt (fun m2 v e2 hv2 h2 => ?_)
        have pp := lawSt_pop_17 h2
        have e1 : m2 17 1 = mem 17 1 := h2.2.1 1 (by decide)
        have eC : m2 18 = mem 18 := h2.1 18 (by decide) (by decide)
        have e3 : m2 17 3 = 1 := pp.2.2
        refine bk_X2_worth_17_11 (d1 := 3) (P1 := fun _ => True) (fun g g2 g3 => by rw [eC] at g3; exact absurd h59 g3) (fun g g2 g3 => by rw [eC] at g3; exact absurd h59 g3) (fun g g2 g3 => by rw [eC] at g3; exact absurd h59 g3) (fun g g2 g3 => by rw [eC] at g3; exact absurd h59 g3) (fun g g2 => absurd rfl g2) (fun g g2 => absurd rfl g2) (fun g => by rw [e1] at g; omega) (fun g g2 g3 => ⟨?_, by rw [pp.2.1]; exact hv2.1, pp.1.1, pp.1.2.1⟩) (s2 := fun g => by rw [e1] at g; omega) (s4 := fun g g2 g3 => by rw [eC] at g3; exact absurd h59 g3) (s5 := fun g g2 g3 => by rw [eC] at g3; exact absurd h59 g3) (s6 := fun g g2 g3 => by omega)
        rw [pp.2.1, ← ev, e2]
        rfl
      obtain ⟨hw2, hx⟩ := hx
      rcases hx with ⟨h0, t2, h59, hlt, hr⟩ | ⟨hw1, h0, t1, h63, t2, h59, hlt, hr⟩
      · rw [if_pos (Or.inl h0)] at he'
        exact sum p m h hw2 hp t2 h59 hlt he'
      · have l1 : 0 ≤ (q.1.length : Int) := by omega
        have l2 : 0 ≤ (q.2.length : Int) := by omega
        refine run_17 true mem s b _ hs hb hn hL hsz.2 q.1 p [] [] m t1 hw1 trivial (by decide) h hp (by omega) (fun m2 v e2 hv2 h2 => ?_)
        have pp := lawSt_pop_17 h2
        have e1 : m2 17 1 = mem 17 1 := h2.2.1 1 (by decide)
        have eC : m2 18 = mem 18 := h2.1 18 (by decide) (by decide)
        have e3 : m2 17 3 = 1 := pp.2.2
        have vb : v = 0 ∨ v = 1 := hv2.1
        have tv : top1 (evToks (fun k => letterX mem (leF k) s b) [] q.1) = v := by rw [e2]; rfl
        rw [tv] at he'
        refine bk_X2_worth_17_11 (d1 := 3) (P1 := fun _ => True) (fun g g2 g3 g4 => by rw [eC] at g4; exact absurd h63 g4) (fun g g2 g3 g4 => by rw [eC] at g4; exact absurd h63 g4) (fun g g2 g3 g4 g5 => ?_) (fun g g2 g3 g4 g5 => ?_) (fun g g2 => absurd rfl g2) (fun g g2 => absurd rfl g2) (fun g => by rw [e1] at g; omega) (fun g g2 g3 => by rw [eC, h63] at g3; omega) (s2 := fun g => by rw [e1] at g; omega) (s4 := fun g g2 g3 g4 => by omega) (s5 := fun g g2 g3 g4 => by rw [pp.2.1]; omega) (s6 := fun g g2 g3 => by omega)
        · rw [pp.2.1] at g5
          rw [if_pos (Or.inr g5)] at he'
          exact sum _ _ pp.1 hw2 (by omega) t2 h59 hlt he'
        · rw [pp.2.1] at g5
          rw [if_neg (fun z => by rcases z with z | z; · exact h0 z
                                  · exact z g5)] at he'
          have eC' := pp.1.1 18 (by decide) (by decide)
          have e1' := pp.1.2.1 1 (by decide)
          exact skip_17 false mem _ s b _ hs hb hsz.2 eC' e1' q.2 _ [] t2 hw2 (by omega) hlt h59 (ih _ _ hr (by omega) pp.1 he')
  refine key cl 0 _ hl (by omega) ⟨fun a a1 a2 => mset_ne a1, fun j hj => by rw [mset_at, if_neg hj], mset_same _ _ _ _, trivial⟩ rfl
theorem cn_X8_weigh_17 {d : Nat} {P : mmM → Prop} {mem : mmM} (h : mmT bX8_weigh d 0 0 (mQv P) 0 [(2, 23), (2, 17), (9, 0)] [] mS mem) : conv bX8_weigh d [(2, 23), (2, 17)] mem P := mmC_of [(2, 23), (2, 17), (9, 0)] ok_X8_weigh.2.2.2.2 rfl (Nat.le_of_ble_eq_true rfl) h
theorem bk_X8_weigh_17_0 {d : Nat} {P : mmM → Prop} {mem : mmM}
  (k1 : mmT bX8_weigh d 0 0 (mQv P) 2 [(2, 23), (2, 17), (0, 0)] [] mS mem)
  : mmT bX8_weigh d 0 0 (mQv P) 0 [(2, 23), (2, 17), (9, 0)] [] mS mem := by
  refine st_iconst dX8_weigh_0 ?_
  refine st_istore_n (i := 2) rfl (by decide) (lc' := [(2, 23), (2, 17), (0, 0)]) rfl dX8_weigh_1 ?_
  exact st_locals [(2, 23), (2, 17), (0, 0)] ⟨Or.inr rfl, Or.inr rfl, Or.inr rfl, trivial⟩ k1
theorem bk_X8_weigh_17_2 {d : Nat} {d1 : Nat} {P1 : Int → mmM → Prop} {d2 : Nat} {P2 : Int → mmM → Prop} {P : mmM → Prop} {mem : mmM} {x2 : Int}
  (c1 : x2 < (mem 23 1) → con 0 bX2_worth d1 [(2, 17), (2, 23), (0, x2), (0, 0)] mem P1)
  (c2 : x2 < (mem 23 1) → ∀ (v1 : Int), ∀ (m1 : mmM), P1 v1 m1 → con 0 bX2_worth d2 [(2, 17), (2, 23), (0, x2), (0, 1)] (mset m1 31 x2 (percS v1)) P2)
  (k1 : x2 < (mem 23 1) → ∀ (v1 : Int), ∀ (m1 : mmM), P1 v1 m1 → ∀ (v3 : Int), ∀ (m3 : mmM), P2 v3 m3 → mmT bX8_weigh d 0 0 (mQv P) 2 [(2, 23), (2, 17), (0, (x2 + 1))] [] mS (mset m3 32 x2 (percS v3)))
  (q1 : (mem 23 1) ≤ x2 → P mem)
  (hd_d1 : d1 + 1 ≤ d := by omega)
  (hd_d2 : d2 + 1 ≤ d := by omega)
  (hd3 : 3 ≤ d := by omega)
  (s1 : R32 x2 := by intros; first | omega | assumption | solve_by_elim)
  (s2 : x2 < (mem 23 1) → ∀ (v1 : Int), ∀ (m1 : mmM), P1 v1 m1 → R32 v1 := by intros; first | omega | assumption | solve_by_elim)
  (s3 : x2 < (mem 23 1) → ∀ (v1 : Int), ∀ (m1 : mmM), P1 v1 m1 → 0 ≤ x2 ∧ x2 < 24 := by intros; first | omega | assumption | solve_by_elim)
  (s4 : x2 < (mem 23 1) → ∀ (v1 : Int), ∀ (m1 : mmM), P1 v1 m1 → ∀ (v3 : Int), ∀ (m3 : mmM), P2 v3 m3 → R32 v3 := by intros; first | omega | assumption | solve_by_elim)
  : mmT bX8_weigh d 0 0 (mQv P) 2 [(2, 23), (2, 17), (0, x2)] [] mS mem := by
  refine st_iload_n (i := 2) rfl rfl dX8_weigh_2 ?_
  refine st_aload_n (i := 0) rfl (t := 0) rfl (by decide) dX8_weigh_3 ?_
  refine so_getI (v := (mem 23 1)) 23 1 fr_X8_60_8 rfl sh_23 rfl dX8_weigh_4 (fun r1 => ?_)
  refine sr_icmp_ge 64 s1 r1 (by decide) dX8_weigh_7 (fun h1 => ?_) (fun h1 => ?_)
  · have h1 : (mem 23 1) ≤ x2 := by omega
    exact st_return rfl dX8_weigh_64 (mQv.ret (q1 h1))
  · have h1 : x2 < (mem 23 1) := by omega
    refine st_aload_n (i := 0) rfl (t := 0) rfl (by decide) dX8_weigh_10 ?_
    refine so_getA 23 9 fr_X8_33_8 rfl sh_23 fx_23_9 dX8_weigh_11 ?_
    refine st_iload_n (i := 2) rfl rfl dX8_weigh_14 ?_
    refine st_aload_n (i := 1) rfl (t := 0) rfl (by decide) dX8_weigh_15 ?_
    refine st_ifnonnull 23 (by decide) dX8_weigh_16 (fun _ => ?_) (fun h => absurd h (by decide))
    refine st_aload_n (i := 1) rfl (t := 0) rfl (by decide) dX8_weigh_23 ?_
    refine st_aload_n (i := 0) rfl (t := 0) rfl (by decide) dX8_weigh_24 ?_
    refine st_iload_n (i := 2) rfl rfl dX8_weigh_25 ?_
    refine st_iconst dX8_weigh_26 ?_
    refine st_callV (kc2 := 0) (ks2 := 0) (av := [(2, 23), (0, x2), (0, 0)]) 17 2 mr_X8_89 ok_X2_worth (c1 h1) rfl sh_17 ⟨_, rfl, rfl, by decide⟩ rfl rfl hd_d1 (Nat.le_refl 0) (Nat.le_refl 0) (Nat.le_of_ble_eq_true rfl) dX8_weigh_27 (mQ.elim fun v1 m1 p1 => ?_)
    refine st_callS (kc2 := 0) (ks2 := 0) (av := [(0, v1)]) mr_X8_95 ok_X8_percent (c_X8_percent m1 v1 ((s2 h1 v1 m1 p1))) rfl rfl hd3 (Nat.le_refl 0) (Nat.le_refl 0) (Nat.le_of_ble_eq_true rfl) dX8_weigh_30 (mQ.elim fun v2 m2 hp => ?_)
    obtain ⟨hpv, hpm⟩ := hp
    subst hpv
    have hpm := hpm.symm
    subst hpm
    refine so_iast 31 fr_31 rfl sh_31 (by decide) (s3 h1 v1 m1 p1) (percS_rng v1) dX8_weigh_33 ?_
    refine st_aload_n (i := 0) rfl (t := 0) rfl (by decide) dX8_weigh_34 ?_
    refine so_getA 23 10 fr_X8_36_8 rfl sh_23 fx_23_10 dX8_weigh_35 ?_
    refine st_iload_n (i := 2) rfl rfl dX8_weigh_38 ?_
    refine st_aload_n (i := 1) rfl (t := 0) rfl (by decide) dX8_weigh_39 ?_
    refine st_ifnonnull 47 (by decide) dX8_weigh_40 (fun _ => ?_) (fun h => absurd h (by decide))
    refine st_aload_n (i := 1) rfl (t := 0) rfl (by decide) dX8_weigh_47 ?_
    refine st_aload_n (i := 0) rfl (t := 0) rfl (by decide) dX8_weigh_48 ?_
    refine st_iload_n (i := 2) rfl rfl dX8_weigh_49 ?_
    refine st_iconst dX8_weigh_50 ?_
    refine st_callV (kc2 := 0) (ks2 := 0) (av := [(2, 23), (0, x2), (0, 1)]) 17 2 mr_X8_89 ok_X2_worth (c2 h1 v1 m1 p1) rfl sh_17 ⟨_, rfl, rfl, by decide⟩ rfl rfl hd_d2 (Nat.le_refl 0) (Nat.le_refl 0) (Nat.le_of_ble_eq_true rfl) dX8_weigh_51 (mQ.elim fun v3 m3 p2 => ?_)
    refine st_callS (kc2 := 0) (ks2 := 0) (av := [(0, v3)]) mr_X8_95 ok_X8_percent (c_X8_percent m3 v3 ((s4 h1 v1 m1 p1 v3 m3 p2))) rfl rfl hd3 (Nat.le_refl 0) (Nat.le_refl 0) (Nat.le_of_ble_eq_true rfl) dX8_weigh_54 (mQ.elim fun v4 m4 hp => ?_)
    obtain ⟨hpv, hpm⟩ := hp
    subst hpv
    have hpm := hpm.symm
    subst hpm
    refine so_iast 32 fr_32 rfl sh_32 (by decide) (s3 h1 v1 m1 p1) (percS_rng v3) dX8_weigh_57 ?_
    refine st_iinc (y := (x2 + 1)) (by decide) (i := 2) rfl rfl (lc' := [(2, 23), (2, 17), (0, (x2 + 1))]) rfl dX8_weigh_58 ?_
    refine st_goto 2 (by decide) dX8_weigh_61 ?_
    exact st_locals [(2, 23), (2, 17), (0, (x2 + 1))] ⟨Or.inr rfl, Or.inr rfl, Or.inr rfl, trivial⟩ (k1 h1 v1 m1 p1 v3 m3 p2)
theorem c_X8_weigh_17 (mem : mmM) (cl : lawT) (hn : 0 ≤ mem 23 1 ∧ mem 23 1 ≤ 24) (hL : ∀ i b k, 0 ≤ i → i < mem 23 1 → (b = 0 ∨ b = 1) → -1000000 ≤ letterX mem (leF k) i b ∧ letterX mem (leF k) i b ≤ 1000000) (hsz : 0 ≤ mem 17 1 ∧ mem 17 1 ≤ 160) (hl : lawX (mem 18) (mem 17 1) 0 cl) : conv bX8_weigh 5 [(2, 23), (2, 17)] mem (fun m => (∀ a, a ≠ 31 → a ≠ 32 → a ≠ 17 → a ≠ 19 → m a = mem a) ∧ (∀ j, j ≠ 3 → m 17 j = mem 17 j) ∧ ∀ i, 0 ≤ i → i < mem 23 1 → m 31 i = percS (lawV (fun k => letterX mem (leF k) i 0) cl) ∧ m 32 i = percS (lawV (fun k => letterX mem (leF k) i 1) cl)) := by
  refine cn_X8_weigh_17 (bk_X8_weigh_17_0 ?_)
  refine loop_up (n := mem 23 1) (fun i => ∀ m : mmM, (∀ a, a ≠ 31 → a ≠ 32 → a ≠ 17 → a ≠ 19 → m a = mem a) → (∀ j, j ≠ 3 → m 17 j = mem 17 j) → (∀ t, 0 ≤ t → t < i → m 31 t = percS (lawV (fun k => letterX mem (leF k) t 0) cl) ∧ m 32 t = percS (lawV (fun k => letterX mem (leF k) t 1) cl)) → mmT bX8_weigh 5 0 0 (mQv (fun m => (∀ a, a ≠ 31 → a ≠ 32 → a ≠ 17 → a ≠ 19 → m a = mem a) ∧ (∀ j, j ≠ 3 → m 17 j = mem 17 j) ∧ ∀ i, 0 ≤ i → i < mem 23 1 → m 31 i = percS (lawV (fun k => letterX mem (leF k) i 0) cl) ∧ m 32 i = percS (lawV (fun k => letterX mem (leF k) i 1) cl))) 2 [(2, 23), (2, 17), (0, i)] [] mS m) (fun i h0 h1 ih m f g0 d => ?_) 0 (by omega) hn.1 mem (fun a _ _ _ _ => rfl) (fun j _ => rfl) (fun t t0 t1 => by omega)
  have w : ∀ (m' : mmM) (b : Int), (b = 0 ∨ b = 1) → i < mem 23 1 → (∀ a, a ≠ 31 → a ≠ 32 → a ≠ 17 → a ≠ 19 → m' a = mem a) → (∀ j, j ≠ 3 → m' 17 j = mem 17 j) → con 0 bX2_worth 4 [(2, 17), (2, 23), (0, i), (0, b)] m' (fun v m2 => v = lawV (fun k => letterX mem (leF k) i b) cl ∧ (-1000000 ≤ v ∧ v ≤ 1000000) ∧ (∀ a, a ≠ 17 → a ≠ 19 → m2 a = m' a) ∧ ∀ j, j ≠ 3 → m2 17 j = m' 17 j) := by
    intro m' b hb hi f' g'
    have el : letterX m' = letterX mem := by
      funext a c e
      unfold letterX
      rw [f' 23 (by decide) (by decide) (by decide) (by decide), f' 24 (by decide) (by decide) (by decide) (by decide), f' 26 (by decide) (by decide) (by decide) (by decide), f' 29 (by decide) (by decide) (by decide) (by decide), f' 30 (by decide) (by decide) (by decide) (by decide)]
    have c := c_X2_worth_17 m' i b cl (by omega) (by omega) (by rw [f' 23 (by decide) (by decide) (by decide) (by decide)]; exact hn) (fun k _ _ => by rw [el]; exact hL i b k h0 hi hb) (by rw [g' 1 (by decide)]; exact hsz) (by rw [f' 18 (by decide) (by decide) (by decide) (by decide), g' 1 (by decide)]; exact hl)
    rw [el] at c
    exact c
  have e23 : m 23 = mem 23 := f 23 (by decide) (by decide) (by decide) (by decide)
  refine bk_X8_weigh_17_2 (d1 := 4) (d2 := 4) (P1 := fun v m2 => v = lawV (fun k => letterX mem (leF k) i 0) cl ∧ (-1000000 ≤ v ∧ v ≤ 1000000) ∧ (∀ a, a ≠ 17 → a ≠ 19 → m2 a = m a) ∧ ∀ j, j ≠ 3 → m2 17 j = m 17 j) (P2 := fun v m3 => v = lawV (fun k => letterX mem (leF k) i 1) cl ∧ (-1000000 ≤ v ∧ v ≤ 1000000) ∧ (∀ a, a ≠ 31 → a ≠ 17 → a ≠ 19 → m3 a = m a) ∧ m3 31 = (fun j => if j = i then percS (lawV (fun k => letterX mem (leF k) i 0) cl) else m 31 j) ∧ ∀ j, j ≠ 3 → m3 17 j = m 17 j) (fun g => w m 0 (Or.inl rfl) (by rw [e23] at g; exact g) f g0) (fun g v1 m1 q => ?_) (fun g v1 m1 q v3 m3 q3 => ?_) (fun g => ?_) (s2 := fun g v1 m1 q => by have := q.2.1; omega) (s3 := fun g v1 m1 q => by rw [e23] at g; omega) (s4 := fun g v1 m1 q v3 m3 q3 => by have := q3.2.1; omega)
  · rw [e23] at g
    have c := w (mset m1 31 i (percS v1)) 1 (Or.inr rfl) g (fun a a1 a2 a3 a4 => by rw [mset_ne a1]; exact (q.2.2.1 a a3 a4).trans (f a a1 a2 a3 a4)) (fun j hj => by rw [mset_ne (by decide)]; exact (q.2.2.2 j hj).trans (g0 j hj))
    refine con.mono c (fun v m3 z => ⟨z.1, z.2.1, fun a a1 a2 a3 => ?_, ?_, fun j hj => ?_⟩)
    · rw [z.2.2.1 a a2 a3, mset_ne a1]
      exact q.2.2.1 a a2 a3
    · rw [z.2.2.1 31 (by decide) (by decide)]
      funext j
      rw [mset_at, q.2.2.1 31 (by decide) (by decide), q.1]
    · rw [z.2.2.2 j hj, mset_ne (by decide)]
      exact q.2.2.2 j hj
  · rw [e23] at g
    refine ih g _ (fun a a1 a2 a3 a4 => ?_) (fun j hj => ?_) (fun t t0 t1 => ⟨?_, ?_⟩)
    · rw [mset_ne a2, q3.2.2.1 a a1 a3 a4]
      exact f a a1 a2 a3 a4
    · rw [mset_ne (by decide)]
      exact (q3.2.2.2.2 j hj).trans (g0 j hj)
    · rw [mset_ne (by decide), q3.2.2.2.1]
      by_cases z : t = i
      · show (if t = i then _ else _) = _
        rw [if_pos z, z]
      · show (if t = i then _ else _) = _
        rw [if_neg z]
        exact (d t t0 (by omega)).1
    · rw [mset_at]
      by_cases z : t = i
      · rw [if_pos z, q3.1, z]
      · rw [if_neg z, q3.2.2.1 32 (by decide) (by decide) (by decide)]
        exact (d t t0 (by omega)).2
  · rw [e23] at g
    exact ⟨f, g0, fun t t0 t1 => d t t0 (by omega)⟩
theorem cn_X2_worth_20 {d : Nat} {P : Int → mmM → Prop} {mem : mmM} {x2 x3 : Int} (h : mmT bX2_worth d 0 0 (mQ 0 P) 0 [(2, 20), (2, 23), (0, x2), (0, x3), (9, 0), (9, 0), (9, 0)] [] mS mem) : con 0 bX2_worth d [(2, 20), (2, 23), (0, x2), (0, x3)] mem P := mmC_of [(2, 20), (2, 23), (0, x2), (0, x3), (9, 0), (9, 0), (9, 0)] ok_X2_worth.2.2.2.2 rfl (Nat.le_of_ble_eq_true rfl) h
theorem bk_X2_worth_20_0 {d : Nat} {P : Int → mmM → Prop} {mem : mmM} {x2 x3 : Int}
  (k1 : mmT bX2_worth d 0 0 (mQ 0 P) 11 [(2, 20), (2, 23), (0, x2), (0, x3), (0, 0), (0, 0), (9, 0)] [] mS (mset mem 20 3 0))
  : mmT bX2_worth d 0 0 (mQ 0 P) 0 [(2, 20), (2, 23), (0, x2), (0, x3), (9, 0), (9, 0), (9, 0)] [] mS mem := by
  refine st_aload_n (i := 0) rfl (t := 0) rfl (by decide) dX2_worth_0 ?_
  refine st_iconst dX2_worth_1 ?_
  refine so_putI 20 3 fr_X2_32_2 pf_2_3 fo_20_3 rfl sh_20 ⟨by decide, by decide⟩ dX2_worth_2 ?_
  refine st_iconst dX2_worth_5 ?_
  refine st_istore (by decide) (lc' := [(2, 20), (2, 23), (0, x2), (0, x3), (0, 0), (9, 0), (9, 0)]) rfl dX2_worth_6 ?_
  refine st_iconst dX2_worth_8 ?_
  refine st_istore (by decide) (lc' := [(2, 20), (2, 23), (0, x2), (0, x3), (0, 0), (0, 0), (9, 0)]) rfl dX2_worth_9 ?_
  exact st_locals [(2, 20), (2, 23), (0, x2), (0, x3), (0, 0), (0, 0), (9, 0)] ⟨Or.inr rfl, Or.inr rfl, Or.inr rfl, Or.inr rfl, Or.inr rfl, Or.inr rfl, Or.inl rfl, trivial⟩ k1
theorem bk_X2_worth_20_11 {d : Nat} {d1 : Nat} {P1 : mmM → Prop} {P : Int → mmM → Prop} {mem : mmM} {x2 x3 x4 x5 : Int}
  (c1 : x5 < (mem 20 1) → x4 = 0 → ¬ (mem 21 x5) = 59 → ¬ (mem 21 x5) = 63 → conv bX2_work d1 [(2, 20), (0, (mem 21 x5)), (2, 23), (0, x2), (0, x3)] mem P1)
  (k1 : x5 < (mem 20 1) → x4 = 0 → ¬ (mem 21 x5) = 59 → ¬ (mem 21 x5) = 63 → ∀ (m1 : mmM), P1 m1 → mmT bX2_worth d 0 0 (mQ 0 P) 11 [(2, 20), (2, 23), (0, x2), (0, x3), (0, x4), (0, (x5 + 1)), (9, 0)] [] mS m1)
  (k2 : x5 < (mem 20 1) → x4 = 0 → ¬ (mem 21 x5) = 59 → (mem 21 x5) = 63 → ¬ (mem 22 ((mem 20 3) - 1)) = 0 → mmT bX2_worth d 0 0 (mQ 0 P) 11 [(2, 20), (2, 23), (0, x2), (0, x3), (0, 0), (0, (x5 + 1)), (9, 0)] [] mS (mset mem 20 3 ((mem 20 3) - 1)))
  (k3 : x5 < (mem 20 1) → x4 = 0 → ¬ (mem 21 x5) = 59 → (mem 21 x5) = 63 → (mem 22 ((mem 20 3) - 1)) = 0 → mmT bX2_worth d 0 0 (mQ 0 P) 11 [(2, 20), (2, 23), (0, x2), (0, x3), (0, 1), (0, (x5 + 1)), (9, 0)] [] mS (mset mem 20 3 ((mem 20 3) - 1)))
  (k4 : x5 < (mem 20 1) → ¬ x4 = 0 → (mem 21 x5) = 59 → mmT bX2_worth d 0 0 (mQ 0 P) 11 [(2, 20), (2, 23), (0, x2), (0, x3), (0, 0), (0, (x5 + 1)), (9, 0)] [] mS mem)
  (k5 : x5 < (mem 20 1) → ¬ x4 = 0 → ¬ (mem 21 x5) = 59 → mmT bX2_worth d 0 0 (mQ 0 P) 11 [(2, 20), (2, 23), (0, x2), (0, x3), (0, 1), (0, (x5 + 1)), (9, 0)] [] mS mem)
  (q1 : (mem 20 1) ≤ x5 → P 0 mem)
  (q2 : x5 < (mem 20 1) → x4 = 0 → (mem 21 x5) = 59 → P (mem 22 ((mem 20 3) - 1)) (mset mem 20 3 ((mem 20 3) - 1)))
  (hd_d1 : d1 + 1 ≤ d := by omega)
  (hd1 : 1 ≤ d := by omega)
  (s1 : R32 x5 := by intros; first | omega | assumption | solve_by_elim)
  (s2 : x5 < (mem 20 1) → 0 ≤ x5 ∧ x5 < 160 := by intros; first | omega | assumption | solve_by_elim)
  (s3 : x5 < (mem 20 1) → R32 x4 := by intros; first | omega | assumption | solve_by_elim)
  (s4 : x5 < (mem 20 1) → x4 = 0 → ¬ (mem 21 x5) = 59 → (mem 21 x5) = 63 → 0 < (mem 20 3) ∧ (mem 20 3) ≤ 64 := by intros; first | omega | assumption | solve_by_elim)
  (s5 : x5 < (mem 20 1) → x4 = 0 → ¬ (mem 21 x5) = 59 → (mem 21 x5) = 63 → R32 (mem 22 ((mem 20 3) - 1)) := by intros; first | omega | assumption | solve_by_elim)
  (s6 : x5 < (mem 20 1) → x4 = 0 → (mem 21 x5) = 59 → 0 < (mem 20 3) ∧ (mem 20 3) ≤ 64 := by intros; first | omega | assumption | solve_by_elim)
  : mmT bX2_worth d 0 0 (mQ 0 P) 11 [(2, 20), (2, 23), (0, x2), (0, x3), (0, x4), (0, x5), (9, 0)] [] mS mem := by
  refine st_iload rfl dX2_worth_11 ?_
  refine st_aload_n (i := 0) rfl (t := 0) rfl (by decide) dX2_worth_13 ?_
  refine so_getI (v := (mem 20 1)) 20 1 fr_X2_30_2 rfl sh_20 rfl dX2_worth_14 (fun r1 => ?_)
  refine sr_icmp_ge 102 s1 r1 (by decide) dX2_worth_17 (fun h1 => ?_) (fun h1 => ?_)
  · have h1 : (mem 20 1) ≤ x5 := by omega
    refine st_iconst dX2_worth_102 ?_
    exact st_ireturn rfl dX2_worth_103 (mQ.ret (q1 h1))
  · have h1 : x5 < (mem 20 1) := by omega
    refine st_aload_n (i := 0) rfl (t := 0) rfl (by decide) dX2_worth_20 ?_
    refine so_getA 20 0 fr_X2_11_2 rfl sh_20 fx_20_0 dX2_worth_21 ?_
    refine st_iload rfl dX2_worth_24 ?_
    refine so_iald (v := (mem 21 x5)) 21 rfl sh_21 (by decide) (s2 h1) rfl dX2_worth_26 (fun r2 => ?_)
    refine st_istore (by decide) (lc' := [(2, 20), (2, 23), (0, x2), (0, x3), (0, x4), (0, x5), (0, (mem 21 x5))]) rfl dX2_worth_27 ?_
    refine st_iload rfl dX2_worth_29 ?_
    refine sr_if_eq 51 (s3 h1) (by decide) dX2_worth_31 (fun h2 => ?_) (fun h2 => ?_)
    · have h2 : x4 = 0 := by omega
      refine st_iload rfl dX2_worth_51 ?_
      refine st_bipush rfl dX2_worth_53 ?_
      refine sr_icmp_ne 63 r2 ⟨by decide, by decide⟩ (by decide) dX2_worth_55 (fun h3 => ?_) (fun h3 => ?_)
      · have h3 : ¬ (mem 21 x5) = 59 := by omega
        refine st_iload rfl dX2_worth_63 ?_
        refine st_bipush rfl dX2_worth_65 ?_
        refine sr_icmp_ne 87 r2 ⟨by decide, by decide⟩ (by decide) dX2_worth_67 (fun h4 => ?_) (fun h4 => ?_)
        · have h4 : ¬ (mem 21 x5) = 63 := by omega
          refine st_aload_n (i := 0) rfl (t := 0) rfl (by decide) dX2_worth_87 ?_
          refine st_iload rfl dX2_worth_88 ?_
          refine st_aload_n (i := 1) rfl (t := 0) rfl (by decide) dX2_worth_90 ?_
          refine st_iload_n (i := 2) rfl rfl dX2_worth_91 ?_
          refine st_iload_n (i := 3) rfl rfl dX2_worth_92 ?_
          refine st_callV (kc2 := 0) (ks2 := 0) (av := [(0, (mem 21 x5)), (2, 23), (0, x2), (0, x3)]) 20 2 mr_X2_39 ok_X2_work (c1 h1 h2 h3 h4) rfl sh_20 ⟨_, rfl, rfl, by decide⟩ rfl rfl hd_d1 (Nat.le_refl 0) (Nat.le_refl 0) (Nat.le_of_ble_eq_true rfl) dX2_worth_93 (mQv.elim fun m1 p1 => ?_)
          refine st_iinc (y := (x5 + 1)) (by decide) (i := 5) rfl rfl (lc' := [(2, 20), (2, 23), (0, x2), (0, x3), (0, x4), (0, (x5 + 1)), (0, (mem 21 x5))]) rfl dX2_worth_96 ?_
          refine st_goto 11 (by decide) dX2_worth_99 ?_
          exact st_locals [(2, 20), (2, 23), (0, x2), (0, x3), (0, x4), (0, (x5 + 1)), (9, 0)] ⟨Or.inr rfl, Or.inr rfl, Or.inr rfl, Or.inr rfl, Or.inr rfl, Or.inr rfl, Or.inl rfl, trivial⟩ (k1 h1 h2 h3 h4 m1 p1)
        · have h4 : (mem 21 x5) = 63 := by omega
          refine st_aload_n (i := 0) rfl (t := 0) rfl (by decide) dX2_worth_70 ?_
          refine st_callV (kc2 := 0) (ks2 := 0) (av := []) 20 2 mr_X2_35 ok_X2_pop (c_X2_pop_20 mem ((s4 h1 h2 h3 h4))) rfl sh_20 ⟨_, rfl, rfl, by decide⟩ rfl rfl hd1 (Nat.le_refl 0) (Nat.le_refl 0) (Nat.le_of_ble_eq_true rfl) dX2_worth_71 (mQ.elim fun v1 m2 hp => ?_)
          obtain ⟨hpv, hpm⟩ := hp
          subst hpv
          have hpm := hpm.symm
          subst hpm
          refine sr_if_ne 81 (s5 h1 h2 h3 h4) (by decide) dX2_worth_74 (fun h5 => ?_) (fun h5 => ?_)
          · have h5 : ¬ (mem 22 ((mem 20 3) - 1)) = 0 := by omega
            refine st_iconst dX2_worth_81 ?_
            refine st_istore (by decide) (lc' := [(2, 20), (2, 23), (0, x2), (0, x3), (0, 0), (0, x5), (0, (mem 21 x5))]) rfl dX2_worth_82 ?_
            refine st_goto 96 (by decide) dX2_worth_84 ?_
            refine st_iinc (y := (x5 + 1)) (by decide) (i := 5) rfl rfl (lc' := [(2, 20), (2, 23), (0, x2), (0, x3), (0, 0), (0, (x5 + 1)), (0, (mem 21 x5))]) rfl dX2_worth_96 ?_
            refine st_goto 11 (by decide) dX2_worth_99 ?_
            exact st_locals [(2, 20), (2, 23), (0, x2), (0, x3), (0, 0), (0, (x5 + 1)), (9, 0)] ⟨Or.inr rfl, Or.inr rfl, Or.inr rfl, Or.inr rfl, Or.inr rfl, Or.inr rfl, Or.inl rfl, trivial⟩ (k2 h1 h2 h3 h4 h5)
          · have h5 : (mem 22 ((mem 20 3) - 1)) = 0 := by omega
            refine st_iconst dX2_worth_77 ?_
            refine st_goto 82 (by decide) dX2_worth_78 ?_
            refine st_istore (by decide) (lc' := [(2, 20), (2, 23), (0, x2), (0, x3), (0, 1), (0, x5), (0, (mem 21 x5))]) rfl dX2_worth_82 ?_
            refine st_goto 96 (by decide) dX2_worth_84 ?_
            refine st_iinc (y := (x5 + 1)) (by decide) (i := 5) rfl rfl (lc' := [(2, 20), (2, 23), (0, x2), (0, x3), (0, 1), (0, (x5 + 1)), (0, (mem 21 x5))]) rfl dX2_worth_96 ?_
            refine st_goto 11 (by decide) dX2_worth_99 ?_
            exact st_locals [(2, 20), (2, 23), (0, x2), (0, x3), (0, 1), (0, (x5 + 1)), (9, 0)] ⟨Or.inr rfl, Or.inr rfl, Or.inr rfl, Or.inr rfl, Or.inr rfl, Or.inr rfl, Or.inl rfl, trivial⟩ (k3 h1 h2 h3 h4 h5)
      · have h3 : (mem 21 x5) = 59 := by omega
        refine st_aload_n (i := 0) rfl (t := 0) rfl (by decide) dX2_worth_58 ?_
        refine st_callV (kc2 := 0) (ks2 := 0) (av := []) 20 2 mr_X2_35 ok_X2_pop (c_X2_pop_20 mem ((s6 h1 h2 h3))) rfl sh_20 ⟨_, rfl, rfl, by decide⟩ rfl rfl hd1 (Nat.le_refl 0) (Nat.le_refl 0) (Nat.le_of_ble_eq_true rfl) dX2_worth_59 (mQ.elim fun v2 m3 hp => ?_)
        obtain ⟨hpv, hpm⟩ := hp
        subst hpv
        have hpm := hpm.symm
        subst hpm
        exact st_ireturn rfl dX2_worth_62 (mQ.ret (q2 h1 h2 h3))
    · have h2 : ¬ x4 = 0 := by omega
      refine st_iload rfl dX2_worth_34 ?_
      refine st_bipush rfl dX2_worth_36 ?_
      refine sr_icmp_eq 45 r2 ⟨by decide, by decide⟩ (by decide) dX2_worth_38 (fun h6 => ?_) (fun h6 => ?_)
      · have h6 : (mem 21 x5) = 59 := by omega
        refine st_iconst dX2_worth_45 ?_
        refine st_istore (by decide) (lc' := [(2, 20), (2, 23), (0, x2), (0, x3), (0, 0), (0, x5), (0, (mem 21 x5))]) rfl dX2_worth_46 ?_
        refine st_goto 96 (by decide) dX2_worth_48 ?_
        refine st_iinc (y := (x5 + 1)) (by decide) (i := 5) rfl rfl (lc' := [(2, 20), (2, 23), (0, x2), (0, x3), (0, 0), (0, (x5 + 1)), (0, (mem 21 x5))]) rfl dX2_worth_96 ?_
        refine st_goto 11 (by decide) dX2_worth_99 ?_
        exact st_locals [(2, 20), (2, 23), (0, x2), (0, x3), (0, 0), (0, (x5 + 1)), (9, 0)] ⟨Or.inr rfl, Or.inr rfl, Or.inr rfl, Or.inr rfl, Or.inr rfl, Or.inr rfl, Or.inl rfl, trivial⟩ (k4 h1 h2 h6)
      · have h6 : ¬ (mem 21 x5) = 59 := by omega
        refine st_iconst dX2_worth_41 ?_
        refine st_goto 46 (by decide) dX2_worth_42 ?_
        refine st_istore (by decide) (lc' := [(2, 20), (2, 23), (0, x2), (0, x3), (0, 1), (0, x5), (0, (mem 21 x5))]) rfl dX2_worth_46 ?_
        refine st_goto 96 (by decide) dX2_worth_48 ?_
        refine st_iinc (y := (x5 + 1)) (by decide) (i := 5) rfl rfl (lc' := [(2, 20), (2, 23), (0, x2), (0, x3), (0, 1), (0, (x5 + 1)), (0, (mem 21 x5))]) rfl dX2_worth_96 ?_
        refine st_goto 11 (by decide) dX2_worth_99 ?_
        exact st_locals [(2, 20), (2, 23), (0, x2), (0, x3), (0, 1), (0, (x5 + 1)), (9, 0)] ⟨Or.inr rfl, Or.inr rfl, Or.inr rfl, Or.inr rfl, Or.inr rfl, Or.inr rfl, Or.inl rfl, trivial⟩ (k5 h1 h2 h6)
theorem run_20 (o : Bool) (mem : mmM) (s b : Int) (P : Int → mmM → Prop) (hs : R32 s) (hb : R32 b) (hn : 0 ≤ mem 23 1 ∧ mem 23 1 ≤ 24) (hL : ∀ k, 0 ≤ k → k < 6 → -1000000 ≤ letterX mem (leF k) s b ∧ letterX mem (leF k) s b ≤ 1000000) (hsz : mem 20 1 ≤ 160) : ∀ (ts : List tokT) (p : Int) (st : List Int) (ty : List Bool) (m : mmM), tokX (mem 21) p ts → wfX o ty ts → valR ty st → st.length ≤ 64 → lawSt_20 mem st m → 0 ≤ p → p + ts.length < mem 20 1 →
    (∀ (m' : mmM) (v : Int), evToks (fun k => letterX mem (leF k) s b) st ts = [v] → valR [o] [v] → lawSt_20 mem [v] m' → mmT bX2_worth 4 0 0 (mQ 0 P) 11 [(2, 20), (2, 23), (0, s), (0, b), (0, 0), (0, p + ts.length), (9, 0)] [] mS m') →
    mmT bX2_worth 4 0 0 (mQ 0 P) 11 [(2, 20), (2, 23), (0, s), (0, b), (0, 0), (0, p), (9, 0)] [] mS m := by
  intro ts
  induction ts with
  | nil =>
    intro p st ty m ht hw hv h64 h hp hlt k
    have e : ty = [o] := hw
    rw [e] at hv
    have hl := valR_len _ _ hv
    match st, hl, hv, h, k with
    | [v], _, hv, h, k =>
      have k1 := k m v rfl hv h
      have e0 : p + (([] : List tokT).length : Int) = p := by simp
      rw [e0] at k1
      exact k1
  | cons t r ih =>
    intro p st ty m ht hw hv h64 h hp hlt k
    have hlen : ((t :: r).length : Int) = r.length + 1 := by simp
    rw [hlen] at hlt k
    have e1 : m 20 1 = mem 20 1 := h.2.1 1 (by decide)
    have eC : m 21 = mem 21 := h.1 21 (by decide) (by decide)
    have ec : m 21 p = encX t := by rw [eC]; exact ht.1
    have nt := encX_not hw
    have cs := c_X2_sign_20 o mem m st ty t r s b h hw hv h64 hs hb hn hL
    refine bk_X2_worth_20_11 (d1 := 3) (fun g g2 g3 g4 => by rw [ec]; exact cs) (fun g g2 g3 g4 m1 q => ?_) (fun g g2 g3 g4 => by rw [ec] at g4; exact absurd g4 nt.2) (fun g g2 g3 g4 => by rw [ec] at g4; exact absurd g4 nt.2) (fun g g2 => absurd rfl g2) (fun g g2 => absurd rfl g2) (fun g => by rw [e1] at g; omega) (fun g g2 g3 => by rw [ec] at g3; exact absurd g3 nt.1) (s2 := fun g => by rw [e1] at g; omega) (s4 := fun g g2 g3 g4 => by rw [ec] at g4; exact absurd g4 nt.2) (s5 := fun g g2 g3 g4 => by rw [ec] at g4; exact absurd g4 nt.2) (s6 := fun g g2 g3 => by rw [ec] at g3; exact absurd g3 nt.1)
    obtain ⟨q1, ty', q2, q3, q4⟩ := q
    refine ih (p + 1) _ ty' m1 ht.2 q3 q2 q4 q1 (by omega) (by omega) (fun m' v ev hv' h' => ?_)
    have k1 := k m' v ev hv' h'
    rw [show p + 1 + (r.length : Int) = p + ((r.length : Int) + 1) by omega]
    exact k1
theorem skip_20 (o : Bool) (mem m : mmM) (s b : Int) (P : Int → mmM → Prop) (hs : R32 s) (hb : R32 b) (hsz : mem 20 1 ≤ 160) (eC : m 21 = mem 21) (e1 : m 20 1 = mem 20 1) : ∀ (ts : List tokT) (p : Int) (ty : List Bool), tokX (mem 21) p ts → wfX o ty ts → 0 ≤ p → p + ts.length < mem 20 1 → mem 21 (p + ts.length) = 59 →
    mmT bX2_worth 4 0 0 (mQ 0 P) 11 [(2, 20), (2, 23), (0, s), (0, b), (0, 0), (0, p + ts.length + 1), (9, 0)] [] mS m →
    mmT bX2_worth 4 0 0 (mQ 0 P) 11 [(2, 20), (2, 23), (0, s), (0, b), (0, 1), (0, p), (9, 0)] [] mS m := by
  intro ts
  induction ts with
  | nil =>
    intro p ty ht hw hp hlt h59 k
    have e0 : p + (([] : List tokT).length : Int) = p := by simp
    rw [e0] at hlt h59 k
    exact bk_X2_worth_20_11 (d1 := 3) (P1 := fun _ => True) (fun g g2 => by omega) (fun g g2 => by omega) (fun g g2 => by omega) (fun g g2 => by omega) (fun g g2 g3 => k) (fun g g2 g3 => by rw [eC] at g3; exact absurd h59 g3) (fun g => by rw [e1] at g; omega) (fun g g2 => by omega) (s2 := fun g => by rw [e1] at g; omega) (s4 := fun g g2 => by omega) (s5 := fun g g2 => by omega) (s6 := fun g g2 => by omega)
  | cons t r ih =>
    intro p ty ht hw hp hlt h59 k
    have hlen : ((t :: r).length : Int) = r.length + 1 := by simp
    rw [hlen] at hlt h59 k
    have nt := encX_not hw
    have ec : m 21 p = encX t := by rw [eC]; exact ht.1
    have hw' : ∃ ty', wfX o ty' r := by
      unfold wfX at hw
      by_cases c0 : t.1 = 0
      · rw [if_pos c0] at hw
        exact ⟨_, hw.2.2⟩
      · rw [if_neg c0] at hw
        by_cases c1 : t.1 = 1
        · rw [if_pos c1] at hw
          exact ⟨_, hw.2.2⟩
        · rw [if_neg c1] at hw
          by_cases c9 : t.1 = 9
          · rw [if_pos c9] at hw
            exact ⟨_, hw.2⟩
          · rw [if_neg c9] at hw
            by_cases c10 : t.1 = 10 ∨ t.1 = 11
            · rw [if_pos c10] at hw
              obtain ⟨q, _, h⟩ := hw
              exact ⟨_, h⟩
            · rw [if_neg c10] at hw
              by_cases c6 : 6 ≤ t.1 ∧ t.1 ≤ 8
              · rw [if_pos c6] at hw
                obtain ⟨q, _, h⟩ := hw
                exact ⟨_, h⟩
              · rw [if_neg c6] at hw
                obtain ⟨_, q, _, h⟩ := hw
                exact ⟨_, h⟩
    obtain ⟨ty', hw'⟩ := hw'
    refine bk_X2_worth_20_11 (d1 := 3) (P1 := fun _ => True) (fun g g2 => by omega) (fun g g2 => by omega) (fun g g2 => by omega) (fun g g2 => by omega) (fun g g2 g3 => by rw [ec] at g3; exact absurd g3 nt.1) (fun g g2 g3 => ?_) (fun g => by rw [e1] at g; omega) (fun g g2 => by omega) (s2 := fun g => by rw [e1] at g; omega) (s4 := fun g g2 => by omega) (s5 := fun g g2 => by omega) (s6 := fun g g2 => by omega)
    refine ih (p + 1) ty' ht.2 hw' (by omega) (by omega) ?_ ?_
    · rw [show p + 1 + (r.length : Int) = p + ((r.length : Int) + 1) by omega]
      exact h59
    · rw [show p + 1 + (r.length : Int) + 1 = p + ((r.length : Int) + 1) + 1 by omega]
      exact k
theorem c_X2_worth_20 (mem : mmM) (s b : Int) (cl : lawT) (hs : R32 s) (hb : R32 b) (hn : 0 ≤ mem 23 1 ∧ mem 23 1 ≤ 24) (hL : ∀ k, 0 ≤ k → k < 6 → -1000000 ≤ letterX mem (leF k) s b ∧ letterX mem (leF k) s b ≤ 1000000) (hsz : 0 ≤ mem 20 1 ∧ mem 20 1 ≤ 160) (hl : lawX (mem 21) (mem 20 1) 0 cl) : con 0 bX2_worth 4 [(2, 20), (2, 23), (0, s), (0, b)] mem (fun v m => v = lawV (fun k => letterX mem (leF k) s b) cl ∧ (-1000000 ≤ v ∧ v ≤ 1000000) ∧ (∀ a, a ≠ 20 → a ≠ 22 → m a = mem a) ∧ ∀ j, j ≠ 3 → m 20 j = mem 20 j) := by
  refine cn_X2_worth_20 (bk_X2_worth_20_0 ?_)
  have key : ∀ (c : lawT) (p : Int) (m : mmM), lawX (mem 21) (mem 20 1) p c → 0 ≤ p → lawSt_20 mem [] m → lawV (fun k => letterX mem (leF k) s b) c = lawV (fun k => letterX mem (leF k) s b) cl → mmT bX2_worth 4 0 0 (mQ 0 (fun v m => v = lawV (fun k => letterX mem (leF k) s b) cl ∧ (-1000000 ≤ v ∧ v ≤ 1000000) ∧ (∀ a, a ≠ 20 → a ≠ 22 → m a = mem a) ∧ ∀ j, j ≠ 3 → m 20 j = mem 20 j)) 11 [(2, 20), (2, 23), (0, s), (0, b), (0, 0), (0, p), (9, 0)] [] mS m := by
    intro c
    induction c with
    | nil =>
      intro p m hx hp h he
      have e1 : m 20 1 = mem 20 1 := h.2.1 1 (by decide)
      have hx' : p = mem 20 1 := hx
      refine bk_X2_worth_20_11 (d1 := 3) (P1 := fun _ => True) (fun g => by rw [e1] at g; omega) (fun g => by rw [e1] at g; omega) (fun g => by rw [e1] at g; omega) (fun g => by rw [e1] at g; omega) (fun g => by rw [e1] at g; omega) (fun g => by rw [e1] at g; omega) (fun g => ⟨?_, by omega, h.1, h.2.1⟩) (fun g => by rw [e1] at g; omega) (s2 := fun g => by rw [e1] at g; omega) (s4 := fun g => by rw [e1] at g; omega) (s5 := fun g => by rw [e1] at g; omega) (s6 := fun g => by rw [e1] at g; omega)
      rw [← he]
      rfl
    | cons q r ih =>
      intro p m hx hp h he
      have he' : (if q.1.length = 0 ∨ ¬ top1 (evToks (fun k => letterX mem (leF k) s b) [] q.1) = 0 then top1 (evToks (fun k => letterX mem (leF k) s b) [] q.2) else lawV (fun k => letterX mem (leF k) s b) r) = lawV (fun k => letterX mem (leF k) s b) cl := he
      -- a sum worked out ends the law
      have sum : ∀ (p' : Int) (m' : mmM), lawSt_20 mem [] m' → wfX false [] q.2 → 0 ≤ p' → tokX (mem 21) p' q.2 → mem 21 (p' + q.2.length) = 59 → p' + q.2.length < mem 20 1 → top1 (evToks (fun k => letterX mem (leF k) s b) [] q.2) = lawV (fun k => letterX mem (leF k) s b) cl → mmT bX2_worth 4 0 0 (mQ 0 (fun v m => v = lawV (fun k => letterX mem (leF k) s b) cl ∧ (-1000000 ≤ v ∧ v ≤ 1000000) ∧ (∀ a, a ≠ 20 → a ≠ 22 → m a = mem a) ∧ ∀ j, j ≠ 3 → m 20 j = mem 20 j)) 11 [(2, 20), (2, 23), (0, s), (0, b), (0, 0), (0, p'), (9, 0)] [] mS m' := by
        intro p' m' h' hw hp' ht h59 hlt ev
        refine run_20 false mem s b _ hs hb hn hL hsz.2 q.2 p' [] [] m' ht hw trivial (by decide) h' hp' hlt (fun m2 v e2 hv2 h2 => ?_)
        have pp := lawSt_pop_20 h2
        have e1 : m2 20 1 = mem 20 1 := h2.2.1 1 (by decide)
        have eC : m2 21 = mem 21 := h2.1 21 (by decide) (by decide)
        have e3 : m2 20 3 = 1 := pp.2.2
        refine bk_X2_worth_20_11 (d1 := 3) (P1 := fun _ => True) (fun g g2 g3 => by rw [eC] at g3; exact absurd h59 g3) (fun g g2 g3 => by rw [eC] at g3; exact absurd h59 g3) (fun g g2 g3 => by rw [eC] at g3; exact absurd h59 g3) (fun g g2 g3 => by rw [eC] at g3; exact absurd h59 g3) (fun g g2 => absurd rfl g2) (fun g g2 => absurd rfl g2) (fun g => by rw [e1] at g; omega) (fun g g2 g3 => ⟨?_, by rw [pp.2.1]; exact hv2.1, pp.1.1, pp.1.2.1⟩) (s2 := fun g => by rw [e1] at g; omega) (s4 := fun g g2 g3 => by rw [eC] at g3; exact absurd h59 g3) (s5 := fun g g2 g3 => by rw [eC] at g3; exact absurd h59 g3) (s6 := fun g g2 g3 => by omega)
        rw [pp.2.1, ← ev, e2]
        rfl
      obtain ⟨hw2, hx⟩ := hx
      rcases hx with ⟨h0, t2, h59, hlt, hr⟩ | ⟨hw1, h0, t1, h63, t2, h59, hlt, hr⟩
      · rw [if_pos (Or.inl h0)] at he'
        exact sum p m h hw2 hp t2 h59 hlt he'
      · have l1 : 0 ≤ (q.1.length : Int) := by omega
        have l2 : 0 ≤ (q.2.length : Int) := by omega
        refine run_20 true mem s b _ hs hb hn hL hsz.2 q.1 p [] [] m t1 hw1 trivial (by decide) h hp (by omega) (fun m2 v e2 hv2 h2 => ?_)
        have pp := lawSt_pop_20 h2
        have e1 : m2 20 1 = mem 20 1 := h2.2.1 1 (by decide)
        have eC : m2 21 = mem 21 := h2.1 21 (by decide) (by decide)
        have e3 : m2 20 3 = 1 := pp.2.2
        have vb : v = 0 ∨ v = 1 := hv2.1
        have tv : top1 (evToks (fun k => letterX mem (leF k) s b) [] q.1) = v := by rw [e2]; rfl
        rw [tv] at he'
        refine bk_X2_worth_20_11 (d1 := 3) (P1 := fun _ => True) (fun g g2 g3 g4 => by rw [eC] at g4; exact absurd h63 g4) (fun g g2 g3 g4 => by rw [eC] at g4; exact absurd h63 g4) (fun g g2 g3 g4 g5 => ?_) (fun g g2 g3 g4 g5 => ?_) (fun g g2 => absurd rfl g2) (fun g g2 => absurd rfl g2) (fun g => by rw [e1] at g; omega) (fun g g2 g3 => by rw [eC, h63] at g3; omega) (s2 := fun g => by rw [e1] at g; omega) (s4 := fun g g2 g3 g4 => by omega) (s5 := fun g g2 g3 g4 => by rw [pp.2.1]; omega) (s6 := fun g g2 g3 => by omega)
        · rw [pp.2.1] at g5
          rw [if_pos (Or.inr g5)] at he'
          exact sum _ _ pp.1 hw2 (by omega) t2 h59 hlt he'
        · rw [pp.2.1] at g5
          rw [if_neg (fun z => by rcases z with z | z; · exact h0 z
                                  · exact z g5)] at he'
          have eC' := pp.1.1 21 (by decide) (by decide)
          have e1' := pp.1.2.1 1 (by decide)
          exact skip_20 false mem _ s b _ hs hb hsz.2 eC' e1' q.2 _ [] t2 hw2 (by omega) hlt h59 (ih _ _ hr (by omega) pp.1 he')
  refine key cl 0 _ hl (by omega) ⟨fun a a1 a2 => mset_ne a1, fun j hj => by rw [mset_at, if_neg hj], mset_same _ _ _ _, trivial⟩ rfl
theorem cn_X8_weigh_20 {d : Nat} {P : mmM → Prop} {mem : mmM} (h : mmT bX8_weigh d 0 0 (mQv P) 0 [(2, 23), (2, 20), (9, 0)] [] mS mem) : conv bX8_weigh d [(2, 23), (2, 20)] mem P := mmC_of [(2, 23), (2, 20), (9, 0)] ok_X8_weigh.2.2.2.2 rfl (Nat.le_of_ble_eq_true rfl) h
theorem bk_X8_weigh_20_0 {d : Nat} {P : mmM → Prop} {mem : mmM}
  (k1 : mmT bX8_weigh d 0 0 (mQv P) 2 [(2, 23), (2, 20), (0, 0)] [] mS mem)
  : mmT bX8_weigh d 0 0 (mQv P) 0 [(2, 23), (2, 20), (9, 0)] [] mS mem := by
  refine st_iconst dX8_weigh_0 ?_
  refine st_istore_n (i := 2) rfl (by decide) (lc' := [(2, 23), (2, 20), (0, 0)]) rfl dX8_weigh_1 ?_
  exact st_locals [(2, 23), (2, 20), (0, 0)] ⟨Or.inr rfl, Or.inr rfl, Or.inr rfl, trivial⟩ k1
theorem bk_X8_weigh_20_2 {d : Nat} {d1 : Nat} {P1 : Int → mmM → Prop} {d2 : Nat} {P2 : Int → mmM → Prop} {P : mmM → Prop} {mem : mmM} {x2 : Int}
  (c1 : x2 < (mem 23 1) → con 0 bX2_worth d1 [(2, 20), (2, 23), (0, x2), (0, 0)] mem P1)
  (c2 : x2 < (mem 23 1) → ∀ (v1 : Int), ∀ (m1 : mmM), P1 v1 m1 → con 0 bX2_worth d2 [(2, 20), (2, 23), (0, x2), (0, 1)] (mset m1 31 x2 (percS v1)) P2)
  (k1 : x2 < (mem 23 1) → ∀ (v1 : Int), ∀ (m1 : mmM), P1 v1 m1 → ∀ (v3 : Int), ∀ (m3 : mmM), P2 v3 m3 → mmT bX8_weigh d 0 0 (mQv P) 2 [(2, 23), (2, 20), (0, (x2 + 1))] [] mS (mset m3 32 x2 (percS v3)))
  (q1 : (mem 23 1) ≤ x2 → P mem)
  (hd_d1 : d1 + 1 ≤ d := by omega)
  (hd_d2 : d2 + 1 ≤ d := by omega)
  (hd3 : 3 ≤ d := by omega)
  (s1 : R32 x2 := by intros; first | omega | assumption | solve_by_elim)
  (s2 : x2 < (mem 23 1) → ∀ (v1 : Int), ∀ (m1 : mmM), P1 v1 m1 → R32 v1 := by intros; first | omega | assumption | solve_by_elim)
  (s3 : x2 < (mem 23 1) → ∀ (v1 : Int), ∀ (m1 : mmM), P1 v1 m1 → 0 ≤ x2 ∧ x2 < 24 := by intros; first | omega | assumption | solve_by_elim)
  (s4 : x2 < (mem 23 1) → ∀ (v1 : Int), ∀ (m1 : mmM), P1 v1 m1 → ∀ (v3 : Int), ∀ (m3 : mmM), P2 v3 m3 → R32 v3 := by intros; first | omega | assumption | solve_by_elim)
  : mmT bX8_weigh d 0 0 (mQv P) 2 [(2, 23), (2, 20), (0, x2)] [] mS mem := by
  refine st_iload_n (i := 2) rfl rfl dX8_weigh_2 ?_
  refine st_aload_n (i := 0) rfl (t := 0) rfl (by decide) dX8_weigh_3 ?_
  refine so_getI (v := (mem 23 1)) 23 1 fr_X8_60_8 rfl sh_23 rfl dX8_weigh_4 (fun r1 => ?_)
  refine sr_icmp_ge 64 s1 r1 (by decide) dX8_weigh_7 (fun h1 => ?_) (fun h1 => ?_)
  · have h1 : (mem 23 1) ≤ x2 := by omega
    exact st_return rfl dX8_weigh_64 (mQv.ret (q1 h1))
  · have h1 : x2 < (mem 23 1) := by omega
    refine st_aload_n (i := 0) rfl (t := 0) rfl (by decide) dX8_weigh_10 ?_
    refine so_getA 23 9 fr_X8_33_8 rfl sh_23 fx_23_9 dX8_weigh_11 ?_
    refine st_iload_n (i := 2) rfl rfl dX8_weigh_14 ?_
    refine st_aload_n (i := 1) rfl (t := 0) rfl (by decide) dX8_weigh_15 ?_
    refine st_ifnonnull 23 (by decide) dX8_weigh_16 (fun _ => ?_) (fun h => absurd h (by decide))
    refine st_aload_n (i := 1) rfl (t := 0) rfl (by decide) dX8_weigh_23 ?_
    refine st_aload_n (i := 0) rfl (t := 0) rfl (by decide) dX8_weigh_24 ?_
    refine st_iload_n (i := 2) rfl rfl dX8_weigh_25 ?_
    refine st_iconst dX8_weigh_26 ?_
    refine st_callV (kc2 := 0) (ks2 := 0) (av := [(2, 23), (0, x2), (0, 0)]) 20 2 mr_X8_89 ok_X2_worth (c1 h1) rfl sh_20 ⟨_, rfl, rfl, by decide⟩ rfl rfl hd_d1 (Nat.le_refl 0) (Nat.le_refl 0) (Nat.le_of_ble_eq_true rfl) dX8_weigh_27 (mQ.elim fun v1 m1 p1 => ?_)
    refine st_callS (kc2 := 0) (ks2 := 0) (av := [(0, v1)]) mr_X8_95 ok_X8_percent (c_X8_percent m1 v1 ((s2 h1 v1 m1 p1))) rfl rfl hd3 (Nat.le_refl 0) (Nat.le_refl 0) (Nat.le_of_ble_eq_true rfl) dX8_weigh_30 (mQ.elim fun v2 m2 hp => ?_)
    obtain ⟨hpv, hpm⟩ := hp
    subst hpv
    have hpm := hpm.symm
    subst hpm
    refine so_iast 31 fr_31 rfl sh_31 (by decide) (s3 h1 v1 m1 p1) (percS_rng v1) dX8_weigh_33 ?_
    refine st_aload_n (i := 0) rfl (t := 0) rfl (by decide) dX8_weigh_34 ?_
    refine so_getA 23 10 fr_X8_36_8 rfl sh_23 fx_23_10 dX8_weigh_35 ?_
    refine st_iload_n (i := 2) rfl rfl dX8_weigh_38 ?_
    refine st_aload_n (i := 1) rfl (t := 0) rfl (by decide) dX8_weigh_39 ?_
    refine st_ifnonnull 47 (by decide) dX8_weigh_40 (fun _ => ?_) (fun h => absurd h (by decide))
    refine st_aload_n (i := 1) rfl (t := 0) rfl (by decide) dX8_weigh_47 ?_
    refine st_aload_n (i := 0) rfl (t := 0) rfl (by decide) dX8_weigh_48 ?_
    refine st_iload_n (i := 2) rfl rfl dX8_weigh_49 ?_
    refine st_iconst dX8_weigh_50 ?_
    refine st_callV (kc2 := 0) (ks2 := 0) (av := [(2, 23), (0, x2), (0, 1)]) 20 2 mr_X8_89 ok_X2_worth (c2 h1 v1 m1 p1) rfl sh_20 ⟨_, rfl, rfl, by decide⟩ rfl rfl hd_d2 (Nat.le_refl 0) (Nat.le_refl 0) (Nat.le_of_ble_eq_true rfl) dX8_weigh_51 (mQ.elim fun v3 m3 p2 => ?_)
    refine st_callS (kc2 := 0) (ks2 := 0) (av := [(0, v3)]) mr_X8_95 ok_X8_percent (c_X8_percent m3 v3 ((s4 h1 v1 m1 p1 v3 m3 p2))) rfl rfl hd3 (Nat.le_refl 0) (Nat.le_refl 0) (Nat.le_of_ble_eq_true rfl) dX8_weigh_54 (mQ.elim fun v4 m4 hp => ?_)
    obtain ⟨hpv, hpm⟩ := hp
    subst hpv
    have hpm := hpm.symm
    subst hpm
    refine so_iast 32 fr_32 rfl sh_32 (by decide) (s3 h1 v1 m1 p1) (percS_rng v3) dX8_weigh_57 ?_
    refine st_iinc (y := (x2 + 1)) (by decide) (i := 2) rfl rfl (lc' := [(2, 23), (2, 20), (0, (x2 + 1))]) rfl dX8_weigh_58 ?_
    refine st_goto 2 (by decide) dX8_weigh_61 ?_
    exact st_locals [(2, 23), (2, 20), (0, (x2 + 1))] ⟨Or.inr rfl, Or.inr rfl, Or.inr rfl, trivial⟩ (k1 h1 v1 m1 p1 v3 m3 p2)
theorem c_X8_weigh_20 (mem : mmM) (cl : lawT) (hn : 0 ≤ mem 23 1 ∧ mem 23 1 ≤ 24) (hL : ∀ i b k, 0 ≤ i → i < mem 23 1 → (b = 0 ∨ b = 1) → -1000000 ≤ letterX mem (leF k) i b ∧ letterX mem (leF k) i b ≤ 1000000) (hsz : 0 ≤ mem 20 1 ∧ mem 20 1 ≤ 160) (hl : lawX (mem 21) (mem 20 1) 0 cl) : conv bX8_weigh 5 [(2, 23), (2, 20)] mem (fun m => (∀ a, a ≠ 31 → a ≠ 32 → a ≠ 20 → a ≠ 22 → m a = mem a) ∧ (∀ j, j ≠ 3 → m 20 j = mem 20 j) ∧ ∀ i, 0 ≤ i → i < mem 23 1 → m 31 i = percS (lawV (fun k => letterX mem (leF k) i 0) cl) ∧ m 32 i = percS (lawV (fun k => letterX mem (leF k) i 1) cl)) := by
  refine cn_X8_weigh_20 (bk_X8_weigh_20_0 ?_)
  refine loop_up (n := mem 23 1) (fun i => ∀ m : mmM, (∀ a, a ≠ 31 → a ≠ 32 → a ≠ 20 → a ≠ 22 → m a = mem a) → (∀ j, j ≠ 3 → m 20 j = mem 20 j) → (∀ t, 0 ≤ t → t < i → m 31 t = percS (lawV (fun k => letterX mem (leF k) t 0) cl) ∧ m 32 t = percS (lawV (fun k => letterX mem (leF k) t 1) cl)) → mmT bX8_weigh 5 0 0 (mQv (fun m => (∀ a, a ≠ 31 → a ≠ 32 → a ≠ 20 → a ≠ 22 → m a = mem a) ∧ (∀ j, j ≠ 3 → m 20 j = mem 20 j) ∧ ∀ i, 0 ≤ i → i < mem 23 1 → m 31 i = percS (lawV (fun k => letterX mem (leF k) i 0) cl) ∧ m 32 i = percS (lawV (fun k => letterX mem (leF k) i 1) cl))) 2 [(2, 23), (2, 20), (0, i)] [] mS m) (fun i h0 h1 ih m f g0 d => ?_) 0 (by omega) hn.1 mem (fun a _ _ _ _ => rfl) (fun j _ => rfl) (fun t t0 t1 => by omega)
  have w : ∀ (m' : mmM) (b : Int), (b = 0 ∨ b = 1) → i < mem 23 1 → (∀ a, a ≠ 31 → a ≠ 32 → a ≠ 20 → a ≠ 22 → m' a = mem a) → (∀ j, j ≠ 3 → m' 20 j = mem 20 j) → con 0 bX2_worth 4 [(2, 20), (2, 23), (0, i), (0, b)] m' (fun v m2 => v = lawV (fun k => letterX mem (leF k) i b) cl ∧ (-1000000 ≤ v ∧ v ≤ 1000000) ∧ (∀ a, a ≠ 20 → a ≠ 22 → m2 a = m' a) ∧ ∀ j, j ≠ 3 → m2 20 j = m' 20 j) := by
    intro m' b hb hi f' g'
    have el : letterX m' = letterX mem := by
      funext a c e
      unfold letterX
      rw [f' 23 (by decide) (by decide) (by decide) (by decide), f' 24 (by decide) (by decide) (by decide) (by decide), f' 26 (by decide) (by decide) (by decide) (by decide), f' 29 (by decide) (by decide) (by decide) (by decide), f' 30 (by decide) (by decide) (by decide) (by decide)]
    have c := c_X2_worth_20 m' i b cl (by omega) (by omega) (by rw [f' 23 (by decide) (by decide) (by decide) (by decide)]; exact hn) (fun k _ _ => by rw [el]; exact hL i b k h0 hi hb) (by rw [g' 1 (by decide)]; exact hsz) (by rw [f' 21 (by decide) (by decide) (by decide) (by decide), g' 1 (by decide)]; exact hl)
    rw [el] at c
    exact c
  have e23 : m 23 = mem 23 := f 23 (by decide) (by decide) (by decide) (by decide)
  refine bk_X8_weigh_20_2 (d1 := 4) (d2 := 4) (P1 := fun v m2 => v = lawV (fun k => letterX mem (leF k) i 0) cl ∧ (-1000000 ≤ v ∧ v ≤ 1000000) ∧ (∀ a, a ≠ 20 → a ≠ 22 → m2 a = m a) ∧ ∀ j, j ≠ 3 → m2 20 j = m 20 j) (P2 := fun v m3 => v = lawV (fun k => letterX mem (leF k) i 1) cl ∧ (-1000000 ≤ v ∧ v ≤ 1000000) ∧ (∀ a, a ≠ 31 → a ≠ 20 → a ≠ 22 → m3 a = m a) ∧ m3 31 = (fun j => if j = i then percS (lawV (fun k => letterX mem (leF k) i 0) cl) else m 31 j) ∧ ∀ j, j ≠ 3 → m3 20 j = m 20 j) (fun g => w m 0 (Or.inl rfl) (by rw [e23] at g; exact g) f g0) (fun g v1 m1 q => ?_) (fun g v1 m1 q v3 m3 q3 => ?_) (fun g => ?_) (s2 := fun g v1 m1 q => by have := q.2.1; omega) (s3 := fun g v1 m1 q => by rw [e23] at g; omega) (s4 := fun g v1 m1 q v3 m3 q3 => by have := q3.2.1; omega)
  · rw [e23] at g
    have c := w (mset m1 31 i (percS v1)) 1 (Or.inr rfl) g (fun a a1 a2 a3 a4 => by rw [mset_ne a1]; exact (q.2.2.1 a a3 a4).trans (f a a1 a2 a3 a4)) (fun j hj => by rw [mset_ne (by decide)]; exact (q.2.2.2 j hj).trans (g0 j hj))
    refine con.mono c (fun v m3 z => ⟨z.1, z.2.1, fun a a1 a2 a3 => ?_, ?_, fun j hj => ?_⟩)
    · rw [z.2.2.1 a a2 a3, mset_ne a1]
      exact q.2.2.1 a a2 a3
    · rw [z.2.2.1 31 (by decide) (by decide)]
      funext j
      rw [mset_at, q.2.2.1 31 (by decide) (by decide), q.1]
    · rw [z.2.2.2 j hj, mset_ne (by decide)]
      exact q.2.2.2 j hj
  · rw [e23] at g
    refine ih g _ (fun a a1 a2 a3 a4 => ?_) (fun j hj => ?_) (fun t t0 t1 => ⟨?_, ?_⟩)
    · rw [mset_ne a2, q3.2.2.1 a a1 a3 a4]
      exact f a a1 a2 a3 a4
    · rw [mset_ne (by decide)]
      exact (q3.2.2.2.2 j hj).trans (g0 j hj)
    · rw [mset_ne (by decide), q3.2.2.2.1]
      by_cases z : t = i
      · show (if t = i then _ else _) = _
        rw [if_pos z, z]
      · show (if t = i then _ else _) = _
        rw [if_neg z]
        exact (d t t0 (by omega)).1
    · rw [mset_at]
      by_cases z : t = i
      · rw [if_pos z, q3.1, z]
      · rw [if_neg z, q3.2.2.1 32 (by decide) (by decide) (by decide)]
        exact (d t t0 (by omega)).2
  · rw [e23] at g
    exact ⟨f, g0, fun t t0 t1 => d t t0 (by omega)⟩
