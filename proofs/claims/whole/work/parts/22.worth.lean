/-! a law's worth: the class's postfix machine -/
def sgF (c : Int) : Int := if c = 2 then 43 else if c = 3 then 45 else if c = 4 then 42 else if c = 5 then 47 else if c = 6 then 61 else if c = 7 then 60 else if c = 8 then 62 else if c = 9 then 33 else if c = 10 then 38 else 124
theorem cn_X2_join {d : Nat} {P : Int → mmM → Prop} {mem : mmM} {x0 x1 x2 : Int} (h : mmT bX2_join d 0 0 (mQ 0 P) 0 [(0, x0), (0, x1), (0, x2)] [] mS mem) : con 0 bX2_join d [(0, x0), (0, x1), (0, x2)] mem P := mmC_of [(0, x0), (0, x1), (0, x2)] ok_X2_join.2.2.2.2 rfl (Nat.le_of_ble_eq_true rfl) h
theorem bk_X2_join_0 {d : Nat} {P : Int → mmM → Prop} {mem : mmM} {x0 x1 x2 : Int}
  (q1 : x1 = 38 → P (and32 x0 x2) mem)
  (q2 : ¬ x1 = 38 → x1 = 39 → P (or32 x0 x2) mem)
  (q3 : ¬ x1 = 38 → ¬ x1 = 39 → x1 = 40 → P (or32 x0 x2) mem)
  (q4 : ¬ x1 = 38 → ¬ x1 = 39 → ¬ x1 = 40 → x1 = 41 → P (or32 x0 x2) mem)
  (q5 : ¬ x1 = 38 → ¬ x1 = 39 → ¬ x1 = 40 → ¬ x1 = 41 → x1 = 42 → P (withinS (x0 * x2)) mem)
  (q6 : ¬ x1 = 38 → ¬ x1 = 39 → ¬ x1 = 40 → ¬ x1 = 41 → ¬ x1 = 42 → x1 = 43 → P (withinS (x0 + x2)) mem)
  (q7 : ¬ x1 = 38 → ¬ x1 = 39 → ¬ x1 = 40 → ¬ x1 = 41 → ¬ x1 = 42 → ¬ x1 = 43 → x1 = 44 → P (or32 x0 x2) mem)
  (q8 : ¬ x1 = 38 → ¬ x1 = 39 → ¬ x1 = 40 → ¬ x1 = 41 → ¬ x1 = 42 → ¬ x1 = 43 → ¬ x1 = 44 → x1 = 45 → P (withinS (x0 - x2)) mem)
  (q9 : ¬ x1 = 38 → ¬ x1 = 39 → ¬ x1 = 40 → ¬ x1 = 41 → ¬ x1 = 42 → ¬ x1 = 43 → ¬ x1 = 44 → ¬ x1 = 45 → x1 = 46 → P (or32 x0 x2) mem)
  (q10 : ¬ x1 = 38 → ¬ x1 = 39 → ¬ x1 = 40 → ¬ x1 = 41 → ¬ x1 = 42 → ¬ x1 = 43 → ¬ x1 = 44 → ¬ x1 = 45 → ¬ x1 = 46 → x1 = 47 → ¬ x2 = 0 → P (Int.tdiv x0 x2) mem)
  (q11 : ¬ x1 = 38 → ¬ x1 = 39 → ¬ x1 = 40 → ¬ x1 = 41 → ¬ x1 = 42 → ¬ x1 = 43 → ¬ x1 = 44 → ¬ x1 = 45 → ¬ x1 = 46 → x1 = 47 → x2 = 0 → P 0 mem)
  (q12 : ¬ x1 = 38 → ¬ x1 = 39 → ¬ x1 = 40 → ¬ x1 = 41 → ¬ x1 = 42 → ¬ x1 = 43 → ¬ x1 = 44 → ¬ x1 = 45 → ¬ x1 = 46 → ¬ x1 = 47 → x1 = 48 → P (or32 x0 x2) mem)
  (q13 : ¬ x1 = 38 → ¬ x1 = 39 → ¬ x1 = 40 → ¬ x1 = 41 → ¬ x1 = 42 → ¬ x1 = 43 → ¬ x1 = 44 → ¬ x1 = 45 → ¬ x1 = 46 → ¬ x1 = 47 → ¬ x1 = 48 → x1 = 49 → P (or32 x0 x2) mem)
  (q14 : ¬ x1 = 38 → ¬ x1 = 39 → ¬ x1 = 40 → ¬ x1 = 41 → ¬ x1 = 42 → ¬ x1 = 43 → ¬ x1 = 44 → ¬ x1 = 45 → ¬ x1 = 46 → ¬ x1 = 47 → ¬ x1 = 48 → ¬ x1 = 49 → x1 = 50 → P (or32 x0 x2) mem)
  (q15 : ¬ x1 = 38 → ¬ x1 = 39 → ¬ x1 = 40 → ¬ x1 = 41 → ¬ x1 = 42 → ¬ x1 = 43 → ¬ x1 = 44 → ¬ x1 = 45 → ¬ x1 = 46 → ¬ x1 = 47 → ¬ x1 = 48 → ¬ x1 = 49 → ¬ x1 = 50 → x1 = 51 → P (or32 x0 x2) mem)
  (q16 : ¬ x1 = 38 → ¬ x1 = 39 → ¬ x1 = 40 → ¬ x1 = 41 → ¬ x1 = 42 → ¬ x1 = 43 → ¬ x1 = 44 → ¬ x1 = 45 → ¬ x1 = 46 → ¬ x1 = 47 → ¬ x1 = 48 → ¬ x1 = 49 → ¬ x1 = 50 → ¬ x1 = 51 → x1 = 52 → P (or32 x0 x2) mem)
  (q17 : ¬ x1 = 38 → ¬ x1 = 39 → ¬ x1 = 40 → ¬ x1 = 41 → ¬ x1 = 42 → ¬ x1 = 43 → ¬ x1 = 44 → ¬ x1 = 45 → ¬ x1 = 46 → ¬ x1 = 47 → ¬ x1 = 48 → ¬ x1 = 49 → ¬ x1 = 50 → ¬ x1 = 51 → ¬ x1 = 52 → x1 = 53 → P (or32 x0 x2) mem)
  (q18 : ¬ x1 = 38 → ¬ x1 = 39 → ¬ x1 = 40 → ¬ x1 = 41 → ¬ x1 = 42 → ¬ x1 = 43 → ¬ x1 = 44 → ¬ x1 = 45 → ¬ x1 = 46 → ¬ x1 = 47 → ¬ x1 = 48 → ¬ x1 = 49 → ¬ x1 = 50 → ¬ x1 = 51 → ¬ x1 = 52 → ¬ x1 = 53 → x1 = 54 → P (or32 x0 x2) mem)
  (q19 : ¬ x1 = 38 → ¬ x1 = 39 → ¬ x1 = 40 → ¬ x1 = 41 → ¬ x1 = 42 → ¬ x1 = 43 → ¬ x1 = 44 → ¬ x1 = 45 → ¬ x1 = 46 → ¬ x1 = 47 → ¬ x1 = 48 → ¬ x1 = 49 → ¬ x1 = 50 → ¬ x1 = 51 → ¬ x1 = 52 → ¬ x1 = 53 → ¬ x1 = 54 → x1 = 55 → P (or32 x0 x2) mem)
  (q20 : ¬ x1 = 38 → ¬ x1 = 39 → ¬ x1 = 40 → ¬ x1 = 41 → ¬ x1 = 42 → ¬ x1 = 43 → ¬ x1 = 44 → ¬ x1 = 45 → ¬ x1 = 46 → ¬ x1 = 47 → ¬ x1 = 48 → ¬ x1 = 49 → ¬ x1 = 50 → ¬ x1 = 51 → ¬ x1 = 52 → ¬ x1 = 53 → ¬ x1 = 54 → ¬ x1 = 55 → x1 = 56 → P (or32 x0 x2) mem)
  (q21 : ¬ x1 = 38 → ¬ x1 = 39 → ¬ x1 = 40 → ¬ x1 = 41 → ¬ x1 = 42 → ¬ x1 = 43 → ¬ x1 = 44 → ¬ x1 = 45 → ¬ x1 = 46 → ¬ x1 = 47 → ¬ x1 = 48 → ¬ x1 = 49 → ¬ x1 = 50 → ¬ x1 = 51 → ¬ x1 = 52 → ¬ x1 = 53 → ¬ x1 = 54 → ¬ x1 = 55 → ¬ x1 = 56 → x1 = 57 → P (or32 x0 x2) mem)
  (q22 : ¬ x1 = 38 → ¬ x1 = 39 → ¬ x1 = 40 → ¬ x1 = 41 → ¬ x1 = 42 → ¬ x1 = 43 → ¬ x1 = 44 → ¬ x1 = 45 → ¬ x1 = 46 → ¬ x1 = 47 → ¬ x1 = 48 → ¬ x1 = 49 → ¬ x1 = 50 → ¬ x1 = 51 → ¬ x1 = 52 → ¬ x1 = 53 → ¬ x1 = 54 → ¬ x1 = 55 → ¬ x1 = 56 → ¬ x1 = 57 → x1 = 58 → P (or32 x0 x2) mem)
  (q23 : ¬ x1 = 38 → ¬ x1 = 39 → ¬ x1 = 40 → ¬ x1 = 41 → ¬ x1 = 42 → ¬ x1 = 43 → ¬ x1 = 44 → ¬ x1 = 45 → ¬ x1 = 46 → ¬ x1 = 47 → ¬ x1 = 48 → ¬ x1 = 49 → ¬ x1 = 50 → ¬ x1 = 51 → ¬ x1 = 52 → ¬ x1 = 53 → ¬ x1 = 54 → ¬ x1 = 55 → ¬ x1 = 56 → ¬ x1 = 57 → ¬ x1 = 58 → x1 = 59 → P (or32 x0 x2) mem)
  (q24 : ¬ x1 = 38 → ¬ x1 = 39 → ¬ x1 = 40 → ¬ x1 = 41 → ¬ x1 = 42 → ¬ x1 = 43 → ¬ x1 = 44 → ¬ x1 = 45 → ¬ x1 = 46 → ¬ x1 = 47 → ¬ x1 = 48 → ¬ x1 = 49 → ¬ x1 = 50 → ¬ x1 = 51 → ¬ x1 = 52 → ¬ x1 = 53 → ¬ x1 = 54 → ¬ x1 = 55 → ¬ x1 = 56 → ¬ x1 = 57 → ¬ x1 = 58 → ¬ x1 = 59 → x1 = 60 → x2 ≤ x0 → P 0 mem)
  (q25 : ¬ x1 = 38 → ¬ x1 = 39 → ¬ x1 = 40 → ¬ x1 = 41 → ¬ x1 = 42 → ¬ x1 = 43 → ¬ x1 = 44 → ¬ x1 = 45 → ¬ x1 = 46 → ¬ x1 = 47 → ¬ x1 = 48 → ¬ x1 = 49 → ¬ x1 = 50 → ¬ x1 = 51 → ¬ x1 = 52 → ¬ x1 = 53 → ¬ x1 = 54 → ¬ x1 = 55 → ¬ x1 = 56 → ¬ x1 = 57 → ¬ x1 = 58 → ¬ x1 = 59 → x1 = 60 → x0 < x2 → P 1 mem)
  (q26 : ¬ x1 = 38 → ¬ x1 = 39 → ¬ x1 = 40 → ¬ x1 = 41 → ¬ x1 = 42 → ¬ x1 = 43 → ¬ x1 = 44 → ¬ x1 = 45 → ¬ x1 = 46 → ¬ x1 = 47 → ¬ x1 = 48 → ¬ x1 = 49 → ¬ x1 = 50 → ¬ x1 = 51 → ¬ x1 = 52 → ¬ x1 = 53 → ¬ x1 = 54 → ¬ x1 = 55 → ¬ x1 = 56 → ¬ x1 = 57 → ¬ x1 = 58 → ¬ x1 = 59 → ¬ x1 = 60 → x1 = 61 → ¬ x0 = x2 → P 0 mem)
  (q27 : ¬ x1 = 38 → ¬ x1 = 39 → ¬ x1 = 40 → ¬ x1 = 41 → ¬ x1 = 42 → ¬ x1 = 43 → ¬ x1 = 44 → ¬ x1 = 45 → ¬ x1 = 46 → ¬ x1 = 47 → ¬ x1 = 48 → ¬ x1 = 49 → ¬ x1 = 50 → ¬ x1 = 51 → ¬ x1 = 52 → ¬ x1 = 53 → ¬ x1 = 54 → ¬ x1 = 55 → ¬ x1 = 56 → ¬ x1 = 57 → ¬ x1 = 58 → ¬ x1 = 59 → ¬ x1 = 60 → x1 = 61 → x0 = x2 → P 1 mem)
  (q28 : ¬ x1 = 38 → ¬ x1 = 39 → ¬ x1 = 40 → ¬ x1 = 41 → ¬ x1 = 42 → ¬ x1 = 43 → ¬ x1 = 44 → ¬ x1 = 45 → ¬ x1 = 46 → ¬ x1 = 47 → ¬ x1 = 48 → ¬ x1 = 49 → ¬ x1 = 50 → ¬ x1 = 51 → ¬ x1 = 52 → ¬ x1 = 53 → ¬ x1 = 54 → ¬ x1 = 55 → ¬ x1 = 56 → ¬ x1 = 57 → ¬ x1 = 58 → ¬ x1 = 59 → ¬ x1 = 60 → ¬ x1 = 61 → x1 = 62 → x0 ≤ x2 → P 0 mem)
  (q29 : ¬ x1 = 38 → ¬ x1 = 39 → ¬ x1 = 40 → ¬ x1 = 41 → ¬ x1 = 42 → ¬ x1 = 43 → ¬ x1 = 44 → ¬ x1 = 45 → ¬ x1 = 46 → ¬ x1 = 47 → ¬ x1 = 48 → ¬ x1 = 49 → ¬ x1 = 50 → ¬ x1 = 51 → ¬ x1 = 52 → ¬ x1 = 53 → ¬ x1 = 54 → ¬ x1 = 55 → ¬ x1 = 56 → ¬ x1 = 57 → ¬ x1 = 58 → ¬ x1 = 59 → ¬ x1 = 60 → ¬ x1 = 61 → x1 = 62 → x2 < x0 → P 1 mem)
  (q30 : ¬ x1 = 38 → ¬ x1 = 39 → ¬ x1 = 40 → ¬ x1 = 41 → ¬ x1 = 42 → ¬ x1 = 43 → ¬ x1 = 44 → ¬ x1 = 45 → ¬ x1 = 46 → ¬ x1 = 47 → ¬ x1 = 48 → ¬ x1 = 49 → ¬ x1 = 50 → ¬ x1 = 51 → ¬ x1 = 52 → ¬ x1 = 53 → ¬ x1 = 54 → ¬ x1 = 55 → ¬ x1 = 56 → ¬ x1 = 57 → ¬ x1 = 58 → ¬ x1 = 59 → ¬ x1 = 60 → ¬ x1 = 61 → ¬ x1 = 62 → P (or32 x0 x2) mem)
  (hd2 : 2 ≤ d := by omega)
  (s1 : R32 x1 := by intros; first | omega | assumption | solve_by_elim)
  (s2 : ¬ x1 = 38 → ¬ x1 = 39 → ¬ x1 = 40 → ¬ x1 = 41 → x1 = 42 → R32 x0 := by intros; first | omega | assumption | solve_by_elim)
  (s3 : ¬ x1 = 38 → ¬ x1 = 39 → ¬ x1 = 40 → ¬ x1 = 41 → x1 = 42 → R32 x2 := by intros; first | omega | assumption | solve_by_elim)
  (s4 : ¬ x1 = 38 → ¬ x1 = 39 → ¬ x1 = 40 → ¬ x1 = 41 → x1 = 42 → R64 (x0 * x2) := by intros; first | omega | assumption | solve_by_elim)
  (s5 : ¬ x1 = 38 → ¬ x1 = 39 → ¬ x1 = 40 → ¬ x1 = 41 → ¬ x1 = 42 → x1 = 43 → R32 x0 := by intros; first | omega | assumption | solve_by_elim)
  (s6 : ¬ x1 = 38 → ¬ x1 = 39 → ¬ x1 = 40 → ¬ x1 = 41 → ¬ x1 = 42 → x1 = 43 → R32 x2 := by intros; first | omega | assumption | solve_by_elim)
  (s7 : ¬ x1 = 38 → ¬ x1 = 39 → ¬ x1 = 40 → ¬ x1 = 41 → ¬ x1 = 42 → x1 = 43 → R64 (x0 + x2) := by intros; first | omega | assumption | solve_by_elim)
  (s8 : ¬ x1 = 38 → ¬ x1 = 39 → ¬ x1 = 40 → ¬ x1 = 41 → ¬ x1 = 42 → ¬ x1 = 43 → ¬ x1 = 44 → x1 = 45 → R32 x0 := by intros; first | omega | assumption | solve_by_elim)
  (s9 : ¬ x1 = 38 → ¬ x1 = 39 → ¬ x1 = 40 → ¬ x1 = 41 → ¬ x1 = 42 → ¬ x1 = 43 → ¬ x1 = 44 → x1 = 45 → R32 x2 := by intros; first | omega | assumption | solve_by_elim)
  (s10 : ¬ x1 = 38 → ¬ x1 = 39 → ¬ x1 = 40 → ¬ x1 = 41 → ¬ x1 = 42 → ¬ x1 = 43 → ¬ x1 = 44 → x1 = 45 → R64 (x0 - x2) := by intros; first | omega | assumption | solve_by_elim)
  (s11 : ¬ x1 = 38 → ¬ x1 = 39 → ¬ x1 = 40 → ¬ x1 = 41 → ¬ x1 = 42 → ¬ x1 = 43 → ¬ x1 = 44 → ¬ x1 = 45 → ¬ x1 = 46 → x1 = 47 → R32 x2 := by intros; first | omega | assumption | solve_by_elim)
  (s12 : ¬ x1 = 38 → ¬ x1 = 39 → ¬ x1 = 40 → ¬ x1 = 41 → ¬ x1 = 42 → ¬ x1 = 43 → ¬ x1 = 44 → ¬ x1 = 45 → ¬ x1 = 46 → x1 = 47 → ¬ x2 = 0 → (-2147483648) < x0 ∧ x0 < 2147483648 := by intros; first | omega | assumption | solve_by_elim)
  (s13 : ¬ x1 = 38 → ¬ x1 = 39 → ¬ x1 = 40 → ¬ x1 = 41 → ¬ x1 = 42 → ¬ x1 = 43 → ¬ x1 = 44 → ¬ x1 = 45 → ¬ x1 = 46 → ¬ x1 = 47 → ¬ x1 = 48 → ¬ x1 = 49 → ¬ x1 = 50 → ¬ x1 = 51 → ¬ x1 = 52 → ¬ x1 = 53 → ¬ x1 = 54 → ¬ x1 = 55 → ¬ x1 = 56 → ¬ x1 = 57 → ¬ x1 = 58 → ¬ x1 = 59 → x1 = 60 → R32 x0 := by intros; first | omega | assumption | solve_by_elim)
  (s14 : ¬ x1 = 38 → ¬ x1 = 39 → ¬ x1 = 40 → ¬ x1 = 41 → ¬ x1 = 42 → ¬ x1 = 43 → ¬ x1 = 44 → ¬ x1 = 45 → ¬ x1 = 46 → ¬ x1 = 47 → ¬ x1 = 48 → ¬ x1 = 49 → ¬ x1 = 50 → ¬ x1 = 51 → ¬ x1 = 52 → ¬ x1 = 53 → ¬ x1 = 54 → ¬ x1 = 55 → ¬ x1 = 56 → ¬ x1 = 57 → ¬ x1 = 58 → ¬ x1 = 59 → x1 = 60 → R32 x2 := by intros; first | omega | assumption | solve_by_elim)
  (s15 : ¬ x1 = 38 → ¬ x1 = 39 → ¬ x1 = 40 → ¬ x1 = 41 → ¬ x1 = 42 → ¬ x1 = 43 → ¬ x1 = 44 → ¬ x1 = 45 → ¬ x1 = 46 → ¬ x1 = 47 → ¬ x1 = 48 → ¬ x1 = 49 → ¬ x1 = 50 → ¬ x1 = 51 → ¬ x1 = 52 → ¬ x1 = 53 → ¬ x1 = 54 → ¬ x1 = 55 → ¬ x1 = 56 → ¬ x1 = 57 → ¬ x1 = 58 → ¬ x1 = 59 → ¬ x1 = 60 → x1 = 61 → R32 x0 := by intros; first | omega | assumption | solve_by_elim)
  (s16 : ¬ x1 = 38 → ¬ x1 = 39 → ¬ x1 = 40 → ¬ x1 = 41 → ¬ x1 = 42 → ¬ x1 = 43 → ¬ x1 = 44 → ¬ x1 = 45 → ¬ x1 = 46 → ¬ x1 = 47 → ¬ x1 = 48 → ¬ x1 = 49 → ¬ x1 = 50 → ¬ x1 = 51 → ¬ x1 = 52 → ¬ x1 = 53 → ¬ x1 = 54 → ¬ x1 = 55 → ¬ x1 = 56 → ¬ x1 = 57 → ¬ x1 = 58 → ¬ x1 = 59 → ¬ x1 = 60 → x1 = 61 → R32 x2 := by intros; first | omega | assumption | solve_by_elim)
  (s17 : ¬ x1 = 38 → ¬ x1 = 39 → ¬ x1 = 40 → ¬ x1 = 41 → ¬ x1 = 42 → ¬ x1 = 43 → ¬ x1 = 44 → ¬ x1 = 45 → ¬ x1 = 46 → ¬ x1 = 47 → ¬ x1 = 48 → ¬ x1 = 49 → ¬ x1 = 50 → ¬ x1 = 51 → ¬ x1 = 52 → ¬ x1 = 53 → ¬ x1 = 54 → ¬ x1 = 55 → ¬ x1 = 56 → ¬ x1 = 57 → ¬ x1 = 58 → ¬ x1 = 59 → ¬ x1 = 60 → ¬ x1 = 61 → x1 = 62 → R32 x0 := by intros; first | omega | assumption | solve_by_elim)
  (s18 : ¬ x1 = 38 → ¬ x1 = 39 → ¬ x1 = 40 → ¬ x1 = 41 → ¬ x1 = 42 → ¬ x1 = 43 → ¬ x1 = 44 → ¬ x1 = 45 → ¬ x1 = 46 → ¬ x1 = 47 → ¬ x1 = 48 → ¬ x1 = 49 → ¬ x1 = 50 → ¬ x1 = 51 → ¬ x1 = 52 → ¬ x1 = 53 → ¬ x1 = 54 → ¬ x1 = 55 → ¬ x1 = 56 → ¬ x1 = 57 → ¬ x1 = 58 → ¬ x1 = 59 → ¬ x1 = 60 → ¬ x1 = 61 → x1 = 62 → R32 x2 := by intros; first | omega | assumption | solve_by_elim)
  : mmT bX2_join d 0 0 (mQ 0 P) 0 [(0, x0), (0, x1), (0, x2)] [] mS mem := by
  refine st_iload_n (i := 1) rfl rfl dX2_join_0 ?_
  by_cases h1 : x1 = 38
  · refine so_tabI 188 s1 38 h1 (by decide) (by decide) rfl (by decide) dX2_join_1 ?_
    refine st_iload_n (i := 0) rfl rfl dX2_join_188 ?_
    refine st_iload_n (i := 2) rfl rfl dX2_join_189 ?_
    refine st_iand dX2_join_190 ?_
    exact st_ireturn rfl dX2_join_191 (mQ.ret (q1 h1))
  by_cases h2 : x1 = 39
  · refine so_tabI 192 s1 39 h2 (by decide) (by decide) rfl (by decide) dX2_join_1 ?_
    refine st_iload_n (i := 0) rfl rfl dX2_join_192 ?_
    refine st_iload_n (i := 2) rfl rfl dX2_join_193 ?_
    refine st_ior dX2_join_194 ?_
    exact st_ireturn rfl dX2_join_195 (mQ.ret (q2 h1 h2))
  by_cases h3 : x1 = 40
  · refine so_tabI 192 s1 40 h3 (by decide) (by decide) rfl (by decide) dX2_join_1 ?_
    refine st_iload_n (i := 0) rfl rfl dX2_join_192 ?_
    refine st_iload_n (i := 2) rfl rfl dX2_join_193 ?_
    refine st_ior dX2_join_194 ?_
    exact st_ireturn rfl dX2_join_195 (mQ.ret (q3 h1 h2 h3))
  by_cases h4 : x1 = 41
  · refine so_tabI 192 s1 41 h4 (by decide) (by decide) rfl (by decide) dX2_join_1 ?_
    refine st_iload_n (i := 0) rfl rfl dX2_join_192 ?_
    refine st_iload_n (i := 2) rfl rfl dX2_join_193 ?_
    refine st_ior dX2_join_194 ?_
    exact st_ireturn rfl dX2_join_195 (mQ.ret (q4 h1 h2 h3 h4))
  by_cases h5 : x1 = 42
  · refine so_tabI 134 s1 42 h5 (by decide) (by decide) rfl (by decide) dX2_join_1 ?_
    refine st_iload_n (i := 0) rfl rfl dX2_join_134 ?_
    refine sr_i2l (s2 h1 h2 h3 h4 h5) dX2_join_135 ?_
    refine st_iload_n (i := 2) rfl rfl dX2_join_136 ?_
    refine sr_i2l (s3 h1 h2 h3 h4 h5) dX2_join_137 ?_
    refine st_lmul dX2_join_138 ?_
    refine st_callS (kc2 := 0) (ks2 := 0) (av := [(1, (x0 * x2))]) mr_X2_61 ok_X2_within (c_X2_within mem (x0 * x2) ((s4 h1 h2 h3 h4 h5))) rfl rfl hd2 (Nat.le_refl 0) (Nat.le_refl 0) (Nat.le_of_ble_eq_true rfl) dX2_join_139 (mQ.elim fun v1 m1 hp => ?_)
    obtain ⟨hpv, hpm⟩ := hp
    subst hpv
    have hpm := hpm.symm
    subst hpm
    exact st_ireturn rfl dX2_join_142 (mQ.ret (q5 h1 h2 h3 h4 h5))
  by_cases h6 : x1 = 43
  · refine so_tabI 116 s1 43 h6 (by decide) (by decide) rfl (by decide) dX2_join_1 ?_
    refine st_iload_n (i := 0) rfl rfl dX2_join_116 ?_
    refine sr_i2l (s5 h1 h2 h3 h4 h5 h6) dX2_join_117 ?_
    refine st_iload_n (i := 2) rfl rfl dX2_join_118 ?_
    refine sr_i2l (s6 h1 h2 h3 h4 h5 h6) dX2_join_119 ?_
    refine st_ladd dX2_join_120 ?_
    refine st_callS (kc2 := 0) (ks2 := 0) (av := [(1, (x0 + x2))]) mr_X2_61 ok_X2_within (c_X2_within mem (x0 + x2) ((s7 h1 h2 h3 h4 h5 h6))) rfl rfl hd2 (Nat.le_refl 0) (Nat.le_refl 0) (Nat.le_of_ble_eq_true rfl) dX2_join_121 (mQ.elim fun v2 m2 hp => ?_)
    obtain ⟨hpv, hpm⟩ := hp
    subst hpv
    have hpm := hpm.symm
    subst hpm
    exact st_ireturn rfl dX2_join_124 (mQ.ret (q6 h1 h2 h3 h4 h5 h6))
  by_cases h7 : x1 = 44
  · refine so_tabI 192 s1 44 h7 (by decide) (by decide) rfl (by decide) dX2_join_1 ?_
    refine st_iload_n (i := 0) rfl rfl dX2_join_192 ?_
    refine st_iload_n (i := 2) rfl rfl dX2_join_193 ?_
    refine st_ior dX2_join_194 ?_
    exact st_ireturn rfl dX2_join_195 (mQ.ret (q7 h1 h2 h3 h4 h5 h6 h7))
  by_cases h8 : x1 = 45
  · refine so_tabI 125 s1 45 h8 (by decide) (by decide) rfl (by decide) dX2_join_1 ?_
    refine st_iload_n (i := 0) rfl rfl dX2_join_125 ?_
    refine sr_i2l (s8 h1 h2 h3 h4 h5 h6 h7 h8) dX2_join_126 ?_
    refine st_iload_n (i := 2) rfl rfl dX2_join_127 ?_
    refine sr_i2l (s9 h1 h2 h3 h4 h5 h6 h7 h8) dX2_join_128 ?_
    refine st_lsub dX2_join_129 ?_
    refine st_callS (kc2 := 0) (ks2 := 0) (av := [(1, (x0 - x2))]) mr_X2_61 ok_X2_within (c_X2_within mem (x0 - x2) ((s10 h1 h2 h3 h4 h5 h6 h7 h8))) rfl rfl hd2 (Nat.le_refl 0) (Nat.le_refl 0) (Nat.le_of_ble_eq_true rfl) dX2_join_130 (mQ.elim fun v3 m3 hp => ?_)
    obtain ⟨hpv, hpm⟩ := hp
    subst hpv
    have hpm := hpm.symm
    subst hpm
    exact st_ireturn rfl dX2_join_133 (mQ.ret (q8 h1 h2 h3 h4 h5 h6 h7 h8))
  by_cases h9 : x1 = 46
  · refine so_tabI 192 s1 46 h9 (by decide) (by decide) rfl (by decide) dX2_join_1 ?_
    refine st_iload_n (i := 0) rfl rfl dX2_join_192 ?_
    refine st_iload_n (i := 2) rfl rfl dX2_join_193 ?_
    refine st_ior dX2_join_194 ?_
    exact st_ireturn rfl dX2_join_195 (mQ.ret (q9 h1 h2 h3 h4 h5 h6 h7 h8 h9))
  by_cases h10 : x1 = 47
  · refine so_tabI 143 s1 47 h10 (by decide) (by decide) rfl (by decide) dX2_join_1 ?_
    refine st_iload_n (i := 2) rfl rfl dX2_join_143 ?_
    refine sr_if_ne 151 (s11 h1 h2 h3 h4 h5 h6 h7 h8 h9 h10) (by decide) dX2_join_144 (fun h11 => ?_) (fun h11 => ?_)
    · have h11 : ¬ x2 = 0 := by omega
      refine st_iload_n (i := 0) rfl rfl dX2_join_151 ?_
      refine st_iload_n (i := 2) rfl rfl dX2_join_152 ?_
      refine sr_idiv (s12 h1 h2 h3 h4 h5 h6 h7 h8 h9 h10 h11) (s11 h1 h2 h3 h4 h5 h6 h7 h8 h9 h10) h11 dX2_join_153 ?_
      exact st_ireturn rfl dX2_join_154 (mQ.ret (q10 h1 h2 h3 h4 h5 h6 h7 h8 h9 h10 h11))
    · have h11 : x2 = 0 := by omega
      refine st_iconst dX2_join_147 ?_
      refine st_goto 154 (by decide) dX2_join_148 ?_
      exact st_ireturn rfl dX2_join_154 (mQ.ret (q11 h1 h2 h3 h4 h5 h6 h7 h8 h9 h10 h11))
  by_cases h12 : x1 = 48
  · refine so_tabI 192 s1 48 h12 (by decide) (by decide) rfl (by decide) dX2_join_1 ?_
    refine st_iload_n (i := 0) rfl rfl dX2_join_192 ?_
    refine st_iload_n (i := 2) rfl rfl dX2_join_193 ?_
    refine st_ior dX2_join_194 ?_
    exact st_ireturn rfl dX2_join_195 (mQ.ret (q12 h1 h2 h3 h4 h5 h6 h7 h8 h9 h10 h12))
  by_cases h13 : x1 = 49
  · refine so_tabI 192 s1 49 h13 (by decide) (by decide) rfl (by decide) dX2_join_1 ?_
    refine st_iload_n (i := 0) rfl rfl dX2_join_192 ?_
    refine st_iload_n (i := 2) rfl rfl dX2_join_193 ?_
    refine st_ior dX2_join_194 ?_
    exact st_ireturn rfl dX2_join_195 (mQ.ret (q13 h1 h2 h3 h4 h5 h6 h7 h8 h9 h10 h12 h13))
  by_cases h14 : x1 = 50
  · refine so_tabI 192 s1 50 h14 (by decide) (by decide) rfl (by decide) dX2_join_1 ?_
    refine st_iload_n (i := 0) rfl rfl dX2_join_192 ?_
    refine st_iload_n (i := 2) rfl rfl dX2_join_193 ?_
    refine st_ior dX2_join_194 ?_
    exact st_ireturn rfl dX2_join_195 (mQ.ret (q14 h1 h2 h3 h4 h5 h6 h7 h8 h9 h10 h12 h13 h14))
  by_cases h15 : x1 = 51
  · refine so_tabI 192 s1 51 h15 (by decide) (by decide) rfl (by decide) dX2_join_1 ?_
    refine st_iload_n (i := 0) rfl rfl dX2_join_192 ?_
    refine st_iload_n (i := 2) rfl rfl dX2_join_193 ?_
    refine st_ior dX2_join_194 ?_
    exact st_ireturn rfl dX2_join_195 (mQ.ret (q15 h1 h2 h3 h4 h5 h6 h7 h8 h9 h10 h12 h13 h14 h15))
  by_cases h16 : x1 = 52
  · refine so_tabI 192 s1 52 h16 (by decide) (by decide) rfl (by decide) dX2_join_1 ?_
    refine st_iload_n (i := 0) rfl rfl dX2_join_192 ?_
    refine st_iload_n (i := 2) rfl rfl dX2_join_193 ?_
    refine st_ior dX2_join_194 ?_
    exact st_ireturn rfl dX2_join_195 (mQ.ret (q16 h1 h2 h3 h4 h5 h6 h7 h8 h9 h10 h12 h13 h14 h15 h16))
  by_cases h17 : x1 = 53
  · refine so_tabI 192 s1 53 h17 (by decide) (by decide) rfl (by decide) dX2_join_1 ?_
    refine st_iload_n (i := 0) rfl rfl dX2_join_192 ?_
    refine st_iload_n (i := 2) rfl rfl dX2_join_193 ?_
    refine st_ior dX2_join_194 ?_
    exact st_ireturn rfl dX2_join_195 (mQ.ret (q17 h1 h2 h3 h4 h5 h6 h7 h8 h9 h10 h12 h13 h14 h15 h16 h17))
  by_cases h18 : x1 = 54
  · refine so_tabI 192 s1 54 h18 (by decide) (by decide) rfl (by decide) dX2_join_1 ?_
    refine st_iload_n (i := 0) rfl rfl dX2_join_192 ?_
    refine st_iload_n (i := 2) rfl rfl dX2_join_193 ?_
    refine st_ior dX2_join_194 ?_
    exact st_ireturn rfl dX2_join_195 (mQ.ret (q18 h1 h2 h3 h4 h5 h6 h7 h8 h9 h10 h12 h13 h14 h15 h16 h17 h18))
  by_cases h19 : x1 = 55
  · refine so_tabI 192 s1 55 h19 (by decide) (by decide) rfl (by decide) dX2_join_1 ?_
    refine st_iload_n (i := 0) rfl rfl dX2_join_192 ?_
    refine st_iload_n (i := 2) rfl rfl dX2_join_193 ?_
    refine st_ior dX2_join_194 ?_
    exact st_ireturn rfl dX2_join_195 (mQ.ret (q19 h1 h2 h3 h4 h5 h6 h7 h8 h9 h10 h12 h13 h14 h15 h16 h17 h18 h19))
  by_cases h20 : x1 = 56
  · refine so_tabI 192 s1 56 h20 (by decide) (by decide) rfl (by decide) dX2_join_1 ?_
    refine st_iload_n (i := 0) rfl rfl dX2_join_192 ?_
    refine st_iload_n (i := 2) rfl rfl dX2_join_193 ?_
    refine st_ior dX2_join_194 ?_
    exact st_ireturn rfl dX2_join_195 (mQ.ret (q20 h1 h2 h3 h4 h5 h6 h7 h8 h9 h10 h12 h13 h14 h15 h16 h17 h18 h19 h20))
  by_cases h21 : x1 = 57
  · refine so_tabI 192 s1 57 h21 (by decide) (by decide) rfl (by decide) dX2_join_1 ?_
    refine st_iload_n (i := 0) rfl rfl dX2_join_192 ?_
    refine st_iload_n (i := 2) rfl rfl dX2_join_193 ?_
    refine st_ior dX2_join_194 ?_
    exact st_ireturn rfl dX2_join_195 (mQ.ret (q21 h1 h2 h3 h4 h5 h6 h7 h8 h9 h10 h12 h13 h14 h15 h16 h17 h18 h19 h20 h21))
  by_cases h22 : x1 = 58
  · refine so_tabI 192 s1 58 h22 (by decide) (by decide) rfl (by decide) dX2_join_1 ?_
    refine st_iload_n (i := 0) rfl rfl dX2_join_192 ?_
    refine st_iload_n (i := 2) rfl rfl dX2_join_193 ?_
    refine st_ior dX2_join_194 ?_
    exact st_ireturn rfl dX2_join_195 (mQ.ret (q22 h1 h2 h3 h4 h5 h6 h7 h8 h9 h10 h12 h13 h14 h15 h16 h17 h18 h19 h20 h21 h22))
  by_cases h23 : x1 = 59
  · refine so_tabI 192 s1 59 h23 (by decide) (by decide) rfl (by decide) dX2_join_1 ?_
    refine st_iload_n (i := 0) rfl rfl dX2_join_192 ?_
    refine st_iload_n (i := 2) rfl rfl dX2_join_193 ?_
    refine st_ior dX2_join_194 ?_
    exact st_ireturn rfl dX2_join_195 (mQ.ret (q23 h1 h2 h3 h4 h5 h6 h7 h8 h9 h10 h12 h13 h14 h15 h16 h17 h18 h19 h20 h21 h22 h23))
  by_cases h24 : x1 = 60
  · refine so_tabI 166 s1 60 h24 (by decide) (by decide) rfl (by decide) dX2_join_1 ?_
    refine st_iload_n (i := 0) rfl rfl dX2_join_166 ?_
    refine st_iload_n (i := 2) rfl rfl dX2_join_167 ?_
    refine sr_icmp_ge 175 (s13 h1 h2 h3 h4 h5 h6 h7 h8 h9 h10 h12 h13 h14 h15 h16 h17 h18 h19 h20 h21 h22 h23 h24) (s14 h1 h2 h3 h4 h5 h6 h7 h8 h9 h10 h12 h13 h14 h15 h16 h17 h18 h19 h20 h21 h22 h23 h24) (by decide) dX2_join_168 (fun h25 => ?_) (fun h25 => ?_)
    · have h25 : x2 ≤ x0 := by omega
      refine st_iconst dX2_join_175 ?_
      exact st_ireturn rfl dX2_join_176 (mQ.ret (q24 h1 h2 h3 h4 h5 h6 h7 h8 h9 h10 h12 h13 h14 h15 h16 h17 h18 h19 h20 h21 h22 h23 h24 h25))
    · have h25 : x0 < x2 := by omega
      refine st_iconst dX2_join_171 ?_
      refine st_goto 176 (by decide) dX2_join_172 ?_
      exact st_ireturn rfl dX2_join_176 (mQ.ret (q25 h1 h2 h3 h4 h5 h6 h7 h8 h9 h10 h12 h13 h14 h15 h16 h17 h18 h19 h20 h21 h22 h23 h24 h25))
  by_cases h26 : x1 = 61
  · refine so_tabI 155 s1 61 h26 (by decide) (by decide) rfl (by decide) dX2_join_1 ?_
    refine st_iload_n (i := 0) rfl rfl dX2_join_155 ?_
    refine st_iload_n (i := 2) rfl rfl dX2_join_156 ?_
    refine sr_icmp_ne 164 (s15 h1 h2 h3 h4 h5 h6 h7 h8 h9 h10 h12 h13 h14 h15 h16 h17 h18 h19 h20 h21 h22 h23 h24 h26) (s16 h1 h2 h3 h4 h5 h6 h7 h8 h9 h10 h12 h13 h14 h15 h16 h17 h18 h19 h20 h21 h22 h23 h24 h26) (by decide) dX2_join_157 (fun h27 => ?_) (fun h27 => ?_)
    · have h27 : ¬ x0 = x2 := by omega
      refine st_iconst dX2_join_164 ?_
      exact st_ireturn rfl dX2_join_165 (mQ.ret (q26 h1 h2 h3 h4 h5 h6 h7 h8 h9 h10 h12 h13 h14 h15 h16 h17 h18 h19 h20 h21 h22 h23 h24 h26 h27))
    · have h27 : x0 = x2 := by omega
      refine st_iconst dX2_join_160 ?_
      refine st_goto 165 (by decide) dX2_join_161 ?_
      exact st_ireturn rfl dX2_join_165 (mQ.ret (q27 h1 h2 h3 h4 h5 h6 h7 h8 h9 h10 h12 h13 h14 h15 h16 h17 h18 h19 h20 h21 h22 h23 h24 h26 h27))
  by_cases h28 : x1 = 62
  · refine so_tabI 177 s1 62 h28 (by decide) (by decide) rfl (by decide) dX2_join_1 ?_
    refine st_iload_n (i := 0) rfl rfl dX2_join_177 ?_
    refine st_iload_n (i := 2) rfl rfl dX2_join_178 ?_
    refine sr_icmp_le 186 (s17 h1 h2 h3 h4 h5 h6 h7 h8 h9 h10 h12 h13 h14 h15 h16 h17 h18 h19 h20 h21 h22 h23 h24 h26 h28) (s18 h1 h2 h3 h4 h5 h6 h7 h8 h9 h10 h12 h13 h14 h15 h16 h17 h18 h19 h20 h21 h22 h23 h24 h26 h28) (by decide) dX2_join_179 (fun h29 => ?_) (fun h29 => ?_)
    · have h29 : x0 ≤ x2 := by omega
      refine st_iconst dX2_join_186 ?_
      exact st_ireturn rfl dX2_join_187 (mQ.ret (q28 h1 h2 h3 h4 h5 h6 h7 h8 h9 h10 h12 h13 h14 h15 h16 h17 h18 h19 h20 h21 h22 h23 h24 h26 h28 h29))
    · have h29 : x2 < x0 := by omega
      refine st_iconst dX2_join_182 ?_
      refine st_goto 187 (by decide) dX2_join_183 ?_
      exact st_ireturn rfl dX2_join_187 (mQ.ret (q29 h1 h2 h3 h4 h5 h6 h7 h8 h9 h10 h12 h13 h14 h15 h16 h17 h18 h19 h20 h21 h22 h23 h24 h26 h28 h29))
  refine so_tabO 192 s1 (by omega) (by decide) dX2_join_1 ?_
  refine st_iload_n (i := 0) rfl rfl dX2_join_192 ?_
  refine st_iload_n (i := 2) rfl rfl dX2_join_193 ?_
  refine st_ior dX2_join_194 ?_
  exact st_ireturn rfl dX2_join_195 (mQ.ret (q30 h1 h2 h3 h4 h5 h6 h7 h8 h9 h10 h12 h13 h14 h15 h16 h17 h18 h19 h20 h21 h22 h23 h24 h26 h28))
theorem c_X2_join_2 (mem : mmM) (x0 x2 : Int) (ha : -1000000 ≤ x0 ∧ x0 ≤ 1000000) (hb : -1000000 ≤ x2 ∧ x2 ≤ 1000000) : con 0 bX2_join 2 [(0, x0), (0, 43), (0, x2)] mem (fun v m => v = withinS (x0 + x2) ∧ m = mem) := by
  refine cn_X2_join (bk_X2_join_0 ?_ ?_ ?_ ?_ ?_ ?_ ?_ ?_ ?_ ?_ ?_ ?_ ?_ ?_ ?_ ?_ ?_ ?_ ?_ ?_ ?_ ?_ ?_ ?_ ?_ ?_ ?_ ?_ ?_ ?_) <;> (intros; first | (exfalso; omega) | exact ⟨rfl, rfl⟩ | (refine ⟨?_, rfl⟩; (try unfold b2i); (repeat' split) <;> first | rfl | omega))
theorem c_X2_join_3 (mem : mmM) (x0 x2 : Int) (ha : -1000000 ≤ x0 ∧ x0 ≤ 1000000) (hb : -1000000 ≤ x2 ∧ x2 ≤ 1000000) : con 0 bX2_join 2 [(0, x0), (0, 45), (0, x2)] mem (fun v m => v = withinS (x0 - x2) ∧ m = mem) := by
  refine cn_X2_join (bk_X2_join_0 ?_ ?_ ?_ ?_ ?_ ?_ ?_ ?_ ?_ ?_ ?_ ?_ ?_ ?_ ?_ ?_ ?_ ?_ ?_ ?_ ?_ ?_ ?_ ?_ ?_ ?_ ?_ ?_ ?_ ?_) <;> (intros; first | (exfalso; omega) | exact ⟨rfl, rfl⟩ | (refine ⟨?_, rfl⟩; (try unfold b2i); (repeat' split) <;> first | rfl | omega))
theorem c_X2_join_4 (mem : mmM) (x0 x2 : Int) (ha : -1000000 ≤ x0 ∧ x0 ≤ 1000000) (hb : -1000000 ≤ x2 ∧ x2 ≤ 1000000) (hm : -1002001000000 ≤ x0 * x2 ∧ x0 * x2 ≤ 1002001000000) : con 0 bX2_join 2 [(0, x0), (0, 42), (0, x2)] mem (fun v m => v = withinS (x0 * x2) ∧ m = mem) := by
  refine cn_X2_join (bk_X2_join_0 ?_ ?_ ?_ ?_ ?_ ?_ ?_ ?_ ?_ ?_ ?_ ?_ ?_ ?_ ?_ ?_ ?_ ?_ ?_ ?_ ?_ ?_ ?_ ?_ ?_ ?_ ?_ ?_ ?_ ?_) <;> (intros; first | (exfalso; omega) | exact ⟨rfl, rfl⟩ | (refine ⟨?_, rfl⟩; (try unfold b2i); (repeat' split) <;> first | rfl | omega))
theorem c_X2_join_5 (mem : mmM) (x0 x2 : Int) (ha : -1000000 ≤ x0 ∧ x0 ≤ 1000000) (hb : -1000000 ≤ x2 ∧ x2 ≤ 1000000) : con 0 bX2_join 2 [(0, x0), (0, 47), (0, x2)] mem (fun v m => v = (if x2 = 0 then 0 else Int.tdiv x0 x2) ∧ m = mem) := by
  refine cn_X2_join (bk_X2_join_0 ?_ ?_ ?_ ?_ ?_ ?_ ?_ ?_ ?_ ?_ ?_ ?_ ?_ ?_ ?_ ?_ ?_ ?_ ?_ ?_ ?_ ?_ ?_ ?_ ?_ ?_ ?_ ?_ ?_ ?_) <;> (intros; first | (exfalso; omega) | exact ⟨rfl, rfl⟩ | (refine ⟨?_, rfl⟩; (try unfold b2i); (repeat' split) <;> first | rfl | omega))
theorem c_X2_join_6 (mem : mmM) (x0 x2 : Int) (ha : -1000000 ≤ x0 ∧ x0 ≤ 1000000) (hb : -1000000 ≤ x2 ∧ x2 ≤ 1000000) : con 0 bX2_join 2 [(0, x0), (0, 61), (0, x2)] mem (fun v m => v = b2i (x0 = x2) ∧ m = mem) := by
  refine cn_X2_join (bk_X2_join_0 ?_ ?_ ?_ ?_ ?_ ?_ ?_ ?_ ?_ ?_ ?_ ?_ ?_ ?_ ?_ ?_ ?_ ?_ ?_ ?_ ?_ ?_ ?_ ?_ ?_ ?_ ?_ ?_ ?_ ?_) <;> (intros; first | (exfalso; omega) | exact ⟨rfl, rfl⟩ | (refine ⟨?_, rfl⟩; (try unfold b2i); (repeat' split) <;> first | rfl | omega))
theorem c_X2_join_7 (mem : mmM) (x0 x2 : Int) (ha : -1000000 ≤ x0 ∧ x0 ≤ 1000000) (hb : -1000000 ≤ x2 ∧ x2 ≤ 1000000) : con 0 bX2_join 2 [(0, x0), (0, 60), (0, x2)] mem (fun v m => v = b2i (x0 < x2) ∧ m = mem) := by
  refine cn_X2_join (bk_X2_join_0 ?_ ?_ ?_ ?_ ?_ ?_ ?_ ?_ ?_ ?_ ?_ ?_ ?_ ?_ ?_ ?_ ?_ ?_ ?_ ?_ ?_ ?_ ?_ ?_ ?_ ?_ ?_ ?_ ?_ ?_) <;> (intros; first | (exfalso; omega) | exact ⟨rfl, rfl⟩ | (refine ⟨?_, rfl⟩; (try unfold b2i); (repeat' split) <;> first | rfl | omega))
theorem c_X2_join_8 (mem : mmM) (x0 x2 : Int) (ha : -1000000 ≤ x0 ∧ x0 ≤ 1000000) (hb : -1000000 ≤ x2 ∧ x2 ≤ 1000000) : con 0 bX2_join 2 [(0, x0), (0, 62), (0, x2)] mem (fun v m => v = b2i (x2 < x0) ∧ m = mem) := by
  refine cn_X2_join (bk_X2_join_0 ?_ ?_ ?_ ?_ ?_ ?_ ?_ ?_ ?_ ?_ ?_ ?_ ?_ ?_ ?_ ?_ ?_ ?_ ?_ ?_ ?_ ?_ ?_ ?_ ?_ ?_ ?_ ?_ ?_ ?_) <;> (intros; first | (exfalso; omega) | exact ⟨rfl, rfl⟩ | (refine ⟨?_, rfl⟩; (try unfold b2i); (repeat' split) <;> first | rfl | omega))
theorem c_X2_join_10 (mem : mmM) (x0 x2 : Int) (ha : -1000000 ≤ x0 ∧ x0 ≤ 1000000) (hb : -1000000 ≤ x2 ∧ x2 ≤ 1000000) : con 0 bX2_join 2 [(0, x0), (0, 38), (0, x2)] mem (fun v m => v = and32 x0 x2 ∧ m = mem) := by
  refine cn_X2_join (bk_X2_join_0 ?_ ?_ ?_ ?_ ?_ ?_ ?_ ?_ ?_ ?_ ?_ ?_ ?_ ?_ ?_ ?_ ?_ ?_ ?_ ?_ ?_ ?_ ?_ ?_ ?_ ?_ ?_ ?_ ?_ ?_) <;> (intros; first | (exfalso; omega) | exact ⟨rfl, rfl⟩ | (refine ⟨?_, rfl⟩; (try unfold b2i); (repeat' split) <;> first | rfl | omega))
theorem c_X2_join_11 (mem : mmM) (x0 x2 : Int) (ha : -1000000 ≤ x0 ∧ x0 ≤ 1000000) (hb : -1000000 ≤ x2 ∧ x2 ≤ 1000000) : con 0 bX2_join 2 [(0, x0), (0, 124), (0, x2)] mem (fun v m => v = or32 x0 x2 ∧ m = mem) := by
  refine cn_X2_join (bk_X2_join_0 ?_ ?_ ?_ ?_ ?_ ?_ ?_ ?_ ?_ ?_ ?_ ?_ ?_ ?_ ?_ ?_ ?_ ?_ ?_ ?_ ?_ ?_ ?_ ?_ ?_ ?_ ?_ ?_ ?_ ?_) <;> (intros; first | (exfalso; omega) | exact ⟨rfl, rfl⟩ | (refine ⟨?_, rfl⟩; (try unfold b2i); (repeat' split) <;> first | rfl | omega))
theorem c_X2_join (mem : mmM) (x0 x2 c : Int) (hc : c = 2 ∨ c = 3 ∨ c = 4 ∨ c = 5 ∨ c = 6 ∨ c = 7 ∨ c = 8 ∨ c = 10 ∨ c = 11) (ha : -1000000 ≤ x0 ∧ x0 ≤ 1000000) (hb : -1000000 ≤ x2 ∧ x2 ≤ 1000000) (ht : 10 ≤ c → (x0 = 0 ∨ x0 = 1) ∧ (x2 = 0 ∨ x2 = 1)) : con 0 bX2_join 2 [(0, x0), (0, sgF c), (0, x2)] mem (fun v m => v = opF c x0 x2 ∧ m = mem) := by
  have hwd : ¬ x2 = 0 → withinS (Int.tdiv x0 x2) = Int.tdiv x0 x2 := by
    intro h0
    have := tdiv_bnd x0 x2 h0
    unfold withinS
    rw [if_neg (by omega), if_neg (by omega)]
  rcases hc with h | h | h | h | h | h | h | h | h <;> subst h
  · have e : sgF 2 = 43 := by decide
    rw [e]
    refine con.mono (c_X2_join_2 mem x0 x2 ha hb) (fun v m q => ⟨q.1.trans ?_, q.2⟩)
    unfold opF
    rw [if_pos rfl]
  · have e : sgF 3 = 45 := by decide
    rw [e]
    refine con.mono (c_X2_join_3 mem x0 x2 ha hb) (fun v m q => ⟨q.1.trans ?_, q.2⟩)
    unfold opF
    rw [if_neg (by decide), if_pos rfl]
  · have e : sgF 4 = 42 := by decide
    rw [e]
    refine con.mono (c_X2_join_4 mem x0 x2 ha hb (mul_bnd (by omega) (by omega))) (fun v m q => ⟨q.1.trans ?_, q.2⟩)
    unfold opF
    rw [if_neg (by decide), if_neg (by decide), if_pos rfl]
  · have e : sgF 5 = 47 := by decide
    rw [e]
    refine con.mono (c_X2_join_5 mem x0 x2 ha hb) (fun v m q => ⟨q.1.trans ?_, q.2⟩)
    have e5 : opF 5 x0 x2 = if x2 = 0 then 0 else withinS (Int.tdiv x0 x2) := by
      unfold opF
      rw [if_neg (by decide), if_neg (by decide), if_neg (by decide), if_pos rfl]
    rw [e5]
    by_cases z : x2 = 0
    · rw [if_pos z, if_pos z]
    · rw [if_neg z, if_neg z, hwd z]
  · have e : sgF 6 = 61 := by decide
    rw [e]
    refine con.mono (c_X2_join_6 mem x0 x2 ha hb) (fun v m q => ⟨q.1.trans ?_, q.2⟩)
    unfold opF
    rw [if_neg (by decide), if_neg (by decide), if_neg (by decide), if_neg (by decide), if_pos rfl]
  · have e : sgF 7 = 60 := by decide
    rw [e]
    refine con.mono (c_X2_join_7 mem x0 x2 ha hb) (fun v m q => ⟨q.1.trans ?_, q.2⟩)
    unfold opF
    rw [if_neg (by decide), if_neg (by decide), if_neg (by decide), if_neg (by decide), if_neg (by decide), if_pos rfl]
  · have e : sgF 8 = 62 := by decide
    rw [e]
    refine con.mono (c_X2_join_8 mem x0 x2 ha hb) (fun v m q => ⟨q.1.trans ?_, q.2⟩)
    unfold opF
    rw [if_neg (by decide), if_neg (by decide), if_neg (by decide), if_neg (by decide), if_neg (by decide), if_neg (by decide), if_pos rfl]
  · have e : sgF 10 = 38 := by decide
    rw [e]
    refine con.mono (c_X2_join_10 mem x0 x2 ha hb) (fun v m q => ⟨q.1.trans ?_, q.2⟩)
    obtain ⟨t1, t2⟩ := ht (by decide)
    rcases t1 with t1 | t1 <;> rcases t2 with t2 | t2 <;> subst t1 <;> subst t2 <;> decide
  · have e : sgF 11 = 124 := by decide
    rw [e]
    refine con.mono (c_X2_join_11 mem x0 x2 ha hb) (fun v m q => ⟨q.1.trans ?_, q.2⟩)
    obtain ⟨t1, t2⟩ := ht (by decide)
    rcases t1 with t1 | t1 <;> rcases t2 with t2 | t2 <;> subst t1 <;> subst t2 <;> decide
theorem cn_X2_push_11 {d : Nat} {P : mmM → Prop} {mem : mmM} {x1 : Int} (h : mmT bX2_push d 0 0 (mQv P) 0 [(2, 11), (0, x1)] [] mS mem) : conv bX2_push d [(2, 11), (0, x1)] mem P := mmC_of [(2, 11), (0, x1)] ok_X2_push.2.2.2.2 rfl (Nat.le_of_ble_eq_true rfl) h
theorem bk_X2_push_11_0 {d : Nat} {P : mmM → Prop} {mem : mmM} {x1 : Int}
  (q1 : 64 ≤ (mem 11 3) → P mem)
  (q2 : (mem 11 3) < 64 → P (mset (mset mem 13 (mem 11 3) x1) 11 3 ((mem 11 3) + 1)))
  (s1 : (mem 11 3) < 64 → 0 ≤ (mem 11 3) ∧ (mem 11 3) < 64 := by intros; first | omega | assumption | solve_by_elim)
  (s2 : (mem 11 3) < 64 → R32 x1 := by intros; first | omega | assumption | solve_by_elim)
  (s3 : (mem 11 3) < 64 → R32 ((mem 11 3) + 1) := by intros; first | omega | assumption | solve_by_elim)
  : mmT bX2_push d 0 0 (mQv P) 0 [(2, 11), (0, x1)] [] mS mem := by
  refine st_aload_n (i := 0) rfl (t := 0) rfl (by decide) dX2_push_0 ?_
  refine so_getI (v := (mem 11 3)) 11 3 fr_X2_32_2 rfl sh_11 rfl dX2_push_1 (fun r1 => ?_)
  refine st_aload_n (i := 0) rfl (t := 0) rfl (by decide) dX2_push_4 ?_
  refine so_getA 11 2 fr_X2_15_2 rfl sh_11 fx_11_2 dX2_push_5 ?_
  refine so_alen (v := 64) 13 rfl sh_13 (by decide) rfl dX2_push_8 ?_
  refine sr_icmp_ge 32 r1 ⟨by decide, by decide⟩ (by decide) dX2_push_9 (fun h1 => ?_) (fun h1 => ?_)
  · have h1 : 64 ≤ (mem 11 3) := by omega
    exact st_return rfl dX2_push_32 (mQv.ret (q1 h1))
  · have h1 : (mem 11 3) < 64 := by omega
    refine st_aload_n (i := 0) rfl (t := 0) rfl (by decide) dX2_push_12 ?_
    refine so_getA 11 2 fr_X2_15_2 rfl sh_11 fx_11_2 dX2_push_13 ?_
    refine st_aload_n (i := 0) rfl (t := 0) rfl (by decide) dX2_push_16 ?_
    refine so_getI (v := (mem 11 3)) 11 3 fr_X2_32_2 rfl sh_11 rfl dX2_push_17 (fun r2 => ?_)
    refine st_iload_n (i := 1) rfl rfl dX2_push_20 ?_
    refine so_iast 13 fr_13 rfl sh_13 (by decide) (s1 h1) (s2 h1) dX2_push_21 ?_
    refine st_aload_n (i := 0) rfl (t := 0) rfl (by decide) dX2_push_22 ?_
    refine st_dup (Nat.ne_of_beq_eq_false rfl) dX2_push_23 ?_
    refine so_getI (v := (mem 11 3)) 11 3 fr_X2_32_2 rfl sh_11 rfl dX2_push_24 (fun r3 => ?_)
    refine st_iconst dX2_push_27 ?_
    refine st_iadd dX2_push_28 ?_
    refine so_putI 11 3 fr_X2_32_2 pf_2_3 fo_11_3 rfl sh_11 (s3 h1) dX2_push_29 ?_
    exact st_return rfl dX2_push_32 (mQv.ret (q2 h1))
theorem cn_X2_pop_11 {d : Nat} {P : Int → mmM → Prop} {mem : mmM} (h : mmT bX2_pop d 0 0 (mQ 0 P) 0 [(2, 11)] [] mS mem) : con 0 bX2_pop d [(2, 11)] mem P := mmC_of [(2, 11)] ok_X2_pop.2.2.2.2 rfl (Nat.le_of_ble_eq_true rfl) h
theorem bk_X2_pop_11_0 {d : Nat} {P : Int → mmM → Prop} {mem : mmM}
  (q1 : 0 < (mem 11 3) → P (mem 13 ((mem 11 3) - 1)) (mset mem 11 3 ((mem 11 3) - 1)))
  (q2 : (mem 11 3) ≤ 0 → P 0 mem)
  (s1 : 0 < (mem 11 3) → R32 ((mem 11 3) - 1) := by intros; first | omega | assumption | solve_by_elim)
  (s2 : 0 < (mem 11 3) → 0 ≤ ((mem 11 3) - 1) ∧ ((mem 11 3) - 1) < 64 := by intros; first | omega | assumption | solve_by_elim)
  : mmT bX2_pop d 0 0 (mQ 0 P) 0 [(2, 11)] [] mS mem := by
  refine st_aload_n (i := 0) rfl (t := 0) rfl (by decide) dX2_pop_0 ?_
  refine so_getI (v := (mem 11 3)) 11 3 fr_X2_32_2 rfl sh_11 rfl dX2_pop_1 (fun r1 => ?_)
  refine sr_if_gt 9 r1 (by decide) dX2_pop_4 (fun h1 => ?_) (fun h1 => ?_)
  · have h1 : 0 < (mem 11 3) := by omega
    refine st_aload_n (i := 0) rfl (t := 0) rfl (by decide) dX2_pop_9 ?_
    refine st_dup (Nat.ne_of_beq_eq_false rfl) dX2_pop_10 ?_
    refine so_getI (v := (mem 11 3)) 11 3 fr_X2_32_2 rfl sh_11 rfl dX2_pop_11 (fun r2 => ?_)
    refine st_iconst dX2_pop_14 ?_
    refine st_isub dX2_pop_15 ?_
    refine so_putI 11 3 fr_X2_32_2 pf_2_3 fo_11_3 rfl sh_11 (s1 h1) dX2_pop_16 ?_
    refine st_aload_n (i := 0) rfl (t := 0) rfl (by decide) dX2_pop_19 ?_
    refine so_getA 11 2 fr_X2_15_2 rfl sh_11 fx_11_2 dX2_pop_20 ?_
    refine st_aload_n (i := 0) rfl (t := 0) rfl (by decide) dX2_pop_23 ?_
    refine so_getI (v := ((mem 11 3) - 1)) 11 3 fr_X2_32_2 rfl sh_11 rfl dX2_pop_24 (fun r3 => ?_)
    refine so_iald (v := (mem 13 ((mem 11 3) - 1))) 13 rfl sh_13 (by decide) (s2 h1) rfl dX2_pop_27 (fun r4 => ?_)
    exact st_ireturn rfl dX2_pop_28 (mQ.ret (q1 h1))
  · have h1 : (mem 11 3) ≤ 0 := by omega
    refine st_iconst dX2_pop_7 ?_
    exact st_ireturn rfl dX2_pop_8 (mQ.ret (q2 h1))
theorem c_X2_push_11 (mem : mmM) (x1 : Int) (h1 : R32 x1) (h : 0 ≤ mem 11 3 ∧ mem 11 3 < 64) : conv bX2_push 0 [(2, 11), (0, x1)] mem (fun m => m = mset (mset mem 13 (mem 11 3) x1) 11 3 (mem 11 3 + 1)) :=
  cn_X2_push_11 (bk_X2_push_11_0 (fun g => by omega) (fun g => rfl))
theorem c_X2_pop_11 (mem : mmM) (h : 0 < mem 11 3 ∧ mem 11 3 ≤ 64) : con 0 bX2_pop 0 [(2, 11)] mem (fun v m => v = mem 13 (mem 11 3 - 1) ∧ m = mset mem 11 3 (mem 11 3 - 1)) :=
  cn_X2_pop_11 (bk_X2_pop_11_0 (fun g => ⟨rfl, rfl⟩) (fun g => by omega))
theorem cn_X2_push_14 {d : Nat} {P : mmM → Prop} {mem : mmM} {x1 : Int} (h : mmT bX2_push d 0 0 (mQv P) 0 [(2, 14), (0, x1)] [] mS mem) : conv bX2_push d [(2, 14), (0, x1)] mem P := mmC_of [(2, 14), (0, x1)] ok_X2_push.2.2.2.2 rfl (Nat.le_of_ble_eq_true rfl) h
theorem bk_X2_push_14_0 {d : Nat} {P : mmM → Prop} {mem : mmM} {x1 : Int}
  (q1 : 64 ≤ (mem 14 3) → P mem)
  (q2 : (mem 14 3) < 64 → P (mset (mset mem 16 (mem 14 3) x1) 14 3 ((mem 14 3) + 1)))
  (s1 : (mem 14 3) < 64 → 0 ≤ (mem 14 3) ∧ (mem 14 3) < 64 := by intros; first | omega | assumption | solve_by_elim)
  (s2 : (mem 14 3) < 64 → R32 x1 := by intros; first | omega | assumption | solve_by_elim)
  (s3 : (mem 14 3) < 64 → R32 ((mem 14 3) + 1) := by intros; first | omega | assumption | solve_by_elim)
  : mmT bX2_push d 0 0 (mQv P) 0 [(2, 14), (0, x1)] [] mS mem := by
  refine st_aload_n (i := 0) rfl (t := 0) rfl (by decide) dX2_push_0 ?_
  refine so_getI (v := (mem 14 3)) 14 3 fr_X2_32_2 rfl sh_14 rfl dX2_push_1 (fun r1 => ?_)
  refine st_aload_n (i := 0) rfl (t := 0) rfl (by decide) dX2_push_4 ?_
  refine so_getA 14 2 fr_X2_15_2 rfl sh_14 fx_14_2 dX2_push_5 ?_
  refine so_alen (v := 64) 16 rfl sh_16 (by decide) rfl dX2_push_8 ?_
  refine sr_icmp_ge 32 r1 ⟨by decide, by decide⟩ (by decide) dX2_push_9 (fun h1 => ?_) (fun h1 => ?_)
  · have h1 : 64 ≤ (mem 14 3) := by omega
    exact st_return rfl dX2_push_32 (mQv.ret (q1 h1))
  · have h1 : (mem 14 3) < 64 := by omega
    refine st_aload_n (i := 0) rfl (t := 0) rfl (by decide) dX2_push_12 ?_
    refine so_getA 14 2 fr_X2_15_2 rfl sh_14 fx_14_2 dX2_push_13 ?_
    refine st_aload_n (i := 0) rfl (t := 0) rfl (by decide) dX2_push_16 ?_
    refine so_getI (v := (mem 14 3)) 14 3 fr_X2_32_2 rfl sh_14 rfl dX2_push_17 (fun r2 => ?_)
    refine st_iload_n (i := 1) rfl rfl dX2_push_20 ?_
    refine so_iast 16 fr_16 rfl sh_16 (by decide) (s1 h1) (s2 h1) dX2_push_21 ?_
    refine st_aload_n (i := 0) rfl (t := 0) rfl (by decide) dX2_push_22 ?_
    refine st_dup (Nat.ne_of_beq_eq_false rfl) dX2_push_23 ?_
    refine so_getI (v := (mem 14 3)) 14 3 fr_X2_32_2 rfl sh_14 rfl dX2_push_24 (fun r3 => ?_)
    refine st_iconst dX2_push_27 ?_
    refine st_iadd dX2_push_28 ?_
    refine so_putI 14 3 fr_X2_32_2 pf_2_3 fo_14_3 rfl sh_14 (s3 h1) dX2_push_29 ?_
    exact st_return rfl dX2_push_32 (mQv.ret (q2 h1))
theorem cn_X2_pop_14 {d : Nat} {P : Int → mmM → Prop} {mem : mmM} (h : mmT bX2_pop d 0 0 (mQ 0 P) 0 [(2, 14)] [] mS mem) : con 0 bX2_pop d [(2, 14)] mem P := mmC_of [(2, 14)] ok_X2_pop.2.2.2.2 rfl (Nat.le_of_ble_eq_true rfl) h
theorem bk_X2_pop_14_0 {d : Nat} {P : Int → mmM → Prop} {mem : mmM}
  (q1 : 0 < (mem 14 3) → P (mem 16 ((mem 14 3) - 1)) (mset mem 14 3 ((mem 14 3) - 1)))
  (q2 : (mem 14 3) ≤ 0 → P 0 mem)
  (s1 : 0 < (mem 14 3) → R32 ((mem 14 3) - 1) := by intros; first | omega | assumption | solve_by_elim)
  (s2 : 0 < (mem 14 3) → 0 ≤ ((mem 14 3) - 1) ∧ ((mem 14 3) - 1) < 64 := by intros; first | omega | assumption | solve_by_elim)
  : mmT bX2_pop d 0 0 (mQ 0 P) 0 [(2, 14)] [] mS mem := by
  refine st_aload_n (i := 0) rfl (t := 0) rfl (by decide) dX2_pop_0 ?_
  refine so_getI (v := (mem 14 3)) 14 3 fr_X2_32_2 rfl sh_14 rfl dX2_pop_1 (fun r1 => ?_)
  refine sr_if_gt 9 r1 (by decide) dX2_pop_4 (fun h1 => ?_) (fun h1 => ?_)
  · have h1 : 0 < (mem 14 3) := by omega
    refine st_aload_n (i := 0) rfl (t := 0) rfl (by decide) dX2_pop_9 ?_
    refine st_dup (Nat.ne_of_beq_eq_false rfl) dX2_pop_10 ?_
    refine so_getI (v := (mem 14 3)) 14 3 fr_X2_32_2 rfl sh_14 rfl dX2_pop_11 (fun r2 => ?_)
    refine st_iconst dX2_pop_14 ?_
    refine st_isub dX2_pop_15 ?_
    refine so_putI 14 3 fr_X2_32_2 pf_2_3 fo_14_3 rfl sh_14 (s1 h1) dX2_pop_16 ?_
    refine st_aload_n (i := 0) rfl (t := 0) rfl (by decide) dX2_pop_19 ?_
    refine so_getA 14 2 fr_X2_15_2 rfl sh_14 fx_14_2 dX2_pop_20 ?_
    refine st_aload_n (i := 0) rfl (t := 0) rfl (by decide) dX2_pop_23 ?_
    refine so_getI (v := ((mem 14 3) - 1)) 14 3 fr_X2_32_2 rfl sh_14 rfl dX2_pop_24 (fun r3 => ?_)
    refine so_iald (v := (mem 16 ((mem 14 3) - 1))) 16 rfl sh_16 (by decide) (s2 h1) rfl dX2_pop_27 (fun r4 => ?_)
    exact st_ireturn rfl dX2_pop_28 (mQ.ret (q1 h1))
  · have h1 : (mem 14 3) ≤ 0 := by omega
    refine st_iconst dX2_pop_7 ?_
    exact st_ireturn rfl dX2_pop_8 (mQ.ret (q2 h1))
theorem c_X2_push_14 (mem : mmM) (x1 : Int) (h1 : R32 x1) (h : 0 ≤ mem 14 3 ∧ mem 14 3 < 64) : conv bX2_push 0 [(2, 14), (0, x1)] mem (fun m => m = mset (mset mem 16 (mem 14 3) x1) 14 3 (mem 14 3 + 1)) :=
  cn_X2_push_14 (bk_X2_push_14_0 (fun g => by omega) (fun g => rfl))
theorem c_X2_pop_14 (mem : mmM) (h : 0 < mem 14 3 ∧ mem 14 3 ≤ 64) : con 0 bX2_pop 0 [(2, 14)] mem (fun v m => v = mem 16 (mem 14 3 - 1) ∧ m = mset mem 14 3 (mem 14 3 - 1)) :=
  cn_X2_pop_14 (bk_X2_pop_14_0 (fun g => ⟨rfl, rfl⟩) (fun g => by omega))
theorem cn_X2_push_17 {d : Nat} {P : mmM → Prop} {mem : mmM} {x1 : Int} (h : mmT bX2_push d 0 0 (mQv P) 0 [(2, 17), (0, x1)] [] mS mem) : conv bX2_push d [(2, 17), (0, x1)] mem P := mmC_of [(2, 17), (0, x1)] ok_X2_push.2.2.2.2 rfl (Nat.le_of_ble_eq_true rfl) h
theorem bk_X2_push_17_0 {d : Nat} {P : mmM → Prop} {mem : mmM} {x1 : Int}
  (q1 : 64 ≤ (mem 17 3) → P mem)
  (q2 : (mem 17 3) < 64 → P (mset (mset mem 19 (mem 17 3) x1) 17 3 ((mem 17 3) + 1)))
  (s1 : (mem 17 3) < 64 → 0 ≤ (mem 17 3) ∧ (mem 17 3) < 64 := by intros; first | omega | assumption | solve_by_elim)
  (s2 : (mem 17 3) < 64 → R32 x1 := by intros; first | omega | assumption | solve_by_elim)
  (s3 : (mem 17 3) < 64 → R32 ((mem 17 3) + 1) := by intros; first | omega | assumption | solve_by_elim)
  : mmT bX2_push d 0 0 (mQv P) 0 [(2, 17), (0, x1)] [] mS mem := by
  refine st_aload_n (i := 0) rfl (t := 0) rfl (by decide) dX2_push_0 ?_
  refine so_getI (v := (mem 17 3)) 17 3 fr_X2_32_2 rfl sh_17 rfl dX2_push_1 (fun r1 => ?_)
  refine st_aload_n (i := 0) rfl (t := 0) rfl (by decide) dX2_push_4 ?_
  refine so_getA 17 2 fr_X2_15_2 rfl sh_17 fx_17_2 dX2_push_5 ?_
  refine so_alen (v := 64) 19 rfl sh_19 (by decide) rfl dX2_push_8 ?_
  refine sr_icmp_ge 32 r1 ⟨by decide, by decide⟩ (by decide) dX2_push_9 (fun h1 => ?_) (fun h1 => ?_)
  · have h1 : 64 ≤ (mem 17 3) := by omega
    exact st_return rfl dX2_push_32 (mQv.ret (q1 h1))
  · have h1 : (mem 17 3) < 64 := by omega
    refine st_aload_n (i := 0) rfl (t := 0) rfl (by decide) dX2_push_12 ?_
    refine so_getA 17 2 fr_X2_15_2 rfl sh_17 fx_17_2 dX2_push_13 ?_
    refine st_aload_n (i := 0) rfl (t := 0) rfl (by decide) dX2_push_16 ?_
    refine so_getI (v := (mem 17 3)) 17 3 fr_X2_32_2 rfl sh_17 rfl dX2_push_17 (fun r2 => ?_)
    refine st_iload_n (i := 1) rfl rfl dX2_push_20 ?_
    refine so_iast 19 fr_19 rfl sh_19 (by decide) (s1 h1) (s2 h1) dX2_push_21 ?_
    refine st_aload_n (i := 0) rfl (t := 0) rfl (by decide) dX2_push_22 ?_
    refine st_dup (Nat.ne_of_beq_eq_false rfl) dX2_push_23 ?_
    refine so_getI (v := (mem 17 3)) 17 3 fr_X2_32_2 rfl sh_17 rfl dX2_push_24 (fun r3 => ?_)
    refine st_iconst dX2_push_27 ?_
    refine st_iadd dX2_push_28 ?_
    refine so_putI 17 3 fr_X2_32_2 pf_2_3 fo_17_3 rfl sh_17 (s3 h1) dX2_push_29 ?_
    exact st_return rfl dX2_push_32 (mQv.ret (q2 h1))
theorem cn_X2_pop_17 {d : Nat} {P : Int → mmM → Prop} {mem : mmM} (h : mmT bX2_pop d 0 0 (mQ 0 P) 0 [(2, 17)] [] mS mem) : con 0 bX2_pop d [(2, 17)] mem P := mmC_of [(2, 17)] ok_X2_pop.2.2.2.2 rfl (Nat.le_of_ble_eq_true rfl) h
theorem bk_X2_pop_17_0 {d : Nat} {P : Int → mmM → Prop} {mem : mmM}
  (q1 : 0 < (mem 17 3) → P (mem 19 ((mem 17 3) - 1)) (mset mem 17 3 ((mem 17 3) - 1)))
  (q2 : (mem 17 3) ≤ 0 → P 0 mem)
  (s1 : 0 < (mem 17 3) → R32 ((mem 17 3) - 1) := by intros; first | omega | assumption | solve_by_elim)
  (s2 : 0 < (mem 17 3) → 0 ≤ ((mem 17 3) - 1) ∧ ((mem 17 3) - 1) < 64 := by intros; first | omega | assumption | solve_by_elim)
  : mmT bX2_pop d 0 0 (mQ 0 P) 0 [(2, 17)] [] mS mem := by
  refine st_aload_n (i := 0) rfl (t := 0) rfl (by decide) dX2_pop_0 ?_
  refine so_getI (v := (mem 17 3)) 17 3 fr_X2_32_2 rfl sh_17 rfl dX2_pop_1 (fun r1 => ?_)
  refine sr_if_gt 9 r1 (by decide) dX2_pop_4 (fun h1 => ?_) (fun h1 => ?_)
  · have h1 : 0 < (mem 17 3) := by omega
    refine st_aload_n (i := 0) rfl (t := 0) rfl (by decide) dX2_pop_9 ?_
    refine st_dup (Nat.ne_of_beq_eq_false rfl) dX2_pop_10 ?_
    refine so_getI (v := (mem 17 3)) 17 3 fr_X2_32_2 rfl sh_17 rfl dX2_pop_11 (fun r2 => ?_)
    refine st_iconst dX2_pop_14 ?_
    refine st_isub dX2_pop_15 ?_
    refine so_putI 17 3 fr_X2_32_2 pf_2_3 fo_17_3 rfl sh_17 (s1 h1) dX2_pop_16 ?_
    refine st_aload_n (i := 0) rfl (t := 0) rfl (by decide) dX2_pop_19 ?_
    refine so_getA 17 2 fr_X2_15_2 rfl sh_17 fx_17_2 dX2_pop_20 ?_
    refine st_aload_n (i := 0) rfl (t := 0) rfl (by decide) dX2_pop_23 ?_
    refine so_getI (v := ((mem 17 3) - 1)) 17 3 fr_X2_32_2 rfl sh_17 rfl dX2_pop_24 (fun r3 => ?_)
    refine so_iald (v := (mem 19 ((mem 17 3) - 1))) 19 rfl sh_19 (by decide) (s2 h1) rfl dX2_pop_27 (fun r4 => ?_)
    exact st_ireturn rfl dX2_pop_28 (mQ.ret (q1 h1))
  · have h1 : (mem 17 3) ≤ 0 := by omega
    refine st_iconst dX2_pop_7 ?_
    exact st_ireturn rfl dX2_pop_8 (mQ.ret (q2 h1))
theorem c_X2_push_17 (mem : mmM) (x1 : Int) (h1 : R32 x1) (h : 0 ≤ mem 17 3 ∧ mem 17 3 < 64) : conv bX2_push 0 [(2, 17), (0, x1)] mem (fun m => m = mset (mset mem 19 (mem 17 3) x1) 17 3 (mem 17 3 + 1)) :=
  cn_X2_push_17 (bk_X2_push_17_0 (fun g => by omega) (fun g => rfl))
theorem c_X2_pop_17 (mem : mmM) (h : 0 < mem 17 3 ∧ mem 17 3 ≤ 64) : con 0 bX2_pop 0 [(2, 17)] mem (fun v m => v = mem 19 (mem 17 3 - 1) ∧ m = mset mem 17 3 (mem 17 3 - 1)) :=
  cn_X2_pop_17 (bk_X2_pop_17_0 (fun g => ⟨rfl, rfl⟩) (fun g => by omega))
theorem cn_X2_push_20 {d : Nat} {P : mmM → Prop} {mem : mmM} {x1 : Int} (h : mmT bX2_push d 0 0 (mQv P) 0 [(2, 20), (0, x1)] [] mS mem) : conv bX2_push d [(2, 20), (0, x1)] mem P := mmC_of [(2, 20), (0, x1)] ok_X2_push.2.2.2.2 rfl (Nat.le_of_ble_eq_true rfl) h
theorem bk_X2_push_20_0 {d : Nat} {P : mmM → Prop} {mem : mmM} {x1 : Int}
  (q1 : 64 ≤ (mem 20 3) → P mem)
  (q2 : (mem 20 3) < 64 → P (mset (mset mem 22 (mem 20 3) x1) 20 3 ((mem 20 3) + 1)))
  (s1 : (mem 20 3) < 64 → 0 ≤ (mem 20 3) ∧ (mem 20 3) < 64 := by intros; first | omega | assumption | solve_by_elim)
  (s2 : (mem 20 3) < 64 → R32 x1 := by intros; first | omega | assumption | solve_by_elim)
  (s3 : (mem 20 3) < 64 → R32 ((mem 20 3) + 1) := by intros; first | omega | assumption | solve_by_elim)
  : mmT bX2_push d 0 0 (mQv P) 0 [(2, 20), (0, x1)] [] mS mem := by
  refine st_aload_n (i := 0) rfl (t := 0) rfl (by decide) dX2_push_0 ?_
  refine so_getI (v := (mem 20 3)) 20 3 fr_X2_32_2 rfl sh_20 rfl dX2_push_1 (fun r1 => ?_)
  refine st_aload_n (i := 0) rfl (t := 0) rfl (by decide) dX2_push_4 ?_
  refine so_getA 20 2 fr_X2_15_2 rfl sh_20 fx_20_2 dX2_push_5 ?_
  refine so_alen (v := 64) 22 rfl sh_22 (by decide) rfl dX2_push_8 ?_
  refine sr_icmp_ge 32 r1 ⟨by decide, by decide⟩ (by decide) dX2_push_9 (fun h1 => ?_) (fun h1 => ?_)
  · have h1 : 64 ≤ (mem 20 3) := by omega
    exact st_return rfl dX2_push_32 (mQv.ret (q1 h1))
  · have h1 : (mem 20 3) < 64 := by omega
    refine st_aload_n (i := 0) rfl (t := 0) rfl (by decide) dX2_push_12 ?_
    refine so_getA 20 2 fr_X2_15_2 rfl sh_20 fx_20_2 dX2_push_13 ?_
    refine st_aload_n (i := 0) rfl (t := 0) rfl (by decide) dX2_push_16 ?_
    refine so_getI (v := (mem 20 3)) 20 3 fr_X2_32_2 rfl sh_20 rfl dX2_push_17 (fun r2 => ?_)
    refine st_iload_n (i := 1) rfl rfl dX2_push_20 ?_
    refine so_iast 22 fr_22 rfl sh_22 (by decide) (s1 h1) (s2 h1) dX2_push_21 ?_
    refine st_aload_n (i := 0) rfl (t := 0) rfl (by decide) dX2_push_22 ?_
    refine st_dup (Nat.ne_of_beq_eq_false rfl) dX2_push_23 ?_
    refine so_getI (v := (mem 20 3)) 20 3 fr_X2_32_2 rfl sh_20 rfl dX2_push_24 (fun r3 => ?_)
    refine st_iconst dX2_push_27 ?_
    refine st_iadd dX2_push_28 ?_
    refine so_putI 20 3 fr_X2_32_2 pf_2_3 fo_20_3 rfl sh_20 (s3 h1) dX2_push_29 ?_
    exact st_return rfl dX2_push_32 (mQv.ret (q2 h1))
theorem cn_X2_pop_20 {d : Nat} {P : Int → mmM → Prop} {mem : mmM} (h : mmT bX2_pop d 0 0 (mQ 0 P) 0 [(2, 20)] [] mS mem) : con 0 bX2_pop d [(2, 20)] mem P := mmC_of [(2, 20)] ok_X2_pop.2.2.2.2 rfl (Nat.le_of_ble_eq_true rfl) h
theorem bk_X2_pop_20_0 {d : Nat} {P : Int → mmM → Prop} {mem : mmM}
  (q1 : 0 < (mem 20 3) → P (mem 22 ((mem 20 3) - 1)) (mset mem 20 3 ((mem 20 3) - 1)))
  (q2 : (mem 20 3) ≤ 0 → P 0 mem)
  (s1 : 0 < (mem 20 3) → R32 ((mem 20 3) - 1) := by intros; first | omega | assumption | solve_by_elim)
  (s2 : 0 < (mem 20 3) → 0 ≤ ((mem 20 3) - 1) ∧ ((mem 20 3) - 1) < 64 := by intros; first | omega | assumption | solve_by_elim)
  : mmT bX2_pop d 0 0 (mQ 0 P) 0 [(2, 20)] [] mS mem := by
  refine st_aload_n (i := 0) rfl (t := 0) rfl (by decide) dX2_pop_0 ?_
  refine so_getI (v := (mem 20 3)) 20 3 fr_X2_32_2 rfl sh_20 rfl dX2_pop_1 (fun r1 => ?_)
  refine sr_if_gt 9 r1 (by decide) dX2_pop_4 (fun h1 => ?_) (fun h1 => ?_)
  · have h1 : 0 < (mem 20 3) := by omega
    refine st_aload_n (i := 0) rfl (t := 0) rfl (by decide) dX2_pop_9 ?_
    refine st_dup (Nat.ne_of_beq_eq_false rfl) dX2_pop_10 ?_
    refine so_getI (v := (mem 20 3)) 20 3 fr_X2_32_2 rfl sh_20 rfl dX2_pop_11 (fun r2 => ?_)
    refine st_iconst dX2_pop_14 ?_
    refine st_isub dX2_pop_15 ?_
    refine so_putI 20 3 fr_X2_32_2 pf_2_3 fo_20_3 rfl sh_20 (s1 h1) dX2_pop_16 ?_
    refine st_aload_n (i := 0) rfl (t := 0) rfl (by decide) dX2_pop_19 ?_
    refine so_getA 20 2 fr_X2_15_2 rfl sh_20 fx_20_2 dX2_pop_20 ?_
    refine st_aload_n (i := 0) rfl (t := 0) rfl (by decide) dX2_pop_23 ?_
    refine so_getI (v := ((mem 20 3) - 1)) 20 3 fr_X2_32_2 rfl sh_20 rfl dX2_pop_24 (fun r3 => ?_)
    refine so_iald (v := (mem 22 ((mem 20 3) - 1))) 22 rfl sh_22 (by decide) (s2 h1) rfl dX2_pop_27 (fun r4 => ?_)
    exact st_ireturn rfl dX2_pop_28 (mQ.ret (q1 h1))
  · have h1 : (mem 20 3) ≤ 0 := by omega
    refine st_iconst dX2_pop_7 ?_
    exact st_ireturn rfl dX2_pop_8 (mQ.ret (q2 h1))
theorem c_X2_push_20 (mem : mmM) (x1 : Int) (h1 : R32 x1) (h : 0 ≤ mem 20 3 ∧ mem 20 3 < 64) : conv bX2_push 0 [(2, 20), (0, x1)] mem (fun m => m = mset (mset mem 22 (mem 20 3) x1) 20 3 (mem 20 3 + 1)) :=
  cn_X2_push_20 (bk_X2_push_20_0 (fun g => by omega) (fun g => rfl))
theorem c_X2_pop_20 (mem : mmM) (h : 0 < mem 20 3 ∧ mem 20 3 ≤ 64) : con 0 bX2_pop 0 [(2, 20)] mem (fun v m => v = mem 22 (mem 20 3 - 1) ∧ m = mset mem 20 3 (mem 20 3 - 1)) :=
  cn_X2_pop_20 (bk_X2_pop_20_0 (fun g => ⟨rfl, rfl⟩) (fun g => by omega))
