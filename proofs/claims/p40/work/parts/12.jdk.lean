theorem cn_J7_fill_53178_37 {d : Nat} {P : mmM → Prop} {mem : mmM} {x1 : Int} (h : mmT bJ7_fill_53178 d 0 0 (mQv P) 0 [(2, 37), (0, x1), (9, 0), (9, 0)] [] mS mem) : conv bJ7_fill_53178 d [(2, 37), (0, x1)] mem P := mmC_of [(2, 37), (0, x1), (9, 0), (9, 0)] ok_J7_fill_53178.2.2.2.2 rfl (Nat.le_of_ble_eq_true rfl) h
theorem bk_J7_fill_53178_37_0 {d : Nat} {P : mmM → Prop} {mem : mmM} {x1 : Int}
  (k1 : mmT bJ7_fill_53178 d 0 0 (mQv P) 5 [(2, 37), (0, x1), (0, 0), (0, 8)] [] mS mem)
  : mmT bJ7_fill_53178 d 0 0 (mQv P) 0 [(2, 37), (0, x1), (9, 0), (9, 0)] [] mS mem := by
  refine st_iconst dJ7_fill_53178_0 ?_
  refine st_istore_n (i := 2) rfl (by decide) (lc' := [(2, 37), (0, x1), (0, 0), (9, 0)]) rfl dJ7_fill_53178_1 ?_
  refine st_aload_n (i := 0) rfl (t := 0) rfl (by decide) dJ7_fill_53178_2 ?_
  refine so_alen (v := 8) 37 rfl sh_37 (by decide) rfl dJ7_fill_53178_3 ?_
  refine st_istore_n (i := 3) rfl (by decide) (lc' := [(2, 37), (0, x1), (0, 0), (0, 8)]) rfl dJ7_fill_53178_4 ?_
  exact st_locals [(2, 37), (0, x1), (0, 0), (0, 8)] ⟨Or.inr rfl, Or.inr rfl, Or.inr rfl, Or.inr rfl, trivial⟩ k1
theorem bk_J7_fill_53178_37_5 {d : Nat} {P : mmM → Prop} {mem : mmM} {x1 x2 x3 : Int}
  (k1 : x2 < x3 → mmT bJ7_fill_53178 d 0 0 (mQv P) 5 [(2, 37), (0, x1), (0, (x2 + 1)), (0, x3)] [] mS (mset mem 37 x2 x1))
  (q1 : x3 ≤ x2 → P mem)
  (s1 : R32 x2 := by intros; omega)
  (s2 : R32 x3 := by intros; omega)
  (s3 : x2 < x3 → 0 ≤ x2 ∧ x2 < 8 := by intros; omega)
  (s4 : x2 < x3 → R32 x1 := by intros; omega)
  : mmT bJ7_fill_53178 d 0 0 (mQv P) 5 [(2, 37), (0, x1), (0, x2), (0, x3)] [] mS mem := by
  refine st_iload_n (i := 2) rfl rfl dJ7_fill_53178_5 ?_
  refine st_iload_n (i := 3) rfl rfl dJ7_fill_53178_6 ?_
  refine sr_icmp_ge 20 s1 s2 (by decide) dJ7_fill_53178_7 (fun h1 => ?_) (fun h1 => ?_)
  · have h1 : x3 ≤ x2 := by omega
    exact st_return rfl dJ7_fill_53178_20 (mQv.ret (q1 h1))
  · have h1 : x2 < x3 := by omega
    refine st_aload_n (i := 0) rfl (t := 0) rfl (by decide) dJ7_fill_53178_10 ?_
    refine st_iload_n (i := 2) rfl rfl dJ7_fill_53178_11 ?_
    refine st_iload_n (i := 1) rfl rfl dJ7_fill_53178_12 ?_
    refine so_iast 37 fr_37 rfl sh_37 (by decide) (s3 h1) (s4 h1) dJ7_fill_53178_13 ?_
    refine st_iinc (y := (x2 + 1)) (by decide) (i := 2) rfl rfl (lc' := [(2, 37), (0, x1), (0, (x2 + 1)), (0, x3)]) rfl dJ7_fill_53178_14 ?_
    refine st_goto 5 (by decide) dJ7_fill_53178_17 ?_
    exact st_locals [(2, 37), (0, x1), (0, (x2 + 1)), (0, x3)] ⟨Or.inr rfl, Or.inr rfl, Or.inr rfl, Or.inr rfl, trivial⟩ (k1 h1)
theorem cn_J7_fill_53178_48 {d : Nat} {P : mmM → Prop} {mem : mmM} {x1 : Int} (h : mmT bJ7_fill_53178 d 0 0 (mQv P) 0 [(2, 48), (0, x1), (9, 0), (9, 0)] [] mS mem) : conv bJ7_fill_53178 d [(2, 48), (0, x1)] mem P := mmC_of [(2, 48), (0, x1), (9, 0), (9, 0)] ok_J7_fill_53178.2.2.2.2 rfl (Nat.le_of_ble_eq_true rfl) h
theorem bk_J7_fill_53178_48_0 {d : Nat} {P : mmM → Prop} {mem : mmM} {x1 : Int}
  (k1 : mmT bJ7_fill_53178 d 0 0 (mQv P) 5 [(2, 48), (0, x1), (0, 0), (0, 24)] [] mS mem)
  : mmT bJ7_fill_53178 d 0 0 (mQv P) 0 [(2, 48), (0, x1), (9, 0), (9, 0)] [] mS mem := by
  refine st_iconst dJ7_fill_53178_0 ?_
  refine st_istore_n (i := 2) rfl (by decide) (lc' := [(2, 48), (0, x1), (0, 0), (9, 0)]) rfl dJ7_fill_53178_1 ?_
  refine st_aload_n (i := 0) rfl (t := 0) rfl (by decide) dJ7_fill_53178_2 ?_
  refine so_alen (v := 24) 48 rfl sh_48 (by decide) rfl dJ7_fill_53178_3 ?_
  refine st_istore_n (i := 3) rfl (by decide) (lc' := [(2, 48), (0, x1), (0, 0), (0, 24)]) rfl dJ7_fill_53178_4 ?_
  exact st_locals [(2, 48), (0, x1), (0, 0), (0, 24)] ⟨Or.inr rfl, Or.inr rfl, Or.inr rfl, Or.inr rfl, trivial⟩ k1
theorem bk_J7_fill_53178_48_5 {d : Nat} {P : mmM → Prop} {mem : mmM} {x1 x2 x3 : Int}
  (k1 : x2 < x3 → mmT bJ7_fill_53178 d 0 0 (mQv P) 5 [(2, 48), (0, x1), (0, (x2 + 1)), (0, x3)] [] mS (mset mem 48 x2 x1))
  (q1 : x3 ≤ x2 → P mem)
  (s1 : R32 x2 := by intros; omega)
  (s2 : R32 x3 := by intros; omega)
  (s3 : x2 < x3 → 0 ≤ x2 ∧ x2 < 24 := by intros; omega)
  (s4 : x2 < x3 → R32 x1 := by intros; omega)
  : mmT bJ7_fill_53178 d 0 0 (mQv P) 5 [(2, 48), (0, x1), (0, x2), (0, x3)] [] mS mem := by
  refine st_iload_n (i := 2) rfl rfl dJ7_fill_53178_5 ?_
  refine st_iload_n (i := 3) rfl rfl dJ7_fill_53178_6 ?_
  refine sr_icmp_ge 20 s1 s2 (by decide) dJ7_fill_53178_7 (fun h1 => ?_) (fun h1 => ?_)
  · have h1 : x3 ≤ x2 := by omega
    exact st_return rfl dJ7_fill_53178_20 (mQv.ret (q1 h1))
  · have h1 : x2 < x3 := by omega
    refine st_aload_n (i := 0) rfl (t := 0) rfl (by decide) dJ7_fill_53178_10 ?_
    refine st_iload_n (i := 2) rfl rfl dJ7_fill_53178_11 ?_
    refine st_iload_n (i := 1) rfl rfl dJ7_fill_53178_12 ?_
    refine so_iast 48 fr_48 rfl sh_48 (by decide) (s3 h1) (s4 h1) dJ7_fill_53178_13 ?_
    refine st_iinc (y := (x2 + 1)) (by decide) (i := 2) rfl rfl (lc' := [(2, 48), (0, x1), (0, (x2 + 1)), (0, x3)]) rfl dJ7_fill_53178_14 ?_
    refine st_goto 5 (by decide) dJ7_fill_53178_17 ?_
    exact st_locals [(2, 48), (0, x1), (0, (x2 + 1)), (0, x3)] ⟨Or.inr rfl, Or.inr rfl, Or.inr rfl, Or.inr rfl, trivial⟩ (k1 h1)
theorem cn_J7_fill_53178_54 {d : Nat} {P : mmM → Prop} {mem : mmM} {x1 : Int} (h : mmT bJ7_fill_53178 d 0 0 (mQv P) 0 [(2, 54), (0, x1), (9, 0), (9, 0)] [] mS mem) : conv bJ7_fill_53178 d [(2, 54), (0, x1)] mem P := mmC_of [(2, 54), (0, x1), (9, 0), (9, 0)] ok_J7_fill_53178.2.2.2.2 rfl (Nat.le_of_ble_eq_true rfl) h
theorem bk_J7_fill_53178_54_0 {d : Nat} {P : mmM → Prop} {mem : mmM} {x1 : Int}
  (k1 : mmT bJ7_fill_53178 d 0 0 (mQv P) 5 [(2, 54), (0, x1), (0, 0), (0, 24)] [] mS mem)
  : mmT bJ7_fill_53178 d 0 0 (mQv P) 0 [(2, 54), (0, x1), (9, 0), (9, 0)] [] mS mem := by
  refine st_iconst dJ7_fill_53178_0 ?_
  refine st_istore_n (i := 2) rfl (by decide) (lc' := [(2, 54), (0, x1), (0, 0), (9, 0)]) rfl dJ7_fill_53178_1 ?_
  refine st_aload_n (i := 0) rfl (t := 0) rfl (by decide) dJ7_fill_53178_2 ?_
  refine so_alen (v := 24) 54 rfl sh_54 (by decide) rfl dJ7_fill_53178_3 ?_
  refine st_istore_n (i := 3) rfl (by decide) (lc' := [(2, 54), (0, x1), (0, 0), (0, 24)]) rfl dJ7_fill_53178_4 ?_
  exact st_locals [(2, 54), (0, x1), (0, 0), (0, 24)] ⟨Or.inr rfl, Or.inr rfl, Or.inr rfl, Or.inr rfl, trivial⟩ k1
theorem bk_J7_fill_53178_54_5 {d : Nat} {P : mmM → Prop} {mem : mmM} {x1 x2 x3 : Int}
  (k1 : x2 < x3 → mmT bJ7_fill_53178 d 0 0 (mQv P) 5 [(2, 54), (0, x1), (0, (x2 + 1)), (0, x3)] [] mS (mset mem 54 x2 x1))
  (q1 : x3 ≤ x2 → P mem)
  (s1 : R32 x2 := by intros; omega)
  (s2 : R32 x3 := by intros; omega)
  (s3 : x2 < x3 → 0 ≤ x2 ∧ x2 < 24 := by intros; omega)
  (s4 : x2 < x3 → R32 x1 := by intros; omega)
  : mmT bJ7_fill_53178 d 0 0 (mQv P) 5 [(2, 54), (0, x1), (0, x2), (0, x3)] [] mS mem := by
  refine st_iload_n (i := 2) rfl rfl dJ7_fill_53178_5 ?_
  refine st_iload_n (i := 3) rfl rfl dJ7_fill_53178_6 ?_
  refine sr_icmp_ge 20 s1 s2 (by decide) dJ7_fill_53178_7 (fun h1 => ?_) (fun h1 => ?_)
  · have h1 : x3 ≤ x2 := by omega
    exact st_return rfl dJ7_fill_53178_20 (mQv.ret (q1 h1))
  · have h1 : x2 < x3 := by omega
    refine st_aload_n (i := 0) rfl (t := 0) rfl (by decide) dJ7_fill_53178_10 ?_
    refine st_iload_n (i := 2) rfl rfl dJ7_fill_53178_11 ?_
    refine st_iload_n (i := 1) rfl rfl dJ7_fill_53178_12 ?_
    refine so_iast 54 fr_54 rfl sh_54 (by decide) (s3 h1) (s4 h1) dJ7_fill_53178_13 ?_
    refine st_iinc (y := (x2 + 1)) (by decide) (i := 2) rfl rfl (lc' := [(2, 54), (0, x1), (0, (x2 + 1)), (0, x3)]) rfl dJ7_fill_53178_14 ?_
    refine st_goto 5 (by decide) dJ7_fill_53178_17 ?_
    exact st_locals [(2, 54), (0, x1), (0, (x2 + 1)), (0, x3)] ⟨Or.inr rfl, Or.inr rfl, Or.inr rfl, Or.inr rfl, trivial⟩ (k1 h1)
theorem cn_J7_fill_53178_57 {d : Nat} {P : mmM → Prop} {mem : mmM} {x1 : Int} (h : mmT bJ7_fill_53178 d 0 0 (mQv P) 0 [(2, 57), (0, x1), (9, 0), (9, 0)] [] mS mem) : conv bJ7_fill_53178 d [(2, 57), (0, x1)] mem P := mmC_of [(2, 57), (0, x1), (9, 0), (9, 0)] ok_J7_fill_53178.2.2.2.2 rfl (Nat.le_of_ble_eq_true rfl) h
theorem bk_J7_fill_53178_57_0 {d : Nat} {P : mmM → Prop} {mem : mmM} {x1 : Int}
  (k1 : mmT bJ7_fill_53178 d 0 0 (mQv P) 5 [(2, 57), (0, x1), (0, 0), (0, 24)] [] mS mem)
  : mmT bJ7_fill_53178 d 0 0 (mQv P) 0 [(2, 57), (0, x1), (9, 0), (9, 0)] [] mS mem := by
  refine st_iconst dJ7_fill_53178_0 ?_
  refine st_istore_n (i := 2) rfl (by decide) (lc' := [(2, 57), (0, x1), (0, 0), (9, 0)]) rfl dJ7_fill_53178_1 ?_
  refine st_aload_n (i := 0) rfl (t := 0) rfl (by decide) dJ7_fill_53178_2 ?_
  refine so_alen (v := 24) 57 rfl sh_57 (by decide) rfl dJ7_fill_53178_3 ?_
  refine st_istore_n (i := 3) rfl (by decide) (lc' := [(2, 57), (0, x1), (0, 0), (0, 24)]) rfl dJ7_fill_53178_4 ?_
  exact st_locals [(2, 57), (0, x1), (0, 0), (0, 24)] ⟨Or.inr rfl, Or.inr rfl, Or.inr rfl, Or.inr rfl, trivial⟩ k1
theorem bk_J7_fill_53178_57_5 {d : Nat} {P : mmM → Prop} {mem : mmM} {x1 x2 x3 : Int}
  (k1 : x2 < x3 → mmT bJ7_fill_53178 d 0 0 (mQv P) 5 [(2, 57), (0, x1), (0, (x2 + 1)), (0, x3)] [] mS (mset mem 57 x2 x1))
  (q1 : x3 ≤ x2 → P mem)
  (s1 : R32 x2 := by intros; omega)
  (s2 : R32 x3 := by intros; omega)
  (s3 : x2 < x3 → 0 ≤ x2 ∧ x2 < 24 := by intros; omega)
  (s4 : x2 < x3 → R32 x1 := by intros; omega)
  : mmT bJ7_fill_53178 d 0 0 (mQv P) 5 [(2, 57), (0, x1), (0, x2), (0, x3)] [] mS mem := by
  refine st_iload_n (i := 2) rfl rfl dJ7_fill_53178_5 ?_
  refine st_iload_n (i := 3) rfl rfl dJ7_fill_53178_6 ?_
  refine sr_icmp_ge 20 s1 s2 (by decide) dJ7_fill_53178_7 (fun h1 => ?_) (fun h1 => ?_)
  · have h1 : x3 ≤ x2 := by omega
    exact st_return rfl dJ7_fill_53178_20 (mQv.ret (q1 h1))
  · have h1 : x2 < x3 := by omega
    refine st_aload_n (i := 0) rfl (t := 0) rfl (by decide) dJ7_fill_53178_10 ?_
    refine st_iload_n (i := 2) rfl rfl dJ7_fill_53178_11 ?_
    refine st_iload_n (i := 1) rfl rfl dJ7_fill_53178_12 ?_
    refine so_iast 57 fr_57 rfl sh_57 (by decide) (s3 h1) (s4 h1) dJ7_fill_53178_13 ?_
    refine st_iinc (y := (x2 + 1)) (by decide) (i := 2) rfl rfl (lc' := [(2, 57), (0, x1), (0, (x2 + 1)), (0, x3)]) rfl dJ7_fill_53178_14 ?_
    refine st_goto 5 (by decide) dJ7_fill_53178_17 ?_
    exact st_locals [(2, 57), (0, x1), (0, (x2 + 1)), (0, x3)] ⟨Or.inr rfl, Or.inr rfl, Or.inr rfl, Or.inr rfl, trivial⟩ (k1 h1)
theorem cn_J7_fill_d0a16_61 {d : Nat} {P : mmM → Prop} {mem : mmM} {x1 : Int} (h : mmT bJ7_fill_d0a16 d 0 0 (mQv P) 0 [(2, 61), (1, x1), (9, 0), (9, 0), (9, 0)] [] mS mem) : conv bJ7_fill_d0a16 d [(2, 61), (1, x1)] mem P := mmC_of [(2, 61), (1, x1), (9, 0), (9, 0), (9, 0)] ok_J7_fill_d0a16.2.2.2.2 rfl (Nat.le_of_ble_eq_true rfl) h
theorem bk_J7_fill_d0a16_61_0 {d : Nat} {P : mmM → Prop} {mem : mmM} {x1 : Int}
  (k1 : mmT bJ7_fill_d0a16 d 0 0 (mQv P) 6 [(2, 61), (1, x1), (9, 0), (0, 0), (0, 24)] [] mS mem)
  : mmT bJ7_fill_d0a16 d 0 0 (mQv P) 0 [(2, 61), (1, x1), (9, 0), (9, 0), (9, 0)] [] mS mem := by
  refine st_iconst dJ7_fill_d0a16_0 ?_
  refine st_istore_n (i := 3) rfl (by decide) (lc' := [(2, 61), (1, x1), (9, 0), (0, 0), (9, 0)]) rfl dJ7_fill_d0a16_1 ?_
  refine st_aload_n (i := 0) rfl (t := 0) rfl (by decide) dJ7_fill_d0a16_2 ?_
  refine so_alen (v := 24) 61 rfl sh_61 (by decide) rfl dJ7_fill_d0a16_3 ?_
  refine st_istore (by decide) (lc' := [(2, 61), (1, x1), (9, 0), (0, 0), (0, 24)]) rfl dJ7_fill_d0a16_4 ?_
  exact st_locals [(2, 61), (1, x1), (9, 0), (0, 0), (0, 24)] ⟨Or.inr rfl, Or.inr rfl, Or.inl rfl, Or.inr rfl, Or.inr rfl, trivial⟩ k1
theorem bk_J7_fill_d0a16_61_6 {d : Nat} {P : mmM → Prop} {mem : mmM} {x1 x3 x4 : Int}
  (k1 : x3 < x4 → mmT bJ7_fill_d0a16 d 0 0 (mQv P) 6 [(2, 61), (1, x1), (9, 0), (0, (x3 + 1)), (0, x4)] [] mS (mset mem 61 x3 x1))
  (q1 : x4 ≤ x3 → P mem)
  (s1 : R32 x3 := by intros; omega)
  (s2 : R32 x4 := by intros; omega)
  (s3 : x3 < x4 → 0 ≤ x3 ∧ x3 < 24 := by intros; omega)
  (s4 : x3 < x4 → R64 x1 := by intros; omega)
  : mmT bJ7_fill_d0a16 d 0 0 (mQv P) 6 [(2, 61), (1, x1), (9, 0), (0, x3), (0, x4)] [] mS mem := by
  refine st_iload_n (i := 3) rfl rfl dJ7_fill_d0a16_6 ?_
  refine st_iload rfl dJ7_fill_d0a16_7 ?_
  refine sr_icmp_ge 22 s1 s2 (by decide) dJ7_fill_d0a16_9 (fun h1 => ?_) (fun h1 => ?_)
  · have h1 : x4 ≤ x3 := by omega
    exact st_return rfl dJ7_fill_d0a16_22 (mQv.ret (q1 h1))
  · have h1 : x3 < x4 := by omega
    refine st_aload_n (i := 0) rfl (t := 0) rfl (by decide) dJ7_fill_d0a16_12 ?_
    refine st_iload_n (i := 3) rfl rfl dJ7_fill_d0a16_13 ?_
    refine st_lload_n (i := 1) rfl rfl dJ7_fill_d0a16_14 ?_
    refine so_last 61 fr_61 rfl sh_61 (by decide) (s3 h1) (s4 h1) dJ7_fill_d0a16_15 ?_
    refine st_iinc (y := (x3 + 1)) (by decide) (i := 3) rfl rfl (lc' := [(2, 61), (1, x1), (9, 0), (0, (x3 + 1)), (0, x4)]) rfl dJ7_fill_d0a16_16 ?_
    refine st_goto 6 (by decide) dJ7_fill_d0a16_19 ?_
    exact st_locals [(2, 61), (1, x1), (9, 0), (0, (x3 + 1)), (0, x4)] ⟨Or.inr rfl, Or.inr rfl, Or.inl rfl, Or.inr rfl, Or.inr rfl, trivial⟩ (k1 h1)
theorem cn_J7_fill_d0a16_62 {d : Nat} {P : mmM → Prop} {mem : mmM} {x1 : Int} (h : mmT bJ7_fill_d0a16 d 0 0 (mQv P) 0 [(2, 62), (1, x1), (9, 0), (9, 0), (9, 0)] [] mS mem) : conv bJ7_fill_d0a16 d [(2, 62), (1, x1)] mem P := mmC_of [(2, 62), (1, x1), (9, 0), (9, 0), (9, 0)] ok_J7_fill_d0a16.2.2.2.2 rfl (Nat.le_of_ble_eq_true rfl) h
theorem bk_J7_fill_d0a16_62_0 {d : Nat} {P : mmM → Prop} {mem : mmM} {x1 : Int}
  (k1 : mmT bJ7_fill_d0a16 d 0 0 (mQv P) 6 [(2, 62), (1, x1), (9, 0), (0, 0), (0, 24)] [] mS mem)
  : mmT bJ7_fill_d0a16 d 0 0 (mQv P) 0 [(2, 62), (1, x1), (9, 0), (9, 0), (9, 0)] [] mS mem := by
  refine st_iconst dJ7_fill_d0a16_0 ?_
  refine st_istore_n (i := 3) rfl (by decide) (lc' := [(2, 62), (1, x1), (9, 0), (0, 0), (9, 0)]) rfl dJ7_fill_d0a16_1 ?_
  refine st_aload_n (i := 0) rfl (t := 0) rfl (by decide) dJ7_fill_d0a16_2 ?_
  refine so_alen (v := 24) 62 rfl sh_62 (by decide) rfl dJ7_fill_d0a16_3 ?_
  refine st_istore (by decide) (lc' := [(2, 62), (1, x1), (9, 0), (0, 0), (0, 24)]) rfl dJ7_fill_d0a16_4 ?_
  exact st_locals [(2, 62), (1, x1), (9, 0), (0, 0), (0, 24)] ⟨Or.inr rfl, Or.inr rfl, Or.inl rfl, Or.inr rfl, Or.inr rfl, trivial⟩ k1
theorem bk_J7_fill_d0a16_62_6 {d : Nat} {P : mmM → Prop} {mem : mmM} {x1 x3 x4 : Int}
  (k1 : x3 < x4 → mmT bJ7_fill_d0a16 d 0 0 (mQv P) 6 [(2, 62), (1, x1), (9, 0), (0, (x3 + 1)), (0, x4)] [] mS (mset mem 62 x3 x1))
  (q1 : x4 ≤ x3 → P mem)
  (s1 : R32 x3 := by intros; omega)
  (s2 : R32 x4 := by intros; omega)
  (s3 : x3 < x4 → 0 ≤ x3 ∧ x3 < 24 := by intros; omega)
  (s4 : x3 < x4 → R64 x1 := by intros; omega)
  : mmT bJ7_fill_d0a16 d 0 0 (mQv P) 6 [(2, 62), (1, x1), (9, 0), (0, x3), (0, x4)] [] mS mem := by
  refine st_iload_n (i := 3) rfl rfl dJ7_fill_d0a16_6 ?_
  refine st_iload rfl dJ7_fill_d0a16_7 ?_
  refine sr_icmp_ge 22 s1 s2 (by decide) dJ7_fill_d0a16_9 (fun h1 => ?_) (fun h1 => ?_)
  · have h1 : x4 ≤ x3 := by omega
    exact st_return rfl dJ7_fill_d0a16_22 (mQv.ret (q1 h1))
  · have h1 : x3 < x4 := by omega
    refine st_aload_n (i := 0) rfl (t := 0) rfl (by decide) dJ7_fill_d0a16_12 ?_
    refine st_iload_n (i := 3) rfl rfl dJ7_fill_d0a16_13 ?_
    refine st_lload_n (i := 1) rfl rfl dJ7_fill_d0a16_14 ?_
    refine so_last 62 fr_62 rfl sh_62 (by decide) (s3 h1) (s4 h1) dJ7_fill_d0a16_15 ?_
    refine st_iinc (y := (x3 + 1)) (by decide) (i := 3) rfl rfl (lc' := [(2, 62), (1, x1), (9, 0), (0, (x3 + 1)), (0, x4)]) rfl dJ7_fill_d0a16_16 ?_
    refine st_goto 6 (by decide) dJ7_fill_d0a16_19 ?_
    exact st_locals [(2, 62), (1, x1), (9, 0), (0, (x3 + 1)), (0, x4)] ⟨Or.inr rfl, Or.inr rfl, Or.inl rfl, Or.inr rfl, Or.inr rfl, trivial⟩ (k1 h1)
theorem cn_J7_fill_d0a16_63 {d : Nat} {P : mmM → Prop} {mem : mmM} {x1 : Int} (h : mmT bJ7_fill_d0a16 d 0 0 (mQv P) 0 [(2, 63), (1, x1), (9, 0), (9, 0), (9, 0)] [] mS mem) : conv bJ7_fill_d0a16 d [(2, 63), (1, x1)] mem P := mmC_of [(2, 63), (1, x1), (9, 0), (9, 0), (9, 0)] ok_J7_fill_d0a16.2.2.2.2 rfl (Nat.le_of_ble_eq_true rfl) h
theorem bk_J7_fill_d0a16_63_0 {d : Nat} {P : mmM → Prop} {mem : mmM} {x1 : Int}
  (k1 : mmT bJ7_fill_d0a16 d 0 0 (mQv P) 6 [(2, 63), (1, x1), (9, 0), (0, 0), (0, 24)] [] mS mem)
  : mmT bJ7_fill_d0a16 d 0 0 (mQv P) 0 [(2, 63), (1, x1), (9, 0), (9, 0), (9, 0)] [] mS mem := by
  refine st_iconst dJ7_fill_d0a16_0 ?_
  refine st_istore_n (i := 3) rfl (by decide) (lc' := [(2, 63), (1, x1), (9, 0), (0, 0), (9, 0)]) rfl dJ7_fill_d0a16_1 ?_
  refine st_aload_n (i := 0) rfl (t := 0) rfl (by decide) dJ7_fill_d0a16_2 ?_
  refine so_alen (v := 24) 63 rfl sh_63 (by decide) rfl dJ7_fill_d0a16_3 ?_
  refine st_istore (by decide) (lc' := [(2, 63), (1, x1), (9, 0), (0, 0), (0, 24)]) rfl dJ7_fill_d0a16_4 ?_
  exact st_locals [(2, 63), (1, x1), (9, 0), (0, 0), (0, 24)] ⟨Or.inr rfl, Or.inr rfl, Or.inl rfl, Or.inr rfl, Or.inr rfl, trivial⟩ k1
theorem bk_J7_fill_d0a16_63_6 {d : Nat} {P : mmM → Prop} {mem : mmM} {x1 x3 x4 : Int}
  (k1 : x3 < x4 → mmT bJ7_fill_d0a16 d 0 0 (mQv P) 6 [(2, 63), (1, x1), (9, 0), (0, (x3 + 1)), (0, x4)] [] mS (mset mem 63 x3 x1))
  (q1 : x4 ≤ x3 → P mem)
  (s1 : R32 x3 := by intros; omega)
  (s2 : R32 x4 := by intros; omega)
  (s3 : x3 < x4 → 0 ≤ x3 ∧ x3 < 24 := by intros; omega)
  (s4 : x3 < x4 → R64 x1 := by intros; omega)
  : mmT bJ7_fill_d0a16 d 0 0 (mQv P) 6 [(2, 63), (1, x1), (9, 0), (0, x3), (0, x4)] [] mS mem := by
  refine st_iload_n (i := 3) rfl rfl dJ7_fill_d0a16_6 ?_
  refine st_iload rfl dJ7_fill_d0a16_7 ?_
  refine sr_icmp_ge 22 s1 s2 (by decide) dJ7_fill_d0a16_9 (fun h1 => ?_) (fun h1 => ?_)
  · have h1 : x4 ≤ x3 := by omega
    exact st_return rfl dJ7_fill_d0a16_22 (mQv.ret (q1 h1))
  · have h1 : x3 < x4 := by omega
    refine st_aload_n (i := 0) rfl (t := 0) rfl (by decide) dJ7_fill_d0a16_12 ?_
    refine st_iload_n (i := 3) rfl rfl dJ7_fill_d0a16_13 ?_
    refine st_lload_n (i := 1) rfl rfl dJ7_fill_d0a16_14 ?_
    refine so_last 63 fr_63 rfl sh_63 (by decide) (s3 h1) (s4 h1) dJ7_fill_d0a16_15 ?_
    refine st_iinc (y := (x3 + 1)) (by decide) (i := 3) rfl rfl (lc' := [(2, 63), (1, x1), (9, 0), (0, (x3 + 1)), (0, x4)]) rfl dJ7_fill_d0a16_16 ?_
    refine st_goto 6 (by decide) dJ7_fill_d0a16_19 ?_
    exact st_locals [(2, 63), (1, x1), (9, 0), (0, (x3 + 1)), (0, x4)] ⟨Or.inr rfl, Or.inr rfl, Or.inl rfl, Or.inr rfl, Or.inr rfl, trivial⟩ (k1 h1)
theorem cn_J7_fill_d0a16_64 {d : Nat} {P : mmM → Prop} {mem : mmM} {x1 : Int} (h : mmT bJ7_fill_d0a16 d 0 0 (mQv P) 0 [(2, 64), (1, x1), (9, 0), (9, 0), (9, 0)] [] mS mem) : conv bJ7_fill_d0a16 d [(2, 64), (1, x1)] mem P := mmC_of [(2, 64), (1, x1), (9, 0), (9, 0), (9, 0)] ok_J7_fill_d0a16.2.2.2.2 rfl (Nat.le_of_ble_eq_true rfl) h
theorem bk_J7_fill_d0a16_64_0 {d : Nat} {P : mmM → Prop} {mem : mmM} {x1 : Int}
  (k1 : mmT bJ7_fill_d0a16 d 0 0 (mQv P) 6 [(2, 64), (1, x1), (9, 0), (0, 0), (0, 24)] [] mS mem)
  : mmT bJ7_fill_d0a16 d 0 0 (mQv P) 0 [(2, 64), (1, x1), (9, 0), (9, 0), (9, 0)] [] mS mem := by
  refine st_iconst dJ7_fill_d0a16_0 ?_
  refine st_istore_n (i := 3) rfl (by decide) (lc' := [(2, 64), (1, x1), (9, 0), (0, 0), (9, 0)]) rfl dJ7_fill_d0a16_1 ?_
  refine st_aload_n (i := 0) rfl (t := 0) rfl (by decide) dJ7_fill_d0a16_2 ?_
  refine so_alen (v := 24) 64 rfl sh_64 (by decide) rfl dJ7_fill_d0a16_3 ?_
  refine st_istore (by decide) (lc' := [(2, 64), (1, x1), (9, 0), (0, 0), (0, 24)]) rfl dJ7_fill_d0a16_4 ?_
  exact st_locals [(2, 64), (1, x1), (9, 0), (0, 0), (0, 24)] ⟨Or.inr rfl, Or.inr rfl, Or.inl rfl, Or.inr rfl, Or.inr rfl, trivial⟩ k1
theorem bk_J7_fill_d0a16_64_6 {d : Nat} {P : mmM → Prop} {mem : mmM} {x1 x3 x4 : Int}
  (k1 : x3 < x4 → mmT bJ7_fill_d0a16 d 0 0 (mQv P) 6 [(2, 64), (1, x1), (9, 0), (0, (x3 + 1)), (0, x4)] [] mS (mset mem 64 x3 x1))
  (q1 : x4 ≤ x3 → P mem)
  (s1 : R32 x3 := by intros; omega)
  (s2 : R32 x4 := by intros; omega)
  (s3 : x3 < x4 → 0 ≤ x3 ∧ x3 < 24 := by intros; omega)
  (s4 : x3 < x4 → R64 x1 := by intros; omega)
  : mmT bJ7_fill_d0a16 d 0 0 (mQv P) 6 [(2, 64), (1, x1), (9, 0), (0, x3), (0, x4)] [] mS mem := by
  refine st_iload_n (i := 3) rfl rfl dJ7_fill_d0a16_6 ?_
  refine st_iload rfl dJ7_fill_d0a16_7 ?_
  refine sr_icmp_ge 22 s1 s2 (by decide) dJ7_fill_d0a16_9 (fun h1 => ?_) (fun h1 => ?_)
  · have h1 : x4 ≤ x3 := by omega
    exact st_return rfl dJ7_fill_d0a16_22 (mQv.ret (q1 h1))
  · have h1 : x3 < x4 := by omega
    refine st_aload_n (i := 0) rfl (t := 0) rfl (by decide) dJ7_fill_d0a16_12 ?_
    refine st_iload_n (i := 3) rfl rfl dJ7_fill_d0a16_13 ?_
    refine st_lload_n (i := 1) rfl rfl dJ7_fill_d0a16_14 ?_
    refine so_last 64 fr_64 rfl sh_64 (by decide) (s3 h1) (s4 h1) dJ7_fill_d0a16_15 ?_
    refine st_iinc (y := (x3 + 1)) (by decide) (i := 3) rfl rfl (lc' := [(2, 64), (1, x1), (9, 0), (0, (x3 + 1)), (0, x4)]) rfl dJ7_fill_d0a16_16 ?_
    refine st_goto 6 (by decide) dJ7_fill_d0a16_19 ?_
    exact st_locals [(2, 64), (1, x1), (9, 0), (0, (x3 + 1)), (0, x4)] ⟨Or.inr rfl, Or.inr rfl, Or.inl rfl, Or.inr rfl, Or.inr rfl, trivial⟩ (k1 h1)
theorem cn_J6_bitCount_0f7a4 {d : Nat} {P : Int → mmM → Prop} {mem : mmM} {x0 : Int} (h : mmT bJ6_bitCount_0f7a4 d 0 0 (mQ 0 P) 0 [(0, x0)] [] mS mem) : con 0 bJ6_bitCount_0f7a4 d [(0, x0)] mem P := mmC_of [(0, x0)] ok_J6_bitCount_0f7a4.2.2.2.2 rfl (Nat.le_of_ble_eq_true rfl) h
theorem bk_J6_bitCount_0f7a4_0 {d : Nat} {P : Int → mmM → Prop} {mem : mmM} {x0 : Int}
  (q1 : P (and32 (((and32 (((and32 (x0 - (and32 (ushr32 x0 1) 1431655765)) 858993459) + (and32 (ushr32 (x0 - (and32 (ushr32 x0 1) 1431655765)) 2) 858993459)) + (ushr32 ((and32 (x0 - (and32 (ushr32 x0 1) 1431655765)) 858993459) + (and32 (ushr32 (x0 - (and32 (ushr32 x0 1) 1431655765)) 2) 858993459)) 4)) 252645135) + (ushr32 (and32 (((and32 (x0 - (and32 (ushr32 x0 1) 1431655765)) 858993459) + (and32 (ushr32 (x0 - (and32 (ushr32 x0 1) 1431655765)) 2) 858993459)) + (ushr32 ((and32 (x0 - (and32 (ushr32 x0 1) 1431655765)) 858993459) + (and32 (ushr32 (x0 - (and32 (ushr32 x0 1) 1431655765)) 2) 858993459)) 4)) 252645135) 8)) + (ushr32 ((and32 (((and32 (x0 - (and32 (ushr32 x0 1) 1431655765)) 858993459) + (and32 (ushr32 (x0 - (and32 (ushr32 x0 1) 1431655765)) 2) 858993459)) + (ushr32 ((and32 (x0 - (and32 (ushr32 x0 1) 1431655765)) 858993459) + (and32 (ushr32 (x0 - (and32 (ushr32 x0 1) 1431655765)) 2) 858993459)) 4)) 252645135) + (ushr32 (and32 (((and32 (x0 - (and32 (ushr32 x0 1) 1431655765)) 858993459) + (and32 (ushr32 (x0 - (and32 (ushr32 x0 1) 1431655765)) 2) 858993459)) + (ushr32 ((and32 (x0 - (and32 (ushr32 x0 1) 1431655765)) 858993459) + (and32 (ushr32 (x0 - (and32 (ushr32 x0 1) 1431655765)) 2) 858993459)) 4)) 252645135) 8)) 16)) 63) mem)
  : mmT bJ6_bitCount_0f7a4 d 0 0 (mQ 0 P) 0 [(0, x0)] [] mS mem := by
  refine st_iload_n (i := 0) rfl rfl dJ6_bitCount_0f7a4_0 ?_
  refine st_iload_n (i := 0) rfl rfl dJ6_bitCount_0f7a4_1 ?_
  refine st_iconst dJ6_bitCount_0f7a4_2 ?_
  refine st_iushr dJ6_bitCount_0f7a4_3 ?_
  refine st_ldcw cw_J6_265 dJ6_bitCount_0f7a4_4 ?_
  refine st_iand dJ6_bitCount_0f7a4_7 ?_
  refine st_isub dJ6_bitCount_0f7a4_8 ?_
  refine st_istore_n (i := 0) rfl (by decide) (lc' := [(0, (x0 - (and32 (ushr32 x0 1) 1431655765)))]) rfl dJ6_bitCount_0f7a4_9 ?_
  refine st_iload_n (i := 0) rfl rfl dJ6_bitCount_0f7a4_10 ?_
  refine st_ldcw cw_J6_266 dJ6_bitCount_0f7a4_11 ?_
  refine st_iand dJ6_bitCount_0f7a4_14 ?_
  refine st_iload_n (i := 0) rfl rfl dJ6_bitCount_0f7a4_15 ?_
  refine st_iconst dJ6_bitCount_0f7a4_16 ?_
  refine st_iushr dJ6_bitCount_0f7a4_17 ?_
  refine st_ldcw cw_J6_266 dJ6_bitCount_0f7a4_18 ?_
  refine st_iand dJ6_bitCount_0f7a4_21 ?_
  refine st_iadd dJ6_bitCount_0f7a4_22 ?_
  refine st_istore_n (i := 0) rfl (by decide) (lc' := [(0, ((and32 (x0 - (and32 (ushr32 x0 1) 1431655765)) 858993459) + (and32 (ushr32 (x0 - (and32 (ushr32 x0 1) 1431655765)) 2) 858993459)))]) rfl dJ6_bitCount_0f7a4_23 ?_
  refine st_iload_n (i := 0) rfl rfl dJ6_bitCount_0f7a4_24 ?_
  refine st_iload_n (i := 0) rfl rfl dJ6_bitCount_0f7a4_25 ?_
  refine st_iconst dJ6_bitCount_0f7a4_26 ?_
  refine st_iushr dJ6_bitCount_0f7a4_27 ?_
  refine st_iadd dJ6_bitCount_0f7a4_28 ?_
  refine st_ldcw cw_J6_267 dJ6_bitCount_0f7a4_29 ?_
  refine st_iand dJ6_bitCount_0f7a4_32 ?_
  refine st_istore_n (i := 0) rfl (by decide) (lc' := [(0, (and32 (((and32 (x0 - (and32 (ushr32 x0 1) 1431655765)) 858993459) + (and32 (ushr32 (x0 - (and32 (ushr32 x0 1) 1431655765)) 2) 858993459)) + (ushr32 ((and32 (x0 - (and32 (ushr32 x0 1) 1431655765)) 858993459) + (and32 (ushr32 (x0 - (and32 (ushr32 x0 1) 1431655765)) 2) 858993459)) 4)) 252645135))]) rfl dJ6_bitCount_0f7a4_33 ?_
  refine st_iload_n (i := 0) rfl rfl dJ6_bitCount_0f7a4_34 ?_
  refine st_iload_n (i := 0) rfl rfl dJ6_bitCount_0f7a4_35 ?_
  refine st_bipush rfl dJ6_bitCount_0f7a4_36 ?_
  refine st_iushr dJ6_bitCount_0f7a4_38 ?_
  refine st_iadd dJ6_bitCount_0f7a4_39 ?_
  refine st_istore_n (i := 0) rfl (by decide) (lc' := [(0, ((and32 (((and32 (x0 - (and32 (ushr32 x0 1) 1431655765)) 858993459) + (and32 (ushr32 (x0 - (and32 (ushr32 x0 1) 1431655765)) 2) 858993459)) + (ushr32 ((and32 (x0 - (and32 (ushr32 x0 1) 1431655765)) 858993459) + (and32 (ushr32 (x0 - (and32 (ushr32 x0 1) 1431655765)) 2) 858993459)) 4)) 252645135) + (ushr32 (and32 (((and32 (x0 - (and32 (ushr32 x0 1) 1431655765)) 858993459) + (and32 (ushr32 (x0 - (and32 (ushr32 x0 1) 1431655765)) 2) 858993459)) + (ushr32 ((and32 (x0 - (and32 (ushr32 x0 1) 1431655765)) 858993459) + (and32 (ushr32 (x0 - (and32 (ushr32 x0 1) 1431655765)) 2) 858993459)) 4)) 252645135) 8)))]) rfl dJ6_bitCount_0f7a4_40 ?_
  refine st_iload_n (i := 0) rfl rfl dJ6_bitCount_0f7a4_41 ?_
  refine st_iload_n (i := 0) rfl rfl dJ6_bitCount_0f7a4_42 ?_
  refine st_bipush rfl dJ6_bitCount_0f7a4_43 ?_
  refine st_iushr dJ6_bitCount_0f7a4_45 ?_
  refine st_iadd dJ6_bitCount_0f7a4_46 ?_
  refine st_istore_n (i := 0) rfl (by decide) (lc' := [(0, (((and32 (((and32 (x0 - (and32 (ushr32 x0 1) 1431655765)) 858993459) + (and32 (ushr32 (x0 - (and32 (ushr32 x0 1) 1431655765)) 2) 858993459)) + (ushr32 ((and32 (x0 - (and32 (ushr32 x0 1) 1431655765)) 858993459) + (and32 (ushr32 (x0 - (and32 (ushr32 x0 1) 1431655765)) 2) 858993459)) 4)) 252645135) + (ushr32 (and32 (((and32 (x0 - (and32 (ushr32 x0 1) 1431655765)) 858993459) + (and32 (ushr32 (x0 - (and32 (ushr32 x0 1) 1431655765)) 2) 858993459)) + (ushr32 ((and32 (x0 - (and32 (ushr32 x0 1) 1431655765)) 858993459) + (and32 (ushr32 (x0 - (and32 (ushr32 x0 1) 1431655765)) 2) 858993459)) 4)) 252645135) 8)) + (ushr32 ((and32 (((and32 (x0 - (and32 (ushr32 x0 1) 1431655765)) 858993459) + (and32 (ushr32 (x0 - (and32 (ushr32 x0 1) 1431655765)) 2) 858993459)) + (ushr32 ((and32 (x0 - (and32 (ushr32 x0 1) 1431655765)) 858993459) + (and32 (ushr32 (x0 - (and32 (ushr32 x0 1) 1431655765)) 2) 858993459)) 4)) 252645135) + (ushr32 (and32 (((and32 (x0 - (and32 (ushr32 x0 1) 1431655765)) 858993459) + (and32 (ushr32 (x0 - (and32 (ushr32 x0 1) 1431655765)) 2) 858993459)) + (ushr32 ((and32 (x0 - (and32 (ushr32 x0 1) 1431655765)) 858993459) + (and32 (ushr32 (x0 - (and32 (ushr32 x0 1) 1431655765)) 2) 858993459)) 4)) 252645135) 8)) 16)))]) rfl dJ6_bitCount_0f7a4_47 ?_
  refine st_iload_n (i := 0) rfl rfl dJ6_bitCount_0f7a4_48 ?_
  refine st_bipush rfl dJ6_bitCount_0f7a4_49 ?_
  refine st_iand dJ6_bitCount_0f7a4_51 ?_
  exact st_ireturn rfl dJ6_bitCount_0f7a4_52 (mQ.ret q1)
/-- Integer.bitCount as it reckons -/
def bcS (x0 : Int) : Int := (and32 (((and32 (((and32 (x0 - (and32 (ushr32 x0 1) 1431655765)) 858993459) + (and32 (ushr32 (x0 - (and32 (ushr32 x0 1) 1431655765)) 2) 858993459)) + (ushr32 ((and32 (x0 - (and32 (ushr32 x0 1) 1431655765)) 858993459) + (and32 (ushr32 (x0 - (and32 (ushr32 x0 1) 1431655765)) 2) 858993459)) 4)) 252645135) + (ushr32 (and32 (((and32 (x0 - (and32 (ushr32 x0 1) 1431655765)) 858993459) + (and32 (ushr32 (x0 - (and32 (ushr32 x0 1) 1431655765)) 2) 858993459)) + (ushr32 ((and32 (x0 - (and32 (ushr32 x0 1) 1431655765)) 858993459) + (and32 (ushr32 (x0 - (and32 (ushr32 x0 1) 1431655765)) 2) 858993459)) 4)) 252645135) 8)) + (ushr32 ((and32 (((and32 (x0 - (and32 (ushr32 x0 1) 1431655765)) 858993459) + (and32 (ushr32 (x0 - (and32 (ushr32 x0 1) 1431655765)) 2) 858993459)) + (ushr32 ((and32 (x0 - (and32 (ushr32 x0 1) 1431655765)) 858993459) + (and32 (ushr32 (x0 - (and32 (ushr32 x0 1) 1431655765)) 2) 858993459)) 4)) 252645135) + (ushr32 (and32 (((and32 (x0 - (and32 (ushr32 x0 1) 1431655765)) 858993459) + (and32 (ushr32 (x0 - (and32 (ushr32 x0 1) 1431655765)) 2) 858993459)) + (ushr32 ((and32 (x0 - (and32 (ushr32 x0 1) 1431655765)) 858993459) + (and32 (ushr32 (x0 - (and32 (ushr32 x0 1) 1431655765)) 2) 858993459)) 4)) 252645135) 8)) 16)) 63)
theorem bcS_rng (x : Int) : R32 (bcS x) := and32_rng _ _
theorem c_bitCount (mem : mmM) (x0 : Int) : con 0 bJ6_bitCount_0f7a4 1 [(0, x0)] mem (fun v m => v = bcS x0 ∧ m = mem) :=
  cn_J6_bitCount_0f7a4 (bk_J6_bitCount_0f7a4_0 ⟨rfl, rfl⟩)
theorem c_fill37 (mem : mmM) (x1 : Int) (h : R32 x1) : conv bJ7_fill_53178 1 [(2, 37), (0, x1)] mem (fun m' => m' = mrow mem 37 (fun j => if 0 ≤ j ∧ j < 8 then x1 else mem 37 j)) := by
  refine cn_J7_fill_53178_37 (bk_J7_fill_53178_37_0 ?_)
  have key : ∀ (k : Nat) (i : Int) (m : mmM), k = (8 - i).toNat → 0 ≤ i → i ≤ 8 → m = mrow mem 37 (fun j => if 0 ≤ j ∧ j < i then x1 else mem 37 j) → mmT bJ7_fill_53178 1 0 0 (mQv (fun m' => m' = mrow mem 37 (fun j => if 0 ≤ j ∧ j < 8 then x1 else mem 37 j))) 5 [(2, 37), (0, x1), (0, i), (0, 8)] [] mS m := by
    intro k
    induction k using Nat.strongRecOn with
    | _ k ih =>
      intro i m hk h0 h1 hm
      refine bk_J7_fill_53178_37_5 (fun g => ih _ ?_ (i + 1) _ rfl (by omega) (by omega) ?_) (fun g => ?_)
      · omega
      · subst hm
        funext a j
        simp only [mset, mrow]
        by_cases ha : a = 37
        · subst ha
          by_cases hj : j = i
          · subst hj
            rw [if_pos ⟨rfl, rfl⟩, if_pos rfl, if_pos (by omega)]
          · rw [if_neg (by omega), if_pos rfl, if_pos rfl]
            by_cases q : 0 ≤ j ∧ j < i
            · rw [if_pos q, if_pos (by omega)]
            · rw [if_neg q, if_neg (by omega)]
        · rw [if_neg (by omega), if_neg ha, if_neg ha]
      · subst hm
        have e : i = 8 := by omega
        subst e
        rfl
  refine key _ 0 mem rfl (by omega) (by omega) ?_
  funext a j
  simp only [mrow]
  by_cases ha : a = 37
  · subst ha
    rw [if_pos rfl, if_neg (by omega)]
  · rw [if_neg ha]
theorem c_fill48 (mem : mmM) (x1 : Int) (h : R32 x1) : conv bJ7_fill_53178 1 [(2, 48), (0, x1)] mem (fun m' => m' = mrow mem 48 (fun j => if 0 ≤ j ∧ j < 24 then x1 else mem 48 j)) := by
  refine cn_J7_fill_53178_48 (bk_J7_fill_53178_48_0 ?_)
  have key : ∀ (k : Nat) (i : Int) (m : mmM), k = (24 - i).toNat → 0 ≤ i → i ≤ 24 → m = mrow mem 48 (fun j => if 0 ≤ j ∧ j < i then x1 else mem 48 j) → mmT bJ7_fill_53178 1 0 0 (mQv (fun m' => m' = mrow mem 48 (fun j => if 0 ≤ j ∧ j < 24 then x1 else mem 48 j))) 5 [(2, 48), (0, x1), (0, i), (0, 24)] [] mS m := by
    intro k
    induction k using Nat.strongRecOn with
    | _ k ih =>
      intro i m hk h0 h1 hm
      refine bk_J7_fill_53178_48_5 (fun g => ih _ ?_ (i + 1) _ rfl (by omega) (by omega) ?_) (fun g => ?_)
      · omega
      · subst hm
        funext a j
        simp only [mset, mrow]
        by_cases ha : a = 48
        · subst ha
          by_cases hj : j = i
          · subst hj
            rw [if_pos ⟨rfl, rfl⟩, if_pos rfl, if_pos (by omega)]
          · rw [if_neg (by omega), if_pos rfl, if_pos rfl]
            by_cases q : 0 ≤ j ∧ j < i
            · rw [if_pos q, if_pos (by omega)]
            · rw [if_neg q, if_neg (by omega)]
        · rw [if_neg (by omega), if_neg ha, if_neg ha]
      · subst hm
        have e : i = 24 := by omega
        subst e
        rfl
  refine key _ 0 mem rfl (by omega) (by omega) ?_
  funext a j
  simp only [mrow]
  by_cases ha : a = 48
  · subst ha
    rw [if_pos rfl, if_neg (by omega)]
  · rw [if_neg ha]
theorem c_fill54 (mem : mmM) (x1 : Int) (h : R32 x1) : conv bJ7_fill_53178 1 [(2, 54), (0, x1)] mem (fun m' => m' = mrow mem 54 (fun j => if 0 ≤ j ∧ j < 24 then x1 else mem 54 j)) := by
  refine cn_J7_fill_53178_54 (bk_J7_fill_53178_54_0 ?_)
  have key : ∀ (k : Nat) (i : Int) (m : mmM), k = (24 - i).toNat → 0 ≤ i → i ≤ 24 → m = mrow mem 54 (fun j => if 0 ≤ j ∧ j < i then x1 else mem 54 j) → mmT bJ7_fill_53178 1 0 0 (mQv (fun m' => m' = mrow mem 54 (fun j => if 0 ≤ j ∧ j < 24 then x1 else mem 54 j))) 5 [(2, 54), (0, x1), (0, i), (0, 24)] [] mS m := by
    intro k
    induction k using Nat.strongRecOn with
    | _ k ih =>
      intro i m hk h0 h1 hm
      refine bk_J7_fill_53178_54_5 (fun g => ih _ ?_ (i + 1) _ rfl (by omega) (by omega) ?_) (fun g => ?_)
      · omega
      · subst hm
        funext a j
        simp only [mset, mrow]
        by_cases ha : a = 54
        · subst ha
          by_cases hj : j = i
          · subst hj
            rw [if_pos ⟨rfl, rfl⟩, if_pos rfl, if_pos (by omega)]
          · rw [if_neg (by omega), if_pos rfl, if_pos rfl]
            by_cases q : 0 ≤ j ∧ j < i
            · rw [if_pos q, if_pos (by omega)]
            · rw [if_neg q, if_neg (by omega)]
        · rw [if_neg (by omega), if_neg ha, if_neg ha]
      · subst hm
        have e : i = 24 := by omega
        subst e
        rfl
  refine key _ 0 mem rfl (by omega) (by omega) ?_
  funext a j
  simp only [mrow]
  by_cases ha : a = 54
  · subst ha
    rw [if_pos rfl, if_neg (by omega)]
  · rw [if_neg ha]
theorem c_fill57 (mem : mmM) (x1 : Int) (h : R32 x1) : conv bJ7_fill_53178 1 [(2, 57), (0, x1)] mem (fun m' => m' = mrow mem 57 (fun j => if 0 ≤ j ∧ j < 24 then x1 else mem 57 j)) := by
  refine cn_J7_fill_53178_57 (bk_J7_fill_53178_57_0 ?_)
  have key : ∀ (k : Nat) (i : Int) (m : mmM), k = (24 - i).toNat → 0 ≤ i → i ≤ 24 → m = mrow mem 57 (fun j => if 0 ≤ j ∧ j < i then x1 else mem 57 j) → mmT bJ7_fill_53178 1 0 0 (mQv (fun m' => m' = mrow mem 57 (fun j => if 0 ≤ j ∧ j < 24 then x1 else mem 57 j))) 5 [(2, 57), (0, x1), (0, i), (0, 24)] [] mS m := by
    intro k
    induction k using Nat.strongRecOn with
    | _ k ih =>
      intro i m hk h0 h1 hm
      refine bk_J7_fill_53178_57_5 (fun g => ih _ ?_ (i + 1) _ rfl (by omega) (by omega) ?_) (fun g => ?_)
      · omega
      · subst hm
        funext a j
        simp only [mset, mrow]
        by_cases ha : a = 57
        · subst ha
          by_cases hj : j = i
          · subst hj
            rw [if_pos ⟨rfl, rfl⟩, if_pos rfl, if_pos (by omega)]
          · rw [if_neg (by omega), if_pos rfl, if_pos rfl]
            by_cases q : 0 ≤ j ∧ j < i
            · rw [if_pos q, if_pos (by omega)]
            · rw [if_neg q, if_neg (by omega)]
        · rw [if_neg (by omega), if_neg ha, if_neg ha]
      · subst hm
        have e : i = 24 := by omega
        subst e
        rfl
  refine key _ 0 mem rfl (by omega) (by omega) ?_
  funext a j
  simp only [mrow]
  by_cases ha : a = 57
  · subst ha
    rw [if_pos rfl, if_neg (by omega)]
  · rw [if_neg ha]
theorem c_fill61 (mem : mmM) (x1 : Int) (h : R64 x1) : conv bJ7_fill_d0a16 1 [(2, 61), (1, x1)] mem (fun m' => m' = mrow mem 61 (fun j => if 0 ≤ j ∧ j < 24 then x1 else mem 61 j)) := by
  refine cn_J7_fill_d0a16_61 (bk_J7_fill_d0a16_61_0 ?_)
  have key : ∀ (k : Nat) (i : Int) (m : mmM), k = (24 - i).toNat → 0 ≤ i → i ≤ 24 → m = mrow mem 61 (fun j => if 0 ≤ j ∧ j < i then x1 else mem 61 j) → mmT bJ7_fill_d0a16 1 0 0 (mQv (fun m' => m' = mrow mem 61 (fun j => if 0 ≤ j ∧ j < 24 then x1 else mem 61 j))) 6 [(2, 61), (1, x1), (9, 0), (0, i), (0, 24)] [] mS m := by
    intro k
    induction k using Nat.strongRecOn with
    | _ k ih =>
      intro i m hk h0 h1 hm
      refine bk_J7_fill_d0a16_61_6 (fun g => ih _ ?_ (i + 1) _ rfl (by omega) (by omega) ?_) (fun g => ?_)
      · omega
      · subst hm
        funext a j
        simp only [mset, mrow]
        by_cases ha : a = 61
        · subst ha
          by_cases hj : j = i
          · subst hj
            rw [if_pos ⟨rfl, rfl⟩, if_pos rfl, if_pos (by omega)]
          · rw [if_neg (by omega), if_pos rfl, if_pos rfl]
            by_cases q : 0 ≤ j ∧ j < i
            · rw [if_pos q, if_pos (by omega)]
            · rw [if_neg q, if_neg (by omega)]
        · rw [if_neg (by omega), if_neg ha, if_neg ha]
      · subst hm
        have e : i = 24 := by omega
        subst e
        rfl
  refine key _ 0 mem rfl (by omega) (by omega) ?_
  funext a j
  simp only [mrow]
  by_cases ha : a = 61
  · subst ha
    rw [if_pos rfl, if_neg (by omega)]
  · rw [if_neg ha]
theorem c_fill62 (mem : mmM) (x1 : Int) (h : R64 x1) : conv bJ7_fill_d0a16 1 [(2, 62), (1, x1)] mem (fun m' => m' = mrow mem 62 (fun j => if 0 ≤ j ∧ j < 24 then x1 else mem 62 j)) := by
  refine cn_J7_fill_d0a16_62 (bk_J7_fill_d0a16_62_0 ?_)
  have key : ∀ (k : Nat) (i : Int) (m : mmM), k = (24 - i).toNat → 0 ≤ i → i ≤ 24 → m = mrow mem 62 (fun j => if 0 ≤ j ∧ j < i then x1 else mem 62 j) → mmT bJ7_fill_d0a16 1 0 0 (mQv (fun m' => m' = mrow mem 62 (fun j => if 0 ≤ j ∧ j < 24 then x1 else mem 62 j))) 6 [(2, 62), (1, x1), (9, 0), (0, i), (0, 24)] [] mS m := by
    intro k
    induction k using Nat.strongRecOn with
    | _ k ih =>
      intro i m hk h0 h1 hm
      refine bk_J7_fill_d0a16_62_6 (fun g => ih _ ?_ (i + 1) _ rfl (by omega) (by omega) ?_) (fun g => ?_)
      · omega
      · subst hm
        funext a j
        simp only [mset, mrow]
        by_cases ha : a = 62
        · subst ha
          by_cases hj : j = i
          · subst hj
            rw [if_pos ⟨rfl, rfl⟩, if_pos rfl, if_pos (by omega)]
          · rw [if_neg (by omega), if_pos rfl, if_pos rfl]
            by_cases q : 0 ≤ j ∧ j < i
            · rw [if_pos q, if_pos (by omega)]
            · rw [if_neg q, if_neg (by omega)]
        · rw [if_neg (by omega), if_neg ha, if_neg ha]
      · subst hm
        have e : i = 24 := by omega
        subst e
        rfl
  refine key _ 0 mem rfl (by omega) (by omega) ?_
  funext a j
  simp only [mrow]
  by_cases ha : a = 62
  · subst ha
    rw [if_pos rfl, if_neg (by omega)]
  · rw [if_neg ha]
theorem c_fill63 (mem : mmM) (x1 : Int) (h : R64 x1) : conv bJ7_fill_d0a16 1 [(2, 63), (1, x1)] mem (fun m' => m' = mrow mem 63 (fun j => if 0 ≤ j ∧ j < 24 then x1 else mem 63 j)) := by
  refine cn_J7_fill_d0a16_63 (bk_J7_fill_d0a16_63_0 ?_)
  have key : ∀ (k : Nat) (i : Int) (m : mmM), k = (24 - i).toNat → 0 ≤ i → i ≤ 24 → m = mrow mem 63 (fun j => if 0 ≤ j ∧ j < i then x1 else mem 63 j) → mmT bJ7_fill_d0a16 1 0 0 (mQv (fun m' => m' = mrow mem 63 (fun j => if 0 ≤ j ∧ j < 24 then x1 else mem 63 j))) 6 [(2, 63), (1, x1), (9, 0), (0, i), (0, 24)] [] mS m := by
    intro k
    induction k using Nat.strongRecOn with
    | _ k ih =>
      intro i m hk h0 h1 hm
      refine bk_J7_fill_d0a16_63_6 (fun g => ih _ ?_ (i + 1) _ rfl (by omega) (by omega) ?_) (fun g => ?_)
      · omega
      · subst hm
        funext a j
        simp only [mset, mrow]
        by_cases ha : a = 63
        · subst ha
          by_cases hj : j = i
          · subst hj
            rw [if_pos ⟨rfl, rfl⟩, if_pos rfl, if_pos (by omega)]
          · rw [if_neg (by omega), if_pos rfl, if_pos rfl]
            by_cases q : 0 ≤ j ∧ j < i
            · rw [if_pos q, if_pos (by omega)]
            · rw [if_neg q, if_neg (by omega)]
        · rw [if_neg (by omega), if_neg ha, if_neg ha]
      · subst hm
        have e : i = 24 := by omega
        subst e
        rfl
  refine key _ 0 mem rfl (by omega) (by omega) ?_
  funext a j
  simp only [mrow]
  by_cases ha : a = 63
  · subst ha
    rw [if_pos rfl, if_neg (by omega)]
  · rw [if_neg ha]
theorem c_fill64 (mem : mmM) (x1 : Int) (h : R64 x1) : conv bJ7_fill_d0a16 1 [(2, 64), (1, x1)] mem (fun m' => m' = mrow mem 64 (fun j => if 0 ≤ j ∧ j < 24 then x1 else mem 64 j)) := by
  refine cn_J7_fill_d0a16_64 (bk_J7_fill_d0a16_64_0 ?_)
  have key : ∀ (k : Nat) (i : Int) (m : mmM), k = (24 - i).toNat → 0 ≤ i → i ≤ 24 → m = mrow mem 64 (fun j => if 0 ≤ j ∧ j < i then x1 else mem 64 j) → mmT bJ7_fill_d0a16 1 0 0 (mQv (fun m' => m' = mrow mem 64 (fun j => if 0 ≤ j ∧ j < 24 then x1 else mem 64 j))) 6 [(2, 64), (1, x1), (9, 0), (0, i), (0, 24)] [] mS m := by
    intro k
    induction k using Nat.strongRecOn with
    | _ k ih =>
      intro i m hk h0 h1 hm
      refine bk_J7_fill_d0a16_64_6 (fun g => ih _ ?_ (i + 1) _ rfl (by omega) (by omega) ?_) (fun g => ?_)
      · omega
      · subst hm
        funext a j
        simp only [mset, mrow]
        by_cases ha : a = 64
        · subst ha
          by_cases hj : j = i
          · subst hj
            rw [if_pos ⟨rfl, rfl⟩, if_pos rfl, if_pos (by omega)]
          · rw [if_neg (by omega), if_pos rfl, if_pos rfl]
            by_cases q : 0 ≤ j ∧ j < i
            · rw [if_pos q, if_pos (by omega)]
            · rw [if_neg q, if_neg (by omega)]
        · rw [if_neg (by omega), if_neg ha, if_neg ha]
      · subst hm
        have e : i = 24 := by omega
        subst e
        rfl
  refine key _ 0 mem rfl (by omega) (by omega) ?_
  funext a j
  simp only [mrow]
  by_cases ha : a = 64
  · subst ha
    rw [if_pos rfl, if_neg (by omega)]
  · rw [if_neg ha]
