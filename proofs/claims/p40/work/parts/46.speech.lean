/-! a speech, and the speeches, of a book's text: C the byte at a place, S the next place that is no blank -/
def spS (C S : Int → Int) (j : Int) : Int ⊕ (Int × Int × Int × Int) :=
  if ¬ (65 ≤ C (S j) ∧ C (S j) ≤ 72) then .inl (S j)
  else if ¬ (97 ≤ C (S (S j + 1)) ∧ C (S (S j + 1)) ≤ 122) then .inl (S (S j + 1))
  else if ¬ digC (C (S (S (S j + 1) + 1))) then .inr (S (S (S j + 1) + 1), C (S j) - 65, C (S (S j + 1)) - 97, 5)
  else if (numS C 2 (S (S (S j + 1) + 1))).1 = -1 then .inl (numS C 2 (S (S (S j + 1) + 1))).2
  else if (numS C 2 (S (S (S j + 1) + 1))).1 < 1 then .inl ((numS C 2 (S (S (S j + 1) + 1))).2 - 1)
  else .inr ((numS C 2 (S (S (S j + 1) + 1))).2, C (S j) - 65, C (S (S j + 1)) - 97, (numS C 2 (S (S (S j + 1) + 1))).1)
theorem cuX_comm (mem : mmM) (j : Int) {a : Nat} (k v : Int) (h : a ≠ 1) : mset (cuX mem j) a k v = cuX (mset mem a k v) j := by
  funext b i
  show mset (mset mem 1 2 j) a k v b i = mset (mset mem a k v) 1 2 j b i
  simp only [mset]
  by_cases q : b = a ∧ i = k
  · rw [if_pos q, if_neg (fun z => h (q.1.symm.trans z.1)), if_pos q]
  · rw [if_neg q]
    by_cases p : b = 1 ∧ i = 2
    · rw [if_pos p, if_pos p]
    · rw [if_neg p, if_neg p, if_neg q]
theorem CX_of {m mem : mmM} (h1 : m 1 1 = mem 1 1) (h2 : m 2 = mem 2) : CX m = CX mem := by
  show chT _ _ = chT _ _
  rw [h1, h2]
theorem SX_of {m mem : mmM} (h1 : m 1 1 = mem 1 1) (h2 : m 2 = mem 2) : SX m = SX mem := by
  show skT _ _ = skT _ _
  rw [h1, h2]
theorem bytX_of {m mem : mmM} (h1 : m 1 1 = mem 1 1) (h2 : m 2 = mem 2) (hb : bytX mem) : bytX m := by
  unfold bytX
  rw [h1, h2]
  exact hb
theorem cuX_id (mem : mmM) : cuX mem (mem 1 2) = mem := mset_id mem 1 2
theorem SX_ge (mem : mmM) (j : Int) : j ≤ SX mem j := skT_ge _ _ _
theorem SX_le {mem : mmM} {j : Int} (h : j ≤ mem 1 1) : SX mem j ≤ mem 1 1 := skT_le h
theorem CX_lt {mem : mmM} {j : Int} (h : 0 < CX mem j) : j < mem 1 1 := chT_in h
/-- what reading a book leaves alone -/
def rdFr (mem m : mmM) : Prop := (∀ a, a ≠ 1 → a ≠ 3 → a ≠ 4 → a ≠ 5 → a ≠ 6 → a ≠ 7 → m a = mem a) ∧ (∀ j, j ≠ 2 → m 1 j = mem 1 j)
theorem rdFr_refl (mem : mmM) : rdFr mem mem := ⟨fun _ _ _ _ _ _ _ => rfl, fun _ _ => rfl⟩
theorem rdFr_trans {a b c : mmM} (h : rdFr a b) (h' : rdFr b c) : rdFr a c := ⟨fun x x1 x2 x3 x4 x5 x6 => (h'.1 x x1 x2 x3 x4 x5 x6).trans (h.1 x x1 x2 x3 x4 x5 x6), fun j hj => (h'.2 j hj).trans (h.2 j hj)⟩
theorem rdFr_cu (mem : mmM) (j : Int) : rdFr mem (cuX mem j) := ⟨fun _ x1 _ _ _ _ _ => cuX_ne mem j x1, fun i hi => by
  show mset mem 1 2 j 1 i = _
  rw [mset_at, if_neg hi]⟩
theorem rdFr_mset (mem : mmM) {a : Nat} (k v : Int) (h : a = 3 ∨ a = 4 ∨ a = 5 ∨ a = 6 ∨ a = 7) : rdFr mem (mset mem a k v) := ⟨fun _ _ _ _ _ _ _ => mset_ne (by omega), fun _ _ => by rw [mset_ne (by omega)]⟩
theorem cn_X0_readLength {d : Nat} {P : Int → mmM → Prop} {mem : mmM} {x1 : Int} (h : mmT bX0_readLength d 0 0 (mQ 0 P) 0 [(2, 3), (0, x1), (9, 0)] [] mS mem) : con 0 bX0_readLength d [(2, 3), (0, x1)] mem P := mmC_of [(2, 3), (0, x1), (9, 0)] ok_X0_readLength.2.2.2.2 rfl (Nat.le_of_ble_eq_true rfl) h
theorem bk_X0_readLength_0 {d : Nat} {d1 : Nat} {P1 : Int → mmM → Prop} {d2 : Nat} {P2 : Int → mmM → Prop} {P : Int → mmM → Prop} {mem : mmM} {x1 : Int}
  (c1 : con 0 bX9_number d1 [(2, 1), (0, 2)] mem P1)
  (c2 : ∀ (v1 : Int), ∀ (m1 : mmM), P1 v1 m1 → ¬ v1 = (-1) → v1 < 1 → con 0 bX9_refuseNumber d2 [(2, 1)] m1 P2)
  (q1 : ∀ (v1 : Int), ∀ (m1 : mmM), P1 v1 m1 → ¬ v1 = (-1) → 1 ≤ v1 → P 1 (mset m1 6 x1 v1))
  (q2 : ∀ (v1 : Int), ∀ (m1 : mmM), P1 v1 m1 → ¬ v1 = (-1) → v1 < 1 → ∀ (v2 : Int), ∀ (m2 : mmM), P2 v2 m2 → P v2 m2)
  (q3 : ∀ (v1 : Int), ∀ (m1 : mmM), P1 v1 m1 → v1 = (-1) → P 0 m1)
  (hd_d1 : d1 + 1 ≤ d := by omega)
  (hd_d2 : d2 + 1 ≤ d := by omega)
  (s1 : ∀ (v1 : Int), ∀ (m1 : mmM), P1 v1 m1 → R32 v1 := by intros; first | omega | assumption | solve_by_elim)
  (s2 : ∀ (v1 : Int), ∀ (m1 : mmM), P1 v1 m1 → ¬ v1 = (-1) → 1 ≤ v1 → 0 ≤ x1 ∧ x1 < 24 := by intros; first | omega | assumption | solve_by_elim)
  (s3 : ∀ (v1 : Int), ∀ (m1 : mmM), P1 v1 m1 → ¬ v1 = (-1) → v1 < 1 → ∀ (v2 : Int), ∀ (m2 : mmM), P2 v2 m2 → v2 = 0 ∨ v2 = 1 := by intros; first | omega | assumption | solve_by_elim)
  : mmT bX0_readLength d 0 0 (mQ 0 P) 0 [(2, 3), (0, x1), (9, 0)] [] mS mem := by
  refine st_aload_n (i := 0) rfl (t := 0) rfl (by decide) dX0_readLength_0 ?_
  refine so_getA 3 0 fr_X0_25_0 rfl sh_3 fx_3_0 dX0_readLength_1 ?_
  refine st_iconst dX0_readLength_4 ?_
  refine st_callV (kc2 := 0) (ks2 := 0) (av := [(0, 2)]) 1 9 mr_X0_62 ok_X9_number c1 rfl sh_1 ⟨_, rfl, rfl, by decide⟩ rfl rfl hd_d1 (Nat.le_refl 0) (Nat.le_refl 0) (Nat.le_of_ble_eq_true rfl) dX0_readLength_5 (mQ.elim fun v1 m1 p1 => ?_)
  refine st_istore_n (i := 2) rfl (by decide) (lc' := [(2, 3), (0, x1), (0, v1)]) rfl dX0_readLength_8 ?_
  refine st_iload_n (i := 2) rfl rfl dX0_readLength_9 ?_
  refine st_iconst dX0_readLength_10 ?_
  refine sr_icmp_ne 16 (s1 v1 m1 p1) ⟨by decide, by decide⟩ (by decide) dX0_readLength_11 (fun h1 => ?_) (fun h1 => ?_)
  · have h1 : ¬ v1 = (-1) := by omega
    refine st_iload_n (i := 2) rfl rfl dX0_readLength_16 ?_
    refine st_iconst dX0_readLength_17 ?_
    refine sr_icmp_ge 29 (s1 v1 m1 p1) ⟨by decide, by decide⟩ (by decide) dX0_readLength_18 (fun h2 => ?_) (fun h2 => ?_)
    · have h2 : 1 ≤ v1 := by omega
      refine st_aload_n (i := 0) rfl (t := 0) rfl (by decide) dX0_readLength_29 ?_
      refine so_getA 3 3 fr_X0_18_0 rfl sh_3 fx_3_3 dX0_readLength_30 ?_
      refine st_iload_n (i := 1) rfl rfl dX0_readLength_33 ?_
      refine st_iload_n (i := 2) rfl rfl dX0_readLength_34 ?_
      refine so_iast 6 fr_6 rfl sh_6 (by decide) (s2 v1 m1 p1 h1 h2) (s1 v1 m1 p1) dX0_readLength_35 ?_
      refine st_iconst dX0_readLength_36 ?_
      exact st_zreturn rfl (by decide) dX0_readLength_37 (mQ.ret (q1 v1 m1 p1 h1 h2))
    · have h2 : v1 < 1 := by omega
      refine st_aload_n (i := 0) rfl (t := 0) rfl (by decide) dX0_readLength_21 ?_
      refine so_getA 3 0 fr_X0_25_0 rfl sh_3 fx_3_0 dX0_readLength_22 ?_
      refine st_callV (kc2 := 0) (ks2 := 0) (av := []) 1 9 mr_X0_66 ok_X9_refuseNumber (c2 v1 m1 p1 h1 h2) rfl sh_1 ⟨_, rfl, rfl, by decide⟩ rfl rfl hd_d2 (Nat.le_refl 0) (Nat.le_refl 0) (Nat.le_of_ble_eq_true rfl) dX0_readLength_25 (mQ.elim fun v2 m2 p2 => ?_)
      exact st_zreturn rfl (s3 v1 m1 p1 h1 h2 v2 m2 p2) dX0_readLength_28 (mQ.ret (q2 v1 m1 p1 h1 h2 v2 m2 p2))
  · have h1 : v1 = (-1) := by omega
    refine st_iconst dX0_readLength_14 ?_
    exact st_zreturn rfl (by decide) dX0_readLength_15 (mQ.ret (q3 v1 m1 p1 h1))
def lenX (mem : mmM) (i : Int) (r : Int × Int) (v : Int) (m : mmM) : Prop := (r.1 = -1 ∧ v = 0 ∧ m = cuX mem r.2) ∨ (¬ r.1 = -1 ∧ r.1 < 1 ∧ v = 0 ∧ m = cuX mem (r.2 - 1)) ∨ (¬ r.1 = -1 ∧ 1 ≤ r.1 ∧ v = 1 ∧ m = cuX (mset mem 6 i r.1) r.2)
theorem c_X0_readLength (mem : mmM) (hb : bytX mem) {i j : Int} (i0 : 0 ≤ i) (i1 : i < 24) (h0 : 0 ≤ j) (h1 : j ≤ mem 1 1) : con 0 bX0_readLength 3 [(2, 3), (0, i)] (cuX mem j) (lenX mem i (numS (CX mem) 2 j)) := by
  have nb := numS_bnd (C := CX mem) (n := mem 1 1) (fun i h => CX_lt h) 2 j h1
  have nt := num2_top (CX mem) j
  have hn := hb.1
  refine cn_X0_readLength (bk_X0_readLength_0 (d1 := 2) (d2 := 0) (P1 := fun v m => v = (numS (CX mem) 2 j).1 ∧ m = cuX mem (numS (CX mem) 2 j).2) (P2 := fun v m => v = 0 ∧ m = cuX mem ((numS (CX mem) 2 j).2 - 1)) (s_number mem hb (k := 2) h0 h1 ⟨by omega, by omega⟩) ?_ ?_ ?_ ?_ (s1 := ?_) (s2 := ?_) (s3 := ?_))
  · rintro v m ⟨rfl, rfl⟩ _ _
    exact s_refuse mem (by omega) (by omega)
  · rintro v m ⟨rfl, rfl⟩ g g2
    refine Or.inr (Or.inr ⟨g, g2, rfl, cuX_comm _ _ _ _ (by decide)⟩)
  · rintro v m ⟨rfl, rfl⟩ g g2 v2 m2 ⟨rfl, rfl⟩
    exact Or.inr (Or.inl ⟨g, g2, rfl, rfl⟩)
  · rintro v m ⟨rfl, rfl⟩ g
    exact Or.inl ⟨g, rfl, rfl⟩
  · rintro v m ⟨rfl, rfl⟩
    exact ⟨by omega, by omega⟩
  · rintro v m ⟨rfl, rfl⟩ _ _
    exact ⟨i0, i1⟩
  · rintro v m ⟨rfl, rfl⟩ _ _ v2 m2 ⟨rfl, rfl⟩
    exact Or.inl rfl
theorem cn_X0_readSpeech {d : Nat} {P : Int → mmM → Prop} {mem : mmM} {x1 : Int} (h : mmT bX0_readSpeech d 0 0 (mQ 0 P) 0 [(2, 3), (0, x1), (9, 0), (9, 0)] [] mS mem) : con 0 bX0_readSpeech d [(2, 3), (0, x1)] mem P := mmC_of [(2, 3), (0, x1), (9, 0), (9, 0)] ok_X0_readSpeech.2.2.2.2 rfl (Nat.le_of_ble_eq_true rfl) h
theorem bk_X0_readSpeech_0 {d : Nat} {d1 : Nat} {P1 : Int → mmM → Prop} {d2 : Nat} {P2 : Int → mmM → Prop} {d3 : Nat} {P3 : Int → mmM → Prop} {d4 : Nat} {P4 : Int → mmM → Prop} {P : Int → mmM → Prop} {mem : mmM} {x1 : Int}
  (c1 : con 0 bX9_sign d1 [(2, 1)] mem P1)
  (c2 : ∀ (v1 : Int), ∀ (m1 : mmM), P1 v1 m1 → 65 ≤ v1 → v1 ≤ 72 → con 0 bX9_sign d2 [(2, 1)] (mset m1 1 2 ((m1 1 2) + 1)) P2)
  (c3 : ∀ (v1 : Int), ∀ (m1 : mmM), P1 v1 m1 → 65 ≤ v1 → v1 ≤ 72 → ∀ (v2 : Int), ∀ (m2 : mmM), P2 v2 m2 → 97 ≤ v2 → v2 ≤ 122 → 0 ≤ x1 → x1 < 24 → con 0 bX9_sign d3 [(2, 1)] (mset (mset (mset (mset m2 1 2 ((m2 1 2) + 1)) 4 x1 (v1 - 65)) 5 x1 (v2 - 97)) 6 x1 5) P3)
  (c4 : ∀ (v1 : Int), ∀ (m1 : mmM), P1 v1 m1 → 65 ≤ v1 → v1 ≤ 72 → ∀ (v2 : Int), ∀ (m2 : mmM), P2 v2 m2 → 97 ≤ v2 → v2 ≤ 122 → 0 ≤ x1 → x1 < 24 → ∀ (v3 : Int), ∀ (m3 : mmM), P3 v3 m3 → (48 ≤ v3 ∧ v3 ≤ 57) → con 0 bX0_readLength d4 [(2, 3), (0, x1)] m3 P4)
  (q1 : ∀ (v1 : Int), ∀ (m1 : mmM), P1 v1 m1 → v1 < 65 → P 0 m1)
  (q2 : ∀ (v1 : Int), ∀ (m1 : mmM), P1 v1 m1 → 65 ≤ v1 → v1 ≤ 72 → ∀ (v2 : Int), ∀ (m2 : mmM), P2 v2 m2 → v2 < 97 → P 0 m2)
  (q3 : ∀ (v1 : Int), ∀ (m1 : mmM), P1 v1 m1 → 65 ≤ v1 → v1 ≤ 72 → ∀ (v2 : Int), ∀ (m2 : mmM), P2 v2 m2 → 97 ≤ v2 → v2 ≤ 122 → x1 < 0 → P 0 (mset m2 1 2 ((m2 1 2) + 1)))
  (q4 : ∀ (v1 : Int), ∀ (m1 : mmM), P1 v1 m1 → 65 ≤ v1 → v1 ≤ 72 → ∀ (v2 : Int), ∀ (m2 : mmM), P2 v2 m2 → 97 ≤ v2 → v2 ≤ 122 → 0 ≤ x1 → x1 < 24 → ∀ (v3 : Int), ∀ (m3 : mmM), P3 v3 m3 → ¬ (48 ≤ v3 ∧ v3 ≤ 57) → P 1 m3)
  (q5 : ∀ (v1 : Int), ∀ (m1 : mmM), P1 v1 m1 → 65 ≤ v1 → v1 ≤ 72 → ∀ (v2 : Int), ∀ (m2 : mmM), P2 v2 m2 → 97 ≤ v2 → v2 ≤ 122 → 0 ≤ x1 → x1 < 24 → ∀ (v3 : Int), ∀ (m3 : mmM), P3 v3 m3 → (48 ≤ v3 ∧ v3 ≤ 57) → ∀ (v5 : Int), ∀ (m5 : mmM), P4 v5 m5 → v5 = 0 → P 0 m5)
  (q6 : ∀ (v1 : Int), ∀ (m1 : mmM), P1 v1 m1 → 65 ≤ v1 → v1 ≤ 72 → ∀ (v2 : Int), ∀ (m2 : mmM), P2 v2 m2 → 97 ≤ v2 → v2 ≤ 122 → 0 ≤ x1 → x1 < 24 → ∀ (v3 : Int), ∀ (m3 : mmM), P3 v3 m3 → (48 ≤ v3 ∧ v3 ≤ 57) → ∀ (v5 : Int), ∀ (m5 : mmM), P4 v5 m5 → ¬ v5 = 0 → P 1 m5)
  (q7 : ∀ (v1 : Int), ∀ (m1 : mmM), P1 v1 m1 → 65 ≤ v1 → v1 ≤ 72 → ∀ (v2 : Int), ∀ (m2 : mmM), P2 v2 m2 → 97 ≤ v2 → v2 ≤ 122 → 0 ≤ x1 → 24 ≤ x1 → P 0 (mset m2 1 2 ((m2 1 2) + 1)))
  (q8 : ∀ (v1 : Int), ∀ (m1 : mmM), P1 v1 m1 → 65 ≤ v1 → v1 ≤ 72 → ∀ (v2 : Int), ∀ (m2 : mmM), P2 v2 m2 → 97 ≤ v2 → 122 < v2 → P 0 m2)
  (q9 : ∀ (v1 : Int), ∀ (m1 : mmM), P1 v1 m1 → 65 ≤ v1 → 72 < v1 → P 0 m1)
  (hd_d1 : d1 + 1 ≤ d := by omega)
  (hd_d2 : d2 + 1 ≤ d := by omega)
  (hd_d3 : d3 + 1 ≤ d := by omega)
  (hd_d4 : d4 + 1 ≤ d := by omega)
  (hd2 : 2 ≤ d := by omega)
  (s1 : ∀ (v1 : Int), ∀ (m1 : mmM), P1 v1 m1 → R32 v1 := by intros; first | omega | assumption | solve_by_elim)
  (s2 : ∀ (v1 : Int), ∀ (m1 : mmM), P1 v1 m1 → 65 ≤ v1 → v1 ≤ 72 → R32 ((m1 1 2) + 1) := by intros; first | omega | assumption | solve_by_elim)
  (s3 : ∀ (v1 : Int), ∀ (m1 : mmM), P1 v1 m1 → 65 ≤ v1 → v1 ≤ 72 → ∀ (v2 : Int), ∀ (m2 : mmM), P2 v2 m2 → R32 v2 := by intros; first | omega | assumption | solve_by_elim)
  (s4 : ∀ (v1 : Int), ∀ (m1 : mmM), P1 v1 m1 → 65 ≤ v1 → v1 ≤ 72 → ∀ (v2 : Int), ∀ (m2 : mmM), P2 v2 m2 → 97 ≤ v2 → v2 ≤ 122 → R32 ((m2 1 2) + 1) := by intros; first | omega | assumption | solve_by_elim)
  (s5 : ∀ (v1 : Int), ∀ (m1 : mmM), P1 v1 m1 → 65 ≤ v1 → v1 ≤ 72 → ∀ (v2 : Int), ∀ (m2 : mmM), P2 v2 m2 → 97 ≤ v2 → v2 ≤ 122 → R32 x1 := by intros; first | omega | assumption | solve_by_elim)
  (s6 : ∀ (v1 : Int), ∀ (m1 : mmM), P1 v1 m1 → 65 ≤ v1 → v1 ≤ 72 → ∀ (v2 : Int), ∀ (m2 : mmM), P2 v2 m2 → 97 ≤ v2 → v2 ≤ 122 → 0 ≤ x1 → x1 < 24 → 0 ≤ x1 ∧ x1 < 24 := by intros; first | omega | assumption | solve_by_elim)
  (s7 : ∀ (v1 : Int), ∀ (m1 : mmM), P1 v1 m1 → 65 ≤ v1 → v1 ≤ 72 → ∀ (v2 : Int), ∀ (m2 : mmM), P2 v2 m2 → 97 ≤ v2 → v2 ≤ 122 → 0 ≤ x1 → x1 < 24 → R32 (v1 - 65) := by intros; first | omega | assumption | solve_by_elim)
  (s8 : ∀ (v1 : Int), ∀ (m1 : mmM), P1 v1 m1 → 65 ≤ v1 → v1 ≤ 72 → ∀ (v2 : Int), ∀ (m2 : mmM), P2 v2 m2 → 97 ≤ v2 → v2 ≤ 122 → 0 ≤ x1 → x1 < 24 → R32 (v2 - 97) := by intros; first | omega | assumption | solve_by_elim)
  (s9 : ∀ (v1 : Int), ∀ (m1 : mmM), P1 v1 m1 → 65 ≤ v1 → v1 ≤ 72 → ∀ (v2 : Int), ∀ (m2 : mmM), P2 v2 m2 → 97 ≤ v2 → v2 ≤ 122 → 0 ≤ x1 → x1 < 24 → ∀ (v3 : Int), ∀ (m3 : mmM), P3 v3 m3 → R32 v3 := by intros; first | omega | assumption | solve_by_elim)
  (s10 : ∀ (v1 : Int), ∀ (m1 : mmM), P1 v1 m1 → 65 ≤ v1 → v1 ≤ 72 → ∀ (v2 : Int), ∀ (m2 : mmM), P2 v2 m2 → 97 ≤ v2 → v2 ≤ 122 → 0 ≤ x1 → x1 < 24 → ∀ (v3 : Int), ∀ (m3 : mmM), P3 v3 m3 → (48 ≤ v3 ∧ v3 ≤ 57) → ∀ (v5 : Int), ∀ (m5 : mmM), P4 v5 m5 → R32 v5 := by intros; first | omega | assumption | solve_by_elim)
  : mmT bX0_readSpeech d 0 0 (mQ 0 P) 0 [(2, 3), (0, x1), (9, 0), (9, 0)] [] mS mem := by
  refine st_aload_n (i := 0) rfl (t := 0) rfl (by decide) dX0_readSpeech_0 ?_
  refine so_getA 3 0 fr_X0_25_0 rfl sh_3 fx_3_0 dX0_readSpeech_1 ?_
  refine st_callV (kc2 := 0) (ks2 := 0) (av := []) 1 9 mr_X0_49 ok_X9_sign c1 rfl sh_1 ⟨_, rfl, rfl, by decide⟩ rfl rfl hd_d1 (Nat.le_refl 0) (Nat.le_refl 0) (Nat.le_of_ble_eq_true rfl) dX0_readSpeech_4 (mQ.elim fun v1 m1 p1 => ?_)
  refine st_istore_n (i := 2) rfl (by decide) (lc' := [(2, 3), (0, x1), (0, v1), (9, 0)]) rfl dX0_readSpeech_7 ?_
  refine st_iload_n (i := 2) rfl rfl dX0_readSpeech_8 ?_
  refine st_bipush rfl dX0_readSpeech_9 ?_
  refine sr_icmp_lt 20 (s1 v1 m1 p1) ⟨by decide, by decide⟩ (by decide) dX0_readSpeech_11 (fun h1 => ?_) (fun h1 => ?_)
  · have h1 : v1 < 65 := by omega
    refine st_iconst dX0_readSpeech_20 ?_
    exact st_zreturn rfl (by decide) dX0_readSpeech_21 (mQ.ret (q1 v1 m1 p1 h1))
  · have h1 : 65 ≤ v1 := by omega
    refine st_iload_n (i := 2) rfl rfl dX0_readSpeech_14 ?_
    refine st_bipush rfl dX0_readSpeech_15 ?_
    refine sr_icmp_le 22 (s1 v1 m1 p1) ⟨by decide, by decide⟩ (by decide) dX0_readSpeech_17 (fun h2 => ?_) (fun h2 => ?_)
    · have h2 : v1 ≤ 72 := by omega
      refine st_aload_n (i := 0) rfl (t := 0) rfl (by decide) dX0_readSpeech_22 ?_
      refine so_getA 3 0 fr_X0_25_0 rfl sh_3 fx_3_0 dX0_readSpeech_23 ?_
      refine st_dup (Nat.ne_of_beq_eq_false rfl) dX0_readSpeech_26 ?_
      refine so_getI (v := (m1 1 2)) 1 2 fr_X0_29_9 rfl sh_1 rfl dX0_readSpeech_27 (fun r1 => ?_)
      refine st_iconst dX0_readSpeech_30 ?_
      refine st_iadd dX0_readSpeech_31 ?_
      refine so_putI 1 2 fr_X0_29_9 pf_9_2 fo_1_2 rfl sh_1 (s2 v1 m1 p1 h1 h2) dX0_readSpeech_32 ?_
      refine st_aload_n (i := 0) rfl (t := 0) rfl (by decide) dX0_readSpeech_35 ?_
      refine so_getA 3 0 fr_X0_25_0 rfl sh_3 fx_3_0 dX0_readSpeech_36 ?_
      refine st_callV (kc2 := 0) (ks2 := 0) (av := []) 1 9 mr_X0_49 ok_X9_sign (c2 v1 m1 p1 h1 h2) rfl sh_1 ⟨_, rfl, rfl, by decide⟩ rfl rfl hd_d2 (Nat.le_refl 0) (Nat.le_refl 0) (Nat.le_of_ble_eq_true rfl) dX0_readSpeech_39 (mQ.elim fun v2 m2 p2 => ?_)
      refine st_istore_n (i := 3) rfl (by decide) (lc' := [(2, 3), (0, x1), (0, v1), (0, v2)]) rfl dX0_readSpeech_42 ?_
      refine st_iload_n (i := 3) rfl rfl dX0_readSpeech_43 ?_
      refine st_bipush rfl dX0_readSpeech_44 ?_
      refine sr_icmp_lt 55 (s3 v1 m1 p1 h1 h2 v2 m2 p2) ⟨by decide, by decide⟩ (by decide) dX0_readSpeech_46 (fun h3 => ?_) (fun h3 => ?_)
      · have h3 : v2 < 97 := by omega
        refine st_iconst dX0_readSpeech_55 ?_
        exact st_zreturn rfl (by decide) dX0_readSpeech_56 (mQ.ret (q2 v1 m1 p1 h1 h2 v2 m2 p2 h3))
      · have h3 : 97 ≤ v2 := by omega
        refine st_iload_n (i := 3) rfl rfl dX0_readSpeech_49 ?_
        refine st_bipush rfl dX0_readSpeech_50 ?_
        refine sr_icmp_le 57 (s3 v1 m1 p1 h1 h2 v2 m2 p2) ⟨by decide, by decide⟩ (by decide) dX0_readSpeech_52 (fun h4 => ?_) (fun h4 => ?_)
        · have h4 : v2 ≤ 122 := by omega
          refine st_aload_n (i := 0) rfl (t := 0) rfl (by decide) dX0_readSpeech_57 ?_
          refine so_getA 3 0 fr_X0_25_0 rfl sh_3 fx_3_0 dX0_readSpeech_58 ?_
          refine st_dup (Nat.ne_of_beq_eq_false rfl) dX0_readSpeech_61 ?_
          refine so_getI (v := (m2 1 2)) 1 2 fr_X0_29_9 rfl sh_1 rfl dX0_readSpeech_62 (fun r2 => ?_)
          refine st_iconst dX0_readSpeech_65 ?_
          refine st_iadd dX0_readSpeech_66 ?_
          refine so_putI 1 2 fr_X0_29_9 pf_9_2 fo_1_2 rfl sh_1 (s4 v1 m1 p1 h1 h2 v2 m2 p2 h3 h4) dX0_readSpeech_67 ?_
          refine st_iload_n (i := 1) rfl rfl dX0_readSpeech_70 ?_
          refine sr_if_lt 80 (s5 v1 m1 p1 h1 h2 v2 m2 p2 h3 h4) (by decide) dX0_readSpeech_71 (fun h5 => ?_) (fun h5 => ?_)
          · have h5 : x1 < 0 := by omega
            refine st_iconst dX0_readSpeech_80 ?_
            exact st_zreturn rfl (by decide) dX0_readSpeech_81 (mQ.ret (q3 v1 m1 p1 h1 h2 v2 m2 p2 h3 h4 h5))
          · have h5 : 0 ≤ x1 := by omega
            refine st_iload_n (i := 1) rfl rfl dX0_readSpeech_74 ?_
            refine st_bipush rfl dX0_readSpeech_75 ?_
            refine sr_icmp_lt 82 (s5 v1 m1 p1 h1 h2 v2 m2 p2 h3 h4) ⟨by decide, by decide⟩ (by decide) dX0_readSpeech_77 (fun h6 => ?_) (fun h6 => ?_)
            · have h6 : x1 < 24 := by omega
              refine st_aload_n (i := 0) rfl (t := 0) rfl (by decide) dX0_readSpeech_82 ?_
              refine so_getA 3 1 fr_X0_9_0 rfl sh_3 fx_3_1 dX0_readSpeech_83 ?_
              refine st_iload_n (i := 1) rfl rfl dX0_readSpeech_86 ?_
              refine st_iload_n (i := 2) rfl rfl dX0_readSpeech_87 ?_
              refine st_bipush rfl dX0_readSpeech_88 ?_
              refine st_isub dX0_readSpeech_90 ?_
              refine so_iast 4 fr_4 rfl sh_4 (by decide) (s6 v1 m1 p1 h1 h2 v2 m2 p2 h3 h4 h5 h6) (s7 v1 m1 p1 h1 h2 v2 m2 p2 h3 h4 h5 h6) dX0_readSpeech_91 ?_
              refine st_aload_n (i := 0) rfl (t := 0) rfl (by decide) dX0_readSpeech_92 ?_
              refine so_getA 3 2 fr_X0_15_0 rfl sh_3 fx_3_2 dX0_readSpeech_93 ?_
              refine st_iload_n (i := 1) rfl rfl dX0_readSpeech_96 ?_
              refine st_iload_n (i := 3) rfl rfl dX0_readSpeech_97 ?_
              refine st_bipush rfl dX0_readSpeech_98 ?_
              refine st_isub dX0_readSpeech_100 ?_
              refine so_iast 5 fr_5 rfl sh_5 (by decide) (s6 v1 m1 p1 h1 h2 v2 m2 p2 h3 h4 h5 h6) (s8 v1 m1 p1 h1 h2 v2 m2 p2 h3 h4 h5 h6) dX0_readSpeech_101 ?_
              refine st_aload_n (i := 0) rfl (t := 0) rfl (by decide) dX0_readSpeech_102 ?_
              refine so_getA 3 3 fr_X0_18_0 rfl sh_3 fx_3_3 dX0_readSpeech_103 ?_
              refine st_iload_n (i := 1) rfl rfl dX0_readSpeech_106 ?_
              refine st_iconst dX0_readSpeech_107 ?_
              refine so_iast 6 fr_6 rfl sh_6 (by decide) (s6 v1 m1 p1 h1 h2 v2 m2 p2 h3 h4 h5 h6) ⟨by decide, by decide⟩ dX0_readSpeech_108 ?_
              refine st_aload_n (i := 0) rfl (t := 0) rfl (by decide) dX0_readSpeech_109 ?_
              refine so_getA 3 0 fr_X0_25_0 rfl sh_3 fx_3_0 dX0_readSpeech_110 ?_
              refine st_callV (kc2 := 0) (ks2 := 0) (av := []) 1 9 mr_X0_49 ok_X9_sign (c3 v1 m1 p1 h1 h2 v2 m2 p2 h3 h4 h5 h6) rfl sh_1 ⟨_, rfl, rfl, by decide⟩ rfl rfl hd_d3 (Nat.le_refl 0) (Nat.le_refl 0) (Nat.le_of_ble_eq_true rfl) dX0_readSpeech_113 (mQ.elim fun v3 m3 p3 => ?_)
              refine st_callS (kc2 := 0) (ks2 := 0) (av := [(0, v3)]) mr_X0_56 ok_X9_isDigit (c_X9_isDigit m3 v3 ((s9 v1 m1 p1 h1 h2 v2 m2 p2 h3 h4 h5 h6 v3 m3 p3))) rfl rfl hd2 (Nat.le_refl 0) (Nat.le_refl 0) (Nat.le_of_ble_eq_true rfl) dX0_readSpeech_116 (mQ.elim fun v4 m4 hp => ?_)
              obtain ⟨hpv, hpm⟩ := hp
              subst hpv
              have hpm := hpm.symm
              subst hpm
              refine so_ifeqB 130 (by decide) dX0_readSpeech_119 (fun h7 => ?_) (fun h7 => ?_)
              · have h7 : ¬ (48 ≤ v3 ∧ v3 ≤ 57) := h7
                refine st_iconst dX0_readSpeech_130 ?_
                refine st_goto 135 (by decide) dX0_readSpeech_131 ?_
                exact st_zreturn rfl (by decide) dX0_readSpeech_135 (mQ.ret (q4 v1 m1 p1 h1 h2 v2 m2 p2 h3 h4 h5 h6 v3 m3 p3 h7))
              · have h7 : (48 ≤ v3 ∧ v3 ≤ 57) := h7
                refine st_aload_n (i := 0) rfl (t := 0) rfl (by decide) dX0_readSpeech_122 ?_
                refine st_iload_n (i := 1) rfl rfl dX0_readSpeech_123 ?_
                refine st_callV (kc2 := 0) (ks2 := 0) (av := [(0, x1)]) 3 0 mr_X0_59 ok_X0_readLength (c4 v1 m1 p1 h1 h2 v2 m2 p2 h3 h4 h5 h6 v3 m3 p3 h7) rfl sh_3 ⟨_, rfl, rfl, by decide⟩ rfl rfl hd_d4 (Nat.le_refl 0) (Nat.le_refl 0) (Nat.le_of_ble_eq_true rfl) dX0_readSpeech_124 (mQ.elim fun v5 m5 p4 => ?_)
                refine sr_if_eq 134 (s10 v1 m1 p1 h1 h2 v2 m2 p2 h3 h4 h5 h6 v3 m3 p3 h7 v5 m5 p4) (by decide) dX0_readSpeech_127 (fun h8 => ?_) (fun h8 => ?_)
                · have h8 : v5 = 0 := by omega
                  refine st_iconst dX0_readSpeech_134 ?_
                  exact st_zreturn rfl (by decide) dX0_readSpeech_135 (mQ.ret (q5 v1 m1 p1 h1 h2 v2 m2 p2 h3 h4 h5 h6 v3 m3 p3 h7 v5 m5 p4 h8))
                · have h8 : ¬ v5 = 0 := by omega
                  refine st_iconst dX0_readSpeech_130 ?_
                  refine st_goto 135 (by decide) dX0_readSpeech_131 ?_
                  exact st_zreturn rfl (by decide) dX0_readSpeech_135 (mQ.ret (q6 v1 m1 p1 h1 h2 v2 m2 p2 h3 h4 h5 h6 v3 m3 p3 h7 v5 m5 p4 h8))
            · have h6 : 24 ≤ x1 := by omega
              refine st_iconst dX0_readSpeech_80 ?_
              exact st_zreturn rfl (by decide) dX0_readSpeech_81 (mQ.ret (q7 v1 m1 p1 h1 h2 v2 m2 p2 h3 h4 h5 h6))
        · have h4 : 122 < v2 := by omega
          refine st_iconst dX0_readSpeech_55 ?_
          exact st_zreturn rfl (by decide) dX0_readSpeech_56 (mQ.ret (q8 v1 m1 p1 h1 h2 v2 m2 p2 h3 h4))
    · have h2 : 72 < v1 := by omega
      refine st_iconst dX0_readSpeech_20 ?_
      exact st_zreturn rfl (by decide) dX0_readSpeech_21 (mQ.ret (q9 v1 m1 p1 h1 h2))
def spX (mem : mmM) (i : Int) : Int ⊕ (Int × Int × Int × Int) → Int → mmM → Prop
  | .inl f, v, m => v = 0 ∧ rdFr mem m ∧ m 3 = mem 3 ∧ m 7 = mem 7 ∧ m 1 2 = f
  | .inr (t, a, w, l), v, m => v = 1 ∧ rdFr mem m ∧ m 3 = mem 3 ∧ m 7 = mem 7 ∧ m 1 2 = t ∧ m 4 = updF (mem 4) i a ∧ m 5 = updF (mem 5) i w ∧ m 6 = updF (mem 6) i l
theorem updF_updF (f : Int → Int) (i a b : Int) : updF (updF f i a) i b = updF f i b := by
  funext j
  unfold updF
  split <;> rfl
theorem c_X0_readSpeech (mem : mmM) (hb : bytX mem) {i : Int} (i0 : 0 ≤ i) (i1 : i < 24) (h0 : 0 ≤ mem 1 2) (h1 : mem 1 2 ≤ mem 1 1) : con 0 bX0_readSpeech 4 [(2, 3), (0, i)] mem (spX mem i (spS (CX mem) (SX mem) (mem 1 2))) := by
  have hn := hb.1
  obtain ⟨j, hj⟩ : ∃ j, mem 1 2 = j := ⟨_, rfl⟩
  obtain ⟨p, hp⟩ : ∃ p, SX mem j = p := ⟨_, rfl⟩
  obtain ⟨q, hq⟩ : ∃ q, SX mem (p + 1) = q := ⟨_, rfl⟩
  obtain ⟨r, hr⟩ : ∃ r, SX mem (q + 1) = r := ⟨_, rfl⟩
  have em : mem = cuX mem j := by rw [← hj, cuX_id]
  have gp := SX_ge mem j
  have lp := SX_le (mem := mem) (j := j) (by omega)
  have gq := SX_ge mem (p + 1)
  have gr := SX_ge mem (q + 1)
  have rp := CX_rng hb p
  have rq := CX_rng hb q
  have rr := CX_rng hb r
  have lq : 0 < CX mem p → q ≤ mem 1 1 := by
    intro z
    have := CX_lt z
    rw [← hq]
    exact SX_le (by omega)
  have lr : 0 < CX mem q → r ≤ mem 1 1 := by
    intro z
    have := CX_lt z
    rw [← hr]
    exact SX_le (by omega)
  rw [hp] at gp lp
  rw [hq] at gq
  rw [hr] at gr
  obtain ⟨nm, hnm⟩ : ∃ nm, numS (CX mem) 2 r = nm := ⟨_, rfl⟩
  obtain ⟨mB, hB⟩ : ∃ mB, mB = mset (mset (mset mem 4 i (CX mem p - 65)) 5 i (CX mem q - 97)) 6 i 5 := ⟨_, rfl⟩
  have b1 : mB 1 = mem 1 := by rw [hB, mset_ne (by decide), mset_ne (by decide), mset_ne (by decide)]
  have b2 : mB 2 = mem 2 := by rw [hB, mset_ne (by decide), mset_ne (by decide), mset_ne (by decide)]
  have b3 : mB 3 = mem 3 := by rw [hB, mset_ne (by decide), mset_ne (by decide), mset_ne (by decide)]
  have b7 : mB 7 = mem 7 := by rw [hB, mset_ne (by decide), mset_ne (by decide), mset_ne (by decide)]
  have b4 : mB 4 = updF (mem 4) i (CX mem p - 65) := by rw [hB, mset_ne (by decide), mset_ne (by decide), mset_updF]
  have b5 : mB 5 = updF (mem 5) i (CX mem q - 97) := by rw [hB, mset_ne (by decide), mset_updF, mset_ne (by decide)]
  have b6 : mB 6 = updF (mem 6) i 5 := by rw [hB, mset_updF, mset_ne (by decide), mset_ne (by decide)]
  have bf : rdFr mem mB := by
    rw [hB]
    exact rdFr_trans (rdFr_trans (rdFr_mset mem _ _ (by omega)) (rdFr_mset _ _ _ (by omega))) (rdFr_mset _ _ _ (by omega))
  have hbB : bytX mB := bytX_of (by rw [b1]) b2 hb
  have cB : CX mB = CX mem := CX_of (by rw [b1]) b2
  have sB : SX mB = SX mem := SX_of (by rw [b1]) b2
  have fr3 : ∀ k, rdFr mem (cuX mem k) ∧ cuX mem k 3 = mem 3 ∧ cuX mem k 7 = mem 7 ∧ cuX mem k 1 2 = k := fun k => ⟨rdFr_cu mem k, cuX_ne _ _ (by decide), cuX_ne _ _ (by decide), cuX_at _ _⟩
  have frB : ∀ k, rdFr mem (cuX mB k) ∧ cuX mB k 3 = mem 3 ∧ cuX mB k 7 = mem 7 ∧ cuX mB k 1 2 = k := fun k => ⟨rdFr_trans bf (rdFr_cu mB k), by rw [cuX_ne _ _ (by decide), b3], by rw [cuX_ne _ _ (by decide), b7], cuX_at _ _⟩
  have e1 : ¬ (65 ≤ CX mem p ∧ CX mem p ≤ 72) → spS (CX mem) (SX mem) j = .inl p := by
    intro z
    unfold spS
    rw [hp, if_pos z]
  have e2 : (65 ≤ CX mem p ∧ CX mem p ≤ 72) → ¬ (97 ≤ CX mem q ∧ CX mem q ≤ 122) → spS (CX mem) (SX mem) j = .inl q := by
    intro z z2
    unfold spS
    rw [hp, hq, if_neg (fun y => y z), if_pos z2]
  have e3 : (65 ≤ CX mem p ∧ CX mem p ≤ 72) → (97 ≤ CX mem q ∧ CX mem q ≤ 122) → spS (CX mem) (SX mem) j = if ¬ digC (CX mem r) then .inr (r, CX mem p - 65, CX mem q - 97, 5) else if nm.1 = -1 then .inl nm.2 else if nm.1 < 1 then .inl (nm.2 - 1) else .inr (nm.2, CX mem p - 65, CX mem q - 97, nm.1) := by
    intro z z2
    unfold spS
    rw [hp, hq, hr, if_neg (fun y => y z), if_neg (fun y => y z2), hnm]
  rw [hj]
  have sg := s_sign mem hb (j := j) (by omega)
  rw [← em, hp] at sg
  refine cn_X0_readSpeech (bk_X0_readSpeech_0 (d1 := 2) (d2 := 2) (d3 := 2) (d4 := 3) (P1 := fun v m => v = CX mem p ∧ m = cuX mem p) (P2 := fun v m => v = CX mem q ∧ m = cuX mem q) (P3 := fun v m => v = CX mem r ∧ m = cuX mB r) (P4 := lenX mB i nm) sg ?_ ?_ ?_ ?_ ?_ ?_ ?_ ?_ ?_ ?_ ?_ ?_ (s1 := ?_) (s2 := ?_) (s3 := ?_) (s4 := ?_) (s5 := ?_) (s6 := ?_) (s7 := ?_) (s8 := ?_) (s9 := ?_) (s10 := ?_))
  · rintro v m ⟨rfl, rfl⟩ g g2
    rw [cuX_at, cuX_cu]
    have := s_sign mem hb (j := p + 1) (by omega)
    rw [hq] at this
    exact this
  · rintro v m ⟨rfl, rfl⟩ g g2 v2 m2 ⟨rfl, rfl⟩ g3 g4 _ _
    rw [cuX_at, cuX_cu, cuX_comm _ _ _ _ (by decide), cuX_comm _ _ _ _ (by decide), cuX_comm _ _ _ _ (by decide), ← hB]
    have := s_sign mB hbB (j := q + 1) (by omega)
    rw [cB, sB, hr] at this
    exact this
  · rintro v m ⟨rfl, rfl⟩ g g2 v2 m2 ⟨rfl, rfl⟩ g3 g4 _ _ v3 m3 ⟨rfl, rfl⟩ g5
    have := c_X0_readLength mB hbB i0 i1 (j := r) (by omega) (by rw [b1]; exact lr (by omega))
    rw [cB, hnm] at this
    exact this
  · rintro v m ⟨rfl, rfl⟩ g
    rw [e1 (by omega)]
    exact ⟨rfl, fr3 p⟩
  · rintro v m ⟨rfl, rfl⟩ g g2 v2 m2 ⟨rfl, rfl⟩ g3
    rw [e2 ⟨g, g2⟩ (by omega)]
    exact ⟨rfl, fr3 q⟩
  · rintro v m ⟨rfl, rfl⟩ g g2 v2 m2 ⟨rfl, rfl⟩ g3 g4 g5
    exact absurd g5 (by omega)
  · rintro v m ⟨rfl, rfl⟩ g g2 v2 m2 ⟨rfl, rfl⟩ g3 g4 _ _ v3 m3 ⟨rfl, rfl⟩ g5
    rw [e3 ⟨g, g2⟩ ⟨g3, g4⟩, if_pos g5]
    have := frB r
    exact ⟨rfl, this.1, this.2.1, this.2.2.1, this.2.2.2, by rw [cuX_ne _ _ (by decide)]; exact b4, by rw [cuX_ne _ _ (by decide)]; exact b5, by rw [cuX_ne _ _ (by decide)]; exact b6⟩
  · rintro v m ⟨rfl, rfl⟩ g g2 v2 m2 ⟨rfl, rfl⟩ g3 g4 _ _ v3 m3 ⟨rfl, rfl⟩ g5 v5 m5 w5 g6
    rw [e3 ⟨g, g2⟩ ⟨g3, g4⟩, if_neg (fun y => y g5)]
    rcases w5 with ⟨w1, w2, rfl⟩ | ⟨w1, w3, w2, rfl⟩ | ⟨w1, w3, w2, rfl⟩
    · rw [if_pos w1]
      exact ⟨rfl, frB _⟩
    · rw [if_neg w1, if_pos w3]
      exact ⟨rfl, frB _⟩
    · omega
  · rintro v m ⟨rfl, rfl⟩ g g2 v2 m2 ⟨rfl, rfl⟩ g3 g4 _ _ v3 m3 ⟨rfl, rfl⟩ g5 v5 m5 w5 g6
    rw [e3 ⟨g, g2⟩ ⟨g3, g4⟩, if_neg (fun y => y g5)]
    rcases w5 with ⟨w1, w2, rfl⟩ | ⟨w1, w3, w2, rfl⟩ | ⟨w1, w3, w2, rfl⟩
    · omega
    · omega
    · rw [if_neg w1, if_neg (by omega)]
      refine ⟨rfl, rdFr_trans bf (rdFr_trans (rdFr_mset mB _ _ (by omega)) (rdFr_cu _ _)), ?_, ?_, cuX_at _ _, ?_, ?_, ?_⟩
      · rw [cuX_ne _ _ (by decide), mset_ne (by decide), b3]
      · rw [cuX_ne _ _ (by decide), mset_ne (by decide), b7]
      · rw [cuX_ne _ _ (by decide), mset_ne (by decide), b4]
      · rw [cuX_ne _ _ (by decide), mset_ne (by decide), b5]
      · rw [cuX_ne _ _ (by decide), mset_updF, b6, updF_updF]
  · rintro v m ⟨rfl, rfl⟩ g g2 v2 m2 ⟨rfl, rfl⟩ g3 g4 g5 g6
    exact absurd g6 (by omega)
  · rintro v m ⟨rfl, rfl⟩ g g2 v2 m2 ⟨rfl, rfl⟩ g3 g4
    rw [e2 ⟨g, g2⟩ (by omega)]
    exact ⟨rfl, fr3 q⟩
  · rintro v m ⟨rfl, rfl⟩ g g2
    rw [e1 (by omega)]
    exact ⟨rfl, fr3 p⟩
  · rintro v m ⟨rfl, rfl⟩
    exact ⟨by omega, by omega⟩
  · rintro v m ⟨rfl, rfl⟩ g g2
    rw [cuX_at]
    exact ⟨by omega, by omega⟩
  · rintro v m ⟨rfl, rfl⟩ g g2 v2 m2 ⟨rfl, rfl⟩
    exact ⟨by omega, by omega⟩
  · rintro v m ⟨rfl, rfl⟩ g g2 v2 m2 ⟨rfl, rfl⟩ _ _
    rw [cuX_at]
    have := lq (by omega)
    exact ⟨by omega, by omega⟩
  · rintro v m ⟨rfl, rfl⟩ g g2 v2 m2 ⟨rfl, rfl⟩ _ _
    exact ⟨by omega, by omega⟩
  · rintro v m ⟨rfl, rfl⟩ g g2 v2 m2 ⟨rfl, rfl⟩ _ _ _ _
    exact ⟨by omega, by omega⟩
  · rintro v m ⟨rfl, rfl⟩ g g2 v2 m2 ⟨rfl, rfl⟩ _ _ _ _
    exact ⟨by omega, by omega⟩
  · rintro v m ⟨rfl, rfl⟩ g g2 v2 m2 ⟨rfl, rfl⟩ _ _ _ _
    exact ⟨by omega, by omega⟩
  · rintro v m ⟨rfl, rfl⟩ g g2 v2 m2 ⟨rfl, rfl⟩ _ _ _ _ v3 m3 ⟨rfl, rfl⟩
    exact ⟨by omega, by omega⟩
  · rintro v m ⟨rfl, rfl⟩ g g2 v2 m2 ⟨rfl, rfl⟩ _ _ _ _ v3 m3 ⟨rfl, rfl⟩ _ v5 m5 w5
    rcases w5 with ⟨w1, rfl, w2⟩ | ⟨w1, w3, rfl, w2⟩ | ⟨w1, w3, rfl, w2⟩ <;> exact ⟨by decide, by decide⟩
/-- the rest of the speeches: k more may stand -/
def restS (C S : Int → Int) : Nat → Int → Int → (Int → Int) → (Int → Int) → (Int → Int) → Int ⊕ (Int × Int × (Int → Int) × (Int → Int) × (Int → Int))
  | 0, i, j, A, W, L => .inr (i, S j, A, W, L)
  | k + 1, i, j, A, W, L => match spS C S j with
    | .inl f => .inl f
    | .inr (t, a, w, l) => if C (S t) = 44 ∧ k ≠ 0 then restS C S k (i + 1) (S t + 1) (updF A i a) (updF W i w) (updF L i l) else .inr (i + 1, S t, updF A i a, updF W i w, updF L i l)
def aftS (C S : Int → Int) (k : Nat) (i t : Int) (A W L : Int → Int) : Int ⊕ (Int × Int × (Int → Int) × (Int → Int) × (Int → Int)) := if C (S t) = 44 ∧ k ≠ 0 then restS C S k i (S t + 1) A W L else .inr (i, S t, A, W, L)
theorem restS_l {C S : Int → Int} {k : Nat} {i j f : Int} {A W L : Int → Int} (h : spS C S j = .inl f) : restS C S (k + 1) i j A W L = .inl f := by
  unfold restS
  rw [h]
theorem restS_r {C S : Int → Int} {k : Nat} {i j t a w l : Int} {A W L : Int → Int} (h : spS C S j = .inr (t, a, w, l)) : restS C S (k + 1) i j A W L = aftS C S k (i + 1) t (updF A i a) (updF W i w) (updF L i l) := by
  unfold restS
  rw [h]
  rfl
theorem cn_X0_readSpeeches {d : Nat} {P : Int → mmM → Prop} {mem : mmM} (h : mmT bX0_readSpeeches d 0 0 (mQ 0 P) 0 [(2, 3), (9, 0)] [] mS mem) : con 0 bX0_readSpeeches d [(2, 3)] mem P := mmC_of [(2, 3), (9, 0)] ok_X0_readSpeeches.2.2.2.2 rfl (Nat.le_of_ble_eq_true rfl) h
theorem bk_X0_readSpeeches_0 {d : Nat} {P : Int → mmM → Prop} {mem : mmM}
  (k1 : mmT bX0_readSpeeches d 0 0 (mQ 0 P) 2 [(2, 3), (0, 0)] [] mS mem)
  : mmT bX0_readSpeeches d 0 0 (mQ 0 P) 0 [(2, 3), (9, 0)] [] mS mem := by
  refine st_iconst dX0_readSpeeches_0 ?_
  refine st_istore_n (i := 1) rfl (by decide) (lc' := [(2, 3), (0, 0)]) rfl dX0_readSpeeches_1 ?_
  exact st_locals [(2, 3), (0, 0)] ⟨Or.inr rfl, Or.inr rfl, trivial⟩ k1
theorem bk_X0_readSpeeches_2 {d : Nat} {d1 : Nat} {P1 : Int → mmM → Prop} {d2 : Nat} {P2 : Int → mmM → Prop} {d3 : Nat} {P3 : Int → mmM → Prop} {P : Int → mmM → Prop} {mem : mmM} {x1 : Int}
  (c1 : x1 < 24 → x1 ≤ 0 → con 0 bX0_readSpeech d1 [(2, 3), (0, x1)] mem P1)
  (c2 : x1 < 24 → 0 < x1 → con 0 bX9_takes d2 [(2, 1), (0, 44)] mem P2)
  (c3 : x1 < 24 → 0 < x1 → ∀ (v2 : Int), ∀ (m2 : mmM), P2 v2 m2 → ¬ v2 = 0 → con 0 bX0_readSpeech d3 [(2, 3), (0, x1)] m2 P3)
  (k1 : x1 < 24 → x1 ≤ 0 → ∀ (v1 : Int), ∀ (m1 : mmM), P1 v1 m1 → ¬ v1 = 0 → mmT bX0_readSpeeches d 0 0 (mQ 0 P) 2 [(2, 3), (0, (x1 + 1))] [] mS (mset m1 3 5 ((m1 3 5) + 1)))
  (k2 : x1 < 24 → 0 < x1 → ∀ (v2 : Int), ∀ (m2 : mmM), P2 v2 m2 → ¬ v2 = 0 → ∀ (v3 : Int), ∀ (m3 : mmM), P3 v3 m3 → ¬ v3 = 0 → mmT bX0_readSpeeches d 0 0 (mQ 0 P) 2 [(2, 3), (0, (x1 + 1))] [] mS (mset m3 3 5 ((m3 3 5) + 1)))
  (q1 : 24 ≤ x1 → (mem 3 5) ≤ 1 → P 0 mem)
  (q2 : 24 ≤ x1 → 1 < (mem 3 5) → P 1 mem)
  (q3 : x1 < 24 → x1 ≤ 0 → ∀ (v1 : Int), ∀ (m1 : mmM), P1 v1 m1 → v1 = 0 → P 0 m1)
  (q4 : x1 < 24 → 0 < x1 → ∀ (v2 : Int), ∀ (m2 : mmM), P2 v2 m2 → ¬ v2 = 0 → ∀ (v3 : Int), ∀ (m3 : mmM), P3 v3 m3 → v3 = 0 → P 0 m3)
  (q5 : x1 < 24 → 0 < x1 → ∀ (v2 : Int), ∀ (m2 : mmM), P2 v2 m2 → v2 = 0 → (m2 3 5) ≤ 1 → P 0 m2)
  (q6 : x1 < 24 → 0 < x1 → ∀ (v2 : Int), ∀ (m2 : mmM), P2 v2 m2 → v2 = 0 → 1 < (m2 3 5) → P 1 m2)
  (hd_d1 : d1 + 1 ≤ d := by omega)
  (hd_d2 : d2 + 1 ≤ d := by omega)
  (hd_d3 : d3 + 1 ≤ d := by omega)
  (s1 : R32 x1 := by intros; first | omega | assumption | solve_by_elim)
  (s2 : x1 < 24 → x1 ≤ 0 → ∀ (v1 : Int), ∀ (m1 : mmM), P1 v1 m1 → R32 v1 := by intros; first | omega | assumption | solve_by_elim)
  (s3 : x1 < 24 → x1 ≤ 0 → ∀ (v1 : Int), ∀ (m1 : mmM), P1 v1 m1 → ¬ v1 = 0 → R32 ((m1 3 5) + 1) := by intros; first | omega | assumption | solve_by_elim)
  (s4 : x1 < 24 → 0 < x1 → ∀ (v2 : Int), ∀ (m2 : mmM), P2 v2 m2 → R32 v2 := by intros; first | omega | assumption | solve_by_elim)
  (s5 : x1 < 24 → 0 < x1 → ∀ (v2 : Int), ∀ (m2 : mmM), P2 v2 m2 → ¬ v2 = 0 → ∀ (v3 : Int), ∀ (m3 : mmM), P3 v3 m3 → R32 v3 := by intros; first | omega | assumption | solve_by_elim)
  (s6 : x1 < 24 → 0 < x1 → ∀ (v2 : Int), ∀ (m2 : mmM), P2 v2 m2 → ¬ v2 = 0 → ∀ (v3 : Int), ∀ (m3 : mmM), P3 v3 m3 → ¬ v3 = 0 → R32 ((m3 3 5) + 1) := by intros; first | omega | assumption | solve_by_elim)
  : mmT bX0_readSpeeches d 0 0 (mQ 0 P) 2 [(2, 3), (0, x1)] [] mS mem := by
  refine st_iload_n (i := 1) rfl rfl dX0_readSpeeches_2 ?_
  refine st_bipush rfl dX0_readSpeeches_3 ?_
  refine sr_icmp_ge 53 s1 ⟨by decide, by decide⟩ (by decide) dX0_readSpeeches_5 (fun h1 => ?_) (fun h1 => ?_)
  · have h1 : 24 ≤ x1 := by omega
    refine st_aload_n (i := 0) rfl (t := 0) rfl (by decide) dX0_readSpeeches_53 ?_
    refine so_getI (v := (mem 3 5)) 3 5 fr_X0_35_0 rfl sh_3 rfl dX0_readSpeeches_54 (fun r1 => ?_)
    refine st_iconst dX0_readSpeeches_57 ?_
    refine sr_icmp_le 65 r1 ⟨by decide, by decide⟩ (by decide) dX0_readSpeeches_58 (fun h2 => ?_) (fun h2 => ?_)
    · have h2 : (mem 3 5) ≤ 1 := by omega
      refine st_iconst dX0_readSpeeches_65 ?_
      exact st_zreturn rfl (by decide) dX0_readSpeeches_66 (mQ.ret (q1 h1 h2))
    · have h2 : 1 < (mem 3 5) := by omega
      refine st_iconst dX0_readSpeeches_61 ?_
      refine st_goto 66 (by decide) dX0_readSpeeches_62 ?_
      exact st_zreturn rfl (by decide) dX0_readSpeeches_66 (mQ.ret (q2 h1 h2))
  · have h1 : x1 < 24 := by omega
    refine st_iload_n (i := 1) rfl rfl dX0_readSpeeches_8 ?_
    refine sr_if_le 27 s1 (by decide) dX0_readSpeeches_9 (fun h3 => ?_) (fun h3 => ?_)
    · have h3 : x1 ≤ 0 := by omega
      refine st_aload_n (i := 0) rfl (t := 0) rfl (by decide) dX0_readSpeeches_27 ?_
      refine st_iload_n (i := 1) rfl rfl dX0_readSpeeches_28 ?_
      refine st_callV (kc2 := 0) (ks2 := 0) (av := [(0, x1)]) 3 0 mr_X0_53 ok_X0_readSpeech (c1 h1 h3) rfl sh_3 ⟨_, rfl, rfl, by decide⟩ rfl rfl hd_d1 (Nat.le_refl 0) (Nat.le_refl 0) (Nat.le_of_ble_eq_true rfl) dX0_readSpeeches_29 (mQ.elim fun v1 m1 p1 => ?_)
      refine sr_if_ne 37 (s2 h1 h3 v1 m1 p1) (by decide) dX0_readSpeeches_32 (fun h4 => ?_) (fun h4 => ?_)
      · have h4 : ¬ v1 = 0 := by omega
        refine st_aload_n (i := 0) rfl (t := 0) rfl (by decide) dX0_readSpeeches_37 ?_
        refine st_dup (Nat.ne_of_beq_eq_false rfl) dX0_readSpeeches_38 ?_
        refine so_getI (v := (m1 3 5)) 3 5 fr_X0_35_0 rfl sh_3 rfl dX0_readSpeeches_39 (fun r2 => ?_)
        refine st_iconst dX0_readSpeeches_42 ?_
        refine st_iadd dX0_readSpeeches_43 ?_
        refine so_putI 3 5 fr_X0_35_0 pf_0_5 fo_3_5 rfl sh_3 (s3 h1 h3 v1 m1 p1 h4) dX0_readSpeeches_44 ?_
        refine st_iinc (y := (x1 + 1)) (by decide) (i := 1) rfl rfl (lc' := [(2, 3), (0, (x1 + 1))]) rfl dX0_readSpeeches_47 ?_
        refine st_goto 2 (by decide) dX0_readSpeeches_50 ?_
        exact st_locals [(2, 3), (0, (x1 + 1))] ⟨Or.inr rfl, Or.inr rfl, trivial⟩ (k1 h1 h3 v1 m1 p1 h4)
      · have h4 : v1 = 0 := by omega
        refine st_iconst dX0_readSpeeches_35 ?_
        exact st_zreturn rfl (by decide) dX0_readSpeeches_36 (mQ.ret (q3 h1 h3 v1 m1 p1 h4))
    · have h3 : 0 < x1 := by omega
      refine st_aload_n (i := 0) rfl (t := 0) rfl (by decide) dX0_readSpeeches_12 ?_
      refine so_getA 3 0 fr_X0_25_0 rfl sh_3 fx_3_0 dX0_readSpeeches_13 ?_
      refine st_bipush rfl dX0_readSpeeches_16 ?_
      refine st_callV (kc2 := 0) (ks2 := 0) (av := [(0, 44)]) 1 9 mr_X0_42 ok_X9_takes (c2 h1 h3) rfl sh_1 ⟨_, rfl, rfl, by decide⟩ rfl rfl hd_d2 (Nat.le_refl 0) (Nat.le_refl 0) (Nat.le_of_ble_eq_true rfl) dX0_readSpeeches_18 (mQ.elim fun v2 m2 p2 => ?_)
      refine sr_if_ne 27 (s4 h1 h3 v2 m2 p2) (by decide) dX0_readSpeeches_21 (fun h5 => ?_) (fun h5 => ?_)
      · have h5 : ¬ v2 = 0 := by omega
        refine st_aload_n (i := 0) rfl (t := 0) rfl (by decide) dX0_readSpeeches_27 ?_
        refine st_iload_n (i := 1) rfl rfl dX0_readSpeeches_28 ?_
        refine st_callV (kc2 := 0) (ks2 := 0) (av := [(0, x1)]) 3 0 mr_X0_53 ok_X0_readSpeech (c3 h1 h3 v2 m2 p2 h5) rfl sh_3 ⟨_, rfl, rfl, by decide⟩ rfl rfl hd_d3 (Nat.le_refl 0) (Nat.le_refl 0) (Nat.le_of_ble_eq_true rfl) dX0_readSpeeches_29 (mQ.elim fun v3 m3 p3 => ?_)
        refine sr_if_ne 37 (s5 h1 h3 v2 m2 p2 h5 v3 m3 p3) (by decide) dX0_readSpeeches_32 (fun h6 => ?_) (fun h6 => ?_)
        · have h6 : ¬ v3 = 0 := by omega
          refine st_aload_n (i := 0) rfl (t := 0) rfl (by decide) dX0_readSpeeches_37 ?_
          refine st_dup (Nat.ne_of_beq_eq_false rfl) dX0_readSpeeches_38 ?_
          refine so_getI (v := (m3 3 5)) 3 5 fr_X0_35_0 rfl sh_3 rfl dX0_readSpeeches_39 (fun r3 => ?_)
          refine st_iconst dX0_readSpeeches_42 ?_
          refine st_iadd dX0_readSpeeches_43 ?_
          refine so_putI 3 5 fr_X0_35_0 pf_0_5 fo_3_5 rfl sh_3 (s6 h1 h3 v2 m2 p2 h5 v3 m3 p3 h6) dX0_readSpeeches_44 ?_
          refine st_iinc (y := (x1 + 1)) (by decide) (i := 1) rfl rfl (lc' := [(2, 3), (0, (x1 + 1))]) rfl dX0_readSpeeches_47 ?_
          refine st_goto 2 (by decide) dX0_readSpeeches_50 ?_
          exact st_locals [(2, 3), (0, (x1 + 1))] ⟨Or.inr rfl, Or.inr rfl, trivial⟩ (k2 h1 h3 v2 m2 p2 h5 v3 m3 p3 h6)
        · have h6 : v3 = 0 := by omega
          refine st_iconst dX0_readSpeeches_35 ?_
          exact st_zreturn rfl (by decide) dX0_readSpeeches_36 (mQ.ret (q4 h1 h3 v2 m2 p2 h5 v3 m3 p3 h6))
      · have h5 : v2 = 0 := by omega
        refine st_goto 53 (by decide) dX0_readSpeeches_24 ?_
        refine st_aload_n (i := 0) rfl (t := 0) rfl (by decide) dX0_readSpeeches_53 ?_
        refine so_getI (v := (m2 3 5)) 3 5 fr_X0_35_0 rfl sh_3 rfl dX0_readSpeeches_54 (fun r4 => ?_)
        refine st_iconst dX0_readSpeeches_57 ?_
        refine sr_icmp_le 65 r4 ⟨by decide, by decide⟩ (by decide) dX0_readSpeeches_58 (fun h7 => ?_) (fun h7 => ?_)
        · have h7 : (m2 3 5) ≤ 1 := by omega
          refine st_iconst dX0_readSpeeches_65 ?_
          exact st_zreturn rfl (by decide) dX0_readSpeeches_66 (mQ.ret (q5 h1 h3 v2 m2 p2 h5 h7))
        · have h7 : 1 < (m2 3 5) := by omega
          refine st_iconst dX0_readSpeeches_61 ?_
          refine st_goto 66 (by decide) dX0_readSpeeches_62 ?_
          exact st_zreturn rfl (by decide) dX0_readSpeeches_66 (mQ.ret (q6 h1 h3 v2 m2 p2 h5 h7))
/-- a speech is as long as it is: its end stands within the text -/
theorem spS_bnd {mem : mmM} (hb : bytX mem) {j t a w l : Int} (h0 : 0 ≤ j) (h1 : j ≤ mem 1 1) (h : spS (CX mem) (SX mem) j = .inr (t, a, w, l)) : (j < t ∧ t ≤ mem 1 1) ∧ (0 ≤ a ∧ a < 8) ∧ (0 ≤ w ∧ w < 26) ∧ (1 ≤ l ∧ l ≤ 99) := by
  have gp := SX_ge mem j
  unfold spS at h
  split at h
  · cases h
  · rename_i z
    split at h
    · cases h
    · rename_i z2
      have lp := CX_lt (mem := mem) (j := SX mem j) (by omega)
      have gq := SX_ge mem (SX mem j + 1)
      have lq := CX_lt (mem := mem) (j := SX mem (SX mem j + 1)) (by omega)
      have gr := SX_ge mem (SX mem (SX mem j + 1) + 1)
      have lr := SX_le (mem := mem) (j := SX mem (SX mem j + 1) + 1) (by omega)
      split at h
      · cases h
        refine ⟨⟨by omega, by omega⟩, ⟨by omega, by omega⟩, ⟨by omega, by omega⟩, ⟨by decide, by decide⟩⟩
      · have nb := numS_bnd (C := CX mem) (n := mem 1 1) (fun i h => CX_lt h) 2 (SX mem (SX mem (SX mem j + 1) + 1)) lr
        have nt := num2_top (CX mem) (SX mem (SX mem (SX mem j + 1) + 1))
        split at h
        · cases h
        · split at h
          · cases h
          · cases h
            exact ⟨⟨by omega, by omega⟩, ⟨by omega, by omega⟩, ⟨by omega, by omega⟩, ⟨by omega, by omega⟩⟩
def sayX (mem : mmM) : Int ⊕ (Int × Int × (Int → Int) × (Int → Int) × (Int → Int)) → Int → mmM → Prop
  | .inl f, v, m => v = 0 ∧ m 1 2 = f ∧ rdFr mem m
  | .inr (c, u, A, W, L), v, m => rdFr mem m ∧ m 7 = mem 7 ∧ m 3 5 = c ∧ (m 4 = A ∧ m 5 = W ∧ m 6 = L) ∧ ((c ≤ 1 ∧ v = 0 ∧ m 1 2 = u) ∨ (1 < c ∧ v = 1 ∧ SX mem (m 1 2) = u ∧ 0 ≤ m 1 2 ∧ m 1 2 ≤ mem 1 1))
theorem rdFr_1 {mem m : mmM} (h : rdFr mem m) : m 1 1 = mem 1 1 := h.2 1 (by decide)
theorem rdFr_2 {mem m : mmM} (h : rdFr mem m) : m 2 = mem 2 := h.1 2 (by decide) (by decide) (by decide) (by decide) (by decide) (by decide)
theorem rdFr_C {mem m : mmM} (h : rdFr mem m) : CX m = CX mem := CX_of (rdFr_1 h) (rdFr_2 h)
theorem rdFr_S {mem m : mmM} (h : rdFr mem m) : SX m = SX mem := SX_of (rdFr_1 h) (rdFr_2 h)
theorem rdFr_B {mem m : mmM} (h : rdFr mem m) (hb : bytX mem) : bytX m := bytX_of (rdFr_1 h) (rdFr_2 h) hb
theorem s_takes' (m : mmM) (hb : bytX m) {x : Int} (h0 : 0 ≤ m 1 2) (h1 : m 1 2 ≤ m 1 1) (hx : 0 < x ∧ x < 256) : con 0 bX9_takes 3 [(2, 1), (0, x)] m (fun v m' => (CX m (SX m (m 1 2)) = x ∧ v = 1 ∧ m' = cuX m (SX m (m 1 2) + 1)) ∨ (¬ CX m (SX m (m 1 2)) = x ∧ v = 0 ∧ m' = cuX m (SX m (m 1 2)))) := by
  have := s_takes m hb (j := m 1 2) h0 h1 hx
  rw [cuX_id] at this
  exact this
theorem c_X0_readSpeeches (mem : mmM) (hb : bytX mem) (h0 : mem 1 2 = 0) (h5 : mem 3 5 = 0) : con 0 bX0_readSpeeches 5 [(2, 3)] mem (sayX mem (restS (CX mem) (SX mem) 24 0 0 (mem 4) (mem 5) (mem 6))) := by
  have hn := hb.1
  have main : ∀ (k : Nat) (R : Int ⊕ (Int × Int × (Int → Int) × (Int → Int) × (Int → Int))) (m : mmM) (i : Int), i + (k : Int) = 24 → 0 < i → rdFr mem m → m 7 = mem 7 → m 3 5 = i → 0 ≤ m 1 2 → m 1 2 ≤ mem 1 1 → R = aftS (CX mem) (SX mem) k i (m 1 2) (m 4) (m 5) (m 6) → mmT bX0_readSpeeches 5 0 0 (mQ 0 (sayX mem R)) 2 [(2, 3), (0, i)] [] mS m := by
    intro k R
    induction k with
    | zero =>
      intro m i hi i0 fr m7 m5 a0 a1 hR
      have hR' : R = .inr (i, SX mem (m 1 2), m 4, m 5, m 6) := by
        rw [hR]
        exact if_neg (fun z => z.2 rfl)
      subst hR'
      refine bk_X0_readSpeeches_2 (d1 := 0) (d2 := 0) (d3 := 0) (P1 := fun _ _ => True) (P2 := fun _ _ => True) (P3 := fun _ _ => True) (fun g => absurd g (by omega)) (fun g => absurd g (by omega)) (fun g => absurd g (by omega)) (fun g => absurd g (by omega)) (fun g => absurd g (by omega)) (fun g g2 => absurd g2 (by omega)) (fun g g2 => ?_) (fun g => absurd g (by omega)) (fun g => absurd g (by omega)) (fun g => absurd g (by omega)) (fun g => absurd g (by omega)) (s1 := ⟨by omega, by omega⟩) (s2 := fun g => absurd g (by omega)) (s3 := fun g => absurd g (by omega)) (s4 := fun g => absurd g (by omega)) (s5 := fun g => absurd g (by omega)) (s6 := fun g => absurd g (by omega))
      exact ⟨fr, m7, m5, ⟨rfl, rfl, rfl⟩, Or.inr ⟨by omega, rfl, rfl, a0, a1⟩⟩
    | succ k ih =>
      intro m i hi i0 fr m7 m5 a0 a1 hR
      have hbm := rdFr_B fr hb
      have eC := rdFr_C fr
      have eS := rdFr_S fr
      have e11 := rdFr_1 fr
      have ge := SX_ge mem (m 1 2)
      have le := SX_le (mem := mem) (j := m 1 2) a1
      have tk := s_takes' m hbm (x := 44) a0 (by omega) ⟨by decide, by decide⟩
      rw [eC, eS] at tk
      have no : ¬ CX mem (SX mem (m 1 2)) = 44 → R = .inr (i, SX mem (m 1 2), m 4, m 5, m 6) := fun z => by
        rw [hR]
        exact if_neg (fun y => z y.1)
      have yes : CX mem (SX mem (m 1 2)) = 44 → R = restS (CX mem) (SX mem) (k + 1) i (SX mem (m 1 2) + 1) (m 4) (m 5) (m 6) := fun z => by
        rw [hR]
        exact if_pos ⟨z, by omega⟩
      have frc : ∀ j, rdFr mem (cuX m j) := fun j => rdFr_trans fr (rdFr_cu m j)
      refine bk_X0_readSpeeches_2 (d1 := 0) (d2 := 3) (d3 := 4) (P1 := fun _ _ => True) (P2 := fun v m' => (CX mem (SX mem (m 1 2)) = 44 ∧ v = 1 ∧ m' = cuX m (SX mem (m 1 2) + 1)) ∨ (¬ CX mem (SX mem (m 1 2)) = 44 ∧ v = 0 ∧ m' = cuX m (SX mem (m 1 2)))) (P3 := fun v m' => CX mem (SX mem (m 1 2)) = 44 ∧ spX (cuX m (SX mem (m 1 2) + 1)) i (spS (CX mem) (SX mem) (SX mem (m 1 2) + 1)) v m') (fun _ g => absurd g (by omega)) (fun g g2 => tk) (fun g g2 v2 m2 w2 g3 => ?_) (fun _ g => absurd g (by omega)) (fun g g2 v2 m2 w2 g3 v3 m3 w3 g4 => ?_) (fun g => absurd g (by omega)) (fun g => absurd g (by omega)) (fun _ g => absurd g (by omega)) (fun g g2 v2 m2 w2 g3 v3 m3 w3 g4 => ?_) (fun g g2 v2 m2 w2 g3 g4 => ?_) (fun g g2 v2 m2 w2 g3 g4 => ?_) (s1 := ⟨by omega, by omega⟩) (s2 := fun _ g => absurd g (by omega)) (s3 := fun _ g => absurd g (by omega)) (s4 := fun g g2 v2 m2 w2 => ?_) (s5 := fun g g2 v2 m2 w2 g3 v3 m3 w3 => ?_) (s6 := fun g g2 v2 m2 w2 g3 v3 m3 w3 g4 => ?_)
      · rcases w2 with ⟨z, rfl, rfl⟩ | ⟨z, rfl, rfl⟩
        · have lt := CX_lt (mem := mem) (j := SX mem (m 1 2)) (by omega)
          have c := c_X0_readSpeech (cuX m (SX mem (m 1 2) + 1)) (bytX_cu hbm _) (i := i) (by omega) g (by rw [cuX_at]; omega) (by rw [cuX_at, cuX_1]; omega)
          rw [CX_cu, SX_cu, cuX_at, eC, eS] at c
          exact con.mono c (fun v m' q => ⟨z, q⟩)
        · exact absurd rfl g3
      · obtain ⟨z, w3⟩ := w3
        have R' := yes z
        have lt := CX_lt (mem := mem) (j := SX mem (m 1 2)) (by omega)
        cases hs : spS (CX mem) (SX mem) (SX mem (m 1 2) + 1) with
        | inl f =>
          rw [hs] at w3
          exact absurd w3.1 g4
        | inr x =>
          obtain ⟨t, a, w, l⟩ := x
          rw [hs] at w3
          obtain ⟨-, wf, w33, w37, w12, w4, w5, w6⟩ := w3
          rw [restS_r hs] at R'
          have fr3 := rdFr_trans (frc _) wf
          have sb := spS_bnd hb (by omega) (by omega) hs
          have e3 : m3 3 5 = m 3 5 := by rw [w33, cuX_ne _ _ (by decide)]
          refine ih (mset m3 3 5 (m3 3 5 + 1)) (i + 1) (by omega) (by omega) (rdFr_trans fr3 (rdFr_mset m3 _ _ (by omega))) ?_ ?_ ?_ ?_ ?_
          · rw [mset_ne (by decide), w37, cuX_ne _ _ (by decide), m7]
          · rw [mset_same, e3, m5]
          · rw [mset_ne (by decide), w12]
            omega
          · rw [mset_ne (by decide), w12]
            omega
          · rw [mset_ne (by decide), mset_ne (by decide), mset_ne (by decide), mset_ne (by decide), w12, w4, w5, w6, cuX_ne _ _ (by decide), cuX_ne _ _ (by decide), cuX_ne _ _ (by decide)]
            exact R'
      · obtain ⟨z, w3⟩ := w3
        have R' := yes z
        cases hs : spS (CX mem) (SX mem) (SX mem (m 1 2) + 1) with
        | inl f =>
          rw [hs] at w3
          obtain ⟨-, wf, w33, w37, w12⟩ := w3
          rw [restS_l hs] at R'
          rw [R']
          exact ⟨rfl, w12, rdFr_trans (frc _) wf⟩
        | inr x =>
          obtain ⟨t, a, w, l⟩ := x
          rw [hs] at w3
          exact absurd (w3.1.symm.trans g4) (by decide)
      · rcases w2 with ⟨z, rfl, rfl⟩ | ⟨z, -, rfl⟩
        · exact absurd g3 (by decide)
        · rw [no z]
          refine ⟨frc _, by rw [cuX_ne _ _ (by decide), m7], by rw [cuX_ne _ _ (by decide), m5], ⟨cuX_ne _ _ (by decide), cuX_ne _ _ (by decide), cuX_ne _ _ (by decide)⟩, Or.inl ⟨?_, rfl, cuX_at _ _⟩⟩
          rw [cuX_ne _ _ (by decide), m5] at g4
          exact g4
      · rcases w2 with ⟨z, rfl, rfl⟩ | ⟨z, -, rfl⟩
        · exact absurd g3 (by decide)
        · rw [no z]
          refine ⟨frc _, by rw [cuX_ne _ _ (by decide), m7], by rw [cuX_ne _ _ (by decide), m5], ⟨cuX_ne _ _ (by decide), cuX_ne _ _ (by decide), cuX_ne _ _ (by decide)⟩, Or.inr ⟨?_, rfl, ?_, ?_, ?_⟩⟩
          · rw [cuX_ne _ _ (by decide), m5] at g4
            exact g4
          · rw [cuX_at]
            exact skT_sk _ _ _
          · rw [cuX_at]
            omega
          · rw [cuX_at]
            omega
      · rcases w2 with ⟨z, rfl, -⟩ | ⟨z, rfl, -⟩ <;> exact ⟨by decide, by decide⟩
      · obtain ⟨z, w3⟩ := w3
        cases hs : spS (CX mem) (SX mem) (SX mem (m 1 2) + 1) with
        | inl f =>
          rw [hs] at w3
          rw [w3.1]
          exact ⟨by decide, by decide⟩
        | inr x =>
          obtain ⟨t, a, w, l⟩ := x
          rw [hs] at w3
          rw [w3.1]
          exact ⟨by decide, by decide⟩
      · obtain ⟨z, w3⟩ := w3
        cases hs : spS (CX mem) (SX mem) (SX mem (m 1 2) + 1) with
        | inl f =>
          rw [hs] at w3
          exact absurd w3.1 g4
        | inr x =>
          obtain ⟨t, a, w, l⟩ := x
          rw [hs] at w3
          rw [w3.2.2.1, cuX_ne _ _ (by decide), m5]
          exact ⟨by omega, by omega⟩
  have c := c_X0_readSpeech mem hb (i := 0) (by decide) (by decide) (by omega) (by omega)
  rw [h0] at c
  refine cn_X0_readSpeeches (bk_X0_readSpeeches_0 ?_)
  refine bk_X0_readSpeeches_2 (d1 := 4) (d2 := 0) (d3 := 0) (P1 := spX mem 0 (spS (CX mem) (SX mem) 0)) (P2 := fun _ _ => True) (P3 := fun _ _ => True) (fun _ _ => c) (fun _ g => absurd g (by omega)) (fun _ g => absurd g (by omega)) (fun _ _ v3 m3 w3 g4 => ?_) (fun _ g => absurd g (by omega)) (fun g => absurd g (by omega)) (fun g => absurd g (by omega)) (fun _ _ v3 m3 w3 g4 => ?_) (fun _ g => absurd g (by omega)) (fun _ g => absurd g (by omega)) (fun _ g => absurd g (by omega)) (s1 := ⟨by omega, by omega⟩) (s2 := fun _ _ v3 m3 w3 => ?_) (s3 := fun _ _ v3 m3 w3 g4 => ?_) (s4 := fun _ g => absurd g (by omega)) (s5 := fun _ g => absurd g (by omega)) (s6 := fun _ g => absurd g (by omega))
  · cases hs : spS (CX mem) (SX mem) 0 with
    | inl f =>
      rw [hs] at w3
      exact absurd w3.1 g4
    | inr x =>
      obtain ⟨t, a, w, l⟩ := x
      rw [hs] at w3
      obtain ⟨-, wf, w33, w37, w12, w4, w5, w6⟩ := w3
      have sb := spS_bnd hb (by omega) (by omega) hs
      refine main 23 _ (mset m3 3 5 (m3 3 5 + 1)) (0 + 1) (by omega) (by omega) (rdFr_trans wf (rdFr_mset m3 _ _ (by omega))) ?_ ?_ ?_ ?_ ?_
      · rw [mset_ne (by decide), w37]
      · rw [mset_same, w33, h5]
      · rw [mset_ne (by decide), w12]
        omega
      · rw [mset_ne (by decide), w12]
        omega
      · rw [mset_ne (by decide), mset_ne (by decide), mset_ne (by decide), mset_ne (by decide), w12, w4, w5, w6]
        exact restS_r hs
  · cases hs : spS (CX mem) (SX mem) 0 with
    | inl f =>
      rw [hs] at w3
      obtain ⟨-, wf, w33, w37, w12⟩ := w3
      rw [restS_l hs]
      exact ⟨rfl, w12, wf⟩
    | inr x =>
      obtain ⟨t, a, w, l⟩ := x
      rw [hs] at w3
      exact absurd (w3.1.symm.trans g4) (by decide)
  · cases hs : spS (CX mem) (SX mem) 0 with
    | inl f =>
      rw [hs] at w3
      rw [w3.1]
      exact ⟨by decide, by decide⟩
    | inr x =>
      obtain ⟨t, a, w, l⟩ := x
      rw [hs] at w3
      rw [w3.1]
      exact ⟨by decide, by decide⟩
  · cases hs : spS (CX mem) (SX mem) 0 with
    | inl f =>
      rw [hs] at w3
      exact absurd w3.1 g4
    | inr x =>
      obtain ⟨t, a, w, l⟩ := x
      rw [hs] at w3
      rw [w3.2.2.1, h5]
      exact ⟨by omega, by omega⟩
