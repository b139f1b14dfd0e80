/-! what is asked of the odds of M -/
def marksFr (mem m : mmM) : Prop := (∀ a, a ≠ 65 → a ≠ 74 → a ≠ 75 → (a < 91 ∨ 96 < a) → m a = mem a) ∧ ∀ j, j ≠ 31 → m 65 j = mem 65 j
theorem marksFr.refl (mem : mmM) : marksFr mem mem := ⟨fun _ _ _ _ _ => rfl, fun _ _ => rfl⟩
theorem marksFr.trans {m0 m1 m2 : mmM} (h : marksFr m0 m1) (h' : marksFr m1 m2) : marksFr m0 m2 := ⟨fun a a1 a2 a3 a4 => (h'.1 a a1 a2 a3 a4).trans (h.1 a a1 a2 a3 a4), fun j hj => (h'.2 j hj).trans (h.2 j hj)⟩
theorem marksFr.set {mem m : mmM} (h : marksFr mem m) (v : Int) : marksFr mem (mset m 65 31 v) := ⟨fun a a1 a2 a3 a4 => by rw [mset_ne a1]; exact h.1 a a1 a2 a3 a4, fun j hj => by rw [mset_at, if_neg hj]; exact h.2 j hj⟩
theorem chFr.marks {mem m : mmM} (h : chFr mem m) : marksFr mem m := ⟨fun a _ a2 a3 a4 => h a a2 a3 a4, fun j _ => by rw [h 65 (by decide) (by decide) (by omega)]⟩
theorem marksFr.ch {mem m : mmM} (h : marksFr mem m) (e : m 65 31 = mem 65 31) : chFr mem m := fun a a2 a3 a4 => by
  by_cases q : a = 65
  · subst q
    funext j
    by_cases z : j = 31
    · rw [z, e]
    · exact h.2 j z
  · exact h.1 a q a2 a3 a4
theorem marksFr.key {mem m : mmM} (h : marksFr mem m) (mk : Int) : keyEq (mset mem 65 31 mk) (mset m 65 31 mk) := by
  have k : ∀ a, a ≠ 65 → a ≠ 74 → a ≠ 75 → (a < 91 ∨ 96 < a) → mset m 65 31 mk a = mset mem 65 31 mk a := fun a a1 a2 a3 a4 => by rw [mset_ne a1, mset_ne a1]; exact h.1 a a1 a2 a3 a4
  refine ⟨⟨?_, ?_, ?_⟩, ⟨?_, ?_⟩, ⟨?_, ?_, ?_, ?_⟩, ?_, ?_, ?_⟩
  · rw [mset_at, mset_at, if_neg (by decide), if_neg (by decide)]; exact h.2 27 (by decide)
  · rw [mset_at, mset_at, if_neg (by decide), if_neg (by decide)]; exact h.2 28 (by decide)
  · rw [mset_same, mset_same]
  all_goals exact k _ (by decide) (by decide) (by decide) (by omega)
/-- what FORGETS is, for each set of marks -/
def forgS (mem : mmM) (FM : Int → Int → Int) : Prop := ∀ mk, forgE (mset mem 65 31 mk) (FM mk)
def takeM (mem : mmM) : Prop := ∀ a, 0 ≤ a → a < 8 → 0 ≤ mem 84 a ∧ mem 84 a ≤ 100
def EM (mem : mmM) (FM : Int → Int → Int) (mk sure most : Int) : odU := odN (mem 65 27) (fgS (mem 79) (FM mk) sure) (tkN mem mk) (leapM mem) most.toNat
theorem EM_ok {mem : mmM} {FM : Int → Int → Int} (hp : playM mem) (hn0 : 0 < mem 65 27) (ht : takeM mem) (hF : forgS mem FM) (mk sure most : Int) : 0 ≤ (EM mem FM mk sure most).2.1 ∧ (EM mem FM mk sure most).2.1 ≤ 1000000000 := (odK_sum (odN_ok (odP_M hp ht (fgS_bnd (hF mk).1 sure) mk) hn0 most.toNat)).2.1
theorem ch_at (mem m : mmM) (FM : Int → Int → Int) (mk x1 x2 : Int) (hM : marksFr mem m) (hp : playM mem) (hn0 : 0 < mem 65 27) (ht : takeM mem) (hF : forgS mem FM) (h1 : 0 ≤ x1 ∧ x1 ≤ 200) (h2 : R32 x2) : con 0 bX12_chanceOf 9 [(2, 65), (0, x1), (0, x2)] (mset m 65 31 mk) (fun v m' => v = (EM mem FM mk x2 x1).2.1 ∧ (marksFr mem m' ∧ m' 65 31 = mk) ∧ ∀ j, 0 ≤ j → j < mem 65 27 → m' 93 j = (EM mem FM mk x2 x1).2.2.1 j ∧ m' 94 j = (EM mem FM mk x2 x1).2.2.2 j) := by
  have e27 : mset m 65 31 mk 65 27 = mem 65 27 := by rw [mset_at, if_neg (by decide)]; exact hM.2 27 (by decide)
  have e31 : mset m 65 31 mk 65 31 = mk := mset_same _ _ _ _
  have e79 : mset m 65 31 mk 79 = mem 79 := by rw [mset_ne (by decide)]; exact hM.1 79 (by decide) (by decide) (by decide) (by omega)
  have e80 : mset m 65 31 mk 80 = mem 80 := by rw [mset_ne (by decide)]; exact hM.1 80 (by decide) (by decide) (by decide) (by omega)
  have e81 : mset m 65 31 mk 81 = mem 81 := by rw [mset_ne (by decide)]; exact hM.1 81 (by decide) (by decide) (by decide) (by omega)
  have e83 : mset m 65 31 mk 83 = mem 83 := by rw [mset_ne (by decide)]; exact hM.1 83 (by decide) (by decide) (by decide) (by omega)
  have e84 : mset m 65 31 mk 84 = mem 84 := by rw [mset_ne (by decide)]; exact hM.1 84 (by decide) (by decide) (by decide) (by omega)
  have c := c_X12_chanceOf (mset m 65 31 mk) (FM mk) x1 x2 (playM_congr hp e27 e79 e80 e81) (by rw [e27]; exact hn0) (by rw [e84]; exact ht) ((hF mk).move (hM.key mk)) h1 h2
  have etk : tkN (mset m 65 31 mk) (mset m 65 31 mk 65 31) = tkN mem mk := by
    rw [e31]
    funext j
    unfold tkN
    rw [e84, e79]
  have E : odN (mset m 65 31 mk 65 27) (fgS (mset m 65 31 mk 79) (FM mk) x2) (tkN (mset m 65 31 mk) (mset m 65 31 mk 65 31)) (leapM (mset m 65 31 mk)) x1.toNat = EM mem FM mk x2 x1 := by
    rw [e27, e79, etk, leapM_congr e27 e79 e80 e83]
    rfl
  unfold chP at c
  rw [E, e27] at c
  exact con.mono c (fun v m' w => ⟨w.1, ⟨(hM.set mk).trans w.2.1.marks, by rw [w.2.1 65 (by decide) (by decide) (by omega)]; exact e31⟩, w.2.2⟩)
theorem ch_now (mem : mmM) (FM : Int → Int → Int) (x1 x2 : Int) (hp : playM mem) (hn0 : 0 < mem 65 27) (ht : takeM mem) (hF : forgS mem FM) (h1 : 0 ≤ x1 ∧ x1 ≤ 200) (h2 : R32 x2) : con 0 bX12_chanceOf 9 [(2, 65), (0, x1), (0, x2)] mem (fun v m' => v = (EM mem FM (mem 65 31) x2 x1).2.1 ∧ chFr mem m' ∧ ∀ j, 0 ≤ j → j < mem 65 27 → m' 93 j = (EM mem FM (mem 65 31) x2 x1).2.2.1 j ∧ m' 94 j = (EM mem FM (mem 65 31) x2 x1).2.2.2 j) := by
  have c := ch_at mem mem FM (mem 65 31) x1 x2 (marksFr.refl mem) hp hn0 ht hF h1 h2
  rw [mset_id] at c
  exact con.mono c (fun v m' w => ⟨w.1, w.2.1.1.ch w.2.1.2, w.2.2⟩)
theorem cn_X12_chance {d : Nat} {P : Int → mmM → Prop} {mem : mmM} {x1 : Int} (h : mmT bX12_chance d 0 0 (mQ 0 P) 0 [(2, 65), (0, x1)] [] mS mem) : con 0 bX12_chance d [(2, 65), (0, x1)] mem P := mmC_of [(2, 65), (0, x1)] ok_X12_chance.2.2.2.2 rfl (Nat.le_of_ble_eq_true rfl) h
theorem bk_X12_chance_0 {d : Nat} {d1 : Nat} {P1 : Int → mmM → Prop} {P : Int → mmM → Prop} {mem : mmM} {x1 : Int}
  (c1 : (0 < (mem 65 27) ∧ 1 ≤ x1 ∧ x1 ≤ 200) → con 0 bX12_chanceOf d1 [(2, 65), (0, x1), (0, (-1))] mem P1)
  (q1 : ¬ (0 < (mem 65 27) ∧ 1 ≤ x1 ∧ x1 ≤ 200) → P (-1) mem)
  (q2 : (0 < (mem 65 27) ∧ 1 ≤ x1 ∧ x1 ≤ 200) → ∀ (v2 : Int), ∀ (m2 : mmM), P1 v2 m2 → P v2 m2)
  (hd_d1 : d1 + 1 ≤ d := by omega)
  (hd3 : 3 ≤ d := by omega)
  (s1 : R32 x1 := by intros; first | omega | assumption | solve_by_elim)
  : mmT bX12_chance d 0 0 (mQ 0 P) 0 [(2, 65), (0, x1)] [] mS mem := by
  refine st_aload_n (i := 0) rfl (t := 0) rfl (by decide) dX12_chance_0 ?_
  refine st_iload_n (i := 1) rfl rfl dX12_chance_1 ?_
  refine st_callV (kc2 := 0) (ks2 := 0) (av := [(0, x1)]) 65 11 mr_X12_408 ok_X12_isMost (c_X12_isMost mem x1 (s1)) rfl sh_65 ⟨_, rfl, rfl, by decide⟩ rfl rfl hd3 (Nat.le_refl 0) (Nat.le_refl 0) (Nat.le_of_ble_eq_true rfl) dX12_chance_2 (mQ.elim fun v1 m1 hp => ?_)
  obtain ⟨hpv, hpm⟩ := hp
  subst hpv
  have hpm := hpm.symm
  subst hpm
  refine so_ifeqB 17 (by decide) dX12_chance_5 (fun h1 => ?_) (fun h1 => ?_)
  · have h1 : ¬ (0 < (mem 65 27) ∧ 1 ≤ x1 ∧ x1 ≤ 200) := h1
    refine st_iconst dX12_chance_17 ?_
    exact st_ireturn rfl dX12_chance_18 (mQ.ret (q1 h1))
  · have h1 : (0 < (mem 65 27) ∧ 1 ≤ x1 ∧ x1 ≤ 200) := h1
    refine st_aload_n (i := 0) rfl (t := 0) rfl (by decide) dX12_chance_8 ?_
    refine st_iload_n (i := 1) rfl rfl dX12_chance_9 ?_
    refine st_iconst dX12_chance_10 ?_
    refine st_callV (kc2 := 0) (ks2 := 0) (av := [(0, x1), (0, (-1))]) 65 11 mr_X12_411 ok_X12_chanceOf (c1 h1) rfl sh_65 ⟨_, rfl, rfl, by decide⟩ rfl rfl hd_d1 (Nat.le_refl 0) (Nat.le_refl 0) (Nat.le_of_ble_eq_true rfl) dX12_chance_11 (mQ.elim fun v2 m2 p1 => ?_)
    refine st_goto 18 (by decide) dX12_chance_14 ?_
    exact st_ireturn rfl dX12_chance_18 (mQ.ret (q2 h1 v2 m2 p1))
theorem cn_X12_mean {d : Nat} {P : Int → mmM → Prop} {mem : mmM} {x1 x2 : Int} (h : mmT bX12_mean d 0 0 (mQ 0 P) 0 [(2, 65), (0, x1), (0, x2)] [] mS mem) : con 0 bX12_mean d [(2, 65), (0, x1), (0, x2)] mem P := mmC_of [(2, 65), (0, x1), (0, x2)] ok_X12_mean.2.2.2.2 rfl (Nat.le_of_ble_eq_true rfl) h
theorem bk_X12_mean_0 {d : Nat} {d1 : Nat} {P1 : Int → mmM → Prop} {P : Int → mmM → Prop} {mem : mmM} {x1 x2 : Int}
  (c1 : (0 < (mem 65 27) ∧ 1 ≤ x2 ∧ x2 ≤ 200) → (0 ≤ x1 ∧ x1 ≤ (mem 65 27) - 1) → con 0 bX12_chanceOf d1 [(2, 65), (0, x2), (0, (-1))] mem P1)
  (q1 : ¬ (0 < (mem 65 27) ∧ 1 ≤ x2 ∧ x2 ≤ 200) → P (-1) mem)
  (q2 : (0 < (mem 65 27) ∧ 1 ≤ x2 ∧ x2 ≤ 200) → (0 ≤ x1 ∧ x1 ≤ (mem 65 27) - 1) → ∀ (v3 : Int), ∀ (m3 : mmM), P1 v3 m3 → P (m3 93 x1) m3)
  (q3 : (0 < (mem 65 27) ∧ 1 ≤ x2 ∧ x2 ≤ 200) → ¬ (0 ≤ x1 ∧ x1 ≤ (mem 65 27) - 1) → P (-1) mem)
  (hd_d1 : d1 + 1 ≤ d := by omega)
  (hd3 : 3 ≤ d := by omega)
  (s1 : R32 x2 := by intros; first | omega | assumption | solve_by_elim)
  (s2 : (0 < (mem 65 27) ∧ 1 ≤ x2 ∧ x2 ≤ 200) → R32 x1 := by intros; first | omega | assumption | solve_by_elim)
  (s3 : (0 < (mem 65 27) ∧ 1 ≤ x2 ∧ x2 ≤ 200) → R32 ((mem 65 27) - 1) := by intros; first | omega | assumption | solve_by_elim)
  (s4 : (0 < (mem 65 27) ∧ 1 ≤ x2 ∧ x2 ≤ 200) → (0 ≤ x1 ∧ x1 ≤ (mem 65 27) - 1) → ∀ (v3 : Int), ∀ (m3 : mmM), P1 v3 m3 → 0 ≤ x1 ∧ x1 < 24 := by intros; first | omega | assumption | solve_by_elim)
  : mmT bX12_mean d 0 0 (mQ 0 P) 0 [(2, 65), (0, x1), (0, x2)] [] mS mem := by
  refine st_aload_n (i := 0) rfl (t := 0) rfl (by decide) dX12_mean_0 ?_
  refine st_iload_n (i := 2) rfl rfl dX12_mean_1 ?_
  refine st_callV (kc2 := 0) (ks2 := 0) (av := [(0, x2)]) 65 11 mr_X12_408 ok_X12_isMost (c_X12_isMost mem x2 (s1)) rfl sh_65 ⟨_, rfl, rfl, by decide⟩ rfl rfl hd3 (Nat.le_refl 0) (Nat.le_refl 0) (Nat.le_of_ble_eq_true rfl) dX12_mean_2 (mQ.elim fun v1 m1 hp => ?_)
  obtain ⟨hpv, hpm⟩ := hp
  subst hpv
  have hpm := hpm.symm
  subst hpm
  refine so_ifeqB 16 (by decide) dX12_mean_5 (fun h1 => ?_) (fun h1 => ?_)
  · have h1 : ¬ (0 < (mem 65 27) ∧ 1 ≤ x2 ∧ x2 ≤ 200) := h1
    refine st_iconst dX12_mean_16 ?_
    exact st_ireturn rfl dX12_mean_17 (mQ.ret (q1 h1))
  · have h1 : (0 < (mem 65 27) ∧ 1 ≤ x2 ∧ x2 ≤ 200) := h1
    refine st_aload_n (i := 0) rfl (t := 0) rfl (by decide) dX12_mean_8 ?_
    refine st_iload_n (i := 1) rfl rfl dX12_mean_9 ?_
    refine st_callV (kc2 := 0) (ks2 := 0) (av := [(0, x1)]) 65 11 mr_X12_317 ok_X12_isSpeech (c_X12_isSpeech mem x1 ((s2 h1)) ((s3 h1))) rfl sh_65 ⟨_, rfl, rfl, by decide⟩ rfl rfl hd3 (Nat.le_refl 0) (Nat.le_refl 0) (Nat.le_of_ble_eq_true rfl) dX12_mean_10 (mQ.elim fun v2 m2 hp => ?_)
    obtain ⟨hpv, hpm⟩ := hp
    subst hpv
    have hpm := hpm.symm
    subst hpm
    refine so_ifneB 18 (by decide) dX12_mean_13 (fun h2 => ?_) (fun h2 => ?_)
    · have h2 : (0 ≤ x1 ∧ x1 ≤ (mem 65 27) - 1) := h2
      refine st_aload_n (i := 0) rfl (t := 0) rfl (by decide) dX12_mean_18 ?_
      refine st_iload_n (i := 2) rfl rfl dX12_mean_19 ?_
      refine st_iconst dX12_mean_20 ?_
      refine st_callV (kc2 := 0) (ks2 := 0) (av := [(0, x2), (0, (-1))]) 65 11 mr_X12_411 ok_X12_chanceOf (c1 h1 h2) rfl sh_65 ⟨_, rfl, rfl, by decide⟩ rfl rfl hd_d1 (Nat.le_refl 0) (Nat.le_refl 0) (Nat.le_of_ble_eq_true rfl) dX12_mean_21 (mQ.elim fun v3 m3 p1 => ?_)
      refine st_pop (Nat.ne_of_beq_eq_false rfl) dX12_mean_24 ?_
      refine st_aload_n (i := 0) rfl (t := 0) rfl (by decide) dX12_mean_25 ?_
      refine so_getA 65 51 fr_X12_96_11 rfl sh_65 fx_65_51 dX12_mean_26 ?_
      refine st_iload_n (i := 1) rfl rfl dX12_mean_29 ?_
      refine so_lald (v := (m3 93 x1)) 93 rfl sh_93 (by decide) (s4 h1 h2 v3 m3 p1) rfl dX12_mean_30 (fun r1 => ?_)
      refine st_l2i dX12_mean_31 ?_
      exact st_ireturn rfl dX12_mean_32 (mQ.ret (q2 h1 h2 v3 m3 p1))
    · have h2 : ¬ (0 ≤ x1 ∧ x1 ≤ (mem 65 27) - 1) := h2
      refine st_iconst dX12_mean_16 ?_
      exact st_ireturn rfl dX12_mean_17 (mQ.ret (q3 h1 h2))
theorem cn_X12_visits {d : Nat} {P : Int → mmM → Prop} {mem : mmM} {x1 x2 : Int} (h : mmT bX12_visits d 0 0 (mQ 1 P) 0 [(2, 65), (0, x1), (0, x2)] [] mS mem) : con 1 bX12_visits d [(2, 65), (0, x1), (0, x2)] mem P := mmC_of [(2, 65), (0, x1), (0, x2)] ok_X12_visits.2.2.2.2 rfl (Nat.le_of_ble_eq_true rfl) h
theorem bk_X12_visits_0 {d : Nat} {d1 : Nat} {P1 : Int → mmM → Prop} {P : Int → mmM → Prop} {mem : mmM} {x1 x2 : Int}
  (c1 : (0 < (mem 65 27) ∧ 1 ≤ x2 ∧ x2 ≤ 200) → (0 ≤ x1 ∧ x1 ≤ (mem 65 27) - 1) → con 0 bX12_chanceOf d1 [(2, 65), (0, x2), (0, (-1))] mem P1)
  (q1 : ¬ (0 < (mem 65 27) ∧ 1 ≤ x2 ∧ x2 ≤ 200) → P (-1) mem)
  (q2 : (0 < (mem 65 27) ∧ 1 ≤ x2 ∧ x2 ≤ 200) → (0 ≤ x1 ∧ x1 ≤ (mem 65 27) - 1) → ∀ (v3 : Int), ∀ (m3 : mmM), P1 v3 m3 → P (m3 94 x1) m3)
  (q3 : (0 < (mem 65 27) ∧ 1 ≤ x2 ∧ x2 ≤ 200) → ¬ (0 ≤ x1 ∧ x1 ≤ (mem 65 27) - 1) → P (-1) mem)
  (hd_d1 : d1 + 1 ≤ d := by omega)
  (hd3 : 3 ≤ d := by omega)
  (s1 : R32 x2 := by intros; first | omega | assumption | solve_by_elim)
  (s2 : (0 < (mem 65 27) ∧ 1 ≤ x2 ∧ x2 ≤ 200) → R32 x1 := by intros; first | omega | assumption | solve_by_elim)
  (s3 : (0 < (mem 65 27) ∧ 1 ≤ x2 ∧ x2 ≤ 200) → R32 ((mem 65 27) - 1) := by intros; first | omega | assumption | solve_by_elim)
  (s4 : (0 < (mem 65 27) ∧ 1 ≤ x2 ∧ x2 ≤ 200) → (0 ≤ x1 ∧ x1 ≤ (mem 65 27) - 1) → ∀ (v3 : Int), ∀ (m3 : mmM), P1 v3 m3 → 0 ≤ x1 ∧ x1 < 24 := by intros; first | omega | assumption | solve_by_elim)
  : mmT bX12_visits d 0 0 (mQ 1 P) 0 [(2, 65), (0, x1), (0, x2)] [] mS mem := by
  refine st_aload_n (i := 0) rfl (t := 0) rfl (by decide) dX12_visits_0 ?_
  refine st_iload_n (i := 2) rfl rfl dX12_visits_1 ?_
  refine st_callV (kc2 := 0) (ks2 := 0) (av := [(0, x2)]) 65 11 mr_X12_408 ok_X12_isMost (c_X12_isMost mem x2 (s1)) rfl sh_65 ⟨_, rfl, rfl, by decide⟩ rfl rfl hd3 (Nat.le_refl 0) (Nat.le_refl 0) (Nat.le_of_ble_eq_true rfl) dX12_visits_2 (mQ.elim fun v1 m1 hp => ?_)
  obtain ⟨hpv, hpm⟩ := hp
  subst hpv
  have hpm := hpm.symm
  subst hpm
  refine so_ifeqB 16 (by decide) dX12_visits_5 (fun h1 => ?_) (fun h1 => ?_)
  · have h1 : ¬ (0 < (mem 65 27) ∧ 1 ≤ x2 ∧ x2 ≤ 200) := h1
    refine st_ldc2 cw_X12_414 dX12_visits_16 ?_
    exact st_lreturn rfl dX12_visits_19 (mQ.ret (q1 h1))
  · have h1 : (0 < (mem 65 27) ∧ 1 ≤ x2 ∧ x2 ≤ 200) := h1
    refine st_aload_n (i := 0) rfl (t := 0) rfl (by decide) dX12_visits_8 ?_
    refine st_iload_n (i := 1) rfl rfl dX12_visits_9 ?_
    refine st_callV (kc2 := 0) (ks2 := 0) (av := [(0, x1)]) 65 11 mr_X12_317 ok_X12_isSpeech (c_X12_isSpeech mem x1 ((s2 h1)) ((s3 h1))) rfl sh_65 ⟨_, rfl, rfl, by decide⟩ rfl rfl hd3 (Nat.le_refl 0) (Nat.le_refl 0) (Nat.le_of_ble_eq_true rfl) dX12_visits_10 (mQ.elim fun v2 m2 hp => ?_)
    obtain ⟨hpv, hpm⟩ := hp
    subst hpv
    have hpm := hpm.symm
    subst hpm
    refine so_ifneB 20 (by decide) dX12_visits_13 (fun h2 => ?_) (fun h2 => ?_)
    · have h2 : (0 ≤ x1 ∧ x1 ≤ (mem 65 27) - 1) := h2
      refine st_aload_n (i := 0) rfl (t := 0) rfl (by decide) dX12_visits_20 ?_
      refine st_iload_n (i := 2) rfl rfl dX12_visits_21 ?_
      refine st_iconst dX12_visits_22 ?_
      refine st_callV (kc2 := 0) (ks2 := 0) (av := [(0, x2), (0, (-1))]) 65 11 mr_X12_411 ok_X12_chanceOf (c1 h1 h2) rfl sh_65 ⟨_, rfl, rfl, by decide⟩ rfl rfl hd_d1 (Nat.le_refl 0) (Nat.le_refl 0) (Nat.le_of_ble_eq_true rfl) dX12_visits_23 (mQ.elim fun v3 m3 p1 => ?_)
      refine st_pop (Nat.ne_of_beq_eq_false rfl) dX12_visits_26 ?_
      refine st_aload_n (i := 0) rfl (t := 0) rfl (by decide) dX12_visits_27 ?_
      refine so_getA 65 52 fr_X12_99_11 rfl sh_65 fx_65_52 dX12_visits_28 ?_
      refine st_iload_n (i := 1) rfl rfl dX12_visits_31 ?_
      refine so_lald (v := (m3 94 x1)) 94 rfl sh_94 (by decide) (s4 h1 h2 v3 m3 p1) rfl dX12_visits_32 (fun r1 => ?_)
      exact st_lreturn rfl dX12_visits_33 (mQ.ret (q2 h1 h2 v3 m3 p1))
    · have h2 : ¬ (0 ≤ x1 ∧ x1 ≤ (mem 65 27) - 1) := h2
      refine st_ldc2 cw_X12_414 dX12_visits_16 ?_
      exact st_lreturn rfl dX12_visits_19 (mQ.ret (q3 h1 h2))
theorem cn_X12_could {d : Nat} {P : Int → mmM → Prop} {mem : mmM} {x1 : Int} (h : mmT bX12_could d 0 0 (mQ 0 P) 0 [(2, 65), (0, x1)] [] mS mem) : con 0 bX12_could d [(2, 65), (0, x1)] mem P := mmC_of [(2, 65), (0, x1)] ok_X12_could.2.2.2.2 rfl (Nat.le_of_ble_eq_true rfl) h
theorem bk_X12_could_0 {d : Nat} {P : Int → mmM → Prop} {mem : mmM} {x1 : Int}
  (q1 : ¬ (0 ≤ x1 ∧ x1 ≤ (mem 65 27) - 1) → P (-1) mem)
  (q2 : (0 ≤ x1 ∧ x1 ≤ (mem 65 27) - 1) → (and32 (shr32 (mem 65 32) x1) 1 = 1) → P (-1) mem)
  (q3 : (0 ≤ x1 ∧ x1 ≤ (mem 65 27) - 1) → ¬ (and32 (shr32 (mem 65 32) x1) 1 = 1) → ¬ (bcS (mem 65 32)) = 10 → P (bcS (or32 (mem 65 32) (shl32 1 x1))) (mset mem 65 32 (or32 (mem 65 32) (shl32 1 x1))))
  (q4 : (0 ≤ x1 ∧ x1 ≤ (mem 65 27) - 1) → ¬ (and32 (shr32 (mem 65 32) x1) 1 = 1) → (bcS (mem 65 32)) = 10 → P (-1) mem)
  (hd2 : 2 ≤ d := by omega)
  (hd3 : 3 ≤ d := by omega)
  (s1 : R32 x1 := by intros; first | omega | assumption | solve_by_elim)
  (s2 : R32 ((mem 65 27) - 1) := by intros; first | omega | assumption | solve_by_elim)
  : mmT bX12_could d 0 0 (mQ 0 P) 0 [(2, 65), (0, x1)] [] mS mem := by
  refine st_aload_n (i := 0) rfl (t := 0) rfl (by decide) dX12_could_0 ?_
  refine st_iload_n (i := 1) rfl rfl dX12_could_1 ?_
  refine st_callV (kc2 := 0) (ks2 := 0) (av := [(0, x1)]) 65 11 mr_X12_317 ok_X12_isSpeech (c_X12_isSpeech mem x1 (s1) (s2)) rfl sh_65 ⟨_, rfl, rfl, by decide⟩ rfl rfl hd3 (Nat.le_refl 0) (Nat.le_refl 0) (Nat.le_of_ble_eq_true rfl) dX12_could_2 (mQ.elim fun v1 m1 hp => ?_)
  obtain ⟨hpv, hpm⟩ := hp
  subst hpv
  have hpm := hpm.symm
  subst hpm
  refine so_ifeqB 31 (by decide) dX12_could_5 (fun h1 => ?_) (fun h1 => ?_)
  · have h1 : ¬ (0 ≤ x1 ∧ x1 ≤ (mem 65 27) - 1) := h1
    refine st_iconst dX12_could_31 ?_
    exact st_ireturn rfl dX12_could_32 (mQ.ret (q1 h1))
  · have h1 : (0 ≤ x1 ∧ x1 ≤ (mem 65 27) - 1) := h1
    refine st_aload_n (i := 0) rfl (t := 0) rfl (by decide) dX12_could_8 ?_
    refine so_getI (v := (mem 65 32)) 65 32 fr_X12_281_11 rfl sh_65 rfl dX12_could_9 (fun r1 => ?_)
    refine st_iload_n (i := 1) rfl rfl dX12_could_12 ?_
    refine st_callS (kc2 := 0) (ks2 := 0) (av := [(0, (mem 65 32)), (0, x1)]) mr_X12_271 ok_X12_has (c_X12_has mem (mem 65 32) x1 ) rfl rfl hd2 (Nat.le_refl 0) (Nat.le_refl 0) (Nat.le_of_ble_eq_true rfl) dX12_could_13 (mQ.elim fun v2 m2 hp => ?_)
    obtain ⟨hpv, hpm⟩ := hp
    subst hpv
    have hpm := hpm.symm
    subst hpm
    refine so_ifneB 31 (by decide) dX12_could_16 (fun h2 => ?_) (fun h2 => ?_)
    · have h2 : (and32 (shr32 (mem 65 32) x1) 1 = 1) := h2
      refine st_iconst dX12_could_31 ?_
      exact st_ireturn rfl dX12_could_32 (mQ.ret (q2 h1 h2))
    · have h2 : ¬ (and32 (shr32 (mem 65 32) x1) 1 = 1) := h2
      refine st_aload_n (i := 0) rfl (t := 0) rfl (by decide) dX12_could_19 ?_
      refine so_getI (v := (mem 65 32)) 65 32 fr_X12_281_11 rfl sh_65 rfl dX12_could_20 (fun r2 => ?_)
      refine st_callS (kc2 := 0) (ks2 := 0) (av := [(0, (mem 65 32))]) mr_X12_245 ok_J6_bitCount_0f7a4 (c_bitCount mem (mem 65 32) ) rfl rfl hd2 (Nat.le_refl 0) (Nat.le_refl 0) (Nat.le_of_ble_eq_true rfl) dX12_could_23 (mQ.elim fun v3 m3 hp => ?_)
      obtain ⟨hpv, hpm⟩ := hp
      subst hpv
      have hpm := hpm.symm
      subst hpm
      refine st_bipush rfl dX12_could_26 ?_
      refine sr_icmp_ne 33 (bcS_rng (mem 65 32)) ⟨by decide, by decide⟩ (by decide) dX12_could_28 (fun h3 => ?_) (fun h3 => ?_)
      · have h3 : ¬ (bcS (mem 65 32)) = 10 := by omega
        refine st_aload_n (i := 0) rfl (t := 0) rfl (by decide) dX12_could_33 ?_
        refine st_dup (Nat.ne_of_beq_eq_false rfl) dX12_could_34 ?_
        refine so_getI (v := (mem 65 32)) 65 32 fr_X12_281_11 rfl sh_65 rfl dX12_could_35 (fun r3 => ?_)
        refine st_iconst dX12_could_38 ?_
        refine st_iload_n (i := 1) rfl rfl dX12_could_39 ?_
        refine st_ishl dX12_could_40 ?_
        refine st_ior dX12_could_41 ?_
        refine so_putI 65 32 fr_X12_281_11 pf_11_32 fo_65_32 rfl sh_65 (or32_rng (mem 65 32) (shl32 1 x1)) dX12_could_42 ?_
        refine st_aload_n (i := 0) rfl (t := 0) rfl (by decide) dX12_could_45 ?_
        refine so_getI (v := (or32 (mem 65 32) (shl32 1 x1))) 65 32 fr_X12_281_11 rfl sh_65 rfl dX12_could_46 (fun r4 => ?_)
        refine st_callS (kc2 := 0) (ks2 := 0) (av := [(0, (or32 (mem 65 32) (shl32 1 x1)))]) mr_X12_245 ok_J6_bitCount_0f7a4 (c_bitCount (mset mem 65 32 (or32 (mem 65 32) (shl32 1 x1))) (or32 (mem 65 32) (shl32 1 x1)) ) rfl rfl hd2 (Nat.le_refl 0) (Nat.le_refl 0) (Nat.le_of_ble_eq_true rfl) dX12_could_49 (mQ.elim fun v4 m4 hp => ?_)
        obtain ⟨hpv, hpm⟩ := hp
        subst hpv
        have hpm := hpm.symm
        subst hpm
        exact st_ireturn rfl dX12_could_52 (mQ.ret (q3 h1 h2 h3))
      · have h3 : (bcS (mem 65 32)) = 10 := by omega
        refine st_iconst dX12_could_31 ?_
        exact st_ireturn rfl dX12_could_32 (mQ.ret (q4 h1 h2 h3))
theorem cn_X12_understudy {d : Nat} {P : Int → mmM → Prop} {mem : mmM} {x1 x2 : Int} (h : mmT bX12_understudy d 0 0 (mQ 0 P) 0 [(2, 65), (0, x1), (0, x2), (9, 0), (9, 0), (9, 0), (9, 0)] [] mS mem) : con 0 bX12_understudy d [(2, 65), (0, x1), (0, x2)] mem P := mmC_of [(2, 65), (0, x1), (0, x2), (9, 0), (9, 0), (9, 0), (9, 0)] ok_X12_understudy.2.2.2.2 rfl (Nat.le_of_ble_eq_true rfl) h
theorem bk_X12_understudy_0 {d : Nat} {P : Int → mmM → Prop} {mem : mmM} {x1 x2 : Int}
  (k1 : (0 < (mem 65 27) ∧ 1 ≤ x1 ∧ x1 ≤ 200) → (0 ≤ x2 ∧ x2 ≤ 1) → mmT bX12_understudy d 0 0 (mQ 0 P) 27 [(2, 65), (0, x1), (0, x2), (0, (-1)), (0, 0), (0, 0), (9, 0)] [] mS mem)
  (q1 : ¬ (0 < (mem 65 27) ∧ 1 ≤ x1 ∧ x1 ≤ 200) → P (-1) mem)
  (q2 : (0 < (mem 65 27) ∧ 1 ≤ x1 ∧ x1 ≤ 200) → ¬ (0 ≤ x2 ∧ x2 ≤ 1) → P (-1) mem)
  (hd2 : 2 ≤ d := by omega)
  (hd3 : 3 ≤ d := by omega)
  (s1 : R32 x1 := by intros; first | omega | assumption | solve_by_elim)
  (s2 : (0 < (mem 65 27) ∧ 1 ≤ x1 ∧ x1 ≤ 200) → R32 x2 := by intros; first | omega | assumption | solve_by_elim)
  : mmT bX12_understudy d 0 0 (mQ 0 P) 0 [(2, 65), (0, x1), (0, x2), (9, 0), (9, 0), (9, 0), (9, 0)] [] mS mem := by
  refine st_aload_n (i := 0) rfl (t := 0) rfl (by decide) dX12_understudy_0 ?_
  refine st_iload_n (i := 1) rfl rfl dX12_understudy_1 ?_
  refine st_callV (kc2 := 0) (ks2 := 0) (av := [(0, x1)]) 65 11 mr_X12_408 ok_X12_isMost (c_X12_isMost mem x1 (s1)) rfl sh_65 ⟨_, rfl, rfl, by decide⟩ rfl rfl hd3 (Nat.le_refl 0) (Nat.le_refl 0) (Nat.le_of_ble_eq_true rfl) dX12_understudy_2 (mQ.elim fun v1 m1 hp => ?_)
  obtain ⟨hpv, hpm⟩ := hp
  subst hpv
  have hpm := hpm.symm
  subst hpm
  refine so_ifeqB 17 (by decide) dX12_understudy_5 (fun h1 => ?_) (fun h1 => ?_)
  · have h1 : ¬ (0 < (mem 65 27) ∧ 1 ≤ x1 ∧ x1 ≤ 200) := h1
    refine st_iconst dX12_understudy_17 ?_
    exact st_ireturn rfl dX12_understudy_18 (mQ.ret (q1 h1))
  · have h1 : (0 < (mem 65 27) ∧ 1 ≤ x1 ∧ x1 ≤ 200) := h1
    refine st_iload_n (i := 2) rfl rfl dX12_understudy_8 ?_
    refine st_iconst dX12_understudy_9 ?_
    refine st_iconst dX12_understudy_10 ?_
    refine st_callS (kc2 := 0) (ks2 := 0) (av := [(0, x2), (0, 0), (0, 1)]) mr_X12_229 ok_X12_in (c_X12_in mem x2 0 1 ((s2 h1)) (⟨by decide, by decide⟩) (⟨by decide, by decide⟩)) rfl rfl hd2 (Nat.le_refl 0) (Nat.le_refl 0) (Nat.le_of_ble_eq_true rfl) dX12_understudy_11 (mQ.elim fun v2 m2 hp => ?_)
    obtain ⟨hpv, hpm⟩ := hp
    subst hpv
    have hpm := hpm.symm
    subst hpm
    refine so_ifneB 19 (by decide) dX12_understudy_14 (fun h2 => ?_) (fun h2 => ?_)
    · have h2 : (0 ≤ x2 ∧ x2 ≤ 1) := h2
      refine st_iconst dX12_understudy_19 ?_
      refine st_istore_n (i := 3) rfl (by decide) (lc' := [(2, 65), (0, x1), (0, x2), (0, (-1)), (9, 0), (9, 0), (9, 0)]) rfl dX12_understudy_20 ?_
      refine st_iconst dX12_understudy_21 ?_
      refine st_istore (by decide) (lc' := [(2, 65), (0, x1), (0, x2), (0, (-1)), (0, 0), (9, 0), (9, 0)]) rfl dX12_understudy_22 ?_
      refine st_iconst dX12_understudy_24 ?_
      refine st_istore (by decide) (lc' := [(2, 65), (0, x1), (0, x2), (0, (-1)), (0, 0), (0, 0), (9, 0)]) rfl dX12_understudy_25 ?_
      exact st_locals [(2, 65), (0, x1), (0, x2), (0, (-1)), (0, 0), (0, 0), (9, 0)] ⟨Or.inr rfl, Or.inr rfl, Or.inr rfl, Or.inr rfl, Or.inr rfl, Or.inr rfl, Or.inl rfl, trivial⟩ (k1 h1 h2)
    · have h2 : ¬ (0 ≤ x2 ∧ x2 ≤ 1) := h2
      refine st_iconst dX12_understudy_17 ?_
      exact st_ireturn rfl dX12_understudy_18 (mQ.ret (q2 h1 h2))
theorem bk_X12_understudy_27 {d : Nat} {d1 : Nat} {P1 : Int → mmM → Prop} {d2 : Nat} {P2 : Int → mmM → Prop} {P : Int → mmM → Prop} {mem : mmM} {x1 x2 x3 x4 x5 : Int}
  (c1 : x5 < 8 → con 0 bX12_actors d1 [(2, 65)] mem P1)
  (c2 : x5 < 8 → ∀ (v1 : Int), ∀ (m1 : mmM), P1 v1 m1 → (and32 (shr32 v1 x5) 1 = 1) → con 0 bX12_chanceOf d2 [(2, 65), (0, x1), (0, x5)] m1 P2)
  (k1 : x5 < 8 → ∀ (v1 : Int), ∀ (m1 : mmM), P1 v1 m1 → ¬ (and32 (shr32 v1 x5) 1 = 1) → mmT bX12_understudy d 0 0 (mQ 0 P) 27 [(2, 65), (0, x1), (0, x2), (0, x3), (0, x4), (0, (x5 + 1)), (9, 0)] [] mS m1)
  (k2 : x5 < 8 → ∀ (v1 : Int), ∀ (m1 : mmM), P1 v1 m1 → (and32 (shr32 v1 x5) 1 = 1) → ∀ (v3 : Int), ∀ (m3 : mmM), P2 v3 m3 → x3 = (-1) → mmT bX12_understudy d 0 0 (mQ 0 P) 27 [(2, 65), (0, x1), (0, x2), (0, x5), (0, v3), (0, (x5 + 1)), (9, 0)] [] mS m3)
  (k3 : x5 < 8 → ∀ (v1 : Int), ∀ (m1 : mmM), P1 v1 m1 → (and32 (shr32 v1 x5) 1 = 1) → ∀ (v3 : Int), ∀ (m3 : mmM), P2 v3 m3 → ¬ x3 = (-1) → v3 ≤ x4 → mmT bX12_understudy d 0 0 (mQ 0 P) 27 [(2, 65), (0, x1), (0, x2), (0, x3), (0, x4), (0, (x5 + 1)), (9, 0)] [] mS m3)
  (k4 : x5 < 8 → ∀ (v1 : Int), ∀ (m1 : mmM), P1 v1 m1 → (and32 (shr32 v1 x5) 1 = 1) → ∀ (v3 : Int), ∀ (m3 : mmM), P2 v3 m3 → ¬ x3 = (-1) → x4 < v3 → mmT bX12_understudy d 0 0 (mQ 0 P) 27 [(2, 65), (0, x1), (0, x2), (0, x5), (0, v3), (0, (x5 + 1)), (9, 0)] [] mS m3)
  (q1 : 8 ≤ x5 → ¬ x2 = 0 → P x4 mem)
  (q2 : 8 ≤ x5 → x2 = 0 → P x3 mem)
  (hd_d1 : d1 + 1 ≤ d := by omega)
  (hd_d2 : d2 + 1 ≤ d := by omega)
  (hd2 : 2 ≤ d := by omega)
  (s1 : R32 x5 := by intros; first | omega | assumption | solve_by_elim)
  (s2 : 8 ≤ x5 → R32 x2 := by intros; first | omega | assumption | solve_by_elim)
  (s3 : x5 < 8 → ∀ (v1 : Int), ∀ (m1 : mmM), P1 v1 m1 → (and32 (shr32 v1 x5) 1 = 1) → ∀ (v3 : Int), ∀ (m3 : mmM), P2 v3 m3 → R32 x3 := by intros; first | omega | assumption | solve_by_elim)
  (s4 : x5 < 8 → ∀ (v1 : Int), ∀ (m1 : mmM), P1 v1 m1 → (and32 (shr32 v1 x5) 1 = 1) → ∀ (v3 : Int), ∀ (m3 : mmM), P2 v3 m3 → ¬ x3 = (-1) → R32 v3 := by intros; first | omega | assumption | solve_by_elim)
  (s5 : x5 < 8 → ∀ (v1 : Int), ∀ (m1 : mmM), P1 v1 m1 → (and32 (shr32 v1 x5) 1 = 1) → ∀ (v3 : Int), ∀ (m3 : mmM), P2 v3 m3 → ¬ x3 = (-1) → R32 x4 := by intros; first | omega | assumption | solve_by_elim)
  : mmT bX12_understudy d 0 0 (mQ 0 P) 27 [(2, 65), (0, x1), (0, x2), (0, x3), (0, x4), (0, x5), (9, 0)] [] mS mem := by
  refine st_iload rfl dX12_understudy_27 ?_
  refine st_bipush rfl dX12_understudy_29 ?_
  refine sr_icmp_ge 80 s1 ⟨by decide, by decide⟩ (by decide) dX12_understudy_31 (fun h1 => ?_) (fun h1 => ?_)
  · have h1 : 8 ≤ x5 := by omega
    refine st_iload_n (i := 2) rfl rfl dX12_understudy_80 ?_
    refine sr_if_ne 88 (s2 h1) (by decide) dX12_understudy_81 (fun h2 => ?_) (fun h2 => ?_)
    · have h2 : ¬ x2 = 0 := by omega
      refine st_iload rfl dX12_understudy_88 ?_
      exact st_ireturn rfl dX12_understudy_90 (mQ.ret (q1 h1 h2))
    · have h2 : x2 = 0 := by omega
      refine st_iload_n (i := 3) rfl rfl dX12_understudy_84 ?_
      refine st_goto 90 (by decide) dX12_understudy_85 ?_
      exact st_ireturn rfl dX12_understudy_90 (mQ.ret (q2 h1 h2))
  · have h1 : x5 < 8 := by omega
    refine st_aload_n (i := 0) rfl (t := 0) rfl (by decide) dX12_understudy_34 ?_
    refine st_callV (kc2 := 0) (ks2 := 0) (av := []) 65 11 mr_X12_417 ok_X12_actors (c1 h1) rfl sh_65 ⟨_, rfl, rfl, by decide⟩ rfl rfl hd_d1 (Nat.le_refl 0) (Nat.le_refl 0) (Nat.le_of_ble_eq_true rfl) dX12_understudy_35 (mQ.elim fun v1 m1 p1 => ?_)
    refine st_iload rfl dX12_understudy_38 ?_
    refine st_callS (kc2 := 0) (ks2 := 0) (av := [(0, v1), (0, x5)]) mr_X12_271 ok_X12_has (c_X12_has m1 v1 x5 ) rfl rfl hd2 (Nat.le_refl 0) (Nat.le_refl 0) (Nat.le_of_ble_eq_true rfl) dX12_understudy_40 (mQ.elim fun v2 m2 hp => ?_)
    obtain ⟨hpv, hpm⟩ := hp
    subst hpv
    have hpm := hpm.symm
    subst hpm
    refine so_ifeqB 74 (by decide) dX12_understudy_43 (fun h3 => ?_) (fun h3 => ?_)
    · have h3 : ¬ (and32 (shr32 v1 x5) 1 = 1) := h3
      refine st_iinc (y := (x5 + 1)) (by decide) (i := 5) rfl rfl (lc' := [(2, 65), (0, x1), (0, x2), (0, x3), (0, x4), (0, (x5 + 1)), (9, 0)]) rfl dX12_understudy_74 ?_
      refine st_goto 27 (by decide) dX12_understudy_77 ?_
      exact st_locals [(2, 65), (0, x1), (0, x2), (0, x3), (0, x4), (0, (x5 + 1)), (9, 0)] ⟨Or.inr rfl, Or.inr rfl, Or.inr rfl, Or.inr rfl, Or.inr rfl, Or.inr rfl, Or.inl rfl, trivial⟩ (k1 h1 v1 m1 p1 h3)
    · have h3 : (and32 (shr32 v1 x5) 1 = 1) := h3
      refine st_aload_n (i := 0) rfl (t := 0) rfl (by decide) dX12_understudy_46 ?_
      refine st_iload_n (i := 1) rfl rfl dX12_understudy_47 ?_
      refine st_iload rfl dX12_understudy_48 ?_
      refine st_callV (kc2 := 0) (ks2 := 0) (av := [(0, x1), (0, x5)]) 65 11 mr_X12_411 ok_X12_chanceOf (c2 h1 v1 m1 p1 h3) rfl sh_65 ⟨_, rfl, rfl, by decide⟩ rfl rfl hd_d2 (Nat.le_refl 0) (Nat.le_refl 0) (Nat.le_of_ble_eq_true rfl) dX12_understudy_50 (mQ.elim fun v3 m3 p2 => ?_)
      refine st_istore (by decide) (lc' := [(2, 65), (0, x1), (0, x2), (0, x3), (0, x4), (0, x5), (0, v3)]) rfl dX12_understudy_53 ?_
      refine st_iload_n (i := 3) rfl rfl dX12_understudy_55 ?_
      refine st_iconst dX12_understudy_56 ?_
      refine sr_icmp_eq 67 (s3 h1 v1 m1 p1 h3 v3 m3 p2) ⟨by decide, by decide⟩ (by decide) dX12_understudy_57 (fun h4 => ?_) (fun h4 => ?_)
      · have h4 : x3 = (-1) := by omega
        refine st_iload rfl dX12_understudy_67 ?_
        refine st_istore_n (i := 3) rfl (by decide) (lc' := [(2, 65), (0, x1), (0, x2), (0, x5), (0, x4), (0, x5), (0, v3)]) rfl dX12_understudy_69 ?_
        refine st_iload rfl dX12_understudy_70 ?_
        refine st_istore (by decide) (lc' := [(2, 65), (0, x1), (0, x2), (0, x5), (0, v3), (0, x5), (0, v3)]) rfl dX12_understudy_72 ?_
        refine st_iinc (y := (x5 + 1)) (by decide) (i := 5) rfl rfl (lc' := [(2, 65), (0, x1), (0, x2), (0, x5), (0, v3), (0, (x5 + 1)), (0, v3)]) rfl dX12_understudy_74 ?_
        refine st_goto 27 (by decide) dX12_understudy_77 ?_
        exact st_locals [(2, 65), (0, x1), (0, x2), (0, x5), (0, v3), (0, (x5 + 1)), (9, 0)] ⟨Or.inr rfl, Or.inr rfl, Or.inr rfl, Or.inr rfl, Or.inr rfl, Or.inr rfl, Or.inl rfl, trivial⟩ (k2 h1 v1 m1 p1 h3 v3 m3 p2 h4)
      · have h4 : ¬ x3 = (-1) := by omega
        refine st_iload rfl dX12_understudy_60 ?_
        refine st_iload rfl dX12_understudy_62 ?_
        refine sr_icmp_le 74 (s4 h1 v1 m1 p1 h3 v3 m3 p2 h4) (s5 h1 v1 m1 p1 h3 v3 m3 p2 h4) (by decide) dX12_understudy_64 (fun h5 => ?_) (fun h5 => ?_)
        · have h5 : v3 ≤ x4 := by omega
          refine st_iinc (y := (x5 + 1)) (by decide) (i := 5) rfl rfl (lc' := [(2, 65), (0, x1), (0, x2), (0, x3), (0, x4), (0, (x5 + 1)), (0, v3)]) rfl dX12_understudy_74 ?_
          refine st_goto 27 (by decide) dX12_understudy_77 ?_
          exact st_locals [(2, 65), (0, x1), (0, x2), (0, x3), (0, x4), (0, (x5 + 1)), (9, 0)] ⟨Or.inr rfl, Or.inr rfl, Or.inr rfl, Or.inr rfl, Or.inr rfl, Or.inr rfl, Or.inl rfl, trivial⟩ (k3 h1 v1 m1 p1 h3 v3 m3 p2 h4 h5)
        · have h5 : x4 < v3 := by omega
          refine st_iload rfl dX12_understudy_67 ?_
          refine st_istore_n (i := 3) rfl (by decide) (lc' := [(2, 65), (0, x1), (0, x2), (0, x5), (0, x4), (0, x5), (0, v3)]) rfl dX12_understudy_69 ?_
          refine st_iload rfl dX12_understudy_70 ?_
          refine st_istore (by decide) (lc' := [(2, 65), (0, x1), (0, x2), (0, x5), (0, v3), (0, x5), (0, v3)]) rfl dX12_understudy_72 ?_
          refine st_iinc (y := (x5 + 1)) (by decide) (i := 5) rfl rfl (lc' := [(2, 65), (0, x1), (0, x2), (0, x5), (0, v3), (0, (x5 + 1)), (0, v3)]) rfl dX12_understudy_74 ?_
          refine st_goto 27 (by decide) dX12_understudy_77 ?_
          exact st_locals [(2, 65), (0, x1), (0, x2), (0, x5), (0, v3), (0, (x5 + 1)), (9, 0)] ⟨Or.inr rfl, Or.inr rfl, Or.inr rfl, Or.inr rfl, Or.inr rfl, Or.inr rfl, Or.inl rfl, trivial⟩ (k4 h1 v1 m1 p1 h3 v3 m3 p2 h4 h5)
theorem cn_X12_worst {d : Nat} {P : Int → mmM → Prop} {mem : mmM} {x1 : Int} (h : mmT bX12_worst d 0 0 (mQ 0 P) 0 [(2, 65), (0, x1), (9, 0), (9, 0), (9, 0), (9, 0)] [] mS mem) : con 0 bX12_worst d [(2, 65), (0, x1)] mem P := mmC_of [(2, 65), (0, x1), (9, 0), (9, 0), (9, 0), (9, 0)] ok_X12_worst.2.2.2.2 rfl (Nat.le_of_ble_eq_true rfl) h
theorem bk_X12_worst_0 {d : Nat} {P : Int → mmM → Prop} {mem : mmM} {x1 : Int}
  (k1 : (0 < (mem 65 27) ∧ 1 ≤ x1 ∧ x1 ≤ 200) → mmT bX12_worst d 0 0 (mQ 0 P) 17 [(2, 65), (0, x1), (0, (-1)), (0, 0), (0, 0), (9, 0)] [] mS mem)
  (q1 : ¬ (0 < (mem 65 27) ∧ 1 ≤ x1 ∧ x1 ≤ 200) → P (-1) mem)
  (hd3 : 3 ≤ d := by omega)
  (s1 : R32 x1 := by intros; first | omega | assumption | solve_by_elim)
  : mmT bX12_worst d 0 0 (mQ 0 P) 0 [(2, 65), (0, x1), (9, 0), (9, 0), (9, 0), (9, 0)] [] mS mem := by
  refine st_aload_n (i := 0) rfl (t := 0) rfl (by decide) dX12_worst_0 ?_
  refine st_iload_n (i := 1) rfl rfl dX12_worst_1 ?_
  refine st_callV (kc2 := 0) (ks2 := 0) (av := [(0, x1)]) 65 11 mr_X12_408 ok_X12_isMost (c_X12_isMost mem x1 (s1)) rfl sh_65 ⟨_, rfl, rfl, by decide⟩ rfl rfl hd3 (Nat.le_refl 0) (Nat.le_refl 0) (Nat.le_of_ble_eq_true rfl) dX12_worst_2 (mQ.elim fun v1 m1 hp => ?_)
  obtain ⟨hpv, hpm⟩ := hp
  subst hpv
  have hpm := hpm.symm
  subst hpm
  refine so_ifneB 10 (by decide) dX12_worst_5 (fun h1 => ?_) (fun h1 => ?_)
  · have h1 : (0 < (mem 65 27) ∧ 1 ≤ x1 ∧ x1 ≤ 200) := h1
    refine st_iconst dX12_worst_10 ?_
    refine st_istore_n (i := 2) rfl (by decide) (lc' := [(2, 65), (0, x1), (0, (-1)), (9, 0), (9, 0), (9, 0)]) rfl dX12_worst_11 ?_
    refine st_iconst dX12_worst_12 ?_
    refine st_istore_n (i := 3) rfl (by decide) (lc' := [(2, 65), (0, x1), (0, (-1)), (0, 0), (9, 0), (9, 0)]) rfl dX12_worst_13 ?_
    refine st_iconst dX12_worst_14 ?_
    refine st_istore (by decide) (lc' := [(2, 65), (0, x1), (0, (-1)), (0, 0), (0, 0), (9, 0)]) rfl dX12_worst_15 ?_
    exact st_locals [(2, 65), (0, x1), (0, (-1)), (0, 0), (0, 0), (9, 0)] ⟨Or.inr rfl, Or.inr rfl, Or.inr rfl, Or.inr rfl, Or.inr rfl, Or.inl rfl, trivial⟩ (k1 h1)
  · have h1 : ¬ (0 < (mem 65 27) ∧ 1 ≤ x1 ∧ x1 ≤ 200) := h1
    refine st_iconst dX12_worst_8 ?_
    exact st_ireturn rfl dX12_worst_9 (mQ.ret (q1 h1))
theorem bk_X12_worst_17 {d : Nat} {d1 : Nat} {P1 : Int → mmM → Prop} {P : Int → mmM → Prop} {mem : mmM} {x1 x2 x3 x4 : Int}
  (c1 : x4 < (mem 65 27) → ¬ (and32 (shr32 (mem 65 31) x4) 1 = 1) → con 0 bX12_chanceOf d1 [(2, 65), (0, x1), (0, (-1))] (mset mem 65 31 (xor32 (mem 65 31) (shl32 1 x4))) P1)
  (k1 : x4 < (mem 65 27) → (and32 (shr32 (mem 65 31) x4) 1 = 1) → mmT bX12_worst d 0 0 (mQ 0 P) 17 [(2, 65), (0, x1), (0, x2), (0, x3), (0, (x4 + 1)), (9, 0)] [] mS mem)
  (k2 : x4 < (mem 65 27) → ¬ (and32 (shr32 (mem 65 31) x4) 1 = 1) → ∀ (v2 : Int), ∀ (m2 : mmM), P1 v2 m2 → x2 = (-1) → mmT bX12_worst d 0 0 (mQ 0 P) 17 [(2, 65), (0, x1), (0, x4), (0, v2), (0, (x4 + 1)), (9, 0)] [] mS (mset m2 65 31 (xor32 (m2 65 31) (shl32 1 x4))))
  (k3 : x4 < (mem 65 27) → ¬ (and32 (shr32 (mem 65 31) x4) 1 = 1) → ∀ (v2 : Int), ∀ (m2 : mmM), P1 v2 m2 → ¬ x2 = (-1) → v2 ≤ x3 → mmT bX12_worst d 0 0 (mQ 0 P) 17 [(2, 65), (0, x1), (0, x2), (0, x3), (0, (x4 + 1)), (9, 0)] [] mS (mset m2 65 31 (xor32 (m2 65 31) (shl32 1 x4))))
  (k4 : x4 < (mem 65 27) → ¬ (and32 (shr32 (mem 65 31) x4) 1 = 1) → ∀ (v2 : Int), ∀ (m2 : mmM), P1 v2 m2 → ¬ x2 = (-1) → x3 < v2 → mmT bX12_worst d 0 0 (mQ 0 P) 17 [(2, 65), (0, x1), (0, x4), (0, v2), (0, (x4 + 1)), (9, 0)] [] mS (mset m2 65 31 (xor32 (m2 65 31) (shl32 1 x4))))
  (q1 : (mem 65 27) ≤ x4 → P x2 mem)
  (hd_d1 : d1 + 1 ≤ d := by omega)
  (hd2 : 2 ≤ d := by omega)
  (s1 : R32 x4 := by intros; first | omega | assumption | solve_by_elim)
  (s2 : x4 < (mem 65 27) → ¬ (and32 (shr32 (mem 65 31) x4) 1 = 1) → ∀ (v2 : Int), ∀ (m2 : mmM), P1 v2 m2 → R32 x2 := by intros; first | omega | assumption | solve_by_elim)
  (s3 : x4 < (mem 65 27) → ¬ (and32 (shr32 (mem 65 31) x4) 1 = 1) → ∀ (v2 : Int), ∀ (m2 : mmM), P1 v2 m2 → ¬ x2 = (-1) → R32 v2 := by intros; first | omega | assumption | solve_by_elim)
  (s4 : x4 < (mem 65 27) → ¬ (and32 (shr32 (mem 65 31) x4) 1 = 1) → ∀ (v2 : Int), ∀ (m2 : mmM), P1 v2 m2 → ¬ x2 = (-1) → R32 x3 := by intros; first | omega | assumption | solve_by_elim)
  : mmT bX12_worst d 0 0 (mQ 0 P) 17 [(2, 65), (0, x1), (0, x2), (0, x3), (0, x4), (9, 0)] [] mS mem := by
  refine st_iload rfl dX12_worst_17 ?_
  refine st_aload_n (i := 0) rfl (t := 0) rfl (by decide) dX12_worst_19 ?_
  refine so_getI (v := (mem 65 27)) 65 27 fr_X12_268_11 rfl sh_65 rfl dX12_worst_20 (fun r1 => ?_)
  refine sr_icmp_ge 95 s1 r1 (by decide) dX12_worst_23 (fun h1 => ?_) (fun h1 => ?_)
  · have h1 : (mem 65 27) ≤ x4 := by omega
    refine st_iload_n (i := 2) rfl rfl dX12_worst_95 ?_
    exact st_ireturn rfl dX12_worst_96 (mQ.ret (q1 h1))
  · have h1 : x4 < (mem 65 27) := by omega
    refine st_aload_n (i := 0) rfl (t := 0) rfl (by decide) dX12_worst_26 ?_
    refine so_getI (v := (mem 65 31)) 65 31 fr_X12_275_11 rfl sh_65 rfl dX12_worst_27 (fun r2 => ?_)
    refine st_iload rfl dX12_worst_30 ?_
    refine st_callS (kc2 := 0) (ks2 := 0) (av := [(0, (mem 65 31)), (0, x4)]) mr_X12_271 ok_X12_has (c_X12_has mem (mem 65 31) x4 ) rfl rfl hd2 (Nat.le_refl 0) (Nat.le_refl 0) (Nat.le_of_ble_eq_true rfl) dX12_worst_32 (mQ.elim fun v1 m1 hp => ?_)
    obtain ⟨hpv, hpm⟩ := hp
    subst hpv
    have hpm := hpm.symm
    subst hpm
    refine so_ifneB 89 (by decide) dX12_worst_35 (fun h2 => ?_) (fun h2 => ?_)
    · have h2 : (and32 (shr32 (mem 65 31) x4) 1 = 1) := h2
      refine st_iinc (y := (x4 + 1)) (by decide) (i := 4) rfl rfl (lc' := [(2, 65), (0, x1), (0, x2), (0, x3), (0, (x4 + 1)), (9, 0)]) rfl dX12_worst_89 ?_
      refine st_goto 17 (by decide) dX12_worst_92 ?_
      exact st_locals [(2, 65), (0, x1), (0, x2), (0, x3), (0, (x4 + 1)), (9, 0)] ⟨Or.inr rfl, Or.inr rfl, Or.inr rfl, Or.inr rfl, Or.inr rfl, Or.inl rfl, trivial⟩ (k1 h1 h2)
    · have h2 : ¬ (and32 (shr32 (mem 65 31) x4) 1 = 1) := h2
      refine st_aload_n (i := 0) rfl (t := 0) rfl (by decide) dX12_worst_38 ?_
      refine st_dup (Nat.ne_of_beq_eq_false rfl) dX12_worst_39 ?_
      refine so_getI (v := (mem 65 31)) 65 31 fr_X12_275_11 rfl sh_65 rfl dX12_worst_40 (fun r3 => ?_)
      refine st_iconst dX12_worst_43 ?_
      refine st_iload rfl dX12_worst_44 ?_
      refine st_ishl dX12_worst_46 ?_
      refine st_ixor dX12_worst_47 ?_
      refine so_putI 65 31 fr_X12_275_11 pf_11_31 fo_65_31 rfl sh_65 (xor32_rng (mem 65 31) (shl32 1 x4)) dX12_worst_48 ?_
      refine st_aload_n (i := 0) rfl (t := 0) rfl (by decide) dX12_worst_51 ?_
      refine st_iload_n (i := 1) rfl rfl dX12_worst_52 ?_
      refine st_iconst dX12_worst_53 ?_
      refine st_callV (kc2 := 0) (ks2 := 0) (av := [(0, x1), (0, (-1))]) 65 11 mr_X12_411 ok_X12_chanceOf (c1 h1 h2) rfl sh_65 ⟨_, rfl, rfl, by decide⟩ rfl rfl hd_d1 (Nat.le_refl 0) (Nat.le_refl 0) (Nat.le_of_ble_eq_true rfl) dX12_worst_54 (mQ.elim fun v2 m2 p1 => ?_)
      refine st_istore (by decide) (lc' := [(2, 65), (0, x1), (0, x2), (0, x3), (0, x4), (0, v2)]) rfl dX12_worst_57 ?_
      refine st_aload_n (i := 0) rfl (t := 0) rfl (by decide) dX12_worst_59 ?_
      refine st_dup (Nat.ne_of_beq_eq_false rfl) dX12_worst_60 ?_
      refine so_getI (v := (m2 65 31)) 65 31 fr_X12_275_11 rfl sh_65 rfl dX12_worst_61 (fun r4 => ?_)
      refine st_iconst dX12_worst_64 ?_
      refine st_iload rfl dX12_worst_65 ?_
      refine st_ishl dX12_worst_67 ?_
      refine st_ixor dX12_worst_68 ?_
      refine so_putI 65 31 fr_X12_275_11 pf_11_31 fo_65_31 rfl sh_65 (xor32_rng (m2 65 31) (shl32 1 x4)) dX12_worst_69 ?_
      refine st_iload_n (i := 2) rfl rfl dX12_worst_72 ?_
      refine st_iconst dX12_worst_73 ?_
      refine sr_icmp_eq 83 (s2 h1 h2 v2 m2 p1) ⟨by decide, by decide⟩ (by decide) dX12_worst_74 (fun h3 => ?_) (fun h3 => ?_)
      · have h3 : x2 = (-1) := by omega
        refine st_iload rfl dX12_worst_83 ?_
        refine st_istore_n (i := 2) rfl (by decide) (lc' := [(2, 65), (0, x1), (0, x4), (0, x3), (0, x4), (0, v2)]) rfl dX12_worst_85 ?_
        refine st_iload rfl dX12_worst_86 ?_
        refine st_istore_n (i := 3) rfl (by decide) (lc' := [(2, 65), (0, x1), (0, x4), (0, v2), (0, x4), (0, v2)]) rfl dX12_worst_88 ?_
        refine st_iinc (y := (x4 + 1)) (by decide) (i := 4) rfl rfl (lc' := [(2, 65), (0, x1), (0, x4), (0, v2), (0, (x4 + 1)), (0, v2)]) rfl dX12_worst_89 ?_
        refine st_goto 17 (by decide) dX12_worst_92 ?_
        exact st_locals [(2, 65), (0, x1), (0, x4), (0, v2), (0, (x4 + 1)), (9, 0)] ⟨Or.inr rfl, Or.inr rfl, Or.inr rfl, Or.inr rfl, Or.inr rfl, Or.inl rfl, trivial⟩ (k2 h1 h2 v2 m2 p1 h3)
      · have h3 : ¬ x2 = (-1) := by omega
        refine st_iload rfl dX12_worst_77 ?_
        refine st_iload_n (i := 3) rfl rfl dX12_worst_79 ?_
        refine sr_icmp_le 89 (s3 h1 h2 v2 m2 p1 h3) (s4 h1 h2 v2 m2 p1 h3) (by decide) dX12_worst_80 (fun h4 => ?_) (fun h4 => ?_)
        · have h4 : v2 ≤ x3 := by omega
          refine st_iinc (y := (x4 + 1)) (by decide) (i := 4) rfl rfl (lc' := [(2, 65), (0, x1), (0, x2), (0, x3), (0, (x4 + 1)), (0, v2)]) rfl dX12_worst_89 ?_
          refine st_goto 17 (by decide) dX12_worst_92 ?_
          exact st_locals [(2, 65), (0, x1), (0, x2), (0, x3), (0, (x4 + 1)), (9, 0)] ⟨Or.inr rfl, Or.inr rfl, Or.inr rfl, Or.inr rfl, Or.inr rfl, Or.inl rfl, trivial⟩ (k3 h1 h2 v2 m2 p1 h3 h4)
        · have h4 : x3 < v2 := by omega
          refine st_iload rfl dX12_worst_83 ?_
          refine st_istore_n (i := 2) rfl (by decide) (lc' := [(2, 65), (0, x1), (0, x4), (0, x3), (0, x4), (0, v2)]) rfl dX12_worst_85 ?_
          refine st_iload rfl dX12_worst_86 ?_
          refine st_istore_n (i := 3) rfl (by decide) (lc' := [(2, 65), (0, x1), (0, x4), (0, v2), (0, x4), (0, v2)]) rfl dX12_worst_88 ?_
          refine st_iinc (y := (x4 + 1)) (by decide) (i := 4) rfl rfl (lc' := [(2, 65), (0, x1), (0, x4), (0, v2), (0, (x4 + 1)), (0, v2)]) rfl dX12_worst_89 ?_
          refine st_goto 17 (by decide) dX12_worst_92 ?_
          exact st_locals [(2, 65), (0, x1), (0, x4), (0, v2), (0, (x4 + 1)), (9, 0)] ⟨Or.inr rfl, Or.inr rfl, Or.inr rfl, Or.inr rfl, Or.inr rfl, Or.inl rfl, trivial⟩ (k4 h1 h2 v2 m2 p1 h3 h4)
theorem c_X12_chance (mem : mmM) (FM : Int → Int → Int) (x1 : Int) (h1 : R32 x1) (hp : playM mem) (ht : takeM mem) (hF : forgS mem FM) : con 0 bX12_chance 10 [(2, 65), (0, x1)] mem (fun v m => v = (if 0 < mem 65 27 ∧ 1 ≤ x1 ∧ x1 ≤ 200 then (EM mem FM (mem 65 31) (-1) x1).2.1 else -1) ∧ chFr mem m) := by
  refine cn_X12_chance (bk_X12_chance_0 (fun g => ch_now mem FM x1 (-1) hp g.1 ht hF (by omega) (by omega)) (fun g => ⟨?_, fun a _ _ _ => rfl⟩) (fun g v m q => ⟨?_, q.2.1⟩))
  · rw [if_neg g]
  · rw [if_pos g]
    exact q.1
theorem c_X12_mean (mem : mmM) (FM : Int → Int → Int) (x1 x2 : Int) (h1 : R32 x1) (h2 : R32 x2) (hp : playM mem) (ht : takeM mem) (hF : forgS mem FM) : con 0 bX12_mean 10 [(2, 65), (0, x1), (0, x2)] mem (fun v m => v = (if (0 ≤ x1 ∧ x1 < mem 65 27) ∧ 1 ≤ x2 ∧ x2 ≤ 200 then (EM mem FM (mem 65 31) (-1) x2).2.2.1 x1 else -1) ∧ chFr mem m) := by
  have hn := hp.1
  refine cn_X12_mean (bk_X12_mean_0 (fun g g2 => ch_now mem FM x2 (-1) hp g.1 ht hF (by omega) (by omega)) (fun g => ⟨?_, fun a _ _ _ => rfl⟩) (fun g g2 v m q => ⟨?_, q.2.1⟩) (fun g g2 => ⟨?_, fun a _ _ _ => rfl⟩))
  · rw [if_neg (by omega)]
  · rw [if_pos (by omega)]
    exact (q.2.2 x1 g2.1 (by omega)).1
  · rw [if_neg (by omega)]
theorem c_X12_visits (mem : mmM) (FM : Int → Int → Int) (x1 x2 : Int) (h1 : R32 x1) (h2 : R32 x2) (hp : playM mem) (ht : takeM mem) (hF : forgS mem FM) : con 1 bX12_visits 10 [(2, 65), (0, x1), (0, x2)] mem (fun v m => v = (if (0 ≤ x1 ∧ x1 < mem 65 27) ∧ 1 ≤ x2 ∧ x2 ≤ 200 then (EM mem FM (mem 65 31) (-1) x2).2.2.2 x1 else -1) ∧ chFr mem m) := by
  have hn := hp.1
  refine cn_X12_visits (bk_X12_visits_0 (fun g g2 => ch_now mem FM x2 (-1) hp g.1 ht hF (by omega) (by omega)) (fun g => ⟨?_, fun a _ _ _ => rfl⟩) (fun g g2 v m q => ⟨?_, q.2.1⟩) (fun g g2 => ⟨?_, fun a _ _ _ => rfl⟩))
  · rw [if_neg (by omega)]
  · rw [if_pos (by omega)]
    exact (q.2.2 x1 g2.1 (by omega)).2
  · rw [if_neg (by omega)]
theorem c_X12_could (mem : mmM) (x1 : Int) (h1 : R32 x1) (hn : 0 ≤ mem 65 27 ∧ mem 65 27 ≤ 24) : con 0 bX12_could 3 [(2, 65), (0, x1)] mem (fun v m => v = (if (0 ≤ x1 ∧ x1 < mem 65 27) ∧ ¬ (and32 (shr32 (mem 65 32) x1) 1 = 1) ∧ ¬ bcS (mem 65 32) = 10 then bcS (or32 (mem 65 32) (shl32 1 x1)) else -1) ∧ m = (if (0 ≤ x1 ∧ x1 < mem 65 27) ∧ ¬ (and32 (shr32 (mem 65 32) x1) 1 = 1) ∧ ¬ bcS (mem 65 32) = 10 then mset mem 65 32 (or32 (mem 65 32) (shl32 1 x1)) else mem)) := by
  refine cn_X12_could (bk_X12_could_0 (fun g => ?_) (fun g g2 => ?_) (fun g g2 g3 => ?_) (fun g g2 g3 => ?_))
  · rw [if_neg (by omega), if_neg (by omega)]; exact ⟨rfl, rfl⟩
  · rw [if_neg (fun z => z.2.1 g2), if_neg (fun z => z.2.1 g2)]; exact ⟨rfl, rfl⟩
  · rw [if_pos ⟨by omega, g2, g3⟩, if_pos ⟨by omega, g2, g3⟩]; exact ⟨rfl, rfl⟩
  · rw [if_neg (fun z => z.2.2 g3), if_neg (fun z => z.2.2 g3)]; exact ⟨rfl, rfl⟩
theorem c_X12_understudy (mem : mmM) (FM : Int → Int → Int) (x1 x2 : Int) (h1 : R32 x1) (h2 : R32 x2) (hp : playM mem) (ht : takeM mem) (hF : forgS mem FM) : con 0 bX12_understudy 10 [(2, 65), (0, x1), (0, x2)] mem (fun v m => v = (if ¬ (0 < mem 65 27 ∧ 1 ≤ x1 ∧ x1 ≤ 200) ∨ ¬ (0 ≤ x2 ∧ x2 ≤ 1) then -1 else if x2 = 0 then (undF (actF (mem 65 27) (mem 79)) (fun a => (EM mem FM (mem 65 31) a x1).2.1)).1 else (undF (actF (mem 65 27) (mem 79)) (fun a => (EM mem FM (mem 65 31) a x1).2.1)).2) ∧ chFr mem m) := by
  have hn := hp.1
  refine cn_X12_understudy (bk_X12_understudy_0 (fun g g2 => ?_) (fun g => ⟨?_, fun a _ _ _ => rfl⟩) (fun g g2 => ⟨?_, fun a _ _ _ => rfl⟩))
  rotate_left
  · rw [if_pos (Or.inl g)]
  · rw [if_pos (Or.inr g2)]
  rw [if_neg (by omega)]
  have hE : ∀ a, 0 ≤ (EM mem FM (mem 65 31) a x1).2.1 ∧ (EM mem FM (mem 65 31) a x1).2.1 ≤ 1000000000 := fun a => EM_ok hp g.1 ht hF _ _ _
  have hx0 := hp.2 0 (by omega) (by omega)
  have some := undF_some (act := actF (mem 65 27) (mem 79)) hE (mem 79 0) hx0.1 (by
    have t := actF_tb (n := mem 65 27) (a := mem 79) hn.1 (fun i i0 i1 => (hp.2 i i0 (by omega)).1)
    exact (bit_tb t.1.1 (by omega) hx0.1.1 (by omega)).mpr ((t.2 _ hx0.1.1).mpr ⟨0, by omega, g.1, rfl⟩))
  refine loop_up (n := 8) (fun i => ∀ (m : mmM) (p q z : Int), chFr mem m → (p, q) = foldTo (undG (actF (mem 65 27) (mem 79)) (fun a => (EM mem FM (mem 65 31) a x1).2.1)) (-1, -1) i.toNat → ((p = -1 ∧ q = -1) ∨ (0 ≤ p ∧ 0 ≤ q ∧ q ≤ 1000000000)) → (p = -1 ∧ z = 0 ∨ ¬ p = -1 ∧ z = q) → p ≤ i → mmT bX12_understudy 10 0 0 (mQ 0 (fun v m => v = (if x2 = 0 then (undF (actF (mem 65 27) (mem 79)) (fun a => (EM mem FM (mem 65 31) a x1).2.1)).1 else (undF (actF (mem 65 27) (mem 79)) (fun a => (EM mem FM (mem 65 31) a x1).2.1)).2) ∧ chFr mem m)) 27 [(2, 65), (0, x1), (0, x2), (0, p), (0, z), (0, i), (9, 0)] [] mS m) (fun i h0 h8 ih m p q z f hf hb hz hpi => ?_) 0 (by omega) (by omega) mem (-1) (-1) 0 (fun a _ _ _ => rfl) rfl (Or.inl ⟨rfl, rfl⟩) (Or.inl ⟨rfl, rfl⟩) (by omega)
  have e27 : m 65 27 = mem 65 27 := f.key.1.1
  have e31 : m 65 31 = mem 65 31 := f.key.1.2.2
  have e79 : m 79 = mem 79 := f.key.2.2.2.1
  have st := foldTo_step (undG (actF (mem 65 27) (mem 79)) (fun a => (EM mem FM (mem 65 31) a x1).2.1)) (-1, -1) h0
  rw [← hf] at st
  have gb := undG_bnd (act := actF (mem 65 27) (mem 79)) hE (p, q) i 0 h0 hb
  have nx : ∀ (m' : mmM) (p' q' z' : Int), i < 8 → chFr mem m' → undG (actF (mem 65 27) (mem 79)) (fun a => (EM mem FM (mem 65 31) a x1).2.1) (p, q) i = (p', q') → (p' = -1 ∧ z' = 0 ∨ ¬ p' = -1 ∧ z' = q') → p' ≤ i → mmT bX12_understudy 10 0 0 (mQ 0 (fun v m => v = (if x2 = 0 then (undF (actF (mem 65 27) (mem 79)) (fun a => (EM mem FM (mem 65 31) a x1).2.1)).1 else (undF (actF (mem 65 27) (mem 79)) (fun a => (EM mem FM (mem 65 31) a x1).2.1)).2) ∧ chFr mem m)) 27 [(2, 65), (0, x1), (0, x2), (0, p'), (0, z'), (0, i + 1), (9, 0)] [] mS m' := by
    intro m' p' q' z' g f' e hz' hp'
    rw [e] at st gb
    exact ih g m' p' q' z' f' st.symm gb hz' (by omega)
  have fin : 8 ≤ i → (p, q) = undF (actF (mem 65 27) (mem 79)) (fun a => (EM mem FM (mem 65 31) a x1).2.1) := by
    intro g
    rw [show i = 8 by omega] at hf
    exact hf
  refine bk_X12_understudy_27 (d1 := 1) (d2 := 9) (P1 := fun v m' => v = actF (mem 65 27) (mem 79) ∧ m' = m) (P2 := fun v m' => v = (EM mem FM (mem 65 31) i x1).2.1 ∧ chFr mem m') (fun g => ?_) (fun g v1 m1 w g2 => ?_) (fun g v1 m1 w g2 => ?_) (fun g v1 m1 w g2 v3 m3 w3 g3 => nx m3 i v3 v3 g w3.2 ?_ (Or.inr ⟨by omega, rfl⟩) (Int.le_refl _)) (fun g v1 m1 w g2 v3 m3 w3 g3 g4 => nx m3 p q z g w3.2 ?_ hz (by omega)) (fun g v1 m1 w g2 v3 m3 w3 g3 g4 => nx m3 i v3 v3 g w3.2 ?_ (Or.inr ⟨by omega, rfl⟩) (Int.le_refl _)) (fun g g2 => ⟨?_, f⟩) (fun g g2 => ⟨?_, f⟩) (s3 := fun _ _ _ _ _ _ _ _ => by omega) (s4 := fun _ _ _ _ _ v3 m3 w3 _ => by have := hE i; rw [w3.1]; omega) (s5 := fun _ _ _ _ _ _ _ _ _ => by omega)
  · have c := c_X12_actors m (f.key.play hp)
    rw [e27, e79] at c
    exact c
  · rw [w.2]
    have c := ch_now m FM x1 i (f.key.play hp) (by rw [e27]; omega) (by unfold takeM; rw [f 84 (by decide) (by decide) (by omega)]; exact ht) (fun mk => (hF mk).move (f.marks.key mk)) (by omega) (by omega)
    have E : EM m FM (m 65 31) i x1 = EM mem FM (mem 65 31) i x1 := by
      unfold EM
      rw [e27, e79, e31, f.leap]
      have : tkN m (mem 65 31) = tkN mem (mem 65 31) := by
        funext j
        unfold tkN
        rw [e79, f 84 (by decide) (by decide) (by omega)]
      rw [this]
    rw [E] at c
    exact con.mono c (fun v m' w' => ⟨w'.1, f.trans w'.2.1⟩)
  · rw [w.2]
    rw [w.1] at g2
    exact nx m p q z g f (if_neg (fun z => g2 z.1)) hz (by omega)
  · rw [w.1] at g2
    unfold undG
    rw [if_pos ⟨g2, by show q < (EM mem FM (mem 65 31) i x1).2.1; have := hE i; omega⟩, w3.1]
  · unfold undG
    exact if_neg (fun y => by have y2 : q < (EM mem FM (mem 65 31) i x1).2.1 := y.2; have := w3.1; omega)
  · rw [w.1] at g2
    unfold undG
    rw [if_pos ⟨g2, by show q < (EM mem FM (mem 65 31) i x1).2.1; have := w3.1; omega⟩, w3.1]
  · have hf' := fin g
    rw [if_neg g2, ← hf']
    rw [← hf'] at some
    have : ¬ p = -1 := some
    show z = q
    omega
  · rw [if_pos g2, ← fin g]
theorem xor32_set {x k : Int} (h0 : 0 ≤ x) (h1 : x < 16777216) (k0 : 0 ≤ k) (k1 : k < 24) (hb : ¬ (and32 (shr32 x k) 1 = 1)) : xor32 x (shl32 1 k) = x + p2 k ∧ xor32 (x + p2 k) (shl32 1 k) = x ∧ (0 ≤ x + p2 k ∧ x + p2 k < 16777216) := by
  have hb' : ¬ bitS x k := fun z => hb ((bit_iff h0 (by omega) k0 (by omega)).mpr z)
  have e := or32_bit h0 (by omega) k0 (by omega) hb'
  have es := shl1_eq k0 (show k < 31 by omega)
  have e24 : p2 24 = 16777216 := by decide +kernel
  have pm := p2_lt k0 k1
  have pp := p2_pos k
  have o := or32_b (b := 24) h0 (by omega) (show 0 ≤ p2 k by omega) (by omega) (by decide)
  rw [es] at e
  rw [e] at o
  have bs : bitS (x + p2 k) k := (bitS_tb (by omega)).mpr (by rw [o.2, tb_p2 k0 k0, decide_eq_true rfl, Bool.or_true])
  refine ⟨?_, ?_, by omega⟩
  · rw [es, ← e, xor32_tn h0 (by omega) (by omega) (by omega), or32_tn h0 (by omega) (by omega) (by omega)]
    congr 1
    apply Nat.eq_of_testBit_eq
    intro i
    rw [Nat.testBit_xor, Nat.testBit_or]
    have t : (p2 k).toNat.testBit i = decide (k.toNat = i) := by
      unfold p2
      rw [Int.toNat_natCast, Nat.testBit_two_pow]
    rw [t]
    by_cases q : k.toNat = i
    · have : x.toNat.testBit i = false := by
        rw [← q]
        have := fun z => hb' ((bitS_tb h0).mpr z)
        unfold tb at this
        simpa using this
      rw [this, Bool.false_or, Bool.false_xor]
    · rw [decide_eq_false q, Bool.or_false, Bool.xor_false]
  · rw [xor32_bit (by omega) (by omega) k0 (by omega) bs]
    omega
theorem c_X12_worst (mem : mmM) (FM : Int → Int → Int) (x1 : Int) (h1 : R32 x1) (hp : playM mem) (ht : takeM mem) (hF : forgS mem FM) (hm : 0 ≤ mem 65 31 ∧ mem 65 31 < 16777216) : con 0 bX12_worst 10 [(2, 65), (0, x1)] mem (fun v m => v = (if 0 < mem 65 27 ∧ 1 ≤ x1 ∧ x1 ≤ 200 then (wrsF (mem 65 27) (mem 65 31) (fun mk => (EM mem FM mk (-1) x1).2.1)).1 else -1) ∧ chFr mem m) := by
  have hn := hp.1
  refine cn_X12_worst (bk_X12_worst_0 (fun g => ?_) (fun g => ⟨?_, fun a _ _ _ => rfl⟩))
  rotate_left
  · rw [if_neg g]
  rw [if_pos g]
  have hE : ∀ mk, 0 ≤ (EM mem FM mk (-1) x1).2.1 ∧ (EM mem FM mk (-1) x1).2.1 ≤ 1000000000 := fun mk => EM_ok hp g.1 ht hF _ _ _
  refine loop_up (n := mem 65 27) (fun i => ∀ (m : mmM) (p q z : Int), chFr mem m → (p, q) = foldTo (wrsG (mem 65 31) (fun mk => (EM mem FM mk (-1) x1).2.1)) (-1, -1) i.toNat → ((p = -1 ∧ q = -1) ∨ (0 ≤ p ∧ 0 ≤ q ∧ q ≤ 1000000000)) → (p = -1 ∧ z = 0 ∨ ¬ p = -1 ∧ z = q) → p ≤ i → mmT bX12_worst 10 0 0 (mQ 0 (fun v m => v = (wrsF (mem 65 27) (mem 65 31) (fun mk => (EM mem FM mk (-1) x1).2.1)).1 ∧ chFr mem m)) 17 [(2, 65), (0, x1), (0, p), (0, z), (0, i), (9, 0)] [] mS m) (fun i h0 hi ih m p q z f hf hb hz hpi => ?_) 0 (by omega) hn.1 mem (-1) (-1) 0 (fun a _ _ _ => rfl) rfl (Or.inl ⟨rfl, rfl⟩) (Or.inl ⟨rfl, rfl⟩) (by omega)
  have e27 : m 65 27 = mem 65 27 := f.key.1.1
  have e31 : m 65 31 = mem 65 31 := f.key.1.2.2
  have st := foldTo_step (wrsG (mem 65 31) (fun mk => (EM mem FM mk (-1) x1).2.1)) (-1, -1) h0
  rw [← hf] at st
  have gb := wrsG_bnd (mk := mem 65 31) hE (p, q) i h0 hb hpi
  have nx : ∀ (m' : mmM) (p' q' z' : Int), i < mem 65 27 → chFr mem m' → wrsG (mem 65 31) (fun mk => (EM mem FM mk (-1) x1).2.1) (p, q) i = (p', q') → (p' = -1 ∧ z' = 0 ∨ ¬ p' = -1 ∧ z' = q') → mmT bX12_worst 10 0 0 (mQ 0 (fun v m => v = (wrsF (mem 65 27) (mem 65 31) (fun mk => (EM mem FM mk (-1) x1).2.1)).1 ∧ chFr mem m)) 17 [(2, 65), (0, x1), (0, p'), (0, z'), (0, i + 1), (9, 0)] [] mS m' := by
    intro m' p' q' z' g f' e hz'
    rw [e] at st gb
    exact ih g m' p' q' z' f' st.symm gb.1 hz' gb.2
  have xs : i < mem 65 27 → ¬ (and32 (shr32 (mem 65 31) i) 1 = 1) → _ := fun g2 g3 => xor32_set hm.1 hm.2 h0 (by omega) g3
  have back : i < mem 65 27 → ¬ (and32 (shr32 (mem 65 31) i) 1 = 1) → ∀ m' : mmM, (marksFr mem m' ∧ m' 65 31 = mem 65 31 + p2 i) → chFr mem (mset m' 65 31 (xor32 (m' 65 31) (shl32 1 i))) := fun g2 g3 m' w => (w.1.set _).ch (by rw [mset_same, w.2]; exact (xs g2 g3).2.1)
  refine bk_X12_worst_17 (d1 := 9) (P1 := fun v m' => v = (EM mem FM (mem 65 31 + p2 i) (-1) x1).2.1 ∧ marksFr mem m' ∧ m' 65 31 = mem 65 31 + p2 i) (fun g2 g3 => ?_) (fun g2 g3 => nx m p q z (by rw [e27] at g2; exact g2) f ?_ hz) (fun g2 g3 v m' w g4 => nx _ i v v (by rw [e27] at g2; exact g2) (back (by omega) (by rw [e31] at g3; exact g3) m' w.2) ?_ (Or.inr ⟨by omega, rfl⟩)) (fun g2 g3 v m' w g4 g5 => nx _ p q z (by rw [e27] at g2; exact g2) (back (by omega) (by rw [e31] at g3; exact g3) m' w.2) ?_ hz) (fun g2 g3 v m' w g4 g5 => nx _ i v v (by rw [e27] at g2; exact g2) (back (by omega) (by rw [e31] at g3; exact g3) m' w.2) ?_ (Or.inr ⟨by omega, rfl⟩)) (fun g2 => ⟨?_, f⟩) (s2 := fun _ _ _ _ _ => by omega) (s3 := fun _ _ v m' w _ => by have := hE (mem 65 31 + p2 i); rw [w.1]; omega) (s4 := fun _ _ _ _ _ _ => by omega)
  · rw [e27] at g2
    rw [e31] at g3 ⊢
    rw [(xs g2 g3).1]
    have c := ch_at mem m FM (mem 65 31 + p2 i) x1 (-1) f.marks hp g.1 ht hF (by omega) (by omega)
    exact con.mono c (fun v m' w => ⟨w.1, w.2.1⟩)
  · rw [e31] at g3
    exact if_neg (fun y => y.1 g3)
  · rw [e31] at g3
    unfold wrsG
    rw [if_pos ⟨g3, by show q < (EM mem FM (mem 65 31 + p2 i) (-1) x1).2.1; have := hE (mem 65 31 + p2 i); omega⟩, w.1]
  · exact if_neg (fun y => by have y2 : q < (EM mem FM (mem 65 31 + p2 i) (-1) x1).2.1 := y.2; have := w.1; omega)
  · rw [e31] at g3
    unfold wrsG
    rw [if_pos ⟨g3, by show q < (EM mem FM (mem 65 31 + p2 i) (-1) x1).2.1; have := w.1; omega⟩, w.1]
  · rw [e27] at g2
    rw [show i = mem 65 27 by omega] at hf
    have hf' : (p, q) = wrsF (mem 65 27) (mem 65 31) (fun mk => (EM mem FM mk (-1) x1).2.1) := hf
    rw [← hf']
