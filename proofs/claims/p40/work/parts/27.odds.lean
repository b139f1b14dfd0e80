/-! odds of X -/
def sayO (B : Nat) (mem : mmM) (s v : Int) : mmM := if s + 1 < mem 23 1 then mset (mset (mset mem 64 s (mem 64 s + v)) B (s + 1) (mem B (s + 1) + v)) 58 9 (mem 58 9 + v) else mset (mset mem 64 s (mem 64 s + v)) 58 8 (mem 58 8 + v)
def odR (B : Nat) (n E : Int) (σ : odT) (m : mmM) : Prop := (∀ j, 0 ≤ j → j < n → m B j = σ.1 j) ∧ m 58 8 = E + σ.1 n ∧ m 58 9 = sumTo σ.1 n.toNat ∧ (∀ j, 0 ≤ j → j < n → m 63 j = σ.2.1 j) ∧ (∀ j, 0 ≤ j → j < n → m 64 j = σ.2.2 j)
def sayFr (B : Nat) (mem m : mmM) : Prop := (∀ a, a ≠ 58 → a ≠ B → a ≠ 63 → a ≠ 64 → m a = mem a) ∧ m 58 4 = mem 58 4 ∧ m 58 5 = mem 58 5
theorem sayFr.trans {B : Nat} {m0 m1 m2 : mmM} (h : sayFr B m0 m1) (h' : sayFr B m1 m2) : sayFr B m0 m2 := ⟨fun a a1 a2 a3 a4 => (h'.1 a a1 a2 a3 a4).trans (h.1 a a1 a2 a3 a4), h'.2.1.trans h.2.1, h'.2.2.trans h.2.2⟩
theorem sayO_fr (B : Nat) (hB : B ≠ 58) (mem : mmM) (s v : Int) : sayFr B mem (sayO B mem s v) := by
  unfold sayO
  split
  · refine ⟨fun a a1 a2 a3 a4 => ?_, ?_, ?_⟩
    · rw [mset_ne a1, mset_ne a2, mset_ne a4]
    · rw [mset_at, if_neg (by decide), mset_ne (Ne.symm hB), mset_ne (by decide)]
    · rw [mset_at, if_neg (by decide), mset_ne (Ne.symm hB), mset_ne (by decide)]
  · refine ⟨fun a a1 a2 a3 a4 => ?_, ?_, ?_⟩
    · rw [mset_ne a1, mset_ne a4]
    · rw [mset_at, if_neg (by decide), mset_ne (by decide)]
    · rw [mset_at, if_neg (by decide), mset_ne (by decide)]
theorem odR_say {B : Nat} (hB : B ≠ 58 ∧ B ≠ 63 ∧ B ≠ 64) {n E : Int} {σ : odT} {m : mmM} (h : odR B n E σ m) (hn : m 23 1 = n) {s : Int} (v : Int) (hs : 0 ≤ s ∧ s < n) : odR B n E (odSay σ s v) (sayO B m s v) := by
  obtain ⟨h1, h2, h3, h4, h5⟩ := h
  have e64 : ∀ j, 0 ≤ j → j < n → mset m 64 s (m 64 s + v) 64 j = updF σ.2.2 s (σ.2.2 s + v) j := by
    intro j j0 j1
    rw [mset_at, h5 j j0 j1, h5 s hs.1 hs.2]
    rfl
  unfold sayO
  rw [hn]
  split
  · rename_i g
    refine ⟨fun j j0 j1 => ?_, ?_, ?_, fun j j0 j1 => ?_, fun j j0 j1 => ?_⟩
    · rw [mset_ne hB.1, mset_at, mset_ne hB.2.2, h1 j j0 j1, h1 (s + 1) (by omega) g]
      rfl
    · rw [mset_at, if_neg (by decide), mset_ne (Ne.symm hB.1), mset_ne (by decide), h2]
      show E + σ.1 n = E + updF σ.1 (s + 1) (σ.1 (s + 1) + v) n
      rw [updF_ne (by omega)]
    · rw [mset_same, h3]
      show _ = sumTo (updF σ.1 (s + 1) (σ.1 (s + 1) + v)) n.toNat
      rw [sumTo_upd _ _ _ _ (by omega)]
      omega
    · rw [mset_ne (by decide), mset_ne (Ne.symm hB.2.1), mset_ne (by decide)]
      exact h4 j j0 j1
    · rw [mset_ne (by decide), mset_ne (Ne.symm hB.2.2)]
      exact e64 j j0 j1
  · rename_i g
    refine ⟨fun j j0 j1 => ?_, ?_, ?_, fun j j0 j1 => ?_, fun j j0 j1 => ?_⟩
    · rw [mset_ne hB.1, mset_ne hB.2.2, h1 j j0 j1]
      show _ = updF σ.1 (s + 1) (σ.1 (s + 1) + v) j
      rw [updF_ne (by omega)]
    · rw [mset_same, h2]
      show _ = E + updF σ.1 (s + 1) (σ.1 (s + 1) + v) n
      rw [show s + 1 = n by omega, updF_same]
      omega
    · rw [mset_at, if_neg (by decide), mset_ne (by decide), h3]
      show _ = sumTo (updF σ.1 (s + 1) (σ.1 (s + 1) + v)) n.toNat
      rw [sumTo_updOut _ _ _ _ (by omega)]
    · rw [mset_ne (by decide), mset_ne (by decide)]
      exact h4 j j0 j1
    · rw [mset_ne (by decide)]
      exact e64 j j0 j1
theorem odR_stop {B : Nat} (hB : B ≠ 58 ∧ B ≠ 63 ∧ B ≠ 64) {n E : Int} {σ : odT} {m : mmM} (h : odR B n E σ m) {s : Int} (v : Int) (hs : 0 ≤ s ∧ s < n) : odR B n E (odStop σ s v) (mset m 63 s (m 63 s + v)) := by
  obtain ⟨h1, h2, h3, h4, h5⟩ := h
  refine ⟨fun j j0 j1 => ?_, ?_, ?_, fun j j0 j1 => ?_, fun j j0 j1 => ?_⟩
  · rw [mset_ne hB.2.1]
    exact h1 j j0 j1
  · rw [mset_ne (by decide)]
    exact h2
  · rw [mset_ne (by decide)]
    exact h3
  · rw [mset_at, h4 j j0 j1, h4 s hs.1 hs.2]
    rfl
  · rw [mset_ne (by decide)]
    exact h5 j j0 j1
theorem stop_fr {B : Nat} (m : mmM) (s v : Int) : sayFr B m (mset m 63 s v) := ⟨fun a _ _ a3 _ => mset_ne a3, by rw [mset_ne (by decide)], by rw [mset_ne (by decide)]⟩
theorem odI_bnd {n c v : Int} {σ : odT} (h : odI n c v σ) (hn : 0 ≤ n) : (∀ j, 0 ≤ j → j ≤ n → 0 ≤ σ.1 j ∧ σ.1 j ≤ c) ∧ (∀ j, 0 ≤ j → j < n → 0 ≤ σ.2.1 j ∧ σ.2.1 j ≤ c) ∧ (0 ≤ sumTo σ.1 n.toNat ∧ sumTo σ.1 n.toNat ≤ c) := by
  obtain ⟨h1, h2, h3, h4⟩ := h
  have a := sumTo_nonneg (f := σ.1) (n := n.toNat) (fun i g0 g1 => h1 i g0 (by omega))
  have b := sumTo_nonneg (f := σ.2.1) (n := n.toNat) (fun i g0 g1 => h2 i g0 (by omega))
  have e := sumTo_last σ.1 hn
  have l := h1 n hn (Int.le_refl _)
  refine ⟨fun j j0 j1 => ⟨h1 j j0 j1, ?_⟩, fun j j0 j1 => ⟨h2 j j0 j1, ?_⟩, by omega⟩
  · have := sumTo_ge (f := σ.1) (n := n.toNat + 1) (fun i g0 g1 => h1 i g0 (by omega)) j0 (by omega)
    omega
  · have := sumTo_ge (f := σ.2.1) (n := n.toNat) (fun i g0 g1 => h2 i g0 (by omega)) j0 (by omega)
    omega
def odNx (n : Int) (fg tk to : Int → Int) (u : odU) : odU := ((odF fg tk to u.1 u.2.2.1 u.2.2.2 n.toNat).1, u.2.1 + (odF fg tk to u.1 u.2.2.1 u.2.2.2 n.toNat).1 n, (odF fg tk to u.1 u.2.2.1 u.2.2.2 n.toNat).2.1, (odF fg tk to u.1 u.2.2.1 u.2.2.2 n.toNat).2.2)
def odX (n : Int) (u : odU) (m : mmM) : Prop := ((m 58 4 = 61 ∧ m 58 5 = 62 ∧ ∀ j, 0 ≤ j → j < n → m 61 j = u.1 j) ∨ (m 58 4 = 62 ∧ m 58 5 = 61 ∧ ∀ j, 0 ≤ j → j < n → m 62 j = u.1 j)) ∧ m 58 8 = u.2.1 ∧ m 58 9 = sumTo u.1 n.toNat ∧ (∀ j, 0 ≤ j → j < n → m 63 j = u.2.2.1 j) ∧ (∀ j, 0 ≤ j → j < n → m 64 j = u.2.2.2 j)
def odFr (mem m : mmM) : Prop := ∀ a, a ≠ 58 → a ≠ 61 → a ≠ 62 → a ≠ 63 → a ≠ 64 → m a = mem a
def odOr (m : mmM) : Prop := (m 58 4 = 61 ∧ m 58 5 = 62) ∨ (m 58 4 = 62 ∧ m 58 5 = 61)
theorem odX.or {n : Int} {u : odU} {m : mmM} (h : odX n u m) : odOr m := by
  rcases h.1 with h | h
  · exact Or.inl ⟨h.1, h.2.1⟩
  · exact Or.inr ⟨h.1, h.2.1⟩
theorem cn_X7_start_a {d : Nat} {P : mmM → Prop} {mem : mmM} (h : mmT bX7_start d 0 0 (mQv P) 0 [(2, 58)] [] mS mem) : conv bX7_start d [(2, 58)] mem P := mmC_of [(2, 58)] ok_X7_start.2.2.2.2 rfl (Nat.le_of_ble_eq_true rfl) h
theorem bk_X7_start_a_0 {d : Nat} {P : mmM → Prop} {mem : mmM}
  (o_58_4 : mem 58 4 = 61)
  (q1 : P (mset (mset (mset (mrow (mrow (mrow mem 61 (fun j => if 0 ≤ j ∧ j < 24 then 0 else mem 61 j)) 63 (fun j => if 0 ≤ j ∧ j < 24 then 0 else (mrow mem 61 (fun j => if 0 ≤ j ∧ j < 24 then 0 else mem 61 j)) 63 j)) 64 (fun j => if 0 ≤ j ∧ j < 24 then 0 else (mrow (mrow mem 61 (fun j => if 0 ≤ j ∧ j < 24 then 0 else mem 61 j)) 63 (fun j => if 0 ≤ j ∧ j < 24 then 0 else (mrow mem 61 (fun j => if 0 ≤ j ∧ j < 24 then 0 else mem 61 j)) 63 j)) 64 j)) 58 8 0) 58 9 1000000000) 61 0 1000000000))
  (hd2 : 2 ≤ d := by omega)
  : mmT bX7_start d 0 0 (mQv P) 0 [(2, 58)] [] mS mem := by
  refine st_aload_n (i := 0) rfl (t := 0) rfl (by decide) dX7_start_0 ?_
  refine so_getR 58 4 fr_X7_18_7 rfl sh_58 o_58_4 dX7_start_1 ?_
  refine st_lconst (v := 0) rfl dX7_start_4 ?_
  refine st_callS (kc2 := 0) (ks2 := 0) (av := [(2, 61), (1, 0)]) mr_X7_86 ok_J7_fill_d0a16 (c_fill61 mem 0 (⟨by decide, by decide⟩)) rfl rfl hd2 (Nat.le_refl 0) (Nat.le_refl 0) (Nat.le_of_ble_eq_true rfl) dX7_start_5 (mQv.elim fun m1 hp => ?_)
  have hp := hp.symm
  subst hp
  refine st_aload_n (i := 0) rfl (t := 0) rfl (by decide) dX7_start_8 ?_
  refine so_getA 58 6 fr_X7_25_7 rfl sh_58 fx_58_6 dX7_start_9 ?_
  refine st_lconst (v := 0) rfl dX7_start_12 ?_
  refine st_callS (kc2 := 0) (ks2 := 0) (av := [(2, 63), (1, 0)]) mr_X7_86 ok_J7_fill_d0a16 (c_fill63 (mrow mem 61 (fun j => if 0 ≤ j ∧ j < 24 then 0 else mem 61 j)) 0 (⟨by decide, by decide⟩)) rfl rfl hd2 (Nat.le_refl 0) (Nat.le_refl 0) (Nat.le_of_ble_eq_true rfl) dX7_start_13 (mQv.elim fun m2 hp => ?_)
  have hp := hp.symm
  subst hp
  refine st_aload_n (i := 0) rfl (t := 0) rfl (by decide) dX7_start_16 ?_
  refine so_getA 58 7 fr_X7_28_7 rfl sh_58 fx_58_7 dX7_start_17 ?_
  refine st_lconst (v := 0) rfl dX7_start_20 ?_
  refine st_callS (kc2 := 0) (ks2 := 0) (av := [(2, 64), (1, 0)]) mr_X7_86 ok_J7_fill_d0a16 (c_fill64 (mrow (mrow mem 61 (fun j => if 0 ≤ j ∧ j < 24 then 0 else mem 61 j)) 63 (fun j => if 0 ≤ j ∧ j < 24 then 0 else (mrow mem 61 (fun j => if 0 ≤ j ∧ j < 24 then 0 else mem 61 j)) 63 j)) 0 (⟨by decide, by decide⟩)) rfl rfl hd2 (Nat.le_refl 0) (Nat.le_refl 0) (Nat.le_of_ble_eq_true rfl) dX7_start_21 (mQv.elim fun m3 hp => ?_)
  have hp := hp.symm
  subst hp
  refine st_aload_n (i := 0) rfl (t := 0) rfl (by decide) dX7_start_24 ?_
  refine st_lconst (v := 0) rfl dX7_start_25 ?_
  refine so_putJ 58 8 fr_X7_46_7 pf_7_8 fo_58_8 rfl sh_58 ⟨by decide, by decide⟩ dX7_start_26 ?_
  refine st_aload_n (i := 0) rfl (t := 0) rfl (by decide) dX7_start_29 ?_
  refine st_ldc2 cw_X7_92 dX7_start_30 ?_
  refine so_putJ 58 9 fr_X7_94_7 pf_7_9 fo_58_9 rfl sh_58 ⟨by decide, by decide⟩ dX7_start_33 ?_
  refine st_aload_n (i := 0) rfl (t := 0) rfl (by decide) dX7_start_36 ?_
  refine so_getR 58 4 fr_X7_18_7 rfl sh_58 (by simpa [mset, mrow] using o_58_4) dX7_start_37 ?_
  refine st_iconst dX7_start_40 ?_
  refine st_ldc2 cw_X7_92 dX7_start_41 ?_
  refine so_last 61 fr_61 rfl sh_61 (by decide) ⟨by decide, by decide⟩ ⟨by decide, by decide⟩ dX7_start_44 ?_
  exact st_return rfl dX7_start_45 (mQv.ret q1)
theorem cn_X7_say_a {d : Nat} {P : mmM → Prop} {mem : mmM} {x1 x2 : Int} (h : mmT bX7_say d 0 0 (mQv P) 0 [(2, 58), (0, x1), (1, x2), (9, 0)] [] mS mem) : conv bX7_say d [(2, 58), (0, x1), (1, x2)] mem P := mmC_of [(2, 58), (0, x1), (1, x2), (9, 0)] ok_X7_say.2.2.2.2 rfl (Nat.le_of_ble_eq_true rfl) h
theorem bk_X7_say_a_0 {d : Nat} {P : mmM → Prop} {mem : mmM} {x1 x2 : Int}
  (o_58_5 : mem 58 5 = 62)
  (q1 : ¬ (0 ≤ (x1 + 1) ∧ (x1 + 1) < ((mset mem 64 x1 ((mem 64 x1) + x2)) 23 1)) → P (mset (mset mem 64 x1 ((mem 64 x1) + x2)) 58 8 ((mem 58 8) + x2)))
  (q2 : (0 ≤ (x1 + 1) ∧ (x1 + 1) < ((mset mem 64 x1 ((mem 64 x1) + x2)) 23 1)) → P (mset (mset (mset mem 64 x1 ((mem 64 x1) + x2)) 62 (x1 + 1) ((mem 62 (x1 + 1)) + x2)) 58 9 ((mem 58 9) + x2)))
  (hd2 : 2 ≤ d := by omega)
  (s1 : 0 ≤ x1 ∧ x1 < 24 := by intros; first | omega | assumption | solve_by_elim)
  (s2 : R64 ((mem 64 x1) + x2) := by intros; first | omega | assumption | solve_by_elim)
  (s3 : R32 (x1 + 1) := by intros; first | omega | assumption | solve_by_elim)
  (s4 : ¬ (0 ≤ (x1 + 1) ∧ (x1 + 1) < ((mset mem 64 x1 ((mem 64 x1) + x2)) 23 1)) → R64 ((mem 58 8) + x2) := by intros; first | omega | assumption | solve_by_elim)
  (s5 : (0 ≤ (x1 + 1) ∧ (x1 + 1) < ((mset mem 64 x1 ((mem 64 x1) + x2)) 23 1)) → 0 ≤ (x1 + 1) ∧ (x1 + 1) < 24 := by intros; first | omega | assumption | solve_by_elim)
  (s6 : (0 ≤ (x1 + 1) ∧ (x1 + 1) < ((mset mem 64 x1 ((mem 64 x1) + x2)) 23 1)) → R64 ((mem 62 (x1 + 1)) + x2) := by intros; first | omega | assumption | solve_by_elim)
  (s7 : (0 ≤ (x1 + 1) ∧ (x1 + 1) < ((mset mem 64 x1 ((mem 64 x1) + x2)) 23 1)) → R64 ((mem 58 9) + x2) := by intros; first | omega | assumption | solve_by_elim)
  : mmT bX7_say d 0 0 (mQv P) 0 [(2, 58), (0, x1), (1, x2), (9, 0)] [] mS mem := by
  refine st_aload_n (i := 0) rfl (t := 0) rfl (by decide) dX7_say_0 ?_
  refine so_getA 58 7 fr_X7_28_7 rfl sh_58 fx_58_7 dX7_say_1 ?_
  refine st_iload_n (i := 1) rfl rfl dX7_say_4 ?_
  refine st_dup2 (Nat.ne_of_beq_eq_false rfl) (Nat.ne_of_beq_eq_false rfl) dX7_say_5 ?_
  refine so_lald (v := (mem 64 x1)) 64 rfl sh_64 (by decide) s1 rfl dX7_say_6 (fun r1 => ?_)
  refine st_lload_n (i := 2) rfl rfl dX7_say_7 ?_
  refine st_ladd dX7_say_8 ?_
  refine so_last 64 fr_64 rfl sh_64 (by decide) s1 s2 dX7_say_9 ?_
  refine st_aload_n (i := 0) rfl (t := 0) rfl (by decide) dX7_say_10 ?_
  refine so_getA 58 0 fr_X7_31_7 rfl sh_58 fx_58_0 dX7_say_11 ?_
  refine st_iload_n (i := 1) rfl rfl dX7_say_14 ?_
  refine st_iconst dX7_say_15 ?_
  refine st_iadd dX7_say_16 ?_
  refine st_callV (kc2 := 0) (ks2 := 0) (av := [(0, (x1 + 1))]) 23 8 mr_X7_115 ok_X8_has (c_X8_has (mset mem 64 x1 ((mem 64 x1) + x2)) (x1 + 1) (s3)) rfl sh_23 ⟨_, rfl, rfl, by decide⟩ rfl rfl hd2 (Nat.le_refl 0) (Nat.le_refl 0) (Nat.le_of_ble_eq_true rfl) dX7_say_17 (mQ.elim fun v1 m1 hp => ?_)
  obtain ⟨hpv, hpm⟩ := hp
  subst hpv
  have hpm := hpm.symm
  subst hpm
  refine so_ifeqB 48 (by decide) dX7_say_20 (fun h1 => ?_) (fun h1 => ?_)
  · have h1 : ¬ (0 ≤ (x1 + 1) ∧ (x1 + 1) < ((mset mem 64 x1 ((mem 64 x1) + x2)) 23 1)) := h1
    refine st_aload_n (i := 0) rfl (t := 0) rfl (by decide) dX7_say_48 ?_
    refine st_dup (Nat.ne_of_beq_eq_false rfl) dX7_say_49 ?_
    refine so_getJ (v := (mem 58 8)) 58 8 fr_X7_46_7 rfl sh_58 rfl dX7_say_50 (fun r2 => ?_)
    refine st_lload_n (i := 2) rfl rfl dX7_say_53 ?_
    refine st_ladd dX7_say_54 ?_
    refine so_putJ 58 8 fr_X7_46_7 pf_7_8 fo_58_8 rfl sh_58 (s4 h1) dX7_say_55 ?_
    exact st_return rfl dX7_say_58 (mQv.ret (q1 h1))
  · have h1 : (0 ≤ (x1 + 1) ∧ (x1 + 1) < ((mset mem 64 x1 ((mem 64 x1) + x2)) 23 1)) := h1
    refine st_aload_n (i := 0) rfl (t := 0) rfl (by decide) dX7_say_23 ?_
    refine so_getR 58 5 fr_X7_22_7 rfl sh_58 (by simpa [mset, mrow] using o_58_5) dX7_say_24 ?_
    refine st_iload_n (i := 1) rfl rfl dX7_say_27 ?_
    refine st_iconst dX7_say_28 ?_
    refine st_iadd dX7_say_29 ?_
    refine st_dup2 (Nat.ne_of_beq_eq_false rfl) (Nat.ne_of_beq_eq_false rfl) dX7_say_30 ?_
    refine so_lald (v := (mem 62 (x1 + 1))) 62 rfl sh_62 (by decide) (s5 h1) rfl dX7_say_31 (fun r3 => ?_)
    refine st_lload_n (i := 2) rfl rfl dX7_say_32 ?_
    refine st_ladd dX7_say_33 ?_
    refine so_last 62 fr_62 rfl sh_62 (by decide) (s5 h1) (s6 h1) dX7_say_34 ?_
    refine st_aload_n (i := 0) rfl (t := 0) rfl (by decide) dX7_say_35 ?_
    refine st_dup (Nat.ne_of_beq_eq_false rfl) dX7_say_36 ?_
    refine so_getJ (v := (mem 58 9)) 58 9 fr_X7_94_7 rfl sh_58 rfl dX7_say_37 (fun r4 => ?_)
    refine st_lload_n (i := 2) rfl rfl dX7_say_40 ?_
    refine st_ladd dX7_say_41 ?_
    refine so_putJ 58 9 fr_X7_94_7 pf_7_9 fo_58_9 rfl sh_58 (s7 h1) dX7_say_42 ?_
    refine st_goto 58 (by decide) dX7_say_45 ?_
    exact st_return rfl dX7_say_58 (mQv.ret (q2 h1))
theorem cn_X7_comeTo_a {d : Nat} {P : mmM → Prop} {mem : mmM} {x1 x2 : Int} (h : mmT bX7_comeTo d 0 0 (mQv P) 0 [(2, 58), (0, x1), (1, x2), (9, 0), (9, 0), (9, 0), (9, 0), (9, 0)] [] mS mem) : conv bX7_comeTo d [(2, 58), (0, x1), (1, x2)] mem P := mmC_of [(2, 58), (0, x1), (1, x2), (9, 0), (9, 0), (9, 0), (9, 0), (9, 0)] ok_X7_comeTo.2.2.2.2 rfl (Nat.le_of_ble_eq_true rfl) h
theorem bk_X7_comeTo_a_0 {d : Nat} {d1 : Nat} {P1 : mmM → Prop} {d2 : Nat} {P2 : mmM → Prop} {P : mmM → Prop} {mem : mmM} {x1 x2 : Int}
  (c1 : conv bX7_say d1 [(2, 58), (0, x1), (1, (x2 - ((Int.tdiv (x2 * (mem 59 x1)) 100) - (Int.tdiv ((Int.tdiv (x2 * (mem 59 x1)) 100) * (mem 60 x1)) 100))))] mem P1)
  (c2 : ∀ (m1 : mmM), P1 m1 → ¬ (m1 38 x1) = (-1) → conv bX7_say d2 [(2, 58), (0, (m1 38 x1)), (1, ((Int.tdiv (x2 * (mem 59 x1)) 100) - (Int.tdiv ((Int.tdiv (x2 * (mem 59 x1)) 100) * (mem 60 x1)) 100)))] m1 P2)
  (q1 : ∀ (m1 : mmM), P1 m1 → ¬ (m1 38 x1) = (-1) → ∀ (m2 : mmM), P2 m2 → P m2)
  (q2 : ∀ (m1 : mmM), P1 m1 → (m1 38 x1) = (-1) → P (mset m1 63 x1 ((m1 63 x1) + ((Int.tdiv (x2 * (mem 59 x1)) 100) - (Int.tdiv ((Int.tdiv (x2 * (mem 59 x1)) 100) * (mem 60 x1)) 100)))))
  (hd_d1 : d1 + 1 ≤ d := by omega)
  (hd_d2 : d2 + 1 ≤ d := by omega)
  (s1 : 0 ≤ x1 ∧ x1 < 24 := by intros; first | omega | assumption | solve_by_elim)
  (s2 : (-9223372036854775808) < (x2 * (mem 59 x1)) ∧ (x2 * (mem 59 x1)) < 9223372036854775808 := by intros; first | omega | assumption | solve_by_elim)
  (s3 : (-9223372036854775808) < ((Int.tdiv (x2 * (mem 59 x1)) 100) * (mem 60 x1)) ∧ ((Int.tdiv (x2 * (mem 59 x1)) 100) * (mem 60 x1)) < 9223372036854775808 := by intros; first | omega | assumption | solve_by_elim)
  (s4 : ∀ (m1 : mmM), P1 m1 → (m1 38 x1) = (-1) → R64 ((m1 63 x1) + ((Int.tdiv (x2 * (mem 59 x1)) 100) - (Int.tdiv ((Int.tdiv (x2 * (mem 59 x1)) 100) * (mem 60 x1)) 100))) := by intros; first | omega | assumption | solve_by_elim)
  : mmT bX7_comeTo d 0 0 (mQv P) 0 [(2, 58), (0, x1), (1, x2), (9, 0), (9, 0), (9, 0), (9, 0), (9, 0)] [] mS mem := by
  refine st_lload_n (i := 2) rfl rfl dX7_comeTo_0 ?_
  refine st_aload_n (i := 0) rfl (t := 0) rfl (by decide) dX7_comeTo_1 ?_
  refine so_getA 58 2 fr_X7_9_7 rfl sh_58 fx_58_2 dX7_comeTo_2 ?_
  refine st_iload_n (i := 1) rfl rfl dX7_comeTo_5 ?_
  refine so_iald (v := (mem 59 x1)) 59 rfl sh_59 (by decide) s1 rfl dX7_comeTo_6 (fun r1 => ?_)
  refine sr_i2l r1 dX7_comeTo_7 ?_
  refine st_lmul dX7_comeTo_8 ?_
  refine st_ldc2 cw_X7_107 dX7_comeTo_9 ?_
  refine sr_ldiv s2 ⟨by decide, by decide⟩ (by decide) dX7_comeTo_12 ?_
  refine st_lstore (by decide) (lc' := [(2, 58), (0, x1), (1, x2), (9, 0), (1, (Int.tdiv (x2 * (mem 59 x1)) 100)), (9, 0), (9, 0), (9, 0)]) rfl dX7_comeTo_13 ?_
  refine st_lload rfl dX7_comeTo_15 ?_
  refine st_lload rfl dX7_comeTo_17 ?_
  refine st_aload_n (i := 0) rfl (t := 0) rfl (by decide) dX7_comeTo_19 ?_
  refine so_getA 58 3 fr_X7_15_7 rfl sh_58 fx_58_3 dX7_comeTo_20 ?_
  refine st_iload_n (i := 1) rfl rfl dX7_comeTo_23 ?_
  refine so_iald (v := (mem 60 x1)) 60 rfl sh_60 (by decide) s1 rfl dX7_comeTo_24 (fun r2 => ?_)
  refine sr_i2l r2 dX7_comeTo_25 ?_
  refine st_lmul dX7_comeTo_26 ?_
  refine st_ldc2 cw_X7_107 dX7_comeTo_27 ?_
  refine sr_ldiv s3 ⟨by decide, by decide⟩ (by decide) dX7_comeTo_30 ?_
  refine st_lsub dX7_comeTo_31 ?_
  refine st_lstore (by decide) (lc' := [(2, 58), (0, x1), (1, x2), (9, 0), (1, (Int.tdiv (x2 * (mem 59 x1)) 100)), (9, 0), (1, ((Int.tdiv (x2 * (mem 59 x1)) 100) - (Int.tdiv ((Int.tdiv (x2 * (mem 59 x1)) 100) * (mem 60 x1)) 100))), (9, 0)]) rfl dX7_comeTo_32 ?_
  refine st_aload_n (i := 0) rfl (t := 0) rfl (by decide) dX7_comeTo_34 ?_
  refine st_iload_n (i := 1) rfl rfl dX7_comeTo_35 ?_
  refine st_lload_n (i := 2) rfl rfl dX7_comeTo_36 ?_
  refine st_lload rfl dX7_comeTo_37 ?_
  refine st_lsub dX7_comeTo_39 ?_
  refine st_callV (kc2 := 0) (ks2 := 0) (av := [(0, x1), (1, (x2 - ((Int.tdiv (x2 * (mem 59 x1)) 100) - (Int.tdiv ((Int.tdiv (x2 * (mem 59 x1)) 100) * (mem 60 x1)) 100))))]) 58 7 mr_X7_109 ok_X7_say c1 rfl sh_58 ⟨_, rfl, rfl, by decide⟩ rfl rfl hd_d1 (Nat.le_refl 0) (Nat.le_refl 0) (Nat.le_of_ble_eq_true rfl) dX7_comeTo_40 (mQv.elim fun m1 p1 => ?_)
  refine st_aload_n (i := 0) rfl (t := 0) rfl (by decide) dX7_comeTo_43 ?_
  refine so_getA 58 1 fr_X7_35_7 rfl sh_58 fx_58_1 dX7_comeTo_44 ?_
  refine so_getA 35 3 fr_X7_112_4 rfl sh_35 fx_35_3 dX7_comeTo_47 ?_
  refine st_iload_n (i := 1) rfl rfl dX7_comeTo_50 ?_
  refine so_iald (v := (m1 38 x1)) 38 rfl sh_38 (by decide) s1 rfl dX7_comeTo_51 (fun r3 => ?_)
  refine st_iconst dX7_comeTo_52 ?_
  refine sr_icmp_ne 70 r3 ⟨by decide, by decide⟩ (by decide) dX7_comeTo_53 (fun h1 => ?_) (fun h1 => ?_)
  · have h1 : ¬ (m1 38 x1) = (-1) := by omega
    refine st_aload_n (i := 0) rfl (t := 0) rfl (by decide) dX7_comeTo_70 ?_
    refine st_aload_n (i := 0) rfl (t := 0) rfl (by decide) dX7_comeTo_71 ?_
    refine so_getA 58 1 fr_X7_35_7 rfl sh_58 fx_58_1 dX7_comeTo_72 ?_
    refine so_getA 35 3 fr_X7_112_4 rfl sh_35 fx_35_3 dX7_comeTo_75 ?_
    refine st_iload_n (i := 1) rfl rfl dX7_comeTo_78 ?_
    refine so_iald (v := (m1 38 x1)) 38 rfl sh_38 (by decide) s1 rfl dX7_comeTo_79 (fun r4 => ?_)
    refine st_lload rfl dX7_comeTo_80 ?_
    refine st_callV (kc2 := 0) (ks2 := 0) (av := [(0, (m1 38 x1)), (1, ((Int.tdiv (x2 * (mem 59 x1)) 100) - (Int.tdiv ((Int.tdiv (x2 * (mem 59 x1)) 100) * (mem 60 x1)) 100)))]) 58 7 mr_X7_109 ok_X7_say (c2 m1 p1 h1) rfl sh_58 ⟨_, rfl, rfl, by decide⟩ rfl rfl hd_d2 (Nat.le_refl 0) (Nat.le_refl 0) (Nat.le_of_ble_eq_true rfl) dX7_comeTo_82 (mQv.elim fun m2 p2 => ?_)
    exact st_return rfl dX7_comeTo_85 (mQv.ret (q1 m1 p1 h1 m2 p2))
  · have h1 : (m1 38 x1) = (-1) := by omega
    refine st_aload_n (i := 0) rfl (t := 0) rfl (by decide) dX7_comeTo_56 ?_
    refine so_getA 58 6 fr_X7_25_7 rfl sh_58 fx_58_6 dX7_comeTo_57 ?_
    refine st_iload_n (i := 1) rfl rfl dX7_comeTo_60 ?_
    refine st_dup2 (Nat.ne_of_beq_eq_false rfl) (Nat.ne_of_beq_eq_false rfl) dX7_comeTo_61 ?_
    refine so_lald (v := (m1 63 x1)) 63 rfl sh_63 (by decide) s1 rfl dX7_comeTo_62 (fun r5 => ?_)
    refine st_lload rfl dX7_comeTo_63 ?_
    refine st_ladd dX7_comeTo_65 ?_
    refine so_last 63 fr_63 rfl sh_63 (by decide) s1 (s4 m1 p1 h1) dX7_comeTo_66 ?_
    refine st_goto 85 (by decide) dX7_comeTo_67 ?_
    exact st_return rfl dX7_comeTo_85 (mQv.ret (q2 m1 p1 h1))
theorem cn_X7_step_a {d : Nat} {P : mmM → Prop} {mem : mmM} (h : mmT bX7_step d 0 0 (mQv P) 0 [(2, 58), (9, 0)] [] mS mem) : conv bX7_step d [(2, 58)] mem P := mmC_of [(2, 58), (9, 0)] ok_X7_step.2.2.2.2 rfl (Nat.le_of_ble_eq_true rfl) h
theorem bk_X7_step_a_0 {d : Nat} {P : mmM → Prop} {mem : mmM}
  (o_58_5 : mem 58 5 = 62)
  (k1 : mmT bX7_step d 0 0 (mQv P) 15 [(2, 58), (0, 0)] [] mS (mset (mrow mem 62 (fun j => if 0 ≤ j ∧ j < 24 then 0 else mem 62 j)) 58 9 0))
  (hd2 : 2 ≤ d := by omega)
  : mmT bX7_step d 0 0 (mQv P) 0 [(2, 58), (9, 0)] [] mS mem := by
  refine st_aload_n (i := 0) rfl (t := 0) rfl (by decide) dX7_step_0 ?_
  refine so_getR 58 5 fr_X7_22_7 rfl sh_58 o_58_5 dX7_step_1 ?_
  refine st_lconst (v := 0) rfl dX7_step_4 ?_
  refine st_callS (kc2 := 0) (ks2 := 0) (av := [(2, 62), (1, 0)]) mr_X7_86 ok_J7_fill_d0a16 (c_fill62 mem 0 (⟨by decide, by decide⟩)) rfl rfl hd2 (Nat.le_refl 0) (Nat.le_refl 0) (Nat.le_of_ble_eq_true rfl) dX7_step_5 (mQv.elim fun m1 hp => ?_)
  have hp := hp.symm
  subst hp
  refine st_aload_n (i := 0) rfl (t := 0) rfl (by decide) dX7_step_8 ?_
  refine st_lconst (v := 0) rfl dX7_step_9 ?_
  refine so_putJ 58 9 fr_X7_94_7 pf_7_9 fo_58_9 rfl sh_58 ⟨by decide, by decide⟩ dX7_step_10 ?_
  refine st_iconst dX7_step_13 ?_
  refine st_istore_n (i := 1) rfl (by decide) (lc' := [(2, 58), (0, 0)]) rfl dX7_step_14 ?_
  exact st_locals [(2, 58), (0, 0)] ⟨Or.inr rfl, Or.inr rfl, trivial⟩ k1
theorem bk_X7_step_a_15 {d : Nat} {d1 : Nat} {P1 : mmM → Prop} {P : mmM → Prop} {mem : mmM} {x1 : Int}
  (o_58_4 : mem 58 4 = 61)
  (o_58_5 : mem 58 5 = 62)
  (c1 : x1 < (mem 23 1) → ¬ (mem 61 x1) = 0 → conv bX7_comeTo d1 [(2, 58), (0, x1), (1, (mem 61 x1))] mem P1)
  (k1 : x1 < (mem 23 1) → (mem 61 x1) = 0 → mmT bX7_step d 0 0 (mQv P) 15 [(2, 58), (0, (x1 + 1))] [] mS mem)
  (k2 : x1 < (mem 23 1) → ¬ (mem 61 x1) = 0 → ∀ (m1 : mmM), P1 m1 → mmT bX7_step d 0 0 (mQv P) 15 [(2, 58), (0, (x1 + 1))] [] mS m1)
  (q1 : (mem 23 1) ≤ x1 → P (mset (mset mem 58 4 62) 58 5 61))
  (hd_d1 : d1 + 1 ≤ d := by omega)
  (s1 : R32 x1 := by intros; first | omega | assumption | solve_by_elim)
  (s2 : x1 < (mem 23 1) → 0 ≤ x1 ∧ x1 < 24 := by intros; first | omega | assumption | solve_by_elim)
  : mmT bX7_step d 0 0 (mQv P) 15 [(2, 58), (0, x1)] [] mS mem := by
  refine st_iload_n (i := 1) rfl rfl dX7_step_15 ?_
  refine st_aload_n (i := 0) rfl (t := 0) rfl (by decide) dX7_step_16 ?_
  refine so_getA 58 0 fr_X7_31_7 rfl sh_58 fx_58_0 dX7_step_17 ?_
  refine so_getI (v := (mem 23 1)) 23 1 fr_X7_50_8 rfl sh_23 rfl dX7_step_20 (fun r1 => ?_)
  refine sr_icmp_ge 54 s1 r1 (by decide) dX7_step_23 (fun h1 => ?_) (fun h1 => ?_)
  · have h1 : (mem 23 1) ≤ x1 := by omega
    refine st_aload_n (i := 0) rfl (t := 0) rfl (by decide) dX7_step_54 ?_
    refine so_getR 58 4 fr_X7_18_7 rfl sh_58 o_58_4 dX7_step_55 ?_
    refine st_astore_n (i := 1) rfl (by decide) (lc' := [(2, 58), (2, 61)]) rfl (by decide) dX7_step_58 ?_
    refine st_aload_n (i := 0) rfl (t := 0) rfl (by decide) dX7_step_59 ?_
    refine st_aload_n (i := 0) rfl (t := 0) rfl (by decide) dX7_step_60 ?_
    refine so_getR 58 5 fr_X7_22_7 rfl sh_58 o_58_5 dX7_step_61 ?_
    refine so_putA 58 4 fr_X7_18_7 pf_7_4 fo_58_4 rfl sh_58  dX7_step_64 ?_
    refine st_aload_n (i := 0) rfl (t := 0) rfl (by decide) dX7_step_67 ?_
    refine st_aload_n (i := 1) rfl (t := 0) rfl (by decide) dX7_step_68 ?_
    refine so_putA 58 5 fr_X7_22_7 pf_7_5 fo_58_5 rfl sh_58  dX7_step_69 ?_
    exact st_return rfl dX7_step_72 (mQv.ret (q1 h1))
  · have h1 : x1 < (mem 23 1) := by omega
    refine st_aload_n (i := 0) rfl (t := 0) rfl (by decide) dX7_step_26 ?_
    refine so_getR 58 4 fr_X7_18_7 rfl sh_58 o_58_4 dX7_step_27 ?_
    refine st_iload_n (i := 1) rfl rfl dX7_step_30 ?_
    refine so_lald (v := (mem 61 x1)) 61 rfl sh_61 (by decide) (s2 h1) rfl dX7_step_31 (fun r2 => ?_)
    refine st_lconst (v := 0) rfl dX7_step_32 ?_
    refine sr_lcmp_eq 48 r2 ⟨by decide, by decide⟩ (by decide) dX7_step_33 dX7_step_34 (fun h2 => ?_) (fun h2 => ?_)
    · have h2 : (mem 61 x1) = 0 := by omega
      refine st_iinc (y := (x1 + 1)) (by decide) (i := 1) rfl rfl (lc' := [(2, 58), (0, (x1 + 1))]) rfl dX7_step_48 ?_
      refine st_goto 15 (by decide) dX7_step_51 ?_
      exact st_locals [(2, 58), (0, (x1 + 1))] ⟨Or.inr rfl, Or.inr rfl, trivial⟩ (k1 h1 h2)
    · have h2 : ¬ (mem 61 x1) = 0 := by omega
      refine st_aload_n (i := 0) rfl (t := 0) rfl (by decide) dX7_step_37 ?_
      refine st_iload_n (i := 1) rfl rfl dX7_step_38 ?_
      refine st_aload_n (i := 0) rfl (t := 0) rfl (by decide) dX7_step_39 ?_
      refine so_getR 58 4 fr_X7_18_7 rfl sh_58 o_58_4 dX7_step_40 ?_
      refine st_iload_n (i := 1) rfl rfl dX7_step_43 ?_
      refine so_lald (v := (mem 61 x1)) 61 rfl sh_61 (by decide) (s2 h1) rfl dX7_step_44 (fun r3 => ?_)
      refine st_callV (kc2 := 0) (ks2 := 0) (av := [(0, x1), (1, (mem 61 x1))]) 58 7 mr_X7_103 ok_X7_comeTo (c1 h1 h2) rfl sh_58 ⟨_, rfl, rfl, by decide⟩ rfl rfl hd_d1 (Nat.le_refl 0) (Nat.le_refl 0) (Nat.le_of_ble_eq_true rfl) dX7_step_45 (mQv.elim fun m1 p1 => ?_)
      refine st_iinc (y := (x1 + 1)) (by decide) (i := 1) rfl rfl (lc' := [(2, 58), (0, (x1 + 1))]) rfl dX7_step_48 ?_
      refine st_goto 15 (by decide) dX7_step_51 ?_
      exact st_locals [(2, 58), (0, (x1 + 1))] ⟨Or.inr rfl, Or.inr rfl, trivial⟩ (k2 h1 h2 m1 p1)
theorem c_X7_start_a (mem : mmM) (n : Int) (hn : 0 < n ∧ n ≤ 24) (fg tk to : Int → Int) (h4 : mem 58 4 = 61) (h5 : mem 58 5 = 62) : conv bX7_start 2 [(2, 58)] mem (fun m => odFr mem m ∧ odX n (odN n fg tk to 0) m) := by
  refine cn_X7_start_a (bk_X7_start_a_0 h4 ⟨fun a a1 a2 a3 a4 a5 => ?_, ?_, ?_, ?_, fun j j0 j1 => ?_, fun j j0 j1 => ?_⟩)
  · rw [mset_ne a2, mset_ne a1, mset_ne a1, mrow_ne a5, mrow_ne a4, mrow_ne a2]
  · refine Or.inl ⟨?_, ?_, fun j j0 j1 => ?_⟩
    · rw [mset_ne (by decide), mset_at, if_neg (by decide), mset_at, if_neg (by decide), mrow_ne (by decide), mrow_ne (by decide), mrow_ne (by decide)]
      exact h4
    · rw [mset_ne (by decide), mset_at, if_neg (by decide), mset_at, if_neg (by decide), mrow_ne (by decide), mrow_ne (by decide), mrow_ne (by decide)]
      exact h5
    · rw [mset_at, mset_ne (by decide), mset_ne (by decide), mrow_ne (by decide), mrow_ne (by decide), mrow_same]
      show (if j = 0 then (1000000000 : Int) else if 0 ≤ j ∧ j < 24 then 0 else mem 61 j) = if j = 0 then 1000000000 else 0
      split
      · rfl
      · rw [if_pos (by omega)]
  · rw [mset_ne (by decide), mset_at, if_neg (by decide), mset_same]
    rfl
  · rw [mset_ne (by decide), mset_same]
    show (1000000000 : Int) = sumTo (updF (fun _ => 0) 0 1000000000) n.toNat
    rw [sumTo_upd _ _ _ _ (by omega), sumTo_0 (f := fun _ => 0) (fun i _ _ => rfl)]
    rfl
  · rw [mset_ne (by decide), mset_ne (by decide), mset_ne (by decide), mrow_ne (by decide), mrow_same, if_pos (by omega)]
    rfl
  · rw [mset_ne (by decide), mset_ne (by decide), mset_ne (by decide), mrow_same, if_pos (by omega)]
    rfl
theorem c_X7_say_a (mem : mmM) (x1 x2 : Int) (h5 : mem 58 5 = 62) (hn : 0 ≤ mem 23 1 ∧ mem 23 1 ≤ 24) (h1 : 0 ≤ x1 ∧ x1 < mem 23 1) (b1 : R64 (mem 64 x1 + x2)) (b2 : R64 (mem 58 8 + x2)) (b3 : x1 + 1 < mem 23 1 → R64 (mem 62 (x1 + 1) + x2)) (b4 : R64 (mem 58 9 + x2)) : conv bX7_say 2 [(2, 58), (0, x1), (1, x2)] mem (fun m => m = sayO 62 mem x1 x2) := by
  have e : mset mem 64 x1 (mem 64 x1 + x2) 23 = mem 23 := mset_ne (by decide)
  refine cn_X7_say_a (bk_X7_say_a_0 h5 (fun g => ?_) (fun g => ?_) (s4 := fun _ => b2) (s6 := fun g => b3 (by rw [e] at g; exact g.2)) (s5 := fun g => by rw [e] at g; omega) (s7 := fun _ => b4))
  · rw [e] at g
    unfold sayO
    rw [if_neg (by omega)]
  · rw [e] at g
    unfold sayO
    rw [if_pos g.2]
theorem c_X7_comeTo_a (mem : mmM) (n E c v : Int) (σ : odT) (p : Int → Int) (x1 : Int) (h5 : mem 58 5 = 62) (hn : mem 23 1 = n) (hP : odP n (mem 59) (mem 60) (mem 38)) (h1 : 0 ≤ x1 ∧ x1 < n) (hR : odR 62 n E σ mem) (hI : odI n c v σ) (hp : 0 ≤ p x1 ∧ p x1 ≤ 1000000000) (hE : 0 ≤ E ∧ E ≤ 1000000000) (hc : c ≤ 1000000000) (hv : v ≤ 1000000000000) : conv bX7_comeTo 3 [(2, 58), (0, x1), (1, p x1)] mem (fun m => odR 62 n E (odS (mem 59) (mem 60) (mem 38) p σ x1) m ∧ sayFr 62 mem m) := by
  obtain ⟨f1, f2, f3⟩ := hP.2 x1 h1.1 h1.2
  have g := goneP_bnd hp.1 f1 f2
  have t1 := part100 hp.1 f1
  have t2 := part100 (p := lostP (p x1) (mem 59 x1)) t1.1 f2
  have fr1 := sayO_fr 62 (by decide) mem x1 (p x1 - goneP (p x1) (mem 59 x1) (mem 60 x1))
  have r1 := odR_say ⟨by decide, by decide, by decide⟩ hR hn (p x1 - goneP (p x1) (mem 59 x1) (mem 60 x1)) h1
  have i1 := odI_say hI x1 (p x1 - goneP (p x1) (mem 59 x1) (mem 60 x1)) h1 (by omega)
  have bI := odI_bnd hI hP.1.1
  have b1 := odI_bnd i1 hP.1.1
  have e38 : sayO 62 mem x1 (p x1 - goneP (p x1) (mem 59 x1) (mem 60 x1)) 38 = mem 38 := fr1.1 38 (by decide) (by decide) (by decide) (by decide)
  have e23 : sayO 62 mem x1 (p x1 - goneP (p x1) (mem 59 x1) (mem 60 x1)) 23 = mem 23 := fr1.1 23 (by decide) (by decide) (by decide) (by decide)
  have cs : ∀ (m : mmM) (τ : odT) (c' v' s x : Int), odR 62 n E τ m → odI n c' v' τ → m 58 5 = 62 → m 23 1 = n → 0 ≤ s ∧ s < n → 0 ≤ x ∧ x ≤ 1000000000 → c' ≤ 2000000000 → v' ≤ 2000000000000 → conv bX7_say 2 [(2, 58), (0, s), (1, x)] m (fun m' => m' = sayO 62 m s x) := by
    intro m τ c' v' s x hr hi k5 k23 hs hx hc' hv'
    have b := odI_bnd hi hP.1.1
    obtain ⟨q1, q2, q3, q4, q5⟩ := hr
    have z1 := hi.2.2.1 s hs.1 hs.2
    have z2 := b.1 n hP.1.1 (Int.le_refl _)
    have hn' := hP.1
    refine c_X7_say_a m s x k5 (by rw [k23]; exact hn') (by rw [k23]; exact hs) (by rw [q5 s hs.1 hs.2]; omega) (by rw [q2]; omega) (fun gg => ?_) (by rw [q3]; omega)
    rw [k23] at gg
    have z3 := b.1 (s + 1) (by omega) (by omega)
    rw [q1 (s + 1) (by omega) gg]
    omega
  have hn' := hP.1
  refine cn_X7_comeTo_a (bk_X7_comeTo_a_0 (d1 := 2) (d2 := 2) (P1 := fun m => m = sayO 62 mem x1 (p x1 - goneP (p x1) (mem 59 x1) (mem 60 x1))) (P2 := fun m => m = sayO 62 (sayO 62 mem x1 (p x1 - goneP (p x1) (mem 59 x1) (mem 60 x1))) (mem 38 x1) (goneP (p x1) (mem 59 x1) (mem 60 x1))) (cs mem σ c v x1 (p x1 - goneP (p x1) (mem 59 x1) (mem 60 x1)) hR hI h5 hn h1 (by omega) (by omega) (by omega)) (fun m1 q w => ?_) (fun m1 q w m2 q2 => ?_) (fun m1 q w => ?_) (s2 := by omega) (s3 := ?_) (s4 := fun m1 q w => ?_))
  · subst q
    rw [e38] at w ⊢
    exact cs _ _ _ _ (mem 38 x1) (goneP (p x1) (mem 59 x1) (mem 60 x1)) r1 i1 (by rw [fr1.2.2]; exact h5) (by rw [e23]; exact hn) (by omega) (by omega) (by omega) (by omega)
  · subst q
    rw [e38] at w
    subst q2
    have r2 := odR_say ⟨by decide, by decide, by decide⟩ r1 (by rw [e23]; exact hn) (goneP (p x1) (mem 59 x1) (mem 60 x1)) (s := mem 38 x1) (by omega)
    refine ⟨?_, fr1.trans (sayO_fr 62 (by decide) _ _ _)⟩
    unfold odS
    rw [if_neg w]
    exact r2
  · subst q
    rw [e38] at w
    have r2 := odR_stop ⟨by decide, by decide, by decide⟩ r1 (goneP (p x1) (mem 59 x1) (mem 60 x1)) h1
    refine ⟨?_, fr1.trans (stop_fr _ _ _)⟩
    unfold odS
    rw [if_pos w]
    exact r2
  · unfold lostP at t2
    omega
  · subst q
    have z := b1.2.1 x1 h1.1 h1.2
    have z2 := r1.2.2.2.1 x1 h1.1 h1.2
    show R64 (sayO 62 mem x1 (p x1 - goneP (p x1) (mem 59 x1) (mem 60 x1)) 63 x1 + goneP (p x1) (mem 59 x1) (mem 60 x1))
    rw [z2]
    omega
theorem c_X7_step_a (mem : mmM) (n : Int) (k : Nat) (u : odU) (hn : mem 23 1 = n) (hP : odP n (mem 59) (mem 60) (mem 38)) (hK : odK n k u) (hk : k ≤ 200) (h4 : mem 58 4 = 61) (h5 : mem 58 5 = 62) (hA : ∀ j, 0 ≤ j → j < n → mem 61 j = u.1 j) (h8 : mem 58 8 = u.2.1) (hS : ∀ j, 0 ≤ j → j < n → mem 63 j = u.2.2.1 j) (hV : ∀ j, 0 ≤ j → j < n → mem 64 j = u.2.2.2 j) : conv bX7_step 4 [(2, 58)] mem (fun m => odFr mem m ∧ odX n (odNx n (mem 59) (mem 60) (mem 38) u) m) := by
  have hn' := hP.1
  have z := odK_sum hK
  have fold := fun i hi => odI_fold (c := sumTo u.2.2.1 n.toNat) (v := 1000000000 * k) hP hK.1 hK.2.2.1 hK.2.2.2.1 rfl i hi
  have psum : ∀ i : Nat, i ≤ n.toNat → 0 ≤ sumTo u.1 i ∧ sumTo u.1 i ≤ sumTo u.1 n.toNat := by
    intro i hi
    refine ⟨sumTo_nonneg (fun j j0 j1 => hK.1 j j0 (by omega)), ?_⟩
    have : ∀ t : Nat, i + t ≤ n.toNat → sumTo u.1 i ≤ sumTo u.1 (i + t) := by
      intro t
      induction t with
      | zero => intro _; exact Int.le_refl _
      | succ t ih =>
        intro h
        have := hK.1 ((i + t : Nat) : Int) (by omega) (by omega)
        have := ih (by omega)
        show _ ≤ sumTo u.1 (i + t) + u.1 ((i + t : Nat) : Int)
        omega
    have := this (n.toNat - i) (by omega)
    rw [show i + (n.toNat - i) = n.toNat by omega] at this
    exact this
  refine cn_X7_step_a (bk_X7_step_a_0 h5 ?_)
  refine loop_up (n := n) (fun i => ∀ m, sayFr 62 mem m → odR 62 n u.2.1 (odF (mem 59) (mem 60) (mem 38) u.1 u.2.2.1 u.2.2.2 i.toNat) m → mmT bX7_step 4 0 0 (mQv (fun m => odFr mem m ∧ odX n (odNx n (mem 59) (mem 60) (mem 38) u) m)) 15 [(2, 58), (0, i)] [] mS m) (fun i h0 h1 ih m f r => ?_) 0 (by omega) hn'.1 _ ?_ ?_
  · have e23 : m 23 1 = n := by rw [f.1 23 (by decide) (by decide) (by decide) (by decide)]; exact hn
    have e59 : m 59 = mem 59 := f.1 59 (by decide) (by decide) (by decide) (by decide)
    have e60 : m 60 = mem 60 := f.1 60 (by decide) (by decide) (by decide) (by decide)
    have e38 : m 38 = mem 38 := f.1 38 (by decide) (by decide) (by decide) (by decide)
    have eA : m 61 = mem 61 := f.1 61 (by decide) (by decide) (by decide) (by decide)
    have pA : i < n → m 61 i = u.1 i := fun g => by rw [eA]; exact hA i h0 g
    have fI := fold i.toNat (by omega)
    have ps := psum i.toNat (by omega)
    have hKs := hK.2.2.2.2
    refine bk_X7_step_a_15 (d1 := 3) (P1 := fun m1 => odR 62 n u.2.1 (odS (mem 59) (mem 60) (mem 38) u.1 (odF (mem 59) (mem 60) (mem 38) u.1 u.2.2.1 u.2.2.2 i.toNat) i) m1 ∧ sayFr 62 m m1) (by rw [f.2.1]; exact h4) (by rw [f.2.2]; exact h5) (fun g g2 => ?_) (fun g g2 => ih (by omega) m f ?_) (fun g g2 m1 q => ih (by omega) m1 (f.trans q.2) ?_) (fun g => ⟨fun a a1 a2 a3 a4 a5 => ?_, ?_, ?_, ?_, fun j j0 j1 => ?_, fun j j0 j1 => ?_⟩) (s2 := fun g => by omega)
    · rw [e23] at g
      rw [pA g]
      have c := c_X7_comeTo_a m n u.2.1 _ _ _ u.1 i (by rw [f.2.2]; exact h5) e23 (by rw [e59, e60, e38]; exact hP) ⟨h0, g⟩ r fI ⟨hK.1 i h0 g, z.2.2.2.1 i h0 g⟩ z.2.1 (by omega) (by omega)
      rw [e59, e60, e38] at c
      exact c
    · rw [e23] at g
      rw [pA g] at g2
      rw [odF_step _ _ _ _ _ _ h0, odS_0 _ g2]
      exact r
    · rw [odF_step _ _ _ _ _ _ h0]
      exact q.1
    · rw [mset_ne a1, mset_ne a1]
      exact f.1 a a1 a3 a4 a5
    · rw [e23] at g
      refine Or.inr ⟨?_, ?_, fun j j0 j1 => ?_⟩
      · rw [mset_at, if_neg (by decide), mset_same]
      · rw [mset_same]
      · rw [mset_ne (by decide), mset_ne (by decide), r.1 j j0 j1, show i = n by omega]
        rfl
    · rw [e23] at g
      rw [mset_at, if_neg (by decide), mset_at, if_neg (by decide), r.2.1, show i = n by omega]
      rfl
    · rw [e23] at g
      rw [mset_at, if_neg (by decide), mset_at, if_neg (by decide), r.2.2.1, show i = n by omega]
      rfl
    · rw [e23] at g
      rw [mset_ne (by decide), mset_ne (by decide), r.2.2.2.1 j j0 j1, show i = n by omega]
      rfl
    · rw [e23] at g
      rw [mset_ne (by decide), mset_ne (by decide), r.2.2.2.2 j j0 j1, show i = n by omega]
      rfl
  · refine ⟨fun a a1 a2 a3 a4 => ?_, ?_, ?_⟩
    · rw [mset_ne a1, mrow_ne a2]
    · rw [mset_at, if_neg (by decide), mrow_ne (by decide)]
    · rw [mset_at, if_neg (by decide), mrow_ne (by decide)]
  · refine ⟨fun j j0 j1 => ?_, ?_, ?_, fun j j0 j1 => ?_, fun j j0 j1 => ?_⟩
    · rw [mset_ne (by decide), mrow_same, if_pos (by omega)]
      rfl
    · rw [mset_at, if_neg (by decide), mrow_ne (by decide), h8]
      show _ = u.2.1 + 0
      omega
    · rw [mset_same]
      exact (sumTo_0 (fun i _ _ => rfl)).symm
    · rw [mset_ne (by decide), mrow_ne (by decide)]
      exact hS j j0 j1
    · rw [mset_ne (by decide), mrow_ne (by decide)]
      exact hV j j0 j1
theorem cn_X7_start_b {d : Nat} {P : mmM → Prop} {mem : mmM} (h : mmT bX7_start d 0 0 (mQv P) 0 [(2, 58)] [] mS mem) : conv bX7_start d [(2, 58)] mem P := mmC_of [(2, 58)] ok_X7_start.2.2.2.2 rfl (Nat.le_of_ble_eq_true rfl) h
theorem bk_X7_start_b_0 {d : Nat} {P : mmM → Prop} {mem : mmM}
  (o_58_4 : mem 58 4 = 62)
  (q1 : P (mset (mset (mset (mrow (mrow (mrow mem 62 (fun j => if 0 ≤ j ∧ j < 24 then 0 else mem 62 j)) 63 (fun j => if 0 ≤ j ∧ j < 24 then 0 else (mrow mem 62 (fun j => if 0 ≤ j ∧ j < 24 then 0 else mem 62 j)) 63 j)) 64 (fun j => if 0 ≤ j ∧ j < 24 then 0 else (mrow (mrow mem 62 (fun j => if 0 ≤ j ∧ j < 24 then 0 else mem 62 j)) 63 (fun j => if 0 ≤ j ∧ j < 24 then 0 else (mrow mem 62 (fun j => if 0 ≤ j ∧ j < 24 then 0 else mem 62 j)) 63 j)) 64 j)) 58 8 0) 58 9 1000000000) 62 0 1000000000))
  (hd2 : 2 ≤ d := by omega)
  : mmT bX7_start d 0 0 (mQv P) 0 [(2, 58)] [] mS mem := by
  refine st_aload_n (i := 0) rfl (t := 0) rfl (by decide) dX7_start_0 ?_
  refine so_getR 58 4 fr_X7_18_7 rfl sh_58 o_58_4 dX7_start_1 ?_
  refine st_lconst (v := 0) rfl dX7_start_4 ?_
  refine st_callS (kc2 := 0) (ks2 := 0) (av := [(2, 62), (1, 0)]) mr_X7_86 ok_J7_fill_d0a16 (c_fill62 mem 0 (⟨by decide, by decide⟩)) rfl rfl hd2 (Nat.le_refl 0) (Nat.le_refl 0) (Nat.le_of_ble_eq_true rfl) dX7_start_5 (mQv.elim fun m1 hp => ?_)
  have hp := hp.symm
  subst hp
  refine st_aload_n (i := 0) rfl (t := 0) rfl (by decide) dX7_start_8 ?_
  refine so_getA 58 6 fr_X7_25_7 rfl sh_58 fx_58_6 dX7_start_9 ?_
  refine st_lconst (v := 0) rfl dX7_start_12 ?_
  refine st_callS (kc2 := 0) (ks2 := 0) (av := [(2, 63), (1, 0)]) mr_X7_86 ok_J7_fill_d0a16 (c_fill63 (mrow mem 62 (fun j => if 0 ≤ j ∧ j < 24 then 0 else mem 62 j)) 0 (⟨by decide, by decide⟩)) rfl rfl hd2 (Nat.le_refl 0) (Nat.le_refl 0) (Nat.le_of_ble_eq_true rfl) dX7_start_13 (mQv.elim fun m2 hp => ?_)
  have hp := hp.symm
  subst hp
  refine st_aload_n (i := 0) rfl (t := 0) rfl (by decide) dX7_start_16 ?_
  refine so_getA 58 7 fr_X7_28_7 rfl sh_58 fx_58_7 dX7_start_17 ?_
  refine st_lconst (v := 0) rfl dX7_start_20 ?_
  refine st_callS (kc2 := 0) (ks2 := 0) (av := [(2, 64), (1, 0)]) mr_X7_86 ok_J7_fill_d0a16 (c_fill64 (mrow (mrow mem 62 (fun j => if 0 ≤ j ∧ j < 24 then 0 else mem 62 j)) 63 (fun j => if 0 ≤ j ∧ j < 24 then 0 else (mrow mem 62 (fun j => if 0 ≤ j ∧ j < 24 then 0 else mem 62 j)) 63 j)) 0 (⟨by decide, by decide⟩)) rfl rfl hd2 (Nat.le_refl 0) (Nat.le_refl 0) (Nat.le_of_ble_eq_true rfl) dX7_start_21 (mQv.elim fun m3 hp => ?_)
  have hp := hp.symm
  subst hp
  refine st_aload_n (i := 0) rfl (t := 0) rfl (by decide) dX7_start_24 ?_
  refine st_lconst (v := 0) rfl dX7_start_25 ?_
  refine so_putJ 58 8 fr_X7_46_7 pf_7_8 fo_58_8 rfl sh_58 ⟨by decide, by decide⟩ dX7_start_26 ?_
  refine st_aload_n (i := 0) rfl (t := 0) rfl (by decide) dX7_start_29 ?_
  refine st_ldc2 cw_X7_92 dX7_start_30 ?_
  refine so_putJ 58 9 fr_X7_94_7 pf_7_9 fo_58_9 rfl sh_58 ⟨by decide, by decide⟩ dX7_start_33 ?_
  refine st_aload_n (i := 0) rfl (t := 0) rfl (by decide) dX7_start_36 ?_
  refine so_getR 58 4 fr_X7_18_7 rfl sh_58 (by simpa [mset, mrow] using o_58_4) dX7_start_37 ?_
  refine st_iconst dX7_start_40 ?_
  refine st_ldc2 cw_X7_92 dX7_start_41 ?_
  refine so_last 62 fr_62 rfl sh_62 (by decide) ⟨by decide, by decide⟩ ⟨by decide, by decide⟩ dX7_start_44 ?_
  exact st_return rfl dX7_start_45 (mQv.ret q1)
theorem cn_X7_say_b {d : Nat} {P : mmM → Prop} {mem : mmM} {x1 x2 : Int} (h : mmT bX7_say d 0 0 (mQv P) 0 [(2, 58), (0, x1), (1, x2), (9, 0)] [] mS mem) : conv bX7_say d [(2, 58), (0, x1), (1, x2)] mem P := mmC_of [(2, 58), (0, x1), (1, x2), (9, 0)] ok_X7_say.2.2.2.2 rfl (Nat.le_of_ble_eq_true rfl) h
theorem bk_X7_say_b_0 {d : Nat} {P : mmM → Prop} {mem : mmM} {x1 x2 : Int}
  (o_58_5 : mem 58 5 = 61)
  (q1 : ¬ (0 ≤ (x1 + 1) ∧ (x1 + 1) < ((mset mem 64 x1 ((mem 64 x1) + x2)) 23 1)) → P (mset (mset mem 64 x1 ((mem 64 x1) + x2)) 58 8 ((mem 58 8) + x2)))
  (q2 : (0 ≤ (x1 + 1) ∧ (x1 + 1) < ((mset mem 64 x1 ((mem 64 x1) + x2)) 23 1)) → P (mset (mset (mset mem 64 x1 ((mem 64 x1) + x2)) 61 (x1 + 1) ((mem 61 (x1 + 1)) + x2)) 58 9 ((mem 58 9) + x2)))
  (hd2 : 2 ≤ d := by omega)
  (s1 : 0 ≤ x1 ∧ x1 < 24 := by intros; first | omega | assumption | solve_by_elim)
  (s2 : R64 ((mem 64 x1) + x2) := by intros; first | omega | assumption | solve_by_elim)
  (s3 : R32 (x1 + 1) := by intros; first | omega | assumption | solve_by_elim)
  (s4 : ¬ (0 ≤ (x1 + 1) ∧ (x1 + 1) < ((mset mem 64 x1 ((mem 64 x1) + x2)) 23 1)) → R64 ((mem 58 8) + x2) := by intros; first | omega | assumption | solve_by_elim)
  (s5 : (0 ≤ (x1 + 1) ∧ (x1 + 1) < ((mset mem 64 x1 ((mem 64 x1) + x2)) 23 1)) → 0 ≤ (x1 + 1) ∧ (x1 + 1) < 24 := by intros; first | omega | assumption | solve_by_elim)
  (s6 : (0 ≤ (x1 + 1) ∧ (x1 + 1) < ((mset mem 64 x1 ((mem 64 x1) + x2)) 23 1)) → R64 ((mem 61 (x1 + 1)) + x2) := by intros; first | omega | assumption | solve_by_elim)
  (s7 : (0 ≤ (x1 + 1) ∧ (x1 + 1) < ((mset mem 64 x1 ((mem 64 x1) + x2)) 23 1)) → R64 ((mem 58 9) + x2) := by intros; first | omega | assumption | solve_by_elim)
  : mmT bX7_say d 0 0 (mQv P) 0 [(2, 58), (0, x1), (1, x2), (9, 0)] [] mS mem := by
  refine st_aload_n (i := 0) rfl (t := 0) rfl (by decide) dX7_say_0 ?_
  refine so_getA 58 7 fr_X7_28_7 rfl sh_58 fx_58_7 dX7_say_1 ?_
  refine st_iload_n (i := 1) rfl rfl dX7_say_4 ?_
  refine st_dup2 (Nat.ne_of_beq_eq_false rfl) (Nat.ne_of_beq_eq_false rfl) dX7_say_5 ?_
  refine so_lald (v := (mem 64 x1)) 64 rfl sh_64 (by decide) s1 rfl dX7_say_6 (fun r1 => ?_)
  refine st_lload_n (i := 2) rfl rfl dX7_say_7 ?_
  refine st_ladd dX7_say_8 ?_
  refine so_last 64 fr_64 rfl sh_64 (by decide) s1 s2 dX7_say_9 ?_
  refine st_aload_n (i := 0) rfl (t := 0) rfl (by decide) dX7_say_10 ?_
  refine so_getA 58 0 fr_X7_31_7 rfl sh_58 fx_58_0 dX7_say_11 ?_
  refine st_iload_n (i := 1) rfl rfl dX7_say_14 ?_
  refine st_iconst dX7_say_15 ?_
  refine st_iadd dX7_say_16 ?_
  refine st_callV (kc2 := 0) (ks2 := 0) (av := [(0, (x1 + 1))]) 23 8 mr_X7_115 ok_X8_has (c_X8_has (mset mem 64 x1 ((mem 64 x1) + x2)) (x1 + 1) (s3)) rfl sh_23 ⟨_, rfl, rfl, by decide⟩ rfl rfl hd2 (Nat.le_refl 0) (Nat.le_refl 0) (Nat.le_of_ble_eq_true rfl) dX7_say_17 (mQ.elim fun v1 m1 hp => ?_)
  obtain ⟨hpv, hpm⟩ := hp
  subst hpv
  have hpm := hpm.symm
  subst hpm
  refine so_ifeqB 48 (by decide) dX7_say_20 (fun h1 => ?_) (fun h1 => ?_)
  · have h1 : ¬ (0 ≤ (x1 + 1) ∧ (x1 + 1) < ((mset mem 64 x1 ((mem 64 x1) + x2)) 23 1)) := h1
    refine st_aload_n (i := 0) rfl (t := 0) rfl (by decide) dX7_say_48 ?_
    refine st_dup (Nat.ne_of_beq_eq_false rfl) dX7_say_49 ?_
    refine so_getJ (v := (mem 58 8)) 58 8 fr_X7_46_7 rfl sh_58 rfl dX7_say_50 (fun r2 => ?_)
    refine st_lload_n (i := 2) rfl rfl dX7_say_53 ?_
    refine st_ladd dX7_say_54 ?_
    refine so_putJ 58 8 fr_X7_46_7 pf_7_8 fo_58_8 rfl sh_58 (s4 h1) dX7_say_55 ?_
    exact st_return rfl dX7_say_58 (mQv.ret (q1 h1))
  · have h1 : (0 ≤ (x1 + 1) ∧ (x1 + 1) < ((mset mem 64 x1 ((mem 64 x1) + x2)) 23 1)) := h1
    refine st_aload_n (i := 0) rfl (t := 0) rfl (by decide) dX7_say_23 ?_
    refine so_getR 58 5 fr_X7_22_7 rfl sh_58 (by simpa [mset, mrow] using o_58_5) dX7_say_24 ?_
    refine st_iload_n (i := 1) rfl rfl dX7_say_27 ?_
    refine st_iconst dX7_say_28 ?_
    refine st_iadd dX7_say_29 ?_
    refine st_dup2 (Nat.ne_of_beq_eq_false rfl) (Nat.ne_of_beq_eq_false rfl) dX7_say_30 ?_
    refine so_lald (v := (mem 61 (x1 + 1))) 61 rfl sh_61 (by decide) (s5 h1) rfl dX7_say_31 (fun r3 => ?_)
    refine st_lload_n (i := 2) rfl rfl dX7_say_32 ?_
    refine st_ladd dX7_say_33 ?_
    refine so_last 61 fr_61 rfl sh_61 (by decide) (s5 h1) (s6 h1) dX7_say_34 ?_
    refine st_aload_n (i := 0) rfl (t := 0) rfl (by decide) dX7_say_35 ?_
    refine st_dup (Nat.ne_of_beq_eq_false rfl) dX7_say_36 ?_
    refine so_getJ (v := (mem 58 9)) 58 9 fr_X7_94_7 rfl sh_58 rfl dX7_say_37 (fun r4 => ?_)
    refine st_lload_n (i := 2) rfl rfl dX7_say_40 ?_
    refine st_ladd dX7_say_41 ?_
    refine so_putJ 58 9 fr_X7_94_7 pf_7_9 fo_58_9 rfl sh_58 (s7 h1) dX7_say_42 ?_
    refine st_goto 58 (by decide) dX7_say_45 ?_
    exact st_return rfl dX7_say_58 (mQv.ret (q2 h1))
theorem cn_X7_comeTo_b {d : Nat} {P : mmM → Prop} {mem : mmM} {x1 x2 : Int} (h : mmT bX7_comeTo d 0 0 (mQv P) 0 [(2, 58), (0, x1), (1, x2), (9, 0), (9, 0), (9, 0), (9, 0), (9, 0)] [] mS mem) : conv bX7_comeTo d [(2, 58), (0, x1), (1, x2)] mem P := mmC_of [(2, 58), (0, x1), (1, x2), (9, 0), (9, 0), (9, 0), (9, 0), (9, 0)] ok_X7_comeTo.2.2.2.2 rfl (Nat.le_of_ble_eq_true rfl) h
theorem bk_X7_comeTo_b_0 {d : Nat} {d1 : Nat} {P1 : mmM → Prop} {d2 : Nat} {P2 : mmM → Prop} {P : mmM → Prop} {mem : mmM} {x1 x2 : Int}
  (c1 : conv bX7_say d1 [(2, 58), (0, x1), (1, (x2 - ((Int.tdiv (x2 * (mem 59 x1)) 100) - (Int.tdiv ((Int.tdiv (x2 * (mem 59 x1)) 100) * (mem 60 x1)) 100))))] mem P1)
  (c2 : ∀ (m1 : mmM), P1 m1 → ¬ (m1 38 x1) = (-1) → conv bX7_say d2 [(2, 58), (0, (m1 38 x1)), (1, ((Int.tdiv (x2 * (mem 59 x1)) 100) - (Int.tdiv ((Int.tdiv (x2 * (mem 59 x1)) 100) * (mem 60 x1)) 100)))] m1 P2)
  (q1 : ∀ (m1 : mmM), P1 m1 → ¬ (m1 38 x1) = (-1) → ∀ (m2 : mmM), P2 m2 → P m2)
  (q2 : ∀ (m1 : mmM), P1 m1 → (m1 38 x1) = (-1) → P (mset m1 63 x1 ((m1 63 x1) + ((Int.tdiv (x2 * (mem 59 x1)) 100) - (Int.tdiv ((Int.tdiv (x2 * (mem 59 x1)) 100) * (mem 60 x1)) 100)))))
  (hd_d1 : d1 + 1 ≤ d := by omega)
  (hd_d2 : d2 + 1 ≤ d := by omega)
  (s1 : 0 ≤ x1 ∧ x1 < 24 := by intros; first | omega | assumption | solve_by_elim)
  (s2 : (-9223372036854775808) < (x2 * (mem 59 x1)) ∧ (x2 * (mem 59 x1)) < 9223372036854775808 := by intros; first | omega | assumption | solve_by_elim)
  (s3 : (-9223372036854775808) < ((Int.tdiv (x2 * (mem 59 x1)) 100) * (mem 60 x1)) ∧ ((Int.tdiv (x2 * (mem 59 x1)) 100) * (mem 60 x1)) < 9223372036854775808 := by intros; first | omega | assumption | solve_by_elim)
  (s4 : ∀ (m1 : mmM), P1 m1 → (m1 38 x1) = (-1) → R64 ((m1 63 x1) + ((Int.tdiv (x2 * (mem 59 x1)) 100) - (Int.tdiv ((Int.tdiv (x2 * (mem 59 x1)) 100) * (mem 60 x1)) 100))) := by intros; first | omega | assumption | solve_by_elim)
  : mmT bX7_comeTo d 0 0 (mQv P) 0 [(2, 58), (0, x1), (1, x2), (9, 0), (9, 0), (9, 0), (9, 0), (9, 0)] [] mS mem := by
  refine st_lload_n (i := 2) rfl rfl dX7_comeTo_0 ?_
  refine st_aload_n (i := 0) rfl (t := 0) rfl (by decide) dX7_comeTo_1 ?_
  refine so_getA 58 2 fr_X7_9_7 rfl sh_58 fx_58_2 dX7_comeTo_2 ?_
  refine st_iload_n (i := 1) rfl rfl dX7_comeTo_5 ?_
  refine so_iald (v := (mem 59 x1)) 59 rfl sh_59 (by decide) s1 rfl dX7_comeTo_6 (fun r1 => ?_)
  refine sr_i2l r1 dX7_comeTo_7 ?_
  refine st_lmul dX7_comeTo_8 ?_
  refine st_ldc2 cw_X7_107 dX7_comeTo_9 ?_
  refine sr_ldiv s2 ⟨by decide, by decide⟩ (by decide) dX7_comeTo_12 ?_
  refine st_lstore (by decide) (lc' := [(2, 58), (0, x1), (1, x2), (9, 0), (1, (Int.tdiv (x2 * (mem 59 x1)) 100)), (9, 0), (9, 0), (9, 0)]) rfl dX7_comeTo_13 ?_
  refine st_lload rfl dX7_comeTo_15 ?_
  refine st_lload rfl dX7_comeTo_17 ?_
  refine st_aload_n (i := 0) rfl (t := 0) rfl (by decide) dX7_comeTo_19 ?_
  refine so_getA 58 3 fr_X7_15_7 rfl sh_58 fx_58_3 dX7_comeTo_20 ?_
  refine st_iload_n (i := 1) rfl rfl dX7_comeTo_23 ?_
  refine so_iald (v := (mem 60 x1)) 60 rfl sh_60 (by decide) s1 rfl dX7_comeTo_24 (fun r2 => ?_)
  refine sr_i2l r2 dX7_comeTo_25 ?_
  refine st_lmul dX7_comeTo_26 ?_
  refine st_ldc2 cw_X7_107 dX7_comeTo_27 ?_
  refine sr_ldiv s3 ⟨by decide, by decide⟩ (by decide) dX7_comeTo_30 ?_
  refine st_lsub dX7_comeTo_31 ?_
  refine st_lstore (by decide) (lc' := [(2, 58), (0, x1), (1, x2), (9, 0), (1, (Int.tdiv (x2 * (mem 59 x1)) 100)), (9, 0), (1, ((Int.tdiv (x2 * (mem 59 x1)) 100) - (Int.tdiv ((Int.tdiv (x2 * (mem 59 x1)) 100) * (mem 60 x1)) 100))), (9, 0)]) rfl dX7_comeTo_32 ?_
  refine st_aload_n (i := 0) rfl (t := 0) rfl (by decide) dX7_comeTo_34 ?_
  refine st_iload_n (i := 1) rfl rfl dX7_comeTo_35 ?_
  refine st_lload_n (i := 2) rfl rfl dX7_comeTo_36 ?_
  refine st_lload rfl dX7_comeTo_37 ?_
  refine st_lsub dX7_comeTo_39 ?_
  refine st_callV (kc2 := 0) (ks2 := 0) (av := [(0, x1), (1, (x2 - ((Int.tdiv (x2 * (mem 59 x1)) 100) - (Int.tdiv ((Int.tdiv (x2 * (mem 59 x1)) 100) * (mem 60 x1)) 100))))]) 58 7 mr_X7_109 ok_X7_say c1 rfl sh_58 ⟨_, rfl, rfl, by decide⟩ rfl rfl hd_d1 (Nat.le_refl 0) (Nat.le_refl 0) (Nat.le_of_ble_eq_true rfl) dX7_comeTo_40 (mQv.elim fun m1 p1 => ?_)
  refine st_aload_n (i := 0) rfl (t := 0) rfl (by decide) dX7_comeTo_43 ?_
  refine so_getA 58 1 fr_X7_35_7 rfl sh_58 fx_58_1 dX7_comeTo_44 ?_
  refine so_getA 35 3 fr_X7_112_4 rfl sh_35 fx_35_3 dX7_comeTo_47 ?_
  refine st_iload_n (i := 1) rfl rfl dX7_comeTo_50 ?_
  refine so_iald (v := (m1 38 x1)) 38 rfl sh_38 (by decide) s1 rfl dX7_comeTo_51 (fun r3 => ?_)
  refine st_iconst dX7_comeTo_52 ?_
  refine sr_icmp_ne 70 r3 ⟨by decide, by decide⟩ (by decide) dX7_comeTo_53 (fun h1 => ?_) (fun h1 => ?_)
  · have h1 : ¬ (m1 38 x1) = (-1) := by omega
    refine st_aload_n (i := 0) rfl (t := 0) rfl (by decide) dX7_comeTo_70 ?_
    refine st_aload_n (i := 0) rfl (t := 0) rfl (by decide) dX7_comeTo_71 ?_
    refine so_getA 58 1 fr_X7_35_7 rfl sh_58 fx_58_1 dX7_comeTo_72 ?_
    refine so_getA 35 3 fr_X7_112_4 rfl sh_35 fx_35_3 dX7_comeTo_75 ?_
    refine st_iload_n (i := 1) rfl rfl dX7_comeTo_78 ?_
    refine so_iald (v := (m1 38 x1)) 38 rfl sh_38 (by decide) s1 rfl dX7_comeTo_79 (fun r4 => ?_)
    refine st_lload rfl dX7_comeTo_80 ?_
    refine st_callV (kc2 := 0) (ks2 := 0) (av := [(0, (m1 38 x1)), (1, ((Int.tdiv (x2 * (mem 59 x1)) 100) - (Int.tdiv ((Int.tdiv (x2 * (mem 59 x1)) 100) * (mem 60 x1)) 100)))]) 58 7 mr_X7_109 ok_X7_say (c2 m1 p1 h1) rfl sh_58 ⟨_, rfl, rfl, by decide⟩ rfl rfl hd_d2 (Nat.le_refl 0) (Nat.le_refl 0) (Nat.le_of_ble_eq_true rfl) dX7_comeTo_82 (mQv.elim fun m2 p2 => ?_)
    exact st_return rfl dX7_comeTo_85 (mQv.ret (q1 m1 p1 h1 m2 p2))
  · have h1 : (m1 38 x1) = (-1) := by omega
    refine st_aload_n (i := 0) rfl (t := 0) rfl (by decide) dX7_comeTo_56 ?_
    refine so_getA 58 6 fr_X7_25_7 rfl sh_58 fx_58_6 dX7_comeTo_57 ?_
    refine st_iload_n (i := 1) rfl rfl dX7_comeTo_60 ?_
    refine st_dup2 (Nat.ne_of_beq_eq_false rfl) (Nat.ne_of_beq_eq_false rfl) dX7_comeTo_61 ?_
    refine so_lald (v := (m1 63 x1)) 63 rfl sh_63 (by decide) s1 rfl dX7_comeTo_62 (fun r5 => ?_)
    refine st_lload rfl dX7_comeTo_63 ?_
    refine st_ladd dX7_comeTo_65 ?_
    refine so_last 63 fr_63 rfl sh_63 (by decide) s1 (s4 m1 p1 h1) dX7_comeTo_66 ?_
    refine st_goto 85 (by decide) dX7_comeTo_67 ?_
    exact st_return rfl dX7_comeTo_85 (mQv.ret (q2 m1 p1 h1))
theorem cn_X7_step_b {d : Nat} {P : mmM → Prop} {mem : mmM} (h : mmT bX7_step d 0 0 (mQv P) 0 [(2, 58), (9, 0)] [] mS mem) : conv bX7_step d [(2, 58)] mem P := mmC_of [(2, 58), (9, 0)] ok_X7_step.2.2.2.2 rfl (Nat.le_of_ble_eq_true rfl) h
theorem bk_X7_step_b_0 {d : Nat} {P : mmM → Prop} {mem : mmM}
  (o_58_5 : mem 58 5 = 61)
  (k1 : mmT bX7_step d 0 0 (mQv P) 15 [(2, 58), (0, 0)] [] mS (mset (mrow mem 61 (fun j => if 0 ≤ j ∧ j < 24 then 0 else mem 61 j)) 58 9 0))
  (hd2 : 2 ≤ d := by omega)
  : mmT bX7_step d 0 0 (mQv P) 0 [(2, 58), (9, 0)] [] mS mem := by
  refine st_aload_n (i := 0) rfl (t := 0) rfl (by decide) dX7_step_0 ?_
  refine so_getR 58 5 fr_X7_22_7 rfl sh_58 o_58_5 dX7_step_1 ?_
  refine st_lconst (v := 0) rfl dX7_step_4 ?_
  refine st_callS (kc2 := 0) (ks2 := 0) (av := [(2, 61), (1, 0)]) mr_X7_86 ok_J7_fill_d0a16 (c_fill61 mem 0 (⟨by decide, by decide⟩)) rfl rfl hd2 (Nat.le_refl 0) (Nat.le_refl 0) (Nat.le_of_ble_eq_true rfl) dX7_step_5 (mQv.elim fun m1 hp => ?_)
  have hp := hp.symm
  subst hp
  refine st_aload_n (i := 0) rfl (t := 0) rfl (by decide) dX7_step_8 ?_
  refine st_lconst (v := 0) rfl dX7_step_9 ?_
  refine so_putJ 58 9 fr_X7_94_7 pf_7_9 fo_58_9 rfl sh_58 ⟨by decide, by decide⟩ dX7_step_10 ?_
  refine st_iconst dX7_step_13 ?_
  refine st_istore_n (i := 1) rfl (by decide) (lc' := [(2, 58), (0, 0)]) rfl dX7_step_14 ?_
  exact st_locals [(2, 58), (0, 0)] ⟨Or.inr rfl, Or.inr rfl, trivial⟩ k1
theorem bk_X7_step_b_15 {d : Nat} {d1 : Nat} {P1 : mmM → Prop} {P : mmM → Prop} {mem : mmM} {x1 : Int}
  (o_58_4 : mem 58 4 = 62)
  (o_58_5 : mem 58 5 = 61)
  (c1 : x1 < (mem 23 1) → ¬ (mem 62 x1) = 0 → conv bX7_comeTo d1 [(2, 58), (0, x1), (1, (mem 62 x1))] mem P1)
  (k1 : x1 < (mem 23 1) → (mem 62 x1) = 0 → mmT bX7_step d 0 0 (mQv P) 15 [(2, 58), (0, (x1 + 1))] [] mS mem)
  (k2 : x1 < (mem 23 1) → ¬ (mem 62 x1) = 0 → ∀ (m1 : mmM), P1 m1 → mmT bX7_step d 0 0 (mQv P) 15 [(2, 58), (0, (x1 + 1))] [] mS m1)
  (q1 : (mem 23 1) ≤ x1 → P (mset (mset mem 58 4 61) 58 5 62))
  (hd_d1 : d1 + 1 ≤ d := by omega)
  (s1 : R32 x1 := by intros; first | omega | assumption | solve_by_elim)
  (s2 : x1 < (mem 23 1) → 0 ≤ x1 ∧ x1 < 24 := by intros; first | omega | assumption | solve_by_elim)
  : mmT bX7_step d 0 0 (mQv P) 15 [(2, 58), (0, x1)] [] mS mem := by
  refine st_iload_n (i := 1) rfl rfl dX7_step_15 ?_
  refine st_aload_n (i := 0) rfl (t := 0) rfl (by decide) dX7_step_16 ?_
  refine so_getA 58 0 fr_X7_31_7 rfl sh_58 fx_58_0 dX7_step_17 ?_
  refine so_getI (v := (mem 23 1)) 23 1 fr_X7_50_8 rfl sh_23 rfl dX7_step_20 (fun r1 => ?_)
  refine sr_icmp_ge 54 s1 r1 (by decide) dX7_step_23 (fun h1 => ?_) (fun h1 => ?_)
  · have h1 : (mem 23 1) ≤ x1 := by omega
    refine st_aload_n (i := 0) rfl (t := 0) rfl (by decide) dX7_step_54 ?_
    refine so_getR 58 4 fr_X7_18_7 rfl sh_58 o_58_4 dX7_step_55 ?_
    refine st_astore_n (i := 1) rfl (by decide) (lc' := [(2, 58), (2, 62)]) rfl (by decide) dX7_step_58 ?_
    refine st_aload_n (i := 0) rfl (t := 0) rfl (by decide) dX7_step_59 ?_
    refine st_aload_n (i := 0) rfl (t := 0) rfl (by decide) dX7_step_60 ?_
    refine so_getR 58 5 fr_X7_22_7 rfl sh_58 o_58_5 dX7_step_61 ?_
    refine so_putA 58 4 fr_X7_18_7 pf_7_4 fo_58_4 rfl sh_58  dX7_step_64 ?_
    refine st_aload_n (i := 0) rfl (t := 0) rfl (by decide) dX7_step_67 ?_
    refine st_aload_n (i := 1) rfl (t := 0) rfl (by decide) dX7_step_68 ?_
    refine so_putA 58 5 fr_X7_22_7 pf_7_5 fo_58_5 rfl sh_58  dX7_step_69 ?_
    exact st_return rfl dX7_step_72 (mQv.ret (q1 h1))
  · have h1 : x1 < (mem 23 1) := by omega
    refine st_aload_n (i := 0) rfl (t := 0) rfl (by decide) dX7_step_26 ?_
    refine so_getR 58 4 fr_X7_18_7 rfl sh_58 o_58_4 dX7_step_27 ?_
    refine st_iload_n (i := 1) rfl rfl dX7_step_30 ?_
    refine so_lald (v := (mem 62 x1)) 62 rfl sh_62 (by decide) (s2 h1) rfl dX7_step_31 (fun r2 => ?_)
    refine st_lconst (v := 0) rfl dX7_step_32 ?_
    refine sr_lcmp_eq 48 r2 ⟨by decide, by decide⟩ (by decide) dX7_step_33 dX7_step_34 (fun h2 => ?_) (fun h2 => ?_)
    · have h2 : (mem 62 x1) = 0 := by omega
      refine st_iinc (y := (x1 + 1)) (by decide) (i := 1) rfl rfl (lc' := [(2, 58), (0, (x1 + 1))]) rfl dX7_step_48 ?_
      refine st_goto 15 (by decide) dX7_step_51 ?_
      exact st_locals [(2, 58), (0, (x1 + 1))] ⟨Or.inr rfl, Or.inr rfl, trivial⟩ (k1 h1 h2)
    · have h2 : ¬ (mem 62 x1) = 0 := by omega
      refine st_aload_n (i := 0) rfl (t := 0) rfl (by decide) dX7_step_37 ?_
      refine st_iload_n (i := 1) rfl rfl dX7_step_38 ?_
      refine st_aload_n (i := 0) rfl (t := 0) rfl (by decide) dX7_step_39 ?_
      refine so_getR 58 4 fr_X7_18_7 rfl sh_58 o_58_4 dX7_step_40 ?_
      refine st_iload_n (i := 1) rfl rfl dX7_step_43 ?_
      refine so_lald (v := (mem 62 x1)) 62 rfl sh_62 (by decide) (s2 h1) rfl dX7_step_44 (fun r3 => ?_)
      refine st_callV (kc2 := 0) (ks2 := 0) (av := [(0, x1), (1, (mem 62 x1))]) 58 7 mr_X7_103 ok_X7_comeTo (c1 h1 h2) rfl sh_58 ⟨_, rfl, rfl, by decide⟩ rfl rfl hd_d1 (Nat.le_refl 0) (Nat.le_refl 0) (Nat.le_of_ble_eq_true rfl) dX7_step_45 (mQv.elim fun m1 p1 => ?_)
      refine st_iinc (y := (x1 + 1)) (by decide) (i := 1) rfl rfl (lc' := [(2, 58), (0, (x1 + 1))]) rfl dX7_step_48 ?_
      refine st_goto 15 (by decide) dX7_step_51 ?_
      exact st_locals [(2, 58), (0, (x1 + 1))] ⟨Or.inr rfl, Or.inr rfl, trivial⟩ (k2 h1 h2 m1 p1)
theorem c_X7_start_b (mem : mmM) (n : Int) (hn : 0 < n ∧ n ≤ 24) (fg tk to : Int → Int) (h4 : mem 58 4 = 62) (h5 : mem 58 5 = 61) : conv bX7_start 2 [(2, 58)] mem (fun m => odFr mem m ∧ odX n (odN n fg tk to 0) m) := by
  refine cn_X7_start_b (bk_X7_start_b_0 h4 ⟨fun a a1 a2 a3 a4 a5 => ?_, ?_, ?_, ?_, fun j j0 j1 => ?_, fun j j0 j1 => ?_⟩)
  · rw [mset_ne a3, mset_ne a1, mset_ne a1, mrow_ne a5, mrow_ne a4, mrow_ne a3]
  · refine Or.inr ⟨?_, ?_, fun j j0 j1 => ?_⟩
    · rw [mset_ne (by decide), mset_at, if_neg (by decide), mset_at, if_neg (by decide), mrow_ne (by decide), mrow_ne (by decide), mrow_ne (by decide)]
      exact h4
    · rw [mset_ne (by decide), mset_at, if_neg (by decide), mset_at, if_neg (by decide), mrow_ne (by decide), mrow_ne (by decide), mrow_ne (by decide)]
      exact h5
    · rw [mset_at, mset_ne (by decide), mset_ne (by decide), mrow_ne (by decide), mrow_ne (by decide), mrow_same]
      show (if j = 0 then (1000000000 : Int) else if 0 ≤ j ∧ j < 24 then 0 else mem 62 j) = if j = 0 then 1000000000 else 0
      split
      · rfl
      · rw [if_pos (by omega)]
  · rw [mset_ne (by decide), mset_at, if_neg (by decide), mset_same]
    rfl
  · rw [mset_ne (by decide), mset_same]
    show (1000000000 : Int) = sumTo (updF (fun _ => 0) 0 1000000000) n.toNat
    rw [sumTo_upd _ _ _ _ (by omega), sumTo_0 (f := fun _ => 0) (fun i _ _ => rfl)]
    rfl
  · rw [mset_ne (by decide), mset_ne (by decide), mset_ne (by decide), mrow_ne (by decide), mrow_same, if_pos (by omega)]
    rfl
  · rw [mset_ne (by decide), mset_ne (by decide), mset_ne (by decide), mrow_same, if_pos (by omega)]
    rfl
theorem c_X7_say_b (mem : mmM) (x1 x2 : Int) (h5 : mem 58 5 = 61) (hn : 0 ≤ mem 23 1 ∧ mem 23 1 ≤ 24) (h1 : 0 ≤ x1 ∧ x1 < mem 23 1) (b1 : R64 (mem 64 x1 + x2)) (b2 : R64 (mem 58 8 + x2)) (b3 : x1 + 1 < mem 23 1 → R64 (mem 61 (x1 + 1) + x2)) (b4 : R64 (mem 58 9 + x2)) : conv bX7_say 2 [(2, 58), (0, x1), (1, x2)] mem (fun m => m = sayO 61 mem x1 x2) := by
  have e : mset mem 64 x1 (mem 64 x1 + x2) 23 = mem 23 := mset_ne (by decide)
  refine cn_X7_say_b (bk_X7_say_b_0 h5 (fun g => ?_) (fun g => ?_) (s4 := fun _ => b2) (s6 := fun g => b3 (by rw [e] at g; exact g.2)) (s5 := fun g => by rw [e] at g; omega) (s7 := fun _ => b4))
  · rw [e] at g
    unfold sayO
    rw [if_neg (by omega)]
  · rw [e] at g
    unfold sayO
    rw [if_pos g.2]
theorem c_X7_comeTo_b (mem : mmM) (n E c v : Int) (σ : odT) (p : Int → Int) (x1 : Int) (h5 : mem 58 5 = 61) (hn : mem 23 1 = n) (hP : odP n (mem 59) (mem 60) (mem 38)) (h1 : 0 ≤ x1 ∧ x1 < n) (hR : odR 61 n E σ mem) (hI : odI n c v σ) (hp : 0 ≤ p x1 ∧ p x1 ≤ 1000000000) (hE : 0 ≤ E ∧ E ≤ 1000000000) (hc : c ≤ 1000000000) (hv : v ≤ 1000000000000) : conv bX7_comeTo 3 [(2, 58), (0, x1), (1, p x1)] mem (fun m => odR 61 n E (odS (mem 59) (mem 60) (mem 38) p σ x1) m ∧ sayFr 61 mem m) := by
  obtain ⟨f1, f2, f3⟩ := hP.2 x1 h1.1 h1.2
  have g := goneP_bnd hp.1 f1 f2
  have t1 := part100 hp.1 f1
  have t2 := part100 (p := lostP (p x1) (mem 59 x1)) t1.1 f2
  have fr1 := sayO_fr 61 (by decide) mem x1 (p x1 - goneP (p x1) (mem 59 x1) (mem 60 x1))
  have r1 := odR_say ⟨by decide, by decide, by decide⟩ hR hn (p x1 - goneP (p x1) (mem 59 x1) (mem 60 x1)) h1
  have i1 := odI_say hI x1 (p x1 - goneP (p x1) (mem 59 x1) (mem 60 x1)) h1 (by omega)
  have bI := odI_bnd hI hP.1.1
  have b1 := odI_bnd i1 hP.1.1
  have e38 : sayO 61 mem x1 (p x1 - goneP (p x1) (mem 59 x1) (mem 60 x1)) 38 = mem 38 := fr1.1 38 (by decide) (by decide) (by decide) (by decide)
  have e23 : sayO 61 mem x1 (p x1 - goneP (p x1) (mem 59 x1) (mem 60 x1)) 23 = mem 23 := fr1.1 23 (by decide) (by decide) (by decide) (by decide)
  have cs : ∀ (m : mmM) (τ : odT) (c' v' s x : Int), odR 61 n E τ m → odI n c' v' τ → m 58 5 = 61 → m 23 1 = n → 0 ≤ s ∧ s < n → 0 ≤ x ∧ x ≤ 1000000000 → c' ≤ 2000000000 → v' ≤ 2000000000000 → conv bX7_say 2 [(2, 58), (0, s), (1, x)] m (fun m' => m' = sayO 61 m s x) := by
    intro m τ c' v' s x hr hi k5 k23 hs hx hc' hv'
    have b := odI_bnd hi hP.1.1
    obtain ⟨q1, q2, q3, q4, q5⟩ := hr
    have z1 := hi.2.2.1 s hs.1 hs.2
    have z2 := b.1 n hP.1.1 (Int.le_refl _)
    have hn' := hP.1
    refine c_X7_say_b m s x k5 (by rw [k23]; exact hn') (by rw [k23]; exact hs) (by rw [q5 s hs.1 hs.2]; omega) (by rw [q2]; omega) (fun gg => ?_) (by rw [q3]; omega)
    rw [k23] at gg
    have z3 := b.1 (s + 1) (by omega) (by omega)
    rw [q1 (s + 1) (by omega) gg]
    omega
  have hn' := hP.1
  refine cn_X7_comeTo_b (bk_X7_comeTo_b_0 (d1 := 2) (d2 := 2) (P1 := fun m => m = sayO 61 mem x1 (p x1 - goneP (p x1) (mem 59 x1) (mem 60 x1))) (P2 := fun m => m = sayO 61 (sayO 61 mem x1 (p x1 - goneP (p x1) (mem 59 x1) (mem 60 x1))) (mem 38 x1) (goneP (p x1) (mem 59 x1) (mem 60 x1))) (cs mem σ c v x1 (p x1 - goneP (p x1) (mem 59 x1) (mem 60 x1)) hR hI h5 hn h1 (by omega) (by omega) (by omega)) (fun m1 q w => ?_) (fun m1 q w m2 q2 => ?_) (fun m1 q w => ?_) (s2 := by omega) (s3 := ?_) (s4 := fun m1 q w => ?_))
  · subst q
    rw [e38] at w ⊢
    exact cs _ _ _ _ (mem 38 x1) (goneP (p x1) (mem 59 x1) (mem 60 x1)) r1 i1 (by rw [fr1.2.2]; exact h5) (by rw [e23]; exact hn) (by omega) (by omega) (by omega) (by omega)
  · subst q
    rw [e38] at w
    subst q2
    have r2 := odR_say ⟨by decide, by decide, by decide⟩ r1 (by rw [e23]; exact hn) (goneP (p x1) (mem 59 x1) (mem 60 x1)) (s := mem 38 x1) (by omega)
    refine ⟨?_, fr1.trans (sayO_fr 61 (by decide) _ _ _)⟩
    unfold odS
    rw [if_neg w]
    exact r2
  · subst q
    rw [e38] at w
    have r2 := odR_stop ⟨by decide, by decide, by decide⟩ r1 (goneP (p x1) (mem 59 x1) (mem 60 x1)) h1
    refine ⟨?_, fr1.trans (stop_fr _ _ _)⟩
    unfold odS
    rw [if_pos w]
    exact r2
  · unfold lostP at t2
    omega
  · subst q
    have z := b1.2.1 x1 h1.1 h1.2
    have z2 := r1.2.2.2.1 x1 h1.1 h1.2
    show R64 (sayO 61 mem x1 (p x1 - goneP (p x1) (mem 59 x1) (mem 60 x1)) 63 x1 + goneP (p x1) (mem 59 x1) (mem 60 x1))
    rw [z2]
    omega
theorem c_X7_step_b (mem : mmM) (n : Int) (k : Nat) (u : odU) (hn : mem 23 1 = n) (hP : odP n (mem 59) (mem 60) (mem 38)) (hK : odK n k u) (hk : k ≤ 200) (h4 : mem 58 4 = 62) (h5 : mem 58 5 = 61) (hA : ∀ j, 0 ≤ j → j < n → mem 62 j = u.1 j) (h8 : mem 58 8 = u.2.1) (hS : ∀ j, 0 ≤ j → j < n → mem 63 j = u.2.2.1 j) (hV : ∀ j, 0 ≤ j → j < n → mem 64 j = u.2.2.2 j) : conv bX7_step 4 [(2, 58)] mem (fun m => odFr mem m ∧ odX n (odNx n (mem 59) (mem 60) (mem 38) u) m) := by
  have hn' := hP.1
  have z := odK_sum hK
  have fold := fun i hi => odI_fold (c := sumTo u.2.2.1 n.toNat) (v := 1000000000 * k) hP hK.1 hK.2.2.1 hK.2.2.2.1 rfl i hi
  have psum : ∀ i : Nat, i ≤ n.toNat → 0 ≤ sumTo u.1 i ∧ sumTo u.1 i ≤ sumTo u.1 n.toNat := by
    intro i hi
    refine ⟨sumTo_nonneg (fun j j0 j1 => hK.1 j j0 (by omega)), ?_⟩
    have : ∀ t : Nat, i + t ≤ n.toNat → sumTo u.1 i ≤ sumTo u.1 (i + t) := by
      intro t
      induction t with
      | zero => intro _; exact Int.le_refl _
      | succ t ih =>
        intro h
        have := hK.1 ((i + t : Nat) : Int) (by omega) (by omega)
        have := ih (by omega)
        show _ ≤ sumTo u.1 (i + t) + u.1 ((i + t : Nat) : Int)
        omega
    have := this (n.toNat - i) (by omega)
    rw [show i + (n.toNat - i) = n.toNat by omega] at this
    exact this
  refine cn_X7_step_b (bk_X7_step_b_0 h5 ?_)
  refine loop_up (n := n) (fun i => ∀ m, sayFr 61 mem m → odR 61 n u.2.1 (odF (mem 59) (mem 60) (mem 38) u.1 u.2.2.1 u.2.2.2 i.toNat) m → mmT bX7_step 4 0 0 (mQv (fun m => odFr mem m ∧ odX n (odNx n (mem 59) (mem 60) (mem 38) u) m)) 15 [(2, 58), (0, i)] [] mS m) (fun i h0 h1 ih m f r => ?_) 0 (by omega) hn'.1 _ ?_ ?_
  · have e23 : m 23 1 = n := by rw [f.1 23 (by decide) (by decide) (by decide) (by decide)]; exact hn
    have e59 : m 59 = mem 59 := f.1 59 (by decide) (by decide) (by decide) (by decide)
    have e60 : m 60 = mem 60 := f.1 60 (by decide) (by decide) (by decide) (by decide)
    have e38 : m 38 = mem 38 := f.1 38 (by decide) (by decide) (by decide) (by decide)
    have eA : m 62 = mem 62 := f.1 62 (by decide) (by decide) (by decide) (by decide)
    have pA : i < n → m 62 i = u.1 i := fun g => by rw [eA]; exact hA i h0 g
    have fI := fold i.toNat (by omega)
    have ps := psum i.toNat (by omega)
    have hKs := hK.2.2.2.2
    refine bk_X7_step_b_15 (d1 := 3) (P1 := fun m1 => odR 61 n u.2.1 (odS (mem 59) (mem 60) (mem 38) u.1 (odF (mem 59) (mem 60) (mem 38) u.1 u.2.2.1 u.2.2.2 i.toNat) i) m1 ∧ sayFr 61 m m1) (by rw [f.2.1]; exact h4) (by rw [f.2.2]; exact h5) (fun g g2 => ?_) (fun g g2 => ih (by omega) m f ?_) (fun g g2 m1 q => ih (by omega) m1 (f.trans q.2) ?_) (fun g => ⟨fun a a1 a2 a3 a4 a5 => ?_, ?_, ?_, ?_, fun j j0 j1 => ?_, fun j j0 j1 => ?_⟩) (s2 := fun g => by omega)
    · rw [e23] at g
      rw [pA g]
      have c := c_X7_comeTo_b m n u.2.1 _ _ _ u.1 i (by rw [f.2.2]; exact h5) e23 (by rw [e59, e60, e38]; exact hP) ⟨h0, g⟩ r fI ⟨hK.1 i h0 g, z.2.2.2.1 i h0 g⟩ z.2.1 (by omega) (by omega)
      rw [e59, e60, e38] at c
      exact c
    · rw [e23] at g
      rw [pA g] at g2
      rw [odF_step _ _ _ _ _ _ h0, odS_0 _ g2]
      exact r
    · rw [odF_step _ _ _ _ _ _ h0]
      exact q.1
    · rw [mset_ne a1, mset_ne a1]
      exact f.1 a a1 a2 a4 a5
    · rw [e23] at g
      refine Or.inl ⟨?_, ?_, fun j j0 j1 => ?_⟩
      · rw [mset_at, if_neg (by decide), mset_same]
      · rw [mset_same]
      · rw [mset_ne (by decide), mset_ne (by decide), r.1 j j0 j1, show i = n by omega]
        rfl
    · rw [e23] at g
      rw [mset_at, if_neg (by decide), mset_at, if_neg (by decide), r.2.1, show i = n by omega]
      rfl
    · rw [e23] at g
      rw [mset_at, if_neg (by decide), mset_at, if_neg (by decide), r.2.2.1, show i = n by omega]
      rfl
    · rw [e23] at g
      rw [mset_ne (by decide), mset_ne (by decide), r.2.2.2.1 j j0 j1, show i = n by omega]
      rfl
    · rw [e23] at g
      rw [mset_ne (by decide), mset_ne (by decide), r.2.2.2.2 j j0 j1, show i = n by omega]
      rfl
  · refine ⟨fun a a1 a2 a3 a4 => ?_, ?_, ?_⟩
    · rw [mset_ne a1, mrow_ne a2]
    · rw [mset_at, if_neg (by decide), mrow_ne (by decide)]
    · rw [mset_at, if_neg (by decide), mrow_ne (by decide)]
  · refine ⟨fun j j0 j1 => ?_, ?_, ?_, fun j j0 j1 => ?_, fun j j0 j1 => ?_⟩
    · rw [mset_ne (by decide), mrow_same, if_pos (by omega)]
      rfl
    · rw [mset_at, if_neg (by decide), mrow_ne (by decide), h8]
      show _ = u.2.1 + 0
      omega
    · rw [mset_same]
      exact (sumTo_0 (fun i _ _ => rfl)).symm
    · rw [mset_ne (by decide), mrow_ne (by decide)]
      exact hS j j0 j1
    · rw [mset_ne (by decide), mrow_ne (by decide)]
      exact hV j j0 j1
theorem c_X7_start (mem : mmM) (n : Int) (hn : 0 < n ∧ n ≤ 24) (fg tk to : Int → Int) (h : odOr mem) : conv bX7_start 2 [(2, 58)] mem (fun m => odFr mem m ∧ odX n (odN n fg tk to 0) m) := by
  rcases h with h | h
  · exact c_X7_start_a mem n hn fg tk to h.1 h.2
  · exact c_X7_start_b mem n hn fg tk to h.1 h.2
theorem c_X7_step (mem : mmM) (n : Int) (k : Nat) (u : odU) (hn : mem 23 1 = n) (hP : odP n (mem 59) (mem 60) (mem 38)) (hK : odK n k u) (hk : k ≤ 200) (hX : odX n u mem) : conv bX7_step 4 [(2, 58)] mem (fun m => odFr mem m ∧ odX n (odNx n (mem 59) (mem 60) (mem 38) u) m) := by
  obtain ⟨h, h8, -, hS, hV⟩ := hX
  rcases h with h | h
  · exact c_X7_step_a mem n k u hn hP hK hk h.1 h.2.1 h.2.2 h8 hS hV
  · exact c_X7_step_b mem n k u hn hP hK hk h.1 h.2.1 h.2.2 h8 hS hV
theorem odFr.trans {m0 m1 m2 : mmM} (h : odFr m0 m1) (h' : odFr m1 m2) : odFr m0 m2 := fun a a1 a2 a3 a4 a5 => (h' a a1 a2 a3 a4 a5).trans (h a a1 a2 a3 a4 a5)
theorem cn_X7_prepare {d : Nat} {P : mmM → Prop} {mem : mmM} {x1 : Int} (h : mmT bX7_prepare d 0 0 (mQv P) 0 [(2, 58), (0, x1), (9, 0), (9, 0)] [] mS mem) : conv bX7_prepare d [(2, 58), (0, x1)] mem P := mmC_of [(2, 58), (0, x1), (9, 0), (9, 0)] ok_X7_prepare.2.2.2.2 rfl (Nat.le_of_ble_eq_true rfl) h
theorem bk_X7_prepare_0 {d : Nat} {P : mmM → Prop} {mem : mmM} {x1 : Int}
  (k1 : mmT bX7_prepare d 0 0 (mQv P) 2 [(2, 58), (0, x1), (0, 0), (9, 0)] [] mS mem)
  : mmT bX7_prepare d 0 0 (mQv P) 0 [(2, 58), (0, x1), (9, 0), (9, 0)] [] mS mem := by
  refine st_iconst dX7_prepare_0 ?_
  refine st_istore_n (i := 2) rfl (by decide) (lc' := [(2, 58), (0, x1), (0, 0), (9, 0)]) rfl dX7_prepare_1 ?_
  exact st_locals [(2, 58), (0, x1), (0, 0), (9, 0)] ⟨Or.inr rfl, Or.inr rfl, Or.inr rfl, Or.inl rfl, trivial⟩ k1
theorem bk_X7_prepare_2 {d : Nat} {P : mmM → Prop} {mem : mmM} {x1 x2 : Int}
  (k1 : x2 < (mem 23 1) → (and32 (shr32 x1 x2) 1) = 0 → mmT bX7_prepare d 0 0 (mQv P) 2 [(2, 58), (0, x1), (0, (x2 + 1)), (9, 0)] [] mS (mset (mset mem 59 x2 (forgetsX mem x2 0)) 60 x2 0))
  (k2 : x2 < (mem 23 1) → ¬ (and32 (shr32 x1 x2) 1) = 0 → mmT bX7_prepare d 0 0 (mQv P) 2 [(2, 58), (0, x1), (0, (x2 + 1)), (9, 0)] [] mS (mset (mset mem 59 x2 (forgetsX mem x2 1)) 60 x2 (takeX (mset mem 59 x2 (forgetsX mem x2 1)) x2)))
  (q1 : (mem 23 1) ≤ x2 → P mem)
  (hd3 : 3 ≤ d := by omega)
  (s1 : R32 x2 := by intros; first | omega | assumption | solve_by_elim)
  (s2 : x2 < (mem 23 1) → (and32 (shr32 x1 x2) 1) = 0 → 0 ≤ (mem 23 1) ∧ (mem 23 1) ≤ 24 := by intros; first | omega | assumption | solve_by_elim)
  (s3 : x2 < (mem 23 1) → (and32 (shr32 x1 x2) 1) = 0 → 0 ≤ x2 ∧ x2 < 24 := by intros; first | omega | assumption | solve_by_elim)
  (s4 : x2 < (mem 23 1) → (and32 (shr32 x1 x2) 1) = 0 → R32 (forgetsX mem x2 0) := by intros; first | omega | assumption | solve_by_elim)
  (s5 : x2 < (mem 23 1) → ¬ (and32 (shr32 x1 x2) 1) = 0 → 0 ≤ (mem 23 1) ∧ (mem 23 1) ≤ 24 := by intros; first | omega | assumption | solve_by_elim)
  (s6 : x2 < (mem 23 1) → ¬ (and32 (shr32 x1 x2) 1) = 0 → 0 ≤ x2 ∧ x2 < 24 := by intros; first | omega | assumption | solve_by_elim)
  (s7 : x2 < (mem 23 1) → ¬ (and32 (shr32 x1 x2) 1) = 0 → R32 (forgetsX mem x2 1) := by intros; first | omega | assumption | solve_by_elim)
  (s8 : x2 < (mem 23 1) → ¬ (and32 (shr32 x1 x2) 1) = 0 → takeP (mset mem 59 x2 (forgetsX mem x2 1)) := by intros; first | omega | assumption | solve_by_elim)
  (s9 : x2 < (mem 23 1) → ¬ (and32 (shr32 x1 x2) 1) = 0 → R32 (takeX (mset mem 59 x2 (forgetsX mem x2 1)) x2) := by intros; first | omega | assumption | solve_by_elim)
  : mmT bX7_prepare d 0 0 (mQv P) 2 [(2, 58), (0, x1), (0, x2), (9, 0)] [] mS mem := by
  refine st_iload_n (i := 2) rfl rfl dX7_prepare_2 ?_
  refine st_aload_n (i := 0) rfl (t := 0) rfl (by decide) dX7_prepare_3 ?_
  refine so_getA 58 0 fr_X7_31_7 rfl sh_58 fx_58_0 dX7_prepare_4 ?_
  refine so_getI (v := (mem 23 1)) 23 1 fr_X7_50_8 rfl sh_23 rfl dX7_prepare_7 (fun r1 => ?_)
  refine sr_icmp_ge 70 s1 r1 (by decide) dX7_prepare_10 (fun h1 => ?_) (fun h1 => ?_)
  · have h1 : (mem 23 1) ≤ x2 := by omega
    exact st_return rfl dX7_prepare_70 (mQv.ret (q1 h1))
  · have h1 : x2 < (mem 23 1) := by omega
    refine st_iload_n (i := 1) rfl rfl dX7_prepare_13 ?_
    refine st_iload_n (i := 2) rfl rfl dX7_prepare_14 ?_
    refine st_ishr dX7_prepare_15 ?_
    refine st_iconst dX7_prepare_16 ?_
    refine st_iand dX7_prepare_17 ?_
    refine sr_if_eq 25 (and32_rng (shr32 x1 x2) 1) (by decide) dX7_prepare_18 (fun h2 => ?_) (fun h2 => ?_)
    · have h2 : (and32 (shr32 x1 x2) 1) = 0 := by omega
      refine st_iconst dX7_prepare_25 ?_
      refine st_istore_n (i := 3) rfl (by decide) (lc' := [(2, 58), (0, x1), (0, x2), (0, 0)]) rfl dX7_prepare_26 ?_
      refine st_aload_n (i := 0) rfl (t := 0) rfl (by decide) dX7_prepare_27 ?_
      refine so_getA 58 2 fr_X7_9_7 rfl sh_58 fx_58_2 dX7_prepare_28 ?_
      refine st_iload_n (i := 2) rfl rfl dX7_prepare_31 ?_
      refine st_aload_n (i := 0) rfl (t := 0) rfl (by decide) dX7_prepare_32 ?_
      refine so_getA 58 0 fr_X7_31_7 rfl sh_58 fx_58_0 dX7_prepare_33 ?_
      refine st_iload_n (i := 2) rfl rfl dX7_prepare_36 ?_
      refine st_iload_n (i := 3) rfl rfl dX7_prepare_37 ?_
      refine st_callV (kc2 := 0) (ks2 := 0) (av := [(0, x2), (0, 0)]) 23 8 mr_X7_78 ok_X8_forgets (c_X8_forgets mem x2 0 (s1) (⟨by decide, by decide⟩) ((s2 h1 h2))) rfl sh_23 ⟨_, rfl, rfl, by decide⟩ rfl rfl hd3 (Nat.le_refl 0) (Nat.le_refl 0) (Nat.le_of_ble_eq_true rfl) dX7_prepare_38 (mQ.elim fun v1 m1 hp => ?_)
      obtain ⟨hpv, hpm⟩ := hp
      subst hpv
      have hpm := hpm.symm
      subst hpm
      refine so_iast 59 fr_59 rfl sh_59 (by decide) (s3 h1 h2) (s4 h1 h2) dX7_prepare_41 ?_
      refine st_aload_n (i := 0) rfl (t := 0) rfl (by decide) dX7_prepare_42 ?_
      refine so_getA 58 3 fr_X7_15_7 rfl sh_58 fx_58_3 dX7_prepare_43 ?_
      refine st_iload_n (i := 2) rfl rfl dX7_prepare_46 ?_
      refine st_iload_n (i := 3) rfl rfl dX7_prepare_47 ?_
      refine sr_if_eq 62 ⟨by decide, by decide⟩ (by decide) dX7_prepare_48 (fun h => ?_) (fun h => ?_)
      rotate_left
      · exact absurd h (by decide)
      refine st_iconst dX7_prepare_62 ?_
      refine so_iast 60 fr_60 rfl sh_60 (by decide) (s3 h1 h2) ⟨by decide, by decide⟩ dX7_prepare_63 ?_
      refine st_iinc (y := (x2 + 1)) (by decide) (i := 2) rfl rfl (lc' := [(2, 58), (0, x1), (0, (x2 + 1)), (0, 0)]) rfl dX7_prepare_64 ?_
      refine st_goto 2 (by decide) dX7_prepare_67 ?_
      exact st_locals [(2, 58), (0, x1), (0, (x2 + 1)), (9, 0)] ⟨Or.inr rfl, Or.inr rfl, Or.inr rfl, Or.inl rfl, trivial⟩ (k1 h1 h2)
    · have h2 : ¬ (and32 (shr32 x1 x2) 1) = 0 := by omega
      refine st_iconst dX7_prepare_21 ?_
      refine st_goto 26 (by decide) dX7_prepare_22 ?_
      refine st_istore_n (i := 3) rfl (by decide) (lc' := [(2, 58), (0, x1), (0, x2), (0, 1)]) rfl dX7_prepare_26 ?_
      refine st_aload_n (i := 0) rfl (t := 0) rfl (by decide) dX7_prepare_27 ?_
      refine so_getA 58 2 fr_X7_9_7 rfl sh_58 fx_58_2 dX7_prepare_28 ?_
      refine st_iload_n (i := 2) rfl rfl dX7_prepare_31 ?_
      refine st_aload_n (i := 0) rfl (t := 0) rfl (by decide) dX7_prepare_32 ?_
      refine so_getA 58 0 fr_X7_31_7 rfl sh_58 fx_58_0 dX7_prepare_33 ?_
      refine st_iload_n (i := 2) rfl rfl dX7_prepare_36 ?_
      refine st_iload_n (i := 3) rfl rfl dX7_prepare_37 ?_
      refine st_callV (kc2 := 0) (ks2 := 0) (av := [(0, x2), (0, 1)]) 23 8 mr_X7_78 ok_X8_forgets (c_X8_forgets mem x2 1 (s1) (⟨by decide, by decide⟩) ((s5 h1 h2))) rfl sh_23 ⟨_, rfl, rfl, by decide⟩ rfl rfl hd3 (Nat.le_refl 0) (Nat.le_refl 0) (Nat.le_of_ble_eq_true rfl) dX7_prepare_38 (mQ.elim fun v2 m2 hp => ?_)
      obtain ⟨hpv, hpm⟩ := hp
      subst hpv
      have hpm := hpm.symm
      subst hpm
      refine so_iast 59 fr_59 rfl sh_59 (by decide) (s6 h1 h2) (s7 h1 h2) dX7_prepare_41 ?_
      refine st_aload_n (i := 0) rfl (t := 0) rfl (by decide) dX7_prepare_42 ?_
      refine so_getA 58 3 fr_X7_15_7 rfl sh_58 fx_58_3 dX7_prepare_43 ?_
      refine st_iload_n (i := 2) rfl rfl dX7_prepare_46 ?_
      refine st_iload_n (i := 3) rfl rfl dX7_prepare_47 ?_
      refine sr_if_eq 62 ⟨by decide, by decide⟩ (by decide) dX7_prepare_48 (fun h => ?_) (fun h => ?_)
      · exact absurd h (by decide)
      refine st_aload_n (i := 0) rfl (t := 0) rfl (by decide) dX7_prepare_51 ?_
      refine so_getA 58 1 fr_X7_35_7 rfl sh_58 fx_58_1 dX7_prepare_52 ?_
      refine st_iload_n (i := 2) rfl rfl dX7_prepare_55 ?_
      refine st_callV (kc2 := 0) (ks2 := 0) (av := [(0, x2)]) 35 4 mr_X7_81 ok_X4_takeOf (c_X4_takeOf (mset mem 59 x2 (forgetsX mem x2 1)) x2 (s1) ((s8 h1 h2))) rfl sh_35 ⟨_, rfl, rfl, by decide⟩ rfl rfl hd3 (Nat.le_refl 0) (Nat.le_refl 0) (Nat.le_of_ble_eq_true rfl) dX7_prepare_56 (mQ.elim fun v3 m3 hp => ?_)
      obtain ⟨hpv, hpm⟩ := hp
      subst hpv
      have hpm := hpm.symm
      subst hpm
      refine st_goto 63 (by decide) dX7_prepare_59 ?_
      refine so_iast 60 fr_60 rfl sh_60 (by decide) (s6 h1 h2) (s9 h1 h2) dX7_prepare_63 ?_
      refine st_iinc (y := (x2 + 1)) (by decide) (i := 2) rfl rfl (lc' := [(2, 58), (0, x1), (0, (x2 + 1)), (0, 1)]) rfl dX7_prepare_64 ?_
      refine st_goto 2 (by decide) dX7_prepare_67 ?_
      exact st_locals [(2, 58), (0, x1), (0, (x2 + 1)), (9, 0)] ⟨Or.inr rfl, Or.inr rfl, Or.inr rfl, Or.inl rfl, trivial⟩ (k2 h1 h2)
theorem cn_X7_flow_a {d : Nat} {P : mmM → Prop} {mem : mmM} {x1 : Int} (h : mmT bX7_flow d 0 0 (mQv P) 0 [(2, 58), (0, x1), (9, 0)] [] mS mem) : conv bX7_flow d [(2, 58), (0, x1)] mem P := mmC_of [(2, 58), (0, x1), (9, 0)] ok_X7_flow.2.2.2.2 rfl (Nat.le_of_ble_eq_true rfl) h
theorem bk_X7_flow_a_0 {d : Nat} {d1 : Nat} {P1 : mmM → Prop} {P : mmM → Prop} {mem : mmM} {x1 : Int}
  (c1 : conv bX7_start d1 [(2, 58)] mem P1)
  (k1 : ∀ (m1 : mmM), P1 m1 → mmT bX7_flow d 0 0 (mQv P) 6 [(2, 58), (0, x1), (0, 0)] [] mS m1)
  (hd_d1 : d1 + 1 ≤ d := by omega)
  : mmT bX7_flow d 0 0 (mQv P) 0 [(2, 58), (0, x1), (9, 0)] [] mS mem := by
  refine st_aload_n (i := 0) rfl (t := 0) rfl (by decide) dX7_flow_0 ?_
  refine st_callV (kc2 := 0) (ks2 := 0) (av := []) 58 7 mr_X7_97 ok_X7_start c1 rfl sh_58 ⟨_, rfl, rfl, by decide⟩ rfl rfl hd_d1 (Nat.le_refl 0) (Nat.le_refl 0) (Nat.le_of_ble_eq_true rfl) dX7_flow_1 (mQv.elim fun m1 p1 => ?_)
  refine st_iconst dX7_flow_4 ?_
  refine st_istore_n (i := 2) rfl (by decide) (lc' := [(2, 58), (0, x1), (0, 0)]) rfl dX7_flow_5 ?_
  exact st_locals [(2, 58), (0, x1), (0, 0)] ⟨Or.inr rfl, Or.inr rfl, Or.inr rfl, trivial⟩ (k1 m1 p1)
theorem bk_X7_flow_a_6 {d : Nat} {d1 : Nat} {P1 : mmM → Prop} {P : mmM → Prop} {mem : mmM} {x1 x2 : Int}
  (c1 : x2 < x1 → 0 < (mem 58 9) → conv bX7_step d1 [(2, 58)] mem P1)
  (k1 : x2 < x1 → 0 < (mem 58 9) → ∀ (m1 : mmM), P1 m1 → mmT bX7_flow d 0 0 (mQv P) 6 [(2, 58), (0, x1), (0, (x2 + 1))] [] mS m1)
  (q1 : x1 ≤ x2 → P mem)
  (q2 : x2 < x1 → (mem 58 9) ≤ 0 → P mem)
  (hd_d1 : d1 + 1 ≤ d := by omega)
  (s1 : R32 x2 := by intros; first | omega | assumption | solve_by_elim)
  (s2 : R32 x1 := by intros; first | omega | assumption | solve_by_elim)
  : mmT bX7_flow d 0 0 (mQv P) 6 [(2, 58), (0, x1), (0, x2)] [] mS mem := by
  refine st_iload_n (i := 2) rfl rfl dX7_flow_6 ?_
  refine st_iload_n (i := 1) rfl rfl dX7_flow_7 ?_
  refine sr_icmp_ge 30 s1 s2 (by decide) dX7_flow_8 (fun h1 => ?_) (fun h1 => ?_)
  · have h1 : x1 ≤ x2 := by omega
    exact st_return rfl dX7_flow_30 (mQv.ret (q1 h1))
  · have h1 : x2 < x1 := by omega
    refine st_aload_n (i := 0) rfl (t := 0) rfl (by decide) dX7_flow_11 ?_
    refine so_getJ (v := (mem 58 9)) 58 9 fr_X7_94_7 rfl sh_58 rfl dX7_flow_12 (fun r1 => ?_)
    refine st_lconst (v := 0) rfl dX7_flow_15 ?_
    refine sr_lcmp_le 30 r1 ⟨by decide, by decide⟩ (by decide) dX7_flow_16 dX7_flow_17 (fun h2 => ?_) (fun h2 => ?_)
    · have h2 : (mem 58 9) ≤ 0 := by omega
      exact st_return rfl dX7_flow_30 (mQv.ret (q2 h1 h2))
    · have h2 : 0 < (mem 58 9) := by omega
      refine st_aload_n (i := 0) rfl (t := 0) rfl (by decide) dX7_flow_20 ?_
      refine st_callV (kc2 := 0) (ks2 := 0) (av := []) 58 7 mr_X7_100 ok_X7_step (c1 h1 h2) rfl sh_58 ⟨_, rfl, rfl, by decide⟩ rfl rfl hd_d1 (Nat.le_refl 0) (Nat.le_refl 0) (Nat.le_of_ble_eq_true rfl) dX7_flow_21 (mQv.elim fun m1 p1 => ?_)
      refine st_iinc (y := (x2 + 1)) (by decide) (i := 2) rfl rfl (lc' := [(2, 58), (0, x1), (0, (x2 + 1))]) rfl dX7_flow_24 ?_
      refine st_goto 6 (by decide) dX7_flow_27 ?_
      exact st_locals [(2, 58), (0, x1), (0, (x2 + 1))] ⟨Or.inr rfl, Or.inr rfl, Or.inr rfl, trivial⟩ (k1 h1 h2 m1 p1)
theorem cn_X7_chanceWith_a {d : Nat} {P : Int → mmM → Prop} {mem : mmM} {x1 x2 : Int} (h : mmT bX7_chanceWith d 0 0 (mQ 0 P) 0 [(2, 58), (0, x1), (0, x2)] [] mS mem) : con 0 bX7_chanceWith d [(2, 58), (0, x1), (0, x2)] mem P := mmC_of [(2, 58), (0, x1), (0, x2)] ok_X7_chanceWith.2.2.2.2 rfl (Nat.le_of_ble_eq_true rfl) h
theorem bk_X7_chanceWith_a_0 {d : Nat} {d1 : Nat} {P1 : mmM → Prop} {d2 : Nat} {P2 : mmM → Prop} {P : Int → mmM → Prop} {mem : mmM} {x1 x2 : Int}
  (c1 : conv bX7_prepare d1 [(2, 58), (0, x1)] mem P1)
  (c2 : ∀ (m1 : mmM), P1 m1 → conv bX7_flow d2 [(2, 58), (0, x2)] m1 P2)
  (q1 : ∀ (m1 : mmM), P1 m1 → ∀ (m2 : mmM), P2 m2 → P (m2 58 8) m2)
  (hd_d1 : d1 + 1 ≤ d := by omega)
  (hd_d2 : d2 + 1 ≤ d := by omega)
  : mmT bX7_chanceWith d 0 0 (mQ 0 P) 0 [(2, 58), (0, x1), (0, x2)] [] mS mem := by
  refine st_aload_n (i := 0) rfl (t := 0) rfl (by decide) dX7_chanceWith_0 ?_
  refine st_iload_n (i := 1) rfl rfl dX7_chanceWith_1 ?_
  refine st_callV (kc2 := 0) (ks2 := 0) (av := [(0, x1)]) 58 7 mr_X7_39 ok_X7_prepare c1 rfl sh_58 ⟨_, rfl, rfl, by decide⟩ rfl rfl hd_d1 (Nat.le_refl 0) (Nat.le_refl 0) (Nat.le_of_ble_eq_true rfl) dX7_chanceWith_2 (mQv.elim fun m1 p1 => ?_)
  refine st_aload_n (i := 0) rfl (t := 0) rfl (by decide) dX7_chanceWith_5 ?_
  refine st_iload_n (i := 2) rfl rfl dX7_chanceWith_6 ?_
  refine st_callV (kc2 := 0) (ks2 := 0) (av := [(0, x2)]) 58 7 mr_X7_43 ok_X7_flow (c2 m1 p1) rfl sh_58 ⟨_, rfl, rfl, by decide⟩ rfl rfl hd_d2 (Nat.le_refl 0) (Nat.le_refl 0) (Nat.le_of_ble_eq_true rfl) dX7_chanceWith_7 (mQv.elim fun m2 p2 => ?_)
  refine st_aload_n (i := 0) rfl (t := 0) rfl (by decide) dX7_chanceWith_10 ?_
  refine so_getJ (v := (m2 58 8)) 58 8 fr_X7_46_7 rfl sh_58 rfl dX7_chanceWith_11 (fun r1 => ?_)
  refine st_l2i dX7_chanceWith_14 ?_
  exact st_ireturn rfl dX7_chanceWith_15 (mQ.ret (q1 m1 p1 m2 p2))
theorem cn_X7_chanceIfSure_a {d : Nat} {P : Int → mmM → Prop} {mem : mmM} {x1 x2 x3 : Int} (h : mmT bX7_chanceIfSure d 0 0 (mQ 0 P) 0 [(2, 58), (0, x1), (0, x2), (0, x3), (9, 0)] [] mS mem) : con 0 bX7_chanceIfSure d [(2, 58), (0, x1), (0, x2), (0, x3)] mem P := mmC_of [(2, 58), (0, x1), (0, x2), (0, x3), (9, 0)] ok_X7_chanceIfSure.2.2.2.2 rfl (Nat.le_of_ble_eq_true rfl) h
theorem bk_X7_chanceIfSure_a_0 {d : Nat} {d1 : Nat} {P1 : mmM → Prop} {P : Int → mmM → Prop} {mem : mmM} {x1 x2 x3 : Int}
  (c1 : conv bX7_prepare d1 [(2, 58), (0, x2)] mem P1)
  (k1 : ∀ (m1 : mmM), P1 m1 → mmT bX7_chanceIfSure d 0 0 (mQ 0 P) 8 [(2, 58), (0, x1), (9, 0), (0, x3), (0, 0)] [] mS m1)
  (hd_d1 : d1 + 1 ≤ d := by omega)
  : mmT bX7_chanceIfSure d 0 0 (mQ 0 P) 0 [(2, 58), (0, x1), (0, x2), (0, x3), (9, 0)] [] mS mem := by
  refine st_aload_n (i := 0) rfl (t := 0) rfl (by decide) dX7_chanceIfSure_0 ?_
  refine st_iload_n (i := 2) rfl rfl dX7_chanceIfSure_1 ?_
  refine st_callV (kc2 := 0) (ks2 := 0) (av := [(0, x2)]) 58 7 mr_X7_39 ok_X7_prepare c1 rfl sh_58 ⟨_, rfl, rfl, by decide⟩ rfl rfl hd_d1 (Nat.le_refl 0) (Nat.le_refl 0) (Nat.le_of_ble_eq_true rfl) dX7_chanceIfSure_2 (mQv.elim fun m1 p1 => ?_)
  refine st_iconst dX7_chanceIfSure_5 ?_
  refine st_istore (by decide) (lc' := [(2, 58), (0, x1), (0, x2), (0, x3), (0, 0)]) rfl dX7_chanceIfSure_6 ?_
  exact st_locals [(2, 58), (0, x1), (9, 0), (0, x3), (0, 0)] ⟨Or.inr rfl, Or.inr rfl, Or.inl rfl, Or.inr rfl, Or.inr rfl, trivial⟩ (k1 m1 p1)
theorem bk_X7_chanceIfSure_a_8 {d : Nat} {d1 : Nat} {P1 : mmM → Prop} {P : Int → mmM → Prop} {mem : mmM} {x1 x3 x4 : Int}
  (c1 : (mem 23 1) ≤ x4 → conv bX7_flow d1 [(2, 58), (0, x3)] mem P1)
  (k1 : x4 < (mem 23 1) → ¬ (mem 24 x4) = x1 → mmT bX7_chanceIfSure d 0 0 (mQ 0 P) 8 [(2, 58), (0, x1), (9, 0), (0, x3), (0, (x4 + 1))] [] mS mem)
  (k2 : x4 < (mem 23 1) → (mem 24 x4) = x1 → mmT bX7_chanceIfSure d 0 0 (mQ 0 P) 8 [(2, 58), (0, x1), (9, 0), (0, x3), (0, (x4 + 1))] [] mS (mset mem 59 x4 0))
  (q1 : (mem 23 1) ≤ x4 → ∀ (m1 : mmM), P1 m1 → P (m1 58 8) m1)
  (hd_d1 : d1 + 1 ≤ d := by omega)
  (s1 : R32 x4 := by intros; first | omega | assumption | solve_by_elim)
  (s2 : x4 < (mem 23 1) → 0 ≤ x4 ∧ x4 < 24 := by intros; first | omega | assumption | solve_by_elim)
  (s3 : x4 < (mem 23 1) → R32 x1 := by intros; first | omega | assumption | solve_by_elim)
  : mmT bX7_chanceIfSure d 0 0 (mQ 0 P) 8 [(2, 58), (0, x1), (9, 0), (0, x3), (0, x4)] [] mS mem := by
  refine st_iload rfl dX7_chanceIfSure_8 ?_
  refine st_aload_n (i := 0) rfl (t := 0) rfl (by decide) dX7_chanceIfSure_10 ?_
  refine so_getA 58 0 fr_X7_31_7 rfl sh_58 fx_58_0 dX7_chanceIfSure_11 ?_
  refine so_getI (v := (mem 23 1)) 23 1 fr_X7_50_8 rfl sh_23 rfl dX7_chanceIfSure_14 (fun r1 => ?_)
  refine sr_icmp_ge 48 s1 r1 (by decide) dX7_chanceIfSure_17 (fun h1 => ?_) (fun h1 => ?_)
  · have h1 : (mem 23 1) ≤ x4 := by omega
    refine st_aload_n (i := 0) rfl (t := 0) rfl (by decide) dX7_chanceIfSure_48 ?_
    refine st_iload_n (i := 3) rfl rfl dX7_chanceIfSure_49 ?_
    refine st_callV (kc2 := 0) (ks2 := 0) (av := [(0, x3)]) 58 7 mr_X7_43 ok_X7_flow (c1 h1) rfl sh_58 ⟨_, rfl, rfl, by decide⟩ rfl rfl hd_d1 (Nat.le_refl 0) (Nat.le_refl 0) (Nat.le_of_ble_eq_true rfl) dX7_chanceIfSure_50 (mQv.elim fun m1 p1 => ?_)
    refine st_aload_n (i := 0) rfl (t := 0) rfl (by decide) dX7_chanceIfSure_53 ?_
    refine so_getJ (v := (m1 58 8)) 58 8 fr_X7_46_7 rfl sh_58 rfl dX7_chanceIfSure_54 (fun r2 => ?_)
    refine st_l2i dX7_chanceIfSure_57 ?_
    exact st_ireturn rfl dX7_chanceIfSure_58 (mQ.ret (q1 h1 m1 p1))
  · have h1 : x4 < (mem 23 1) := by omega
    refine st_aload_n (i := 0) rfl (t := 0) rfl (by decide) dX7_chanceIfSure_20 ?_
    refine so_getA 58 0 fr_X7_31_7 rfl sh_58 fx_58_0 dX7_chanceIfSure_21 ?_
    refine so_getA 23 2 fr_X7_56_8 rfl sh_23 fx_23_2 dX7_chanceIfSure_24 ?_
    refine st_iload rfl dX7_chanceIfSure_27 ?_
    refine so_iald (v := (mem 24 x4)) 24 rfl sh_24 (by decide) (s2 h1) rfl dX7_chanceIfSure_29 (fun r3 => ?_)
    refine st_iload_n (i := 1) rfl rfl dX7_chanceIfSure_30 ?_
    refine sr_icmp_ne 42 r3 (s3 h1) (by decide) dX7_chanceIfSure_31 (fun h2 => ?_) (fun h2 => ?_)
    · have h2 : ¬ (mem 24 x4) = x1 := by omega
      refine st_iinc (y := (x4 + 1)) (by decide) (i := 4) rfl rfl (lc' := [(2, 58), (0, x1), (9, 0), (0, x3), (0, (x4 + 1))]) rfl dX7_chanceIfSure_42 ?_
      refine st_goto 8 (by decide) dX7_chanceIfSure_45 ?_
      exact st_locals [(2, 58), (0, x1), (9, 0), (0, x3), (0, (x4 + 1))] ⟨Or.inr rfl, Or.inr rfl, Or.inl rfl, Or.inr rfl, Or.inr rfl, trivial⟩ (k1 h1 h2)
    · have h2 : (mem 24 x4) = x1 := by omega
      refine st_aload_n (i := 0) rfl (t := 0) rfl (by decide) dX7_chanceIfSure_34 ?_
      refine so_getA 58 2 fr_X7_9_7 rfl sh_58 fx_58_2 dX7_chanceIfSure_35 ?_
      refine st_iload rfl dX7_chanceIfSure_38 ?_
      refine st_iconst dX7_chanceIfSure_40 ?_
      refine so_iast 59 fr_59 rfl sh_59 (by decide) (s2 h1) ⟨by decide, by decide⟩ dX7_chanceIfSure_41 ?_
      refine st_iinc (y := (x4 + 1)) (by decide) (i := 4) rfl rfl (lc' := [(2, 58), (0, x1), (9, 0), (0, x3), (0, (x4 + 1))]) rfl dX7_chanceIfSure_42 ?_
      refine st_goto 8 (by decide) dX7_chanceIfSure_45 ?_
      exact st_locals [(2, 58), (0, x1), (9, 0), (0, x3), (0, (x4 + 1))] ⟨Or.inr rfl, Or.inr rfl, Or.inl rfl, Or.inr rfl, Or.inr rfl, trivial⟩ (k2 h1 h2)
def fgX (mem : mmM) (mk j : Int) : Int := forgetsX mem j (bitN mk j)
def tkX (mem : mmM) (mk j : Int) : Int := if bitN mk j = 0 then 0 else takeX mem j
theorem c_X7_prepare (mem : mmM) (x1 : Int) (hp : nightP mem) : conv bX7_prepare 3 [(2, 58), (0, x1)] mem (fun m => (∀ a, a ≠ 59 → a ≠ 60 → m a = mem a) ∧ ∀ j, 0 ≤ j → j < mem 23 1 → m 59 j = fgX mem x1 j ∧ m 60 j = tkX mem x1 j) := by
  have hn := hp.1.1
  refine cn_X7_prepare (bk_X7_prepare_0 ?_)
  refine loop_up (n := mem 23 1) (fun i => ∀ m : mmM, (∀ a, a ≠ 59 → a ≠ 60 → m a = mem a) → (∀ j, 0 ≤ j → j < i → m 59 j = fgX mem x1 j ∧ m 60 j = tkX mem x1 j) → mmT bX7_prepare 3 0 0 (mQv (fun m => (∀ a, a ≠ 59 → a ≠ 60 → m a = mem a) ∧ ∀ j, 0 ≤ j → j < mem 23 1 → m 59 j = fgX mem x1 j ∧ m 60 j = tkX mem x1 j)) 2 [(2, 58), (0, x1), (0, i), (9, 0)] [] mS m) (fun i h0 h1 ih m f r => ?_) 0 (by omega) hn.1 _ (fun a _ _ => rfl) (fun j j0 j1 => by omega)
  have e23 : m 23 = mem 23 := f 23 (by decide) (by decide)
  have b01 := and1_01 (shr32 x1 i)
  have ef : forgetsX m = forgetsX mem := by
    funext a b
    unfold forgetsX
    rw [e23, f 31 (by decide) (by decide), f 32 (by decide) (by decide)]
  have et : ∀ v, takeX (mset m 59 i v) = takeX mem := by
    intro v
    funext a
    unfold takeX
    rw [mset_ne (by decide), mset_ne (by decide), mset_ne (by decide), e23, f 37 (by decide) (by decide), f 24 (by decide) (by decide)]
  have rf : ∀ b, R32 (forgetsX m i b) := fun b => by
    rw [ef]
    have := hp.2.1 i b
    omega
  have rt : ∀ v, R32 (takeX (mset m 59 i v) i) := fun v => by
    rw [et]
    have := hp.2.2 i
    omega
  have tp : ∀ v, takeP (mset m 59 i v) := fun v => by
    unfold takeP
    rw [mset_ne (by decide), mset_ne (by decide), e23, f 24 (by decide) (by decide)]
    exact ⟨hn, fun i i0 i1 => (hp.1.2 i i0 i1).1⟩
  have nx : ∀ v w, v = fgX mem x1 i → w = tkX mem x1 i → (∀ j, 0 ≤ j → j < i + 1 → mset (mset m 59 i v) 60 i w 59 j = fgX mem x1 j ∧ mset (mset m 59 i v) 60 i w 60 j = tkX mem x1 j) := by
    intro v w hv hw j j0 j1
    rw [mset_ne (by decide), mset_at, mset_at, mset_ne (by decide)]
    by_cases e : j = i
    · rw [if_pos e, if_pos e, e]
      exact ⟨hv, hw⟩
    · rw [if_neg e, if_neg e]
      exact r j j0 (by omega)
  have fr : ∀ v w, (∀ a, a ≠ 59 → a ≠ 60 → mset (mset m 59 i v) 60 i w a = mem a) := fun v w a a1 a2 => by rw [mset_ne a2, mset_ne a1]; exact f a a1 a2
  refine bk_X7_prepare_2 (fun g g2 => ih (by rw [e23] at g; exact g) _ (fr _ _) (nx _ _ ?_ ?_)) (fun g g2 => ih (by rw [e23] at g; exact g) _ (fr _ _) (nx _ _ ?_ ?_)) (fun g => ⟨f, fun j j0 j1 => r j j0 (by rw [e23] at g; omega)⟩) (s2 := fun _ _ => by rw [e23]; exact hn) (s5 := fun _ _ => by rw [e23]; exact hn) (s3 := fun g _ => by rw [e23] at g; omega) (s6 := fun g _ => by rw [e23] at g; omega) (s4 := fun _ _ => rf 0) (s7 := fun _ _ => rf 1) (s8 := fun _ _ => tp _) (s9 := fun _ _ => rt _)
  · unfold fgX bitN
    rw [g2, ef]
  · unfold tkX bitN
    rw [if_pos g2]
  · unfold fgX bitN
    rw [show and32 (shr32 x1 i) 1 = 1 by omega, ef]
  · unfold tkX bitN
    rw [if_neg g2, et]
/-- what a flow leaves -/
def odEnd (n : Int) (u : odU) (mem m : mmM) : Prop := odFr mem m ∧ odOr m ∧ m 58 8 = u.2.1 ∧ ∀ j, 0 ≤ j → j < n → m 63 j = u.2.2.1 j ∧ m 64 j = u.2.2.2 j
theorem c_X7_flow (mem : mmM) (x1 : Int) (n : Int) (hn : mem 23 1 = n) (hn0 : 0 < n) (hP : odP n (mem 59) (mem 60) (mem 38)) (ho : odOr mem) (h1 : 0 ≤ x1 ∧ x1 ≤ 200) : conv bX7_flow 5 [(2, 58), (0, x1)] mem (fun m => odEnd n (odN n (mem 59) (mem 60) (mem 38) x1.toNat) mem m) := by
  refine cn_X7_flow_a (bk_X7_flow_a_0 (d1 := 2) (P1 := fun m => odFr mem m ∧ odX n (odN n (mem 59) (mem 60) (mem 38) 0) m) (c_X7_start mem n ⟨hn0, hP.1.2⟩ _ _ _ ho) (fun m1 q => ?_))
  refine loop_up (n := x1) (fun i => ∀ m : mmM, odFr mem m → odX n (odN n (mem 59) (mem 60) (mem 38) i.toNat) m → mmT bX7_flow 5 0 0 (mQv (fun m => odEnd n (odN n (mem 59) (mem 60) (mem 38) x1.toNat) mem m)) 6 [(2, 58), (0, x1), (0, i)] [] mS m) (fun i h0 h2 ih m f r => ?_) 0 (by omega) h1.1 m1 q.1 q.2
  have e23 : m 23 1 = n := by rw [f 23 (by decide) (by decide) (by decide) (by decide) (by decide)]; exact hn
  have e59 : m 59 = mem 59 := f 59 (by decide) (by decide) (by decide) (by decide) (by decide)
  have e60 : m 60 = mem 60 := f 60 (by decide) (by decide) (by decide) (by decide) (by decide)
  have e38 : m 38 = mem 38 := f 38 (by decide) (by decide) (by decide) (by decide) (by decide)
  have hK := odN_ok hP hn0 i.toNat
  refine bk_X7_flow_a_6 (d1 := 4) (P1 := fun m1 => odFr m m1 ∧ odX n (odN n (mem 59) (mem 60) (mem 38) (i.toNat + 1)) m1) (fun g g2 => ?_) (fun g g2 m1 q => ih g m1 (f.trans q.1) ?_) (fun g => ?_) (fun g g2 => ?_)
  · have c := c_X7_step m n i.toNat _ e23 (by rw [e59, e60, e38]; exact hP) hK (by omega) r
    rw [e59, e60, e38] at c
    exact c
  · rw [show (i + 1).toNat = i.toNat + 1 by omega]
    exact q.2
  · rw [show i = x1 by omega] at r
    exact ⟨f, r.or, r.2.1, fun j j0 j1 => ⟨r.2.2.2.1 j j0 j1, r.2.2.2.2 j j0 j1⟩⟩
  · rw [r.2.2.1] at g2
    have st := (odN_still (fg := mem 59) (tk := mem 60) (to := mem 38) hn0 i.toNat (odN_sum0 hP hn0 _ g2) (x1.toNat - i.toNat)).1
    rw [show i.toNat + (x1.toNat - i.toNat) = x1.toNat by omega] at st
    refine ⟨f, r.or, ?_, fun j j0 j1 => ?_⟩
    · rw [st]
      exact r.2.1
    · rw [st]
      exact ⟨r.2.2.2.1 j j0 j1, r.2.2.2.2 j j0 j1⟩
def oddFr (mem m : mmM) : Prop := ∀ a, (a < 58 ∨ 64 < a) → m a = mem a
theorem odP_X {mem : mmM} (hp : nightP mem) (mk : Int) : odP (mem 23 1) (fgX mem mk) (tkX mem mk) (mem 38) := by
  refine ⟨hp.1.1, fun i i0 i1 => ⟨hp.2.1 i _, ?_, (hp.1.2 i i0 i1).2.2⟩⟩
  unfold tkX
  have := hp.2.2 i
  split <;> omega
theorem c_X7_chanceWith (mem : mmM) (x1 x2 : Int) (hp : nightP mem) (hn0 : 0 < mem 23 1) (ho : odOr mem) (h2 : 0 ≤ x2 ∧ x2 ≤ 200) : con 0 bX7_chanceWith 6 [(2, 58), (0, x1), (0, x2)] mem (fun v m => v = (odN (mem 23 1) (fgX mem x1) (tkX mem x1) (mem 38) x2.toNat).2.1 ∧ oddFr mem m ∧ odOr m ∧ ∀ j, 0 ≤ j → j < mem 23 1 → m 63 j = (odN (mem 23 1) (fgX mem x1) (tkX mem x1) (mem 38) x2.toNat).2.2.1 j ∧ m 64 j = (odN (mem 23 1) (fgX mem x1) (tkX mem x1) (mem 38) x2.toNat).2.2.2 j) := by
  have hP := odP_X hp x1
  refine cn_X7_chanceWith_a (bk_X7_chanceWith_a_0 (d1 := 3) (d2 := 5) (P1 := fun m => (∀ a, a ≠ 59 → a ≠ 60 → m a = mem a) ∧ ∀ j, 0 ≤ j → j < mem 23 1 → m 59 j = fgX mem x1 j ∧ m 60 j = tkX mem x1 j) (P2 := fun m => oddFr mem m ∧ odOr m ∧ m 58 8 = (odN (mem 23 1) (fgX mem x1) (tkX mem x1) (mem 38) x2.toNat).2.1 ∧ ∀ j, 0 ≤ j → j < mem 23 1 → m 63 j = (odN (mem 23 1) (fgX mem x1) (tkX mem x1) (mem 38) x2.toNat).2.2.1 j ∧ m 64 j = (odN (mem 23 1) (fgX mem x1) (tkX mem x1) (mem 38) x2.toNat).2.2.2 j) (c_X7_prepare mem x1 hp) (fun m1 q => ?_) (fun m1 q m2 q2 => ⟨q2.2.2.1, q2.1, q2.2.1, q2.2.2.2⟩))
  have e23 : m1 23 = mem 23 := q.1 23 (by decide) (by decide)
  have e38 : m1 38 = mem 38 := q.1 38 (by decide) (by decide)
  have cg : ∀ i : Int, 0 ≤ i → i < mem 23 1 → m1 59 i = fgX mem x1 i ∧ m1 60 i = tkX mem x1 i ∧ m1 38 i = mem 38 i := fun i i0 i1 => ⟨(q.2 i i0 i1).1, (q.2 i i0 i1).2, by rw [e38]⟩
  have hP1 : odP (mem 23 1) (m1 59) (m1 60) (m1 38) := ⟨hP.1, fun i i0 i1 => by
    obtain ⟨a, b, c⟩ := cg i i0 i1
    rw [a, b, c]
    exact hP.2 i i0 i1⟩
  have c := c_X7_flow m1 x2 (mem 23 1) (by rw [e23]) hn0 hP1 (by unfold odOr; rw [q.1 58 (by decide) (by decide)]; exact ho) h2
  rw [odN_congr hP.1.1 cg] at c
  exact conv.mono c (fun m w => ⟨fun a ha => (w.1 a (by omega) (by omega) (by omega) (by omega) (by omega)).trans (q.1 a (by omega) (by omega)), w.2⟩)
/-- what one forgets, if this actor forgets nothing -/
def fgS (ac fg : Int → Int) (a j : Int) : Int := if ac j = a then 0 else fg j
theorem c_X7_chanceIfSure (mem : mmM) (x1 x2 x3 : Int) (h1 : R32 x1) (hp : nightP mem) (hn0 : 0 < mem 23 1) (ho : odOr mem) (h3 : 0 ≤ x3 ∧ x3 ≤ 200) : con 0 bX7_chanceIfSure 6 [(2, 58), (0, x1), (0, x2), (0, x3)] mem (fun v m => v = (odN (mem 23 1) (fgS (mem 24) (fgX mem x2) x1) (tkX mem x2) (mem 38) x3.toNat).2.1 ∧ oddFr mem m ∧ odOr m) := by
  have hP := odP_X hp x2
  have hn := hp.1.1
  refine cn_X7_chanceIfSure_a (bk_X7_chanceIfSure_a_0 (d1 := 3) (P1 := fun m => (∀ a, a ≠ 59 → a ≠ 60 → m a = mem a) ∧ ∀ j, 0 ≤ j → j < mem 23 1 → m 59 j = fgX mem x2 j ∧ m 60 j = tkX mem x2 j) (c_X7_prepare mem x2 hp) (fun m1 q => ?_))
  refine loop_up (n := mem 23 1) (fun i => ∀ m : mmM, (∀ a, a ≠ 59 → a ≠ 60 → m a = mem a) → (∀ j, 0 ≤ j → j < i → m 59 j = fgS (mem 24) (fgX mem x2) x1 j) → (∀ j, i ≤ j → j < mem 23 1 → m 59 j = fgX mem x2 j) → (∀ j, 0 ≤ j → j < mem 23 1 → m 60 j = tkX mem x2 j) → mmT bX7_chanceIfSure 6 0 0 (mQ 0 (fun v m => v = (odN (mem 23 1) (fgS (mem 24) (fgX mem x2) x1) (tkX mem x2) (mem 38) x3.toNat).2.1 ∧ oddFr mem m ∧ odOr m)) 8 [(2, 58), (0, x1), (9, 0), (0, x3), (0, i)] [] mS m) (fun i h0 h2 ih m f r1 r2 r3 => ?_) 0 (by omega) hn.1 m1 q.1 (fun j j0 j1 => by omega) (fun j j0 j1 => (q.2 j j0 j1).1) (fun j j0 j1 => (q.2 j j0 j1).2)
  have e23 : m 23 = mem 23 := f 23 (by decide) (by decide)
  have e24 : m 24 = mem 24 := f 24 (by decide) (by decide)
  have e38 : m 38 = mem 38 := f 38 (by decide) (by decide)
  refine bk_X7_chanceIfSure_a_8 (d1 := 5) (P1 := fun m2 => m2 58 8 = (odN (mem 23 1) (fgS (mem 24) (fgX mem x2) x1) (tkX mem x2) (mem 38) x3.toNat).2.1 ∧ oddFr mem m2 ∧ odOr m2) (fun g => ?_) (fun g g2 => ih (by rw [e23] at g; exact g) m f (fun j j0 j1 => ?_) (fun j j0 j1 => r2 j (by omega) j1) r3) (fun g g2 => ih (by rw [e23] at g; exact g) _ (fun a a1 a2 => by rw [mset_ne a1]; exact f a a1 a2) (fun j j0 j1 => ?_) (fun j j0 j1 => by rw [mset_at, if_neg (by omega)]; exact r2 j (by omega) j1) (fun j j0 j1 => by rw [mset_ne (by decide)]; exact r3 j j0 j1)) (fun g m2 w => w) (s2 := fun g => by rw [e23] at g; omega)
  · rw [e23] at g
    have cg : ∀ i : Int, 0 ≤ i → i < mem 23 1 → m 59 i = fgS (mem 24) (fgX mem x2) x1 i ∧ m 60 i = tkX mem x2 i ∧ m 38 i = mem 38 i := fun j j0 j1 => ⟨r1 j j0 (by omega), r3 j j0 j1, by rw [e38]⟩
    have hP1 : odP (mem 23 1) (m 59) (m 60) (m 38) := ⟨hP.1, fun i i0 i1 => by
      obtain ⟨a, b, c⟩ := cg i i0 i1
      rw [a, b, c]
      have h := hP.2 i i0 i1
      refine ⟨?_, h.2⟩
      unfold fgS
      have := h.1
      split <;> omega⟩
    have c := c_X7_flow m x3 (mem 23 1) (by rw [e23]) hn0 hP1 (by unfold odOr; rw [f 58 (by decide) (by decide)]; exact ho) h3
    rw [odN_congr hP.1.1 cg] at c
    exact conv.mono c (fun m2 w => ⟨w.2.2.1, fun a ha => (w.1 a (by omega) (by omega) (by omega) (by omega) (by omega)).trans (f a (by omega) (by omega)), w.2.1⟩)
  · by_cases e : j = i
    · rw [e24] at g2
      rw [e, r2 i (Int.le_refl _) (by rw [e23] at g; exact g)]
      unfold fgS
      rw [if_neg g2]
    · exact r1 j j0 (by omega)
  · rw [mset_at]
    by_cases e : j = i
    · rw [e24] at g2
      rw [if_pos e, e]
      unfold fgS
      rw [if_pos g2]
    · rw [if_neg e]
      exact r1 j j0 (by omega)