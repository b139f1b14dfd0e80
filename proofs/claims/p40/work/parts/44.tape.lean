/-! reading a tape T of n bytes: the byte at a place, blanks passed over, numbers -/
def chT (T : Int → Int) (n i : Int) : Int := if 0 ≤ i ∧ i < n then T i else 0
def skF (T : Int → Int) (n : Int) : Nat → Int → Int
  | 0, i => i
  | k + 1, i => if i < n ∧ T i = 32 then skF T n k (i + 1) else i
def skT (T : Int → Int) (n i : Int) : Int := skF T n (n - i).toNat i
theorem skT_step {T : Int → Int} {n i : Int} (h : i < n) (h32 : T i = 32) : skT T n i = skT T n (i + 1) := by
  unfold skT
  obtain ⟨k, hk⟩ : ∃ k, (n - i).toNat = k + 1 := ⟨(n - i).toNat - 1, by omega⟩
  rw [hk, show (n - (i + 1)).toNat = k by omega]
  exact if_pos ⟨h, h32⟩
theorem skT_end {T : Int → Int} {n i : Int} (h : ¬ (i < n ∧ T i = 32)) : skT T n i = i := by
  unfold skT
  cases (n - i).toNat with
  | zero => rfl
  | succ k => exact if_neg h
theorem skT_spec (T : Int → Int) (n : Int) : ∀ (k : Nat) (i : Int), (n - i).toNat = k → i ≤ skT T n i ∧ (i ≤ n → skT T n i ≤ n) ∧ ¬ (skT T n i < n ∧ T (skT T n i) = 32) := by
  intro k
  induction k with
  | zero =>
    intro i hk
    rw [skT_end (by omega)]
    exact ⟨Int.le_refl _, fun h => h, by omega⟩
  | succ k ih =>
    intro i hk
    by_cases q : i < n ∧ T i = 32
    · rw [skT_step q.1 q.2]
      have := ih (i + 1) (by omega)
      exact ⟨by omega, fun _ => this.2.1 (by omega), this.2.2⟩
    · rw [skT_end q]
      exact ⟨Int.le_refl _, fun h => h, q⟩
theorem skT_ge (T : Int → Int) (n i : Int) : i ≤ skT T n i := (skT_spec T n _ i rfl).1
theorem skT_le {T : Int → Int} {n i : Int} (h : i ≤ n) : skT T n i ≤ n := (skT_spec T n _ i rfl).2.1 h
theorem skT_sk (T : Int → Int) (n i : Int) : skT T n (skT T n i) = skT T n i := skT_end (skT_spec T n _ i rfl).2.2
abbrev digC (c : Int) : Prop := 48 ≤ c ∧ c ≤ 57
theorem chT_in {T : Int → Int} {n i : Int} (h : 0 < chT T n i) : i < n := by
  unfold chT at h
  split at h <;> omega
/-- a number's rest: k more digits may stand -/
def numF (C : Int → Int) : Nat → Int → Int → Int × Int
  | 0, v, j => if digC (C j) then (-1, j) else (v, j)
  | k + 1, v, j => if digC (C j) then numF C k (v * 10 + C j - 48) (j + 1) else (v, j)
def numS (C : Int → Int) (k : Nat) (j : Int) : Int × Int := if digC (C j) then numF C k 0 j else (-1, j)
theorem numF_bnd {C : Int → Int} {n : Int} (hC : ∀ i, 0 < C i → i < n) : ∀ (k : Nat) (v j : Int), 0 ≤ v → j ≤ n → j ≤ (numF C k v j).2 ∧ (numF C k v j).2 ≤ n ∧ -1 ≤ (numF C k v j).1 := by
  intro k
  induction k with
  | zero =>
    intro v j v0 hj
    unfold numF
    split
    · exact ⟨Int.le_refl _, hj, by show (-1 : Int) ≤ -1; omega⟩
    · exact ⟨Int.le_refl _, hj, by show -1 ≤ v; omega⟩
  | succ k ih =>
    intro v j v0 hj
    unfold numF
    split
    · rename_i q
      have := hC j (by omega)
      have := ih (v * 10 + C j - 48) (j + 1) (by omega) (by omega)
      exact ⟨by omega, this.2⟩
    · exact ⟨Int.le_refl _, hj, by show -1 ≤ v; omega⟩
theorem numS_bnd {C : Int → Int} {n : Int} (hC : ∀ i, 0 < C i → i < n) (k : Nat) (j : Int) (hj : j ≤ n) : j ≤ (numS C k j).2 ∧ (numS C k j).2 ≤ n ∧ -1 ≤ (numS C k j).1 := by
  unfold numS
  split
  · exact numF_bnd hC k 0 j (Int.le_refl _) hj
  · exact ⟨Int.le_refl _, hj, by show (-1 : Int) ≤ -1; omega⟩
theorem numF_top {C : Int → Int} : ∀ (k : Nat) (v j M : Int), 0 ≤ v → (v + 1) * 10 ^ k ≤ M → -1 ≤ (numF C k v j).1 ∧ (numF C k v j).1 < M := by
  intro k
  induction k with
  | zero =>
    intro v j M v0 hM
    have hM' : (v + 1) * 1 ≤ M := hM
    unfold numF
    split
    · exact ⟨by show (-1 : Int) ≤ -1; omega, by show (-1 : Int) < M; omega⟩
    · exact ⟨by show -1 ≤ v; omega, by show v < M; omega⟩
  | succ k ih =>
    intro v j M v0 hM
    have p : (0 : Int) < 10 ^ k := Int.pow_pos (by decide)
    have e : (v + 1) * (10 : Int) ^ (k + 1) = ((v + 1) * 10) * 10 ^ k := by rw [Int.pow_succ]; rw [Int.mul_assoc, Int.mul_comm ((10 : Int) ^ k)]
    unfold numF
    split
    · rename_i q
      refine ih _ _ M (by omega) (Int.le_trans ?_ hM)
      rw [e]
      exact Int.mul_le_mul_of_nonneg_right (by omega) (by omega)
    · refine ⟨by show -1 ≤ v; omega, ?_⟩
      show v < M
      have : (v + 1) * 1 ≤ (v + 1) * (10 : Int) ^ (k + 1) := Int.mul_le_mul_of_nonneg_left (show (1 : Int) ≤ 10 ^ (k + 1) by have : (0 : Int) < 10 ^ (k + 1) := Int.pow_pos (by decide); omega) (by omega)
      omega
theorem num2_top (C : Int → Int) (j : Int) : -1 ≤ (numS C 2 j).1 ∧ (numS C 2 j).1 ≤ 99 := by
  unfold numS
  split
  · have := numF_top (C := C) 2 0 j 100 (by decide) (by decide)
    omega
  · exact ⟨by show (-1 : Int) ≤ -1; omega, by show (-1 : Int) ≤ 99; omega⟩
theorem num4_top (C : Int → Int) (j : Int) : -1 ≤ (numS C 4 j).1 ∧ (numS C 4 j).1 ≤ 9999 := by
  unfold numS
  split
  · have := numF_top (C := C) 4 0 j 10000 (by decide) (by decide)
    omega
  · exact ⟨by show (-1 : Int) ≤ -1; omega, by show (-1 : Int) ≤ 9999; omega⟩
/-- the class's tape -/
def tapX (mem : mmM) : Prop := 0 ≤ mem 1 1 ∧ mem 1 1 ≤ 160
abbrev CX (mem : mmM) : Int → Int := chT (mem 2) (mem 1 1)
abbrev SX (mem : mmM) : Int → Int := skT (mem 2) (mem 1 1)
def cuX (mem : mmM) (j : Int) : mmM := mset mem 1 2 j
theorem cuX_at (mem : mmM) (j : Int) : cuX mem j 1 2 = j := mset_same _ _ _ _
theorem cuX_cu (mem : mmM) (j k : Int) : mset (cuX mem j) 1 2 k = cuX mem k := mset_mset _ _ _ _ _
theorem cuX_cuX (mem : mmM) (j k : Int) : cuX (cuX mem j) k = cuX mem k := mset_mset _ _ _ _ _
theorem cuX_1 (mem : mmM) (j : Int) : cuX mem j 1 1 = mem 1 1 := by
  show mset mem 1 2 j 1 1 = _
  rw [mset_at, if_neg (by decide)]
theorem cuX_ne (mem : mmM) (j : Int) {a : Nat} (h : a ≠ 1) : cuX mem j a = mem a := mset_ne h
theorem hereX_eq {mem : mmM} (ht : tapX mem) : hereX mem = CX mem (mem 1 2) := by
  unfold hereX
  show _ = chT _ _ _
  unfold chT
  have := ht.2
  by_cases q : 0 ≤ mem 1 2 ∧ mem 1 2 < mem 1 1
  · rw [if_pos q, if_pos ⟨q.1, q.2, by omega⟩]
  · rw [if_neg q, if_neg (fun z => q ⟨z.1, z.2.1⟩)]
theorem chT_rng {T : Int → Int} (h : ∀ i, 0 ≤ i → i < 160 → 0 ≤ T i ∧ T i ≤ 255) {n : Int} (hn : n ≤ 160) (i : Int) : 0 ≤ chT T n i ∧ chT T n i ≤ 255 := by
  unfold chT
  split
  · rename_i q
    exact h i q.1 (by omega)
  · omega
/-- the class's tape, with bytes -/
def bytX (mem : mmM) : Prop := (0 ≤ mem 1 1 ∧ mem 1 1 ≤ 160) ∧ ∀ i, 0 ≤ i → i < 160 → 0 ≤ mem 2 i ∧ mem 2 i ≤ 255
theorem hereX_rng (mem : mmM) (hb : bytX mem) : R32 (hereX mem) := by
  unfold hereX
  split
  · rename_i q
    have := hb.2 (mem 1 2) q.1 q.2.2
    exact ⟨by omega, by omega⟩
  · exact ⟨by decide, by decide⟩
theorem c_X9_hereB (mem : mmM) (_ : bytX mem) : con 0 bX9_here 1 [(2, 1)] mem (fun v m => v = (hereX mem) ∧ m = mem) := c_X9_here mem
theorem cn_X9_sign {d : Nat} {P : Int → mmM → Prop} {mem : mmM} (h : mmT bX9_sign d 0 0 (mQ 0 P) 0 [(2, 1)] [] mS mem) : con 0 bX9_sign d [(2, 1)] mem P := mmC_of [(2, 1)] ok_X9_sign.2.2.2.2 rfl (Nat.le_of_ble_eq_true rfl) h
theorem bk_X9_sign_0 {d : Nat} {P : Int → mmM → Prop} {mem : mmM}
  (k1 : (mem 1 2) < (mem 1 1) → (hereX mem) = 32 → mmT bX9_sign d 0 0 (mQ 0 P) 0 [(2, 1)] [] mS (mset mem 1 2 ((mem 1 2) + 1)))
  (q1 : (mem 1 1) ≤ (mem 1 2) → P (hereX mem) mem)
  (q2 : (mem 1 2) < (mem 1 1) → ¬ (hereX mem) = 32 → P (hereX mem) mem)
  (hd2 : 2 ≤ d := by omega)
  (s1 : (mem 1 1) ≤ (mem 1 2) → bytX mem := by intros; first | omega | assumption | solve_by_elim)
  (s2 : (mem 1 2) < (mem 1 1) → bytX mem := by intros; first | omega | assumption | solve_by_elim)
  (s3 : (mem 1 2) < (mem 1 1) → (hereX mem) = 32 → R32 ((mem 1 2) + 1) := by intros; first | omega | assumption | solve_by_elim)
  : mmT bX9_sign d 0 0 (mQ 0 P) 0 [(2, 1)] [] mS mem := by
  refine st_aload_n (i := 0) rfl (t := 0) rfl (by decide) dX9_sign_0 ?_
  refine so_getI (v := (mem 1 2)) 1 2 fr_X9_19_9 rfl sh_1 rfl dX9_sign_1 (fun r1 => ?_)
  refine st_aload_n (i := 0) rfl (t := 0) rfl (by decide) dX9_sign_4 ?_
  refine so_getI (v := (mem 1 1)) 1 1 fr_X9_15_9 rfl sh_1 rfl dX9_sign_5 (fun r2 => ?_)
  refine sr_icmp_ge 33 r1 r2 (by decide) dX9_sign_8 (fun h1 => ?_) (fun h1 => ?_)
  · have h1 : (mem 1 1) ≤ (mem 1 2) := by omega
    refine st_aload_n (i := 0) rfl (t := 0) rfl (by decide) dX9_sign_33 ?_
    refine st_callV (kc2 := 0) (ks2 := 0) (av := []) 1 9 mr_X9_22 ok_X9_here (c_X9_hereB mem ((s1 h1))) rfl sh_1 ⟨_, rfl, rfl, by decide⟩ rfl rfl hd2 (Nat.le_refl 0) (Nat.le_refl 0) (Nat.le_of_ble_eq_true rfl) dX9_sign_34 (mQ.elim fun v1 m1 hp => ?_)
    obtain ⟨hpv, hpm⟩ := hp
    subst hpv
    have hpm := hpm.symm
    subst hpm
    exact st_ireturn rfl dX9_sign_37 (mQ.ret (q1 h1))
  · have h1 : (mem 1 2) < (mem 1 1) := by omega
    refine st_aload_n (i := 0) rfl (t := 0) rfl (by decide) dX9_sign_11 ?_
    refine st_callV (kc2 := 0) (ks2 := 0) (av := []) 1 9 mr_X9_22 ok_X9_here (c_X9_hereB mem ((s2 h1))) rfl sh_1 ⟨_, rfl, rfl, by decide⟩ rfl rfl hd2 (Nat.le_refl 0) (Nat.le_refl 0) (Nat.le_of_ble_eq_true rfl) dX9_sign_12 (mQ.elim fun v2 m2 hp => ?_)
    obtain ⟨hpv, hpm⟩ := hp
    subst hpv
    have hpm := hpm.symm
    subst hpm
    refine st_bipush rfl dX9_sign_15 ?_
    refine sr_icmp_ne 33 (hereX_rng mem ((s2 h1))) ⟨by decide, by decide⟩ (by decide) dX9_sign_17 (fun h2 => ?_) (fun h2 => ?_)
    · have h2 : ¬ (hereX mem) = 32 := by omega
      refine st_aload_n (i := 0) rfl (t := 0) rfl (by decide) dX9_sign_33 ?_
      refine st_callV (kc2 := 0) (ks2 := 0) (av := []) 1 9 mr_X9_22 ok_X9_here (c_X9_hereB mem ((s2 h1))) rfl sh_1 ⟨_, rfl, rfl, by decide⟩ rfl rfl hd2 (Nat.le_refl 0) (Nat.le_refl 0) (Nat.le_of_ble_eq_true rfl) dX9_sign_34 (mQ.elim fun v3 m3 hp => ?_)
      obtain ⟨hpv, hpm⟩ := hp
      subst hpv
      have hpm := hpm.symm
      subst hpm
      exact st_ireturn rfl dX9_sign_37 (mQ.ret (q2 h1 h2))
    · have h2 : (hereX mem) = 32 := by omega
      refine st_aload_n (i := 0) rfl (t := 0) rfl (by decide) dX9_sign_20 ?_
      refine st_dup (Nat.ne_of_beq_eq_false rfl) dX9_sign_21 ?_
      refine so_getI (v := (mem 1 2)) 1 2 fr_X9_19_9 rfl sh_1 rfl dX9_sign_22 (fun r3 => ?_)
      refine st_iconst dX9_sign_25 ?_
      refine st_iadd dX9_sign_26 ?_
      refine so_putI 1 2 fr_X9_19_9 pf_9_2 fo_1_2 rfl sh_1 (s3 h1 h2) dX9_sign_27 ?_
      refine st_goto 0 (by decide) dX9_sign_30 ?_
      exact st_locals [(2, 1)] ⟨Or.inr rfl, trivial⟩ (k1 h1 h2)
theorem c_X9_sign (mem : mmM) (hb : bytX mem) (h0 : 0 ≤ mem 1 2) : con 0 bX9_sign 2 [(2, 1)] mem (fun v m => v = CX mem (SX mem (mem 1 2)) ∧ m = cuX mem (SX mem (mem 1 2))) := by
  refine cn_X9_sign ?_
  have main : ∀ (k : Nat) (m : mmM), 0 ≤ m 1 2 → (m 1 1 - m 1 2).toNat = k → m 1 1 = mem 1 1 → m 2 = mem 2 → (∀ j, cuX m j = cuX mem j) → mmT bX9_sign 2 0 0 (mQ 0 (fun v m' => v = CX mem (SX mem (m 1 2)) ∧ m' = cuX mem (SX mem (m 1 2)))) 0 [(2, 1)] [] mS m := by
    intro k
    induction k with
    | zero =>
      intro m z0 hk h1 h2 hc
      have hbm : bytX m := by
        unfold bytX
        rw [h1, h2]
        exact hb
      have ht := hb.1
      have e : SX mem (m 1 2) = m 1 2 := skT_end (by omega)
      have eh : hereX m = CX mem (m 1 2) := by
        rw [hereX_eq (by unfold tapX; rw [h1]; exact ht)]
        show chT _ _ _ = chT _ _ _
        rw [h1, h2]
      have em : m = cuX mem (m 1 2) := by rw [← hc]; exact (mset_id m 1 2).symm
      refine bk_X9_sign_0 (fun g _ => absurd g (by omega)) (fun g => ?_) (fun g _ => absurd g (by omega)) (s1 := fun _ => hbm) (s2 := fun _ => hbm) (s3 := fun g _ => absurd g (by omega))
      rw [e]
      exact ⟨eh, em⟩
    | succ k ih =>
      intro m z0 hk h1 h2 hc
      have hbm : bytX m := by
        unfold bytX
        rw [h1, h2]
        exact hb
      have ht := hb.1
      have eh : hereX m = CX mem (m 1 2) := by
        rw [hereX_eq (by unfold tapX; rw [h1]; exact ht)]
        show chT _ _ _ = chT _ _ _
        rw [h1, h2]
      have em : m = cuX mem (m 1 2) := by rw [← hc]; exact (mset_id m 1 2).symm
      have hb2 := ht.2
      have ec : CX mem (m 1 2) = mem 2 (m 1 2) := by
        show (if 0 ≤ m 1 2 ∧ m 1 2 < mem 1 1 then mem 2 (m 1 2) else 0) = _
        exact if_pos ⟨z0, by omega⟩
      refine bk_X9_sign_0 (fun g g3 => ?_) (fun g => absurd g (by omega)) (fun g g3 => ?_) (s1 := fun _ => hbm) (s2 := fun _ => hbm) (s3 := fun g _ => ⟨by omega, by omega⟩)
      · have e : SX mem (m 1 2) = SX mem (m 1 2 + 1) := skT_step (by omega) (by rw [← ec, ← eh]; exact g3)
        have e1 : mset m 1 2 (m 1 2 + 1) 1 2 = m 1 2 + 1 := mset_same _ _ _ _
        have e2 : mset m 1 2 (m 1 2 + 1) 1 1 = m 1 1 := by rw [mset_at, if_neg (by decide)]
        have := ih (mset m 1 2 (m 1 2 + 1)) (by omega) (by omega) (by omega) (by rw [mset_ne (by decide)]; exact h2) (fun j => by
          show mset (mset m 1 2 (m 1 2 + 1)) 1 2 j = _
          rw [mset_mset]
          exact hc j)
        rw [e1] at this
        rw [e]
        exact this
      · have e : SX mem (m 1 2) = m 1 2 := skT_end (fun z => g3 (by rw [eh, ec]; exact z.2))
        rw [e]
        exact ⟨eh, em⟩
  exact main _ mem h0 rfl rfl rfl (fun j => rfl)
theorem cn_X9_takes {d : Nat} {P : Int → mmM → Prop} {mem : mmM} {x1 : Int} (h : mmT bX9_takes d 0 0 (mQ 0 P) 0 [(2, 1), (0, x1)] [] mS mem) : con 0 bX9_takes d [(2, 1), (0, x1)] mem P := mmC_of [(2, 1), (0, x1)] ok_X9_takes.2.2.2.2 rfl (Nat.le_of_ble_eq_true rfl) h
theorem bk_X9_takes_0 {d : Nat} {d1 : Nat} {P1 : Int → mmM → Prop} {P : Int → mmM → Prop} {mem : mmM} {x1 : Int}
  (c1 : con 0 bX9_sign d1 [(2, 1)] mem P1)
  (q1 : ∀ (v1 : Int), ∀ (m1 : mmM), P1 v1 m1 → v1 = x1 → P 1 (mset m1 1 2 ((m1 1 2) + 1)))
  (q2 : ∀ (v1 : Int), ∀ (m1 : mmM), P1 v1 m1 → ¬ v1 = x1 → P 0 m1)
  (hd_d1 : d1 + 1 ≤ d := by omega)
  (s1 : ∀ (v1 : Int), ∀ (m1 : mmM), P1 v1 m1 → R32 v1 := by intros; first | omega | assumption | solve_by_elim)
  (s2 : ∀ (v1 : Int), ∀ (m1 : mmM), P1 v1 m1 → R32 x1 := by intros; first | omega | assumption | solve_by_elim)
  (s3 : ∀ (v1 : Int), ∀ (m1 : mmM), P1 v1 m1 → v1 = x1 → R32 ((m1 1 2) + 1) := by intros; first | omega | assumption | solve_by_elim)
  : mmT bX9_takes d 0 0 (mQ 0 P) 0 [(2, 1), (0, x1)] [] mS mem := by
  refine st_aload_n (i := 0) rfl (t := 0) rfl (by decide) dX9_takes_0 ?_
  refine st_callV (kc2 := 0) (ks2 := 0) (av := []) 1 9 mr_X9_26 ok_X9_sign c1 rfl sh_1 ⟨_, rfl, rfl, by decide⟩ rfl rfl hd_d1 (Nat.le_refl 0) (Nat.le_refl 0) (Nat.le_of_ble_eq_true rfl) dX9_takes_1 (mQ.elim fun v1 m1 p1 => ?_)
  refine st_iload_n (i := 1) rfl rfl dX9_takes_4 ?_
  refine sr_icmp_eq 10 (s1 v1 m1 p1) (s2 v1 m1 p1) (by decide) dX9_takes_5 (fun h1 => ?_) (fun h1 => ?_)
  · have h1 : v1 = x1 := by omega
    refine st_aload_n (i := 0) rfl (t := 0) rfl (by decide) dX9_takes_10 ?_
    refine st_dup (Nat.ne_of_beq_eq_false rfl) dX9_takes_11 ?_
    refine so_getI (v := (m1 1 2)) 1 2 fr_X9_19_9 rfl sh_1 rfl dX9_takes_12 (fun r1 => ?_)
    refine st_iconst dX9_takes_15 ?_
    refine st_iadd dX9_takes_16 ?_
    refine so_putI 1 2 fr_X9_19_9 pf_9_2 fo_1_2 rfl sh_1 (s3 v1 m1 p1 h1) dX9_takes_17 ?_
    refine st_iconst dX9_takes_20 ?_
    exact st_zreturn rfl (by decide) dX9_takes_21 (mQ.ret (q1 v1 m1 p1 h1))
  · have h1 : ¬ v1 = x1 := by omega
    refine st_iconst dX9_takes_8 ?_
    exact st_zreturn rfl (by decide) dX9_takes_9 (mQ.ret (q2 v1 m1 p1 h1))
theorem CX_rng {mem : mmM} (hb : bytX mem) (i : Int) : 0 ≤ CX mem i ∧ CX mem i ≤ 255 := chT_rng hb.2 hb.1.2 i
theorem CX_cu (mem : mmM) (j : Int) : CX (cuX mem j) = CX mem := by
  funext i
  show chT _ _ i = chT _ _ i
  rw [cuX_1, cuX_ne mem j (by decide)]
theorem SX_cu (mem : mmM) (j : Int) : SX (cuX mem j) = SX mem := by
  funext i
  show skT _ _ i = skT _ _ i
  rw [cuX_1, cuX_ne mem j (by decide)]
theorem bytX_cu {mem : mmM} (hb : bytX mem) (j : Int) : bytX (cuX mem j) := by
  unfold bytX
  rw [cuX_1, cuX_ne mem j (by decide)]
  exact hb
theorem s_sign (mem : mmM) (hb : bytX mem) {j : Int} (h0 : 0 ≤ j) : con 0 bX9_sign 2 [(2, 1)] (cuX mem j) (fun v m => v = CX mem (SX mem j) ∧ m = cuX mem (SX mem j)) := by
  have c := c_X9_sign (cuX mem j) (bytX_cu hb j) (by rw [cuX_at]; exact h0)
  rw [CX_cu, SX_cu, cuX_at, cuX_cuX] at c
  exact c
theorem s_takes (mem : mmM) (hb : bytX mem) {j x : Int} (h0 : 0 ≤ j) (h1 : j ≤ mem 1 1) (hx : 0 < x ∧ x < 256) : con 0 bX9_takes 3 [(2, 1), (0, x)] (cuX mem j) (fun v m => (CX mem (SX mem j) = x ∧ v = 1 ∧ m = cuX mem (SX mem j + 1)) ∨ (¬ CX mem (SX mem j) = x ∧ v = 0 ∧ m = cuX mem (SX mem j))) := by
  have hn := hb.1
  have le : SX mem j ≤ mem 1 1 := skT_le h1
  have ge : j ≤ SX mem j := skT_ge _ _ _
  have rg := CX_rng hb (SX mem j)
  refine cn_X9_takes (bk_X9_takes_0 (d1 := 2) (P1 := fun v m => v = CX mem (SX mem j) ∧ m = cuX mem (SX mem j)) (s_sign mem hb h0) ?_ ?_ (s1 := ?_) (s2 := ?_) (s3 := ?_))
  · rintro v m ⟨rfl, rfl⟩ g
    refine Or.inl ⟨g, rfl, ?_⟩
    rw [cuX_at, cuX_cu]
  · rintro v m ⟨rfl, rfl⟩ g
    exact Or.inr ⟨g, rfl, rfl⟩
  · rintro v m ⟨rfl, rfl⟩
    exact ⟨by omega, by omega⟩
  · rintro v m ⟨rfl, rfl⟩
    exact ⟨by omega, by omega⟩
  · rintro v m ⟨rfl, rfl⟩ g
    rw [cuX_at]
    exact ⟨by omega, by omega⟩
theorem cn_X9_number {d : Nat} {P : Int → mmM → Prop} {mem : mmM} {x1 : Int} (h : mmT bX9_number d 0 0 (mQ 0 P) 0 [(2, 1), (0, x1), (9, 0), (9, 0)] [] mS mem) : con 0 bX9_number d [(2, 1), (0, x1)] mem P := mmC_of [(2, 1), (0, x1), (9, 0), (9, 0)] ok_X9_number.2.2.2.2 rfl (Nat.le_of_ble_eq_true rfl) h
theorem bk_X9_number_0 {d : Nat} {P : Int → mmM → Prop} {mem : mmM} {x1 : Int}
  (k1 : mmT bX9_number d 0 0 (mQ 0 P) 4 [(2, 1), (0, x1), (0, 0), (0, 0)] [] mS mem)
  : mmT bX9_number d 0 0 (mQ 0 P) 0 [(2, 1), (0, x1), (9, 0), (9, 0)] [] mS mem := by
  refine st_iconst dX9_number_0 ?_
  refine st_istore_n (i := 2) rfl (by decide) (lc' := [(2, 1), (0, x1), (0, 0), (9, 0)]) rfl dX9_number_1 ?_
  refine st_iconst dX9_number_2 ?_
  refine st_istore_n (i := 3) rfl (by decide) (lc' := [(2, 1), (0, x1), (0, 0), (0, 0)]) rfl dX9_number_3 ?_
  exact st_locals [(2, 1), (0, x1), (0, 0), (0, 0)] ⟨Or.inr rfl, Or.inr rfl, Or.inr rfl, Or.inr rfl, trivial⟩ k1
theorem bk_X9_number_4 {d : Nat} {P : Int → mmM → Prop} {mem : mmM} {x1 x2 x3 : Int}
  (k1 : x3 < x1 → (48 ≤ (hereX mem) ∧ (hereX mem) ≤ 57) → mmT bX9_number d 0 0 (mQ 0 P) 4 [(2, 1), (0, x1), (0, (((x2 * 10) + (hereX mem)) - 48)), (0, (x3 + 1))] [] mS (mset mem 1 2 ((mem 1 2) + 1)))
  (q1 : x1 ≤ x3 → x3 = 0 → P (-1) mem)
  (q2 : x1 ≤ x3 → ¬ x3 = 0 → ¬ (48 ≤ (hereX mem) ∧ (hereX mem) ≤ 57) → P x2 mem)
  (q3 : x1 ≤ x3 → ¬ x3 = 0 → (48 ≤ (hereX mem) ∧ (hereX mem) ≤ 57) → P (-1) mem)
  (q4 : x3 < x1 → ¬ (48 ≤ (hereX mem) ∧ (hereX mem) ≤ 57) → x3 = 0 → P (-1) mem)
  (q5 : x3 < x1 → ¬ (48 ≤ (hereX mem) ∧ (hereX mem) ≤ 57) → ¬ x3 = 0 → ¬ (48 ≤ (hereX mem) ∧ (hereX mem) ≤ 57) → P x2 mem)
  (q6 : x3 < x1 → ¬ (48 ≤ (hereX mem) ∧ (hereX mem) ≤ 57) → ¬ x3 = 0 → (48 ≤ (hereX mem) ∧ (hereX mem) ≤ 57) → P (-1) mem)
  (hd2 : 2 ≤ d := by omega)
  (s1 : R32 x3 := by intros; first | omega | assumption | solve_by_elim)
  (s2 : R32 x1 := by intros; first | omega | assumption | solve_by_elim)
  (s3 : x1 ≤ x3 → ¬ x3 = 0 → bytX mem := by intros; first | omega | assumption | solve_by_elim)
  (s4 : x3 < x1 → bytX mem := by intros; first | omega | assumption | solve_by_elim)
  (s5 : x3 < x1 → (48 ≤ (hereX mem) ∧ (hereX mem) ≤ 57) → R32 ((mem 1 2) + 1) := by intros; first | omega | assumption | solve_by_elim)
  : mmT bX9_number d 0 0 (mQ 0 P) 4 [(2, 1), (0, x1), (0, x2), (0, x3)] [] mS mem := by
  refine st_iload_n (i := 3) rfl rfl dX9_number_4 ?_
  refine st_iload_n (i := 1) rfl rfl dX9_number_5 ?_
  refine sr_icmp_ge 48 s1 s2 (by decide) dX9_number_6 (fun h1 => ?_) (fun h1 => ?_)
  · have h1 : x1 ≤ x3 := by omega
    refine st_iload_n (i := 3) rfl rfl dX9_number_48 ?_
    refine sr_if_eq 62 s1 (by decide) dX9_number_49 (fun h2 => ?_) (fun h2 => ?_)
    · have h2 : x3 = 0 := by omega
      refine st_iconst dX9_number_62 ?_
      refine st_goto 67 (by decide) dX9_number_63 ?_
      exact st_ireturn rfl dX9_number_67 (mQ.ret (q1 h1 h2))
    · have h2 : ¬ x3 = 0 := by omega
      refine st_aload_n (i := 0) rfl (t := 0) rfl (by decide) dX9_number_52 ?_
      refine st_callV (kc2 := 0) (ks2 := 0) (av := []) 1 9 mr_X9_22 ok_X9_here (c_X9_hereB mem ((s3 h1 h2))) rfl sh_1 ⟨_, rfl, rfl, by decide⟩ rfl rfl hd2 (Nat.le_refl 0) (Nat.le_refl 0) (Nat.le_of_ble_eq_true rfl) dX9_number_53 (mQ.elim fun v1 m1 hp => ?_)
      obtain ⟨hpv, hpm⟩ := hp
      subst hpv
      have hpm := hpm.symm
      subst hpm
      refine st_callS (kc2 := 0) (ks2 := 0) (av := [(0, (hereX mem))]) mr_X9_29 ok_X9_isDigit (c_X9_isDigit mem (hereX mem) ((hereX_rng mem ((s3 h1 h2))))) rfl rfl hd2 (Nat.le_refl 0) (Nat.le_refl 0) (Nat.le_of_ble_eq_true rfl) dX9_number_56 (mQ.elim fun v2 m2 hp => ?_)
      obtain ⟨hpv, hpm⟩ := hp
      subst hpv
      have hpm := hpm.symm
      subst hpm
      refine so_ifeqB 66 (by decide) dX9_number_59 (fun h3 => ?_) (fun h3 => ?_)
      · have h3 : ¬ (48 ≤ (hereX mem) ∧ (hereX mem) ≤ 57) := h3
        refine st_iload_n (i := 2) rfl rfl dX9_number_66 ?_
        exact st_ireturn rfl dX9_number_67 (mQ.ret (q2 h1 h2 h3))
      · have h3 : (48 ≤ (hereX mem) ∧ (hereX mem) ≤ 57) := h3
        refine st_iconst dX9_number_62 ?_
        refine st_goto 67 (by decide) dX9_number_63 ?_
        exact st_ireturn rfl dX9_number_67 (mQ.ret (q3 h1 h2 h3))
  · have h1 : x3 < x1 := by omega
    refine st_aload_n (i := 0) rfl (t := 0) rfl (by decide) dX9_number_9 ?_
    refine st_callV (kc2 := 0) (ks2 := 0) (av := []) 1 9 mr_X9_22 ok_X9_here (c_X9_hereB mem ((s4 h1))) rfl sh_1 ⟨_, rfl, rfl, by decide⟩ rfl rfl hd2 (Nat.le_refl 0) (Nat.le_refl 0) (Nat.le_of_ble_eq_true rfl) dX9_number_10 (mQ.elim fun v3 m3 hp => ?_)
    obtain ⟨hpv, hpm⟩ := hp
    subst hpv
    have hpm := hpm.symm
    subst hpm
    refine st_callS (kc2 := 0) (ks2 := 0) (av := [(0, (hereX mem))]) mr_X9_29 ok_X9_isDigit (c_X9_isDigit mem (hereX mem) ((hereX_rng mem ((s4 h1))))) rfl rfl hd2 (Nat.le_refl 0) (Nat.le_refl 0) (Nat.le_of_ble_eq_true rfl) dX9_number_13 (mQ.elim fun v4 m4 hp => ?_)
    obtain ⟨hpv, hpm⟩ := hp
    subst hpv
    have hpm := hpm.symm
    subst hpm
    refine so_ifeqB 48 (by decide) dX9_number_16 (fun h4 => ?_) (fun h4 => ?_)
    · have h4 : ¬ (48 ≤ (hereX mem) ∧ (hereX mem) ≤ 57) := h4
      refine st_iload_n (i := 3) rfl rfl dX9_number_48 ?_
      refine sr_if_eq 62 s1 (by decide) dX9_number_49 (fun h5 => ?_) (fun h5 => ?_)
      · have h5 : x3 = 0 := by omega
        refine st_iconst dX9_number_62 ?_
        refine st_goto 67 (by decide) dX9_number_63 ?_
        exact st_ireturn rfl dX9_number_67 (mQ.ret (q4 h1 h4 h5))
      · have h5 : ¬ x3 = 0 := by omega
        refine st_aload_n (i := 0) rfl (t := 0) rfl (by decide) dX9_number_52 ?_
        refine st_callV (kc2 := 0) (ks2 := 0) (av := []) 1 9 mr_X9_22 ok_X9_here (c_X9_hereB mem ((s4 h1))) rfl sh_1 ⟨_, rfl, rfl, by decide⟩ rfl rfl hd2 (Nat.le_refl 0) (Nat.le_refl 0) (Nat.le_of_ble_eq_true rfl) dX9_number_53 (mQ.elim fun v5 m5 hp => ?_)
        obtain ⟨hpv, hpm⟩ := hp
        subst hpv
        have hpm := hpm.symm
        subst hpm
        refine st_callS (kc2 := 0) (ks2 := 0) (av := [(0, (hereX mem))]) mr_X9_29 ok_X9_isDigit (c_X9_isDigit mem (hereX mem) ((hereX_rng mem ((s4 h1))))) rfl rfl hd2 (Nat.le_refl 0) (Nat.le_refl 0) (Nat.le_of_ble_eq_true rfl) dX9_number_56 (mQ.elim fun v6 m6 hp => ?_)
        obtain ⟨hpv, hpm⟩ := hp
        subst hpv
        have hpm := hpm.symm
        subst hpm
        refine so_ifeqB 66 (by decide) dX9_number_59 (fun h6 => ?_) (fun h6 => ?_)
        · have h6 : ¬ (48 ≤ (hereX mem) ∧ (hereX mem) ≤ 57) := h6
          refine st_iload_n (i := 2) rfl rfl dX9_number_66 ?_
          exact st_ireturn rfl dX9_number_67 (mQ.ret (q5 h1 h4 h5 h6))
        · have h6 : (48 ≤ (hereX mem) ∧ (hereX mem) ≤ 57) := h6
          refine st_iconst dX9_number_62 ?_
          refine st_goto 67 (by decide) dX9_number_63 ?_
          exact st_ireturn rfl dX9_number_67 (mQ.ret (q6 h1 h4 h5 h6))
    · have h4 : (48 ≤ (hereX mem) ∧ (hereX mem) ≤ 57) := h4
      refine st_iload_n (i := 2) rfl rfl dX9_number_19 ?_
      refine st_bipush rfl dX9_number_20 ?_
      refine st_imul dX9_number_22 ?_
      refine st_aload_n (i := 0) rfl (t := 0) rfl (by decide) dX9_number_23 ?_
      refine st_callV (kc2 := 0) (ks2 := 0) (av := []) 1 9 mr_X9_22 ok_X9_here (c_X9_hereB mem ((s4 h1))) rfl sh_1 ⟨_, rfl, rfl, by decide⟩ rfl rfl hd2 (Nat.le_refl 0) (Nat.le_refl 0) (Nat.le_of_ble_eq_true rfl) dX9_number_24 (mQ.elim fun v7 m7 hp => ?_)
      obtain ⟨hpv, hpm⟩ := hp
      subst hpv
      have hpm := hpm.symm
      subst hpm
      refine st_iadd dX9_number_27 ?_
      refine st_bipush rfl dX9_number_28 ?_
      refine st_isub dX9_number_30 ?_
      refine st_istore_n (i := 2) rfl (by decide) (lc' := [(2, 1), (0, x1), (0, (((x2 * 10) + (hereX mem)) - 48)), (0, x3)]) rfl dX9_number_31 ?_
      refine st_iinc (y := (x3 + 1)) (by decide) (i := 3) rfl rfl (lc' := [(2, 1), (0, x1), (0, (((x2 * 10) + (hereX mem)) - 48)), (0, (x3 + 1))]) rfl dX9_number_32 ?_
      refine st_aload_n (i := 0) rfl (t := 0) rfl (by decide) dX9_number_35 ?_
      refine st_dup (Nat.ne_of_beq_eq_false rfl) dX9_number_36 ?_
      refine so_getI (v := (mem 1 2)) 1 2 fr_X9_19_9 rfl sh_1 rfl dX9_number_37 (fun r1 => ?_)
      refine st_iconst dX9_number_40 ?_
      refine st_iadd dX9_number_41 ?_
      refine so_putI 1 2 fr_X9_19_9 pf_9_2 fo_1_2 rfl sh_1 (s5 h1 h4) dX9_number_42 ?_
      refine st_goto 4 (by decide) dX9_number_45 ?_
      exact st_locals [(2, 1), (0, x1), (0, (((x2 * 10) + (hereX mem)) - 48)), (0, (x3 + 1))] ⟨Or.inr rfl, Or.inr rfl, Or.inr rfl, Or.inr rfl, trivial⟩ (k1 h1 h4)
theorem s_number (mem : mmM) (hb : bytX mem) {j : Int} {k : Nat} (h0 : 0 ≤ j) (h1 : j ≤ mem 1 1) (hk : 1 ≤ k ∧ k ≤ 4) : con 0 bX9_number 2 [(2, 1), (0, (k : Int))] (cuX mem j) (fun v m => v = (numS (CX mem) k j).1 ∧ m = cuX mem (numS (CX mem) k j).2) := by
  have hC : ∀ i, 0 < CX mem i → i < mem 1 1 := fun i h => chT_in h
  have hn := hb.1
  have eh : ∀ i, hereX (cuX mem i) = CX mem i := by
    intro i
    rw [hereX_eq (bytX_cu hb i).1, CX_cu, cuX_at]
  have main : ∀ (l : Nat) (v i dg : Int), 0 ≤ i → i ≤ mem 1 1 → 0 < dg → dg + (l : Int) = k → mmT bX9_number 2 0 0 (mQ 0 (fun v' m => v' = (numF (CX mem) l v i).1 ∧ m = cuX mem (numF (CX mem) l v i).2)) 4 [(2, 1), (0, (k : Int)), (0, v), (0, dg)] [] mS (cuX mem i) := by
    intro l
    induction l with
    | zero =>
      intro v i dg i0 i1 d0 hd
      have ok : ¬ digC (CX mem i) → ((v = (numF (CX mem) 0 v i).1) ∧ cuX mem i = cuX mem (numF (CX mem) 0 v i).2) := by
        intro q
        unfold numF
        rw [if_neg q]
        exact ⟨rfl, rfl⟩
      have no : digC (CX mem i) → (((-1 : Int) = (numF (CX mem) 0 v i).1) ∧ cuX mem i = cuX mem (numF (CX mem) 0 v i).2) := by
        intro q
        unfold numF
        rw [if_pos q]
        exact ⟨rfl, rfl⟩
      refine bk_X9_number_4 (fun g _ => absurd g (by omega)) (fun _ g => absurd g (by omega)) (fun _ _ g => ?_) (fun _ _ g => ?_) (fun g => absurd g (by omega)) (fun g => absurd g (by omega)) (fun g => absurd g (by omega)) (s1 := ⟨by omega, by omega⟩) (s2 := ⟨by omega, by omega⟩) (s3 := fun _ _ => bytX_cu hb _) (s4 := fun _ => bytX_cu hb _) (s5 := fun g => absurd g (by omega))
      · rw [eh] at g
        exact ok g
      · rw [eh] at g
        exact no g
    | succ l ih =>
      intro v i dg i0 i1 d0 hd
      refine bk_X9_number_4 (fun g g2 => ?_) (fun g => absurd g (by omega)) (fun g => absurd g (by omega)) (fun g => absurd g (by omega)) (fun _ _ g => absurd g (by omega)) (fun _ g _ _ => ?_) (fun _ g _ g2 => absurd g2 g) (s1 := ⟨by omega, by omega⟩) (s2 := ⟨by omega, by omega⟩) (s3 := fun _ _ => bytX_cu hb _) (s4 := fun _ => bytX_cu hb _) (s5 := fun _ _ => ?_)
      · rw [eh] at g2
        have hi := hC i (by omega)
        have e : numF (CX mem) (l + 1) v i = numF (CX mem) l (v * 10 + CX mem i - 48) (i + 1) := if_pos g2
        rw [e, eh, cuX_at, cuX_cu]
        exact ih _ _ _ (by omega) (by omega) (by omega) (by omega)
      · rw [eh] at g
        have e : numF (CX mem) (l + 1) v i = (v, i) := if_neg g
        rw [e]
        exact ⟨rfl, rfl⟩
      · rw [cuX_at]
        exact ⟨by omega, by omega⟩
  refine cn_X9_number (bk_X9_number_0 ?_)
  obtain ⟨l, rfl⟩ : ∃ l, k = l + 1 := ⟨k - 1, by omega⟩
  refine bk_X9_number_4 (fun g g2 => ?_) (fun g => absurd g (by omega)) (fun g => absurd g (by omega)) (fun g => absurd g (by omega)) (fun _ g _ => ?_) (fun _ _ g => absurd rfl g) (fun _ _ g => absurd rfl g) (s1 := ⟨by omega, by omega⟩) (s2 := ⟨by omega, by omega⟩) (s3 := fun _ _ => bytX_cu hb _) (s4 := fun _ => bytX_cu hb _) (s5 := fun _ _ => ?_)
  · rw [eh] at g2
    have hi := hC j (by omega)
    have e : numS (CX mem) (l + 1) j = numF (CX mem) l (0 * 10 + CX mem j - 48) (j + 1) := (if_pos g2).trans (if_pos g2)
    rw [e, eh, cuX_at, cuX_cu]
    exact main l _ _ _ (by omega) (by omega) (by omega) (by omega)
  · rw [eh] at g
    have e : numS (CX mem) (l + 1) j = (-1, j) := if_neg g
    rw [e]
    exact ⟨rfl, rfl⟩
  · rw [cuX_at]
    exact ⟨by omega, by omega⟩
theorem cn_X9_refuseNumber {d : Nat} {P : Int → mmM → Prop} {mem : mmM} (h : mmT bX9_refuseNumber d 0 0 (mQ 0 P) 0 [(2, 1)] [] mS mem) : con 0 bX9_refuseNumber d [(2, 1)] mem P := mmC_of [(2, 1)] ok_X9_refuseNumber.2.2.2.2 rfl (Nat.le_of_ble_eq_true rfl) h
theorem bk_X9_refuseNumber_0 {d : Nat} {P : Int → mmM → Prop} {mem : mmM}
  (q1 : P 0 (mset mem 1 2 ((mem 1 2) - 1)))
  (s1 : R32 ((mem 1 2) - 1) := by intros; first | omega | assumption | solve_by_elim)
  : mmT bX9_refuseNumber d 0 0 (mQ 0 P) 0 [(2, 1)] [] mS mem := by
  refine st_aload_n (i := 0) rfl (t := 0) rfl (by decide) dX9_refuseNumber_0 ?_
  refine st_dup (Nat.ne_of_beq_eq_false rfl) dX9_refuseNumber_1 ?_
  refine so_getI (v := (mem 1 2)) 1 2 fr_X9_19_9 rfl sh_1 rfl dX9_refuseNumber_2 (fun r1 => ?_)
  refine st_iconst dX9_refuseNumber_5 ?_
  refine st_isub dX9_refuseNumber_6 ?_
  refine so_putI 1 2 fr_X9_19_9 pf_9_2 fo_1_2 rfl sh_1 s1 dX9_refuseNumber_7 ?_
  refine st_iconst dX9_refuseNumber_10 ?_
  exact st_zreturn rfl (by decide) dX9_refuseNumber_11 (mQ.ret q1)
theorem s_refuse (mem : mmM) {j : Int} (h0 : 0 ≤ j) (h1 : j ≤ 160) : con 0 bX9_refuseNumber 0 [(2, 1)] (cuX mem j) (fun v m => v = 0 ∧ m = cuX mem (j - 1)) := by
  refine cn_X9_refuseNumber (bk_X9_refuseNumber_0 ⟨rfl, ?_⟩ (s1 := ?_))
  · rw [cuX_at, cuX_cu]
  · rw [cuX_at]
    exact ⟨by omega, by omega⟩
