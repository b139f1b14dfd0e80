/-! the model reads a clause -/
def lcFr (mem : mmM) (k : Int) (m : mmM) : Prop := (∀ a, a ≠ 65 → a ≠ 67 → a ≠ 68 → a ≠ 69 → a ≠ 70 → a ≠ 71 → a ≠ 72 → a ≠ 73 → m a = mem a) ∧ (∀ j, j ≠ 3 → j ≠ 4 → j ≠ 5 → m 65 j = mem 65 j) ∧ (∀ j, j ≠ mem 65 14 → m 69 j = mem 69 j ∧ m 70 j = mem 70 j) ∧ (∀ i, (i < 340 * mem 65 14 ∨ 340 * mem 65 14 + 340 ≤ i) → m 67 i = mem 67 i ∧ m 68 i = mem 68 i) ∧ ∀ i, i ≠ k → m 71 i = mem 71 i ∧ m 72 i = mem 72 i ∧ m 73 i = mem 73 i
theorem lcFr_refl (mem : mmM) (k : Int) : lcFr mem k mem := ⟨fun _ _ _ _ _ _ _ _ _ => rfl, fun _ _ _ _ => rfl, fun _ _ => ⟨rfl, rfl⟩, fun _ _ => ⟨rfl, rfl⟩, fun _ _ => ⟨rfl, rfl, rfl⟩⟩
theorem lcFr_14 {mem m : mmM} {k : Int} (h : lcFr mem k m) : m 65 14 = mem 65 14 := h.2.1 14 (by decide) (by decide) (by decide)
theorem lcFr_trans {a b c : mmM} {k : Int} (h : lcFr a k b) (h' : lcFr b k c) : lcFr a k c := by
  have e := lcFr_14 h
  obtain ⟨h1, h2, h3, h4, h5⟩ := h'
  rw [e] at h3 h4
  exact ⟨fun x x1 x2 x3 x4 x5 x6 x7 x8 => (h1 x x1 x2 x3 x4 x5 x6 x7 x8).trans (h.1 x x1 x2 x3 x4 x5 x6 x7 x8), fun j j1 j2 j3 => (h2 j j1 j2 j3).trans (h.2.1 j j1 j2 j3), fun j hj => ⟨(h3 j hj).1.trans (h.2.2.1 j hj).1, (h3 j hj).2.trans (h.2.2.1 j hj).2⟩, fun i hi => ⟨(h4 i hi).1.trans (h.2.2.2.1 i hi).1, (h4 i hi).2.trans (h.2.2.2.1 i hi).2⟩, fun i hi => ⟨(h5 i hi).1.trans (h.2.2.2.2 i hi).1, (h5 i hi).2.1.trans (h.2.2.2.2 i hi).2.1, (h5 i hi).2.2.trans (h.2.2.2.2 i hi).2.2⟩⟩
theorem lcFr_lm {mem m : mmM} (k : Int) (h : lmFr mem m) : lcFr mem k m := ⟨fun a a1 a2 a3 a4 _ _ _ _ => h.1 a a1 a2 a3 a4, h.2.1, fun j hj => ⟨h.2.2.1 j hj, by rw [h.1 70 (by decide) (by decide) (by decide) (by decide)]⟩, h.2.2.2, fun i _ => ⟨by rw [h.1 71 (by decide) (by decide) (by decide) (by decide)], by rw [h.1 72 (by decide) (by decide) (by decide) (by decide)], by rw [h.1 73 (by decide) (by decide) (by decide) (by decide)]⟩⟩
theorem lcFr_k (mem : mmM) {a : Nat} (k v : Int) (h : a = 71 ∨ a = 72 ∨ a = 73) : lcFr mem k (mset mem a k v) := by
  have n : ∀ b, b ≠ a → mset mem a k v b = mem b := fun b hb => mset_ne hb
  have z : ∀ b i, i ≠ k → mset mem a k v b i = mem b i := fun b i hi => by
    simp only [mset]
    rw [if_neg (fun y => hi y.2)]
  exact ⟨fun b _ _ _ _ _ b1 b2 b3 => n b (by omega), fun j _ _ _ => by rw [n 65 (by omega)], fun j _ => ⟨by rw [n 69 (by omega)], by rw [n 70 (by omega)]⟩, fun i _ => ⟨by rw [n 67 (by omega)], by rw [n 68 (by omega)]⟩, fun i hi => ⟨z 71 i hi, z 72 i hi, z 73 i hi⟩⟩
theorem lcFr_70 (mem : mmM) (k v : Int) : lcFr mem k (mset mem 70 (mem 65 14) v) := ⟨fun b _ _ _ _ b1 _ _ _ => mset_ne b1, fun j _ _ _ => by rw [mset_ne (by decide)], fun j hj => ⟨by rw [mset_ne (by decide)], by rw [mset_at, if_neg hj]⟩, fun i _ => ⟨by rw [mset_ne (by decide)], by rw [mset_ne (by decide)]⟩, fun i _ => ⟨by rw [mset_ne (by decide)], by rw [mset_ne (by decide)], by rw [mset_ne (by decide)]⟩⟩
/-- a clause read by the model -/
def resL (mem : mmM) : Int ⊕ (Int × List tokT × List tokT) → mmM → Prop
  | .inl f, m => m 65 4 = f ∧ 0 ≤ f ∧ lcFr mem (90 * mem 65 14 + mem 70 (mem 65 14)) m ∧ (0 ≤ m 65 3 ∧ m 65 3 ≤ 300)
  | .inr (q, ts, us), m => m 65 4 = -1 ∧ lcFr mem (90 * mem 65 14 + mem 70 (mem 65 14)) m ∧ m 65 3 = q ∧ m 65 5 = mem 65 5 ∧ codM m = codM mem + ts.length + us.length ∧ (m 71 (90 * mem 65 14 + mem 70 (mem 65 14)) = codM mem ∧ m 72 (90 * mem 65 14 + mem 70 (mem 65 14)) = codM mem + ts.length ∧ m 73 (90 * mem 65 14 + mem 70 (mem 65 14)) = codM mem + ts.length + us.length) ∧ m 70 (mem 65 14) = mem 70 (mem 65 14) + 1 ∧ tokR (m 67) (m 68) (340 * mem 65 14 + codM mem) ts ∧ tokR (m 67) (m 68) (340 * mem 65 14 + codM mem + ts.length) us ∧ ∀ i, i < 340 * mem 65 14 + codM mem → m 67 i = mem 67 i ∧ m 68 i = mem 68 i
/-- all that is left of a clause: where its sum ends, and one clause more -/
theorem cl_fin {mem m : mmM} {q : Int} {ts us : List tokT} (h4 : m 65 4 = -1) (fr : lcFr mem (90 * mem 65 14 + mem 70 (mem 65 14)) m) (h3 : m 65 3 = q) (h5 : m 65 5 = mem 65 5) (hc : codM m = codM mem + ts.length + us.length) (h71 : m 71 (90 * mem 65 14 + mem 70 (mem 65 14)) = codM mem) (h72 : m 72 (90 * mem 65 14 + mem 70 (mem 65 14)) = codM mem + ts.length) (h70 : m 70 (mem 65 14) = mem 70 (mem 65 14)) (t1 : tokR (m 67) (m 68) (340 * mem 65 14 + codM mem) ts) (t2 : tokR (m 67) (m 68) (340 * mem 65 14 + codM mem + ts.length) us) (pr : ∀ i, i < 340 * mem 65 14 + codM mem → m 67 i = mem 67 i ∧ m 68 i = mem 68 i) : resL mem (.inr (q, ts, us)) (mset (mset m 73 (90 * mem 65 14 + mem 70 (mem 65 14)) (m 69 (m 65 14))) 70 (m 65 14) (m 70 (m 65 14) + 1)) := by
  have e := lcFr_14 fr
  have f1 := lcFr_k m (a := 73) (90 * mem 65 14 + mem 70 (mem 65 14)) (m 69 (m 65 14)) (by omega)
  have e2 : mset m 73 (90 * mem 65 14 + mem 70 (mem 65 14)) (m 69 (m 65 14)) 65 14 = m 65 14 := by rw [mset_ne (by decide)]
  have f2 := lcFr_70 (mset m 73 (90 * mem 65 14 + mem 70 (mem 65 14)) (m 69 (m 65 14))) (90 * mem 65 14 + mem 70 (mem 65 14)) (m 70 (m 65 14) + 1)
  rw [e2] at f2
  have ec : m 69 (m 65 14) = codM mem + ts.length + us.length := hc
  refine ⟨?_, lcFr_trans fr (lcFr_trans f1 f2), ?_, ?_, ?_, ⟨?_, ?_, ?_⟩, ?_, ?_, ?_, fun i hi => ?_⟩
  · rw [mset_ne (by decide), mset_ne (by decide), h4]
  · rw [mset_ne (by decide), mset_ne (by decide), h3]
  · rw [mset_ne (by decide), mset_ne (by decide), h5]
  · unfold codM
    rw [mset_ne (by decide), mset_ne (by decide), mset_ne (by decide), mset_ne (by decide)]
    exact hc
  · rw [mset_ne (by decide), mset_ne (by decide), h71]
  · rw [mset_ne (by decide), mset_ne (by decide), h72]
  · rw [mset_ne (by decide), mset_same, ec]
  · rw [e, mset_same, h70]
  · rw [mset_ne (by decide), mset_ne (by decide), mset_ne (by decide), mset_ne (by decide)]
    exact t1
  · rw [mset_ne (by decide), mset_ne (by decide), mset_ne (by decide), mset_ne (by decide)]
    exact t2
  · rw [mset_ne (by decide), mset_ne (by decide), mset_ne (by decide), mset_ne (by decide)]
    exact pr i hi
theorem cn_X12_clause {d : Nat} {P : mmM → Prop} {mem : mmM} (h : mmT bX12_clause d 0 0 (mQv P) 0 [(2, 65), (9, 0), (9, 0)] [] mS mem) : conv bX12_clause d [(2, 65)] mem P := mmC_of [(2, 65), (9, 0), (9, 0)] ok_X12_clause.2.2.2.2 rfl (Nat.le_of_ble_eq_true rfl) h
theorem bk_X12_clause_0 {d : Nat} {P : mmM → Prop} {mem : mmM}
  (k1 : ¬ (mem 65 4) = (-1) → mmT bX12_clause d 0 0 (mQv P) 39 [(2, 65), (0, ((90 * (mem 65 14)) + (mem 70 (mem 65 14)))), (9, 0)] [] mS mem)
  (k2 : (mem 65 4) = (-1) → (hereM (lookM mem)) = 121 → mmT bX12_clause d 0 0 (mQv P) 39 [(2, 65), (0, ((90 * (mem 65 14)) + (mem 70 (mem 65 14)))), (9, 0)] [] mS (lookM mem))
  (k3 : (mem 65 4) = (-1) → ¬ (hereM (lookM mem)) = 121 → mmT bX12_clause d 0 0 (mQv P) 39 [(2, 65), (0, ((90 * (mem 65 14)) + (mem 70 (mem 65 14)))), (9, 0)] [] mS (badM (lookM mem)))
  (hd1 : 1 ≤ d := by omega)
  (hd2 : 2 ≤ d := by omega)
  (s1 : 0 ≤ (mem 65 14) ∧ (mem 65 14) < 5 := by intros; first | omega | assumption | solve_by_elim)
  (s2 : (mem 65 4) = (-1) → bytM mem := by intros; first | omega | assumption | solve_by_elim)
  (s3 : (mem 65 4) = (-1) → 0 ≤ (mem 65 3) := by intros; first | omega | assumption | solve_by_elim)
  : mmT bX12_clause d 0 0 (mQv P) 0 [(2, 65), (9, 0), (9, 0)] [] mS mem := by
  refine st_bipush rfl dX12_clause_0 ?_
  refine st_aload_n (i := 0) rfl (t := 0) rfl (by decide) dX12_clause_2 ?_
  refine so_getI (v := (mem 65 14)) 65 14 fr_X12_134_11 rfl sh_65 rfl dX12_clause_3 (fun r1 => ?_)
  refine st_imul dX12_clause_6 ?_
  refine st_aload_n (i := 0) rfl (t := 0) rfl (by decide) dX12_clause_7 ?_
  refine so_getA 65 9 fr_X12_22_11 rfl sh_65 fx_65_9 dX12_clause_8 ?_
  refine st_aload_n (i := 0) rfl (t := 0) rfl (by decide) dX12_clause_11 ?_
  refine so_getI (v := (mem 65 14)) 65 14 fr_X12_134_11 rfl sh_65 rfl dX12_clause_12 (fun r2 => ?_)
  refine so_iald (v := (mem 70 (mem 65 14))) 70 rfl sh_70 (by decide) s1 rfl dX12_clause_15 (fun r3 => ?_)
  refine st_iadd dX12_clause_16 ?_
  refine st_istore_n (i := 1) rfl (by decide) (lc' := [(2, 65), (0, ((90 * (mem 65 14)) + (mem 70 (mem 65 14)))), (9, 0)]) rfl dX12_clause_17 ?_
  refine st_aload_n (i := 0) rfl (t := 0) rfl (by decide) dX12_clause_18 ?_
  refine so_getI (v := (mem 65 4)) 65 4 fr_X12_131_11 rfl sh_65 rfl dX12_clause_19 (fun r4 => ?_)
  refine st_iconst dX12_clause_22 ?_
  refine sr_icmp_ne 39 r4 ⟨by decide, by decide⟩ (by decide) dX12_clause_23 (fun h1 => ?_) (fun h1 => ?_)
  · have h1 : ¬ (mem 65 4) = (-1) := by omega
    exact st_locals [(2, 65), (0, ((90 * (mem 65 14)) + (mem 70 (mem 65 14)))), (9, 0)] ⟨Or.inr rfl, Or.inr rfl, Or.inl rfl, trivial⟩ (k1 h1)
  · have h1 : (mem 65 4) = (-1) := by omega
    refine st_aload_n (i := 0) rfl (t := 0) rfl (by decide) dX12_clause_26 ?_
    refine st_callV (kc2 := 0) (ks2 := 0) (av := []) 65 11 mr_X12_143 ok_X12_look (c_X12_look mem ((s2 h1)) ((s3 h1))) rfl sh_65 ⟨_, rfl, rfl, by decide⟩ rfl rfl hd2 (Nat.le_refl 0) (Nat.le_refl 0) (Nat.le_of_ble_eq_true rfl) dX12_clause_27 (mQ.elim fun v1 m1 hp => ?_)
    obtain ⟨hpv, hpm⟩ := hp
    subst hpv
    have hpm := hpm.symm
    subst hpm
    refine st_bipush rfl dX12_clause_30 ?_
    refine sr_icmp_eq 39 (lookM_rng mem ((s2 h1)) ((s3 h1))) ⟨by decide, by decide⟩ (by decide) dX12_clause_32 (fun h2 => ?_) (fun h2 => ?_)
    · have h2 : (hereM (lookM mem)) = 121 := by omega
      exact st_locals [(2, 65), (0, ((90 * (mem 65 14)) + (mem 70 (mem 65 14)))), (9, 0)] ⟨Or.inr rfl, Or.inr rfl, Or.inl rfl, trivial⟩ (k2 h1 h2)
    · have h2 : ¬ (hereM (lookM mem)) = 121 := by omega
      refine st_aload_n (i := 0) rfl (t := 0) rfl (by decide) dX12_clause_35 ?_
      refine st_callV (kc2 := 0) (ks2 := 0) (av := []) 65 11 mr_X12_140 ok_X12_bad (c_X12_bad (lookM mem) ) rfl sh_65 ⟨_, rfl, rfl, by decide⟩ rfl rfl hd1 (Nat.le_refl 0) (Nat.le_refl 0) (Nat.le_of_ble_eq_true rfl) dX12_clause_36 (mQv.elim fun m2 hp => ?_)
      have hp := hp.symm
      subst hp
      exact st_locals [(2, 65), (0, ((90 * (mem 65 14)) + (mem 70 (mem 65 14)))), (9, 0)] ⟨Or.inr rfl, Or.inr rfl, Or.inl rfl, trivial⟩ (k3 h1 h2)
theorem bk_X12_clause_39 {d : Nat} {P : mmM → Prop} {mem : mmM} {x1 : Int}
  (k1 : ¬ (mem 65 4) = (-1) → mmT bX12_clause d 0 0 (mQv P) 70 [(2, 65), (0, x1), (9, 0)] [] mS (mset mem 65 3 ((mem 65 3) + 1)))
  (k2 : (mem 65 4) = (-1) → (hereM (lookM (mset mem 65 3 ((mem 65 3) + 1)))) = 58 → mmT bX12_clause d 0 0 (mQv P) 70 [(2, 65), (0, x1), (9, 0)] [] mS (lookM (mset mem 65 3 ((mem 65 3) + 1))))
  (k3 : (mem 65 4) = (-1) → ¬ (hereM (lookM (mset mem 65 3 ((mem 65 3) + 1)))) = 58 → mmT bX12_clause d 0 0 (mQv P) 70 [(2, 65), (0, x1), (9, 0)] [] mS (badM (lookM (mset mem 65 3 ((mem 65 3) + 1)))))
  (hd1 : 1 ≤ d := by omega)
  (hd2 : 2 ≤ d := by omega)
  (s1 : R32 ((mem 65 3) + 1) := by intros; first | omega | assumption | solve_by_elim)
  (s2 : (mem 65 4) = (-1) → bytM (mset mem 65 3 ((mem 65 3) + 1)) := by intros; first | omega | assumption | solve_by_elim)
  (s3 : (mem 65 4) = (-1) → 0 ≤ ((mset mem 65 3 ((mem 65 3) + 1)) 65 3) := by intros; first | omega | assumption | solve_by_elim)
  : mmT bX12_clause d 0 0 (mQv P) 39 [(2, 65), (0, x1), (9, 0)] [] mS mem := by
  refine st_aload_n (i := 0) rfl (t := 0) rfl (by decide) dX12_clause_39 ?_
  refine st_dup (Nat.ne_of_beq_eq_false rfl) dX12_clause_40 ?_
  refine so_getI (v := (mem 65 3)) 65 3 fr_X12_124_11 rfl sh_65 rfl dX12_clause_41 (fun r1 => ?_)
  refine st_iconst dX12_clause_44 ?_
  refine st_iadd dX12_clause_45 ?_
  refine so_putI 65 3 fr_X12_124_11 pf_11_3 fo_65_3 rfl sh_65 s1 dX12_clause_46 ?_
  refine st_aload_n (i := 0) rfl (t := 0) rfl (by decide) dX12_clause_49 ?_
  refine so_getI (v := (mem 65 4)) 65 4 fr_X12_131_11 rfl sh_65 rfl dX12_clause_50 (fun r2 => ?_)
  refine st_iconst dX12_clause_53 ?_
  refine sr_icmp_ne 70 r2 ⟨by decide, by decide⟩ (by decide) dX12_clause_54 (fun h1 => ?_) (fun h1 => ?_)
  · have h1 : ¬ (mem 65 4) = (-1) := by omega
    exact st_locals [(2, 65), (0, x1), (9, 0)] ⟨Or.inr rfl, Or.inr rfl, Or.inl rfl, trivial⟩ (k1 h1)
  · have h1 : (mem 65 4) = (-1) := by omega
    refine st_aload_n (i := 0) rfl (t := 0) rfl (by decide) dX12_clause_57 ?_
    refine st_callV (kc2 := 0) (ks2 := 0) (av := []) 65 11 mr_X12_143 ok_X12_look (c_X12_look (mset mem 65 3 ((mem 65 3) + 1)) ((s2 h1)) ((s3 h1))) rfl sh_65 ⟨_, rfl, rfl, by decide⟩ rfl rfl hd2 (Nat.le_refl 0) (Nat.le_refl 0) (Nat.le_of_ble_eq_true rfl) dX12_clause_58 (mQ.elim fun v1 m1 hp => ?_)
    obtain ⟨hpv, hpm⟩ := hp
    subst hpv
    have hpm := hpm.symm
    subst hpm
    refine st_bipush rfl dX12_clause_61 ?_
    refine sr_icmp_eq 70 (lookM_rng (mset mem 65 3 ((mem 65 3) + 1)) ((s2 h1)) ((s3 h1))) ⟨by decide, by decide⟩ (by decide) dX12_clause_63 (fun h2 => ?_) (fun h2 => ?_)
    · have h2 : (hereM (lookM (mset mem 65 3 ((mem 65 3) + 1)))) = 58 := by omega
      exact st_locals [(2, 65), (0, x1), (9, 0)] ⟨Or.inr rfl, Or.inr rfl, Or.inl rfl, trivial⟩ (k2 h1 h2)
    · have h2 : ¬ (hereM (lookM (mset mem 65 3 ((mem 65 3) + 1)))) = 58 := by omega
      refine st_aload_n (i := 0) rfl (t := 0) rfl (by decide) dX12_clause_66 ?_
      refine st_callV (kc2 := 0) (ks2 := 0) (av := []) 65 11 mr_X12_140 ok_X12_bad (c_X12_bad (lookM (mset mem 65 3 ((mem 65 3) + 1))) ) rfl sh_65 ⟨_, rfl, rfl, by decide⟩ rfl rfl hd1 (Nat.le_refl 0) (Nat.le_refl 0) (Nat.le_of_ble_eq_true rfl) dX12_clause_67 (mQv.elim fun m2 hp => ?_)
      have hp := hp.symm
      subst hp
      exact st_locals [(2, 65), (0, x1), (9, 0)] ⟨Or.inr rfl, Or.inr rfl, Or.inl rfl, trivial⟩ (k3 h1 h2)
theorem bk_X12_clause_70 {d : Nat} {P : mmM → Prop} {mem : mmM} {x1 : Int}
  (k1 : (mem 65 4) = (-1) → (hereM (lookM (mset (mset mem 65 3 ((mem 65 3) + 1)) 71 x1 (mem 69 (mem 65 14))))) = 33 → mmT bX12_clause d 0 0 (mQv P) 128 [(2, 65), (0, x1), (0, 1)] [] mS (lookM (mset (mset mem 65 3 ((mem 65 3) + 1)) 71 x1 (mem 69 (mem 65 14)))))
  (k2 : (mem 65 4) = (-1) → ¬ (hereM (lookM (mset (mset mem 65 3 ((mem 65 3) + 1)) 71 x1 (mem 69 (mem 65 14))))) = 33 → ¬ (hereM (lookM (lookM (mset (mset mem 65 3 ((mem 65 3) + 1)) 71 x1 (mem 69 (mem 65 14)))))) = 40 → mmT bX12_clause d 0 0 (mQv P) 128 [(2, 65), (0, x1), (0, 0)] [] mS (lookM (lookM (mset (mset mem 65 3 ((mem 65 3) + 1)) 71 x1 (mem 69 (mem 65 14))))))
  (k3 : (mem 65 4) = (-1) → ¬ (hereM (lookM (mset (mset mem 65 3 ((mem 65 3) + 1)) 71 x1 (mem 69 (mem 65 14))))) = 33 → (hereM (lookM (lookM (mset (mset mem 65 3 ((mem 65 3) + 1)) 71 x1 (mem 69 (mem 65 14)))))) = 40 → mmT bX12_clause d 0 0 (mQv P) 128 [(2, 65), (0, x1), (0, 1)] [] mS (lookM (lookM (mset (mset mem 65 3 ((mem 65 3) + 1)) 71 x1 (mem 69 (mem 65 14))))))
  (q1 : ¬ (mem 65 4) = (-1) → P (mset mem 65 3 ((mem 65 3) + 1)))
  (hd2 : 2 ≤ d := by omega)
  (s1 : R32 ((mem 65 3) + 1) := by intros; first | omega | assumption | solve_by_elim)
  (s2 : (mem 65 4) = (-1) → 0 ≤ (mem 65 14) ∧ (mem 65 14) < 5 := by intros; first | omega | assumption | solve_by_elim)
  (s3 : (mem 65 4) = (-1) → 0 ≤ x1 ∧ x1 < 450 := by intros; first | omega | assumption | solve_by_elim)
  (s4 : (mem 65 4) = (-1) → bytM (mset (mset mem 65 3 ((mem 65 3) + 1)) 71 x1 (mem 69 (mem 65 14))) := by intros; first | omega | assumption | solve_by_elim)
  (s5 : (mem 65 4) = (-1) → 0 ≤ ((mset (mset mem 65 3 ((mem 65 3) + 1)) 71 x1 (mem 69 (mem 65 14))) 65 3) := by intros; first | omega | assumption | solve_by_elim)
  (s6 : (mem 65 4) = (-1) → ¬ (hereM (lookM (mset (mset mem 65 3 ((mem 65 3) + 1)) 71 x1 (mem 69 (mem 65 14))))) = 33 → bytM (lookM (mset (mset mem 65 3 ((mem 65 3) + 1)) 71 x1 (mem 69 (mem 65 14)))) := by intros; first | omega | assumption | solve_by_elim)
  (s7 : (mem 65 4) = (-1) → ¬ (hereM (lookM (mset (mset mem 65 3 ((mem 65 3) + 1)) 71 x1 (mem 69 (mem 65 14))))) = 33 → 0 ≤ ((lookM (mset (mset mem 65 3 ((mem 65 3) + 1)) 71 x1 (mem 69 (mem 65 14)))) 65 3) := by intros; first | omega | assumption | solve_by_elim)
  : mmT bX12_clause d 0 0 (mQv P) 70 [(2, 65), (0, x1), (9, 0)] [] mS mem := by
  refine st_aload_n (i := 0) rfl (t := 0) rfl (by decide) dX12_clause_70 ?_
  refine st_dup (Nat.ne_of_beq_eq_false rfl) dX12_clause_71 ?_
  refine so_getI (v := (mem 65 3)) 65 3 fr_X12_124_11 rfl sh_65 rfl dX12_clause_72 (fun r1 => ?_)
  refine st_iconst dX12_clause_75 ?_
  refine st_iadd dX12_clause_76 ?_
  refine so_putI 65 3 fr_X12_124_11 pf_11_3 fo_65_3 rfl sh_65 s1 dX12_clause_77 ?_
  refine st_aload_n (i := 0) rfl (t := 0) rfl (by decide) dX12_clause_80 ?_
  refine so_getI (v := (mem 65 4)) 65 4 fr_X12_131_11 rfl sh_65 rfl dX12_clause_81 (fun r2 => ?_)
  refine st_iconst dX12_clause_84 ?_
  refine sr_icmp_eq 89 r2 ⟨by decide, by decide⟩ (by decide) dX12_clause_85 (fun h1 => ?_) (fun h1 => ?_)
  · have h1 : (mem 65 4) = (-1) := by omega
    refine st_aload_n (i := 0) rfl (t := 0) rfl (by decide) dX12_clause_89 ?_
    refine so_getA 65 10 fr_X12_25_11 rfl sh_65 fx_65_10 dX12_clause_90 ?_
    refine st_iload_n (i := 1) rfl rfl dX12_clause_93 ?_
    refine st_aload_n (i := 0) rfl (t := 0) rfl (by decide) dX12_clause_94 ?_
    refine so_getA 65 8 fr_X12_19_11 rfl sh_65 fx_65_8 dX12_clause_95 ?_
    refine st_aload_n (i := 0) rfl (t := 0) rfl (by decide) dX12_clause_98 ?_
    refine so_getI (v := (mem 65 14)) 65 14 fr_X12_134_11 rfl sh_65 rfl dX12_clause_99 (fun r3 => ?_)
    refine so_iald (v := (mem 69 (mem 65 14))) 69 rfl sh_69 (by decide) (s2 h1) rfl dX12_clause_102 (fun r4 => ?_)
    refine so_iast 71 fr_71 rfl sh_71 (by decide) (s3 h1) r4 dX12_clause_103 ?_
    refine st_aload_n (i := 0) rfl (t := 0) rfl (by decide) dX12_clause_104 ?_
    refine st_callV (kc2 := 0) (ks2 := 0) (av := []) 65 11 mr_X12_143 ok_X12_look (c_X12_look (mset (mset mem 65 3 ((mem 65 3) + 1)) 71 x1 (mem 69 (mem 65 14))) ((s4 h1)) ((s5 h1))) rfl sh_65 ⟨_, rfl, rfl, by decide⟩ rfl rfl hd2 (Nat.le_refl 0) (Nat.le_refl 0) (Nat.le_of_ble_eq_true rfl) dX12_clause_105 (mQ.elim fun v1 m1 hp => ?_)
    obtain ⟨hpv, hpm⟩ := hp
    subst hpv
    have hpm := hpm.symm
    subst hpm
    refine st_bipush rfl dX12_clause_108 ?_
    refine sr_icmp_eq 122 (lookM_rng (mset (mset mem 65 3 ((mem 65 3) + 1)) 71 x1 (mem 69 (mem 65 14))) ((s4 h1)) ((s5 h1))) ⟨by decide, by decide⟩ (by decide) dX12_clause_110 (fun h2 => ?_) (fun h2 => ?_)
    · have h2 : (hereM (lookM (mset (mset mem 65 3 ((mem 65 3) + 1)) 71 x1 (mem 69 (mem 65 14))))) = 33 := by omega
      refine st_iconst dX12_clause_122 ?_
      refine st_goto 127 (by decide) dX12_clause_123 ?_
      refine st_istore_n (i := 2) rfl (by decide) (lc' := [(2, 65), (0, x1), (0, 1)]) rfl dX12_clause_127 ?_
      exact st_locals [(2, 65), (0, x1), (0, 1)] ⟨Or.inr rfl, Or.inr rfl, Or.inr rfl, trivial⟩ (k1 h1 h2)
    · have h2 : ¬ (hereM (lookM (mset (mset mem 65 3 ((mem 65 3) + 1)) 71 x1 (mem 69 (mem 65 14))))) = 33 := by omega
      refine st_aload_n (i := 0) rfl (t := 0) rfl (by decide) dX12_clause_113 ?_
      refine st_callV (kc2 := 0) (ks2 := 0) (av := []) 65 11 mr_X12_143 ok_X12_look (c_X12_look (lookM (mset (mset mem 65 3 ((mem 65 3) + 1)) 71 x1 (mem 69 (mem 65 14)))) ((s6 h1 h2)) ((s7 h1 h2))) rfl sh_65 ⟨_, rfl, rfl, by decide⟩ rfl rfl hd2 (Nat.le_refl 0) (Nat.le_refl 0) (Nat.le_of_ble_eq_true rfl) dX12_clause_114 (mQ.elim fun v2 m2 hp => ?_)
      obtain ⟨hpv, hpm⟩ := hp
      subst hpv
      have hpm := hpm.symm
      subst hpm
      refine st_bipush rfl dX12_clause_117 ?_
      refine sr_icmp_ne 126 (lookM_rng (lookM (mset (mset mem 65 3 ((mem 65 3) + 1)) 71 x1 (mem 69 (mem 65 14)))) ((s6 h1 h2)) ((s7 h1 h2))) ⟨by decide, by decide⟩ (by decide) dX12_clause_119 (fun h3 => ?_) (fun h3 => ?_)
      · have h3 : ¬ (hereM (lookM (lookM (mset (mset mem 65 3 ((mem 65 3) + 1)) 71 x1 (mem 69 (mem 65 14)))))) = 40 := by omega
        refine st_iconst dX12_clause_126 ?_
        refine st_istore_n (i := 2) rfl (by decide) (lc' := [(2, 65), (0, x1), (0, 0)]) rfl dX12_clause_127 ?_
        exact st_locals [(2, 65), (0, x1), (0, 0)] ⟨Or.inr rfl, Or.inr rfl, Or.inr rfl, trivial⟩ (k2 h1 h2 h3)
      · have h3 : (hereM (lookM (lookM (mset (mset mem 65 3 ((mem 65 3) + 1)) 71 x1 (mem 69 (mem 65 14)))))) = 40 := by omega
        refine st_iconst dX12_clause_122 ?_
        refine st_goto 127 (by decide) dX12_clause_123 ?_
        refine st_istore_n (i := 2) rfl (by decide) (lc' := [(2, 65), (0, x1), (0, 1)]) rfl dX12_clause_127 ?_
        exact st_locals [(2, 65), (0, x1), (0, 1)] ⟨Or.inr rfl, Or.inr rfl, Or.inr rfl, trivial⟩ (k3 h1 h2 h3)
  · have h1 : ¬ (mem 65 4) = (-1) := by omega
    exact st_return rfl dX12_clause_88 (mQv.ret (q1 h1))
theorem bk_X12_clause_128 {d : Nat} {d1 : Nat} {P1 : mmM → Prop} {d2 : Nat} {P2 : mmM → Prop} {P : mmM → Prop} {mem : mmM} {x1 x2 : Int}
  (c1 : x2 = 0 → conv bX12_sum d1 [(2, 65)] mem P1)
  (c2 : ¬ x2 = 0 → conv bX12_condition d2 [(2, 65)] mem P2)
  (k1 : x2 = 0 → ∀ (m1 : mmM), P1 m1 → ¬ (m1 65 4) = (-1) → mmT bX12_clause d 0 0 (mQv P) 167 [(2, 65), (0, x1), (0, 0)] [] mS m1)
  (k2 : x2 = 0 → ∀ (m1 : mmM), P1 m1 → (m1 65 4) = (-1) → ¬ ((hereM (lookM m1)) = 61 ∨ (hereM (lookM m1)) = 60 ∨ (hereM (lookM m1)) = 62) → mmT bX12_clause d 0 0 (mQv P) 167 [(2, 65), (0, x1), (0, 0)] [] mS (lookM m1))
  (k3 : x2 = 0 → ∀ (m1 : mmM), P1 m1 → (m1 65 4) = (-1) → ((hereM (lookM m1)) = 61 ∨ (hereM (lookM m1)) = 60 ∨ (hereM (lookM m1)) = 62) → mmT bX12_clause d 0 0 (mQv P) 167 [(2, 65), (0, x1), (0, 1)] [] mS (lookM m1))
  (k4 : ¬ x2 = 0 → ∀ (m4 : mmM), P2 m4 → mmT bX12_clause d 0 0 (mQv P) 183 [(2, 65), (0, x1), (0, x2)] [] mS m4)
  (hd_d1 : d1 + 1 ≤ d := by omega)
  (hd_d2 : d2 + 1 ≤ d := by omega)
  (hd2 : 2 ≤ d := by omega)
  (s1 : R32 x2 := by intros; first | omega | assumption | solve_by_elim)
  (s2 : x2 = 0 → ∀ (m1 : mmM), P1 m1 → (m1 65 4) = (-1) → bytM m1 := by intros; first | omega | assumption | solve_by_elim)
  (s3 : x2 = 0 → ∀ (m1 : mmM), P1 m1 → (m1 65 4) = (-1) → 0 ≤ (m1 65 3) := by intros; first | omega | assumption | solve_by_elim)
  : mmT bX12_clause d 0 0 (mQv P) 128 [(2, 65), (0, x1), (0, x2)] [] mS mem := by
  refine st_iload_n (i := 2) rfl rfl dX12_clause_128 ?_
  refine sr_if_eq 139 s1 (by decide) dX12_clause_129 (fun h1 => ?_) (fun h1 => ?_)
  · have h1 : x2 = 0 := by omega
    refine st_aload_n (i := 0) rfl (t := 0) rfl (by decide) dX12_clause_139 ?_
    refine st_callV (kc2 := 0) (ks2 := 0) (av := []) 65 11 mr_X12_164 ok_X12_sum (c1 h1) rfl sh_65 ⟨_, rfl, rfl, by decide⟩ rfl rfl hd_d1 (Nat.le_refl 0) (Nat.le_refl 0) (Nat.le_of_ble_eq_true rfl) dX12_clause_140 (mQv.elim fun m1 p1 => ?_)
    refine st_aload_n (i := 0) rfl (t := 0) rfl (by decide) dX12_clause_143 ?_
    refine so_getI (v := (m1 65 4)) 65 4 fr_X12_131_11 rfl sh_65 rfl dX12_clause_144 (fun r1 => ?_)
    refine st_iconst dX12_clause_147 ?_
    refine sr_icmp_ne 165 r1 ⟨by decide, by decide⟩ (by decide) dX12_clause_148 (fun h2 => ?_) (fun h2 => ?_)
    · have h2 : ¬ (m1 65 4) = (-1) := by omega
      refine st_iconst dX12_clause_165 ?_
      refine st_istore_n (i := 2) rfl (by decide) (lc' := [(2, 65), (0, x1), (0, 0)]) rfl dX12_clause_166 ?_
      exact st_locals [(2, 65), (0, x1), (0, 0)] ⟨Or.inr rfl, Or.inr rfl, Or.inr rfl, trivial⟩ (k1 h1 m1 p1 h2)
    · have h2 : (m1 65 4) = (-1) := by omega
      refine st_aload_n (i := 0) rfl (t := 0) rfl (by decide) dX12_clause_151 ?_
      refine st_callV (kc2 := 0) (ks2 := 0) (av := []) 65 11 mr_X12_143 ok_X12_look (c_X12_look m1 ((s2 h1 m1 p1 h2)) ((s3 h1 m1 p1 h2))) rfl sh_65 ⟨_, rfl, rfl, by decide⟩ rfl rfl hd2 (Nat.le_refl 0) (Nat.le_refl 0) (Nat.le_of_ble_eq_true rfl) dX12_clause_152 (mQ.elim fun v1 m2 hp => ?_)
      obtain ⟨hpv, hpm⟩ := hp
      subst hpv
      have hpm := hpm.symm
      subst hpm
      refine st_callS (kc2 := 0) (ks2 := 0) (av := [(0, (hereM (lookM m1)))]) mr_X12_177 ok_X12_isSign (c_X12_isSign (lookM m1) (hereM (lookM m1)) ((lookM_rng m1 ((s2 h1 m1 p1 h2)) ((s3 h1 m1 p1 h2))))) rfl rfl hd2 (Nat.le_refl 0) (Nat.le_refl 0) (Nat.le_of_ble_eq_true rfl) dX12_clause_155 (mQ.elim fun v2 m3 hp => ?_)
      obtain ⟨hpv, hpm⟩ := hp
      subst hpv
      have hpm := hpm.symm
      subst hpm
      refine so_ifeqB 165 (by decide) dX12_clause_158 (fun h3 => ?_) (fun h3 => ?_)
      · have h3 : ¬ ((hereM (lookM m1)) = 61 ∨ (hereM (lookM m1)) = 60 ∨ (hereM (lookM m1)) = 62) := h3
        refine st_iconst dX12_clause_165 ?_
        refine st_istore_n (i := 2) rfl (by decide) (lc' := [(2, 65), (0, x1), (0, 0)]) rfl dX12_clause_166 ?_
        exact st_locals [(2, 65), (0, x1), (0, 0)] ⟨Or.inr rfl, Or.inr rfl, Or.inr rfl, trivial⟩ (k2 h1 m1 p1 h2 h3)
      · have h3 : ((hereM (lookM m1)) = 61 ∨ (hereM (lookM m1)) = 60 ∨ (hereM (lookM m1)) = 62) := h3
        refine st_iconst dX12_clause_161 ?_
        refine st_goto 166 (by decide) dX12_clause_162 ?_
        refine st_istore_n (i := 2) rfl (by decide) (lc' := [(2, 65), (0, x1), (0, 1)]) rfl dX12_clause_166 ?_
        exact st_locals [(2, 65), (0, x1), (0, 1)] ⟨Or.inr rfl, Or.inr rfl, Or.inr rfl, trivial⟩ (k3 h1 m1 p1 h2 h3)
  · have h1 : ¬ x2 = 0 := by omega
    refine st_aload_n (i := 0) rfl (t := 0) rfl (by decide) dX12_clause_132 ?_
    refine st_callV (kc2 := 0) (ks2 := 0) (av := []) 65 11 mr_X12_183 ok_X12_condition (c2 h1) rfl sh_65 ⟨_, rfl, rfl, by decide⟩ rfl rfl hd_d2 (Nat.le_refl 0) (Nat.le_refl 0) (Nat.le_of_ble_eq_true rfl) dX12_clause_133 (mQv.elim fun m4 p2 => ?_)
    refine st_goto 183 (by decide) dX12_clause_136 ?_
    exact st_locals [(2, 65), (0, x1), (0, x2)] ⟨Or.inr rfl, Or.inr rfl, Or.inr rfl, trivial⟩ (k4 h1 m4 p2)
theorem bk_X12_clause_167 {d : Nat} {d1 : Nat} {P1 : mmM → Prop} {d2 : Nat} {P2 : mmM → Prop} {d3 : Nat} {P3 : mmM → Prop} {P : mmM → Prop} {mem : mmM} {x1 x2 : Int}
  (c1 : ¬ x2 = 0 → conv bX12_compare d1 [(2, 65)] mem P1)
  (c2 : ¬ x2 = 0 → ∀ (m1 : mmM), P1 m1 → conv bX12_goOnAnd d2 [(2, 65)] m1 P2)
  (c3 : ¬ x2 = 0 → ∀ (m1 : mmM), P1 m1 → ∀ (m2 : mmM), P2 m2 → conv bX12_goOnOr d3 [(2, 65)] m2 P3)
  (k1 : x2 = 0 → mmT bX12_clause d 0 0 (mQv P) 183 [(2, 65), (0, x1), (0, x2)] [] mS mem)
  (k2 : ¬ x2 = 0 → ∀ (m1 : mmM), P1 m1 → ∀ (m2 : mmM), P2 m2 → ∀ (m3 : mmM), P3 m3 → mmT bX12_clause d 0 0 (mQv P) 183 [(2, 65), (0, x1), (0, x2)] [] mS m3)
  (hd_d1 : d1 + 1 ≤ d := by omega)
  (hd_d2 : d2 + 1 ≤ d := by omega)
  (hd_d3 : d3 + 1 ≤ d := by omega)
  (s1 : R32 x2 := by intros; first | omega | assumption | solve_by_elim)
  : mmT bX12_clause d 0 0 (mQv P) 167 [(2, 65), (0, x1), (0, x2)] [] mS mem := by
  refine st_iload_n (i := 2) rfl rfl dX12_clause_167 ?_
  refine sr_if_eq 183 s1 (by decide) dX12_clause_168 (fun h1 => ?_) (fun h1 => ?_)
  · have h1 : x2 = 0 := by omega
    exact st_locals [(2, 65), (0, x1), (0, x2)] ⟨Or.inr rfl, Or.inr rfl, Or.inr rfl, trivial⟩ (k1 h1)
  · have h1 : ¬ x2 = 0 := by omega
    refine st_aload_n (i := 0) rfl (t := 0) rfl (by decide) dX12_clause_171 ?_
    refine st_callV (kc2 := 0) (ks2 := 0) (av := []) 65 11 mr_X12_186 ok_X12_compare (c1 h1) rfl sh_65 ⟨_, rfl, rfl, by decide⟩ rfl rfl hd_d1 (Nat.le_refl 0) (Nat.le_refl 0) (Nat.le_of_ble_eq_true rfl) dX12_clause_172 (mQv.elim fun m1 p1 => ?_)
    refine st_aload_n (i := 0) rfl (t := 0) rfl (by decide) dX12_clause_175 ?_
    refine st_callV (kc2 := 0) (ks2 := 0) (av := []) 65 11 mr_X12_189 ok_X12_goOnAnd (c2 h1 m1 p1) rfl sh_65 ⟨_, rfl, rfl, by decide⟩ rfl rfl hd_d2 (Nat.le_refl 0) (Nat.le_refl 0) (Nat.le_of_ble_eq_true rfl) dX12_clause_176 (mQv.elim fun m2 p2 => ?_)
    refine st_aload_n (i := 0) rfl (t := 0) rfl (by decide) dX12_clause_179 ?_
    refine st_callV (kc2 := 0) (ks2 := 0) (av := []) 65 11 mr_X12_192 ok_X12_goOnOr (c3 h1 m1 p1 m2 p2) rfl sh_65 ⟨_, rfl, rfl, by decide⟩ rfl rfl hd_d3 (Nat.le_refl 0) (Nat.le_refl 0) (Nat.le_of_ble_eq_true rfl) dX12_clause_180 (mQv.elim fun m3 p3 => ?_)
    exact st_locals [(2, 65), (0, x1), (0, x2)] ⟨Or.inr rfl, Or.inr rfl, Or.inr rfl, trivial⟩ (k2 h1 m1 p1 m2 p2 m3 p3)
theorem bk_X12_clause_183 {d : Nat} {d1 : Nat} {P1 : mmM → Prop} {P : mmM → Prop} {mem : mmM} {x1 x2 : Int}
  (c1 : ¬ x2 = 0 → (mem 65 4) = (-1) → (hereM (lookM (mset mem 72 x1 (mem 71 x1)))) = 63 → conv bX12_sum d1 [(2, 65)] (mset (mset (lookM (mset mem 72 x1 (mem 71 x1))) 65 3 (((lookM (mset mem 72 x1 (mem 71 x1))) 65 3) + 1)) 72 x1 ((lookM (mset mem 72 x1 (mem 71 x1))) 69 ((lookM (mset mem 72 x1 (mem 71 x1))) 65 14))) P1)
  (q1 : x2 = 0 → P (mset (mset (mset mem 72 x1 (mem 71 x1)) 73 x1 (mem 69 (mem 65 14))) 70 (mem 65 14) ((mem 70 (mem 65 14)) + 1)))
  (q2 : ¬ x2 = 0 → ¬ (mem 65 4) = (-1) → P (mset (mset (mset mem 72 x1 (mem 71 x1)) 73 x1 (mem 69 (mem 65 14))) 70 (mem 65 14) ((mem 70 (mem 65 14)) + 1)))
  (q3 : ¬ x2 = 0 → (mem 65 4) = (-1) → (hereM (lookM (mset mem 72 x1 (mem 71 x1)))) = 63 → ∀ (m2 : mmM), P1 m2 → P (mset (mset m2 73 x1 (m2 69 (m2 65 14))) 70 (m2 65 14) ((m2 70 (m2 65 14)) + 1)))
  (q4 : ¬ x2 = 0 → (mem 65 4) = (-1) → ¬ (hereM (lookM (mset mem 72 x1 (mem 71 x1)))) = 63 → P (badM (lookM (mset mem 72 x1 (mem 71 x1)))))
  (hd_d1 : d1 + 1 ≤ d := by omega)
  (hd1 : 1 ≤ d := by omega)
  (hd2 : 2 ≤ d := by omega)
  (s1 : 0 ≤ x1 ∧ x1 < 450 := by intros; first | omega | assumption | solve_by_elim)
  (s2 : R32 x2 := by intros; first | omega | assumption | solve_by_elim)
  (s3 : x2 = 0 → 0 ≤ (mem 65 14) ∧ (mem 65 14) < 5 := by intros; first | omega | assumption | solve_by_elim)
  (s4 : x2 = 0 → R32 ((mem 70 (mem 65 14)) + 1) := by intros; first | omega | assumption | solve_by_elim)
  (s5 : ¬ x2 = 0 → ¬ (mem 65 4) = (-1) → 0 ≤ (mem 65 14) ∧ (mem 65 14) < 5 := by intros; first | omega | assumption | solve_by_elim)
  (s6 : ¬ x2 = 0 → ¬ (mem 65 4) = (-1) → R32 ((mem 70 (mem 65 14)) + 1) := by intros; first | omega | assumption | solve_by_elim)
  (s7 : ¬ x2 = 0 → (mem 65 4) = (-1) → bytM (mset mem 72 x1 (mem 71 x1)) := by intros; first | omega | assumption | solve_by_elim)
  (s8 : ¬ x2 = 0 → (mem 65 4) = (-1) → 0 ≤ ((mset mem 72 x1 (mem 71 x1)) 65 3) := by intros; first | omega | assumption | solve_by_elim)
  (s9 : ¬ x2 = 0 → (mem 65 4) = (-1) → (hereM (lookM (mset mem 72 x1 (mem 71 x1)))) = 63 → R32 (((lookM (mset mem 72 x1 (mem 71 x1))) 65 3) + 1) := by intros; first | omega | assumption | solve_by_elim)
  (s10 : ¬ x2 = 0 → (mem 65 4) = (-1) → (hereM (lookM (mset mem 72 x1 (mem 71 x1)))) = 63 → 0 ≤ ((lookM (mset mem 72 x1 (mem 71 x1))) 65 14) ∧ ((lookM (mset mem 72 x1 (mem 71 x1))) 65 14) < 5 := by intros; first | omega | assumption | solve_by_elim)
  (s11 : ¬ x2 = 0 → (mem 65 4) = (-1) → (hereM (lookM (mset mem 72 x1 (mem 71 x1)))) = 63 → ∀ (m2 : mmM), P1 m2 → 0 ≤ (m2 65 14) ∧ (m2 65 14) < 5 := by intros; first | omega | assumption | solve_by_elim)
  (s12 : ¬ x2 = 0 → (mem 65 4) = (-1) → (hereM (lookM (mset mem 72 x1 (mem 71 x1)))) = 63 → ∀ (m2 : mmM), P1 m2 → R32 ((m2 70 (m2 65 14)) + 1) := by intros; first | omega | assumption | solve_by_elim)
  : mmT bX12_clause d 0 0 (mQv P) 183 [(2, 65), (0, x1), (0, x2)] [] mS mem := by
  refine st_aload_n (i := 0) rfl (t := 0) rfl (by decide) dX12_clause_183 ?_
  refine so_getA 65 11 fr_X12_28_11 rfl sh_65 fx_65_11 dX12_clause_184 ?_
  refine st_iload_n (i := 1) rfl rfl dX12_clause_187 ?_
  refine st_aload_n (i := 0) rfl (t := 0) rfl (by decide) dX12_clause_188 ?_
  refine so_getA 65 10 fr_X12_25_11 rfl sh_65 fx_65_10 dX12_clause_189 ?_
  refine st_iload_n (i := 1) rfl rfl dX12_clause_192 ?_
  refine so_iald (v := (mem 71 x1)) 71 rfl sh_71 (by decide) s1 rfl dX12_clause_193 (fun r1 => ?_)
  refine so_iast 72 fr_72 rfl sh_72 (by decide) s1 r1 dX12_clause_194 ?_
  refine st_iload_n (i := 2) rfl rfl dX12_clause_195 ?_
  refine sr_if_eq 250 s2 (by decide) dX12_clause_196 (fun h1 => ?_) (fun h1 => ?_)
  · have h1 : x2 = 0 := by omega
    refine st_aload_n (i := 0) rfl (t := 0) rfl (by decide) dX12_clause_250 ?_
    refine so_getA 65 12 fr_X12_31_11 rfl sh_65 fx_65_12 dX12_clause_251 ?_
    refine st_iload_n (i := 1) rfl rfl dX12_clause_254 ?_
    refine st_aload_n (i := 0) rfl (t := 0) rfl (by decide) dX12_clause_255 ?_
    refine so_getA 65 8 fr_X12_19_11 rfl sh_65 fx_65_8 dX12_clause_256 ?_
    refine st_aload_n (i := 0) rfl (t := 0) rfl (by decide) dX12_clause_259 ?_
    refine so_getI (v := (mem 65 14)) 65 14 fr_X12_134_11 rfl sh_65 rfl dX12_clause_260 (fun r2 => ?_)
    refine so_iald (v := (mem 69 (mem 65 14))) 69 rfl sh_69 (by decide) (s3 h1) rfl dX12_clause_263 (fun r3 => ?_)
    refine so_iast 73 fr_73 rfl sh_73 (by decide) s1 r3 dX12_clause_264 ?_
    refine st_aload_n (i := 0) rfl (t := 0) rfl (by decide) dX12_clause_265 ?_
    refine so_getA 65 9 fr_X12_22_11 rfl sh_65 fx_65_9 dX12_clause_266 ?_
    refine st_aload_n (i := 0) rfl (t := 0) rfl (by decide) dX12_clause_269 ?_
    refine so_getI (v := (mem 65 14)) 65 14 fr_X12_134_11 rfl sh_65 rfl dX12_clause_270 (fun r4 => ?_)
    refine st_dup2 (Nat.ne_of_beq_eq_false rfl) (Nat.ne_of_beq_eq_false rfl) dX12_clause_273 ?_
    refine so_iald (v := (mem 70 (mem 65 14))) 70 rfl sh_70 (by decide) (s3 h1) rfl dX12_clause_274 (fun r5 => ?_)
    refine st_iconst dX12_clause_275 ?_
    refine st_iadd dX12_clause_276 ?_
    refine so_iast 70 fr_70 rfl sh_70 (by decide) (s3 h1) (s4 h1) dX12_clause_277 ?_
    exact st_return rfl dX12_clause_278 (mQv.ret (q1 h1))
  · have h1 : ¬ x2 = 0 := by omega
    refine st_aload_n (i := 0) rfl (t := 0) rfl (by decide) dX12_clause_199 ?_
    refine so_getI (v := (mem 65 4)) 65 4 fr_X12_131_11 rfl sh_65 rfl dX12_clause_200 (fun r6 => ?_)
    refine st_iconst dX12_clause_203 ?_
    refine sr_icmp_ne 250 r6 ⟨by decide, by decide⟩ (by decide) dX12_clause_204 (fun h2 => ?_) (fun h2 => ?_)
    · have h2 : ¬ (mem 65 4) = (-1) := by omega
      refine st_aload_n (i := 0) rfl (t := 0) rfl (by decide) dX12_clause_250 ?_
      refine so_getA 65 12 fr_X12_31_11 rfl sh_65 fx_65_12 dX12_clause_251 ?_
      refine st_iload_n (i := 1) rfl rfl dX12_clause_254 ?_
      refine st_aload_n (i := 0) rfl (t := 0) rfl (by decide) dX12_clause_255 ?_
      refine so_getA 65 8 fr_X12_19_11 rfl sh_65 fx_65_8 dX12_clause_256 ?_
      refine st_aload_n (i := 0) rfl (t := 0) rfl (by decide) dX12_clause_259 ?_
      refine so_getI (v := (mem 65 14)) 65 14 fr_X12_134_11 rfl sh_65 rfl dX12_clause_260 (fun r7 => ?_)
      refine so_iald (v := (mem 69 (mem 65 14))) 69 rfl sh_69 (by decide) (s5 h1 h2) rfl dX12_clause_263 (fun r8 => ?_)
      refine so_iast 73 fr_73 rfl sh_73 (by decide) s1 r8 dX12_clause_264 ?_
      refine st_aload_n (i := 0) rfl (t := 0) rfl (by decide) dX12_clause_265 ?_
      refine so_getA 65 9 fr_X12_22_11 rfl sh_65 fx_65_9 dX12_clause_266 ?_
      refine st_aload_n (i := 0) rfl (t := 0) rfl (by decide) dX12_clause_269 ?_
      refine so_getI (v := (mem 65 14)) 65 14 fr_X12_134_11 rfl sh_65 rfl dX12_clause_270 (fun r9 => ?_)
      refine st_dup2 (Nat.ne_of_beq_eq_false rfl) (Nat.ne_of_beq_eq_false rfl) dX12_clause_273 ?_
      refine so_iald (v := (mem 70 (mem 65 14))) 70 rfl sh_70 (by decide) (s5 h1 h2) rfl dX12_clause_274 (fun r10 => ?_)
      refine st_iconst dX12_clause_275 ?_
      refine st_iadd dX12_clause_276 ?_
      refine so_iast 70 fr_70 rfl sh_70 (by decide) (s5 h1 h2) (s6 h1 h2) dX12_clause_277 ?_
      exact st_return rfl dX12_clause_278 (mQv.ret (q2 h1 h2))
    · have h2 : (mem 65 4) = (-1) := by omega
      refine st_aload_n (i := 0) rfl (t := 0) rfl (by decide) dX12_clause_207 ?_
      refine st_callV (kc2 := 0) (ks2 := 0) (av := []) 65 11 mr_X12_143 ok_X12_look (c_X12_look (mset mem 72 x1 (mem 71 x1)) ((s7 h1 h2)) ((s8 h1 h2))) rfl sh_65 ⟨_, rfl, rfl, by decide⟩ rfl rfl hd2 (Nat.le_refl 0) (Nat.le_refl 0) (Nat.le_of_ble_eq_true rfl) dX12_clause_208 (mQ.elim fun v1 m1 hp => ?_)
      obtain ⟨hpv, hpm⟩ := hp
      subst hpv
      have hpm := hpm.symm
      subst hpm
      refine st_bipush rfl dX12_clause_211 ?_
      refine sr_icmp_eq 221 (lookM_rng (mset mem 72 x1 (mem 71 x1)) ((s7 h1 h2)) ((s8 h1 h2))) ⟨by decide, by decide⟩ (by decide) dX12_clause_213 (fun h3 => ?_) (fun h3 => ?_)
      · have h3 : (hereM (lookM (mset mem 72 x1 (mem 71 x1)))) = 63 := by omega
        refine st_aload_n (i := 0) rfl (t := 0) rfl (by decide) dX12_clause_221 ?_
        refine st_dup (Nat.ne_of_beq_eq_false rfl) dX12_clause_222 ?_
        refine so_getI (v := ((lookM (mset mem 72 x1 (mem 71 x1))) 65 3)) 65 3 fr_X12_124_11 rfl sh_65 rfl dX12_clause_223 (fun r11 => ?_)
        refine st_iconst dX12_clause_226 ?_
        refine st_iadd dX12_clause_227 ?_
        refine so_putI 65 3 fr_X12_124_11 pf_11_3 fo_65_3 rfl sh_65 (s9 h1 h2 h3) dX12_clause_228 ?_
        refine st_aload_n (i := 0) rfl (t := 0) rfl (by decide) dX12_clause_231 ?_
        refine so_getA 65 11 fr_X12_28_11 rfl sh_65 fx_65_11 dX12_clause_232 ?_
        refine st_iload_n (i := 1) rfl rfl dX12_clause_235 ?_
        refine st_aload_n (i := 0) rfl (t := 0) rfl (by decide) dX12_clause_236 ?_
        refine so_getA 65 8 fr_X12_19_11 rfl sh_65 fx_65_8 dX12_clause_237 ?_
        refine st_aload_n (i := 0) rfl (t := 0) rfl (by decide) dX12_clause_240 ?_
        refine so_getI (v := ((lookM (mset mem 72 x1 (mem 71 x1))) 65 14)) 65 14 fr_X12_134_11 rfl sh_65 rfl dX12_clause_241 (fun r12 => ?_)
        refine so_iald (v := ((lookM (mset mem 72 x1 (mem 71 x1))) 69 ((lookM (mset mem 72 x1 (mem 71 x1))) 65 14))) 69 rfl sh_69 (by decide) (s10 h1 h2 h3) rfl dX12_clause_244 (fun r13 => ?_)
        refine so_iast 72 fr_72 rfl sh_72 (by decide) s1 r13 dX12_clause_245 ?_
        refine st_aload_n (i := 0) rfl (t := 0) rfl (by decide) dX12_clause_246 ?_
        refine st_callV (kc2 := 0) (ks2 := 0) (av := []) 65 11 mr_X12_164 ok_X12_sum (c1 h1 h2 h3) rfl sh_65 ⟨_, rfl, rfl, by decide⟩ rfl rfl hd_d1 (Nat.le_refl 0) (Nat.le_refl 0) (Nat.le_of_ble_eq_true rfl) dX12_clause_247 (mQv.elim fun m2 p1 => ?_)
        refine st_aload_n (i := 0) rfl (t := 0) rfl (by decide) dX12_clause_250 ?_
        refine so_getA 65 12 fr_X12_31_11 rfl sh_65 fx_65_12 dX12_clause_251 ?_
        refine st_iload_n (i := 1) rfl rfl dX12_clause_254 ?_
        refine st_aload_n (i := 0) rfl (t := 0) rfl (by decide) dX12_clause_255 ?_
        refine so_getA 65 8 fr_X12_19_11 rfl sh_65 fx_65_8 dX12_clause_256 ?_
        refine st_aload_n (i := 0) rfl (t := 0) rfl (by decide) dX12_clause_259 ?_
        refine so_getI (v := (m2 65 14)) 65 14 fr_X12_134_11 rfl sh_65 rfl dX12_clause_260 (fun r14 => ?_)
        refine so_iald (v := (m2 69 (m2 65 14))) 69 rfl sh_69 (by decide) (s11 h1 h2 h3 m2 p1) rfl dX12_clause_263 (fun r15 => ?_)
        refine so_iast 73 fr_73 rfl sh_73 (by decide) s1 r15 dX12_clause_264 ?_
        refine st_aload_n (i := 0) rfl (t := 0) rfl (by decide) dX12_clause_265 ?_
        refine so_getA 65 9 fr_X12_22_11 rfl sh_65 fx_65_9 dX12_clause_266 ?_
        refine st_aload_n (i := 0) rfl (t := 0) rfl (by decide) dX12_clause_269 ?_
        refine so_getI (v := (m2 65 14)) 65 14 fr_X12_134_11 rfl sh_65 rfl dX12_clause_270 (fun r16 => ?_)
        refine st_dup2 (Nat.ne_of_beq_eq_false rfl) (Nat.ne_of_beq_eq_false rfl) dX12_clause_273 ?_
        refine so_iald (v := (m2 70 (m2 65 14))) 70 rfl sh_70 (by decide) (s11 h1 h2 h3 m2 p1) rfl dX12_clause_274 (fun r17 => ?_)
        refine st_iconst dX12_clause_275 ?_
        refine st_iadd dX12_clause_276 ?_
        refine so_iast 70 fr_70 rfl sh_70 (by decide) (s11 h1 h2 h3 m2 p1) (s12 h1 h2 h3 m2 p1) dX12_clause_277 ?_
        exact st_return rfl dX12_clause_278 (mQv.ret (q3 h1 h2 h3 m2 p1))
      · have h3 : ¬ (hereM (lookM (mset mem 72 x1 (mem 71 x1)))) = 63 := by omega
        refine st_aload_n (i := 0) rfl (t := 0) rfl (by decide) dX12_clause_216 ?_
        refine st_callV (kc2 := 0) (ks2 := 0) (av := []) 65 11 mr_X12_140 ok_X12_bad (c_X12_bad (lookM (mset mem 72 x1 (mem 71 x1))) ) rfl sh_65 ⟨_, rfl, rfl, by decide⟩ rfl rfl hd1 (Nat.le_refl 0) (Nat.le_refl 0) (Nat.le_of_ble_eq_true rfl) dX12_clause_217 (mQv.elim fun m3 hp => ?_)
        have hp := hp.symm
        subst hp
        exact st_return rfl dX12_clause_220 (mQv.ret (q4 h1 h2 h3))
/-- behind a clause's test, or behind the sum of one without -/
def midL (mem : mmM) : PR → mmM → Prop
  | .inl f, m => m 65 4 = f ∧ 0 ≤ f ∧ lcFr mem (90 * mem 65 14 + mem 70 (mem 65 14)) m ∧ (0 ≤ m 65 3 ∧ m 65 3 ≤ 300) ∧ m 70 (mem 65 14) = mem 70 (mem 65 14)
  | .inr (q, ts), m => m 65 4 = -1 ∧ lcFr mem (90 * mem 65 14 + mem 70 (mem 65 14)) m ∧ m 65 3 = q ∧ m 65 5 = mem 65 5 ∧ codM m = codM mem + ts.length ∧ m 71 (90 * mem 65 14 + mem 70 (mem 65 14)) = codM mem ∧ m 70 (mem 65 14) = mem 70 (mem 65 14) ∧ tokR (m 67) (m 68) (340 * mem 65 14 + codM mem) ts ∧ ∀ i, i < 340 * mem 65 14 + codM mem → m 67 i = mem 67 i ∧ m 68 i = mem 68 i
def plainC : PR → Int ⊕ (Int × List tokT × List tokT)
  | .inl f => .inl f
  | .inr (q, ts) => .inr (q, [], ts)
theorem cl_plain {mem m : mmM} {R0 : PR} (h : midL mem R0 m) : resL mem (plainC R0) (mset (mset (mset m 72 (90 * mem 65 14 + mem 70 (mem 65 14)) (m 71 (90 * mem 65 14 + mem 70 (mem 65 14)))) 73 (90 * mem 65 14 + mem 70 (mem 65 14)) (m 69 (m 65 14))) 70 (m 65 14) (m 70 (m 65 14) + 1)) := by
  have f0 := lcFr_k m (a := 72) (90 * mem 65 14 + mem 70 (mem 65 14)) (m 71 (90 * mem 65 14 + mem 70 (mem 65 14))) (by omega)
  cases R0 with
  | inl f =>
    obtain ⟨a1, a2, a3, a4, a5⟩ := h
    have f1 := lcFr_k (mset m 72 (90 * mem 65 14 + mem 70 (mem 65 14)) (m 71 (90 * mem 65 14 + mem 70 (mem 65 14)))) (a := 73) (90 * mem 65 14 + mem 70 (mem 65 14)) (m 69 (m 65 14)) (by omega)
    have f2 := lcFr_70 (mset (mset m 72 (90 * mem 65 14 + mem 70 (mem 65 14)) (m 71 (90 * mem 65 14 + mem 70 (mem 65 14)))) 73 (90 * mem 65 14 + mem 70 (mem 65 14)) (m 69 (m 65 14))) (90 * mem 65 14 + mem 70 (mem 65 14)) (m 70 (m 65 14) + 1)
    rw [show mset (mset m 72 (90 * mem 65 14 + mem 70 (mem 65 14)) (m 71 (90 * mem 65 14 + mem 70 (mem 65 14)))) 73 (90 * mem 65 14 + mem 70 (mem 65 14)) (m 69 (m 65 14)) 65 14 = m 65 14 by rw [mset_ne (by decide), mset_ne (by decide)]] at f2
    refine ⟨?_, a2, lcFr_trans a3 (lcFr_trans f0 (lcFr_trans f1 f2)), ?_⟩
    · rw [mset_ne (by decide), mset_ne (by decide), mset_ne (by decide), a1]
    · rw [mset_ne (by decide), mset_ne (by decide), mset_ne (by decide)]
      exact a4
  | inr x =>
    obtain ⟨q, ts⟩ := x
    obtain ⟨a1, a2, a3, a4, a5, a6, a7, a8, a9⟩ := h
    have n : ∀ a, a ≠ 72 → mset m 72 (90 * mem 65 14 + mem 70 (mem 65 14)) (m 71 (90 * mem 65 14 + mem 70 (mem 65 14))) a = m a := fun a ha => mset_ne ha
    have := cl_fin (mem := mem) (m := mset m 72 (90 * mem 65 14 + mem 70 (mem 65 14)) (m 71 (90 * mem 65 14 + mem 70 (mem 65 14)))) (q := q) (ts := []) (us := ts) (by rw [n 65 (by decide)]; exact a1) (lcFr_trans a2 f0) (by rw [n 65 (by decide)]; exact a3) (by rw [n 65 (by decide)]; exact a4) (by unfold codM; rw [n 65 (by decide), n 69 (by decide)]; show codM m = codM mem + ((0 : Nat) : Int) + _; rw [a5]; omega) (by rw [n 71 (by decide)]; exact a6) (by rw [mset_same, a6]; show _ = _ + ((0 : Nat) : Int); omega) (by rw [n 70 (by decide)]; exact a7) trivial (by rw [n 67 (by decide), n 68 (by decide), show 340 * mem 65 14 + codM mem + (([] : List tokT).length : Int) = 340 * mem 65 14 + codM mem by show _ + ((0 : Nat) : Int) = _; omega]; exact a8) (by rw [n 67 (by decide), n 68 (by decide)]; exact a9)
    rw [n 65 (by decide), n 69 (by decide), n 70 (by decide)] at this
    exact this
theorem rl_plain (mem : mmM) (h14 : 0 ≤ mem 65 14 ∧ mem 65 14 < 5) (h70 : 0 ≤ mem 70 (mem 65 14) ∧ mem 70 (mem 65 14) < 90) (R0 : PR) (x2 : Int) (m : mmM) (h : midL mem R0 m) (hx : x2 = 0 ∨ ((¬ x2 = 0 ∧ R32 x2) ∧ ∃ f, R0 = .inl f)) : mmT bX12_clause 35 0 0 (mQv (resL mem (plainC R0))) 183 [(2, 65), (0, 90 * mem 65 14 + mem 70 (mem 65 14)), (0, x2)] [] mS m := by
  have p := cl_plain h
  have e14 : m 65 14 = mem 65 14 := by
    cases R0 with
    | inl f => exact lcFr_14 h.2.2.1
    | inr x => exact lcFr_14 h.2.1
  have e70 : m 70 (mem 65 14) = mem 70 (mem 65 14) := by
    cases R0 with
    | inl f => exact h.2.2.2.2
    | inr x => exact h.2.2.2.2.2.2.1
  have no : ¬ x2 = 0 → ¬ m 65 4 = -1 := by
    intro g
    rcases hx with z | ⟨-, f, e⟩
    · exact absurd z g
    · subst e
      have := h.1
      have := h.2.1
      omega
  have r2 : R32 x2 := by
    rcases hx with z | ⟨z, -⟩
    · rw [z]
      exact ⟨by decide, by decide⟩
    · exact z.2
  exact bk_X12_clause_183 (d1 := 0) (P1 := fun _ => True) (fun g g2 => absurd g2 (no g)) (fun _ => p) (fun _ _ => p) (fun g g2 => absurd g2 (no g)) (fun g g2 => absurd g2 (no g)) (s1 := by omega) (s2 := r2) (s3 := fun _ => by rw [e14]; exact h14) (s4 := fun _ => by rw [e14, e70]; exact ⟨by omega, by omega⟩) (s5 := fun _ _ => by rw [e14]; exact h14) (s6 := fun _ _ => by rw [e14, e70]; exact ⟨by omega, by omega⟩) (s7 := fun g g2 => absurd g2 (no g)) (s8 := fun g g2 => absurd g2 (no g)) (s9 := fun g g2 => absurd g2 (no g)) (s10 := fun g g2 => absurd g2 (no g)) (s11 := fun g g2 => absurd g2 (no g)) (s12 := fun g g2 => absurd g2 (no g))
