/-! the model reads a clause: its test and all of it -/
theorem lcFr_2 {mem m : mmM} {k : Int} (h : lcFr mem k m) : m 65 2 = mem 65 2 := h.2.1 2 (by decide) (by decide) (by decide)
theorem lcFr_66 {mem m : mmM} {k : Int} (h : lcFr mem k m) : m 66 = mem 66 := h.1 66 (by decide) (by decide) (by decide) (by decide) (by decide) (by decide) (by decide) (by decide)
theorem lcFr_C {mem m : mmM} {k : Int} (h : lcFr mem k m) : CM m = CM mem := by
  unfold CM
  rw [lcFr_2 h, lcFr_66 h]
theorem lcFr_S {mem m : mmM} {k : Int} (h : lcFr mem k m) : SM m = SM mem := by
  unfold SM
  rw [lcFr_2 h, lcFr_66 h]
theorem lcFr_B {mem m : mmM} {k : Int} (h : lcFr mem k m) (hb : bytM mem) : bytM m := by
  unfold bytM
  rw [lcFr_2 h, lcFr_66 h]
  exact hb
theorem lm_71 {mem m : mmM} (h : lmFr mem m) {a : Nat} (ha : a = 70 ∨ a = 71 ∨ a = 72 ∨ a = 73) : m a = mem a := h.1 a (by omega) (by omega) (by omega) (by omega)
theorem rl_test (mem : mmM) (hb : bytM mem) (p0 : 0 ≤ mem 65 3) (h14 : 0 ≤ mem 65 14 ∧ mem 65 14 < 5) (h70 : 0 ≤ mem 70 (mem 65 14) ∧ mem 70 (mem 65 14) < 90) (hc : 0 ≤ codM mem ∧ codM mem ≤ mem 65 3) (h5 : mem 65 5 = 0) (R0 : PR) (hG : ∀ q ts, R0 = .inr (q, ts) → mem 65 3 < q ∧ q ≤ mem 65 2 ∧ (ts.length : Int) ≤ q - mem 65 3) (m : mmM) (h : midL mem R0 m) : mmT bX12_clause 35 0 0 (mQv (resL mem (bindP R0 (behP (CM mem) (SM mem))))) 183 [(2, 65), (0, 90 * mem 65 14 + mem 70 (mem 65 14)), (0, 1)] [] mS m := by
  cases R0 with
  | inl f => exact rl_plain mem h14 h70 (.inl f) 1 m h (Or.inr ⟨⟨by decide, ⟨by decide, by decide⟩⟩, f, rfl⟩)
  | inr x =>
    obtain ⟨q, ts⟩ := x
    have gd := hG q ts rfl
    obtain ⟨a1, a2, a3, a4, a5, a6, a7, a8, a9⟩ := id h
    have hn := hb.1
    obtain ⟨k, hk⟩ : ∃ k, 90 * mem 65 14 + mem 70 (mem 65 14) = k := ⟨_, rfl⟩
    rw [hk] at a2 a6 ⊢
    obtain ⟨s, hs⟩ : ∃ s, SM mem q = s := ⟨_, rfl⟩
    have ge := SM_ge mem q
    have le := SM_le (m := mem) (i := q) gd.2.1
    rw [hs] at ge le
    obtain ⟨m', hm'⟩ : ∃ m', mset m 72 k (m 71 k) = m' := ⟨_, rfl⟩
    have n' : ∀ a, a ≠ 72 → m' a = m a := fun a ha => by
      rw [← hm']
      exact mset_ne ha
    have f1 : lcFr mem k m' := by
      rw [← hm']
      exact lcFr_trans a2 (lcFr_k m k _ (by omega))
    have lk : lookM m' = cuM m' s := by
      unfold lookM
      rw [lcFr_S f1, n' 65 (by decide), a3, hs]
    have i63 := hereM_is m' (j := s) (c := 63) (by omega) (by decide)
    rw [lcFr_C f1] at i63
    obtain ⟨B, hB⟩ : ∃ B, mset (cuM m' (s + 1)) 72 k (m' 69 (m' 65 14)) = B := ⟨_, rfl⟩
    have eB : mset (mset (lookM m') 65 3 (lookM m' 65 3 + 1)) 72 k (lookM m' 69 (lookM m' 65 14)) = B := by
      rw [lk, cuM_at, cuM_mset, cuM_65 _ _ (by decide), cuM_ne _ _ (by decide), hB]
    have B65 : B 65 = cuM m' (s + 1) 65 := by
      rw [← hB]
      exact mset_ne (by decide)
    have Bn : ∀ a, a ≠ 65 → a ≠ 72 → B a = m a := fun a h1 h2 => by rw [← hB, mset_ne h2, cuM_ne _ _ h1, n' a h2]
    have fB : lcFr mem k B := by
      rw [← hB]
      exact lcFr_trans f1 (lcFr_trans (lcFr_lm k (lmFr_cu m' (s + 1))) (lcFr_k _ k _ (by omega)))
    have B3 : B 65 3 = s + 1 := by
      rw [B65]
      exact cuM_at _ _
    have Bj : ∀ j, j ≠ 3 → B 65 j = m 65 j := fun j hj => by rw [B65, cuM_65 _ _ hj, n' 65 (by decide)]
    have Bc : codM B = codM mem + ts.length := by
      unfold codM
      rw [Bj 14 (by decide), Bn 69 (by decide) (by decide)]
      exact a5
    have B72 : B 72 k = codM mem + ts.length := by
      rw [← hB, mset_same, n' 69 (by decide), n' 65 (by decide)]
      exact a5
    have sub : CM mem s = 63 → conv bX12_sum 23 [(2, 65)] B (resM B (sumL (CM mem) (SM mem) 6 (s + 1))) := by
      intro z
      have l : s < mem 65 2 := chT_in (T := mem 66) (show 0 < CM mem s by omega)
      have := c_X12_sum 6 (by decide) B ⟨lcFr_B fB hb, by rw [Bj 4 (by decide)]; exact a1, by rw [B3, lcFr_2 fB]; omega, by rw [lcFr_14 fB]; exact h14, by rw [Bc, B3]; omega, by rw [Bj 5 (by decide), a4]; omega⟩ (by rw [Bj 5 (by decide), a4, h5]; rfl)
      rw [lcFr_C fB, lcFr_S fB, B3] at this
      exact this
    have fin : ∀ m2, CM mem s = 63 → resM B (sumL (CM mem) (SM mem) 6 (s + 1)) m2 → (m2 65 14 = mem 65 14 ∧ m2 70 (mem 65 14) = mem 70 (mem 65 14)) ∧ resL mem (behP (CM mem) (SM mem) q ts) (mset (mset m2 73 k (m2 69 (m2 65 14))) 70 (m2 65 14) (m2 70 (m2 65 14) + 1)) := by
      intro m2 z w
      cases hf : sumL (CM mem) (SM mem) 6 (s + 1) with
      | inl f =>
        rw [hf] at w
        have e : behP (CM mem) (SM mem) q ts = .inl f := by
          unfold behP
          rw [hs, if_neg (fun y => y z), hf]
        obtain ⟨b1, b2, b3, b4, b5, b6⟩ := w
        have f2 := lcFr_trans fB (lcFr_lm k b3)
        have e70 : m2 70 (mem 65 14) = mem 70 (mem 65 14) := by
          rw [lm_71 b3 (by omega), Bn 70 (by decide) (by decide)]
          exact a7
        have g1 := lcFr_k m2 (a := 73) k (m2 69 (m2 65 14)) (by omega)
        have g2 := lcFr_70 (mset m2 73 k (m2 69 (m2 65 14))) k (m2 70 (m2 65 14) + 1)
        rw [show mset m2 73 k (m2 69 (m2 65 14)) 65 14 = m2 65 14 by rw [mset_ne (by decide)]] at g2
        rw [B3, lcFr_2 fB, Bj 5 (by decide), a4, h5] at b4
        rw [e]
        refine ⟨⟨lcFr_14 f2, e70⟩, ?_, b2, ?_, ?_⟩
        · rw [mset_ne (by decide), mset_ne (by decide)]
          exact b1
        · rw [hk]
          exact lcFr_trans f2 (lcFr_trans g1 g2)
        · rw [mset_ne (by decide), mset_ne (by decide)]
          exact ⟨by omega, by omega⟩
      | inr x =>
        obtain ⟨t, us⟩ := x
        rw [hf] at w
        have e : behP (CM mem) (SM mem) q ts = .inr (t, ts, us) := by
          unfold behP
          rw [hs, if_neg (fun y => y z), hf]
        obtain ⟨b1, b2, b3, b4, b5, b6, b7⟩ := w
        have f2 := lcFr_trans fB (lcFr_lm k b2)
        have e70 : m2 70 (mem 65 14) = mem 70 (mem 65 14) := by
          rw [lm_71 b2 (by omega), Bn 70 (by decide) (by decide)]
          exact a7
        rw [lcFr_14 fB, Bc] at b6 b7
        rw [Bn 67 (by decide) (by decide), Bn 68 (by decide) (by decide)] at b7
        have cf := cl_fin (mem := mem) (m := m2) (q := t) (ts := ts) (us := us) b1 (by rw [hk]; exact f2) b3 (by rw [b4, Bj 5 (by decide)]; exact a4) (by rw [b5, Bc]) (by rw [hk, lm_71 b2 (by omega), Bn 71 (by decide) (by decide)]; exact a6) (by rw [hk, lm_71 b2 (by omega)]; exact B72) e70 (tokR_congr ts _ (fun i i0 i1 => ⟨(b7 i (by omega)).1.symm, (b7 i (by omega)).2.symm⟩) a8) (by rw [show 340 * mem 65 14 + codM mem + (ts.length : Int) = 340 * mem 65 14 + (codM mem + (ts.length : Int)) by omega]; exact b6) (fun i hi => ⟨(b7 i (by omega)).1.trans (a9 i hi).1, (b7 i (by omega)).2.trans (a9 i hi).2⟩)
        rw [hk] at cf
        rw [e]
        exact ⟨⟨lcFr_14 f2, e70⟩, cf⟩
    refine bk_X12_clause_183 (d1 := 23) (P1 := fun m2 => CM mem s = 63 ∧ resM B (sumL (CM mem) (SM mem) 6 (s + 1)) m2) (fun _ _ g => ?_) (fun z => absurd z (by decide)) (fun _ g => absurd a1 g) (fun _ _ g m2 w => (fin m2 w.1 w.2).2) (fun _ _ g => ?_) (s1 := by omega) (s2 := ⟨by decide, by decide⟩) (s3 := fun z => absurd z (by decide)) (s4 := fun z => absurd z (by decide)) (s5 := fun _ g => absurd a1 g) (s6 := fun _ g => absurd a1 g) (s7 := fun _ _ => by rw [hm']; exact lcFr_B f1 hb) (s8 := fun _ _ => by rw [hm', n' 65 (by decide), a3]; omega) (s9 := fun _ _ _ => by rw [hm', lk, cuM_at]; exact ⟨by omega, by omega⟩) (s10 := fun _ _ _ => by rw [hm', lk, cuM_65 _ _ (by decide), lcFr_14 f1]; exact h14) (s11 := fun _ _ _ m2 w => by rw [(fin m2 w.1 w.2).1.1]; exact h14) (s12 := fun _ _ _ m2 w => by rw [(fin m2 w.1 w.2).1.1, (fin m2 w.1 w.2).1.2]; exact ⟨by omega, by omega⟩)
    · rw [hm', lk] at g
      have z := i63.mp g
      rw [hm', eB]
      exact conv.mono (sub z) (fun m2 w => ⟨z, w⟩)
    · rw [hm', lk] at g ⊢
      rw [badM_cu m' _ (by rw [n' 65 (by decide)]; exact a1)]
      have e : behP (CM mem) (SM mem) q ts = .inl s := by
        unfold behP
        rw [hs]
        exact if_pos (fun z => g (i63.mpr z))
      show resL mem (behP (CM mem) (SM mem) q ts) _
      rw [e]
      refine ⟨wM_4 _ _ _, by omega, ?_, by rw [wM_3]; omega⟩
      rw [hk]
      exact lcFr_trans f1 (lcFr_lm k (lmFr_trans (lmFr_cu m' s) (lmFr_65 _ (by omega))))
/-- where a clause's first sum or test begins -/
def baseL (mem : mmM) (p : Int) (D : mmM) : Prop := lcFr mem (90 * mem 65 14 + mem 70 (mem 65 14)) D ∧ D 65 4 = -1 ∧ D 65 3 = p ∧ D 65 5 = mem 65 5 ∧ codM D = codM mem ∧ D 71 (90 * mem 65 14 + mem 70 (mem 65 14)) = codM mem ∧ D 70 (mem 65 14) = mem 70 (mem 65 14) ∧ D 67 = mem 67 ∧ D 68 = mem 68
theorem mid_res {mem D m : mmM} {p : Int} {R0 : PR} (hb : bytM mem) (hd : baseL mem p D) (hp : 0 ≤ p) (h5 : mem 65 5 = 0) (h : resM D R0 m) : midL mem R0 m := by
  obtain ⟨d1, d2, d3, d4, d5, d6, d7, d8, d9⟩ := hd
  have hn := hb.1
  cases R0 with
  | inl f =>
    obtain ⟨b1, b2, b3, b4, b5, b6⟩ := h
    refine ⟨b1, b2, lcFr_trans d1 (lcFr_lm _ b3), ?_, ?_⟩
    · rw [d3, d4, lcFr_2 d1, h5] at b4
      exact ⟨by omega, by omega⟩
    · rw [lm_71 b3 (by omega)]
      exact d7
  | inr x =>
    obtain ⟨q, ts⟩ := x
    obtain ⟨b1, b2, b3, b4, b5, b6, b7⟩ := h
    rw [lcFr_14 d1, d5] at b6 b7
    rw [d8, d9] at b7
    refine ⟨b1, lcFr_trans d1 (lcFr_lm _ b2), b3, b4.trans d4, by rw [b5, d5], ?_, ?_, b6, b7⟩
    · rw [lm_71 b2 (by omega)]
      exact d6
    · rw [lm_71 b2 (by omega)]
      exact d7
theorem rl_128 (mem : mmM) (hp : preM mem) (h5 : mem 65 5 = 0) (h70 : 0 ≤ mem 70 (mem 65 14) ∧ mem 70 (mem 65 14) < 90) (p : Int) (p0 : mem 65 3 ≤ p ∧ p ≤ mem 65 2) (hS : SM mem p = p) (D : mmM) (hd : baseL mem p D) (x2 : Int) (hx : (x2 = 1 ∧ (CM mem p = 33 ∨ CM mem p = 40)) ∨ (x2 = 0 ∧ ¬ (CM mem p = 33 ∨ CM mem p = 40))) : mmT bX12_clause 35 0 0 (mQv (resL mem (if CM mem p = 33 ∨ CM mem p = 40 then bindP (condO (CM mem) (SM mem) (unitL (CM mem) (SM mem) 6) p) (behP (CM mem) (SM mem)) else bindP (sumL (CM mem) (SM mem) 6 p) (fun q ts => if opC (CM mem (SM mem q)) = none then .inr (SM mem q, [], ts) else bindP (preT ts (cond1 (CM mem) (SM mem) 6 1 q)) (behP (CM mem) (SM mem)))))) 128 [(2, 65), (0, 90 * mem 65 14 + mem 70 (mem 65 14)), (0, x2)] [] mS D := by
  obtain ⟨hb, hw, p3, p14, pc, pd⟩ := id hp
  have hn := hb.1
  obtain ⟨d1, d2, d3, d4, d5, d6, d7, d8, d9⟩ := id hd
  have pD : preM D := ⟨lcFr_B d1 hb, d2, by rw [d3, lcFr_2 d1]; omega, by rw [lcFr_14 d1]; exact p14, by rw [d5, d3]; omega, by rw [d4]; omega⟩
  have D5 : D 65 5 = 0 := by rw [d4, h5]
  have eC := lcFr_C d1
  have eS := lcFr_S d1
  have tM := tapM_P mem
  have gU6 := good_unitL tM 6
  have hU6 : ∀ m, preM m → m 65 5 = 0 → conv bX12_unit 31 [(2, 65)] m (resM m (unitL (CM m) (SM m) 6 (m 65 3))) := fun m hm h0 => c_X12_unit 6 (by decide) m hm (by rw [h0]; rfl)
  have hF6 : ∀ mem m, lmFr mem m → unitL (CM m) (SM m) 6 = unitL (CM mem) (SM mem) 6 := fun mem m h => by rw [lmFr_C h, lmFr_S h]
  have hg6 : ∀ m, bytM m → goodP (m 65 2) (unitL (CM m) (SM m) 6) := fun m _ => good_unitL (tapM_P m) 6
  rcases hx with ⟨rfl, z⟩ | ⟨rfl, z⟩
  · rw [if_pos z]
    have co := am_Cond (fun m => unitL (CM m) (SM m) 6) 0 31 (by decide) hU6 hF6 hg6 D pD D5
    have co' : conv bX12_condition 34 [(2, 65)] D (resM D (condO (CM mem) (SM mem) (unitL (CM mem) (SM mem) 6) p)) := by
      rw [eC, eS, d3] at co
      exact co
    have gc := good_cond tM gU6 p (by omega) p0.2
    refine bk_X12_clause_128 (d1 := 0) (d2 := 34) (P1 := fun _ => True) (P2 := resM D (condO (CM mem) (SM mem) (unitL (CM mem) (SM mem) 6) p)) (fun z => absurd z (by decide)) (fun _ => co') (fun z => absurd z (by decide)) (fun z => absurd z (by decide)) (fun z => absurd z (by decide)) (fun _ m4 w => ?_) (s1 := ⟨by decide, by decide⟩) (s2 := fun z => absurd z (by decide)) (s3 := fun z => absurd z (by decide))
    exact rl_test mem hb p3.1 p14 h70 pc h5 _ (fun q ts e => by have := gc.2 q ts e; omega) m4 (mid_res hb hd (by omega) h5 w)
  · rw [if_neg z]
    have su := c_X12_sum 6 (by decide) D pD (by rw [D5]; rfl)
    rw [eC, eS, d3] at su
    have gs := good_sum tM 6 p (by omega) p0.2
    obtain ⟨R0, hR0⟩ : ∃ R0, sumL (CM mem) (SM mem) 6 p = R0 := ⟨_, rfl⟩
    rw [hR0] at su gs ⊢
    have yes : ∀ m1, resM D R0 m1 → m1 65 4 = -1 → ∃ q ts, R0 = .inr (q, ts) ∧ doneM D q ts m1 ∧ (p < q ∧ q ≤ mem 65 2 ∧ (ts.length : Int) ≤ q - p ∧ 1 ≤ ts.length) := by
      intro m1 w g
      cases R0 with
      | inl f =>
        have := w.1
        have := w.2.1
        omega
      | inr x =>
        obtain ⟨q, ts⟩ := x
        exact ⟨q, ts, rfl, w, gs.2 q ts rfl⟩
    have one : ∀ {q ts m1}, doneM D q ts m1 → (p < q ∧ q ≤ mem 65 2) → lookM m1 = cuM m1 (SM mem q) ∧ (hereM (lookM m1) = 61 ↔ CM mem (SM mem q) = 61) ∧ (hereM (lookM m1) = 60 ↔ CM mem (SM mem q) = 60) ∧ (hereM (lookM m1) = 62 ↔ CM mem (SM mem q) = 62) := by
      intro q ts m1 hm hq
      have a2 := hm.2.1
      have a3 := hm.2.2.1
      have ge := SM_ge mem q
      have lk : lookM m1 = cuM m1 (SM mem q) := by
        unfold lookM
        rw [lmFr_S a2, a3, eS]
      have i61 := hereM_is m1 (j := SM mem q) (c := 61) (by omega) (by decide)
      have i60 := hereM_is m1 (j := SM mem q) (c := 60) (by omega) (by decide)
      have i62 := hereM_is m1 (j := SM mem q) (c := 62) (by omega) (by decide)
      rw [lmFr_C a2, eC] at i61 i60 i62
      rw [lk]
      exact ⟨rfl, i61, i60, i62⟩
    refine bk_X12_clause_128 (d1 := 23) (d2 := 0) (P1 := resM D R0) (P2 := fun _ => True) (fun _ => su) (fun z => absurd rfl z) (fun _ m1 w g => ?_) (fun _ m1 w g g2 => ?_) (fun _ m1 w g g2 => ?_) (fun z => absurd rfl z) (s1 := ⟨by decide, by decide⟩) (s2 := fun _ m1 w g => ?_) (s3 := fun _ m1 w g => ?_)
    · refine bk_X12_clause_167 (d1 := 0) (d2 := 0) (d3 := 0) (P1 := fun _ => True) (P2 := fun _ => True) (P3 := fun _ => True) (fun z => absurd rfl z) (fun z => absurd rfl z) (fun z => absurd rfl z) (fun _ => ?_) (fun z => absurd rfl z) (s1 := ⟨by decide, by decide⟩)
      cases R0 with
      | inl f => exact rl_plain mem p14 h70 (.inl f) 0 m1 (mid_res hb hd (by omega) h5 w) (Or.inl rfl)
      | inr x =>
        obtain ⟨q, ts⟩ := x
        exact absurd w.1 g
    · obtain ⟨q, ts, e, hm, hq⟩ := yes m1 w g
      obtain ⟨lk, i61, i60, i62⟩ := one hm ⟨hq.1, hq.2.1⟩
      have no : opC (CM mem (SM mem q)) = none := by
        unfold opC
        rw [if_neg (fun y => g2 (Or.inl (i61.mpr y))), if_neg (fun y => g2 (Or.inr (Or.inl (i60.mpr y)))), if_neg (fun y => g2 (Or.inr (Or.inr (i62.mpr y))))]
      refine bk_X12_clause_167 (d1 := 0) (d2 := 0) (d3 := 0) (P1 := fun _ => True) (P2 := fun _ => True) (P3 := fun _ => True) (fun z => absurd rfl z) (fun z => absurd rfl z) (fun z => absurd rfl z) (fun _ => ?_) (fun z => absurd rfl z) (s1 := ⟨by decide, by decide⟩)
      have eR : bindP R0 (fun q ts => if opC (CM mem (SM mem q)) = none then .inr (SM mem q, [], ts) else bindP (preT ts (cond1 (CM mem) (SM mem) 6 1 q)) (behP (CM mem) (SM mem))) = plainC (.inr (SM mem q, ts)) := by
        rw [e]
        exact if_pos no
      rw [eR, lk]
      exact rl_plain mem p14 h70 (.inr (SM mem q, ts)) 0 _ (mid_res hb hd (by omega) h5 (doneM_cu hm (SM mem q))) (Or.inl rfl)
    · obtain ⟨q, ts, e, hm, hq⟩ := yes m1 w g
      obtain ⟨lk, i61, i60, i62⟩ := one hm ⟨hq.1, hq.2.1⟩
      have so : ¬ opC (CM mem (SM mem q)) = none := by
        intro y
        unfold opC at y
        rcases g2 with g2 | g2 | g2
        · rw [if_pos (i61.mp g2)] at y
          cases y
        · have := i60.mp g2
          rw [if_neg (by omega), if_pos this] at y
          cases y
        · have := i62.mp g2
          rw [if_neg (by omega), if_neg (by omega), if_pos this] at y
          cases y
      have eR : bindP R0 (fun q ts => if opC (CM mem (SM mem q)) = none then .inr (SM mem q, [], ts) else bindP (preT ts (cond1 (CM mem) (SM mem) 6 1 q)) (behP (CM mem) (SM mem))) = bindP (goP (CM mem) (SM mem) opO (truthO (CM mem) (SM mem) (unitL (CM mem) (SM mem) 6)) (goP (CM mem) (SM mem) opA (unitL (CM mem) (SM mem) 6) (cmpP (CM mem) (SM mem) (sumL (CM mem) (SM mem) 6) q ts))) (behP (CM mem) (SM mem)) := by
        rw [e]
        have ec : cond1 (CM mem) (SM mem) 6 1 q = goP (CM mem) (SM mem) opO (truthO (CM mem) (SM mem) (unitL (CM mem) (SM mem) 6)) (goP (CM mem) (SM mem) opA (unitL (CM mem) (SM mem) 6) (cmpP (CM mem) (SM mem) (sumL (CM mem) (SM mem) 6) q [])) := rfl
        refine (if_neg so).trans ?_
        rw [ec, ← goP_pre, ← goP_pre, ← cmpP_pre]
      rw [eR, lk]
      have ge := SM_ge mem q
      have le := SM_le (m := mem) (i := q) hq.2.1
      have cm := am_Cmp 6 (by decide) D pD (by rw [D5]; rfl) _ (SM mem q) ts (doneM_cu hm (SM mem q)) (by rw [d3, lcFr_2 d1]; omega)
      rw [eC, eS, cmpP_S (SM_sm mem)] at cm
      have gc := gd_cmp tM (good_sum tM 6) (ts := ts) (i := p) (q := q) (by omega) hq
      have gA := good_go tM (fun _ _ h => (opA_pos h).1) gU6 (j := p) (by omega) gc
      have gT : goodP (mem 65 2) (truthO (CM mem) (SM mem) (unitL (CM mem) (SM mem) 6)) := good_chain tM (fun _ _ h => (opA_pos h).1) gU6
      have gO := good_go tM (fun _ _ h => (opO_pos h).1) gT (j := p) (by omega) gA
      have an : ∀ m, resM D (cmpP (CM mem) (SM mem) (sumL (CM mem) (SM mem) 6) q ts) m → conv bX12_goOnAnd 32 [(2, 65)] m (resM D (goP (CM mem) (SM mem) opA (unitL (CM mem) (SM mem) 6) (cmpP (CM mem) (SM mem) (sumL (CM mem) (SM mem) 6) q ts))) := by
        intro m y
        have := am_And (fun m => unitL (CM m) (SM m) 6) 0 31 (by decide) hU6 hF6 hg6 D pD D5 _ (by rw [d3, lcFr_2 d1]; exact gc) m y
        rw [eC, eS] at this
        exact this
      have orr : ∀ m, resM D (goP (CM mem) (SM mem) opA (unitL (CM mem) (SM mem) 6) (cmpP (CM mem) (SM mem) (sumL (CM mem) (SM mem) 6) q ts)) m → conv bX12_goOnOr 33 [(2, 65)] m (resM D (goP (CM mem) (SM mem) opO (truthO (CM mem) (SM mem) (unitL (CM mem) (SM mem) 6)) (goP (CM mem) (SM mem) opA (unitL (CM mem) (SM mem) 6) (cmpP (CM mem) (SM mem) (sumL (CM mem) (SM mem) 6) q ts)))) := by
        intro m y
        have := am_Or (fun m => unitL (CM m) (SM m) 6) 0 31 (by decide) hU6 hF6 hg6 D pD D5 _ (by rw [d3, lcFr_2 d1]; exact gA) m y
        rw [eC, eS] at this
        exact this
      refine bk_X12_clause_167 (d1 := 24) (d2 := 32) (d3 := 33) (P1 := resM D (cmpP (CM mem) (SM mem) (sumL (CM mem) (SM mem) 6) q ts)) (P2 := resM D (goP (CM mem) (SM mem) opA (unitL (CM mem) (SM mem) 6) (cmpP (CM mem) (SM mem) (sumL (CM mem) (SM mem) 6) q ts))) (P3 := resM D (goP (CM mem) (SM mem) opO (truthO (CM mem) (SM mem) (unitL (CM mem) (SM mem) 6)) (goP (CM mem) (SM mem) opA (unitL (CM mem) (SM mem) 6) (cmpP (CM mem) (SM mem) (sumL (CM mem) (SM mem) 6) q ts)))) (fun _ => cm) (fun _ m y => an m y) (fun _ _ _ m y => orr m y) (fun z => absurd z (by decide)) (fun _ _ _ _ _ m3 y => ?_) (s1 := ⟨by decide, by decide⟩)
      exact rl_test mem hb p3.1 p14 h70 pc h5 _ (fun q ts e => by have := gO.2 q ts e; omega) m3 (mid_res hb hd (by omega) h5 y)
    · obtain ⟨q, ts, e, hm, hq⟩ := yes m1 w g
      exact lmFr_B hm.2.1 (lcFr_B d1 hb)
    · obtain ⟨q, ts, e, hm, hq⟩ := yes m1 w g
      rw [hm.2.2.1]
      omega
theorem rl_70b (mem m : mmM) (f : Int) (h : m 65 4 = f) (h0 : 0 ≤ f) (fr : lcFr mem (90 * mem 65 14 + mem 70 (mem 65 14)) m) (h3 : 0 ≤ m 65 3 ∧ m 65 3 ≤ 299) : mmT bX12_clause 35 0 0 (mQv (resL mem (.inl f))) 70 [(2, 65), (0, 90 * mem 65 14 + mem 70 (mem 65 14)), (9, 0)] [] mS m := by
  have ne : ¬ m 65 4 = -1 := by omega
  refine bk_X12_clause_70 (fun g => absurd g ne) (fun g => absurd g ne) (fun g => absurd g ne) (fun _ => ?_) (s1 := ⟨by omega, by omega⟩) (s2 := fun g => absurd g ne) (s3 := fun g => absurd g ne) (s4 := fun g => absurd g ne) (s5 := fun g => absurd g ne) (s6 := fun g => absurd g ne) (s7 := fun g => absurd g ne)
  exact ⟨by rw [mset_at, if_neg (by decide)]; exact h, h0, lcFr_trans fr (lcFr_lm _ (lmFr_65 m (by omega))), by rw [mset_same]; omega⟩
theorem c_X12_clause (mem : mmM) (hp : preM mem) (h5 : mem 65 5 = 0) (h70 : 0 ≤ mem 70 (mem 65 14) ∧ mem 70 (mem 65 14) < 90) : conv bX12_clause 35 [(2, 65)] mem (resL mem (clauseP (CM mem) (SM mem) (mem 65 3))) := by
  obtain ⟨hb, hw, p3, p14, pc, pd⟩ := id hp
  have hn := hb.1
  obtain ⟨s, hs⟩ : ∃ s, SM mem (mem 65 3) = s := ⟨_, rfl⟩
  have ge := SM_ge mem (mem 65 3)
  have le := SM_le (m := mem) (i := mem 65 3) p3.2
  rw [hs] at ge le
  have lk : lookM mem = cuM mem s := by
    unfold lookM
    rw [hs]
  have i121 := hereM_is mem (j := s) (c := 121) (by omega) (by decide)
  refine cn_X12_clause (bk_X12_clause_0 (fun g => absurd hw g) (fun _ g => ?_) (fun _ g => ?_) (s1 := p14) (s2 := fun _ => hb) (s3 := fun _ => p3.1))
  · rw [lk] at g ⊢
    have z := i121.mp g
    have l : s < mem 65 2 := chT_in (T := mem 66) (show 0 < CM mem s by omega)
    obtain ⟨t, ht⟩ : ∃ t, SM mem (s + 1) = t := ⟨_, rfl⟩
    have ge2 := SM_ge mem (s + 1)
    have le2 := SM_le (m := mem) (i := s + 1) (by omega)
    rw [ht] at ge2 le2
    have i58 := hereM_is mem (j := t) (c := 58) (by omega) (by decide)
    have w4 : cuM mem s 65 4 = -1 := by
      rw [cuM_65 _ _ (by decide)]
      exact hw
    refine bk_X12_clause_39 (fun g => absurd w4 g) (fun _ g => ?_) (fun _ g => ?_) (s1 := ?_) (s2 := fun _ => ?_) (s3 := fun _ => ?_)
    · rw [cuM_at, cuM_mset, lookM_cu, ht] at g ⊢
      have z2 := i58.mp g
      have l2 : t < mem 65 2 := chT_in (T := mem 66) (show 0 < CM mem t by omega)
      obtain ⟨p, hpp⟩ : ∃ p, SM mem (t + 1) = p := ⟨_, rfl⟩
      have ge3 := SM_ge mem (t + 1)
      have le3 := SM_le (m := mem) (i := t + 1) (by omega)
      rw [hpp] at ge3 le3
      have hSp : SM mem p = p := by
        rw [← hpp]
        exact SM_sm _ _
      have w5 : cuM mem t 65 4 = -1 := by
        rw [cuM_65 _ _ (by decide)]
        exact hw
      obtain ⟨k, hk⟩ : ∃ k, 90 * mem 65 14 + mem 70 (mem 65 14) = k := ⟨_, rfl⟩
      obtain ⟨Z, hZ⟩ : ∃ Z, mset (cuM mem (t + 1)) 71 k (mem 69 (mem 65 14)) = Z := ⟨_, rfl⟩
      have eZ : mset (mset (cuM mem t) 65 3 (cuM mem t 65 3 + 1)) 71 k (cuM mem t 69 (cuM mem t 65 14)) = Z := by
        rw [cuM_at, cuM_mset, cuM_65 _ _ (by decide), cuM_ne _ _ (by decide), hZ]
      have fZ : lcFr mem k Z := by
        rw [← hZ]
        exact lcFr_trans (lcFr_lm k (lmFr_cu mem (t + 1))) (lcFr_k _ k _ (by omega))
      have Z65 : Z 65 = cuM mem (t + 1) 65 := by
        rw [← hZ]
        exact mset_ne (by decide)
      have Zn : ∀ a, a ≠ 65 → a ≠ 71 → Z a = mem a := fun a h1 h2 => by rw [← hZ, mset_ne h2, cuM_ne _ _ h1]
      have Z3 : Z 65 3 = t + 1 := by
        rw [Z65]
        exact cuM_at _ _
      have lz : lookM Z = cuM Z p := by
        unfold lookM
        rw [lcFr_S fZ, Z3, hpp]
      have lzz : lookM (lookM Z) = cuM Z p := by
        rw [lz, lookM_cu, lcFr_S fZ, hSp]
      have i33 := hereM_is Z (j := p) (c := 33) (by omega) (by decide)
      have i40 := hereM_is Z (j := p) (c := 40) (by omega) (by decide)
      rw [lcFr_C fZ] at i33 i40
      have bs : baseL mem p (cuM Z p) := by
        have j : ∀ i, i ≠ 3 → cuM Z p 65 i = mem 65 i := fun i hi => by rw [cuM_65 _ _ hi, Z65, cuM_65 _ _ hi]
        have u : ∀ a, a ≠ 65 → a ≠ 71 → cuM Z p a = mem a := fun a h1 h2 => by rw [cuM_ne _ _ h1, Zn a h1 h2]
        refine ⟨by rw [hk]; exact lcFr_trans fZ (lcFr_lm k (lmFr_cu Z p)), (j 4 (by decide)).trans hw, cuM_at _ _, j 5 (by decide), ?_, ?_, by rw [u 70 (by decide) (by decide)], u 67 (by decide) (by decide), u 68 (by decide) (by decide)⟩
        · unfold codM
          rw [j 14 (by decide), u 69 (by decide) (by decide)]
        · rw [hk, cuM_ne _ _ (by decide), ← hZ, mset_same]
          rfl
      have main := rl_128 mem hp h5 h70 p ⟨by omega, le3⟩ hSp (cuM Z p) bs
      have eR : clauseP (CM mem) (SM mem) (mem 65 3) = (if CM mem p = 33 ∨ CM mem p = 40 then bindP (condO (CM mem) (SM mem) (unitL (CM mem) (SM mem) 6) p) (behP (CM mem) (SM mem)) else bindP (sumL (CM mem) (SM mem) 6 p) (fun q ts => if opC (CM mem (SM mem q)) = none then .inr (SM mem q, [], ts) else bindP (preT ts (cond1 (CM mem) (SM mem) 6 1 q)) (behP (CM mem) (SM mem)))) := by
        by_cases y : CM mem p = 33 ∨ CM mem p = 40
        · rw [if_pos y, clauseP_c (by rw [hs]; exact z) (by rw [hs, ht]; exact z2) (by rw [hs, ht, hpp]; exact y), hs, ht, hpp]
        · rw [if_neg y, clauseP_s (by rw [hs]; exact z) (by rw [hs, ht]; exact z2) (by rw [hs, ht, hpp]; exact y), hs, ht, hpp]
      rw [eR]
      rw [hk] at main ⊢
      refine bk_X12_clause_70 (fun _ g => ?_) (fun _ g g2 => ?_) (fun _ g g2 => ?_) (fun g => absurd w5 g) (s1 := ?_) (s2 := fun _ => ?_) (s3 := fun _ => by omega) (s4 := fun _ => ?_) (s5 := fun _ => ?_) (s6 := fun _ _ => ?_) (s7 := fun _ _ => ?_)
      · rw [eZ, lz] at g ⊢
        exact main 1 (Or.inl ⟨rfl, Or.inl (i33.mp g)⟩)
      · rw [eZ, lz] at g
        rw [eZ, lzz] at g2 ⊢
        exact main 0 (Or.inr ⟨rfl, fun y => y.elim (fun y => g (i33.mpr y)) (fun y => g2 (i40.mpr y))⟩)
      · rw [eZ, lzz] at g2 ⊢
        exact main 1 (Or.inl ⟨rfl, Or.inr (i40.mp g2)⟩)
      · rw [cuM_at]
        exact ⟨by omega, by omega⟩
      · rw [cuM_65 _ _ (by decide)]
        exact p14
      · rw [eZ]
        exact lcFr_B fZ hb
      · rw [eZ, Z3]
        omega
      · rw [eZ, lz]
        exact bytM_cu (lcFr_B fZ hb) p
      · rw [eZ, lz, cuM_at]
        omega
    · rw [cuM_at, cuM_mset, lookM_cu, ht] at g ⊢
      rw [badM_cu mem _ hw, clauseP_2 (by rw [hs]; exact z) (by rw [hs, ht]; exact fun y => g (i58.mpr y)), hs, ht]
      exact rl_70b mem _ t (wM_4 _ _ _) (by omega) (lcFr_lm _ (lmFr_trans (lmFr_cu mem t) (lmFr_65 _ (by omega)))) (by rw [wM_3]; omega)
    · rw [cuM_at]
      exact ⟨by omega, by omega⟩
    · rw [cuM_mset]
      exact bytM_cu hb _
    · rw [cuM_at, cuM_mset, cuM_at]
      omega
  · rw [lk] at g ⊢
    rw [badM_cu mem _ hw, clauseP_1 (by rw [hs]; exact fun y => g (i121.mpr y)), hs]
    have w4 : wM mem s s 65 4 = s := wM_4 _ _ _
    have ne : ¬ wM mem s s 65 4 = -1 := by omega
    have fw : lmFr mem (wM mem s s) := lmFr_trans (lmFr_cu mem s) (lmFr_65 _ (by omega))
    refine bk_X12_clause_39 (fun _ => ?_) (fun g => absurd g ne) (fun g => absurd g ne) (s1 := ?_) (s2 := fun g => absurd g ne) (s3 := fun g => absurd g ne)
    · exact rl_70b mem _ s (by rw [mset_at, if_neg (by decide)]; exact w4) (by omega) (lcFr_lm _ (lmFr_trans fw (lmFr_65 _ (by omega)))) (by rw [mset_same, wM_3]; omega)
    · rw [wM_3]
      exact ⟨by omega, by omega⟩
