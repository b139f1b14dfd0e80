/-! the model reads a law -/
theorem good_beh {C S : Int → Int} {n q : Int} (ht : tapP C S n) (q0 : 0 ≤ q) (q1 : q ≤ n) (ts : List tokT) : (∀ e, behP C S q ts = .inl e → 0 ≤ e ∧ e ≤ n) ∧ ∀ t us vs, behP C S q ts = .inr (t, us, vs) → us = ts ∧ q < t ∧ t ≤ n ∧ (vs.length : Int) ≤ t - q := by
  have ge := ht.2.1 q
  have le := ht.2.2.1 q q1
  unfold behP
  by_cases z : C (S q) = 63
  · rw [if_neg (fun y => y z)]
    have l := ht.1 (S q) (by omega)
    have g := good_sum ht 6 (S q + 1) (by omega) (by omega)
    cases hf : sumL C S 6 (S q + 1) with
    | inl f =>
      refine ⟨fun e h => ?_, fun t us vs h => (by cases h)⟩
      cases h
      exact g.1 _ hf
    | inr x =>
      obtain ⟨t, xs⟩ := x
      have g2 := g.2 t xs hf
      refine ⟨fun e h => (by cases h), fun t' us vs h => ?_⟩
      cases h
      exact ⟨rfl, by omega, by omega, by omega⟩
  · rw [if_pos z]
    refine ⟨fun e h => ?_, fun t us vs h => (by cases h)⟩
    cases h
    omega
theorem good_clause {C S : Int → Int} {n j : Int} (ht : tapP C S n) (j0 : 0 ≤ j) (j1 : j ≤ n) : (∀ e, clauseP C S j = .inl e → 0 ≤ e ∧ e ≤ n) ∧ ∀ q ts us, clauseP C S j = .inr (q, ts, us) → j < q ∧ q ≤ n ∧ (ts.length : Int) + us.length + 2 ≤ q - j := by
  have ge := ht.2.1 j
  have le := ht.2.2.1 j j1
  have bnd : ∀ (p : Int) (R : PR), 0 ≤ p → j + 2 ≤ p → gdR n p R → (∀ e, bindP R (behP C S) = .inl e → 0 ≤ e ∧ e ≤ n) ∧ ∀ q ts us, bindP R (behP C S) = .inr (q, ts, us) → j < q ∧ q ≤ n ∧ (ts.length : Int) + us.length + 2 ≤ q - j := by
    intro p R p0 p1 g
    cases R with
    | inl f =>
      refine ⟨fun e h => ?_, fun t us vs h => (by cases h)⟩
      cases h
      exact g.1 _ rfl
    | inr x =>
      obtain ⟨q, ts⟩ := x
      have g2 := g.2 q ts rfl
      have b := good_beh ht (q := q) (by omega) (by omega) ts
      refine ⟨fun e h => b.1 e h, fun t us vs h => ?_⟩
      obtain ⟨b1, b2, b3, b4⟩ := b.2 t us vs h
      subst b1
      exact ⟨by omega, by omega, by omega⟩
  by_cases z : C (S j) = 121
  · have l := ht.1 (S j) (by omega)
    have ge2 := ht.2.1 (S j + 1)
    have le2 := ht.2.2.1 (S j + 1) (by omega)
    by_cases z2 : C (S (S j + 1)) = 58
    · have l2 := ht.1 (S (S j + 1)) (by omega)
      have ge3 := ht.2.1 (S (S j + 1) + 1)
      have le3 := ht.2.2.1 (S (S j + 1) + 1) (by omega)
      by_cases z3 : C (S (S (S j + 1) + 1)) = 33 ∨ C (S (S (S j + 1) + 1)) = 40
      · rw [clauseP_c z z2 z3]
        exact bnd _ _ (by omega) (by omega) (good_cond ht (good_unitL ht 6) _ (by omega) le3)
      · rw [clauseP_s z z2 z3]
        have gs := good_sum ht 6 (S (S (S j + 1) + 1)) (by omega) le3
        obtain ⟨p, hp⟩ : ∃ p, S (S (S j + 1) + 1) = p := ⟨_, rfl⟩
        rw [hp] at gs ge3 le3 ⊢
        cases hf : sumL C S 6 p with
        | inl f =>
          refine ⟨fun e h => ?_, fun t us vs h => (by cases h)⟩
          cases h
          exact gs.1 _ hf
        | inr x =>
          obtain ⟨q, ts⟩ := x
          have g2 := gs.2 q ts hf
          have gq := ht.2.1 q
          have lq := ht.2.2.1 q g2.2.1
          show (∀ e, (if opC (C (S q)) = none then (.inr (S q, [], ts) : Int ⊕ (Int × List tokT × List tokT)) else bindP (preT ts (cond1 C S 6 1 q)) (behP C S)) = .inl e → _) ∧ ∀ t us vs, (if opC (C (S q)) = none then (.inr (S q, [], ts) : Int ⊕ (Int × List tokT × List tokT)) else bindP (preT ts (cond1 C S 6 1 q)) (behP C S)) = .inr (t, us, vs) → _
          by_cases ho : opC (C (S q)) = none
          · rw [if_pos ho]
            refine ⟨fun e h => (by cases h), fun t us vs h => ?_⟩
            cases h
            exact ⟨by omega, by omega, by show ((0 : Nat) : Int) + _ + 2 ≤ _; omega⟩
          · rw [if_neg ho]
            have ec : cond1 C S 6 1 q = goP C S opO (truthO C S (unitL C S 6)) (goP C S opA (unitL C S 6) (cmpP C S (sumL C S 6) q [])) := rfl
            rw [ec, ← goP_pre, ← goP_pre, ← cmpP_pre]
            have gU6 := good_unitL ht 6
            have gc := gd_cmp ht (good_sum ht 6) (ts := ts) (i := p) (q := q) (by omega) g2
            have gA := good_go ht (fun _ _ h => (opA_pos h).1) gU6 (j := p) (by omega) gc
            have gT : goodP n (truthO C S (unitL C S 6)) := good_chain ht (fun _ _ h => (opA_pos h).1) gU6
            have gO := good_go ht (fun _ _ h => (opO_pos h).1) gT (j := p) (by omega) gA
            exact bnd _ _ (by omega) (by omega) gO
    · rw [clauseP_2 z z2]
      refine ⟨fun e h => ?_, fun t us vs h => (by cases h)⟩
      cases h
      omega
  · rw [clauseP_1 z]
    refine ⟨fun e h => ?_, fun t us vs h => (by cases h)⟩
    cases h
    omega
theorem good_law {C S : Int → Int} {n : Int} (ht : tapP C S n) : ∀ (k : Nat) (j : Int), 0 ≤ j → j ≤ n → ∀ e, lawP C S k j = .inl e → 0 ≤ e ∧ e ≤ n := by
  intro k
  induction k with
  | zero =>
    intro j _ _ e h
    cases h
  | succ k ih =>
    intro j j0 j1 e h
    have g := good_clause ht j0 j1
    cases hc : clauseP C S j with
    | inl f =>
      rw [lawP_bad hc] at h
      cases h
      exact g.1 _ hc
    | inr x =>
      obtain ⟨q, ts, us⟩ := x
      have g2 := g.2 q ts us hc
      have gq := ht.2.1 q
      have lq := ht.2.2.1 q g2.2.1
      by_cases z : C (S q) = 59
      · have l := ht.1 (S q) (by omega)
        rw [lawP_go hc z] at h
        cases hl : lawP C S k (S q + 1) with
        | inl f =>
          rw [hl] at h
          cases h
          exact ih (S q + 1) (by omega) (by omega) _ hl
        | inr cl =>
          rw [hl] at h
          cases h
      · rw [lawP_end hc z] at h
        by_cases z0 : C (S q) = 0
        · rw [if_pos z0] at h
          cases h
        · rw [if_neg z0] at h
          cases h
          omega
/-- what reading law n leaves alone -/
def rlFr (mem : mmM) (n : Int) (m : mmM) : Prop := (∀ a, a ≠ 65 → (a < 67 ∨ 73 < a) → m a = mem a) ∧ (∀ j, j ≠ 3 → j ≠ 4 → j ≠ 5 → j ≠ 14 → m 65 j = mem 65 j) ∧ (∀ j, j ≠ n → m 69 j = mem 69 j ∧ m 70 j = mem 70 j) ∧ (∀ i, (i < 340 * n ∨ 340 * n + 340 ≤ i) → m 67 i = mem 67 i ∧ m 68 i = mem 68 i) ∧ ∀ i, (i < 90 * n ∨ 90 * n + 90 ≤ i) → m 71 i = mem 71 i ∧ m 72 i = mem 72 i ∧ m 73 i = mem 73 i
theorem rlFr_trans {a b c : mmM} {n : Int} (h : rlFr a n b) (h' : rlFr b n c) : rlFr a n c := by
  obtain ⟨h1, h2, h3, h4, h5⟩ := h'
  exact ⟨fun x x1 x2 => (h1 x x1 x2).trans (h.1 x x1 x2), fun j j1 j2 j3 j4 => (h2 j j1 j2 j3 j4).trans (h.2.1 j j1 j2 j3 j4), fun j hj => ⟨(h3 j hj).1.trans (h.2.2.1 j hj).1, (h3 j hj).2.trans (h.2.2.1 j hj).2⟩, fun i hi => ⟨(h4 i hi).1.trans (h.2.2.2.1 i hi).1, (h4 i hi).2.trans (h.2.2.2.1 i hi).2⟩, fun i hi => ⟨(h5 i hi).1.trans (h.2.2.2.2 i hi).1, (h5 i hi).2.1.trans (h.2.2.2.2 i hi).2.1, (h5 i hi).2.2.trans (h.2.2.2.2 i hi).2.2⟩⟩
theorem rlFr_lc {mem m : mmM} {n k : Int} (h : lcFr mem k m) (hn : mem 65 14 = n) (hk : 90 * n ≤ k ∧ k < 90 * n + 90) : rlFr mem n m := by
  obtain ⟨h1, h2, h3, h4, h5⟩ := h
  rw [hn] at h3 h4
  exact ⟨fun a a1 a2 => h1 a a1 (by omega) (by omega) (by omega) (by omega) (by omega) (by omega) (by omega), fun j j1 j2 j3 _ => h2 j j1 j2 j3, h3, h4, fun i hi => h5 i (by omega)⟩
theorem rlFr_cu (mem : mmM) (n j : Int) : rlFr mem n (cuM mem j) := ⟨fun a a1 _ => cuM_ne _ _ a1, fun k k1 _ _ _ => cuM_65 _ _ k1, fun _ _ => ⟨by rw [cuM_ne _ _ (by decide)], by rw [cuM_ne _ _ (by decide)]⟩, fun _ _ => ⟨by rw [cuM_ne _ _ (by decide)], by rw [cuM_ne _ _ (by decide)]⟩, fun _ _ => ⟨by rw [cuM_ne _ _ (by decide)], by rw [cuM_ne _ _ (by decide)], by rw [cuM_ne _ _ (by decide)]⟩⟩
theorem rlFr_2 {mem m : mmM} {n : Int} (h : rlFr mem n m) : m 65 2 = mem 65 2 := h.2.1 2 (by decide) (by decide) (by decide) (by decide)
theorem rlFr_66 {mem m : mmM} {n : Int} (h : rlFr mem n m) : m 66 = mem 66 := h.1 66 (by decide) (by omega)
theorem rlFr_C {mem m : mmM} {n : Int} (h : rlFr mem n m) : CM m = CM mem := by
  unfold CM
  rw [rlFr_2 h, rlFr_66 h]
theorem rlFr_S {mem m : mmM} {n : Int} (h : rlFr mem n m) : SM m = SM mem := by
  unfold SM
  rw [rlFr_2 h, rlFr_66 h]
theorem rlFr_B {mem m : mmM} {n : Int} (h : rlFr mem n m) (hb : bytM mem) : bytM m := by
  unfold bytM
  rw [rlFr_2 h, rlFr_66 h]
  exact hb
theorem rlFr_P {mem m : mmM} {n : Int} (h : rlFr mem n m) (hb : posM mem) : posM m := by
  unfold posM
  rw [rlFr_2 h, rlFr_66 h]
  exact hb
/-- one clause more -/
theorem lawR_snoc {m m2 : mmM} {n : Int} {ts us : List tokT} (h70 : m2 70 n = m 70 n + 1) (h7 : ∀ i, i ≠ 90 * n + m 70 n → m2 71 i = m 71 i ∧ m2 72 i = m 72 i ∧ m2 73 i = m 73 i) (hp : ∀ i, i < 340 * n + m 69 n → m2 67 i = m 67 i ∧ m2 68 i = m 68 i) (h73 : ∀ c, 90 * n ≤ c → c < 90 * n + m 70 n → m 73 c ≤ m 69 n) (hk : m2 71 (90 * n + m 70 n) = m 69 n ∧ m2 72 (90 * n + m 70 n) = m 69 n + ts.length ∧ m2 73 (90 * n + m 70 n) = m 69 n + ts.length + us.length) (h69 : 0 ≤ m 69 n ∧ m 69 n + ts.length + us.length ≤ 340) (t1 : tokR (m2 67) (m2 68) (340 * n + m 69 n) ts) (t2 : tokR (m2 67) (m2 68) (340 * n + m 69 n + ts.length) us) (w1 : ts.length = 0 ∨ wfToks 0 ts) (w2 : wfToks 0 us) : ∀ (cl : lawT) (c : Int), 90 * n ≤ c → lawR m n c cl → lawR m2 n c (cl ++ [(ts, us)]) := by
  intro cl
  induction cl with
  | nil =>
    intro c hc h
    have e : c = 90 * n + m 70 n := h
    rw [← e] at hk
    show c < 90 * n + m2 70 n ∧ (0 ≤ m2 71 c ∧ (ts.length : Int) = m2 72 c - m2 71 c ∧ (us.length : Int) = m2 73 c - m2 72 c ∧ m2 73 c ≤ 340) ∧ (tokR (m2 67) (m2 68) (340 * n + m2 71 c) ts ∧ tokR (m2 67) (m2 68) (340 * n + m2 72 c) us) ∧ (ts.length = 0 ∨ wfToks 0 ts) ∧ wfToks 0 us ∧ c + 1 = 90 * n + m2 70 n
    rw [hk.1, hk.2.1, hk.2.2, h70]
    refine ⟨by omega, ⟨by omega, by omega, by omega, by omega⟩, ⟨t1, ?_⟩, w1, w2, by omega⟩
    rw [show 340 * n + (m 69 n + (ts.length : Int)) = 340 * n + m 69 n + ts.length by omega]
    exact t2
  | cons q r ih =>
    intro c hc h
    obtain ⟨r0, ⟨r1, r2, r3, r4⟩, ⟨r5, r6⟩, r7, r8, r9⟩ := h
    have k := h7 c (by omega)
    have l := h73 c hc r0
    refine ⟨by omega, ?_, ?_, r7, r8, ih (c + 1) (by omega) r9⟩
    · rw [k.1, k.2.1, k.2.2]
      exact ⟨r1, r2, r3, r4⟩
    · rw [k.1, k.2.1]
      exact ⟨tokR_congr _ _ (fun i i0 i1 => ⟨(hp i (by omega)).1.symm, (hp i (by omega)).2.symm⟩) r5, tokR_congr _ _ (fun i i0 i1 => ⟨(hp i (by omega)).1.symm, (hp i (by omega)).2.symm⟩) r6⟩
/-- a law read so far -/
def goodL (mem : mmM) (n : Int) (m : mmM) (cl : lawT) : Prop := rlFr mem n m ∧ m 65 14 = n ∧ m 65 4 = -1 ∧ m 65 5 = 0 ∧ lawR m n (90 * n) cl ∧ (∀ c, 90 * n ≤ c → c < 90 * n + m 70 n → m 73 c ≤ m 69 n) ∧ (0 ≤ m 69 n ∧ m 69 n ≤ m 65 3) ∧ (0 ≤ m 65 3 ∧ m 65 3 ≤ mem 65 2) ∧ (0 ≤ m 70 n ∧ 2 * m 70 n ≤ m 65 3)
theorem lawR_cu {m : mmM} {n j : Int} : ∀ (cl : lawT) (c : Int), lawR m n c cl → lawR (cuM m j) n c cl := by
  intro cl
  induction cl with
  | nil =>
    intro c h
    unfold lawR at h ⊢
    rw [cuM_ne _ _ (by decide)]
    exact h
  | cons q r ih =>
    intro c h
    unfold lawR at h ⊢
    obtain ⟨r0, r1, r2, r3, r4, r5⟩ := h
    rw [cuM_ne m j (a := 67) (by decide), cuM_ne m j (a := 68) (by decide), cuM_ne m j (a := 70) (by decide), cuM_ne m j (a := 71) (by decide), cuM_ne m j (a := 72) (by decide), cuM_ne m j (a := 73) (by decide)]
    exact ⟨r0, r1, r2, r3, r4, ih _ r5⟩
theorem goodL_cu {mem m : mmM} {n j : Int} {cl : lawT} (h : goodL mem n m cl) (hj : m 65 3 ≤ j ∧ j ≤ mem 65 2) : goodL mem n (cuM m j) cl := by
  obtain ⟨g1, g2, g3, g4, g5, g6, g7, g8, g9⟩ := h
  refine ⟨rlFr_trans g1 (rlFr_cu m n j), by rw [cuM_65 _ _ (by decide)]; exact g2, by rw [cuM_65 _ _ (by decide)]; exact g3, by rw [cuM_65 _ _ (by decide)]; exact g4, lawR_cu cl _ g5, ?_, ?_, ?_, ?_⟩
  · rw [cuM_ne m j (a := 70) (by decide), cuM_ne m j (a := 73) (by decide), cuM_ne m j (a := 69) (by decide)]
    exact g6
  · rw [cuM_ne m j (a := 69) (by decide), cuM_at]
    omega
  · rw [cuM_at]
    omega
  · rw [cuM_ne m j (a := 70) (by decide), cuM_at]
    omega
theorem goodL_pre {mem m : mmM} {n : Int} {cl : lawT} (hb : bytM mem) (hn : 0 ≤ n ∧ n < 5) (h : goodL mem n m cl) : preM m := by
  obtain ⟨g1, g2, g3, g4, g5, g6, g7, g8, g9⟩ := h
  refine ⟨rlFr_B g1 hb, g3, by rw [rlFr_2 g1]; exact g8, by rw [g2]; exact hn, ?_, by omega⟩
  unfold codM
  rw [g2]
  exact g7
theorem goodL_clause {mem m m2 : mmM} {n q : Int} {cl : lawT} {ts us : List tokT} (hb : bytM mem) (h : goodL mem n m cl) (hc : clauseP (CM mem) (SM mem) (m 65 3) = .inr (q, ts, us)) (w : resL m (.inr (q, ts, us)) m2) : goodL mem n m2 (cl ++ [(ts, us)]) := by
  obtain ⟨g1, g2, g3, g4, g5, g6, g7, g8, g9⟩ := h
  have hn := hb.1
  have gd := (good_clause (tapM_P mem) g8.1 g8.2).2 q ts us hc
  have wf := clause_wf hc
  obtain ⟨b1, b2, b3, b4, b5, b6, b7, b8, b9, b10⟩ := w
  have ec : codM m = m 69 n := by
    unfold codM
    rw [g2]
  have e14 := lcFr_14 b2
  have ec2 : codM m2 = m2 69 n := by
    unfold codM
    rw [e14, g2]
  have fr := b2
  obtain ⟨f1, f2, f3, f4, f5⟩ := b2
  rw [g2] at f3 f4 f5 b6 b7 b8 b9 b10 e14
  rw [ec] at b6 b8 b9 b10
  rw [ec2, ec] at b5
  refine ⟨rlFr_trans g1 (rlFr_lc fr g2 ⟨by rw [g2]; omega, by rw [g2]; omega⟩), e14, b1, b4.trans g4, ?_, ?_, ?_, ?_, ?_⟩
  · refine lawR_snoc b7 f5 b10 g6 b6 ⟨by omega, by omega⟩ b8 b9 ?_ (wfX_wf _ _ _ wf.1) cl _ (Int.le_refl _) g5
    rcases wf.2 with y | y
    · exact Or.inl y
    · exact Or.inr (wfX_wf _ _ _ y)
  · intro c c0 c1
    rw [b7] at c1
    by_cases e : c = 90 * n + m 70 n
    · rw [e, b6.2.2, b5]
      omega
    · rw [(f5 c e).2.2]
      have := g6 c c0 (by omega)
      omega
  · rw [b5, b3]
    omega
  · rw [b3]
    omega
  · rw [b7, b3]
    omega
theorem cn_X12_readLaw {d : Nat} {P : Int → mmM → Prop} {mem : mmM} {x1 : Int} (h : mmT bX12_readLaw d 0 0 (mQ 0 P) 0 [(2, 65), (0, x1)] [] mS mem) : con 0 bX12_readLaw d [(2, 65), (0, x1)] mem P := mmC_of [(2, 65), (0, x1)] ok_X12_readLaw.2.2.2.2 rfl (Nat.le_of_ble_eq_true rfl) h
theorem bk_X12_readLaw_0 {d : Nat} {d1 : Nat} {P1 : mmM → Prop} {d2 : Nat} {P2 : mmM → Prop} {P : Int → mmM → Prop} {mem : mmM} {x1 : Int}
  (c1 : conv bX12_open d1 [(2, 65), (0, x1)] mem P1)
  (c2 : ∀ (m1 : mmM), P1 m1 → conv bX12_clause d2 [(2, 65)] m1 P2)
  (k1 : ∀ (m1 : mmM), P1 m1 → ∀ (m2 : mmM), P2 m2 → mmT bX12_readLaw d 0 0 (mQ 0 P) 9 [(2, 65), (9, 0)] [] mS m2)
  (hd_d1 : d1 + 1 ≤ d := by omega)
  (hd_d2 : d2 + 1 ≤ d := by omega)
  : mmT bX12_readLaw d 0 0 (mQ 0 P) 0 [(2, 65), (0, x1)] [] mS mem := by
  refine st_aload_n (i := 0) rfl (t := 0) rfl (by decide) dX12_readLaw_0 ?_
  refine st_iload_n (i := 1) rfl rfl dX12_readLaw_1 ?_
  refine st_callV (kc2 := 0) (ks2 := 0) (av := [(0, x1)]) 65 11 mr_X12_195 ok_X12_open c1 rfl sh_65 ⟨_, rfl, rfl, by decide⟩ rfl rfl hd_d1 (Nat.le_refl 0) (Nat.le_refl 0) (Nat.le_of_ble_eq_true rfl) dX12_readLaw_2 (mQv.elim fun m1 p1 => ?_)
  refine st_aload_n (i := 0) rfl (t := 0) rfl (by decide) dX12_readLaw_5 ?_
  refine st_callV (kc2 := 0) (ks2 := 0) (av := []) 65 11 mr_X12_198 ok_X12_clause (c2 m1 p1) rfl sh_65 ⟨_, rfl, rfl, by decide⟩ rfl rfl hd_d2 (Nat.le_refl 0) (Nat.le_refl 0) (Nat.le_of_ble_eq_true rfl) dX12_readLaw_6 (mQv.elim fun m2 p2 => ?_)
  exact st_locals [(2, 65), (9, 0)] ⟨Or.inr rfl, Or.inl rfl, trivial⟩ (k1 m1 p1 m2 p2)
theorem bk_X12_readLaw_9 {d : Nat} {d1 : Nat} {P1 : Int → mmM → Prop} {d2 : Nat} {P2 : Int → mmM → Prop} {d3 : Nat} {P3 : mmM → Prop} {P : Int → mmM → Prop} {mem : mmM}
  (c1 : ¬ (mem 65 4) = (-1) → con 0 bX12_atEnd d1 [(2, 65)] mem P1)
  (c2 : (mem 65 4) = (-1) → ¬ (hereM (lookM mem)) = 59 → con 0 bX12_atEnd d2 [(2, 65)] (lookM mem) P2)
  (c3 : (mem 65 4) = (-1) → (hereM (lookM mem)) = 59 → conv bX12_clause d3 [(2, 65)] (mset (lookM mem) 65 3 (((lookM mem) 65 3) + 1)) P3)
  (k1 : (mem 65 4) = (-1) → (hereM (lookM mem)) = 59 → ∀ (m4 : mmM), P3 m4 → mmT bX12_readLaw d 0 0 (mQ 0 P) 9 [(2, 65), (9, 0)] [] mS m4)
  (q1 : ¬ (mem 65 4) = (-1) → ∀ (v1 : Int), ∀ (m1 : mmM), P1 v1 m1 → P v1 m1)
  (q2 : (mem 65 4) = (-1) → ¬ (hereM (lookM mem)) = 59 → ∀ (v3 : Int), ∀ (m3 : mmM), P2 v3 m3 → P v3 m3)
  (hd_d1 : d1 + 1 ≤ d := by omega)
  (hd_d2 : d2 + 1 ≤ d := by omega)
  (hd_d3 : d3 + 1 ≤ d := by omega)
  (hd2 : 2 ≤ d := by omega)
  (s1 : (mem 65 4) = (-1) → bytM mem := by intros; first | omega | assumption | solve_by_elim)
  (s2 : (mem 65 4) = (-1) → 0 ≤ (mem 65 3) := by intros; first | omega | assumption | solve_by_elim)
  (s3 : (mem 65 4) = (-1) → (hereM (lookM mem)) = 59 → R32 (((lookM mem) 65 3) + 1) := by intros; first | omega | assumption | solve_by_elim)
  : mmT bX12_readLaw d 0 0 (mQ 0 P) 9 [(2, 65), (9, 0)] [] mS mem := by
  refine st_aload_n (i := 0) rfl (t := 0) rfl (by decide) dX12_readLaw_9 ?_
  refine so_getI (v := (mem 65 4)) 65 4 fr_X12_131_11 rfl sh_65 rfl dX12_readLaw_10 (fun r1 => ?_)
  refine st_iconst dX12_readLaw_13 ?_
  refine sr_icmp_ne 43 r1 ⟨by decide, by decide⟩ (by decide) dX12_readLaw_14 (fun h1 => ?_) (fun h1 => ?_)
  · have h1 : ¬ (mem 65 4) = (-1) := by omega
    refine st_aload_n (i := 0) rfl (t := 0) rfl (by decide) dX12_readLaw_43 ?_
    refine st_callV (kc2 := 0) (ks2 := 0) (av := []) 65 11 mr_X12_201 ok_X12_atEnd (c1 h1) rfl sh_65 ⟨_, rfl, rfl, by decide⟩ rfl rfl hd_d1 (Nat.le_refl 0) (Nat.le_refl 0) (Nat.le_of_ble_eq_true rfl) dX12_readLaw_44 (mQ.elim fun v1 m1 p1 => ?_)
    exact st_ireturn rfl dX12_readLaw_47 (mQ.ret (q1 h1 v1 m1 p1))
  · have h1 : (mem 65 4) = (-1) := by omega
    refine st_aload_n (i := 0) rfl (t := 0) rfl (by decide) dX12_readLaw_17 ?_
    refine st_callV (kc2 := 0) (ks2 := 0) (av := []) 65 11 mr_X12_143 ok_X12_look (c_X12_look mem ((s1 h1)) ((s2 h1))) rfl sh_65 ⟨_, rfl, rfl, by decide⟩ rfl rfl hd2 (Nat.le_refl 0) (Nat.le_refl 0) (Nat.le_of_ble_eq_true rfl) dX12_readLaw_18 (mQ.elim fun v2 m2 hp => ?_)
    obtain ⟨hpv, hpm⟩ := hp
    subst hpv
    have hpm := hpm.symm
    subst hpm
    refine st_bipush rfl dX12_readLaw_21 ?_
    refine sr_icmp_ne 43 (lookM_rng mem ((s1 h1)) ((s2 h1))) ⟨by decide, by decide⟩ (by decide) dX12_readLaw_23 (fun h2 => ?_) (fun h2 => ?_)
    · have h2 : ¬ (hereM (lookM mem)) = 59 := by omega
      refine st_aload_n (i := 0) rfl (t := 0) rfl (by decide) dX12_readLaw_43 ?_
      refine st_callV (kc2 := 0) (ks2 := 0) (av := []) 65 11 mr_X12_201 ok_X12_atEnd (c2 h1 h2) rfl sh_65 ⟨_, rfl, rfl, by decide⟩ rfl rfl hd_d2 (Nat.le_refl 0) (Nat.le_refl 0) (Nat.le_of_ble_eq_true rfl) dX12_readLaw_44 (mQ.elim fun v3 m3 p2 => ?_)
      exact st_ireturn rfl dX12_readLaw_47 (mQ.ret (q2 h1 h2 v3 m3 p2))
    · have h2 : (hereM (lookM mem)) = 59 := by omega
      refine st_aload_n (i := 0) rfl (t := 0) rfl (by decide) dX12_readLaw_26 ?_
      refine st_dup (Nat.ne_of_beq_eq_false rfl) dX12_readLaw_27 ?_
      refine so_getI (v := ((lookM mem) 65 3)) 65 3 fr_X12_124_11 rfl sh_65 rfl dX12_readLaw_28 (fun r2 => ?_)
      refine st_iconst dX12_readLaw_31 ?_
      refine st_iadd dX12_readLaw_32 ?_
      refine so_putI 65 3 fr_X12_124_11 pf_11_3 fo_65_3 rfl sh_65 (s3 h1 h2) dX12_readLaw_33 ?_
      refine st_aload_n (i := 0) rfl (t := 0) rfl (by decide) dX12_readLaw_36 ?_
      refine st_callV (kc2 := 0) (ks2 := 0) (av := []) 65 11 mr_X12_198 ok_X12_clause (c3 h1 h2) rfl sh_65 ⟨_, rfl, rfl, by decide⟩ rfl rfl hd_d3 (Nat.le_refl 0) (Nat.le_refl 0) (Nat.le_of_ble_eq_true rfl) dX12_readLaw_37 (mQv.elim fun m4 p3 => ?_)
      refine st_goto 9 (by decide) dX12_readLaw_40 ?_
      exact st_locals [(2, 65), (9, 0)] ⟨Or.inr rfl, Or.inl rfl, trivial⟩ (k1 h1 h2 m4 p3)
def lawM (mem : mmM) (n : Int) : Int ⊕ lawT → Int → mmM → Prop
  | .inl f, v, m => v = f ∧ 0 ≤ f ∧ rlFr mem n m
  | .inr cl, v, m => v = -1 ∧ rlFr mem n m ∧ lawR m n (90 * n) cl ∧ 0 ≤ m 70 n ∧ m 70 n ≤ 90
theorem rw_bad (mem : mmM) (n : Int) (hb : bytM mem) (hp : posM mem) (m : mmM) (f : Int) (h4 : m 65 4 = f) (f0 : 0 ≤ f) (fr : rlFr mem n m) (h3 : 0 ≤ m 65 3) : mmT bX12_readLaw 36 0 0 (mQ 0 (lawM mem n (.inl f))) 9 [(2, 65), (9, 0)] [] mS m := by
  have ne : ¬ m 65 4 = -1 := by omega
  have ae := c_X12_atEnd m (rlFr_B fr hb) (rlFr_P fr hp) h3
  refine bk_X12_readLaw_9 (d1 := 2) (d2 := 0) (d3 := 0) (P2 := fun _ _ => True) (P3 := fun _ => True) (fun _ => ae) (fun g => absurd g ne) (fun g => absurd g ne) (fun g => absurd g ne) (fun _ v1 m1 w => ?_) (fun g => absurd g ne) (s1 := fun g => absurd g ne) (s2 := fun g => absurd g ne) (s3 := fun g => absurd g ne)
  rcases w with ⟨-, rfl, rfl⟩ | ⟨z, -⟩ | ⟨z, -⟩
  · exact ⟨h4, f0, fr⟩
  · exact absurd z ne
  · exact absurd z ne
theorem consL_bad {C S : Int → Int} {k : Nat} {j e : Int} {cl : lawT} (h : clauseP C S j = .inl e) : consL cl (lawP C S (k + 1) j) = .inl e := by
  rw [lawP_bad h]
  rfl
theorem consL_go {C S : Int → Int} {k : Nat} {j q : Int} {cl : lawT} {ts us : List tokT} (h : clauseP C S j = .inr (q, ts, us)) : consL cl (lawP C S (k + 1) j) = if C (S q) = 59 then consL (cl ++ [(ts, us)]) (lawP C S k (S q + 1)) else if C (S q) = 0 then .inr (cl ++ [(ts, us)]) else .inl (S q) := by
  by_cases z : C (S q) = 59
  · rw [if_pos z, lawP_go h z]
    cases lawP C S k (S q + 1) with
    | inl e => rfl
    | inr c =>
      show Sum.inr (cl ++ (ts, us) :: c) = Sum.inr ((cl ++ [(ts, us)]) ++ c)
      rw [List.append_assoc]
      rfl
  · rw [if_neg z, lawP_end h z]
    by_cases y : C (S q) = 0
    · rw [if_pos y, if_pos y]
      rfl
    · rw [if_neg y, if_neg y]
      rfl
theorem rw_9 (mem : mmM) (n : Int) (hn5 : 0 ≤ n ∧ n < 5) (hb : bytM mem) (hp : posM mem) : ∀ (k : Nat) (R : Int ⊕ lawT) (m : mmM) (cl : lawT), goodL mem n m cl → mem 65 2 - m 65 3 < k → R = (if CM mem (SM mem (m 65 3)) = 59 then consL cl (lawP (CM mem) (SM mem) k (SM mem (m 65 3) + 1)) else if CM mem (SM mem (m 65 3)) = 0 then .inr cl else .inl (SM mem (m 65 3))) → mmT bX12_readLaw 36 0 0 (mQ 0 (lawM mem n R)) 9 [(2, 65), (9, 0)] [] mS m := by
  intro k
  have hn := hb.1
  induction k with
  | zero =>
    intro R m cl g h
    have := g.2.2.2.2.2.2.2.1
    omega
  | succ k ih =>
    intro R m cl g hk hR
    obtain ⟨g1, g2, g3, g4, g5, g6, g7, g8, g9⟩ := id g
    obtain ⟨s, hs⟩ : ∃ s, SM mem (m 65 3) = s := ⟨_, rfl⟩
    have ge := SM_ge mem (m 65 3)
    have le := SM_le (m := mem) (i := m 65 3) g8.2
    rw [hs] at ge le hR
    have hSs : SM mem s = s := by
      rw [← hs]
      exact SM_sm _ _
    have eC := rlFr_C g1
    have eS := rlFr_S g1
    have lk : lookM m = cuM m s := by
      unfold lookM
      rw [eS, hs]
    have i59 := hereM_is m (j := s) (c := 59) (by omega) (by decide)
    rw [eC] at i59
    have gs := goodL_cu g (j := s) ⟨ge, le⟩
    have cl1 : CM mem s = 59 → conv bX12_clause 35 [(2, 65)] (cuM m (s + 1)) (resL (cuM m (s + 1)) (clauseP (CM mem) (SM mem) (s + 1))) := by
      intro z
      have l : s < mem 65 2 := chT_in (T := mem 66) (show 0 < CM mem s by omega)
      have gu := goodL_cu g (j := s + 1) ⟨by omega, by omega⟩
      have := c_X12_clause (cuM m (s + 1)) (goodL_pre hb hn5 gu) gu.2.2.2.1 (by
        have e70 := gu.2.2.2.2.2.2.2.2
        rw [cuM_at] at e70
        rw [gu.2.1]
        omega)
      rw [rlFr_C gu.1, rlFr_S gu.1, cuM_at] at this
      exact this
    have ae := c_X12_atEnd (cuM m s) (rlFr_B gs.1 hb) (rlFr_P gs.1 hp) (by rw [cuM_at]; omega)
    rw [rlFr_C gs.1, rlFr_S gs.1, cuM_at, hSs] at ae
    refine bk_X12_readLaw_9 (d1 := 0) (d2 := 2) (d3 := 35) (P1 := fun _ _ => True) (P3 := fun m2 => CM mem s = 59 ∧ resL (cuM m (s + 1)) (clauseP (CM mem) (SM mem) (s + 1)) m2) (fun z => absurd g3 z) (fun _ _ => by rw [lk]; exact ae) (fun _ z => ?_) (fun _ _ m4 w => ?_) (fun z => absurd g3 z) (fun _ z v1 m1 w => ?_) (s1 := fun _ => rlFr_B g1 hb) (s2 := fun _ => g8.1) (s3 := fun _ _ => by rw [lk, cuM_at]; exact ⟨by omega, by omega⟩)
    · rw [lk] at z ⊢
      rw [cuM_at, cuM_mset]
      have y := i59.mp z
      exact conv.mono (cl1 y) (fun m2 w => ⟨y, w⟩)
    · obtain ⟨y, w⟩ := w
      have l : s < mem 65 2 := chT_in (T := mem 66) (show 0 < CM mem s by omega)
      have gu := goodL_cu g (j := s + 1) ⟨by omega, by omega⟩
      rw [if_pos y] at hR
      cases hc : clauseP (CM mem) (SM mem) (s + 1) with
      | inl f =>
        rw [hc] at w
        rw [hR, consL_bad hc]
        have e14 := gu.2.1
        have e70 := gu.2.2.2.2.2.2.2.2
        rw [cuM_at] at e70
        obtain ⟨w1, w2, w3, w4⟩ := w
        exact rw_bad mem n hb hp m4 f w1 w2 (rlFr_trans gu.1 (rlFr_lc w3 e14 ⟨by rw [e14]; omega, by rw [e14]; omega⟩)) w4.1
      | inr x =>
        obtain ⟨q, ts, us⟩ := x
        rw [hc] at w
        have gn := goodL_clause hb gu (by rw [cuM_at]; exact hc) w
        have e3 : m4 65 3 = q := w.2.2.1
        have gd := (good_clause (tapM_P mem) (j := s + 1) (by omega) (by omega)).2 q ts us hc
        refine ih R m4 (cl ++ [(ts, us)]) gn (by rw [e3]; omega) ?_
        rw [hR, consL_go hc, e3]
    · rw [lk] at z
      have no : ¬ CM mem s = 59 := fun y => z (i59.mpr y)
      rw [if_neg no] at hR
      rcases w with ⟨y, -⟩ | ⟨-, y, ev, em⟩ | ⟨-, y, ev, em⟩
      · exact absurd gs.2.2.1 y
      · rw [hR, if_pos y, ev, em]
        have e : lookM (cuM m s) = cuM m s := by rw [lookM_cu, eS, hSs]
        rw [e]
        have e9 := gs.2.2.2.2.2.2.2.2
        rw [cuM_at] at e9
        exact ⟨rfl, gs.1, gs.2.2.2.2.1, e9.1, by omega⟩
      · rw [hR, if_neg y, ev, em]
        exact ⟨rfl, by omega, rlFr_trans gs.1 (rlFr_lc (k := 90 * n) (lcFr_lm _ (lmFr_trans (lmFr_cu _ s) (lmFr_65 _ (by omega)))) gs.2.1 ⟨by omega, by omega⟩)⟩
theorem c_X12_readLaw (mem : mmM) (n : Int) (hn5 : 0 ≤ n ∧ n < 5) (hb : bytM mem) (hp : posM mem) : con 0 bX12_readLaw 36 [(2, 65), (0, n)] mem (lawM mem n (lawP (CM mem) (SM mem) 200 0)) := by
  have hn := hb.1
  obtain ⟨m0, hm⟩ : ∃ m0, mset (mset (mset (mset (mset (mset mem 65 14 n) 65 3 0) 65 4 (-1)) 65 5 0) 69 n 0) 70 n 0 = m0 := ⟨_, rfl⟩
  have e65 : ∀ j, j ≠ 3 → j ≠ 4 → j ≠ 5 → j ≠ 14 → m0 65 j = mem 65 j := fun j j1 j2 j3 j4 => by
    rw [← hm, mset_ne (by decide), mset_ne (by decide), mset_at, if_neg j3, mset_at, if_neg j2, mset_at, if_neg j1, mset_at, if_neg j4]
  have e14 : m0 65 14 = n := by
    rw [← hm, mset_ne (by decide), mset_ne (by decide), mset_at, if_neg (by decide), mset_at, if_neg (by decide), mset_at, if_neg (by decide), mset_same]
  have e3 : m0 65 3 = 0 := by
    rw [← hm, mset_ne (by decide), mset_ne (by decide), mset_at, if_neg (by decide), mset_at, if_neg (by decide), mset_same]
  have e4 : m0 65 4 = -1 := by
    rw [← hm, mset_ne (by decide), mset_ne (by decide), mset_at, if_neg (by decide), mset_same]
  have e5 : m0 65 5 = 0 := by
    rw [← hm, mset_ne (by decide), mset_ne (by decide), mset_same]
  have en : ∀ a, a ≠ 65 → a ≠ 69 → a ≠ 70 → m0 a = mem a := fun a a1 a2 a3 => by
    rw [← hm, mset_ne a3, mset_ne a2, mset_ne a1, mset_ne a1, mset_ne a1, mset_ne a1]
  have e69 : m0 69 n = 0 := by rw [← hm, mset_ne (by decide), mset_same]
  have e70 : m0 70 n = 0 := by rw [← hm, mset_same]
  have fr : rlFr mem n m0 := by
    refine ⟨fun a a1 a2 => en a a1 (by omega) (by omega), e65, fun j hj => ⟨?_, ?_⟩, fun i _ => ⟨by rw [en 67 (by decide) (by decide) (by decide)], by rw [en 68 (by decide) (by decide) (by decide)]⟩, fun i _ => ⟨by rw [en 71 (by decide) (by decide) (by decide)], by rw [en 72 (by decide) (by decide) (by decide)], by rw [en 73 (by decide) (by decide) (by decide)]⟩⟩
    · rw [← hm, mset_ne (by decide), mset_at, if_neg hj, mset_ne (by decide), mset_ne (by decide), mset_ne (by decide), mset_ne (by decide)]
    · rw [← hm, mset_at, if_neg hj, mset_ne (by decide), mset_ne (by decide), mset_ne (by decide), mset_ne (by decide), mset_ne (by decide)]
  have g0 : goodL mem n m0 [] := ⟨fr, e14, e4, e5, by show 90 * n = 90 * n + m0 70 n; omega, fun c c0 c1 => by omega, by omega, by omega, by omega⟩
  have cl := c_X12_clause m0 (goodL_pre hb hn5 g0) e5 (by rw [e14]; omega)
  rw [rlFr_C fr, rlFr_S fr, e3] at cl
  refine cn_X12_readLaw (bk_X12_readLaw_0 (d1 := 0) (d2 := 35) (P1 := fun m => m = m0) (P2 := resL m0 (clauseP (CM mem) (SM mem) 0)) (by rw [← hm]; exact c_X12_open mem n hn5) (fun m1 e => by rw [e]; exact cl) (fun m1 _ m2 w => ?_))
  cases hc : clauseP (CM mem) (SM mem) 0 with
  | inl f =>
    rw [hc] at w
    rw [lawP_bad hc]
    obtain ⟨w1, w2, w3, w4⟩ := w
    exact rw_bad mem n hb hp m2 f w1 w2 (rlFr_trans fr (rlFr_lc w3 e14 ⟨by rw [e14]; omega, by rw [e14]; omega⟩)) w4.1
  | inr x =>
    obtain ⟨q, ts, us⟩ := x
    rw [hc] at w
    have gn := goodL_clause hb g0 (by rw [e3]; exact hc) w
    have eq : m2 65 3 = q := w.2.2.1
    have gd := (good_clause (tapM_P mem) (j := 0) (by omega) (by omega)).2 q ts us hc
    refine rw_9 mem n hn5 hb hp 199 _ m2 [(ts, us)] gn (by rw [eq]; omega) ?_
    have e := consL_go (k := 199) (cl := []) hc
    rw [eq]
    refine Eq.trans ?_ e
    show lawP (CM mem) (SM mem) 200 0 = consL [] (lawP (CM mem) (SM mem) 200 0)
    cases lawP (CM mem) (SM mem) 200 0 <;> rfl
