/-! the law's book, its laws' texts, walked; the loop -/
theorem mFix_65 : ∀ q ∈ mFixL, q.1 < 65 := by decide +kernel
theorem mFix_lo {mem m : mmM} (h : ∀ a, a < 65 → m a = mem a) (w : mFix mem) : mFix m := fun q hq => by
  rw [h q.1 (mFix_65 q hq)]
  exact w q hq
theorem mIn_tab : ∀ a : Fin 65, ∀ j : Fin 256, ((mSH.getD a.val (0, 0)).1 < 20 → j.val < 20) → j.val < (mSH.getD a.val (0, 0)).2 → mTag (mSH.getD a.val (0, 0)) ((j.val : Nat) : Int) = 2 → (a.val = 58 ∧ (j.val = 4 ∨ j.val = 5)) ∨ (mFixL.any fun q => q.1 == a.val && q.2.1 == ((j.val : Nat) : Int) && decide (q.2.2 < 65)) = true := by decide +kernel
theorem mSH_sz : ∀ q ∈ mSH, q.2 ≤ 256 ∧ (q.1 < 20 → q.2 ≤ 20) := by decide +kernel
theorem mIn_of {mem : mmM} (h : mFix mem) (ho : odOr mem) : mIn mem := by
  intro a q j hq hj ht
  have ha := getL_lt hq
  rw [mSH_len] at ha
  have eq : mSH.getD a (0, 0) = q := by
    rw [List.getD_eq_getElem?_getD, hq]
    rfl
  have sz := mSH_sz q (List.mem_of_getElem? hq)
  have T := mIn_tab ⟨a, ha⟩ ⟨j, by omega⟩
  dsimp only at T
  rw [eq] at T
  rcases T (fun z => by have := sz.2 z; omega) hj ht with ⟨e1, e2⟩ | e
  · rcases ho with ⟨o1, o2⟩ | ⟨o1, o2⟩
    · rcases e2 with e2 | e2
      · rw [e1, e2]
        exact Int.lt_of_le_of_lt (Int.le_of_eq o1) (by decide)
      · rw [e1, e2]
        exact Int.lt_of_le_of_lt (Int.le_of_eq o2) (by decide)
    · rcases e2 with e2 | e2
      · rw [e1, e2]
        exact Int.lt_of_le_of_lt (Int.le_of_eq o1) (by decide)
      · rw [e1, e2]
        exact Int.lt_of_le_of_lt (Int.le_of_eq o2) (by decide)
  · rw [List.any_eq_true] at e
    obtain ⟨p, hp, e⟩ := e
    simp only [Bool.and_eq_true, beq_iff_eq, decide_eq_true_eq] at e
    have f := h p hp
    rw [e.1.1, e.1.2] at f
    rw [f]
    exact e.2
def lQ : mmQ := fun r sh m => r = some (0, 1) ∧ sh = mS ∧ mIn m
theorem lQ_ok : ∀ r sh m, lQ r sh m → sh = mS ∧ mIn m ∧ ∀ v, r = some v → v.1 = 0 := fun r sh m h => ⟨h.2.1, h.2.2, fun v e => by
  rw [h.1] at e
  cases e
  rfl⟩
theorem lcC_lo (lw n ng im i x : Int) : ∀ v ∈ lcC lw n ng im i x, v.1 = 2 → v.2 < 65 := by
  intro v hv h2
  simp only [List.mem_cons, List.not_mem_nil, or_false] at hv
  rcases hv with rfl | rfl | rfl | rfl | rfl | rfl | rfl | rfl | rfl | rfl | rfl | rfl | rfl | rfl
  · exact absurd h2 (show ¬ (3 : Nat) = 2 by decide)
  · exact (show (0 : Int) < 65 by decide)
  · exact absurd h2 (show ¬ (0 : Nat) = 2 by decide)
  · exact absurd h2 (show ¬ (0 : Nat) = 2 by decide)
  · exact absurd h2 (show ¬ (0 : Nat) = 2 by decide)
  · exact absurd h2 (show ¬ (0 : Nat) = 2 by decide)
  · exact absurd h2 (show ¬ (0 : Nat) = 2 by decide)
  · exact absurd h2 (show ¬ (0 : Nat) = 2 by decide)
  · exact absurd h2 (show ¬ (9 : Nat) = 2 by decide)
  · exact absurd h2 (show ¬ (9 : Nat) = 2 by decide)
  · exact absurd h2 (show ¬ (9 : Nat) = 2 by decide)
  · exact absurd h2 (show ¬ (9 : Nat) = 2 by decide)
  · exact absurd h2 (show ¬ (9 : Nat) = 2 by decide)
  · exact absurd h2 (show ¬ (9 : Nat) = 2 by decide)
theorem lcK_lo (lw n ng im i x k : Int) : ∀ v ∈ [(3, 0), (2, 0), (0, lw), (0, n), (0, ng), (0, im), (0, i), (0, x), (0, k), (9, 0), (9, 0), (9, 0), (9, 0), (9, 0)], (v : mmV).1 = 2 → v.2 < 65 := by
  intro v hv h2
  simp only [List.mem_cons, List.not_mem_nil, or_false] at hv
  rcases hv with rfl | rfl | rfl | rfl | rfl | rfl | rfl | rfl | rfl | rfl | rfl | rfl | rfl | rfl
  · exact absurd h2 (show ¬ (3 : Nat) = 2 by decide)
  · exact (show (0 : Int) < 65 by decide)
  · exact absurd h2 (show ¬ (0 : Nat) = 2 by decide)
  · exact absurd h2 (show ¬ (0 : Nat) = 2 by decide)
  · exact absurd h2 (show ¬ (0 : Nat) = 2 by decide)
  · exact absurd h2 (show ¬ (0 : Nat) = 2 by decide)
  · exact absurd h2 (show ¬ (0 : Nat) = 2 by decide)
  · exact absurd h2 (show ¬ (0 : Nat) = 2 by decide)
  · exact absurd h2 (show ¬ (0 : Nat) = 2 by decide)
  · exact absurd h2 (show ¬ (9 : Nat) = 2 by decide)
  · exact absurd h2 (show ¬ (9 : Nat) = 2 by decide)
  · exact absurd h2 (show ¬ (9 : Nat) = 2 by decide)
  · exact absurd h2 (show ¬ (9 : Nat) = 2 by decide)
  · exact absurd h2 (show ¬ (9 : Nat) = 2 by decide)
section
variable {sc : Int → Int} {ls : Nat → lawT} {lw n ng im t i x : Int} {b m m1 : mmM}
theorem IB_lo (h : ∀ a, a < 65 → m a = b a) (h9 : m 999 = b 999) (w : IB sc ls lw b) : IB sc ls lw m := by
  obtain ⟨w1, w2, w3, w4, w5⟩ := w
  have k4 := w2.1
  refine ⟨jbyt_of (by rw [h 1 (by decide)]) (h 2 (by decide)) w1, jLaws_of ⟨by rw [h 0 (by decide)], by rw [h 0 (by decide)]⟩ (fun k hk => ⟨by rw [h _ (by omega)], h _ (by omega)⟩) w2, ?_, odOr_of (h 58 (by decide)) w4, h9.trans w5⟩
  unfold jActs
  rw [h 36 (by decide), h 37 (by decide)]
  exact w3
theorem IX_lo (h : ∀ a, a < 65 → m a = b a) (h9 : m 999 = b 999) (w : IX sc ls lw n ng im t b) : IX sc ls lw n ng im t m :=
  IX_same ⟨fun a ha => by
    by_cases q : a < 65
    · exact h a q
    · rw [show a = 999 by unfold keepC at ha; omega]
      exact h9, by rw [h 1 (by decide)], odOr_of (h 58 (by decide))⟩ w
theorem IX_TL {k : Nat} {f : Int → Int} (w : IX sc ls lw n ng im t b) (h : TL b k f k m) (hf : ∀ j : Int, 0 ≤ j → j < k → 1 ≤ f j ∧ f j ≤ 127) (hk : k ≤ 160) : IX sc ls lw n ng im t m := by
  have ib := IB_TL w.1 h hf hk
  obtain ⟨-, -, -, h4⟩ := h
  obtain ⟨-, w2, w3, w4, w5, w6⟩ := w
  refine ⟨ib, ?_, ?_, ?_, ?_, ?_⟩
  · unfold jPlay
    rw [h4 23 (by decide) (by decide), h4 24 (by decide) (by decide), h4 26 (by decide) (by decide), h4 29 (by decide) (by decide), h4 30 (by decide) (by decide)]
    exact w2
  · unfold jLeap
    rw [h4 24 (by decide) (by decide), h4 28 (by decide) (by decide), h4 36 (by decide) (by decide), h4 38 (by decide) (by decide)]
    exact w3
  · unfold jWorth
    rw [h4 31 (by decide) (by decide), h4 32 (by decide) (by decide)]
    exact w4
  · unfold jNotes
    rw [h4 47 (by decide) (by decide), h4 48 (by decide) (by decide)]
    exact w5
  · unfold jImg
    rw [h4 47 (by decide) (by decide), h4 49 (by decide) (by decide)]
    exact w6
theorem lw_243 {d kc ks : Nat} {Q : mmQ} (w : IX sc ls lw n ng im t b) (hd : 60 ≤ d) (ht : 0 ≤ t ∧ t ≤ 1000) (hx : 0 ≤ x ∧ x < 2147483648) (kk : ∀ ls' lw' n' ng' im' m', IX sc ls' lw' n' ng' im' (t + 1) m' → mmT bL_law d kc ks Q 626 (lcC lw' n' ng' im' i x) [] mS m') {E : List (Nat × Nat)} {tv tw k : Nat} {f : Int → Int} (hlo : ∀ a, a < 65 → m1 a = b a) (h9 : m1 999 = b 999) (hs : isStr (true, mSH ++ E) m1 (2, (tv : Int)) (2, (tw : Int)) k f) (hf : ∀ j : Int, 0 ≤ j → j < k → (1 ≤ f j ∧ f j ≤ 127) ∧ ¬ f j = 32) (hk : k ≤ 160) (hr : (lawP (chT f k) (fun i => i) 200 0).isRight = true) (hfx : mFix b) : mmT bL_law d kc ks Q 243 (lcC lw n ng im i x) [(2, (tv : Int)), (2, 0)] (true, mSH ++ E) m1 := by
  have hn := w.nn
  have hlw := w.1.2.1.1
  have w1 := IX_lo hlo h9 w
  refine st_callS (kc2 := kc) (ks2 := ks) (av := [(2, 0), (2, (tv : Int))]) mr_L_85 ok_L_tell (c_L_tell hs (fun j j0 j1 => (hf j j0 j1).1) hk (mFix_lo hlo hfx) (by have := w1.1.1.1.1; omega)) rfl rfl (by omega) (by omega) (by omega) (mmCat_4 (Nat.le_of_ble_eq_true rfl)) dL_law_243 ?_
  rintro r sh' m2 ⟨rfl, rfl, hTL, hfx2⟩
  refine sr_if_ne 251 (by omega) (by decide) dL_law_246 (fun _ => ?_) (fun h => absurd h (by omega))
  refine st_close hfx2 ?_
  have w2 := IX_TL w1 hTL (fun j j0 j1 => (hf j j0 j1).1) hk
  have cs := TL_CS w1.1.1.2 hTL (fun j j0 j1 => (hf j j0 j1).2)
  refine st_aload_n (i := 1) rfl (t := 0) rfl (by decide) dL_law_251 ?_
  refine st_iconst dL_law_252 ?_
  refine st_callV (kc2 := kc) (ks2 := ks) (av := [(0, 1)]) 0 10 mr_L_89 ok_X11_text (am_lawtext w2 (by rw [cs.1, cs.2]; exact hr)) rfl sh_0 ⟨_, rfl, rfl, by decide⟩ rfl rfl (by omega) (by omega) (by omega) (mmCat_4 (Nat.le_of_ble_eq_true rfl)) dL_law_253 (mQ.elim fun v m3 h3 => ?_)
  obtain ⟨e3, ls3, w3⟩ := h3
  refine st_istore (by decide) (lc' := [(3, 0), (2, 0), (0, lw), (0, n), (0, ng), (0, im), (0, i), (0, x), (0, v), (9, 0), (9, 0), (9, 0), (9, 0), (9, 0)]) rfl dL_law_256 ?_
  refine st_iload rfl dL_law_258 ?_
  refine st_iload_n (i := 2) rfl rfl dL_law_260 ?_
  refine st_iconst dL_law_261 ?_
  refine sr_icmp_ge 269 (by omega) (by omega) (by decide) dL_law_262 (fun hg => ?_) (fun hg => ?_)
  · rw [if_neg (by omega)] at e3 w3
    refine st_iconst dL_law_269 ?_
    refine sr_icmp_eq 275 (by omega) (by omega) (by decide) dL_law_270 (fun _ => ?_) (fun h => absurd h (by omega))
    refine st_iload rfl dL_law_275 ?_
    refine st_iconst dL_law_277 ?_
    refine sr_icmp_eq 626 (by omega) (by omega) (by decide) dL_law_278 (fun _ => ?_) (fun h => absurd h (by omega))
    refine st_locals (lcC lw n ng im i x) ⟨Or.inr rfl, Or.inr rfl, Or.inr rfl, Or.inr rfl, Or.inr rfl, Or.inr rfl, Or.inr rfl, Or.inr rfl, Or.inl rfl, Or.inl rfl, Or.inl rfl, Or.inl rfl, Or.inl rfl, Or.inl rfl, trivial⟩ ?_
    exact kk _ _ _ _ _ _ (IX_more w3 ht.1)
  · rw [if_pos (by omega)] at e3 w3
    refine st_iload_n (i := 2) rfl rfl dL_law_265 ?_
    refine st_goto 270 (by decide) dL_law_266 ?_
    refine sr_icmp_eq 275 (by omega) (by omega) (by decide) dL_law_270 (fun _ => ?_) (fun h => absurd h (by omega))
    refine st_iload rfl dL_law_275 ?_
    refine st_iconst dL_law_277 ?_
    refine sr_icmp_eq 626 (by omega) (by omega) (by decide) dL_law_278 (fun h => absurd h (by omega)) (fun _ => ?_)
    refine st_iinc (y := (lw + 1)) (by decide) (i := 2) rfl rfl (lc' := [(3, 0), (2, 0), (0, (lw + 1)), (0, n), (0, ng), (0, im), (0, i), (0, x), (0, v), (9, 0), (9, 0), (9, 0), (9, 0), (9, 0)]) rfl dL_law_281 ?_
    refine st_goto 626 (by decide) dL_law_284 ?_
    refine st_locals (lcC (lw + 1) n ng im i x) ⟨Or.inr rfl, Or.inr rfl, Or.inr rfl, Or.inr rfl, Or.inr rfl, Or.inr rfl, Or.inr rfl, Or.inr rfl, Or.inl rfl, Or.inl rfl, Or.inl rfl, Or.inl rfl, Or.inl rfl, Or.inl rfl, trivial⟩ ?_
    exact kk _ _ _ _ _ _ (IX_more w3 ht.1)
theorem lw1_rng : ∀ d : Fin 30, ∀ j : Fin 6, j.val < lwN1 ((d.val : Nat) : Int) → (1 ≤ lwT1 ((d.val : Nat) : Int) ((j.val : Nat) : Int) ∧ lwT1 ((d.val : Nat) : Int) ((j.val : Nat) : Int) ≤ 127) ∧ ¬ lwT1 ((d.val : Nat) : Int) ((j.val : Nat) : Int) = 32 := by decide +kernel
theorem lw2_rng : ∀ d : Fin 4, ∀ j : Fin 18, j.val < lwN2 ((d.val : Nat) : Int) → (1 ≤ lwT2 ((d.val : Nat) : Int) ((j.val : Nat) : Int) ∧ lwT2 ((d.val : Nat) : Int) ((j.val : Nat) : Int) ≤ 127) ∧ ¬ lwT2 ((d.val : Nat) : Int) ((j.val : Nat) : Int) = 32 := by decide +kernel
theorem dgN_le (x : Int) : dgN x ≤ 2 := by unfold dgN; split <;> omega
theorem lw1_in {d : Int} (hd : 0 ≤ d ∧ d < 30) : (∀ j : Int, 0 ≤ j → j < lwN1 d → (1 ≤ lwT1 d j ∧ lwT1 d j ≤ 127) ∧ ¬ lwT1 d j = 32) ∧ lwN1 d ≤ 6 ∧ (lawP (chT (lwT1 d) (lwN1 d)) (fun i => i) 200 0).isRight = true := by
  have e : ((d.toNat : Nat) : Int) = d := by omega
  have g := dgN_le d
  have l6 : lwN1 d ≤ 6 := by unfold lwN1; omega
  refine ⟨fun j j0 j1 => ?_, l6, ?_⟩
  · have h := lw1_rng ⟨d.toNat, by omega⟩ ⟨j.toNat, by omega⟩
    dsimp only at h
    rw [e, Int.toNat_of_nonneg j0] at h
    exact h (by omega)
  · have h := lw1_ok ⟨d.toNat, by omega⟩
    dsimp only at h
    rw [e] at h
    exact h
theorem lw2_in {d : Int} (hd : 0 ≤ d ∧ d < 4) : (∀ j : Int, 0 ≤ j → j < lwN2 d → (1 ≤ lwT2 d j ∧ lwT2 d j ≤ 127) ∧ ¬ lwT2 d j = 32) ∧ lwN2 d ≤ 18 ∧ (lawP (chT (lwT2 d) (lwN2 d)) (fun i => i) 200 0).isRight = true := by
  have e : ((d.toNat : Nat) : Int) = d := by omega
  have g := dgN_le d
  have l6 : lwN2 d ≤ 18 := by unfold lwN2; omega
  refine ⟨fun j j0 j1 => ?_, l6, ?_⟩
  · have h := lw2_rng ⟨d.toNat, by omega⟩ ⟨j.toNat, by omega⟩
    dsimp only at h
    rw [e, Int.toNat_of_nonneg j0] at h
    exact h (by omega)
  · have h := lw2_ok ⟨d.toNat, by omega⟩
    dsimp only at h
    rw [e] at h
    exact h
theorem byK_ok : ∀ i : Fin 5, ∀ j : Fin 12, j.val < kLen.getD i.val 0 → 0 ≤ byK i.val ((j.val : Nat) : Int) ∧ byK i.val ((j.val : Nat) : Int) ≤ 127 := by decide +kernel
theorem kLen_ok : ∀ i : Fin 5, kLen.getD i.val 0 ≤ 12 := by decide +kernel
theorem kStrB {sh : mmS} {mem : mmM} (i : Nat) (hi : i < 5) : isStr sh mem (4, ((2 * i : Nat) : Int)) (4, ((2 * i + 1 : Nat) : Int)) (kLen.getD i 0) (byK i) := by
  have l := kLen_ok ⟨i, hi⟩
  dsimp only at l
  refine kStr i hi rfl rfl rfl (fun j h => ?_) (fun j h1 h2 => ?_) (by omega)
  · unfold byK
    rw [Int.toNat_natCast]
  · have h := byK_ok ⟨i, hi⟩ ⟨j.toNat, by omega⟩
    dsimp only at h
    rw [Int.toNat_of_nonneg h1] at h
    exact h (by omega)
theorem lw_a1 {d kc ks : Nat} {Q : mmQ} (hQ : ∀ r sh m, Q r sh m → sh = mS ∧ mIn m ∧ ∀ v, r = some v → v.1 = 0) (w : IX sc ls lw n ng im t m) (hd : 60 ≤ d) (ht : 0 ≤ t ∧ t ≤ 1000) (hx : 0 ≤ x ∧ x < 2147483648) (kk : ∀ ls' lw' n' ng' im' m', IX sc ls' lw' n' ng' im' (t + 1) m' → mmT bL_law d kc ks Q 626 (lcC lw' n' ng' im' i x) [] mS m') : mmT bL_law d (kc + 300) (ks + 118000) Q 177 (lcC lw n ng im i x) [] mS m := by
  have hn := w.nn
  have p3 : p2 3 = 8 := by decide +kernel
  have p4 : p2 4 = 16 := by decide +kernel
  have p5 : p2 5 = 32 := by decide +kernel
  have p6 : p2 6 = 64 := by decide +kernel
  have p8 : p2 8 = 256 := by decide +kernel
  have p10 : p2 10 = 1024 := by decide +kernel
  have d4 := div_bnd (x := x) (k := 4) hx.1
  have d5 := div_bnd (x := x) (k := 5) hx.1
  have d8 := div_bnd (x := x) (k := 8) hx.1
  have d10 := div_bnd (x := x) (k := 10) hx.1
  have hlw := w.1.2.1.1
  refine st_open hQ (lcC_lo _ _ _ _ _ _) (fun v hv => by cases hv) (fun h => mIn_of h w.odd) (fun hfx => ?_)
  refine st_aload_n (i := 1) rfl (t := 0) rfl (by decide) dL_law_177 ?_
  refine st_iload rfl dL_law_178 ?_
  refine st_bipush rfl dL_law_180 ?_
  refine st_iand dL_law_182 ?_
  have a16 := and32_rng x 16
  have h65 := mSH_len
  have d5r := mod_rng (x := x / p2 5) (n := 30) (by omega)
  have d4r := mod_rng (x := x / p2 5) (n := 4) (by omega)
  refine sr_if_ne 214 (by omega) (by decide) dL_law_183 (fun hv => ?_) (fun hv => ?_)
  · refine mmT.wk (kc := 2 + (1 + (1 + (1 + (2 + kc))))) (ks := 804 + (800 + (800 + (800 + (900 + ks))))) ?_ (by omega) (by omega)
    refine bk_new (by omega) rfl (by omega) (Nat.le_of_ble_eq_true rfl) dL_law_214 dL_law_217 dL_law_218 (fun L1 m1 S1 => ?_)
    have S1 := S1 (fun _ => 0)
    have l1 := S1.fr.len
    refine st_ldcK (i := 3) (by decide) rfl rfl dL_law_221 ?_
    refine bk_appS (i := 2) (x := (4, 6)) (w := (4, 7)) (by omega) mr_L_53 S1 (kStrB 3 (by decide)) (fun h => absurd (congrArg Prod.fst h) (show ¬ (4 : Nat) = 2 by decide)) (Nat.le_of_ble_eq_true rfl) (by omega) (Nat.le_of_ble_eq_true rfl) dL_law_223 (fun L2 m2 S2 => ?_)
    have l2 := S2.fr.len
    refine st_iload rfl dL_law_226 ?_
    refine st_iconst dL_law_228 ?_
    refine sr_ishr (by omega) (by omega) dL_law_229 ?_
    refine st_iconst dL_law_230 ?_
    refine sr_irem (by omega) (by omega) dL_law_231 ?_
    refine bk_appI (i := 3) (by omega) mr_L_62 S2 (by omega) (Nat.le_of_ble_eq_true rfl) (by omega) (Nat.le_of_ble_eq_true rfl) dL_law_232 (fun L3 m3 S3 => ?_)
    have l3 := S3.fr.len
    refine st_ldcK (i := 4) (by decide) rfl rfl dL_law_235 ?_
    refine bk_appS (i := 4) (x := (4, 8)) (w := (4, 9)) (by omega) mr_L_53 S3 (kStrB 4 (by decide)) (fun h => absurd (congrArg Prod.fst h) (show ¬ (4 : Nat) = 2 by decide)) (by have := dgN_le (x / p2 5 % 4); show 0 + kLen.getD 3 0 + dgN (x / p2 5 % 4) + 12 ≤ 400; have e : kLen.getD 3 0 = 4 := rfl; omega) (by omega) (Nat.le_of_ble_eq_true rfl) dL_law_237 (fun L4 m4 S4 => ?_)
    have l4 := S4.fr.len
    have I := lw2_in (d := (x / p2 5 % 4)) (by omega)
    have SF : SBX 5 mSH m mSH.length L4 m4 (lwN2 (x / p2 5 % 4)) (lwT2 (x / p2 5 % 4)) := by
      have e : 0 + kLen.getD 3 0 + dgN (x / p2 5 % 4) + kLen.getD 4 0 = lwN2 (x / p2 5 % 4) := by show _ = _; unfold lwN2; simp only [show kLen.getD 3 0 = 4 from rfl, show kLen.getD 4 0 = 12 from rfl]; try omega
      rw [← e]
      exact S4
    refine bk_toS (by omega) mr_L_65 SF (fun j j0 j1 => by have := (I.1 j j0 j1).1; omega) (by omega) (Nat.le_of_ble_eq_true rfl) dL_law_240 (fun L5 m5 S5 F5 => ?_)
    obtain ⟨⟨E, rfl, -⟩, f2, f3⟩ := SF.fr.trans F5
    exact lw_243 w hd ht hx kk (fun a ha => f2 a (by omega)) f3 S5 I.1 (by omega) I.2.2 hfx
  · refine mmT.wk (kc := 2 + (1 + (1 + (2 + kc)))) (ks := 804 + (800 + (800 + (900 + ks)))) ?_ (by omega) (by omega)
    refine bk_new (by omega) rfl (by omega) (Nat.le_of_ble_eq_true rfl) dL_law_186 dL_law_189 dL_law_190 (fun L1 m1 S1 => ?_)
    have S1 := S1 (fun _ => 0)
    have l1 := S1.fr.len
    refine st_ldcK (i := 2) (by decide) rfl rfl dL_law_193 ?_
    refine bk_appS (i := 2) (x := (4, 4)) (w := (4, 5)) (by omega) mr_L_53 S1 (kStrB 2 (by decide)) (fun h => absurd (congrArg Prod.fst h) (show ¬ (4 : Nat) = 2 by decide)) (Nat.le_of_ble_eq_true rfl) (by omega) (Nat.le_of_ble_eq_true rfl) dL_law_195 (fun L2 m2 S2 => ?_)
    have l2 := S2.fr.len
    refine st_iload rfl dL_law_198 ?_
    refine st_iconst dL_law_200 ?_
    refine sr_ishr (by omega) (by omega) dL_law_201 ?_
    refine st_bipush rfl dL_law_202 ?_
    refine sr_irem (by omega) (by omega) dL_law_204 ?_
    refine bk_appI (i := 3) (by omega) mr_L_62 S2 (by omega) (Nat.le_of_ble_eq_true rfl) (by omega) (Nat.le_of_ble_eq_true rfl) dL_law_205 (fun L3 m3 S3 => ?_)
    have l3 := S3.fr.len
    have I := lw1_in (d := (x / p2 5 % 30)) (by omega)
    have SF : SBX 4 mSH m mSH.length L3 m3 (lwN1 (x / p2 5 % 30)) (lwT1 (x / p2 5 % 30)) := by
      have e : 0 + kLen.getD 2 0 + dgN (x / p2 5 % 30) = lwN1 (x / p2 5 % 30) := by show _ = _; unfold lwN1; simp only [show kLen.getD 2 0 = 4 from rfl]; try omega
      rw [← e]
      exact S3
    refine bk_toS (by omega) mr_L_65 SF (fun j j0 j1 => by have := (I.1 j j0 j1).1; omega) (by omega) (Nat.le_of_ble_eq_true rfl) dL_law_208 (fun L5 m5 S5 F5 => ?_)
    refine st_goto 243 (by decide) dL_law_211 ?_
    obtain ⟨⟨E, rfl, -⟩, f2, f3⟩ := SF.fr.trans F5
    exact lw_243 w hd ht hx kk (fun a ha => f2 a (by omega)) f3 S5 I.1 (by omega) I.2.2 hfx
theorem lw_a0 {d kc ks : Nat} {Q : mmQ} (hM : mmMultiI) (hQ : ∀ r sh m, Q r sh m → sh = mS ∧ mIn m ∧ ∀ v, r = some v → v.1 = 0) (w : IB sc ls lw m) (hd : 60 ≤ d) (ht : 0 ≤ t) (hx : 0 ≤ x ∧ x < 2147483648) (hi : 0 ≤ i ∧ i < 36) (hsc : 0 ≤ sc (-1) ∧ sc (-1) ≤ 260) (kk : ∀ (k : Nat) m', IX sc ls lw k 0 (-1) t m' → mmT bL_law d kc ks Q 626 (lcC lw k 0 (-1) i x) [] mS m') : mmT bL_law d (kc + 300) (ks + 118000) Q 116 (lcC lw n ng im i x) [] mS m := by
  have p5 : p2 5 = 32 := by decide +kernel
  have d5 := div_bnd (x := x) (k := 5) hx.1
  refine st_iconst dL_law_116 ?_
  refine st_iload rfl dL_law_117 ?_
  refine st_iconst dL_law_119 ?_
  refine sr_ishr (by omega) (by omega) dL_law_120 ?_
  refine st_bipush rfl dL_law_121 ?_
  refine sr_irem (by omega) (by omega) dL_law_123 ?_
  refine st_iadd dL_law_124 ?_
  obtain ⟨k, hk⟩ : ∃ k : Nat, (k : Int) = 2 + x / p2 5 % 12 := ⟨(2 + x / p2 5 % 12).toNat, by omega⟩
  show mmT bL_law d _ _ Q 125 _ [(0, 2 + x / p2 5 % 12)] mS m
  rw [← hk]
  refine st_istore (by decide) (lc' := [(3, 0), (2, 0), (0, lw), (0, n), (0, ng), (0, im), (0, i), (0, x), (0, (k : Int)), (9, 0), (9, 0), (9, 0), (9, 0), (9, 0)]) rfl dL_law_125 ?_
  refine st_open hQ (lcK_lo _ _ _ _ _ _ _) (fun v hv => by cases hv) (fun h => mIn_of h w.2.2.2.1) (fun hfx => ?_)
  refine st_aload_n (i := 1) rfl (t := 0) rfl (by decide) dL_law_127 ?_
  refine st_aload_n (i := 0) rfl (t := 1) rfl (by decide) dL_law_128 ?_
  refine st_iconst dL_law_129 ?_
  refine st_iload rfl dL_law_130 ?_
  refine st_iconst dL_law_132 ?_
  refine sr_idiv (by omega) ⟨by decide, by decide⟩ (by decide) dL_law_133 ?_
  rw [Int.tdiv_eq_ediv_of_nonneg hi.1]
  refine st_iadd dL_law_134 ?_
  refine st_iload rfl dL_law_135 ?_
  refine st_iload rfl dL_law_137 ?_
  refine st_iconst dL_law_139 ?_
  have h65 := mSH_len
  refine mmT.wk (kc := (15 * k + kc) + (1 + k)) (ks := (9010 * k + ks) + (k + k * 3)) ?_ (by omega) (by omega)
  refine hM _ _ _ _ _ _ _ _ _ _ k 3 79 _ _ cl_L_79 ac_int rfl rfl (by omega) (by decide) (by omega) (by omega) dL_law_140 ?_
  rw [mSH_len]
  obtain ⟨m1, em⟩ : ∃ m1 : mmM, (fun a => if 65 + 1 ≤ a ∧ a < 65 + 1 + k then (fun _ => 0) else mrow m 65 (fun i => ((65 : Nat) : Int) + 1 + i) a) = m1 := ⟨_, rfl⟩
  rw [em]
  have lo : ∀ a, a < 65 → m1 a = m a := fun a ha => by
    rw [← em]
    dsimp only
    rw [if_neg (by omega), mrow_ne (by omega)]
  have l9 : m1 999 = m 999 := by
    rw [← em]
    dsimp only
    rw [if_neg (by omega), mrow_ne (by decide)]
  have l65 : ∀ j : Nat, j < k → m1 65 (j : Int) = ((66 + j : Nat) : Int) := fun j hj => by
    rw [← em]
    dsimp only
    rw [if_neg (by omega), mrow_same]
    omega
  have sc9 : m1 999 = sc := l9.trans w.2.2.2.2
  show mmT bL_law d _ _ Q 144 _ [(2, 65), (0, (k : Int)), (0, 1 + i / 2), (3, 0), (2, 0)] (true, bk0 k) m1
  have bl := bkN_le sc (1 + i / 2) k
  have br := tp_rng (sc := sc) (at_ := 1 + i / 2) k
  refine st_callS (kc2 := kc) (ks2 := ks) (av := [(3, 0), (0, (1 + i / 2)), (0, (k : Int)), (2, 65)]) mr_L_81 ok_L_book (c_L_book (sc := sc) hsc (by omega) (by omega) sc9 l65) rfl rfl (by omega) (by omega) (by omega) (mmCat_4 (Nat.le_of_ble_eq_true rfl)) dL_law_144 ?_
  rintro r sh' m2 ⟨E, tv, tw, rfl, rfl, hs, hlo2, h92⟩
  have w2 : IB sc ls lw m2 := IB_lo (fun a ha => (hlo2 a ha).trans (lo a ha)) (h92.trans w.2.2.2.2.symm) w
  refine st_callS (kc2 := kc) (ks2 := ks) (av := [(2, 0), (2, (tv : Int))]) mr_L_85 ok_L_tell (c_L_tell hs (fun j j0 j1 => (br j j0 j1).1) (by omega) (mFix_lo (fun a ha => (hlo2 a ha).trans (lo a ha)) hfx) (by have := w2.1.1.1; omega)) rfl rfl (by omega) (by omega) (by omega) (mmCat_4 (Nat.le_of_ble_eq_true rfl)) dL_law_147 ?_
  rintro r sh' m3 ⟨rfl, rfl, hTL, hfx3⟩
  refine sr_if_eq 163 (by omega) (by decide) dL_law_150 (fun h => absurd h (by omega)) (fun _ => ?_)
  refine st_close hfx3 ?_
  have w3 := IB_TL w2 hTL (fun j j0 j1 => (br j j0 j1).1) (by omega)
  have cs := TL_CS w2.1.2 hTL (fun j j0 j1 => (br j j0 j1).2)
  refine st_aload_n (i := 1) rfl (t := 0) rfl (by decide) dL_law_153 ?_
  refine st_iconst dL_law_154 ?_
  refine st_callV (kc2 := kc) (ks2 := ks) (av := [(0, 0)]) 0 10 mr_L_89 ok_X11_text (am_book (t := t) w3 ht (by omega) cs.1 cs.2) rfl sh_0 ⟨_, rfl, rfl, by decide⟩ rfl rfl (by omega) (by omega) (by omega) (mmCat_4 (Nat.le_of_ble_eq_true rfl)) dL_law_155 (mQ.elim fun v m4 h4 => ?_)
  obtain ⟨e4, w4⟩ := h4
  refine st_iload rfl dL_law_158 ?_
  refine sr_icmp_eq 165 (by omega) (by omega) (by decide) dL_law_160 (fun _ => ?_) (fun h => absurd h (by omega))
  refine st_iload rfl dL_law_165 ?_
  refine st_istore_n (i := 3) rfl (by decide) (lc' := [(3, 0), (2, 0), (0, lw), (0, (k : Int)), (0, ng), (0, im), (0, i), (0, x), (0, (k : Int)), (9, 0), (9, 0), (9, 0), (9, 0), (9, 0)]) rfl dL_law_167 ?_
  refine st_iconst dL_law_168 ?_
  refine st_istore (by decide) (lc' := [(3, 0), (2, 0), (0, lw), (0, (k : Int)), (0, 0), (0, im), (0, i), (0, x), (0, (k : Int)), (9, 0), (9, 0), (9, 0), (9, 0), (9, 0)]) rfl dL_law_169 ?_
  refine st_iconst dL_law_171 ?_
  refine st_istore (by decide) (lc' := [(3, 0), (2, 0), (0, lw), (0, (k : Int)), (0, 0), (0, (-1)), (0, i), (0, x), (0, (k : Int)), (9, 0), (9, 0), (9, 0), (9, 0), (9, 0)]) rfl dL_law_172 ?_
  refine st_goto 626 (by decide) dL_law_174 ?_
  refine st_locals (lcC lw (k : Int) 0 (-1) i x) ⟨Or.inr rfl, Or.inr rfl, Or.inr rfl, Or.inr rfl, Or.inr rfl, Or.inr rfl, Or.inr rfl, Or.inr rfl, Or.inl rfl, Or.inl rfl, Or.inl rfl, Or.inl rfl, Or.inl rfl, Or.inl rfl, trivial⟩ ?_
  exact kk k m4 w4
end
