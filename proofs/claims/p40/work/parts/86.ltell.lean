/-! the law's cell, pick, tell -/
theorem c_L_cell {sh : mmS} {mem : mmM} {k : Int} (hL : 0 ≤ mem 999 (-1) ∧ mem 999 (-1) ≤ 260) (hk : 0 ≤ k ∧ k ≤ 2147483647) : mmC bL_cell 0 0 0 [(3, 0), (0, k)] sh mem (rI sh mem (cellS (mem 999) k)) := by
  refine mmC_of [(3, 0), (0, k)] ok_L_cell.2.2.2.2 rfl (Nat.le_of_ble_eq_true rfl) ?_
  refine st_iload_n (i := 1) rfl rfl dL_cell_0 ?_
  refine st_aload_n (i := 0) rfl (t := 1) rfl (by decide) dL_cell_1 ?_
  refine st_slen dL_cell_2 hL.1 ?_
  refine sr_icmp_ge 12 (by omega) (by omega) (by decide) dL_cell_3 (fun h => ?_) (fun h => ?_)
  · refine st_iconst dL_cell_12 ?_
    exact st_ireturn rfl dL_cell_13 ⟨by unfold cellS; rw [if_neg (by omega)], rfl, rfl⟩
  · refine st_aload_n (i := 0) rfl (t := 1) rfl (by decide) dL_cell_6 ?_
    refine st_iload_n (i := 1) rfl rfl dL_cell_7 ?_
    refine st_sloadR hk.1 (by omega) (by omega) dL_cell_8 (fun hr => ?_)
    refine st_goto 13 (by decide) dL_cell_9 ?_
    exact st_ireturn rfl dL_cell_13 ⟨by unfold cellS; rw [if_pos (by omega)], rfl, rfl⟩
theorem c_L_pick {sh : mmS} {mem : mmM} {k n : Int} (hL : 0 ≤ mem 999 (-1) ∧ mem 999 (-1) ≤ 260) (hk : 0 ≤ k ∧ k ≤ 2147483647) (hn : 0 < n ∧ n < 2147483648) : mmC bL_pick 1 0 0 [(3, 0), (0, k), (0, n)] sh mem (rI sh mem (xS (mem 999) k % n)) := by
  refine mmC_of [(3, 0), (0, k), (0, n)] ok_L_pick.2.2.2.2 rfl (Nat.le_of_ble_eq_true rfl) ?_
  refine st_aload_n (i := 0) rfl (t := 1) rfl (by decide) dL_pick_0 ?_
  refine st_iload_n (i := 1) rfl rfl dL_pick_1 ?_
  refine st_callS (kc2 := 0) (ks2 := 0) (av := [(3, 0), (0, k)]) mr_L_7 ok_L_cell (c_L_cell hL hk) rfl rfl (by omega) (by omega) (by omega) (mmCat_4 (Nat.le_of_ble_eq_true rfl)) dL_pick_2 (rI.elim ?_)
  refine st_ldc cw_L_13 dL_pick_5 ?_
  refine st_iand dL_pick_7 ?_
  show mmT bL_pick 1 0 0 _ _ _ [(0, xS (mem 999) k)] sh mem
  refine st_iload_n (i := 2) rfl rfl dL_pick_8 ?_
  refine sr_irem (xS_rng _ _) hn dL_pick_9 ?_
  exact st_ireturn rfl dL_pick_10 ⟨rfl, rfl, rfl⟩
theorem mSH_plain : ∀ q ∈ mSH, q.1 ≠ 11 ∧ q.1 ≠ 12 ∧ q.1 ≠ 25 ∧ q.1 ≠ 26 := by decide +kernel
theorem own_ge {E : List (Nat × Nat)} {a : Nat} {q : Nat × Nat} (h : (mSH ++ E)[a]? = some q) (hq : q.1 = 11 ∨ q.1 = 12 ∨ q.1 = 25 ∨ q.1 = 26) : 65 ≤ a := by
  by_cases c : a < 65
  · have := mSH_plain q (List.mem_of_getElem? (getL_app' h (by rw [mSH_len]; exact c)))
    omega
  · omega
theorem isStr_keep {E : List (Nat × Nat)} {mem m : mmM} {x w : mmV} {n : Nat} {f : Int → Int} (h : isStr (true, mSH ++ E) mem x w n f) (hm : ∀ a, 65 ≤ a → m a = mem a) : isStr (true, mSH ++ E) m x w n f := by
  refine ⟨?_, ?_, h.2.2⟩
  · rcases h.1 with ⟨a, rfl, h1, ⟨b, rfl, h2⟩, h3⟩ | h1
    · have e := hm a (own_ge h1 (Or.inl rfl))
      exact Or.inl ⟨a, rfl, h1, ⟨b, rfl, by rw [e]; exact h2⟩, by rw [e]; exact h3⟩
    · exact Or.inr h1
  · rcases h.2.1 with ⟨b, rfl, h1, h2⟩ | h1
    · have e := hm b (own_ge h1 (Or.inr (Or.inr (Or.inl rfl))))
      exact Or.inl ⟨b, rfl, h1, fun j h3 h4 => by rw [e]; exact h2 j h3 h4⟩
    · exact Or.inr h1
theorem isStr.mini {sh : mmS} {mem : mmM} {x : mmV} {tv n : Nat} {f : Int → Int} (h : isStr sh mem x (2, (tv : Int)) n f) : sh.2[tv]? = some (25, n) ∧ ∀ j : Int, 0 ≤ j → j < n → mem tv j = f j := by
  rcases h.2.1 with ⟨b, e, h1, h2⟩ | ⟨i, -, e, -⟩
  · cases e
    exact ⟨h1, fun j g1 g2 => by
      have := h2 j.toNat (by omega) (by omega)
      rwa [Int.toNat_of_nonneg g1] at this⟩
  · cases e
def chF (f : Int → Int) (n i : Int) : Int := if i < n then f i else 0
theorem chF_rng {f : Int → Int} {n i : Int} (h : ∀ j : Int, 0 ≤ j → j < n → 0 ≤ f j ∧ f j ≤ 127) (hi : 0 ≤ i) : 0 ≤ chF f n i ∧ chF f n i ≤ 127 := by
  unfold chF
  split
  · exact h i hi (by assumption)
  · omega
theorem tl_step {E : List (Nat × Nat)} {mem : mmM} {d kc ks : Nat} {Q : mmQ} {x : mmV} {tv n : Nat} {f : Int → Int} {k X j : Int} (hd : 5 ≤ d) (h : isStr (true, mSH ++ E) mem x (2, (tv : Int)) n f) (hk : 0 ≤ k ∧ k ≤ 200) (hj : 0 ≤ j ∧ j < 4) (hX : 0 ≤ X ∧ X < 8388608)
  (kk : mmT bL_tell d kc ks Q 21 [(2, 0), x, (0, k), (0, 256 * X + chF f n (k + j)), (0, j + 1)] [] (true, mSH ++ E) mem) : mmT bL_tell d kc ks Q 21 [(2, 0), x, (0, k), (0, X), (0, j)] [] (true, mSH ++ E) mem := by
  have hn := h.2.2.1
  refine st_iload rfl dL_tell_21 ?_
  refine st_iconst dL_tell_23 ?_
  refine sr_icmp_ge 62 (by omega) (by omega) (by decide) dL_tell_24 (fun h => absurd h (by omega)) (fun _ => ?_)
  refine st_iload_n (i := 3) rfl rfl dL_tell_27 ?_
  refine st_bipush rfl dL_tell_28 ?_
  refine st_ishl dL_tell_30 ?_
  rw [shl8 hX]
  refine st_iload_n (i := 2) rfl rfl dL_tell_31 ?_
  refine st_iload rfl dL_tell_32 ?_
  refine st_iadd dL_tell_34 ?_
  refine st_aloadV h.k (i := 1) rfl rfl dL_tell_35 ?_
  refine st_callVs (kc2 := kc) (ks2 := ks) (av := []) h rfl mr_L_20 ok_J0_length_8abf5 (c_J0_length h) rfl rfl (by omega) (by omega) (by omega) (mmCat_4 (Nat.le_of_ble_eq_true rfl)) dL_tell_36 (rI.elim ?_)
  refine sr_icmp_ge 53 (by omega) (by omega) (by decide) dL_tell_39 (fun hkj => ?_) (fun hkj => ?_)
  · rw [chF, if_neg (by omega)] at kk
    refine st_iconst dL_tell_53 ?_
    refine st_ior dL_tell_54 ?_
    rw [or8 hX (by omega)]
    refine st_istore_n (i := 3) rfl (by decide) (lc' := [(2, 0), x, (0, k), (0, (256 * X + 0)), (0, j)]) rfl dL_tell_55 ?_
    refine st_iinc (y := (j + 1)) (by decide) (i := 4) rfl rfl (lc' := [(2, 0), x, (0, k), (0, (256 * X + 0)), (0, (j + 1))]) rfl dL_tell_56 ?_
    refine st_goto 21 (by decide) dL_tell_59 ?_
    exact kk
  · rw [chF, if_pos (by omega)] at kk
    refine st_aloadV h.k (i := 1) rfl rfl dL_tell_42 ?_
    refine st_iload_n (i := 2) rfl rfl dL_tell_43 ?_
    refine st_iload rfl dL_tell_44 ?_
    refine st_iadd dL_tell_46 ?_
    refine st_callVs (kc2 := kc) (ks2 := ks) (av := [(0, (k + j))]) h rfl mr_L_26 ok_J0_charAt_5068e (c_J0_charAt h h.mini.1 (h.mini.2 _ (by omega) (by omega)) ⟨by omega, by omega⟩) rfl rfl (by omega) (by omega) (by omega) (mmCat_4 (Nat.le_of_ble_eq_true rfl)) dL_tell_47 (rI.elim ?_)
    refine st_goto 54 (by decide) dL_tell_50 ?_
    refine st_ior dL_tell_54 ?_
    rw [or8 hX (by have := h.rng (k + j) (by omega) (by omega); omega)]
    refine st_istore_n (i := 3) rfl (by decide) (lc' := [(2, 0), x, (0, k), (0, (256 * X + (f (k + j)))), (0, j)]) rfl dL_tell_55 ?_
    refine st_iinc (y := (j + 1)) (by decide) (i := 4) rfl rfl (lc' := [(2, 0), x, (0, k), (0, (256 * X + (f (k + j)))), (0, (j + 1))]) rfl dL_tell_56 ?_
    refine st_goto 21 (by decide) dL_tell_59 ?_
    exact kk
/-- the tape so far -/
def TL (mem0 : mmM) (n : Nat) (f : Int → Int) (k : Int) (m : mmM) : Prop := m 1 1 = k ∧ (∀ i, m 2 i = if 0 ≤ i ∧ i < k then f i else mem0 2 i) ∧ (∀ j, j ≠ 1 → m 1 j = mem0 1 j) ∧ ∀ a, a ≠ 1 → a ≠ 2 → m a = mem0 a
def pk4 (f : Int → Int) (n k : Int) : Int := 256 * (256 * (256 * chF f n k + chF f n (k + 1)) + chF f n (k + 2)) + chF f n (k + 3)
theorem by20_pk {f : Int → Int} {n k : Int} (hf : ∀ j : Int, 0 ≤ j → j < n → 0 ≤ f j ∧ f j ≤ 127) (hk : 0 ≤ k) (i : Nat) : by20 (pk4 f n k) 0 0 0 0 i = if i < 4 then chF f n (k + i) else 0 := by
  have c0 := chF_rng hf hk
  have c1 := chF_rng hf (show 0 ≤ k + 1 by omega)
  have c2 := chF_rng hf (show 0 ≤ k + 2 by omega)
  have c3 := chF_rng hf (show 0 ≤ k + 3 by omega)
  have h4 := byX_pack (a := chF f n k) (b := chF f n (k + 1)) (c := chF f n (k + 2)) (d := chF f n (k + 3)) (by omega) (by omega) (by omega) (by omega)
  unfold by20
  by_cases hi : i < 4
  · rw [if_pos hi, if_pos hi]
    unfold pk4
    rcases (show i = 0 ∨ i = 1 ∨ i = 2 ∨ i = 3 by omega) with rfl | rfl | rfl | rfl
    · exact h4.1.trans (by rw [show k + ((0 : Nat) : Int) = k by omega])
    · exact h4.2.1
    · exact h4.2.2.1
    · exact h4.2.2.2
  · rw [if_neg hi, if_neg hi]
    have z : ∀ y : Int, byX 0 y = 0 := by
      intro y
      unfold byX
      have e : ushr32 0 y = 0 := by
        unfold ushr32
        have e2 : (Int32.ofInt 0).toUInt32 = 0 := rfl
        rw [e2, UInt32.zero_shiftRight]
        rfl
      rw [e]
      rfl
    split
    · exact z _
    · split
      · exact z _
      · split <;> exact z _
theorem apN_pk {B : Nat → Int} {f : Int → Int} {n : Nat} {k : Int} {m : mmM} (hf : ∀ j : Int, 0 ≤ j → j < n → 1 ≤ f j ∧ f j ≤ 127) (hk : 0 ≤ k ∧ k < n) (hm : m 1 1 = k) (hB : ∀ i : Nat, B i = if i < 4 then chF f n (k + i) else 0) : ∀ i : Nat, apN 2 1 1 B m i 1 1 = (if k + (min i 4 : Nat) < n then k + (min i 4 : Nat) else n) ∧ ∀ t : Int, apN 2 1 1 B m i 2 t = if k ≤ t ∧ t < k + (min i 4 : Nat) ∧ t < n then f t else m 2 t := by
  intro i
  induction i with
  | zero =>
    refine ⟨?_, fun t => ?_⟩
    · show m 1 1 = _
      rw [hm, if_pos (by omega)]
      omega
    · show m 2 t = _
      rw [if_neg (by omega)]
  | succ i ih =>
    obtain ⟨ih1, ih2⟩ := ih
    show ap1 2 1 1 (B i) (apN 2 1 1 B m i) 1 1 = _ ∧ ∀ t, ap1 2 1 1 (B i) (apN 2 1 1 B m i) 2 t = _
    rw [ap1_size (by decide), ap1_row (by decide), ih1, hB i]
    by_cases h4 : i < 4
    · rw [if_pos h4]
      unfold chF
      by_cases hn : k + i < n
      · have f1 := hf (k + i) (by omega) hn
        rw [if_pos hn]
        refine ⟨?_, fun t => ?_⟩
        · have e0 : nzS (f (k + i)) = 1 := if_neg (by omega)
          rw [e0]
          split <;> split <;> omega
        · rw [if_neg (by omega), if_pos (by omega)]
          unfold updF
          by_cases e : t = k + i
          · rw [if_pos (by omega), if_pos (by omega), e]
          · rw [if_neg (by omega), ih2 t]
            by_cases c : k ≤ t ∧ t < k + (min i 4 : Nat) ∧ t < n
            · rw [if_pos c, if_pos (by omega)]
            · rw [if_neg c, if_neg (by omega)]
      · rw [if_neg hn]
        refine ⟨?_, fun t => ?_⟩
        · unfold nzS
          rw [if_pos rfl]
          split <;> split <;> omega
        · rw [if_pos rfl, ih2 t]
          by_cases c : k ≤ t ∧ t < k + (min i 4 : Nat) ∧ t < n
          · rw [if_pos c, if_pos (by omega)]
          · rw [if_neg c, if_neg (by omega)]
    · rw [if_neg h4]
      refine ⟨?_, fun t => ?_⟩
      · unfold nzS
        rw [if_pos rfl]
        split <;> split <;> omega
      · rw [if_pos rfl, ih2 t]
        by_cases c : k ≤ t ∧ t < k + (min i 4 : Nat) ∧ t < n
        · rw [if_pos c, if_pos (by omega)]
        · rw [if_neg c, if_neg (by omega)]
theorem TL_fed {mem0 m : mmM} {n : Nat} {f : Int → Int} {k : Int} (hf : ∀ j : Int, 0 ≤ j → j < n → 1 ≤ f j ∧ f j ≤ 127) (hn : n ≤ 160) (hk : 0 ≤ k ∧ k < n) (h : TL mem0 n f k m) : TL mem0 n f (if k + 4 < n then k + 4 else n) (fedM 2 1 1 (by20 (pk4 f n k) 0 0 0 0) m) := by
  obtain ⟨h1, h2, h3, h4⟩ := h
  have hB := by20_pk (f := f) (n := n) (k := k) (fun j g1 g2 => by have := hf j g1 g2; omega) hk.1
  obtain ⟨a1, a2⟩ := apN_pk hf hk h1 hB 20
  have hs := apN_size (r := 2) (s := 1) (by decide) 1 (by20 (pk4 f n k) 0 0 0 0) m 20
  have hle : m 1 1 + nzN (by20 (pk4 f n k) 0 0 0 0) 20 ≤ 160 := by
    rw [← hs, a1]
    split <;> omega
  unfold fedM
  rw [if_pos hle]
  refine ⟨?_, fun i => ?_, fun j hj => ?_, fun a g1 g2 => ?_⟩
  · rw [a1]
    rfl
  · rw [a2, h2]
    by_cases c : k ≤ i ∧ i < k + (min 20 4 : Nat) ∧ i < n
    · rw [if_pos c, if_pos (by split <;> omega)]
    · rw [if_neg c]
      by_cases e : 0 ≤ i ∧ i < k
      · rw [if_pos e, if_pos (by split <;> omega)]
      · rw [if_neg e, if_neg (by split <;> omega)]
  · rw [apN_slot (by decide) _ _ _ hj]
    exact h3 j hj
  · rw [apN_else _ _ _ g2 g1]
    exact h4 a g1 g2
/-- tell, from the head of its loop on -/
theorem tl_loop {E : List (Nat × Nat)} {mem0 : mmM} {d : Nat} {Q : mmQ} {x : mmV} {tv n : Nat} {f : Int → Int} (hd : 5 ≤ d) (hx0 : isStr (true, mSH ++ E) mem0 x (2, (tv : Int)) n f) (hf : ∀ j : Int, 0 ≤ j → j < n → 1 ≤ f j ∧ f j ≤ 127) (hn : n ≤ 160)
  (kk : ∀ (m : mmM) (k : Int), TL mem0 n f n m → mFix m → (n : Int) ≤ k → k ≤ 200 → mmT bL_tell d 0 0 Q 8 [(2, 0), x, (0, k), (9, 0), (9, 0)] [] (true, mSH ++ E) m) : ∀ (N : Nat) (m : mmM) (k : Int), (n : Int) - k ≤ 4 * N → 0 ≤ k → k ≤ n + 3 → TL mem0 n f (if k < n then k else n) m → mFix m → mmT bL_tell d 0 0 Q 8 [(2, 0), x, (0, k), (9, 0), (9, 0)] [] (true, mSH ++ E) m := by
  intro N
  induction N with
  | zero =>
    intro m k h1 h2 h3 hT hfx
    rw [if_neg (by omega)] at hT
    exact kk m k hT hfx (by omega) (by omega)
  | succ N ih =>
    intro m k h1 h2 h3 hT hfx
    by_cases hkn : k < n
    · rw [if_pos hkn] at hT
      have hx := isStr_keep hx0 (m := m) (fun a ha => hT.2.2.2 a (by omega) (by omega))
      have hc0 := chF_rng (f := f) (n := n) (i := k) (fun j g1 g2 => by have := hf j g1 g2; omega) (by omega)
      have hc1 := chF_rng (f := f) (n := n) (i := k + 1) (fun j g1 g2 => by have := hf j g1 g2; omega) (by omega)
      have hc2 := chF_rng (f := f) (n := n) (i := k + 2) (fun j g1 g2 => by have := hf j g1 g2; omega) (by omega)
      have hc0 : 0 ≤ chF f n (k + 0) ∧ chF f n (k + 0) ≤ 127 := by rw [show k + 0 = k by omega]; exact hc0
      rw [show k + 1 = k + (0 + 1) by omega] at hc1
      rw [show k + 2 = k + (0 + 1 + 1) by omega] at hc2
      refine st_iload_n (i := 2) rfl rfl dL_tell_8 ?_
      refine st_aloadV hx.k (i := 1) rfl rfl dL_tell_9 ?_
      refine st_callVs (kc2 := 0) (ks2 := 0) (av := []) hx rfl mr_L_20 ok_J0_length_8abf5 (c_J0_length hx) rfl rfl (by omega) (by omega) (by omega) (mmCat_4 (Nat.le_of_ble_eq_true rfl)) dL_tell_10 (rI.elim ?_)
      refine sr_icmp_ge 78 (by omega) (by omega) (by decide) dL_tell_13 (fun h => absurd h (by omega)) (fun _ => ?_)
      refine st_iconst dL_tell_16 ?_
      refine st_istore_n (i := 3) rfl (by decide) (lc' := [(2, 0), x, (0, k), (0, 0), (9, 0)]) rfl dL_tell_17 ?_
      refine st_iconst dL_tell_18 ?_
      refine st_istore (by decide) (lc' := [(2, 0), x, (0, k), (0, 0), (0, 0)]) rfl dL_tell_19 ?_
      refine tl_step (by omega) hx (by omega) (by omega) (by omega) ?_
      refine tl_step (by omega) hx (by omega) (by omega) (by omega) ?_
      refine tl_step (by omega) hx (by omega) (by omega) (by omega) ?_
      refine tl_step (by omega) hx (by omega) (by omega) (by omega) ?_
      rw [show (256 * (256 * (256 * (256 * 0 + chF f n (k + 0)) + chF f n (k + (0 + 1))) + chF f n (k + (0 + 1 + 1))) + chF f n (k + (0 + 1 + 1 + 1))) = pk4 f n k by unfold pk4; rw [show k + 0 = k by omega, show k + (0 + 1) = k + 1 by omega, show k + (0 + 1 + 1) = k + 2 by omega, show k + (0 + 1 + 1 + 1) = k + 3 by omega]; omega]
      refine st_iload rfl dL_tell_21 ?_
      refine st_iconst dL_tell_23 ?_
      refine sr_icmp_ge 62 (by omega) (by omega) (by decide) dL_tell_24 (fun _ => ?_) (fun h => absurd h (by omega))
      refine st_aload_n (i := 0) rfl (t := 0) rfl (by decide) dL_tell_62 ?_
      refine st_iload_n (i := 3) rfl rfl dL_tell_63 ?_
      refine st_iconst dL_tell_64 ?_
      refine st_iconst dL_tell_65 ?_
      refine st_iconst dL_tell_66 ?_
      refine st_iconst dL_tell_67 ?_
      refine st_callV (kc2 := 0) (ks2 := 0) (av := [(0, (pk4 f n k)), (0, 0), (0, 0), (0, 0), (0, 0)]) 0 10 mr_L_30 ok_X11_feed (con_lift E (c_X11_feed m (pk4 f n k) 0 0 0 0 (by rw [hT.1]; omega)) hfx (fun v m' hv a ha => by rw [hv.2]; unfold fedM; split; exact apN_else _ _ _ (by omega) (by omega) _; rfl)) rfl (getL_app sh_0) ⟨_, rfl, rfl, by decide⟩ rfl rfl (by omega) (by omega) (by omega) (mmCat_4 (Nat.le_of_ble_eq_true rfl)) dL_tell_68 ?_
      rintro r sh' m' ⟨⟨z, rfl, -, rfl⟩, rfl, hfx'⟩
      refine st_pop (Nat.ne_of_beq_eq_false rfl) dL_tell_71 ?_
      refine st_iinc (y := (k + 4)) (by decide) (i := 2) rfl rfl (lc' := [(2, 0), x, (0, (k + 4)), (0, (pk4 f n k)), (0, (0 + 1 + 1 + 1 + 1))]) (mmSet_v (i := 1) rfl hx.k (Nat.ne_of_beq_eq_false rfl) rfl) dL_tell_72 ?_
      refine st_goto 8 (by decide) dL_tell_75 ?_
      refine st_locals [(2, 0), x, (0, (k + 4)), (9, 0), (9, 0)] ⟨Or.inr rfl, Or.inr rfl, Or.inr rfl, Or.inl rfl, Or.inl rfl, trivial⟩ ?_
      refine ih _ (k + 4) (by omega) (by omega) (by omega) ?_ hfx'
      exact TL_fed hf hn ⟨h2, hkn⟩ hT
    · rw [if_neg hkn] at hT
      exact kk m k hT hfx (by omega) (by omega)
def teP (E : List (Nat × Nat)) (mem : mmM) (n : Nat) (f : Int → Int) : mmQ := fun r sh' m' => r = some (0, 1) ∧ sh' = (true, mSH ++ E) ∧ TL mem n f n m' ∧ mFix m'
theorem c_L_tell {E : List (Nat × Nat)} {mem : mmM} {x : mmV} {tv n : Nat} {f : Int → Int} (h : isStr (true, mSH ++ E) mem x (2, (tv : Int)) n f) (hf : ∀ j : Int, 0 ≤ j → j < n → 1 ≤ f j ∧ f j ≤ 127) (hn : n ≤ 160) (hfx : mFix mem) (ht : 0 ≤ mem 1 1) : mmC bL_tell 5 0 0 [(2, 0), x] (true, mSH ++ E) mem (teP E mem n f) := by
  refine mmC_of [(2, 0), x, (9, 0), (9, 0), (9, 0)] ok_L_tell.2.2.2.2 (by rw [mmEntry_n _ (show ((2, 0) : mmV).1 ≠ 1 from Nat.ne_of_beq_eq_false rfl), mmEntry_v [] h.k]; rfl) (by rw [mmEntry_n _ (show ((2, 0) : mmV).1 ≠ 1 from Nat.ne_of_beq_eq_false rfl), mmEntry_v [] h.k]; exact Nat.le_of_ble_eq_true rfl) ?_
  refine st_aload_n (i := 0) rfl (t := 0) rfl (by decide) dL_tell_0 ?_
  refine st_iconst dL_tell_1 ?_
  refine st_callV (kc2 := 0) (ks2 := 0) (av := [(0, 0)]) 0 10 mr_L_14 ok_X11_end (con_lift E (c_X11_end mem 0 (by omega)) hfx (fun v m' hv a ha => by rw [hv.2]; split; exact mset_ne (by omega); rfl)) rfl (getL_app sh_0) ⟨_, rfl, rfl, by decide⟩ rfl rfl (by omega) (by omega) (by omega) (mmCat_4 (Nat.le_of_ble_eq_true rfl)) dL_tell_2 ?_
  rintro r sh' m' ⟨⟨z, rfl, -, hm⟩, rfl, hfx'⟩
  rw [if_pos (by omega)] at hm
  subst hm
  refine st_pop (Nat.ne_of_beq_eq_false rfl) dL_tell_5 ?_
  refine st_iconst dL_tell_6 ?_
  refine st_istore_n (i := 2) rfl (by decide) (lc' := [(2, 0), x, (0, 0), (9, 0), (9, 0)]) (mmSet_v (i := 1) rfl h.k (Nat.ne_of_beq_eq_false rfl) rfl) dL_tell_7 ?_
  refine tl_loop (mem0 := mset mem 1 1 0) (f := f) (by omega) (isStr_keep h (fun a ha => mset_ne (by omega))) hf hn (fun m k hT hfx2 hk1 hk2 => ?_) 50 _ 0 (by omega) (by omega) (by omega) ?_ hfx'
  · have hx := isStr_keep h (m := m) (fun a ha => by rw [hT.2.2.2 a (by omega) (by omega), mset_ne (by omega)])
    refine st_iload_n (i := 2) rfl rfl dL_tell_8 ?_
    refine st_aloadV hx.k (i := 1) rfl rfl dL_tell_9 ?_
    refine st_callVs (kc2 := 0) (ks2 := 0) (av := []) hx rfl mr_L_20 ok_J0_length_8abf5 (c_J0_length hx) rfl rfl (by omega) (by omega) (by omega) (mmCat_4 (Nat.le_of_ble_eq_true rfl)) dL_tell_10 (rI.elim ?_)
    refine sr_icmp_ge 78 (by omega) (by omega) (by decide) dL_tell_13 (fun _ => ?_) (fun h => absurd h (by omega))
    refine st_aload_n (i := 0) rfl (t := 0) rfl (by decide) dL_tell_78 ?_
    refine st_iconst dL_tell_79 ?_
    refine st_callV (kc2 := 0) (ks2 := 0) (av := [(0, 3)]) 0 10 mr_L_34 ok_X11_count (con_lift E (c_X11_count m 3 (by omega)) hfx2 (fun v m' hv a ha => by rw [hv.2])) rfl (getL_app sh_0) ⟨_, rfl, rfl, by decide⟩ rfl rfl (by omega) (by omega) (by omega) (mmCat_4 (Nat.le_of_ble_eq_true rfl)) dL_tell_80 ?_
    rintro r sh' m' ⟨⟨v, rfl, hv, rfl⟩, rfl, hfx3⟩
    rw [if_neg (by decide), if_neg (by decide), if_neg (by decide), if_pos rfl, hT.1] at hv
    subst hv
    refine st_aloadV hx.k (i := 1) rfl rfl dL_tell_83 ?_
    refine st_callVs (kc2 := 0) (ks2 := 0) (av := []) hx rfl mr_L_20 ok_J0_length_8abf5 (c_J0_length hx) rfl rfl (by omega) (by omega) (by omega) (mmCat_4 (Nat.le_of_ble_eq_true rfl)) dL_tell_84 (rI.elim ?_)
    refine sr_icmp_ne 94 (by omega) (by omega) (by decide) dL_tell_87 (fun h => absurd h (by omega)) (fun _ => ?_)
    refine st_iconst dL_tell_90 ?_
    refine st_goto 95 (by decide) dL_tell_91 ?_
    refine st_zreturn rfl (Or.inr rfl) dL_tell_95 ⟨rfl, rfl, ⟨hT.1, fun i => ?_, fun j hj => ?_, fun a g1 g2 => ?_⟩, hfx3⟩
    · rw [hT.2.1, mset_ne (by decide)]
    · rw [hT.2.2.1 j hj, mset_at, if_neg hj]
    · rw [hT.2.2.2 a g1 g2, mset_ne g1]
  · by_cases c : (0 : Int) < n
    · rw [if_pos c]
      exact ⟨mset_same _ _ _ _, fun i => by rw [if_neg (by omega)], fun _ _ => rfl, fun _ _ _ => rfl⟩
    · rw [if_neg c]
      exact ⟨by rw [mset_same]; omega, fun i => by rw [if_neg (by omega)], fun _ _ => rfl, fun _ _ _ => rfl⟩
