/-! the law's book, whole -/
def bk0 (n : Nat) : List (Nat × Nat) := (mSH ++ [(26, n)]) ++ List.replicate n (20, 3)
theorem bk0_len (n : Nat) : (bk0 n).length = 66 + n := by
  unfold bk0
  rw [List.length_append, List.length_append, mSH_len, List.length_replicate]
  rfl
theorem bk0_65 (n : Nat) : (bk0 n)[65]? = some (26, n) := by
  unfold bk0
  refine getL_app ?_
  rw [show (65 : Nat) = mSH.length from mSH_len.symm]
  exact newR
theorem bk0_row {n k : Nat} (h : k < n) : (bk0 n)[66 + k]? = some (20, 3) := by
  unfold bk0
  have hl : (mSH ++ [(26, n)]).length = 66 := by rw [List.length_append, mSH_len]; rfl
  rw [List.getElem?_append_right (by omega), hl, show 66 + k - 66 = k by omega, List.getElem?_replicate, if_pos h]
theorem bk0_mS {n a : Nat} {q : Nat × Nat} (h : mSH[a]? = some q) : (bk0 n)[a]? = some q := getL_app (getL_app h)
/-- ahead of row k -/
def bkI (sc : Int → Int) (at_ : Int) (n : Nat) (mem0 : mmM) (k : Nat) (L : List (Nat × Nat)) (mem : mmM) (tv tw : mmV) : Prop := (∃ E, L = bk0 n ++ E ∧ E.length ≤ 20 * k) ∧ (∀ j : Nat, j < n → mem 65 (j : Int) = ((66 + j : Nat) : Int)) ∧ isStr (true, L) mem tv tw (bkN sc at_ k) (bkT sc at_ k) ∧ (∀ a, a < 65 → mem a = mem0 a) ∧ mem 999 = sc ∧ (∀ z, tw = (2, z) → z < L.length) ∧ (0 < k → ∃ a b : Nat, tv = (2, (a : Int)) ∧ tw = (2, (b : Int)))
theorem isStr.keepR {L : List (Nat × Nat)} {mem m : mmM} {x w : mmV} {n c r : Nat} {f : Int → Int} (h : isStr (true, L) mem x w n f) (hr : L[r]? = some (20, c)) (hm : ∀ a, a ≠ r → m a = mem a) : isStr (true, L) m x w n f := by
  refine ⟨?_, ?_, h.2.2⟩
  · rcases h.1 with ⟨a, rfl, h1, ⟨b, rfl, h2⟩, h3⟩ | h1
    · have e := hm a (fun e => by rw [e] at h1; cases hr.symm.trans h1)
      exact Or.inl ⟨a, rfl, h1, ⟨b, rfl, by rw [e]; exact h2⟩, by rw [e]; exact h3⟩
    · exact Or.inr h1
  · rcases h.2.1 with ⟨b, rfl, h1, h2⟩ | h1
    · have e := hm b (fun e => by rw [e] at h1; cases hr.symm.trans h1)
      exact Or.inl ⟨b, rfl, h1, fun j h3 h4 => by rw [e]; exact h2 j h3 h4⟩
    · exact Or.inr h1
theorem bk_iter {d kc ks : Nat} {Q : mmQ} {n k : Nat} {L : List (Nat × Nat)} {mem0 mem : mmM} {tv tw : mmV} {sc : Int → Int} {at_ ac wo : Int} (hd : 9 ≤ d) (hI : bkI sc at_ n mem0 k L mem tv tw) (hk : k < n) (hn : n ≤ 14) (hsc : 0 ≤ sc (-1) ∧ sc (-1) ≤ 260) (hat : 0 ≤ at_ ∧ at_ ≤ 1000) (hace : 1 + xS sc (at_ + 24) % 4 = ac) (hwoe : 1 + xS sc (at_ + 25) % 4 = wo)
  (kk : ∀ (t4 : Nat) (L5 : List (Nat × Nat)) (m5 : mmM) (x : Int), bkI sc at_ n mem0 (k + 1) L5 m5 (2, (t4 : Int)) (2, ((t4 + 1 : Nat) : Int)) → mmT bL_book d kc ks Q 33 [(3, 0), (0, at_), (0, (n : Int)), (2, 65), (2, (t4 : Int)), (0, ac), (0, wo), (0, ((k : Int) + 1)), (0, x)] [] (true, L5) m5) : mmT bL_book d (15 + kc) (9010 + ks) Q 33 [(3, 0), (0, at_), (0, (n : Int)), (2, 65), tv, (0, ac), (0, wo), (0, (k : Int)), (9, 0)] [] (true, L) mem := by
  have hac : 0 < ac ∧ ac < 2147483648 := by have := mod_rng (x := xS sc (at_ + 24)) (n := 4) (by omega); omega
  have hwo : 0 < wo ∧ wo < 2147483648 := by have := mod_rng (x := xS sc (at_ + 25)) (n := 4) (by omega); omega
  have hac4 : ac ≤ 4 := by have := mod_rng (x := xS sc (at_ + 24)) (n := 4) (by omega); omega
  have hwo4 : wo ≤ 4 := by have := mod_rng (x := xS sc (at_ + 25)) (n := 4) (by omega); omega
  have h999 : mem 999 = sc := hI.2.2.2.2.1
  have htv := hI.2.2.1.k
  have h66 := hI.2.1 k hk
  have hbn := bkN_le sc at_ k
  have h65 : L[65]? = some (26, n) := by
    obtain ⟨⟨E, rfl, -⟩, -⟩ := hI
    exact getL_app (bk0_65 n)
  have hrow : L[66 + k]? = some (20, 3) := by
    obtain ⟨⟨E, rfl, -⟩, -⟩ := hI
    exact getL_app (bk0_row hk)
  have hlen : L.length ≤ 66 + n + 20 * k ∧ 66 + n ≤ L.length := by
    obtain ⟨⟨E, rfl, hE⟩, -⟩ := hI
    rw [List.length_append, bk0_len]
    omega
  refine st_iload rfl dL_book_33 ?_
  refine st_iload_n (i := 2) rfl rfl dL_book_35 ?_
  refine sr_icmp_ge 212 (by omega) (by omega) (by decide) dL_book_36 (fun h => absurd h (by omega)) (fun _ => ?_)
  refine st_aload_n (i := 0) rfl (t := 1) rfl (by decide) dL_book_39 ?_
  refine st_iload_n (i := 1) rfl rfl dL_book_40 ?_
  refine st_iload rfl dL_book_41 ?_
  refine st_iadd dL_book_43 ?_
  refine st_callS (kc2 := 15 + kc) (ks2 := 9010 + ks) (av := [(3, 0), (0, (at_ + (k : Int)))]) mr_L_7 ok_L_cell (c_L_cell (by rw [h999]; exact hsc) (by omega)) rfl rfl (by omega) (by omega) (by omega) (mmCat_4 (Nat.le_of_ble_eq_true rfl)) dL_book_44 (rI.elim ?_)
  refine st_ldc cw_L_13 dL_book_47 ?_
  refine st_iand dL_book_49 ?_
  rw [h999]
  have hx := xS_rng sc (at_ + (k : Int))
  show mmT bL_book d _ _ _ _ _ [(0, xS sc (at_ + (k : Int)))] (true, L) mem
  generalize hxe : xS sc (at_ + (k : Int)) = x at hx
  refine st_istore (by decide) (lc' := [(3, 0), (0, at_), (0, (n : Int)), (2, 65), tv, (0, ac), (0, wo), (0, (k : Int)), (0, x)]) rfl dL_book_50 ?_
  refine st_aload_n (i := 3) rfl (t := 0) rfl (by decide) dL_book_52 ?_
  refine st_iload rfl dL_book_53 ?_
  refine st_aaload (v := ((66 + k : Nat) : Int)) (n := n) 65 (Or.inr (Or.inr rfl)) rfl h65 (by omega) (by omega) (by omega) (h66) dL_book_55 ?_
  refine st_iconst dL_book_56 ?_
  refine st_iload rfl dL_book_57 ?_
  refine st_iload rfl dL_book_59 ?_
  refine sr_irem hx hac dL_book_61 ?_
  have hm0 := mod_rng (x := x) hac.1
  refine st_iastore (n := 3) (66 + k) (fun h => by cases h) (by omega) rfl hrow (by decide) (by decide) (by decide) dL_book_62 ?_
  refine st_aload_n (i := 3) rfl (t := 0) rfl (by decide) dL_book_63 ?_
  refine st_iload rfl dL_book_64 ?_
  refine st_aaload (v := ((66 + k : Nat) : Int)) (n := n) 65 (Or.inr (Or.inr rfl)) rfl h65 (by omega) (by omega) (by omega) (by rw [mset_ne (by omega)]; exact h66) dL_book_66 ?_
  refine st_iconst dL_book_67 ?_
  refine st_iload rfl dL_book_68 ?_
  refine st_iconst dL_book_70 ?_
  refine sr_ishr hx (by omega) dL_book_71 ?_
  rw [show p2 4 = 16 from rfl]
  refine st_iload rfl dL_book_72 ?_
  refine sr_irem (by omega) hwo dL_book_74 ?_
  have hm1 := mod_rng (x := x / 16) hwo.1
  refine st_iastore (n := 3) (66 + k) (fun h => by cases h) (by omega) rfl hrow (by decide) (by decide) (by decide) dL_book_75 ?_
  refine st_aload_n (i := 3) rfl (t := 0) rfl (by decide) dL_book_76 ?_
  refine st_iload rfl dL_book_77 ?_
  refine st_aaload (v := ((66 + k : Nat) : Int)) (n := n) 65 (Or.inr (Or.inr rfl)) rfl h65 (by omega) (by omega) (by omega) (by rw [mset_ne (by omega), mset_ne (by omega)]; exact h66) dL_book_79 ?_
  refine st_iconst dL_book_80 ?_
  refine st_iload rfl dL_book_81 ?_
  refine st_bipush rfl dL_book_83 ?_
  refine sr_ishr hx (by omega) dL_book_85 ?_
  rw [show p2 8 = 256 from rfl]
  refine st_iconst dL_book_86 ?_
  refine sr_irem (by omega) (by omega) dL_book_87 ?_
  have hm2 := mod_rng (x := x / 256) (n := 3) (by omega)
  have hm3 := mod_rng (x := x / 1024) (n := 99) (by omega)
  have hj : ∀ c : Int, c = r2S sc at_ k → mmT bL_book d (15 + kc) (9010 + ks) Q 105 [(3, 0), (0, at_), (0, (n : Int)), (2, 65), tv, (0, ac), (0, wo), (0, (k : Int)), (0, x)] [(0, c), (0, 2), (2, ((66 + k : Nat) : Int))] (true, L) (mset (mset mem (66 + k) 0 (x % ac)) (66 + k) 1 (x / 16 % wo)) := by
    intro c hce
    have hc9 := r2S_rng sc at_ k
    rw [← hce] at hc9
    refine st_iastore (n := 3) (66 + k) (fun h => by cases h) (by omega) rfl hrow (by decide) (by decide) (by decide) dL_book_105 ?_
    generalize hm : mset (mset (mset mem (66 + k) 0 (x % ac)) (66 + k) 1 (x / 16 % wo)) (66 + k) 2 c = m
    have hmo : ∀ a, a ≠ 66 + k → m a = mem a := fun a ha => by rw [← hm, mset_ne ha, mset_ne ha, mset_ne ha]
    have hR : bkR L m n k (x % ac) (x / 16 % wo) c := by
      refine ⟨h65, by rw [hmo 65 (by omega)]; exact h66, hrow, ?_, ?_, ?_⟩
      · rw [← hm, mset_at, if_neg (by decide), mset_at, if_neg (by decide), mset_same]
      · rw [← hm, mset_at, if_neg (by decide), mset_same]
      · rw [← hm, mset_same]
    have hst : isStr (true, L) m tv tw (bkN sc at_ k) (bkT sc at_ k) := hI.2.2.1.keepR hrow hmo
    refine mmT.wk (kc := 2 + (1 + (12 + kc))) (ks := 804 + (800 + (7404 + ks))) ?_ (by omega) (by omega)
    refine bk_new (by omega) rfl (by omega) (Nat.le_of_ble_eq_true rfl) dL_book_106 dL_book_109 dL_book_110 (fun L1 m1 h1 => ?_)
    have h1 := h1 (fun _ => 0)
    have hl1 := h1.fr.len
    have hv1 := h1.vlt
    refine st_aloadW htv (i := 4) rfl dL_book_113 ?_
    refine bk_appS (by omega) mr_L_53 h1 (h1.fr.str hst) (fun h => ?_) (by omega) (by omega) (mmCat_4 (Nat.le_of_ble_eq_true rfl)) dL_book_115 (fun L2 m2 h2 => ?_)
    · have := hI.2.2.2.2.2.1 _ h
      omega
    have hl2 := h2.fr.len
    have hv2 := h2.vlt
    have hcat : ∀ j : Int, 0 ≤ j → j < ((0 + bkN sc at_ k : Nat) : Int) → 0 ≤ catT (fun _ => 0) 0 (bkT sc at_ k) j ∧ catT (fun _ => 0) 0 (bkT sc at_ k) j ≤ 127 := fun j g1 g2 => by
      rw [catT_hi (by omega)]
      exact hI.2.2.1.rng _ (by omega) (by omega)
    have hgo : ∀ (y yw : mmV), isStr (true, L2) m2 y yw (sepN k) (fun _ => 44) → (∀ z, yw ≠ (2, z)) → mmT bL_book d (12 + kc) (7404 + ks) Q 130 [(3, 0), (0, at_), (0, (n : Int)), (2, 65), tv, (0, ac), (0, wo), (0, (k : Int)), (0, x)] [y, (2, (L.length : Int))] (true, L2) m2 := by
      intro y yw hy hyw
      refine bk_mid (by omega) htv hk (by omega) (by omega) (by omega) hc9 hR h2 hcat hy (hyw _) (by unfold sepN; split <;> omega) (by omega) (by omega) (fun L4 L5 m5 hf5 hs5 => ?_)
      have hl5 := hf5.len
      refine kk L4.length L5 m5 x ⟨?_, fun j hj => ?_, ?_, fun a ha => ?_, ?_, fun z hz => ?_, fun _ => ⟨_, _, rfl, rfl⟩⟩
      · obtain ⟨⟨E, e1, e2⟩, -⟩ := hI
        obtain ⟨⟨F, e3, e4⟩, -⟩ := hf5
        exact ⟨E ++ F, by rw [e3, e1, List.append_assoc], by rw [List.length_append]; omega⟩
      · rw [(hf5.get h65).2, hmo 65 (by omega)]
        exact hI.2.1 j hj
      · show isStr (true, L5) m5 _ _ (0 + bkN sc at_ k + sepN k + 1 + 1 + sufN (r2S sc at_ k)) (catT (catT (catT (catT (catT (fun _ => 0) 0 (bkT sc at_ k)) (0 + bkN sc at_ k) (fun _ => 44)) (0 + bkN sc at_ k + sepN k) (fun _ => 65 + r0S sc at_ k)) (0 + bkN sc at_ k + sepN k + 1) (fun _ => 97 + r1S sc at_ k)) (0 + bkN sc at_ k + sepN k + 1 + 1) (decT (r2S sc at_ k)))
        have q0 : r0S sc at_ k = x % ac := by unfold r0S; rw [hxe, hace]
        have q1 : r1S sc at_ k = x / 16 % wo := by unfold r1S; rw [hxe, hwoe]
        rw [q0, q1, ← hce]
        exact hs5
      · rw [hf5.2.1 a (by omega), hmo a (by omega)]
        exact hI.2.2.2.1 a ha
      · rw [hf5.2.2, hmo 999 (by omega)]
        exact h999
      · have h7 := congrArg Prod.snd hz
        have h8 := getL_lt hs5.mini.1
        dsimp only at h7 h8
        omega
    refine st_iload rfl dL_book_118 ?_
    refine sr_if_le 128 (by omega) (by decide) dL_book_120 (fun hk0 => ?_) (fun hk0 => ?_)
    · refine st_ldcK (i := 0) (by decide) rfl rfl dL_book_128 ?_
      exact hgo _ _ (by rw [show sepN k = 0 from if_pos (by omega)]; exact kStr0) (fun z h => by cases h)
    · refine st_ldcK (i := 1) (by decide) rfl rfl dL_book_123 ?_
      refine st_goto 130 (by decide) dL_book_125 ?_
      exact hgo _ _ (by rw [show sepN k = 1 from if_neg (by omega)]; exact kStr1) (fun z h => by cases h)
  refine sr_if_ne 104 (by omega) (by decide) dL_book_88 (fun h3 => ?_) (fun h3 => ?_)
  · refine st_iconst dL_book_104 ?_
    exact hj _ (by unfold r2S; rw [hxe, if_neg (by omega)])
  · refine st_iconst dL_book_91 ?_
    refine st_iload rfl dL_book_92 ?_
    refine st_bipush rfl dL_book_94 ?_
    refine sr_ishr hx (by omega) dL_book_96 ?_
    rw [show p2 10 = 1024 from rfl]
    refine st_bipush rfl dL_book_97 ?_
    refine sr_irem (by omega) (by omega) dL_book_99 ?_
    refine st_iadd dL_book_100 ?_
    refine st_goto 105 (by decide) dL_book_101 ?_
    exact hj _ (by unfold r2S; rw [hxe, if_pos (by omega)])
def bkP (sc : Int → Int) (at_ : Int) (n : Nat) (mem0 : mmM) : mmQ := fun r sh' m' => ∃ (E : List (Nat × Nat)) (tv tw : Nat), r = some (2, (tv : Int)) ∧ sh' = (true, mSH ++ E) ∧ isStr (true, mSH ++ E) m' (2, (tv : Int)) (2, (tw : Int)) (bkN sc at_ n) (bkT sc at_ n) ∧ (∀ a, a < 65 → m' a = mem0 a) ∧ m' 999 = sc
theorem bk_loop {n : Nat} {mem0 : mmM} {sc : Int → Int} {at_ : Int} (hsc : 0 ≤ sc (-1) ∧ sc (-1) ≤ 260) (hat : 0 ≤ at_ ∧ at_ ≤ 1000) (hn : 2 ≤ n ∧ n ≤ 14) : ∀ (r k : Nat), k + r = n → ∀ (L : List (Nat × Nat)) (mem : mmM) (tv tw : mmV) , bkI sc at_ n mem0 k L mem tv tw → mmT bL_book 9 (15 * r) (9010 * r) (bkP sc at_ n mem0) 33 [(3, 0), (0, at_), (0, (n : Int)), (2, 65), tv, (0, (1 + xS sc (at_ + 24) % 4)), (0, (1 + xS sc (at_ + 25) % 4)), (0, (k : Int)), (9, 0)] [] (true, L) mem := by
  intro r
  induction r with
  | zero =>
    intro k hk L mem tv tw hI
    obtain ⟨a, b, rfl, rfl⟩ := hI.2.2.2.2.2.2 (by omega)
    refine st_iload (i := 7) rfl dL_book_33 ?_
    refine st_iload_n (i := 2) rfl rfl dL_book_35 ?_
    refine sr_icmp_ge 212 (by omega) (by omega) (by decide) dL_book_36 (fun _ => ?_) (fun h => absurd h (by omega))
    refine st_aload (i := 4) (t := 0) rfl (by decide) dL_book_212 ?_
    obtain ⟨E, rfl, hE⟩ := hI.1
    have hkn : k = n := by omega
    subst hkn
    exact st_areturn rfl (Or.inl ⟨_, rfl⟩) dL_book_214 ⟨[(26, k)] ++ List.replicate k (20, 3) ++ E, a, b, rfl, by unfold bk0; simp only [List.append_assoc], by have := hI.2.2.1; unfold bk0 at this; simpa only [List.append_assoc] using this, hI.2.2.2.1, hI.2.2.2.2.1⟩
  | succ r ih =>
    intro k hk L mem tv tw hI
    refine mmT.wk (kc := 15 + 15 * r) (ks := 9010 + 9010 * r) ?_ (by omega) (by omega)
    refine bk_iter (by omega) hI (by omega) (by omega) hsc hat rfl rfl (fun t4 L5 m5 x hI5 => ?_)
    refine st_locals [(3, 0), (0, at_), (0, (n : Int)), (2, 65), (2, (t4 : Int)), (0, (1 + xS sc (at_ + 24) % 4)), (0, (1 + xS sc (at_ + 25) % 4)), (0, ((k : Int) + 1)), (9, 0)] ⟨Or.inr rfl, Or.inr rfl, Or.inr rfl, Or.inr rfl, Or.inr rfl, Or.inr rfl, Or.inr rfl, Or.inr rfl, Or.inl rfl, trivial⟩ ?_
    exact ih (k + 1) (by omega) L5 m5 _ _ hI5
theorem c_L_book {n : Nat} {mem : mmM} {sc : Int → Int} {at_ : Int} (hsc : 0 ≤ sc (-1) ∧ sc (-1) ≤ 260) (hat : 0 ≤ at_ ∧ at_ ≤ 1000) (hn : 2 ≤ n ∧ n ≤ 14) (h999 : mem 999 = sc) (h65m : ∀ j : Nat, j < n → mem 65 (j : Int) = ((66 + j : Nat) : Int)) : mmC bL_book 9 (15 * n) (9010 * n) [(3, 0), (0, at_), (0, (n : Int)), (2, 65)] (true, bk0 n) mem (bkP sc at_ n mem) := by
  refine mmC_of [(3, 0), (0, at_), (0, (n : Int)), (2, 65), (9, 0), (9, 0), (9, 0), (9, 0), (9, 0)] ok_L_book.2.2.2.2 rfl (Nat.le_of_ble_eq_true rfl) ?_
  refine st_ldcK (i := 0) (by decide) rfl rfl dL_book_0 ?_
  refine st_astoreK (by decide) (lc' := [(3, 0), (0, at_), (0, (n : Int)), (2, 65), (4, 0), (9, 0), (9, 0), (9, 0), (9, 0)]) rfl dL_book_2 ?_
  refine st_iconst dL_book_4 ?_
  refine st_aload_n (i := 0) rfl (t := 1) rfl (by decide) dL_book_5 ?_
  refine st_iload_n (i := 1) rfl rfl dL_book_6 ?_
  refine st_bipush rfl dL_book_7 ?_
  refine st_iadd dL_book_9 ?_
  refine st_iconst dL_book_10 ?_
  refine st_callS (kc2 := 15 * n) (ks2 := 9010 * n) (av := [(3, 0), (0, (at_ + 24)), (0, 4)]) mr_L_46 ok_L_pick (c_L_pick (by rw [h999]; exact hsc) (by omega) (by omega)) rfl rfl (by omega) (by omega) (by omega) (mmCat_4 (Nat.le_of_ble_eq_true rfl)) dL_book_11 (rI.elim ?_)
  have hm1 := mod_rng (x := xS (mem 999) (at_ + 24)) (n := 4) (by omega)
  refine st_iadd dL_book_14 ?_
  refine st_istore (by decide) (lc' := [(3, 0), (0, at_), (0, (n : Int)), (2, 65), (4, 0), (0, (1 + (xS (mem 999) (at_ + 24) % 4))), (9, 0), (9, 0), (9, 0)]) rfl dL_book_15 ?_
  refine st_iconst dL_book_17 ?_
  refine st_aload_n (i := 0) rfl (t := 1) rfl (by decide) dL_book_18 ?_
  refine st_iload_n (i := 1) rfl rfl dL_book_19 ?_
  refine st_bipush rfl dL_book_20 ?_
  refine st_iadd dL_book_22 ?_
  refine st_iconst dL_book_23 ?_
  refine st_callS (kc2 := 15 * n) (ks2 := 9010 * n) (av := [(3, 0), (0, (at_ + 25)), (0, 4)]) mr_L_46 ok_L_pick (c_L_pick (by rw [h999]; exact hsc) (by omega) (by omega)) rfl rfl (by omega) (by omega) (by omega) (mmCat_4 (Nat.le_of_ble_eq_true rfl)) dL_book_24 (rI.elim ?_)
  have hm2 := mod_rng (x := xS (mem 999) (at_ + 25)) (n := 4) (by omega)
  refine st_iadd dL_book_27 ?_
  refine st_istore (by decide) (lc' := [(3, 0), (0, at_), (0, (n : Int)), (2, 65), (4, 0), (0, (1 + (xS (mem 999) (at_ + 24) % 4))), (0, (1 + (xS (mem 999) (at_ + 25) % 4))), (9, 0), (9, 0)]) rfl dL_book_28 ?_
  refine st_iconst dL_book_30 ?_
  refine st_istore (by decide) (lc' := [(3, 0), (0, at_), (0, (n : Int)), (2, 65), (4, 0), (0, (1 + (xS (mem 999) (at_ + 24) % 4))), (0, (1 + (xS (mem 999) (at_ + 25) % 4))), (0, 0), (9, 0)]) rfl dL_book_31 ?_
  rw [h999]
  refine bk_loop (mem0 := mem) hsc hat hn n 0 (by omega) _ _ _ _ ⟨⟨[], by rw [List.append_nil], by simp⟩, h65m, kStr0, fun _ _ => rfl, h999, fun z h => (by cases h), fun h => absurd h (by omega)⟩
