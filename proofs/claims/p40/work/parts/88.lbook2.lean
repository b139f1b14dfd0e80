/-! the law's book, row by row -/
theorem isStr.congr {sh : mmS} {mem : mmM} {v w : mmV} {n : Nat} {f g : Int → Int} (h : isStr sh mem v w n f) (he : ∀ j : Int, 0 ≤ j → j < n → f j = g j) : isStr sh mem v w n g := by
  refine ⟨h.1, ?_, h.2.2.1, fun j h1 h2 => ?_⟩
  · rcases h.2.1 with ⟨b, e, h1, h2⟩ | ⟨i, h0, e, h1, h2⟩
    · exact Or.inl ⟨b, e, h1, fun j g1 g2 => by rw [h2 j g1 g2, he j (by omega) (by omega)]⟩
    · exact Or.inr ⟨i, h0, e, h1, fun j g1 => by rw [← he j (by omega) (by omega)]; exact h2 j g1⟩
  · have := h.2.2.2 j h1 h2
    rwa [he j (by omega) (by omega)] at this
theorem st_aloadW {B : mmB} {d kc ks : Nat} {Q : mmQ} {pc : Nat} {lc st : List mmV} {sh : mmS} {mem : mmM} {i : Nat} {v : mmV} (hv : v.1 = 2 ∨ v.1 = 4) (hl : lc[i]? = some v) (hd : decode B.2.1 pc = .ok (.aload i, 2)) (k : mmT B d kc ks Q (pc + 2) lc (v :: st) sh mem) : mmT B d kc ks Q pc lc st sh mem := by
  obtain ⟨t, x⟩ := v
  rcases hv with h | h
  · cases h
    exact st_aload (t := 0) hl (by decide) hd k
  · cases h
    exact st_aload (t := 2) hl (by decide) hd k
def bkR (L : List (Nat × Nat)) (mem : mmM) (n k : Nat) (a b c : Int) : Prop := L[65]? = some (26, n) ∧ mem 65 (k : Int) = ((66 + k : Nat) : Int) ∧ L[66 + k]? = some (20, 3) ∧ mem (66 + k) 0 = a ∧ mem (66 + k) 1 = b ∧ mem (66 + k) 2 = c
theorem bkR.fr {j : Nat} {L L' : List (Nat × Nat)} {mem mem' : mmM} {n k : Nat} {a b c : Int} (h : bkR L mem n k a b c) (hf : bkFr j L L' mem mem') : bkR L' mem' n k a b c := by
  obtain ⟨h1, h2, h3, h4, h5, h6⟩ := h
  obtain ⟨g1, g2⟩ := hf.get h1
  obtain ⟨g3, g4⟩ := hf.get h3
  exact ⟨g1, by rw [g2]; exact h2, g3, by rw [g4]; exact h4, by rw [g4]; exact h5, by rw [g4]; exact h6⟩
theorem SBX.fr {j : Nat} {L L' : List (Nat × Nat)} {mem mem' : mmM} {sb n : Nat} {t : Int → Int} (h : SBX j L mem sb L' mem' n t) : bkFr j L L' mem mem' := by
  obtain ⟨v, m, -, -, -, h⟩ := h
  exact h
theorem bkFr.mono {i j : Nat} {L L' : List (Nat × Nat)} {mem mem' : mmM} (h : bkFr i L L' mem mem') (hij : i ≤ j) : bkFr j L L' mem mem' := by
  obtain ⟨⟨E, e, h1⟩, h2⟩ := h
  exact ⟨⟨E, e, by omega⟩, h2⟩
theorem SBX.mono {i j : Nat} {L L' : List (Nat × Nat)} {mem mem' : mmM} {sb n : Nat} {t : Int → Int} (h : SBX i L mem sb L' mem' n t) (hij : i ≤ j) : SBX j L mem sb L' mem' n t := by
  obtain ⟨v, m, h1, h2, h3, h4⟩ := h
  exact ⟨v, m, h1, h2, h3, h4.mono hij⟩
theorem SBX.vlt {i : Nat} {L L' : List (Nat × Nat)} {mem mem' : mmM} {sb n : Nat} {t : Int → Int} (h : SBX i L mem sb L' mem' n t) : (L.length : Int) ≤ mem' sb 0 ∧ mem' sb 0 < L'.length := by
  obtain ⟨v, m, hS, h2, h3, h4⟩ := h
  have := getL_lt hS.2.1
  rw [hS.2.2.1]
  omega
theorem k4ne {c x : Int} : ((4, c) : mmV) ≠ (2, x) := fun h => by cases h
theorem decT_rng {x : Int} (hx : 1 ≤ x ∧ x ≤ 99) (j : Int) : 48 ≤ decT x j ∧ decT x j ≤ 57 := by
  unfold decT
  split
  · omega
  · split <;> omega
theorem bk_suf {d kc ks : Nat} {Q : mmQ} {i n k sb N : Nat} {L L' : List (Nat × Nat)} {mem mem' : mmM} {t : Int → Int} {tv : mmV} {at_ ac wo x a b c : Int} (hd : 9 ≤ d) (htv : tv.1 = 2 ∨ tv.1 = 4) (hk : k < n) (hn : n ≤ 100) (hc : 1 ≤ c ∧ c ≤ 99) (hR : bkR L mem n k a b c) (hS : SBX i L mem sb L' mem' N t) (hN : N ≤ 390) (hL : L'.length + 10 ≤ 999)
  (kk : ∀ L2 m2, SBX (i + 8) L mem sb L2 m2 (N + sufN c) (catT t N (decT c)) → mmT bL_book d kc ks Q 201 [(3, 0), (0, at_), (0, (n : Int)), (2, 65), tv, (0, ac), (0, wo), (0, (k : Int)), (0, x)] [(2, (sb : Int))] (true, L2) m2) : mmT bL_book d (7 + kc) (4104 + ks) Q 159 [(3, 0), (0, at_), (0, (n : Int)), (2, 65), tv, (0, ac), (0, wo), (0, (k : Int)), (0, x)] [(2, (sb : Int))] (true, L') mem' := by
  have hR' := hR.fr hS.fr
  have hl := hS.fr.len
  refine st_aload_n (i := 3) rfl (t := 0) rfl (by decide) dL_book_159 ?_
  refine st_iload rfl dL_book_160 ?_
  refine st_aaload (n := n) 65 (Or.inr (Or.inr rfl)) rfl hR'.1 (by omega) (by omega) (by omega) hR'.2.1 dL_book_162 ?_
  refine st_iconst dL_book_163 ?_
  refine st_iaload (n := 3) (66 + k) rfl hR'.2.2.1 (by decide) (by decide) (by decide) hR'.2.2.2.2.2 dL_book_164 ?_
  refine st_iconst dL_book_165 ?_
  refine sr_icmp_ne 174 (by omega) (by omega) (by decide) dL_book_166 (fun h5 => ?_) (fun h5 => ?_)
  · refine mmT.wk (kc := 2 + (1 + (1 + (2 + (1 + kc))))) (ks := 804 + (800 + (800 + (900 + (800 + ks))))) ?_ (by omega) (by omega)
    refine bk_new (by omega) rfl (by omega) (Nat.le_of_ble_eq_true rfl) dL_book_174 dL_book_177 dL_book_178 (fun L2 m2 hN => ?_)
    have hN := hN (fun _ => 0)
    have hl2 := hN.fr.len
    refine st_ldcK (i := 0) (by decide) rfl rfl dL_book_181 ?_
    refine bk_appS (by omega) mr_L_53 hN (kStr0 (f := fun _ => 0)) k4ne (by omega) (by omega) (mmCat_4 (Nat.le_of_ble_eq_true rfl)) dL_book_183 (fun L3 m3 hN3 => ?_)
    have hl3 := hN3.fr.len
    have hR3 := hR'.fr hN3.fr
    refine st_aload_n (i := 3) rfl (t := 0) rfl (by decide) dL_book_186 ?_
    refine st_iload rfl dL_book_187 ?_
    refine st_aaload (n := n) 65 (Or.inr (Or.inr rfl)) rfl hR3.1 (by omega) (by omega) (by omega) hR3.2.1 dL_book_189 ?_
    refine st_iconst dL_book_190 ?_
    refine st_iaload (n := 3) (66 + k) rfl hR3.2.2.1 (by decide) (by decide) (by decide) hR3.2.2.2.2.2 dL_book_191 ?_
    refine bk_appI (by omega) mr_L_62 hN3 (by omega) (by omega) (by omega) (mmCat_4 (Nat.le_of_ble_eq_true rfl)) dL_book_192 (fun L4 m4 hN4 => ?_)
    have hl4 := hN4.fr.len
    refine bk_toS (t := catT (catT (fun _ => 0) 0 (fun _ => 0)) (0 + 0) (decT c)) (by omega) mr_L_65 hN4 (fun j h1 h2 => ?_) (by omega) (mmCat_4 (Nat.le_of_ble_eq_true rfl)) dL_book_195 (fun L5 m5 hs5 hf5 => ?_)
    · rw [catT_hi (by omega)]
      have := decT_rng hc (j - ((0 + 0 : Nat) : Int))
      omega
    have hl5 := hf5.len
    obtain ⟨hS5, hv5⟩ := hS.ext (hN4.fr.trans hf5)
    have hvl := hS.vlt
    have hs6 := hs5.congr (g := decT c) (fun j h1 h2 => by
      rw [catT_hi (by omega)]
      congr 1
      omega)
    refine bk_appS (by omega) mr_L_53 hS5 hs6 (fun h => ?_) ?_ (by omega) (mmCat_4 (Nat.le_of_ble_eq_true rfl)) dL_book_198 (fun L6 m6 h6 => ?_)
    · have h7 := congrArg Prod.snd h
      dsimp only at h7
      rw [hv5] at h7
      omega
    · have : dgN c ≤ 2 := by unfold dgN; split <;> omega
      omega
    have e : sufN c = dgN c := if_neg (by omega)
    refine kk L6 m6 ?_
    rw [e]
    have e2 : 0 + 0 + dgN c = dgN c := by omega
    rw [e2] at h6
    exact h6.mono (by omega)
  · refine mmT.wk (kc := 1 + kc) (ks := 800 + ks) ?_ (by omega) (by omega)
    refine st_ldcK (i := 0) (by decide) rfl rfl dL_book_169 ?_
    refine st_goto 198 (by decide) dL_book_171 ?_
    refine bk_appS (by omega) mr_L_53 hS (kStr0 (f := decT c)) k4ne (by omega) (by omega) (mmCat_4 (Nat.le_of_ble_eq_true rfl)) dL_book_198 (fun L2 m2 h2 => ?_)
    have e : sufN c = 0 := if_pos (by omega)
    refine kk L2 m2 ?_
    rw [e]
    exact h2.mono (by omega)
theorem bkT_rng {t u : Int → Int} {N s : Nat} {a b c : Int} (ht : ∀ j : Int, 0 ≤ j → j < N → 0 ≤ t j ∧ t j ≤ 127) (hu : ∀ j : Int, 0 ≤ j → j < s → 0 ≤ u j ∧ u j ≤ 127) (ha : 0 ≤ a ∧ a ≤ 127) (hb : 0 ≤ b ∧ b ≤ 127) (hc : 1 ≤ c ∧ c ≤ 99) : ∀ j : Int, 0 ≤ j → j < (N + s + 1 + 1 + sufN c : Nat) → 0 ≤ catT (catT (catT (catT t N u) (N + s) (fun _ => a)) (N + s + 1) (fun _ => b)) (N + s + 1 + 1) (decT c) j ∧ catT (catT (catT (catT t N u) (N + s) (fun _ => a)) (N + s + 1) (fun _ => b)) (N + s + 1 + 1) (decT c) j ≤ 127 := by
  intro j g1 g2
  by_cases h1 : j < (N + s + 1 + 1 : Nat)
  · rw [catT_lo h1]
    by_cases h2 : j < (N + s + 1 : Nat)
    · rw [catT_lo h2]
      by_cases h3 : j < (N + s : Nat)
      · rw [catT_lo h3]
        by_cases h4 : j < (N : Nat)
        · rw [catT_lo h4]
          exact ht j g1 h4
        · rw [catT_hi h4]
          exact hu _ (by omega) (by omega)
      · rw [catT_hi h3]
        exact ha
    · rw [catT_hi h2]
      exact hb
  · rw [catT_hi h1]
    have := decT_rng hc (j - ((N + s + 1 + 1 : Nat) : Int))
    omega
theorem bk_mid {d kc ks : Nat} {Q : mmQ} {i n k sb N : Nat} {L L' : List (Nat × Nat)} {mem mem' : mmM} {t : Int → Int} {tv : mmV} {at_ ac wo x a b c : Int} {y yw : mmV} {s : Nat} {u : Int → Int} (hd : 9 ≤ d) (htv : tv.1 = 2 ∨ tv.1 = 4) (hk : k < n) (hn : n ≤ 100) (ha : 0 ≤ a ∧ a < 4) (hb : 0 ≤ b ∧ b < 4) (hc : 1 ≤ c ∧ c ≤ 99) (hR : bkR L mem n k a b c) (hS : SBX i L mem sb L' mem' N t) (ht : ∀ j : Int, 0 ≤ j → j < N → 0 ≤ t j ∧ t j ≤ 127) (hy : isStr (true, L') mem' y yw s u) (hyw : yw ≠ (2, mem' sb 0)) (hs : s ≤ 1) (hN : N ≤ 380) (hL : L.length + i + 16 ≤ 999)
  (kk : ∀ (L4 L5 : List (Nat × Nat)) (m5 : mmM), bkFr (i + 1 + 1 + 1 + 8 + 2) L L5 mem m5 → isStr (true, L5) m5 (2, (L4.length : Int)) (2, ((L4.length + 1 : Nat) : Int)) (N + s + 1 + 1 + sufN c) (catT (catT (catT (catT t N u) (N + s) (fun _ => 65 + a)) (N + s + 1) (fun _ => 97 + b)) (N + s + 1 + 1) (decT c)) → mmT bL_book d kc ks Q 33 [(3, 0), (0, at_), (0, (n : Int)), (2, 65), (2, (L4.length : Int)), (0, ac), (0, wo), (0, ((k : Int) + 1)), (0, x)] [] (true, L5) m5) : mmT bL_book d (12 + kc) (7404 + ks) Q 130 [(3, 0), (0, at_), (0, (n : Int)), (2, 65), tv, (0, ac), (0, wo), (0, (k : Int)), (0, x)] [y, (2, (sb : Int))] (true, L') mem' := by
  refine mmT.wk (kc := 1 + (1 + (1 + (7 + (2 + kc))))) (ks := 800 + (800 + (800 + (4104 + (900 + ks))))) ?_ (by omega) (by omega)
  have hl0 := hS.fr.len
  refine bk_appS (by omega) mr_L_53 hS hy hyw (by omega) (by omega) (mmCat_4 (Nat.le_of_ble_eq_true rfl)) dL_book_130 (fun L1 m1 h1 => ?_)
  have hl1 := h1.fr.len
  have hR1 := hR.fr h1.fr
  refine st_bipush rfl dL_book_133 ?_
  refine st_aload_n (i := 3) rfl (t := 0) rfl (by decide) dL_book_135 ?_
  refine st_iload rfl dL_book_136 ?_
  refine st_aaload (n := n) 65 (Or.inr (Or.inr rfl)) rfl hR1.1 (by omega) (by omega) (by omega) hR1.2.1 dL_book_138 ?_
  refine st_iconst dL_book_139 ?_
  refine st_iaload (n := 3) (66 + k) rfl hR1.2.2.1 (by decide) (by decide) (by decide) hR1.2.2.2.1 dL_book_140 ?_
  refine st_iadd dL_book_141 ?_
  refine st_i2c (by omega) dL_book_142 ?_
  refine bk_appC (by omega) mr_L_59 h1 (by omega) (by omega) (by omega) (mmCat_4 (Nat.le_of_ble_eq_true rfl)) dL_book_143 (fun L2 m2 h2 => ?_)
  have hl2 := h2.fr.len
  have hR2 := hR.fr h2.fr
  refine st_bipush rfl dL_book_146 ?_
  refine st_aload_n (i := 3) rfl (t := 0) rfl (by decide) dL_book_148 ?_
  refine st_iload rfl dL_book_149 ?_
  refine st_aaload (n := n) 65 (Or.inr (Or.inr rfl)) rfl hR2.1 (by omega) (by omega) (by omega) hR2.2.1 dL_book_151 ?_
  refine st_iconst dL_book_152 ?_
  refine st_iaload (n := 3) (66 + k) rfl hR2.2.2.1 (by decide) (by decide) (by decide) hR2.2.2.2.2.1 dL_book_153 ?_
  refine st_iadd dL_book_154 ?_
  refine st_i2c (by omega) dL_book_155 ?_
  refine bk_appC (by omega) mr_L_59 h2 (by omega) (by omega) (by omega) (mmCat_4 (Nat.le_of_ble_eq_true rfl)) dL_book_156 (fun L3 m3 h3 => ?_)
  have hl3 := h3.fr.len
  have hsu := sufN_le c
  refine bk_suf (by omega) htv hk hn hc hR h3 (by omega) (by omega) (fun L4 m4 h4 => ?_)
  have hl4 := h4.fr.len
  refine bk_toS (by omega) mr_L_65 h4 (fun j g1 g2 => ?_) (by omega) (mmCat_4 (Nat.le_of_ble_eq_true rfl)) dL_book_201 (fun L5 m5 hs5 hf5 => ?_)
  · exact bkT_rng ht hy.rng (by omega) (by omega) hc j g1 g2
  refine st_astore (by decide) (lc' := [(3, 0), (0, at_), (0, (n : Int)), (2, 65), (2, (L4.length : Int)), (0, ac), (0, wo), (0, (k : Int)), (0, x)]) rfl (by omega) dL_book_204 ?_
  refine st_iinc (y := ((k : Int) + 1)) (by decide) (i := 7) rfl rfl (lc' := [(3, 0), (0, at_), (0, (n : Int)), (2, 65), (2, (L4.length : Int)), (0, ac), (0, wo), (0, ((k : Int) + 1)), (0, x)]) rfl dL_book_206 ?_
  refine st_goto 33 (by decide) dL_book_209 ?_
  exact kk L4 L5 m5 (h4.fr.trans hf5) hs5
