/-! StringBuilder.append: a text, a letter, a number -/
theorem c_J5_inflate {sh : mmS} {mem : mmM} {sb k : Nat} {x w : mmV} {u : Int → Int} (hs : sh.2[sb]? = some (12, 4)) (hc : mem sb 1 = 0) (h : isStr sh mem x w k u) : mmC bJ5_inflateIfNeededFor_a7421 1 0 0 [(2, (sb : Int)), x] sh mem (rN sh mem) := by
  refine mmC_of [(2, (sb : Int)), x] ok_J5_inflateIfNeededFor_a7421.2.2.2.2 (by rw [mmEntry_n _ (show ((2, (sb : Int)) : mmV).1 ≠ 1 from Nat.ne_of_beq_eq_false rfl), mmEntry_v [] h.k]; rfl) (by rw [mmEntry_n _ (show ((2, (sb : Int)) : mmV).1 ≠ 1 from Nat.ne_of_beq_eq_false rfl), mmEntry_v [] h.k]; exact Nat.le_of_ble_eq_true rfl) ?_
  refine st_getCompact gs_J5_18 dJ5_inflateIfNeededFor_a7421_0 ?_
  refine sr_if_eq 21 (by omega) (by decide) dJ5_inflateIfNeededFor_a7421_3 (fun h => absurd h (by omega)) (fun _ => ?_)
  refine st_aload_n (i := 0) rfl (t := 0) rfl (by decide) dJ5_inflateIfNeededFor_a7421_6 ?_
  refine st_getfield sb 1 fr_J5_22_12 rfl hs hc dJ5_inflateIfNeededFor_a7421_7 ?_
  refine st_aloadV h.k (i := 1) rfl rfl dJ5_inflateIfNeededFor_a7421_10 ?_
  refine st_callVs (kc2 := 0) (ks2 := 0) (av := []) h rfl mr_J5_40 ok_J0_coder_7d493 (c_J0_coder h) rfl rfl (by omega) (by omega) (by omega) (mmCat_4 (Nat.le_of_ble_eq_true rfl)) dJ5_inflateIfNeededFor_a7421_11 (rI.elim ?_)
  refine sr_icmp_eq 21 (by omega) (by omega) (by decide) dJ5_inflateIfNeededFor_a7421_14 (fun _ => ?_) (fun h => absurd h (by omega))
  exact st_return rfl dJ5_inflateIfNeededFor_a7421_21 ⟨rfl, rfl, rfl⟩
def cpRow (mem : mmM) (v dp k : Nat) (u : Int → Int) : mmM := mrow mem v (fun j => if (dp : Int) ≤ j ∧ j < dp + k then u (((0 : Nat) : Int) + (j - dp)) else mem v j)
theorem c_J0_getBytes {sh : mmS} {mem : mmM} {v m dp k : Nat} {di : Int} {x w : mmV} {u : Int → Int} (hsh : sh.1 = true) (hd : di = (dp : Int)) (hv : sh.2[v]? = some (25, m)) (hm : dp + k ≤ m) (hm8 : m ≤ 800) (h : isStr sh mem x w k u) : mmC bJ0_getBytes_840e7 3 0 0 [x, (2, (v : Int)), (0, di), (0, 0)] sh mem (rN sh (cpRow mem v dp k u)) := by
  refine mmC_of [x, (2, (v : Int)), (0, di), (0, 0)] ok_J0_getBytes_840e7.2.2.2.2 (by rw [mmEntry_v _ h.k]; rfl) (by rw [mmEntry_v _ h.k]; exact Nat.le_of_ble_eq_true rfl) ?_
  refine st_aloadV h.k (i := 0) rfl rfl dJ0_getBytes_840e7_0 ?_
  refine st_callVs (kc2 := 0) (ks2 := 0) (av := []) h rfl mr_J0_335 ok_J0_coder_7d493 (c_J0_coder h) rfl rfl (by omega) (by omega) (by omega) (mmCat_4 (Nat.le_of_ble_eq_true rfl)) dJ0_getBytes_840e7_1 (rI.elim ?_)
  refine st_iload_n (i := 3) rfl rfl dJ0_getBytes_840e7_4 ?_
  refine sr_icmp_ne 28 (by omega) (by omega) (by decide) dJ0_getBytes_840e7_5 (fun h => absurd h (by omega)) (fun _ => ?_)
  refine st_aloadV h.k (i := 0) rfl rfl dJ0_getBytes_840e7_8 ?_
  refine st_strV h fr_J0_9_11 dJ0_getBytes_840e7_9 ?_
  refine st_iconst dJ0_getBytes_840e7_12 ?_
  refine st_aload_n (i := 1) rfl (t := 0) rfl (by decide) dJ0_getBytes_840e7_13 ?_
  refine st_iload_n (i := 2) rfl rfl dJ0_getBytes_840e7_14 ?_
  refine st_iload_n (i := 3) rfl rfl dJ0_getBytes_840e7_15 ?_
  refine sr_ishl0 (by omega) dJ0_getBytes_840e7_16 ?_
  refine st_aloadV h.k (i := 0) rfl rfl dJ0_getBytes_840e7_17 ?_
  refine st_strV h fr_J0_9_11 dJ0_getBytes_840e7_18 ?_
  refine st_strL h.2.1 dJ0_getBytes_840e7_21 ?_
  refine st_copyB (n0 := k) (n1 := m) (f := u) v 0 dp k hsh h.2.1 mr_J0_212 rfl rfl rfl hd hv (by omega) (by omega) (by omega) (by omega) (fun j _ _ => h.rng j (by omega) (by omega)) (by omega) (mmCat_4 (Nat.le_of_ble_eq_true rfl)) dJ0_getBytes_840e7_22 ma_nat ma_sta ma_ini ?_
  refine st_goto 43 (by decide) dJ0_getBytes_840e7_25 ?_
  exact st_return rfl dJ0_getBytes_840e7_43 ⟨rfl, rfl, rfl⟩
theorem c_J5_putStringAt {sh : mmS} {mem : mmM} {sb v m dp k : Nat} {di : Int} {x w : mmV} {u : Int → Int} (hsh : sh.1 = true) (hd : di = (dp : Int)) (hs : sh.2[sb]? = some (12, 4)) (hv0 : mem sb 0 = (v : Int)) (hv : sh.2[v]? = some (25, m)) (hc : mem sb 1 = 0) (hm : dp + k ≤ m) (hm8 : m ≤ 800) (h : isStr sh mem x w k u) : mmC bJ5_putStringAt_47b60 4 0 0 [(2, (sb : Int)), (0, di), x] sh mem (rN sh (cpRow mem v dp k u)) := by
  refine mmC_of [(2, (sb : Int)), (0, di), x] ok_J5_putStringAt_47b60.2.2.2.2 (by rw [mmEntry_n _ (show ((2, (sb : Int)) : mmV).1 ≠ 1 from Nat.ne_of_beq_eq_false rfl), mmEntry_n _ (show ((0, di) : mmV).1 ≠ 1 from Nat.ne_of_beq_eq_false rfl), mmEntry_v [] h.k]; rfl) (by rw [mmEntry_n _ (show ((2, (sb : Int)) : mmV).1 ≠ 1 from Nat.ne_of_beq_eq_false rfl), mmEntry_n _ (show ((0, di) : mmV).1 ≠ 1 from Nat.ne_of_beq_eq_false rfl), mmEntry_v [] h.k]; exact Nat.le_of_ble_eq_true rfl) ?_
  refine st_aload_n (i := 0) rfl (t := 0) rfl (by decide) dJ5_putStringAt_47b60_0 ?_
  refine st_aloadV h.k (i := 2) rfl rfl dJ5_putStringAt_47b60_1 ?_
  refine st_callU _ _ _ (kc2 := 0) (ks2 := 0) (av := [x]) sb 12 mr_J5_397_12 ok_J5_inflateIfNeededFor_a7421 (c_J5_inflate hs hc h) rfl hs ⟨_, rfl, rfl, by decide⟩ rfl rfl (by omega) (by omega) (by omega) (mmCat_4 (Nat.le_of_ble_eq_true rfl)) dJ5_putStringAt_47b60_2 (rN.elim ?_)
  refine st_aloadV h.k (i := 2) rfl rfl dJ5_putStringAt_47b60_5 ?_
  refine st_aload_n (i := 0) rfl (t := 0) rfl (by decide) dJ5_putStringAt_47b60_6 ?_
  refine st_getfield sb 0 fr_J5_15_12 rfl hs hv0 dJ5_putStringAt_47b60_7 ?_
  refine st_iload_n (i := 1) rfl rfl dJ5_putStringAt_47b60_10 ?_
  refine st_aload_n (i := 0) rfl (t := 0) rfl (by decide) dJ5_putStringAt_47b60_11 ?_
  refine st_getfield sb 1 fr_J5_22_12 rfl hs hc dJ5_putStringAt_47b60_12 ?_
  refine st_callVs (kc2 := 0) (ks2 := 0) (av := [(2, (v : Int)), (0, di), (0, 0)]) h rfl mr_J5_399 ok_J0_getBytes_840e7 (c_J0_getBytes hsh hd hv hm hm8 h) rfl rfl (by omega) (by omega) (by omega) (mmCat_4 (Nat.le_of_ble_eq_true rfl)) dJ5_putStringAt_47b60_15 (rN.elim ?_)
  exact st_return rfl dJ5_putStringAt_47b60_18 ⟨rfl, rfl, rfl⟩
def apP (L : List (Nat × Nat)) (mem : mmM) (sb v n : Nat) (t : Int → Int) : mmQ := fun r sh' m' => ∃ L' v' m2, r = some (2, (sb : Int)) ∧ sh' = (true, L') ∧ isSB L' m' sb v' m2 n t ∧ sbFr 1 L L' mem m' sb v v'
theorem isSB_cat {L : List (Nat × Nat)} {mem : mmM} {sb v m n k : Nat} {t u : Int → Int} (hS : isSB L mem sb v m n t) (hk : n + k ≤ m) (hu : ∀ j : Int, 0 ≤ j → j < k → 0 ≤ u j ∧ u j ≤ 127) : isSB L (mset (cpRow mem v n k u) sb 3 ((n : Int) + (k : Int))) sb v m (n + k) (catT t n u) := by
  have hne := hS.ne
  obtain ⟨hs, hv, hv0, hc, hn0, hnm, hm8, hby, htx⟩ := hS
  refine ⟨hs, hv, ?_, ?_, ?_, hk, hm8, fun j => ?_, fun j h1 h2 => ?_⟩
  · rw [mset_at, if_neg (by decide), cpRow, mrow_ne hne]; exact hv0
  · rw [mset_at, if_neg (by decide), cpRow, mrow_ne hne]; exact hc
  · rw [mset_same]; omega
  · rw [mset_ne (Ne.symm hne), cpRow, mrow_same]
    split
    · exact hu _ (by omega) (by omega)
    · exact hby j
  · rw [mset_ne (Ne.symm hne), cpRow, mrow_same]
    by_cases hj : j < n
    · rw [if_neg (by omega), catT_lo hj]; exact htx j h1 hj
    · rw [if_pos (by omega), catT_hi hj]
      congr 1
      omega
theorem sbFr_put {L L' : List (Nat × Nat)} {mem m1 m2 : mmM} {sb v v' : Nat} {k : Nat} (h : sbFr k L L' mem m1 sb v v') (h1 : sb < 999) (h2 : v' < 999) (he : ∀ a, a ≠ sb → a ≠ v' → m2 a = m1 a) : sbFr k L L' mem m2 sb v v' := (h.trans (sbFr.refl he (by omega) (by omega))).mono (by omega)
theorem c_J5_appendS {L : List (Nat × Nat)} {mem : mmM} {sb v m n k : Nat} {t u : Int → Int} {x w : mmV} (hSB : isSB L mem sb v m n t) (h : isStr (true, L) mem x w k u) (hwv : w ≠ (2, (v : Int))) (hnk : n + k ≤ 400) (hL : L.length + 1 ≤ 999) : mmC bJ5_append_cf1ce 5 1 800 [(2, (sb : Int)), x] (true, L) mem (apP L mem sb v (n + k) (catT t n u)) := by
  obtain ⟨hs, hv, hv0, hc, hn0, hnm, hm8, hby, htx⟩ := id hSB
  have hsl := getL_lt hs
  have hvl := getL_lt hv
  refine mmC_of [(2, (sb : Int)), x, (9, 0)] ok_J5_append_cf1ce.2.2.2.2 (by rw [mmEntry_n _ (show ((2, (sb : Int)) : mmV).1 ≠ 1 from Nat.ne_of_beq_eq_false rfl), mmEntry_v [] h.k]; rfl) (by rw [mmEntry_n _ (show ((2, (sb : Int)) : mmV).1 ≠ 1 from Nat.ne_of_beq_eq_false rfl), mmEntry_v [] h.k]; exact Nat.le_of_ble_eq_true rfl) ?_
  refine st_aloadV h.k (i := 1) rfl rfl dJ5_append_cf1ce_0 ?_
  refine st_ifnnV 9 h (by decide) dJ5_append_cf1ce_1 ?_
  refine st_aloadV h.k (i := 1) rfl rfl dJ5_append_cf1ce_9 ?_
  refine st_callVs (kc2 := 1) (ks2 := 800) (av := []) h rfl mr_J5_32 ok_J0_length_8abf5 (c_J0_length h) rfl rfl (by omega) (by omega) (by omega) (mmCat_4 (Nat.le_of_ble_eq_true rfl)) dJ5_append_cf1ce_10 (rI.elim ?_)
  refine st_istore_n (i := 2) rfl (by decide) (lc' := [(2, (sb : Int)), x, (0, (k : Int))]) (mmSet_v (i := 1) rfl h.k (Nat.ne_of_beq_eq_false rfl) rfl) dJ5_append_cf1ce_13 ?_
  refine st_aload_n (i := 0) rfl (t := 0) rfl (by decide) dJ5_append_cf1ce_14 ?_
  refine st_aload_n (i := 0) rfl (t := 0) rfl (by decide) dJ5_append_cf1ce_15 ?_
  refine st_getfield sb 3 fr_J5_79_12 rfl hs hn0 dJ5_append_cf1ce_16 ?_
  refine st_iload_n (i := 2) rfl rfl dJ5_append_cf1ce_19 ?_
  refine st_iadd dJ5_append_cf1ce_20 ?_
  refine st_callU _ _ _ (kc2 := 0) (ks2 := 0) (av := [(0, ((n : Int) + (k : Int)))]) sb 12 mr_J5_100_12 ok_J5_ensureCapacityInternal_d00df (c_J5_ensure (q := n + k) (by omega) hSB hnk hL) rfl hs ⟨_, rfl, rfl, by decide⟩ rfl rfl (by omega) (by omega) (by omega) (mmCat_4 (Nat.le_of_ble_eq_true rfl)) dJ5_append_cf1ce_21 ?_
  rintro r sh' m1 ⟨rfl, L', v', m2, rfl, hS2, hq2, hfr⟩
  have hxs : x ≠ (2, (sb : Int)) := by
    intro e
    rcases h.1 with ⟨a, e2, h1, -⟩ | ⟨i, -, e2, -⟩
    · cases e.symm.trans e2
      rw [show (true, L).2 = L from rfl, hs] at h1
      cases h1
    · cases e.symm.trans e2
  have hxv : x ≠ (2, (v : Int)) := by
    intro e
    rcases h.1 with ⟨a, e2, h1, -⟩ | ⟨i, -, e2, -⟩
    · cases e.symm.trans e2
      rw [show (true, L).2 = L from rfl, hv] at h1
      cases h1
    · cases e.symm.trans e2
  have hws : w ≠ (2, (sb : Int)) := by
    intro e
    rcases h.2.1 with ⟨a, e2, h1, -⟩ | ⟨i, -, e2, -⟩
    · cases e.symm.trans e2
      rw [show (true, L).2 = L from rfl, hs] at h1
      cases h1
    · cases e.symm.trans e2
  have h' := h.fr hfr hxs hxv hwv hws
  obtain ⟨gs, gv, gv0, gc, gn0, gnm, gm8, gby, gtx⟩ := id hS2
  have gsl := getL_lt gs
  have gvl := getL_lt gv
  have gne := hS2.ne
  have gL : L'.length ≤ 999 := by
    obtain ⟨⟨E, rfl, hE⟩, -⟩ := hfr
    rw [List.length_append]
    omega
  refine st_aload_n (i := 0) rfl (t := 0) rfl (by decide) dJ5_append_cf1ce_24 ?_
  refine st_aload_n (i := 0) rfl (t := 0) rfl (by decide) dJ5_append_cf1ce_25 ?_
  refine st_getfield sb 3 fr_J5_79_12 rfl gs gn0 dJ5_append_cf1ce_26 ?_
  refine st_aloadV h'.k (i := 1) rfl rfl dJ5_append_cf1ce_29 ?_
  refine st_callU _ _ _ (kc2 := 0) (ks2 := 0) (av := [(0, (n : Int)), x]) sb 12 mr_J5_208_12 ok_J5_putStringAt_47b60 (c_J5_putStringAt (dp := n) rfl rfl gs gv0 gv gc hq2 gm8 h') rfl gs ⟨_, rfl, rfl, by decide⟩ rfl rfl (by omega) (by omega) (by omega) (mmCat_4 (Nat.le_of_ble_eq_true rfl)) dJ5_append_cf1ce_30 (rN.elim ?_)
  refine st_aload_n (i := 0) rfl (t := 0) rfl (by decide) dJ5_append_cf1ce_33 ?_
  refine st_dup (Nat.ne_of_beq_eq_false rfl) dJ5_append_cf1ce_34 ?_
  refine st_getfield (v := (n : Int)) sb 3 fr_J5_79_12 rfl gs (by rw [cpRow, mrow_ne gne]; exact gn0) dJ5_append_cf1ce_35 ?_
  refine st_iload_n (i := 2) rfl rfl dJ5_append_cf1ce_38 ?_
  refine st_iadd dJ5_append_cf1ce_39 ?_
  refine sx_putI sb 3 rfl fr_J5_79_12 pf_12_3 rfl gs (by omega) dJ5_append_cf1ce_40 ?_
  refine st_aload_n (i := 0) rfl (t := 0) rfl (by decide) dJ5_append_cf1ce_43 ?_
  exact st_areturn rfl (Or.inl ⟨_, rfl⟩) dJ5_append_cf1ce_44 ⟨L', v', m2, rfl, rfl, isSB_cat hS2 hq2 h.rng, sbFr_put hfr (by omega) (by omega) (fun a h1 h2 => by rw [mset_ne h1, cpRow, mrow_ne h2])⟩
theorem c_J4_appendS {L : List (Nat × Nat)} {mem : mmM} {sb v m n k : Nat} {t u : Int → Int} {x w : mmV} (hSB : isSB L mem sb v m n t) (h : isStr (true, L) mem x w k u) (hwv : w ≠ (2, (v : Int))) (hnk : n + k ≤ 400) (hL : L.length + 1 ≤ 999) : mmC bJ4_append_15ec4 6 1 800 [(2, (sb : Int)), x] (true, L) mem (apP L mem sb v (n + k) (catT t n u)) := by
  obtain ⟨hs, hv, hv0, hc, hn0, hnm, hm8, hby, htx⟩ := id hSB
  have hsl := getL_lt hs
  have hvl := getL_lt hv
  refine mmC_of [(2, (sb : Int)), x] ok_J4_append_15ec4.2.2.2.2 (by rw [mmEntry_n _ (show ((2, (sb : Int)) : mmV).1 ≠ 1 from Nat.ne_of_beq_eq_false rfl), mmEntry_v [] h.k]; rfl) (by rw [mmEntry_n _ (show ((2, (sb : Int)) : mmV).1 ≠ 1 from Nat.ne_of_beq_eq_false rfl), mmEntry_v [] h.k]; exact Nat.le_of_ble_eq_true rfl) ?_
  refine st_aload_n (i := 0) rfl (t := 0) rfl (by decide) dJ4_append_15ec4_0 ?_
  refine st_aloadV h.k (i := 1) rfl rfl dJ4_append_15ec4_1 ?_
  refine st_callSu (kc2 := 0) (ks2 := 0) (av := [x]) sb 12 mr_J4_29 ok_J5_append_cf1ce (c_J5_appendS hSB h hwv hnk hL) rfl hs (by decide) (by decide) rfl rfl (by omega) (by omega) (by omega) (mmCat_4 (Nat.le_of_ble_eq_true rfl)) dJ4_append_15ec4_2 ?_
  rintro r sh' m1 ⟨L', v', m2, rfl, rfl, hS2, hfr⟩
  refine st_pop (Nat.ne_of_beq_eq_false rfl) dJ4_append_15ec4_5 ?_
  refine st_aload_n (i := 0) rfl (t := 0) rfl (by decide) dJ4_append_15ec4_6 ?_
  exact st_areturn rfl (Or.inl ⟨_, rfl⟩) dJ4_append_15ec4_7 ⟨L', v', m2, rfl, rfl, hS2, hfr⟩
theorem isSB_one {L : List (Nat × Nat)} {mem : mmM} {sb v m n : Nat} {t : Int → Int} {c : Int} (hS : isSB L mem sb v m n t) (hk : n + 1 ≤ m) (hu : 0 ≤ c ∧ c ≤ 127) : isSB L (mset (mset mem sb 3 ((n : Int) + 1)) v (n : Int) c) sb v m (n + 1) (catT t n (fun _ => c)) := by
  have hne := hS.ne
  obtain ⟨hs, hv, hv0, hc, hn0, hnm, hm8, hby, htx⟩ := hS
  refine ⟨hs, hv, ?_, ?_, ?_, hk, hm8, fun j => ?_, fun j h1 h2 => ?_⟩
  · rw [mset_ne hne, mset_at, if_neg (by decide)]; exact hv0
  · rw [mset_ne hne, mset_at, if_neg (by decide)]; exact hc
  · rw [mset_ne hne, mset_same]; omega
  · rw [mset_at, mset_ne (Ne.symm hne)]
    split
    · exact hu
    · exact hby j
  · rw [mset_at, mset_ne (Ne.symm hne)]
    by_cases hj : j < n
    · rw [if_neg (by omega), catT_lo hj]; exact htx j h1 hj
    · rw [if_pos (by omega), catT_hi hj]
theorem c_J5_appendC {L : List (Nat × Nat)} {mem : mmM} {sb v m n : Nat} {t : Int → Int} {c : Int} (hSB : isSB L mem sb v m n t) (hcc : 0 ≤ c ∧ c ≤ 127) (hnk : n + 1 ≤ 400) (hL : L.length + 1 ≤ 999) : mmC bJ5_append_3fe6f 5 1 800 [(2, (sb : Int)), (0, c)] (true, L) mem (apP L mem sb v (n + 1) (catT t n (fun _ => c))) := by
  obtain ⟨hs, hv, hv0, hc, hn0, hnm, hm8, hby, htx⟩ := id hSB
  have hsl := getL_lt hs
  have hvl := getL_lt hv
  refine mmC_of [(2, (sb : Int)), (0, c)] ok_J5_append_3fe6f.2.2.2.2 rfl (Nat.le_of_ble_eq_true rfl) ?_
  refine st_aload_n (i := 0) rfl (t := 0) rfl (by decide) dJ5_append_3fe6f_0 ?_
  refine st_aload_n (i := 0) rfl (t := 0) rfl (by decide) dJ5_append_3fe6f_1 ?_
  refine st_getfield sb 3 fr_J5_79_12 rfl hs hn0 dJ5_append_3fe6f_2 ?_
  refine st_iconst dJ5_append_3fe6f_5 ?_
  refine st_iadd dJ5_append_3fe6f_6 ?_
  refine st_callU _ _ _ (kc2 := 0) (ks2 := 0) (av := [(0, ((n : Int) + 1))]) sb 12 mr_J5_100_12 ok_J5_ensureCapacityInternal_d00df (c_J5_ensure (q := n + 1) (by omega) hSB hnk hL) rfl hs ⟨_, rfl, rfl, by decide⟩ rfl rfl (by omega) (by omega) (by omega) (mmCat_4 (Nat.le_of_ble_eq_true rfl)) dJ5_append_3fe6f_7 ?_
  rintro r sh' m1 ⟨rfl, L', v', m2, rfl, hS2, hq2, hfr⟩
  obtain ⟨gs, gv, gv0, gc, gn0, gnm, gm8, gby, gtx⟩ := id hS2
  have gsl := getL_lt gs
  have gvl := getL_lt gv
  have gne := hS2.ne
  have gL : L'.length ≤ 999 := by
    obtain ⟨⟨E, rfl, hE⟩, -⟩ := hfr
    rw [List.length_append]
    omega
  refine st_aload_n (i := 0) rfl (t := 0) rfl (by decide) dJ5_append_3fe6f_10 ?_
  refine st_callU _ _ _ (kc2 := 0) (ks2 := 0) (av := []) sb 12 mr_J5_83_12 ok_J5_isLatin1_aae02 (c_J5_isLatin1 gs gc) rfl gs ⟨_, rfl, rfl, by decide⟩ rfl rfl (by omega) (by omega) (by omega) (mmCat_4 (Nat.le_of_ble_eq_true rfl)) dJ5_append_3fe6f_11 (rI.elim ?_)
  refine sr_if_eq 45 (by omega) (by decide) dJ5_append_3fe6f_14 (fun h => absurd h (by omega)) (fun _ => ?_)
  refine st_iload_n (i := 1) rfl rfl dJ5_append_3fe6f_17 ?_
  refine st_callS (kc2 := 0) (ks2 := 0) (av := [(0, c)]) mr_J5_191 ok_J1_canEncode_fc78d (c_J1_canEncode (by omega)) rfl rfl (by omega) (by omega) (by omega) (mmCat_4 (Nat.le_of_ble_eq_true rfl)) dJ5_append_3fe6f_18 (rI.elim ?_)
  refine sr_if_eq 45 (by omega) (by decide) dJ5_append_3fe6f_21 (fun h => absurd h (by omega)) (fun _ => ?_)
  refine st_aload_n (i := 0) rfl (t := 0) rfl (by decide) dJ5_append_3fe6f_24 ?_
  refine st_getfield sb 0 fr_J5_15_12 rfl gs gv0 dJ5_append_3fe6f_25 ?_
  refine st_aload_n (i := 0) rfl (t := 0) rfl (by decide) dJ5_append_3fe6f_28 ?_
  refine st_dup (Nat.ne_of_beq_eq_false rfl) dJ5_append_3fe6f_29 ?_
  refine st_getfield sb 3 fr_J5_79_12 rfl gs gn0 dJ5_append_3fe6f_30 ?_
  refine st_dup_x1 (Nat.ne_of_beq_eq_false rfl) (Nat.ne_of_beq_eq_false rfl) dJ5_append_3fe6f_33 ?_
  refine st_iconst dJ5_append_3fe6f_34 ?_
  refine st_iadd dJ5_append_3fe6f_35 ?_
  refine sx_putI sb 3 rfl fr_J5_79_12 pf_12_3 rfl gs (by omega) dJ5_append_3fe6f_36 ?_
  refine st_iload_n (i := 1) rfl rfl dJ5_append_3fe6f_39 ?_
  refine st_i2b hcc dJ5_append_3fe6f_40 ?_
  refine st_bastB v' rfl hcc rfl gv (by omega) (by omega) (by omega) dJ5_append_3fe6f_41 ?_
  refine st_goto 75 (by decide) dJ5_append_3fe6f_42 ?_
  refine st_aload_n (i := 0) rfl (t := 0) rfl (by decide) dJ5_append_3fe6f_75 ?_
  exact st_areturn rfl (Or.inl ⟨_, rfl⟩) dJ5_append_3fe6f_76 ⟨L', v', m2, rfl, rfl, isSB_one hS2 hq2 hcc, sbFr_put hfr (by omega) (by omega) (fun a h1 h2 => by rw [mset_ne h2, mset_ne h1])⟩
theorem c_J4_appendC {L : List (Nat × Nat)} {mem : mmM} {sb v m n : Nat} {t : Int → Int} {c : Int} (hSB : isSB L mem sb v m n t) (hcc : 0 ≤ c ∧ c ≤ 127) (hnk : n + 1 ≤ 400) (hL : L.length + 1 ≤ 999) : mmC bJ4_append_cf468 6 1 800 [(2, (sb : Int)), (0, c)] (true, L) mem (apP L mem sb v (n + 1) (catT t n (fun _ => c))) := by
  obtain ⟨hs, hv, hv0, hc, hn0, hnm, hm8, hby, htx⟩ := id hSB
  have hsl := getL_lt hs
  have hvl := getL_lt hv
  refine mmC_of [(2, (sb : Int)), (0, c)] ok_J4_append_cf468.2.2.2.2 rfl (Nat.le_of_ble_eq_true rfl) ?_
  refine st_aload_n (i := 0) rfl (t := 0) rfl (by decide) dJ4_append_cf468_0 ?_
  refine st_iload_n (i := 1) rfl rfl dJ4_append_cf468_1 ?_
  refine st_callSu (kc2 := 0) (ks2 := 0) (av := [(0, c)]) sb 12 mr_J4_50 ok_J5_append_3fe6f (c_J5_appendC hSB hcc hnk hL) rfl hs (by decide) (by decide) rfl rfl (by omega) (by omega) (by omega) (mmCat_4 (Nat.le_of_ble_eq_true rfl)) dJ4_append_cf468_2 ?_
  rintro r sh' m1 ⟨L', v', m2, rfl, rfl, hS2, hfr⟩
  refine st_pop (Nat.ne_of_beq_eq_false rfl) dJ4_append_cf468_5 ?_
  refine st_aload_n (i := 0) rfl (t := 0) rfl (by decide) dJ4_append_cf468_6 ?_
  exact st_areturn rfl (Or.inl ⟨_, rfl⟩) dJ4_append_cf468_7 ⟨L', v', m2, rfl, rfl, hS2, hfr⟩
def dgN (x : Int) : Nat := if x < 10 then 1 else 2
def decT (x : Int) : Int → Int := fun j => if x < 10 then 48 + x else if j = 0 then 48 + x / 10 else 48 + x % 10
theorem c_J6_stringSize {sh : mmS} {mem : mmM} {x : Int} (hx : 0 ≤ x ∧ x < 100) : mmC bJ6_stringSize_0f7a4 0 0 0 [(0, x)] sh mem (rI sh mem ((dgN x : Nat) : Int)) := by
  refine mmC_of [(0, x), (9, 0), (9, 0), (9, 0)] ok_J6_stringSize_0f7a4.2.2.2.2 rfl (Nat.le_of_ble_eq_true rfl) ?_
  refine st_iconst dJ6_stringSize_0f7a4_0 ?_
  refine st_istore_n (i := 1) rfl (by decide) (lc' := [(0, x), (0, 1), (9, 0), (9, 0)]) rfl dJ6_stringSize_0f7a4_1 ?_
  refine st_iload_n (i := 0) rfl rfl dJ6_stringSize_0f7a4_2 ?_
  refine sr_if_lt 11 (by omega) (by decide) dJ6_stringSize_0f7a4_3 (fun h => absurd h (by omega)) (fun _ => ?_)
  refine st_iconst dJ6_stringSize_0f7a4_6 ?_
  refine st_istore_n (i := 1) rfl (by decide) (lc' := [(0, x), (0, 0), (9, 0), (9, 0)]) rfl dJ6_stringSize_0f7a4_7 ?_
  refine st_iload_n (i := 0) rfl rfl dJ6_stringSize_0f7a4_8 ?_
  refine st_ineg dJ6_stringSize_0f7a4_9 ?_
  refine st_istore_n (i := 0) rfl (by decide) (lc' := [(0, (-x)), (0, 0), (9, 0), (9, 0)]) rfl dJ6_stringSize_0f7a4_10 ?_
  refine st_bipush rfl dJ6_stringSize_0f7a4_11 ?_
  refine st_istore_n (i := 2) rfl (by decide) (lc' := [(0, (-x)), (0, 0), (0, (-10)), (9, 0)]) rfl dJ6_stringSize_0f7a4_13 ?_
  refine st_iconst dJ6_stringSize_0f7a4_14 ?_
  refine st_istore_n (i := 3) rfl (by decide) (lc' := [(0, (-x)), (0, 0), (0, (-10)), (0, 1)]) rfl dJ6_stringSize_0f7a4_15 ?_
  refine st_iload_n (i := 3) rfl rfl dJ6_stringSize_0f7a4_16 ?_
  refine st_bipush rfl dJ6_stringSize_0f7a4_17 ?_
  refine sr_icmp_ge 42 (by omega) (by omega) (by decide) dJ6_stringSize_0f7a4_19 (fun h => absurd h (by omega)) (fun _ => ?_)
  refine st_iload_n (i := 0) rfl rfl dJ6_stringSize_0f7a4_22 ?_
  refine st_iload_n (i := 2) rfl rfl dJ6_stringSize_0f7a4_23 ?_
  refine sr_icmp_le 31 (by omega) (by omega) (by decide) dJ6_stringSize_0f7a4_24 (fun h => ?_) (fun h => ?_)
  · refine st_bipush rfl dJ6_stringSize_0f7a4_31 ?_
    refine st_iload_n (i := 2) rfl rfl dJ6_stringSize_0f7a4_33 ?_
    refine st_imul dJ6_stringSize_0f7a4_34 ?_
    refine st_istore_n (i := 2) rfl (by decide) (lc' := [(0, (-x)), (0, 0), (0, (10 * (-10))), (0, 1)]) rfl dJ6_stringSize_0f7a4_35 ?_
    refine st_iinc (y := (1 + 1)) (by decide) (i := 3) rfl rfl (lc' := [(0, (-x)), (0, 0), (0, (10 * (-10))), (0, (1 + 1))]) rfl dJ6_stringSize_0f7a4_36 ?_
    refine st_goto 16 (by decide) dJ6_stringSize_0f7a4_39 ?_
    refine st_iload_n (i := 3) rfl rfl dJ6_stringSize_0f7a4_16 ?_
    refine st_bipush rfl dJ6_stringSize_0f7a4_17 ?_
    refine sr_icmp_ge 42 (by omega) (by omega) (by decide) dJ6_stringSize_0f7a4_19 (fun h => absurd h (by omega)) (fun _ => ?_)
    refine st_iload_n (i := 0) rfl rfl dJ6_stringSize_0f7a4_22 ?_
    refine st_iload_n (i := 2) rfl rfl dJ6_stringSize_0f7a4_23 ?_
    refine sr_icmp_le 31 (by omega) (by omega) (by decide) dJ6_stringSize_0f7a4_24 (fun h => absurd h (by omega)) (fun _ => ?_)
    refine st_iload_n (i := 3) rfl rfl dJ6_stringSize_0f7a4_27 ?_
    refine st_iload_n (i := 1) rfl rfl dJ6_stringSize_0f7a4_28 ?_
    refine st_iadd dJ6_stringSize_0f7a4_29 ?_
    exact st_ireturn rfl dJ6_stringSize_0f7a4_30 ⟨by rw [show ((1 : Int) + 1 + 0) = ((dgN x : Nat) : Int) by unfold dgN; rw [if_neg (by omega)]; rfl], rfl, rfl⟩
  · refine st_iload_n (i := 3) rfl rfl dJ6_stringSize_0f7a4_27 ?_
    refine st_iload_n (i := 1) rfl rfl dJ6_stringSize_0f7a4_28 ?_
    refine st_iadd dJ6_stringSize_0f7a4_29 ?_
    exact st_ireturn rfl dJ6_stringSize_0f7a4_30 ⟨by rw [show ((1 : Int) + 0) = ((dgN x : Nat) : Int) by unfold dgN; rw [if_pos (by omega)]; rfl], rfl, rfl⟩
def decR (mem : mmM) (v : Nat) (e x : Int) : mmM := if x < 10 then mset mem v (e - 1) (48 + x) else mset (mset mem v (e - 1) (48 + x % 10)) v (e - 2) (48 + x / 10)
def gcP (sh : mmS) (mem : mmM) (v : Nat) (e x : Int) : mmQ := fun r sh' m' => (∃ y, r = some (0, y)) ∧ sh' = sh ∧ m' = decR mem v e x
theorem c_J6_getChars {sh : mmS} {mem : mmM} {v m : Nat} {x e : Int} (hsh : sh.1 = true) (hx : 0 ≤ x ∧ x < 100) (hv : sh.2[v]? = some (25, m)) (hm : m ≤ 800) (he : (dgN x : Int) ≤ e ∧ e ≤ m) : mmC bJ6_getChars_ba4f3 0 0 0 [(0, x), (0, e), (2, (v : Int))] sh mem (gcP sh mem v e x) := by
  have hd : (x < 10 ∧ (dgN x : Int) = 1) ∨ (10 ≤ x ∧ (dgN x : Int) = 2) := by
    unfold dgN
    split
    · exact Or.inl ⟨by omega, rfl⟩
    · exact Or.inr ⟨by omega, rfl⟩
  refine mmC_of [(0, x), (0, e), (2, (v : Int)), (9, 0), (9, 0), (9, 0), (9, 0)] ok_J6_getChars_ba4f3.2.2.2.2 rfl (Nat.le_of_ble_eq_true rfl) ?_
  refine st_iload_n (i := 1) rfl rfl dJ6_getChars_ba4f3_0 ?_
  refine st_istore (by decide) (lc' := [(0, x), (0, e), (2, (v : Int)), (9, 0), (9, 0), (0, e), (9, 0)]) rfl dJ6_getChars_ba4f3_1 ?_
  refine st_iload_n (i := 0) rfl rfl dJ6_getChars_ba4f3_3 ?_
  refine sr_if_ge 11 (by omega) (by decide) dJ6_getChars_ba4f3_4 (fun _ => ?_) (fun h => absurd h (by omega))
  refine st_iconst dJ6_getChars_ba4f3_11 ?_
  refine st_istore (by decide) (lc' := [(0, x), (0, e), (2, (v : Int)), (9, 0), (9, 0), (0, e), (0, 0)]) rfl dJ6_getChars_ba4f3_12 ?_
  refine st_iload rfl dJ6_getChars_ba4f3_14 ?_
  refine sr_if_ne 22 (by omega) (by decide) dJ6_getChars_ba4f3_16 (fun h => absurd h (by omega)) (fun _ => ?_)
  refine st_iload_n (i := 0) rfl rfl dJ6_getChars_ba4f3_19 ?_
  refine st_ineg dJ6_getChars_ba4f3_20 ?_
  refine st_istore_n (i := 0) rfl (by decide) (lc' := [(0, (-x)), (0, e), (2, (v : Int)), (9, 0), (9, 0), (0, e), (0, 0)]) rfl dJ6_getChars_ba4f3_21 ?_
  refine st_iload_n (i := 0) rfl rfl dJ6_getChars_ba4f3_22 ?_
  refine st_bipush rfl dJ6_getChars_ba4f3_23 ?_
  refine sr_icmp_gt 72 (by omega) (by omega) (by decide) dJ6_getChars_ba4f3_25 (fun _ => ?_) (fun h => absurd h (by omega))
  refine st_aload_n (i := 2) rfl (t := 0) rfl (by decide) dJ6_getChars_ba4f3_72 ?_
  refine st_iinc (y := (e + (-1))) (by decide) (i := 5) rfl rfl (lc' := [(0, (-x)), (0, e), (2, (v : Int)), (9, 0), (9, 0), (0, (e + (-1))), (0, 0)]) rfl dJ6_getChars_ba4f3_73 ?_
  refine st_iload rfl dJ6_getChars_ba4f3_76 ?_
  refine st_getOnes gs_J6_83 dJ6_getChars_ba4f3_78 ?_
  refine st_iload_n (i := 0) rfl rfl dJ6_getChars_ba4f3_81 ?_
  refine st_ineg dJ6_getChars_ba4f3_82 ?_
  rw [Int.neg_neg]
  refine st_balOnes (by omega) dJ6_getChars_ba4f3_83 ?_
  refine st_bastB v hsh (by omega) rfl hv (by omega) (by omega) (by omega) dJ6_getChars_ba4f3_84 ?_
  refine st_iload_n (i := 0) rfl rfl dJ6_getChars_ba4f3_85 ?_
  refine st_bipush rfl dJ6_getChars_ba4f3_86 ?_
  refine sr_icmp_ge 104 (by omega) (by omega) (by decide) dJ6_getChars_ba4f3_88 (fun h => ?_) (fun h => ?_)
  · refine st_iload rfl dJ6_getChars_ba4f3_104 ?_
    refine sr_if_eq 118 (by omega) (by decide) dJ6_getChars_ba4f3_106 (fun _ => ?_) (fun h => absurd h (by omega))
    refine st_iload rfl dJ6_getChars_ba4f3_118 ?_
    exact st_ireturn rfl dJ6_getChars_ba4f3_120 ⟨⟨_, rfl⟩, rfl, by unfold decR; rw [if_pos (by omega), show e + -1 = e - 1 by omega, show x % 10 = x by omega]⟩
  · refine st_aload_n (i := 2) rfl (t := 0) rfl (by decide) dJ6_getChars_ba4f3_91 ?_
    refine st_iinc (y := ((e + (-1)) + (-1))) (by decide) (i := 5) rfl rfl (lc' := [(0, (-x)), (0, e), (2, (v : Int)), (9, 0), (9, 0), (0, ((e + (-1)) + (-1))), (0, 0)]) rfl dJ6_getChars_ba4f3_92 ?_
    refine st_iload rfl dJ6_getChars_ba4f3_95 ?_
    refine st_getTens gs_J6_87 dJ6_getChars_ba4f3_97 ?_
    refine st_iload_n (i := 0) rfl rfl dJ6_getChars_ba4f3_100 ?_
    refine st_ineg dJ6_getChars_ba4f3_101 ?_
    rw [Int.neg_neg]
    refine st_balTens (by omega) dJ6_getChars_ba4f3_102 ?_
    refine st_bastB v hsh (by omega) rfl hv (by omega) (by omega) (by omega) dJ6_getChars_ba4f3_103 ?_
    refine st_iload rfl dJ6_getChars_ba4f3_104 ?_
    refine sr_if_eq 118 (by omega) (by decide) dJ6_getChars_ba4f3_106 (fun _ => ?_) (fun h => absurd h (by omega))
    refine st_iload rfl dJ6_getChars_ba4f3_118 ?_
    exact st_ireturn rfl dJ6_getChars_ba4f3_120 ⟨⟨_, rfl⟩, rfl, by unfold decR; rw [if_neg (by omega), show e + -1 = e - 1 by omega, show e - 1 + -1 = e - 2 by omega]⟩
theorem isSB_dec {L : List (Nat × Nat)} {mem : mmM} {sb v m n : Nat} {t : Int → Int} {x : Int} (hS : isSB L mem sb v m n t) (hk : n + dgN x ≤ m) (hx : 0 ≤ x ∧ x < 100) : isSB L (mset (decR mem v ((n : Int) + (dgN x : Int)) x) sb 3 ((n : Int) + (dgN x : Int))) sb v m (n + dgN x) (catT t n (decT x)) ∧ ∀ a, a ≠ sb → a ≠ v → mset (decR mem v ((n : Int) + (dgN x : Int)) x) sb 3 ((n : Int) + (dgN x : Int)) a = mem a := by
  have hne := hS.ne
  obtain ⟨hs, hv, hv0, hc, hn0, hnm, hm8, hby, htx⟩ := hS
  have e1 : ∀ a, a ≠ v → decR mem v ((n : Int) + (dgN x : Int)) x a = mem a := fun a ha => by
    unfold decR
    split
    · rw [mset_ne ha]
    · rw [mset_ne ha, mset_ne ha]
  have e2 : ∀ j, decR mem v ((n : Int) + (dgN x : Int)) x v j = if (n : Int) ≤ j ∧ j < n + dgN x then decT x (j - n) else mem v j := by
    intro j
    unfold decR decT
    by_cases h : x < 10
    · have hd : dgN x = 1 := if_pos h
      rw [if_pos h, mset_at, if_pos h, hd]
      by_cases hj : j = (n : Int) + ((1 : Nat) : Int) - 1
      · rw [if_pos hj, if_pos (by omega)]
      · rw [if_neg hj, if_neg (by omega)]
    · have hd : dgN x = 2 := if_neg h
      rw [if_neg h, mset_at, mset_at, if_neg h, hd]
      by_cases hj : j = (n : Int) + ((2 : Nat) : Int) - 2
      · rw [if_pos hj, if_pos (by omega), if_pos (by omega)]
      · rw [if_neg hj]
        by_cases hj2 : j = (n : Int) + ((2 : Nat) : Int) - 1
        · rw [if_pos hj2, if_pos (by omega), if_neg (by omega)]
        · rw [if_neg hj2, if_neg (by omega)]
  have e3 : ∀ j, 0 ≤ decT x j ∧ decT x j ≤ 127 := fun j => by
    unfold decT
    split
    · omega
    · split <;> omega
  refine ⟨⟨hs, hv, ?_, ?_, ?_, hk, hm8, fun j => ?_, fun j h1 h2 => ?_⟩, fun a h1 h2 => by rw [mset_ne h1, e1 a h2]⟩
  · rw [mset_at, if_neg (by decide), e1 sb hne]; exact hv0
  · rw [mset_at, if_neg (by decide), e1 sb hne]; exact hc
  · rw [mset_same]; omega
  · rw [mset_ne (Ne.symm hne), e2]
    split
    · exact e3 _
    · exact hby j
  · rw [mset_ne (Ne.symm hne), e2]
    by_cases hj : j < n
    · rw [if_neg (by omega), catT_lo hj]; exact htx j h1 hj
    · rw [if_pos (by omega), catT_hi hj]
theorem c_J5_appendI {L : List (Nat × Nat)} {mem : mmM} {sb v m n : Nat} {t : Int → Int} {x : Int} (hSB : isSB L mem sb v m n t) (hx : 0 ≤ x ∧ x < 100) (hnk : n + 2 ≤ 400) (hL : L.length + 1 ≤ 999) : mmC bJ5_append_c97b9 5 1 800 [(2, (sb : Int)), (0, x)] (true, L) mem (apP L mem sb v (n + dgN x) (catT t n (decT x))) := by
  obtain ⟨hs, hv, hv0, hc, hn0, hnm, hm8, hby, htx⟩ := id hSB
  have hsl := getL_lt hs
  have hvl := getL_lt hv
  have hdg : dgN x ≤ 2 := by
    unfold dgN
    split <;> omega
  refine mmC_of [(2, (sb : Int)), (0, x), (9, 0), (9, 0)] ok_J5_append_c97b9.2.2.2.2 rfl (Nat.le_of_ble_eq_true rfl) ?_
  refine st_aload_n (i := 0) rfl (t := 0) rfl (by decide) dJ5_append_c97b9_0 ?_
  refine st_getfield sb 3 fr_J5_79_12 rfl hs hn0 dJ5_append_c97b9_1 ?_
  refine st_istore_n (i := 2) rfl (by decide) (lc' := [(2, (sb : Int)), (0, x), (0, (n : Int)), (9, 0)]) rfl dJ5_append_c97b9_4 ?_
  refine st_iload_n (i := 2) rfl rfl dJ5_append_c97b9_5 ?_
  refine st_iload_n (i := 1) rfl rfl dJ5_append_c97b9_6 ?_
  refine st_callS (kc2 := 1) (ks2 := 800) (av := [(0, x)]) mr_J5_245 ok_J6_stringSize_0f7a4 (c_J6_stringSize hx) rfl rfl (by omega) (by omega) (by omega) (mmCat_4 (Nat.le_of_ble_eq_true rfl)) dJ5_append_c97b9_7 (rI.elim ?_)
  refine st_iadd dJ5_append_c97b9_10 ?_
  refine st_istore_n (i := 3) rfl (by decide) (lc' := [(2, (sb : Int)), (0, x), (0, (n : Int)), (0, ((n : Int) + ((dgN x : Nat) : Int)))]) rfl dJ5_append_c97b9_11 ?_
  refine st_aload_n (i := 0) rfl (t := 0) rfl (by decide) dJ5_append_c97b9_12 ?_
  refine st_iload_n (i := 3) rfl rfl dJ5_append_c97b9_13 ?_
  refine st_callU _ _ _ (kc2 := 0) (ks2 := 0) (av := [(0, ((n : Int) + ((dgN x : Nat) : Int)))]) sb 12 mr_J5_100_12 ok_J5_ensureCapacityInternal_d00df (c_J5_ensure (q := n + dgN x) (by omega) hSB (by omega) hL) rfl hs ⟨_, rfl, rfl, by decide⟩ rfl rfl (by omega) (by omega) (by omega) (mmCat_4 (Nat.le_of_ble_eq_true rfl)) dJ5_append_c97b9_14 ?_
  rintro r sh' m1 ⟨rfl, L', v', m2, rfl, hS2, hq2, hfr⟩
  obtain ⟨gs, gv, gv0, gc, gn0, gnm, gm8, gby, gtx⟩ := id hS2
  have gsl := getL_lt gs
  have gvl := getL_lt gv
  have gne := hS2.ne
  have gL : L'.length ≤ 999 := by
    obtain ⟨⟨E, rfl, hE⟩, -⟩ := hfr
    rw [List.length_append]
    omega
  refine st_aload_n (i := 0) rfl (t := 0) rfl (by decide) dJ5_append_c97b9_17 ?_
  refine st_callU _ _ _ (kc2 := 0) (ks2 := 0) (av := []) sb 12 mr_J5_83_12 ok_J5_isLatin1_aae02 (c_J5_isLatin1 gs gc) rfl gs ⟨_, rfl, rfl, by decide⟩ rfl rfl (by omega) (by omega) (by omega) (mmCat_4 (Nat.le_of_ble_eq_true rfl)) dJ5_append_c97b9_18 (rI.elim ?_)
  refine sr_if_eq 37 (by omega) (by decide) dJ5_append_c97b9_21 (fun h => absurd h (by omega)) (fun _ => ?_)
  refine st_iload_n (i := 1) rfl rfl dJ5_append_c97b9_24 ?_
  refine st_iload_n (i := 3) rfl rfl dJ5_append_c97b9_25 ?_
  refine st_aload_n (i := 0) rfl (t := 0) rfl (by decide) dJ5_append_c97b9_26 ?_
  refine st_getfield sb 0 fr_J5_15_12 rfl gs gv0 dJ5_append_c97b9_27 ?_
  refine st_callS (kc2 := 0) (ks2 := 0) (av := [(0, x), (0, ((n : Int) + ((dgN x : Nat) : Int))), (2, (v' : Int))]) mr_J5_248 ok_J6_getChars_ba4f3 (c_J6_getChars rfl hx gv gm8 ⟨by omega, by omega⟩) rfl rfl (by omega) (by omega) (by omega) (mmCat_4 (Nat.le_of_ble_eq_true rfl)) dJ5_append_c97b9_30 ?_
  rintro r sh' m3 ⟨⟨y, rfl⟩, rfl, rfl⟩
  refine st_pop (Nat.ne_of_beq_eq_false rfl) dJ5_append_c97b9_33 ?_
  refine st_goto 48 (by decide) dJ5_append_c97b9_34 ?_
  refine st_aload_n (i := 0) rfl (t := 0) rfl (by decide) dJ5_append_c97b9_48 ?_
  refine st_iload_n (i := 3) rfl rfl dJ5_append_c97b9_49 ?_
  refine sx_putI sb 3 rfl fr_J5_79_12 pf_12_3 rfl gs (by omega) dJ5_append_c97b9_50 ?_
  refine st_aload_n (i := 0) rfl (t := 0) rfl (by decide) dJ5_append_c97b9_53 ?_
  exact st_areturn rfl (Or.inl ⟨_, rfl⟩) dJ5_append_c97b9_54 ⟨L', v', m2, rfl, rfl, (isSB_dec hS2 hq2 hx).1, sbFr_put hfr (by omega) (by omega) (isSB_dec hS2 hq2 hx).2⟩
theorem c_J4_appendI {L : List (Nat × Nat)} {mem : mmM} {sb v m n : Nat} {t : Int → Int} {x : Int} (hSB : isSB L mem sb v m n t) (hx : 0 ≤ x ∧ x < 100) (hnk : n + 2 ≤ 400) (hL : L.length + 1 ≤ 999) : mmC bJ4_append_bf812 6 1 800 [(2, (sb : Int)), (0, x)] (true, L) mem (apP L mem sb v (n + dgN x) (catT t n (decT x))) := by
  obtain ⟨hs, hv, hv0, hc, hn0, hnm, hm8, hby, htx⟩ := id hSB
  have hsl := getL_lt hs
  have hvl := getL_lt hv
  refine mmC_of [(2, (sb : Int)), (0, x)] ok_J4_append_bf812.2.2.2.2 rfl (Nat.le_of_ble_eq_true rfl) ?_
  refine st_aload_n (i := 0) rfl (t := 0) rfl (by decide) dJ4_append_bf812_0 ?_
  refine st_iload_n (i := 1) rfl rfl dJ4_append_bf812_1 ?_
  refine st_callSu (kc2 := 0) (ks2 := 0) (av := [(0, x)]) sb 12 mr_J4_53 ok_J5_append_c97b9 (c_J5_appendI hSB hx hnk hL) rfl hs (by decide) (by decide) rfl rfl (by omega) (by omega) (by omega) (mmCat_4 (Nat.le_of_ble_eq_true rfl)) dJ4_append_bf812_2 ?_
  rintro r sh' m1 ⟨L', v', m2, rfl, rfl, hS2, hfr⟩
  refine st_pop (Nat.ne_of_beq_eq_false rfl) dJ4_append_bf812_5 ?_
  refine st_aload_n (i := 0) rfl (t := 0) rfl (by decide) dJ4_append_bf812_6 ?_
  exact st_areturn rfl (Or.inl ⟨_, rfl⟩) dJ4_append_bf812_7 ⟨L', v', m2, rfl, rfl, hS2, hfr⟩
