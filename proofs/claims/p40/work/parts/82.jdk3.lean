/-! a StringBuilder new; its text as a String; a String's letters -/
def nwP (L : List (Nat × Nat)) (mem : mmM) (sb : Nat) : mmQ := fun r sh' m' => r = none ∧ sh' = (true, L ++ [(25, 16)]) ∧ (∀ t, isSB (L ++ [(25, 16)]) m' sb L.length 16 0 t) ∧ ∀ a, a ≠ sb → a ≠ L.length → m' a = mem a
theorem nwP_ok {L : List (Nat × Nat)} {mem : mmM} {sb : Nat} (hs : L[sb]? = some (12, 4)) (hc : mem sb 3 = 0) : nwP L mem sb none (true, L ++ [(25, 16)]) (mset (mset (mrow mem L.length (fun _ => 0)) sb 0 L.length) sb 1 0) := by
  have hsl := getL_lt hs
  refine ⟨rfl, rfl, fun t => ⟨getL_app hs, newR, ?_, mset_same _ _ _ _, ?_, by omega, by omega, fun j => ?_, fun j h1 h2 => by omega⟩, fun a h1 h2 => by rw [mset_ne h1, mset_ne h1, mrow_ne h2]⟩
  · rw [mset_at, if_neg (by decide), mset_same]
  · rw [mset_at, if_neg (by decide), mset_at, if_neg (by decide), mrow_ne (by omega)]; exact hc
  · rw [mset_ne (by omega), mset_ne (by omega), mrow_same]; omega
theorem c_J5_init {L : List (Nat × Nat)} {mem : mmM} {sb : Nat} (hs : L[sb]? = some (12, 4)) (hc : mem sb 3 = 0) (hL : L.length + 1 ≤ 999) : mmC bJ5_init_d00df 1 1 800 [(2, (sb : Int)), (0, 16)] (true, L) mem (nwP L mem sb) := by
  have hsl := getL_lt hs
  refine mmC_of [(2, (sb : Int)), (0, 16)] ok_J5_init_d00df.2.2.2.2 rfl (Nat.le_of_ble_eq_true rfl) ?_
  refine st_aload_n (i := 0) rfl (t := 0) rfl (by decide) dJ5_init_d00df_0 ?_
  refine st_objInit sb mr_J5_3 mo_ins mo_code (by omega) (mmCat_4 (Nat.le_of_ble_eq_true rfl)) rfl dJ5_init_d00df_1 ?_
  refine st_getCompact gs_J5_18 dJ5_init_d00df_4 ?_
  refine sr_if_eq 25 (by omega) (by decide) dJ5_init_d00df_7 (fun h => absurd h (by omega)) (fun _ => ?_)
  refine st_aload_n (i := 0) rfl (t := 0) rfl (by decide) dJ5_init_d00df_10 ?_
  refine st_iload_n (i := 1) rfl rfl dJ5_init_d00df_11 ?_
  refine mmT.wk (kc := 0 + 1) (ks := 0 + 16) ?_ (by omega) (by omega)
  refine st_newB (n := 16) ac_byte rfl (by omega) (by omega) dJ5_init_d00df_12 ?_
  refine sx_putA sb 0 rfl fr_J5_15_12 pf_12_0 rfl (getL_app hs) dJ5_init_d00df_14 ?_
  refine st_aload_n (i := 0) rfl (t := 0) rfl (by decide) dJ5_init_d00df_17 ?_
  refine st_iconst dJ5_init_d00df_18 ?_
  refine sx_putB sb 1 rfl fr_J5_22_12 pf_12_1 rfl (getL_app hs) (Or.inl rfl) dJ5_init_d00df_19 ?_
  refine st_goto 38 (by decide) dJ5_init_d00df_22 ?_
  exact st_return rfl dJ5_init_d00df_38 (nwP_ok hs hc)
theorem c_J4_init {L : List (Nat × Nat)} {mem : mmM} {sb : Nat} (hs : L[sb]? = some (12, 4)) (hc : mem sb 3 = 0) (hL : L.length + 1 ≤ 999) : mmC bJ4_init_da8c8 2 1 800 [(2, (sb : Int))] (true, L) mem (nwP L mem sb) := by
  have hsl := getL_lt hs
  refine mmC_of [(2, (sb : Int))] ok_J4_init_da8c8.2.2.2.2 rfl (Nat.le_of_ble_eq_true rfl) ?_
  refine st_aload_n (i := 0) rfl (t := 0) rfl (by decide) dJ4_init_da8c8_0 ?_
  refine st_bipush rfl dJ4_init_da8c8_1 ?_
  refine st_callI (kc2 := 0) (ks2 := 0) (av := [(0, 16)]) sb mr_J4_1 rfl ok_J5_init_d00df (c_J5_init hs hc hL) rfl rfl rfl (by omega) (by omega) (by omega) (mmCat_4 (Nat.le_of_ble_eq_true rfl)) dJ4_init_da8c8_3 ?_
  rintro r sh' m' ⟨rfl, rfl, h1, h2⟩
  exact st_return rfl dJ4_init_da8c8_6 ⟨rfl, rfl, h1, h2⟩
def rA (sh : mmS) (mem : mmM) (x : Int) : mmQ := fun r sh' m' => r = some (2, x) ∧ sh' = sh ∧ m' = mem
theorem rA.elim {B : mmB} {d kc ks : Nat} {Q : mmQ} {pc : Nat} {lc st : List mmV} {sh : mmS} {mem : mmM} {x : Int} (k : mmT B d kc ks Q pc lc ((2, x) :: st) sh mem) : ∀ (r : Option mmV) (sh' : mmS) (m' : mmM), rA sh mem x r sh' m' → mmT B d kc ks Q pc lc (r.toList ++ st) sh' m' := by
  rintro r sh' m' ⟨rfl, rfl, rfl⟩
  exact k
theorem c_J5_getValue {sh : mmS} {mem : mmM} {sb v : Nat} (hs : sh.2[sb]? = some (12, 4)) (hv0 : mem sb 0 = (v : Int)) : mmC bJ5_getValue_6d5f1 0 0 0 [(2, (sb : Int))] sh mem (rA sh mem v) := by
  refine mmC_of [(2, (sb : Int))] ok_J5_getValue_6d5f1.2.2.2.2 rfl (Nat.le_of_ble_eq_true rfl) ?_
  refine st_aload_n (i := 0) rfl (t := 0) rfl (by decide) dJ5_getValue_6d5f1_0 ?_
  refine st_getfield sb 0 fr_J5_15_12 rfl hs hv0 dJ5_getValue_6d5f1_1 ?_
  exact st_areturn rfl (Or.inr ⟨_, rfl⟩) dJ5_getValue_6d5f1_4 ⟨rfl, rfl, rfl⟩
theorem c_J5_length {sh : mmS} {mem : mmM} {sb n : Nat} (hs : sh.2[sb]? = some (12, 4)) (hn0 : mem sb 3 = (n : Int)) : mmC bJ5_length_8abf5 0 0 0 [(2, (sb : Int))] sh mem (rI sh mem n) := by
  refine mmC_of [(2, (sb : Int))] ok_J5_length_8abf5.2.2.2.2 rfl (Nat.le_of_ble_eq_true rfl) ?_
  refine st_aload_n (i := 0) rfl (t := 0) rfl (by decide) dJ5_length_8abf5_0 ?_
  refine st_getfield sb 3 fr_J5_79_12 rfl hs hn0 dJ5_length_8abf5_1 ?_
  exact st_ireturn rfl dJ5_length_8abf5_4 ⟨rfl, rfl, rfl⟩
theorem c_J4_length {sh : mmS} {mem : mmM} {sb n : Nat} (hs : sh.2[sb]? = some (12, 4)) (hn0 : mem sb 3 = (n : Int)) : mmC bJ4_length_8abf5 1 0 0 [(2, (sb : Int))] sh mem (rI sh mem n) := by
  refine mmC_of [(2, (sb : Int))] ok_J4_length_8abf5.2.2.2.2 rfl (Nat.le_of_ble_eq_true rfl) ?_
  refine st_aload_n (i := 0) rfl (t := 0) rfl (by decide) dJ4_length_8abf5_0 ?_
  refine st_callSu (kc2 := 0) (ks2 := 0) (av := []) sb 12 mr_J4_343 ok_J5_length_8abf5 (c_J5_length hs hn0) rfl hs (by decide) (by decide) rfl rfl (by omega) (by omega) (by omega) (mmCat_4 (Nat.le_of_ble_eq_true rfl)) dJ4_length_8abf5_1 (rI.elim ?_)
  exact st_ireturn rfl dJ4_length_8abf5_4 ⟨rfl, rfl, rfl⟩
theorem c_J7_checkLength {sh : mmS} {mem : mmM} {a b : Int} (ha : 0 ≤ a ∧ a ≤ 5000) (hb : a ≤ b ∧ b ≤ 5000) : mmC bJ7_checkLength_df160 0 0 0 [(0, a), (0, b)] sh mem (rN sh mem) := by
  refine mmC_of [(0, a), (0, b)] ok_J7_checkLength_df160.2.2.2.2 rfl (Nat.le_of_ble_eq_true rfl) ?_
  refine st_iload_n (i := 1) rfl rfl dJ7_checkLength_df160_0 ?_
  refine st_iload_n (i := 0) rfl rfl dJ7_checkLength_df160_1 ?_
  refine sr_icmp_ge 37 (by omega) (by omega) (by decide) dJ7_checkLength_df160_2 (fun _ => ?_) (fun h => absurd h (by omega))
  exact st_return rfl dJ7_checkLength_df160_37 ⟨rfl, rfl, rfl⟩
def crP (L : List (Nat × Nat)) (mem : mmM) (v n : Nat) : mmQ := fun r sh' m' => r = some (2, (L.length : Int)) ∧ sh' = (true, L ++ [(25, n)]) ∧ (∀ a, a ≠ L.length → m' a = mem a) ∧ ∀ j : Int, 0 ≤ j → j < n → m' L.length j = mem v j
theorem c_J7_copyRB {L : List (Nat × Nat)} {mem : mmM} {v m n : Nat} (hv : L[v]? = some (25, m)) (hby : ∀ j, 0 ≤ mem v j ∧ mem v j ≤ 127) (hn : n ≤ m) (hm8 : m ≤ 800) (hL : L.length + 1 ≤ 999) : mmC bJ7_copyOfRangeByte_39247 3 1 800 [(2, (v : Int)), (0, 0), (0, (n : Int))] (true, L) mem (crP L mem v n) := by
  have hvl := getL_lt hv
  refine mmC_of [(2, (v : Int)), (0, 0), (0, (n : Int)), (9, 0), (9, 0)] ok_J7_copyOfRangeByte_39247.2.2.2.2 rfl (Nat.le_of_ble_eq_true rfl) ?_
  refine st_iload_n (i := 1) rfl rfl dJ7_copyOfRangeByte_39247_0 ?_
  refine st_iload_n (i := 2) rfl rfl dJ7_copyOfRangeByte_39247_1 ?_
  refine st_callS (kc2 := 1) (ks2 := 800) (av := [(0, 0), (0, (n : Int))]) mr_J7_343 ok_J7_checkLength_df160 (c_J7_checkLength (by omega) (by omega)) rfl rfl (by omega) (by omega) (by omega) (mmCat_4 (Nat.le_of_ble_eq_true rfl)) dJ7_copyOfRangeByte_39247_2 (rN.elim ?_)
  refine st_iload_n (i := 2) rfl rfl dJ7_copyOfRangeByte_39247_5 ?_
  refine st_iload_n (i := 1) rfl rfl dJ7_copyOfRangeByte_39247_6 ?_
  refine st_isub dJ7_copyOfRangeByte_39247_7 ?_
  refine st_istore_n (i := 3) rfl (by decide) (lc' := [(2, (v : Int)), (0, 0), (0, (n : Int)), (0, ((n : Int) - 0)), (9, 0)]) rfl dJ7_copyOfRangeByte_39247_8 ?_
  refine st_iload_n (i := 3) rfl rfl dJ7_copyOfRangeByte_39247_9 ?_
  refine mmT.wk (kc := 0 + 1) (ks := 0 + n) ?_ (by omega) (by omega)
  refine st_newB ac_byte (show ((n : Int) - 0) = (n : Int) by omega) (by omega) (by omega) dJ7_copyOfRangeByte_39247_10 ?_
  refine st_astore (by decide) (lc' := [(2, (v : Int)), (0, 0), (0, (n : Int)), (0, ((n : Int) - 0)), (2, (L.length : Int))]) rfl (by omega) dJ7_copyOfRangeByte_39247_12 ?_
  refine st_aload_n (i := 0) rfl (t := 0) rfl (by decide) dJ7_copyOfRangeByte_39247_14 ?_
  refine st_iload_n (i := 1) rfl rfl dJ7_copyOfRangeByte_39247_15 ?_
  refine st_aload (t := 0) rfl (by decide) dJ7_copyOfRangeByte_39247_16 ?_
  refine st_iconst dJ7_copyOfRangeByte_39247_18 ?_
  refine st_aload_n (i := 0) rfl (t := 0) rfl (by decide) dJ7_copyOfRangeByte_39247_19 ?_
  refine st_alen v rfl (getL_app hv) ⟨by decide, by decide⟩ dJ7_copyOfRangeByte_39247_20 ?_
  refine st_iload_n (i := 1) rfl rfl dJ7_copyOfRangeByte_39247_21 ?_
  refine st_isub dJ7_copyOfRangeByte_39247_22 ?_
  refine st_iload_n (i := 3) rfl rfl dJ7_copyOfRangeByte_39247_23 ?_
  refine sr_mmin (by omega) (by omega) mr_J7_304 ms_mini mi_Math mc_mini (by omega) (mmCat_4 (Nat.le_of_ble_eq_true rfl)) dJ7_copyOfRangeByte_39247_24 ?_
  refine st_copyB (w := (2, (v : Int))) (n0 := m) (n1 := n) (f := mem v) L.length 0 0 n rfl (Or.inl ⟨v, rfl, getL_app hv, fun j _ _ => by rw [mrow_ne (by omega)]⟩) mr_J7_150 rfl (by omega) rfl rfl newR (by omega) (by omega) (by omega) (by omega) (fun j _ _ => hby j) (by omega) (mmCat_4 (Nat.le_of_ble_eq_true rfl)) dJ7_copyOfRangeByte_39247_27 ma_nat ma_sta ma_ini ?_
  refine st_aload (t := 0) rfl (by decide) dJ7_copyOfRangeByte_39247_30 ?_
  refine st_areturn rfl (Or.inr ⟨_, rfl⟩) dJ7_copyOfRangeByte_39247_32 ⟨rfl, rfl, fun a ha => by rw [mrow_ne ha, mrow_ne ha], fun j h1 h2 => ?_⟩
  rw [mrow_same, if_pos (by omega), show ((0 : Nat) : Int) + (j - ((0 : Nat) : Int)) = j by omega]
theorem c_J7_copyR {L : List (Nat × Nat)} {mem : mmM} {v m n : Nat} (hv : L[v]? = some (25, m)) (hby : ∀ j, 0 ≤ mem v j ∧ mem v j ≤ 127) (hn : n ≤ m) (hm8 : m ≤ 800) (hL : L.length + 1 ≤ 999) : mmC bJ7_copyOfRange_39247 4 1 800 [(2, (v : Int)), (0, 0), (0, (n : Int))] (true, L) mem (crP L mem v n) := by
  have hvl := getL_lt hv
  refine mmC_of [(2, (v : Int)), (0, 0), (0, (n : Int))] ok_J7_copyOfRange_39247.2.2.2.2 rfl (Nat.le_of_ble_eq_true rfl) ?_
  refine st_iload_n (i := 1) rfl rfl dJ7_copyOfRange_39247_0 ?_
  refine sr_if_ne 10 (by omega) (by decide) dJ7_copyOfRange_39247_1 (fun h => absurd h (by omega)) (fun _ => ?_)
  refine st_iload_n (i := 2) rfl rfl dJ7_copyOfRange_39247_4 ?_
  refine st_aload_n (i := 0) rfl (t := 0) rfl (by decide) dJ7_copyOfRange_39247_5 ?_
  refine st_alen v rfl hv ⟨by decide, by decide⟩ dJ7_copyOfRange_39247_6 ?_
  refine sr_icmp_eq 17 (by omega) (by omega) (by decide) dJ7_copyOfRange_39247_7 (fun h => ?_) (fun h => ?_)
  · have hnm : m = n := by omega
    subst hnm
    refine st_aload_n (i := 0) rfl (t := 0) rfl (by decide) dJ7_copyOfRange_39247_17 ?_
    refine mmT.wk (kc := 0 + 1) (ks := 0 + m) ?_ (by omega) (by omega)
    refine st_cloneB v rfl rfl hv (by omega) (fun j _ _ => hby j) (by omega) (mmCat_4 (Nat.le_of_ble_eq_true rfl)) dJ7_copyOfRange_39247_18 cb_link cb_same cb_nat cb_ins cb_sel ?_
    refine st_castB L.length rfl rfl newR cb_cls dJ7_copyOfRange_39247_21 ?_
    exact st_areturn rfl (Or.inr ⟨_, rfl⟩) dJ7_copyOfRange_39247_24 ⟨rfl, rfl, fun a ha => mrow_ne ha, fun j _ _ => by rw [mrow_same]⟩
  · refine st_aload_n (i := 0) rfl (t := 0) rfl (by decide) dJ7_copyOfRange_39247_10 ?_
    refine st_iload_n (i := 1) rfl rfl dJ7_copyOfRange_39247_11 ?_
    refine st_iload_n (i := 2) rfl rfl dJ7_copyOfRange_39247_12 ?_
    refine st_callS (kc2 := 0) (ks2 := 0) (av := [(2, (v : Int)), (0, 0), (0, (n : Int))]) mr_J7_339 ok_J7_copyOfRangeByte_39247 (c_J7_copyRB hv hby hn hm8 hL) rfl rfl (by omega) (by omega) (by omega) (mmCat_4 (Nat.le_of_ble_eq_true rfl)) dJ7_copyOfRange_39247_13 ?_
    rintro r sh' m' ⟨rfl, rfl, h1, h2⟩
    exact st_areturn rfl (Or.inr ⟨_, rfl⟩) dJ7_copyOfRange_39247_16 ⟨rfl, rfl, h1, h2⟩
def siP (L : List (Nat × Nat)) (mem : mmM) (str n : Nat) (t : Int → Int) : mmQ := fun r sh' m' => r = none ∧ sh' = (true, L ++ [(25, n)]) ∧ m' str 0 = (L.length : Int) ∧ m' str 1 = 0 ∧ (∀ a, a ≠ str → a ≠ L.length → m' a = mem a) ∧ ∀ j : Int, 0 ≤ j → j < n → m' L.length j = t j
theorem c_J0_initA {L : List (Nat × Nat)} {mem : mmM} {sb v m n str : Nat} {t : Int → Int} (hSB : isSB L mem sb v m n t) (hst : L[str]? = some (11, 4)) (hL : L.length + 1 ≤ 999) : mmC bJ0_init_db425 5 1 800 [(2, (str : Int)), (2, (sb : Int)), (2, -1)] (true, L) mem (siP L mem str n t) := by
  obtain ⟨hs, hv, hv0, hc, hn0, hnm, hm8, hby, htx⟩ := id hSB
  have hsl := getL_lt hs
  have hvl := getL_lt hv
  have hstl := getL_lt hst
  have hsv : v ≠ str := fun e => by
    rw [e, hst] at hv
    cases hv
  refine mmC_of [(2, (str : Int)), (2, (sb : Int)), (2, -1), (9, 0), (9, 0)] ok_J0_init_db425.2.2.2.2 rfl (Nat.le_of_ble_eq_true rfl) ?_
  refine st_aload_n (i := 0) rfl (t := 0) rfl (by decide) dJ0_init_db425_0 ?_
  refine st_objInit str mr_J0_1 mo_ins mo_code (by omega) (mmCat_4 (Nat.le_of_ble_eq_true rfl)) rfl dJ0_init_db425_1 ?_
  refine st_aload_n (i := 1) rfl (t := 0) rfl (by decide) dJ0_init_db425_4 ?_
  refine st_callU _ _ _ (kc2 := 1) (ks2 := 800) (av := []) sb 12 mr_J0_552_12 ok_J5_getValue_6d5f1 (c_J5_getValue hs hv0) rfl hs ⟨_, rfl, rfl, by decide⟩ rfl rfl (by omega) (by omega) (by omega) (mmCat_4 (Nat.le_of_ble_eq_true rfl)) dJ0_init_db425_5 (rA.elim ?_)
  refine st_astore_n (i := 3) rfl (by decide) (lc' := [(2, (str : Int)), (2, (sb : Int)), (2, -1), (2, (v : Int)), (9, 0)]) rfl (by omega) dJ0_init_db425_8 ?_
  refine st_aload_n (i := 1) rfl (t := 0) rfl (by decide) dJ0_init_db425_9 ?_
  refine st_callO _ _ _ (kc2 := 1) (ks2 := 800) (av := []) sb 12 mr_J0_549_12 ok_J4_length_8abf5 (c_J4_length hs hn0) rfl hs ⟨_, rfl, rfl, by decide⟩ rfl rfl (by omega) (by omega) (by omega) (mmCat_4 (Nat.le_of_ble_eq_true rfl)) dJ0_init_db425_10 (rI.elim ?_)
  refine st_istore (by decide) (lc' := [(2, (str : Int)), (2, (sb : Int)), (2, -1), (2, (v : Int)), (0, (n : Int))]) rfl dJ0_init_db425_13 ?_
  refine st_aload_n (i := 1) rfl (t := 0) rfl (by decide) dJ0_init_db425_15 ?_
  refine st_callU _ _ _ (kc2 := 1) (ks2 := 800) (av := []) sb 12 mr_J0_1047_12 ok_J5_isLatin1_aae02 (c_J5_isLatin1 hs hc) rfl hs ⟨_, rfl, rfl, by decide⟩ rfl rfl (by omega) (by omega) (by omega) (mmCat_4 (Nat.le_of_ble_eq_true rfl)) dJ0_init_db425_16 (rI.elim ?_)
  refine sr_if_eq 41 (by omega) (by decide) dJ0_init_db425_19 (fun h => absurd h (by omega)) (fun _ => ?_)
  refine st_aload_n (i := 0) rfl (t := 0) rfl (by decide) dJ0_init_db425_22 ?_
  refine st_iconst dJ0_init_db425_23 ?_
  refine sx_finC str rfl rfl rfl rfl hst (Or.inl rfl) dJ0_init_db425_24 ?_
  refine st_aload_n (i := 0) rfl (t := 0) rfl (by decide) dJ0_init_db425_27 ?_
  refine st_aload_n (i := 3) rfl (t := 0) rfl (by decide) dJ0_init_db425_28 ?_
  refine st_iconst dJ0_init_db425_29 ?_
  refine st_iload rfl dJ0_init_db425_30 ?_
  refine st_callS (kc2 := 0) (ks2 := 0) (av := [(2, (v : Int)), (0, 0), (0, (n : Int))]) mr_J0_54 ok_J7_copyOfRange_39247 (c_J7_copyR hv (fun j => by rw [mset_ne hsv]; exact hby j) hnm hm8 hL) rfl rfl (by omega) (by omega) (by omega) (mmCat_4 (Nat.le_of_ble_eq_true rfl)) dJ0_init_db425_32 ?_
  rintro r sh' m' ⟨rfl, rfl, h1, h2⟩
  refine sx_finV str rfl rfl rfl rfl (getL_app hst) dJ0_init_db425_35 ?_
  refine st_goto 97 (by decide) dJ0_init_db425_38 ?_
  refine st_return rfl dJ0_init_db425_97 ⟨rfl, rfl, mset_same _ _ _ _, ?_, fun a ha hb => by rw [mset_ne ha, h1 a hb, mset_ne ha], fun j g1 g2 => ?_⟩
  · rw [mset_at, if_neg (by decide), h1 str (by omega), mset_same]
  · rw [mset_ne (by omega), h2 j g1 g2, mset_ne hsv]
    exact htx j g1 g2
theorem c_J0_init {L : List (Nat × Nat)} {mem : mmM} {sb v m n str : Nat} {t : Int → Int} (hSB : isSB L mem sb v m n t) (hst : L[str]? = some (11, 4)) (hL : L.length + 1 ≤ 999) : mmC bJ0_init_81219 6 1 800 [(2, (str : Int)), (2, (sb : Int))] (true, L) mem (siP L mem str n t) := by
  refine mmC_of [(2, (str : Int)), (2, (sb : Int))] ok_J0_init_81219.2.2.2.2 rfl (Nat.le_of_ble_eq_true rfl) ?_
  refine st_aload_n (i := 0) rfl (t := 0) rfl (by decide) dJ0_init_81219_0 ?_
  refine st_aload_n (i := 1) rfl (t := 0) rfl (by decide) dJ0_init_81219_1 ?_
  refine st_aconst_null dJ0_init_81219_2 ?_
  refine st_callI (kc2 := 0) (ks2 := 0) (av := [(2, (sb : Int)), (2, -1)]) str mr_J0_489 rfl ok_J0_init_db425 (c_J0_initA hSB hst hL) rfl rfl rfl (by omega) (by omega) (by omega) (mmCat_4 (Nat.le_of_ble_eq_true rfl)) dJ0_init_81219_3 ?_
  rintro r sh' m' ⟨rfl, h1⟩
  exact st_return rfl dJ0_init_81219_6 ⟨rfl, h1⟩
def tsP (L : List (Nat × Nat)) (mem : mmM) (n : Nat) (t : Int → Int) : mmQ := fun r sh' m' => r = some (2, (L.length : Int)) ∧ sh' = (true, (L ++ [(11, 4)]) ++ [(25, n)]) ∧ m' L.length 0 = ((L.length + 1 : Nat) : Int) ∧ m' L.length 1 = 0 ∧ (∀ a, a ≠ L.length → a ≠ L.length + 1 → m' a = mem a) ∧ ∀ j : Int, 0 ≤ j → j < n → m' (L.length + 1) j = t j
theorem okJ0 : ∀ k, k < 4 → mm_okTy (mm_clTy 11 k) = true := by decide
theorem okJ4 : ∀ k, k < 4 → mm_okTy (mm_clTy 12 k) = true := by decide
theorem c_J4_toString {L : List (Nat × Nat)} {mem : mmM} {sb v m n : Nat} {t : Int → Int} (hSB : isSB L mem sb v m n t) (hL : L.length + 2 ≤ 999) : mmC bJ4_toString_0e30d 7 2 900 [(2, (sb : Int))] (true, L) mem (tsP L mem n t) := by
  obtain ⟨hs, hv, hv0, hc, hn0, hnm, hm8, hby, htx⟩ := id hSB
  have hsl := getL_lt hs
  have hvl := getL_lt hv
  refine mmC_of [(2, (sb : Int))] ok_J4_toString_0e30d.2.2.2.2 rfl (Nat.le_of_ble_eq_true rfl) ?_
  refine mmT.wk (kc := 1 + 1) (ks := 800 + 4) ?_ (by omega) (by omega)
  refine st_new (ci := 11) (N := 4) RJ0 TJ0 rfl (by decide) mty_11 okJ0 inJ0 cl_J4_18 nw_String ni_String (by omega) dJ4_toString_0e30d_0 ?_
  refine st_dup (Nat.ne_of_beq_eq_false rfl) dJ4_toString_0e30d_3 ?_
  refine st_aload_n (i := 0) rfl (t := 0) rfl (by decide) dJ4_toString_0e30d_4 ?_
  have hS1 : isSB (L ++ [(11, 4)]) (mrow mem L.length (mm_init 11)) sb v m n t := ⟨getL_app hs, getL_app hv, by rw [mrow_ne (by omega)]; exact hv0, by rw [mrow_ne (by omega)]; exact hc, by rw [mrow_ne (by omega)]; exact hn0, hnm, hm8, fun j => by rw [mrow_ne (by omega)]; exact hby j, fun j h1 h2 => by rw [mrow_ne (by omega)]; exact htx j h1 h2⟩
  have hl1 : (L ++ [(11, 4)]).length = L.length + 1 := by simp
  refine st_callI (kc2 := 0) (ks2 := 0) (av := [(2, (sb : Int))]) L.length mr_J4_137 rfl ok_J0_init_81219 (c_J0_init hS1 newR (by omega)) rfl rfl rfl (by omega) (by omega) (by omega) (mmCat_4 (Nat.le_of_ble_eq_true rfl)) dJ4_toString_0e30d_5 ?_
  rintro r sh' m' ⟨rfl, rfl, h1, h2, h3, h4⟩
  rw [hl1] at h1 h3 h4
  exact st_areturn rfl (Or.inl ⟨_, rfl⟩) dJ4_toString_0e30d_8 ⟨rfl, rfl, h1, h2, fun a ha hb => by rw [h3 a ha hb, mrow_ne ha], h4⟩
theorem c_J3_checkIndex {sh : mmS} {mem : mmM} {a b : Int} {y : mmV} (hy : y.1 = 2 ∨ y.1 = 4) (ha : 0 ≤ a ∧ a < b) (hb : b ≤ 5000) : mmC bJ3_checkIndex_8e157 0 0 0 [(0, a), (0, b), y] sh mem (rI sh mem a) := by
  refine mmC_of [(0, a), (0, b), y] ok_J3_checkIndex_8e157.2.2.2.2 (by rw [mmEntry_n _ (show ((0, a) : mmV).1 ≠ 1 from Nat.ne_of_beq_eq_false rfl), mmEntry_n _ (show ((0, b) : mmV).1 ≠ 1 from Nat.ne_of_beq_eq_false rfl), mmEntry_v [] hy]; rfl) (by rw [mmEntry_n _ (show ((0, a) : mmV).1 ≠ 1 from Nat.ne_of_beq_eq_false rfl), mmEntry_n _ (show ((0, b) : mmV).1 ≠ 1 from Nat.ne_of_beq_eq_false rfl), mmEntry_v [] hy]; exact Nat.le_of_ble_eq_true rfl) ?_
  refine st_iload_n (i := 0) rfl rfl dJ3_checkIndex_8e157_0 ?_
  refine sr_if_lt 9 (by omega) (by decide) dJ3_checkIndex_8e157_1 (fun h => absurd h (by omega)) (fun _ => ?_)
  refine st_iload_n (i := 0) rfl rfl dJ3_checkIndex_8e157_4 ?_
  refine st_iload_n (i := 1) rfl rfl dJ3_checkIndex_8e157_5 ?_
  refine sr_icmp_lt 16 (by omega) (by omega) (by decide) dJ3_checkIndex_8e157_6 (fun _ => ?_) (fun h => absurd h (by omega))
  refine st_iload_n (i := 0) rfl rfl dJ3_checkIndex_8e157_16 ?_
  exact st_ireturn rfl dJ3_checkIndex_8e157_17 ⟨rfl, rfl, rfl⟩
theorem c_J0_checkIndex {sh : mmS} {mem : mmM} {a b : Int} (ha : 0 ≤ a ∧ a < b) (hb : b ≤ 5000) : mmC bJ0_checkIndex_df160 1 0 0 [(0, a), (0, b)] sh mem (rN sh mem) := by
  refine mmC_of [(0, a), (0, b)] ok_J0_checkIndex_df160.2.2.2.2 rfl (Nat.le_of_ble_eq_true rfl) ?_
  refine st_iload_n (i := 0) rfl rfl dJ0_checkIndex_df160_0 ?_
  refine st_iload_n (i := 1) rfl rfl dJ0_checkIndex_df160_1 ?_
  have hk : ∀ y : mmV, y.1 = 2 ∨ y.1 = 4 → mmT bJ0_checkIndex_df160 1 0 0 (rN sh mem) 5 [(0, a), (0, b)] [y, (0, b), (0, a)] sh mem := by
    intro y hy
    refine st_callS (kc2 := 0) (ks2 := 0) (av := [(0, a), (0, b), y]) mr_J0_1059 ok_J3_checkIndex_8e157 (c_J3_checkIndex hy ha hb) rfl rfl (by omega) (by omega) (by omega) (mmCat_4 (Nat.le_of_ble_eq_true rfl)) dJ0_checkIndex_df160_5 (rI.elim ?_)
    refine st_pop (Nat.ne_of_beq_eq_false rfl) dJ0_checkIndex_df160_8 ?_
    exact st_return rfl dJ0_checkIndex_df160_9 ⟨rfl, rfl, rfl⟩
  exact st_getForm gs_J0_1053 dJ0_checkIndex_df160_2 (hk _ (Or.inl rfl)) (hk _ (Or.inr rfl))
theorem and255_all : ∀ n, n < 128 → (Int32.ofInt (n : Nat) &&& Int32.ofInt 255).toInt = (n : Nat) := by decide +kernel
theorem and255 {x : Int} (h : 0 ≤ x ∧ x ≤ 127) : and32 x 255 = x := by
  have h2 := and255_all x.toNat (by omega)
  rwa [Int.toNat_of_nonneg h.1] at h2
theorem c_J1_charAt {sh : mmS} {mem : mmM} {v n : Nat} {i : Int} (hv : sh.2[v]? = some (25, n)) (hn : n ≤ 5000) (hi : 0 ≤ i ∧ i < n) (hb : 0 ≤ mem v i ∧ mem v i ≤ 127) : mmC bJ1_charAt_3b067 2 0 0 [(2, (v : Int)), (0, i)] sh mem (rI sh mem (mem v i)) := by
  refine mmC_of [(2, (v : Int)), (0, i)] ok_J1_charAt_3b067.2.2.2.2 rfl (Nat.le_of_ble_eq_true rfl) ?_
  refine st_iload_n (i := 1) rfl rfl dJ1_charAt_3b067_0 ?_
  refine st_aload_n (i := 0) rfl (t := 0) rfl (by decide) dJ1_charAt_3b067_1 ?_
  refine st_alen v rfl hv ⟨by decide, by decide⟩ dJ1_charAt_3b067_2 ?_
  refine st_callS (kc2 := 0) (ks2 := 0) (av := [(0, i), (0, (n : Int))]) mr_J1_9 ok_J0_checkIndex_df160 (c_J0_checkIndex hi (by omega)) rfl rfl (by omega) (by omega) (by omega) (mmCat_4 (Nat.le_of_ble_eq_true rfl)) dJ1_charAt_3b067_3 (rN.elim ?_)
  refine st_aload_n (i := 0) rfl (t := 0) rfl (by decide) dJ1_charAt_3b067_6 ?_
  refine st_iload_n (i := 1) rfl rfl dJ1_charAt_3b067_7 ?_
  refine st_balB v rfl hv (by omega) hi.1 hi.2 dJ1_charAt_3b067_8 ?_
  refine st_sipush rfl dJ1_charAt_3b067_9 ?_
  refine st_iand dJ1_charAt_3b067_12 ?_
  rw [and255 hb]
  refine st_i2c (by omega) dJ1_charAt_3b067_13 ?_
  exact st_tret rfl (char_nar (by omega)) dJ1_charAt_3b067_14 ⟨rfl, rfl, rfl⟩
theorem c_J0_charAt {sh : mmS} {mem : mmM} {x : mmV} {v n : Nat} {f : Int → Int} {i : Int} (h : isStr sh mem x (2, (v : Int)) n f) (hv : sh.2[v]? = some (25, n)) (hf : mem v i = f i) (hi : 0 ≤ i ∧ i < n) : mmC bJ0_charAt_5068e 3 0 0 [x, (0, i)] sh mem (rI sh mem (f i)) := by
  refine mmC_of [x, (0, i)] ok_J0_charAt_5068e.2.2.2.2 (by rw [mmEntry_v _ h.k]; rfl) (by rw [mmEntry_v _ h.k]; exact Nat.le_of_ble_eq_true rfl) ?_
  refine st_aloadV h.k (i := 0) rfl rfl dJ0_charAt_5068e_0 ?_
  refine st_callVs (kc2 := 0) (ks2 := 0) (av := []) h rfl mr_J0_492 ok_J0_isLatin1_aae02 (c_J0_isLatin1 h) rfl rfl (by omega) (by omega) (by omega) (mmCat_4 (Nat.le_of_ble_eq_true rfl)) dJ0_charAt_5068e_1 (rI.elim ?_)
  refine sr_if_eq 16 (by omega) (by decide) dJ0_charAt_5068e_4 (fun h => absurd h (by omega)) (fun _ => ?_)
  refine st_aloadV h.k (i := 0) rfl rfl dJ0_charAt_5068e_7 ?_
  refine st_strV h fr_J0_9_11 dJ0_charAt_5068e_8 ?_
  refine st_iload_n (i := 1) rfl rfl dJ0_charAt_5068e_11 ?_
  refine st_callS (kc2 := 0) (ks2 := 0) (av := [(2, (v : Int)), (0, i)]) mr_J0_495 ok_J1_charAt_3b067 (c_J1_charAt hv h.2.2.1 hi (by rw [hf]; exact h.rng i hi.1 hi.2)) rfl rfl (by omega) (by omega) (by omega) (mmCat_4 (Nat.le_of_ble_eq_true rfl)) dJ0_charAt_5068e_12 (rI.elim ?_)
  rw [hf]
  exact st_tret rfl (char_nar (by have := h.rng i hi.1 hi.2; omega)) dJ0_charAt_5068e_15 ⟨rfl, rfl, rfl⟩
