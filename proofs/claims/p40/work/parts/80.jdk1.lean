/-! the JDK's methods over texts: String, StringBuilder, their rows of bytes -/
section JR
variable {B : mmB} {d kc ks : Nat} {Q : mmQ} {pc : Nat} {lc st : List mmV} {sh : mmS} {mem : mmM}
theorem pf_12_0 : mmPF 12 0 (.array .byte) := ⟨fun q h => by cases h; rfl, rfl, mty_12⟩
theorem pf_12_1 : mmPF 12 1 .byte := ⟨fun q h => by cases h; rfl, rfl, mty_12⟩
theorem pf_12_3 : mmPF 12 3 .int := ⟨fun q h => by cases h; rfl, rfl, mty_12⟩
theorem mmEntry_n {v : mmV} (vs : List mmV) (h : v.1 ≠ 1) : mmEntry (v :: vs) = v :: mmEntry vs := by
  show (if v.1 = 1 then v :: (9, 0) :: mmEntry vs else v :: mmEntry vs) = _
  rw [if_neg h]
theorem sx_putI {idx ci N : Nat} {r v : Int} (a k : Nat) (hsh : sh.1 = true) (hf : mmFR B.1.cls idx ci N k 0) (hp : mmPF ci k .int) (hr : r = (a : Int)) (hs : sh.2[a]? = some (ci, N)) (hv : R32 v) (hd : decode B.2.1 pc = .ok (.putfield idx, 3)) (kk : mmT B d kc ks Q (pc + 3) lc st sh (mset mem a k v)) : mmT B d kc ks Q pc lc ((0, v) :: (2, r) :: st) sh mem :=
  have h20 : ci < 20 := by obtain ⟨C, T, ref, e1, e0, -⟩ := hf; exact e0
  st_putfield a k (fun h => by rw [hsh] at h; cases h) (by rw [mTag_int h20 hp.2.1]; exact ⟨fun _ => hv, fun h => by cases h⟩) hf hp.2.2 hp.1 (Or.inl hp.2.1) hr hs hd kk
theorem sx_putB {idx ci N : Nat} {r v : Int} (a k : Nat) (hsh : sh.1 = true) (hf : mmFR B.1.cls idx ci N k 0) (hp : mmPF ci k .byte) (hr : r = (a : Int)) (hs : sh.2[a]? = some (ci, N)) (hv : v = 0 ∨ v = 1) (hd : decode B.2.1 pc = .ok (.putfield idx, 3)) (kk : mmT B d kc ks Q (pc + 3) lc st sh (mset mem a k v)) : mmT B d kc ks Q pc lc ((0, v) :: (2, r) :: st) sh mem :=
  have h20 : ci < 20 := by obtain ⟨C, T, ref, e1, e0, -⟩ := hf; exact e0
  st_putfield a k (fun h => by rw [hsh] at h; cases h) (by rw [mTag_int h20 hp.2.1]; exact ⟨fun _ => by omega, fun h => by cases h⟩) hf hp.2.2 hp.1 (Or.inr (Or.inr (Or.inl ⟨Or.inr hp.2.1, hv⟩))) hr hs hd kk
theorem sx_putA {idx ci N : Nat} {r v : Int} {t : FieldType} (a k : Nat) (hsh : sh.1 = true) (hf : mmFR B.1.cls idx ci N k 2) (hp : mmPF ci k (.array t)) (hr : r = (a : Int)) (hs : sh.2[a]? = some (ci, N)) (hd : decode B.2.1 pc = .ok (.putfield idx, 3)) (kk : mmT B d kc ks Q (pc + 3) lc st sh (mset mem a k v)) : mmT B d kc ks Q pc lc ((2, v) :: (2, r) :: st) sh mem :=
  have h20 : ci < 20 := by obtain ⟨C, T, ref, e1, e0, -⟩ := hf; exact e0
  st_putfield a k (fun h => by rw [hsh] at h; cases h) (by rw [mTag_int h20 hp.2.1]; exact ⟨fun h => (by cases h), fun h => by cases h⟩) hf hp.2.2 hp.1 (Or.inr (Or.inr (Or.inr (Or.inr ⟨t, hp.2.1⟩)))) hr hs hd kk
/-- a String's own fields, in its constructor -/
theorem sx_finV {r v : Int} (a : Nat) (hB : B.1.cls = RJ0) (hin : B.1.name = "<init>") (hsh : sh.1 = true) (hr : r = (a : Int)) (hs : sh.2[a]? = some (11, 4)) (hd : decode B.2.1 pc = .ok (.putfield 9, 3)) (kk : mmT B d kc ks Q (pc + 3) lc st sh (mset mem a 0 v)) : mmT B d kc ks Q pc lc ((2, v) :: (2, r) :: st) sh mem :=
  st_putfinal a 0 (fun h => by rw [hsh] at h; cases h) (by rw [mTag_int (k := 0) (ty := .array .byte) (by decide) rfl]; exact ⟨fun h => (by cases h), fun h => by cases h⟩) (by rw [hB]; exact fr_J0_9_11) mty_11 (fun q h => by cases h; exact ⟨rfl, hB.symm⟩) hin (Or.inr (Or.inr (Or.inr (Or.inr ⟨.byte, rfl⟩)))) hr hs hd kk
theorem sx_finC {r v : Int} (a : Nat) (hB : B.1.cls = RJ0) (hin : B.1.name = "<init>") (hsh : sh.1 = true) (hr : r = (a : Int)) (hs : sh.2[a]? = some (11, 4)) (hv : v = 0 ∨ v = 1) (hd : decode B.2.1 pc = .ok (.putfield 15, 3)) (kk : mmT B d kc ks Q (pc + 3) lc st sh (mset mem a 1 v)) : mmT B d kc ks Q pc lc ((0, v) :: (2, r) :: st) sh mem :=
  st_putfinal a 1 (fun h => by rw [hsh] at h; cases h) (by rw [mTag_int (k := 1) (ty := .byte) (by decide) rfl]; exact ⟨fun _ => by omega, fun h => by cases h⟩) (by rw [hB]; exact fr_J0_15_11) mty_11 (fun q h => by cases h; exact ⟨rfl, hB.symm⟩) hin (Or.inr (Or.inr (Or.inl ⟨Or.inr rfl, hv⟩))) hr hs hd kk
theorem st_ifnnV {x w : mmV} {n : Nat} {f : Int → Int} {off : Int} (tgt : Nat) (h : isStr sh mem x w n f) (ht : (pc : Int) + off = (tgt : Int)) (hd : decode B.2.1 pc = .ok (.ifnonnull off, 3)) (k : mmT B d kc ks Q tgt lc st sh mem) : mmT B d kc ks Q pc lc (x :: st) sh mem := by
  rcases h.1 with ⟨a, rfl, -⟩ | ⟨i, -, rfl, -⟩
  · exact st_ifnonnull tgt ht hd (fun _ => k) (fun h => absurd h (by omega))
  · intro p l e R s m args below meth c G H locs cells slots ls X
    exact lv_ifnonnull X.1.1 X.1.2.1 hd ht (k p l e R s m args below meth c G H locs cells slots ls X)
end JR
theorem c_J0_coder {sh : mmS} {mem : mmM} {x w : mmV} {n : Nat} {f : Int → Int} (h : isStr sh mem x w n f) : mmC bJ0_coder_7d493 0 0 0 [x] sh mem (rI sh mem 0) := by
  refine mmC_of [x] ok_J0_coder_7d493.2.2.2.2 (by rw [mmEntry_v [] h.k]; rfl) (by rw [mmEntry_v [] h.k]; exact Nat.le_of_ble_eq_true rfl) ?_
  refine st_getCompact gs_J0_38 dJ0_coder_7d493_0 ?_
  refine sr_if_eq 13 (by omega) (by decide) dJ0_coder_7d493_3 (fun h => absurd h (by omega)) (fun _ => ?_)
  refine st_aloadV h.k (i := 0) rfl rfl dJ0_coder_7d493_6 ?_
  refine st_strC h fr_J0_15_11 dJ0_coder_7d493_7 ?_
  refine st_goto 14 (by decide) dJ0_coder_7d493_10 ?_
  exact st_tret rfl rfl dJ0_coder_7d493_14 ⟨rfl, rfl, rfl⟩
theorem c_J0_length {sh : mmS} {mem : mmM} {x w : mmV} {n : Nat} {f : Int → Int} (h : isStr sh mem x w n f) : mmC bJ0_length_8abf5 1 0 0 [x] sh mem (rI sh mem n) := by
  have hn := h.2.2.1
  refine mmC_of [x] ok_J0_length_8abf5.2.2.2.2 (by rw [mmEntry_v [] h.k]; rfl) (by rw [mmEntry_v [] h.k]; exact Nat.le_of_ble_eq_true rfl) ?_
  refine st_aloadV h.k (i := 0) rfl rfl dJ0_length_8abf5_0 ?_
  refine st_strV h fr_J0_9_11 dJ0_length_8abf5_1 ?_
  refine st_strL h.2.1 dJ0_length_8abf5_4 ?_
  refine st_aloadV h.k (i := 0) rfl rfl dJ0_length_8abf5_5 ?_
  refine st_callVs (kc2 := 0) (ks2 := 0) (av := []) h rfl mr_J0_335 ok_J0_coder_7d493 (c_J0_coder h) rfl rfl (by omega) (by omega) (by omega) (mmCat_4 (Nat.le_of_ble_eq_true rfl)) dJ0_length_8abf5_6 (rI.elim ?_)
  refine sr_ishr0 (by omega) dJ0_length_8abf5_9 ?_
  exact st_ireturn rfl dJ0_length_8abf5_10 ⟨rfl, rfl, rfl⟩
theorem c_J0_isLatin1 {sh : mmS} {mem : mmM} {x w : mmV} {n : Nat} {f : Int → Int} (h : isStr sh mem x w n f) : mmC bJ0_isLatin1_aae02 0 0 0 [x] sh mem (rI sh mem 1) := by
  refine mmC_of [x] ok_J0_isLatin1_aae02.2.2.2.2 (by rw [mmEntry_v [] h.k]; rfl) (by rw [mmEntry_v [] h.k]; exact Nat.le_of_ble_eq_true rfl) ?_
  refine st_getCompact gs_J0_38 dJ0_isLatin1_aae02_0 ?_
  refine sr_if_eq 17 (by omega) (by decide) dJ0_isLatin1_aae02_3 (fun h => absurd h (by omega)) (fun _ => ?_)
  refine st_aloadV h.k (i := 0) rfl rfl dJ0_isLatin1_aae02_6 ?_
  refine st_strC h fr_J0_15_11 dJ0_isLatin1_aae02_7 ?_
  refine sr_if_ne 17 (by omega) (by decide) dJ0_isLatin1_aae02_10 (fun h => absurd h (by omega)) (fun _ => ?_)
  refine st_iconst dJ0_isLatin1_aae02_13 ?_
  refine st_goto 18 (by decide) dJ0_isLatin1_aae02_14 ?_
  exact st_zreturn rfl (Or.inr rfl) dJ0_isLatin1_aae02_18 ⟨rfl, rfl, rfl⟩
theorem c_J5_isLatin1 {sh : mmS} {mem : mmM} {sb : Nat} (hs : sh.2[sb]? = some (12, 4)) (hc : mem sb 1 = 0) : mmC bJ5_isLatin1_aae02 0 0 0 [(2, (sb : Int))] sh mem (rI sh mem 1) := by
  refine mmC_of [(2, (sb : Int))] ok_J5_isLatin1_aae02.2.2.2.2 rfl (Nat.le_of_ble_eq_true rfl) ?_
  refine st_getCompact gs_J5_18 dJ5_isLatin1_aae02_0 ?_
  refine sr_if_eq 17 (by omega) (by decide) dJ5_isLatin1_aae02_3 (fun h => absurd h (by omega)) (fun _ => ?_)
  refine st_aload_n (i := 0) rfl (t := 0) rfl (by decide) dJ5_isLatin1_aae02_6 ?_
  refine st_getfield sb 1 fr_J5_22_12 rfl hs hc dJ5_isLatin1_aae02_7 ?_
  refine sr_if_ne 17 (by omega) (by decide) dJ5_isLatin1_aae02_10 (fun h => absurd h (by omega)) (fun _ => ?_)
  refine st_iconst dJ5_isLatin1_aae02_13 ?_
  refine st_goto 18 (by decide) dJ5_isLatin1_aae02_14 ?_
  exact st_zreturn rfl (Or.inr rfl) dJ5_isLatin1_aae02_18 ⟨rfl, rfl, rfl⟩
theorem c_J1_canEncode {sh : mmS} {mem : mmM} {c : Int} (h : 0 ≤ c ∧ c ≤ 255) : mmC bJ1_canEncode_fc78d 0 0 0 [(0, c)] sh mem (rI sh mem 1) := by
  refine mmC_of [(0, c)] ok_J1_canEncode_fc78d.2.2.2.2 rfl (Nat.le_of_ble_eq_true rfl) ?_
  refine st_iload_n (i := 0) rfl rfl dJ1_canEncode_fc78d_0 ?_
  refine st_sipush rfl dJ1_canEncode_fc78d_1 ?_
  refine sr_icmp_gt 11 (by omega) (by omega) (by decide) dJ1_canEncode_fc78d_4 (fun h => absurd h (by omega)) (fun _ => ?_)
  refine st_iconst dJ1_canEncode_fc78d_7 ?_
  refine st_goto 12 (by decide) dJ1_canEncode_fc78d_8 ?_
  exact st_zreturn rfl (Or.inr rfl) dJ1_canEncode_fc78d_12 ⟨rfl, rfl, rfl⟩
theorem c_J8_newLength {sh : mmS} {mem : mmM} {a b c : Int} (ha : 0 ≤ a ∧ a ≤ 5000) (hb : 0 < b ∧ b ≤ 5000) (hc : 0 ≤ c ∧ c ≤ 5000) : mmC bJ8_newLength_cabcc 1 0 0 [(0, a), (0, b), (0, c)] sh mem (rI sh mem (a + max b c)) := by
  refine mmC_of [(0, a), (0, b), (0, c), (9, 0)] ok_J8_newLength_cabcc.2.2.2.2 rfl (Nat.le_of_ble_eq_true rfl) ?_
  refine st_iload_n (i := 0) rfl rfl dJ8_newLength_cabcc_0 ?_
  refine st_iload_n (i := 1) rfl rfl dJ8_newLength_cabcc_1 ?_
  refine st_iload_n (i := 2) rfl rfl dJ8_newLength_cabcc_2 ?_
  refine sr_mmax (by omega) (by omega) mr_J8_194 ms_maxi mi_Math mc_maxi (by omega) (mmCat_4 (Nat.le_of_ble_eq_true rfl)) dJ8_newLength_cabcc_3 ?_
  refine st_iadd dJ8_newLength_cabcc_6 ?_
  refine st_istore_n (i := 3) rfl (by decide) (lc' := [(0, a), (0, b), (0, c), (0, (a + (max b c)))]) rfl dJ8_newLength_cabcc_7 ?_
  refine st_iconst dJ8_newLength_cabcc_8 ?_
  refine st_iload_n (i := 3) rfl rfl dJ8_newLength_cabcc_9 ?_
  refine sr_icmp_ge 21 (by omega) (by omega) (by decide) dJ8_newLength_cabcc_10 (fun h => absurd h (by omega)) (fun _ => ?_)
  refine st_iload_n (i := 3) rfl rfl dJ8_newLength_cabcc_13 ?_
  refine st_ldc cw_J8_200 dJ8_newLength_cabcc_14 ?_
  refine sr_icmp_gt 21 (by omega) (by omega) (by decide) dJ8_newLength_cabcc_16 (fun h => absurd h (by omega)) (fun _ => ?_)
  refine st_iload_n (i := 3) rfl rfl dJ8_newLength_cabcc_19 ?_
  exact st_ireturn rfl dJ8_newLength_cabcc_20 ⟨rfl, rfl, rfl⟩
def capN (m q : Nat) : Nat := m + max (q - m) (m + 2)
theorem c_J5_newCapacity {sh : mmS} {mem : mmM} {sb v m q : Nat} {qi : Int} (hq : qi = (q : Int)) (hs : sh.2[sb]? = some (12, 4)) (hv0 : mem sb 0 = (v : Int)) (hv : sh.2[v]? = some (25, m)) (hc : mem sb 1 = 0) (hm : m < q) (hq4 : q ≤ 400) : mmC bJ5_newCapacity_0f7a4 2 0 0 [(2, (sb : Int)), (0, qi)] sh mem (rI sh mem ((capN m q : Nat) : Int)) := by
  refine mmC_of [(2, (sb : Int)), (0, qi), (9, 0), (9, 0), (9, 0), (9, 0)] ok_J5_newCapacity_0f7a4.2.2.2.2 rfl (Nat.le_of_ble_eq_true rfl) ?_
  refine st_aload_n (i := 0) rfl (t := 0) rfl (by decide) dJ5_newCapacity_0f7a4_0 ?_
  refine st_getfield sb 0 fr_J5_15_12 rfl hs hv0 dJ5_newCapacity_0f7a4_1 ?_
  refine st_alen v rfl hv ⟨by decide, by decide⟩ dJ5_newCapacity_0f7a4_4 ?_
  refine st_istore_n (i := 2) rfl (by decide) (lc' := [(2, (sb : Int)), (0, qi), (0, (m : Int)), (9, 0), (9, 0), (9, 0)]) rfl dJ5_newCapacity_0f7a4_5 ?_
  refine st_iload_n (i := 1) rfl rfl dJ5_newCapacity_0f7a4_6 ?_
  refine st_aload_n (i := 0) rfl (t := 0) rfl (by decide) dJ5_newCapacity_0f7a4_7 ?_
  refine st_getfield sb 1 fr_J5_22_12 rfl hs hc dJ5_newCapacity_0f7a4_8 ?_
  refine sr_ishl0 (by omega) dJ5_newCapacity_0f7a4_11 ?_
  refine st_istore_n (i := 3) rfl (by decide) (lc' := [(2, (sb : Int)), (0, qi), (0, (m : Int)), (0, qi), (9, 0), (9, 0)]) rfl dJ5_newCapacity_0f7a4_12 ?_
  refine st_iload_n (i := 3) rfl rfl dJ5_newCapacity_0f7a4_13 ?_
  refine st_iload_n (i := 2) rfl rfl dJ5_newCapacity_0f7a4_14 ?_
  refine st_isub dJ5_newCapacity_0f7a4_15 ?_
  refine st_istore (by decide) (lc' := [(2, (sb : Int)), (0, qi), (0, (m : Int)), (0, qi), (0, (qi - (m : Int))), (9, 0)]) rfl dJ5_newCapacity_0f7a4_16 ?_
  refine st_iload_n (i := 2) rfl rfl dJ5_newCapacity_0f7a4_18 ?_
  refine st_iload rfl dJ5_newCapacity_0f7a4_19 ?_
  refine st_iload_n (i := 2) rfl rfl dJ5_newCapacity_0f7a4_21 ?_
  refine st_iconst dJ5_newCapacity_0f7a4_22 ?_
  refine st_aload_n (i := 0) rfl (t := 0) rfl (by decide) dJ5_newCapacity_0f7a4_23 ?_
  refine st_getfield sb 1 fr_J5_22_12 rfl hs hc dJ5_newCapacity_0f7a4_24 ?_
  refine sr_ishl0 (by omega) dJ5_newCapacity_0f7a4_27 ?_
  refine st_iadd dJ5_newCapacity_0f7a4_28 ?_
  refine st_callS (kc2 := 0) (ks2 := 0) (av := [(0, (m : Int)), (0, (qi - (m : Int))), (0, ((m : Int) + 2))]) mr_J5_114 ok_J8_newLength_cabcc (c_J8_newLength (by omega) (by omega) (by omega)) rfl rfl (by omega) (by omega) (by omega) (mmCat_4 (Nat.le_of_ble_eq_true rfl)) dJ5_newCapacity_0f7a4_29 (rI.elim ?_)
  refine st_istore (by decide) (lc' := [(2, (sb : Int)), (0, qi), (0, (m : Int)), (0, qi), (0, (qi - (m : Int))), (0, ((m : Int) + max (qi - (m : Int)) ((m : Int) + 2)))]) rfl dJ5_newCapacity_0f7a4_32 ?_
  refine st_iload rfl dJ5_newCapacity_0f7a4_34 ?_
  refine st_ldc cw_J5_39 dJ5_newCapacity_0f7a4_36 ?_
  refine sr_icmp_ne 51 (by omega) (by omega) (by decide) dJ5_newCapacity_0f7a4_38 (fun _ => ?_) (fun h => absurd h (by omega))
  refine st_iload rfl dJ5_newCapacity_0f7a4_51 ?_
  refine st_aload_n (i := 0) rfl (t := 0) rfl (by decide) dJ5_newCapacity_0f7a4_53 ?_
  refine st_getfield sb 1 fr_J5_22_12 rfl hs hc dJ5_newCapacity_0f7a4_54 ?_
  refine sr_ishr0 (by omega) dJ5_newCapacity_0f7a4_57 ?_
  exact st_ireturn rfl dJ5_newCapacity_0f7a4_58 ⟨by rw [show (m : Int) + max (qi - (m : Int)) ((m : Int) + 2) = ((capN m q : Nat) : Int) by unfold capN; omega], rfl, rfl⟩
def cpP (L : List (Nat × Nat)) (mem : mmM) (v m q : Nat) : mmQ := fun r sh' m' => r = some (2, (L.length : Int)) ∧ sh' = (true, L ++ [(25, q)]) ∧ (∀ a, a ≠ L.length → m' a = mem a) ∧ ∀ j : Int, m' L.length j = if 0 ≤ j ∧ j < m then mem v j else 0
theorem newR {L : List (Nat × Nat)} {q : Nat × Nat} : (L ++ [q])[L.length]? = some q := by simp
theorem c_J7_copyOf {L : List (Nat × Nat)} {mem : mmM} {v m q : Nat} {qi : Int} (hq : qi = (q : Int)) (hv : L[v]? = some (25, m)) (hby : ∀ j, 0 ≤ mem v j ∧ mem v j ≤ 127) (hm : m < q) (hq8 : q ≤ 800) (hL : L.length + 1 ≤ 999) : mmC bJ7_copyOf_9075b 3 1 800 [(2, (v : Int)), (0, qi)] (true, L) mem (cpP L mem v m q) := by
  have hvl := getL_lt hv
  refine mmC_of [(2, (v : Int)), (0, qi), (9, 0)] ok_J7_copyOf_9075b.2.2.2.2 rfl (Nat.le_of_ble_eq_true rfl) ?_
  refine st_iload_n (i := 1) rfl rfl dJ7_copyOf_9075b_0 ?_
  refine st_aload_n (i := 0) rfl (t := 0) rfl (by decide) dJ7_copyOf_9075b_1 ?_
  refine st_alen v rfl hv ⟨by decide, by decide⟩ dJ7_copyOf_9075b_2 ?_
  refine sr_icmp_ne 14 (by omega) (by omega) (by decide) dJ7_copyOf_9075b_3 (fun _ => ?_) (fun h => absurd h (by omega))
  refine st_iload_n (i := 1) rfl rfl dJ7_copyOf_9075b_14 ?_
  refine mmT.wk (kc := 0 + 1) (ks := 0 + q) ?_ (by omega) (by omega)
  refine st_newB ac_byte hq (by omega) (by omega) dJ7_copyOf_9075b_15 ?_
  refine st_astore_n (i := 2) rfl (by decide) (lc' := [(2, (v : Int)), (0, qi), (2, (L.length : Int))]) rfl (by omega) dJ7_copyOf_9075b_17 ?_
  refine st_aload_n (i := 0) rfl (t := 0) rfl (by decide) dJ7_copyOf_9075b_18 ?_
  refine st_iconst dJ7_copyOf_9075b_19 ?_
  refine st_aload_n (i := 2) rfl (t := 0) rfl (by decide) dJ7_copyOf_9075b_20 ?_
  refine st_iconst dJ7_copyOf_9075b_21 ?_
  refine st_aload_n (i := 0) rfl (t := 0) rfl (by decide) dJ7_copyOf_9075b_22 ?_
  refine st_alen v rfl (getL_app hv) ⟨by decide, by decide⟩ dJ7_copyOf_9075b_23 ?_
  refine st_iload_n (i := 1) rfl rfl dJ7_copyOf_9075b_24 ?_
  refine sr_mmin (by omega) (by omega) mr_J7_304 ms_mini mi_Math mc_mini (by omega) (mmCat_4 (Nat.le_of_ble_eq_true rfl)) dJ7_copyOf_9075b_25 ?_
  refine st_copyB (w := (2, (v : Int))) (n0 := m) (n1 := q) (f := mem v) L.length 0 0 m rfl (Or.inl ⟨v, rfl, getL_app hv, fun j _ _ => by rw [mrow_ne (by omega)]⟩) mr_J7_150 rfl (by omega) rfl rfl newR (by omega) (by omega) (by omega) (by omega) (fun j _ _ => hby j) (by omega) (mmCat_4 (Nat.le_of_ble_eq_true rfl)) dJ7_copyOf_9075b_28 ma_nat ma_sta ma_ini ?_
  refine st_aload_n (i := 2) rfl (t := 0) rfl (by decide) dJ7_copyOf_9075b_31 ?_
  refine st_areturn rfl (Or.inr ⟨_, rfl⟩) dJ7_copyOf_9075b_32 ⟨rfl, rfl, fun a ha => by rw [mrow_ne ha, mrow_ne ha], fun j => ?_⟩
  rw [mrow_same, mrow_same]
  by_cases hj : 0 ≤ j ∧ j < m
  · rw [if_pos hj, if_pos (by omega), show ((0 : Nat) : Int) + (j - ((0 : Nat) : Int)) = j by omega]
  · rw [if_neg hj, if_neg (by omega)]
def enP (L : List (Nat × Nat)) (mem : mmM) (sb v n q : Nat) (t : Int → Int) : mmQ := fun r sh' m' => r = none ∧ ∃ L' v' m2, sh' = (true, L') ∧ isSB L' m' sb v' m2 n t ∧ q ≤ m2 ∧ sbFr 1 L L' mem m' sb v v'
theorem enP_grow {L : List (Nat × Nat)} {mem m1 : mmM} {sb v m n q c : Nat} {t : Int → Int} (hS : isSB L mem sb v m n t) (h9 : L.length + 1 ≤ 999) (hc : q ≤ c ∧ m ≤ c ∧ c ≤ 800) (h1 : ∀ a, a ≠ L.length → m1 a = mem a) (h2 : ∀ j : Int, m1 L.length j = if 0 ≤ j ∧ j < m then mem v j else 0) : enP L mem sb v n q t none (true, L ++ [(25, c)]) (mset m1 sb 0 L.length) := by
  obtain ⟨hs, hv, hv0, hc0, hn0, hnm, hm8, hby, htx⟩ := hS
  have hsl := getL_lt hs
  have hvl := getL_lt hv
  refine ⟨rfl, _, L.length, c, rfl, ⟨getL_app hs, newR, mset_same _ _ _ _, ?_, ?_, by omega, by omega, fun j => ?_, fun j h3 h4 => ?_⟩, by omega, ⟨⟨[(25, c)], rfl, Nat.le_refl _⟩, fun a ha hb _ => ?_, ?_, Or.inr (Nat.le_refl _)⟩⟩
  · rw [mset_at, if_neg (by decide), h1 sb (by omega)]
    exact hc0
  · rw [mset_at, if_neg (by decide), h1 sb (by omega)]
    exact hn0
  · rw [mset_ne (by omega), h2]
    split
    · exact hby j
    · omega
  · rw [mset_ne (by omega), h2, if_pos (by omega)]
    exact htx j h3 h4
  · rw [mset_ne hb, h1 a (by omega)]
  · rw [mset_ne (by omega), h1 999 (by omega)]
theorem c_J5_ensure {L : List (Nat × Nat)} {mem : mmM} {sb v m n q : Nat} {t : Int → Int} {qi : Int} (hq : qi = (q : Int)) (hSB : isSB L mem sb v m n t) (hq4 : q ≤ 400) (hL : L.length + 1 ≤ 999) : mmC bJ5_ensureCapacityInternal_d00df 4 1 800 [(2, (sb : Int)), (0, qi)] (true, L) mem (enP L mem sb v n q t) := by
  obtain ⟨hs, hv, hv0, hc, hn0, hnm, hm8, hby, htx⟩ := id hSB
  have hsl := getL_lt hs
  have hvl := getL_lt hv
  refine mmC_of [(2, (sb : Int)), (0, qi), (9, 0)] ok_J5_ensureCapacityInternal_d00df.2.2.2.2 rfl (Nat.le_of_ble_eq_true rfl) ?_
  refine st_aload_n (i := 0) rfl (t := 0) rfl (by decide) dJ5_ensureCapacityInternal_d00df_0 ?_
  refine st_getfield sb 0 fr_J5_15_12 rfl hs hv0 dJ5_ensureCapacityInternal_d00df_1 ?_
  refine st_alen v rfl hv ⟨by decide, by decide⟩ dJ5_ensureCapacityInternal_d00df_4 ?_
  refine st_aload_n (i := 0) rfl (t := 0) rfl (by decide) dJ5_ensureCapacityInternal_d00df_5 ?_
  refine st_getfield sb 1 fr_J5_22_12 rfl hs hc dJ5_ensureCapacityInternal_d00df_6 ?_
  refine sr_ishr0 (by omega) dJ5_ensureCapacityInternal_d00df_9 ?_
  refine st_istore_n (i := 2) rfl (by decide) (lc' := [(2, (sb : Int)), (0, qi), (0, (m : Int))]) rfl dJ5_ensureCapacityInternal_d00df_10 ?_
  refine st_iload_n (i := 1) rfl rfl dJ5_ensureCapacityInternal_d00df_11 ?_
  refine st_iload_n (i := 2) rfl rfl dJ5_ensureCapacityInternal_d00df_12 ?_
  refine st_isub dJ5_ensureCapacityInternal_d00df_13 ?_
  refine sr_if_le 38 (by omega) (by decide) dJ5_ensureCapacityInternal_d00df_14 (fun h => ?_) (fun h => ?_)
  · exact st_return rfl dJ5_ensureCapacityInternal_d00df_38 ⟨rfl, L, v, m, rfl, hSB, by omega, (sbFr.refl (fun _ _ _ => rfl) (by omega) (by omega)).mono (by omega)⟩
  · have hcap : capN m q ≤ 800 := by unfold capN; omega
    refine st_aload_n (i := 0) rfl (t := 0) rfl (by decide) dJ5_ensureCapacityInternal_d00df_17 ?_
    refine st_aload_n (i := 0) rfl (t := 0) rfl (by decide) dJ5_ensureCapacityInternal_d00df_18 ?_
    refine st_getfield sb 0 fr_J5_15_12 rfl hs hv0 dJ5_ensureCapacityInternal_d00df_19 ?_
    refine st_aload_n (i := 0) rfl (t := 0) rfl (by decide) dJ5_ensureCapacityInternal_d00df_22 ?_
    refine st_iload_n (i := 1) rfl rfl dJ5_ensureCapacityInternal_d00df_23 ?_
    refine st_callU _ _ _ (kc2 := 1) (ks2 := 800) (av := [(0, qi)]) sb 12 mr_J5_104_12 ok_J5_newCapacity_0f7a4 (c_J5_newCapacity hq hs hv0 hv hc (by omega) hq4) rfl hs ⟨_, rfl, rfl, by decide⟩ rfl rfl (by omega) (by omega) (by omega) (mmCat_4 (Nat.le_of_ble_eq_true rfl)) dJ5_ensureCapacityInternal_d00df_24 (rI.elim ?_)
    refine st_aload_n (i := 0) rfl (t := 0) rfl (by decide) dJ5_ensureCapacityInternal_d00df_27 ?_
    refine st_getfield sb 1 fr_J5_22_12 rfl hs hc dJ5_ensureCapacityInternal_d00df_28 ?_
    refine sr_ishl0 (by omega) dJ5_ensureCapacityInternal_d00df_31 ?_
    refine st_callS (kc2 := 0) (ks2 := 0) (av := [(2, (v : Int)), (0, ((capN m q : Nat) : Int))]) mr_J5_108 ok_J7_copyOf_9075b (c_J7_copyOf rfl hv hby (by unfold capN; omega) (by unfold capN; omega) hL) rfl rfl (by omega) (by omega) (by omega) (mmCat_4 (Nat.le_of_ble_eq_true rfl)) dJ5_ensureCapacityInternal_d00df_32 ?_
    rintro r sh' m1 ⟨rfl, rfl, h1, h2⟩
    refine sx_putA sb 0 rfl fr_J5_15_12 pf_12_0 rfl (getL_app hs) dJ5_ensureCapacityInternal_d00df_35 ?_
    exact st_return rfl dJ5_ensureCapacityInternal_d00df_38 (enP_grow hSB hL (by unfold capN; omega) h1 h2)
