/-! the law's looks, walked -/
section
variable {sc : Int → Int} {ls : Nat → lawT} {lw n ng im t i x : Int} {b m : mmM}
theorem maskR {y n : Int} (hy : 0 ≤ y ∧ y < 2147483648) (hn : 0 ≤ n ∧ n ≤ 13) : 0 ≤ and32 y (shl32 1 n - 1) ∧ and32 y (shl32 1 n - 1) < p2 n := by
  have e := shl1_eq hn.1 (show n < 31 by omega)
  have pp := p2_pos n
  have p13 := p2_mono (j := 13) hn.2
  have e13 : p2 13 = 8192 := by decide +kernel
  rw [e, and32_tn hy.1 hy.2 (by omega) (by omega)]
  have := Nat.and_le_right (n := y.toNat) (m := (p2 n - 1).toNat)
  omega
theorem evR {n : Int} {to : Int → Int} {L : Int} {k : Nat} (hn : 0 ≤ n) (ht : ∀ i, 0 ≤ i → i < n → -1 ≤ to i ∧ to i < n) (hL : 0 ≤ L) (h : evEnd n to L k) : (0 ≤ evOut n to L k ∧ evOut n to L k ≤ 2) ∧ -1 ≤ evStop n to L k ∧ evStop n to L k ≤ n := by
  have b := evSt_bnd hn ht hL k h.1
  refine ⟨?_, ?_⟩
  · unfold evOut
    (repeat' split) <;> omega
  · unfold evStop
    split <;> omega
theorem lk_1019 {d kc ks : Nat} {Q : mmQ} (w : IX sc ls lw n ng im t b) (hd : 60 ≤ d) (s0 : same b m) (kk : ∀ m', same b m' → mmT bL_law d kc ks Q 21 (lcH lw n ng im (i + 1)) [] mS m') : mmT bL_law d kc ks Q 1019 (lcC lw n ng im i x) [] mS m := by
  have hn := w.nn
  refine st_aload_n (i := 1) rfl (t := 0) rfl (by decide) dL_law_1019 ?_
  refine st_iconst dL_law_1020 ?_
  refine st_iconst dL_law_1021 ?_
  refine st_callV (kc2 := kc) (ks2 := ks) (av := [(0, 3), (0, 0)]) 0 10 mr_L_163 ok_X11_trial (ck_trial w s0) rfl sh_0 ⟨_, rfl, rfl, by decide⟩ rfl rfl (by omega) (by omega) (by omega) (mmCat_4 (Nat.le_of_ble_eq_true rfl)) dL_law_1022 (mQ.elim fun v1 m1 h1 => ?_)
  obtain ⟨e1, s1⟩ := h1
  have r1 := trial_3 (show 0 < n by omega) e1
  refine st_iconst dL_law_1025 ?_
  refine sr_icmp_gt 1038 (by omega) (by omega) (by decide) dL_law_1026 (fun h => absurd h (by omega)) (fun _ => ?_)
  refine st_aload_n (i := 1) rfl (t := 0) rfl (by decide) dL_law_1029 ?_
  refine st_iconst dL_law_1030 ?_
  refine st_callV (kc2 := kc) (ks2 := ks) (av := [(0, 0)]) 0 10 mr_L_166 ok_X11_reword (ck_reword w s1) rfl sh_0 ⟨_, rfl, rfl, by decide⟩ rfl rfl (by omega) (by omega) (by omega) (mmCat_4 (Nat.le_of_ble_eq_true rfl)) dL_law_1031 (mQ.elim fun v2 m2 h2 => ?_)
  obtain ⟨e2, s2⟩ := h2
  have e2 : v2 = wtcF n (b 24) (b 28) := e2
  have r2 := wtcF_lt (a := b 24) (c := b 28) (show 0 < n by omega)
  refine st_iload_n (i := 3) rfl rfl dL_law_1034 ?_
  refine sr_icmp_lt 1040 (by omega) (by omega) (by decide) dL_law_1035 (fun _ => ?_) (fun h => absurd h (by omega))
  refine st_iinc (y := (i + 1)) (by decide) (i := 6) rfl rfl (lc' := [(3, 0), (2, 0), (0, lw), (0, n), (0, ng), (0, im), (0, (i + 1)), (0, x), (9, 0), (9, 0), (9, 0), (9, 0), (9, 0), (9, 0)]) rfl dL_law_1040 ?_
  refine st_goto 21 (by decide) dL_law_1043 ?_
  refine st_locals (lcH lw n ng im (i + 1)) ⟨Or.inr rfl, Or.inr rfl, Or.inr rfl, Or.inr rfl, Or.inr rfl, Or.inr rfl, Or.inr rfl, Or.inl rfl, Or.inl rfl, Or.inl rfl, Or.inl rfl, Or.inl rfl, Or.inl rfl, Or.inl rfl, trivial⟩ ?_
  exact kk m2 s2
theorem lk_978 {d kc ks : Nat} {Q : mmQ} (w : IX sc ls lw n ng im t b) (hd : 60 ≤ d) {L : Int} (hL : 0 ≤ L ∧ L < p2 n) (s0 : same b m) (kk : ∀ m', same b m' → mmT bL_law d kc ks Q 21 (lcH lw n ng im (i + 1)) [] mS m') : mmT bL_law d kc ks Q 978 [(3, 0), (2, 0), (0, lw), (0, n), (0, ng), (0, im), (0, i), (0, x), (9, 0), (9, 0), (9, 0), (9, 0), (0, L), (9, 0)] [] mS m := by
  have hn := w.nn
  have pN := w.pN
  refine st_aload_n (i := 1) rfl (t := 0) rfl (by decide) dL_law_978 ?_
  refine st_iload rfl dL_law_979 ?_
  refine st_iconst dL_law_981 ?_
  refine st_callV (kc2 := kc) (ks2 := ks) (av := [(0, L), (0, (-1))]) 0 10 mr_L_145 ok_X11_evening (ck_evening w L hL s0) rfl sh_0 ⟨_, rfl, rfl, by decide⟩ rfl rfl (by omega) (by omega) (by omega) (mmCat_4 (Nat.le_of_ble_eq_true rfl)) dL_law_982 (mQ.elim fun v1 m1 h1 => ?_)
  obtain ⟨⟨k1, n1, e1⟩, s1⟩ := h1
  have r1 := evEnd_200 n1
  refine st_sipush rfl dL_law_985 ?_
  refine sr_icmp_gt 1017 (by omega) (by omega) (by decide) dL_law_988 (fun h => absurd h (by omega)) (fun _ => ?_)
  refine st_aload_n (i := 1) rfl (t := 0) rfl (by decide) dL_law_991 ?_
  refine st_iconst dL_law_992 ?_
  refine st_iconst dL_law_993 ?_
  refine st_callV (kc2 := kc) (ks2 := ks) (av := [(0, 1), (0, (-1))]) 0 10 mr_L_160 ok_X11_players (ck_players w 1 (by decide) s1) rfl sh_0 ⟨_, rfl, rfl, by decide⟩ rfl rfl (by omega) (by omega) (by omega) (mmCat_4 (Nat.le_of_ble_eq_true rfl)) dL_law_994 (mQ.elim fun v2 m2 h2 => ?_)
  obtain ⟨e2, s2⟩ := h2
  have r2 := (players_1 (show 0 < n ∧ n ≤ 24 by omega) (fun i i0 i1 => (w.row i i0 i1).1) (by decide) e2).1
  refine st_iconst dL_law_997 ?_
  refine sr_icmp_lt 1017 (by omega) (by omega) (by decide) dL_law_998 (fun h => absurd h (by omega)) (fun _ => ?_)
  refine st_aload_n (i := 1) rfl (t := 0) rfl (by decide) dL_law_1001 ?_
  refine st_bipush rfl dL_law_1002 ?_
  refine st_iconst dL_law_1004 ?_
  refine st_callV (kc2 := kc) (ks2 := ks) (av := [(0, 24), (0, (-1))]) 0 10 mr_L_160 ok_X11_players (ck_players w 24 (by decide) s2) rfl sh_0 ⟨_, rfl, rfl, by decide⟩ rfl rfl (by omega) (by omega) (by omega) (mmCat_4 (Nat.le_of_ble_eq_true rfl)) dL_law_1005 (mQ.elim fun v3 m3 h3 => ?_)
  obtain ⟨e3, s3⟩ := h3
  have r3 := (players_1 (show 0 < n ∧ n ≤ 24 by omega) (fun i i0 i1 => (w.row i i0 i1).1) (by decide) e3).1
  refine st_aload_n (i := 1) rfl (t := 0) rfl (by decide) dL_law_1008 ?_
  refine st_iconst dL_law_1009 ?_
  refine st_iconst dL_law_1010 ?_
  refine st_callV (kc2 := kc) (ks2 := ks) (av := [(0, 1), (0, (-1))]) 0 10 mr_L_160 ok_X11_players (ck_players w 1 (by decide) s3) rfl sh_0 ⟨_, rfl, rfl, by decide⟩ rfl rfl (by omega) (by omega) (by omega) (mmCat_4 (Nat.le_of_ble_eq_true rfl)) dL_law_1011 (mQ.elim fun v4 m4 h4 => ?_)
  obtain ⟨e4, s4⟩ := h4
  have r4 := (players_1 (show 0 < n ∧ n ≤ 24 by omega) (fun i i0 i1 => (w.row i i0 i1).1) (by decide) e4).1
  have r5 := players_le (show 0 < n ∧ n ≤ 24 by omega) (fun i i0 i1 => (w.row i i0 i1).1) e4 e3
  refine sr_icmp_ge 1019 (by omega) (by omega) (by decide) dL_law_1014 (fun _ => ?_) (fun h => absurd h (by omega))
  refine st_locals [(3, 0), (2, 0), (0, lw), (0, n), (0, ng), (0, im), (0, i), (0, x), (9, 0), (9, 0), (9, 0), (9, 0), (9, 0), (9, 0)] ⟨Or.inr rfl, Or.inr rfl, Or.inr rfl, Or.inr rfl, Or.inr rfl, Or.inr rfl, Or.inr rfl, Or.inr rfl, Or.inr rfl, Or.inr rfl, Or.inr rfl, Or.inr rfl, Or.inl rfl, Or.inr rfl, trivial⟩ ?_
  exact lk_1019 w hd s4 kk
theorem lk_927 {d kc ks : Nat} {Q : mmQ} (w : IX sc ls lw n ng im t b) (hd : 60 ≤ d) (hx : 0 ≤ x ∧ x < 2147483648) (s0 : same b m) (kk : ∀ m', same b m' → mmT bL_law d kc ks Q 21 (lcH lw n ng im (i + 1)) [] mS m') : mmT bL_law d kc ks Q 927 (lcC lw n ng im i x) [] mS m := by
  have hn := w.nn
  have pN := w.pN
  have d3 := div_bnd (x := x) (k := 3) hx.1
  refine st_iload rfl dL_law_927 ?_
  refine st_iconst dL_law_929 ?_
  refine sr_ishr (by omega) (by omega) dL_law_930 ?_
  refine st_iconst dL_law_931 ?_
  refine st_iload_n (i := 3) rfl rfl dL_law_932 ?_
  refine st_ishl dL_law_933 ?_
  refine st_iconst dL_law_934 ?_
  refine st_isub dL_law_935 ?_
  refine st_iand dL_law_936 ?_
  have hL := maskR (y := x / p2 3) (n := n) (by omega) (by omega)
  obtain ⟨L, eL⟩ : ∃ L, and32 (x / p2 3) (shl32 1 n - 1) = L := ⟨_, rfl⟩
  rw [eL] at hL
  show mmT bL_law d kc ks Q 937 _ [(0, and32 (x / p2 3) (shl32 1 n - 1))] mS m
  rw [eL]
  refine st_istore (by decide) (lc' := [(3, 0), (2, 0), (0, lw), (0, n), (0, ng), (0, im), (0, i), (0, x), (9, 0), (9, 0), (9, 0), (9, 0), (0, L), (9, 0)]) rfl dL_law_937 ?_
  refine st_aload_n (i := 1) rfl (t := 0) rfl (by decide) dL_law_939 ?_
  refine st_iload rfl dL_law_940 ?_
  refine st_iconst dL_law_942 ?_
  refine st_callV (kc2 := kc) (ks2 := ks) (av := [(0, L), (0, 0)]) 0 10 mr_L_148 ok_X11_ends (ck_ends w L 0 hL (Or.inl rfl) s0) rfl sh_0 ⟨_, rfl, rfl, by decide⟩ rfl rfl (by omega) (by omega) (by omega) (mmCat_4 (Nat.le_of_ble_eq_true rfl)) dL_law_943 (mQ.elim fun v1 m1 h1 => ?_)
  obtain ⟨⟨k1, n1, e1⟩, s1⟩ := h1
  rw [if_pos rfl] at e1
  have R := evR (show 0 ≤ n by omega) w.leapB hL.1 n1
  have I := evStop_iff (show 0 ≤ n by omega) w.leapB hL.1 n1
  rw [← e1] at R I
  refine st_istore (by decide) (lc' := [(3, 0), (2, 0), (0, lw), (0, n), (0, ng), (0, im), (0, i), (0, x), (9, 0), (9, 0), (9, 0), (9, 0), (0, L), (0, v1)]) rfl dL_law_946 ?_
  refine st_iload rfl dL_law_948 ?_
  refine st_iconst dL_law_950 ?_
  by_cases hv : v1 = 1
  · refine sr_icmp_ne 958 (by omega) (by omega) (by decide) dL_law_951 (fun h => absurd h (by omega)) (fun _ => ?_)
    refine st_iconst dL_law_954 ?_
    refine st_goto 959 (by decide) dL_law_955 ?_
    refine st_aload_n (i := 1) rfl (t := 0) rfl (by decide) dL_law_959 ?_
    refine st_iload rfl dL_law_960 ?_
    refine st_iconst dL_law_962 ?_
    refine st_callV (kc2 := kc) (ks2 := ks) (av := [(0, L), (0, 1)]) 0 10 mr_L_148 ok_X11_ends (ck_ends w L 1 hL (Or.inr rfl) s1) rfl sh_0 ⟨_, rfl, rfl, by decide⟩ rfl rfl (by omega) (by omega) (by omega) (mmCat_4 (Nat.le_of_ble_eq_true rfl)) dL_law_963 (mQ.elim fun v2 m2 h2 => ?_)
    obtain ⟨⟨k2, n2, e2⟩, s2⟩ := h2
    rw [if_neg (by decide), evEnd_unique n2 n1] at e2
    rw [← e2] at R I
    have I2 := I.mp hv
    refine st_iconst dL_law_966 ?_
    refine sr_icmp_eq 974 (by omega) (by omega) (by decide) dL_law_967 (fun h => absurd h (by omega)) (fun _ => ?_)
    refine st_iconst dL_law_970 ?_
    refine st_goto 975 (by decide) dL_law_971 ?_
    refine sr_icmp_ne 1017 (by omega) (by omega) (by decide) dL_law_975 (fun h => absurd h (by omega)) (fun _ => ?_)
    refine st_locals [(3, 0), (2, 0), (0, lw), (0, n), (0, ng), (0, im), (0, i), (0, x), (9, 0), (9, 0), (9, 0), (9, 0), (0, L), (9, 0)] ⟨Or.inr rfl, Or.inr rfl, Or.inr rfl, Or.inr rfl, Or.inr rfl, Or.inr rfl, Or.inr rfl, Or.inr rfl, Or.inr rfl, Or.inr rfl, Or.inr rfl, Or.inr rfl, Or.inr rfl, Or.inl rfl, trivial⟩ ?_
    exact lk_978 w hd hL s2 kk
  · refine sr_icmp_ne 958 (by omega) (by omega) (by decide) dL_law_951 (fun _ => ?_) (fun h => absurd h (by omega))
    refine st_iconst dL_law_958 ?_
    refine st_aload_n (i := 1) rfl (t := 0) rfl (by decide) dL_law_959 ?_
    refine st_iload rfl dL_law_960 ?_
    refine st_iconst dL_law_962 ?_
    refine st_callV (kc2 := kc) (ks2 := ks) (av := [(0, L), (0, 1)]) 0 10 mr_L_148 ok_X11_ends (ck_ends w L 1 hL (Or.inr rfl) s1) rfl sh_0 ⟨_, rfl, rfl, by decide⟩ rfl rfl (by omega) (by omega) (by omega) (mmCat_4 (Nat.le_of_ble_eq_true rfl)) dL_law_963 (mQ.elim fun v2 m2 h2 => ?_)
    obtain ⟨⟨k2, n2, e2⟩, s2⟩ := h2
    rw [if_neg (by decide), evEnd_unique n2 n1] at e2
    rw [← e2] at R I
    have I2 := fun z => hv (I.mpr z)
    refine st_iconst dL_law_966 ?_
    refine sr_icmp_eq 974 (by omega) (by omega) (by decide) dL_law_967 (fun _ => ?_) (fun h => absurd h (by omega))
    refine st_iconst dL_law_974 ?_
    refine sr_icmp_ne 1017 (by omega) (by omega) (by decide) dL_law_975 (fun h => absurd h (by omega)) (fun _ => ?_)
    refine st_locals [(3, 0), (2, 0), (0, lw), (0, n), (0, ng), (0, im), (0, i), (0, x), (9, 0), (9, 0), (9, 0), (9, 0), (0, L), (9, 0)] ⟨Or.inr rfl, Or.inr rfl, Or.inr rfl, Or.inr rfl, Or.inr rfl, Or.inr rfl, Or.inr rfl, Or.inr rfl, Or.inr rfl, Or.inr rfl, Or.inr rfl, Or.inr rfl, Or.inr rfl, Or.inl rfl, trivial⟩ ?_
    exact lk_978 w hd hL s2 kk
theorem extR {n : Int} {to : Int → Int} {k lg v : Int} (hn : 0 < n ∧ n ≤ 24) (ht : ∀ i, 0 ≤ i → i < n → -1 ≤ to i ∧ to i < n) (hk : 0 ≤ k ∧ k ≤ 4) (h : extQ n to k 0 lg v) : -1 ≤ v ∧ v ≤ 1000 := by
  rcases h with ⟨g, e⟩ | ⟨-, b, h, e⟩
  · omega
  · rw [if_pos rfl] at e
    obtain ⟨⟨rem, h1, -, h3, h4, h5, -⟩, -⟩ := h
    rcases rnS_ok (show 0 ≤ n ∧ n ≤ 24 by omega) ht k.toNat 0 rem (by omega) h1 with q | ⟨q, -⟩
    · exact absurd q h4
    · have h5' : b.1 = 0 + (rnS n to k.toNat 0 rem).1 := h5
      omega
theorem lk_882 {d kc ks : Nat} {Q : mmQ} (w : IX sc ls lw n ng im t b) (hd : 60 ≤ d) (hx : 0 ≤ x ∧ x < 2147483648) (s0 : same b m) (kk : ∀ m', same b m' → mmT bL_law d kc ks Q 21 (lcH lw n ng im (i + 1)) [] mS m') : mmT bL_law d kc ks Q 882 (lcC lw n ng im i x) [] mS m := by
  have hn := w.nn
  refine st_aload_n (i := 1) rfl (t := 0) rfl (by decide) dL_law_882 ?_
  refine st_iconst dL_law_883 ?_
  refine st_iconst dL_law_884 ?_
  refine st_callV (kc2 := kc) (ks2 := ks) (av := [(0, 0), (0, 0)]) 0 10 mr_L_148 ok_X11_ends (ck_ends w 0 0 ⟨by decide, p2_pos n⟩ (Or.inl rfl) s0) rfl sh_0 ⟨_, rfl, rfl, by decide⟩ rfl rfl (by omega) (by omega) (by omega) (mmCat_4 (Nat.le_of_ble_eq_true rfl)) dL_law_885 (mQ.elim fun v1 m1 h1 => ?_)
  obtain ⟨⟨k1, n1, e1⟩, s1⟩ := h1
  rw [if_pos rfl, (evEnd_0 (show 0 ≤ n ∧ n ≤ 24 by omega) n1).2] at e1
  refine sr_if_ne 925 (by omega) (by decide) dL_law_888 (fun h => absurd h (by omega)) (fun _ => ?_)
  refine st_aload_n (i := 1) rfl (t := 0) rfl (by decide) dL_law_891 ?_
  refine st_iconst dL_law_892 ?_
  refine st_callV (kc2 := kc) (ks2 := ks) (av := [(0, 0)]) 0 10 mr_L_151 ok_X11_rows (ck_rows w s1) rfl sh_0 ⟨_, rfl, rfl, by decide⟩ rfl rfl (by omega) (by omega) (by omega) (mmCat_4 (Nat.le_of_ble_eq_true rfl)) dL_law_893 (mQ.elim fun v2 m2 h2 => ?_)
  obtain ⟨e2, s2⟩ := h2
  have e2 : v2 = 1 := e2
  refine st_iconst dL_law_896 ?_
  refine sr_icmp_ne 925 (by omega) (by omega) (by decide) dL_law_897 (fun h => absurd h (by omega)) (fun _ => ?_)
  refine st_aload_n (i := 1) rfl (t := 0) rfl (by decide) dL_law_900 ?_
  refine st_iconst dL_law_901 ?_
  refine st_iconst dL_law_902 ?_
  refine st_callV (kc2 := kc) (ks2 := ks) (av := [(0, 0), (0, 0)]) 0 10 mr_L_154 ok_X11_shortest (ck_short w 0 (by decide) s2) rfl sh_0 ⟨_, rfl, rfl, by decide⟩ rfl rfl (by omega) (by omega) (by omega) (mmCat_4 (Nat.le_of_ble_eq_true rfl)) dL_law_903 (mQ.elim fun v3 m3 h3 => ?_)
  obtain ⟨e3, s3⟩ := h3
  have r3 := shortest_0 (show 0 < n ∧ n ≤ 24 by omega) e3
  refine st_iload_n (i := 3) rfl rfl dL_law_906 ?_
  refine sr_icmp_ne 925 (by omega) (by omega) (by decide) dL_law_907 (fun h => absurd h (by omega)) (fun _ => ?_)
  refine st_aload_n (i := 1) rfl (t := 0) rfl (by decide) dL_law_910 ?_
  refine st_iconst dL_law_911 ?_
  refine st_iconst dL_law_912 ?_
  refine st_callV (kc2 := kc) (ks2 := ks) (av := [(0, 2), (0, 0)]) 0 10 mr_L_157 ok_X11_longest (ck_long w 2 (by decide) s3) rfl sh_0 ⟨_, rfl, rfl, by decide⟩ rfl rfl (by omega) (by omega) (by omega) (mmCat_4 (Nat.le_of_ble_eq_true rfl)) dL_law_913 (mQ.elim fun v4 m4 h4 => ?_)
  obtain ⟨e4, s4⟩ := h4
  refine st_aload_n (i := 1) rfl (t := 0) rfl (by decide) dL_law_916 ?_
  refine st_iconst dL_law_917 ?_
  refine st_iconst dL_law_918 ?_
  refine st_callV (kc2 := kc) (ks2 := ks) (av := [(0, 2), (0, 0)]) 0 10 mr_L_154 ok_X11_shortest (ck_short w 2 (by decide) s4) rfl sh_0 ⟨_, rfl, rfl, by decide⟩ rfl rfl (by omega) (by omega) (by omega) (mmCat_4 (Nat.le_of_ble_eq_true rfl)) dL_law_919 (mQ.elim fun v5 m5 h5 => ?_)
  obtain ⟨e5, s5⟩ := h5
  have r5 := longest_ge (show 0 < n by omega) e5 e4
  have r4 := extR (show 0 < n ∧ n ≤ 24 by omega) w.leapB (by decide) e4
  have r6 := extR (show 0 < n ∧ n ≤ 24 by omega) w.leapB (by decide) e5
  refine sr_icmp_ge 927 (by omega) (by omega) (by decide) dL_law_922 (fun _ => ?_) (fun h => absurd h (by omega))
  exact lk_927 w hd hx s5 kk
theorem lk_854 {d kc ks : Nat} {Q : mmQ} (w : IX sc ls lw n ng im t b) (hd : 60 ≤ d) {mo : Int} (hm : 1 ≤ mo ∧ mo ≤ 200) (hx : 0 ≤ x ∧ x < 2147483648) (s0 : same b m) (kk : ∀ m', same b m' → mmT bL_law d kc ks Q 21 (lcH lw n ng im (i + 1)) [] mS m') : mmT bL_law d kc ks Q 854 [(3, 0), (2, 0), (0, lw), (0, n), (0, ng), (0, im), (0, i), (0, x), (0, mo), (9, 0), (9, 0), (9, 0), (9, 0), (9, 0)] [] mS m := by
  have hn := w.nn
  refine st_aload_n (i := 1) rfl (t := 0) rfl (by decide) dL_law_854 ?_
  refine st_iload rfl dL_law_855 ?_
  refine st_iconst dL_law_857 ?_
  refine st_callV (kc2 := kc) (ks2 := ks) (av := [(0, mo), (0, 1)]) 0 10 mr_L_142 ok_X11_understudy (ck_und w mo hm s0) rfl sh_0 ⟨_, rfl, rfl, by decide⟩ rfl rfl (by omega) (by omega) (by omega) (mmCat_4 (Nat.le_of_ble_eq_true rfl)) dL_law_858 (mQ.elim fun v1 m1 h1 => ?_)
  obtain ⟨e1, s1⟩ := h1
  have r1 := w.und (b 47 0) mo
  rw [← e1] at r1
  refine sr_if_ge 866 (by omega) (by decide) dL_law_861 (fun _ => ?_) (fun h => absurd h (by omega))
  refine st_iload rfl dL_law_866 ?_
  refine st_iload_n (i := 3) rfl rfl dL_law_868 ?_
  refine sr_icmp_lt 882 (by omega) (by omega) (by decide) dL_law_869 (fun hv => ?_) (fun hv => ?_)
  · refine st_locals [(3, 0), (2, 0), (0, lw), (0, n), (0, ng), (0, im), (0, i), (0, x), (9, 0), (9, 0), (9, 0), (9, 0), (9, 0), (9, 0)] ⟨Or.inr rfl, Or.inr rfl, Or.inr rfl, Or.inr rfl, Or.inr rfl, Or.inr rfl, Or.inr rfl, Or.inr rfl, Or.inl rfl, Or.inr rfl, Or.inr rfl, Or.inr rfl, Or.inr rfl, Or.inr rfl, trivial⟩ ?_
    exact lk_882 w hd hx s1 kk
  · refine st_aload_n (i := 1) rfl (t := 0) rfl (by decide) dL_law_872 ?_
    refine st_iconst dL_law_873 ?_
    refine st_iconst dL_law_874 ?_
    refine st_callV (kc2 := kc) (ks2 := ks) (av := [(0, 0), (0, (-1))]) 0 10 mr_L_145 ok_X11_evening (ck_evening w 0 ⟨by decide, p2_pos n⟩ s1) rfl sh_0 ⟨_, rfl, rfl, by decide⟩ rfl rfl (by omega) (by omega) (by omega) (mmCat_4 (Nat.le_of_ble_eq_true rfl)) dL_law_875 (mQ.elim fun v2 m2 h2 => ?_)
    obtain ⟨⟨k2, n2, e2⟩, s2⟩ := h2
    have r2 := (evEnd_0 (show 0 ≤ n ∧ n ≤ 24 by omega) n2).1
    refine st_iload_n (i := 3) rfl rfl dL_law_878 ?_
    refine sr_icmp_ne 925 (by omega) (by omega) (by decide) dL_law_879 (fun h => absurd h (by omega)) (fun _ => ?_)
    refine st_locals [(3, 0), (2, 0), (0, lw), (0, n), (0, ng), (0, im), (0, i), (0, x), (9, 0), (9, 0), (9, 0), (9, 0), (9, 0), (9, 0)] ⟨Or.inr rfl, Or.inr rfl, Or.inr rfl, Or.inr rfl, Or.inr rfl, Or.inr rfl, Or.inr rfl, Or.inr rfl, Or.inl rfl, Or.inr rfl, Or.inr rfl, Or.inr rfl, Or.inr rfl, Or.inr rfl, trivial⟩ ?_
    exact lk_882 w hd hx s2 kk
theorem lk_815 {d kc ks : Nat} {Q : mmQ} (w : IX sc ls lw n ng im t b) (hd : 60 ≤ d) {mo c T : Int} (hm : 1 ≤ mo ∧ mo ≤ 200) (hc : c = (EX b (b 47 0) mo).2.1 ∧ 0 ≤ c ∧ c ≤ 1000000000) (hT : 0 ≤ T ∧ c + T ≤ 1000000000) (hx : 0 ≤ x ∧ x < 2147483648) (s0 : same b m) (kk : ∀ m', same b m' → mmT bL_law d kc ks Q 21 (lcH lw n ng im (i + 1)) [] mS m') : mmT bL_law d kc ks Q 815 [(3, 0), (2, 0), (0, lw), (0, n), (0, ng), (0, im), (0, i), (0, x), (0, mo), (0, c), (1, T), (9, 0), (9, 0), (9, 0)] [] mS m := by
  have hn := w.nn
  refine st_iload rfl dL_law_815 ?_
  refine sr_if_lt 864 (by omega) (by decide) dL_law_817 (fun h => absurd h (by omega)) (fun _ => ?_)
  refine st_iload rfl dL_law_820 ?_
  refine sr_i2l (by omega) dL_law_822 ?_
  refine st_lload (i := 10) rfl dL_law_823 ?_
  refine st_ladd dL_law_825 ?_
  refine st_ldc2 cw_L_140 dL_law_826 ?_
  refine sr_lcmp_gt 864 ⟨by omega, by omega⟩ ⟨by decide, by decide⟩ (by decide) dL_law_829 dL_law_830 (fun h => absurd h (by omega)) (fun _ => ?_)
  refine st_iload rfl dL_law_833 ?_
  refine st_sipush rfl dL_law_835 ?_
  refine sr_icmp_ge 854 (by omega) (by omega) (by decide) dL_law_838 (fun hv => ?_) (fun hv => ?_)
  · refine st_locals [(3, 0), (2, 0), (0, lw), (0, n), (0, ng), (0, im), (0, i), (0, x), (0, mo), (9, 0), (9, 0), (9, 0), (9, 0), (9, 0)] ⟨Or.inr rfl, Or.inr rfl, Or.inr rfl, Or.inr rfl, Or.inr rfl, Or.inr rfl, Or.inr rfl, Or.inr rfl, Or.inr rfl, Or.inl rfl, Or.inl rfl, Or.inr rfl, Or.inr rfl, Or.inr rfl, trivial⟩ ?_
    exact lk_854 w hd hm hx s0 kk
  · refine st_aload_n (i := 1) rfl (t := 0) rfl (by decide) dL_law_841 ?_
    refine st_iload rfl dL_law_842 ?_
    refine st_iconst dL_law_844 ?_
    refine st_iadd dL_law_845 ?_
    refine st_callV (kc2 := kc) (ks2 := ks) (av := [(0, (mo + 1))]) 0 10 mr_L_128 ok_X11_chance (ck_chance w (mo + 1) (by omega) s0) rfl sh_0 ⟨_, rfl, rfl, by decide⟩ rfl rfl (by omega) (by omega) (by omega) (mmCat_4 (Nat.le_of_ble_eq_true rfl)) dL_law_846 (mQ.elim fun v2 m2 h2 => ?_)
    obtain ⟨e2, s2⟩ := h2
    have e2 : v2 = (EX b (b 47 0) (mo + 1)).2.1 := e2
    have r2 := w.chanceM (b 47 0) mo (by omega)
    have r3 := (w.chanceR (b 47 0) (mo + 1)).1
    refine st_iload rfl dL_law_849 ?_
    refine sr_icmp_lt 864 (by omega) (by omega) (by decide) dL_law_851 (fun h => absurd h (by omega)) (fun _ => ?_)
    refine st_locals [(3, 0), (2, 0), (0, lw), (0, n), (0, ng), (0, im), (0, i), (0, x), (0, mo), (9, 0), (9, 0), (9, 0), (9, 0), (9, 0)] ⟨Or.inr rfl, Or.inr rfl, Or.inr rfl, Or.inr rfl, Or.inr rfl, Or.inr rfl, Or.inr rfl, Or.inr rfl, Or.inr rfl, Or.inl rfl, Or.inl rfl, Or.inr rfl, Or.inr rfl, Or.inr rfl, trivial⟩ ?_
    exact lk_854 w hd hm hx s2 kk
theorem lk_783 {d kc ks : Nat} {Q : mmQ} (w : IX sc ls lw n ng im t b) (hd : 60 ≤ d) {mo c T k to : Int} (hk : 0 ≤ k ∧ k < n) (s0 : same b m) (kn : ∀ m', same b m' → mmT bL_law d kc ks Q 683 [(3, 0), (2, 0), (0, lw), (0, n), (0, ng), (0, im), (0, i), (0, x), (0, mo), (0, c), (1, T), (9, 0), (0, (k + 1)), (9, 0)] [] mS m') : mmT bL_law d kc ks Q 783 [(3, 0), (2, 0), (0, lw), (0, n), (0, ng), (0, im), (0, i), (0, x), (0, mo), (0, c), (1, T), (9, 0), (0, k), (0, to)] [] mS m := by
  have hn := w.nn
  refine st_aload_n (i := 1) rfl (t := 0) rfl (by decide) dL_law_783 ?_
  refine st_iload rfl dL_law_784 ?_
  refine st_bipush rfl dL_law_786 ?_
  refine st_callH (kc2 := kc) (ks2 := ks) (av := [(2, 0), (0, k), (0, 7)]) mr_L_101 ok_L_speech (ck_speech w k 7 hk (by decide) s0) rfl rfl (by omega) (by omega) (by omega) (mmCat_4 (Nat.le_of_ble_eq_true rfl)) dL_law_788 (mQ.elim fun v1 m1 h1 => ?_)
  obtain ⟨e1, s1⟩ := h1
  have e1 : v1 = forgetsX b k (b2i (and32 (shr32 (b 47 0) k) 1 = 1)) := e1
  have r1 := w.fgR k (b2i (and32 (shr32 (b 47 0) k) 1 = 1))
  refine sr_if_lt 807 (by omega) (by decide) dL_law_791 (fun h => absurd h (by omega)) (fun _ => ?_)
  refine st_aload_n (i := 1) rfl (t := 0) rfl (by decide) dL_law_794 ?_
  refine st_iload rfl dL_law_795 ?_
  refine st_bipush rfl dL_law_797 ?_
  refine st_callH (kc2 := kc) (ks2 := ks) (av := [(2, 0), (0, k), (0, 7)]) mr_L_101 ok_L_speech (ck_speech w k 7 hk (by decide) s1) rfl rfl (by omega) (by omega) (by omega) (mmCat_4 (Nat.le_of_ble_eq_true rfl)) dL_law_799 (mQ.elim fun v2 m2 h2 => ?_)
  obtain ⟨e2, s2⟩ := h2
  have e2 : v2 = forgetsX b k (b2i (and32 (shr32 (b 47 0) k) 1 = 1)) := e2
  refine st_bipush rfl dL_law_802 ?_
  refine sr_icmp_le 809 (by omega) (by omega) (by decide) dL_law_804 (fun _ => ?_) (fun h => absurd h (by omega))
  refine st_iinc (y := (k + 1)) (by decide) (i := 12) rfl rfl (lc' := [(3, 0), (2, 0), (0, lw), (0, n), (0, ng), (0, im), (0, i), (0, x), (0, mo), (0, c), (1, T), (9, 0), (0, (k + 1)), (0, to)]) rfl dL_law_809 ?_
  refine st_goto 683 (by decide) dL_law_812 ?_
  refine st_locals [(3, 0), (2, 0), (0, lw), (0, n), (0, ng), (0, im), (0, i), (0, x), (0, mo), (0, c), (1, T), (9, 0), (0, (k + 1)), (9, 0)] ⟨Or.inr rfl, Or.inr rfl, Or.inr rfl, Or.inr rfl, Or.inr rfl, Or.inr rfl, Or.inr rfl, Or.inr rfl, Or.inr rfl, Or.inr rfl, Or.inr rfl, Or.inr rfl, Or.inr rfl, Or.inl rfl, trivial⟩ ?_
  exact kn m2 s2
theorem lk_683 {d kc ks : Nat} {Q : mmQ} (w : IX sc ls lw n ng im t b) (hd : 60 ≤ d) (c28 : ∀ i, 0 ≤ i → i < n → R32 (b 28 i)) {mo c T k : Int} (hm : 1 ≤ mo ∧ mo ≤ 200) (hk : 0 ≤ k ∧ k < n) (s0 : same b m) (kn : ∀ m', same b m' → mmT bL_law d kc ks Q 683 [(3, 0), (2, 0), (0, lw), (0, n), (0, ng), (0, im), (0, i), (0, x), (0, mo), (0, c), (1, (T + (EX b (b 47 0) mo).2.2.1 k)), (9, 0), (0, (k + 1)), (9, 0)] [] mS m') : mmT bL_law d kc ks Q 683 [(3, 0), (2, 0), (0, lw), (0, n), (0, ng), (0, im), (0, i), (0, x), (0, mo), (0, c), (1, T), (9, 0), (0, k), (9, 0)] [] mS m := by
  have hn := w.nn
  refine st_iload rfl dL_law_683 ?_
  refine st_iload_n (i := 3) rfl rfl dL_law_685 ?_
  refine sr_icmp_ge 815 (by omega) (by omega) (by decide) dL_law_686 (fun h => absurd h (by omega)) (fun _ => ?_)
  refine st_lload (i := 10) rfl dL_law_689 ?_
  refine st_aload_n (i := 1) rfl (t := 0) rfl (by decide) dL_law_691 ?_
  refine st_iload rfl dL_law_692 ?_
  refine st_iload rfl dL_law_694 ?_
  refine st_callV (kc2 := kc) (ks2 := ks) (av := [(0, k), (0, mo)]) 0 10 mr_L_131 ok_X11_mean (ck_mean w k mo hk hm s0) rfl sh_0 ⟨_, rfl, rfl, by decide⟩ rfl rfl (by omega) (by omega) (by omega) (mmCat_4 (Nat.le_of_ble_eq_true rfl)) dL_law_696 (mQ.elim fun v1 m1 h1 => ?_)
  obtain ⟨e1, s1⟩ := h1
  have e1 : v1 = (EX b (b 47 0) mo).2.2.1 k := e1
  have r1 := (w.chanceR (b 47 0) mo).2.2 k hk.1 hk.2
  refine sr_i2l (by omega) dL_law_699 ?_
  refine st_ladd dL_law_700 ?_
  refine st_lstore (i := 10) (by decide) (lc' := [(3, 0), (2, 0), (0, lw), (0, n), (0, ng), (0, im), (0, i), (0, x), (0, mo), (0, c), (1, (T + v1)), (9, 0), (0, k), (9, 0)]) rfl dL_law_701 ?_
  refine st_aload_n (i := 1) rfl (t := 0) rfl (by decide) dL_law_703 ?_
  refine st_iload rfl dL_law_704 ?_
  refine st_callV (kc2 := kc) (ks2 := ks) (av := [(0, k)]) 0 10 mr_L_134 ok_X11_leap (ck_leap w k hk s1) rfl sh_0 ⟨_, rfl, rfl, by decide⟩ rfl rfl (by omega) (by omega) (by omega) (mmCat_4 (Nat.le_of_ble_eq_true rfl)) dL_law_706 (mQ.elim fun v2 m2 h2 => ?_)
  obtain ⟨e2, s2⟩ := h2
  have e2 : v2 = b 38 k := e2
  have r2 := w.leapB k hk.1 hk.2
  refine st_istore (by decide) (lc' := [(3, 0), (2, 0), (0, lw), (0, n), (0, ng), (0, im), (0, i), (0, x), (0, mo), (0, c), (1, (T + v1)), (9, 0), (0, k), (0, v2)]) rfl dL_law_709 ?_
  refine st_iload rfl dL_law_711 ?_
  refine st_iconst dL_law_713 ?_
  have sb := stops_bit (to := b 38) (show 0 ≤ n ∧ n ≤ 24 by omega) hk
  have wr := (wltF_tb (n := n) (to := b 38) (z := -1) (show 0 ≤ n ∧ n ≤ 24 by omega)).1
  rw [shr32_eq wr.1 (by omega) hk.1 (by omega)] at sb
  have dk := div_bnd (x := wltF n (b 38) (-1)) (k := k) wr.1
  by_cases hv : v2 = -1
  · refine sr_icmp_eq 758 (by omega) (by omega) (by decide) dL_law_714 (fun _ => ?_) (fun h => absurd h (by omega))
    refine st_aload_n (i := 1) rfl (t := 0) rfl (by decide) dL_law_758 ?_
    refine st_callV (kc2 := kc) (ks2 := ks) (av := []) 0 10 mr_L_137 ok_X11_stops (ck_stops w s2) rfl sh_0 ⟨_, rfl, rfl, by decide⟩ rfl rfl (by omega) (by omega) (by omega) (mmCat_4 (Nat.le_of_ble_eq_true rfl)) dL_law_759 (mQ.elim fun v3 m3 h3 => ?_)
    obtain ⟨e3, s3⟩ := h3
    have e3 : v3 = wltF n (b 38) (-1) := e3
    rw [← e3] at sb wr dk
    refine st_iload rfl dL_law_762 ?_
    refine sr_ishr (by omega) (by omega) dL_law_764 ?_
    refine st_iconst dL_law_765 ?_
    refine st_iand dL_law_766 ?_
    rw [if_pos (by omega)] at sb
    show mmT bL_law d kc ks Q 767 _ [(0, and32 (v3 / p2 k) 1)] mS m3
    rw [sb]
    refine st_iload rfl dL_law_767 ?_
    refine st_iconst dL_law_769 ?_
    refine sr_icmp_ne 777 (by omega) (by omega) (by decide) dL_law_770 (fun h => absurd h (by omega)) (fun _ => ?_)
    refine st_iconst dL_law_773 ?_
    refine st_goto 778 (by decide) dL_law_774 ?_
    refine sr_icmp_eq 783 (by omega) (by omega) (by decide) dL_law_778 (fun _ => ?_) (fun h => absurd h (by omega))
    refine st_locals [(3, 0), (2, 0), (0, lw), (0, n), (0, ng), (0, im), (0, i), (0, x), (0, mo), (0, c), (1, (T + v1)), (9, 0), (0, k), (0, v2)] ⟨Or.inr rfl, Or.inr rfl, Or.inr rfl, Or.inr rfl, Or.inr rfl, Or.inr rfl, Or.inr rfl, Or.inr rfl, Or.inr rfl, Or.inr rfl, Or.inr rfl, Or.inr rfl, Or.inr rfl, Or.inr rfl, trivial⟩ ?_
    exact lk_783 w hd hk s3 (by rw [e1]; exact kn)
  · refine sr_icmp_eq 758 (by omega) (by omega) (by decide) dL_law_714 (fun h => absurd h (by omega)) (fun _ => ?_)
    have lf := leapF_like (kd := b 36 (b 24 k)) (n := n) (a := b 24) (c := b 28) hk.1 hk.2 (by rw [← w.leap k hk.1 hk.2, ← e2]; exact hv)
    rw [← w.leap k hk.1 hk.2, ← e2] at lf
    obtain ⟨l1, -, l3, l4, l5, -⟩ := lf
    have a24 := (w.row k hk.1 hk.2).1
    have q24 := (w.row v2 l1.1 l1.2).1
    refine st_iload rfl dL_law_717 ?_
    refine st_iload rfl dL_law_719 ?_
    refine sr_icmp_eq 781 (by omega) (by omega) (by decide) dL_law_721 (fun h => absurd h (by omega)) (fun _ => ?_)
    refine st_aload_n (i := 1) rfl (t := 0) rfl (by decide) dL_law_724 ?_
    refine st_iload rfl dL_law_725 ?_
    refine st_iconst dL_law_727 ?_
    refine st_callH (kc2 := kc) (ks2 := ks) (av := [(2, 0), (0, v2), (0, 0)]) mr_L_101 ok_L_speech (ck_speech w v2 0 l1 (by decide) s2) rfl rfl (by omega) (by omega) (by omega) (mmCat_4 (Nat.le_of_ble_eq_true rfl)) dL_law_728 (mQ.elim fun t1 mt1 ht1 => ?_)
    obtain ⟨et1, st1⟩ := ht1
    have et1 : t1 = b 24 v2 := et1
    refine st_aload_n (i := 1) rfl (t := 0) rfl (by decide) dL_law_731 ?_
    refine st_iload rfl dL_law_732 ?_
    refine st_iconst dL_law_734 ?_
    refine st_callH (kc2 := kc) (ks2 := ks) (av := [(2, 0), (0, k), (0, 0)]) mr_L_101 ok_L_speech (ck_speech w k 0 hk (by decide) st1) rfl rfl (by omega) (by omega) (by omega) (mmCat_4 (Nat.le_of_ble_eq_true rfl)) dL_law_735 (mQ.elim fun t2 mt2 ht2 => ?_)
    obtain ⟨et2, st2⟩ := ht2
    have et2 : t2 = b 24 k := et2
    refine sr_icmp_ne 781 (by omega) (by omega) (by decide) dL_law_738 (fun h => absurd h (by omega)) (fun _ => ?_)
    refine st_aload_n (i := 1) rfl (t := 0) rfl (by decide) dL_law_741 ?_
    refine st_iload rfl dL_law_742 ?_
    refine st_iconst dL_law_744 ?_
    refine st_callH (kc2 := kc) (ks2 := ks) (av := [(2, 0), (0, v2), (0, 3)]) mr_L_101 ok_L_speech (ck_speech w v2 3 l1 (by decide) st2) rfl rfl (by omega) (by omega) (by omega) (mmCat_4 (Nat.le_of_ble_eq_true rfl)) dL_law_745 (mQ.elim fun t3 mt3 ht3 => ?_)
    obtain ⟨et3, st3⟩ := ht3
    have et3 : t3 = b 28 v2 := et3
    have Rt3 : R32 (b 28 v2) := c28 v2 l1.1 l1.2
    refine st_aload_n (i := 1) rfl (t := 0) rfl (by decide) dL_law_748 ?_
    refine st_iload rfl dL_law_749 ?_
    refine st_iconst dL_law_751 ?_
    refine st_callH (kc2 := kc) (ks2 := ks) (av := [(2, 0), (0, k), (0, 3)]) mr_L_101 ok_L_speech (ck_speech w k 3 hk (by decide) st3) rfl rfl (by omega) (by omega) (by omega) (mmCat_4 (Nat.le_of_ble_eq_true rfl)) dL_law_752 (mQ.elim fun t4 mt4 ht4 => ?_)
    obtain ⟨et4, st4⟩ := ht4
    have et4 : t4 = b 28 k := et4
    have Rt4 : R32 (b 28 k) := by rw [← l5]; exact c28 v2 l1.1 l1.2
    rw [← et3] at Rt3
    rw [← et4] at Rt4
    refine sr_icmp_ne 781 (by omega) (by omega) (by decide) dL_law_755 (fun h => absurd h (by omega)) (fun _ => ?_)
    refine st_aload_n (i := 1) rfl (t := 0) rfl (by decide) dL_law_758 ?_
    refine st_callV (kc2 := kc) (ks2 := ks) (av := []) 0 10 mr_L_137 ok_X11_stops (ck_stops w st4) rfl sh_0 ⟨_, rfl, rfl, by decide⟩ rfl rfl (by omega) (by omega) (by omega) (mmCat_4 (Nat.le_of_ble_eq_true rfl)) dL_law_759 (mQ.elim fun v3 m3 h3 => ?_)
    obtain ⟨e3, s3⟩ := h3
    have e3 : v3 = wltF n (b 38) (-1) := e3
    rw [← e3] at sb wr dk
    refine st_iload rfl dL_law_762 ?_
    refine sr_ishr (by omega) (by omega) dL_law_764 ?_
    refine st_iconst dL_law_765 ?_
    refine st_iand dL_law_766 ?_
    rw [if_neg (by omega)] at sb
    show mmT bL_law d kc ks Q 767 _ [(0, and32 (v3 / p2 k) 1)] mS m3
    rw [sb]
    refine st_iload rfl dL_law_767 ?_
    refine st_iconst dL_law_769 ?_
    refine sr_icmp_ne 777 (by omega) (by omega) (by decide) dL_law_770 (fun _ => ?_) (fun h => absurd h (by omega))
    refine st_iconst dL_law_777 ?_
    refine sr_icmp_eq 783 (by omega) (by omega) (by decide) dL_law_778 (fun _ => ?_) (fun h => absurd h (by omega))
    refine st_locals [(3, 0), (2, 0), (0, lw), (0, n), (0, ng), (0, im), (0, i), (0, x), (0, mo), (0, c), (1, (T + v1)), (9, 0), (0, k), (0, v2)] ⟨Or.inr rfl, Or.inr rfl, Or.inr rfl, Or.inr rfl, Or.inr rfl, Or.inr rfl, Or.inr rfl, Or.inr rfl, Or.inr rfl, Or.inr rfl, Or.inr rfl, Or.inr rfl, Or.inr rfl, Or.inr rfl, trivial⟩ ?_
    exact lk_783 w hd hk s3 (by rw [e1]; exact kn)
theorem lk_loop {d kc ks : Nat} {Q : mmQ} (w : IX sc ls lw n ng im t b) (hd : 60 ≤ d) (c28 : ∀ i, 0 ≤ i → i < n → R32 (b 28 i)) {mo c : Int} (hm : 1 ≤ mo ∧ mo ≤ 200) (hc : c = (EX b (b 47 0) mo).2.1 ∧ 0 ≤ c ∧ c ≤ 1000000000) (hx : 0 ≤ x ∧ x < 2147483648) (kk : ∀ m', same b m' → mmT bL_law d kc ks Q 21 (lcH lw n ng im (i + 1)) [] mS m') : ∀ k, 0 ≤ k → k ≤ n → ∀ m, same b m → mmT bL_law d kc ks Q 683 [(3, 0), (2, 0), (0, lw), (0, n), (0, ng), (0, im), (0, i), (0, x), (0, mo), (0, c), (1, sumTo (EX b (b 47 0) mo).2.2.1 k.toNat), (9, 0), (0, k), (9, 0)] [] mS m := by
  have hn := w.nn
  refine loop_up (n := n) (fun k => ∀ m, same b m → mmT bL_law d kc ks Q 683 [(3, 0), (2, 0), (0, lw), (0, n), (0, ng), (0, im), (0, i), (0, x), (0, mo), (0, c), (1, sumTo (EX b (b 47 0) mo).2.2.1 k.toNat), (9, 0), (0, k), (9, 0)] [] mS m) (fun k k0 k1 ih m s => ?_)
  by_cases q : k < n
  · refine lk_683 w hd c28 hm ⟨k0, q⟩ s (fun m1 s1 => ?_)
    have e := ih q m1 s1
    rw [sumTo_step _ k0] at e
    exact e
  · have ek : k = n := by omega
    subst ek
    have R := (w.chanceR (b 47 0) mo).2.1
    refine st_iload rfl dL_law_683 ?_
    refine st_iload_n (i := 3) rfl rfl dL_law_685 ?_
    refine sr_icmp_ge 815 (by omega) (by omega) (by decide) dL_law_686 (fun _ => ?_) (fun h => absurd h (by omega))
    refine st_locals [(3, 0), (2, 0), (0, lw), (0, k), (0, ng), (0, im), (0, i), (0, x), (0, mo), (0, c), (1, sumTo (EX b (b 47 0) mo).2.2.1 k.toNat), (9, 0), (9, 0), (9, 0)] ⟨Or.inr rfl, Or.inr rfl, Or.inr rfl, Or.inr rfl, Or.inr rfl, Or.inr rfl, Or.inr rfl, Or.inr rfl, Or.inr rfl, Or.inr rfl, Or.inr rfl, Or.inr rfl, Or.inl rfl, Or.inr rfl, trivial⟩ ?_
    exact lk_815 w hd hm hc (by omega) hx s kk
theorem lk_626 {d kc ks : Nat} {Q : mmQ} (w : IX sc ls lw n ng im t b) (hd : 60 ≤ d) (ht : 0 ≤ t ∧ t ≤ 1001) (hx : 0 ≤ x ∧ x < 2147483648) (kk : ∀ m', same b m' → mmT bL_law d kc ks Q 21 (lcH lw n ng im (i + 1)) [] mS m') : mmT bL_law d kc ks Q 626 (lcC lw n ng im i x) [] mS b := by
  refine mm_fact (P := ∀ i, R32 (b 28 i)) (fun G s H hR i => (hR.2.2.2.2.2.2.2.2.1 28 _ i sh_28).1 rfl) (fun c28 => ?_)
  have hn := w.nn
  have d6 := div_bnd (x := x) (k := 6) hx.1
  have hlw := w.1.2.1.1
  have hng := w.2.2.2.2.1.2.1
  refine st_aload_n (i := 1) rfl (t := 0) rfl (by decide) dL_law_626 ?_
  refine st_iconst dL_law_627 ?_
  refine st_callV (kc2 := kc) (ks2 := ks) (av := [(0, 1)]) 0 10 mr_L_34 ok_X11_count (ck_count 1 ⟨by decide, by decide⟩ (same_refl b)) rfl sh_0 ⟨_, rfl, rfl, by decide⟩ rfl rfl (by omega) (by omega) (by omega) (mmCat_4 (Nat.le_of_ble_eq_true rfl)) dL_law_628 (mQ.elim fun v1 m1 h1 => ?_)
  obtain ⟨e1, s1⟩ := h1
  have e1 : v1 = b 23 1 := e1
  rw [w.size] at e1
  refine st_iload_n (i := 3) rfl rfl dL_law_631 ?_
  refine sr_icmp_ne 654 (by omega) (by omega) (by decide) dL_law_632 (fun h => absurd h (by omega)) (fun _ => ?_)
  refine st_aload_n (i := 1) rfl (t := 0) rfl (by decide) dL_law_635 ?_
  refine st_iconst dL_law_636 ?_
  refine st_callV (kc2 := kc) (ks2 := ks) (av := [(0, 2)]) 0 10 mr_L_34 ok_X11_count (ck_count 2 ⟨by decide, by decide⟩ s1) rfl sh_0 ⟨_, rfl, rfl, by decide⟩ rfl rfl (by omega) (by omega) (by omega) (mmCat_4 (Nat.le_of_ble_eq_true rfl)) dL_law_637 (mQ.elim fun v2 m2 h2 => ?_)
  obtain ⟨e2, s2⟩ := h2
  have e2 : v2 = b 0 11 := e2
  refine st_iload_n (i := 2) rfl rfl dL_law_640 ?_
  refine sr_icmp_ne 654 (by omega) (by omega) (by decide) dL_law_641 (fun h => absurd h (by omega)) (fun _ => ?_)
  refine st_aload_n (i := 1) rfl (t := 0) rfl (by decide) dL_law_644 ?_
  refine st_iconst dL_law_645 ?_
  refine st_callV (kc2 := kc) (ks2 := ks) (av := [(0, 5)]) 0 10 mr_L_34 ok_X11_count (ck_count 5 ⟨by decide, by decide⟩ s2) rfl sh_0 ⟨_, rfl, rfl, by decide⟩ rfl rfl (by omega) (by omega) (by omega) (mmCat_4 (Nat.le_of_ble_eq_true rfl)) dL_law_646 (mQ.elim fun v3 m3 h3 => ?_)
  obtain ⟨e3, s3⟩ := h3
  have e3 : v3 = b 47 2 := e3
  refine st_iload rfl dL_law_649 ?_
  refine sr_icmp_eq 656 (by omega) (by omega) (by decide) dL_law_651 (fun _ => ?_) (fun h => absurd h (by omega))
  refine st_iconst dL_law_656 ?_
  refine st_iload rfl dL_law_657 ?_
  refine st_bipush rfl dL_law_659 ?_
  refine sr_ishr (by omega) (by omega) dL_law_661 ?_
  refine st_sipush rfl dL_law_662 ?_
  refine sr_irem (by omega) (by omega) dL_law_665 ?_
  refine st_iadd dL_law_666 ?_
  obtain ⟨mo, em⟩ : ∃ mo, 1 + x / p2 6 % 200 = mo := ⟨_, rfl⟩
  have hm : 1 ≤ mo ∧ mo ≤ 200 := by omega
  show mmT bL_law d kc ks Q 667 _ [(0, 1 + x / p2 6 % 200)] mS m3
  rw [em]
  refine st_istore (by decide) (lc' := [(3, 0), (2, 0), (0, lw), (0, n), (0, ng), (0, im), (0, i), (0, x), (0, mo), (9, 0), (9, 0), (9, 0), (9, 0), (9, 0)]) rfl dL_law_667 ?_
  refine st_aload_n (i := 1) rfl (t := 0) rfl (by decide) dL_law_669 ?_
  refine st_iload rfl dL_law_670 ?_
  refine st_callV (kc2 := kc) (ks2 := ks) (av := [(0, mo)]) 0 10 mr_L_128 ok_X11_chance (ck_chance w mo hm s3) rfl sh_0 ⟨_, rfl, rfl, by decide⟩ rfl rfl (by omega) (by omega) (by omega) (mmCat_4 (Nat.le_of_ble_eq_true rfl)) dL_law_672 (mQ.elim fun v4 m4 h4 => ?_)
  obtain ⟨e4, s4⟩ := h4
  have e4 : v4 = (EX b (b 47 0) mo).2.1 := e4
  have r4 := (w.chanceR (b 47 0) mo).1
  rw [← e4] at r4
  refine st_istore (by decide) (lc' := [(3, 0), (2, 0), (0, lw), (0, n), (0, ng), (0, im), (0, i), (0, x), (0, mo), (0, v4), (9, 0), (9, 0), (9, 0), (9, 0)]) rfl dL_law_675 ?_
  refine st_lconst (v := 0) rfl dL_law_677 ?_
  refine st_lstore (i := 10) (by decide) (lc' := [(3, 0), (2, 0), (0, lw), (0, n), (0, ng), (0, im), (0, i), (0, x), (0, mo), (0, v4), (1, 0), (9, 0), (9, 0), (9, 0)]) rfl dL_law_678 ?_
  refine st_iconst dL_law_680 ?_
  refine st_istore (by decide) (lc' := [(3, 0), (2, 0), (0, lw), (0, n), (0, ng), (0, im), (0, i), (0, x), (0, mo), (0, v4), (1, 0), (9, 0), (0, 0), (9, 0)]) rfl dL_law_681 ?_
  exact lk_loop w hd (fun i _ _ => c28 i) hm ⟨e4, r4⟩ hx kk 0 (by decide) (by omega) m4 s4
end
