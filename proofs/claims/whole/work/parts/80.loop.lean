/-! the law's SPEECH; the choice of a call; the loop -/
section
variable {d kc ks : Nat} {Q : mmQ} {st : List mmV} {mem : mmM} {sc : Int → Int} {i : Int} {ls : Nat → lawT} {t : Int}
theorem mm_up {B : mmB} {kc' ks' pc : Nat} {lc : List mmV} {sh : mmS} (h : mmT B d kc ks Q pc lc st sh mem) (h1 : kc ≤ kc') (h2 : ks ≤ ks') : mmT B d kc' ks' Q pc lc st sh mem := by
  intro p l e R s m args below meth c G H locs cells slots ls X
  exact h p l e R s m args below meth c G H locs cells slots ls ⟨X.1, X.2.1, X.2.2.1, X.2.2.2.1, X.2.2.2.2.1, Nat.le_trans (Nat.add_le_add_left h1 cells) X.2.2.2.2.2.1, Nat.le_trans (Nat.add_le_add_left h2 slots) X.2.2.2.2.2.2.1, X.2.2.2.2.2.2.2⟩
theorem and32_63 {z : Int} (h : R32 z) : 0 ≤ and32 z 63 ∧ and32 z 63 ≤ 63 := by
  have a : ∀ n : Nat, 0 ≤ and32 (n : Int) 63 ∧ and32 (n : Int) 63 ≤ 63 := by
    intro n
    have e := and32_any (x := n) (y := 63) (by decide)
    have l : n &&& 63 ≤ 63 := Nat.and_le_right
    have e' : and32 (n : Int) 63 = ((n &&& 63 : Nat) : Int) := e
    omega
  by_cases q : 0 ≤ z
  · have := a z.toNat
    rw [Int.toNat_of_nonneg q] at this
    exact this
  · have := a (z + 4294967296).toNat
    rw [Int.toNat_of_nonneg (by omega), and32_w] at this
    exact this
theorem rd_lc {lc : List mmV} (p : Nat) (j : Int) (l0 : lc[0]? = some (3, 0)) (l4 : lc[4]? = some (0, i)) (hs : mem 999 = sc) (h0 : 0 ≤ i + j) (h1 : i + j < sc (-1)) (hN : sc (-1) ≤ 3072) (d0 : decode bL_law.2.1 p = .ok (.aload_n 0, 1)) (d1 : decode bL_law.2.1 (p + 1) = .ok (.iload 4, 2)) (d2 : decode bL_law.2.1 (p + 3) = .ok (.iconst j, 1)) (d3 : decode bL_law.2.1 (p + 4) = .ok (.iadd, 1)) (d4 : decode bL_law.2.1 (p + 5) = .ok (.iaload, 1)) (k : mmT bL_law d kc ks Q (p + 6) lc ((0, sc (i + j)) :: st) mS mem) : mmT bL_law d kc ks Q p lc st mS mem := by
  refine st_aload_n (i := 0) rfl (t := 1) l0 (by decide) d0 ?_
  refine st_iload (i := 4) l4 d1 ?_
  refine st_iconst d2 ?_
  refine st_iadd d3 ?_
  refine st_sload h0 (by rw [hs]; exact h1) (by omega) d4 ?_
  rw [hs]
  exact k
theorem lw_speech (w : Inv sc ls t mem) (hr : ∀ k, R32 (sc k)) (h0 : 0 ≤ i) (hL : i + 6 ≤ sc (-1)) (hN : sc (-1) ≤ 3072) (ht : 0 ≤ t ∧ t ≤ 1000) (hd : 60 ≤ d) (k : ∀ m2 ls', Inv sc ls' (t + 1) m2 → mmT bL_law d kc ks Q 1413 (lcL i) [] mS m2) : mmT bL_law d (kc + 1) (ks + 6) Q 352 (lcL i) [] mS mem := by
  have hx := hr (i + 1)
  have hy := hr (i + 2)
  have hn := w.n
  refine st_aload_n (i := 1) rfl (t := 0) rfl (by decide) dL_law_352 ?_
  refine rd_lc 353 1 rfl rfl w.scr (by omega) (by omega) hN dL_law_353 dL_law_354 dL_law_356 dL_law_357 dL_law_358 ?_
  refine rd_lc 359 2 rfl rfl w.scr (by omega) (by omega) hN dL_law_359 dL_law_360 dL_law_362 dL_law_363 dL_law_364 ?_
  refine st_aload_n (i := 3) rfl (t := 0) rfl (by decide) dL_law_365 ?_
  refine st_callH (kc2 := kc) (ks2 := ks) (av := [(2, 0), (0, sc (i + 1)), (0, sc (i + 2)), (2, 99)]) (st := []) mr_L_38 ok_L_speech (c_L_speech mem (sc (i + 1)) (sc (i + 2)) hx hy w.nX) rfl rfl (by omega) (Nat.le_of_eq (Nat.add_comm 1 kc)) (Nat.le_of_eq (Nat.add_comm 6 ks)) (Nat.le_of_ble_eq_true rfl) dL_law_366 (mQ.elim fun v1 m1 h1 => ?_)
  have hs : same mem m1 := by
    by_cases g : (0 ≤ sc (i + 1) ∧ sc (i + 1) < mem 23 1) ∧ 0 ≤ sc (i + 2) ∧ sc (i + 2) ≤ 9
    · rw [(h1.1 g).2]
      exact ⟨fun a ha => mset_ne (by unfold keepC at ha; omega), by rw [mset_ne (by decide)], fun j _ => by rw [mset_ne (by decide)], odOr_of (mset_ne (by decide))⟩
    · exact same_eq (h1.2 g).2
  have w1 := Inv_same hs w
  have e27 : m1 65 27 = mem 23 1 := by rw [hs.2.2.1 27 (by unfold keepJ; omega), w.size]
  have e99 : ((0 ≤ sc (i + 1) ∧ sc (i + 1) < m1 65 27) ∧ 0 ≤ sc (i + 2) ∧ sc (i + 2) ≤ 9) → m1 99 0 = w32 (tellM m1 (heldL ls m1) (sc (i + 1)) (sc (i + 2))) := by
    intro g
    rw [e27] at g
    have e := (h1.1 g).2
    have ex : tellX m1 (sc (i + 1)) (sc (i + 2)) = tellX mem (sc (i + 1)) (sc (i + 2)) := by
      have q : ∀ a, a ≠ 99 → m1 a = mem a := fun a ha => by rw [e, mset_ne ha]
      unfold tellX forgetsX
      rw [q 24 (by decide), q 25 (by decide), q 26 (by decide), q 28 (by decide), q 29 (by decide), q 30 (by decide), q 47 (by decide), q 27 (by decide), q 48 (by decide), q 31 (by decide), q 32 (by decide), q 23 (by decide)]
    rw [← tell_eq w1 (by rw [e27]; exact g.1), ex, e, mset_same]
  have h1' : (((0 ≤ sc (i + 1) ∧ sc (i + 1) < m1 65 27) ∧ 0 ≤ sc (i + 2) ∧ sc (i + 2) ≤ 9) → v1 = 0) ∧ (¬ ((0 ≤ sc (i + 1) ∧ sc (i + 1) < m1 65 27) ∧ 0 ≤ sc (i + 2) ∧ sc (i + 2) ≤ 9) → v1 = 1) := by
    rw [e27]
    exact ⟨fun g => (h1.1 g).1, fun g => (h1.2 g).1⟩
  refine st_istore (i := 5) (lc' := [(3, 0), (2, 0), (2, 65), (2, 99), (0, i), (0, v1), (9, 0)]) (by decide) rfl dL_law_369 ?_
  refine st_aload_n (i := 2) rfl (t := 0) rfl (by decide) dL_law_371 ?_
  refine rd_lc 372 1 rfl rfl w1.scr (by omega) (by omega) hN dL_law_372 dL_law_373 dL_law_375 dL_law_376 dL_law_377 ?_
  refine rd_lc 378 2 rfl rfl w1.scr (by omega) (by omega) hN dL_law_378 dL_law_379 dL_law_381 dL_law_382 dL_law_383 ?_
  refine st_callV (kc2 := kc) (ks2 := ks) (av := [(0, sc (i + 1)), (0, sc (i + 2))]) 65 11 mr_L_43 ok_X12_speech (c_X12_speech m1 (sc (i + 1)) (sc (i + 2)) (heldL ls m1) w1.play hx hy (by have := w1.h28; omega) w1.heldR) rfl sh_65 ⟨_, rfl, rfl, by decide⟩ rfl rfl (by omega) (Nat.le_of_eq (Nat.zero_add kc)) (Nat.le_of_eq (Nat.zero_add ks)) (Nat.le_of_ble_eq_true rfl) dL_law_384 (mQ.elim fun v2 m2 h2 => ?_)
  obtain ⟨⟨h2a, h2b⟩, h2c⟩ := h2
  have w2 := Inv_same (same_sp h2c) w1
  refine st_istore (i := 6) (lc' := [(3, 0), (2, 0), (2, 65), (2, 99), (0, i), (0, v1), (0, v2)]) (by decide) rfl dL_law_387 ?_
  refine st_aload_n (i := 2) rfl (t := 0) rfl (by decide) dL_law_389 ?_
  refine st_callV (kc2 := kc) (ks2 := ks) (av := []) 65 11 mr_L_44 ok_X12_thrown (cn_X12_thrown (d := 1) (P := fun v m => v = m2 65 0 ∧ m = m2) (bk_X12_thrown_0 (q1 := ⟨rfl, rfl⟩))) rfl sh_65 ⟨_, rfl, rfl, by decide⟩ rfl rfl (by omega) (Nat.le_of_eq (Nat.zero_add kc)) (Nat.le_of_eq (Nat.zero_add ks)) (Nat.le_of_ble_eq_true rfl) dL_law_390 (mQ.elim fun v3 m3 h3 => ?_)
  obtain ⟨h3a, h3b⟩ := h3
  rw [h3b]
  have e3 : v3 = v1 := by
    rw [h3a]
    by_cases g : (0 ≤ sc (i + 1) ∧ sc (i + 1) < m1 65 27) ∧ 0 ≤ sc (i + 2) ∧ sc (i + 2) ≤ 9
    · rw [(h2a g).2, h1'.1 g]
    · rw [(h2b g).2, h1'.2 g]
  have fin : mmT bL_law d kc ks Q 417 [(3, 0), (2, 0), (2, 65), (2, 99), (0, i), (0, v1), (0, v2)] [] mS m2 :=
    st_goto 1413 (by decide) dL_law_417 (st_locals (lcL i) ⟨Or.inr rfl, Or.inr rfl, Or.inr rfl, Or.inr rfl, Or.inr rfl, Or.inl rfl, Or.inl rfl, trivial⟩ (k m2 ls (Inv_more w2 ht.1)))
  refine st_iload (i := 5) rfl dL_law_393 ?_
  refine st_icmp_eq 400 (by decide) dL_law_395 (fun _ => ?_) (fun h => absurd (by rw [e3]) h)
  refine st_iload (i := 5) rfl dL_law_400 ?_
  refine st_if_ne 417 (by decide) dL_law_402 (fun _ => fin) (fun h => ?_)
  have g : (0 ≤ sc (i + 1) ∧ sc (i + 1) < m1 65 27) ∧ 0 ≤ sc (i + 2) ∧ sc (i + 2) ≤ 9 := Decidable.byContradiction fun g => by
    rw [h1'.2 g] at h
    exact absurd h (by decide)
  have e2 : m2 99 0 = w32 v2 := by rw [h2c.1 99 (by decide) (by decide) (by decide), e99 g, (h2a g).1]
  refine st_aload_n (i := 3) rfl (t := 0) rfl (by decide) dL_law_405 ?_
  refine st_iconst dL_law_406 ?_
  refine st_laload 99 rfl sh_99 (by decide) (by decide) (by decide) e2 dL_law_407 ?_
  refine st_iload (i := 6) rfl dL_law_408 ?_
  refine st_i2l dL_law_410 ?_
  refine st_lcmp dL_law_411 ?_
  have c : cmp64 (w32 v2) (w32 v2) = 0 := by
    unfold cmp64
    rw [if_neg (by omega), if_pos rfl]
  rw [c]
  exact st_if_eq 417 (by decide) dL_law_412 (fun _ => fin) (fun h => absurd mm_w0 h)
theorem lw_tab (z : Int) (hz : 0 ≤ z ∧ z ≤ 63) (w : Inv sc ls t mem) (hr : ∀ k, R32 (sc k)) (h0 : 0 ≤ i) (hL : i + 6 ≤ sc (-1)) (hN : sc (-1) ≤ 3072) (ht : 0 ≤ t ∧ t ≤ 1000) (hd : 60 ≤ d) (k : ∀ m2 ls', Inv sc ls' (t + 1) m2 → mmT bL_law d kc ks Q 1413 (lcL i) [] mS m2) : mmT bL_law d (kc + 1) (ks + 6) Q 40 (lcL i) [(0, z)] mS mem := by
  have k' : ∀ m2 ls', Inv sc ls' (t + 1) m2 → mmT bL_law d (kc + 1) (ks + 6) Q 1413 (lcL i) [] mS m2 := fun m2 ls' q => mm_up (k m2 ls' q) (Nat.le_add_right _ _) (Nat.le_add_right _ _)
  by_cases hb : 36 < z
  · exact st_tableOut 1413 (Or.inr (by rw [w32_id (by omega) (by omega)]; exact hb)) (by decide) dL_law_40 (k' mem ls (Inv_more w ht.1))
  have hc : z = 0 ∨ z = 1 ∨ z = 2 ∨ z = 3 ∨ z = 4 ∨ z = 5 ∨ z = 6 ∨ z = 7 ∨ z = 8 ∨ z = 9 ∨ z = 10 ∨ z = 11 ∨ z = 12 ∨ z = 13 ∨ z = 14 ∨ z = 15 ∨ z = 16 ∨ z = 17 ∨ z = 18 ∨ z = 19 ∨ z = 20 ∨ z = 21 ∨ z = 22 ∨ z = 23 ∨ z = 24 ∨ z = 25 ∨ z = 26 ∨ z = 27 ∨ z = 28 ∨ z = 29 ∨ z = 30 ∨ z = 31 ∨ z = 32 ∨ z = 33 ∨ z = 34 ∨ z = 35 ∨ z = 36 := by omega
  rcases hc with e | e | e | e | e | e | e | e | e | e | e | e | e | e | e | e | e | e | e | e | e | e | e | e | e | e | e | e | e | e | e | e | e | e | e | e | e
  · subst e
    exact st_tableIn (off := 164) 204 (by decide) (by decide) (by decide) (by decide) dL_law_40 (lw_feed w hr h0 hL hN ht hd k')
  · subst e
    exact st_tableIn (off := 237) 277 (by decide) (by decide) (by decide) (by decide) dL_law_40 (lw_end w hr h0 hL hN ht hd k')
  · subst e
    exact st_tableIn (off := 262) 302 (by decide) (by decide) (by decide) (by decide) dL_law_40 (lw_fault w hr h0 hL hN ht hd k')
  · subst e
    exact st_tableIn (off := 287) 327 (by decide) (by decide) (by decide) (by decide) dL_law_40 (lw_text w hr h0 hL hN ht hd k')
  · subst e
    exact st_tableIn (off := 312) 352 (by decide) (by decide) (by decide) (by decide) dL_law_40 (lw_speech w hr h0 hL hN ht hd k)
  · subst e
    exact st_tableIn (off := 380) 420 (by decide) (by decide) (by decide) (by decide) dL_law_40 (lw_law w hr h0 hL hN ht hd k')
  · subst e
    exact st_tableIn (off := 405) 445 (by decide) (by decide) (by decide) (by decide) dL_law_40 (lw_set w hr h0 hL hN ht hd k')
  · subst e
    exact st_tableIn (off := 454) 494 (by decide) (by decide) (by decide) (by decide) dL_law_40 (lw_mark w hr h0 hL hN ht hd k')
  · subst e
    exact st_tableIn (off := 507) 547 (by decide) (by decide) (by decide) (by decide) dL_law_40 (lw_leap w hr h0 hL hN ht hd k')
  · subst e
    exact st_tableIn (off := 532) 572 (by decide) (by decide) (by decide) (by decide) dL_law_40 (lw_evening w hr h0 hL hN ht hd k')
  · subst e
    exact st_tableIn (off := 569) 609 (by decide) (by decide) (by decide) (by decide) dL_law_40 (lw_ends w hr h0 hL hN ht hd k')
  · subst e
    exact st_tableIn (off := 606) 646 (by decide) (by decide) (by decide) (by decide) dL_law_40 (lw_night w hr h0 hL hN ht hd k')
  · subst e
    exact st_tableIn (off := 663) 703 (by decide) (by decide) (by decide) (by decide) dL_law_40 (lw_latest w hr h0 hL hN ht hd k')
  · subst e
    exact st_tableIn (off := 688) 728 (by decide) (by decide) (by decide) (by decide) dL_law_40 (lw_learn w hr h0 hL hN ht hd k')
  · subst e
    exact st_tableIn (off := 713) 753 (by decide) (by decide) (by decide) (by decide) dL_law_40 (lw_loop w hr h0 hL hN ht hd k')
  · subst e
    exact st_tableIn (off := 738) 778 (by decide) (by decide) (by decide) (by decide) dL_law_40 (lw_hole w hr h0 hL hN ht hd k')
  · subst e
    exact st_tableIn (off := 763) 803 (by decide) (by decide) (by decide) (by decide) dL_law_40 (lw_stops w hr h0 hL hN ht hd k')
  · subst e
    exact st_tableIn (off := 776) 816 (by decide) (by decide) (by decide) (by decide) dL_law_40 (lw_from w hr h0 hL hN ht hd k')
  · subst e
    exact st_tableIn (off := 801) 841 (by decide) (by decide) (by decide) (by decide) dL_law_40 (lw_rows w hr h0 hL hN ht hd k')
  · subst e
    exact st_tableIn (off := 826) 866 (by decide) (by decide) (by decide) (by decide) dL_law_40 (lw_chance w hr h0 hL hN ht hd k')
  · subst e
    exact st_tableIn (off := 851) 891 (by decide) (by decide) (by decide) (by decide) dL_law_40 (lw_mean w hr h0 hL hN ht hd k')
  · subst e
    exact st_tableIn (off := 888) 928 (by decide) (by decide) (by decide) (by decide) dL_law_40 (lw_could w hr h0 hL hN ht hd k')
  · subst e
    exact st_tableIn (off := 913) 953 (by decide) (by decide) (by decide) (by decide) dL_law_40 (lw_fewest w hr h0 hL hN ht hd k')
  · subst e
    exact st_tableIn (off := 962) 1002 (by decide) (by decide) (by decide) (by decide) dL_law_40 (lw_understudy w hr h0 hL hN ht hd k')
  · subst e
    exact st_tableIn (off := 999) 1039 (by decide) (by decide) (by decide) (by decide) dL_law_40 (lw_worst w hr h0 hL hN ht hd k')
  · subst e
    exact st_tableIn (off := 1024) 1064 (by decide) (by decide) (by decide) (by decide) dL_law_40 (lw_silence w hr h0 hL hN ht hd k')
  · subst e
    exact st_tableIn (off := 1049) 1089 (by decide) (by decide) (by decide) (by decide) dL_law_40 (lw_spare w hr h0 hL hN ht hd k')
  · subst e
    exact st_tableIn (off := 1086) 1126 (by decide) (by decide) (by decide) (by decide) dL_law_40 (lw_players w hr h0 hL hN ht hd k')
  · subst e
    exact st_tableIn (off := 1123) 1163 (by decide) (by decide) (by decide) (by decide) dL_law_40 (lw_shortest w hr h0 hL hN ht hd k')
  · subst e
    exact st_tableIn (off := 1160) 1200 (by decide) (by decide) (by decide) (by decide) dL_law_40 (lw_longest w hr h0 hL hN ht hd k')
  · subst e
    exact st_tableIn (off := 1197) 1237 (by decide) (by decide) (by decide) (by decide) dL_law_40 (lw_visits w hr h0 hL hN ht hd k')
  · subst e
    exact st_tableIn (off := 1235) 1275 (by decide) (by decide) (by decide) (by decide) dL_law_40 (lw_trial w hr h0 hL hN ht hd k')
  · subst e
    exact st_tableIn (off := 1272) 1312 (by decide) (by decide) (by decide) (by decide) dL_law_40 (lw_doubtful w hr h0 hL hN ht hd k')
  · subst e
    exact st_tableIn (off := 1297) 1337 (by decide) (by decide) (by decide) (by decide) dL_law_40 (lw_reword w hr h0 hL hN ht hd k')
  · subst e
    exact st_tableIn (off := 1322) 1362 (by decide) (by decide) (by decide) (by decide) dL_law_40 (lw_image w hr h0 hL hN ht hd k')
  · subst e
    exact st_tableIn (off := 1335) 1375 (by decide) (by decide) (by decide) (by decide) dL_law_40 (lw_back w hr h0 hL hN ht hd k')
  · subst e
    exact st_tableIn (off := 1348) 1388 (by decide) (by decide) (by decide) (by decide) dL_law_40 (lw_count w hr h0 hL hN ht hd k')
theorem lw_head (w : Inv sc ls t mem) (hN : 0 ≤ sc (-1) ∧ sc (-1) ≤ 3072) (h0 : 0 ≤ i ∧ i ≤ 4000) (hq : Q (some (0, 1)) mS mem) (k : i + 6 ≤ sc (-1) → mmT bL_law d kc ks Q 33 (lcL i) [] mS mem) : mmT bL_law d kc ks Q 23 (lcL i) [] mS mem := by
  have hs := w.scr
  have hl : mem 999 (-1) = sc (-1) := by rw [hs]
  refine st_iload (i := 4) rfl dL_law_23 ?_
  refine st_aload_n (i := 0) rfl (t := 1) rfl (by decide) dL_law_25 ?_
  refine st_slen dL_law_26 (by rw [hl]; exact hN.1) ?_
  refine st_bipush rfl dL_law_27 ?_
  refine st_isub dL_law_29 ?_
  rw [hl]
  refine st_icmp_gt 1419 (by decide) dL_law_30 (fun _ => ?_) (fun h => k ?_)
  · exact st_iconst dL_law_1419 (st_zreturn rfl (Or.inr rfl) dL_law_1420 hq)
  · rw [w32_id (by omega) (by omega), w32_id (by omega) (by omega)] at h
    omega
theorem lw_run (hr : ∀ k, R32 (sc k)) (hN : 0 ≤ sc (-1) ∧ sc (-1) ≤ 3072) (hd : 60 ≤ d) (hq : ∀ m, Q (some (0, 1)) mS m) : ∀ (n : Nat) (t : Int) (ls : Nat → lawT) (mem : mmM), Inv sc ls t mem → 0 ≤ t → t ≤ 600 → sc (-1) - 6 * t < 6 * ((n : Int) + 1) → mmT bL_law d n (6 * n) Q 23 (lcL (6 * t)) [] mS mem := by
  intro n
  induction n with
  | zero =>
    intro t ls mem w h0 h6 hb
    exact lw_head w hN (by omega) (hq mem) (fun h => by exfalso; omega)
  | succ n ih =>
    intro t ls mem w h0 h6 hb
    refine lw_head w hN (by omega) (hq mem) (fun hL => ?_)
    have hs := w.scr
    show mmT bL_law d (n + 1) (6 * n + 6) Q 33 (lcL (6 * t)) [] mS mem
    refine st_aload_n (i := 0) rfl (t := 1) rfl (by decide) dL_law_33 ?_
    refine st_iload (i := 4) rfl dL_law_34 ?_
    refine st_sload (by omega) (by rw [hs]; omega) (by omega) dL_law_36 ?_
    rw [hs]
    refine st_bipush rfl dL_law_37 ?_
    refine st_iand dL_law_39 ?_
    refine lw_tab _ (and32_63 (hr _)) w hr (by omega) hL hN.2 (by omega) hd (fun m2 ls' w2 => ?_)
    refine st_iinc (y := 6 * (t + 1)) (lc' := lcL (6 * (t + 1))) (by decide) rfl (by omega) rfl dL_law_1413 ?_
    refine st_goto 23 (by decide) dL_law_1416 ?_
    refine ih (t + 1) ls' m2 w2 (by omega) (by omega) (by push_cast at hb; omega)
end
