/-! the law's acts, walked -/
abbrev lcC (lw n ng im i x : Int) : List mmV := [(3, 0), (2, 0), (0, lw), (0, n), (0, ng), (0, im), (0, i), (0, x), (9, 0), (9, 0), (9, 0), (9, 0), (9, 0), (9, 0)]
abbrev lcH (lw n ng im i : Int) : List mmV := [(3, 0), (2, 0), (0, lw), (0, n), (0, ng), (0, im), (0, i), (9, 0), (9, 0), (9, 0), (9, 0), (9, 0), (9, 0), (9, 0)]
section
variable {sc : Int → Int} {ls : Nat → lawT} {lw n ng im t i x : Int} {m : mmM}
theorem IX.imR (w : IX sc ls lw n ng im t m) : R32 im := by
  rcases w.2.2.2.2.2 with ⟨-, r⟩ | ⟨-, -, r, -⟩
  · rw [r]
    exact ⟨by decide, by decide⟩
  · rw [r]
    exact bcS_rng _
theorem lw_a2 {d kc ks : Nat} {Q : mmQ} (w : IX sc ls lw n ng im t m) (hd : 60 ≤ d) (ht : 0 ≤ t ∧ t ≤ 1000) (hx : 0 ≤ x ∧ x < 2147483648) (kk : ∀ ls' lw' n' ng' im' m', IX sc ls' lw' n' ng' im' (t + 1) m' → mmT bL_law d kc ks Q 626 (lcC lw' n' ng' im' i x) [] mS m') : mmT bL_law d kc ks Q 287 (lcC lw n ng im i x) [] mS m := by
  have hn := w.nn
  have p3 : p2 3 = 8 := by decide +kernel
  have p4 : p2 4 = 16 := by decide +kernel
  have p5 : p2 5 = 32 := by decide +kernel
  have p6 : p2 6 = 64 := by decide +kernel
  have p8 : p2 8 = 256 := by decide +kernel
  have p10 : p2 10 = 1024 := by decide +kernel
  have d4 := div_bnd (x := x) (k := 4) hx.1
  have d5 := div_bnd (x := x) (k := 5) hx.1
  have d8 := div_bnd (x := x) (k := 8) hx.1
  have d10 := div_bnd (x := x) (k := 10) hx.1
  have hlw := w.1.2.1.1
  refine st_aload_n (i := 1) rfl (t := 0) rfl (by decide) dL_law_287 ?_
  refine st_iload rfl dL_law_288 ?_
  refine st_iconst dL_law_290 ?_
  refine sr_ishr (by omega) (by omega) dL_law_291 ?_
  refine st_bipush rfl dL_law_292 ?_
  refine sr_irem (by omega) (by omega) dL_law_294 ?_
  refine st_iconst dL_law_295 ?_
  refine st_isub dL_law_296 ?_
  refine st_callV (kc2 := kc) (ks2 := ks) (av := [(0, (x / p2 4 % 6 - 1))]) 0 10 mr_L_98 ok_X11_law (am_law w (x / p2 4 % 6 - 1) (by omega)) rfl sh_0 ⟨_, rfl, rfl, by decide⟩ rfl rfl (by omega) (by omega) (by omega) (mmCat_4 (Nat.le_of_ble_eq_true rfl)) dL_law_297 (mQ.elim fun v m1 h1 => ?_)
  refine st_iload rfl dL_law_300 ?_
  refine st_iconst dL_law_302 ?_
  refine sr_ishr (by omega) (by omega) dL_law_303 ?_
  refine st_bipush rfl dL_law_304 ?_
  refine sr_irem (by omega) (by omega) dL_law_306 ?_
  refine st_iconst dL_law_307 ?_
  refine st_isub dL_law_308 ?_
  refine st_iload_n (i := 2) rfl rfl dL_law_309 ?_
  have hb := b2i_rng (x / p2 4 % 6 - 1 < lw)
  refine sr_icmp_ge 317 (by omega) (by omega) (by decide) dL_law_310 (fun hg => ?_) (fun hg => ?_)
  · refine st_iconst dL_law_317 ?_
    have e1 : v = 0 := by rw [h1.1, b2i_0 (by omega)]
    refine sr_icmp_eq 626 (by omega) (by omega) (by decide) dL_law_318 (fun _ => ?_) (fun h => absurd h (by omega))
    refine st_locals (lcC lw n ng im i x) ⟨Or.inr rfl, Or.inr rfl, Or.inr rfl, Or.inr rfl, Or.inr rfl, Or.inr rfl, Or.inr rfl, Or.inr rfl, Or.inl rfl, Or.inl rfl, Or.inl rfl, Or.inl rfl, Or.inl rfl, Or.inl rfl, trivial⟩ ?_
    exact kk _ _ _ _ _ _ (IX_more h1.2 ht.1)
  · refine st_iconst dL_law_313 ?_
    refine st_goto 318 (by decide) dL_law_314 ?_
    have e1 : v = 1 := by rw [h1.1, b2i_1 (by omega)]
    refine sr_icmp_eq 626 (by omega) (by omega) (by decide) dL_law_318 (fun _ => ?_) (fun h => absurd h (by omega))
    refine st_locals (lcC lw n ng im i x) ⟨Or.inr rfl, Or.inr rfl, Or.inr rfl, Or.inr rfl, Or.inr rfl, Or.inr rfl, Or.inr rfl, Or.inr rfl, Or.inl rfl, Or.inl rfl, Or.inl rfl, Or.inl rfl, Or.inl rfl, Or.inl rfl, trivial⟩ ?_
    exact kk _ _ _ _ _ _ (IX_more h1.2 ht.1)
theorem lw_a3 {d kc ks : Nat} {Q : mmQ} (w : IX sc ls lw n ng im t m) (hd : 60 ≤ d) (ht : 0 ≤ t ∧ t ≤ 1000) (hx : 0 ≤ x ∧ x < 2147483648) (kk : ∀ ls' lw' n' ng' im' m', IX sc ls' lw' n' ng' im' (t + 1) m' → mmT bL_law d kc ks Q 626 (lcC lw' n' ng' im' i x) [] mS m') : mmT bL_law d kc ks Q 323 (lcC lw n ng im i x) [] mS m := by
  have hn := w.nn
  have p3 : p2 3 = 8 := by decide +kernel
  have p4 : p2 4 = 16 := by decide +kernel
  have p5 : p2 5 = 32 := by decide +kernel
  have p6 : p2 6 = 64 := by decide +kernel
  have p8 : p2 8 = 256 := by decide +kernel
  have p10 : p2 10 = 1024 := by decide +kernel
  have d4 := div_bnd (x := x) (k := 4) hx.1
  have d5 := div_bnd (x := x) (k := 5) hx.1
  have d8 := div_bnd (x := x) (k := 8) hx.1
  have d10 := div_bnd (x := x) (k := 10) hx.1
  have hlw := w.1.2.1.1
  refine st_iload rfl dL_law_323 ?_
  refine st_iconst dL_law_325 ?_
  refine sr_ishr (by omega) (by omega) dL_law_326 ?_
  refine st_iload_n (i := 3) rfl rfl dL_law_327 ?_
  refine sr_irem (by omega) (by omega) dL_law_328 ?_
  obtain ⟨k, hk⟩ : ∃ k, x / p2 4 % n = k := ⟨_, rfl⟩
  have hk2 := mod_rng (x := x / p2 4) (n := n) (by omega)
  rw [hk] at hk2 ⊢
  refine st_istore (by decide) (lc' := [(3, 0), (2, 0), (0, lw), (0, n), (0, ng), (0, im), (0, i), (0, x), (0, k), (9, 0), (9, 0), (9, 0), (9, 0), (9, 0)]) rfl dL_law_329 ?_
  refine st_aload_n (i := 1) rfl (t := 0) rfl (by decide) dL_law_331 ?_
  refine st_iload rfl dL_law_332 ?_
  refine st_bipush rfl dL_law_334 ?_
  refine st_callH (kc2 := kc) (ks2 := ks) (av := [(2, 0), (0, k), (0, 6)]) mr_L_101 ok_L_speech (ck_speech w k 6 hk2 (by decide) (same_refl m)) rfl rfl (by omega) (by omega) (by omega) (mmCat_4 (Nat.le_of_ble_eq_true rfl)) dL_law_336 (mQ.elim fun v m1 h1 => ?_)
  obtain ⟨e1, s1⟩ := h1
  have e1 : v = b2i (and32 (shr32 (m 47 0) k) 1 = 1) := e1
  have bb := b2i_rng (and32 (shr32 (m 47 0) k) 1 = 1)
  by_cases hg : and32 (shr32 (m 47 0) k) 1 = 1
  · have eb : b2i (and32 (shr32 (m 47 0) k) 1 = 1) = 1 := b2i_1 hg
    refine sr_if_ne 346 (by omega) (by decide) dL_law_339 (fun _ => ?_) (fun h => absurd h (by omega))
    refine st_iconst dL_law_346 ?_
    refine st_istore (by decide) (lc' := [(3, 0), (2, 0), (0, lw), (0, n), (0, ng), (0, im), (0, i), (0, x), (0, k), (0, 0), (9, 0), (9, 0), (9, 0), (9, 0)]) rfl dL_law_347 ?_
    refine st_aload_n (i := 1) rfl (t := 0) rfl (by decide) dL_law_349 ?_
    refine st_bipush rfl dL_law_350 ?_
    refine st_callV (kc2 := kc) (ks2 := ks) (av := [(0, 6)]) 0 10 mr_L_34 ok_X11_count (ck_count 6 ⟨by decide, by decide⟩ s1) rfl sh_0 ⟨_, rfl, rfl, by decide⟩ rfl rfl (by omega) (by omega) (by omega) (mmCat_4 (Nat.le_of_ble_eq_true rfl)) dL_law_352 (mQ.elim fun v2 m2 h2 => ?_)
    obtain ⟨e2, s2⟩ := h2
    have e2 : v2 = bcS (m 47 0) := e2
    have b2 := bcS_rng (m 47 0)
    have pb := popc_bnd (m 47 0)
    have pe := bcS_eq w.marks.1 (Int.lt_of_lt_of_le w.marks.2 (p2_24 (show n ≤ 24 by omega)))
    refine st_istore (by decide) (lc' := [(3, 0), (2, 0), (0, lw), (0, n), (0, ng), (0, im), (0, i), (0, x), (0, k), (0, 0), (0, v2), (9, 0), (9, 0), (9, 0)]) rfl dL_law_355 ?_
    refine st_aload_n (i := 1) rfl (t := 0) rfl (by decide) dL_law_357 ?_
    refine st_iload rfl dL_law_358 ?_
    refine st_iload rfl dL_law_360 ?_
    refine sr_if_ne 369 (by omega) (by decide) dL_law_362 (fun h => absurd h (by omega)) (fun _ => ?_)
    refine st_iconst dL_law_365 ?_
    refine st_goto 370 (by decide) dL_law_366 ?_
    refine st_callV (kc2 := kc) (ks2 := ks) (av := [(0, k), (0, 1)]) 0 10 mr_L_104 ok_X11_mark (am_not w k 1 hk2 (by omega) s2) rfl sh_0 ⟨_, rfl, rfl, by decide⟩ rfl rfl (by omega) (by omega) (by omega) (mmCat_4 (Nat.le_of_ble_eq_true rfl)) dL_law_370 (mQ.elim fun v3 m3 h3 => ?_)
    obtain ⟨e3, s3⟩ := h3
    have e3 : v3 = 0 := e3
    refine sr_if_ne 409 (by omega) (by decide) dL_law_373 (fun h => absurd h (by omega)) (fun _ => ?_)
    refine st_aload_n (i := 1) rfl (t := 0) rfl (by decide) dL_law_376 ?_
    refine st_iload rfl dL_law_377 ?_
    refine st_iload rfl dL_law_379 ?_
    refine st_callV (kc2 := kc) (ks2 := ks) (av := [(0, k), (0, 0)]) 0 10 mr_L_104 ok_X11_mark (am_yes w k 0 hk2 (by omega) s3) rfl sh_0 ⟨_, rfl, rfl, by decide⟩ rfl rfl (by omega) (by omega) (by omega) (mmCat_4 (Nat.le_of_ble_eq_true rfl)) dL_law_381 (mQ.elim fun v4 m4 h4 => ?_)
    obtain ⟨e4, w4, c4⟩ := h4
    rw [if_pos hg] at c4
    refine sr_if_eq 409 (by omega) (by decide) dL_law_384 (fun h => absurd h (by omega)) (fun _ => ?_)
    refine st_aload_n (i := 1) rfl (t := 0) rfl (by decide) dL_law_387 ?_
    refine st_bipush rfl dL_law_388 ?_
    refine st_callV (kc2 := kc) (ks2 := ks) (av := [(0, 6)]) 0 10 mr_L_34 ok_X11_count (ck_count 6 ⟨by decide, by decide⟩ (same_refl m4)) rfl sh_0 ⟨_, rfl, rfl, by decide⟩ rfl rfl (by omega) (by omega) (by omega) (mmCat_4 (Nat.le_of_ble_eq_true rfl)) dL_law_390 (mQ.elim fun v5 m5 h5 => ?_)
    obtain ⟨e5, s5⟩ := h5
    have e5 : v5 = bcS (m4 47 0) := e5
    rw [c4] at e5
    refine st_iload rfl dL_law_393 ?_
    refine st_iload rfl dL_law_395 ?_
    refine sr_if_eq 404 (by omega) (by decide) dL_law_397 (fun _ => ?_) (fun h => absurd h (by omega))
    refine st_iconst dL_law_404 ?_
    refine st_iadd dL_law_405 ?_
    refine sr_icmp_eq 626 (by omega) (by omega) (by decide) dL_law_406 (fun _ => ?_) (fun h => absurd h (by omega))
    refine st_locals (lcC lw n ng im i x) ⟨Or.inr rfl, Or.inr rfl, Or.inr rfl, Or.inr rfl, Or.inr rfl, Or.inr rfl, Or.inr rfl, Or.inr rfl, Or.inl rfl, Or.inl rfl, Or.inl rfl, Or.inl rfl, Or.inl rfl, Or.inl rfl, trivial⟩ ?_
    exact kk _ _ _ _ _ _ (IX_more (IX_same s5 w4) ht.1)
  · have eb : b2i (and32 (shr32 (m 47 0) k) 1 = 1) = 0 := b2i_0 hg
    refine sr_if_ne 346 (by omega) (by decide) dL_law_339 (fun h => absurd h (by omega)) (fun _ => ?_)
    refine st_iconst dL_law_342 ?_
    refine st_goto 347 (by decide) dL_law_343 ?_
    refine st_istore (by decide) (lc' := [(3, 0), (2, 0), (0, lw), (0, n), (0, ng), (0, im), (0, i), (0, x), (0, k), (0, 1), (9, 0), (9, 0), (9, 0), (9, 0)]) rfl dL_law_347 ?_
    refine st_aload_n (i := 1) rfl (t := 0) rfl (by decide) dL_law_349 ?_
    refine st_bipush rfl dL_law_350 ?_
    refine st_callV (kc2 := kc) (ks2 := ks) (av := [(0, 6)]) 0 10 mr_L_34 ok_X11_count (ck_count 6 ⟨by decide, by decide⟩ s1) rfl sh_0 ⟨_, rfl, rfl, by decide⟩ rfl rfl (by omega) (by omega) (by omega) (mmCat_4 (Nat.le_of_ble_eq_true rfl)) dL_law_352 (mQ.elim fun v2 m2 h2 => ?_)
    obtain ⟨e2, s2⟩ := h2
    have e2 : v2 = bcS (m 47 0) := e2
    have b2 := bcS_rng (m 47 0)
    have pb := popc_bnd (m 47 0)
    have pe := bcS_eq w.marks.1 (Int.lt_of_lt_of_le w.marks.2 (p2_24 (show n ≤ 24 by omega)))
    refine st_istore (by decide) (lc' := [(3, 0), (2, 0), (0, lw), (0, n), (0, ng), (0, im), (0, i), (0, x), (0, k), (0, 1), (0, v2), (9, 0), (9, 0), (9, 0)]) rfl dL_law_355 ?_
    refine st_aload_n (i := 1) rfl (t := 0) rfl (by decide) dL_law_357 ?_
    refine st_iload rfl dL_law_358 ?_
    refine st_iload rfl dL_law_360 ?_
    refine sr_if_ne 369 (by omega) (by decide) dL_law_362 (fun _ => ?_) (fun h => absurd h (by omega))
    refine st_iconst dL_law_369 ?_
    refine st_callV (kc2 := kc) (ks2 := ks) (av := [(0, k), (0, 0)]) 0 10 mr_L_104 ok_X11_mark (am_not w k 0 hk2 (by omega) s2) rfl sh_0 ⟨_, rfl, rfl, by decide⟩ rfl rfl (by omega) (by omega) (by omega) (mmCat_4 (Nat.le_of_ble_eq_true rfl)) dL_law_370 (mQ.elim fun v3 m3 h3 => ?_)
    obtain ⟨e3, s3⟩ := h3
    have e3 : v3 = 0 := e3
    refine sr_if_ne 409 (by omega) (by decide) dL_law_373 (fun h => absurd h (by omega)) (fun _ => ?_)
    refine st_aload_n (i := 1) rfl (t := 0) rfl (by decide) dL_law_376 ?_
    refine st_iload rfl dL_law_377 ?_
    refine st_iload rfl dL_law_379 ?_
    refine st_callV (kc2 := kc) (ks2 := ks) (av := [(0, k), (0, 1)]) 0 10 mr_L_104 ok_X11_mark (am_yes w k 1 hk2 (by omega) s3) rfl sh_0 ⟨_, rfl, rfl, by decide⟩ rfl rfl (by omega) (by omega) (by omega) (mmCat_4 (Nat.le_of_ble_eq_true rfl)) dL_law_381 (mQ.elim fun v4 m4 h4 => ?_)
    obtain ⟨e4, w4, c4⟩ := h4
    rw [if_neg hg] at c4
    refine sr_if_eq 409 (by omega) (by decide) dL_law_384 (fun h => absurd h (by omega)) (fun _ => ?_)
    refine st_aload_n (i := 1) rfl (t := 0) rfl (by decide) dL_law_387 ?_
    refine st_bipush rfl dL_law_388 ?_
    refine st_callV (kc2 := kc) (ks2 := ks) (av := [(0, 6)]) 0 10 mr_L_34 ok_X11_count (ck_count 6 ⟨by decide, by decide⟩ (same_refl m4)) rfl sh_0 ⟨_, rfl, rfl, by decide⟩ rfl rfl (by omega) (by omega) (by omega) (mmCat_4 (Nat.le_of_ble_eq_true rfl)) dL_law_390 (mQ.elim fun v5 m5 h5 => ?_)
    obtain ⟨e5, s5⟩ := h5
    have e5 : v5 = bcS (m4 47 0) := e5
    rw [c4] at e5
    refine st_iload rfl dL_law_393 ?_
    refine st_iload rfl dL_law_395 ?_
    refine sr_if_eq 404 (by omega) (by decide) dL_law_397 (fun h => absurd h (by omega)) (fun _ => ?_)
    refine st_iconst dL_law_400 ?_
    refine st_goto 405 (by decide) dL_law_401 ?_
    refine st_iadd dL_law_405 ?_
    refine sr_icmp_eq 626 (by omega) (by omega) (by decide) dL_law_406 (fun _ => ?_) (fun h => absurd h (by omega))
    refine st_locals (lcC lw n ng im i x) ⟨Or.inr rfl, Or.inr rfl, Or.inr rfl, Or.inr rfl, Or.inr rfl, Or.inr rfl, Or.inr rfl, Or.inr rfl, Or.inl rfl, Or.inl rfl, Or.inl rfl, Or.inl rfl, Or.inl rfl, Or.inl rfl, trivial⟩ ?_
    exact kk _ _ _ _ _ _ (IX_more (IX_same s5 w4) ht.1)
theorem lw_a4 {d kc ks : Nat} {Q : mmQ} (w : IX sc ls lw n ng im t m) (hd : 60 ≤ d) (ht : 0 ≤ t ∧ t ≤ 1000) (hx : 0 ≤ x ∧ x < 2147483648) (kk : ∀ ls' lw' n' ng' im' m', IX sc ls' lw' n' ng' im' (t + 1) m' → mmT bL_law d kc ks Q 626 (lcC lw' n' ng' im' i x) [] mS m') : mmT bL_law d kc ks Q 411 (lcC lw n ng im i x) [] mS m := by
  have hn := w.nn
  have p3 : p2 3 = 8 := by decide +kernel
  have p4 : p2 4 = 16 := by decide +kernel
  have p5 : p2 5 = 32 := by decide +kernel
  have p6 : p2 6 = 64 := by decide +kernel
  have p8 : p2 8 = 256 := by decide +kernel
  have p10 : p2 10 = 1024 := by decide +kernel
  have d4 := div_bnd (x := x) (k := 4) hx.1
  have d5 := div_bnd (x := x) (k := 5) hx.1
  have d8 := div_bnd (x := x) (k := 8) hx.1
  have d10 := div_bnd (x := x) (k := 10) hx.1
  have hlw := w.1.2.1.1
  refine st_aload_n (i := 1) rfl (t := 0) rfl (by decide) dL_law_411 ?_
  refine st_iload rfl dL_law_412 ?_
  refine st_iconst dL_law_414 ?_
  refine sr_ishr (by omega) (by omega) dL_law_415 ?_
  refine st_iconst dL_law_416 ?_
  refine sr_irem (by omega) (by omega) dL_law_417 ?_
  refine st_iconst dL_law_418 ?_
  refine st_iload rfl dL_law_419 ?_
  refine st_bipush rfl dL_law_421 ?_
  refine sr_ishr (by omega) (by omega) dL_law_423 ?_
  refine st_iconst dL_law_424 ?_
  refine sr_irem (by omega) (by omega) dL_law_425 ?_
  refine st_callV (kc2 := kc) (ks2 := ks) (av := [(0, (x / p2 4 % 4)), (0, 0), (0, (x / p2 8 % 4))]) 0 10 mr_L_108 ok_X11_set (am_set w (x / p2 4 % 4) 0 (x / p2 8 % 4) ⟨by omega, by omega⟩ ⟨by decide, by decide⟩ ⟨by omega, by omega⟩) rfl sh_0 ⟨_, rfl, rfl, by decide⟩ rfl rfl (by omega) (by omega) (by omega) (mmCat_4 (Nat.le_of_ble_eq_true rfl)) dL_law_426 (mQ.elim fun v m1 w1 => ?_)
  refine st_pop (Nat.ne_of_beq_eq_false rfl) dL_law_429 ?_
  refine st_aload_n (i := 1) rfl (t := 0) rfl (by decide) dL_law_430 ?_
  refine st_iload rfl dL_law_431 ?_
  refine st_iconst dL_law_433 ?_
  refine sr_ishr (by omega) (by omega) dL_law_434 ?_
  refine st_iconst dL_law_435 ?_
  refine sr_irem (by omega) (by omega) dL_law_436 ?_
  refine st_iconst dL_law_437 ?_
  refine st_iload rfl dL_law_438 ?_
  refine st_bipush rfl dL_law_440 ?_
  refine sr_ishr (by omega) (by omega) dL_law_442 ?_
  refine st_bipush rfl dL_law_443 ?_
  refine sr_irem (by omega) (by omega) dL_law_445 ?_
  refine st_callV (kc2 := kc) (ks2 := ks) (av := [(0, (x / p2 4 % 4)), (0, 1), (0, (x / p2 10 % 101))]) 0 10 mr_L_108 ok_X11_set (am_set w1 (x / p2 4 % 4) 1 (x / p2 10 % 101) ⟨by omega, by omega⟩ ⟨by decide, by decide⟩ ⟨by omega, by omega⟩) rfl sh_0 ⟨_, rfl, rfl, by decide⟩ rfl rfl (by omega) (by omega) (by omega) (mmCat_4 (Nat.le_of_ble_eq_true rfl)) dL_law_446 (mQ.elim fun v2 m2 w2 => ?_)
  refine st_pop (Nat.ne_of_beq_eq_false rfl) dL_law_449 ?_
  refine st_goto 626 (by decide) dL_law_450 ?_
  refine st_locals (lcC lw n ng im i x) ⟨Or.inr rfl, Or.inr rfl, Or.inr rfl, Or.inr rfl, Or.inr rfl, Or.inr rfl, Or.inr rfl, Or.inr rfl, Or.inl rfl, Or.inl rfl, Or.inl rfl, Or.inl rfl, Or.inl rfl, Or.inl rfl, trivial⟩ ?_
  exact kk _ _ _ _ _ _ (IX_more w2 ht.1)
theorem lw_a5 {d kc ks : Nat} {Q : mmQ} (w : IX sc ls lw n ng im t m) (hd : 60 ≤ d) (ht : 0 ≤ t ∧ t ≤ 1000) (hx : 0 ≤ x ∧ x < 2147483648) (kk : ∀ ls' lw' n' ng' im' m', IX sc ls' lw' n' ng' im' (t + 1) m' → mmT bL_law d kc ks Q 626 (lcC lw' n' ng' im' i x) [] mS m') : mmT bL_law d kc ks Q 453 (lcC lw n ng im i x) [] mS m := by
  have hn := w.nn
  have p3 : p2 3 = 8 := by decide +kernel
  have p4 : p2 4 = 16 := by decide +kernel
  have p5 : p2 5 = 32 := by decide +kernel
  have p6 : p2 6 = 64 := by decide +kernel
  have p8 : p2 8 = 256 := by decide +kernel
  have p10 : p2 10 = 1024 := by decide +kernel
  have d4 := div_bnd (x := x) (k := 4) hx.1
  have d5 := div_bnd (x := x) (k := 5) hx.1
  have d8 := div_bnd (x := x) (k := 8) hx.1
  have d10 := div_bnd (x := x) (k := 10) hx.1
  have hlw := w.1.2.1.1
  refine st_aload_n (i := 1) rfl (t := 0) rfl (by decide) dL_law_453 ?_
  refine st_iload rfl dL_law_454 ?_
  refine sr_i2l (by omega) dL_law_456 ?_
  refine st_callV (kc2 := kc) (ks2 := ks) (av := [(1, x)]) 0 10 mr_L_112 ok_X11_night (am_night w ht x ⟨by omega, by omega⟩) rfl sh_0 ⟨_, rfl, rfl, by decide⟩ rfl rfl (by omega) (by omega) (by omega) (mmCat_4 (Nat.le_of_ble_eq_true rfl)) dL_law_457 (mQ.elim fun v m1 h1 => ?_)
  obtain ⟨⟨r1, r2, r3, r4, r5, r6⟩, w1⟩ := h1
  have ng0 := w.2.2.2.2.1.2.1
  have g47 : ¬ m1 47 2 = 0 := by have := w1.2.2.2.2.1.2.1.1; omega
  refine st_istore (by decide) (lc' := [(3, 0), (2, 0), (0, lw), (0, n), (0, ng), (0, im), (0, i), (0, x), (0, v), (9, 0), (9, 0), (9, 0), (9, 0), (9, 0)]) rfl dL_law_460 ?_
  refine st_iinc (y := (ng + 1)) (by decide) (i := 4) rfl rfl (lc' := [(3, 0), (2, 0), (0, lw), (0, n), (0, (ng + 1)), (0, im), (0, i), (0, x), (0, v), (9, 0), (9, 0), (9, 0), (9, 0), (9, 0)]) rfl dL_law_462 ?_
  refine st_iload rfl dL_law_465 ?_
  refine sr_if_lt 543 (by omega) (by decide) dL_law_467 (fun h => absurd h (by omega)) (fun _ => ?_)
  refine st_iload rfl dL_law_470 ?_
  refine st_iconst dL_law_472 ?_
  refine sr_icmp_gt 543 (by omega) (by omega) (by decide) dL_law_473 (fun h => absurd h (by omega)) (fun _ => ?_)
  refine st_aload_n (i := 1) rfl (t := 0) rfl (by decide) dL_law_476 ?_
  refine st_iconst dL_law_477 ?_
  refine st_callV (kc2 := kc) (ks2 := ks) (av := [(0, 0)]) 0 10 mr_L_116 ok_X11_latest (ck_latest (b := m1) (same_refl m1) 0 ⟨by decide, by decide⟩ g47) rfl sh_0 ⟨_, rfl, rfl, by decide⟩ rfl rfl (by omega) (by omega) (by omega) (mmCat_4 (Nat.le_of_ble_eq_true rfl)) dL_law_478 (mQ.elim fun v10 q10 h10 => ?_)
  obtain ⟨e10, s10⟩ := h10
  have e10 : v10 = m1 52 3 := e10
  refine st_sipush rfl dL_law_481 ?_
  refine sr_icmp_gt 543 (by omega) (by omega) (by decide) dL_law_484 (fun h => absurd h (by omega)) (fun _ => ?_)
  refine st_aload_n (i := 1) rfl (t := 0) rfl (by decide) dL_law_487 ?_
  refine st_iconst dL_law_488 ?_
  refine st_callV (kc2 := kc) (ks2 := ks) (av := [(0, 2)]) 0 10 mr_L_116 ok_X11_latest (ck_latest (b := m1) s10 2 ⟨by decide, by decide⟩ g47) rfl sh_0 ⟨_, rfl, rfl, by decide⟩ rfl rfl (by omega) (by omega) (by omega) (mmCat_4 (Nat.le_of_ble_eq_true rfl)) dL_law_489 (mQ.elim fun v11 q11 h11 => ?_)
  obtain ⟨e11, s11⟩ := h11
  have e11 : v11 = m1 52 10 := e11
  refine st_aload_n (i := 1) rfl (t := 0) rfl (by decide) dL_law_492 ?_
  refine st_iconst dL_law_493 ?_
  refine st_callV (kc2 := kc) (ks2 := ks) (av := [(0, 1)]) 0 10 mr_L_116 ok_X11_latest (ck_latest (b := m1) s11 1 ⟨by decide, by decide⟩ g47) rfl sh_0 ⟨_, rfl, rfl, by decide⟩ rfl rfl (by omega) (by omega) (by omega) (mmCat_4 (Nat.le_of_ble_eq_true rfl)) dL_law_494 (mQ.elim fun v12 q12 h12 => ?_)
  obtain ⟨e12, s12⟩ := h12
  have e12 : v12 = m1 52 9 := e12
  refine sr_icmp_gt 543 (by omega) (by omega) (by decide) dL_law_497 (fun h => absurd h (by omega)) (fun _ => ?_)
  refine st_aload_n (i := 1) rfl (t := 0) rfl (by decide) dL_law_500 ?_
  refine st_iconst dL_law_501 ?_
  refine st_callV (kc2 := kc) (ks2 := ks) (av := [(0, 4)]) 0 10 mr_L_116 ok_X11_latest (ck_latest (b := m1) s12 4 ⟨by decide, by decide⟩ g47) rfl sh_0 ⟨_, rfl, rfl, by decide⟩ rfl rfl (by omega) (by omega) (by omega) (mmCat_4 (Nat.le_of_ble_eq_true rfl)) dL_law_502 (mQ.elim fun v13 q13 h13 => ?_)
  obtain ⟨e13, s13⟩ := h13
  have e13 : v13 = m1 52 11 := e13
  refine st_aload_n (i := 1) rfl (t := 0) rfl (by decide) dL_law_505 ?_
  refine st_iconst dL_law_506 ?_
  refine st_callV (kc2 := kc) (ks2 := ks) (av := [(0, 1)]) 0 10 mr_L_116 ok_X11_latest (ck_latest (b := m1) s13 1 ⟨by decide, by decide⟩ g47) rfl sh_0 ⟨_, rfl, rfl, by decide⟩ rfl rfl (by omega) (by omega) (by omega) (mmCat_4 (Nat.le_of_ble_eq_true rfl)) dL_law_507 (mQ.elim fun v14 q14 h14 => ?_)
  obtain ⟨e14, s14⟩ := h14
  have e14 : v14 = m1 52 9 := e14
  refine st_aload_n (i := 1) rfl (t := 0) rfl (by decide) dL_law_510 ?_
  refine st_iconst dL_law_511 ?_
  refine st_callV (kc2 := kc) (ks2 := ks) (av := [(0, 2)]) 0 10 mr_L_116 ok_X11_latest (ck_latest (b := m1) s14 2 ⟨by decide, by decide⟩ g47) rfl sh_0 ⟨_, rfl, rfl, by decide⟩ rfl rfl (by omega) (by omega) (by omega) (mmCat_4 (Nat.le_of_ble_eq_true rfl)) dL_law_512 (mQ.elim fun v15 q15 h15 => ?_)
  obtain ⟨e15, s15⟩ := h15
  have e15 : v15 = m1 52 10 := e15
  refine st_isub dL_law_515 ?_
  refine sr_icmp_gt 543 (by omega) (by omega) (by decide) dL_law_516 (fun h => absurd h (by omega)) (fun _ => ?_)
  refine st_iload rfl dL_law_519 ?_
  refine sr_if_ne 626 (by omega) (by decide) dL_law_521 (fun hv => ?_) (fun hv => ?_)
  · refine st_locals (lcC lw n (ng + 1) im i x) ⟨Or.inr rfl, Or.inr rfl, Or.inr rfl, Or.inr rfl, Or.inr rfl, Or.inr rfl, Or.inr rfl, Or.inr rfl, Or.inl rfl, Or.inl rfl, Or.inl rfl, Or.inl rfl, Or.inl rfl, Or.inl rfl, trivial⟩ ?_
    exact kk _ _ _ _ _ _ (IX_same s15 w1)
  · refine st_aload_n (i := 1) rfl (t := 0) rfl (by decide) dL_law_524 ?_
    refine st_iconst dL_law_525 ?_
    refine st_callV (kc2 := kc) (ks2 := ks) (av := [(0, 4)]) 0 10 mr_L_116 ok_X11_latest (ck_latest (b := m1) s15 4 ⟨by decide, by decide⟩ g47) rfl sh_0 ⟨_, rfl, rfl, by decide⟩ rfl rfl (by omega) (by omega) (by omega) (mmCat_4 (Nat.le_of_ble_eq_true rfl)) dL_law_526 (mQ.elim fun v16 q16 h16 => ?_)
    obtain ⟨e16, s16⟩ := h16
    have e16 : v16 = m1 52 11 := e16
    refine st_aload_n (i := 1) rfl (t := 0) rfl (by decide) dL_law_529 ?_
    refine st_iconst dL_law_530 ?_
    refine st_callV (kc2 := kc) (ks2 := ks) (av := [(0, 1)]) 0 10 mr_L_116 ok_X11_latest (ck_latest (b := m1) s16 1 ⟨by decide, by decide⟩ g47) rfl sh_0 ⟨_, rfl, rfl, by decide⟩ rfl rfl (by omega) (by omega) (by omega) (mmCat_4 (Nat.le_of_ble_eq_true rfl)) dL_law_531 (mQ.elim fun v17 q17 h17 => ?_)
    obtain ⟨e17, s17⟩ := h17
    have e17 : v17 = m1 52 9 := e17
    refine st_aload_n (i := 1) rfl (t := 0) rfl (by decide) dL_law_534 ?_
    refine st_iconst dL_law_535 ?_
    refine st_callV (kc2 := kc) (ks2 := ks) (av := [(0, 2)]) 0 10 mr_L_116 ok_X11_latest (ck_latest (b := m1) s17 2 ⟨by decide, by decide⟩ g47) rfl sh_0 ⟨_, rfl, rfl, by decide⟩ rfl rfl (by omega) (by omega) (by omega) (mmCat_4 (Nat.le_of_ble_eq_true rfl)) dL_law_536 (mQ.elim fun v18 q18 h18 => ?_)
    obtain ⟨e18, s18⟩ := h18
    have e18 : v18 = m1 52 10 := e18
    refine st_isub dL_law_539 ?_
    have r5 := r5 hv
    refine sr_icmp_eq 626 (by omega) (by omega) (by decide) dL_law_540 (fun _ => ?_) (fun h => absurd h (by omega))
    refine st_locals (lcC lw n (ng + 1) im i x) ⟨Or.inr rfl, Or.inr rfl, Or.inr rfl, Or.inr rfl, Or.inr rfl, Or.inr rfl, Or.inr rfl, Or.inr rfl, Or.inl rfl, Or.inl rfl, Or.inl rfl, Or.inl rfl, Or.inl rfl, Or.inl rfl, trivial⟩ ?_
    exact kk _ _ _ _ _ _ (IX_same s18 w1)
theorem lw_a7 {d kc ks : Nat} {Q : mmQ} (w : IX sc ls lw n ng im t m) (hd : 60 ≤ d) (ht : 0 ≤ t ∧ t ≤ 1000) (hx : 0 ≤ x ∧ x < 2147483648) (kk : ∀ ls' lw' n' ng' im' m', IX sc ls' lw' n' ng' im' (t + 1) m' → mmT bL_law d kc ks Q 626 (lcC lw' n' ng' im' i x) [] mS m') : mmT bL_law d kc ks Q 545 (lcC lw n ng im i x) [] mS m := by
  have hn := w.nn
  have p3 : p2 3 = 8 := by decide +kernel
  have p4 : p2 4 = 16 := by decide +kernel
  have p5 : p2 5 = 32 := by decide +kernel
  have p6 : p2 6 = 64 := by decide +kernel
  have p8 : p2 8 = 256 := by decide +kernel
  have p10 : p2 10 = 1024 := by decide +kernel
  have d4 := div_bnd (x := x) (k := 4) hx.1
  have d5 := div_bnd (x := x) (k := 5) hx.1
  have d8 := div_bnd (x := x) (k := 8) hx.1
  have d10 := div_bnd (x := x) (k := 10) hx.1
  have hlw := w.1.2.1.1
  refine st_iload rfl dL_law_545 ?_
  refine st_bipush rfl dL_law_547 ?_
  refine st_iand dL_law_549 ?_
  have a16 := and32_rng x 16
  refine sr_if_ne 596 (by omega) (by decide) dL_law_550 (fun hv => ?_) (fun hv => ?_)
  · refine st_aload_n (i := 1) rfl (t := 0) rfl (by decide) dL_law_596 ?_
    refine st_callV (kc2 := kc) (ks2 := ks) (av := []) 0 10 mr_L_122 ok_X11_image (am_image w) rfl sh_0 ⟨_, rfl, rfl, by decide⟩ rfl rfl (by omega) (by omega) (by omega) (mmCat_4 (Nat.le_of_ble_eq_true rfl)) dL_law_597 (mQ.elim fun v m1 h1 => ?_)
    obtain ⟨e1, w1⟩ := h1
    have b1 := bcS_rng (m1 47 0)
    refine st_istore (by decide) (lc' := [(3, 0), (2, 0), (0, lw), (0, n), (0, ng), (0, v), (0, i), (0, x), (9, 0), (9, 0), (9, 0), (9, 0), (9, 0), (9, 0)]) rfl dL_law_600 ?_
    refine st_iload rfl dL_law_602 ?_
    refine st_aload_n (i := 1) rfl (t := 0) rfl (by decide) dL_law_604 ?_
    refine st_bipush rfl dL_law_605 ?_
    refine st_callV (kc2 := kc) (ks2 := ks) (av := [(0, 6)]) 0 10 mr_L_34 ok_X11_count (ck_count 6 ⟨by decide, by decide⟩ (same_refl m1)) rfl sh_0 ⟨_, rfl, rfl, by decide⟩ rfl rfl (by omega) (by omega) (by omega) (mmCat_4 (Nat.le_of_ble_eq_true rfl)) dL_law_607 (mQ.elim fun v2 m2 h2 => ?_)
    obtain ⟨e2, s2⟩ := h2
    have e2 : v2 = bcS (m1 47 0) := e2
    refine sr_icmp_eq 626 (by omega) (by omega) (by decide) dL_law_610 (fun _ => ?_) (fun h => absurd h (by omega))
    refine st_locals (lcC lw n ng v i x) ⟨Or.inr rfl, Or.inr rfl, Or.inr rfl, Or.inr rfl, Or.inr rfl, Or.inr rfl, Or.inr rfl, Or.inr rfl, Or.inl rfl, Or.inl rfl, Or.inl rfl, Or.inl rfl, Or.inl rfl, Or.inl rfl, trivial⟩ ?_
    exact kk _ _ _ _ _ _ (IX_more (IX_same s2 w1) ht.1)
  · refine st_iload rfl dL_law_553 ?_
    refine st_iconst dL_law_555 ?_
    refine sr_ishr (by omega) (by omega) dL_law_556 ?_
    refine st_bipush rfl dL_law_557 ?_
    refine sr_irem (by omega) (by omega) dL_law_559 ?_
    refine st_istore (by decide) (lc' := [(3, 0), (2, 0), (0, lw), (0, n), (0, ng), (0, im), (0, i), (0, x), (0, ((x / p2 5) % 25)), (9, 0), (9, 0), (9, 0), (9, 0), (9, 0)]) rfl dL_law_560 ?_
    refine st_aload_n (i := 1) rfl (t := 0) rfl (by decide) dL_law_562 ?_
    refine st_iload rfl dL_law_563 ?_
    refine st_callV (kc2 := kc) (ks2 := ks) (av := [(0, (x / p2 5 % 25))]) 0 10 mr_L_119 ok_X11_learn (am_learn w ht.2 (x / p2 5 % 25) (by omega)) rfl sh_0 ⟨_, rfl, rfl, by decide⟩ rfl rfl (by omega) (by omega) (by omega) (mmCat_4 (Nat.le_of_ble_eq_true rfl)) dL_law_565 (mQ.elim fun v m1 h1 => ?_)
    obtain ⟨e0, e1, w1⟩ := h1
    refine st_istore (by decide) (lc' := [(3, 0), (2, 0), (0, lw), (0, n), (0, ng), (0, im), (0, i), (0, x), (0, ((x / p2 5) % 25)), (0, v), (9, 0), (9, 0), (9, 0), (9, 0)]) rfl dL_law_568 ?_
    refine st_iload rfl dL_law_570 ?_
    refine st_iload rfl dL_law_572 ?_
    refine sr_icmp_gt 594 (by omega) (by omega) (by decide) dL_law_574 (fun h => absurd h (by omega)) (fun _ => ?_)
    refine st_iload rfl dL_law_577 ?_
    refine st_iload_n (i := 3) rfl rfl dL_law_579 ?_
    refine sr_icmp_gt 594 (by omega) (by omega) (by decide) dL_law_580 (fun h => absurd h (by omega)) (fun _ => ?_)
    refine st_iload rfl dL_law_583 ?_
    refine st_aload_n (i := 1) rfl (t := 0) rfl (by decide) dL_law_585 ?_
    refine st_bipush rfl dL_law_586 ?_
    refine st_callV (kc2 := kc) (ks2 := ks) (av := [(0, 6)]) 0 10 mr_L_34 ok_X11_count (ck_count 6 ⟨by decide, by decide⟩ (same_refl m1)) rfl sh_0 ⟨_, rfl, rfl, by decide⟩ rfl rfl (by omega) (by omega) (by omega) (mmCat_4 (Nat.le_of_ble_eq_true rfl)) dL_law_588 (mQ.elim fun v2 m2 h2 => ?_)
    obtain ⟨e2, s2⟩ := h2
    have e2 : v2 = bcS (m1 47 0) := e2
    refine sr_icmp_eq 626 (by omega) (by omega) (by decide) dL_law_591 (fun _ => ?_) (fun h => absurd h (by omega))
    refine st_locals (lcC lw n ng im i x) ⟨Or.inr rfl, Or.inr rfl, Or.inr rfl, Or.inr rfl, Or.inr rfl, Or.inr rfl, Or.inr rfl, Or.inr rfl, Or.inl rfl, Or.inl rfl, Or.inl rfl, Or.inl rfl, Or.inl rfl, Or.inl rfl, trivial⟩ ?_
    exact kk _ _ _ _ _ _ (IX_more (IX_same s2 w1) ht.1)
theorem lw_a8 {d kc ks : Nat} {Q : mmQ} (w : IX sc ls lw n ng im t m) (hd : 60 ≤ d) (ht : 0 ≤ t ∧ t ≤ 1000) (hx : 0 ≤ x ∧ x < 2147483648) (kk : ∀ ls' lw' n' ng' im' m', IX sc ls' lw' n' ng' im' (t + 1) m' → mmT bL_law d kc ks Q 626 (lcC lw' n' ng' im' i x) [] mS m') : mmT bL_law d kc ks Q 615 (lcC lw n ng im i x) [] mS m := by
  have hn := w.nn
  have p3 : p2 3 = 8 := by decide +kernel
  have p4 : p2 4 = 16 := by decide +kernel
  have p5 : p2 5 = 32 := by decide +kernel
  have p6 : p2 6 = 64 := by decide +kernel
  have p8 : p2 8 = 256 := by decide +kernel
  have p10 : p2 10 = 1024 := by decide +kernel
  have d4 := div_bnd (x := x) (k := 4) hx.1
  have d5 := div_bnd (x := x) (k := 5) hx.1
  have d8 := div_bnd (x := x) (k := 8) hx.1
  have d10 := div_bnd (x := x) (k := 10) hx.1
  have hlw := w.1.2.1.1
  refine st_aload_n (i := 1) rfl (t := 0) rfl (by decide) dL_law_615 ?_
  refine st_callV (kc2 := kc) (ks2 := ks) (av := []) 0 10 mr_L_125 ok_X11_back (am_back w) rfl sh_0 ⟨_, rfl, rfl, by decide⟩ rfl rfl (by omega) (by omega) (by omega) (mmCat_4 (Nat.le_of_ble_eq_true rfl)) dL_law_616 (mQ.elim fun v m1 h1 => ?_)
  obtain ⟨e1, w1⟩ := h1
  have b1 := w.imR
  refine st_iload rfl dL_law_619 ?_
  refine sr_icmp_eq 626 (by omega) (by omega) (by decide) dL_law_621 (fun _ => ?_) (fun h => absurd h (by omega))
  refine st_locals (lcC lw n ng im i x) ⟨Or.inr rfl, Or.inr rfl, Or.inr rfl, Or.inr rfl, Or.inr rfl, Or.inr rfl, Or.inr rfl, Or.inr rfl, Or.inl rfl, Or.inl rfl, Or.inl rfl, Or.inl rfl, Or.inl rfl, Or.inl rfl, trivial⟩ ?_
  exact kk _ _ _ _ _ _ (IX_more w1 ht.1)
end
