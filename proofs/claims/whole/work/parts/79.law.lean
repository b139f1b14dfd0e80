/-! the law's cases -/
def lcL (i : Int) : List mmV := [(3, 0), (2, 0), (2, 65), (2, 99), (0, i), (9, 0), (9, 0)]
section
variable {d kc ks : Nat} {Q : mmQ} {st : List mmV} {mem : mmM} {sc : Int → Int} {i : Int} {ls : Nat → lawT} {t : Int}
theorem rd_arg (p : Nat) (j : Int) (hs : mem 999 = sc) (h0 : 0 ≤ i + j) (h1 : i + j < sc (-1)) (hN : sc (-1) ≤ 3072) (d0 : decode bL_law.2.1 p = .ok (.aload_n 0, 1)) (d1 : decode bL_law.2.1 (p + 1) = .ok (.iload 4, 2)) (d2 : decode bL_law.2.1 (p + 3) = .ok (.iconst j, 1)) (d3 : decode bL_law.2.1 (p + 4) = .ok (.iadd, 1)) (d4 : decode bL_law.2.1 (p + 5) = .ok (.iaload, 1)) (k : mmT bL_law d kc ks Q (p + 6) (lcL i) ((0, sc (i + j)) :: st) mS mem) : mmT bL_law d kc ks Q p (lcL i) st mS mem := by
  refine st_aload_n (i := 0) rfl (t := 1) rfl (by decide) d0 ?_
  refine st_iload (i := 4) rfl d1 ?_
  refine st_iconst d2 ?_
  refine st_iadd d3 ?_
  refine st_sload h0 (by rw [hs]; exact h1) (by omega) d4 ?_
  rw [hs]
  exact k
theorem cmp_ok {p : Nat} {off v1 v2 : Int} {lc : List mmV} (e : v1 = v2) (ht : (p : Int) + off = ((1413 : Nat) : Int)) (hd : decode bL_law.2.1 p = .ok (.if_icmp .eq off, 3)) (k : mmT bL_law d kc ks Q 1413 lc st mS mem) : mmT bL_law d kc ks Q p lc ((0, v2) :: (0, v1) :: st) mS mem := by
  subst e
  exact st_icmp_eq 1413 ht hd (fun _ => k) (fun h => absurd rfl h)
theorem lcmp_ok {p : Nat} {off v1 v2 : Int} {lc : List mmV} (e : v1 = v2) (ht : ((p + 1 : Nat) : Int) + off = ((1413 : Nat) : Int)) (hd : decode bL_law.2.1 p = .ok (.lcmp, 1)) (hd2 : decode bL_law.2.1 (p + 1) = .ok (.ifCond .eq off, 3)) (k : mmT bL_law d kc ks Q 1413 lc st mS mem) : mmT bL_law d kc ks Q p lc ((1, v2) :: (1, v1) :: st) mS mem := by
  subst e
  have c : cmp64 v1 v1 = 0 := by
    unfold cmp64
    rw [if_neg (by omega), if_pos rfl]
  refine st_lcmp hd ?_
  rw [c]
  exact st_if_eq 1413 ht hd2 (fun _ => k) (fun h => absurd mm_w0 h)
theorem lw_feed (w : Inv sc ls t mem) (hr : ∀ k, R32 (sc k)) (h0 : 0 ≤ i) (hL : i + 6 ≤ sc (-1)) (hN : sc (-1) ≤ 3072) (ht : 0 ≤ t ∧ t ≤ 1000) (hd : 60 ≤ d) (k : ∀ m2 ls', Inv sc ls' (t + 1) m2 → mmT bL_law d kc ks Q 1413 (lcL i) [] mS m2) : mmT bL_law d kc ks Q 204 (lcL i) [] mS mem := by
  refine st_aload_n (i := 1) rfl (t := 0) rfl (by decide) dL_law_204 ?_
  refine rd_arg 205 1 w.scr (by omega) (by omega) hN dL_law_205 dL_law_206 dL_law_208 dL_law_209 dL_law_210 ?_
  refine rd_arg 211 2 w.scr (by omega) (by omega) hN dL_law_211 dL_law_212 dL_law_214 dL_law_215 dL_law_216 ?_
  refine rd_arg 217 3 w.scr (by omega) (by omega) hN dL_law_217 dL_law_218 dL_law_220 dL_law_221 dL_law_222 ?_
  refine rd_arg 223 4 w.scr (by omega) (by omega) hN dL_law_223 dL_law_224 dL_law_226 dL_law_227 dL_law_228 ?_
  refine rd_arg 229 5 w.scr (by omega) (by omega) hN dL_law_229 dL_law_230 dL_law_232 dL_law_233 dL_law_234 ?_
  refine st_callV (kc2 := kc) (ks2 := ks) (av := [(0, sc (i + 1)), (0, sc (i + 2)), (0, sc (i + 3)), (0, sc (i + 4)), (0, sc (i + 5))]) 0 10 mr_L_19 ok_X11_feed (st_feed w (sc (i + 1)) (sc (i + 2)) (sc (i + 3)) (sc (i + 4)) (sc (i + 5))) rfl sh_0 ⟨_, rfl, rfl, by decide⟩ rfl rfl (by omega) (Nat.le_of_eq (Nat.zero_add kc)) (Nat.le_of_eq (Nat.zero_add ks)) (Nat.le_of_ble_eq_true rfl) dL_law_235 (mQ.elim fun v1 m1 h1 => ?_)
  obtain ⟨g1, h1⟩ := h1
  refine st_aload_n (i := 2) rfl (t := 0) rfl (by decide) dL_law_238 ?_
  refine rd_arg 239 1 (g1.trans w.scr) (by omega) (by omega) hN dL_law_239 dL_law_240 dL_law_242 dL_law_243 dL_law_244 ?_
  refine rd_arg 245 2 (g1.trans w.scr) (by omega) (by omega) hN dL_law_245 dL_law_246 dL_law_248 dL_law_249 dL_law_250 ?_
  refine rd_arg 251 3 (g1.trans w.scr) (by omega) (by omega) hN dL_law_251 dL_law_252 dL_law_254 dL_law_255 dL_law_256 ?_
  refine rd_arg 257 4 (g1.trans w.scr) (by omega) (by omega) hN dL_law_257 dL_law_258 dL_law_260 dL_law_261 dL_law_262 ?_
  refine rd_arg 263 5 (g1.trans w.scr) (by omega) (by omega) hN dL_law_263 dL_law_264 dL_law_266 dL_law_267 dL_law_268 ?_
  refine st_callV (kc2 := kc) (ks2 := ks) (av := [(0, sc (i + 1)), (0, sc (i + 2)), (0, sc (i + 3)), (0, sc (i + 4)), (0, sc (i + 5))]) 65 11 mr_L_23 ok_X12_feed h1 rfl sh_65 ⟨_, rfl, rfl, by decide⟩ rfl rfl (by omega) (Nat.le_of_eq (Nat.zero_add kc)) (Nat.le_of_eq (Nat.zero_add ks)) (Nat.le_of_ble_eq_true rfl) dL_law_269 (mQ.elim fun v2 m2 h2 => ?_)
  obtain ⟨e, h2⟩ := h2
  exact cmp_ok e (by decide) dL_law_272 (k m2 ls (Inv_more h2 ht.1))
theorem lw_end (w : Inv sc ls t mem) (hr : ∀ k, R32 (sc k)) (h0 : 0 ≤ i) (hL : i + 6 ≤ sc (-1)) (hN : sc (-1) ≤ 3072) (ht : 0 ≤ t ∧ t ≤ 1000) (hd : 60 ≤ d) (k : ∀ m2 ls', Inv sc ls' (t + 1) m2 → mmT bL_law d kc ks Q 1413 (lcL i) [] mS m2) : mmT bL_law d kc ks Q 277 (lcL i) [] mS mem := by
  refine st_aload_n (i := 1) rfl (t := 0) rfl (by decide) dL_law_277 ?_
  refine rd_arg 278 1 w.scr (by omega) (by omega) hN dL_law_278 dL_law_279 dL_law_281 dL_law_282 dL_law_283 ?_
  refine st_callV (kc2 := kc) (ks2 := ks) (av := [(0, sc (i + 1))]) 0 10 mr_L_24 ok_X11_end (st_end w (sc (i + 1)) (hr _)) rfl sh_0 ⟨_, rfl, rfl, by decide⟩ rfl rfl (by omega) (Nat.le_of_eq (Nat.zero_add kc)) (Nat.le_of_eq (Nat.zero_add ks)) (Nat.le_of_ble_eq_true rfl) dL_law_284 (mQ.elim fun v1 m1 h1 => ?_)
  obtain ⟨g1, h1⟩ := h1
  refine st_aload_n (i := 2) rfl (t := 0) rfl (by decide) dL_law_287 ?_
  refine rd_arg 288 1 (g1.trans w.scr) (by omega) (by omega) hN dL_law_288 dL_law_289 dL_law_291 dL_law_292 dL_law_293 ?_
  refine st_callV (kc2 := kc) (ks2 := ks) (av := [(0, sc (i + 1))]) 65 11 mr_L_28 ok_X12_end h1 rfl sh_65 ⟨_, rfl, rfl, by decide⟩ rfl rfl (by omega) (Nat.le_of_eq (Nat.zero_add kc)) (Nat.le_of_eq (Nat.zero_add ks)) (Nat.le_of_ble_eq_true rfl) dL_law_294 (mQ.elim fun v2 m2 h2 => ?_)
  obtain ⟨e, h2⟩ := h2
  exact cmp_ok e (by decide) dL_law_297 (k m2 ls (Inv_more h2 ht.1))
theorem lw_fault (w : Inv sc ls t mem) (hr : ∀ k, R32 (sc k)) (h0 : 0 ≤ i) (hL : i + 6 ≤ sc (-1)) (hN : sc (-1) ≤ 3072) (ht : 0 ≤ t ∧ t ≤ 1000) (hd : 60 ≤ d) (k : ∀ m2 ls', Inv sc ls' (t + 1) m2 → mmT bL_law d kc ks Q 1413 (lcL i) [] mS m2) : mmT bL_law d kc ks Q 302 (lcL i) [] mS mem := by
  refine st_aload_n (i := 1) rfl (t := 0) rfl (by decide) dL_law_302 ?_
  refine rd_arg 303 1 w.scr (by omega) (by omega) hN dL_law_303 dL_law_304 dL_law_306 dL_law_307 dL_law_308 ?_
  refine st_callV (kc2 := kc) (ks2 := ks) (av := [(0, sc (i + 1))]) 0 10 mr_L_29 ok_X11_fault (st_fault w (sc (i + 1)) (hr _)) rfl sh_0 ⟨_, rfl, rfl, by decide⟩ rfl rfl (by omega) (Nat.le_of_eq (Nat.zero_add kc)) (Nat.le_of_eq (Nat.zero_add ks)) (Nat.le_of_ble_eq_true rfl) dL_law_309 (mQ.elim fun v1 m1 h1 => ?_)
  obtain ⟨g1, h1⟩ := h1
  refine st_aload_n (i := 2) rfl (t := 0) rfl (by decide) dL_law_312 ?_
  refine rd_arg 313 1 (g1.trans w.scr) (by omega) (by omega) hN dL_law_313 dL_law_314 dL_law_316 dL_law_317 dL_law_318 ?_
  refine st_callV (kc2 := kc) (ks2 := ks) (av := [(0, sc (i + 1))]) 65 11 mr_L_33 ok_X12_fault h1 rfl sh_65 ⟨_, rfl, rfl, by decide⟩ rfl rfl (by omega) (Nat.le_of_eq (Nat.zero_add kc)) (Nat.le_of_eq (Nat.zero_add ks)) (Nat.le_of_ble_eq_true rfl) dL_law_319 (mQ.elim fun v2 m2 h2 => ?_)
  obtain ⟨e, h2⟩ := h2
  exact cmp_ok e (by decide) dL_law_322 (k m2 ls (Inv_more h2 ht.1))
theorem lw_text (w : Inv sc ls t mem) (hr : ∀ k, R32 (sc k)) (h0 : 0 ≤ i) (hL : i + 6 ≤ sc (-1)) (hN : sc (-1) ≤ 3072) (ht : 0 ≤ t ∧ t ≤ 1000) (hd : 60 ≤ d) (k : ∀ m2 ls', Inv sc ls' (t + 1) m2 → mmT bL_law d kc ks Q 1413 (lcL i) [] mS m2) : mmT bL_law d kc ks Q 327 (lcL i) [] mS mem := by
  refine st_aload_n (i := 1) rfl (t := 0) rfl (by decide) dL_law_327 ?_
  refine rd_arg 328 1 w.scr (by omega) (by omega) hN dL_law_328 dL_law_329 dL_law_331 dL_law_332 dL_law_333 ?_
  refine st_callV (kc2 := kc) (ks2 := ks) (av := [(0, sc (i + 1))]) 0 10 mr_L_34 ok_X11_text (st_text w ht.1 (sc (i + 1)) (hr _)) rfl sh_0 ⟨_, rfl, rfl, by decide⟩ rfl rfl (by omega) (Nat.le_of_eq (Nat.zero_add kc)) (Nat.le_of_eq (Nat.zero_add ks)) (Nat.le_of_ble_eq_true rfl) dL_law_334 (mQ.elim fun v1 m1 h1 => ?_)
  obtain ⟨g1, h1⟩ := h1
  refine st_aload_n (i := 2) rfl (t := 0) rfl (by decide) dL_law_337 ?_
  refine rd_arg 338 1 (g1.trans w.scr) (by omega) (by omega) hN dL_law_338 dL_law_339 dL_law_341 dL_law_342 dL_law_343 ?_
  refine st_callV (kc2 := kc) (ks2 := ks) (av := [(0, sc (i + 1))]) 65 11 mr_L_37 ok_X12_text h1 rfl sh_65 ⟨_, rfl, rfl, by decide⟩ rfl rfl (by omega) (Nat.le_of_eq (Nat.zero_add kc)) (Nat.le_of_eq (Nat.zero_add ks)) (Nat.le_of_ble_eq_true rfl) dL_law_344 (mQ.elim fun v2 m2 h2 => ?_)
  obtain ⟨e, h2⟩ := h2
  obtain ⟨ls', h2⟩ := h2
  exact cmp_ok e (by decide) dL_law_347 (k m2 ls' (Inv_more h2 ht.1))
theorem lw_law (w : Inv sc ls t mem) (hr : ∀ k, R32 (sc k)) (h0 : 0 ≤ i) (hL : i + 6 ≤ sc (-1)) (hN : sc (-1) ≤ 3072) (ht : 0 ≤ t ∧ t ≤ 1000) (hd : 60 ≤ d) (k : ∀ m2 ls', Inv sc ls' (t + 1) m2 → mmT bL_law d kc ks Q 1413 (lcL i) [] mS m2) : mmT bL_law d kc ks Q 420 (lcL i) [] mS mem := by
  refine st_aload_n (i := 1) rfl (t := 0) rfl (by decide) dL_law_420 ?_
  refine rd_arg 421 1 w.scr (by omega) (by omega) hN dL_law_421 dL_law_422 dL_law_424 dL_law_425 dL_law_426 ?_
  refine st_callV (kc2 := kc) (ks2 := ks) (av := [(0, sc (i + 1))]) 0 10 mr_L_48 ok_X11_law (st_law w (sc (i + 1)) (hr _)) rfl sh_0 ⟨_, rfl, rfl, by decide⟩ rfl rfl (by omega) (Nat.le_of_eq (Nat.zero_add kc)) (Nat.le_of_eq (Nat.zero_add ks)) (Nat.le_of_ble_eq_true rfl) dL_law_427 (mQ.elim fun v1 m1 h1 => ?_)
  obtain ⟨g1, h1⟩ := h1
  refine st_aload_n (i := 2) rfl (t := 0) rfl (by decide) dL_law_430 ?_
  refine rd_arg 431 1 (g1.trans w.scr) (by omega) (by omega) hN dL_law_431 dL_law_432 dL_law_434 dL_law_435 dL_law_436 ?_
  refine st_callV (kc2 := kc) (ks2 := ks) (av := [(0, sc (i + 1))]) 65 11 mr_L_51 ok_X12_law h1 rfl sh_65 ⟨_, rfl, rfl, by decide⟩ rfl rfl (by omega) (Nat.le_of_eq (Nat.zero_add kc)) (Nat.le_of_eq (Nat.zero_add ks)) (Nat.le_of_ble_eq_true rfl) dL_law_437 (mQ.elim fun v2 m2 h2 => ?_)
  obtain ⟨e, h2⟩ := h2
  exact cmp_ok e (by decide) dL_law_440 (k m2 ls (Inv_more h2 ht.1))
theorem lw_set (w : Inv sc ls t mem) (hr : ∀ k, R32 (sc k)) (h0 : 0 ≤ i) (hL : i + 6 ≤ sc (-1)) (hN : sc (-1) ≤ 3072) (ht : 0 ≤ t ∧ t ≤ 1000) (hd : 60 ≤ d) (k : ∀ m2 ls', Inv sc ls' (t + 1) m2 → mmT bL_law d kc ks Q 1413 (lcL i) [] mS m2) : mmT bL_law d kc ks Q 445 (lcL i) [] mS mem := by
  refine st_aload_n (i := 1) rfl (t := 0) rfl (by decide) dL_law_445 ?_
  refine rd_arg 446 1 w.scr (by omega) (by omega) hN dL_law_446 dL_law_447 dL_law_449 dL_law_450 dL_law_451 ?_
  refine rd_arg 452 2 w.scr (by omega) (by omega) hN dL_law_452 dL_law_453 dL_law_455 dL_law_456 dL_law_457 ?_
  refine rd_arg 458 3 w.scr (by omega) (by omega) hN dL_law_458 dL_law_459 dL_law_461 dL_law_462 dL_law_463 ?_
  refine st_callV (kc2 := kc) (ks2 := ks) (av := [(0, sc (i + 1)), (0, sc (i + 2)), (0, sc (i + 3))]) 0 10 mr_L_52 ok_X11_set (st_set w (sc (i + 1)) (sc (i + 2)) (sc (i + 3)) (hr _) (hr _) (hr _)) rfl sh_0 ⟨_, rfl, rfl, by decide⟩ rfl rfl (by omega) (Nat.le_of_eq (Nat.zero_add kc)) (Nat.le_of_eq (Nat.zero_add ks)) (Nat.le_of_ble_eq_true rfl) dL_law_464 (mQ.elim fun v1 m1 h1 => ?_)
  obtain ⟨g1, h1⟩ := h1
  refine st_aload_n (i := 2) rfl (t := 0) rfl (by decide) dL_law_467 ?_
  refine rd_arg 468 1 (g1.trans w.scr) (by omega) (by omega) hN dL_law_468 dL_law_469 dL_law_471 dL_law_472 dL_law_473 ?_
  refine rd_arg 474 2 (g1.trans w.scr) (by omega) (by omega) hN dL_law_474 dL_law_475 dL_law_477 dL_law_478 dL_law_479 ?_
  refine rd_arg 480 3 (g1.trans w.scr) (by omega) (by omega) hN dL_law_480 dL_law_481 dL_law_483 dL_law_484 dL_law_485 ?_
  refine st_callV (kc2 := kc) (ks2 := ks) (av := [(0, sc (i + 1)), (0, sc (i + 2)), (0, sc (i + 3))]) 65 11 mr_L_56 ok_X12_set h1 rfl sh_65 ⟨_, rfl, rfl, by decide⟩ rfl rfl (by omega) (Nat.le_of_eq (Nat.zero_add kc)) (Nat.le_of_eq (Nat.zero_add ks)) (Nat.le_of_ble_eq_true rfl) dL_law_486 (mQ.elim fun v2 m2 h2 => ?_)
  obtain ⟨e, h2⟩ := h2
  exact cmp_ok e (by decide) dL_law_489 (k m2 ls (Inv_more h2 ht.1))
theorem lw_mark (w : Inv sc ls t mem) (hr : ∀ k, R32 (sc k)) (h0 : 0 ≤ i) (hL : i + 6 ≤ sc (-1)) (hN : sc (-1) ≤ 3072) (ht : 0 ≤ t ∧ t ≤ 1000) (hd : 60 ≤ d) (k : ∀ m2 ls', Inv sc ls' (t + 1) m2 → mmT bL_law d kc ks Q 1413 (lcL i) [] mS m2) : mmT bL_law d kc ks Q 494 (lcL i) [] mS mem := by
  by_cases hz : sc (i + 2) = 0
  · refine st_aload_n (i := 1) rfl (t := 0) rfl (by decide) dL_law_494 ?_
    refine rd_arg 495 1 w.scr (by omega) (by omega) hN dL_law_495 dL_law_496 dL_law_498 dL_law_499 dL_law_500 ?_
    refine rd_arg 501 2 w.scr (by omega) (by omega) hN dL_law_501 dL_law_502 dL_law_504 dL_law_505 dL_law_506 ?_
    refine sr_if_eq 514 (hr _) (by decide) dL_law_507 (fun _ => ?_) (fun z => absurd hz z)
    refine st_iconst dL_law_514 ?_
    refine st_callV (kc2 := kc) (ks2 := ks) (av := [(0, sc (i + 1)), (0, 0)]) 0 10 mr_L_57 ok_X11_mark (st_mark w (sc (i + 1)) (0) (hr _) ⟨by decide, by decide⟩) rfl sh_0 ⟨_, rfl, rfl, by decide⟩ rfl rfl (by omega) (Nat.le_of_eq (Nat.zero_add kc)) (Nat.le_of_eq (Nat.zero_add ks)) (Nat.le_of_ble_eq_true rfl) dL_law_515 (mQ.elim fun v1 m1 h1 => ?_)
    obtain ⟨g1, h1⟩ := h1
    refine st_aload_n (i := 2) rfl (t := 0) rfl (by decide) dL_law_518 ?_
    refine rd_arg 519 1 (g1.trans w.scr) (by omega) (by omega) hN dL_law_519 dL_law_520 dL_law_522 dL_law_523 dL_law_524 ?_
    refine rd_arg 525 2 (g1.trans w.scr) (by omega) (by omega) hN dL_law_525 dL_law_526 dL_law_528 dL_law_529 dL_law_530 ?_
    refine sr_if_eq 538 (hr _) (by decide) dL_law_531 (fun _ => ?_) (fun z => absurd hz z)
    refine st_iconst dL_law_538 ?_
    refine st_callV (kc2 := kc) (ks2 := ks) (av := [(0, sc (i + 1)), (0, 0)]) 65 11 mr_L_61 ok_X12_mark h1 rfl sh_65 ⟨_, rfl, rfl, by decide⟩ rfl rfl (by omega) (Nat.le_of_eq (Nat.zero_add kc)) (Nat.le_of_eq (Nat.zero_add ks)) (Nat.le_of_ble_eq_true rfl) dL_law_539 (mQ.elim fun v2 m2 h2 => ?_)
    obtain ⟨e, h2⟩ := h2
    exact cmp_ok e (by decide) dL_law_542 (k m2 ls (Inv_more h2 ht.1))
  · refine st_aload_n (i := 1) rfl (t := 0) rfl (by decide) dL_law_494 ?_
    refine rd_arg 495 1 w.scr (by omega) (by omega) hN dL_law_495 dL_law_496 dL_law_498 dL_law_499 dL_law_500 ?_
    refine rd_arg 501 2 w.scr (by omega) (by omega) hN dL_law_501 dL_law_502 dL_law_504 dL_law_505 dL_law_506 ?_
    refine sr_if_eq 514 (hr _) (by decide) dL_law_507 (fun z => absurd z hz) (fun _ => ?_)
    refine st_iconst dL_law_510 ?_
    refine st_goto 515 (by decide) dL_law_511 ?_
    refine st_callV (kc2 := kc) (ks2 := ks) (av := [(0, sc (i + 1)), (0, 1)]) 0 10 mr_L_57 ok_X11_mark (st_mark w (sc (i + 1)) (1) (hr _) ⟨by decide, by decide⟩) rfl sh_0 ⟨_, rfl, rfl, by decide⟩ rfl rfl (by omega) (Nat.le_of_eq (Nat.zero_add kc)) (Nat.le_of_eq (Nat.zero_add ks)) (Nat.le_of_ble_eq_true rfl) dL_law_515 (mQ.elim fun v1 m1 h1 => ?_)
    obtain ⟨g1, h1⟩ := h1
    refine st_aload_n (i := 2) rfl (t := 0) rfl (by decide) dL_law_518 ?_
    refine rd_arg 519 1 (g1.trans w.scr) (by omega) (by omega) hN dL_law_519 dL_law_520 dL_law_522 dL_law_523 dL_law_524 ?_
    refine rd_arg 525 2 (g1.trans w.scr) (by omega) (by omega) hN dL_law_525 dL_law_526 dL_law_528 dL_law_529 dL_law_530 ?_
    refine sr_if_eq 538 (hr _) (by decide) dL_law_531 (fun z => absurd z hz) (fun _ => ?_)
    refine st_iconst dL_law_534 ?_
    refine st_goto 539 (by decide) dL_law_535 ?_
    refine st_callV (kc2 := kc) (ks2 := ks) (av := [(0, sc (i + 1)), (0, 1)]) 65 11 mr_L_61 ok_X12_mark h1 rfl sh_65 ⟨_, rfl, rfl, by decide⟩ rfl rfl (by omega) (Nat.le_of_eq (Nat.zero_add kc)) (Nat.le_of_eq (Nat.zero_add ks)) (Nat.le_of_ble_eq_true rfl) dL_law_539 (mQ.elim fun v2 m2 h2 => ?_)
    obtain ⟨e, h2⟩ := h2
    exact cmp_ok e (by decide) dL_law_542 (k m2 ls (Inv_more h2 ht.1))
theorem lw_leap (w : Inv sc ls t mem) (hr : ∀ k, R32 (sc k)) (h0 : 0 ≤ i) (hL : i + 6 ≤ sc (-1)) (hN : sc (-1) ≤ 3072) (ht : 0 ≤ t ∧ t ≤ 1000) (hd : 60 ≤ d) (k : ∀ m2 ls', Inv sc ls' (t + 1) m2 → mmT bL_law d kc ks Q 1413 (lcL i) [] mS m2) : mmT bL_law d kc ks Q 547 (lcL i) [] mS mem := by
  refine st_aload_n (i := 1) rfl (t := 0) rfl (by decide) dL_law_547 ?_
  refine rd_arg 548 1 w.scr (by omega) (by omega) hN dL_law_548 dL_law_549 dL_law_551 dL_law_552 dL_law_553 ?_
  refine st_callV (kc2 := kc) (ks2 := ks) (av := [(0, sc (i + 1))]) 0 10 mr_L_62 ok_X11_leap (st_leap w (sc (i + 1)) (hr _)) rfl sh_0 ⟨_, rfl, rfl, by decide⟩ rfl rfl (by omega) (Nat.le_of_eq (Nat.zero_add kc)) (Nat.le_of_eq (Nat.zero_add ks)) (Nat.le_of_ble_eq_true rfl) dL_law_554 (mQ.elim fun v1 m1 h1 => ?_)
  obtain ⟨g1, h1⟩ := h1
  refine st_aload_n (i := 2) rfl (t := 0) rfl (by decide) dL_law_557 ?_
  refine rd_arg 558 1 (g1.trans w.scr) (by omega) (by omega) hN dL_law_558 dL_law_559 dL_law_561 dL_law_562 dL_law_563 ?_
  refine st_callV (kc2 := kc) (ks2 := ks) (av := [(0, sc (i + 1))]) 65 11 mr_L_65 ok_X12_leap h1 rfl sh_65 ⟨_, rfl, rfl, by decide⟩ rfl rfl (by omega) (Nat.le_of_eq (Nat.zero_add kc)) (Nat.le_of_eq (Nat.zero_add ks)) (Nat.le_of_ble_eq_true rfl) dL_law_564 (mQ.elim fun v2 m2 h2 => ?_)
  obtain ⟨e, h2⟩ := h2
  exact cmp_ok e (by decide) dL_law_567 (k m2 ls (Inv_more h2 ht.1))
theorem lw_evening (w : Inv sc ls t mem) (hr : ∀ k, R32 (sc k)) (h0 : 0 ≤ i) (hL : i + 6 ≤ sc (-1)) (hN : sc (-1) ≤ 3072) (ht : 0 ≤ t ∧ t ≤ 1000) (hd : 60 ≤ d) (k : ∀ m2 ls', Inv sc ls' (t + 1) m2 → mmT bL_law d kc ks Q 1413 (lcL i) [] mS m2) : mmT bL_law d kc ks Q 572 (lcL i) [] mS mem := by
  refine st_aload_n (i := 1) rfl (t := 0) rfl (by decide) dL_law_572 ?_
  refine rd_arg 573 1 w.scr (by omega) (by omega) hN dL_law_573 dL_law_574 dL_law_576 dL_law_577 dL_law_578 ?_
  refine rd_arg 579 2 w.scr (by omega) (by omega) hN dL_law_579 dL_law_580 dL_law_582 dL_law_583 dL_law_584 ?_
  refine st_callV (kc2 := kc) (ks2 := ks) (av := [(0, sc (i + 1)), (0, sc (i + 2))]) 0 10 mr_L_66 ok_X11_evening (st_evening w (sc (i + 1)) (sc (i + 2)) (hr _) (hr _)) rfl sh_0 ⟨_, rfl, rfl, by decide⟩ rfl rfl (by omega) (Nat.le_of_eq (Nat.zero_add kc)) (Nat.le_of_eq (Nat.zero_add ks)) (Nat.le_of_ble_eq_true rfl) dL_law_585 (mQ.elim fun v1 m1 h1 => ?_)
  obtain ⟨g1, h1⟩ := h1
  refine st_aload_n (i := 2) rfl (t := 0) rfl (by decide) dL_law_588 ?_
  refine rd_arg 589 1 (g1.trans w.scr) (by omega) (by omega) hN dL_law_589 dL_law_590 dL_law_592 dL_law_593 dL_law_594 ?_
  refine rd_arg 595 2 (g1.trans w.scr) (by omega) (by omega) hN dL_law_595 dL_law_596 dL_law_598 dL_law_599 dL_law_600 ?_
  refine st_callV (kc2 := kc) (ks2 := ks) (av := [(0, sc (i + 1)), (0, sc (i + 2))]) 65 11 mr_L_69 ok_X12_evening h1 rfl sh_65 ⟨_, rfl, rfl, by decide⟩ rfl rfl (by omega) (Nat.le_of_eq (Nat.zero_add kc)) (Nat.le_of_eq (Nat.zero_add ks)) (Nat.le_of_ble_eq_true rfl) dL_law_601 (mQ.elim fun v2 m2 h2 => ?_)
  obtain ⟨e, h2⟩ := h2
  exact cmp_ok e (by decide) dL_law_604 (k m2 ls (Inv_more h2 ht.1))
theorem lw_ends (w : Inv sc ls t mem) (hr : ∀ k, R32 (sc k)) (h0 : 0 ≤ i) (hL : i + 6 ≤ sc (-1)) (hN : sc (-1) ≤ 3072) (ht : 0 ≤ t ∧ t ≤ 1000) (hd : 60 ≤ d) (k : ∀ m2 ls', Inv sc ls' (t + 1) m2 → mmT bL_law d kc ks Q 1413 (lcL i) [] mS m2) : mmT bL_law d kc ks Q 609 (lcL i) [] mS mem := by
  refine st_aload_n (i := 1) rfl (t := 0) rfl (by decide) dL_law_609 ?_
  refine rd_arg 610 1 w.scr (by omega) (by omega) hN dL_law_610 dL_law_611 dL_law_613 dL_law_614 dL_law_615 ?_
  refine rd_arg 616 2 w.scr (by omega) (by omega) hN dL_law_616 dL_law_617 dL_law_619 dL_law_620 dL_law_621 ?_
  refine st_callV (kc2 := kc) (ks2 := ks) (av := [(0, sc (i + 1)), (0, sc (i + 2))]) 0 10 mr_L_70 ok_X11_ends (st_ends w (sc (i + 1)) (sc (i + 2)) (hr _) (hr _)) rfl sh_0 ⟨_, rfl, rfl, by decide⟩ rfl rfl (by omega) (Nat.le_of_eq (Nat.zero_add kc)) (Nat.le_of_eq (Nat.zero_add ks)) (Nat.le_of_ble_eq_true rfl) dL_law_622 (mQ.elim fun v1 m1 h1 => ?_)
  obtain ⟨g1, h1⟩ := h1
  refine st_aload_n (i := 2) rfl (t := 0) rfl (by decide) dL_law_625 ?_
  refine rd_arg 626 1 (g1.trans w.scr) (by omega) (by omega) hN dL_law_626 dL_law_627 dL_law_629 dL_law_630 dL_law_631 ?_
  refine rd_arg 632 2 (g1.trans w.scr) (by omega) (by omega) hN dL_law_632 dL_law_633 dL_law_635 dL_law_636 dL_law_637 ?_
  refine st_callV (kc2 := kc) (ks2 := ks) (av := [(0, sc (i + 1)), (0, sc (i + 2))]) 65 11 mr_L_73 ok_X12_ends h1 rfl sh_65 ⟨_, rfl, rfl, by decide⟩ rfl rfl (by omega) (Nat.le_of_eq (Nat.zero_add kc)) (Nat.le_of_eq (Nat.zero_add ks)) (Nat.le_of_ble_eq_true rfl) dL_law_638 (mQ.elim fun v2 m2 h2 => ?_)
  obtain ⟨e, h2⟩ := h2
  exact cmp_ok e (by decide) dL_law_641 (k m2 ls (Inv_more h2 ht.1))
theorem lw_night (w : Inv sc ls t mem) (hr : ∀ k, R32 (sc k)) (h0 : 0 ≤ i) (hL : i + 6 ≤ sc (-1)) (hN : sc (-1) ≤ 3072) (ht : 0 ≤ t ∧ t ≤ 1000) (hd : 60 ≤ d) (k : ∀ m2 ls', Inv sc ls' (t + 1) m2 → mmT bL_law d kc ks Q 1413 (lcL i) [] mS m2) : mmT bL_law d kc ks Q 646 (lcL i) [] mS mem := by
  refine st_aload_n (i := 1) rfl (t := 0) rfl (by decide) dL_law_646 ?_
  refine rd_arg 647 1 w.scr (by omega) (by omega) hN dL_law_647 dL_law_648 dL_law_650 dL_law_651 dL_law_652 ?_
  refine sr_i2l (hr _) dL_law_653 ?_
  refine st_bipush (n := 32) (by decide) dL_law_654 ?_
  refine st_lshl dL_law_656 ?_
  refine rd_arg 657 2 w.scr (by omega) (by omega) hN dL_law_657 dL_law_658 dL_law_660 dL_law_661 dL_law_662 ?_
  refine sr_i2l (hr _) dL_law_663 ?_
  refine st_ldc2 cw_L_74 dL_law_664 ?_
  refine st_land dL_law_667 ?_
  refine st_lor dL_law_668 ?_
  refine st_callV (kc2 := kc) (ks2 := ks) (av := [(1, or64 (shl64 (sc (i + 1)) 32) (and64 (sc (i + 2)) 4294967295))]) 0 10 mr_L_76 ok_X11_night (st_night w ht (or64 (shl64 (sc (i + 1)) 32) (and64 (sc (i + 2)) 4294967295)) (or64_rng _ _)) rfl sh_0 ⟨_, rfl, rfl, by decide⟩ rfl rfl (by omega) (Nat.le_of_eq (Nat.zero_add kc)) (Nat.le_of_eq (Nat.zero_add ks)) (Nat.le_of_ble_eq_true rfl) dL_law_669 (mQ.elim fun v1 m1 h1 => ?_)
  obtain ⟨g1, h1⟩ := h1
  refine st_aload_n (i := 2) rfl (t := 0) rfl (by decide) dL_law_672 ?_
  refine rd_arg 673 1 (g1.trans w.scr) (by omega) (by omega) hN dL_law_673 dL_law_674 dL_law_676 dL_law_677 dL_law_678 ?_
  refine sr_i2l (hr _) dL_law_679 ?_
  refine st_bipush (n := 32) (by decide) dL_law_680 ?_
  refine st_lshl dL_law_682 ?_
  refine rd_arg 683 2 (g1.trans w.scr) (by omega) (by omega) hN dL_law_683 dL_law_684 dL_law_686 dL_law_687 dL_law_688 ?_
  refine sr_i2l (hr _) dL_law_689 ?_
  refine st_ldc2 cw_L_74 dL_law_690 ?_
  refine st_land dL_law_693 ?_
  refine st_lor dL_law_694 ?_
  refine st_callV (kc2 := kc) (ks2 := ks) (av := [(1, or64 (shl64 (sc (i + 1)) 32) (and64 (sc (i + 2)) 4294967295))]) 65 11 mr_L_80 ok_X12_night h1 rfl sh_65 ⟨_, rfl, rfl, by decide⟩ rfl rfl (by omega) (Nat.le_of_eq (Nat.zero_add kc)) (Nat.le_of_eq (Nat.zero_add ks)) (Nat.le_of_ble_eq_true rfl) dL_law_695 (mQ.elim fun v2 m2 h2 => ?_)
  obtain ⟨e, h2⟩ := h2
  exact cmp_ok e (by decide) dL_law_698 (k m2 ls h2)
theorem lw_latest (w : Inv sc ls t mem) (hr : ∀ k, R32 (sc k)) (h0 : 0 ≤ i) (hL : i + 6 ≤ sc (-1)) (hN : sc (-1) ≤ 3072) (ht : 0 ≤ t ∧ t ≤ 1000) (hd : 60 ≤ d) (k : ∀ m2 ls', Inv sc ls' (t + 1) m2 → mmT bL_law d kc ks Q 1413 (lcL i) [] mS m2) : mmT bL_law d kc ks Q 703 (lcL i) [] mS mem := by
  refine st_aload_n (i := 1) rfl (t := 0) rfl (by decide) dL_law_703 ?_
  refine rd_arg 704 1 w.scr (by omega) (by omega) hN dL_law_704 dL_law_705 dL_law_707 dL_law_708 dL_law_709 ?_
  refine st_callV (kc2 := kc) (ks2 := ks) (av := [(0, sc (i + 1))]) 0 10 mr_L_81 ok_X11_latest (st_latest w (sc (i + 1)) (hr _)) rfl sh_0 ⟨_, rfl, rfl, by decide⟩ rfl rfl (by omega) (Nat.le_of_eq (Nat.zero_add kc)) (Nat.le_of_eq (Nat.zero_add ks)) (Nat.le_of_ble_eq_true rfl) dL_law_710 (mQ.elim fun v1 m1 h1 => ?_)
  obtain ⟨g1, h1⟩ := h1
  refine st_aload_n (i := 2) rfl (t := 0) rfl (by decide) dL_law_713 ?_
  refine rd_arg 714 1 (g1.trans w.scr) (by omega) (by omega) hN dL_law_714 dL_law_715 dL_law_717 dL_law_718 dL_law_719 ?_
  refine st_callV (kc2 := kc) (ks2 := ks) (av := [(0, sc (i + 1))]) 65 11 mr_L_84 ok_X12_latest h1 rfl sh_65 ⟨_, rfl, rfl, by decide⟩ rfl rfl (by omega) (Nat.le_of_eq (Nat.zero_add kc)) (Nat.le_of_eq (Nat.zero_add ks)) (Nat.le_of_ble_eq_true rfl) dL_law_720 (mQ.elim fun v2 m2 h2 => ?_)
  obtain ⟨e, h2⟩ := h2
  exact cmp_ok e (by decide) dL_law_723 (k m2 ls (Inv_more h2 ht.1))
theorem lw_learn (w : Inv sc ls t mem) (hr : ∀ k, R32 (sc k)) (h0 : 0 ≤ i) (hL : i + 6 ≤ sc (-1)) (hN : sc (-1) ≤ 3072) (ht : 0 ≤ t ∧ t ≤ 1000) (hd : 60 ≤ d) (k : ∀ m2 ls', Inv sc ls' (t + 1) m2 → mmT bL_law d kc ks Q 1413 (lcL i) [] mS m2) : mmT bL_law d kc ks Q 728 (lcL i) [] mS mem := by
  refine st_aload_n (i := 1) rfl (t := 0) rfl (by decide) dL_law_728 ?_
  refine rd_arg 729 1 w.scr (by omega) (by omega) hN dL_law_729 dL_law_730 dL_law_732 dL_law_733 dL_law_734 ?_
  refine st_callV (kc2 := kc) (ks2 := ks) (av := [(0, sc (i + 1))]) 0 10 mr_L_85 ok_X11_learn (st_learn w ht (sc (i + 1)) (hr _)) rfl sh_0 ⟨_, rfl, rfl, by decide⟩ rfl rfl (by omega) (Nat.le_of_eq (Nat.zero_add kc)) (Nat.le_of_eq (Nat.zero_add ks)) (Nat.le_of_ble_eq_true rfl) dL_law_735 (mQ.elim fun v1 m1 h1 => ?_)
  obtain ⟨g1, h1⟩ := h1
  refine st_aload_n (i := 2) rfl (t := 0) rfl (by decide) dL_law_738 ?_
  refine rd_arg 739 1 (g1.trans w.scr) (by omega) (by omega) hN dL_law_739 dL_law_740 dL_law_742 dL_law_743 dL_law_744 ?_
  refine st_callV (kc2 := kc) (ks2 := ks) (av := [(0, sc (i + 1))]) 65 11 mr_L_88 ok_X12_learn h1 rfl sh_65 ⟨_, rfl, rfl, by decide⟩ rfl rfl (by omega) (Nat.le_of_eq (Nat.zero_add kc)) (Nat.le_of_eq (Nat.zero_add ks)) (Nat.le_of_ble_eq_true rfl) dL_law_745 (mQ.elim fun v2 m2 h2 => ?_)
  obtain ⟨e, h2⟩ := h2
  exact cmp_ok e (by decide) dL_law_748 (k m2 ls (Inv_more h2 ht.1))
theorem lw_loop (w : Inv sc ls t mem) (hr : ∀ k, R32 (sc k)) (h0 : 0 ≤ i) (hL : i + 6 ≤ sc (-1)) (hN : sc (-1) ≤ 3072) (ht : 0 ≤ t ∧ t ≤ 1000) (hd : 60 ≤ d) (k : ∀ m2 ls', Inv sc ls' (t + 1) m2 → mmT bL_law d kc ks Q 1413 (lcL i) [] mS m2) : mmT bL_law d kc ks Q 753 (lcL i) [] mS mem := by
  refine st_aload_n (i := 1) rfl (t := 0) rfl (by decide) dL_law_753 ?_
  refine rd_arg 754 1 w.scr (by omega) (by omega) hN dL_law_754 dL_law_755 dL_law_757 dL_law_758 dL_law_759 ?_
  refine st_callV (kc2 := kc) (ks2 := ks) (av := [(0, sc (i + 1))]) 0 10 mr_L_89 ok_X11_loop (st_loop w (sc (i + 1)) (hr _)) rfl sh_0 ⟨_, rfl, rfl, by decide⟩ rfl rfl (by omega) (Nat.le_of_eq (Nat.zero_add kc)) (Nat.le_of_eq (Nat.zero_add ks)) (Nat.le_of_ble_eq_true rfl) dL_law_760 (mQ.elim fun v1 m1 h1 => ?_)
  obtain ⟨g1, h1⟩ := h1
  refine st_aload_n (i := 2) rfl (t := 0) rfl (by decide) dL_law_763 ?_
  refine rd_arg 764 1 (g1.trans w.scr) (by omega) (by omega) hN dL_law_764 dL_law_765 dL_law_767 dL_law_768 dL_law_769 ?_
  refine st_callV (kc2 := kc) (ks2 := ks) (av := [(0, sc (i + 1))]) 65 11 mr_L_92 ok_X12_loop h1 rfl sh_65 ⟨_, rfl, rfl, by decide⟩ rfl rfl (by omega) (Nat.le_of_eq (Nat.zero_add kc)) (Nat.le_of_eq (Nat.zero_add ks)) (Nat.le_of_ble_eq_true rfl) dL_law_770 (mQ.elim fun v2 m2 h2 => ?_)
  obtain ⟨e, h2⟩ := h2
  exact cmp_ok e (by decide) dL_law_773 (k m2 ls (Inv_more h2 ht.1))
theorem lw_hole (w : Inv sc ls t mem) (hr : ∀ k, R32 (sc k)) (h0 : 0 ≤ i) (hL : i + 6 ≤ sc (-1)) (hN : sc (-1) ≤ 3072) (ht : 0 ≤ t ∧ t ≤ 1000) (hd : 60 ≤ d) (k : ∀ m2 ls', Inv sc ls' (t + 1) m2 → mmT bL_law d kc ks Q 1413 (lcL i) [] mS m2) : mmT bL_law d kc ks Q 778 (lcL i) [] mS mem := by
  refine st_aload_n (i := 1) rfl (t := 0) rfl (by decide) dL_law_778 ?_
  refine rd_arg 779 1 w.scr (by omega) (by omega) hN dL_law_779 dL_law_780 dL_law_782 dL_law_783 dL_law_784 ?_
  refine st_callV (kc2 := kc) (ks2 := ks) (av := [(0, sc (i + 1))]) 0 10 mr_L_93 ok_X11_hole (st_hole w (sc (i + 1)) (hr _)) rfl sh_0 ⟨_, rfl, rfl, by decide⟩ rfl rfl (by omega) (Nat.le_of_eq (Nat.zero_add kc)) (Nat.le_of_eq (Nat.zero_add ks)) (Nat.le_of_ble_eq_true rfl) dL_law_785 (mQ.elim fun v1 m1 h1 => ?_)
  obtain ⟨g1, h1⟩ := h1
  refine st_aload_n (i := 2) rfl (t := 0) rfl (by decide) dL_law_788 ?_
  refine rd_arg 789 1 (g1.trans w.scr) (by omega) (by omega) hN dL_law_789 dL_law_790 dL_law_792 dL_law_793 dL_law_794 ?_
  refine st_callV (kc2 := kc) (ks2 := ks) (av := [(0, sc (i + 1))]) 65 11 mr_L_96 ok_X12_hole h1 rfl sh_65 ⟨_, rfl, rfl, by decide⟩ rfl rfl (by omega) (Nat.le_of_eq (Nat.zero_add kc)) (Nat.le_of_eq (Nat.zero_add ks)) (Nat.le_of_ble_eq_true rfl) dL_law_795 (mQ.elim fun v2 m2 h2 => ?_)
  obtain ⟨e, h2⟩ := h2
  exact cmp_ok e (by decide) dL_law_798 (k m2 ls (Inv_more h2 ht.1))
theorem lw_stops (w : Inv sc ls t mem) (hr : ∀ k, R32 (sc k)) (h0 : 0 ≤ i) (hL : i + 6 ≤ sc (-1)) (hN : sc (-1) ≤ 3072) (ht : 0 ≤ t ∧ t ≤ 1000) (hd : 60 ≤ d) (k : ∀ m2 ls', Inv sc ls' (t + 1) m2 → mmT bL_law d kc ks Q 1413 (lcL i) [] mS m2) : mmT bL_law d kc ks Q 803 (lcL i) [] mS mem := by
  refine st_aload_n (i := 1) rfl (t := 0) rfl (by decide) dL_law_803 ?_
  refine st_callV (kc2 := kc) (ks2 := ks) (av := []) 0 10 mr_L_97 ok_X11_stops (st_stops w) rfl sh_0 ⟨_, rfl, rfl, by decide⟩ rfl rfl (by omega) (Nat.le_of_eq (Nat.zero_add kc)) (Nat.le_of_eq (Nat.zero_add ks)) (Nat.le_of_ble_eq_true rfl) dL_law_804 (mQ.elim fun v1 m1 h1 => ?_)
  obtain ⟨g1, h1⟩ := h1
  refine st_aload_n (i := 2) rfl (t := 0) rfl (by decide) dL_law_807 ?_
  refine st_callV (kc2 := kc) (ks2 := ks) (av := []) 65 11 mr_L_100 ok_X12_stops h1 rfl sh_65 ⟨_, rfl, rfl, by decide⟩ rfl rfl (by omega) (Nat.le_of_eq (Nat.zero_add kc)) (Nat.le_of_eq (Nat.zero_add ks)) (Nat.le_of_ble_eq_true rfl) dL_law_808 (mQ.elim fun v2 m2 h2 => ?_)
  obtain ⟨e, h2⟩ := h2
  exact cmp_ok e (by decide) dL_law_811 (k m2 ls (Inv_more h2 ht.1))
theorem lw_from (w : Inv sc ls t mem) (hr : ∀ k, R32 (sc k)) (h0 : 0 ≤ i) (hL : i + 6 ≤ sc (-1)) (hN : sc (-1) ≤ 3072) (ht : 0 ≤ t ∧ t ≤ 1000) (hd : 60 ≤ d) (k : ∀ m2 ls', Inv sc ls' (t + 1) m2 → mmT bL_law d kc ks Q 1413 (lcL i) [] mS m2) : mmT bL_law d kc ks Q 816 (lcL i) [] mS mem := by
  refine st_aload_n (i := 1) rfl (t := 0) rfl (by decide) dL_law_816 ?_
  refine rd_arg 817 1 w.scr (by omega) (by omega) hN dL_law_817 dL_law_818 dL_law_820 dL_law_821 dL_law_822 ?_
  refine st_callV (kc2 := kc) (ks2 := ks) (av := [(0, sc (i + 1))]) 0 10 mr_L_101 ok_X11_from (st_from w (sc (i + 1)) (hr _)) rfl sh_0 ⟨_, rfl, rfl, by decide⟩ rfl rfl (by omega) (Nat.le_of_eq (Nat.zero_add kc)) (Nat.le_of_eq (Nat.zero_add ks)) (Nat.le_of_ble_eq_true rfl) dL_law_823 (mQ.elim fun v1 m1 h1 => ?_)
  obtain ⟨g1, h1⟩ := h1
  refine st_aload_n (i := 2) rfl (t := 0) rfl (by decide) dL_law_826 ?_
  refine rd_arg 827 1 (g1.trans w.scr) (by omega) (by omega) hN dL_law_827 dL_law_828 dL_law_830 dL_law_831 dL_law_832 ?_
  refine st_callV (kc2 := kc) (ks2 := ks) (av := [(0, sc (i + 1))]) 65 11 mr_L_104 ok_X12_from h1 rfl sh_65 ⟨_, rfl, rfl, by decide⟩ rfl rfl (by omega) (Nat.le_of_eq (Nat.zero_add kc)) (Nat.le_of_eq (Nat.zero_add ks)) (Nat.le_of_ble_eq_true rfl) dL_law_833 (mQ.elim fun v2 m2 h2 => ?_)
  obtain ⟨e, h2⟩ := h2
  exact cmp_ok e (by decide) dL_law_836 (k m2 ls (Inv_more h2 ht.1))
theorem lw_rows (w : Inv sc ls t mem) (hr : ∀ k, R32 (sc k)) (h0 : 0 ≤ i) (hL : i + 6 ≤ sc (-1)) (hN : sc (-1) ≤ 3072) (ht : 0 ≤ t ∧ t ≤ 1000) (hd : 60 ≤ d) (k : ∀ m2 ls', Inv sc ls' (t + 1) m2 → mmT bL_law d kc ks Q 1413 (lcL i) [] mS m2) : mmT bL_law d kc ks Q 841 (lcL i) [] mS mem := by
  refine st_aload_n (i := 1) rfl (t := 0) rfl (by decide) dL_law_841 ?_
  refine rd_arg 842 1 w.scr (by omega) (by omega) hN dL_law_842 dL_law_843 dL_law_845 dL_law_846 dL_law_847 ?_
  refine st_callV (kc2 := kc) (ks2 := ks) (av := [(0, sc (i + 1))]) 0 10 mr_L_105 ok_X11_rows (st_rows w (sc (i + 1)) (hr _)) rfl sh_0 ⟨_, rfl, rfl, by decide⟩ rfl rfl (by omega) (Nat.le_of_eq (Nat.zero_add kc)) (Nat.le_of_eq (Nat.zero_add ks)) (Nat.le_of_ble_eq_true rfl) dL_law_848 (mQ.elim fun v1 m1 h1 => ?_)
  obtain ⟨g1, h1⟩ := h1
  refine st_aload_n (i := 2) rfl (t := 0) rfl (by decide) dL_law_851 ?_
  refine rd_arg 852 1 (g1.trans w.scr) (by omega) (by omega) hN dL_law_852 dL_law_853 dL_law_855 dL_law_856 dL_law_857 ?_
  refine st_callV (kc2 := kc) (ks2 := ks) (av := [(0, sc (i + 1))]) 65 11 mr_L_108 ok_X12_rows h1 rfl sh_65 ⟨_, rfl, rfl, by decide⟩ rfl rfl (by omega) (Nat.le_of_eq (Nat.zero_add kc)) (Nat.le_of_eq (Nat.zero_add ks)) (Nat.le_of_ble_eq_true rfl) dL_law_858 (mQ.elim fun v2 m2 h2 => ?_)
  obtain ⟨e, h2⟩ := h2
  exact cmp_ok e (by decide) dL_law_861 (k m2 ls (Inv_more h2 ht.1))
theorem lw_chance (w : Inv sc ls t mem) (hr : ∀ k, R32 (sc k)) (h0 : 0 ≤ i) (hL : i + 6 ≤ sc (-1)) (hN : sc (-1) ≤ 3072) (ht : 0 ≤ t ∧ t ≤ 1000) (hd : 60 ≤ d) (k : ∀ m2 ls', Inv sc ls' (t + 1) m2 → mmT bL_law d kc ks Q 1413 (lcL i) [] mS m2) : mmT bL_law d kc ks Q 866 (lcL i) [] mS mem := by
  refine st_aload_n (i := 1) rfl (t := 0) rfl (by decide) dL_law_866 ?_
  refine rd_arg 867 1 w.scr (by omega) (by omega) hN dL_law_867 dL_law_868 dL_law_870 dL_law_871 dL_law_872 ?_
  refine st_callV (kc2 := kc) (ks2 := ks) (av := [(0, sc (i + 1))]) 0 10 mr_L_109 ok_X11_chance (st_chance w (sc (i + 1)) (hr _)) rfl sh_0 ⟨_, rfl, rfl, by decide⟩ rfl rfl (by omega) (Nat.le_of_eq (Nat.zero_add kc)) (Nat.le_of_eq (Nat.zero_add ks)) (Nat.le_of_ble_eq_true rfl) dL_law_873 (mQ.elim fun v1 m1 h1 => ?_)
  obtain ⟨g1, h1⟩ := h1
  refine st_aload_n (i := 2) rfl (t := 0) rfl (by decide) dL_law_876 ?_
  refine rd_arg 877 1 (g1.trans w.scr) (by omega) (by omega) hN dL_law_877 dL_law_878 dL_law_880 dL_law_881 dL_law_882 ?_
  refine st_callV (kc2 := kc) (ks2 := ks) (av := [(0, sc (i + 1))]) 65 11 mr_L_112 ok_X12_chance h1 rfl sh_65 ⟨_, rfl, rfl, by decide⟩ rfl rfl (by omega) (Nat.le_of_eq (Nat.zero_add kc)) (Nat.le_of_eq (Nat.zero_add ks)) (Nat.le_of_ble_eq_true rfl) dL_law_883 (mQ.elim fun v2 m2 h2 => ?_)
  obtain ⟨e, h2⟩ := h2
  exact cmp_ok e (by decide) dL_law_886 (k m2 ls (Inv_more h2 ht.1))
theorem lw_mean (w : Inv sc ls t mem) (hr : ∀ k, R32 (sc k)) (h0 : 0 ≤ i) (hL : i + 6 ≤ sc (-1)) (hN : sc (-1) ≤ 3072) (ht : 0 ≤ t ∧ t ≤ 1000) (hd : 60 ≤ d) (k : ∀ m2 ls', Inv sc ls' (t + 1) m2 → mmT bL_law d kc ks Q 1413 (lcL i) [] mS m2) : mmT bL_law d kc ks Q 891 (lcL i) [] mS mem := by
  refine st_aload_n (i := 1) rfl (t := 0) rfl (by decide) dL_law_891 ?_
  refine rd_arg 892 1 w.scr (by omega) (by omega) hN dL_law_892 dL_law_893 dL_law_895 dL_law_896 dL_law_897 ?_
  refine rd_arg 898 2 w.scr (by omega) (by omega) hN dL_law_898 dL_law_899 dL_law_901 dL_law_902 dL_law_903 ?_
  refine st_callV (kc2 := kc) (ks2 := ks) (av := [(0, sc (i + 1)), (0, sc (i + 2))]) 0 10 mr_L_113 ok_X11_mean (st_mean w (sc (i + 1)) (sc (i + 2)) (hr _) (hr _)) rfl sh_0 ⟨_, rfl, rfl, by decide⟩ rfl rfl (by omega) (Nat.le_of_eq (Nat.zero_add kc)) (Nat.le_of_eq (Nat.zero_add ks)) (Nat.le_of_ble_eq_true rfl) dL_law_904 (mQ.elim fun v1 m1 h1 => ?_)
  obtain ⟨g1, h1⟩ := h1
  refine st_aload_n (i := 2) rfl (t := 0) rfl (by decide) dL_law_907 ?_
  refine rd_arg 908 1 (g1.trans w.scr) (by omega) (by omega) hN dL_law_908 dL_law_909 dL_law_911 dL_law_912 dL_law_913 ?_
  refine rd_arg 914 2 (g1.trans w.scr) (by omega) (by omega) hN dL_law_914 dL_law_915 dL_law_917 dL_law_918 dL_law_919 ?_
  refine st_callV (kc2 := kc) (ks2 := ks) (av := [(0, sc (i + 1)), (0, sc (i + 2))]) 65 11 mr_L_116 ok_X12_mean h1 rfl sh_65 ⟨_, rfl, rfl, by decide⟩ rfl rfl (by omega) (Nat.le_of_eq (Nat.zero_add kc)) (Nat.le_of_eq (Nat.zero_add ks)) (Nat.le_of_ble_eq_true rfl) dL_law_920 (mQ.elim fun v2 m2 h2 => ?_)
  obtain ⟨e, h2⟩ := h2
  exact cmp_ok e (by decide) dL_law_923 (k m2 ls (Inv_more h2 ht.1))
theorem lw_could (w : Inv sc ls t mem) (hr : ∀ k, R32 (sc k)) (h0 : 0 ≤ i) (hL : i + 6 ≤ sc (-1)) (hN : sc (-1) ≤ 3072) (ht : 0 ≤ t ∧ t ≤ 1000) (hd : 60 ≤ d) (k : ∀ m2 ls', Inv sc ls' (t + 1) m2 → mmT bL_law d kc ks Q 1413 (lcL i) [] mS m2) : mmT bL_law d kc ks Q 928 (lcL i) [] mS mem := by
  refine st_aload_n (i := 1) rfl (t := 0) rfl (by decide) dL_law_928 ?_
  refine rd_arg 929 1 w.scr (by omega) (by omega) hN dL_law_929 dL_law_930 dL_law_932 dL_law_933 dL_law_934 ?_
  refine st_callV (kc2 := kc) (ks2 := ks) (av := [(0, sc (i + 1))]) 0 10 mr_L_117 ok_X11_could (st_could w (sc (i + 1)) (hr _)) rfl sh_0 ⟨_, rfl, rfl, by decide⟩ rfl rfl (by omega) (Nat.le_of_eq (Nat.zero_add kc)) (Nat.le_of_eq (Nat.zero_add ks)) (Nat.le_of_ble_eq_true rfl) dL_law_935 (mQ.elim fun v1 m1 h1 => ?_)
  obtain ⟨g1, h1⟩ := h1
  refine st_aload_n (i := 2) rfl (t := 0) rfl (by decide) dL_law_938 ?_
  refine rd_arg 939 1 (g1.trans w.scr) (by omega) (by omega) hN dL_law_939 dL_law_940 dL_law_942 dL_law_943 dL_law_944 ?_
  refine st_callV (kc2 := kc) (ks2 := ks) (av := [(0, sc (i + 1))]) 65 11 mr_L_120 ok_X12_could h1 rfl sh_65 ⟨_, rfl, rfl, by decide⟩ rfl rfl (by omega) (Nat.le_of_eq (Nat.zero_add kc)) (Nat.le_of_eq (Nat.zero_add ks)) (Nat.le_of_ble_eq_true rfl) dL_law_945 (mQ.elim fun v2 m2 h2 => ?_)
  obtain ⟨e, h2⟩ := h2
  exact cmp_ok e (by decide) dL_law_948 (k m2 ls (Inv_more h2 ht.1))
theorem lw_fewest (w : Inv sc ls t mem) (hr : ∀ k, R32 (sc k)) (h0 : 0 ≤ i) (hL : i + 6 ≤ sc (-1)) (hN : sc (-1) ≤ 3072) (ht : 0 ≤ t ∧ t ≤ 1000) (hd : 60 ≤ d) (k : ∀ m2 ls', Inv sc ls' (t + 1) m2 → mmT bL_law d kc ks Q 1413 (lcL i) [] mS m2) : mmT bL_law d kc ks Q 953 (lcL i) [] mS mem := by
  refine st_aload_n (i := 1) rfl (t := 0) rfl (by decide) dL_law_953 ?_
  refine rd_arg 954 1 w.scr (by omega) (by omega) hN dL_law_954 dL_law_955 dL_law_957 dL_law_958 dL_law_959 ?_
  refine rd_arg 960 2 w.scr (by omega) (by omega) hN dL_law_960 dL_law_961 dL_law_963 dL_law_964 dL_law_965 ?_
  refine rd_arg 966 3 w.scr (by omega) (by omega) hN dL_law_966 dL_law_967 dL_law_969 dL_law_970 dL_law_971 ?_
  refine st_callV (kc2 := kc) (ks2 := ks) (av := [(0, sc (i + 1)), (0, sc (i + 2)), (0, sc (i + 3))]) 0 10 mr_L_121 ok_X11_fewest (st_fewest w (sc (i + 1)) (sc (i + 2)) (sc (i + 3)) (hr _) (hr _) (hr _)) rfl sh_0 ⟨_, rfl, rfl, by decide⟩ rfl rfl (by omega) (Nat.le_of_eq (Nat.zero_add kc)) (Nat.le_of_eq (Nat.zero_add ks)) (Nat.le_of_ble_eq_true rfl) dL_law_972 (mQ.elim fun v1 m1 h1 => ?_)
  obtain ⟨g1, h1⟩ := h1
  refine st_aload_n (i := 2) rfl (t := 0) rfl (by decide) dL_law_975 ?_
  refine rd_arg 976 1 (g1.trans w.scr) (by omega) (by omega) hN dL_law_976 dL_law_977 dL_law_979 dL_law_980 dL_law_981 ?_
  refine rd_arg 982 2 (g1.trans w.scr) (by omega) (by omega) hN dL_law_982 dL_law_983 dL_law_985 dL_law_986 dL_law_987 ?_
  refine rd_arg 988 3 (g1.trans w.scr) (by omega) (by omega) hN dL_law_988 dL_law_989 dL_law_991 dL_law_992 dL_law_993 ?_
  refine st_callV (kc2 := kc) (ks2 := ks) (av := [(0, sc (i + 1)), (0, sc (i + 2)), (0, sc (i + 3))]) 65 11 mr_L_125 ok_X12_fewest h1 rfl sh_65 ⟨_, rfl, rfl, by decide⟩ rfl rfl (by omega) (Nat.le_of_eq (Nat.zero_add kc)) (Nat.le_of_eq (Nat.zero_add ks)) (Nat.le_of_ble_eq_true rfl) dL_law_994 (mQ.elim fun v2 m2 h2 => ?_)
  obtain ⟨e, h2⟩ := h2
  exact cmp_ok e (by decide) dL_law_997 (k m2 ls (Inv_more h2 ht.1))
theorem lw_understudy (w : Inv sc ls t mem) (hr : ∀ k, R32 (sc k)) (h0 : 0 ≤ i) (hL : i + 6 ≤ sc (-1)) (hN : sc (-1) ≤ 3072) (ht : 0 ≤ t ∧ t ≤ 1000) (hd : 60 ≤ d) (k : ∀ m2 ls', Inv sc ls' (t + 1) m2 → mmT bL_law d kc ks Q 1413 (lcL i) [] mS m2) : mmT bL_law d kc ks Q 1002 (lcL i) [] mS mem := by
  refine st_aload_n (i := 1) rfl (t := 0) rfl (by decide) dL_law_1002 ?_
  refine rd_arg 1003 1 w.scr (by omega) (by omega) hN dL_law_1003 dL_law_1004 dL_law_1006 dL_law_1007 dL_law_1008 ?_
  refine rd_arg 1009 2 w.scr (by omega) (by omega) hN dL_law_1009 dL_law_1010 dL_law_1012 dL_law_1013 dL_law_1014 ?_
  refine st_callV (kc2 := kc) (ks2 := ks) (av := [(0, sc (i + 1)), (0, sc (i + 2))]) 0 10 mr_L_126 ok_X11_understudy (st_understudy w (sc (i + 1)) (sc (i + 2)) (hr _) (hr _)) rfl sh_0 ⟨_, rfl, rfl, by decide⟩ rfl rfl (by omega) (Nat.le_of_eq (Nat.zero_add kc)) (Nat.le_of_eq (Nat.zero_add ks)) (Nat.le_of_ble_eq_true rfl) dL_law_1015 (mQ.elim fun v1 m1 h1 => ?_)
  obtain ⟨g1, h1⟩ := h1
  refine st_aload_n (i := 2) rfl (t := 0) rfl (by decide) dL_law_1018 ?_
  refine rd_arg 1019 1 (g1.trans w.scr) (by omega) (by omega) hN dL_law_1019 dL_law_1020 dL_law_1022 dL_law_1023 dL_law_1024 ?_
  refine rd_arg 1025 2 (g1.trans w.scr) (by omega) (by omega) hN dL_law_1025 dL_law_1026 dL_law_1028 dL_law_1029 dL_law_1030 ?_
  refine st_callV (kc2 := kc) (ks2 := ks) (av := [(0, sc (i + 1)), (0, sc (i + 2))]) 65 11 mr_L_129 ok_X12_understudy h1 rfl sh_65 ⟨_, rfl, rfl, by decide⟩ rfl rfl (by omega) (Nat.le_of_eq (Nat.zero_add kc)) (Nat.le_of_eq (Nat.zero_add ks)) (Nat.le_of_ble_eq_true rfl) dL_law_1031 (mQ.elim fun v2 m2 h2 => ?_)
  obtain ⟨e, h2⟩ := h2
  exact cmp_ok e (by decide) dL_law_1034 (k m2 ls (Inv_more h2 ht.1))
theorem lw_worst (w : Inv sc ls t mem) (hr : ∀ k, R32 (sc k)) (h0 : 0 ≤ i) (hL : i + 6 ≤ sc (-1)) (hN : sc (-1) ≤ 3072) (ht : 0 ≤ t ∧ t ≤ 1000) (hd : 60 ≤ d) (k : ∀ m2 ls', Inv sc ls' (t + 1) m2 → mmT bL_law d kc ks Q 1413 (lcL i) [] mS m2) : mmT bL_law d kc ks Q 1039 (lcL i) [] mS mem := by
  refine st_aload_n (i := 1) rfl (t := 0) rfl (by decide) dL_law_1039 ?_
  refine rd_arg 1040 1 w.scr (by omega) (by omega) hN dL_law_1040 dL_law_1041 dL_law_1043 dL_law_1044 dL_law_1045 ?_
  refine st_callV (kc2 := kc) (ks2 := ks) (av := [(0, sc (i + 1))]) 0 10 mr_L_130 ok_X11_worst (st_worst w (sc (i + 1)) (hr _)) rfl sh_0 ⟨_, rfl, rfl, by decide⟩ rfl rfl (by omega) (Nat.le_of_eq (Nat.zero_add kc)) (Nat.le_of_eq (Nat.zero_add ks)) (Nat.le_of_ble_eq_true rfl) dL_law_1046 (mQ.elim fun v1 m1 h1 => ?_)
  obtain ⟨g1, h1⟩ := h1
  refine st_aload_n (i := 2) rfl (t := 0) rfl (by decide) dL_law_1049 ?_
  refine rd_arg 1050 1 (g1.trans w.scr) (by omega) (by omega) hN dL_law_1050 dL_law_1051 dL_law_1053 dL_law_1054 dL_law_1055 ?_
  refine st_callV (kc2 := kc) (ks2 := ks) (av := [(0, sc (i + 1))]) 65 11 mr_L_133 ok_X12_worst h1 rfl sh_65 ⟨_, rfl, rfl, by decide⟩ rfl rfl (by omega) (Nat.le_of_eq (Nat.zero_add kc)) (Nat.le_of_eq (Nat.zero_add ks)) (Nat.le_of_ble_eq_true rfl) dL_law_1056 (mQ.elim fun v2 m2 h2 => ?_)
  obtain ⟨e, h2⟩ := h2
  exact cmp_ok e (by decide) dL_law_1059 (k m2 ls (Inv_more h2 ht.1))
theorem lw_silence (w : Inv sc ls t mem) (hr : ∀ k, R32 (sc k)) (h0 : 0 ≤ i) (hL : i + 6 ≤ sc (-1)) (hN : sc (-1) ≤ 3072) (ht : 0 ≤ t ∧ t ≤ 1000) (hd : 60 ≤ d) (k : ∀ m2 ls', Inv sc ls' (t + 1) m2 → mmT bL_law d kc ks Q 1413 (lcL i) [] mS m2) : mmT bL_law d kc ks Q 1064 (lcL i) [] mS mem := by
  refine st_aload_n (i := 1) rfl (t := 0) rfl (by decide) dL_law_1064 ?_
  refine rd_arg 1065 1 w.scr (by omega) (by omega) hN dL_law_1065 dL_law_1066 dL_law_1068 dL_law_1069 dL_law_1070 ?_
  refine st_callV (kc2 := kc) (ks2 := ks) (av := [(0, sc (i + 1))]) 0 10 mr_L_134 ok_X11_silence (st_silence w (sc (i + 1)) (hr _)) rfl sh_0 ⟨_, rfl, rfl, by decide⟩ rfl rfl (by omega) (Nat.le_of_eq (Nat.zero_add kc)) (Nat.le_of_eq (Nat.zero_add ks)) (Nat.le_of_ble_eq_true rfl) dL_law_1071 (mQ.elim fun v1 m1 h1 => ?_)
  obtain ⟨g1, h1⟩ := h1
  refine st_aload_n (i := 2) rfl (t := 0) rfl (by decide) dL_law_1074 ?_
  refine rd_arg 1075 1 (g1.trans w.scr) (by omega) (by omega) hN dL_law_1075 dL_law_1076 dL_law_1078 dL_law_1079 dL_law_1080 ?_
  refine st_callV (kc2 := kc) (ks2 := ks) (av := [(0, sc (i + 1))]) 65 11 mr_L_137 ok_X12_silence h1 rfl sh_65 ⟨_, rfl, rfl, by decide⟩ rfl rfl (by omega) (Nat.le_of_eq (Nat.zero_add kc)) (Nat.le_of_eq (Nat.zero_add ks)) (Nat.le_of_ble_eq_true rfl) dL_law_1081 (mQ.elim fun v2 m2 h2 => ?_)
  obtain ⟨e, h2⟩ := h2
  exact cmp_ok e (by decide) dL_law_1084 (k m2 ls (Inv_more h2 ht.1))
theorem lw_spare (w : Inv sc ls t mem) (hr : ∀ k, R32 (sc k)) (h0 : 0 ≤ i) (hL : i + 6 ≤ sc (-1)) (hN : sc (-1) ≤ 3072) (ht : 0 ≤ t ∧ t ≤ 1000) (hd : 60 ≤ d) (k : ∀ m2 ls', Inv sc ls' (t + 1) m2 → mmT bL_law d kc ks Q 1413 (lcL i) [] mS m2) : mmT bL_law d kc ks Q 1089 (lcL i) [] mS mem := by
  refine st_aload_n (i := 1) rfl (t := 0) rfl (by decide) dL_law_1089 ?_
  refine rd_arg 1090 1 w.scr (by omega) (by omega) hN dL_law_1090 dL_law_1091 dL_law_1093 dL_law_1094 dL_law_1095 ?_
  refine rd_arg 1096 2 w.scr (by omega) (by omega) hN dL_law_1096 dL_law_1097 dL_law_1099 dL_law_1100 dL_law_1101 ?_
  refine st_callV (kc2 := kc) (ks2 := ks) (av := [(0, sc (i + 1)), (0, sc (i + 2))]) 0 10 mr_L_138 ok_X11_spare (st_spare w (sc (i + 1)) (sc (i + 2)) (hr _) (hr _)) rfl sh_0 ⟨_, rfl, rfl, by decide⟩ rfl rfl (by omega) (Nat.le_of_eq (Nat.zero_add kc)) (Nat.le_of_eq (Nat.zero_add ks)) (Nat.le_of_ble_eq_true rfl) dL_law_1102 (mQ.elim fun v1 m1 h1 => ?_)
  obtain ⟨g1, h1⟩ := h1
  refine st_aload_n (i := 2) rfl (t := 0) rfl (by decide) dL_law_1105 ?_
  refine rd_arg 1106 1 (g1.trans w.scr) (by omega) (by omega) hN dL_law_1106 dL_law_1107 dL_law_1109 dL_law_1110 dL_law_1111 ?_
  refine rd_arg 1112 2 (g1.trans w.scr) (by omega) (by omega) hN dL_law_1112 dL_law_1113 dL_law_1115 dL_law_1116 dL_law_1117 ?_
  refine st_callV (kc2 := kc) (ks2 := ks) (av := [(0, sc (i + 1)), (0, sc (i + 2))]) 65 11 mr_L_141 ok_X12_spare h1 rfl sh_65 ⟨_, rfl, rfl, by decide⟩ rfl rfl (by omega) (Nat.le_of_eq (Nat.zero_add kc)) (Nat.le_of_eq (Nat.zero_add ks)) (Nat.le_of_ble_eq_true rfl) dL_law_1118 (mQ.elim fun v2 m2 h2 => ?_)
  obtain ⟨e, h2⟩ := h2
  exact cmp_ok e (by decide) dL_law_1121 (k m2 ls (Inv_more h2 ht.1))
theorem lw_players (w : Inv sc ls t mem) (hr : ∀ k, R32 (sc k)) (h0 : 0 ≤ i) (hL : i + 6 ≤ sc (-1)) (hN : sc (-1) ≤ 3072) (ht : 0 ≤ t ∧ t ≤ 1000) (hd : 60 ≤ d) (k : ∀ m2 ls', Inv sc ls' (t + 1) m2 → mmT bL_law d kc ks Q 1413 (lcL i) [] mS m2) : mmT bL_law d kc ks Q 1126 (lcL i) [] mS mem := by
  refine st_aload_n (i := 1) rfl (t := 0) rfl (by decide) dL_law_1126 ?_
  refine rd_arg 1127 1 w.scr (by omega) (by omega) hN dL_law_1127 dL_law_1128 dL_law_1130 dL_law_1131 dL_law_1132 ?_
  refine rd_arg 1133 2 w.scr (by omega) (by omega) hN dL_law_1133 dL_law_1134 dL_law_1136 dL_law_1137 dL_law_1138 ?_
  refine st_callV (kc2 := kc) (ks2 := ks) (av := [(0, sc (i + 1)), (0, sc (i + 2))]) 0 10 mr_L_142 ok_X11_players (st_players w (sc (i + 1)) (sc (i + 2)) (hr _) (hr _)) rfl sh_0 ⟨_, rfl, rfl, by decide⟩ rfl rfl (by omega) (Nat.le_of_eq (Nat.zero_add kc)) (Nat.le_of_eq (Nat.zero_add ks)) (Nat.le_of_ble_eq_true rfl) dL_law_1139 (mQ.elim fun v1 m1 h1 => ?_)
  obtain ⟨g1, h1⟩ := h1
  refine st_aload_n (i := 2) rfl (t := 0) rfl (by decide) dL_law_1142 ?_
  refine rd_arg 1143 1 (g1.trans w.scr) (by omega) (by omega) hN dL_law_1143 dL_law_1144 dL_law_1146 dL_law_1147 dL_law_1148 ?_
  refine rd_arg 1149 2 (g1.trans w.scr) (by omega) (by omega) hN dL_law_1149 dL_law_1150 dL_law_1152 dL_law_1153 dL_law_1154 ?_
  refine st_callV (kc2 := kc) (ks2 := ks) (av := [(0, sc (i + 1)), (0, sc (i + 2))]) 65 11 mr_L_145 ok_X12_players h1 rfl sh_65 ⟨_, rfl, rfl, by decide⟩ rfl rfl (by omega) (Nat.le_of_eq (Nat.zero_add kc)) (Nat.le_of_eq (Nat.zero_add ks)) (Nat.le_of_ble_eq_true rfl) dL_law_1155 (mQ.elim fun v2 m2 h2 => ?_)
  obtain ⟨e, h2⟩ := h2
  exact cmp_ok e (by decide) dL_law_1158 (k m2 ls (Inv_more h2 ht.1))
theorem lw_shortest (w : Inv sc ls t mem) (hr : ∀ k, R32 (sc k)) (h0 : 0 ≤ i) (hL : i + 6 ≤ sc (-1)) (hN : sc (-1) ≤ 3072) (ht : 0 ≤ t ∧ t ≤ 1000) (hd : 60 ≤ d) (k : ∀ m2 ls', Inv sc ls' (t + 1) m2 → mmT bL_law d kc ks Q 1413 (lcL i) [] mS m2) : mmT bL_law d kc ks Q 1163 (lcL i) [] mS mem := by
  refine st_aload_n (i := 1) rfl (t := 0) rfl (by decide) dL_law_1163 ?_
  refine rd_arg 1164 1 w.scr (by omega) (by omega) hN dL_law_1164 dL_law_1165 dL_law_1167 dL_law_1168 dL_law_1169 ?_
  refine rd_arg 1170 2 w.scr (by omega) (by omega) hN dL_law_1170 dL_law_1171 dL_law_1173 dL_law_1174 dL_law_1175 ?_
  refine st_callV (kc2 := kc) (ks2 := ks) (av := [(0, sc (i + 1)), (0, sc (i + 2))]) 0 10 mr_L_146 ok_X11_shortest (st_shortest w (sc (i + 1)) (sc (i + 2)) (hr _) (hr _)) rfl sh_0 ⟨_, rfl, rfl, by decide⟩ rfl rfl (by omega) (Nat.le_of_eq (Nat.zero_add kc)) (Nat.le_of_eq (Nat.zero_add ks)) (Nat.le_of_ble_eq_true rfl) dL_law_1176 (mQ.elim fun v1 m1 h1 => ?_)
  obtain ⟨g1, h1⟩ := h1
  refine st_aload_n (i := 2) rfl (t := 0) rfl (by decide) dL_law_1179 ?_
  refine rd_arg 1180 1 (g1.trans w.scr) (by omega) (by omega) hN dL_law_1180 dL_law_1181 dL_law_1183 dL_law_1184 dL_law_1185 ?_
  refine rd_arg 1186 2 (g1.trans w.scr) (by omega) (by omega) hN dL_law_1186 dL_law_1187 dL_law_1189 dL_law_1190 dL_law_1191 ?_
  refine st_callV (kc2 := kc) (ks2 := ks) (av := [(0, sc (i + 1)), (0, sc (i + 2))]) 65 11 mr_L_149 ok_X12_shortest h1 rfl sh_65 ⟨_, rfl, rfl, by decide⟩ rfl rfl (by omega) (Nat.le_of_eq (Nat.zero_add kc)) (Nat.le_of_eq (Nat.zero_add ks)) (Nat.le_of_ble_eq_true rfl) dL_law_1192 (mQ.elim fun v2 m2 h2 => ?_)
  obtain ⟨e, h2⟩ := h2
  exact cmp_ok e (by decide) dL_law_1195 (k m2 ls (Inv_more h2 ht.1))
theorem lw_longest (w : Inv sc ls t mem) (hr : ∀ k, R32 (sc k)) (h0 : 0 ≤ i) (hL : i + 6 ≤ sc (-1)) (hN : sc (-1) ≤ 3072) (ht : 0 ≤ t ∧ t ≤ 1000) (hd : 60 ≤ d) (k : ∀ m2 ls', Inv sc ls' (t + 1) m2 → mmT bL_law d kc ks Q 1413 (lcL i) [] mS m2) : mmT bL_law d kc ks Q 1200 (lcL i) [] mS mem := by
  refine st_aload_n (i := 1) rfl (t := 0) rfl (by decide) dL_law_1200 ?_
  refine rd_arg 1201 1 w.scr (by omega) (by omega) hN dL_law_1201 dL_law_1202 dL_law_1204 dL_law_1205 dL_law_1206 ?_
  refine rd_arg 1207 2 w.scr (by omega) (by omega) hN dL_law_1207 dL_law_1208 dL_law_1210 dL_law_1211 dL_law_1212 ?_
  refine st_callV (kc2 := kc) (ks2 := ks) (av := [(0, sc (i + 1)), (0, sc (i + 2))]) 0 10 mr_L_150 ok_X11_longest (st_longest w (sc (i + 1)) (sc (i + 2)) (hr _) (hr _)) rfl sh_0 ⟨_, rfl, rfl, by decide⟩ rfl rfl (by omega) (Nat.le_of_eq (Nat.zero_add kc)) (Nat.le_of_eq (Nat.zero_add ks)) (Nat.le_of_ble_eq_true rfl) dL_law_1213 (mQ.elim fun v1 m1 h1 => ?_)
  obtain ⟨g1, h1⟩ := h1
  refine st_aload_n (i := 2) rfl (t := 0) rfl (by decide) dL_law_1216 ?_
  refine rd_arg 1217 1 (g1.trans w.scr) (by omega) (by omega) hN dL_law_1217 dL_law_1218 dL_law_1220 dL_law_1221 dL_law_1222 ?_
  refine rd_arg 1223 2 (g1.trans w.scr) (by omega) (by omega) hN dL_law_1223 dL_law_1224 dL_law_1226 dL_law_1227 dL_law_1228 ?_
  refine st_callV (kc2 := kc) (ks2 := ks) (av := [(0, sc (i + 1)), (0, sc (i + 2))]) 65 11 mr_L_153 ok_X12_longest h1 rfl sh_65 ⟨_, rfl, rfl, by decide⟩ rfl rfl (by omega) (Nat.le_of_eq (Nat.zero_add kc)) (Nat.le_of_eq (Nat.zero_add ks)) (Nat.le_of_ble_eq_true rfl) dL_law_1229 (mQ.elim fun v2 m2 h2 => ?_)
  obtain ⟨e, h2⟩ := h2
  exact cmp_ok e (by decide) dL_law_1232 (k m2 ls (Inv_more h2 ht.1))
theorem lw_visits (w : Inv sc ls t mem) (hr : ∀ k, R32 (sc k)) (h0 : 0 ≤ i) (hL : i + 6 ≤ sc (-1)) (hN : sc (-1) ≤ 3072) (ht : 0 ≤ t ∧ t ≤ 1000) (hd : 60 ≤ d) (k : ∀ m2 ls', Inv sc ls' (t + 1) m2 → mmT bL_law d kc ks Q 1413 (lcL i) [] mS m2) : mmT bL_law d kc ks Q 1237 (lcL i) [] mS mem := by
  refine st_aload_n (i := 1) rfl (t := 0) rfl (by decide) dL_law_1237 ?_
  refine rd_arg 1238 1 w.scr (by omega) (by omega) hN dL_law_1238 dL_law_1239 dL_law_1241 dL_law_1242 dL_law_1243 ?_
  refine rd_arg 1244 2 w.scr (by omega) (by omega) hN dL_law_1244 dL_law_1245 dL_law_1247 dL_law_1248 dL_law_1249 ?_
  refine st_callV (kc2 := kc) (ks2 := ks) (av := [(0, sc (i + 1)), (0, sc (i + 2))]) 0 10 mr_L_154 ok_X11_visits (st_visits w (sc (i + 1)) (sc (i + 2)) (hr _) (hr _)) rfl sh_0 ⟨_, rfl, rfl, by decide⟩ rfl rfl (by omega) (Nat.le_of_eq (Nat.zero_add kc)) (Nat.le_of_eq (Nat.zero_add ks)) (Nat.le_of_ble_eq_true rfl) dL_law_1250 (mQ.elim fun v1 m1 h1 => ?_)
  obtain ⟨g1, h1⟩ := h1
  refine st_aload_n (i := 2) rfl (t := 0) rfl (by decide) dL_law_1253 ?_
  refine rd_arg 1254 1 (g1.trans w.scr) (by omega) (by omega) hN dL_law_1254 dL_law_1255 dL_law_1257 dL_law_1258 dL_law_1259 ?_
  refine rd_arg 1260 2 (g1.trans w.scr) (by omega) (by omega) hN dL_law_1260 dL_law_1261 dL_law_1263 dL_law_1264 dL_law_1265 ?_
  refine st_callV (kc2 := kc) (ks2 := ks) (av := [(0, sc (i + 1)), (0, sc (i + 2))]) 65 11 mr_L_158 ok_X12_visits h1 rfl sh_65 ⟨_, rfl, rfl, by decide⟩ rfl rfl (by omega) (Nat.le_of_eq (Nat.zero_add kc)) (Nat.le_of_eq (Nat.zero_add ks)) (Nat.le_of_ble_eq_true rfl) dL_law_1266 (mQ.elim fun v2 m2 h2 => ?_)
  obtain ⟨e, h2⟩ := h2
  exact lcmp_ok e (by decide) dL_law_1269 dL_law_1270 (k m2 ls (Inv_more h2 ht.1))
theorem lw_trial (w : Inv sc ls t mem) (hr : ∀ k, R32 (sc k)) (h0 : 0 ≤ i) (hL : i + 6 ≤ sc (-1)) (hN : sc (-1) ≤ 3072) (ht : 0 ≤ t ∧ t ≤ 1000) (hd : 60 ≤ d) (k : ∀ m2 ls', Inv sc ls' (t + 1) m2 → mmT bL_law d kc ks Q 1413 (lcL i) [] mS m2) : mmT bL_law d kc ks Q 1275 (lcL i) [] mS mem := by
  refine st_aload_n (i := 1) rfl (t := 0) rfl (by decide) dL_law_1275 ?_
  refine rd_arg 1276 1 w.scr (by omega) (by omega) hN dL_law_1276 dL_law_1277 dL_law_1279 dL_law_1280 dL_law_1281 ?_
  refine rd_arg 1282 2 w.scr (by omega) (by omega) hN dL_law_1282 dL_law_1283 dL_law_1285 dL_law_1286 dL_law_1287 ?_
  refine st_callV (kc2 := kc) (ks2 := ks) (av := [(0, sc (i + 1)), (0, sc (i + 2))]) 0 10 mr_L_159 ok_X11_trial (st_trial w (sc (i + 1)) (sc (i + 2)) (hr _) (hr _)) rfl sh_0 ⟨_, rfl, rfl, by decide⟩ rfl rfl (by omega) (Nat.le_of_eq (Nat.zero_add kc)) (Nat.le_of_eq (Nat.zero_add ks)) (Nat.le_of_ble_eq_true rfl) dL_law_1288 (mQ.elim fun v1 m1 h1 => ?_)
  obtain ⟨g1, h1⟩ := h1
  refine st_aload_n (i := 2) rfl (t := 0) rfl (by decide) dL_law_1291 ?_
  refine rd_arg 1292 1 (g1.trans w.scr) (by omega) (by omega) hN dL_law_1292 dL_law_1293 dL_law_1295 dL_law_1296 dL_law_1297 ?_
  refine rd_arg 1298 2 (g1.trans w.scr) (by omega) (by omega) hN dL_law_1298 dL_law_1299 dL_law_1301 dL_law_1302 dL_law_1303 ?_
  refine st_callV (kc2 := kc) (ks2 := ks) (av := [(0, sc (i + 1)), (0, sc (i + 2))]) 65 11 mr_L_162 ok_X12_trial h1 rfl sh_65 ⟨_, rfl, rfl, by decide⟩ rfl rfl (by omega) (Nat.le_of_eq (Nat.zero_add kc)) (Nat.le_of_eq (Nat.zero_add ks)) (Nat.le_of_ble_eq_true rfl) dL_law_1304 (mQ.elim fun v2 m2 h2 => ?_)
  obtain ⟨e, h2⟩ := h2
  exact cmp_ok e (by decide) dL_law_1307 (k m2 ls (Inv_more h2 ht.1))
theorem lw_doubtful (w : Inv sc ls t mem) (hr : ∀ k, R32 (sc k)) (h0 : 0 ≤ i) (hL : i + 6 ≤ sc (-1)) (hN : sc (-1) ≤ 3072) (ht : 0 ≤ t ∧ t ≤ 1000) (hd : 60 ≤ d) (k : ∀ m2 ls', Inv sc ls' (t + 1) m2 → mmT bL_law d kc ks Q 1413 (lcL i) [] mS m2) : mmT bL_law d kc ks Q 1312 (lcL i) [] mS mem := by
  refine st_aload_n (i := 1) rfl (t := 0) rfl (by decide) dL_law_1312 ?_
  refine rd_arg 1313 1 w.scr (by omega) (by omega) hN dL_law_1313 dL_law_1314 dL_law_1316 dL_law_1317 dL_law_1318 ?_
  refine st_callV (kc2 := kc) (ks2 := ks) (av := [(0, sc (i + 1))]) 0 10 mr_L_163 ok_X11_doubtful (st_doubtful w (sc (i + 1)) (hr _)) rfl sh_0 ⟨_, rfl, rfl, by decide⟩ rfl rfl (by omega) (Nat.le_of_eq (Nat.zero_add kc)) (Nat.le_of_eq (Nat.zero_add ks)) (Nat.le_of_ble_eq_true rfl) dL_law_1319 (mQ.elim fun v1 m1 h1 => ?_)
  obtain ⟨g1, h1⟩ := h1
  refine st_aload_n (i := 2) rfl (t := 0) rfl (by decide) dL_law_1322 ?_
  refine rd_arg 1323 1 (g1.trans w.scr) (by omega) (by omega) hN dL_law_1323 dL_law_1324 dL_law_1326 dL_law_1327 dL_law_1328 ?_
  refine st_callV (kc2 := kc) (ks2 := ks) (av := [(0, sc (i + 1))]) 65 11 mr_L_166 ok_X12_doubtful h1 rfl sh_65 ⟨_, rfl, rfl, by decide⟩ rfl rfl (by omega) (Nat.le_of_eq (Nat.zero_add kc)) (Nat.le_of_eq (Nat.zero_add ks)) (Nat.le_of_ble_eq_true rfl) dL_law_1329 (mQ.elim fun v2 m2 h2 => ?_)
  obtain ⟨e, h2⟩ := h2
  exact cmp_ok e (by decide) dL_law_1332 (k m2 ls (Inv_more h2 ht.1))
theorem lw_reword (w : Inv sc ls t mem) (hr : ∀ k, R32 (sc k)) (h0 : 0 ≤ i) (hL : i + 6 ≤ sc (-1)) (hN : sc (-1) ≤ 3072) (ht : 0 ≤ t ∧ t ≤ 1000) (hd : 60 ≤ d) (k : ∀ m2 ls', Inv sc ls' (t + 1) m2 → mmT bL_law d kc ks Q 1413 (lcL i) [] mS m2) : mmT bL_law d kc ks Q 1337 (lcL i) [] mS mem := by
  refine st_aload_n (i := 1) rfl (t := 0) rfl (by decide) dL_law_1337 ?_
  refine rd_arg 1338 1 w.scr (by omega) (by omega) hN dL_law_1338 dL_law_1339 dL_law_1341 dL_law_1342 dL_law_1343 ?_
  refine st_callV (kc2 := kc) (ks2 := ks) (av := [(0, sc (i + 1))]) 0 10 mr_L_167 ok_X11_reword (st_reword w (sc (i + 1)) (hr _)) rfl sh_0 ⟨_, rfl, rfl, by decide⟩ rfl rfl (by omega) (Nat.le_of_eq (Nat.zero_add kc)) (Nat.le_of_eq (Nat.zero_add ks)) (Nat.le_of_ble_eq_true rfl) dL_law_1344 (mQ.elim fun v1 m1 h1 => ?_)
  obtain ⟨g1, h1⟩ := h1
  refine st_aload_n (i := 2) rfl (t := 0) rfl (by decide) dL_law_1347 ?_
  refine rd_arg 1348 1 (g1.trans w.scr) (by omega) (by omega) hN dL_law_1348 dL_law_1349 dL_law_1351 dL_law_1352 dL_law_1353 ?_
  refine st_callV (kc2 := kc) (ks2 := ks) (av := [(0, sc (i + 1))]) 65 11 mr_L_170 ok_X12_reword h1 rfl sh_65 ⟨_, rfl, rfl, by decide⟩ rfl rfl (by omega) (Nat.le_of_eq (Nat.zero_add kc)) (Nat.le_of_eq (Nat.zero_add ks)) (Nat.le_of_ble_eq_true rfl) dL_law_1354 (mQ.elim fun v2 m2 h2 => ?_)
  obtain ⟨e, h2⟩ := h2
  exact cmp_ok e (by decide) dL_law_1357 (k m2 ls (Inv_more h2 ht.1))
theorem lw_image (w : Inv sc ls t mem) (hr : ∀ k, R32 (sc k)) (h0 : 0 ≤ i) (hL : i + 6 ≤ sc (-1)) (hN : sc (-1) ≤ 3072) (ht : 0 ≤ t ∧ t ≤ 1000) (hd : 60 ≤ d) (k : ∀ m2 ls', Inv sc ls' (t + 1) m2 → mmT bL_law d kc ks Q 1413 (lcL i) [] mS m2) : mmT bL_law d kc ks Q 1362 (lcL i) [] mS mem := by
  refine st_aload_n (i := 1) rfl (t := 0) rfl (by decide) dL_law_1362 ?_
  refine st_callV (kc2 := kc) (ks2 := ks) (av := []) 0 10 mr_L_171 ok_X11_image (st_image w) rfl sh_0 ⟨_, rfl, rfl, by decide⟩ rfl rfl (by omega) (Nat.le_of_eq (Nat.zero_add kc)) (Nat.le_of_eq (Nat.zero_add ks)) (Nat.le_of_ble_eq_true rfl) dL_law_1363 (mQ.elim fun v1 m1 h1 => ?_)
  obtain ⟨g1, h1⟩ := h1
  refine st_aload_n (i := 2) rfl (t := 0) rfl (by decide) dL_law_1366 ?_
  refine st_callV (kc2 := kc) (ks2 := ks) (av := []) 65 11 mr_L_174 ok_X12_image h1 rfl sh_65 ⟨_, rfl, rfl, by decide⟩ rfl rfl (by omega) (Nat.le_of_eq (Nat.zero_add kc)) (Nat.le_of_eq (Nat.zero_add ks)) (Nat.le_of_ble_eq_true rfl) dL_law_1367 (mQ.elim fun v2 m2 h2 => ?_)
  obtain ⟨e, h2⟩ := h2
  exact cmp_ok e (by decide) dL_law_1370 (k m2 ls (Inv_more h2 ht.1))
theorem lw_back (w : Inv sc ls t mem) (hr : ∀ k, R32 (sc k)) (h0 : 0 ≤ i) (hL : i + 6 ≤ sc (-1)) (hN : sc (-1) ≤ 3072) (ht : 0 ≤ t ∧ t ≤ 1000) (hd : 60 ≤ d) (k : ∀ m2 ls', Inv sc ls' (t + 1) m2 → mmT bL_law d kc ks Q 1413 (lcL i) [] mS m2) : mmT bL_law d kc ks Q 1375 (lcL i) [] mS mem := by
  refine st_aload_n (i := 1) rfl (t := 0) rfl (by decide) dL_law_1375 ?_
  refine st_callV (kc2 := kc) (ks2 := ks) (av := []) 0 10 mr_L_175 ok_X11_back (st_back w) rfl sh_0 ⟨_, rfl, rfl, by decide⟩ rfl rfl (by omega) (Nat.le_of_eq (Nat.zero_add kc)) (Nat.le_of_eq (Nat.zero_add ks)) (Nat.le_of_ble_eq_true rfl) dL_law_1376 (mQ.elim fun v1 m1 h1 => ?_)
  obtain ⟨g1, h1⟩ := h1
  refine st_aload_n (i := 2) rfl (t := 0) rfl (by decide) dL_law_1379 ?_
  refine st_callV (kc2 := kc) (ks2 := ks) (av := []) 65 11 mr_L_178 ok_X12_back h1 rfl sh_65 ⟨_, rfl, rfl, by decide⟩ rfl rfl (by omega) (Nat.le_of_eq (Nat.zero_add kc)) (Nat.le_of_eq (Nat.zero_add ks)) (Nat.le_of_ble_eq_true rfl) dL_law_1380 (mQ.elim fun v2 m2 h2 => ?_)
  obtain ⟨e, h2⟩ := h2
  exact cmp_ok e (by decide) dL_law_1383 (k m2 ls (Inv_more h2 ht.1))
theorem lw_count (w : Inv sc ls t mem) (hr : ∀ k, R32 (sc k)) (h0 : 0 ≤ i) (hL : i + 6 ≤ sc (-1)) (hN : sc (-1) ≤ 3072) (ht : 0 ≤ t ∧ t ≤ 1000) (hd : 60 ≤ d) (k : ∀ m2 ls', Inv sc ls' (t + 1) m2 → mmT bL_law d kc ks Q 1413 (lcL i) [] mS m2) : mmT bL_law d kc ks Q 1388 (lcL i) [] mS mem := by
  refine st_aload_n (i := 1) rfl (t := 0) rfl (by decide) dL_law_1388 ?_
  refine rd_arg 1389 1 w.scr (by omega) (by omega) hN dL_law_1389 dL_law_1390 dL_law_1392 dL_law_1393 dL_law_1394 ?_
  refine st_callV (kc2 := kc) (ks2 := ks) (av := [(0, sc (i + 1))]) 0 10 mr_L_179 ok_X11_count (st_count w (sc (i + 1)) (hr _)) rfl sh_0 ⟨_, rfl, rfl, by decide⟩ rfl rfl (by omega) (Nat.le_of_eq (Nat.zero_add kc)) (Nat.le_of_eq (Nat.zero_add ks)) (Nat.le_of_ble_eq_true rfl) dL_law_1395 (mQ.elim fun v1 m1 h1 => ?_)
  obtain ⟨g1, h1⟩ := h1
  refine st_aload_n (i := 2) rfl (t := 0) rfl (by decide) dL_law_1398 ?_
  refine rd_arg 1399 1 (g1.trans w.scr) (by omega) (by omega) hN dL_law_1399 dL_law_1400 dL_law_1402 dL_law_1403 dL_law_1404 ?_
  refine st_callV (kc2 := kc) (ks2 := ks) (av := [(0, sc (i + 1))]) 65 11 mr_L_182 ok_X12_count h1 rfl sh_65 ⟨_, rfl, rfl, by decide⟩ rfl rfl (by omega) (Nat.le_of_eq (Nat.zero_add kc)) (Nat.le_of_eq (Nat.zero_add ks)) (Nat.le_of_ble_eq_true rfl) dL_law_1405 (mQ.elim fun v2 m2 h2 => ?_)
  obtain ⟨e, h2⟩ := h2
  exact cmp_ok e (by decide) dL_law_1408 (k m2 ls (Inv_more h2 ht.1))
end
