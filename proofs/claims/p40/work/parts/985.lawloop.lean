/-! the law's loop -/
section
variable {sc : Int → Int} {ls : Nat → lawT} {lw n ng im t i x : Int} {b m m1 : mmM}
theorem lw_turn {d kc ks : Nat} (hM : mmMultiI) (hsc : 0 ≤ sc (-1) ∧ sc (-1) ≤ 260) (w : IX sc ls lw n ng im t m) (hd : 60 ≤ d) (ht : 0 ≤ t ∧ t ≤ 1000) (hi : 0 < i ∧ i < 36) (k21 : ∀ ls' lw' n' ng' im' m', IX sc ls' lw' n' ng' im' (t + 1) m' → mmT bL_law d kc ks lQ 21 (lcH lw' n' ng' im' (i + 1)) [] mS m') : mmT bL_law d (kc + 300) (ks + 118000) lQ 21 (lcH lw n ng im i) [] mS m := by
  have h9 := w.scr
  refine st_iload rfl dL_law_21 ?_
  refine st_bipush rfl dL_law_23 ?_
  refine sr_icmp_ge 1046 (by omega) (by omega) (by decide) dL_law_25 (fun h => absurd h (by omega)) (fun _ => ?_)
  refine st_aload_n (i := 0) rfl (t := 1) rfl (by decide) dL_law_28 ?_
  refine st_iload rfl dL_law_29 ?_
  refine st_callS (kc2 := kc + 300) (ks2 := ks + 118000) (av := [(3, 0), (0, i)]) mr_L_7 ok_L_cell (c_L_cell (by rw [h9]; exact hsc) (by omega)) rfl rfl (by omega) (by omega) (by omega) (mmCat_4 (Nat.le_of_ble_eq_true rfl)) dL_law_31 (rI.elim ?_)
  refine st_ldc cw_L_13 dL_law_34 ?_
  refine st_iand dL_law_36 ?_
  show mmT bL_law d _ _ lQ 37 _ [(0, xS (m 999) i)] mS m
  have hx := xS_rng (m 999) i
  obtain ⟨x, ex⟩ : ∃ x, xS (m 999) i = x := ⟨_, rfl⟩
  rw [ex] at hx ⊢
  refine st_istore (by decide) (lc' := [(3, 0), (2, 0), (0, lw), (0, n), (0, ng), (0, im), (0, i), (0, x), (9, 0), (9, 0), (9, 0), (9, 0), (9, 0), (9, 0)]) rfl dL_law_37 ?_
  refine st_iload rfl dL_law_39 ?_
  refine sr_if_ne 48 (by omega) (by decide) dL_law_41 (fun _ => ?_) (fun h => absurd h (by omega))
  refine st_iload rfl dL_law_48 ?_
  refine st_bipush rfl dL_law_50 ?_
  refine sr_irem (by omega) (by omega) dL_law_52 ?_
  have hc : x % 9 = 0 ∨ x % 9 = 1 ∨ x % 9 = 2 ∨ x % 9 = 3 ∨ x % 9 = 4 ∨ x % 9 = 5 ∨ x % 9 = 6 ∨ x % 9 = 7 ∨ x % 9 = 8 := by omega
  have ho := w.odd
  have kk : ∀ ls' lw' n' ng' im' m', IX sc ls' lw' n' ng' im' (t + 1) m' → mmT bL_law d kc ks lQ 626 (lcC lw' n' ng' im' i x) [] mS m' := fun ls' lw' n' ng' im' m' w' => lk_626 w' hd (by omega) hx (fun m2 s => k21 ls' lw' n' ng' im' m2 (IX_same s w'))
  rcases hc with hc | hc | hc | hc | hc | hc | hc | hc | hc
  · rw [hc]
    refine st_tableIn 100 (by decide) (by decide) rfl (by decide) dL_law_53 ?_
    refine st_iload rfl dL_law_100 ?_
    refine sr_if_le 116 (by omega) (by decide) dL_law_102 (fun h => absurd h (by omega)) (fun _ => ?_)
    refine st_iload rfl dL_law_105 ?_
    refine st_bipush rfl dL_law_107 ?_
    refine st_iand dL_law_109 ?_
    have a16 := and32_rng x 16
    refine sr_if_eq 116 (by omega) (by decide) dL_law_110 (fun hv => ?_) (fun hv => ?_)
    · exact lw_a0 (t := t + 1) hM lQ_ok w.1 hd (by omega) hx (by omega) hsc (fun k m' w' => kk _ _ _ _ _ _ w')
    · refine st_goto 626 (by decide) dL_law_113 ?_
      exact mmT.wk (kk _ _ _ _ _ _ (IX_more w ht.1)) (by omega) (by omega)
  · rw [hc]
    refine st_tableIn 177 (by decide) (by decide) rfl (by decide) dL_law_53 ?_
    exact lw_a1 lQ_ok w hd ht hx kk
  · rw [hc]
    refine st_tableIn 287 (by decide) (by decide) rfl (by decide) dL_law_53 ?_
    exact mmT.wk (lw_a2 w hd ht hx kk) (by omega) (by omega)
  · rw [hc]
    refine st_tableIn 323 (by decide) (by decide) rfl (by decide) dL_law_53 ?_
    exact mmT.wk (lw_a3 w hd ht hx kk) (by omega) (by omega)
  · rw [hc]
    refine st_tableIn 411 (by decide) (by decide) rfl (by decide) dL_law_53 ?_
    exact mmT.wk (lw_a4 w hd ht hx kk) (by omega) (by omega)
  · rw [hc]
    refine st_tableIn 453 (by decide) (by decide) rfl (by decide) dL_law_53 ?_
    exact mmT.wk (lw_a5 w hd ht hx kk) (by omega) (by omega)
  · rw [hc]
    refine st_tableIn 453 (by decide) (by decide) rfl (by decide) dL_law_53 ?_
    exact mmT.wk (lw_a5 w hd ht hx kk) (by omega) (by omega)
  · rw [hc]
    refine st_tableIn 545 (by decide) (by decide) rfl (by decide) dL_law_53 ?_
    exact mmT.wk (lw_a7 w hd ht hx kk) (by omega) (by omega)
  · rw [hc]
    refine st_tableOut 615 (Or.inr (by decide)) (by decide) dL_law_53 ?_
    exact mmT.wk (lw_a8 w hd ht hx kk) (by omega) (by omega)
theorem lw_first {d kc ks : Nat} (hM : mmMultiI) (hsc : 0 ≤ sc (-1) ∧ sc (-1) ≤ 260) (w : IB sc ls lw m) (hd : 60 ≤ d) (k21 : ∀ ls' lw' n' ng' im' m', IX sc ls' lw' n' ng' im' 1 m' → mmT bL_law d kc ks lQ 21 (lcH lw' n' ng' im' 1) [] mS m') : mmT bL_law d (kc + 300) (ks + 118000) lQ 21 (lcH lw n ng im 0) [] mS m := by
  have h9 := w.2.2.2.2
  refine st_iload rfl dL_law_21 ?_
  refine st_bipush rfl dL_law_23 ?_
  refine sr_icmp_ge 1046 (by omega) (by omega) (by decide) dL_law_25 (fun h => absurd h (by decide)) (fun _ => ?_)
  refine st_aload_n (i := 0) rfl (t := 1) rfl (by decide) dL_law_28 ?_
  refine st_iload rfl dL_law_29 ?_
  refine st_callS (kc2 := kc + 300) (ks2 := ks + 118000) (av := [(3, 0), (0, 0)]) mr_L_7 ok_L_cell (c_L_cell (by rw [h9]; exact hsc) (by decide)) rfl rfl (by omega) (by omega) (by omega) (mmCat_4 (Nat.le_of_ble_eq_true rfl)) dL_law_31 (rI.elim ?_)
  refine st_ldc cw_L_13 dL_law_34 ?_
  refine st_iand dL_law_36 ?_
  show mmT bL_law d _ _ lQ 37 _ [(0, xS (m 999) 0)] mS m
  have hx := xS_rng (m 999) 0
  obtain ⟨x, ex⟩ : ∃ x, xS (m 999) 0 = x := ⟨_, rfl⟩
  rw [ex] at hx ⊢
  refine st_istore (by decide) (lc' := [(3, 0), (2, 0), (0, lw), (0, n), (0, ng), (0, im), (0, 0), (0, x), (9, 0), (9, 0), (9, 0), (9, 0), (9, 0), (9, 0)]) rfl dL_law_37 ?_
  refine st_iload rfl dL_law_39 ?_
  refine sr_if_ne 48 (by omega) (by decide) dL_law_41 (fun h => absurd h (by decide)) (fun _ => ?_)
  refine st_iconst dL_law_44 ?_
  refine st_goto 53 (by decide) dL_law_45 ?_
  refine st_tableIn 100 (by decide) (by decide) rfl (by decide) dL_law_53 ?_
  refine st_iload rfl dL_law_100 ?_
  refine sr_if_le 116 (by omega) (by decide) dL_law_102 (fun _ => ?_) (fun h => absurd h (by decide))
  exact lw_a0 (i := 0) (t := 1) hM lQ_ok w hd (by decide) hx (by decide) hsc (fun k m' w' => lk_626 w' hd (by decide) hx (fun m2 s => k21 ls lw k 0 (-1) m2 (IX_same s w')))
theorem lw_end {d kc ks : Nat} (w : IX sc ls lw n ng im t m) : mmT bL_law d kc ks lQ 21 (lcH lw n ng im 36) [] mS m := by
  refine mm_fact (P := mFix m) (fun G s H hR => hR.2.2.2.2.2.2.2.1 rfl) (fun hfx => ?_)
  refine st_iload rfl dL_law_21 ?_
  refine st_bipush rfl dL_law_23 ?_
  refine sr_icmp_ge 1046 (by omega) (by omega) (by decide) dL_law_25 (fun _ => ?_) (fun h => absurd h (by decide))
  refine st_iconst dL_law_1046 ?_
  exact st_zreturn rfl (Or.inr rfl) dL_law_1047 ⟨rfl, rfl, mIn_of hfx w.odd⟩
theorem lw_loop {d kc ks : Nat} (hM : mmMultiI) (hsc : 0 ≤ sc (-1) ∧ sc (-1) ≤ 260) (hd : 60 ≤ d) : ∀ (r : Nat) (i : Int), 0 < i → i + r = 36 → ∀ (ls : Nat → lawT) (lw n ng im : Int) (m : mmM), IX sc ls lw n ng im i m → mmT bL_law d (kc + 300 * r) (ks + 118000 * r) lQ 21 (lcH lw n ng im i) [] mS m := by
  intro r
  induction r with
  | zero =>
    intro i i0 i1 ls lw n ng im m w
    have e : i = 36 := by omega
    subst e
    exact lw_end w
  | succ r ih =>
    intro i i0 i1 ls lw n ng im m w
    exact mmT.wk (lw_turn (kc := kc + 300 * r) (ks := ks + 118000 * r) hM hsc w hd (by omega) (by omega) (fun ls' lw' n' ng' im' m' w' => ih (i + 1) (by omega) (by omega) ls' lw' n' ng' im' m' w')) (by omega) (by omega)
theorem lw_run {d kc ks : Nat} (hM : mmMultiI) (hsc : 0 ≤ sc (-1) ∧ sc (-1) ≤ 260) (hd : 60 ≤ d) (w : IB sc ls lw m) : mmT bL_law d (kc + 10800) (ks + 4248000) lQ 21 (lcH lw n ng im 0) [] mS m :=
  mmT.wk (lw_first (kc := kc + 300 * 35) (ks := ks + 118000 * 35) hM hsc w hd (fun ls' lw' n' ng' im' m' w' => lw_loop hM hsc hd 35 1 (by decide) (by decide) ls' lw' n' ng' im' m' w')) (by omega) (by omega)
end
