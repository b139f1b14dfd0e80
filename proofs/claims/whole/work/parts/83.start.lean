/-! the law's beginning: every cell made, nothing written but what stays -/
def oALL : List mmO := (1, 99, 0, 0) :: (oX12_66 ++ (2, 65, 11, 0) :: (oX11_1 ++ [(2, 0, 10, 0)]))
theorem fix_all (mem : mmM) : mFix (evO oALL mem) := by
  have h : ∀ q ∈ mFixL, lkO oALL q.1 q.2.1 = some q.2.2 := by decide +kernel
  exact fun q hq => lkO_at (h q hq)
theorem inv0 (mem : mmM) : Inv (mem 999) (fun _ => []) 0 (evO oALL mem) := by
  have r : ∀ (a : Nat) (v : Int), rwO oALL a = some v → ∀ k, evO oALL mem a k = v := fun a v h k => rwO_at h k
  have l : ∀ (a : Nat) (k v : Int), lkO oALL a k = some v → evO oALL mem a k = v := fun a k v h => lkO_at h
  have e999 : evO oALL mem 999 = mem 999 := noO_at (by decide +kernel)
  generalize hm : evO oALL mem = m at r l e999
  have r2 := r 2 0 (by decide +kernel)
  have r66 := r 66 0 (by decide +kernel)
  have r36 := r 36 0 (by decide +kernel)
  have r83 := r 83 0 (by decide +kernel)
  have r48 := r 48 0 (by decide +kernel)
  have r85 := r 85 0 (by decide +kernel)
  have r79 := r 79 0 (by decide +kernel)
  have r80 := r 80 0 (by decide +kernel)
  have r81 := r 81 0 (by decide +kernel)
  have x1 := l 1 1 0 (by decide +kernel)
  have x2 := l 65 2 0 (by decide +kernel)
  have x3 := l 0 11 0 (by decide +kernel)
  have x4 := l 65 13 0 (by decide +kernel)
  have x5 := l 0 12 (-1) (by decide +kernel)
  have x6 := l 65 28 (-1) (by decide +kernel)
  have x7 := l 23 1 0 (by decide +kernel)
  have x8 := l 65 27 0 (by decide +kernel)
  have x9 := l 23 0 0 (by decide +kernel)
  have x10 := l 65 26 0 (by decide +kernel)
  have y0 := l 47 0 0 (by decide +kernel)
  have y1 := l 47 1 0 (by decide +kernel)
  have y2 := l 47 2 0 (by decide +kernel)
  have y3 := l 65 31 0 (by decide +kernel)
  have y4 := l 65 32 0 (by decide +kernel)
  have y5 := l 65 34 0 (by decide +kernel)
  have y6 := l 65 45 0 (by decide +kernel)
  have y7 := l 65 58 0 (by decide +kernel)
  have y8 := l 47 4 0 (by decide +kernel)
  have z1 := l 58 4 61 (by decide +kernel)
  have z2 := l 58 5 62 (by decide +kernel)
  have t37 : ∀ a, 0 ≤ a → a < 8 → m 37 a = 50 := by
    intro a a0 a1
    have c : a = 0 ∨ a = 1 ∨ a = 2 ∨ a = 3 ∨ a = 4 ∨ a = 5 ∨ a = 6 ∨ a = 7 := by omega
    rcases c with c | c | c | c | c | c | c | c <;> subst c <;> exact l 37 _ 50 (by decide +kernel)
  have t84 : ∀ a, 0 ≤ a → a < 8 → m 84 a = 50 := by
    intro a a0 a1
    have c : a = 0 ∨ a = 1 ∨ a = 2 ∨ a = 3 ∨ a = 4 ∨ a = 5 ∨ a = 6 ∨ a = 7 := by omega
    rcases c with c | c | c | c | c | c | c | c <;> subst c <;> exact l 84 _ 50 (by decide +kernel)
  refine ⟨?_, ?_, ?_, ?_, ?_, ?_, ?_, ?_, ?_⟩
  · refine ⟨by omega, by rw [x2, x1], fun i _ => by rw [r66, r2], fun i i0 i1 => ?_⟩
    rw [r2, x1]
    omega
  · refine ⟨by omega, by rw [x4, x3], by omega, by rw [x6, x5], fun k hk => ?_⟩
    exfalso
    rw [x3] at hk
    omega
  · refine ⟨⟨by omega, fun i i0 i1 => ?_⟩, by rw [x7, x8], by rw [x9, x10], fun i i0 i1 => by exfalso; omega⟩
    rw [r79, r80, r81]
    omega
  · refine ⟨fun a a0 a1 => ?_, fun i i0 i1 => by exfalso; omega⟩
    rw [r36, r83, t37 a a0 a1, t84 a a0 a1]
    omega
  · exact fun i i0 i1 => by exfalso; omega
  · refine ⟨⟨by omega, by rw [y3, y0]⟩, ⟨by omega, by rw [y4, y1], by rw [y1]; decide⟩, ⟨by omega, by rw [y5, y2], ⟨fun _ => y2, fun _ => y6⟩⟩, fun i i0 i1 => ?_⟩
    rw [r48, r85]
    exact ⟨by omega, by omega, fun _ => rfl, fun _ => rfl⟩
  · exact ⟨⟨fun _ => y8, fun _ => y7⟩, fun h => absurd y8 h⟩
  · exact fun h => absurd y2 h
  · exact ⟨Or.inl ⟨z1, z2⟩, e999⟩
theorem lw_go (hM : mmMulti) {d : Nat} {Q : mmQ} {mem : mmM} (hr : ∀ k, R32 (mem 999 k)) (hN : 0 ≤ mem 999 (-1) ∧ mem 999 (-1) ≤ 3072) (hd : 60 ≤ d) (hq : ∀ m, Q (some (0, 1)) mS m) : mmT bL_law d 612 12324 Q 0 [(3, 0), (9, 0), (9, 0), (9, 0), (9, 0), (9, 0), (9, 0)] [] (true, mSH.take 0) (evO [] mem) := by
  refine sn_new (n := 0) (kc := 611) (ks := 12311) RX11 TX11 rfl (by decide) mty_10 (by decide +kernel) inX11 (mm_wk1 22 (by decide +kernel) rfl) (mm_wk1 23 (by decide +kernel) rfl) ok_X11_init.2.1 sh_0 (by decide) dL_law_0 ?_
  refine st_dup (by decide) dL_law_3 ?_
  refine st_callI 0 mr_L_15 rfl ok_X11_init (ci_X11_1 hM _) rfl rfl rfl (by omega) (kc2 := 547) (ks2 := 9351) (av := []) (by decide) (by decide) (Nat.le_of_ble_eq_true rfl) dL_law_4 (iQ.elim ?_)
  refine st_astore_n (i := 1) (lc' := [(3, 0), (2, 0), (9, 0), (9, 0), (9, 0), (9, 0), (9, 0)]) rfl (by decide) rfl (by decide) dL_law_7 ?_
  refine sn_new (n := 65) (kc := 546) (ks := 9292) RX12 TX12 rfl (by decide) mty_11 (by decide +kernel) inX12 (mm_wk5 140 (by decide +kernel) rfl) (mm_wk5 141 (by decide +kernel) rfl) ok_X12_init.2.1 sh_65 (by decide) dL_law_8 ?_
  refine st_dup (by decide) dL_law_11 ?_
  refine st_callI 65 mr_L_18 rfl ok_X12_init (ci_X12_66 _) rfl rfl rfl (by omega) (kc2 := 513) (ks2 := 3073) (av := []) (by decide) (by decide) (Nat.le_of_ble_eq_true rfl) dL_law_12 (iQ.elim ?_)
  refine st_astore_n (i := 2) (lc' := [(3, 0), (2, 0), (2, 65), (9, 0), (9, 0), (9, 0), (9, 0)]) rfl (by decide) rfl (by decide) dL_law_15 ?_
  refine st_iconst dL_law_16 ?_
  refine sn_arr (n := 99) (kc := 512) (ks := 3072) (Or.inr (Or.inl ⟨rfl, rfl⟩)) (mm_wk1 220 (by decide +kernel) rfl) rfl (by decide) sh_99 (by decide) dL_law_17 ?_
  refine st_astore_n (i := 3) (lc' := [(3, 0), (2, 0), (2, 65), (2, 99), (9, 0), (9, 0), (9, 0)]) rfl (by decide) rfl (by decide) dL_law_19 ?_
  refine st_seal (fix_all mem) ?_
  refine st_iconst dL_law_20 ?_
  refine st_istore (i := 4) (lc' := lcL (6 * 0)) (by decide) rfl dL_law_21 ?_
  exact lw_run hr hN hd hq 512 0 (fun _ => []) (evO oALL mem) (inv0 mem) (by decide) (by decide) (by omega)
