/-! the law's beginning: every cell made, nothing written but what stays -/
def oALL : List mmO := oX11_1 ++ [(2, 0, 10, 0)]
theorem fix_all (mem : mmM) : mFix (evO oALL mem) := by
  have h : ∀ q ∈ mFixL, lkO oALL q.1 q.2.1 = some q.2.2 := by decide +kernel
  exact fun q hq => lkO_at (h q hq)
theorem inv0 (mem : mmM) : IB (mem 999) (fun _ => []) 0 (evO oALL mem) := by
  have r : ∀ (a : Nat) (v : Int), rwO oALL a = some v → ∀ k, evO oALL mem a k = v := fun a v h k => rwO_at h k
  have l : ∀ (a : Nat) (k v : Int), lkO oALL a k = some v → evO oALL mem a k = v := fun a k v h => lkO_at h
  have e999 : evO oALL mem 999 = mem 999 := noO_at (by decide +kernel)
  generalize hm : evO oALL mem = m at r l e999
  have r2 := r 2 0 (by decide +kernel)
  have r36 := r 36 0 (by decide +kernel)
  have x1 := l 1 1 0 (by decide +kernel)
  have x3 := l 0 11 0 (by decide +kernel)
  have x5 := l 0 12 (-1) (by decide +kernel)
  have z1 := l 58 4 61 (by decide +kernel)
  have z2 := l 58 5 62 (by decide +kernel)
  have t37 : ∀ a, 0 ≤ a → a < 8 → m 37 a = 50 := by
    intro a a0 a1
    have c : a = 0 ∨ a = 1 ∨ a = 2 ∨ a = 3 ∨ a = 4 ∨ a = 5 ∨ a = 6 ∨ a = 7 := by omega
    rcases c with c | c | c | c | c | c | c | c <;> subst c <;> exact l 37 _ 50 (by decide +kernel)
  refine ⟨⟨⟨by omega, fun i i0 i1 => ?_⟩, fun i _ => r2 i⟩, ⟨⟨x3, by omega, by omega⟩, by omega, fun k hk => ?_⟩, fun a a0 a1 => ?_, Or.inl ⟨z1, z2⟩, e999⟩
  · rw [r2]
    omega
  · exfalso
    omega
  · rw [r36, t37 a a0 a1]
    omega
theorem lw_go (hM : mmMulti) (hI : mmMultiI) {d kc ks : Nat} {mem : mmM} (hN : 0 ≤ mem 999 (-1) ∧ mem 999 (-1) ≤ 260) (hd : 60 ≤ d) : mmT bL_law d ((kc + 10800) + 64 + 1) ((ks + 4248000) + 2960 + 13) lQ 0 [(3, 0), (9, 0), (9, 0), (9, 0), (9, 0), (9, 0), (9, 0), (9, 0), (9, 0), (9, 0), (9, 0), (9, 0), (9, 0), (9, 0)] [] (true, mSH.take 0) (evO [] mem) := by
  refine sn_new (n := 0) (kc := (kc + 10800) + 64) (ks := (ks + 4248000) + 2960) RX11 TX11 rfl (by decide) mty_10 (by decide +kernel) inX11 cl_L_15 (mm_wk1 30 (by decide +kernel) rfl) ok_X11_init.2.1 sh_0 (by decide) dL_law_0 ?_
  refine st_dup (by decide) dL_law_3 ?_
  refine st_callI 0 mr_L_78 rfl ok_X11_init (ci_X11_1 hM _) rfl rfl rfl (by omega) (kc2 := kc + 10800) (ks2 := ks + 4248000) (av := []) (by omega) (by omega) (Nat.le_of_ble_eq_true rfl) dL_law_4 (iQ.elim ?_)
  refine st_astore_n (i := 1) (lc' := [(3, 0), (2, 0), (9, 0), (9, 0), (9, 0), (9, 0), (9, 0), (9, 0), (9, 0), (9, 0), (9, 0), (9, 0), (9, 0), (9, 0)]) rfl (by decide) rfl (by decide) dL_law_7 ?_
  refine st_seal (fix_all mem) ?_
  show mmT bL_law d _ _ lQ 8 _ [] mS (evO oALL mem)
  refine st_iconst dL_law_8 ?_
  refine st_istore_n (i := 2) (lc' := [(3, 0), (2, 0), (0, 0), (9, 0), (9, 0), (9, 0), (9, 0), (9, 0), (9, 0), (9, 0), (9, 0), (9, 0), (9, 0), (9, 0)]) rfl (by decide) rfl dL_law_9 ?_
  refine st_iconst dL_law_10 ?_
  refine st_istore_n (i := 3) (lc' := [(3, 0), (2, 0), (0, 0), (0, 0), (9, 0), (9, 0), (9, 0), (9, 0), (9, 0), (9, 0), (9, 0), (9, 0), (9, 0), (9, 0)]) rfl (by decide) rfl dL_law_11 ?_
  refine st_iconst dL_law_12 ?_
  refine st_istore (i := 4) (lc' := [(3, 0), (2, 0), (0, 0), (0, 0), (0, 0), (9, 0), (9, 0), (9, 0), (9, 0), (9, 0), (9, 0), (9, 0), (9, 0), (9, 0)]) (by decide) rfl dL_law_13 ?_
  refine st_iconst dL_law_15 ?_
  refine st_istore (i := 5) (lc' := [(3, 0), (2, 0), (0, 0), (0, 0), (0, 0), (0, -1), (9, 0), (9, 0), (9, 0), (9, 0), (9, 0), (9, 0), (9, 0), (9, 0)]) (by decide) rfl dL_law_16 ?_
  refine st_iconst dL_law_18 ?_
  refine st_istore (i := 6) (lc' := lcH 0 0 0 (-1) 0) (by decide) rfl dL_law_19 ?_
  exact lw_run hI (sc := mem 999) (ls := fun _ => []) hN hd (inv0 mem)
