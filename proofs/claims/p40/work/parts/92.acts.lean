theorem bcz_eq {a b c : Nat} (ha : a < 256) (hb : b < 256) (hc : c < 256) (ta : ∀ t : Fin 4, (64 * t.val + a / 4) &&& 51 = (a / 4) &&& 51) (tb : ∀ t : Fin 4, (64 * t.val + b / 4) &&& 51 = (b / 4) &&& 51) : bcz (256 * (256 * c + b) + a) = 256 * (256 * bc2 c + bc2 b) + bc2 a := by
  unfold bcz bc2
  rw [show (858993459 : Nat) = 256 * 3355443 + 51 from rfl, bc_s2 ha ta, and_split8 _ _ _ _ ha (by decide), show (3355443 : Nat) = 256 * 13107 + 51 from rfl, bc_s2 hb tb, and_split8 _ _ _ _ hb (by decide), show (13107 : Nat) = 256 * 51 + 51 from rfl, and_small (show c / 4 < 256 by omega) (by decide), and_small hc (by decide)]
  omega
theorem bcS_nat (a b c : Nat) (ha : a < 256) (hb : b < 256) (hc : c < 256) : bcS ((256 * (256 * c + b) + a : Nat) : Int) = popc ((256 * (256 * c + b) + a : Nat) : Int) := by
  have ey := bcy_eq ha hb hc
  have ta := bc_tab ⟨a, ha⟩
  have tb := bc_tab ⟨b, hb⟩
  have tc := bc_tab ⟨c, hc⟩
  simp only at ta tb tc
  obtain ⟨a1, a2, a3, a4, a5, a6, a7⟩ := ta
  obtain ⟨b1, b2, b3, b4, b5, b6, b7⟩ := tb
  obtain ⟨c1, c2, c3, c4, c5, c6, c7⟩ := tc
  have ez := bcz_eq a3 b3 c3 a4 b4
  have eu := bcu_eq ⟨a5, a6⟩ ⟨b5, b6⟩ ⟨c5, c6⟩
  have ep : popc ((256 * (256 * c + b) + a : Nat) : Int) = (((bc2 (bc1 a) / 16 + bc2 (bc1 a) % 16) + (bc2 (bc1 b) / 16 + bc2 (bc1 b) % 16) + (bc2 (bc1 c) / 16 + bc2 (bc1 c) % 16) : Nat) : Int) := by
    rw [popc_nat a b c ha hb hc, a7, b7, c7]
  clear a7 b7 c7
  rw [ep]
  generalize hn : 256 * (256 * c + b) + a = n at *
  have hn2 : n < 16777216 := by omega
  have q1 : (n : Int) - and32 (ushr32 (n : Int) 1) 1431655765 = ((bcy n : Nat) : Int) := by
    have e1 : ushr32 (n : Int) 1 = ((n / 2 : Nat) : Int) := ushrN 1 (by omega) (by decide)
    have e2 : and32 ((n / 2 : Nat) : Int) 1431655765 = ((n / 2 &&& 1431655765 : Nat) : Int) := and32_nat (y := 1431655765) (by omega) (by decide)
    have : n / 2 &&& 1431655765 ≤ n / 2 := Nat.and_le_left
    rw [e1, e2]
    unfold bcy
    omega
  have hy : bcy n < 16777216 := by rw [ey]; omega
  have q2 : and32 ((bcy n : Nat) : Int) 858993459 + and32 (ushr32 ((bcy n : Nat) : Int) 2) 858993459 = ((bcz (bcy n) : Nat) : Int) := by
    have e1 : ushr32 ((bcy n : Nat) : Int) 2 = ((bcy n / 4 : Nat) : Int) := ushrN 2 (by omega) (by decide)
    have e2 : and32 ((bcy n / 4 : Nat) : Int) 858993459 = ((bcy n / 4 &&& 858993459 : Nat) : Int) := and32_nat (y := 858993459) (by omega) (by decide)
    have e3 : and32 ((bcy n : Nat) : Int) 858993459 = ((bcy n &&& 858993459 : Nat) : Int) := and32_nat (y := 858993459) (by omega) (by decide)
    rw [e1, e2, e3]
    unfold bcz
    omega
  rw [← ey] at ez
  have hz : bcz (bcy n) < 16777216 := by rw [ez]; omega
  have q3 : and32 (((bcz (bcy n) : Nat) : Int) + ushr32 ((bcz (bcy n) : Nat) : Int) 4) 252645135 = ((bcu (bcz (bcy n)) : Nat) : Int) := by
    have e1 : ushr32 ((bcz (bcy n) : Nat) : Int) 4 = ((bcz (bcy n) / 16 : Nat) : Int) := ushrN 4 (by omega) (by decide)
    have e2 : and32 (((bcz (bcy n) + bcz (bcy n) / 16) : Nat) : Int) 252645135 = (((bcz (bcy n) + bcz (bcy n) / 16) &&& 252645135 : Nat) : Int) := and32_nat (y := 252645135) (by omega) (by decide)
    rw [e1, ← Int.natCast_add, e2]
    rfl
  rw [← ez] at eu
  unfold bcS
  rw [q1, q2, q3]
  generalize bcu (bcz (bcy n)) = u at *
  have e1 : ushr32 (u : Int) 8 = ((u / 256 : Nat) : Int) := ushrN 8 (by omega) (by decide)
  have e2 : ushr32 ((u + u / 256 : Nat) : Int) 16 = (((u + u / 256) / 65536 : Nat) : Int) := ushrN 16 (by omega) (by decide)
  have e3 : and32 ((u + u / 256 + (u + u / 256) / 65536 : Nat) : Int) 63 = ((u + u / 256 + (u + u / 256) / 65536 &&& 63 : Nat) : Int) := and32_nat (y := 63) (by omega) (by decide)
  rw [e1, ← Int.natCast_add, e2, ← Int.natCast_add, e3, show (63 : Nat) = 2 ^ 6 - 1 by decide, Nat.and_two_pow_sub_one_eq_mod, bc_fin eu (by omega) (by omega) (by omega)]
theorem bcS_eq {x : Int} (h0 : 0 ≤ x) (h1 : x < 16777216) : bcS x = popc x := by
  have := bcS_nat (x.toNat % 256) (x.toNat / 256 % 256) (x.toNat / 65536) (by omega) (by omega) (by omega)
  rw [show ((256 * (256 * (x.toNat / 65536) + x.toNat / 256 % 256) + x.toNat % 256 : Nat) : Int) = x by omega] at this
  exact this
theorem bcS_zero : bcS 0 = 0 := by
  rw [bcS_eq (by decide) (by decide)]
  decide +kernel
/-! the odds -/
section
variable {sc : Int → Int} {ls : Nat → lawT} {lw n ng im t : Int} {b m : mmM}
theorem IX.odK (w : IX sc ls lw n ng im t b) (mk x : Int) : odK n x.toNat (EX b mk x) := by
  have := w.nn
  have h := odN_ok (odP_X w.nightP mk) (by rw [w.size]; omega) x.toNat
  unfold EX
  rw [w.size] at h ⊢
  exact h
theorem IX.chanceR (w : IX sc ls lw n ng im t b) (mk x : Int) : (0 ≤ (EX b mk x).2.1 ∧ (EX b mk x).2.1 ≤ 1000000000) ∧ (0 ≤ sumTo (EX b mk x).2.2.1 n.toNat ∧ (EX b mk x).2.1 + sumTo (EX b mk x).2.2.1 n.toNat ≤ 1000000000) ∧ ∀ k, 0 ≤ k → k < n → 0 ≤ (EX b mk x).2.2.1 k ∧ (EX b mk x).2.2.1 k ≤ 1000000000 := by
  have h := w.odK mk x
  have s := odK_sum h
  have h5 := h.2.2.2.2
  exact ⟨s.2.1, ⟨s.2.2.1.1, by omega⟩, fun k k0 k1 => ⟨h.2.2.1 k k0 k1, s.2.2.2.2 k k0 k1⟩⟩
theorem IX.chanceM (w : IX sc ls lw n ng im t b) (mk x : Int) (hx : 0 ≤ x) : (EX b mk x).2.1 ≤ (EX b mk (x + 1)).2.1 := by
  have := w.nn
  have h := (odN_later (odP_X w.nightP mk) (by rw [w.size]; omega) x.toNat 1).1
  unfold EX
  rw [show (x + 1).toNat = x.toNat + 1 by omega]
  exact h
theorem undF_in {act : Int} {E : Int → Int} (hE : ∀ a, 0 ≤ E a ∧ E a ≤ 1000000000) : ((undF act E).1 = -1 ∧ (undF act E).2 = -1) ∨ (0 ≤ (undF act E).1 ∧ 0 ≤ (undF act E).2 ∧ (undF act E).2 ≤ 1000000000) :=
  foldTo_inv (g := undG act E) (z := (-1, -1)) (n := 8) (fun i p => (p.1 = -1 ∧ p.2 = -1) ∨ (0 ≤ p.1 ∧ 0 ≤ p.2 ∧ p.2 ≤ 1000000000)) (Or.inl ⟨rfl, rfl⟩) (fun i p i0 i1 hi => undG_bnd hE p i 0 i0 hi)
theorem IX.und (w : IX sc ls lw n ng im t b) (mk x : Int) : 0 ≤ (undF (actF n (b 24)) (fun a => (ESX b mk a x).2.1)).2 ∧ (undF (actF n (b 24)) (fun a => (ESX b mk a x).2.1)).2 ≤ 1000000000 := by
  have hn := w.nn
  have hE : ∀ a, 0 ≤ (ESX b mk a x).2.1 ∧ (ESX b mk a x).2.1 ≤ 1000000000 := fun a => ESX_ok w.nightP (by rw [w.size]; omega) mk a x
  have ha : ∀ i, 0 ≤ i → i < n → 0 ≤ b 24 i ∧ b 24 i < 8 := fun i i0 i1 => (w.row i i0 i1).1
  have T := actF_tb (a := b 24) (show 0 ≤ n by omega) ha
  have a0 := ha 0 (by decide) (by omega)
  have s := undF_some (act := actF n (b 24)) hE (b 24 0) a0 ((bit_tb T.1.1 (by omega) a0.1 (by omega)).mpr ((T.2 _ a0.1).mpr ⟨0, by decide, by omega, rfl⟩))
  rcases undF_in (act := actF n (b 24)) hE with ⟨q, -⟩ | q
  · exact absurd q s
  · exact q.2
end
/-! acts: a mark, a set, a law held, what is learnt, the image -/
theorem mark_bcs {n x k : Int} (hn : n ≤ 24) (hx : 0 ≤ x ∧ x < p2 n) (hk : 0 ≤ k ∧ k < n) : (0 ≤ xor32 x (shl32 1 k) ∧ xor32 x (shl32 1 k) < p2 n) ∧ bcS (xor32 x (shl32 1 k)) = bcS x + (if and32 (shr32 x k) 1 = 1 then -1 else 1) := by
  have p := p2_24 hn
  have xb := bit_iff (x := x) (k := k) hx.1 (by omega) hk.1 (by omega)
  by_cases q : and32 (shr32 x k) 1 = 1
  · have tq := (bit_tb (x := x) (k := k) hx.1 (by omega) hk.1 (by omega)).mp q
    have s := tb_sub hx.1 hk.1 tq
    rw [if_pos q, xor32_bit hx.1 (by omega) hk.1 (by omega) (xb.mp q)]
    refine ⟨by omega, ?_⟩
    rw [bcS_eq s.1.1 (by omega), bcS_eq hx.1 (by omega), popc_sub hx.1 hk.1 (by omega) tq]
    omega
  · have tq : tb x k = false := by
      cases e : tb x k with
      | false => rfl
      | true => exact absurd ((bit_tb (x := x) (k := k) hx.1 (by omega) hk.1 (by omega)).mpr e) q
    have s := tb_add hx.1 hx.2 hk.1 hk.2 (by omega) tq
    rw [if_neg q, (xor32_set hx.1 (by omega) hk.1 (by omega) q).1]
    refine ⟨s.1, ?_⟩
    have tt : tb (x + p2 k) k = true := by
      rw [s.2.2 k hk.1, decide_eq_true rfl, Bool.or_true]
    have e := popc_sub s.1.1 hk.1 (by omega) tt
    rw [show x + p2 k - p2 k = x by omega] at e
    rw [bcS_eq s.1.1 (by omega), bcS_eq hx.1 (by omega), e]
    omega
section
variable {sc : Int → Int} {ls : Nat → lawT} {lw n ng im t : Int} {b m : mmM}
theorem IX_marks (w : IX sc ls lw n ng im t b) {v : Int} (hv : 0 ≤ v ∧ v < p2 n) : IX sc ls lw n ng im t (mset b 47 0 v) := by
  obtain ⟨⟨w1, w2, w3, w4, w5⟩, p2, p3, p4, ⟨n1, n2, n3⟩, p6⟩ := w
  have k4 := w2.1
  have e : ∀ a, a ≠ 47 → mset b 47 0 v a = b a := fun a ha => mset_ne ha
  refine ⟨⟨jbyt_of (by rw [e 1 (by decide)]) (e 2 (by decide)) w1, jLaws_of ⟨by rw [e 0 (by decide)], by rw [e 0 (by decide)]⟩ (fun k hk => ⟨by rw [e _ (by omega)], e _ (by omega)⟩) w2, ?_, odOr_of (e 58 (by decide)) w4, (e 999 (by decide)).trans w5⟩, ?_, ?_, ?_, ?_, ?_⟩
  · unfold jActs
    rw [e 36 (by decide), e 37 (by decide)]
    exact w3
  · unfold jPlay
    rw [e 23 (by decide), e 24 (by decide), e 26 (by decide), e 29 (by decide), e 30 (by decide)]
    exact p2
  · unfold jLeap
    rw [e 24 (by decide), e 28 (by decide), e 36 (by decide), e 38 (by decide)]
    exact p3
  · unfold jWorth
    rw [e 31 (by decide), e 32 (by decide)]
    exact p4
  · unfold jNotes
    rw [e 48 (by decide), mset_same, mset_at, if_neg (by decide)]
    exact ⟨hv, n2, n3⟩
  · unfold jImg
    rw [e 49 (by decide), mset_at, if_neg (by decide), mset_at, if_neg (by decide)]
    exact p6
theorem am_not (w : IX sc ls lw n ng im t b) (k x : Int) (hk : 0 ≤ k ∧ k < n) (hx : x = b2i (and32 (shr32 (b 47 0) k) 1 = 1)) (s : same b m) : con 0 bX11_mark 2 [(2, 0), (0, k), (0, x)] m (lk b (fun v => v = 0)) := by
  have hn := w.nn
  have r := b2i_rng (and32 (shr32 (b 47 0) k) 1 = 1)
  refine con.mono (c_X11_mark m k x (R32_of (by omega) (by omega)) (R32_of (by omega) (by omega))) (fun v m' q => ?_)
  rw [s.1 47 (by unfold keepC; omega), ← hx, if_neg (fun z => z.2 rfl), if_neg (fun z => z.2 rfl)] at q
  exact ⟨q.1, by rw [q.2]; exact s⟩
theorem am_yes (w : IX sc ls lw n ng im t b) (k x : Int) (hk : 0 ≤ k ∧ k < n) (hx : x = 1 - b2i (and32 (shr32 (b 47 0) k) 1 = 1)) (s : same b m) : con 0 bX11_mark 2 [(2, 0), (0, k), (0, x)] m (fun v m' => v = 1 ∧ IX sc ls lw n ng im t m' ∧ bcS (m' 47 0) = bcS (b 47 0) + (if and32 (shr32 (b 47 0) k) 1 = 1 then -1 else 1)) := by
  have hn := w.nn
  have r := b2i_rng (and32 (shr32 (b 47 0) k) 1 = 1)
  have w1 := IX_same s w
  refine con.mono (c_X11_mark m k x (R32_of (by omega) (by omega)) (R32_of (by omega) (by omega))) (fun v m' q => ?_)
  have g : (0 ≤ k ∧ k < m 23 1) ∧ ¬ b2i (and32 (shr32 (m 47 0) k) 1 = 1) = x := by
    rw [w1.size, s.1 47 (by unfold keepC; omega)]
    refine ⟨hk, fun z => ?_⟩
    omega
  rw [if_pos g, if_pos g] at q
  have mb := mark_bcs (x := m 47 0) (k := k) (show n ≤ 24 by omega) w1.marks hk
  refine ⟨q.1, ?_, ?_⟩
  · rw [q.2]
    exact IX_marks w1 mb.1
  · rw [q.2, mset_same, mb.2, s.1 47 (by unfold keepC; omega)]
end
