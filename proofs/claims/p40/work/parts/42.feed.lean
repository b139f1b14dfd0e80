/-! feeding the tape, and its end -/
theorem and32_255 {z : Int} (h : R32 z) : 0 ≤ and32 z 255 ∧ and32 z 255 ≤ 255 := by
  have a : ∀ n : Nat, 0 ≤ and32 (n : Int) 255 ∧ and32 (n : Int) 255 ≤ 255 := by
    intro n
    have e := and32_any (x := n) (y := 255) (by decide)
    have l : n &&& 255 ≤ 255 := Nat.and_le_right
    have e' : and32 (n : Int) 255 = ((n &&& 255 : Nat) : Int) := e
    omega
  by_cases q : 0 ≤ z
  · have := a z.toNat
    rw [Int.toNat_of_nonneg q] at this
    exact this
  · rw [← and32_w]
    have := a (z + 4294967296).toNat
    rw [Int.toNat_of_nonneg (by have := h.1; omega)] at this
    exact this
def byX (x k : Int) : Int := and32 (ushr32 x k) 255
theorem byX_rng (x k : Int) : 0 ≤ byX x k ∧ byX x k ≤ 255 := and32_255 (ushr32_rng _ _)
def nzS (v : Int) : Int := if v = 0 then 0 else 1
theorem nzS_rng (v : Int) : 0 ≤ nzS v ∧ nzS v ≤ 1 := by
  unfold nzS
  split <;> omega
/-- one byte laid on a tape: row r, its size at s, j -/
def ap1 (r s : Nat) (j v : Int) (m : mmM) : mmM := if v = 0 then m else mset (mset m r (m s j) v) s j (m s j + 1)
theorem ap1_size {r s : Nat} (hrs : s ≠ r) (j v : Int) (m : mmM) : ap1 r s j v m s j = m s j + nzS v := by
  unfold ap1 nzS
  by_cases q : v = 0
  · rw [if_pos q, if_pos q]
    omega
  · rw [if_neg q, if_neg q, mset_same]
theorem ap1_row {r s : Nat} (hrs : s ≠ r) (j v : Int) (m : mmM) : ap1 r s j v m r = if v = 0 then m r else updF (m r) (m s j) v := by
  unfold ap1
  by_cases q : v = 0
  · rw [if_pos q, if_pos q]
  · rw [if_neg q, if_neg q, mset_ne (fun e => hrs e.symm)]
    funext i
    rw [mset_at]
    rfl
theorem ap1_else {r s : Nat} (j v : Int) (m : mmM) {a : Nat} (h1 : a ≠ r) (h2 : a ≠ s) : ap1 r s j v m a = m a := by
  unfold ap1
  by_cases q : v = 0
  · rw [if_pos q]
  · rw [if_neg q, mset_ne h2, mset_ne h1]
theorem ap1_slot {r s : Nat} (hrs : s ≠ r) (j v : Int) (m : mmM) {i : Int} (h : i ≠ j) : ap1 r s j v m s i = m s i := by
  unfold ap1
  by_cases q : v = 0
  · rw [if_pos q]
  · rw [if_neg q, mset_at, if_neg h, mset_ne hrs]
/-- k bytes, one after the other -/
def apN (r s : Nat) (j : Int) (B : Nat → Int) (m : mmM) : Nat → mmM
  | 0 => m
  | k + 1 => ap1 r s j (B k) (apN r s j B m k)
def nzN (B : Nat → Int) : Nat → Int
  | 0 => 0
  | k + 1 => nzN B k + nzS (B k)
theorem nzN_rng (B : Nat → Int) : ∀ k : Nat, 0 ≤ nzN B k ∧ nzN B k ≤ k := by
  intro k
  induction k with
  | zero => exact ⟨Int.le_refl 0, Int.le_refl 0⟩
  | succ k ih =>
    have := nzS_rng (B k)
    show 0 ≤ nzN B k + nzS (B k) ∧ nzN B k + nzS (B k) ≤ ((k + 1 : Nat) : Int)
    omega
theorem nzN_mono (B : Nat → Int) {k l : Nat} (h : k ≤ l) : nzN B k ≤ nzN B l := by
  induction l with
  | zero =>
    rw [show k = 0 by omega]
    exact Int.le_refl _
  | succ l ih =>
    by_cases q : k = l + 1
    · rw [q]
      exact Int.le_refl _
    · have := ih (by omega)
      have := nzS_rng (B l)
      show nzN B k ≤ nzN B l + nzS (B l)
      omega
theorem apN_size {r s : Nat} (hrs : s ≠ r) (j : Int) (B : Nat → Int) (m : mmM) : ∀ k : Nat, apN r s j B m k s j = m s j + nzN B k := by
  intro k
  induction k with
  | zero => exact (Int.add_zero _).symm
  | succ k ih =>
    show ap1 r s j (B k) (apN r s j B m k) s j = _
    rw [ap1_size hrs, ih]
    show _ = m s j + (nzN B k + nzS (B k))
    omega
theorem apN_else {r s : Nat} (j : Int) (B : Nat → Int) (m : mmM) {a : Nat} (h1 : a ≠ r) (h2 : a ≠ s) : ∀ k : Nat, apN r s j B m k a = m a := by
  intro k
  induction k with
  | zero => rfl
  | succ k ih => exact (ap1_else _ _ _ h1 h2).trans ih
theorem apN_slot {r s : Nat} (hrs : s ≠ r) (j : Int) (B : Nat → Int) (m : mmM) {i : Int} (h : i ≠ j) : ∀ k : Nat, apN r s j B m k s i = m s i := by
  intro k
  induction k with
  | zero => rfl
  | succ k ih => exact (ap1_slot hrs _ _ _ h).trans ih
/-- two tapes that are alike stay alike -/
theorem apN_same {r s r' s' : Nat} {j j' : Int} (hrs : s ≠ r) (hrs' : s' ≠ r') (B : Nat → Int) {m m' : mmM} (hs : m s j = m' s' j') (hr : ∀ i, 0 ≤ i → i < 160 → m r i = m' r' i) : ∀ k : Nat, ∀ i, 0 ≤ i → i < 160 → apN r s j B m k r i = apN r' s' j' B m' k r' i := by
  intro k
  induction k with
  | zero => exact hr
  | succ k ih =>
    intro i i0 i1
    show ap1 r s j (B k) (apN r s j B m k) r i = ap1 r' s' j' (B k) (apN r' s' j' B m' k) r' i
    rw [ap1_row hrs, ap1_row hrs', apN_size hrs, apN_size hrs', hs]
    by_cases q : B k = 0
    · rw [if_pos q, if_pos q]
      exact ih i i0 i1
    · rw [if_neg q, if_neg q]
      unfold updF
      split
      · rfl
      · exact ih i i0 i1
/-- what is on a tape are bytes -/
theorem apN_bytes {r s : Nat} {j : Int} (hrs : s ≠ r) {B : Nat → Int} (hB : ∀ k, 0 ≤ B k ∧ B k ≤ 255) {m : mmM} (h0 : 0 ≤ m s j) (hr : ∀ i, 0 ≤ i → i < 160 → 0 ≤ m r i ∧ m r i ≤ 255 ∧ (i < m s j → 1 ≤ m r i)) : ∀ k : Nat, ∀ i, 0 ≤ i → i < 160 → 0 ≤ apN r s j B m k r i ∧ apN r s j B m k r i ≤ 255 ∧ (i < m s j + nzN B k → 1 ≤ apN r s j B m k r i) := by
  intro k
  induction k with
  | zero =>
    intro i i0 i1
    have := hr i i0 i1
    show 0 ≤ m r i ∧ m r i ≤ 255 ∧ (i < m s j + 0 → 1 ≤ m r i)
    exact ⟨this.1, this.2.1, fun q => this.2.2 (by omega)⟩
  | succ k ih =>
    intro i i0 i1
    have a := ih i i0 i1
    have b := hB k
    show 0 ≤ ap1 r s j (B k) (apN r s j B m k) r i ∧ ap1 r s j (B k) (apN r s j B m k) r i ≤ 255 ∧ (i < m s j + (nzN B k + nzS (B k)) → 1 ≤ ap1 r s j (B k) (apN r s j B m k) r i)
    rw [ap1_row hrs, apN_size hrs]
    unfold nzS
    by_cases q : B k = 0
    · rw [if_pos q, if_pos q]
      exact ⟨a.1, a.2.1, fun z => a.2.2 (by omega)⟩
    · rw [if_neg q, if_neg q]
      unfold updF
      split
      · exact ⟨b.1, b.2, fun _ => by omega⟩
      · rename_i ne
        exact ⟨a.1, a.2.1, fun z => a.2.2 (by omega)⟩
/-- the twenty bytes of five numbers -/
def by20 (a b c d e : Int) (k : Nat) : Int := byX (if k < 4 then a else if k < 8 then b else if k < 12 then c else if k < 16 then d else e) (24 - 8 * ((k % 4 : Nat) : Int))
def nzX (x : Int) : Int := nzS (byX x 24) + nzS (byX x 16) + nzS (byX x 8) + nzS (byX x 0)
def apX (x : Int) (m : mmM) : mmM := ap1 2 1 1 (byX x 0) (ap1 2 1 1 (byX x 8) (ap1 2 1 1 (byX x 16) (ap1 2 1 1 (byX x 24) m)))
theorem apX_size (x : Int) (m : mmM) : apX x m 1 1 = m 1 1 + nzX x := by
  unfold apX nzX
  rw [ap1_size (by decide), ap1_size (by decide), ap1_size (by decide), ap1_size (by decide)]
  omega
theorem nzX_rng (x : Int) : 0 ≤ nzX x ∧ nzX x ≤ 4 := by
  have := nzS_rng (byX x 24)
  have := nzS_rng (byX x 16)
  have := nzS_rng (byX x 8)
  have := nzS_rng (byX x 0)
  unfold nzX
  omega
theorem apX_20 (a b c d e : Int) (m : mmM) : apX e (apX d (apX c (apX b (apX a m)))) = apN 2 1 1 (by20 a b c d e) m 20 := rfl
theorem nzX_20 (a b c d e : Int) : nzX a + nzX b + nzX c + nzX d + nzX e = nzN (by20 a b c d e) 20 := by
  have h : nzN (by20 a b c d e) 20 = 0 + nzS (byX a 24) + nzS (byX a 16) + nzS (byX a 8) + nzS (byX a 0) + nzS (byX b 24) + nzS (byX b 16) + nzS (byX b 8) + nzS (byX b 0) + nzS (byX c 24) + nzS (byX c 16) + nzS (byX c 8) + nzS (byX c 0) + nzS (byX d 24) + nzS (byX d 16) + nzS (byX d 8) + nzS (byX d 0) + nzS (byX e 24) + nzS (byX e 16) + nzS (byX e 8) + nzS (byX e 0) := rfl
  rw [h]
  unfold nzX
  omega
theorem c_X9_bytesIn (mem : mmM) (x : Int) : con 0 bX9_bytesIn 0 [(0, x)] mem (fun v m => v = nzX x ∧ m = mem) := by
  have st : ∀ acc k : Int, 0 ≤ k → k < 32 → (∀ acc', acc' = acc + nzS (byX x k) → mmT bX9_bytesIn 0 0 0 (mQ 0 (fun v m => v = nzX x ∧ m = mem)) 5 [(0, x), (0, acc'), (0, k + -8)] [] mS mem) → mmT bX9_bytesIn 0 0 0 (mQ 0 (fun v m => v = nzX x ∧ m = mem)) 5 [(0, x), (0, acc), (0, k)] [] mS mem := by
    intro acc k k0 k1 h
    refine bk_X9_bytesIn_5 (fun _ e => h _ ?_) (fun _ e => h _ ?_) (fun g => absurd g (by omega)) ⟨by omega, by omega⟩
    · unfold nzS byX
      rw [if_pos e]
    · unfold nzS byX
      rw [if_neg e]
  refine cn_X9_bytesIn (bk_X9_bytesIn_0 (st _ _ (by omega) (by omega) (fun a1 e1 => st _ _ (by omega) (by omega) (fun a2 e2 => st _ _ (by omega) (by omega) (fun a3 e3 => st _ _ (by omega) (by omega) (fun a4 e4 => bk_X9_bytesIn_5 (fun g => absurd g (by omega)) (fun g => absurd g (by omega)) (fun _ => ⟨?_, rfl⟩) ⟨by omega, by omega⟩))))))
  unfold nzX
  rw [e4, e3, e2, e1]
  show 0 + nzS (byX x 24) + nzS (byX x 16) + nzS (byX x 8) + nzS (byX x 0) = _
  omega
theorem cn_X9_append {d : Nat} {P : mmM → Prop} {mem : mmM} {x1 : Int} (h : mmT bX9_append d 0 0 (mQv P) 0 [(2, 1), (0, x1), (9, 0), (9, 0)] [] mS mem) : conv bX9_append d [(2, 1), (0, x1)] mem P := mmC_of [(2, 1), (0, x1), (9, 0), (9, 0)] ok_X9_append.2.2.2.2 rfl (Nat.le_of_ble_eq_true rfl) h
theorem bk_X9_append_0 {d : Nat} {P : mmM → Prop} {mem : mmM} {x1 : Int}
  (k1 : mmT bX9_append d 0 0 (mQv P) 3 [(2, 1), (0, x1), (0, 24), (9, 0)] [] mS mem)
  : mmT bX9_append d 0 0 (mQv P) 0 [(2, 1), (0, x1), (9, 0), (9, 0)] [] mS mem := by
  refine st_bipush rfl dX9_append_0 ?_
  refine st_istore_n (i := 2) rfl (by decide) (lc' := [(2, 1), (0, x1), (0, 24), (9, 0)]) rfl dX9_append_2 ?_
  exact st_locals [(2, 1), (0, x1), (0, 24), (9, 0)] ⟨Or.inr rfl, Or.inr rfl, Or.inr rfl, Or.inl rfl, trivial⟩ k1
theorem bk_X9_append_3 {d : Nat} {P : mmM → Prop} {mem : mmM} {x1 x2 : Int}
  (k1 : 0 ≤ x2 → (and32 (ushr32 x1 x2) 255) = 0 → mmT bX9_append d 0 0 (mQv P) 3 [(2, 1), (0, x1), (0, (x2 + (-8))), (9, 0)] [] mS mem)
  (k2 : 0 ≤ x2 → ¬ (and32 (ushr32 x1 x2) 255) = 0 → 160 ≤ (mem 1 1) → mmT bX9_append d 0 0 (mQv P) 3 [(2, 1), (0, x1), (0, (x2 + (-8))), (9, 0)] [] mS mem)
  (k3 : 0 ≤ x2 → ¬ (and32 (ushr32 x1 x2) 255) = 0 → (mem 1 1) < 160 → mmT bX9_append d 0 0 (mQv P) 3 [(2, 1), (0, x1), (0, (x2 + (-8))), (9, 0)] [] mS (mset (mset mem 2 (mem 1 1) (and32 (ushr32 x1 x2) 255)) 1 1 ((mem 1 1) + 1)))
  (q1 : x2 < 0 → P mem)
  (s1 : R32 x2 := by intros; first | omega | assumption | solve_by_elim)
  (s2 : 0 ≤ x2 → ¬ (and32 (ushr32 x1 x2) 255) = 0 → (mem 1 1) < 160 → 0 ≤ (mem 1 1) ∧ (mem 1 1) < 160 := by intros; first | omega | assumption | solve_by_elim)
  (s3 : 0 ≤ x2 → ¬ (and32 (ushr32 x1 x2) 255) = 0 → (mem 1 1) < 160 → R32 ((mem 1 1) + 1) := by intros; first | omega | assumption | solve_by_elim)
  : mmT bX9_append d 0 0 (mQv P) 3 [(2, 1), (0, x1), (0, x2), (9, 0)] [] mS mem := by
  refine st_iload_n (i := 2) rfl rfl dX9_append_3 ?_
  refine sr_if_lt 57 s1 (by decide) dX9_append_4 (fun h1 => ?_) (fun h1 => ?_)
  · have h1 : x2 < 0 := by omega
    exact st_return rfl dX9_append_57 (mQv.ret (q1 h1))
  · have h1 : 0 ≤ x2 := by omega
    refine st_iload_n (i := 1) rfl rfl dX9_append_7 ?_
    refine st_iload_n (i := 2) rfl rfl dX9_append_8 ?_
    refine st_iushr dX9_append_9 ?_
    refine st_sipush rfl dX9_append_10 ?_
    refine st_iand dX9_append_13 ?_
    refine st_istore_n (i := 3) rfl (by decide) (lc' := [(2, 1), (0, x1), (0, x2), (0, (and32 (ushr32 x1 x2) 255))]) rfl dX9_append_14 ?_
    refine st_iload_n (i := 3) rfl rfl dX9_append_15 ?_
    refine sr_if_eq 51 (and32_rng (ushr32 x1 x2) 255) (by decide) dX9_append_16 (fun h2 => ?_) (fun h2 => ?_)
    · have h2 : (and32 (ushr32 x1 x2) 255) = 0 := by omega
      refine st_iinc (y := (x2 + (-8))) (by decide) (i := 2) rfl rfl (lc' := [(2, 1), (0, x1), (0, (x2 + (-8))), (0, (and32 (ushr32 x1 x2) 255))]) rfl dX9_append_51 ?_
      refine st_goto 3 (by decide) dX9_append_54 ?_
      exact st_locals [(2, 1), (0, x1), (0, (x2 + (-8))), (9, 0)] ⟨Or.inr rfl, Or.inr rfl, Or.inr rfl, Or.inl rfl, trivial⟩ (k1 h1 h2)
    · have h2 : ¬ (and32 (ushr32 x1 x2) 255) = 0 := by omega
      refine st_aload_n (i := 0) rfl (t := 0) rfl (by decide) dX9_append_19 ?_
      refine so_getI (v := (mem 1 1)) 1 1 fr_X9_15_9 rfl sh_1 rfl dX9_append_20 (fun r1 => ?_)
      refine st_aload_n (i := 0) rfl (t := 0) rfl (by decide) dX9_append_23 ?_
      refine so_getA 1 0 fr_X9_9_9 rfl sh_1 fx_1_0 dX9_append_24 ?_
      refine so_alen (v := 160) 2 rfl sh_2 (by decide) rfl dX9_append_27 ?_
      refine sr_icmp_ge 51 r1 ⟨by decide, by decide⟩ (by decide) dX9_append_28 (fun h3 => ?_) (fun h3 => ?_)
      · have h3 : 160 ≤ (mem 1 1) := by omega
        refine st_iinc (y := (x2 + (-8))) (by decide) (i := 2) rfl rfl (lc' := [(2, 1), (0, x1), (0, (x2 + (-8))), (0, (and32 (ushr32 x1 x2) 255))]) rfl dX9_append_51 ?_
        refine st_goto 3 (by decide) dX9_append_54 ?_
        exact st_locals [(2, 1), (0, x1), (0, (x2 + (-8))), (9, 0)] ⟨Or.inr rfl, Or.inr rfl, Or.inr rfl, Or.inl rfl, trivial⟩ (k2 h1 h2 h3)
      · have h3 : (mem 1 1) < 160 := by omega
        refine st_aload_n (i := 0) rfl (t := 0) rfl (by decide) dX9_append_31 ?_
        refine so_getA 1 0 fr_X9_9_9 rfl sh_1 fx_1_0 dX9_append_32 ?_
        refine st_aload_n (i := 0) rfl (t := 0) rfl (by decide) dX9_append_35 ?_
        refine so_getI (v := (mem 1 1)) 1 1 fr_X9_15_9 rfl sh_1 rfl dX9_append_36 (fun r2 => ?_)
        refine st_iload_n (i := 3) rfl rfl dX9_append_39 ?_
        refine so_iast 2 fr_2 rfl sh_2 (by decide) (s2 h1 h2 h3) (and32_rng (ushr32 x1 x2) 255) dX9_append_40 ?_
        refine st_aload_n (i := 0) rfl (t := 0) rfl (by decide) dX9_append_41 ?_
        refine st_dup (Nat.ne_of_beq_eq_false rfl) dX9_append_42 ?_
        refine so_getI (v := (mem 1 1)) 1 1 fr_X9_15_9 rfl sh_1 rfl dX9_append_43 (fun r3 => ?_)
        refine st_iconst dX9_append_46 ?_
        refine st_iadd dX9_append_47 ?_
        refine so_putI 1 1 fr_X9_15_9 pf_9_1 fo_1_1 rfl sh_1 (s3 h1 h2 h3) dX9_append_48 ?_
        refine st_iinc (y := (x2 + (-8))) (by decide) (i := 2) rfl rfl (lc' := [(2, 1), (0, x1), (0, (x2 + (-8))), (0, (and32 (ushr32 x1 x2) 255))]) rfl dX9_append_51 ?_
        refine st_goto 3 (by decide) dX9_append_54 ?_
        exact st_locals [(2, 1), (0, x1), (0, (x2 + (-8))), (9, 0)] ⟨Or.inr rfl, Or.inr rfl, Or.inr rfl, Or.inl rfl, trivial⟩ (k3 h1 h2 h3)
theorem c_X9_append (mem : mmM) (x : Int) (h0 : 0 ≤ mem 1 1) (h1 : mem 1 1 + nzX x ≤ 160) : conv bX9_append 0 [(2, 1), (0, x)] mem (fun m => m = apX x mem) := by
  have st : ∀ (m : mmM) (k : Int), 0 ≤ k → k < 32 → 0 ≤ m 1 1 → m 1 1 + nzS (byX x k) ≤ 160 → (mmT bX9_append 0 0 0 (mQv (fun m => m = apX x mem)) 3 [(2, 1), (0, x), (0, k + -8), (9, 0)] [] mS (ap1 2 1 1 (byX x k) m)) → mmT bX9_append 0 0 0 (mQv (fun m => m = apX x mem)) 3 [(2, 1), (0, x), (0, k), (9, 0)] [] mS m := by
    intro m k k0 k1 z0 z1 h
    have e1 : and32 (ushr32 x k) 255 = byX x k := rfl
    have cz : ¬ byX x k = 0 → m 1 1 < 160 := by
      intro q
      unfold nzS at z1
      rw [if_neg q] at z1
      omega
    refine bk_X9_append_3 (fun _ e => ?_) (fun _ e g => absurd (cz e) (by omega)) (fun _ e g => ?_) (fun g => absurd g (by omega)) ⟨by omega, by omega⟩ (fun _ _ _ => by omega) (fun _ _ _ => ⟨by omega, by omega⟩)
    · rw [e1] at e
      unfold ap1 at h
      rw [if_pos e] at h
      exact h
    · rw [e1] at e
      unfold ap1 at h
      rw [if_neg e] at h
      exact h
  have n1 := nzS_rng (byX x 24)
  have n2 := nzS_rng (byX x 16)
  have n3 := nzS_rng (byX x 8)
  have n4 := nzS_rng (byX x 0)
  have hh : mem 1 1 + (nzS (byX x 24) + nzS (byX x 16) + nzS (byX x 8) + nzS (byX x 0)) ≤ 160 := h1
  have s1 := ap1_size (r := 2) (s := 1) (by decide) 1 (byX x 24) mem
  have s2 := ap1_size (r := 2) (s := 1) (by decide) 1 (byX x 16) (ap1 2 1 1 (byX x 24) mem)
  have s3 := ap1_size (r := 2) (s := 1) (by decide) 1 (byX x 8) (ap1 2 1 1 (byX x 16) (ap1 2 1 1 (byX x 24) mem))
  refine cn_X9_append (bk_X9_append_0 (st mem 24 (by omega) (by omega) h0 (by omega) (st _ 16 (by omega) (by omega) (by omega) (by omega) (st _ 8 (by omega) (by omega) (by omega) (by omega) (st _ 0 (by omega) (by omega) (by omega) (by omega) (bk_X9_append_3 (fun g => absurd g (by omega)) (fun g => absurd g (by omega)) (fun g => absurd g (by omega)) (fun _ => rfl) ⟨by omega, by omega⟩ (fun g => absurd g (by omega)) (fun g => absurd g (by omega))))))))
theorem cn_X11_feed {d : Nat} {P : Int → mmM → Prop} {mem : mmM} {x1 x2 x3 x4 x5 : Int} (h : mmT bX11_feed d 0 0 (mQ 0 P) 0 [(2, 0), (0, x1), (0, x2), (0, x3), (0, x4), (0, x5), (9, 0)] [] mS mem) : con 0 bX11_feed d [(2, 0), (0, x1), (0, x2), (0, x3), (0, x4), (0, x5)] mem P := mmC_of [(2, 0), (0, x1), (0, x2), (0, x3), (0, x4), (0, x5), (9, 0)] ok_X11_feed.2.2.2.2 rfl (Nat.le_of_ble_eq_true rfl) h
theorem bk_X11_feed_0 {d : Nat} {d1 : Nat} {P1 : Int → mmM → Prop} {d2 : Nat} {P2 : Int → mmM → Prop} {d3 : Nat} {P3 : Int → mmM → Prop} {d4 : Nat} {P4 : Int → mmM → Prop} {d5 : Nat} {P5 : Int → mmM → Prop} {d6 : Nat} {P6 : mmM → Prop} {d7 : Nat} {P7 : mmM → Prop} {d8 : Nat} {P8 : mmM → Prop} {d9 : Nat} {P9 : mmM → Prop} {d10 : Nat} {P10 : mmM → Prop} {P : Int → mmM → Prop} {mem : mmM} {x1 x2 x3 x4 x5 : Int}
  (c1 : con 0 bX9_bytesIn d1 [(0, x1)] mem P1)
  (c2 : ∀ (v1 : Int), ∀ (m1 : mmM), P1 v1 m1 → con 0 bX9_bytesIn d2 [(0, x2)] m1 P2)
  (c3 : ∀ (v1 : Int), ∀ (m1 : mmM), P1 v1 m1 → ∀ (v2 : Int), ∀ (m2 : mmM), P2 v2 m2 → con 0 bX9_bytesIn d3 [(0, x3)] m2 P3)
  (c4 : ∀ (v1 : Int), ∀ (m1 : mmM), P1 v1 m1 → ∀ (v2 : Int), ∀ (m2 : mmM), P2 v2 m2 → ∀ (v3 : Int), ∀ (m3 : mmM), P3 v3 m3 → con 0 bX9_bytesIn d4 [(0, x4)] m3 P4)
  (c5 : ∀ (v1 : Int), ∀ (m1 : mmM), P1 v1 m1 → ∀ (v2 : Int), ∀ (m2 : mmM), P2 v2 m2 → ∀ (v3 : Int), ∀ (m3 : mmM), P3 v3 m3 → ∀ (v4 : Int), ∀ (m4 : mmM), P4 v4 m4 → con 0 bX9_bytesIn d5 [(0, x5)] m4 P5)
  (c6 : ∀ (v1 : Int), ∀ (m1 : mmM), P1 v1 m1 → ∀ (v2 : Int), ∀ (m2 : mmM), P2 v2 m2 → ∀ (v3 : Int), ∀ (m3 : mmM), P3 v3 m3 → ∀ (v4 : Int), ∀ (m4 : mmM), P4 v4 m4 → ∀ (v5 : Int), ∀ (m5 : mmM), P5 v5 m5 → ((m5 1 1) + ((((v1 + v2) + v3) + v4) + v5)) ≤ 160 → conv bX9_append d6 [(2, 1), (0, x1)] m5 P6)
  (c7 : ∀ (v1 : Int), ∀ (m1 : mmM), P1 v1 m1 → ∀ (v2 : Int), ∀ (m2 : mmM), P2 v2 m2 → ∀ (v3 : Int), ∀ (m3 : mmM), P3 v3 m3 → ∀ (v4 : Int), ∀ (m4 : mmM), P4 v4 m4 → ∀ (v5 : Int), ∀ (m5 : mmM), P5 v5 m5 → ((m5 1 1) + ((((v1 + v2) + v3) + v4) + v5)) ≤ 160 → ∀ (m6 : mmM), P6 m6 → conv bX9_append d7 [(2, 1), (0, x2)] m6 P7)
  (c8 : ∀ (v1 : Int), ∀ (m1 : mmM), P1 v1 m1 → ∀ (v2 : Int), ∀ (m2 : mmM), P2 v2 m2 → ∀ (v3 : Int), ∀ (m3 : mmM), P3 v3 m3 → ∀ (v4 : Int), ∀ (m4 : mmM), P4 v4 m4 → ∀ (v5 : Int), ∀ (m5 : mmM), P5 v5 m5 → ((m5 1 1) + ((((v1 + v2) + v3) + v4) + v5)) ≤ 160 → ∀ (m6 : mmM), P6 m6 → ∀ (m7 : mmM), P7 m7 → conv bX9_append d8 [(2, 1), (0, x3)] m7 P8)
  (c9 : ∀ (v1 : Int), ∀ (m1 : mmM), P1 v1 m1 → ∀ (v2 : Int), ∀ (m2 : mmM), P2 v2 m2 → ∀ (v3 : Int), ∀ (m3 : mmM), P3 v3 m3 → ∀ (v4 : Int), ∀ (m4 : mmM), P4 v4 m4 → ∀ (v5 : Int), ∀ (m5 : mmM), P5 v5 m5 → ((m5 1 1) + ((((v1 + v2) + v3) + v4) + v5)) ≤ 160 → ∀ (m6 : mmM), P6 m6 → ∀ (m7 : mmM), P7 m7 → ∀ (m8 : mmM), P8 m8 → conv bX9_append d9 [(2, 1), (0, x4)] m8 P9)
  (c10 : ∀ (v1 : Int), ∀ (m1 : mmM), P1 v1 m1 → ∀ (v2 : Int), ∀ (m2 : mmM), P2 v2 m2 → ∀ (v3 : Int), ∀ (m3 : mmM), P3 v3 m3 → ∀ (v4 : Int), ∀ (m4 : mmM), P4 v4 m4 → ∀ (v5 : Int), ∀ (m5 : mmM), P5 v5 m5 → ((m5 1 1) + ((((v1 + v2) + v3) + v4) + v5)) ≤ 160 → ∀ (m6 : mmM), P6 m6 → ∀ (m7 : mmM), P7 m7 → ∀ (m8 : mmM), P8 m8 → ∀ (m9 : mmM), P9 m9 → conv bX9_append d10 [(2, 1), (0, x5)] m9 P10)
  (q1 : ∀ (v1 : Int), ∀ (m1 : mmM), P1 v1 m1 → ∀ (v2 : Int), ∀ (m2 : mmM), P2 v2 m2 → ∀ (v3 : Int), ∀ (m3 : mmM), P3 v3 m3 → ∀ (v4 : Int), ∀ (m4 : mmM), P4 v4 m4 → ∀ (v5 : Int), ∀ (m5 : mmM), P5 v5 m5 → ((m5 1 1) + ((((v1 + v2) + v3) + v4) + v5)) ≤ 160 → ∀ (m6 : mmM), P6 m6 → ∀ (m7 : mmM), P7 m7 → ∀ (m8 : mmM), P8 m8 → ∀ (m9 : mmM), P9 m9 → ∀ (m10 : mmM), P10 m10 → P (m10 1 1) m10)
  (q2 : ∀ (v1 : Int), ∀ (m1 : mmM), P1 v1 m1 → ∀ (v2 : Int), ∀ (m2 : mmM), P2 v2 m2 → ∀ (v3 : Int), ∀ (m3 : mmM), P3 v3 m3 → ∀ (v4 : Int), ∀ (m4 : mmM), P4 v4 m4 → ∀ (v5 : Int), ∀ (m5 : mmM), P5 v5 m5 → 160 < ((m5 1 1) + ((((v1 + v2) + v3) + v4) + v5)) → P (-1) m5)
  (hd_d1 : d1 + 1 ≤ d := by omega)
  (hd_d2 : d2 + 1 ≤ d := by omega)
  (hd_d3 : d3 + 1 ≤ d := by omega)
  (hd_d4 : d4 + 1 ≤ d := by omega)
  (hd_d5 : d5 + 1 ≤ d := by omega)
  (hd_d6 : d6 + 1 ≤ d := by omega)
  (hd_d7 : d7 + 1 ≤ d := by omega)
  (hd_d8 : d8 + 1 ≤ d := by omega)
  (hd_d9 : d9 + 1 ≤ d := by omega)
  (hd_d10 : d10 + 1 ≤ d := by omega)
  (s1 : ∀ (v1 : Int), ∀ (m1 : mmM), P1 v1 m1 → ∀ (v2 : Int), ∀ (m2 : mmM), P2 v2 m2 → ∀ (v3 : Int), ∀ (m3 : mmM), P3 v3 m3 → ∀ (v4 : Int), ∀ (m4 : mmM), P4 v4 m4 → ∀ (v5 : Int), ∀ (m5 : mmM), P5 v5 m5 → R32 ((m5 1 1) + ((((v1 + v2) + v3) + v4) + v5)) := by intros; first | omega | assumption | solve_by_elim)
  : mmT bX11_feed d 0 0 (mQ 0 P) 0 [(2, 0), (0, x1), (0, x2), (0, x3), (0, x4), (0, x5), (9, 0)] [] mS mem := by
  refine st_iload_n (i := 1) rfl rfl dX11_feed_0 ?_
  refine st_callS (kc2 := 0) (ks2 := 0) (av := [(0, x1)]) mr_X11_92 ok_X9_bytesIn c1 rfl rfl hd_d1 (Nat.le_refl 0) (Nat.le_refl 0) (Nat.le_of_ble_eq_true rfl) dX11_feed_1 (mQ.elim fun v1 m1 p1 => ?_)
  refine st_iload_n (i := 2) rfl rfl dX11_feed_4 ?_
  refine st_callS (kc2 := 0) (ks2 := 0) (av := [(0, x2)]) mr_X11_92 ok_X9_bytesIn (c2 v1 m1 p1) rfl rfl hd_d2 (Nat.le_refl 0) (Nat.le_refl 0) (Nat.le_of_ble_eq_true rfl) dX11_feed_5 (mQ.elim fun v2 m2 p2 => ?_)
  refine st_iadd dX11_feed_8 ?_
  refine st_iload_n (i := 3) rfl rfl dX11_feed_9 ?_
  refine st_callS (kc2 := 0) (ks2 := 0) (av := [(0, x3)]) mr_X11_92 ok_X9_bytesIn (c3 v1 m1 p1 v2 m2 p2) rfl rfl hd_d3 (Nat.le_refl 0) (Nat.le_refl 0) (Nat.le_of_ble_eq_true rfl) dX11_feed_10 (mQ.elim fun v3 m3 p3 => ?_)
  refine st_iadd dX11_feed_13 ?_
  refine st_iload rfl dX11_feed_14 ?_
  refine st_callS (kc2 := 0) (ks2 := 0) (av := [(0, x4)]) mr_X11_92 ok_X9_bytesIn (c4 v1 m1 p1 v2 m2 p2 v3 m3 p3) rfl rfl hd_d4 (Nat.le_refl 0) (Nat.le_refl 0) (Nat.le_of_ble_eq_true rfl) dX11_feed_16 (mQ.elim fun v4 m4 p4 => ?_)
  refine st_iadd dX11_feed_19 ?_
  refine st_iload rfl dX11_feed_20 ?_
  refine st_callS (kc2 := 0) (ks2 := 0) (av := [(0, x5)]) mr_X11_92 ok_X9_bytesIn (c5 v1 m1 p1 v2 m2 p2 v3 m3 p3 v4 m4 p4) rfl rfl hd_d5 (Nat.le_refl 0) (Nat.le_refl 0) (Nat.le_of_ble_eq_true rfl) dX11_feed_22 (mQ.elim fun v5 m5 p5 => ?_)
  refine st_iadd dX11_feed_25 ?_
  refine st_istore (by decide) (lc' := [(2, 0), (0, x1), (0, x2), (0, x3), (0, x4), (0, x5), (0, ((((v1 + v2) + v3) + v4) + v5))]) rfl dX11_feed_26 ?_
  refine st_aload_n (i := 0) rfl (t := 0) rfl (by decide) dX11_feed_28 ?_
  refine so_getA 0 0 fr_X11_10_10 rfl sh_0 fx_0_0 dX11_feed_29 ?_
  refine so_getI (v := (m5 1 1)) 1 1 fr_X11_96_9 rfl sh_1 rfl dX11_feed_32 (fun r1 => ?_)
  refine st_iload rfl dX11_feed_35 ?_
  refine st_iadd dX11_feed_37 ?_
  refine st_sipush rfl dX11_feed_38 ?_
  refine sr_icmp_le 46 (s1 v1 m1 p1 v2 m2 p2 v3 m3 p3 v4 m4 p4 v5 m5 p5) ⟨by decide, by decide⟩ (by decide) dX11_feed_41 (fun h1 => ?_) (fun h1 => ?_)
  · have h1 : ((m5 1 1) + ((((v1 + v2) + v3) + v4) + v5)) ≤ 160 := by omega
    refine st_aload_n (i := 0) rfl (t := 0) rfl (by decide) dX11_feed_46 ?_
    refine so_getA 0 0 fr_X11_10_10 rfl sh_0 fx_0_0 dX11_feed_47 ?_
    refine st_iload_n (i := 1) rfl rfl dX11_feed_50 ?_
    refine st_callV (kc2 := 0) (ks2 := 0) (av := [(0, x1)]) 1 9 mr_X11_99 ok_X9_append (c6 v1 m1 p1 v2 m2 p2 v3 m3 p3 v4 m4 p4 v5 m5 p5 h1) rfl sh_1 ⟨_, rfl, rfl, by decide⟩ rfl rfl hd_d6 (Nat.le_refl 0) (Nat.le_refl 0) (Nat.le_of_ble_eq_true rfl) dX11_feed_51 (mQv.elim fun m6 p6 => ?_)
    refine st_aload_n (i := 0) rfl (t := 0) rfl (by decide) dX11_feed_54 ?_
    refine so_getA 0 0 fr_X11_10_10 rfl sh_0 fx_0_0 dX11_feed_55 ?_
    refine st_iload_n (i := 2) rfl rfl dX11_feed_58 ?_
    refine st_callV (kc2 := 0) (ks2 := 0) (av := [(0, x2)]) 1 9 mr_X11_99 ok_X9_append (c7 v1 m1 p1 v2 m2 p2 v3 m3 p3 v4 m4 p4 v5 m5 p5 h1 m6 p6) rfl sh_1 ⟨_, rfl, rfl, by decide⟩ rfl rfl hd_d7 (Nat.le_refl 0) (Nat.le_refl 0) (Nat.le_of_ble_eq_true rfl) dX11_feed_59 (mQv.elim fun m7 p7 => ?_)
    refine st_aload_n (i := 0) rfl (t := 0) rfl (by decide) dX11_feed_62 ?_
    refine so_getA 0 0 fr_X11_10_10 rfl sh_0 fx_0_0 dX11_feed_63 ?_
    refine st_iload_n (i := 3) rfl rfl dX11_feed_66 ?_
    refine st_callV (kc2 := 0) (ks2 := 0) (av := [(0, x3)]) 1 9 mr_X11_99 ok_X9_append (c8 v1 m1 p1 v2 m2 p2 v3 m3 p3 v4 m4 p4 v5 m5 p5 h1 m6 p6 m7 p7) rfl sh_1 ⟨_, rfl, rfl, by decide⟩ rfl rfl hd_d8 (Nat.le_refl 0) (Nat.le_refl 0) (Nat.le_of_ble_eq_true rfl) dX11_feed_67 (mQv.elim fun m8 p8 => ?_)
    refine st_aload_n (i := 0) rfl (t := 0) rfl (by decide) dX11_feed_70 ?_
    refine so_getA 0 0 fr_X11_10_10 rfl sh_0 fx_0_0 dX11_feed_71 ?_
    refine st_iload rfl dX11_feed_74 ?_
    refine st_callV (kc2 := 0) (ks2 := 0) (av := [(0, x4)]) 1 9 mr_X11_99 ok_X9_append (c9 v1 m1 p1 v2 m2 p2 v3 m3 p3 v4 m4 p4 v5 m5 p5 h1 m6 p6 m7 p7 m8 p8) rfl sh_1 ⟨_, rfl, rfl, by decide⟩ rfl rfl hd_d9 (Nat.le_refl 0) (Nat.le_refl 0) (Nat.le_of_ble_eq_true rfl) dX11_feed_76 (mQv.elim fun m9 p9 => ?_)
    refine st_aload_n (i := 0) rfl (t := 0) rfl (by decide) dX11_feed_79 ?_
    refine so_getA 0 0 fr_X11_10_10 rfl sh_0 fx_0_0 dX11_feed_80 ?_
    refine st_iload rfl dX11_feed_83 ?_
    refine st_callV (kc2 := 0) (ks2 := 0) (av := [(0, x5)]) 1 9 mr_X11_99 ok_X9_append (c10 v1 m1 p1 v2 m2 p2 v3 m3 p3 v4 m4 p4 v5 m5 p5 h1 m6 p6 m7 p7 m8 p8 m9 p9) rfl sh_1 ⟨_, rfl, rfl, by decide⟩ rfl rfl hd_d10 (Nat.le_refl 0) (Nat.le_refl 0) (Nat.le_of_ble_eq_true rfl) dX11_feed_85 (mQv.elim fun m10 p10 => ?_)
    refine st_aload_n (i := 0) rfl (t := 0) rfl (by decide) dX11_feed_88 ?_
    refine so_getA 0 0 fr_X11_10_10 rfl sh_0 fx_0_0 dX11_feed_89 ?_
    refine so_getI (v := (m10 1 1)) 1 1 fr_X11_96_9 rfl sh_1 rfl dX11_feed_92 (fun r2 => ?_)
    exact st_ireturn rfl dX11_feed_95 (mQ.ret (q1 v1 m1 p1 v2 m2 p2 v3 m3 p3 v4 m4 p4 v5 m5 p5 h1 m6 p6 m7 p7 m8 p8 m9 p9 m10 p10))
  · have h1 : 160 < ((m5 1 1) + ((((v1 + v2) + v3) + v4) + v5)) := by omega
    refine st_iconst dX11_feed_44 ?_
    exact st_ireturn rfl dX11_feed_45 (mQ.ret (q2 v1 m1 p1 v2 m2 p2 v3 m3 p3 v4 m4 p4 v5 m5 p5 h1))
/-- the value of a feed, and the tape behind it: row r, size at s, j -/
def fedV (r s : Nat) (j : Int) (B : Nat → Int) (mem : mmM) : Int := if mem s j + nzN B 20 ≤ 160 then mem s j + nzN B 20 else -1
def fedM (r s : Nat) (j : Int) (B : Nat → Int) (mem : mmM) : mmM := if mem s j + nzN B 20 ≤ 160 then apN r s j B mem 20 else mem
theorem c_X11_feed (mem : mmM) (a b c d e : Int) (h0 : 0 ≤ mem 1 1 ∧ mem 1 1 ≤ 160) : con 0 bX11_feed 1 [(2, 0), (0, a), (0, b), (0, c), (0, d), (0, e)] mem (fun v m => v = fedV 2 1 1 (by20 a b c d e) mem ∧ m = fedM 2 1 1 (by20 a b c d e) mem) := by
  have hn := nzX_20 a b c d e
  have ra := nzX_rng a
  have rb := nzX_rng b
  have rc := nzX_rng c
  have rd := nzX_rng d
  have re := nzX_rng e
  have sa := apX_size a mem
  have sb := apX_size b (apX a mem)
  have sc := apX_size c (apX b (apX a mem))
  have sd := apX_size d (apX c (apX b (apX a mem)))
  have se := apX_size e (apX d (apX c (apX b (apX a mem))))
  refine cn_X11_feed (bk_X11_feed_0 (d1 := 0) (d2 := 0) (d3 := 0) (d4 := 0) (d5 := 0) (d6 := 0) (d7 := 0) (d8 := 0) (d9 := 0) (d10 := 0)
    (P1 := fun v m => v = nzX a ∧ m = mem) (P2 := fun v m => v = nzX b ∧ m = mem) (P3 := fun v m => v = nzX c ∧ m = mem) (P4 := fun v m => v = nzX d ∧ m = mem) (P5 := fun v m => v = nzX e ∧ m = mem)
    (P6 := fun m => m = apX a mem) (P7 := fun m => m = apX b (apX a mem)) (P8 := fun m => m = apX c (apX b (apX a mem))) (P9 := fun m => m = apX d (apX c (apX b (apX a mem)))) (P10 := fun m => m = apX e (apX d (apX c (apX b (apX a mem)))))
    (c_X9_bytesIn mem a) ?_ ?_ ?_ ?_ ?_ ?_ ?_ ?_ ?_ ?_ ?_ (s1 := ?_))
  · rintro v1 m1 ⟨-, rfl⟩
    exact c_X9_bytesIn _ b
  · rintro v1 m1 ⟨-, rfl⟩ v2 m2 ⟨-, rfl⟩
    exact c_X9_bytesIn _ c
  · rintro v1 m1 ⟨-, rfl⟩ v2 m2 ⟨-, rfl⟩ v3 m3 ⟨-, rfl⟩
    exact c_X9_bytesIn _ d
  · rintro v1 m1 ⟨-, rfl⟩ v2 m2 ⟨-, rfl⟩ v3 m3 ⟨-, rfl⟩ v4 m4 ⟨-, rfl⟩
    exact c_X9_bytesIn _ e
  · rintro v1 m1 ⟨rfl, rfl⟩ v2 m2 ⟨rfl, rfl⟩ v3 m3 ⟨rfl, rfl⟩ v4 m4 ⟨rfl, rfl⟩ v5 m5 ⟨rfl, rfl⟩ g
    exact c_X9_append _ a (by omega) (by omega)
  · rintro v1 m1 ⟨rfl, rfl⟩ v2 m2 ⟨rfl, rfl⟩ v3 m3 ⟨rfl, rfl⟩ v4 m4 ⟨rfl, rfl⟩ v5 m5 ⟨rfl, rfl⟩ g m6 rfl
    exact c_X9_append _ b (by omega) (by omega)
  · rintro v1 m1 ⟨rfl, rfl⟩ v2 m2 ⟨rfl, rfl⟩ v3 m3 ⟨rfl, rfl⟩ v4 m4 ⟨rfl, rfl⟩ v5 m5 ⟨rfl, rfl⟩ g m6 rfl m7 rfl
    exact c_X9_append _ c (by omega) (by omega)
  · rintro v1 m1 ⟨rfl, rfl⟩ v2 m2 ⟨rfl, rfl⟩ v3 m3 ⟨rfl, rfl⟩ v4 m4 ⟨rfl, rfl⟩ v5 m5 ⟨rfl, rfl⟩ g m6 rfl m7 rfl m8 rfl
    exact c_X9_append _ d (by omega) (by omega)
  · rintro v1 m1 ⟨rfl, rfl⟩ v2 m2 ⟨rfl, rfl⟩ v3 m3 ⟨rfl, rfl⟩ v4 m4 ⟨rfl, rfl⟩ v5 m5 ⟨rfl, rfl⟩ g m6 rfl m7 rfl m8 rfl m9 rfl
    exact c_X9_append _ e (by omega) (by omega)
  · rintro v1 m1 ⟨rfl, rfl⟩ v2 m2 ⟨rfl, rfl⟩ v3 m3 ⟨rfl, rfl⟩ v4 m4 ⟨rfl, rfl⟩ v5 m5 ⟨rfl, rfl⟩ g m6 rfl m7 rfl m8 rfl m9 rfl m10 rfl
    refine ⟨?_, ?_⟩
    · unfold fedV
      rw [if_pos (by omega)]
      omega
    · unfold fedM
      rw [if_pos (by omega)]
      exact apX_20 a b c d e _
  · rintro v1 m1 ⟨rfl, rfl⟩ v2 m2 ⟨rfl, rfl⟩ v3 m3 ⟨rfl, rfl⟩ v4 m4 ⟨rfl, rfl⟩ v5 m5 ⟨rfl, rfl⟩ g
    refine ⟨?_, ?_⟩
    · unfold fedV
      rw [if_neg (by omega)]
    · unfold fedM
      rw [if_neg (by omega)]
  · rintro v1 m1 ⟨rfl, rfl⟩ v2 m2 ⟨rfl, rfl⟩ v3 m3 ⟨rfl, rfl⟩ v4 m4 ⟨rfl, rfl⟩ v5 m5 ⟨rfl, rfl⟩
    exact ⟨by omega, by omega⟩
theorem by20_rng (a b c d e : Int) (k : Nat) : 0 ≤ by20 a b c d e k ∧ by20 a b c d e k ≤ 255 := byX_rng _ _
theorem cn_X11_end {d : Nat} {P : Int → mmM → Prop} {mem : mmM} {x1 : Int} (h : mmT bX11_end d 0 0 (mQ 0 P) 0 [(2, 0), (0, x1)] [] mS mem) : con 0 bX11_end d [(2, 0), (0, x1)] mem P := mmC_of [(2, 0), (0, x1)] ok_X11_end.2.2.2.2 rfl (Nat.le_of_ble_eq_true rfl) h
theorem bk_X11_end_0 {d : Nat} {P : Int → mmM → Prop} {mem : mmM} {x1 : Int}
  (q1 : x1 < 0 → P 0 mem)
  (q2 : 0 ≤ x1 → x1 ≤ (mem 1 1) → P 1 (mset mem 1 1 x1))
  (q3 : 0 ≤ x1 → (mem 1 1) < x1 → P 0 mem)
  (s1 : R32 x1 := by intros; first | omega | assumption | solve_by_elim)
  : mmT bX11_end d 0 0 (mQ 0 P) 0 [(2, 0), (0, x1)] [] mS mem := by
  refine st_iload_n (i := 1) rfl rfl dX11_end_0 ?_
  refine sr_if_lt 15 s1 (by decide) dX11_end_1 (fun h1 => ?_) (fun h1 => ?_)
  · have h1 : x1 < 0 := by omega
    refine st_iconst dX11_end_15 ?_
    exact st_zreturn rfl (by decide) dX11_end_16 (mQ.ret (q1 h1))
  · have h1 : 0 ≤ x1 := by omega
    refine st_iload_n (i := 1) rfl rfl dX11_end_4 ?_
    refine st_aload_n (i := 0) rfl (t := 0) rfl (by decide) dX11_end_5 ?_
    refine so_getA 0 0 fr_X11_10_10 rfl sh_0 fx_0_0 dX11_end_6 ?_
    refine so_getI (v := (mem 1 1)) 1 1 fr_X11_96_9 rfl sh_1 rfl dX11_end_9 (fun r1 => ?_)
    refine sr_icmp_le 17 s1 r1 (by decide) dX11_end_12 (fun h2 => ?_) (fun h2 => ?_)
    · have h2 : x1 ≤ (mem 1 1) := by omega
      refine st_aload_n (i := 0) rfl (t := 0) rfl (by decide) dX11_end_17 ?_
      refine so_getA 0 0 fr_X11_10_10 rfl sh_0 fx_0_0 dX11_end_18 ?_
      refine st_iload_n (i := 1) rfl rfl dX11_end_21 ?_
      refine so_putI 1 1 fr_X11_96_9 pf_9_1 fo_1_1 rfl sh_1 s1 dX11_end_22 ?_
      refine st_iconst dX11_end_25 ?_
      exact st_zreturn rfl (by decide) dX11_end_26 (mQ.ret (q2 h1 h2))
    · have h2 : (mem 1 1) < x1 := by omega
      refine st_iconst dX11_end_15 ?_
      exact st_zreturn rfl (by decide) dX11_end_16 (mQ.ret (q3 h1 h2))
def endP (s : Nat) (j x : Int) (mem : mmM) (v : Int) (m : mmM) : Prop := v = b2i (0 ≤ x ∧ x ≤ mem s j) ∧ m = if 0 ≤ x ∧ x ≤ mem s j then mset mem s j x else mem
theorem endP_yes {s : Nat} {j x : Int} {mem : mmM} (h : 0 ≤ x ∧ x ≤ mem s j) : endP s j x mem 1 (mset mem s j x) := ⟨(b2i_1 h).symm, (if_pos h).symm⟩
theorem endP_no {s : Nat} {j x : Int} {mem : mmM} (h : ¬ (0 ≤ x ∧ x ≤ mem s j)) : endP s j x mem 0 mem := ⟨(b2i_0 h).symm, (if_neg h).symm⟩
theorem c_X11_end (mem : mmM) (x : Int) (h : R32 x) : con 0 bX11_end 0 [(2, 0), (0, x)] mem (endP 1 1 x mem) := cn_X11_end (bk_X11_end_0 (fun g => endP_no (by omega)) (fun g g2 => endP_yes ⟨g, g2⟩) (fun g g2 => endP_no (by omega)) h)