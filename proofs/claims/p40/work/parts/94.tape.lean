/-! the book's text, as it is read -/
theorem catT_z (u : Int → Int) (j : Int) (h : 0 ≤ j) : catT (fun _ => 0) 0 u j = u j := by
  rw [catT_hi (by omega)]
  rw [show j - ((0 : Nat) : Int) = j by omega]
theorem bkT_lo {sc : Int → Int} {at_ : Int} {k : Nat} {i : Int} (h0 : 0 ≤ i) (h : i < bkN sc at_ k) : bkT sc at_ (k + 1) i = bkT sc at_ k i := by
  show catT (catT (catT (catT (catT (fun _ => 0) 0 (bkT sc at_ k)) (0 + bkN sc at_ k) (fun _ => 44)) (0 + bkN sc at_ k + sepN k) (fun _ => 65 + r0S sc at_ k)) (0 + bkN sc at_ k + sepN k + 1) (fun _ => 97 + r1S sc at_ k)) (0 + bkN sc at_ k + sepN k + 1 + 1) (decT (r2S sc at_ k)) i = _
  rw [catT_lo (by omega), catT_lo (by omega), catT_lo (by omega), catT_lo (by omega), catT_z _ _ h0]
theorem bkT_sep {sc : Int → Int} {at_ : Int} {k : Nat} (h : k ≠ 0) : bkT sc at_ (k + 1) (bkN sc at_ k) = 44 := by
  have e : sepN k = 1 := if_neg h
  show catT (catT (catT (catT (catT (fun _ => 0) 0 (bkT sc at_ k)) (0 + bkN sc at_ k) (fun _ => 44)) (0 + bkN sc at_ k + sepN k) (fun _ => 65 + r0S sc at_ k)) (0 + bkN sc at_ k + sepN k + 1) (fun _ => 97 + r1S sc at_ k)) (0 + bkN sc at_ k + sepN k + 1 + 1) (decT (r2S sc at_ k)) _ = _
  rw [catT_lo (by omega), catT_lo (by omega), catT_lo (by omega), catT_hi (by omega)]
theorem bkT_a (sc : Int → Int) (at_ : Int) (k : Nat) : bkT sc at_ (k + 1) ((bkN sc at_ k : Int) + sepN k) = 65 + r0S sc at_ k := by
  show catT (catT (catT (catT (catT (fun _ => 0) 0 (bkT sc at_ k)) (0 + bkN sc at_ k) (fun _ => 44)) (0 + bkN sc at_ k + sepN k) (fun _ => 65 + r0S sc at_ k)) (0 + bkN sc at_ k + sepN k + 1) (fun _ => 97 + r1S sc at_ k)) (0 + bkN sc at_ k + sepN k + 1 + 1) (decT (r2S sc at_ k)) _ = _
  rw [catT_lo (by omega), catT_lo (by omega), catT_hi (by omega)]
theorem bkT_w (sc : Int → Int) (at_ : Int) (k : Nat) : bkT sc at_ (k + 1) ((bkN sc at_ k : Int) + sepN k + 1) = 97 + r1S sc at_ k := by
  show catT (catT (catT (catT (catT (fun _ => 0) 0 (bkT sc at_ k)) (0 + bkN sc at_ k) (fun _ => 44)) (0 + bkN sc at_ k + sepN k) (fun _ => 65 + r0S sc at_ k)) (0 + bkN sc at_ k + sepN k + 1) (fun _ => 97 + r1S sc at_ k)) (0 + bkN sc at_ k + sepN k + 1 + 1) (decT (r2S sc at_ k)) _ = _
  rw [catT_lo (by omega), catT_hi (by omega)]
theorem bkT_d (sc : Int → Int) (at_ : Int) (k : Nat) {j : Int} (h : 0 ≤ j) : bkT sc at_ (k + 1) ((bkN sc at_ k : Int) + sepN k + 2 + j) = decT (r2S sc at_ k) j := by
  show catT (catT (catT (catT (catT (fun _ => 0) 0 (bkT sc at_ k)) (0 + bkN sc at_ k) (fun _ => 44)) (0 + bkN sc at_ k + sepN k) (fun _ => 65 + r0S sc at_ k)) (0 + bkN sc at_ k + sepN k + 1) (fun _ => 97 + r1S sc at_ k)) (0 + bkN sc at_ k + sepN k + 1 + 1) (decT (r2S sc at_ k)) _ = _
  rw [catT_hi (by omega)]
  congr 1
  omega
theorem bkN_s (sc : Int → Int) (at_ : Int) (k : Nat) : bkN sc at_ (k + 1) = bkN sc at_ k + sepN k + 2 + sufN (r2S sc at_ k) := by
  show 0 + bkN sc at_ k + sepN k + 1 + 1 + sufN (r2S sc at_ k) = _
  omega
theorem bkN_mono (sc : Int → Int) (at_ : Int) {k n : Nat} (h : k ≤ n) : bkN sc at_ k ≤ bkN sc at_ n := by
  induction n with
  | zero => rw [show k = 0 by omega]; exact Nat.le_refl _
  | succ n ih =>
    by_cases e : k = n + 1
    · rw [e]
      exact Nat.le_refl _
    · have := ih (by omega)
      rw [bkN_s]
      omega
theorem bkT_pre {sc : Int → Int} {at_ : Int} {k n : Nat} (h : k ≤ n) {i : Int} (h0 : 0 ≤ i) (hi : i < bkN sc at_ k) : bkT sc at_ n i = bkT sc at_ k i := by
  induction n with
  | zero => rw [show k = 0 by omega]
  | succ n ih =>
    by_cases e : k = n + 1
    · rw [e]
    · have m := bkN_mono sc at_ (show k ≤ n by omega)
      rw [bkT_lo h0 (by omega)]
      exact ih (by omega)
theorem tp_rng {sc : Int → Int} {at_ : Int} : ∀ n : Nat, ∀ i : Int, 0 ≤ i → i < bkN sc at_ n → (1 ≤ bkT sc at_ n i ∧ bkT sc at_ n i ≤ 127) ∧ ¬ bkT sc at_ n i = 32 := by
  intro n
  induction n with
  | zero =>
    intro i h0 h1
    have : i < ((0 : Nat) : Int) := h1
    omega
  | succ n ih =>
    intro i h0 h1
    by_cases c : i < bkN sc at_ n
    · rw [bkT_lo h0 c]
      exact ih i h0 c
    · have r0 := r0S_rng sc at_ n
      have r1 := r1S_rng sc at_ n
      have r2 := r2S_rng sc at_ n
      have sep : sepN n ≤ 1 := by unfold sepN; split <;> omega
      have s0 : n = 0 → sepN n = 0 := fun z => if_pos z
      rw [bkN_s] at h1
      by_cases c1 : i < (bkN sc at_ n : Int) + sepN n
      · have e : i = bkN sc at_ n := by omega
        rw [e, bkT_sep (fun z => by have := s0 z; omega)]
        decide
      · by_cases c2 : i = (bkN sc at_ n : Int) + sepN n
        · rw [c2, bkT_a]
          omega
        · by_cases c3 : i = (bkN sc at_ n : Int) + sepN n + 1
          · rw [c3, bkT_w]
            omega
          · rw [show i = (bkN sc at_ n : Int) + sepN n + 2 + (i - ((bkN sc at_ n : Int) + sepN n + 2)) by omega, bkT_d _ _ _ (by omega)]
            unfold decT
            split
            · omega
            · split <;> omega
section
variable {sc : Int → Int} {at_ : Int} {n : Nat} {C S : Int → Int}
theorem tp_end (hC : ∀ i, 0 ≤ i → C i = if i < bkN sc at_ n then bkT sc at_ n i else 0) {k : Nat} (hk : k < n) : C (bkN sc at_ (k + 1)) = if k + 1 < n then 44 else 0 := by
  rw [hC _ (by omega)]
  by_cases q : k + 1 < n
  · have m := bkN_mono sc at_ (show k + 1 + 1 ≤ n from q)
    have s := bkN_s sc at_ (k + 1)
    rw [if_pos q, if_pos (by omega), bkT_pre (k := k + 1 + 1) q (by omega) (by omega), bkT_sep (by omega)]
  · rw [if_neg q, if_neg (by rw [show k + 1 = n by omega]; omega)]
theorem tp_sp (hC : ∀ i, 0 ≤ i → C i = if i < bkN sc at_ n then bkT sc at_ n i else 0) (hS : ∀ i, S i = i) {k : Nat} (hk : k < n) : spS C S ((bkN sc at_ k : Int) + sepN k) = .inr ((bkN sc at_ (k + 1) : Int), r0S sc at_ k, r1S sc at_ k, r2S sc at_ k) := by
  have m := bkN_mono sc at_ (show k + 1 ≤ n from hk)
  have s := bkN_s sc at_ k
  have r0 := r0S_rng sc at_ k
  have r1 := r1S_rng sc at_ k
  have r2 := r2S_rng sc at_ k
  have ce := tp_end hC hk
  have at0 : ∀ i : Int, 0 ≤ i → i < bkN sc at_ (k + 1) → C i = bkT sc at_ (k + 1) i := fun i i0 i1 => by
    rw [hC i i0, if_pos (by omega), bkT_pre (k := k + 1) hk i0 i1]
  have ca : C ((bkN sc at_ k : Int) + sepN k) = 65 + r0S sc at_ k := by rw [at0 _ (by omega) (by omega), bkT_a]
  have cw : C ((bkN sc at_ k : Int) + sepN k + 1) = 97 + r1S sc at_ k := by rw [at0 _ (by omega) (by omega), bkT_w]
  have nd : ¬ digC (C (bkN sc at_ (k + 1))) := by
    rw [ce]
    split
    · exact fun z => absurd z.1 (by decide)
    · exact fun z => absurd z.1 (by decide)
  unfold spS
  simp only [hS]
  rw [ca, cw, if_neg (by omega), if_neg (by omega)]
  by_cases c5 : r2S sc at_ k = 5
  · have e0 : sufN (r2S sc at_ k) = 0 := if_pos c5
    rw [e0] at s
    have ep : (bkN sc at_ k : Int) + sepN k + 1 + 1 = bkN sc at_ (k + 1) := by omega
    rw [ep, if_pos nd, c5]
    congr 2
    · rw [show 65 + r0S sc at_ k - 65 = r0S sc at_ k by omega, show 97 + r1S sc at_ k - 97 = r1S sc at_ k by omega]
  · have e0 : sufN (r2S sc at_ k) = dgN (r2S sc at_ k) := if_neg c5
    rw [e0] at s
    have num : numS C 2 ((bkN sc at_ k : Int) + sepN k + 1 + 1) = (r2S sc at_ k, (bkN sc at_ (k + 1) : Int)) ∧ digC (C ((bkN sc at_ k : Int) + sepN k + 1 + 1)) := by
      by_cases c10 : r2S sc at_ k < 10
      · have d1 : dgN (r2S sc at_ k) = 1 := if_pos c10
        rw [d1] at s
        have cd : C ((bkN sc at_ k : Int) + sepN k + 1 + 1) = 48 + r2S sc at_ k := by
          rw [show (bkN sc at_ k : Int) + sepN k + 1 + 1 = (bkN sc at_ k : Int) + sepN k + 2 + 0 by omega, at0 _ (by omega) (by omega), bkT_d _ _ _ (by decide)]
          unfold decT
          rw [if_pos c10]
        have dg : digC (C ((bkN sc at_ k : Int) + sepN k + 1 + 1)) := by rw [cd]; exact ⟨by omega, by omega⟩
        refine ⟨?_, dg⟩
        unfold numS
        rw [if_pos dg]
        show (if digC (C ((bkN sc at_ k : Int) + sepN k + 1 + 1)) then numF C 1 (0 * 10 + C ((bkN sc at_ k : Int) + sepN k + 1 + 1) - 48) ((bkN sc at_ k : Int) + sepN k + 1 + 1 + 1) else _) = _
        rw [if_pos dg]
        show (if digC (C ((bkN sc at_ k : Int) + sepN k + 1 + 1 + 1)) then _ else (0 * 10 + C ((bkN sc at_ k : Int) + sepN k + 1 + 1) - 48, (bkN sc at_ k : Int) + sepN k + 1 + 1 + 1)) = _
        have ep : (bkN sc at_ k : Int) + sepN k + 1 + 1 + 1 = bkN sc at_ (k + 1) := by omega
        rw [ep, if_neg nd, cd, show 0 * 10 + (48 + r2S sc at_ k) - 48 = r2S sc at_ k by omega]
      · have d1 : dgN (r2S sc at_ k) = 2 := if_neg c10
        rw [d1] at s
        have cd : C ((bkN sc at_ k : Int) + sepN k + 1 + 1) = 48 + r2S sc at_ k / 10 := by
          rw [show (bkN sc at_ k : Int) + sepN k + 1 + 1 = (bkN sc at_ k : Int) + sepN k + 2 + 0 by omega, at0 _ (by omega) (by omega), bkT_d _ _ _ (by decide)]
          unfold decT
          rw [if_neg c10, if_pos rfl]
        have cd2 : C ((bkN sc at_ k : Int) + sepN k + 1 + 1 + 1) = 48 + r2S sc at_ k % 10 := by
          rw [show (bkN sc at_ k : Int) + sepN k + 1 + 1 + 1 = (bkN sc at_ k : Int) + sepN k + 2 + 1 by omega, at0 _ (by omega) (by omega), bkT_d _ _ _ (by decide)]
          unfold decT
          rw [if_neg c10, if_neg (by decide)]
        have dg : digC (C ((bkN sc at_ k : Int) + sepN k + 1 + 1)) := by rw [cd]; exact ⟨by omega, by omega⟩
        have dg2 : digC (C ((bkN sc at_ k : Int) + sepN k + 1 + 1 + 1)) := by rw [cd2]; exact ⟨by omega, by omega⟩
        refine ⟨?_, dg⟩
        unfold numS
        rw [if_pos dg]
        show (if digC (C ((bkN sc at_ k : Int) + sepN k + 1 + 1)) then numF C 1 (0 * 10 + C ((bkN sc at_ k : Int) + sepN k + 1 + 1) - 48) ((bkN sc at_ k : Int) + sepN k + 1 + 1 + 1) else _) = _
        rw [if_pos dg]
        show (if digC (C ((bkN sc at_ k : Int) + sepN k + 1 + 1 + 1)) then numF C 0 ((0 * 10 + C ((bkN sc at_ k : Int) + sepN k + 1 + 1) - 48) * 10 + C ((bkN sc at_ k : Int) + sepN k + 1 + 1 + 1) - 48) ((bkN sc at_ k : Int) + sepN k + 1 + 1 + 1 + 1) else _) = _
        rw [if_pos dg2]
        have ep : (bkN sc at_ k : Int) + sepN k + 1 + 1 + 1 + 1 = bkN sc at_ (k + 1) := by omega
        show (if digC (C ((bkN sc at_ k : Int) + sepN k + 1 + 1 + 1 + 1)) then _ else ((0 * 10 + C ((bkN sc at_ k : Int) + sepN k + 1 + 1) - 48) * 10 + C ((bkN sc at_ k : Int) + sepN k + 1 + 1 + 1) - 48, (bkN sc at_ k : Int) + sepN k + 1 + 1 + 1 + 1)) = _
        rw [ep, if_neg nd, cd, cd2, show (0 * 10 + (48 + r2S sc at_ k / 10) - 48) * 10 + (48 + r2S sc at_ k % 10) - 48 = r2S sc at_ k by omega]
    rw [if_neg (fun z => z num.2), num.1]
    show (if r2S sc at_ k = -1 then _ else if r2S sc at_ k < 1 then _ else Sum.inr ((bkN sc at_ (k + 1) : Int), 65 + r0S sc at_ k - 65, 97 + r1S sc at_ k - 97, r2S sc at_ k)) = _
    rw [if_neg (by omega), if_neg (by omega), show 65 + r0S sc at_ k - 65 = r0S sc at_ k by omega, show 97 + r1S sc at_ k - 97 = r1S sc at_ k by omega]
theorem tp_rest (hC : ∀ i, 0 ≤ i → C i = if i < bkN sc at_ n then bkT sc at_ n i else 0) (hS : ∀ i, S i = i) (hn : n ≤ 20) : ∀ (d k : Nat), k + d = n → 0 < d → ∀ A W L : Int → Int, ∃ A' W' L', restS C S (24 - k) (k : Int) ((bkN sc at_ k : Int) + sepN k) A W L = .inr ((n : Int), (bkN sc at_ n : Int), A', W', L') := by
  intro d
  induction d with
  | zero => intro k _ h; omega
  | succ d ih =>
    intro k hk _ A W L
    have sp := tp_sp hC hS (k := k) (by omega)
    have ce := tp_end hC (k := k) (by omega)
    rw [show 24 - k = (23 - k) + 1 by omega, restS_r sp]
    unfold aftS
    rw [hS, ce]
    by_cases q : k + 1 < n
    · rw [if_pos q, if_pos ⟨rfl, by omega⟩]
      have e : sepN (k + 1) = 1 := if_neg (by omega)
      have := ih (k + 1) (by omega) (by omega) (updF A k (r0S sc at_ k)) (updF W k (r1S sc at_ k)) (updF L k (r2S sc at_ k))
      rw [e] at this
      rw [show 23 - k = 24 - (k + 1) by omega]
      exact this
    · rw [if_neg q, if_neg (fun z => absurd z.1 (by decide)), show ((k : Int) + 1) = ((k + 1 : Nat) : Int) by omega, show k + 1 = n by omega]
      exact ⟨_, _, _, rfl⟩
theorem tp_book (hC : ∀ i, 0 ≤ i → C i = if i < bkN sc at_ n then bkT sc at_ n i else 0) (hS : ∀ i, S i = i) (hn : 2 ≤ n ∧ n ≤ 20) (A W L K : Int → Int) : ∃ A' W' L', bookS C S A W L K = .inr ((n : Int), A', W', L', K) := by
  obtain ⟨A', W', L', e⟩ := tp_rest hC hS hn.2 n 0 (by omega) (by omega) A W L
  have e' : restS C S 24 0 0 A W L = .inr ((n : Int), (bkN sc at_ n : Int), A', W', L') := e
  have cn : C (bkN sc at_ n) = 0 := by
    rw [hC _ (by omega), if_neg (by omega)]
  refine ⟨A', W', L', ?_⟩
  unfold bookS
  rw [e']
  show (if (n : Int) ≤ 1 then _ else if C (bkN sc at_ n) = 59 then _ else if C (bkN sc at_ n) = 0 then _ else _) = _
  rw [if_neg (by omega), cn, if_neg (by decide), if_pos rfl]
end
/-! the laws' texts, as they are read -/
def byK (i : Nat) : Int → Int := fun j => ((kByt.getD i []).getD j.toNat 0).toInt
def lwT1 (d : Int) : Int → Int := catT (catT (fun _ => 0) 0 (byK 2)) 4 (decT d)
def lwN1 (d : Int) : Nat := 4 + dgN d
def lwT2 (d : Int) : Int → Int := catT (catT (catT (fun _ => 0) 0 (byK 3)) 4 (decT d)) (4 + dgN d) (byK 4)
def lwN2 (d : Int) : Nat := 4 + dgN d + 12
theorem lw1_ok : ∀ d : Fin 30, (lawP (chT (lwT1 ((d.val : Nat) : Int)) (lwN1 ((d.val : Nat) : Int))) (fun i => i) 200 0).isRight = true := by decide +kernel
theorem lw2_ok : ∀ d : Fin 4, (lawP (chT (lwT2 ((d.val : Nat) : Int)) (lwN2 ((d.val : Nat) : Int))) (fun i => i) 200 0).isRight = true := by decide +kernel
