/-! the fewest players -/
theorem and32_assoc (a b c : Int) : and32 (and32 a b) c = and32 a (and32 b c) := by
  unfold and32
  rw [Int32.ofInt_toInt, Int32.ofInt_toInt, Int32.and_assoc]
theorem xor_split (k X a M m : Nat) (ha : a < 2 ^ k) (hm : m < 2 ^ k) : (2 ^ k * X + a) ^^^ (2 ^ k * M + m) = 2 ^ k * (X ^^^ M) + (a ^^^ m) := by
  apply Nat.eq_of_testBit_eq
  intro i
  have h : a ^^^ m < 2 ^ k := Nat.xor_lt_two_pow ha hm
  rw [Nat.testBit_xor, Nat.testBit_two_pow_mul_add _ ha, Nat.testBit_two_pow_mul_add _ hm, Nat.testBit_two_pow_mul_add _ h]
  split
  · rw [Nat.testBit_xor]
  · rw [Nat.testBit_xor]
theorem xor_sub (w : Nat) : ∀ s g : Nat, s < 2 ^ w → g &&& s = g → (s ^^^ g) + g = s := by
  induction w with
  | zero =>
    intro s g hs h
    have e : s = 0 := by
      have : (2 : Nat) ^ 0 = 1 := rfl
      omega
    rw [e, Nat.and_zero] at h
    rw [e, ← h]
    rfl
  | succ w ih =>
    intro s g hs h
    rw [Nat.pow_succ] at hs
    have es : s = 2 * (s / 2) + s % 2 := by omega
    have eg : g = 2 * (g / 2) + g % 2 := by omega
    rw [es, eg, and_two _ _ _ _ (by omega) (by omega)] at h
    have l1 : g % 2 &&& s % 2 ≤ g % 2 := Nat.and_le_left
    have l2 : g % 2 &&& s % 2 ≤ s % 2 := Nat.and_le_right
    have h1 : g / 2 &&& s / 2 = g / 2 := by omega
    have h2 : g % 2 &&& s % 2 = g % 2 := by omega
    have i1 := ih (s / 2) (g / 2) (by omega) h1
    have x := xor_split 1 (s / 2) (s % 2) (g / 2) (g % 2) (by omega) (by omega)
    rw [show (2 : Nat) ^ 1 = 2 from rfl, ← es, ← eg] at x
    have b : (s % 2 ^^^ g % 2) + g % 2 = s % 2 := by
      rcases (by omega : s % 2 = 0 ∨ s % 2 = 1) with q | q
      · rw [q] at h2 l2 ⊢
        rw [show g % 2 = 0 by omega]
        rfl
      · rw [q]
        rcases (by omega : g % 2 = 0 ∨ g % 2 = 1) with q2 | q2 <;> rw [q2] <;> rfl
    omega
/-- g is a part of s -/
def subB (g s : Int) : Prop := g.toNat &&& s.toNat = g.toNat
theorem subB_tb {g s : Int} (h : subB g s) (j : Int) (t : tb g j = true) : tb s j = true := by
  unfold tb at *
  unfold subB at h
  rw [← h, Nat.testBit_and, Bool.and_eq_true] at t
  exact t.2
theorem subB_of {g s : Int} (h : ∀ j, 0 ≤ j → tb g j = true → tb s j = true) : subB g s := by
  unfold subB
  apply Nat.eq_of_testBit_eq
  intro i
  rw [Nat.testBit_and]
  have := h (i : Int) (by omega)
  unfold tb at this
  rw [Int.toNat_natCast] at this
  cases hg : g.toNat.testBit i
  · rfl
  · rw [this hg]
    rfl
theorem subB_refl (s : Int) : subB s s := Nat.and_self _
theorem subB_xor {s g : Int} (hs : 0 ≤ s ∧ s < 256) (hg : 0 < g) (h : subB g s) : (0 ≤ xor32 s g ∧ xor32 s g < s) ∧ xor32 s g + g = s ∧ g ≤ s ∧ subB (xor32 s g) s := by
  have le : g.toNat &&& s.toNat ≤ s.toNat := Nat.and_le_right
  have h' : g.toNat &&& s.toNat = g.toNat := h
  have e := xor_sub 8 s.toNat g.toNat (by have : (2 : Nat) ^ 8 = 256 := rfl; omega) h
  have x := xor32_tn (x := s) (y := g) hs.1 (by omega) (by omega) (by omega)
  rw [x]
  refine ⟨by omega, by omega, by omega, ?_⟩
  unfold subB
  rw [Int.toNat_natCast]
  apply Nat.eq_of_testBit_eq
  intro i
  rw [Nat.testBit_and, Nat.testBit_xor]
  have := congrArg (fun z => z.testBit i) h'
  simp only [Nat.testBit_and] at this
  cases a : g.toNat.testBit i <;> cases b : s.toNat.testBit i <;> rw [a, b] at this <;> first | rfl | exact absurd this (by decide)
theorem andnot_sub {s g : Int} (hs : 0 ≤ s ∧ s < 256) (hg : 0 ≤ g) (h : subB g s) : and32 s (xor32 g (-1)) = xor32 s g := by
  have le : g.toNat &&& s.toNat ≤ s.toNat := Nat.and_le_right
  have h' : g.toNat &&& s.toNat = g.toNat := h
  rw [andnot32, and32_tn hs.1 (by omega) hg (by omega), Nat.and_comm, h', Int.toNat_of_nonneg hg]
theorem andnot_0 {s all : Int} (hs : 0 ≤ s ∧ s < 256) (ha : 0 ≤ all ∧ all < 256) : and32 s (xor32 all (-1)) = 0 ↔ subB s all := by
  have e8 := e256
  have t := andnot_tb (x := s) (y := all) (b := 8) hs.1 (by omega) ha.1 (by omega) (by decide)
  constructor
  · intro z
    refine subB_of (fun j j0 hj => ?_)
    have : tb (and32 s (xor32 all (-1))) j = false := by rw [z]; exact tb_0 j
    rw [t.2, hj] at this
    simpa using this
  · intro h
    refine tb_ext t.1.1 (Int.le_refl 0) (fun j j0 => ?_)
    rw [t.2, tb_0]
    cases hj : tb s j
    · rfl
    · rw [subB_tb h j hj]
      rfl
theorem next_sub {s g : Int} (hs : 0 ≤ s ∧ s < 256) (hg : 0 < g ∧ g ≤ s) : (0 ≤ and32 (g - 1) s ∧ and32 (g - 1) s < g) ∧ subB (and32 (g - 1) s) s := by
  have e := and32_tn (x := g - 1) (y := s) (by omega) (by omega) hs.1 (by omega)
  have le : (g - 1).toNat &&& s.toNat ≤ (g - 1).toNat := Nat.and_le_left
  rw [e]
  refine ⟨by omega, ?_⟩
  unfold subB
  rw [Int.toNat_natCast, Nat.and_assoc, Nat.and_self]
theorem subB_le {g s : Int} (h : subB g s) (hg : 0 ≤ g) (hs : 0 ≤ s) : g ≤ s := by
  have le : g.toNat &&& s.toNat ≤ s.toNat := Nat.and_le_right
  have h' : g.toNat &&& s.toNat = g.toNat := h
  omega
theorem subB_trans {a b c : Int} (h : subB a b) (h' : subB b c) : subB a c := subB_of (fun j _ t => subB_tb h' j (subB_tb h j t))
/-- how a set's need is worked off, part by part -/
noncomputable def ndF (sh : Int → Bool) (f : Int → Int) (s : Int) : Nat → Int → Int → Int
  | 0, _, acc => acc
  | k + 1, g, acc => if g ≤ 0 then acc else ndF sh f s k (and32 (g - 1) s) (if ¬ and32 g (and32 s (-s)) = 0 ∧ sh g = true then min acc (f (xor32 s g) + 1) else acc)
theorem ndF_succ (sh : Int → Bool) (f : Int → Int) (s : Int) (k : Nat) (g acc : Int) : ndF sh f s (k + 1) g acc = if g ≤ 0 then acc else ndF sh f s k (and32 (g - 1) s) (if ¬ and32 g (and32 s (-s)) = 0 ∧ sh g = true then min acc (f (xor32 s g) + 1) else acc) := rfl
theorem ndF_congr {sh : Int → Bool} {f f' : Int → Int} {s : Int} (hs : 0 ≤ s ∧ s < 256) (h : ∀ r, 0 ≤ r → r < s → subB r s → f r = f' r) (k : Nat) : ∀ g acc, 0 ≤ g → g ≤ s → subB g s → ndF sh f s k g acc = ndF sh f' s k g acc := by
  induction k with
  | zero => intro g acc _ _ _; rfl
  | succ k ih =>
    intro g acc h0 h2 h3
    rw [ndF_succ, ndF_succ]
    by_cases c : g ≤ 0
    · rw [if_pos c, if_pos c]
    · have n := next_sub hs ⟨by omega, h2⟩
      have x := subB_xor hs (by omega) h3
      rw [if_neg c, if_neg c, ih _ _ n.1.1 (by omega) n.2, h _ x.1.1 x.1.2 x.2.2.2]
theorem ndF_bnd {sh : Int → Bool} {f : Int → Int} {s : Int} (hs : 0 ≤ s ∧ s < 256) (h : ∀ r, 0 ≤ r → r < s → subB r s → 0 ≤ f r) (k : Nat) : ∀ g acc, 0 ≤ g → g ≤ s → subB g s → (0 ≤ acc ∧ acc ≤ 8) → 0 ≤ ndF sh f s k g acc ∧ ndF sh f s k g acc ≤ 8 := by
  induction k with
  | zero => intro g acc _ _ _ ha; exact ha
  | succ k ih =>
    intro g acc h0 h2 h3 ha
    rw [ndF_succ]
    by_cases c : g ≤ 0
    · rw [if_pos c]
      exact ha
    · have n := next_sub hs ⟨by omega, h2⟩
      have x := subB_xor hs (by omega) h3
      rw [if_neg c]
      refine ih _ _ n.1.1 (by omega) n.2 ?_
      have := h _ x.1.1 x.1.2 x.2.2.2
      split <;> omega
/-- what the sets below K need -/
def ndOK (sh : Int → Bool) (all K : Int) (f : Int → Int) : Prop := f 0 = 0 ∧ ∀ s, 0 < s → s < K → subB s all → f s = ndF sh f s 256 s 8
theorem ndOK_bnd {sh : Int → Bool} {all K : Int} {f : Int → Int} (hK : K ≤ 256) (h : ndOK sh all K f) : ∀ (t : Nat) (s : Int), s.toNat ≤ t → 0 ≤ s → s < K → subB s all → 0 ≤ f s ∧ f s ≤ 8 := by
  intro t
  induction t with
  | zero =>
    intro s h0 h1 h2 h3
    rw [show s = 0 by omega, h.1]
    omega
  | succ t ih =>
    intro s h0 h1 h2 h3
    by_cases c : s = 0
    · rw [c, h.1]
      omega
    · rw [h.2 s (by omega) h2 h3]
      exact ndF_bnd ⟨by omega, by omega⟩ (fun r r0 r1 r2 => (ih r (by omega) r0 (by omega) (subB_trans r2 h3)).1) 256 s 8 (by omega) (Int.le_refl _) (subB_refl s) (by omega)
theorem ndOK_unique {sh : Int → Bool} {all K : Int} {f f' : Int → Int} (hK : K ≤ 256) (h : ndOK sh all K f) (h' : ndOK sh all K f') : ∀ (t : Nat) (s : Int), s.toNat ≤ t → 0 ≤ s → s < K → subB s all → f s = f' s := by
  intro t
  induction t with
  | zero =>
    intro s h0 h1 h2 h3
    rw [show s = 0 by omega, h.1, h'.1]
  | succ t ih =>
    intro s h0 h1 h2 h3
    by_cases c : s = 0
    · rw [c, h.1, h'.1]
    · rw [h.2 s (by omega) h2 h3, h'.2 s (by omega) h2 h3]
      exact ndF_congr ⟨by omega, by omega⟩ (fun r r0 r1 r2 => ih r (by omega) r0 (by omega) (subB_trans r2 h3)) 256 s 8 (by omega) (Int.le_refl _) (subB_refl s)
/-- one more set is worked off: its place holds the end, the others stay -/
theorem ndOK_next {sh : Int → Bool} {all K : Int} {f f' : Int → Int} (hK : 0 < K ∧ K < 256) (h : ndOK sh all K f) (he : ∀ s, s ≠ K → f' s = f s) (hv : subB K all → f' K = ndF sh f K 256 K 8) : ndOK sh all (K + 1) f' := by
  refine ⟨by rw [he 0 (by omega)]; exact h.1, fun s h1 h2 h3 => ?_⟩
  by_cases c : s = K
  · subst c
    rw [hv h3]
    exact ndF_congr ⟨by omega, by omega⟩ (fun r r0 r1 r2 => (he r (by omega)).symm) 256 s 8 (by omega) (Int.le_refl _) (subB_refl s)
  · rw [he s c, h.2 s h1 (by omega) h3]
    exact ndF_congr ⟨by omega, by omega⟩ (fun r r0 r1 r2 => (he r (by omega)).symm) 256 s 8 (by omega) (Int.le_refl _) (subB_refl s)
noncomputable def shB (n : Int) (ac : Int → Int) (nr : Int) (g : Int) : Bool := pB (shareP n ac nr g)
theorem c_X8_fewestPlayers (mem : mmM) (nr : Int) (hn : 0 < mem 23 1 ∧ mem 23 1 ≤ 24) (ha : ∀ i, 0 ≤ i → i < mem 23 1 → 0 ≤ mem 24 i ∧ mem 24 i < 8) (hs : shrQ (mem 23 1) (mem 24) nr (nearP (mem 23 1) (mem 24) nr) mem) : con 0 bX8_fewestPlayers 3 [(2, 23)] mem (fun v m => (∃ f, ndOK (shB (mem 23 1) (mem 24) nr) (actF (mem 23 1) (mem 24)) (actF (mem 23 1) (mem 24) + 1) f ∧ v = f (actF (mem 23 1) (mem 24))) ∧ ∀ a, a ≠ 34 → m a = mem a) := by
  have at' := actF_tb (n := mem 23 1) (a := mem 24) (by omega) ha
  have e8 := e256
  refine cn_X8_fewestPlayers (bk_X8_fewestPlayers_0 ?_ (s1 := by omega))
  generalize hall : actF (mem 23 1) (mem 24) = all at *
  generalize hsh : shB (mem 23 1) (mem 24) nr = sh
  have all0 : 0 < all := by
    rcases Int.lt_or_le 0 all with z | z
    · exact z
    · have t := (at'.2 (mem 24 0) (ha 0 (by omega) hn.1).1).mpr ⟨0, by omega, hn.1, rfl⟩
      rw [show all = 0 by omega, tb_0] at t
      cases t
  have cs : ∀ (m : mmM) (g : Int), (∀ a, a ≠ 34 → m a = mem a) → (0 ≤ g ∧ g < 256) → subB g all → con 0 bX8_canShare 1 [(2, 23), (0, g)] m (fun v m' => v = (if sh g = true then 1 else 0) ∧ m' = m) := by
    intro m g f hg hsub
    have h := c_X8_canShare m g (mem 23 1) nr (mem 24) hg (by unfold shrQ at hs ⊢; rw [f 33 (by decide)]; exact hs) (by rw [hall]; exact at'.1) (by rw [hall]; exact fun j _ t => subB_tb hsub j t)
    rw [← hsh]
    exact h
  have sets : ∀ (t : Nat) (s : Int) (m : mmM), s + t = all + 1 → 0 < s → (∀ a, a ≠ 34 → m a = mem a) → ndOK sh all s (m 34) → mmT bX8_fewestPlayers 3 0 0 (mQ 0 (fun v m => (∃ f, ndOK sh all (all + 1) f ∧ v = f all) ∧ ∀ a, a ≠ 34 → m a = mem a)) 14 [(2, 23), (0, all), (0, s), (9, 0), (9, 0)] [] mS m := by
    intro t
    induction t with
    | zero =>
      intro s m hst h0 f h
      refine bk_X8_fewestPlayers_14 (fun g g2 => by omega) (fun g g2 => by omega) (fun g g2 => by omega) (fun g g2 => ⟨⟨m 34, by rw [show all + 1 = s by omega]; exact h, rfl⟩, f⟩) (fun g g2 g3 => by omega) (fun g g2 g3 => ⟨⟨m 34, by rw [show all + 1 = s by omega]; exact h, rfl⟩, f⟩) (s3 := fun _ _ => by omega) (s5 := fun _ _ _ => by omega)
    | succ t ih =>
      intro s m hst h0 f h
      have hs256 : 0 ≤ s ∧ s < 256 := by omega
      refine bk_X8_fewestPlayers_14 (fun g g2 g3 => ?_) (fun g g2 g3 => ?_) (fun g g2 => by omega) (fun g g2 => by omega) (fun g g2 g3 => by omega) (fun g g2 g3 => by omega) (s3 := fun _ _ => by omega) (s5 := fun _ _ _ => by omega)
      · have hsub := (andnot_0 hs256 at'.1).mp g3
        have bd := ndOK_bnd (by omega) h
        have inn : ∀ (k : Nat) (g acc : Int) (m' : mmM), 0 ≤ g → g ≤ k → g ≤ s → subB g s → (∀ a, a ≠ 34 → m' a = mem a) → (∀ r, r ≠ s → m' 34 r = m 34 r) → m' 34 s = acc → (0 ≤ acc ∧ acc ≤ 8) → ndF sh (m 34) s k g acc = ndF sh (m 34) s 256 s 8 → mmT bX8_fewestPlayers 3 0 0 (mQ 0 (fun v m => (∃ f, ndOK sh all (all + 1) f ∧ v = f all) ∧ ∀ a, a ≠ 34 → m a = mem a)) 55 [(2, 23), (0, all), (0, s), (0, and32 s (-s)), (0, g)] [] mS m' := by
          intro k
          induction k with
          | zero =>
            intro g acc m' h0' h1' h2' h3' f' r' ea hacc he
            refine bk_X8_fewestPlayers_55 (d1 := 1) (P1 := fun _ _ => True) (fun z => by omega) (fun _ => ?_) (fun z => by omega) (fun z => by omega) (fun z => by omega) (s2 := fun z => by omega) (s3 := fun z => by omega) (s4 := fun z => by omega) (s5 := fun z => by omega)
            exact ih (s + 1) m' (by omega) (by omega) f' (ndOK_next (by omega) h r' (fun _ => by rw [ea]; exact he))
          | succ k ihk =>
            intro g acc m' h0' h1' h2' h3' f' r' ea hacc he
            have go : 0 < g → ∀ (m'' : mmM) (acc' : Int), (∀ a, a ≠ 34 → m'' a = mem a) → (∀ r, r ≠ s → m'' 34 r = m 34 r) → m'' 34 s = acc' → acc' = (if ¬ and32 g (and32 s (-s)) = 0 ∧ sh g = true then min acc (m 34 (xor32 s g) + 1) else acc) → mmT bX8_fewestPlayers 3 0 0 (mQ 0 (fun v m => (∃ f, ndOK sh all (all + 1) f ∧ v = f all) ∧ ∀ a, a ≠ 34 → m a = mem a)) 55 [(2, 23), (0, all), (0, s), (0, and32 s (-s)), (0, and32 (g - 1) s)] [] mS m'' := by
              intro hg m'' acc' f'' r'' ea' ev
              have n := next_sub hs256 ⟨hg, h2'⟩
              have x := subB_xor hs256 hg h3'
              have b := bd (xor32 s g).toNat (xor32 s g) (Nat.le_refl _) x.1.1 x.1.2 (subB_trans x.2.2.2 hsub)
              refine ihk _ acc' m'' n.1.1 (by omega) (by omega) n.2 f'' r'' ea' (by rw [ev]; split <;> omega) ?_
              rw [← he, ev, ndF_succ, if_neg (by omega : ¬ g ≤ 0)]
            have x : 0 < g → _ := fun hg => subB_xor hs256 hg h3'
            have gx : 0 < g → m' 34 (xor32 s g) = m 34 (xor32 s g) := fun hg => r' _ (by have := (x hg).1.2; omega)
            have bx : 0 < g → _ := fun hg => bd (xor32 s g).toNat (xor32 s g) (Nat.le_refl _) (x hg).1.1 (x hg).1.2 (subB_trans (x hg).2.2.2 hsub)
            refine bk_X8_fewestPlayers_55 (d1 := 1) (P1 := fun v m2 => v = (if sh g = true then 1 else 0) ∧ m2 = m') (fun z z2 => cs m' g f' (by omega) (subB_trans h3' hsub)) (fun z => ?_) (fun z z2 => go z m' acc f' r' ea (by rw [if_neg (fun y => y.1 z2)])) (fun z z2 v m2 w z3 => ?_) (fun z z2 v m2 w z3 => ?_) (s2 := fun z z2 v m2 w => by rw [w.1]; split <;> omega) (s3 := fun _ _ _ _ _ _ => by omega) (s4 := fun z _ _ _ _ _ => by have := (x z).1; omega) (s5 := fun z _ v m2 w _ => by rw [w.2, gx z]; have := bx z; omega)
            · have e : ndF sh (m 34) s (k + 1) g acc = acc := if_pos z
              exact ih (s + 1) m' (by omega) (by omega) f' (ndOK_next (by omega) h r' (fun _ => by rw [ea, ← he, e]))
            · rw [w.2]
              exact go z m' acc f' r' ea (by rw [if_neg (fun y => by have := w.1; rw [if_pos y.2] at this; omega)])
            · rw [w.2, gx z, ea]
              refine go z _ _ (fun a ha' => by rw [mset_ne ha']; exact f' a ha') (fun r hr => by rw [mset_at, if_neg hr]; exact r' r hr) (mset_same _ _ _ _) ?_
              rw [if_pos ⟨z2, Classical.byContradiction fun y => z3 (by rw [w.1, if_neg y])⟩]
        refine inn 256 s 8 _ hs256.1 (by omega) (Int.le_refl _) (subB_refl s) (fun a ha' => by rw [mset_ne ha']; exact f a ha') (fun r hr => by rw [mset_at, if_neg hr]) (mset_same _ _ _ _) (by omega) rfl
      · have hsub := fun z => g3 ((andnot_0 hs256 at'.1).mpr z)
        exact ih (s + 1) m (by omega) (by omega) f (ndOK_next (by omega) h (fun _ _ => rfl) (fun z => absurd z hsub))
  refine sets all.toNat 1 _ (by omega) (by omega) (fun a ha' => mset_ne ha') ⟨mset_same _ _ _ _, fun s h1 h2 => by omega⟩
theorem cn_X11_players {d : Nat} {P : Int → mmM → Prop} {mem : mmM} {x1 x2 : Int} (h : mmT bX11_players d 0 0 (mQ 0 P) 0 [(2, 0), (0, x1), (0, x2)] [] mS mem) : con 0 bX11_players d [(2, 0), (0, x1), (0, x2)] mem P := mmC_of [(2, 0), (0, x1), (0, x2)] ok_X11_players.2.2.2.2 rfl (Nat.le_of_ble_eq_true rfl) h
theorem bk_X11_players_0 {d : Nat} {d1 : Nat} {P1 : mmM → Prop} {d2 : Nat} {P2 : Int → mmM → Prop} {P : Int → mmM → Prop} {mem : mmM} {x1 x2 : Int}
  (c1 : ¬ (mem 23 1) = 0 → 1 ≤ x1 → x1 ≤ 24 → conv bX8_findSharers d1 [(2, 23), (0, x1)] mem P1)
  (c2 : ¬ (mem 23 1) = 0 → 1 ≤ x1 → x1 ≤ 24 → ∀ (m1 : mmM), P1 m1 → x2 = (-1) → con 0 bX8_fewestPlayers d2 [(2, 23)] m1 P2)
  (q1 : (mem 23 1) = 0 → P (-1) mem)
  (q2 : ¬ (mem 23 1) = 0 → x1 < 1 → P (-1) mem)
  (q3 : ¬ (mem 23 1) = 0 → 1 ≤ x1 → x1 ≤ 24 → ∀ (m1 : mmM), P1 m1 → ¬ x2 = (-1) → ¬ (0 ≤ x2 ∧ x2 < 8) → P (-1) m1)
  (q4 : ¬ (mem 23 1) = 0 → 1 ≤ x1 → x1 ≤ 24 → ∀ (m1 : mmM), P1 m1 → ¬ x2 = (-1) → (0 ≤ x2 ∧ x2 < 8) → ¬ ((0 ≤ x2 ∧ x2 < 8) ∧ and32 (shr32 (actF (m1 23 1) (m1 24)) x2) 1 = 1) → P (-1) m1)
  (q5 : ¬ (mem 23 1) = 0 → 1 ≤ x1 → x1 ≤ 24 → ∀ (m1 : mmM), P1 m1 → ¬ x2 = (-1) → (0 ≤ x2 ∧ x2 < 8) → ((0 ≤ x2 ∧ x2 < 8) ∧ and32 (shr32 (actF (m1 23 1) (m1 24)) x2) 1 = 1) → P (m1 33 x2) m1)
  (q6 : ¬ (mem 23 1) = 0 → 1 ≤ x1 → x1 ≤ 24 → ∀ (m1 : mmM), P1 m1 → x2 = (-1) → ∀ (v3 : Int), ∀ (m4 : mmM), P2 v3 m4 → P v3 m4)
  (q7 : ¬ (mem 23 1) = 0 → 1 ≤ x1 → 24 < x1 → P (-1) mem)
  (hd_d1 : d1 + 1 ≤ d := by omega)
  (hd_d2 : d2 + 1 ≤ d := by omega)
  (hd2 : 2 ≤ d := by omega)
  (hd3 : 3 ≤ d := by omega)
  (s1 : ¬ (mem 23 1) = 0 → R32 x1 := by intros; first | omega | assumption | solve_by_elim)
  (s2 : ¬ (mem 23 1) = 0 → 1 ≤ x1 → x1 ≤ 24 → ∀ (m1 : mmM), P1 m1 → R32 x2 := by intros; first | omega | assumption | solve_by_elim)
  (s3 : ¬ (mem 23 1) = 0 → 1 ≤ x1 → x1 ≤ 24 → ∀ (m1 : mmM), P1 m1 → ¬ x2 = (-1) → (0 ≤ x2 ∧ x2 < 8) → 0 ≤ (m1 23 1) ∧ (m1 23 1) ≤ 24 := by intros; first | omega | assumption | solve_by_elim)
  (s4 : ¬ (mem 23 1) = 0 → 1 ≤ x1 → x1 ≤ 24 → ∀ (m1 : mmM), P1 m1 → ¬ x2 = (-1) → (0 ≤ x2 ∧ x2 < 8) → ((0 ≤ x2 ∧ x2 < 8) ∧ and32 (shr32 (actF (m1 23 1) (m1 24)) x2) 1 = 1) → 0 ≤ x2 ∧ x2 < 8 := by intros; first | omega | assumption | solve_by_elim)
  : mmT bX11_players d 0 0 (mQ 0 P) 0 [(2, 0), (0, x1), (0, x2)] [] mS mem := by
  refine st_aload_n (i := 0) rfl (t := 0) rfl (by decide) dX11_players_0 ?_
  refine so_getA 0 4 fr_X11_42_10 rfl sh_0 fx_0_4 dX11_players_1 ?_
  refine so_getI (v := (mem 23 1)) 23 1 fr_X11_135_8 rfl sh_23 rfl dX11_players_4 (fun r1 => ?_)
  refine sr_if_eq 21 r1 (by decide) dX11_players_7 (fun h1 => ?_) (fun h1 => ?_)
  · have h1 : (mem 23 1) = 0 := by omega
    refine st_iconst dX11_players_21 ?_
    exact st_ireturn rfl dX11_players_22 (mQ.ret (q1 h1))
  · have h1 : ¬ (mem 23 1) = 0 := by omega
    refine st_iload_n (i := 1) rfl rfl dX11_players_10 ?_
    refine st_iconst dX11_players_11 ?_
    refine sr_icmp_lt 21 (s1 h1) ⟨by decide, by decide⟩ (by decide) dX11_players_12 (fun h2 => ?_) (fun h2 => ?_)
    · have h2 : x1 < 1 := by omega
      refine st_iconst dX11_players_21 ?_
      exact st_ireturn rfl dX11_players_22 (mQ.ret (q2 h1 h2))
    · have h2 : 1 ≤ x1 := by omega
      refine st_iload_n (i := 1) rfl rfl dX11_players_15 ?_
      refine st_bipush rfl dX11_players_16 ?_
      refine sr_icmp_le 23 (s1 h1) ⟨by decide, by decide⟩ (by decide) dX11_players_18 (fun h3 => ?_) (fun h3 => ?_)
      · have h3 : x1 ≤ 24 := by omega
        refine st_aload_n (i := 0) rfl (t := 0) rfl (by decide) dX11_players_23 ?_
        refine so_getA 0 4 fr_X11_42_10 rfl sh_0 fx_0_4 dX11_players_24 ?_
        refine st_iload_n (i := 1) rfl rfl dX11_players_27 ?_
        refine st_callV (kc2 := 0) (ks2 := 0) (av := [(0, x1)]) 23 8 mr_X11_299 ok_X8_findSharers (c1 h1 h2 h3) rfl sh_23 ⟨_, rfl, rfl, by decide⟩ rfl rfl hd_d1 (Nat.le_refl 0) (Nat.le_refl 0) (Nat.le_of_ble_eq_true rfl) dX11_players_28 (mQv.elim fun m1 p1 => ?_)
        refine st_iload_n (i := 2) rfl rfl dX11_players_31 ?_
        refine st_iconst dX11_players_32 ?_
        refine sr_icmp_ne 44 (s2 h1 h2 h3 m1 p1) ⟨by decide, by decide⟩ (by decide) dX11_players_33 (fun h4 => ?_) (fun h4 => ?_)
        · have h4 : ¬ x2 = (-1) := by omega
          refine st_iload_n (i := 2) rfl rfl dX11_players_44 ?_
          refine st_callS (kc2 := 0) (ks2 := 0) (av := [(0, x2)]) mr_X11_179 ok_X11_isActor (c_X11_isActor m1 x2 ((s2 h1 h2 h3 m1 p1))) rfl rfl hd2 (Nat.le_refl 0) (Nat.le_refl 0) (Nat.le_of_ble_eq_true rfl) dX11_players_45 (mQ.elim fun v1 m2 hp => ?_)
          obtain ⟨hpv, hpm⟩ := hp
          subst hpv
          have hpm := hpm.symm
          subst hpm
          refine so_ifeqB 74 (by decide) dX11_players_48 (fun h5 => ?_) (fun h5 => ?_)
          · have h5 : ¬ (0 ≤ x2 ∧ x2 < 8) := h5
            refine st_iconst dX11_players_74 ?_
            exact st_ireturn rfl dX11_players_75 (mQ.ret (q3 h1 h2 h3 m1 p1 h4 h5))
          · have h5 : (0 ≤ x2 ∧ x2 < 8) := h5
            refine st_aload_n (i := 0) rfl (t := 0) rfl (by decide) dX11_players_51 ?_
            refine so_getA 0 4 fr_X11_42_10 rfl sh_0 fx_0_4 dX11_players_52 ?_
            refine st_iload_n (i := 2) rfl rfl dX11_players_55 ?_
            refine st_callV (kc2 := 0) (ks2 := 0) (av := [(0, x2)]) 23 8 mr_X11_282 ok_X8_hasActor (c_X8_hasActor m1 x2 ((s2 h1 h2 h3 m1 p1)) ((s3 h1 h2 h3 m1 p1 h4 h5))) rfl sh_23 ⟨_, rfl, rfl, by decide⟩ rfl rfl hd3 (Nat.le_refl 0) (Nat.le_refl 0) (Nat.le_of_ble_eq_true rfl) dX11_players_56 (mQ.elim fun v2 m3 hp => ?_)
            obtain ⟨hpv, hpm⟩ := hp
            subst hpv
            have hpm := hpm.symm
            subst hpm
            refine so_ifeqB 74 (by decide) dX11_players_59 (fun h6 => ?_) (fun h6 => ?_)
            · have h6 : ¬ ((0 ≤ x2 ∧ x2 < 8) ∧ and32 (shr32 (actF (m1 23 1) (m1 24)) x2) 1 = 1) := h6
              refine st_iconst dX11_players_74 ?_
              exact st_ireturn rfl dX11_players_75 (mQ.ret (q4 h1 h2 h3 m1 p1 h4 h5 h6))
            · have h6 : ((0 ≤ x2 ∧ x2 < 8) ∧ and32 (shr32 (actF (m1 23 1) (m1 24)) x2) 1 = 1) := h6
              refine st_aload_n (i := 0) rfl (t := 0) rfl (by decide) dX11_players_62 ?_
              refine so_getA 0 4 fr_X11_42_10 rfl sh_0 fx_0_4 dX11_players_63 ?_
              refine so_getA 23 11 fr_X11_305_8 rfl sh_23 fx_23_11 dX11_players_66 ?_
              refine st_iload_n (i := 2) rfl rfl dX11_players_69 ?_
              refine so_iald (v := (m1 33 x2)) 33 rfl sh_33 (by decide) (s4 h1 h2 h3 m1 p1 h4 h5 h6) rfl dX11_players_70 (fun r2 => ?_)
              refine st_goto 75 (by decide) dX11_players_71 ?_
              exact st_ireturn rfl dX11_players_75 (mQ.ret (q5 h1 h2 h3 m1 p1 h4 h5 h6))
        · have h4 : x2 = (-1) := by omega
          refine st_aload_n (i := 0) rfl (t := 0) rfl (by decide) dX11_players_36 ?_
          refine so_getA 0 4 fr_X11_42_10 rfl sh_0 fx_0_4 dX11_players_37 ?_
          refine st_callV (kc2 := 0) (ks2 := 0) (av := []) 23 8 mr_X11_302 ok_X8_fewestPlayers (c2 h1 h2 h3 m1 p1 h4) rfl sh_23 ⟨_, rfl, rfl, by decide⟩ rfl rfl hd_d2 (Nat.le_refl 0) (Nat.le_refl 0) (Nat.le_of_ble_eq_true rfl) dX11_players_40 (mQ.elim fun v3 m4 p2 => ?_)
          exact st_ireturn rfl dX11_players_43 (mQ.ret (q6 h1 h2 h3 m1 p1 h4 v3 m4 p2))
      · have h3 : 24 < x1 := by omega
        refine st_iconst dX11_players_21 ?_
        exact st_ireturn rfl dX11_players_22 (mQ.ret (q7 h1 h2 h3))
/-- what PLAYERS answers -/
def playersP (n : Int) (ac : Int → Int) (nr a : Int) (v : Int) : Prop :=
  (¬ (0 < n ∧ (1 ≤ nr ∧ nr ≤ 24) ∧ (a = -1 ∨ ((0 ≤ a ∧ a < 8) ∧ tb (actF n ac) a = true))) ∧ v = -1) ∨
  ((0 < n ∧ (1 ≤ nr ∧ nr ≤ 24)) ∧ a = -1 ∧ ∃ f, ndOK (shB n ac nr) (actF n ac) (actF n ac + 1) f ∧ v = f (actF n ac)) ∨
  ((0 < n ∧ (1 ≤ nr ∧ nr ≤ 24)) ∧ ((0 ≤ a ∧ a < 8) ∧ tb (actF n ac) a = true) ∧ (0 ≤ v ∧ v < 256) ∧ ∀ b, 0 ≤ b → (tb v b = true ↔ (tb (actF n ac) b = true ∧ ¬ a = b ∧ ¬ nearP n ac nr a b)))
theorem playersP_unique {n : Int} {ac : Int → Int} {nr a v v' : Int} (hall : 0 ≤ actF n ac ∧ actF n ac < 256) (h : playersP n ac nr a v) (h' : playersP n ac nr a v') : v = v' := by
  rcases h with ⟨h1, h2⟩ | ⟨h1, h2, f, h3, h4⟩ | ⟨h1, h2, h3, h4⟩
  · rcases h' with ⟨g1, g2⟩ | ⟨g1, g2, _⟩ | ⟨g1, g2, _⟩
    · rw [h2, g2]
    · exact absurd ⟨g1.1, g1.2, Or.inl g2⟩ h1
    · exact absurd ⟨g1.1, g1.2, Or.inr g2⟩ h1
  · rcases h' with ⟨g1, g2⟩ | ⟨g1, g2, f', g3, g4⟩ | ⟨g1, g2, _⟩
    · exact absurd ⟨h1.1, h1.2, Or.inl h2⟩ g1
    · rw [h4, g4]
      exact ndOK_unique (by omega) h3 g3 (actF n ac).toNat (actF n ac) (Nat.le_refl _) hall.1 (by omega) (subB_refl _)
    · omega
  · rcases h' with ⟨g1, g2⟩ | ⟨g1, g2, _⟩ | ⟨g1, g2, g3, g4⟩
    · exact absurd ⟨h1.1, h1.2, Or.inr h2⟩ g1
    · omega
    · refine tb_ext h3.1 g3.1 (fun j j0 => ?_)
      have a := h4 j j0
      have b := g4 j j0
      cases c : tb v j
      · cases d : tb v' j
        · rfl
        · have := a.mpr (b.mp d)
          rw [c] at this
          cases this
      · exact ((b.mpr (a.mp c)).symm ▸ rfl)
theorem c_X11_players (mem : mmM) (x1 x2 : Int) (h1 : R32 x1) (h2 : R32 x2) (hn : 0 ≤ mem 23 1 ∧ mem 23 1 ≤ 24) (ha : ∀ i, 0 ≤ i → i < mem 23 1 → 0 ≤ mem 24 i ∧ mem 24 i < 8) : con 0 bX11_players 4 [(2, 0), (0, x1), (0, x2)] mem (fun v m => playersP (mem 23 1) (mem 24) x1 x2 v ∧ plFr mem m) := by
  have at' := actF_tb hn.1 ha
  have keep : ∀ m1 : mmM, plFr mem m1 → m1 23 = mem 23 ∧ m1 24 = mem 24 := fun m1 q => ⟨q 23 (by decide) (by decide), q 24 (by decide) (by decide)⟩
  refine cn_X11_players (bk_X11_players_0 (d1 := 2) (d2 := 3) (P1 := fun m => plFr mem m ∧ shrQ (mem 23 1) (mem 24) x1 (nearP (mem 23 1) (mem 24) x1) m) (P2 := fun v m => (∃ f, ndOK (shB (mem 23 1) (mem 24) x1) (actF (mem 23 1) (mem 24)) (actF (mem 23 1) (mem 24) + 1) f ∧ v = f (actF (mem 23 1) (mem 24))) ∧ plFr mem m) (fun g g2 g3 => c_X8_findSharers mem x1 ⟨g2, g3⟩ hn ha) (fun g g2 g3 m1 q g4 => ?_) (fun g => ⟨Or.inl ⟨by omega, rfl⟩, fun _ _ _ => rfl⟩) (fun g g2 => ⟨Or.inl ⟨by omega, rfl⟩, fun _ _ _ => rfl⟩) (fun g g2 g3 m1 q g4 g5 => ⟨Or.inl ⟨fun z => by rcases z.2.2 with z | z <;> omega, rfl⟩, q.1⟩) (fun g g2 g3 m1 q g4 g5 g6 => ⟨Or.inl ⟨fun z => ?_, rfl⟩, q.1⟩) (fun g g2 g3 m1 q g4 g5 g6 => ⟨Or.inr (Or.inr ⟨by omega, ?_, ?_, fun b b0 => ?_⟩), q.1⟩) (fun g g2 g3 m1 q g4 v m4 w => ⟨Or.inr (Or.inl ⟨by omega, g4, w.1⟩), w.2⟩) (fun g g2 g3 => ⟨Or.inl ⟨by omega, rfl⟩, fun _ _ _ => rfl⟩) (s3 := fun _ _ _ m1 q _ _ => by rw [(keep m1 q.1).1]; exact hn))
  · have k := keep m1 q.1
    have c := c_X8_fewestPlayers m1 x1 (by rw [k.1]; omega) (by rw [k.1, k.2]; exact ha) (by rw [k.1, k.2]; exact q.2)
    rw [k.1, k.2] at c
    exact con.mono c (fun v m w => ⟨w.1, fun a a1 a2 => (w.2 a a2).trans (q.1 a a1 a2)⟩)
  · have k := keep m1 q.1
    rw [k.1, k.2] at g6
    rcases z.2.2 with z | z
    · exact g4 z
    · exact g6 ⟨g5, (bit_tb at'.1.1 (by omega) g5.1 (by omega)).mpr z.2⟩
  · have k := keep m1 q.1
    rw [k.1, k.2] at g6
    exact ⟨g5, (bit_tb at'.1.1 (by omega) g5.1 (by omega)).mp g6.2⟩
  · exact (q.2 x2 g5.1 g5.2).1
  · have k := keep m1 q.1
    rw [k.1, k.2] at g6
    rw [(q.2 x2 g5.1 g5.2).2 b b0]
    constructor
    · rintro ⟨-, d⟩
      exact d
    · intro d
      exact ⟨(bit_tb at'.1.1 (by omega) g5.1 (by omega)).mp g6.2, d⟩
