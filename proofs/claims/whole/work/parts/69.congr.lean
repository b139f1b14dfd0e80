/-! what is told of a play depends on its speeches alone -/
theorem wltF_cg {n t : Int} {f g : Int → Int} (h : ∀ i, 0 ≤ i → i < n → f i = g i) : wltF n f t = wltF n g t := foldTo_congr (fun i a h0 h1 => by simp only [h i h0 (by omega)])
theorem loopF_cg {n : Int} {f g : Int → Int} (h : ∀ i, 0 ≤ i → i < n → f i = g i) : loopF n f = loopF n g := foldTo_congr (fun i a h0 h1 => by simp only [h i h0 (by omega)])
theorem holeF_cg {n : Int} {f g : Int → Int} (h : ∀ i, 0 ≤ i → i < n → f i = g i) : holeF n f = holeF n g := foldTo_congr (fun i a h0 h1 => by simp only [h i h0 (by omega)])
theorem silF_cg {n x : Int} {a a' l l' : Int → Int} (ha : ∀ i, 0 ≤ i → i < n → a i = a' i) (hl : ∀ i, 0 ≤ i → i < n → l i = l' i) : silF n a l x = silF n a' l' x := congrArg Prod.fst (foldTo_congr (fun i p h0 h1 => by simp only [ha i h0 (by omega), hl i h0 (by omega)]))
theorem dbtF_cg {n x : Int} {a a' k k' : Int → Int} (ha : ∀ i, 0 ≤ i → i < n → a i = a' i) (hk : ∀ i, 0 ≤ i → i < n → k i = k' i) : dbtF n a k x = dbtF n a' k' x := sumTo_congr (fun i h0 h1 => by simp only [ha i h0 (by omega), hk i h0 (by omega)])
theorem wtcF_cg {n : Int} {a a' c c' : Int → Int} (ha : ∀ i, 0 ≤ i → i < n → a i = a' i) (hc : ∀ i, 0 ≤ i → i < n → c i = c' i) : wtcF n a c = wtcF n a' c' := sumTo_congr (fun i _ _ => by simp only [aheadF_congr ha hc i])
theorem fwtF_cg {n : Int} {a a' c c' : Int → Int} (ha : ∀ i, 0 ≤ i → i < n → a i = a' i) (hc : ∀ i, 0 ≤ i → i < n → c i = c' i) : fwtF n a c = fwtF n a' c' := by
  have e : upFrom (fun i => decide (¬ aheadF n a c i = -1)) 0 n.toNat = upFrom (fun i => decide (¬ aheadF n a' c' i = -1)) 0 n.toNat := upFrom_congr (fun i _ _ => by simp only [aheadF_congr ha hc i])
  unfold fwtF
  rw [e]
theorem actF_cg {n : Int} {a a' : Int → Int} (ha : ∀ i, 0 ≤ i → i < n → a i = a' i) : actF n a = actF n a' := foldTo_congr (fun i p h0 h1 => by simp only [ha i h0 (by omega)])
/-- spare, as each of the two tells it -/
def sprX (n : Int) (c : Int → Int) (x1 x2 : Int) : Int := if ¬ (1 ≤ x1 ∧ x1 ≤ 8) ∨ ¬ (0 ≤ x2 ∧ x2 ≤ 1) then -1 else if spareF n c x1 = -1 then -1 else if x2 = 0 then spareF n c x1 else b2i (chgF n c (spareF n c x1) x1)
def sprM (n : Int) (c : Int → Int) (x1 x2 : Int) : Int := if n = 0 ∨ ¬ (1 ≤ x1 ∧ x1 ≤ 8) ∨ n - 2 < x1 ∨ ¬ (0 ≤ x2 ∧ x2 ≤ 1) then -1 else if upFrom (fun i => decide (c (i + x1) = c i)) 1 (n - 1 - x1).toNat = -1 then 1 else if x2 = 0 then upFrom (fun i => decide (c (i + x1) = c i)) 1 (n - 1 - x1).toNat else 0
theorem spr_same {n : Int} {c c' : Int → Int} (hn : 0 ≤ n) (hc : ∀ i, 0 ≤ i → i < n → c i = c' i) (x1 x2 : Int) : sprX n c x1 x2 = sprM n c' x1 x2 := by
  unfold sprX sprM
  by_cases h1 : 1 ≤ x1 ∧ x1 ≤ 8
  · by_cases h2 : 0 ≤ x2 ∧ x2 ≤ 1
    · rw [if_neg (by omega)]
      by_cases h3 : n - 2 < x1
      · have e : (n - 1 - x1).toNat = 0 := by omega
        have es : spareF n c x1 = -1 := by
          unfold spareF
          rw [e, if_pos (show upFrom (fun i => decide (c (i + x1) = c i)) 1 0 = -1 from rfl), if_pos (by omega)]
        rw [if_pos es, if_pos (Or.inr (Or.inr (Or.inl h3)))]
      · rw [if_neg (show ¬ (n = 0 ∨ ¬ (1 ≤ x1 ∧ x1 ≤ 8) ∨ n - 2 < x1 ∨ ¬ (0 ≤ x2 ∧ x2 ≤ 1)) by omega)]
        have eu : upFrom (fun i => decide (c' (i + x1) = c' i)) 1 (n - 1 - x1).toNat = upFrom (fun i => decide (c (i + x1) = c i)) 1 (n - 1 - x1).toNat := upFrom_congr (fun i i0 i1 => by
          have e1 := hc i (by omega) (by omega)
          have e2 := hc (i + x1) (by omega) (by omega)
          simp only [e1, e2])
        rw [eu]
        have sp := upFrom_spec (fun i => decide (c (i + x1) = c i)) (n - 1 - x1).toNat 1 (by omega)
        obtain ⟨U, hU⟩ : ∃ U, upFrom (fun i => decide (c (i + x1) = c i)) 1 (n - 1 - x1).toNat = U := ⟨_, rfl⟩
        have es : spareF n c x1 = if U = -1 then (if n - 1 - x1 < 1 then -1 else 1) else U := by
          unfold spareF
          rw [hU]
        rw [hU] at sp ⊢
        by_cases z : U = -1
        · rw [if_pos z] at es
          rw [if_neg (show ¬ n - 1 - x1 < 1 by omega)] at es
          rw [es, if_neg (by decide), if_pos z]
          by_cases y : x2 = 0
          · rw [if_pos y]
          · rw [if_neg y]
            refine b2i_1 ⟨by omega, by omega, by omega, fun q => ?_⟩
            rcases sp with ⟨-, s⟩ | ⟨s, -⟩
            · have w : decide (c (1 + x1) = c 1) = false := s 1 (by omega) (by omega)
              exact absurd q (of_decide_eq_false w)
            · omega
        · rw [if_neg z] at es
          rw [es, if_neg z, if_neg z]
          by_cases y : x2 = 0
          · rw [if_pos y, if_pos y]
          · rw [if_neg y, if_neg y]
            rcases sp with ⟨s, -⟩ | ⟨-, -, s, -⟩
            · exact absurd s z
            · have w : decide (c (U + x1) = c U) = true := s
              exact b2i_0 (fun q => q.2.2.2 (of_decide_eq_true w))
    · rw [if_pos (by omega), if_pos (by omega)]
  · rw [if_pos (by omega), if_pos (by omega)]
theorem nearP_cg {n nr a b : Int} {ac ac' : Int → Int} (h : ∀ i, 0 ≤ i → i < n → ac i = ac' i) (w : nearP n ac nr a b) : nearP n ac' nr a b := by
  obtain ⟨s, o, h1, h2, h3, h4, h5, h6⟩ := w
  exact ⟨s, o, h1, h2, by rw [← h s h1.1 h1.2]; exact h3, by rw [← h o h2.1 h2.2]; exact h4, h5, h6⟩
theorem nearP_iff {n nr a b : Int} {ac ac' : Int → Int} (h : ∀ i, 0 ≤ i → i < n → ac i = ac' i) : nearP n ac nr a b ↔ nearP n ac' nr a b := ⟨nearP_cg h, nearP_cg (fun i i0 i1 => (h i i0 i1).symm)⟩
theorem shB_cg {n nr : Int} {ac ac' : Int → Int} (h : ∀ i, 0 ≤ i → i < n → ac i = ac' i) : shB n ac nr = shB n ac' nr := by
  funext g
  have e : shareP n ac nr g = shareP n ac' nr g := by
    refine propext ⟨fun w a b ha hb hab ta tb' z => w a b ha hb hab ta tb' ((nearP_iff h).mpr z), fun w a b ha hb hab ta tb' z => w a b ha hb hab ta tb' ((nearP_iff h).mp z)⟩
  unfold shB
  rw [e]
theorem playersP_cg {n nr a v : Int} {ac ac' : Int → Int} (h : ∀ i, 0 ≤ i → i < n → ac i = ac' i) (w : playersP n ac nr a v) : playersP n ac' nr a v := by
  have ea := actF_cg h
  have es := shB_cg (nr := nr) h
  unfold playersP at w ⊢
  rw [ea, es] at w
  rcases w with w | w | ⟨w1, w2, w3, w4⟩
  · exact Or.inl w
  · exact Or.inr (Or.inl w)
  · exact Or.inr (Or.inr ⟨w1, w2, w3, fun b hb => (w4 b hb).trans ⟨fun z => ⟨z.1, z.2.1, fun y => z.2.2 ((nearP_iff h).mpr y)⟩, fun z => ⟨z.1, z.2.1, fun y => z.2.2 ((nearP_iff h).mp y)⟩⟩⟩)
theorem rnS_cg {n : Int} {to to' : Int → Int} (hn : 0 ≤ n) (hb : ∀ i, 0 ≤ i → i < n → -1 ≤ to i ∧ to i < n) (h : ∀ i, 0 ≤ i → i < n → to i = to' i) : ∀ (l : Nat) (come rem : Int), 0 ≤ come → come ≤ n → rnS n to l come rem = rnS n to' l come rem := by
  intro l
  induction l with
  | zero => exact fun _ _ _ _ => rfl
  | succ l ih =>
    intro come rem c0 c1
    rcases fb_spec (n := n) (rem := rem) (come := come) ⟨c0, c1⟩ with ⟨z, -⟩ | ⟨z, -⟩
    · unfold rnS
      rw [if_pos z, if_pos z]
    · have e := h (fb n rem come) (by omega) z.2
      have b := hb (fb n rem come) (by omega) z.2
      have i := ih (to (fb n rem come) + 1) (rem - p2 (fb n rem come)) (by omega) (by omega)
      unfold rnS
      rw [← e, ← i]
theorem candE_cg {n : Int} {to to' : Int → Int} (hn : 0 ≤ n) (hb : ∀ i, 0 ≤ i → i < n → -1 ≤ to i ∧ to i < n) (h : ∀ i, 0 ≤ i → i < n → to i = to' i) {l : Nat} {x y : Int} : candE n to l 0 0 0 0 x y ↔ candE n to' l 0 0 0 0 x y := by
  have e : ∀ rem, rnS n to l 0 rem = rnS n to' l 0 rem := fun rem => rnS_cg hn hb h l 0 rem (by decide) hn
  unfold candE
  simp only [e]
theorem extQ_cg {n : Int} {to to' : Int → Int} {x1 x2 long v : Int} (hn : 0 ≤ n) (hb : ∀ i, 0 ≤ i → i < n → -1 ≤ to i ∧ to i < n) (h : ∀ i, 0 ≤ i → i < n → to i = to' i) (w : extQ n to x1 x2 long v) : extQ n to' x1 x2 long v := by
  rcases w with w | ⟨w1, b, ⟨w2, w3⟩, w4⟩
  · exact Or.inl w
  · exact Or.inr ⟨w1, b, ⟨(candE_cg hn hb h).mp w2, fun x y z => w3 x y ((candE_cg hn hb h).mpr z)⟩, w4⟩
theorem undF_cg {act : Int} {E E' : Int → Int} (h : ∀ a, 0 ≤ a → a < 8 → E a = E' a) : undF act E = undF act E' := foldTo_congr (fun i p h0 h1 => by
  unfold undG
  rw [h i h0 (by omega)])
/-! an evening -/
theorem evSt_cg {n L : Int} {to to' : Int → Int} (hb : ∀ i, 0 ≤ i → i < n → -1 ≤ to i ∧ to i < n) (h : ∀ i, 0 ≤ i → i < n → to i = to' i) : ∀ k : Nat, (∀ i, i < k → evAlive n to L i) → evSt to' L k = evSt to L k ∧ 0 ≤ (evSt to L k).2 := by
  intro k
  induction k with
  | zero => exact fun _ => ⟨rfl, Int.le_refl _⟩
  | succ k ih =>
    intro ha
    obtain ⟨e, p⟩ := ih (fun i hi => ha i (by omega))
    have al := (ha k (by omega)).2.1
    have ht := h _ p al
    have hr := hb _ p al
    unfold evSt
    rw [e, ← ht]
    refine ⟨rfl, ?_⟩
    split
    · show 0 ≤ to (evSt to L k).2 + 1
      omega
    · show 0 ≤ (evSt to L k).2 + 1
      omega
theorem evV_cg {n L : Int} {to to' : Int → Int} (h : ∀ i, 0 ≤ i → i < n → to i = to' i) {k : Nat} (e : evSt to' L k = evSt to L k) (p : 0 ≤ (evSt to L k).2 ∧ (evSt to L k).2 < n) : evV to' L k = evV to L k := by
  unfold evV
  rw [e, ← h _ p.1 p.2]
theorem ev_cg {n L : Int} {to to' len len' : Int → Int} (hb : ∀ i, 0 ≤ i → i < n → -1 ≤ to i ∧ to i < n) (h : ∀ i, 0 ≤ i → i < n → to i = to' i) (hl : ∀ i, 0 ≤ i → i < n → len i = len' i) {k : Nat} (w : evEnd n to L k) : evEnd n to' L k ∧ evOut n to' L k = evOut n to L k ∧ evStop n to' L k = evStop n to L k ∧ evSec len' to' L k = evSec len to L k ∧ ∀ j, j < k → evV to' L j = evV to L j := by
  obtain ⟨w1, w2⟩ := w
  have st := evSt_cg (L := L) hb h
  have sv : ∀ j, j < k → evV to' L j = evV to L j := fun j hj => by
    have s := st j (fun i hi => w1 i (by omega))
    exact evV_cg h s.1 ⟨s.2, (w1 j hj).2.1⟩
  have sk := st k w1
  have eo : evOut n to' L k = evOut n to L k := by
    unfold evOut
    rw [sk.1]
  refine ⟨⟨fun i hi => ?_, fun z => w2 ?_⟩, eo, ?_, ?_, sv⟩
  · have s := st i (fun j hj => w1 j (by omega))
    have a := w1 i hi
    exact ⟨a.1, by rw [s.1]; exact a.2.1, by rw [sv i hi]; exact a.2.2⟩
  · obtain ⟨z1, z2, z3⟩ := z
    rw [sk.1] at z2
    exact ⟨z1, z2, by rw [← evV_cg h sk.1 ⟨sk.2, z2⟩]; exact z3⟩
  · unfold evStop
    rw [eo, sk.1]
  · unfold evSec
    refine sumTo_congr (fun j j0 j1 => ?_)
    have hj : j.toNat < k := by omega
    rw [sv _ hj]
    have a := w1 _ hj
    have s := st j.toNat (fun i hi => w1 i (by omega))
    have hr := hb _ s.2 a.2.1
    have hz := a.2.2
    refine (hl _ ?_ ?_).symm
    · unfold evV at hz ⊢
      split
      · rename_i q
        rw [if_pos q] at hz
        omega
      · exact s.2
    · unfold evV
      split
      · exact hr.2
      · exact a.2.1
/-! odds -/
theorem bitN_01 (mk s : Int) : bitN mk s = 0 ∨ bitN mk s = 1 := by
  exact and1_01 (shr32 mk s)
