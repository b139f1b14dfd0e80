/-! a law's worth: the model's postfix machine -/
def opF (c a b : Int) : Int := if c = 2 then withinS (a + b) else if c = 3 then withinS (a - b) else if c = 4 then withinS (a * b) else if c = 5 then (if b = 0 then 0 else withinS (Int.tdiv a b)) else if c = 6 then b2i (a = b) else if c = 7 then b2i (a < b) else if c = 8 then b2i (b < a) else if c = 10 then b2i (¬ a = 0 ∧ ¬ b = 0) else b2i (¬ a = 0 ∨ ¬ b = 0)
theorem mul_bnd {a b : Int} (ha : -1001000 ≤ a ∧ a ≤ 1001000) (hb : -1001000 ≤ b ∧ b ≤ 1001000) : -1002001000000 ≤ a * b ∧ a * b ≤ 1002001000000 := by
  have h : (a * b).natAbs ≤ 1001000 * 1001000 := by
    rw [Int.natAbs_mul]
    exact Nat.mul_le_mul (by omega) (by omega)
  omega
theorem tdiv_bnd2 {a : Int} (b : Int) (ha : -1001000 ≤ a ∧ a ≤ 1001000) : -1001000 ≤ Int.tdiv a b ∧ Int.tdiv a b ≤ 1001000 := by
  have h : (Int.tdiv a b).natAbs ≤ a.natAbs := by
    rw [Int.natAbs_tdiv]
    exact Nat.div_le_self _ _
  omega
theorem withinS_bnd (z : Int) : -1000000 ≤ withinS z ∧ withinS z ≤ 1000000 := by
  unfold withinS
  repeat' split <;> omega
theorem opF_bnd (c a b : Int) : -1000000 ≤ opF c a b ∧ opF c a b ≤ 1000000 := by
  unfold opF b2i
  (repeat' split) <;> first | exact withinS_bnd _ | omega
/-- a sign of a law, and its number: 0 a number, 1 a letter, 9 not, else what joins two -/
abbrev tokT : Type := Int × Int
def evTok (L : Int → Int) (st : List Int) (t : tokT) : List Int :=
  if t.1 = 0 then t.2 :: st else if t.1 = 1 then L t.2 :: st else if t.1 = 9 then (match st with | a :: r => (1 - a) :: r | [] => [])
  else (match st with | b :: a :: r => opF t.1 a b :: r | _ => [])
def evToks (L : Int → Int) : List Int → List tokT → List Int
  | st, [] => st
  | st, t :: r => evToks L (evTok L st t) r
/-- enough stands on the stack at each sign, and never more than 64; one thing is left -/
def wfToks : Nat → List tokT → Prop
  | d, [] => d = 1
  | d, t :: r => if t.1 = 0 then d < 64 ∧ (-1000000 ≤ t.2 ∧ t.2 ≤ 1000000) ∧ wfToks (d + 1) r else if t.1 = 1 then d < 64 ∧ (0 ≤ t.2 ∧ t.2 < 6) ∧ wfToks (d + 1) r else if t.1 = 9 then 1 ≤ d ∧ wfToks d r else 2 ≤ d ∧ (2 ≤ t.1 ∧ t.1 ≤ 11) ∧ wfToks (d - 1) r
/-- the stack lies in a row, its top at place n - 1 -/
def stkR (f : Int → Int) : List Int → Prop
  | [] => True
  | a :: r => f r.length = a ∧ stkR f r
theorem stkR_set {f g : Int → Int} : ∀ (st : List Int), (∀ j : Int, j < st.length → g j = f j) → stkR f st → stkR g st := by
  intro st
  induction st with
  | nil => intro _ _; trivial
  | cons a r ih =>
    intro h hs
    refine ⟨?_, ih (fun j hj => h j (by simp only [List.length_cons]; omega)) hs.2⟩
    rw [h _ (by simp only [List.length_cons]; omega)]
    exact hs.1
/-- signs lie in two rows from place p on -/
def tokR (c v : Int → Int) : Int → List tokT → Prop
  | _, [] => True
  | p, t :: r => c p = t.1 ∧ ((t.1 = 0 ∨ t.1 = 1) → v p = t.2) ∧ tokR c v (p + 1) r
theorem opF_rng {c a b : Int} : R32 (opF c a b) := by
  have := opF_bnd c a b
  omega
/-- a law: its clauses, each a test, or none, and a sum -/
abbrev lawT : Type := List (List tokT × List tokT)
def top1 : List Int → Int
  | [] => 0
  | a :: _ => a
def lawV (L : Int → Int) : lawT → Int
  | [] => 0
  | q :: r => if q.1.length = 0 ∨ ¬ top1 (evToks L [] q.1) = 0 then top1 (evToks L [] q.2) else lawV L r
/-- law n lies in the model's rows, from clause c on -/
def lawR (mem : mmM) (n : Int) : Int → lawT → Prop
  | c, [] => c = 90 * n + mem 70 n
  | c, q :: r => c < 90 * n + mem 70 n ∧ (0 ≤ mem 71 c ∧ (q.1.length : Int) = mem 72 c - mem 71 c ∧ (q.2.length : Int) = mem 73 c - mem 72 c ∧ mem 73 c ≤ 340) ∧ (tokR (mem 67) (mem 68) (340 * n + mem 71 c) q.1 ∧ tokR (mem 67) (mem 68) (340 * n + mem 72 c) q.2) ∧ (q.1.length = 0 ∨ wfToks 0 q.1) ∧ wfToks 0 q.2 ∧ lawR mem n (c + 1) r
theorem lawR_congr {mem m : mmM} {n : Int} (h : ∀ a, a ≠ 74 → a ≠ 75 → m a = mem a) : ∀ (cl : lawT) (c : Int), lawR mem n c cl → lawR m n c cl := by
  intro cl
  induction cl with
  | nil =>
    intro c hc
    unfold lawR at hc ⊢
    rw [h 70 (by decide) (by decide)]
    exact hc
  | cons q r ih =>
    intro c hc
    unfold lawR at hc ⊢
    rw [h 70 (by decide) (by decide), h 71 (by decide) (by decide), h 72 (by decide) (by decide), h 73 (by decide) (by decide), h 67 (by decide) (by decide), h 68 (by decide) (by decide)]
    exact ⟨hc.1, hc.2.1, hc.2.2.1, hc.2.2.2.1, hc.2.2.2.2.1, ih _ hc.2.2.2.2.2⟩
theorem evToks_congr {L L' : Int → Int} (h : ∀ k, 0 ≤ k → k < 6 → L k = L' k) : ∀ (ts : List tokT) (d : Nat) (st : List Int), wfToks d ts → evToks L st ts = evToks L' st ts := by
  intro ts
  induction ts with
  | nil => intro d st _; rfl
  | cons t r ih =>
    intro d st hw
    show evToks L (evTok L st t) r = evToks L' (evTok L' st t) r
    unfold wfToks at hw
    have e : evTok L st t = evTok L' st t := by
      unfold evTok
      by_cases c1 : t.1 = 1
      · rw [if_neg (by omega), if_pos c1] at hw
        rw [h t.2 hw.2.1.1 hw.2.1.2]
      · rw [if_neg c1, if_neg c1]
    rw [e]
    by_cases c0 : t.1 = 0
    · rw [if_pos c0] at hw
      exact ih _ _ hw.2.2
    · rw [if_neg c0] at hw
      by_cases c1 : t.1 = 1
      · rw [if_pos c1] at hw
        exact ih _ _ hw.2.2
      · rw [if_neg c1] at hw
        by_cases c9 : t.1 = 9
        · rw [if_pos c9] at hw
          exact ih _ _ hw.2
        · rw [if_neg c9] at hw
          exact ih _ _ hw.2.2
def wfLaw : lawT → Prop
  | [] => True
  | q :: r => (q.1.length = 0 ∨ wfToks 0 q.1) ∧ wfToks 0 q.2 ∧ wfLaw r
theorem lawV_congr {L L' : Int → Int} (h : ∀ k, 0 ≤ k → k < 6 → L k = L' k) : ∀ (cl : lawT), wfLaw cl → lawV L cl = lawV L' cl := by
  intro cl
  induction cl with
  | nil => intro _; rfl
  | cons q r ih =>
    intro hw
    obtain ⟨h1, h2, h3⟩ := hw
    show (if q.1.length = 0 ∨ ¬ top1 (evToks L [] q.1) = 0 then top1 (evToks L [] q.2) else lawV L r) = (if q.1.length = 0 ∨ ¬ top1 (evToks L' [] q.1) = 0 then top1 (evToks L' [] q.2) else lawV L' r)
    rw [ih h3, evToks_congr h q.2 0 [] h2]
    rcases h1 with h1 | h1
    · rw [if_pos (Or.inl h1), if_pos (Or.inl h1)]
    · rw [evToks_congr h q.1 0 [] h1]
theorem lawR_wf {mem : mmM} {n : Int} : ∀ (cl : lawT) (c : Int), lawR mem n c cl → wfLaw cl := by
  intro cl
  induction cl with
  | nil => intro _ _; trivial
  | cons q r ih =>
    intro c hc
    exact ⟨hc.2.2.2.1, hc.2.2.2.2.1, ih _ hc.2.2.2.2.2⟩
/-- the letters of a speech, in the model -/
def letM (mem : mmM) (s b k : Int) : Int := if k = 0 then mem 79 s else if k = 1 then s else if k = 2 then mem 81 s else if k = 3 then gapF (mem 79) s else if k = 4 then likesF (mem 65 27) (mem 79) (cueF (mem 80)) s else b
theorem letM_bnd {mem : mmM} (hp : playM mem) {s b : Int} (hs : 0 ≤ s ∧ s < mem 65 27) (hb : b = 0 ∨ b = 1) (k : Int) : -1000000 ≤ letM mem s b k ∧ letM mem s b k ≤ 1000000 := by
  have hn := hp.1
  have hx := hp.2 s hs.1 (by omega)
  have g := gapF_bnd (a := mem 79) hs.1
  have l := likesF_bnd (mem 65 27) (mem 79) (cueF (mem 80)) s hn.1
  unfold letM
  (repeat' split) <;> omega
def bitN (mk s : Int) : Int := and32 (shr32 mk s) 1
/-- what the model's law held makes one forget -/
def forgF (mem : mmM) (cl : lawT) (s : Int) : Int := if mem 65 28 = -1 then 0 else max 0 (min 100 (lawV (letM mem s (bitN (mem 65 31) s)) cl))
theorem forgF_bnd (mem : mmM) (cl : lawT) (s : Int) : 0 ≤ forgF mem cl s ∧ forgF mem cl s ≤ 100 := by
  unfold forgF
  split <;> omega
theorem forgF_congr {mem m : mmM} (h : nightFr mem m) (cl : lawT) : forgF m cl = forgF mem cl := by
  funext s
  unfold forgF letM
  rw [h.2 28 (by omega), h.2 31 (by omega), h.2 27 (by omega), h.1 79 (by decide) (by decide) (by decide) (by decide) (by decide), h.1 80 (by decide) (by decide) (by decide) (by decide) (by decide), h.1 81 (by decide) (by decide) (by decide) (by decide) (by decide)]