/-! what holds of the class ahead of each step of the law -/
def jLaws (ls : Nat → lawT) (lw : Int) (m : mmM) : Prop := (m 0 11 = lw ∧ 0 ≤ lw ∧ lw ≤ 4) ∧ (-1 ≤ m 0 12 ∧ m 0 12 < lw) ∧ ∀ k : Nat, (k : Int) < lw → (0 ≤ m (11 + 3 * k) 1 ∧ m (11 + 3 * k) 1 ≤ 160) ∧ lawX (m (12 + 3 * k)) (m (11 + 3 * k) 1) 0 (ls k)
def jActs (m : mmM) : Prop := ∀ a, 0 ≤ a → a < 8 → (0 ≤ m 36 a ∧ m 36 a ≤ 3) ∧ (0 ≤ m 37 a ∧ m 37 a ≤ 100)
def jPlay (n : Int) (m : mmM) : Prop := (m 23 1 = n ∧ 2 ≤ n ∧ n ≤ 13) ∧ ∀ i, 0 ≤ i → i < n → (0 ≤ m 24 i ∧ m 24 i < 8) ∧ (1 ≤ m 26 i ∧ m 26 i ≤ 99) ∧ (0 ≤ m 29 i ∧ m 29 i ≤ 24) ∧ (0 ≤ m 30 i ∧ m 30 i ≤ 24)
def jLeap (n : Int) (m : mmM) : Prop := ∀ i, 0 ≤ i → i < n → m 38 i = leapF (m 36 (m 24 i)) n (m 24) (m 28) i
def jWorth (n : Int) (m : mmM) : Prop := ∀ i, 0 ≤ i → i < n → (0 ≤ m 31 i ∧ m 31 i ≤ 100) ∧ (0 ≤ m 32 i ∧ m 32 i ≤ 100)
def jNotes (n ng t : Int) (m : mmM) : Prop := (0 ≤ m 47 0 ∧ m 47 0 < p2 n) ∧ (m 47 2 = ng ∧ 0 ≤ ng ∧ ng ≤ t) ∧ ∀ i, 0 ≤ i → i < 24 → (0 ≤ m 48 i ∧ m 48 i ≤ 201 * t) ∧ (n ≤ i → m 48 i = 0)
def jImg (n im t : Int) (m : mmM) : Prop := (m 47 4 = 0 ∧ im = -1) ∨ (¬ m 47 4 = 0 ∧ (0 ≤ m 47 5 ∧ m 47 5 < p2 n) ∧ im = bcS (m 47 5) ∧ ∀ i, 0 ≤ i → i < 24 → (0 ≤ m 49 i ∧ m 49 i ≤ 201 * t) ∧ (n ≤ i → m 49 i = 0))
/-- the tape's bytes; ahead of it nothing stands -/
def jTape (m : mmM) : Prop := bytX m ∧ ∀ i, i < 0 → m 2 i = 0
def IB (sc : Int → Int) (ls : Nat → lawT) (lw : Int) (m : mmM) : Prop := jTape m ∧ jLaws ls lw m ∧ jActs m ∧ odOr m ∧ m 999 = sc
def IX (sc : Int → Int) (ls : Nat → lawT) (lw n ng im t : Int) (m : mmM) : Prop := IB sc ls lw m ∧ jPlay n m ∧ jLeap n m ∧ jWorth n m ∧ jNotes n ng t m ∧ jImg n im t m
/-- nothing changed that counts -/
def keepC (a : Nat) : Prop := a = 0 ∨ a = 2 ∨ (11 ≤ a ∧ a ≤ 32) ∨ (36 ≤ a ∧ a ≤ 38) ∨ (47 ≤ a ∧ a ≤ 49) ∨ a = 52 ∨ a = 999
def same (mem m : mmM) : Prop := (∀ a, keepC a → m a = mem a) ∧ m 1 1 = mem 1 1 ∧ (odOr mem → odOr m)
theorem same_refl (mem : mmM) : same mem mem := ⟨fun _ _ => rfl, rfl, id⟩
theorem same_trans {a b c : mmM} (h : same a b) (h' : same b c) : same a c := ⟨fun x hx => (h'.1 x hx).trans (h.1 x hx), h'.2.1.trans h.2.1, fun w => h'.2.2 (h.2.2 w)⟩
theorem same_eq {mem m : mmM} (h : m = mem) : same mem m := by
  rw [h]
  exact same_refl _
theorem odOr_of {mem m : mmM} (h : m 58 = mem 58) (w : odOr mem) : odOr m := by
  unfold odOr
  rw [h]
  exact w
theorem same_odd {mem m : mmM} (h : oddQ mem m) : same mem m := ⟨fun a ha => h.1 a (by unfold keepC at ha; omega), by rw [h.1 1 (by omega)], fun _ => h.2⟩
theorem same_ext {mem m : mmM} (h : ext1Fr mem m) : same mem m := ⟨fun a ha => h a (by unfold keepC at ha; omega), by rw [h 1 (by decide)], odOr_of (h 58 (by decide))⟩
theorem same_pl {mem m : mmM} (h : plFr mem m) : same mem m := ⟨fun a ha => h a (by unfold keepC at ha; omega) (by unfold keepC at ha; omega), by rw [h 1 (by decide) (by decide)], odOr_of (h 58 (by decide) (by decide))⟩
theorem same_rw {mem m : mmM} (h : rwFr mem m) : same mem m := ⟨fun a ha => h a (by unfold keepC at ha; omega), by rw [h 1 (by omega)], odOr_of (h 58 (by omega))⟩
theorem same_tr {mem m : mmM} (h : trFr mem m) : same mem m := ⟨fun a ha => h a (by unfold keepC at ha; omega) (by unfold keepC at ha; omega) (by unfold keepC at ha; omega), by rw [h 1 (by decide) (by decide) (by decide)], odOr_of (h 58 (by decide) (by decide) (by decide))⟩
theorem same_evX {mem m : mmM} {L : Int} (h : evXP mem L m) : same mem m := by
  obtain ⟨k, -, ⟨h1, -⟩, -⟩ := h
  exact ⟨fun a ha => h1 a (by unfold keepC at ha; omega) (by unfold keepC at ha; omega), by rw [h1 1 (by decide) (by decide)], odOr_of (h1 58 (by decide) (by decide))⟩
section
variable {sc : Int → Int} {ls : Nat → lawT} {lw n ng im t : Int} {b m : mmM}
theorem IX.size (w : IX sc ls lw n ng im t b) : b 23 1 = n := w.2.1.1.1
theorem IX.nn (w : IX sc ls lw n ng im t b) : 2 ≤ n ∧ n ≤ 13 := w.2.1.1.2
theorem IX.nX (w : IX sc ls lw n ng im t b) : 0 ≤ b 23 1 ∧ b 23 1 ≤ 24 := by
  have := w.nn
  rw [w.size]
  omega
theorem IX.row (w : IX sc ls lw n ng im t b) : ∀ i, 0 ≤ i → i < n → (0 ≤ b 24 i ∧ b 24 i < 8) ∧ (1 ≤ b 26 i ∧ b 26 i ≤ 99) ∧ (0 ≤ b 29 i ∧ b 29 i ≤ 24) ∧ (0 ≤ b 30 i ∧ b 30 i ≤ 24) := w.2.1.2
theorem IX.act (w : IX sc ls lw n ng im t b) : ∀ i, 0 ≤ i → i < b 23 1 → 0 ≤ b 24 i ∧ b 24 i < 8 := fun i i0 i1 => (w.row i i0 (by rw [← w.size]; exact i1)).1
theorem IX.leap (w : IX sc ls lw n ng im t b) : ∀ i, 0 ≤ i → i < n → b 38 i = leapF (b 36 (b 24 i)) n (b 24) (b 28) i := w.2.2.1
theorem IX.leapB (w : IX sc ls lw n ng im t b) : ∀ i, 0 ≤ i → i < n → -1 ≤ b 38 i ∧ b 38 i < n := fun i i0 i1 => by
  rw [w.leap i i0 i1]
  exact leapF_bnd i0 i1
theorem IX.odd (w : IX sc ls lw n ng im t b) : odOr b := w.1.2.2.2.1
theorem IX.scr (w : IX sc ls lw n ng im t b) : b 999 = sc := w.1.2.2.2.2
theorem IX.worth (w : IX sc ls lw n ng im t b) : ∀ i, 0 ≤ i → i < n → (0 ≤ b 31 i ∧ b 31 i ≤ 100) ∧ (0 ≤ b 32 i ∧ b 32 i ≤ 100) := w.2.2.2.1
theorem IX.marks (w : IX sc ls lw n ng im t b) : 0 ≤ b 47 0 ∧ b 47 0 < p2 n := w.2.2.2.2.1.1
theorem IX.playX (w : IX sc ls lw n ng im t b) : playX b := ⟨w.nX, fun i i0 i1 => ⟨w.act i i0 i1, (w.row i i0 (by rw [← w.size]; exact i1)).2.1, by
  rw [w.size] at i1 ⊢
  exact w.leapB i i0 i1⟩⟩
theorem IX.fgR (w : IX sc ls lw n ng im t b) (s k : Int) : 0 ≤ forgetsX b s k ∧ forgetsX b s k ≤ 100 := by
  unfold forgetsX
  split
  · rename_i h
    have e := w.worth s h.1 (by rw [← w.size]; exact h.2)
    split <;> omega
  · omega
theorem IX.tkR (w : IX sc ls lw n ng im t b) (s : Int) : 0 ≤ takeX b s ∧ takeX b s ≤ 100 := by
  unfold takeX
  split
  · rename_i h
    have a := w.act s h.1 h.2
    exact (w.1.2.2.1 _ a.1 a.2).2
  · omega
theorem IX.nightP (w : IX sc ls lw n ng im t b) : nightP b := ⟨w.playX, w.fgR, w.tkR⟩
theorem IX.pN (w : IX sc ls lw n ng im t b) : p2 n ≤ 8192 := p2_mono (j := 13) w.nn.2
/-! frames -/
theorem jLaws_of (h0 : m 0 11 = b 0 11 ∧ m 0 12 = b 0 12) (hl : ∀ k : Nat, (k : Int) < lw → m (11 + 3 * k) 1 = b (11 + 3 * k) 1 ∧ m (12 + 3 * k) = b (12 + 3 * k)) (h : jLaws ls lw b) : jLaws ls lw m := by
  obtain ⟨i1, i2, i5⟩ := h
  unfold jLaws
  rw [h0.1, h0.2]
  refine ⟨i1, i2, fun k hk => ?_⟩
  rw [(hl k hk).1, (hl k hk).2]
  exact i5 k hk
theorem jbyt_of (h1 : m 1 1 = b 1 1) (h2 : m 2 = b 2) (h : jTape b) : jTape m := by
  unfold jTape bytX
  rw [h1, h2]
  exact h
theorem IB_same (h : same b m) (w : IB sc ls lw b) : IB sc ls lw m := by
  obtain ⟨h1, h2, h3⟩ := h
  obtain ⟨w1, w2, w3, w4, w5⟩ := w
  have k4 := w2.1
  refine ⟨jbyt_of h2 (h1 2 (by unfold keepC; omega)) w1, jLaws_of ⟨by rw [h1 0 (by unfold keepC; omega)], by rw [h1 0 (by unfold keepC; omega)]⟩ (fun k hk => ⟨by rw [h1 _ (by unfold keepC; omega)], h1 _ (by unfold keepC; omega)⟩) w2, ?_, h3 w4, (h1 999 (by unfold keepC; omega)).trans w5⟩
  unfold jActs
  rw [h1 36 (by unfold keepC; omega), h1 37 (by unfold keepC; omega)]
  exact w3
theorem IX_same (h : same b m) (w : IX sc ls lw n ng im t b) : IX sc ls lw n ng im t m := by
  have h1 := h.1
  obtain ⟨w1, w2, w3, w4, w5, w6⟩ := w
  refine ⟨IB_same h w1, ?_, ?_, ?_, ?_, ?_⟩
  · unfold jPlay
    rw [h1 23 (by unfold keepC; omega), h1 24 (by unfold keepC; omega), h1 26 (by unfold keepC; omega), h1 29 (by unfold keepC; omega), h1 30 (by unfold keepC; omega)]
    exact w2
  · unfold jLeap
    rw [h1 24 (by unfold keepC; omega), h1 28 (by unfold keepC; omega), h1 36 (by unfold keepC; omega), h1 38 (by unfold keepC; omega)]
    exact w3
  · unfold jWorth
    rw [h1 31 (by unfold keepC; omega), h1 32 (by unfold keepC; omega)]
    exact w4
  · unfold jNotes
    rw [h1 47 (by unfold keepC; omega), h1 48 (by unfold keepC; omega)]
    exact w5
  · unfold jImg
    rw [h1 47 (by unfold keepC; omega), h1 49 (by unfold keepC; omega)]
    exact w6
theorem IX_more (w : IX sc ls lw n ng im t b) (h0 : 0 ≤ t) : IX sc ls lw n ng im (t + 1) b := by
  obtain ⟨w1, w2, w3, w4, ⟨n1, n2, n3⟩, w6⟩ := w
  refine ⟨w1, w2, w3, w4, ⟨n1, ⟨n2.1, n2.2.1, by omega⟩, fun i i0 i1 => ?_⟩, ?_⟩
  · have := n3 i i0 i1
    exact ⟨by omega, this.2⟩
  · rcases w6 with w6 | ⟨a, c, d, e⟩
    · exact Or.inl w6
    · refine Or.inr ⟨a, c, d, fun i i0 i1 => ?_⟩
      have := e i i0 i1
      exact ⟨by omega, this.2⟩
end
/-! the looks at the class: `b` what stood at the act's end, `m` what stands -/
section
variable {sc : Int → Int} {ls : Nat → lawT} {lw n ng im t : Int} {b m : mmM}
theorem s_at (s : same b m) {a : Nat} (h : keepC a) : m a = b a := s.1 a h
theorem s_fg (s : same b m) : forgetsX m = forgetsX b := by
  funext x y
  unfold forgetsX
  rw [s.1 23 (by unfold keepC; omega), s.1 31 (by unfold keepC; omega), s.1 32 (by unfold keepC; omega)]
theorem s_tk (s : same b m) : takeX m = takeX b := by
  funext x
  unfold takeX
  rw [s.1 23 (by unfold keepC; omega), s.1 24 (by unfold keepC; omega), s.1 37 (by unfold keepC; omega)]
theorem s_EX (s : same b m) (mk x : Int) : EX m mk x = EX b mk x := by
  unfold EX fgX tkX
  rw [s_fg s, s_tk s, s.1 23 (by unfold keepC; omega), s.1 38 (by unfold keepC; omega)]
theorem s_ESX (s : same b m) (mk a x : Int) : ESX m mk a x = ESX b mk a x := by
  unfold ESX fgX tkX
  rw [s_fg s, s_tk s, s.1 23 (by unfold keepC; omega), s.1 24 (by unfold keepC; omega), s.1 38 (by unfold keepC; omega)]
theorem s_tell (s : same b m) (x y : Int) : tellX m x y = tellX b x y := by
  unfold tellX
  rw [s_fg s, s.1 24 (by unfold keepC; omega), s.1 25 (by unfold keepC; omega), s.1 26 (by unfold keepC; omega), s.1 27 (by unfold keepC; omega), s.1 28 (by unfold keepC; omega), s.1 29 (by unfold keepC; omega), s.1 30 (by unfold keepC; omega), s.1 47 (by unfold keepC; omega), s.1 48 (by unfold keepC; omega)]
theorem R32_of {x : Int} (h0 : -1000000 ≤ x) (h1 : x ≤ 1000000000) : R32 x := ⟨by omega, by omega⟩
/-- a look: what it tells, and that nothing changed -/
def lk (b : mmM) (P : Int → Prop) : Int → mmM → Prop := fun v m' => P v ∧ same b m'
theorem ck_count (x : Int) (hx : R32 x) (s : same b m) : con 0 bX11_count 2 [(2, 0), (0, x)] m (lk b (fun v => v = (if x = 0 then b 23 0 else if x = 1 then b 23 1 else if x = 2 then b 0 11 else if x = 3 then b 1 1 else if x = 4 then b 0 12 else if x = 5 then b 47 2 else if x = 6 then bcS (b 47 0) else if x = 7 then bcS (b 47 1) else -1000000))) := con.mono (c_X11_count m x hx) (fun v m' q => by
  refine ⟨?_, by rw [q.2]; exact s⟩
  rw [q.1, s.1 23 (by unfold keepC; omega), s.1 0 (by unfold keepC; omega), s.2.1, s.1 47 (by unfold keepC; omega)])
theorem ck_chance (w : IX sc ls lw n ng im t b) (x : Int) (hx : 1 ≤ x ∧ x ≤ 200) (s : same b m) : con 0 bX11_chance 7 [(2, 0), (0, x)] m (lk b (fun v => v = (EX b (b 47 0) x).2.1)) := by
  have w1 := IX_same s w
  refine con.mono (c_X11_chance m x (R32_of (by omega) (by omega)) w1.nightP w1.odd) (fun v m' q => ⟨?_, same_trans s (same_odd q.2)⟩)
  have := w1.nn
  rw [q.1, if_neg (by rw [w1.size]; omega), s_EX s, s.1 47 (by unfold keepC; omega)]
theorem ck_mean (w : IX sc ls lw n ng im t b) (k x : Int) (hk : 0 ≤ k ∧ k < n) (hx : 1 ≤ x ∧ x ≤ 200) (s : same b m) : con 0 bX11_mean 7 [(2, 0), (0, k), (0, x)] m (lk b (fun v => v = (EX b (b 47 0) x).2.2.1 k)) := by
  have w1 := IX_same s w
  have := w1.nn
  refine con.mono (c_X11_mean m k x (R32_of (by omega) (by omega)) (R32_of (by omega) (by omega)) w1.nightP w1.odd) (fun v m' q => ⟨?_, same_trans s (same_odd q.2)⟩)
  rw [q.1, if_pos (by rw [w1.size]; omega), s_EX s, s.1 47 (by unfold keepC; omega)]
theorem ck_leap (w : IX sc ls lw n ng im t b) (k : Int) (hk : 0 ≤ k ∧ k < n) (s : same b m) : con 0 bX11_leap 2 [(2, 0), (0, k)] m (lk b (fun v => v = b 38 k)) := by
  have w1 := IX_same s w
  have := w1.nn
  refine con.mono (c_X11_leap m k (R32_of (by omega) (by omega)) w1.nX) (fun v m' q => ⟨?_, by rw [q.2]; exact s⟩)
  rw [q.1, if_pos (by rw [w1.size]; omega), s.1 38 (by unfold keepC; omega)]
theorem ck_stops (w : IX sc ls lw n ng im t b) (s : same b m) : con 0 bX11_stops 2 [(2, 0)] m (lk b (fun v => v = wltF n (b 38) (-1))) := by
  have w1 := IX_same s w
  have := w1.nn
  refine con.mono (c_X11_stops m w1.nX) (fun v m' q => ⟨?_, by rw [q.2]; exact s⟩)
  rw [q.1, if_neg (by rw [w1.size]; omega), w1.size, s.1 38 (by unfold keepC; omega)]
theorem mmCH.mono {hh : List (Nat × Nat × Nat × Nat)} {k : Nat} {B : mmB} {d : Nat} {av : List mmV} {mem : mmM} {P P' : Int → mmM → Prop} (h : mmCH hh B d 0 0 av mS mem (mQ k P)) (hp : ∀ v m', P v m' → P' v m') : mmCH hh B d 0 0 av mS mem (mQ k P') :=
  fun l G hfl => (h l G hfl).weak fun _ _ _ _ ⟨⟨r, sh, m, h1, ⟨v, h2, h3, h4⟩, h5⟩, h6⟩ => ⟨⟨r, sh, m, h1, ⟨v, h2, h3, hp v m h4⟩, h5⟩, h6⟩
theorem ck_speech (w : IX sc ls lw n ng im t b) (x y : Int) (hx : 0 ≤ x ∧ x < n) (hy : 0 ≤ y ∧ y ≤ 9) (s : same b m) : mmCH lsH bL_speech 4 0 0 [(2, 0), (0, x), (0, y)] mS m (mQ 0 (lk b (fun v => v = tellX b x y))) := by
  have w1 := IX_same s w
  exact mmCH.mono (c_L_speech m x y w1.nX (by rw [w1.size]; exact hx) hy) (fun v m' h => ⟨by rw [h.1, s_tell s], by rw [h.2]; exact s⟩)
theorem ck_und (w : IX sc ls lw n ng im t b) (x : Int) (hx : 1 ≤ x ∧ x ≤ 200) (s : same b m) : con 0 bX11_understudy 7 [(2, 0), (0, x), (0, 1)] m (lk b (fun v => v = (undF (actF n (b 24)) (fun a => (ESX b (b 47 0) a x).2.1)).2)) := by
  have w1 := IX_same s w
  have := w1.nn
  refine con.mono (c_X11_understudy m x 1 (R32_of (by omega) (by omega)) ⟨by decide, by decide⟩ w1.nightP w1.odd) (fun v m' q => ⟨?_, same_trans s (same_odd q.2)⟩)
  have eu : (fun a => (ESX m (m 47 0) a x).2.1) = fun a => (ESX b (b 47 0) a x).2.1 := by
    funext a
    rw [s_ESX s, s.1 47 (by unfold keepC; omega)]
  rw [q.1, if_neg (by rw [w1.size]; omega), if_neg (by decide), eu, w1.size, s.1 24 (by unfold keepC; omega)]
theorem ck_evening (w : IX sc ls lw n ng im t b) (L : Int) (hL : 0 ≤ L ∧ L < p2 n) (s : same b m) : con 0 bX11_evening 5 [(2, 0), (0, L), (0, -1)] m (lk b (fun v => ∃ k : Nat, evEnd n (b 38) L k ∧ v = k)) := by
  have w1 := IX_same s w
  have := w1.nn
  have hp := w.pN
  refine con.mono (c_X11_evening m L (-1) (R32_of (by omega) (by omega)) ⟨by decide, by decide⟩ w1.playX) (fun v m' q => ?_)
  rcases q with ⟨g, -⟩ | ⟨-, e, q⟩
  · exact absurd ⟨⟨by rw [w1.size]; omega, hL.1, by rw [w1.size]; exact hL.2⟩, by decide⟩ g
  · refine ⟨?_, same_trans s (same_evX e)⟩
    obtain ⟨k, h1, ⟨-, -, h3, -, -⟩, -, -⟩ := e
    rw [w1.size, s.1 38 (by unfold keepC; omega)] at h1
    exact ⟨k, h1, by rw [q, if_pos rfl, h3]⟩
theorem ck_ends (w : IX sc ls lw n ng im t b) (L x : Int) (hL : 0 ≤ L ∧ L < p2 n) (hx : x = 0 ∨ x = 1) (s : same b m) : con 0 bX11_ends 5 [(2, 0), (0, L), (0, x)] m (lk b (fun v => ∃ k : Nat, evEnd n (b 38) L k ∧ v = if x = 0 then evOut n (b 38) L k else evStop n (b 38) L k)) := by
  have w1 := IX_same s w
  have := w1.nn
  have hp := w.pN
  refine con.mono (c_X11_ends m L x (R32_of (by omega) (by omega)) (R32_of (by omega) (by omega)) w1.playX) (fun v m' q => ?_)
  rcases q with ⟨g, -⟩ | ⟨-, e, q⟩
  · exact absurd ⟨⟨by rw [w1.size]; omega, hL.1, by rw [w1.size]; exact hL.2⟩, by omega⟩ g
  · refine ⟨?_, same_trans s (same_evX e)⟩
    obtain ⟨k, h1, -, h5, h6⟩ := e
    rw [w1.size, s.1 38 (by unfold keepC; omega)] at h1 h5 h6
    refine ⟨k, h1, ?_⟩
    rcases hx with hx | hx
    · rw [q, hx, if_pos rfl, if_pos rfl, h5]
    · rw [q, hx, if_neg (by decide), if_pos rfl, if_neg (by decide), h6]
theorem ck_rows (w : IX sc ls lw n ng im t b) (s : same b m) : con 0 bX11_rows 4 [(2, 0), (0, 0)] m (lk b (fun v => v = 1)) := by
  have w1 := IX_same s w
  have := w1.nn
  refine con.mono (c_X11_rows m 0 ⟨by decide, by decide⟩ w1.nX) (fun v m' q => ⟨?_, same_trans s (same_rw q.2)⟩)
  rw [q.1, if_neg (by rw [w1.size]; omega)]
  exact rwR_0 _ _ _
theorem ck_players (w : IX sc ls lw n ng im t b) (x : Int) (hx : 1 ≤ x ∧ x ≤ 24) (s : same b m) : con 0 bX11_players 4 [(2, 0), (0, x), (0, -1)] m (lk b (fun v => playersP n (b 24) x (-1) v)) := by
  have w1 := IX_same s w
  refine con.mono (c_X11_players m x (-1) (R32_of (by omega) (by omega)) ⟨by decide, by decide⟩ w1.nX w1.act) (fun v m' q => ⟨?_, same_trans s (same_pl q.2)⟩)
  have e := q.1
  rw [w1.size, s.1 24 (by unfold keepC; omega)] at e
  exact e
theorem ck_short (w : IX sc ls lw n ng im t b) (x : Int) (hx : 0 ≤ x ∧ x ≤ 4) (s : same b m) : con 0 bX11_shortest 8 [(2, 0), (0, x), (0, 0)] m (lk b (fun v => extQ n (b 38) x 0 0 v)) := by
  have w1 := IX_same s w
  refine con.mono (c_X11_shortest m x 0 (R32_of (by omega) (by omega)) ⟨by decide, by decide⟩ w1.playX) (fun v m' q => ⟨?_, same_trans s (same_ext q.2)⟩)
  have e := q.1
  rw [w1.size, s.1 38 (by unfold keepC; omega)] at e
  exact e
theorem ck_long (w : IX sc ls lw n ng im t b) (x : Int) (hx : 0 ≤ x ∧ x ≤ 4) (s : same b m) : con 0 bX11_longest 8 [(2, 0), (0, x), (0, 0)] m (lk b (fun v => extQ n (b 38) x 0 1 v)) := by
  have w1 := IX_same s w
  refine con.mono (c_X11_longest m x 0 (R32_of (by omega) (by omega)) ⟨by decide, by decide⟩ w1.playX) (fun v m' q => ⟨?_, same_trans s (same_ext q.2)⟩)
  have e := q.1
  rw [w1.size, s.1 38 (by unfold keepC; omega)] at e
  exact e
theorem ck_trial (w : IX sc ls lw n ng im t b) (s : same b m) : con 0 bX11_trial 6 [(2, 0), (0, 3), (0, 0)] m (lk b (fun v => trialP n (forgetsX b) (takeX b) (b 38) (b 26) (b 47 0) 3 0 v)) := by
  have w1 := IX_same s w
  have hp := w.pN
  have hm := w1.marks
  refine con.mono (c_X11_trial m 3 0 ⟨by decide, by decide⟩ ⟨by decide, by decide⟩ w1.nightP (R32_of (by omega) (by omega))) (fun v m' q => ⟨?_, same_trans s (same_tr q.2)⟩)
  have e := q.1
  rw [w1.size, s_fg s, s_tk s, s.1 38 (by unfold keepC; omega), s.1 26 (by unfold keepC; omega), s.1 47 (by unfold keepC; omega)] at e
  exact e
theorem ck_reword (w : IX sc ls lw n ng im t b) (s : same b m) : con 0 bX11_reword 5 [(2, 0), (0, 0)] m (lk b (fun v => v = wtcF n (b 24) (b 28))) := by
  have w1 := IX_same s w
  have := w1.nn
  refine con.mono (c_X11_reword m 0 ⟨by decide, by decide⟩ w1.nX) (fun v m' q => ⟨?_, by rw [q.2]; exact s⟩)
  rw [q.1, if_neg (by rw [w1.size]; omega), if_pos rfl, w1.size, s.1 24 (by unfold keepC; omega), s.1 28 (by unfold keepC; omega)]
end
