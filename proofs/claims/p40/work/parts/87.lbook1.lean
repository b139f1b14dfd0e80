/-! the law's book: a text drawn -/
def r0S (sc : Int → Int) (at_ k : Int) : Int := xS sc (at_ + k) % (1 + xS sc (at_ + 24) % 4)
def r1S (sc : Int → Int) (at_ k : Int) : Int := xS sc (at_ + k) / 16 % (1 + xS sc (at_ + 25) % 4)
def r2S (sc : Int → Int) (at_ k : Int) : Int := if xS sc (at_ + k) / 256 % 3 = 0 then 1 + xS sc (at_ + k) / 1024 % 99 else 5
theorem r0S_rng (sc : Int → Int) (at_ k : Int) : 0 ≤ r0S sc at_ k ∧ r0S sc at_ k < 4 := by
  have h1 := mod_rng (x := xS sc (at_ + 24)) (n := 4) (by omega)
  have h2 := mod_rng (x := xS sc (at_ + k)) (n := 1 + xS sc (at_ + 24) % 4) (by omega)
  unfold r0S
  omega
theorem r1S_rng (sc : Int → Int) (at_ k : Int) : 0 ≤ r1S sc at_ k ∧ r1S sc at_ k < 4 := by
  have h1 := mod_rng (x := xS sc (at_ + 25)) (n := 4) (by omega)
  have h2 := mod_rng (x := xS sc (at_ + k) / 16) (n := 1 + xS sc (at_ + 25) % 4) (by omega)
  unfold r1S
  omega
theorem r2S_rng (sc : Int → Int) (at_ k : Int) : 1 ≤ r2S sc at_ k ∧ r2S sc at_ k ≤ 99 := by
  have h2 := mod_rng (x := xS sc (at_ + k) / 1024) (n := 99) (by omega)
  unfold r2S
  split <;> omega
def sepN (k : Nat) : Nat := if k = 0 then 0 else 1
def sufN (r : Int) : Nat := if r = 5 then 0 else dgN r
def bkN (sc : Int → Int) (at_ : Int) : Nat → Nat
  | 0 => 0
  | k + 1 => 0 + bkN sc at_ k + sepN k + 1 + 1 + sufN (r2S sc at_ k)
def bkT (sc : Int → Int) (at_ : Int) : Nat → Int → Int
  | 0 => fun _ => 0
  | k + 1 => catT (catT (catT (catT (catT (fun _ => 0) 0 (bkT sc at_ k)) (0 + bkN sc at_ k) (fun _ => 44)) (0 + bkN sc at_ k + sepN k) (fun _ => 65 + r0S sc at_ k)) (0 + bkN sc at_ k + sepN k + 1) (fun _ => 97 + r1S sc at_ k)) (0 + bkN sc at_ k + sepN k + 1 + 1) (decT (r2S sc at_ k))
theorem sufN_le (r : Int) : sufN r ≤ 2 := by
  unfold sufN dgN
  split
  · omega
  · split <;> omega
theorem bkN_le (sc : Int → Int) (at_ : Int) : ∀ k : Nat, bkN sc at_ k ≤ 5 * k
  | 0 => Nat.le_refl _
  | k + 1 => by
    have ih := bkN_le sc at_ k
    have h1 := sufN_le (r2S sc at_ k)
    have h2 : sepN k ≤ 1 := by unfold sepN; split <;> omega
    show 0 + bkN sc at_ k + sepN k + 1 + 1 + sufN (r2S sc at_ k) ≤ 5 * (k + 1)
    omega
/-- a constant's text -/
theorem kStr {sh : mmS} {mem : mmM} {f : Int → Int} {r r2 : Int} {n : Nat} (i : Nat) (hi : i < 5) (h1 : r = ((2 * i : Nat) : Int)) (h2 : r2 = ((2 * i + 1 : Nat) : Int)) (hn : n = kLen.getD i 0) (hf : ∀ j : Nat, j < n → f j = ((kByt.getD i []).getD j 0).toInt) (hb : ∀ j : Int, 0 ≤ j → j < n → 0 ≤ f j ∧ f j ≤ 127) (h5 : n ≤ 5000) : isStr sh mem (4, r) (4, r2) n f := by
  subst h1 h2
  exact ⟨Or.inr ⟨i, hi, rfl, rfl⟩, Or.inr ⟨i, hi, rfl, hn, hf⟩, h5, fun j g1 g2 => hb j (by omega) (by omega)⟩
theorem kStr0 {sh : mmS} {mem : mmM} {f : Int → Int} : isStr sh mem (4, 0) (4, 1) 0 f := kStr 0 (by decide) rfl rfl rfl (fun j h => absurd h (by omega)) (fun j h1 h2 => by omega) (by omega)
theorem kStr1 {sh : mmS} {mem : mmM} : isStr sh mem (4, 2) (4, 3) 1 (fun _ => 44) := kStr 1 (by decide) rfl rfl rfl (fun j h => by rw [show j = 0 by omega]; rfl) (fun j h1 h2 => by omega) (by omega)
/-- a StringBuilder that stands in what the room has gained since -/
def bkFr (j : Nat) (L L' : List (Nat × Nat)) (mem mem' : mmM) : Prop := (∃ E, L' = L ++ E ∧ E.length ≤ j) ∧ (∀ a, a < L.length → mem' a = mem a) ∧ mem' 999 = mem 999
def SBX (j : Nat) (L : List (Nat × Nat)) (mem : mmM) (sb : Nat) (L' : List (Nat × Nat)) (mem' : mmM) (n : Nat) (t : Int → Int) : Prop := ∃ v m, isSB L' mem' sb v m n t ∧ L.length ≤ sb ∧ L.length ≤ v ∧ bkFr j L L' mem mem'
theorem bkFr.len {j : Nat} {L L' : List (Nat × Nat)} {mem mem' : mmM} (h : bkFr j L L' mem mem') : L.length ≤ L'.length ∧ L'.length ≤ L.length + j := by
  obtain ⟨⟨E, rfl, h1⟩, -⟩ := h
  rw [List.length_append]
  omega
theorem bkFr.get {j : Nat} {L L' : List (Nat × Nat)} {mem mem' : mmM} {a : Nat} {q : Nat × Nat} (h : bkFr j L L' mem mem') (hq : L[a]? = some q) : L'[a]? = some q ∧ mem' a = mem a := by
  obtain ⟨⟨E, rfl, h1⟩, h2, -⟩ := h
  exact ⟨getL_app hq, h2 a (getL_lt hq)⟩
theorem bkFr.trans {j k : Nat} {L L1 L2 : List (Nat × Nat)} {m m1 m2 : mmM} (h : bkFr j L L1 m m1) (h' : bkFr k L1 L2 m1 m2) : bkFr (j + k) L L2 m m2 := by
  have hl := h.len
  obtain ⟨⟨E, rfl, e1⟩, a1, b1⟩ := h
  obtain ⟨⟨F, rfl, e2⟩, a2, b2⟩ := h'
  exact ⟨⟨E ++ F, by rw [List.append_assoc], by rw [List.length_append]; omega⟩, fun a ha => by rw [a2 a (by omega), a1 a ha], b2.trans b1⟩
theorem bkFr.str {j : Nat} {L L' : List (Nat × Nat)} {mem mem' : mmM} {x w : mmV} {n : Nat} {f : Int → Int} (h : bkFr j L L' mem mem') (hx : isStr (true, L) mem x w n f) : isStr (true, L') mem' x w n f := by
  refine ⟨?_, ?_, hx.2.2⟩
  · rcases hx.1 with ⟨a, rfl, h1, ⟨b, rfl, h2⟩, h3⟩ | h1
    · obtain ⟨g1, g2⟩ := h.get h1
      exact Or.inl ⟨a, rfl, g1, ⟨b, rfl, by rw [g2]; exact h2⟩, by rw [g2]; exact h3⟩
    · exact Or.inr h1
  · rcases hx.2.1 with ⟨b, rfl, h1, h2⟩ | h1
    · obtain ⟨g1, g2⟩ := h.get h1
      exact Or.inl ⟨b, rfl, g1, fun i h3 h4 => by rw [g2]; exact h2 i h3 h4⟩
    · exact Or.inr h1
theorem SBX.of {j : Nat} {L : List (Nat × Nat)} {mem : mmM} {sb : Nat} {L' L2 : List (Nat × Nat)} {mem' m2 : mmM} {n2 v v2 c : Nat} {t2 : Int → Int} (h1 : L.length ≤ sb) (h2 : L.length ≤ v) (h3 : bkFr j L L' mem mem') (hS2 : isSB L2 m2 sb v2 c n2 t2) (hf : sbFr 1 L' L2 mem' m2 sb v v2) : SBX (j + 1) L mem sb L2 m2 n2 t2 := by
  have hl := h3.len
  obtain ⟨⟨E, rfl, e1⟩, a1, b1⟩ := h3
  obtain ⟨⟨F, rfl, e2⟩, a2, b2, c2⟩ := hf
  refine ⟨v2, c, hS2, h1, by rcases c2 with rfl | c2 <;> omega, ⟨E ++ F, by rw [List.append_assoc], by rw [List.length_append]; omega⟩, fun a ha => ?_, b2.trans b1⟩
  rw [a2 a (by omega) (by omega) (by omega), a1 a ha]
theorem SBX.ext {i j : Nat} {L : List (Nat × Nat)} {mem : mmM} {sb : Nat} {L' L2 : List (Nat × Nat)} {mem' m2 : mmM} {n : Nat} {t : Int → Int} (h : SBX i L mem sb L' mem' n t) (hf : bkFr j L' L2 mem' m2) : SBX (i + j) L mem sb L2 m2 n t ∧ m2 sb 0 = mem' sb 0 := by
  obtain ⟨v, m, hS, h1, h2, h3⟩ := h
  obtain ⟨s1, s2, s3, s4, s5, s6, s7, s8, s9⟩ := hS
  obtain ⟨g1, g2⟩ := hf.get s1
  obtain ⟨g3, g4⟩ := hf.get s2
  exact ⟨⟨v, m, ⟨g1, g3, by rw [g2]; exact s3, by rw [g2]; exact s4, by rw [g2]; exact s5, s6, s7, fun i => by rw [g4]; exact s8 i, fun i p q => by rw [g4]; exact s9 i p q⟩, h1, h2, h3.trans hf⟩, by rw [g2]⟩
section BK
variable {B : mmB} {d kc ks : Nat} {Q : mmQ} {pc : Nat} {lc st : List mmV}
theorem bk_appS {idx i : Nat} {L L' : List (Nat × Nat)} {mem mem' : mmM} {sb n k : Nat} {t u : Int → Int} {x w : mmV} (hd : 7 ≤ d) (hm : mmMV B.1.cls idx bJ4_append_15ec4) (hS : SBX i L mem sb L' mem' n t) (h : isStr (true, L') mem' x w k u) (hw : w ≠ (2, mem' sb 0)) (hnk : n + k ≤ 400) (hL : L'.length + 1 ≤ 999) (hcat : mmCat st ≤ 8) (hdc : decode B.2.1 pc = .ok (.invokevirtual idx, 3))
    (kk : ∀ L2 m2, SBX (i + 1) L mem sb L2 m2 (n + k) (catT t n u) → mmT B d kc ks Q (pc + 3) lc ((2, (sb : Int)) :: st) (true, L2) m2) : mmT B d (1 + kc) (800 + ks) Q pc lc (x :: (2, (sb : Int)) :: st) (true, L') mem' := by
  obtain ⟨v, m, hSB, h1, h2, h3⟩ := hS
  refine st_callV (kc2 := kc) (ks2 := ks) (av := [x]) sb 12 hm ok_J4_append_15ec4 (c_J4_appendS hSB h (by rw [← hSB.2.2.1]; exact hw) hnk hL) rfl hSB.1 ⟨_, rfl, rfl, by decide⟩ rfl rfl (by omega) (by omega) (by omega) hcat hdc ?_
  rintro r sh' m2 ⟨L2, v2, c, rfl, rfl, hS2, hfr⟩
  exact kk L2 m2 (SBX.of h1 h2 h3 hS2 hfr)
theorem bk_appC {idx i : Nat} {L L' : List (Nat × Nat)} {mem mem' : mmM} {sb n : Nat} {t : Int → Int} {c : Int} (hd : 7 ≤ d) (hm : mmMV B.1.cls idx bJ4_append_cf468) (hS : SBX i L mem sb L' mem' n t) (hc : 0 ≤ c ∧ c ≤ 127) (hnk : n + 1 ≤ 400) (hL : L'.length + 1 ≤ 999) (hcat : mmCat st ≤ 8) (hdc : decode B.2.1 pc = .ok (.invokevirtual idx, 3))
    (kk : ∀ L2 m2, SBX (i + 1) L mem sb L2 m2 (n + 1) (catT t n (fun _ => c)) → mmT B d kc ks Q (pc + 3) lc ((2, (sb : Int)) :: st) (true, L2) m2) : mmT B d (1 + kc) (800 + ks) Q pc lc ((0, c) :: (2, (sb : Int)) :: st) (true, L') mem' := by
  obtain ⟨v, m, hSB, h1, h2, h3⟩ := hS
  refine st_callV (kc2 := kc) (ks2 := ks) (av := [(0, c)]) sb 12 hm ok_J4_append_cf468 (c_J4_appendC hSB hc hnk hL) rfl hSB.1 ⟨_, rfl, rfl, by decide⟩ rfl rfl (by omega) (by omega) (by omega) hcat hdc ?_
  rintro r sh' m2 ⟨L2, v2, c, rfl, rfl, hS2, hfr⟩
  exact kk L2 m2 (SBX.of h1 h2 h3 hS2 hfr)
theorem bk_appI {idx i : Nat} {L L' : List (Nat × Nat)} {mem mem' : mmM} {sb n : Nat} {t : Int → Int} {x : Int} (hd : 7 ≤ d) (hm : mmMV B.1.cls idx bJ4_append_bf812) (hS : SBX i L mem sb L' mem' n t) (hx : 0 ≤ x ∧ x < 100) (hnk : n + 2 ≤ 400) (hL : L'.length + 1 ≤ 999) (hcat : mmCat st ≤ 8) (hdc : decode B.2.1 pc = .ok (.invokevirtual idx, 3))
    (kk : ∀ L2 m2, SBX (i + 1) L mem sb L2 m2 (n + dgN x) (catT t n (decT x)) → mmT B d kc ks Q (pc + 3) lc ((2, (sb : Int)) :: st) (true, L2) m2) : mmT B d (1 + kc) (800 + ks) Q pc lc ((0, x) :: (2, (sb : Int)) :: st) (true, L') mem' := by
  obtain ⟨v, m, hSB, h1, h2, h3⟩ := hS
  refine st_callV (kc2 := kc) (ks2 := ks) (av := [(0, x)]) sb 12 hm ok_J4_append_bf812 (c_J4_appendI hSB hx hnk hL) rfl hSB.1 ⟨_, rfl, rfl, by decide⟩ rfl rfl (by omega) (by omega) (by omega) hcat hdc ?_
  rintro r sh' m2 ⟨L2, v2, c, rfl, rfl, hS2, hfr⟩
  exact kk L2 m2 (SBX.of h1 h2 h3 hS2 hfr)
/-- new StringBuilder() -/
theorem bk_new {L : List (Nat × Nat)} {mem : mmM} (hd : 3 ≤ d) (hB : B.1.cls = RL) (hL : L.length + 2 ≤ 999) (hcat : mmCat st ≤ 6) (hd0 : decode B.2.1 pc = .ok (.new 50, 3)) (hd1 : decode B.2.1 (pc + 3) = .ok (.dup, 1)) (hd2 : decode B.2.1 (pc + 4) = .ok (.invokespecial 52, 3))
    (kk : ∀ L2 m2, (∀ t, SBX 2 L mem L.length L2 m2 0 t) → mmT B d kc ks Q (pc + 7) lc ((2, (L.length : Int)) :: st) (true, L2) m2) : mmT B d (2 + kc) (804 + ks) Q pc lc st (true, L) mem := by
  refine mmT.wk (kc := (1 + kc) + 1) (ks := (800 + ks) + 4) ?_ (by omega) (by omega)
  refine st_new (ci := 12) (N := 4) RJ4 TJ4 rfl (by decide) mty_12 okJ4 inJ4 (by rw [hB]; exact cl_L_50) nw_StringBuilder ni_StringBuilder (by omega) hd0 ?_
  refine st_dup (Nat.ne_of_beq_eq_false rfl) hd1 ?_
  have hl1 : (L ++ [(12, 4)]).length = L.length + 1 := by simp
  refine st_callI (kc2 := kc) (ks2 := ks) (av := []) L.length (by rw [hB]; exact mr_L_52) rfl ok_J4_init_da8c8 (c_J4_init (L := L ++ [(12, 4)]) newR (by rw [mrow_same]; rfl) (by omega)) rfl rfl rfl (by omega) (by omega) (by omega) (Nat.le_trans (show mmCat ((2, (L.length : Int)) :: st) ≤ mmCat st + 2 by unfold mmCat; rw [List.map_cons, List.sum_cons]; split <;> omega) (by omega)) hd2 ?_
  rintro r sh' m2 ⟨rfl, rfl, h1, h2⟩
  rw [hl1] at h1 h2
  refine kk _ m2 (fun t => ⟨L.length + 1, 16, h1 t, Nat.le_refl _, by omega, ⟨[(12, 4)] ++ [(25, 16)], by rw [List.append_assoc], by simp⟩, fun a ha => ?_, ?_⟩)
  · rw [h2 a (by omega) (by omega), mrow_ne (by omega)]
  · rw [h2 999 (by omega) (by omega), mrow_ne (by omega)]
/-- toString() -/
theorem bk_toS {idx i : Nat} {L L' : List (Nat × Nat)} {mem mem' : mmM} {sb n : Nat} {t : Int → Int} (hd : 8 ≤ d) (hm : mmMV B.1.cls idx bJ4_toString_0e30d) (hS : SBX i L mem sb L' mem' n t) (htb : ∀ j : Int, 0 ≤ j → j < n → 0 ≤ t j ∧ t j ≤ 127) (hL : L'.length + 2 ≤ 999) (hcat : mmCat st ≤ 8) (hdc : decode B.2.1 pc = .ok (.invokevirtual idx, 3))
    (kk : ∀ L2 m2, isStr (true, L2) m2 (2, (L'.length : Int)) (2, ((L'.length + 1 : Nat) : Int)) n t → bkFr 2 L' L2 mem' m2 → mmT B d kc ks Q (pc + 3) lc ((2, (L'.length : Int)) :: st) (true, L2) m2) : mmT B d (2 + kc) (900 + ks) Q pc lc ((2, (sb : Int)) :: st) (true, L') mem' := by
  obtain ⟨v, m, hSB, h1, h2, h3⟩ := hS
  refine st_callV (kc2 := kc) (ks2 := ks) (av := []) sb 12 hm ok_J4_toString_0e30d (c_J4_toString hSB hL) rfl hSB.1 ⟨_, rfl, rfl, by decide⟩ rfl rfl (by omega) (by omega) (by omega) hcat hdc ?_
  rintro r sh' m2 ⟨rfl, rfl, g1, g2, g3, g4⟩
  have hl1 : (L' ++ [(11, 4)]).length = L'.length + 1 := by simp
  refine kk _ m2 ⟨Or.inl ⟨L'.length, rfl, getL_app newR, ⟨_, rfl, g1⟩, g2⟩, Or.inl ⟨_, rfl, by rw [← hl1]; exact newR, fun j p q => g4 j (by omega) (by omega)⟩, by have := hSB.2.2.2.2.2.1; have := hSB.2.2.2.2.2.2.1; omega, fun j p q => htb j (by omega) (by omega)⟩ ⟨⟨[(11, 4)] ++ [(25, n)], by rw [List.append_assoc], by simp⟩, fun a ha => g3 a (by omega) (by omega), g3 999 (by omega) (by omega)⟩
end BK
