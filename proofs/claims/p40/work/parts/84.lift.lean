/-! the law's own room beside the class's cells: a call of the class leaves the law's things alone; the law's room opened and closed -/
theorem mmSF.narrow {G G' : mmG} {U : State} {H : Heap} (hc : G'.2.2.2.2 = G.2.2.2.2) (hAB : ∀ q, mmAd G' q → mmAd G q) (h : mmSF G U H) : mmSF G' U H := by
  unfold mmSF at h ⊢
  rw [hc]
  exact ⟨h.1.narrow hAB, h.2.1.narrow hAB, ⟨h.2.2.1.1.narrow hAB, h.2.2.1.2.narrow hAB⟩, ⟨h.2.2.2.1.1.narrow hAB, h.2.2.2.1.2.narrow hAB⟩, h.2.2.2.2.imp (fun w => va_Z.narrow w hAB) (fun w => va_Z.narrow w hAB)⟩
theorem arrV_cgL {cA : ClassId} {N : Nat} {f g : Nat → Value} (h : ∀ j, j < N → f j = g j) : arrV cA N f = arrV cA N g := by
  unfold arrV
  congr 1
  congr 1
  funext j
  exact h j.val j.isLt
theorem mSH_len : mSH.length = 65 := by decide +kernel
/-- the same room with the law's things behind a hole -/
def holeG (G : mmG) (z : Nat) : mmG := (G.1, G.2.1, G.2.2.1, (G.2.2.2.1.1, (if G.2.2.2.1.2.2 ≤ G.2.2.2.1.2.1 then G.2.2.2.1.1 else G.2.2.2.1.2.1), z), G.2.2.2.2)
theorem holeG_ad {G : mmG} {n z : Nat} {b : Bool} (h : mmHo G n b z) (hb : b = true) : ∀ q, mmAd (holeG G z) q → mmAd G q := by
  obtain ⟨h1, -, h3⟩ := h
  intro q hq
  unfold mmAd holeG at hq
  dsimp only at hq
  unfold mmAd
  by_cases e : G.2.2.2.1.2.2 ≤ G.2.2.2.1.2.1
  · rw [if_pos e] at hq
    omega
  · rw [if_neg e] at hq
    rcases h3 with h3 | ⟨h3, h4, h5, h6⟩
    · exact absurd h3 e
    · omega
theorem getL_app' {L E : List (Nat × Nat)} {a : Nat} {q : Nat × Nat} (h : (L ++ E)[a]? = some q) (ha : a < L.length) : L[a]? = some q := by
  rwa [List.getElem?_append_left ha] at h
theorem con_lift {t : Nat} {B : mmB} {d : Nat} {av : List mmV} {mem : mmM} {P : Int → mmM → Prop} (E : List (Nat × Nat)) (h : con t B d av mem P) (hfx : mFix mem) (hP : ∀ v m, P v m → ∀ a, 65 ≤ a → m a = mem a) : mmC B d 0 0 av (true, mSH ++ E) mem (fun r sh' m' => (∃ v, r = some (t, v) ∧ P v m') ∧ sh' = (true, mSH ++ E) ∧ mFix m') := by
  intro l G hfl p e ha hc hk s m args below hf happ hPre hK
  obtain ⟨hargs, hR, hN, hSF⟩ := hPre
  have hR0 := hR
  obtain ⟨r1, r2, r3, r4, r5, r6, r7, r8, r9⟩ := hR
  have hadd := holeG_ad r4.2 rfl
  have hlen : (mSH ++ E).length = 65 + E.length := by rw [List.length_append, mSH_len]
  have rz := r1 rfl
  dsimp only at rz r7 r4
  have hbz : G.2.2.2.1.1 ≤ s.heap.size := by
    rw [rz, hlen]
    unfold mmAt
    rw [if_neg (by omega)]
    omega
  have hR' : mmR (holeG G s.heap.size) (false, mSH) mem s s.heap := by
    refine ⟨fun h => (by cases h), r2, fun k x hx => ?_, ⟨r4.1, r4.2.1, fun h => (by cases h), Or.inr ⟨?_, Nat.le_refl _, Or.inl (by rw [mSH_len]; exact Nat.le_refl _), fun h => by cases h⟩⟩, r5, r6, by rw [mSH_len]; decide, fun _ => hfx, ⟨fun a q k hq => r9.1 a q k (getL_app hq), r9.2⟩⟩
    · obtain ⟨q, hq, rfl⟩ := mmW_of hx
      exact r3 k _ (mmW_get (getL_app hq))
    · show G.1.2 + 65 ≤ (if G.2.2.2.1.2.2 ≤ G.2.2.2.1.2.1 then G.2.2.2.1.1 else G.2.2.2.1.2.1)
      split
      · exact r4.2.1
      · rename_i e
        rcases r4.2.2.2 with w | w
        · exact absurd w e
        · exact w.1
  obtain ⟨n, o, h1, h2, h3, ⟨⟨⟨r, sh', m', ho, ⟨v, hr, hsh, hPv⟩, hR2⟩, hF⟩, L, hFE, hL⟩⟩ := h l (holeG G s.heap.size) hfl p e ha hc hk s m args below hf happ ⟨hargs, hR', hN, mmSF.narrow (G := G) (G' := holeG G s.heap.size) rfl hadd hSF⟩ hK
  subst hsh
  have hm := hP v m' hPv
  have hsz : (stepsAlone p.tables e n s).heap.size = s.heap.size := by
    have := hFE.2.2.2.2.1
    have h0 := hF.1
    have hx : ({ (stepsAlone p.tables e n s) with vm := s.vm } : State).heap.size ≤ s.heap.size + 0 := this
    have hy : (stepsAlone p.tables e n s).heap.size ≤ s.heap.size + 0 := hx
    omega
  refine ⟨n, o, h1, h2, h3, ⟨⟨⟨r, (true, mSH ++ E), m', ho, ⟨⟨v, hr, hPv⟩, rfl, hR2.2.2.2.2.2.2.2.1 rfl⟩, ?_⟩, ⟨hF.1, fun q q1 q2 => hF.2 q q1 (fun w => q2 (hadd q w))⟩⟩, L, hFE, fun q hq => hadd _ (hL q hq)⟩⟩
  obtain ⟨s1, s2, s3, s4, s5, s6, s7, s8, s9⟩ := hR2
  refine ⟨fun _ => by rw [hsz]; exact rz, s2, fun k x hx => ?_, ⟨s4.1, by rw [hsz]; exact r4.2⟩, s5, s6, r7, fun h => (by cases h), ⟨fun a q k hq => ?_, s9.2⟩⟩
  · obtain ⟨q, hq, rfl⟩ := mmW_of hx
    by_cases hk65 : k < 65
    · exact s3 k _ (mmW_get (getL_app' hq (by show k < mSH.length; rw [mSH_len]; exact hk65)))
    · rw [hm k (by omega)]
      have hkl := getL_lt hq
      refine (r3 k _ (mmW_get hq)).kept (hF.2 _ ?_ ?_)
      · show mmAt G k < s.heap.size
        rw [rz]
        exact mmAt_lt r4.2.1 hkl
      · intro w
        have h4 := w.2
        unfold holeG at h4
        dsimp only at h4
        have h5 : G.2.2.2.1.1 ≤ mmAt G k ∧ mmAt G k < s.heap.size := by
          refine ⟨?_, by rw [rz]; exact mmAt_lt r4.2.1 hkl⟩
          unfold mmAt
          rw [if_neg hk65]
          omega
        by_cases e2 : G.2.2.2.1.2.2 ≤ G.2.2.2.1.2.1
        · rw [if_pos e2] at h4
          exact h4 h5
        · rw [if_neg e2] at h4
          rcases r4.2.2.2 with w3 | ⟨w3, w4, w5, w6⟩
          · exact e2 w3
          · have := w6 rfl
            omega
  · by_cases ha65 : a < 65
    · exact s9.1 a q k (getL_app' hq (by show a < mSH.length; rw [mSH_len]; exact ha65))
    · rw [hm a (by omega)]
      exact r9.1 a q k hq
/-- the law's own room begins where the heap ends -/
def openG (G : mmG) (z : Nat) : mmG := (G.1, G.2.1, G.2.2.1, (z, G.2.2.2.1.2), G.2.2.2.2)
theorem openG_at {G : mmG} {z k : Nat} (h : k < 65) : mmAt (openG G z) k = mmAt G k := by
  unfold mmAt openG
  rw [if_pos h, if_pos h]
theorem openG_enc {G : mmG} {z : Nat} {v : mmV} (h : v.1 = 2 → v.2 < 65) : mmEnc (openG G z) v = mmEnc G v := by
  obtain ⟨t, x⟩ := v
  match t, h with
  | 0, _ => rfl
  | 1, _ => rfl
  | 2, h =>
    show va_rf (mmRf (openG G z) x) = va_rf (mmRf G x)
    unfold mmRf
    split
    · rfl
    · rw [openG_at (by have h1 : x < 65 := h rfl; omega)]
  | 3, _ => rfl
  | _ + 4, _ => rfl
/-- fields and elements that are references lie among the class's own cells -/
def mIn (mem : mmM) : Prop := ∀ (a : Nat) (q : Nat × Nat) (j : Nat), mSH[a]? = some q → j < q.2 → mTag q j = 2 → mem a j < 65
theorem openG_E {G : mmG} {z a : Nat} {mem : mmM} {q : Nat × Nat} (hm : mIn mem) (hq : mSH[a]? = some q) (h25 : q.1 < 25) : ∀ H, va_at G.2.1 vwCl (mmAt G a, mmE G q (mem a)) H → va_at (openG G z).2.1 vwCl (mmAt (openG G z) a, mmE (openG G z) q (mem a)) H := by
  intro H h
  have ha : a < 65 := by
    have := getL_lt hq
    rwa [mSH_len] at this
  rw [openG_at ha]
  have e : vwCl = vwCl := rfl
  by_cases c : q.1 < 20
  · have e2 : mmE (openG G z) q (mem a) = mmE G q (mem a) := by
      unfold mmE
      rw [if_pos c, if_pos c]
      congr 2
      unfold mmFs
      apply List.map_congr_left
      intro j hj
      refine openG_enc (fun h2 => hm a q j hq (List.mem_range.mp hj) ?_)
      unfold mTag
      rw [if_pos c]
      simpa using h2
    rw [e2]
    exact h
  · obtain ⟨t, n⟩ := q
    have c : ¬ t < 20 := c
    have h25 : t < 25 := h25
    have h1 := h
    unfold mmE at h1 ⊢
    rw [if_neg (show ¬ (t, n).1 < 20 from c)] at h1 ⊢
    have h2 : H[mmAt G a]? = some (vp_cell (G.2.2.1 t) (n, mmA G t (mem a))) := h1
    show H[mmAt G a]? = some (vp_cell (G.2.2.1 t) (n, mmA (openG G z) t (mem a)))
    rw [h2, mm_cell, mm_cell]
    congr 1
    refine arrV_cgL (fun j hj => ?_)
    symm
    refine openG_enc (fun h3 => hm a (t, n) j hq hj ?_)
    unfold mTag
    rw [if_neg (show ¬ (t, n).1 < 20 from c)]
    exact h3
theorem mSH_kind : ∀ q ∈ mSH, q.1 < 25 := by decide +kernel
theorem st_open {B : mmB} {d kc ks : Nat} {Q : mmQ} {pc : Nat} {lc st : List mmV} {mem : mmM} (hQ : ∀ r sh m, Q r sh m → sh = mS ∧ mIn m ∧ ∀ v, r = some v → v.1 = 0) (hl : ∀ v ∈ lc, v.1 = 2 → v.2 < 65) (hs : ∀ v ∈ st, v.1 = 2 → v.2 < 65) (hm : mFix mem → mIn mem) (k : mFix mem → mmT B d kc ks Q pc lc st (true, mSH) mem) : mmT B d kc ks Q pc lc st mS mem := by
  intro p l e R s m args below meth c G H locs cells slots ls X
  have hR := X.2.1
  obtain ⟨r1, r2, r3, r4, r5, r6, r7, r8, r9⟩ := hR
  have hfx := r8 rfl
  have hmi := hm hfx
  have hz65 : G.1.2 + 65 ≤ H.size := by
    have h64 : mSH[64]? = some (21, 24) := sh_64
    have := (r3 64 _ (mmW_get h64)).lt
    dsimp only at this
    have e : mmAt G 64 = G.1.2 + 64 := by unfold mmAt; rw [if_pos (by decide)]
    omega
  have hAd : ∀ q, mmAd (openG G H.size) q ↔ mmAd G q := fun q => Iff.rfl
  have hR' : mmR (openG G H.size) (true, mSH) mem s H := by
    refine ⟨fun _ => ?_, r2, fun k x hx => ?_, ⟨r4.1, hz65, fun _ hn => ?_, ?_⟩, r5, r6, r7, fun h => (by cases h), r9⟩
    · show H.size = mmAt (openG G H.size) mSH.length
      unfold mmAt
      rw [if_neg (by rw [mSH_len]; decide), mSH_len]
      show H.size = H.size + (65 - 65)
      omega
    · obtain ⟨q, hq, rfl⟩ := mmW_of hx
      exact openG_E hmi hq (mSH_kind q (List.mem_of_getElem? hq)) H (r3 k _ (mmW_get hq))
    · rw [mSH_len] at hn
      exact absurd hn (by decide)
    · rcases r4.2.2.2 with w | ⟨w1, w2, -, -⟩
      · exact Or.inl w
      · exact Or.inr ⟨w1, w2, Or.inr w2, fun _ => w2⟩
  have X' : mmX B d kc ks (openG G H.size) (true, mSH) mem lc p l R s m args meth c H locs cells slots ls := by
    refine ⟨X.1, hR', X.2.2.1, X.2.2.2.1, ?_, X.2.2.2.2.2⟩
    obtain ⟨lv, h1, h2⟩ := X.2.2.2.2.1
    exact ⟨lv, h1, fun i v hi hv => by rw [openG_enc (hl v (List.mem_of_getElem? hi))]; exact h2 i v hi hv⟩
  have hk := k hfx p l e R s m args below meth c (openG G H.size) H locs cells slots ls X'
  have est : st.map (mmEnc (openG G H.size)) = st.map (mmEnc G) := List.map_congr_left fun v hv => openG_enc (hs v hv)
  rw [est] at hk
  intro T hT XT
  obtain ⟨t, a1, o, b1, b2, ⟨⟨r, sh', m', ho, hq, hR2⟩, hF⟩, b4⟩ := hk T hT XT
  obtain ⟨rfl, hin, hv0⟩ := hQ r sh' m' hq
  refine ⟨t, a1, o, b1, b2, ⟨⟨r, mS, m', ?_, hq, ?_⟩, hF⟩, b4⟩
  · rw [ho]
    cases r with
    | none => rfl
    | some v =>
      show Outcome.returned (some (mmEnc _ v)) = .returned (some (mmEnc _ v))
      rw [openG_enc (fun h => by rw [hv0 v rfl] at h; cases h)]
  · obtain ⟨s1, s2, s3, s4, s5, s6, s7, s8, s9⟩ := hR2
    refine ⟨fun h => (by cases h), s2, fun k x hx => ?_, ⟨s4.1, r4.2.1, fun h => (by cases h), ?_⟩, s5, s6, s7, s8, s9⟩
    · obtain ⟨q, hq2, rfl⟩ := mmW_of hx
      have h6 := openG_E (G := openG G H.size) (z := G.2.2.2.1.1) hin hq2 (mSH_kind q (List.mem_of_getElem? hq2)) t.heap (s3 k _ (mmW_get hq2))
      exact h6
    · rcases s4.2.2.2 with w | ⟨w1, w2, -, -⟩
      · exact Or.inl w
      · exact Or.inr ⟨w1, w2, Or.inl (by show mSH.length ≤ 65; rw [mSH_len]; exact Nat.le_refl _), fun h => by cases h⟩
/-- what the law made is forgotten -/
theorem st_close {B : mmB} {d kc ks : Nat} {Q : mmQ} {pc : Nat} {lc st : List mmV} {mem : mmM} {E : List (Nat × Nat)} (hfx : mFix mem) (k : mmT B d kc ks Q pc lc st mS mem) : mmT B d kc ks Q pc lc st (true, mSH ++ E) mem := by
  intro p l e R s m args below meth c G H locs cells slots ls X
  refine k p l e R s m args below meth c G H locs cells slots ls ⟨X.1, ?_, X.2.2⟩
  obtain ⟨r1, r2, r3, r4, r5, r6, r7, r8, r9⟩ := X.2.1
  refine ⟨fun h => (by cases h), r2, fun k x hx => ?_, ⟨r4.1, r4.2.1, fun h => (by cases h), r4.2.2.2.imp id (fun w => ⟨w.1, w.2.1, Or.inl (by show mSH.length ≤ 65; rw [mSH_len]; exact Nat.le_refl _), fun h => by cases h⟩)⟩, r5, r6, by show mSH.length ≤ 999; rw [mSH_len]; decide, fun _ => hfx, ⟨fun a q k hq => r9.1 a q k (getL_app hq), r9.2⟩⟩
  obtain ⟨q, hq, rfl⟩ := mmW_of hx
  exact r3 k _ (mmW_get (getL_app hq))
