/-! a String: a cell of the room, or one of the constants -/
theorem mmR_row {G : mmG} {sh : mmS} {mem : mmM} {s : State} {H H1 : Heap} {a : Nat} {f : Int → Int} {q : Nat × Nat} (hR : mmR G sh mem s H) (hf : sh.1 = true) (hv : ∀ k, (mTag q k = 0 → R32 (f k)) ∧ (mTag q k = 1 → R64 (f k))) (hq : sh.2[a]? = some q) (he : va_at G.2.1 vwCl (mmAt G a, mmE G q f) H1) (hz : H1.size = H.size) (ho : ∀ x : Nat, x ≠ mmAt G a → H1[x]? = H[x]?) : mmR G sh (mrow mem a f) s H1 := by
  obtain ⟨h1, h2, h3, h4, h5, h6, h7, h8, h9⟩ := hR
  have hal : a < sh.2.length := (List.getElem?_eq_some_iff.mp hq).1
  refine ⟨fun h => by rw [hz]; exact h1 h, h2, fun k' x hx => ?_, ?_, h5, by rw [hz]; exact h6, h7, fun h => (by rw [hf] at h; cases h), mCan_row h9 hq (fun _ _ _ => trivial) (fun _ _ _ w => w) (by omega) hv⟩
  · obtain ⟨q', hq', rfl⟩ := mmW_of hx
    by_cases e : k' = a
    · subst e
      cases hq.symm.trans hq'
      rw [mrow_same]
      exact he
    · rw [mrow_ne e]
      exact (h3 k' _ (mmW_get hq')).kept (ho _ (fun w => e (mmAt_inj h4.2.1 w)))
  · rw [mrow_ne (show 999 ≠ a by omega)]
    exact ⟨h4.1.kept (ho _ (by have := mmAt_ge (a := a) h4.2.1; omega)), by rw [hz]; exact h4.2⟩
def srcB (sh : mmS) (mem : mmM) (w : mmV) (n : Nat) (f : Int → Int) : Prop := (∃ b : Nat, w = (2, (b : Int)) ∧ sh.2[b]? = some (25, n) ∧ ∀ j, 0 ≤ j → j < n → mem b j = f j) ∨ (∃ i : Nat, i < 5 ∧ w = (4, ((2 * i + 1 : Nat) : Int)) ∧ n = kLen.getD i 0 ∧ ∀ j : Nat, j < n → f j = ((kByt.getD i []).getD j 0).toInt)
def isStr (sh : mmS) (mem : mmM) (v w : mmV) (n : Nat) (f : Int → Int) : Prop := ((∃ a : Nat, v = (2, (a : Int)) ∧ sh.2[a]? = some (11, 4) ∧ (∃ b : Nat, w = (2, (b : Int)) ∧ mem a 0 = b) ∧ mem a 1 = 0) ∨ (∃ i : Nat, i < 5 ∧ v = (4, ((2 * i : Nat) : Int)) ∧ w = (4, ((2 * i + 1 : Nat) : Int)))) ∧ srcB sh mem w n f ∧ n ≤ 5000 ∧ ∀ j, 0 ≤ j → j < n → 0 ≤ f j ∧ f j ≤ 127
section MMst2
variable {B : mmB} {d kc ks : Nat} {Q : mmQ} {pc : Nat} {lc st : List mmV} {sh : mmS} {mem : mmM}
theorem srcB_at {w : mmV} {n : Nat} {f : Int → Int} (h : srcB sh mem w n f) {p : Program} {l : Launch} {R : Room} {s : State} {m : MethodId} {args : Array Value} {meth : Method} {c : Code} {G : mmG} {H : Heap} {locs : List Loc} {cells slots : Nat} {ls : Array Slot} (X : mmX B d kc ks G sh mem lc p l R s m args meth c H locs cells slots ls) :
    ∃ (b0 : Nat) (scr : Cell), mmEnc G w = .ref b0 ∧ H[b0]? = some scr ∧ s.isArrayOf scr .byte ∧ scr.vm ≠ .unknown ∧ n ≤ scr.slots.size ∧ scr.slots.size.toInt32 = Int32.ofInt (n : Int) ∧ ∀ j : Nat, j < n → scr.slots[j]? = some (.int (Int32.ofInt (f j))) := by
  rcases h with ⟨b, rfl, hs, hv⟩ | ⟨i, hi, rfl, rfl, hv⟩
  · refine ⟨mmAt G b, _, rfl, mm_arr X.2.1 hs (by decide), (mm_kind X.2.1).2.2.2.2.2.1 _ _, (fun q => by cases q), ?_, ?_, fun j hj => ?_⟩
    · rw [arrV_size]
      exact Nat.le_refl _
    · rw [arrV_size]
      rfl
    · rw [arrV_read _ _ hj]
      show some (Value.int (Int32.ofInt (mem b j))) = _
      rw [hv j (by omega) (by omega)]
  · obtain ⟨scr, h1, h2, h3, h4, h5, h6, h7⟩ := (X.2.2.2.2.2.2.2.2.2.2.1.1 i hi).2.2.2.kept X.2.2.1.2.1
    refine ⟨_, scr, rfl, h1, h2, h3, h4, h5, fun j hj => ?_⟩
    rw [h6 j hj, hv j hj, Int32.ofInt_toInt]
theorem st_aloadV {j : Fin 4} {i : Nat} {v : mmV} (hv : v.1 = 2 ∨ v.1 = 4) (hi : (j : Nat) = i) (hl : lc[i]? = some v) (hd : decode B.2.1 pc = .ok (.aload_n j, 1)) (k : mmT B d kc ks Q (pc + 1) lc (v :: st) sh mem) : mmT B d kc ks Q pc lc st sh mem := by
  obtain ⟨t, x⟩ := v
  rcases hv with h | h
  · cases h
    exact st_aload_n (t := 0) hi hl (by decide) hd k
  · cases h
    exact st_aload_n (t := 2) hi hl (by decide) hd k
theorem st_strL {w : mmV} {n : Nat} {f : Int → Int} (h : srcB sh mem w n f) (hd : decode B.2.1 pc = .ok (.arraylength, 1)) (k : mmT B d kc ks Q (pc + 1) lc ((0, (n : Int)) :: st) sh mem) : mmT B d kc ks Q pc lc (w :: st) sh mem := by
  intro p l e R s m args below meth c G H locs cells slots ls X
  have hk := k p l e R s m args below meth c G H locs cells slots ls X
  obtain ⟨b0, scr, e1, g1, g2, -, -, g5, -⟩ := srcB_at h X
  rw [List.map_cons, e1]
  exact W.alen X.1.1 X.1.2.1 g1 g2 g5 rfl rfl hd hk
theorem st_strV {idx n : Nat} {v w : mmV} {f : Int → Int} (h : isStr sh mem v w n f) (hf : mmFR B.1.cls idx 11 4 0 2) (hd : decode B.2.1 pc = .ok (.getfield idx, 3)) (k : mmT B d kc ks Q (pc + 3) lc (w :: st) sh mem) : mmT B d kc ks Q pc lc (v :: st) sh mem := by
  rcases h.1 with ⟨a, rfl, hs, ⟨b, rfl, hb⟩, -⟩ | ⟨i, hi, rfl, rfl⟩
  · exact st_getfield a 0 hf rfl hs hb hd k
  · intro p l e R s m args below meth c G H locs cells slots ls X
    have hk := k p l e R s m args below meth c G H locs cells slots ls X
    obtain ⟨C, T, ref, e1, e0, e2, e3, e4, e5, e6⟩ := hf
    cases e1
    refine vk_getf X.1.1 X.1.2.1 (X.2.2.2.2.2.2.2.2.2.2.1.1 i hi).2.2.1 X.2.2.1 X.1.2.2.2.2.1 (X.1.2.2.2.2.2.1 _ e5) (fun x hx => ?_) hd hk
    rcases e6 with e6 | e6
    · rw [e6]; exact hx
    · exact u_same (X.1.2.2.2.2.2.1 _ e6) x hx
theorem st_strC {idx n : Nat} {v w : mmV} {f : Int → Int} (h : isStr sh mem v w n f) (hf : mmFR B.1.cls idx 11 4 1 0) (hd : decode B.2.1 pc = .ok (.getfield idx, 3)) (k : mmT B d kc ks Q (pc + 3) lc ((0, 0) :: st) sh mem) : mmT B d kc ks Q pc lc (v :: st) sh mem := by
  rcases h.1 with ⟨a, rfl, hs, -, hb⟩ | ⟨i, hi, rfl, rfl⟩
  · exact st_getfield a 1 hf rfl hs hb hd k
  · intro p l e R s m args below meth c G H locs cells slots ls X
    have hk := k p l e R s m args below meth c G H locs cells slots ls X
    obtain ⟨C, T, ref, e1, e0, e2, e3, e4, e5, e6⟩ := hf
    cases e1
    refine vk_getf X.1.1 X.1.2.1 (X.2.2.2.2.2.2.2.2.2.2.1.1 i hi).2.1 X.2.2.1 X.1.2.2.2.2.1 (X.1.2.2.2.2.2.1 _ e5) (fun x hx => ?_) hd hk
    rcases e6 with e6 | e6
    · rw [e6]; exact hx
    · exact u_same (X.1.2.2.2.2.2.1 _ e6) x hx
/-- System.arraycopy of n bytes, from a row or a constant's, into a row -/
theorem st_copyB {idx n0 n1 : Nat} {rb rn rs rd : Int} {w : mmV} {f : Int → Int} (b sp dp n : Nat) (hf : sh.1 = true) (hsrc : srcB sh mem w n0 f) (h1 : Cond.methodLink B.1.cls idx arraycopyName ∈ mm_tbl) (hrb : rb = (b : Int)) (hrn : rn = (n : Int)) (hrs : rs = (sp : Int)) (hrd : rd = (dp : Int)) (hsb : sh.2[b]? = some (25, n1)) (hn0 : sp + n ≤ n0) (hn1 : dp + n ≤ n1) (hb0 : n0 ≤ 5000) (hb1 : n1 ≤ 5000) (hfit : ∀ j : Int, sp ≤ j → j < sp + n → 0 ≤ f j ∧ f j ≤ 127) (hd1 : 3 ≤ d) (hcat : mmCat st ≤ 8) (hd : decode B.2.1 pc = .ok (.invokestatic idx, 3)) (h2 : Cond.native arraycopyName ∈ mm_tbl) (h3 : Cond.static arraycopyName ∈ mm_tbl) (h4 : Cond.initialized "java/lang/System" ∈ mm_tbl)
    (k : mmT B d kc ks Q (pc + 3) lc st sh (mrow mem b (fun j => if dp ≤ j ∧ j < dp + n then f (sp + (j - dp)) else mem b j))) : mmT B d kc ks Q pc lc ((0, rn) :: (0, rd) :: (2, rb) :: (0, rs) :: w :: st) sh mem := by
  intro p l e R s m args below meth c G H locs cells slots ls X
  subst hrn hrs hrd
  have hts := X.1.2.2.2.2.2.1
  have cl : ∀ x : Nat, x ≤ 5000 → (Int32.ofInt (x : Int)).toInt = x ∧ (Int32.ofInt (x : Int)).toNatClampNeg = x ∧ ¬ Int32.ofInt (x : Int) < 0 := by
    intro x hx
    have e0 : (Int32.ofInt (x : Int)).toInt = x := by rw [w32_toInt, w32_id (by omega) (by omega)]
    refine ⟨e0, ?_, ?_⟩
    · rw [← Int32.toNat_toInt, e0]
      omega
    · rw [Int32.lt_iff_toInt_lt, e0]
      have : (0 : Int32).toInt = 0 := rfl
      omega
  obtain ⟨n_a, n_b, n_c⟩ := cl n (by omega)
  obtain ⟨s_a, s_b, s_c⟩ := cl sp (by omega)
  obtain ⟨d_a, d_b, d_c⟩ := cl dp (by omega)
  obtain ⟨b0, scr, e1, g1, g2, g3, g4, -, g6⟩ := srcB_at hsrc X
  have hc1 : H[mmAt G b]? = some (vp_cell (G.2.2.1 25) (n1, .inl (fun j : Nat => Int32.ofInt (mem b j)))) := X.2.1.2.2.1 b _ (mmW_get hsb)
  obtain ⟨-, k1, hk1, cm1, hkk1⟩ := (mm_kind X.2.1).2.2.2.2.2.1 n1 (fun j => .int (Int32.ofInt (mem b j)))
  obtain ⟨hs6, k0, hk0, cm0, hkk0⟩ := g2
  obtain ⟨lv, hlv, -⟩ := X.2.2.2.2.1
  have hr3 := X.2.2.2.2.2.2.2.1
  have hr4 := X.2.2.2.2.2.2.2.2.1
  show W p l e R s m args below meth c H locs cells slots _ (F0 m pc ls (.int (Int32.ofInt (n : Int)) :: .int (Int32.ofInt (dp : Int)) :: va_rf (mmRf G rb) :: .int (Int32.ofInt (sp : Int)) :: mmEnc G w :: st.map (mmEnc G)))
  rw [mmR_rfl hrb, e1]
  intro T hT XT
  obtain ⟨vm', X', step⟩ := XT.arraycopy X.1.1 X.1.2.2.2.2.1 (hts _ h1) (hts _ h2) (hts _ h3) (hts _ h4) (src := b0) (dst := mmAt G b) (cs := scr) (cd := vp_cell (G.2.2.1 25) (n1, .inl (fun j : Nat => Int32.ofInt (mem b j)))) (srcPos := Int32.ofInt (sp : Int)) (destPos := Int32.ofInt (dp : Int)) (n := Int32.ofInt (n : Int)) (by rw [hT]; exact g1) (by rw [hT]; exact hc1)
    hs6 (fun _ h => by cases h) g3 (fun h => by cases h) hk0 hk1 hkk0 hkk1 (by simp [refKind]) s_c d_c n_c
    (by rw [s_a, n_a]; omega)
    (by rw [d_a, n_a]; show ¬ _ > ((arrV (G.2.2.1 25) n1 (fun j => .int (Int32.ofInt (mem b j)))).slots.size : Int); rw [arrV_size]; omega)
    (fun vm₁ _ i hi => by
      have e : scr.slots.getD ((Int32.ofInt (sp : Int)).toNatClampNeg + i) .null = .int (Int32.ofInt (f (((Int32.ofInt (sp : Int)).toNatClampNeg + i : Nat) : Int))) := by
        rw [Array.getD_eq_getD_getElem?, g6 _ (by omega)]
        rfl
      refine ⟨?_, ?_⟩
      · rw [e]
        exact (byte_ok (hfit _ (by omega) (by omega))).2.2
      · rw [e]
        exact trivial)
    (g := F0 m pc ls (.int (Int32.ofInt (n : Int)) :: .int (Int32.ofInt (dp : Int)) :: .ref (mmAt G b) :: .int (Int32.ofInt (sp : Int)) :: .ref b0 :: st.map (mmEnc G))) rfl (by rw [X.1.2.2.1]; exact hlv.1) (rest := st.map (mmEnc G)) rfl (by rw [X.1.2.1]; exact hd) (by omega) (by
      have hcc := mmCat_enc G st
      have hnat : nativeFrameWords "java/lang/System" "arraycopy" 5 ≤ 100 := by decide
      show 2 * 0 + _ + _ ≤ _
      omega)
  have e2 : copied scr (vp_cell (G.2.2.1 25) (n1, .inl (fun j : Nat => Int32.ofInt (mem b j)))) (Int32.ofInt (sp : Int)) (Int32.ofInt (dp : Int)) (Int32.ofInt (n : Int)) = vp_cell (G.2.2.1 25) (n1, .inl (va_cpy (fun j : Nat => Int32.ofInt (f j)) (fun j : Nat => Int32.ofInt (mem b j)) (Int32.ofInt (sp : Int)).toNatClampNeg (Int32.ofInt (dp : Int)).toNatClampNeg (Int32.ofInt (n : Int)).toNatClampNeg)) := va_copiedX (fun z => .int z) scr (G.2.2.1 25) (fun j : Nat => Int32.ofInt (f j)) (fun j : Nat => Int32.ofInt (mem b j)) g6 (by omega)
  rw [e2, s_b, d_b, n_b] at X' step
  have hl : mmAt G b < H.size := (Array.getElem?_eq_some_iff.mp hc1).1
  generalize hcl : vp_cell (G.2.2.1 25) (n1, .inl (va_cpy (fun j : Nat => Int32.ofInt (f j)) (fun j : Nat => Int32.ofInt (mem b j)) sp dp n)) = nw at X' step
  have hheap : ((T.setVm vm').setCell (mmAt G b) nw).heap = H.setIfInBounds (mmAt G b) nw := by rw [← hT]; rfl
  have oq : ∀ q : Nat, q ≠ mmAt G b → (H.setIfInBounds (mmAt G b) nw)[q]? = H[q]? := fun q hq => by simp [Array.getElem?_setIfInBounds, Ne.symm hq]
  have hz : (H.setIfInBounds (mmAt G b) nw).size = H.size := by simp
  have hA : mmAd G (mmAt G b) := mmAt_ad X.2.1.2.2.2.1.2 (List.getElem?_eq_some_iff.mp hsb).1
  have hR : mmR G sh (mrow mem b (fun j => if dp ≤ j ∧ j < dp + n then f (sp + (j - dp)) else mem b j)) s (H.setIfInBounds (mmAt G b) nw) := by
    refine mmR_row X.2.1 hf (fun k => ⟨fun _ => ?_, fun h => by cases h⟩) hsb ?_ hz oq
    · have c0 := (X.2.1.2.2.2.2.2.2.2.2.1 b _ k hsb).1 rfl
      split
      · have := hfit (sp + (k - dp)) (by omega) (by omega)
        omega
      · exact c0
    · show (H.setIfInBounds (mmAt G b) nw)[mmAt G b]? = some (vp_cell (G.2.2.1 25) (n1, .inl (fun j : Nat => Int32.ofInt (if (dp : Int) ≤ j ∧ (j : Int) < dp + n then f (sp + (j - dp)) else mem b j))))
      rw [← hcl]
      simp only [Array.getElem?_setIfInBounds, hl, if_true, ↓reduceIte]
      congr 4
      funext j
      unfold va_cpy
      by_cases hj : dp ≤ j ∧ j < dp + n
      · rw [if_pos hj, if_pos (by omega)]
        show Int32.ofInt (f ((sp + (j - dp) : Nat) : Int)) = _
        rw [show (((sp + (j - dp) : Nat)) : Int) = (sp : Int) + ((j : Int) - (dp : Int)) by omega]
      · rw [if_neg hj, if_neg (by omega)]
  obtain ⟨t, a1, b1⟩ := k p l e R s m args below meth c G _ _ cells slots ls ⟨X.1, hR, ⟨by rw [hz]; exact X.2.2.1.1, fun q q1 q2 => by
      rw [oq q (fun e => q2 (by rw [e]; exact hA))]
      exact X.2.2.1.2.1 q q1 q2, fun q hq => by
      rcases List.mem_append.mp hq with h | h
      · exact X.2.2.1.2.2 q h
      · obtain ⟨z, -, hz⟩ := List.mem_map.mp h
        rw [← hz]
        exact hA⟩, X.2.2.2⟩ _ hheap X'
  exact ⟨t, step t a1, b1⟩
end MMst2
