/-! the class reads sums -/
theorem cn_X3_write {d : Nat} {P : mmM → Prop} {mem : mmM} {x1 : Int} (h : mmT bX3_write d 0 0 (mQv P) 0 [(2, 8), (0, x1)] [] mS mem) : conv bX3_write d [(2, 8), (0, x1)] mem P := mmC_of [(2, 8), (0, x1)] ok_X3_write.2.2.2.2 rfl (Nat.le_of_ble_eq_true rfl) h
theorem bk_X3_write_0 {d : Nat} {P : mmM → Prop} {mem : mmM} {x1 : Int}
  (q1 : 160 ≤ (mem 8 2) → P mem)
  (q2 : (mem 8 2) < 160 → P (mset (mset mem 9 (mem 8 2) x1) 8 2 ((mem 8 2) + 1)))
  (s1 : (mem 8 2) < 160 → 0 ≤ (mem 8 2) ∧ (mem 8 2) < 160 := by intros; first | omega | assumption | solve_by_elim)
  (s2 : (mem 8 2) < 160 → R32 x1 := by intros; first | omega | assumption | solve_by_elim)
  (s3 : (mem 8 2) < 160 → R32 ((mem 8 2) + 1) := by intros; first | omega | assumption | solve_by_elim)
  : mmT bX3_write d 0 0 (mQv P) 0 [(2, 8), (0, x1)] [] mS mem := by
  refine st_aload_n (i := 0) rfl (t := 0) rfl (by decide) dX3_write_0 ?_
  refine so_getI (v := (mem 8 2)) 8 2 fr_X3_27_3 rfl sh_8 rfl dX3_write_1 (fun r1 => ?_)
  refine st_aload_n (i := 0) rfl (t := 0) rfl (by decide) dX3_write_4 ?_
  refine so_getA 8 1 fr_X3_11_3 rfl sh_8 fx_8_1 dX3_write_5 ?_
  refine so_alen (v := 160) 9 rfl sh_9 (by decide) rfl dX3_write_8 ?_
  refine sr_icmp_ge 32 r1 ⟨by decide, by decide⟩ (by decide) dX3_write_9 (fun h1 => ?_) (fun h1 => ?_)
  · have h1 : 160 ≤ (mem 8 2) := by omega
    exact st_return rfl dX3_write_32 (mQv.ret (q1 h1))
  · have h1 : (mem 8 2) < 160 := by omega
    refine st_aload_n (i := 0) rfl (t := 0) rfl (by decide) dX3_write_12 ?_
    refine so_getA 8 1 fr_X3_11_3 rfl sh_8 fx_8_1 dX3_write_13 ?_
    refine st_aload_n (i := 0) rfl (t := 0) rfl (by decide) dX3_write_16 ?_
    refine so_getI (v := (mem 8 2)) 8 2 fr_X3_27_3 rfl sh_8 rfl dX3_write_17 (fun r2 => ?_)
    refine st_iload_n (i := 1) rfl rfl dX3_write_20 ?_
    refine so_iast 9 fr_9 rfl sh_9 (by decide) (s1 h1) (s2 h1) dX3_write_21 ?_
    refine st_aload_n (i := 0) rfl (t := 0) rfl (by decide) dX3_write_22 ?_
    refine st_dup (Nat.ne_of_beq_eq_false rfl) dX3_write_23 ?_
    refine so_getI (v := (mem 8 2)) 8 2 fr_X3_27_3 rfl sh_8 rfl dX3_write_24 (fun r3 => ?_)
    refine st_iconst dX3_write_27 ?_
    refine st_iadd dX3_write_28 ?_
    refine so_putI 8 2 fr_X3_27_3 pf_3_2 fo_8_2 rfl sh_8 (s3 h1) dX3_write_29 ?_
    exact st_return rfl dX3_write_32 (mQv.ret (q2 h1))
def wrX (m : mmM) (v : Int) : mmM := mset (mset m 9 (m 8 2) v) 8 2 (m 8 2 + 1)
theorem c_X3_write (mem : mmM) (x : Int) (h : R32 x) (h2 : 0 ≤ mem 8 2 ∧ mem 8 2 < 160) : conv bX3_write 0 [(2, 8), (0, x)] mem (fun m => m = wrX mem x) := cn_X3_write (bk_X3_write_0 (fun g => absurd g (by omega)) (fun _ => rfl) (s1 := fun _ => h2) (s2 := fun _ => h) (s3 := fun _ => ⟨by omega, by omega⟩))
theorem leF_letS {c : Int} (h : isLet c) : leF (letS c) = c ∧ 0 ≤ letS c ∧ letS c < 6 := by
  unfold isLet at h
  rcases h with h | h | h | h | h | h <;> subst h <;> decide
/-- what reading a law leaves alone -/
def lxFr (mem m : mmM) : Prop := (∀ a, a ≠ 1 → a ≠ 8 → a ≠ 9 → m a = mem a) ∧ (∀ j, j ≠ 2 → m 1 j = mem 1 j) ∧ ∀ j, j ≠ 2 → m 8 j = mem 8 j
theorem lxFr_refl (mem : mmM) : lxFr mem mem := ⟨fun _ _ _ _ => rfl, fun _ _ => rfl, fun _ _ => rfl⟩
theorem lxFr_trans {a b c : mmM} (h : lxFr a b) (h' : lxFr b c) : lxFr a c := ⟨fun x x1 x2 x3 => (h'.1 x x1 x2 x3).trans (h.1 x x1 x2 x3), fun j hj => (h'.2.1 j hj).trans (h.2.1 j hj), fun j hj => (h'.2.2 j hj).trans (h.2.2 j hj)⟩
theorem lxFr_cu (mem : mmM) (j : Int) : lxFr mem (cuX mem j) := ⟨fun _ x1 _ _ => cuX_ne mem j x1, fun i hi => by
  show mset mem 1 2 j 1 i = _
  rw [mset_at, if_neg hi], fun i _ => by rw [cuX_ne mem j (by decide)]⟩
theorem lxFr_wr (mem : mmM) (v : Int) : lxFr mem (wrX mem v) := ⟨fun _ _ x2 x3 => by
  unfold wrX
  rw [mset_ne x2, mset_ne x3], fun i _ => by
  unfold wrX
  rw [mset_ne (by decide), mset_ne (by decide)], fun i hi => by
  unfold wrX
  rw [mset_at, if_neg hi, mset_ne (by decide)]⟩
theorem lxFr_1 {mem m : mmM} (h : lxFr mem m) : m 1 1 = mem 1 1 := h.2.1 1 (by decide)
theorem lxFr_2 {mem m : mmM} (h : lxFr mem m) : m 2 = mem 2 := h.1 2 (by decide) (by decide) (by decide)
theorem lxFr_C {mem m : mmM} (h : lxFr mem m) : CX m = CX mem := CX_of (lxFr_1 h) (lxFr_2 h)
theorem lxFr_S {mem m : mmM} (h : lxFr mem m) : SX m = SX mem := SX_of (lxFr_1 h) (lxFr_2 h)
theorem lxFr_B {mem m : mmM} (h : lxFr mem m) (hb : bytX mem) : bytX m := bytX_of (lxFr_1 h) (lxFr_2 h) hb
def preX (m : mmM) : Prop := bytX m ∧ (0 ≤ m 1 2 ∧ m 1 2 ≤ m 1 1) ∧ 0 ≤ m 8 2 ∧ m 8 2 ≤ m 1 2
/-- what was read: its tokens lie behind what lay there -/
def resX (mem : mmM) : PR → Int → mmM → Prop
  | .inl f, v, m => v = 0 ∧ lxFr mem m ∧ m 1 2 = f
  | .inr (q, ts), v, m => v = 1 ∧ lxFr mem m ∧ m 1 2 = q ∧ m 8 2 = mem 8 2 + ts.length ∧ tokX (m 9) (mem 8 2) ts ∧ ∀ i, i < mem 8 2 → m 9 i = mem 9 i
theorem resX_01 {mem m : mmM} {R : PR} {v : Int} (h : resX mem R v m) : v = 0 ∨ v = 1 := by
  cases R with
  | inl f => exact Or.inl h.1
  | inr x =>
    obtain ⟨q, ts⟩ := x
    exact Or.inr h.1
theorem resX_R {mem m : mmM} {R : PR} {v : Int} (h : resX mem R v m) : R32 v := by
  rcases resX_01 h with e | e <;> rw [e] <;> exact ⟨by decide, by decide⟩
theorem resX_no {mem m : mmM} {R : PR} {v : Int} (h : resX mem R v m) (g : v = 0) : ∃ f, R = .inl f ∧ lxFr mem m ∧ m 1 2 = f := by
  cases R with
  | inl f => exact ⟨f, rfl, h.2⟩
  | inr x =>
    obtain ⟨q, ts⟩ := x
    exact absurd (h.1.symm.trans g) (by decide)
theorem resX_yes {mem m : mmM} {R : PR} {v : Int} (h : resX mem R v m) (g : ¬ v = 0) : ∃ q ts, R = .inr (q, ts) ∧ resX mem (.inr (q, ts)) 1 m := by
  cases R with
  | inl f => exact absurd h.1 g
  | inr x =>
    obtain ⟨q, ts⟩ := x
    exact ⟨q, ts, rfl, rfl, h.2⟩
theorem tokX_app {f : Int → Int} : ∀ (ts us : List tokT) (p : Int), tokX f p ts → tokX f (p + ts.length) us → tokX f p (ts ++ us) := by
  intro ts
  induction ts with
  | nil =>
    intro us p _ h
    have e : p + (([] : List tokT).length : Int) = p := by show p + ((0 : Nat) : Int) = p; omega
    rw [e] at h
    exact h
  | cons t r ih =>
    intro us p h h'
    refine ⟨h.1, ih us (p + 1) h.2 ?_⟩
    have e : p + ((t :: r).length : Int) = p + 1 + (r.length : Int) := by
      show p + ((r.length + 1 : Nat) : Int) = _
      omega
    rw [e] at h'
    exact h'
theorem tokX_congr {f g : Int → Int} : ∀ (ts : List tokT) (p : Int), (∀ i, p ≤ i → i < p + ts.length → f i = g i) → tokX f p ts → tokX g p ts := by
  intro ts
  induction ts with
  | nil => exact fun _ _ _ => trivial
  | cons t r ih =>
    intro p h h'
    have e : ((t :: r).length : Int) = (r.length : Int) + 1 := by
      show ((r.length + 1 : Nat) : Int) = _
      omega
    exact ⟨(h p (Int.le_refl _) (by omega)).symm.trans h'.1, ih (p + 1) (fun i i0 i1 => h i (by omega) (by omega)) h'.2⟩
theorem resX_app {mem m m' : mmM} {j q v : Int} {ts us : List tokT} (h : resX mem (.inr (j, ts)) 1 m) (h' : resX m (.inr (q, us)) v m') : resX mem (.inr (q, ts ++ us)) v m' := by
  obtain ⟨-, a2, a3, a4, a5, a6⟩ := h
  obtain ⟨b1, b2, b3, b4, b5, b6⟩ := h'
  refine ⟨b1, lxFr_trans a2 b2, b3, ?_, ?_, fun i i1 => (b6 i (by omega)).trans (a6 i i1)⟩
  · rw [b4, a4, List.length_append]
    omega
  · refine tokX_app ts us _ (tokX_congr ts _ (fun i i0 i1 => (b6 i (by omega)).symm) a5) ?_
    rw [← a4]
    exact b5
theorem resX_bad {mem m m' : mmM} {j f v : Int} {ts : List tokT} (h : resX mem (.inr (j, ts)) 1 m) (h' : resX m (.inl f) v m') : resX mem (.inl f) v m' := ⟨h'.1, lxFr_trans h.2.1 h'.2.1, h'.2.2⟩
theorem resX_cu {mem m : mmM} {j v : Int} {ts : List tokT} (h : resX mem (.inr (j, ts)) v m) (q : Int) : resX mem (.inr (q, ts)) v (cuX m q) := by
  obtain ⟨a1, a2, a3, a4, a5, a6⟩ := h
  refine ⟨a1, lxFr_trans a2 (lxFr_cu m q), cuX_at _ _, ?_, ?_, ?_⟩
  · rw [cuX_ne _ _ (by decide)]
    exact a4
  · rw [cuX_ne _ _ (by decide)]
    exact a5
  · rw [cuX_ne _ _ (by decide)]
    exact a6
theorem resX_nil (mem : mmM) : resX mem (.inr (mem 1 2, [])) 1 mem := ⟨rfl, lxFr_refl mem, rfl, by show _ = _ + ((0 : Nat) : Int); omega, trivial, fun _ _ => rfl⟩
theorem resX_wr {mem m : mmM} {j v : Int} {ts : List tokT} {t : tokT} (h : resX mem (.inr (j, ts)) v m) : resX mem (.inr (j, ts ++ [t])) 1 (wrX m (encX t)) := by
  obtain ⟨a1, a2, a3, a4, a5, a6⟩ := h
  have e9 : ∀ i, i ≠ m 8 2 → wrX m (encX t) 9 i = m 9 i := fun i hi => by
    unfold wrX
    rw [mset_ne (by decide), mset_at, if_neg hi]
  refine ⟨rfl, lxFr_trans a2 (lxFr_wr m _), ?_, ?_, ?_, ?_⟩
  · unfold wrX
    rw [mset_ne (by decide), mset_ne (by decide), a3]
  · unfold wrX
    rw [mset_same, a4, List.length_append, List.length_singleton]
    omega
  · refine tokX_app ts [t] _ (tokX_congr ts _ (fun i i0 i1 => (e9 i (by omega)).symm) a5) ⟨?_, trivial⟩
    rw [← a4]
    unfold wrX
    rw [mset_ne (by decide), mset_same]
  · intro i i1
    rw [e9 i (by omega)]
    exact a6 i i1
theorem encT {c op : Int} (h : opT c = some op) : encX (op, 0) = c := by
  unfold opT at h
  split at h
  · cases h
    rename_i e
    rw [e]
    decide
  · split at h
    · cases h
      rename_i e
      rw [e]
      decide
    · cases h
theorem encS {c op : Int} (h : opS c = some op) : encX (op, 0) = c := by
  unfold opS at h
  split at h
  · cases h
    rename_i e
    rw [e]
    decide
  · split at h
    · cases h
      rename_i e
      rw [e]
      decide
    · cases h
theorem loopP_no {C S : Int → Int} {ops : Int → Option Int} {f : Int → PR} {k : Nat} {j : Int} {ts : List tokT} (h : ops (C (S j)) = none) : loopP C S ops f (k + 1) j ts = .inr (S j, ts) := by
  unfold loopP
  rw [h]
theorem loopP_bad {C S : Int → Int} {ops : Int → Option Int} {f : Int → PR} {k : Nat} {j op e : Int} {ts : List tokT} (h : ops (C (S j)) = some op) (hf : f (S j + 1) = .inl e) : loopP C S ops f (k + 1) j ts = .inl e := by
  unfold loopP
  rw [h]
  show (match f (S j + 1) with | .inl e => _ | .inr (q, us) => _) = _
  rw [hf]
theorem loopP_yes {C S : Int → Int} {ops : Int → Option Int} {f : Int → PR} {k : Nat} {j op q : Int} {ts us : List tokT} (h : ops (C (S j)) = some op) (hf : f (S j + 1) = .inr (q, us)) : loopP C S ops f (k + 1) j ts = loopP C S ops f k q (ts ++ us ++ [(op, 0)]) := by
  show (match ops (C (S j)) with | none => _ | some op => _) = _
  rw [h]
  show (match f (S j + 1) with | .inl e => _ | .inr (q, us) => _) = _
  rw [hf]
theorem chainP_bad {C S : Int → Int} {ops : Int → Option Int} {f : Int → PR} {j e : Int} (hf : f j = .inl e) : chainP C S ops f j = .inl e := by
  unfold chainP
  rw [hf]
theorem chainP_yes {C S : Int → Int} {ops : Int → Option Int} {f : Int → PR} {j q : Int} {ts : List tokT} (hf : f j = .inr (q, ts)) : chainP C S ops f j = loopP C S ops f 200 q ts := by
  unfold chainP
  rw [hf]
theorem tapX_P (mem : mmM) : tapP (CX mem) (SX mem) (mem 1 1) := tapP_T _ _
theorem sign_m (m : mmM) (hb : bytX m) (h0 : 0 ≤ m 1 2) : con 0 bX9_sign 2 [(2, 1)] m (fun v m' => v = CX m (SX m (m 1 2)) ∧ m' = cuX m (SX m (m 1 2))) := c_X9_sign m hb h0
theorem cn_X3_readTerm {d : Nat} {P : Int → mmM → Prop} {mem : mmM} {x1 : Int} (h : mmT bX3_readTerm d 0 0 (mQ 0 P) 0 [(2, 8), (0, x1), (9, 0), (9, 0)] [] mS mem) : con 0 bX3_readTerm d [(2, 8), (0, x1)] mem P := mmC_of [(2, 8), (0, x1), (9, 0), (9, 0)] ok_X3_readTerm.2.2.2.2 rfl (Nat.le_of_ble_eq_true rfl) h
theorem bk_X3_readTerm_0 {d : Nat} {d1 : Nat} {P1 : Int → mmM → Prop} {P : Int → mmM → Prop} {mem : mmM} {x1 : Int}
  (c1 : con 0 bX3_readAtom d1 [(2, 8), (0, x1)] mem P1)
  (k1 : ∀ (v1 : Int), ∀ (m1 : mmM), P1 v1 m1 → ¬ v1 = 0 → mmT bX3_readTerm d 0 0 (mQ 0 P) 12 [(2, 8), (0, x1), (0, 0), (9, 0)] [] mS m1)
  (q1 : ∀ (v1 : Int), ∀ (m1 : mmM), P1 v1 m1 → v1 = 0 → P 0 m1)
  (hd_d1 : d1 + 1 ≤ d := by omega)
  (s1 : ∀ (v1 : Int), ∀ (m1 : mmM), P1 v1 m1 → R32 v1 := by intros; first | omega | assumption | solve_by_elim)
  : mmT bX3_readTerm d 0 0 (mQ 0 P) 0 [(2, 8), (0, x1), (9, 0), (9, 0)] [] mS mem := by
  refine st_aload_n (i := 0) rfl (t := 0) rfl (by decide) dX3_readTerm_0 ?_
  refine st_iload_n (i := 1) rfl rfl dX3_readTerm_1 ?_
  refine st_callV (kc2 := 0) (ks2 := 0) (av := [(0, x1)]) 8 3 mr_X3_72 ok_X3_readAtom c1 rfl sh_8 ⟨_, rfl, rfl, by decide⟩ rfl rfl hd_d1 (Nat.le_refl 0) (Nat.le_refl 0) (Nat.le_of_ble_eq_true rfl) dX3_readTerm_2 (mQ.elim fun v1 m1 p1 => ?_)
  refine sr_if_ne 10 (s1 v1 m1 p1) (by decide) dX3_readTerm_5 (fun h1 => ?_) (fun h1 => ?_)
  · have h1 : ¬ v1 = 0 := by omega
    refine st_iconst dX3_readTerm_10 ?_
    refine st_istore_n (i := 2) rfl (by decide) (lc' := [(2, 8), (0, x1), (0, 0), (9, 0)]) rfl dX3_readTerm_11 ?_
    exact st_locals [(2, 8), (0, x1), (0, 0), (9, 0)] ⟨Or.inr rfl, Or.inr rfl, Or.inr rfl, Or.inl rfl, trivial⟩ (k1 v1 m1 p1 h1)
  · have h1 : v1 = 0 := by omega
    refine st_iconst dX3_readTerm_8 ?_
    exact st_zreturn rfl (by decide) dX3_readTerm_9 (mQ.ret (q1 v1 m1 p1 h1))
theorem bk_X3_readTerm_12 {d : Nat} {d1 : Nat} {P1 : Int → mmM → Prop} {d2 : Nat} {P2 : Int → mmM → Prop} {d3 : Nat} {P3 : Int → mmM → Prop} {P : Int → mmM → Prop} {mem : mmM} {x1 x2 : Int}
  (c1 : x2 < 160 → con 0 bX9_sign d1 [(2, 1)] mem P1)
  (c2 : x2 < 160 → ∀ (v1 : Int), ∀ (m1 : mmM), P1 v1 m1 → v1 = 42 → con 0 bX3_readAtom d2 [(2, 8), (0, x1)] (mset m1 1 2 ((m1 1 2) + 1)) P2)
  (c3 : x2 < 160 → ∀ (v1 : Int), ∀ (m1 : mmM), P1 v1 m1 → ¬ v1 = 42 → v1 = 47 → con 0 bX3_readAtom d3 [(2, 8), (0, x1)] (mset m1 1 2 ((m1 1 2) + 1)) P3)
  (k1 : x2 < 160 → ∀ (v1 : Int), ∀ (m1 : mmM), P1 v1 m1 → v1 = 42 → ∀ (v2 : Int), ∀ (m2 : mmM), P2 v2 m2 → ¬ v2 = 0 → mmT bX3_readTerm d 0 0 (mQ 0 P) 12 [(2, 8), (0, x1), (0, (x2 + 1)), (9, 0)] [] mS (wrX m2 v1))
  (k2 : x2 < 160 → ∀ (v1 : Int), ∀ (m1 : mmM), P1 v1 m1 → ¬ v1 = 42 → v1 = 47 → ∀ (v3 : Int), ∀ (m4 : mmM), P3 v3 m4 → ¬ v3 = 0 → mmT bX3_readTerm d 0 0 (mQ 0 P) 12 [(2, 8), (0, x1), (0, (x2 + 1)), (9, 0)] [] mS (wrX m4 v1))
  (q1 : 160 ≤ x2 → P 1 mem)
  (q2 : x2 < 160 → ∀ (v1 : Int), ∀ (m1 : mmM), P1 v1 m1 → v1 = 42 → ∀ (v2 : Int), ∀ (m2 : mmM), P2 v2 m2 → v2 = 0 → P 0 m2)
  (q3 : x2 < 160 → ∀ (v1 : Int), ∀ (m1 : mmM), P1 v1 m1 → ¬ v1 = 42 → v1 = 47 → ∀ (v3 : Int), ∀ (m4 : mmM), P3 v3 m4 → v3 = 0 → P 0 m4)
  (q4 : x2 < 160 → ∀ (v1 : Int), ∀ (m1 : mmM), P1 v1 m1 → ¬ v1 = 42 → ¬ v1 = 47 → P 1 m1)
  (hd_d1 : d1 + 1 ≤ d := by omega)
  (hd_d2 : d2 + 1 ≤ d := by omega)
  (hd_d3 : d3 + 1 ≤ d := by omega)
  (hd1 : 1 ≤ d := by omega)
  (s1 : R32 x2 := by intros; first | omega | assumption | solve_by_elim)
  (s2 : x2 < 160 → ∀ (v1 : Int), ∀ (m1 : mmM), P1 v1 m1 → R32 v1 := by intros; first | omega | assumption | solve_by_elim)
  (s3 : x2 < 160 → ∀ (v1 : Int), ∀ (m1 : mmM), P1 v1 m1 → v1 = 42 → R32 ((m1 1 2) + 1) := by intros; first | omega | assumption | solve_by_elim)
  (s4 : x2 < 160 → ∀ (v1 : Int), ∀ (m1 : mmM), P1 v1 m1 → v1 = 42 → ∀ (v2 : Int), ∀ (m2 : mmM), P2 v2 m2 → R32 v2 := by intros; first | omega | assumption | solve_by_elim)
  (s5 : x2 < 160 → ∀ (v1 : Int), ∀ (m1 : mmM), P1 v1 m1 → v1 = 42 → ∀ (v2 : Int), ∀ (m2 : mmM), P2 v2 m2 → ¬ v2 = 0 → 0 ≤ (m2 8 2) ∧ (m2 8 2) < 160 := by intros; first | omega | assumption | solve_by_elim)
  (s6 : x2 < 160 → ∀ (v1 : Int), ∀ (m1 : mmM), P1 v1 m1 → ¬ v1 = 42 → v1 = 47 → R32 ((m1 1 2) + 1) := by intros; first | omega | assumption | solve_by_elim)
  (s7 : x2 < 160 → ∀ (v1 : Int), ∀ (m1 : mmM), P1 v1 m1 → ¬ v1 = 42 → v1 = 47 → ∀ (v3 : Int), ∀ (m4 : mmM), P3 v3 m4 → R32 v3 := by intros; first | omega | assumption | solve_by_elim)
  (s8 : x2 < 160 → ∀ (v1 : Int), ∀ (m1 : mmM), P1 v1 m1 → ¬ v1 = 42 → v1 = 47 → ∀ (v3 : Int), ∀ (m4 : mmM), P3 v3 m4 → ¬ v3 = 0 → 0 ≤ (m4 8 2) ∧ (m4 8 2) < 160 := by intros; first | omega | assumption | solve_by_elim)
  : mmT bX3_readTerm d 0 0 (mQ 0 P) 12 [(2, 8), (0, x1), (0, x2), (9, 0)] [] mS mem := by
  refine st_iload_n (i := 2) rfl rfl dX3_readTerm_12 ?_
  refine st_sipush rfl dX3_readTerm_13 ?_
  refine sr_icmp_ge 75 s1 ⟨by decide, by decide⟩ (by decide) dX3_readTerm_16 (fun h1 => ?_) (fun h1 => ?_)
  · have h1 : 160 ≤ x2 := by omega
    refine st_iconst dX3_readTerm_75 ?_
    exact st_zreturn rfl (by decide) dX3_readTerm_76 (mQ.ret (q1 h1))
  · have h1 : x2 < 160 := by omega
    refine st_aload_n (i := 0) rfl (t := 0) rfl (by decide) dX3_readTerm_19 ?_
    refine so_getA 8 0 fr_X3_17_3 rfl sh_8 fx_8_0 dX3_readTerm_20 ?_
    refine st_callV (kc2 := 0) (ks2 := 0) (av := []) 1 9 mr_X3_42 ok_X9_sign (c1 h1) rfl sh_1 ⟨_, rfl, rfl, by decide⟩ rfl rfl hd_d1 (Nat.le_refl 0) (Nat.le_refl 0) (Nat.le_of_ble_eq_true rfl) dX3_readTerm_23 (mQ.elim fun v1 m1 p1 => ?_)
    refine st_istore_n (i := 3) rfl (by decide) (lc' := [(2, 8), (0, x1), (0, x2), (0, v1)]) rfl dX3_readTerm_26 ?_
    refine st_iload_n (i := 3) rfl rfl dX3_readTerm_27 ?_
    refine st_bipush rfl dX3_readTerm_28 ?_
    refine sr_icmp_eq 41 (s2 h1 v1 m1 p1) ⟨by decide, by decide⟩ (by decide) dX3_readTerm_30 (fun h2 => ?_) (fun h2 => ?_)
    · have h2 : v1 = 42 := by omega
      refine st_aload_n (i := 0) rfl (t := 0) rfl (by decide) dX3_readTerm_41 ?_
      refine so_getA 8 0 fr_X3_17_3 rfl sh_8 fx_8_0 dX3_readTerm_42 ?_
      refine st_dup (Nat.ne_of_beq_eq_false rfl) dX3_readTerm_45 ?_
      refine so_getI (v := (m1 1 2)) 1 2 fr_X3_21_9 rfl sh_1 rfl dX3_readTerm_46 (fun r1 => ?_)
      refine st_iconst dX3_readTerm_49 ?_
      refine st_iadd dX3_readTerm_50 ?_
      refine so_putI 1 2 fr_X3_21_9 pf_9_2 fo_1_2 rfl sh_1 (s3 h1 v1 m1 p1 h2) dX3_readTerm_51 ?_
      refine st_aload_n (i := 0) rfl (t := 0) rfl (by decide) dX3_readTerm_54 ?_
      refine st_iload_n (i := 1) rfl rfl dX3_readTerm_55 ?_
      refine st_callV (kc2 := 0) (ks2 := 0) (av := [(0, x1)]) 8 3 mr_X3_72 ok_X3_readAtom (c2 h1 v1 m1 p1 h2) rfl sh_8 ⟨_, rfl, rfl, by decide⟩ rfl rfl hd_d2 (Nat.le_refl 0) (Nat.le_refl 0) (Nat.le_of_ble_eq_true rfl) dX3_readTerm_56 (mQ.elim fun v2 m2 p2 => ?_)
      refine sr_if_ne 64 (s4 h1 v1 m1 p1 h2 v2 m2 p2) (by decide) dX3_readTerm_59 (fun h3 => ?_) (fun h3 => ?_)
      · have h3 : ¬ v2 = 0 := by omega
        refine st_aload_n (i := 0) rfl (t := 0) rfl (by decide) dX3_readTerm_64 ?_
        refine st_iload_n (i := 3) rfl rfl dX3_readTerm_65 ?_
        refine st_callV (kc2 := 0) (ks2 := 0) (av := [(0, v1)]) 8 3 mr_X3_34 ok_X3_write (c_X3_write m2 v1 ((s2 h1 v1 m1 p1)) ((s5 h1 v1 m1 p1 h2 v2 m2 p2 h3))) rfl sh_8 ⟨_, rfl, rfl, by decide⟩ rfl rfl hd1 (Nat.le_refl 0) (Nat.le_refl 0) (Nat.le_of_ble_eq_true rfl) dX3_readTerm_66 (mQv.elim fun m3 hp => ?_)
        have hp := hp.symm
        subst hp
        refine st_iinc (y := (x2 + 1)) (by decide) (i := 2) rfl rfl (lc' := [(2, 8), (0, x1), (0, (x2 + 1)), (0, v1)]) rfl dX3_readTerm_69 ?_
        refine st_goto 12 (by decide) dX3_readTerm_72 ?_
        exact st_locals [(2, 8), (0, x1), (0, (x2 + 1)), (9, 0)] ⟨Or.inr rfl, Or.inr rfl, Or.inr rfl, Or.inl rfl, trivial⟩ (k1 h1 v1 m1 p1 h2 v2 m2 p2 h3)
      · have h3 : v2 = 0 := by omega
        refine st_iconst dX3_readTerm_62 ?_
        exact st_zreturn rfl (by decide) dX3_readTerm_63 (mQ.ret (q2 h1 v1 m1 p1 h2 v2 m2 p2 h3))
    · have h2 : ¬ v1 = 42 := by omega
      refine st_iload_n (i := 3) rfl rfl dX3_readTerm_33 ?_
      refine st_bipush rfl dX3_readTerm_34 ?_
      refine sr_icmp_eq 41 (s2 h1 v1 m1 p1) ⟨by decide, by decide⟩ (by decide) dX3_readTerm_36 (fun h4 => ?_) (fun h4 => ?_)
      · have h4 : v1 = 47 := by omega
        refine st_aload_n (i := 0) rfl (t := 0) rfl (by decide) dX3_readTerm_41 ?_
        refine so_getA 8 0 fr_X3_17_3 rfl sh_8 fx_8_0 dX3_readTerm_42 ?_
        refine st_dup (Nat.ne_of_beq_eq_false rfl) dX3_readTerm_45 ?_
        refine so_getI (v := (m1 1 2)) 1 2 fr_X3_21_9 rfl sh_1 rfl dX3_readTerm_46 (fun r2 => ?_)
        refine st_iconst dX3_readTerm_49 ?_
        refine st_iadd dX3_readTerm_50 ?_
        refine so_putI 1 2 fr_X3_21_9 pf_9_2 fo_1_2 rfl sh_1 (s6 h1 v1 m1 p1 h2 h4) dX3_readTerm_51 ?_
        refine st_aload_n (i := 0) rfl (t := 0) rfl (by decide) dX3_readTerm_54 ?_
        refine st_iload_n (i := 1) rfl rfl dX3_readTerm_55 ?_
        refine st_callV (kc2 := 0) (ks2 := 0) (av := [(0, x1)]) 8 3 mr_X3_72 ok_X3_readAtom (c3 h1 v1 m1 p1 h2 h4) rfl sh_8 ⟨_, rfl, rfl, by decide⟩ rfl rfl hd_d3 (Nat.le_refl 0) (Nat.le_refl 0) (Nat.le_of_ble_eq_true rfl) dX3_readTerm_56 (mQ.elim fun v3 m4 p3 => ?_)
        refine sr_if_ne 64 (s7 h1 v1 m1 p1 h2 h4 v3 m4 p3) (by decide) dX3_readTerm_59 (fun h5 => ?_) (fun h5 => ?_)
        · have h5 : ¬ v3 = 0 := by omega
          refine st_aload_n (i := 0) rfl (t := 0) rfl (by decide) dX3_readTerm_64 ?_
          refine st_iload_n (i := 3) rfl rfl dX3_readTerm_65 ?_
          refine st_callV (kc2 := 0) (ks2 := 0) (av := [(0, v1)]) 8 3 mr_X3_34 ok_X3_write (c_X3_write m4 v1 ((s2 h1 v1 m1 p1)) ((s8 h1 v1 m1 p1 h2 h4 v3 m4 p3 h5))) rfl sh_8 ⟨_, rfl, rfl, by decide⟩ rfl rfl hd1 (Nat.le_refl 0) (Nat.le_refl 0) (Nat.le_of_ble_eq_true rfl) dX3_readTerm_66 (mQv.elim fun m5 hp => ?_)
          have hp := hp.symm
          subst hp
          refine st_iinc (y := (x2 + 1)) (by decide) (i := 2) rfl rfl (lc' := [(2, 8), (0, x1), (0, (x2 + 1)), (0, v1)]) rfl dX3_readTerm_69 ?_
          refine st_goto 12 (by decide) dX3_readTerm_72 ?_
          exact st_locals [(2, 8), (0, x1), (0, (x2 + 1)), (9, 0)] ⟨Or.inr rfl, Or.inr rfl, Or.inr rfl, Or.inl rfl, trivial⟩ (k2 h1 v1 m1 p1 h2 h4 v3 m4 p3 h5)
        · have h5 : v3 = 0 := by omega
          refine st_iconst dX3_readTerm_62 ?_
          exact st_zreturn rfl (by decide) dX3_readTerm_63 (mQ.ret (q3 h1 v1 m1 p1 h2 h4 v3 m4 p3 h5))
      · have h4 : ¬ v1 = 47 := by omega
        refine st_iconst dX3_readTerm_39 ?_
        exact st_zreturn rfl (by decide) dX3_readTerm_40 (mQ.ret (q4 h1 v1 m1 p1 h2 h4))
theorem rd_Term (F : mmM → Int → PR) (x1 : Int) (dA : Nat) (hd : 2 ≤ dA) (hA : ∀ m, preX m → con 0 bX3_readAtom dA [(2, 8), (0, x1)] m (resX m (F m (m 1 2)))) (hF : ∀ mem m, lxFr mem m → F m = F mem) (hg : ∀ m, bytX m → goodP (m 1 1) (F m)) (mem : mmM) (hp : preX mem) : con 0 bX3_readTerm (dA + 1) [(2, 8), (0, x1)] mem (resX mem (chainP (CX mem) (SX mem) opT (F mem) (mem 1 2))) := by
  have hb := hp.1
  have hn := hb.1
  have h0 := hp.2.1
  have hsz := hp.2.2
  have main : ∀ (k : Nat) (R : PR) (m : mmM) (i j : Int) (ts : List tokT), resX mem (.inr (j, ts)) 1 m → (mem 1 2 < j ∧ j ≤ mem 1 1 ∧ (ts.length : Int) ≤ j - mem 1 2) → mem 1 1 - j < k → (0 ≤ i ∧ i < j) → R = loopP (CX mem) (SX mem) opT (F mem) k j ts → mmT bX3_readTerm (dA + 1) 0 0 (mQ 0 (resX mem R)) 12 [(2, 8), (0, x1), (0, i), (9, 0)] [] mS m := by
    intro k R
    induction k with
    | zero =>
      intro m i j ts _ _ h
      omega
    | succ k ih =>
      intro m i j ts hm hj hk hi hR
      obtain ⟨-, a2, a3, a4, -, -⟩ := id hm
      have eC := lxFr_C a2
      have eS := lxFr_S a2
      have hbm := lxFr_B a2 hb
      have ge := SX_ge mem j
      have le := SX_le (mem := mem) (j := j) hj.2.1
      have rg := CX_rng hb (SX mem j)
      have sg := sign_m m hbm (by omega)
      rw [eC, eS, a3] at sg
      have rest : ∀ op, opT (CX mem (SX mem j)) = some op → con 0 bX3_readAtom dA [(2, 8), (0, x1)] (cuX m (SX mem j + 1)) (resX (cuX m (SX mem j + 1)) (F mem (SX mem j + 1))) := by
        intro op ho
        have lt := CX_lt (mem := mem) (j := SX mem j) (opT_pos ho).1
        have := hA (cuX m (SX mem j + 1)) ⟨bytX_cu hbm _, by rw [cuX_at, cuX_1, lxFr_1 a2]; omega, by rw [cuX_at, cuX_ne _ _ (by decide), a4]; omega⟩
        rw [cuX_at, hF mem _ (lxFr_trans a2 (lxFr_cu m _))] at this
        exact this
      have bad : ∀ op v m', opT (CX mem (SX mem j)) = some op → resX (cuX m (SX mem j + 1)) (F mem (SX mem j + 1)) v m' → v = 0 → resX mem R 0 m' := by
        intro op v m' ho w g
        obtain ⟨f, e, w1, w2⟩ := resX_no w g
        rw [hR, loopP_bad ho e]
        exact ⟨rfl, lxFr_trans (lxFr_trans a2 (lxFr_cu m _)) w1, w2⟩
      have good : ∀ op v m', opT (CX mem (SX mem j)) = some op → resX (cuX m (SX mem j + 1)) (F mem (SX mem j + 1)) v m' → ¬ v = 0 → (0 ≤ m' 8 2 ∧ m' 8 2 < 160) ∧ mmT bX3_readTerm (dA + 1) 0 0 (mQ 0 (resX mem R)) 12 [(2, 8), (0, x1), (0, i + 1), (9, 0)] [] mS (wrX m' (CX mem (SX mem j))) := by
        intro op v m' ho w g
        obtain ⟨q, us, e, w1⟩ := resX_yes w g
        have lt := CX_lt (mem := mem) (j := SX mem j) (opT_pos ho).1
        have gd := (hg mem hb (SX mem j + 1) (by omega) (by omega)).2 q us e
        have w2 := resX_app (resX_cu hm (SX mem j + 1)) w1
        have w3 := resX_wr (t := (op, 0)) w2
        rw [encT ho] at w3
        have e8 := w2.2.2.2.1
        rw [List.length_append] at e8
        refine ⟨by omega, ?_⟩
        refine ih _ (i + 1) q (ts ++ us ++ [(op, 0)]) w3 ?_ (by omega) (by omega) (by rw [hR]; exact loopP_yes ho e)
        rw [List.length_append, List.length_append, List.length_singleton]
        omega
      have o1 : CX mem (SX mem j) = 42 → opT (CX mem (SX mem j)) = some 4 := fun z => by rw [z]; rfl
      have o2 : CX mem (SX mem j) = 47 → opT (CX mem (SX mem j)) = some 5 := fun z => by rw [z]; rfl
      have o3 : ¬ CX mem (SX mem j) = 42 → ¬ CX mem (SX mem j) = 47 → opT (CX mem (SX mem j)) = none := fun z z2 => by
        unfold opT
        rw [if_neg z, if_neg z2]
      refine bk_X3_readTerm_12 (d1 := 2) (d2 := dA) (d3 := dA) (P1 := fun v m' => v = CX mem (SX mem j) ∧ m' = cuX m (SX mem j)) (P2 := fun v m' => CX mem (SX mem j) = 42 ∧ resX (cuX m (SX mem j + 1)) (F mem (SX mem j + 1)) v m') (P3 := fun v m' => CX mem (SX mem j) = 47 ∧ resX (cuX m (SX mem j + 1)) (F mem (SX mem j + 1)) v m') (fun _ => sg) ?_ ?_ ?_ ?_ (fun g => absurd g (by omega)) ?_ ?_ ?_ (s1 := ⟨by omega, by omega⟩) (s2 := ?_) (s3 := ?_) (s4 := ?_) (s5 := ?_) (s6 := ?_) (s7 := ?_) (s8 := ?_)
      · rintro _ v m' ⟨rfl, rfl⟩ g
        rw [cuX_at, cuX_cu]
        exact con.mono (rest 4 (o1 g)) (fun v m' w => ⟨g, w⟩)
      · rintro _ v m' ⟨rfl, rfl⟩ _ g
        rw [cuX_at, cuX_cu]
        exact con.mono (rest 5 (o2 g)) (fun v m' w => ⟨g, w⟩)
      · rintro _ v m' ⟨rfl, rfl⟩ g v2 m2 ⟨z, w⟩ g2
        exact (good 4 v2 m2 (o1 z) w g2).2
      · rintro _ v m' ⟨rfl, rfl⟩ _ g v2 m2 ⟨z, w⟩ g2
        exact (good 5 v2 m2 (o2 z) w g2).2
      · rintro _ v m' ⟨rfl, rfl⟩ g v2 m2 ⟨z, w⟩ g2
        exact bad 4 v2 m2 (o1 z) w g2
      · rintro _ v m' ⟨rfl, rfl⟩ _ g v2 m2 ⟨z, w⟩ g2
        exact bad 5 v2 m2 (o2 z) w g2
      · rintro _ v m' ⟨rfl, rfl⟩ g g2
        rw [hR, loopP_no (o3 g g2)]
        exact resX_cu hm _
      · rintro _ v m' ⟨rfl, rfl⟩
        exact ⟨by omega, by omega⟩
      · rintro _ v m' ⟨rfl, rfl⟩ g
        rw [cuX_at]
        exact ⟨by omega, by omega⟩
      · rintro _ v m' ⟨rfl, rfl⟩ g v2 m2 ⟨z, w⟩
        exact resX_R w
      · rintro _ v m' ⟨rfl, rfl⟩ g v2 m2 ⟨z, w⟩ g2
        exact (good 4 v2 m2 (o1 z) w g2).1
      · rintro _ v m' ⟨rfl, rfl⟩ _ g
        rw [cuX_at]
        exact ⟨by omega, by omega⟩
      · rintro _ v m' ⟨rfl, rfl⟩ _ g v2 m2 ⟨z, w⟩
        exact resX_R w
      · rintro _ v m' ⟨rfl, rfl⟩ _ g v2 m2 ⟨z, w⟩ g2
        exact (good 5 v2 m2 (o2 z) w g2).1
  refine cn_X3_readTerm (bk_X3_readTerm_0 (d1 := dA) (P1 := resX mem (F mem (mem 1 2))) (hA mem hp) (fun v m w g => ?_) (fun v m w g => ?_) (s1 := fun v m w => resX_R w))
  · obtain ⟨q, ts, e, w1⟩ := resX_yes w g
    have gd := (hg mem hb (mem 1 2) h0.1 h0.2).2 q ts e
    exact main 200 _ m 0 q ts w1 ⟨by omega, by omega, by omega⟩ (by omega) (by omega) (chainP_yes e)
  · obtain ⟨f, e, w1, w2⟩ := resX_no w g
    rw [chainP_bad e]
    exact ⟨rfl, w1, w2⟩
theorem cn_X3_readSum {d : Nat} {P : Int → mmM → Prop} {mem : mmM} {x1 : Int} (h : mmT bX3_readSum d 0 0 (mQ 0 P) 0 [(2, 8), (0, x1), (9, 0), (9, 0)] [] mS mem) : con 0 bX3_readSum d [(2, 8), (0, x1)] mem P := mmC_of [(2, 8), (0, x1), (9, 0), (9, 0)] ok_X3_readSum.2.2.2.2 rfl (Nat.le_of_ble_eq_true rfl) h
theorem bk_X3_readSum_0 {d : Nat} {d1 : Nat} {P1 : Int → mmM → Prop} {P : Int → mmM → Prop} {mem : mmM} {x1 : Int}
  (c1 : con 0 bX3_readTerm d1 [(2, 8), (0, x1)] mem P1)
  (k1 : ∀ (v1 : Int), ∀ (m1 : mmM), P1 v1 m1 → ¬ v1 = 0 → mmT bX3_readSum d 0 0 (mQ 0 P) 12 [(2, 8), (0, x1), (0, 0), (9, 0)] [] mS m1)
  (q1 : ∀ (v1 : Int), ∀ (m1 : mmM), P1 v1 m1 → v1 = 0 → P 0 m1)
  (hd_d1 : d1 + 1 ≤ d := by omega)
  (s1 : ∀ (v1 : Int), ∀ (m1 : mmM), P1 v1 m1 → R32 v1 := by intros; first | omega | assumption | solve_by_elim)
  : mmT bX3_readSum d 0 0 (mQ 0 P) 0 [(2, 8), (0, x1), (9, 0), (9, 0)] [] mS mem := by
  refine st_aload_n (i := 0) rfl (t := 0) rfl (by decide) dX3_readSum_0 ?_
  refine st_iload_n (i := 1) rfl rfl dX3_readSum_1 ?_
  refine st_callV (kc2 := 0) (ks2 := 0) (av := [(0, x1)]) 8 3 mr_X3_69 ok_X3_readTerm c1 rfl sh_8 ⟨_, rfl, rfl, by decide⟩ rfl rfl hd_d1 (Nat.le_refl 0) (Nat.le_refl 0) (Nat.le_of_ble_eq_true rfl) dX3_readSum_2 (mQ.elim fun v1 m1 p1 => ?_)
  refine sr_if_ne 10 (s1 v1 m1 p1) (by decide) dX3_readSum_5 (fun h1 => ?_) (fun h1 => ?_)
  · have h1 : ¬ v1 = 0 := by omega
    refine st_iconst dX3_readSum_10 ?_
    refine st_istore_n (i := 2) rfl (by decide) (lc' := [(2, 8), (0, x1), (0, 0), (9, 0)]) rfl dX3_readSum_11 ?_
    exact st_locals [(2, 8), (0, x1), (0, 0), (9, 0)] ⟨Or.inr rfl, Or.inr rfl, Or.inr rfl, Or.inl rfl, trivial⟩ (k1 v1 m1 p1 h1)
  · have h1 : v1 = 0 := by omega
    refine st_iconst dX3_readSum_8 ?_
    exact st_zreturn rfl (by decide) dX3_readSum_9 (mQ.ret (q1 v1 m1 p1 h1))
theorem bk_X3_readSum_12 {d : Nat} {d1 : Nat} {P1 : Int → mmM → Prop} {d2 : Nat} {P2 : Int → mmM → Prop} {d3 : Nat} {P3 : Int → mmM → Prop} {P : Int → mmM → Prop} {mem : mmM} {x1 x2 : Int}
  (c1 : x2 < 160 → con 0 bX9_sign d1 [(2, 1)] mem P1)
  (c2 : x2 < 160 → ∀ (v1 : Int), ∀ (m1 : mmM), P1 v1 m1 → v1 = 43 → con 0 bX3_readTerm d2 [(2, 8), (0, x1)] (mset m1 1 2 ((m1 1 2) + 1)) P2)
  (c3 : x2 < 160 → ∀ (v1 : Int), ∀ (m1 : mmM), P1 v1 m1 → ¬ v1 = 43 → v1 = 45 → con 0 bX3_readTerm d3 [(2, 8), (0, x1)] (mset m1 1 2 ((m1 1 2) + 1)) P3)
  (k1 : x2 < 160 → ∀ (v1 : Int), ∀ (m1 : mmM), P1 v1 m1 → v1 = 43 → ∀ (v2 : Int), ∀ (m2 : mmM), P2 v2 m2 → ¬ v2 = 0 → mmT bX3_readSum d 0 0 (mQ 0 P) 12 [(2, 8), (0, x1), (0, (x2 + 1)), (9, 0)] [] mS (wrX m2 v1))
  (k2 : x2 < 160 → ∀ (v1 : Int), ∀ (m1 : mmM), P1 v1 m1 → ¬ v1 = 43 → v1 = 45 → ∀ (v3 : Int), ∀ (m4 : mmM), P3 v3 m4 → ¬ v3 = 0 → mmT bX3_readSum d 0 0 (mQ 0 P) 12 [(2, 8), (0, x1), (0, (x2 + 1)), (9, 0)] [] mS (wrX m4 v1))
  (q1 : 160 ≤ x2 → P 1 mem)
  (q2 : x2 < 160 → ∀ (v1 : Int), ∀ (m1 : mmM), P1 v1 m1 → v1 = 43 → ∀ (v2 : Int), ∀ (m2 : mmM), P2 v2 m2 → v2 = 0 → P 0 m2)
  (q3 : x2 < 160 → ∀ (v1 : Int), ∀ (m1 : mmM), P1 v1 m1 → ¬ v1 = 43 → v1 = 45 → ∀ (v3 : Int), ∀ (m4 : mmM), P3 v3 m4 → v3 = 0 → P 0 m4)
  (q4 : x2 < 160 → ∀ (v1 : Int), ∀ (m1 : mmM), P1 v1 m1 → ¬ v1 = 43 → ¬ v1 = 45 → P 1 m1)
  (hd_d1 : d1 + 1 ≤ d := by omega)
  (hd_d2 : d2 + 1 ≤ d := by omega)
  (hd_d3 : d3 + 1 ≤ d := by omega)
  (hd1 : 1 ≤ d := by omega)
  (s1 : R32 x2 := by intros; first | omega | assumption | solve_by_elim)
  (s2 : x2 < 160 → ∀ (v1 : Int), ∀ (m1 : mmM), P1 v1 m1 → R32 v1 := by intros; first | omega | assumption | solve_by_elim)
  (s3 : x2 < 160 → ∀ (v1 : Int), ∀ (m1 : mmM), P1 v1 m1 → v1 = 43 → R32 ((m1 1 2) + 1) := by intros; first | omega | assumption | solve_by_elim)
  (s4 : x2 < 160 → ∀ (v1 : Int), ∀ (m1 : mmM), P1 v1 m1 → v1 = 43 → ∀ (v2 : Int), ∀ (m2 : mmM), P2 v2 m2 → R32 v2 := by intros; first | omega | assumption | solve_by_elim)
  (s5 : x2 < 160 → ∀ (v1 : Int), ∀ (m1 : mmM), P1 v1 m1 → v1 = 43 → ∀ (v2 : Int), ∀ (m2 : mmM), P2 v2 m2 → ¬ v2 = 0 → 0 ≤ (m2 8 2) ∧ (m2 8 2) < 160 := by intros; first | omega | assumption | solve_by_elim)
  (s6 : x2 < 160 → ∀ (v1 : Int), ∀ (m1 : mmM), P1 v1 m1 → ¬ v1 = 43 → v1 = 45 → R32 ((m1 1 2) + 1) := by intros; first | omega | assumption | solve_by_elim)
  (s7 : x2 < 160 → ∀ (v1 : Int), ∀ (m1 : mmM), P1 v1 m1 → ¬ v1 = 43 → v1 = 45 → ∀ (v3 : Int), ∀ (m4 : mmM), P3 v3 m4 → R32 v3 := by intros; first | omega | assumption | solve_by_elim)
  (s8 : x2 < 160 → ∀ (v1 : Int), ∀ (m1 : mmM), P1 v1 m1 → ¬ v1 = 43 → v1 = 45 → ∀ (v3 : Int), ∀ (m4 : mmM), P3 v3 m4 → ¬ v3 = 0 → 0 ≤ (m4 8 2) ∧ (m4 8 2) < 160 := by intros; first | omega | assumption | solve_by_elim)
  : mmT bX3_readSum d 0 0 (mQ 0 P) 12 [(2, 8), (0, x1), (0, x2), (9, 0)] [] mS mem := by
  refine st_iload_n (i := 2) rfl rfl dX3_readSum_12 ?_
  refine st_sipush rfl dX3_readSum_13 ?_
  refine sr_icmp_ge 75 s1 ⟨by decide, by decide⟩ (by decide) dX3_readSum_16 (fun h1 => ?_) (fun h1 => ?_)
  · have h1 : 160 ≤ x2 := by omega
    refine st_iconst dX3_readSum_75 ?_
    exact st_zreturn rfl (by decide) dX3_readSum_76 (mQ.ret (q1 h1))
  · have h1 : x2 < 160 := by omega
    refine st_aload_n (i := 0) rfl (t := 0) rfl (by decide) dX3_readSum_19 ?_
    refine so_getA 8 0 fr_X3_17_3 rfl sh_8 fx_8_0 dX3_readSum_20 ?_
    refine st_callV (kc2 := 0) (ks2 := 0) (av := []) 1 9 mr_X3_42 ok_X9_sign (c1 h1) rfl sh_1 ⟨_, rfl, rfl, by decide⟩ rfl rfl hd_d1 (Nat.le_refl 0) (Nat.le_refl 0) (Nat.le_of_ble_eq_true rfl) dX3_readSum_23 (mQ.elim fun v1 m1 p1 => ?_)
    refine st_istore_n (i := 3) rfl (by decide) (lc' := [(2, 8), (0, x1), (0, x2), (0, v1)]) rfl dX3_readSum_26 ?_
    refine st_iload_n (i := 3) rfl rfl dX3_readSum_27 ?_
    refine st_bipush rfl dX3_readSum_28 ?_
    refine sr_icmp_eq 41 (s2 h1 v1 m1 p1) ⟨by decide, by decide⟩ (by decide) dX3_readSum_30 (fun h2 => ?_) (fun h2 => ?_)
    · have h2 : v1 = 43 := by omega
      refine st_aload_n (i := 0) rfl (t := 0) rfl (by decide) dX3_readSum_41 ?_
      refine so_getA 8 0 fr_X3_17_3 rfl sh_8 fx_8_0 dX3_readSum_42 ?_
      refine st_dup (Nat.ne_of_beq_eq_false rfl) dX3_readSum_45 ?_
      refine so_getI (v := (m1 1 2)) 1 2 fr_X3_21_9 rfl sh_1 rfl dX3_readSum_46 (fun r1 => ?_)
      refine st_iconst dX3_readSum_49 ?_
      refine st_iadd dX3_readSum_50 ?_
      refine so_putI 1 2 fr_X3_21_9 pf_9_2 fo_1_2 rfl sh_1 (s3 h1 v1 m1 p1 h2) dX3_readSum_51 ?_
      refine st_aload_n (i := 0) rfl (t := 0) rfl (by decide) dX3_readSum_54 ?_
      refine st_iload_n (i := 1) rfl rfl dX3_readSum_55 ?_
      refine st_callV (kc2 := 0) (ks2 := 0) (av := [(0, x1)]) 8 3 mr_X3_69 ok_X3_readTerm (c2 h1 v1 m1 p1 h2) rfl sh_8 ⟨_, rfl, rfl, by decide⟩ rfl rfl hd_d2 (Nat.le_refl 0) (Nat.le_refl 0) (Nat.le_of_ble_eq_true rfl) dX3_readSum_56 (mQ.elim fun v2 m2 p2 => ?_)
      refine sr_if_ne 64 (s4 h1 v1 m1 p1 h2 v2 m2 p2) (by decide) dX3_readSum_59 (fun h3 => ?_) (fun h3 => ?_)
      · have h3 : ¬ v2 = 0 := by omega
        refine st_aload_n (i := 0) rfl (t := 0) rfl (by decide) dX3_readSum_64 ?_
        refine st_iload_n (i := 3) rfl rfl dX3_readSum_65 ?_
        refine st_callV (kc2 := 0) (ks2 := 0) (av := [(0, v1)]) 8 3 mr_X3_34 ok_X3_write (c_X3_write m2 v1 ((s2 h1 v1 m1 p1)) ((s5 h1 v1 m1 p1 h2 v2 m2 p2 h3))) rfl sh_8 ⟨_, rfl, rfl, by decide⟩ rfl rfl hd1 (Nat.le_refl 0) (Nat.le_refl 0) (Nat.le_of_ble_eq_true rfl) dX3_readSum_66 (mQv.elim fun m3 hp => ?_)
        have hp := hp.symm
        subst hp
        refine st_iinc (y := (x2 + 1)) (by decide) (i := 2) rfl rfl (lc' := [(2, 8), (0, x1), (0, (x2 + 1)), (0, v1)]) rfl dX3_readSum_69 ?_
        refine st_goto 12 (by decide) dX3_readSum_72 ?_
        exact st_locals [(2, 8), (0, x1), (0, (x2 + 1)), (9, 0)] ⟨Or.inr rfl, Or.inr rfl, Or.inr rfl, Or.inl rfl, trivial⟩ (k1 h1 v1 m1 p1 h2 v2 m2 p2 h3)
      · have h3 : v2 = 0 := by omega
        refine st_iconst dX3_readSum_62 ?_
        exact st_zreturn rfl (by decide) dX3_readSum_63 (mQ.ret (q2 h1 v1 m1 p1 h2 v2 m2 p2 h3))
    · have h2 : ¬ v1 = 43 := by omega
      refine st_iload_n (i := 3) rfl rfl dX3_readSum_33 ?_
      refine st_bipush rfl dX3_readSum_34 ?_
      refine sr_icmp_eq 41 (s2 h1 v1 m1 p1) ⟨by decide, by decide⟩ (by decide) dX3_readSum_36 (fun h4 => ?_) (fun h4 => ?_)
      · have h4 : v1 = 45 := by omega
        refine st_aload_n (i := 0) rfl (t := 0) rfl (by decide) dX3_readSum_41 ?_
        refine so_getA 8 0 fr_X3_17_3 rfl sh_8 fx_8_0 dX3_readSum_42 ?_
        refine st_dup (Nat.ne_of_beq_eq_false rfl) dX3_readSum_45 ?_
        refine so_getI (v := (m1 1 2)) 1 2 fr_X3_21_9 rfl sh_1 rfl dX3_readSum_46 (fun r2 => ?_)
        refine st_iconst dX3_readSum_49 ?_
        refine st_iadd dX3_readSum_50 ?_
        refine so_putI 1 2 fr_X3_21_9 pf_9_2 fo_1_2 rfl sh_1 (s6 h1 v1 m1 p1 h2 h4) dX3_readSum_51 ?_
        refine st_aload_n (i := 0) rfl (t := 0) rfl (by decide) dX3_readSum_54 ?_
        refine st_iload_n (i := 1) rfl rfl dX3_readSum_55 ?_
        refine st_callV (kc2 := 0) (ks2 := 0) (av := [(0, x1)]) 8 3 mr_X3_69 ok_X3_readTerm (c3 h1 v1 m1 p1 h2 h4) rfl sh_8 ⟨_, rfl, rfl, by decide⟩ rfl rfl hd_d3 (Nat.le_refl 0) (Nat.le_refl 0) (Nat.le_of_ble_eq_true rfl) dX3_readSum_56 (mQ.elim fun v3 m4 p3 => ?_)
        refine sr_if_ne 64 (s7 h1 v1 m1 p1 h2 h4 v3 m4 p3) (by decide) dX3_readSum_59 (fun h5 => ?_) (fun h5 => ?_)
        · have h5 : ¬ v3 = 0 := by omega
          refine st_aload_n (i := 0) rfl (t := 0) rfl (by decide) dX3_readSum_64 ?_
          refine st_iload_n (i := 3) rfl rfl dX3_readSum_65 ?_
          refine st_callV (kc2 := 0) (ks2 := 0) (av := [(0, v1)]) 8 3 mr_X3_34 ok_X3_write (c_X3_write m4 v1 ((s2 h1 v1 m1 p1)) ((s8 h1 v1 m1 p1 h2 h4 v3 m4 p3 h5))) rfl sh_8 ⟨_, rfl, rfl, by decide⟩ rfl rfl hd1 (Nat.le_refl 0) (Nat.le_refl 0) (Nat.le_of_ble_eq_true rfl) dX3_readSum_66 (mQv.elim fun m5 hp => ?_)
          have hp := hp.symm
          subst hp
          refine st_iinc (y := (x2 + 1)) (by decide) (i := 2) rfl rfl (lc' := [(2, 8), (0, x1), (0, (x2 + 1)), (0, v1)]) rfl dX3_readSum_69 ?_
          refine st_goto 12 (by decide) dX3_readSum_72 ?_
          exact st_locals [(2, 8), (0, x1), (0, (x2 + 1)), (9, 0)] ⟨Or.inr rfl, Or.inr rfl, Or.inr rfl, Or.inl rfl, trivial⟩ (k2 h1 v1 m1 p1 h2 h4 v3 m4 p3 h5)
        · have h5 : v3 = 0 := by omega
          refine st_iconst dX3_readSum_62 ?_
          exact st_zreturn rfl (by decide) dX3_readSum_63 (mQ.ret (q3 h1 v1 m1 p1 h2 h4 v3 m4 p3 h5))
      · have h4 : ¬ v1 = 45 := by omega
        refine st_iconst dX3_readSum_39 ?_
        exact st_zreturn rfl (by decide) dX3_readSum_40 (mQ.ret (q4 h1 v1 m1 p1 h2 h4))
theorem rd_Sum (F : mmM → Int → PR) (x1 : Int) (dA : Nat) (hd : 2 ≤ dA) (hA : ∀ m, preX m → con 0 bX3_readTerm dA [(2, 8), (0, x1)] m (resX m (F m (m 1 2)))) (hF : ∀ mem m, lxFr mem m → F m = F mem) (hg : ∀ m, bytX m → goodP (m 1 1) (F m)) (mem : mmM) (hp : preX mem) : con 0 bX3_readSum (dA + 1) [(2, 8), (0, x1)] mem (resX mem (chainP (CX mem) (SX mem) opS (F mem) (mem 1 2))) := by
  have hb := hp.1
  have hn := hb.1
  have h0 := hp.2.1
  have hsz := hp.2.2
  have main : ∀ (k : Nat) (R : PR) (m : mmM) (i j : Int) (ts : List tokT), resX mem (.inr (j, ts)) 1 m → (mem 1 2 < j ∧ j ≤ mem 1 1 ∧ (ts.length : Int) ≤ j - mem 1 2) → mem 1 1 - j < k → (0 ≤ i ∧ i < j) → R = loopP (CX mem) (SX mem) opS (F mem) k j ts → mmT bX3_readSum (dA + 1) 0 0 (mQ 0 (resX mem R)) 12 [(2, 8), (0, x1), (0, i), (9, 0)] [] mS m := by
    intro k R
    induction k with
    | zero =>
      intro m i j ts _ _ h
      omega
    | succ k ih =>
      intro m i j ts hm hj hk hi hR
      obtain ⟨-, a2, a3, a4, -, -⟩ := id hm
      have eC := lxFr_C a2
      have eS := lxFr_S a2
      have hbm := lxFr_B a2 hb
      have ge := SX_ge mem j
      have le := SX_le (mem := mem) (j := j) hj.2.1
      have rg := CX_rng hb (SX mem j)
      have sg := sign_m m hbm (by omega)
      rw [eC, eS, a3] at sg
      have rest : ∀ op, opS (CX mem (SX mem j)) = some op → con 0 bX3_readTerm dA [(2, 8), (0, x1)] (cuX m (SX mem j + 1)) (resX (cuX m (SX mem j + 1)) (F mem (SX mem j + 1))) := by
        intro op ho
        have lt := CX_lt (mem := mem) (j := SX mem j) (opS_pos ho).1
        have := hA (cuX m (SX mem j + 1)) ⟨bytX_cu hbm _, by rw [cuX_at, cuX_1, lxFr_1 a2]; omega, by rw [cuX_at, cuX_ne _ _ (by decide), a4]; omega⟩
        rw [cuX_at, hF mem _ (lxFr_trans a2 (lxFr_cu m _))] at this
        exact this
      have bad : ∀ op v m', opS (CX mem (SX mem j)) = some op → resX (cuX m (SX mem j + 1)) (F mem (SX mem j + 1)) v m' → v = 0 → resX mem R 0 m' := by
        intro op v m' ho w g
        obtain ⟨f, e, w1, w2⟩ := resX_no w g
        rw [hR, loopP_bad ho e]
        exact ⟨rfl, lxFr_trans (lxFr_trans a2 (lxFr_cu m _)) w1, w2⟩
      have good : ∀ op v m', opS (CX mem (SX mem j)) = some op → resX (cuX m (SX mem j + 1)) (F mem (SX mem j + 1)) v m' → ¬ v = 0 → (0 ≤ m' 8 2 ∧ m' 8 2 < 160) ∧ mmT bX3_readSum (dA + 1) 0 0 (mQ 0 (resX mem R)) 12 [(2, 8), (0, x1), (0, i + 1), (9, 0)] [] mS (wrX m' (CX mem (SX mem j))) := by
        intro op v m' ho w g
        obtain ⟨q, us, e, w1⟩ := resX_yes w g
        have lt := CX_lt (mem := mem) (j := SX mem j) (opS_pos ho).1
        have gd := (hg mem hb (SX mem j + 1) (by omega) (by omega)).2 q us e
        have w2 := resX_app (resX_cu hm (SX mem j + 1)) w1
        have w3 := resX_wr (t := (op, 0)) w2
        rw [encS ho] at w3
        have e8 := w2.2.2.2.1
        rw [List.length_append] at e8
        refine ⟨by omega, ?_⟩
        refine ih _ (i + 1) q (ts ++ us ++ [(op, 0)]) w3 ?_ (by omega) (by omega) (by rw [hR]; exact loopP_yes ho e)
        rw [List.length_append, List.length_append, List.length_singleton]
        omega
      have o1 : CX mem (SX mem j) = 43 → opS (CX mem (SX mem j)) = some 2 := fun z => by rw [z]; rfl
      have o2 : CX mem (SX mem j) = 45 → opS (CX mem (SX mem j)) = some 3 := fun z => by rw [z]; rfl
      have o3 : ¬ CX mem (SX mem j) = 43 → ¬ CX mem (SX mem j) = 45 → opS (CX mem (SX mem j)) = none := fun z z2 => by
        unfold opS
        rw [if_neg z, if_neg z2]
      refine bk_X3_readSum_12 (d1 := 2) (d2 := dA) (d3 := dA) (P1 := fun v m' => v = CX mem (SX mem j) ∧ m' = cuX m (SX mem j)) (P2 := fun v m' => CX mem (SX mem j) = 43 ∧ resX (cuX m (SX mem j + 1)) (F mem (SX mem j + 1)) v m') (P3 := fun v m' => CX mem (SX mem j) = 45 ∧ resX (cuX m (SX mem j + 1)) (F mem (SX mem j + 1)) v m') (fun _ => sg) ?_ ?_ ?_ ?_ (fun g => absurd g (by omega)) ?_ ?_ ?_ (s1 := ⟨by omega, by omega⟩) (s2 := ?_) (s3 := ?_) (s4 := ?_) (s5 := ?_) (s6 := ?_) (s7 := ?_) (s8 := ?_)
      · rintro _ v m' ⟨rfl, rfl⟩ g
        rw [cuX_at, cuX_cu]
        exact con.mono (rest 2 (o1 g)) (fun v m' w => ⟨g, w⟩)
      · rintro _ v m' ⟨rfl, rfl⟩ _ g
        rw [cuX_at, cuX_cu]
        exact con.mono (rest 3 (o2 g)) (fun v m' w => ⟨g, w⟩)
      · rintro _ v m' ⟨rfl, rfl⟩ g v2 m2 ⟨z, w⟩ g2
        exact (good 2 v2 m2 (o1 z) w g2).2
      · rintro _ v m' ⟨rfl, rfl⟩ _ g v2 m2 ⟨z, w⟩ g2
        exact (good 3 v2 m2 (o2 z) w g2).2
      · rintro _ v m' ⟨rfl, rfl⟩ g v2 m2 ⟨z, w⟩ g2
        exact bad 2 v2 m2 (o1 z) w g2
      · rintro _ v m' ⟨rfl, rfl⟩ _ g v2 m2 ⟨z, w⟩ g2
        exact bad 3 v2 m2 (o2 z) w g2
      · rintro _ v m' ⟨rfl, rfl⟩ g g2
        rw [hR, loopP_no (o3 g g2)]
        exact resX_cu hm _
      · rintro _ v m' ⟨rfl, rfl⟩
        exact ⟨by omega, by omega⟩
      · rintro _ v m' ⟨rfl, rfl⟩ g
        rw [cuX_at]
        exact ⟨by omega, by omega⟩
      · rintro _ v m' ⟨rfl, rfl⟩ g v2 m2 ⟨z, w⟩
        exact resX_R w
      · rintro _ v m' ⟨rfl, rfl⟩ g v2 m2 ⟨z, w⟩ g2
        exact (good 2 v2 m2 (o1 z) w g2).1
      · rintro _ v m' ⟨rfl, rfl⟩ _ g
        rw [cuX_at]
        exact ⟨by omega, by omega⟩
      · rintro _ v m' ⟨rfl, rfl⟩ _ g v2 m2 ⟨z, w⟩
        exact resX_R w
      · rintro _ v m' ⟨rfl, rfl⟩ _ g v2 m2 ⟨z, w⟩ g2
        exact (good 3 v2 m2 (o2 z) w g2).1
  refine cn_X3_readSum (bk_X3_readSum_0 (d1 := dA) (P1 := resX mem (F mem (mem 1 2))) (hA mem hp) (fun v m w g => ?_) (fun v m w g => ?_) (s1 := fun v m w => resX_R w))
  · obtain ⟨q, ts, e, w1⟩ := resX_yes w g
    have gd := (hg mem hb (mem 1 2) h0.1 h0.2).2 q ts e
    exact main 200 _ m 0 q ts w1 ⟨by omega, by omega, by omega⟩ (by omega) (by omega) (chainP_yes e)
  · obtain ⟨f, e, w1, w2⟩ := resX_no w g
    rw [chainP_bad e]
    exact ⟨rfl, w1, w2⟩
theorem cn_X3_readAtom {d : Nat} {P : Int → mmM → Prop} {mem : mmM} {x1 : Int} (h : mmT bX3_readAtom d 0 0 (mQ 0 P) 0 [(2, 8), (0, x1), (9, 0), (9, 0)] [] mS mem) : con 0 bX3_readAtom d [(2, 8), (0, x1)] mem P := mmC_of [(2, 8), (0, x1), (9, 0), (9, 0)] ok_X3_readAtom.2.2.2.2 rfl (Nat.le_of_ble_eq_true rfl) h
theorem bk_X3_readAtom_0 {d : Nat} {d1 : Nat} {P1 : Int → mmM → Prop} {d2 : Nat} {P2 : Int → mmM → Prop} {d3 : Nat} {P3 : Int → mmM → Prop} {d4 : Nat} {P4 : Int → mmM → Prop} {P : Int → mmM → Prop} {mem : mmM} {x1 : Int}
  (c1 : con 0 bX9_sign d1 [(2, 1)] mem P1)
  (c2 : ∀ (v1 : Int), ∀ (m1 : mmM), P1 v1 m1 → ¬ (isLet v1) → ¬ v1 = 91 → con 0 bX9_number d2 [(2, 1), (0, 4)] m1 P2)
  (c3 : ∀ (v1 : Int), ∀ (m1 : mmM), P1 v1 m1 → ¬ (isLet v1) → v1 = 91 → x1 < 6 → con 0 bX3_readSum d3 [(2, 8), (0, (x1 + 1))] (mset m1 1 2 ((m1 1 2) + 1)) P3)
  (c4 : ∀ (v1 : Int), ∀ (m1 : mmM), P1 v1 m1 → ¬ (isLet v1) → v1 = 91 → x1 < 6 → ∀ (v4 : Int), ∀ (m5 : mmM), P3 v4 m5 → ¬ v4 = 0 → con 0 bX9_takes d4 [(2, 1), (0, 93)] m5 P4)
  (q1 : ∀ (v1 : Int), ∀ (m1 : mmM), P1 v1 m1 → ¬ (isLet v1) → ¬ v1 = 91 → ∀ (v3 : Int), ∀ (m3 : mmM), P2 v3 m3 → ¬ v3 = (-1) → P 1 (wrX m3 (1000 + v3)))
  (q2 : ∀ (v1 : Int), ∀ (m1 : mmM), P1 v1 m1 → ¬ (isLet v1) → ¬ v1 = 91 → ∀ (v3 : Int), ∀ (m3 : mmM), P2 v3 m3 → v3 = (-1) → P 0 m3)
  (q3 : ∀ (v1 : Int), ∀ (m1 : mmM), P1 v1 m1 → ¬ (isLet v1) → v1 = 91 → x1 < 6 → ∀ (v4 : Int), ∀ (m5 : mmM), P3 v4 m5 → v4 = 0 → P 0 m5)
  (q4 : ∀ (v1 : Int), ∀ (m1 : mmM), P1 v1 m1 → ¬ (isLet v1) → v1 = 91 → x1 < 6 → ∀ (v4 : Int), ∀ (m5 : mmM), P3 v4 m5 → ¬ v4 = 0 → ∀ (v5 : Int), ∀ (m6 : mmM), P4 v5 m6 → v5 = 0 → P 0 m6)
  (q5 : ∀ (v1 : Int), ∀ (m1 : mmM), P1 v1 m1 → ¬ (isLet v1) → v1 = 91 → x1 < 6 → ∀ (v4 : Int), ∀ (m5 : mmM), P3 v4 m5 → ¬ v4 = 0 → ∀ (v5 : Int), ∀ (m6 : mmM), P4 v5 m6 → ¬ v5 = 0 → P 1 m6)
  (q6 : ∀ (v1 : Int), ∀ (m1 : mmM), P1 v1 m1 → ¬ (isLet v1) → v1 = 91 → 6 ≤ x1 → P 0 m1)
  (q7 : ∀ (v1 : Int), ∀ (m1 : mmM), P1 v1 m1 → (isLet v1) → P 1 (wrX (mset m1 1 2 ((m1 1 2) + 1)) v1))
  (hd_d1 : d1 + 1 ≤ d := by omega)
  (hd_d2 : d2 + 1 ≤ d := by omega)
  (hd_d3 : d3 + 1 ≤ d := by omega)
  (hd_d4 : d4 + 1 ≤ d := by omega)
  (hd1 : 1 ≤ d := by omega)
  (hd2 : 2 ≤ d := by omega)
  (s1 : ∀ (v1 : Int), ∀ (m1 : mmM), P1 v1 m1 → R32 v1 := by intros; first | omega | assumption | solve_by_elim)
  (s2 : ∀ (v1 : Int), ∀ (m1 : mmM), P1 v1 m1 → ¬ (isLet v1) → ¬ v1 = 91 → ∀ (v3 : Int), ∀ (m3 : mmM), P2 v3 m3 → R32 v3 := by intros; first | omega | assumption | solve_by_elim)
  (s3 : ∀ (v1 : Int), ∀ (m1 : mmM), P1 v1 m1 → ¬ (isLet v1) → ¬ v1 = 91 → ∀ (v3 : Int), ∀ (m3 : mmM), P2 v3 m3 → ¬ v3 = (-1) → R32 (1000 + v3) := by intros; first | omega | assumption | solve_by_elim)
  (s4 : ∀ (v1 : Int), ∀ (m1 : mmM), P1 v1 m1 → ¬ (isLet v1) → ¬ v1 = 91 → ∀ (v3 : Int), ∀ (m3 : mmM), P2 v3 m3 → ¬ v3 = (-1) → 0 ≤ (m3 8 2) ∧ (m3 8 2) < 160 := by intros; first | omega | assumption | solve_by_elim)
  (s5 : ∀ (v1 : Int), ∀ (m1 : mmM), P1 v1 m1 → ¬ (isLet v1) → v1 = 91 → R32 x1 := by intros; first | omega | assumption | solve_by_elim)
  (s6 : ∀ (v1 : Int), ∀ (m1 : mmM), P1 v1 m1 → ¬ (isLet v1) → v1 = 91 → x1 < 6 → R32 ((m1 1 2) + 1) := by intros; first | omega | assumption | solve_by_elim)
  (s7 : ∀ (v1 : Int), ∀ (m1 : mmM), P1 v1 m1 → ¬ (isLet v1) → v1 = 91 → x1 < 6 → ∀ (v4 : Int), ∀ (m5 : mmM), P3 v4 m5 → R32 v4 := by intros; first | omega | assumption | solve_by_elim)
  (s8 : ∀ (v1 : Int), ∀ (m1 : mmM), P1 v1 m1 → ¬ (isLet v1) → v1 = 91 → x1 < 6 → ∀ (v4 : Int), ∀ (m5 : mmM), P3 v4 m5 → ¬ v4 = 0 → ∀ (v5 : Int), ∀ (m6 : mmM), P4 v5 m6 → R32 v5 := by intros; first | omega | assumption | solve_by_elim)
  (s9 : ∀ (v1 : Int), ∀ (m1 : mmM), P1 v1 m1 → (isLet v1) → R32 ((m1 1 2) + 1) := by intros; first | omega | assumption | solve_by_elim)
  (s10 : ∀ (v1 : Int), ∀ (m1 : mmM), P1 v1 m1 → (isLet v1) → 0 ≤ ((mset m1 1 2 ((m1 1 2) + 1)) 8 2) ∧ ((mset m1 1 2 ((m1 1 2) + 1)) 8 2) < 160 := by intros; first | omega | assumption | solve_by_elim)
  : mmT bX3_readAtom d 0 0 (mQ 0 P) 0 [(2, 8), (0, x1), (9, 0), (9, 0)] [] mS mem := by
  refine st_aload_n (i := 0) rfl (t := 0) rfl (by decide) dX3_readAtom_0 ?_
  refine so_getA 8 0 fr_X3_17_3 rfl sh_8 fx_8_0 dX3_readAtom_1 ?_
  refine st_callV (kc2 := 0) (ks2 := 0) (av := []) 1 9 mr_X3_42 ok_X9_sign c1 rfl sh_1 ⟨_, rfl, rfl, by decide⟩ rfl rfl hd_d1 (Nat.le_refl 0) (Nat.le_refl 0) (Nat.le_of_ble_eq_true rfl) dX3_readAtom_4 (mQ.elim fun v1 m1 p1 => ?_)
  refine st_istore_n (i := 2) rfl (by decide) (lc' := [(2, 8), (0, x1), (0, v1), (9, 0)]) rfl dX3_readAtom_7 ?_
  refine st_iload_n (i := 2) rfl rfl dX3_readAtom_8 ?_
  refine st_callS (kc2 := 0) (ks2 := 0) (av := [(0, v1)]) mr_X3_75 ok_X2_isLetter (c_X2_isLetter m1 v1 ((s1 v1 m1 p1))) rfl rfl hd2 (Nat.le_refl 0) (Nat.le_refl 0) (Nat.le_of_ble_eq_true rfl) dX3_readAtom_9 (mQ.elim fun v2 m2 hp => ?_)
  obtain ⟨hpv, hpm⟩ := hp
  subst hpv
  have hpm := hpm.symm
  subst hpm
  refine so_ifeqB 35 (by decide) dX3_readAtom_12 (fun h1 => ?_) (fun h1 => ?_)
  · have h1 : ¬ (isLet v1) := h1
    refine st_iload_n (i := 2) rfl rfl dX3_readAtom_35 ?_
    refine st_bipush rfl dX3_readAtom_36 ?_
    refine sr_icmp_ne 90 (s1 v1 m1 p1) ⟨by decide, by decide⟩ (by decide) dX3_readAtom_38 (fun h2 => ?_) (fun h2 => ?_)
    · have h2 : ¬ v1 = 91 := by omega
      refine st_aload_n (i := 0) rfl (t := 0) rfl (by decide) dX3_readAtom_90 ?_
      refine so_getA 8 0 fr_X3_17_3 rfl sh_8 fx_8_0 dX3_readAtom_91 ?_
      refine st_iconst dX3_readAtom_94 ?_
      refine st_callV (kc2 := 0) (ks2 := 0) (av := [(0, 4)]) 1 9 mr_X3_78 ok_X9_number (c2 v1 m1 p1 h1 h2) rfl sh_1 ⟨_, rfl, rfl, by decide⟩ rfl rfl hd_d2 (Nat.le_refl 0) (Nat.le_refl 0) (Nat.le_of_ble_eq_true rfl) dX3_readAtom_95 (mQ.elim fun v3 m3 p2 => ?_)
      refine st_istore_n (i := 3) rfl (by decide) (lc' := [(2, 8), (0, x1), (0, v1), (0, v3)]) rfl dX3_readAtom_98 ?_
      refine st_iload_n (i := 3) rfl rfl dX3_readAtom_99 ?_
      refine st_iconst dX3_readAtom_100 ?_
      refine sr_icmp_ne 106 (s2 v1 m1 p1 h1 h2 v3 m3 p2) ⟨by decide, by decide⟩ (by decide) dX3_readAtom_101 (fun h3 => ?_) (fun h3 => ?_)
      · have h3 : ¬ v3 = (-1) := by omega
        refine st_aload_n (i := 0) rfl (t := 0) rfl (by decide) dX3_readAtom_106 ?_
        refine st_sipush rfl dX3_readAtom_107 ?_
        refine st_iload_n (i := 3) rfl rfl dX3_readAtom_110 ?_
        refine st_iadd dX3_readAtom_111 ?_
        refine st_callV (kc2 := 0) (ks2 := 0) (av := [(0, (1000 + v3))]) 8 3 mr_X3_34 ok_X3_write (c_X3_write m3 (1000 + v3) ((s3 v1 m1 p1 h1 h2 v3 m3 p2 h3)) ((s4 v1 m1 p1 h1 h2 v3 m3 p2 h3))) rfl sh_8 ⟨_, rfl, rfl, by decide⟩ rfl rfl hd1 (Nat.le_refl 0) (Nat.le_refl 0) (Nat.le_of_ble_eq_true rfl) dX3_readAtom_112 (mQv.elim fun m4 hp => ?_)
        have hp := hp.symm
        subst hp
        refine st_iconst dX3_readAtom_115 ?_
        exact st_zreturn rfl (by decide) dX3_readAtom_116 (mQ.ret (q1 v1 m1 p1 h1 h2 v3 m3 p2 h3))
      · have h3 : v3 = (-1) := by omega
        refine st_iconst dX3_readAtom_104 ?_
        exact st_zreturn rfl (by decide) dX3_readAtom_105 (mQ.ret (q2 v1 m1 p1 h1 h2 v3 m3 p2 h3))
    · have h2 : v1 = 91 := by omega
      refine st_iload_n (i := 1) rfl rfl dX3_readAtom_41 ?_
      refine st_bipush rfl dX3_readAtom_42 ?_
      refine sr_icmp_lt 49 (s5 v1 m1 p1 h1 h2) ⟨by decide, by decide⟩ (by decide) dX3_readAtom_44 (fun h4 => ?_) (fun h4 => ?_)
      · have h4 : x1 < 6 := by omega
        refine st_aload_n (i := 0) rfl (t := 0) rfl (by decide) dX3_readAtom_49 ?_
        refine so_getA 8 0 fr_X3_17_3 rfl sh_8 fx_8_0 dX3_readAtom_50 ?_
        refine st_dup (Nat.ne_of_beq_eq_false rfl) dX3_readAtom_53 ?_
        refine so_getI (v := (m1 1 2)) 1 2 fr_X3_21_9 rfl sh_1 rfl dX3_readAtom_54 (fun r1 => ?_)
        refine st_iconst dX3_readAtom_57 ?_
        refine st_iadd dX3_readAtom_58 ?_
        refine so_putI 1 2 fr_X3_21_9 pf_9_2 fo_1_2 rfl sh_1 (s6 v1 m1 p1 h1 h2 h4) dX3_readAtom_59 ?_
        refine st_aload_n (i := 0) rfl (t := 0) rfl (by decide) dX3_readAtom_62 ?_
        refine st_iload_n (i := 1) rfl rfl dX3_readAtom_63 ?_
        refine st_iconst dX3_readAtom_64 ?_
        refine st_iadd dX3_readAtom_65 ?_
        refine st_callV (kc2 := 0) (ks2 := 0) (av := [(0, (x1 + 1))]) 8 3 mr_X3_46 ok_X3_readSum (c3 v1 m1 p1 h1 h2 h4) rfl sh_8 ⟨_, rfl, rfl, by decide⟩ rfl rfl hd_d3 (Nat.le_refl 0) (Nat.le_refl 0) (Nat.le_of_ble_eq_true rfl) dX3_readAtom_66 (mQ.elim fun v4 m5 p3 => ?_)
        refine sr_if_eq 88 (s7 v1 m1 p1 h1 h2 h4 v4 m5 p3) (by decide) dX3_readAtom_69 (fun h5 => ?_) (fun h5 => ?_)
        · have h5 : v4 = 0 := by omega
          refine st_iconst dX3_readAtom_88 ?_
          exact st_zreturn rfl (by decide) dX3_readAtom_89 (mQ.ret (q3 v1 m1 p1 h1 h2 h4 v4 m5 p3 h5))
        · have h5 : ¬ v4 = 0 := by omega
          refine st_aload_n (i := 0) rfl (t := 0) rfl (by decide) dX3_readAtom_72 ?_
          refine so_getA 8 0 fr_X3_17_3 rfl sh_8 fx_8_0 dX3_readAtom_73 ?_
          refine st_bipush rfl dX3_readAtom_76 ?_
          refine st_callV (kc2 := 0) (ks2 := 0) (av := [(0, 93)]) 1 9 mr_X3_38 ok_X9_takes (c4 v1 m1 p1 h1 h2 h4 v4 m5 p3 h5) rfl sh_1 ⟨_, rfl, rfl, by decide⟩ rfl rfl hd_d4 (Nat.le_refl 0) (Nat.le_refl 0) (Nat.le_of_ble_eq_true rfl) dX3_readAtom_78 (mQ.elim fun v5 m6 p4 => ?_)
          refine sr_if_eq 88 (s8 v1 m1 p1 h1 h2 h4 v4 m5 p3 h5 v5 m6 p4) (by decide) dX3_readAtom_81 (fun h6 => ?_) (fun h6 => ?_)
          · have h6 : v5 = 0 := by omega
            refine st_iconst dX3_readAtom_88 ?_
            exact st_zreturn rfl (by decide) dX3_readAtom_89 (mQ.ret (q4 v1 m1 p1 h1 h2 h4 v4 m5 p3 h5 v5 m6 p4 h6))
          · have h6 : ¬ v5 = 0 := by omega
            refine st_iconst dX3_readAtom_84 ?_
            refine st_goto 89 (by decide) dX3_readAtom_85 ?_
            exact st_zreturn rfl (by decide) dX3_readAtom_89 (mQ.ret (q5 v1 m1 p1 h1 h2 h4 v4 m5 p3 h5 v5 m6 p4 h6))
      · have h4 : 6 ≤ x1 := by omega
        refine st_iconst dX3_readAtom_47 ?_
        exact st_zreturn rfl (by decide) dX3_readAtom_48 (mQ.ret (q6 v1 m1 p1 h1 h2 h4))
  · have h1 : (isLet v1) := h1
    refine st_aload_n (i := 0) rfl (t := 0) rfl (by decide) dX3_readAtom_15 ?_
    refine so_getA 8 0 fr_X3_17_3 rfl sh_8 fx_8_0 dX3_readAtom_16 ?_
    refine st_dup (Nat.ne_of_beq_eq_false rfl) dX3_readAtom_19 ?_
    refine so_getI (v := (m1 1 2)) 1 2 fr_X3_21_9 rfl sh_1 rfl dX3_readAtom_20 (fun r2 => ?_)
    refine st_iconst dX3_readAtom_23 ?_
    refine st_iadd dX3_readAtom_24 ?_
    refine so_putI 1 2 fr_X3_21_9 pf_9_2 fo_1_2 rfl sh_1 (s9 v1 m1 p1 h1) dX3_readAtom_25 ?_
    refine st_aload_n (i := 0) rfl (t := 0) rfl (by decide) dX3_readAtom_28 ?_
    refine st_iload_n (i := 2) rfl rfl dX3_readAtom_29 ?_
    refine st_callV (kc2 := 0) (ks2 := 0) (av := [(0, v1)]) 8 3 mr_X3_34 ok_X3_write (c_X3_write (mset m1 1 2 ((m1 1 2) + 1)) v1 ((s1 v1 m1 p1)) ((s10 v1 m1 p1 h1))) rfl sh_8 ⟨_, rfl, rfl, by decide⟩ rfl rfl hd1 (Nat.le_refl 0) (Nat.le_refl 0) (Nat.le_of_ble_eq_true rfl) dX3_readAtom_30 (mQv.elim fun m7 hp => ?_)
    have hp := hp.symm
    subst hp
    refine st_iconst dX3_readAtom_33 ?_
    exact st_zreturn rfl (by decide) dX3_readAtom_34 (mQ.ret (q7 v1 m1 p1 h1))
theorem isLet_dec (c : Int) : isLet c ∨ ¬ isLet c := Decidable.em _
theorem rd_Atom (r : Nat) (x1 : Int) (hx : x1 + r = 6) (hx0 : 0 ≤ x1) (dS : Nat) (hd : 3 ≤ dS) (hS : ∀ r', r = r' + 1 → ∀ m, preX m → con 0 bX3_readSum dS [(2, 8), (0, x1 + 1)] m (resX m (sumL (CX m) (SX m) r' (m 1 2)))) (mem : mmM) (hp : preX mem) : con 0 bX3_readAtom (dS + 1) [(2, 8), (0, x1)] mem (resX mem (atomP (CX mem) (SX mem) (nestS (CX mem) (SX mem) r) (mem 1 2))) := by
  have hb := hp.1
  have hn := hb.1
  have h0 := hp.2.1
  have hsz := hp.2.2
  obtain ⟨p, hpp⟩ : ∃ p, SX mem (mem 1 2) = p := ⟨_, rfl⟩
  have ge := SX_ge mem (mem 1 2)
  have le := SX_le (mem := mem) (j := mem 1 2) h0.2
  have sg := sign_m mem hb h0.1
  rw [hpp] at ge le sg
  have rg := CX_rng hb p
  have lt : ∀ z, 0 < CX mem z → z < mem 1 1 := fun z h => CX_lt h
  have nb := numS_bnd (C := CX mem) (n := mem 1 1) (fun i h => lt i h) 4 p le
  have nt := num4_top (CX mem) p
  have na := numS_adv (C := CX mem) (k := 3) (j := p)
  obtain ⟨nm, hnm⟩ : ∃ nm, numS (CX mem) 4 p = nm := ⟨_, rfl⟩
  rw [hnm] at nb nt na
  obtain ⟨R, hR⟩ : ∃ R, atomP (CX mem) (SX mem) (nestS (CX mem) (SX mem) r) (mem 1 2) = R := ⟨_, rfl⟩
  have eR : R = if isLet (CX mem p) then .inr (p + 1, [(1, letS (CX mem p))]) else if CX mem p = 91 then (match nestS (CX mem) (SX mem) r with
    | none => .inl p
    | some f => closeP (CX mem) (SX mem) 93 (f (p + 1))) else if nm.1 = -1 then .inl nm.2 else .inr (nm.2, [(0, nm.1)]) := by
    rw [← hR]
    unfold atomP
    rw [hpp, hnm]
    rfl
  rw [hR]
  have sub : x1 < 6 → CX mem p = 91 → ∃ r', r = r' + 1 ∧ con 0 bX3_readSum dS [(2, 8), (0, x1 + 1)] (cuX mem (p + 1)) (resX (cuX mem (p + 1)) (sumL (CX mem) (SX mem) r' (p + 1))) := by
    intro h6 z
    have l := lt p (by omega)
    refine ⟨r - 1, by omega, ?_⟩
    have := hS (r - 1) (by omega) (cuX mem (p + 1)) ⟨bytX_cu hb _, by rw [cuX_at, cuX_1]; omega, by rw [cuX_at, cuX_ne _ _ (by decide)]; omega⟩
    rw [CX_cu, SX_cu, cuX_at] at this
    exact this
  refine cn_X3_readAtom (bk_X3_readAtom_0 (d1 := 2) (d2 := 2) (d3 := dS) (d4 := 3) (P1 := fun v m => v = CX mem p ∧ m = cuX mem p) (P2 := fun v m => v = nm.1 ∧ m = cuX mem nm.2)
    (P3 := fun v m => ∃ r', r = r' + 1 ∧ CX mem p = 91 ∧ resX (cuX mem (p + 1)) (sumL (CX mem) (SX mem) r' (p + 1)) v m)
    (P4 := fun v m => ∃ r' q ts, r = r' + 1 ∧ CX mem p = 91 ∧ sumL (CX mem) (SX mem) r' (p + 1) = .inr (q, ts) ∧ ((CX mem (SX mem q) = 93 ∧ v = 1 ∧ resX mem (.inr (SX mem q + 1, ts)) 1 m) ∨ (¬ CX mem (SX mem q) = 93 ∧ v = 0 ∧ lxFr mem m ∧ m 1 2 = SX mem q)))
    sg ?_ ?_ ?_ ?_ ?_ ?_ ?_ ?_ ?_ ?_ (s1 := ?_) (s2 := ?_) (s3 := ?_) (s4 := ?_) (s5 := ?_) (s6 := ?_) (s7 := ?_) (s8 := ?_) (s9 := ?_) (s10 := ?_))
  · rintro v m ⟨rfl, rfl⟩ _ _
    have := s_number mem hb (j := p) (k := 4) (by omega) le ⟨by omega, by omega⟩
    rw [hnm] at this
    exact this
  · rintro v m ⟨rfl, rfl⟩ _ g g2
    rw [cuX_at, cuX_cu]
    obtain ⟨r', e, c⟩ := sub g2 g
    exact con.mono c (fun v m w => ⟨r', e, g, w⟩)
  · rintro v m ⟨rfl, rfl⟩ _ g g2 v4 m4 ⟨r', e, z, w⟩ g4
    obtain ⟨q, ts, e2, w2⟩ := resX_yes w g4
    have l := lt p (by omega)
    have gd := (good_sum (tapX_P mem) r' (p + 1) (by omega) (by omega)).2 q ts e2
    have fr := w2.2.1
    have hbm := lxFr_B fr (bytX_cu hb _)
    have e12 := w2.2.2.1
    have tk := s_takes' m4 hbm (x := 93) (by omega) (by rw [lxFr_1 fr, cuX_1]; omega) ⟨by decide, by decide⟩
    rw [lxFr_C fr, lxFr_S fr, CX_cu, SX_cu, e12] at tk
    have w3 : resX mem (.inr (q, ts)) 1 m4 := resX_app (resX_cu (resX_nil mem) (p + 1)) w2
    refine con.mono tk (fun v m t => ⟨r', q, ts, e, z, e2, ?_⟩)
    rcases t with ⟨t1, t2, rfl⟩ | ⟨t1, t2, rfl⟩
    · exact Or.inl ⟨t1, t2, resX_cu w3 _⟩
    · exact Or.inr ⟨t1, t2, (resX_cu w3 (SX mem q)).2.1, cuX_at _ _⟩
  · rintro v m ⟨rfl, rfl⟩ g g2 v3 m3 ⟨rfl, rfl⟩ g3
    rw [eR, if_neg g, if_neg g2, if_neg g3, show 1000 + nm.1 = encX (0, nm.1) by show _ = nm.1 + 1000; omega]
    exact resX_wr (ts := []) (resX_cu (resX_nil mem) nm.2)
  · rintro v m ⟨rfl, rfl⟩ g g2 v3 m3 ⟨rfl, rfl⟩ g3
    rw [eR, if_neg g, if_neg g2, if_pos g3]
    exact ⟨rfl, lxFr_cu mem _, cuX_at _ _⟩
  · rintro v m ⟨rfl, rfl⟩ g g2 g3 v4 m4 ⟨r', e, z, w⟩ g4
    obtain ⟨f, e2, w1, w2⟩ := resX_no w g4
    subst e
    rw [eR, if_neg g, if_pos g2]
    show resX mem (closeP _ _ 93 (sumL (CX mem) (SX mem) r' (p + 1))) 0 m4
    rw [e2]
    exact ⟨rfl, lxFr_trans (lxFr_cu mem _) w1, w2⟩
  · rintro v m ⟨rfl, rfl⟩ g g2 g3 v4 m4 _ g4 v5 m5 ⟨r', q, ts, e, z, e2, w⟩ g5
    subst e
    rw [eR, if_neg g, if_pos g2]
    show resX mem (closeP _ _ 93 (sumL (CX mem) (SX mem) r' (p + 1))) 0 m5
    rw [e2]
    rcases w with ⟨w1, w2, w3⟩ | ⟨w1, w2, w3, w4⟩
    · exact absurd (w2.symm.trans g5) (by decide)
    · show resX mem (if CX mem (SX mem q) = 93 then _ else _) 0 m5
      rw [if_neg w1]
      exact ⟨rfl, w3, w4⟩
  · rintro v m ⟨rfl, rfl⟩ g g2 g3 v4 m4 _ g4 v5 m5 ⟨r', q, ts, e, z, e2, w⟩ g5
    subst e
    rw [eR, if_neg g, if_pos g2]
    show resX mem (closeP _ _ 93 (sumL (CX mem) (SX mem) r' (p + 1))) 1 m5
    rw [e2]
    rcases w with ⟨w1, w2, w3⟩ | ⟨w1, w2, w3, w4⟩
    · show resX mem (if CX mem (SX mem q) = 93 then _ else _) 1 m5
      rw [if_pos w1]
      exact w3
    · exact absurd w2 g5
  · rintro v m ⟨rfl, rfl⟩ g g2 g3
    have r0 : r = 0 := by omega
    subst r0
    rw [eR, if_neg g, if_pos g2]
    exact ⟨rfl, lxFr_cu mem _, cuX_at _ _⟩
  · rintro v m ⟨rfl, rfl⟩ g
    rw [eR, if_pos g, cuX_at, cuX_cu]
    have := resX_wr (ts := []) (t := (1, letS (CX mem p))) (resX_cu (resX_nil mem) (p + 1))
    have e : encX (1, letS (CX mem p)) = CX mem p := (leF_letS g).1
    rw [e] at this
    exact this
  · rintro v m ⟨rfl, rfl⟩
    exact ⟨by omega, by omega⟩
  · rintro v m ⟨rfl, rfl⟩ _ _ v3 m3 ⟨rfl, rfl⟩
    exact ⟨by omega, by omega⟩
  · rintro v m ⟨rfl, rfl⟩ _ _ v3 m3 ⟨rfl, rfl⟩ _
    exact ⟨by omega, by omega⟩
  · rintro v m ⟨rfl, rfl⟩ _ _ v3 m3 ⟨rfl, rfl⟩ g3
    have : p < nm.2 := na g3
    rw [cuX_ne _ _ (by decide)]
    omega
  · rintro v m ⟨rfl, rfl⟩ _ _
    exact ⟨by omega, by omega⟩
  · rintro v m ⟨rfl, rfl⟩ _ _ _
    rw [cuX_at]
    exact ⟨by omega, by omega⟩
  · rintro v m ⟨rfl, rfl⟩ _ _ _ v4 m4 ⟨r', e, z, w⟩
    exact resX_R w
  · rintro v m ⟨rfl, rfl⟩ _ _ _ v4 m4 _ _ v5 m5 ⟨r', q, ts, e, z, e2, w⟩
    rcases w with ⟨w1, rfl, w3⟩ | ⟨w1, rfl, w3, w4⟩ <;> exact ⟨by decide, by decide⟩
  · rintro v m ⟨rfl, rfl⟩ _
    rw [cuX_at]
    exact ⟨by omega, by omega⟩
  · rintro v m ⟨rfl, rfl⟩ g
    have l := lt p (isLet_pos g)
    rw [mset_ne (by decide), cuX_ne _ _ (by decide)]
    omega
theorem nestS_of {mem m : mmM} (h : lxFr mem m) (r : Nat) : nestS (CX m) (SX m) r = nestS (CX mem) (SX mem) r := by rw [lxFr_C h, lxFr_S h]
theorem good_nest (mem : mmM) (r : Nat) : ∀ f, nestS (CX mem) (SX mem) r = some f → goodP (mem 1 1) f := by
  intro f h
  cases r with
  | zero => cases h
  | succ r =>
    cases h
    exact good_sum (tapX_P mem) r
theorem c_X3_readSum : ∀ (r : Nat), r ≤ 6 → ∀ (mem : mmM), preX mem → con 0 bX3_readSum (3 * r + 6) [(2, 8), (0, 6 - (r : Int))] mem (resX mem (sumL (CX mem) (SX mem) r (mem 1 2))) := by
  intro r
  induction r with
  | zero =>
    intro _ mem hp
    have A := rd_Atom 0 6 (by decide) (by decide) 3 (by decide) (fun r' e => by cases e)
    have T := rd_Term (fun m => atomP (CX m) (SX m) (nestS (CX m) (SX m) 0)) 6 4 (by decide) A (fun mem m h => by show atomP _ _ _ = atomP _ _ _; rw [lxFr_C h, lxFr_S h]) (fun m _ => good_atom (tapX_P m) (good_nest m 0))
    have Z := rd_Sum (fun m => chainP (CX m) (SX m) opT (atomP (CX m) (SX m) (nestS (CX m) (SX m) 0))) 6 5 (by decide) T (fun mem m h => by show chainP _ _ _ _ = chainP _ _ _ _; rw [lxFr_C h, lxFr_S h]) (fun m _ => good_chain (tapX_P m) (fun _ _ h => (opT_pos h).1) (good_atom (tapX_P m) (good_nest m 0)))
    exact Z mem hp
  | succ r ih =>
    intro hr mem hp
    have e1 : (6 - ((r + 1 : Nat) : Int)) + 1 = 6 - (r : Int) := by omega
    have A := rd_Atom (r + 1) (6 - ((r + 1 : Nat) : Int)) (by omega) (by omega) (3 * r + 6) (by omega) (fun r' e => by
      have e' : r' = r := by omega
      subst e'
      rw [e1]
      exact ih (by omega))
    have T := rd_Term (fun m => atomP (CX m) (SX m) (nestS (CX m) (SX m) (r + 1))) (6 - ((r + 1 : Nat) : Int)) (3 * r + 6 + 1) (by omega) A (fun mem m h => by show atomP _ _ _ = atomP _ _ _; rw [lxFr_C h, lxFr_S h]) (fun m _ => good_atom (tapX_P m) (good_nest m (r + 1)))
    have Z := rd_Sum (fun m => chainP (CX m) (SX m) opT (atomP (CX m) (SX m) (nestS (CX m) (SX m) (r + 1)))) (6 - ((r + 1 : Nat) : Int)) (3 * r + 6 + 1 + 1) (by omega) T (fun mem m h => by show chainP _ _ _ _ = chainP _ _ _ _; rw [lxFr_C h, lxFr_S h]) (fun m _ => good_chain (tapX_P m) (fun _ _ h => (opT_pos h).1) (good_atom (tapX_P m) (good_nest m (r + 1))))
    exact Z mem hp
