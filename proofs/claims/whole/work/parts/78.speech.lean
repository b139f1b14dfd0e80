/-! rows over any end -/
abbrev mmTE : Type := Program → Launch → Env → Room → State → MethodId → Array Value → List Frame → Method → Code → mmG → State → Prop
def mmTF (F : mmTE) (B : mmB) (d kc ks : Nat) (pc : Nat) (lc st : List mmV) (sh : mmS) (mem : mmM) : Prop :=
  ∀ (p : Program) (l : Launch) (e : Env) (R : Room) (s : State) (m : MethodId) (args : Array Value) (below : List Frame) (meth : Method) (c : Code) (G : mmG) (H : Heap) (locs : List Loc) (cells slots : Nat) (ls : Array Slot),
    mmX B d kc ks G sh mem lc p l R s m args meth c H locs cells slots ls → W p l e R s m args below meth c H locs cells slots (F p l e R s m args below meth c G) (F0 m pc ls (st.map (mmEnc G)))
section
variable {F : mmTE} {B : mmB} {d kc ks : Nat} {pc : Nat} {lc st : List mmV} {sh : mmS} {mem : mmM}
theorem tf_iconst {n : Int} (hd : decode B.2.1 pc = .ok (.iconst n, 1)) (k : mmTF F B d kc ks (pc + 1) lc ((0, n) :: st) sh mem) : mmTF F B d kc ks pc lc st sh mem :=
  fun p l e R s m args below meth c G H locs cells slots ls X => lv_iconst X.1.1 X.1.2.1 hd rfl (k p l e R s m args below meth c G H locs cells slots ls X)
theorem tf_bipush {n : Int} (hn : (Int8.ofInt n).toInt32 = Int32.ofInt n) (hd : decode B.2.1 pc = .ok (.bipush n, 2)) (k : mmTF F B d kc ks (pc + 2) lc ((0, n) :: st) sh mem) : mmTF F B d kc ks pc lc st sh mem :=
  fun p l e R s m args below meth c G H locs cells slots ls X => lv_bipush X.1.1 X.1.2.1 hd hn (k p l e R s m args below meth c G H locs cells slots ls X)
theorem tf_iload_n {j : Fin 4} {i : Nat} {x : Int} (hi : (j : Nat) = i) (hl : lc[i]? = some (0, x)) (hd : decode B.2.1 pc = .ok (.iload_n j, 1)) (k : mmTF F B d kc ks (pc + 1) lc ((0, x) :: st) sh mem) : mmTF F B d kc ks pc lc st sh mem :=
  fun p l e R s m args below meth c G H locs cells slots ls X => lv_iload_n X.1.1 X.1.2.1 hd hi (X.2.2.2.2.1.at hl (by show 0 < 9; decide)) (k p l e R s m args below meth c G H locs cells slots ls X)
theorem tf_aload_n {j : Fin 4} {i t : Nat} {x : Int} (hi : (j : Nat) = i) (hl : lc[i]? = some (t + 2, x)) (ht : t < 2) (hd : decode B.2.1 pc = .ok (.aload_n j, 1)) (k : mmTF F B d kc ks (pc + 1) lc ((t + 2, x) :: st) sh mem) : mmTF F B d kc ks pc lc st sh mem := by
  intro p l e R s m args below meth c G H locs cells slots ls X
  have h1 := X.2.2.2.2.1.at hl (by show t + 2 < 9; omega)
  have h2 := k p l e R s m args below meth c G H locs cells slots ls X
  simp only [List.map_cons] at h2
  match t, ht with
  | 0, _ =>
    change ls[i]? = some (.val (va_rf (mmRf G x))) at h1
    change W p l e R s m args below meth c H locs cells slots _ (F0 m (pc + 1) ls (va_rf (mmRf G x) :: st.map (mmEnc G))) at h2
    cases hr : mmRf G x with
    | none => rw [hr] at h1 h2; exact lv_aload_nN X.1.1 X.1.2.1 hd hi h1 h2
    | some a => rw [hr] at h1 h2; exact lv_aload_n X.1.1 X.1.2.1 hd hi h1 h2
  | 1, _ => exact lv_aload_n X.1.1 X.1.2.1 hd hi h1 h2
theorem tf_if_eq {x off : Int} (tgt : Nat) (ht : (pc : Int) + off = (tgt : Int)) (hd : decode B.2.1 pc = .ok (.ifCond .eq off, 3)) (kt : w32 x = 0 → mmTF F B d kc ks tgt lc st sh mem) (kf : ¬ (w32 x = 0) → mmTF F B d kc ks (pc + 3) lc st sh mem) : mmTF F B d kc ks pc lc ((0, x) :: st) sh mem :=
  fun p l e R s m args below meth c G H locs cells slots ls X => lv_if_eq X.1.1 X.1.2.1 hd ht (fun h => kt (by have q := mm_eq32.mp (show Int32.ofInt x = Int32.ofInt 0 from h); rw [mm_w0] at q; exact q) p l e R s m args below meth c G H locs cells slots ls X) (fun h => kf (fun q => h (show Int32.ofInt x = Int32.ofInt 0 from mm_eq32.mpr (by rw [mm_w0]; exact q))) p l e R s m args below meth c G H locs cells slots ls X)
theorem tf_if_lt {x off : Int} (tgt : Nat) (ht : (pc : Int) + off = (tgt : Int)) (hd : decode B.2.1 pc = .ok (.ifCond .lt off, 3)) (kt : w32 x < 0 → mmTF F B d kc ks tgt lc st sh mem) (kf : ¬ (w32 x < 0) → mmTF F B d kc ks (pc + 3) lc st sh mem) : mmTF F B d kc ks pc lc ((0, x) :: st) sh mem :=
  fun p l e R s m args below meth c G H locs cells slots ls X => lv_if_lt X.1.1 X.1.2.1 hd ht (fun h => kt (by have q := mm_lt32.mp (show Int32.ofInt x < Int32.ofInt 0 from h); rw [mm_w0] at q; exact q) p l e R s m args below meth c G H locs cells slots ls X) (fun h => kf (fun q => h (show Int32.ofInt x < Int32.ofInt 0 from mm_lt32.mpr (by rw [mm_w0]; exact q))) p l e R s m args below meth c G H locs cells slots ls X)
theorem tf_icmp_le {x y off : Int} (tgt : Nat) (ht : (pc : Int) + off = (tgt : Int)) (hd : decode B.2.1 pc = .ok (.if_icmp .le off, 3)) (kt : w32 x ≤ w32 y → mmTF F B d kc ks tgt lc st sh mem) (kf : ¬ (w32 x ≤ w32 y) → mmTF F B d kc ks (pc + 3) lc st sh mem) : mmTF F B d kc ks pc lc ((0, y) :: (0, x) :: st) sh mem :=
  fun p l e R s m args below meth c G H locs cells slots ls X => lv_icmp_le X.1.1 X.1.2.1 hd ht (fun h => kt (mm_le32.mp h) p l e R s m args below meth c G H locs cells slots ls X) (fun h => kf (fun q => h (mm_le32.mpr q)) p l e R s m args below meth c G H locs cells slots ls X)
theorem tf_getfield {idx ci N tg : Nat} {r v : Int} (a k : Nat) (hf : mmFR B.1.cls idx ci N k tg) (hr : r = (a : Int)) (hs : sh.2[a]? = some (ci, N)) (hv : mem a k = v) (hd : decode B.2.1 pc = .ok (.getfield idx, 3)) (kk : mmTF F B d kc ks (pc + 3) lc ((tg, v) :: st) sh mem) : mmTF F B d kc ks pc lc ((2, r) :: st) sh mem := by
  intro p l e R s m args below meth c G H locs cells slots ls X
  obtain ⟨C, T, ref, e1, e0, e2, e3, e4, e5, e6⟩ := hf
  have h := kk p l e R s m args below meth c G H locs cells slots ls X
  subst e3; subst hv
  have hw := mmW_get (G := G) (mem := mem) hs
  unfold mmE at hw
  rw [if_pos (show (ci, N).1 < 20 from e0)] at hw
  show W p l e R s m args below meth c H locs cells slots _ (F0 m pc ls (va_rf (mmRf G r) :: st.map (mmEnc G)))
  rw [mmR_rfl hr]
  refine va_get (C := C) (T := T) (N := N) (ci := ci) (ref := ref) X.1.1 X.1.2.1 X.1.2.2.2.2.2.1 e4 X.1.2.2.2.2.1 X.2.1.2.1 X.2.1.2.2.1 a hw e1 k e2 (X.1.2.2.2.2.2.1 _ e5) (fun x hx => ?_) (mmFs_get e2) hd h
  rcases e6 with e6 | e6
  · rw [e6]; exact hx
  · exact u_same (X.1.2.2.2.2.2.1 _ e6) x hx
theorem tf_fact {P : Prop} (hP : ∀ (G : mmG) (s : State) (H : Heap), mmR G sh mem s H → P) (kk : P → mmTF F B d kc ks pc lc st sh mem) : mmTF F B d kc ks pc lc st sh mem :=
  fun p l e R s m args below meth c G H locs cells slots ls X => kk (hP G s H X.2.1) p l e R s m args below meth c G H locs cells slots ls X
theorem tf_goes {Qc : mmQ} {st0 : List Value} {mc ms kc2 ks2 : Nat} {a : Array Value} {p : Program} {l : Launch} {e : Env} {R : Room} {s : State} {m : MethodId} {args : Array Value} {below : List Frame} {meth : Method} {c : Code} {G : mmG} {H : Heap} {locs : List Loc} {cells slots : Nat} {ls : Array Slot} (X : mmX B d kc ks G sh mem lc p l R s m args meth c H locs cells slots ls)
    (hc : mc + kc2 ≤ kc) (hs : ms + ks2 ≤ ks) (hr : va_Run p l e R s m args below meth c H locs cells slots mc ms (F0 m pc ls st0) (st.map (mmEnc G)) (mmPost G Qc a) (mmAd G))
    (kk : ∀ (r : Option mmV) (sh' : mmS) (mem' : mmM), Qc r sh' mem' → mmTF F B d kc2 ks2 (pc + 3) lc (r.toList ++ st) sh' mem') : W p l e R s m args below meth c H locs cells slots (F p l e R s m args below meth c G) (F0 m pc ls st0) := by
  intro T hT XT
  obtain ⟨v, st₀, t, T', L, h0, X', hL, e1, e2, ⟨⟨r, sh', mem', hv, hq, hR⟩, hz, hk⟩, stp⟩ := hr T hT XT
  have hv' : v = r.map (mmEnc G) := by cases hv; rfl
  subst hv'
  rw [h0] at hz hk
  have hal : t.vm.Alike s.vm := by rw [← e2]; exact X'.warmed.alike.symm
  have X2 : mmX B d kc2 ks2 G sh' mem' lc p l R s m args meth c T'.heap (locs ++ L) (cells + mc) (slots + ms) ls := by
    refine ⟨X.1, by rw [e1]; exact hR.moved hal, ⟨Nat.le_trans X.2.2.1.1 (by rw [e1]; exact hz), fun q h1 h2 => ?_, fun q hq => ?_⟩, X.2.2.2.1, X.2.2.2.2.1, ?_, ?_, X.2.2.2.2.2.2.2⟩
    · rw [e1, hk q (Nat.lt_of_lt_of_le h1 X.2.2.1.1) h2]
      exact X.2.2.1.2.1 q h1 h2
    · rcases List.mem_append.mp hq with h | h
      · exact X.2.2.1.2.2 q h
      · exact hL q h
    · have := X.2.2.2.2.2.1
      omega
    · have := X.2.2.2.2.2.2.1
      omega
  have hw := kk r sh' mem' hq p l e R s m args below meth c G T'.heap (locs ++ L) (cells + mc) (slots + ms) ls X2
  obtain ⟨t2, a1, b1⟩ := hw T' rfl X'
  refine ⟨t2, stp t2 ?_, b1⟩
  have e3 : (r.map (mmEnc G)).toList ++ st.map (mmEnc G) = (r.toList ++ st).map (mmEnc G) := by cases r <;> rfl
  show Steps p.tables e below (T'.setTop { (F0 m pc ls st0) with pc := pc + 3, stack := (r.map (mmEnc G)).toList ++ st.map (mmEnc G) }) t2
  rw [e3]
  exact a1
theorem tf_callV {B' : mmB} {idx d' kc' ks' kc2 ks2 N n : Nat} {r : Int} {stk av : List mmV} {Qc : mmQ} (a ci : Nat) (hm : mmMV B.1.cls idx B') (ho : mmOK B' n) (hC : mmC B' d' kc' ks' ((2, r) :: av) sh mem Qc) (hr : r = (a : Int)) (hs : sh.2[a]? = some (ci, N)) (hc : ∃ q, vwCl[ci]? = some q ∧ q.1 = B'.1.cls ∧ ci < 20) (hn : av.length = n) (hst : stk = av.reverse ++ (2, r) :: st) (hd' : d' + 1 ≤ d) (hkc : kc' + kc2 ≤ kc) (hks : ks' + ks2 ≤ ks) (hcat : mmCat st ≤ 8) (hd : decode B.2.1 pc = .ok (.invokevirtual idx, 3))
    (kk : ∀ (r : Option mmV) (sh' : mmS) (mem' : mmM), Qc r sh' mem' → mmTF F B d kc2 ks2 (pc + 3) lc (r.toList ++ st) sh' mem') : mmTF F B d kc ks pc lc stk sh mem := by
  intro p l e R s m args below meth c G H locs cells slots ls X
  subst hst
  obtain ⟨q, hq1, hq2, hq3⟩ := hc
  have hrecv := mm_recv X.2.1 hs hq3 hq1
  rw [hq2] at hrecv
  have hM := hC l G X.2.2.2.2.2.2.2.2.2
  have hgood : GoodIn mm_tbl (wsV B.1.cls idx B'.1.cls B'.1 (Cond.code B'.1 B'.2.1 B'.2.2.1 B'.2.2.2 :: mm_tbl)) := mm_good fun w hw => by
    unfold wsV at hw
    simp only [List.mem_append, List.mem_cons, List.not_mem_nil, or_false] at hw
    rcases hw with (rfl | rfl | rfl | rfl) | rfl | hw
    · exact hm.1
    · exact hm.2.1
    · exact hm.2.2
    · exact ho.2.1
    · exact ho.1
    · exact hw
  refine tf_goes (Qc := Qc) (mc := kc') (ms := ks') (a := (Value.ref (G.1.2 + a) :: av.map (mmEnc G)).toArray) X hkc hks ?_ kk
  rw [mm_stk G hr]
  refine va_runV (Pc := mmPre G ((2, r) :: av) sh mem) (C := B'.1.cls) (As := av.map (mmEnc G)) (b := G.1.2 + a) (mm_fix X) hM (cwV n X.1.2.2.2.2.2.1 hgood rfl rfl rfl ⟨rfl, ho.2.2.1⟩ (mm_room X hd' ho.2.2.2.1)) ⟨mm_blind, hrecv, fun U hU hW => ⟨by rw [mm_map1 G hr], by rw [hU]; exact X.2.1.moved hW.alike, X.1.2.2.2.2.2.2.2.2.warm hW⟩⟩ rfl (by rw [List.length_map]; exact hn) ?_ rfl (lv_room (by rw [mmCat_enc]; exact hcat)) hd ⟨?_, ?_⟩
  · obtain ⟨lv, h1, -⟩ := X.2.2.2.2.1
    exact h1.1
  · have := X.2.2.2.2.2.1
    omega
  · have := X.2.2.2.2.2.2.1
    omega
end
/-! SPEECH: what is told of one, and the exception -/
theorem cn_X11_speech {d : Nat} {P : Int → mmM → Prop} {mem : mmM} {x1 x2 : Int} (h : mmT bX11_speech d 0 0 (mQ 0 P) 0 [(2, 0), (0, x1), (0, x2)] [] mS mem) : con 0 bX11_speech d [(2, 0), (0, x1), (0, x2)] mem P := mmC_of [(2, 0), (0, x1), (0, x2)] ok_X11_speech.2.2.2.2 rfl (Nat.le_of_ble_eq_true rfl) h
theorem bk_X11_speech_0 {d : Nat} {P : Int → mmM → Prop} {mem : mmM} {x1 x2 : Int}
  (k1 : ¬ (0 ≤ x1 ∧ x1 < (mem 23 1)) → mmT bX11_speech d 0 0 (mQ 0 P) 21 [(9, 0), (9, 0), (9, 0)] [] mS mem)
  (k2 : (0 ≤ x1 ∧ x1 < (mem 23 1)) → x2 < 0 → mmT bX11_speech d 0 0 (mQ 0 P) 21 [(9, 0), (9, 0), (9, 0)] [] mS mem)
  (k3 : (0 ≤ x1 ∧ x1 < (mem 23 1)) → 0 ≤ x2 → 9 < x2 → mmT bX11_speech d 0 0 (mQ 0 P) 21 [(9, 0), (9, 0), (9, 0)] [] mS mem)
  (q1 : (0 ≤ x1 ∧ x1 < (mem 23 1)) → 0 ≤ x2 → x2 ≤ 9 → x2 = 0 → P (mem 24 x1) mem)
  (q2 : (0 ≤ x1 ∧ x1 < (mem 23 1)) → 0 ≤ x2 → x2 ≤ 9 → ¬ x2 = 0 → x2 = 1 → P (mem 25 x1) mem)
  (q3 : (0 ≤ x1 ∧ x1 < (mem 23 1)) → 0 ≤ x2 → x2 ≤ 9 → ¬ x2 = 0 → ¬ x2 = 1 → x2 = 2 → P (mem 26 x1) mem)
  (q4 : (0 ≤ x1 ∧ x1 < (mem 23 1)) → 0 ≤ x2 → x2 ≤ 9 → ¬ x2 = 0 → ¬ x2 = 1 → ¬ x2 = 2 → x2 = 3 → P (mem 28 x1) mem)
  (q5 : (0 ≤ x1 ∧ x1 < (mem 23 1)) → 0 ≤ x2 → x2 ≤ 9 → ¬ x2 = 0 → ¬ x2 = 1 → ¬ x2 = 2 → ¬ x2 = 3 → x2 = 4 → P (mem 29 x1) mem)
  (q6 : (0 ≤ x1 ∧ x1 < (mem 23 1)) → 0 ≤ x2 → x2 ≤ 9 → ¬ x2 = 0 → ¬ x2 = 1 → ¬ x2 = 2 → ¬ x2 = 3 → ¬ x2 = 4 → x2 = 5 → P (mem 30 x1) mem)
  (q7 : (0 ≤ x1 ∧ x1 < (mem 23 1)) → 0 ≤ x2 → x2 ≤ 9 → ¬ x2 = 0 → ¬ x2 = 1 → ¬ x2 = 2 → ¬ x2 = 3 → ¬ x2 = 4 → ¬ x2 = 5 → x2 = 6 → ¬ (and32 (shr32 (mem 47 0) x1) 1 = 1) → P 0 mem)
  (q8 : (0 ≤ x1 ∧ x1 < (mem 23 1)) → 0 ≤ x2 → x2 ≤ 9 → ¬ x2 = 0 → ¬ x2 = 1 → ¬ x2 = 2 → ¬ x2 = 3 → ¬ x2 = 4 → ¬ x2 = 5 → x2 = 6 → (and32 (shr32 (mem 47 0) x1) 1 = 1) → P 1 mem)
  (q9 : (0 ≤ x1 ∧ x1 < (mem 23 1)) → 0 ≤ x2 → x2 ≤ 9 → ¬ x2 = 0 → ¬ x2 = 1 → ¬ x2 = 2 → ¬ x2 = 3 → ¬ x2 = 4 → ¬ x2 = 5 → ¬ x2 = 6 → x2 = 7 → P (forgetsX mem x1 (b2i (and32 (shr32 (mem 47 0) x1) 1 = 1))) mem)
  (q10 : (0 ≤ x1 ∧ x1 < (mem 23 1)) → 0 ≤ x2 → x2 ≤ 9 → ¬ x2 = 0 → ¬ x2 = 1 → ¬ x2 = 2 → ¬ x2 = 3 → ¬ x2 = 4 → ¬ x2 = 5 → ¬ x2 = 6 → ¬ x2 = 7 → x2 = 8 → P (mem 27 x1) mem)
  (q11 : (0 ≤ x1 ∧ x1 < (mem 23 1)) → 0 ≤ x2 → x2 ≤ 9 → ¬ x2 = 0 → ¬ x2 = 1 → ¬ x2 = 2 → ¬ x2 = 3 → ¬ x2 = 4 → ¬ x2 = 5 → ¬ x2 = 6 → ¬ x2 = 7 → ¬ x2 = 8 → P (mem 48 x1) mem)
  (hd2 : 2 ≤ d := by omega)
  (hd3 : 3 ≤ d := by omega)
  (s1 : R32 x1 := by intros; first | omega | assumption | solve_by_elim)
  (s2 : (0 ≤ x1 ∧ x1 < (mem 23 1)) → R32 x2 := by intros; first | omega | assumption | solve_by_elim)
  (s3 : (0 ≤ x1 ∧ x1 < (mem 23 1)) → 0 ≤ x2 → x2 ≤ 9 → x2 = 0 → 0 ≤ x1 ∧ x1 < 24 := by intros; first | omega | assumption | solve_by_elim)
  (s4 : (0 ≤ x1 ∧ x1 < (mem 23 1)) → 0 ≤ x2 → x2 ≤ 9 → ¬ x2 = 0 → x2 = 1 → 0 ≤ x1 ∧ x1 < 24 := by intros; first | omega | assumption | solve_by_elim)
  (s5 : (0 ≤ x1 ∧ x1 < (mem 23 1)) → 0 ≤ x2 → x2 ≤ 9 → ¬ x2 = 0 → ¬ x2 = 1 → x2 = 2 → 0 ≤ x1 ∧ x1 < 24 := by intros; first | omega | assumption | solve_by_elim)
  (s6 : (0 ≤ x1 ∧ x1 < (mem 23 1)) → 0 ≤ x2 → x2 ≤ 9 → ¬ x2 = 0 → ¬ x2 = 1 → ¬ x2 = 2 → x2 = 3 → 0 ≤ x1 ∧ x1 < 24 := by intros; first | omega | assumption | solve_by_elim)
  (s7 : (0 ≤ x1 ∧ x1 < (mem 23 1)) → 0 ≤ x2 → x2 ≤ 9 → ¬ x2 = 0 → ¬ x2 = 1 → ¬ x2 = 2 → ¬ x2 = 3 → x2 = 4 → 0 ≤ x1 ∧ x1 < 24 := by intros; first | omega | assumption | solve_by_elim)
  (s8 : (0 ≤ x1 ∧ x1 < (mem 23 1)) → 0 ≤ x2 → x2 ≤ 9 → ¬ x2 = 0 → ¬ x2 = 1 → ¬ x2 = 2 → ¬ x2 = 3 → ¬ x2 = 4 → x2 = 5 → 0 ≤ x1 ∧ x1 < 24 := by intros; first | omega | assumption | solve_by_elim)
  (s9 : (0 ≤ x1 ∧ x1 < (mem 23 1)) → 0 ≤ x2 → x2 ≤ 9 → ¬ x2 = 0 → ¬ x2 = 1 → ¬ x2 = 2 → ¬ x2 = 3 → ¬ x2 = 4 → ¬ x2 = 5 → ¬ x2 = 6 → x2 = 7 → 0 ≤ (mem 23 1) ∧ (mem 23 1) ≤ 24 := by intros; first | omega | assumption | solve_by_elim)
  (s10 : (0 ≤ x1 ∧ x1 < (mem 23 1)) → 0 ≤ x2 → x2 ≤ 9 → ¬ x2 = 0 → ¬ x2 = 1 → ¬ x2 = 2 → ¬ x2 = 3 → ¬ x2 = 4 → ¬ x2 = 5 → ¬ x2 = 6 → ¬ x2 = 7 → x2 = 8 → 0 ≤ x1 ∧ x1 < 24 := by intros; first | omega | assumption | solve_by_elim)
  (s11 : (0 ≤ x1 ∧ x1 < (mem 23 1)) → 0 ≤ x2 → x2 ≤ 9 → ¬ x2 = 0 → ¬ x2 = 1 → ¬ x2 = 2 → ¬ x2 = 3 → ¬ x2 = 4 → ¬ x2 = 5 → ¬ x2 = 6 → ¬ x2 = 7 → ¬ x2 = 8 → 0 ≤ x1 ∧ x1 < 24 := by intros; first | omega | assumption | solve_by_elim)
  : mmT bX11_speech d 0 0 (mQ 0 P) 0 [(2, 0), (0, x1), (0, x2)] [] mS mem := by
  refine st_aload_n (i := 0) rfl (t := 0) rfl (by decide) dX11_speech_0 ?_
  refine so_getA 0 4 fr_X11_42_10 rfl sh_0 fx_0_4 dX11_speech_1 ?_
  refine st_iload_n (i := 1) rfl rfl dX11_speech_4 ?_
  refine st_callV (kc2 := 0) (ks2 := 0) (av := [(0, x1)]) 23 8 mr_X11_136 ok_X8_has (c_X8_has mem x1 (s1)) rfl sh_23 ⟨_, rfl, rfl, by decide⟩ rfl rfl hd2 (Nat.le_refl 0) (Nat.le_refl 0) (Nat.le_of_ble_eq_true rfl) dX11_speech_5 (mQ.elim fun v1 m1 hp => ?_)
  obtain ⟨hpv, hpm⟩ := hp
  subst hpv
  have hpm := hpm.symm
  subst hpm
  refine so_ifeqB 21 (by decide) dX11_speech_8 (fun h1 => ?_) (fun h1 => ?_)
  · have h1 : ¬ (0 ≤ x1 ∧ x1 < (mem 23 1)) := h1
    exact st_locals [(9, 0), (9, 0), (9, 0)] ⟨Or.inl rfl, Or.inl rfl, Or.inl rfl, trivial⟩ (k1 h1)
  · have h1 : (0 ≤ x1 ∧ x1 < (mem 23 1)) := h1
    refine st_iload_n (i := 2) rfl rfl dX11_speech_11 ?_
    refine sr_if_lt 21 (s2 h1) (by decide) dX11_speech_12 (fun h2 => ?_) (fun h2 => ?_)
    · have h2 : x2 < 0 := by omega
      exact st_locals [(9, 0), (9, 0), (9, 0)] ⟨Or.inl rfl, Or.inl rfl, Or.inl rfl, trivial⟩ (k2 h1 h2)
    · have h2 : 0 ≤ x2 := by omega
      refine st_iload_n (i := 2) rfl rfl dX11_speech_15 ?_
      refine st_bipush rfl dX11_speech_16 ?_
      refine sr_icmp_le 31 (s2 h1) ⟨by decide, by decide⟩ (by decide) dX11_speech_18 (fun h3 => ?_) (fun h3 => ?_)
      · have h3 : x2 ≤ 9 := by omega
        refine st_iload_n (i := 2) rfl rfl dX11_speech_31 ?_
        by_cases h4 : x2 = 0
        · refine so_tabI 84 (s2 h1) 0 h4 (by decide) (by decide) rfl (by decide) dX11_speech_32 ?_
          refine st_aload_n (i := 0) rfl (t := 0) rfl (by decide) dX11_speech_84 ?_
          refine so_getA 0 4 fr_X11_42_10 rfl sh_0 fx_0_4 dX11_speech_85 ?_
          refine so_getA 23 2 fr_X11_147_8 rfl sh_23 fx_23_2 dX11_speech_88 ?_
          refine st_iload_n (i := 1) rfl rfl dX11_speech_91 ?_
          refine so_iald (v := (mem 24 x1)) 24 rfl sh_24 (by decide) (s3 h1 h2 h3 h4) rfl dX11_speech_92 (fun r1 => ?_)
          exact st_ireturn rfl dX11_speech_93 (mQ.ret (q1 h1 h2 h3 h4))
        by_cases h5 : x2 = 1
        · refine so_tabI 94 (s2 h1) 1 h5 (by decide) (by decide) rfl (by decide) dX11_speech_32 ?_
          refine st_aload_n (i := 0) rfl (t := 0) rfl (by decide) dX11_speech_94 ?_
          refine so_getA 0 4 fr_X11_42_10 rfl sh_0 fx_0_4 dX11_speech_95 ?_
          refine so_getA 23 3 fr_X11_151_8 rfl sh_23 fx_23_3 dX11_speech_98 ?_
          refine st_iload_n (i := 1) rfl rfl dX11_speech_101 ?_
          refine so_iald (v := (mem 25 x1)) 25 rfl sh_25 (by decide) (s4 h1 h2 h3 h4 h5) rfl dX11_speech_102 (fun r2 => ?_)
          exact st_ireturn rfl dX11_speech_103 (mQ.ret (q2 h1 h2 h3 h4 h5))
        by_cases h6 : x2 = 2
        · refine so_tabI 104 (s2 h1) 2 h6 (by decide) (by decide) rfl (by decide) dX11_speech_32 ?_
          refine st_aload_n (i := 0) rfl (t := 0) rfl (by decide) dX11_speech_104 ?_
          refine so_getA 0 4 fr_X11_42_10 rfl sh_0 fx_0_4 dX11_speech_105 ?_
          refine so_getA 23 4 fr_X11_154_8 rfl sh_23 fx_23_4 dX11_speech_108 ?_
          refine st_iload_n (i := 1) rfl rfl dX11_speech_111 ?_
          refine so_iald (v := (mem 26 x1)) 26 rfl sh_26 (by decide) (s5 h1 h2 h3 h4 h5 h6) rfl dX11_speech_112 (fun r3 => ?_)
          exact st_ireturn rfl dX11_speech_113 (mQ.ret (q3 h1 h2 h3 h4 h5 h6))
        by_cases h7 : x2 = 3
        · refine so_tabI 114 (s2 h1) 3 h7 (by decide) (by decide) rfl (by decide) dX11_speech_32 ?_
          refine st_aload_n (i := 0) rfl (t := 0) rfl (by decide) dX11_speech_114 ?_
          refine so_getA 0 4 fr_X11_42_10 rfl sh_0 fx_0_4 dX11_speech_115 ?_
          refine so_getA 23 6 fr_X11_157_8 rfl sh_23 fx_23_6 dX11_speech_118 ?_
          refine st_iload_n (i := 1) rfl rfl dX11_speech_121 ?_
          refine so_iald (v := (mem 28 x1)) 28 rfl sh_28 (by decide) (s6 h1 h2 h3 h4 h5 h6 h7) rfl dX11_speech_122 (fun r4 => ?_)
          exact st_ireturn rfl dX11_speech_123 (mQ.ret (q4 h1 h2 h3 h4 h5 h6 h7))
        by_cases h8 : x2 = 4
        · refine so_tabI 124 (s2 h1) 4 h8 (by decide) (by decide) rfl (by decide) dX11_speech_32 ?_
          refine st_aload_n (i := 0) rfl (t := 0) rfl (by decide) dX11_speech_124 ?_
          refine so_getA 0 4 fr_X11_42_10 rfl sh_0 fx_0_4 dX11_speech_125 ?_
          refine so_getA 23 7 fr_X11_160_8 rfl sh_23 fx_23_7 dX11_speech_128 ?_
          refine st_iload_n (i := 1) rfl rfl dX11_speech_131 ?_
          refine so_iald (v := (mem 29 x1)) 29 rfl sh_29 (by decide) (s7 h1 h2 h3 h4 h5 h6 h7 h8) rfl dX11_speech_132 (fun r5 => ?_)
          exact st_ireturn rfl dX11_speech_133 (mQ.ret (q5 h1 h2 h3 h4 h5 h6 h7 h8))
        by_cases h9 : x2 = 5
        · refine so_tabI 134 (s2 h1) 5 h9 (by decide) (by decide) rfl (by decide) dX11_speech_32 ?_
          refine st_aload_n (i := 0) rfl (t := 0) rfl (by decide) dX11_speech_134 ?_
          refine so_getA 0 4 fr_X11_42_10 rfl sh_0 fx_0_4 dX11_speech_135 ?_
          refine so_getA 23 8 fr_X11_163_8 rfl sh_23 fx_23_8 dX11_speech_138 ?_
          refine st_iload_n (i := 1) rfl rfl dX11_speech_141 ?_
          refine so_iald (v := (mem 30 x1)) 30 rfl sh_30 (by decide) (s8 h1 h2 h3 h4 h5 h6 h7 h8 h9) rfl dX11_speech_142 (fun r6 => ?_)
          exact st_ireturn rfl dX11_speech_143 (mQ.ret (q6 h1 h2 h3 h4 h5 h6 h7 h8 h9))
        by_cases h10 : x2 = 6
        · refine so_tabI 144 (s2 h1) 6 h10 (by decide) (by decide) rfl (by decide) dX11_speech_32 ?_
          refine st_aload_n (i := 0) rfl (t := 0) rfl (by decide) dX11_speech_144 ?_
          refine so_getA 0 6 fr_X11_58_10 rfl sh_0 fx_0_6 dX11_speech_145 ?_
          refine st_iload_n (i := 1) rfl rfl dX11_speech_148 ?_
          refine st_callV (kc2 := 0) (ks2 := 0) (av := [(0, x1)]) 47 6 mr_X11_166 ok_X6_isMarked (c_X6_isMarked mem x1 ) rfl sh_47 ⟨_, rfl, rfl, by decide⟩ rfl rfl hd2 (Nat.le_refl 0) (Nat.le_refl 0) (Nat.le_of_ble_eq_true rfl) dX11_speech_149 (mQ.elim fun v2 m2 hp => ?_)
          obtain ⟨hpv, hpm⟩ := hp
          subst hpv
          have hpm := hpm.symm
          subst hpm
          refine so_ifeqB 159 (by decide) dX11_speech_152 (fun h11 => ?_) (fun h11 => ?_)
          · have h11 : ¬ (and32 (shr32 (mem 47 0) x1) 1 = 1) := h11
            refine st_iconst dX11_speech_159 ?_
            exact st_ireturn rfl dX11_speech_160 (mQ.ret (q7 h1 h2 h3 h4 h5 h6 h7 h8 h9 h10 h11))
          · have h11 : (and32 (shr32 (mem 47 0) x1) 1 = 1) := h11
            refine st_iconst dX11_speech_155 ?_
            refine st_goto 160 (by decide) dX11_speech_156 ?_
            exact st_ireturn rfl dX11_speech_160 (mQ.ret (q8 h1 h2 h3 h4 h5 h6 h7 h8 h9 h10 h11))
        by_cases h12 : x2 = 7
        · refine so_tabI 161 (s2 h1) 7 h12 (by decide) (by decide) rfl (by decide) dX11_speech_32 ?_
          refine st_aload_n (i := 0) rfl (t := 0) rfl (by decide) dX11_speech_161 ?_
          refine so_getA 0 4 fr_X11_42_10 rfl sh_0 fx_0_4 dX11_speech_162 ?_
          refine st_iload_n (i := 1) rfl rfl dX11_speech_165 ?_
          refine st_aload_n (i := 0) rfl (t := 0) rfl (by decide) dX11_speech_166 ?_
          refine so_getA 0 6 fr_X11_58_10 rfl sh_0 fx_0_6 dX11_speech_167 ?_
          refine st_iload_n (i := 1) rfl rfl dX11_speech_170 ?_
          refine st_callV (kc2 := 0) (ks2 := 0) (av := [(0, x1)]) 47 6 mr_X11_166 ok_X6_isMarked (c_X6_isMarked mem x1 ) rfl sh_47 ⟨_, rfl, rfl, by decide⟩ rfl rfl hd2 (Nat.le_refl 0) (Nat.le_refl 0) (Nat.le_of_ble_eq_true rfl) dX11_speech_171 (mQ.elim fun v3 m3 hp => ?_)
          obtain ⟨hpv, hpm⟩ := hp
          subst hpv
          have hpm := hpm.symm
          subst hpm
          refine st_callV (kc2 := 0) (ks2 := 0) (av := [(0, x1), (0, (b2i (and32 (shr32 (mem 47 0) x1) 1 = 1)))]) 23 8 mr_X11_169 ok_X8_forgets (c_X8_forgets mem x1 (b2i (and32 (shr32 (mem 47 0) x1) 1 = 1)) (s1) ((by have := b2i_rng (and32 (shr32 (mem 47 0) x1) 1 = 1); omega)) ((s9 h1 h2 h3 h4 h5 h6 h7 h8 h9 h10 h12))) rfl sh_23 ⟨_, rfl, rfl, by decide⟩ rfl rfl hd3 (Nat.le_refl 0) (Nat.le_refl 0) (Nat.le_of_ble_eq_true rfl) dX11_speech_174 (mQ.elim fun v4 m4 hp => ?_)
          obtain ⟨hpv, hpm⟩ := hp
          subst hpv
          have hpm := hpm.symm
          subst hpm
          exact st_ireturn rfl dX11_speech_177 (mQ.ret (q9 h1 h2 h3 h4 h5 h6 h7 h8 h9 h10 h12))
        by_cases h13 : x2 = 8
        · refine so_tabI 178 (s2 h1) 8 h13 (by decide) (by decide) rfl (by decide) dX11_speech_32 ?_
          refine st_aload_n (i := 0) rfl (t := 0) rfl (by decide) dX11_speech_178 ?_
          refine so_getA 0 4 fr_X11_42_10 rfl sh_0 fx_0_4 dX11_speech_179 ?_
          refine so_getA 23 5 fr_X11_173_8 rfl sh_23 fx_23_5 dX11_speech_182 ?_
          refine st_iload_n (i := 1) rfl rfl dX11_speech_185 ?_
          refine so_iald (v := (mem 27 x1)) 27 rfl sh_27 (by decide) (s10 h1 h2 h3 h4 h5 h6 h7 h8 h9 h10 h12 h13) rfl dX11_speech_186 (fun r7 => ?_)
          exact st_ireturn rfl dX11_speech_187 (mQ.ret (q10 h1 h2 h3 h4 h5 h6 h7 h8 h9 h10 h12 h13))
        refine so_tabO 188 (s2 h1) (by omega) (by decide) dX11_speech_32 ?_
        refine st_aload_n (i := 0) rfl (t := 0) rfl (by decide) dX11_speech_188 ?_
        refine so_getA 0 6 fr_X11_58_10 rfl sh_0 fx_0_6 dX11_speech_189 ?_
        refine so_getA 47 3 fr_X11_176_6 rfl sh_47 fx_47_3 dX11_speech_192 ?_
        refine st_iload_n (i := 1) rfl rfl dX11_speech_195 ?_
        refine so_iald (v := (mem 48 x1)) 48 rfl sh_48 (by decide) (s11 h1 h2 h3 h4 h5 h6 h7 h8 h9 h10 h12 h13) rfl dX11_speech_196 (fun r8 => ?_)
        exact st_ireturn rfl dX11_speech_197 (mQ.ret (q11 h1 h2 h3 h4 h5 h6 h7 h8 h9 h10 h12 h13))
      · have h3 : 9 < x2 := by omega
        exact st_locals [(9, 0), (9, 0), (9, 0)] ⟨Or.inl rfl, Or.inl rfl, Or.inl rfl, trivial⟩ (k3 h1 h2 h3)
def tellX (mem : mmM) (x y : Int) : Int := if y = 0 then mem 24 x else if y = 1 then mem 25 x else if y = 2 then mem 26 x else if y = 3 then mem 28 x else if y = 4 then mem 29 x else if y = 5 then mem 30 x else if y = 6 then b2i (and32 (shr32 (mem 47 0) x) 1 = 1) else if y = 7 then forgetsX mem x (b2i (and32 (shr32 (mem 47 0) x) 1 = 1)) else if y = 8 then mem 27 x else mem 48 x
def tellM (mem : mmM) (cl : lawT) (x y : Int) : Int := if y = 0 then mem 79 x else if y = 1 then mem 80 x else if y = 2 then mem 81 x else if y = 3 then cueF (mem 80) x else if y = 4 then gapF (mem 79) x else if y = 5 then likesF (mem 65 27) (mem 79) (cueF (mem 80)) x else if y = 6 then b2i (and32 (shr32 (mem 65 31) x) 1 = 1) else if y = 7 then forgF mem cl x else if y = 8 then mem 82 x else mem 85 x
theorem c_X11_speech (mem : mmM) (x y : Int) (hn : 0 ≤ mem 23 1 ∧ mem 23 1 ≤ 24) (hx : 0 ≤ x ∧ x < mem 23 1) (hy : 0 ≤ y ∧ y ≤ 9) : con 0 bX11_speech 3 [(2, 0), (0, x), (0, y)] mem (fun v m => v = tellX mem x y ∧ m = mem) := by
  have hr : R32 x := by omega
  refine cn_X11_speech (bk_X11_speech_0 (k1 := fun h => absurd hx h) (k2 := fun _ h => by omega) (k3 := fun _ _ h => by omega)
    (q1 := fun _ _ _ e => ⟨?_, rfl⟩) (q2 := fun _ _ _ n0 e => ⟨?_, rfl⟩) (q3 := fun _ _ _ n0 n1 e => ⟨?_, rfl⟩) (q4 := fun _ _ _ n0 n1 n2 e => ⟨?_, rfl⟩) (q5 := fun _ _ _ n0 n1 n2 n3 e => ⟨?_, rfl⟩) (q6 := fun _ _ _ n0 n1 n2 n3 n4 e => ⟨?_, rfl⟩)
    (q7 := fun _ _ _ n0 n1 n2 n3 n4 n5 e g => ⟨?_, rfl⟩) (q8 := fun _ _ _ n0 n1 n2 n3 n4 n5 e g => ⟨?_, rfl⟩) (q9 := fun _ _ _ n0 n1 n2 n3 n4 n5 n6 e => ⟨?_, rfl⟩) (q10 := fun _ _ _ n0 n1 n2 n3 n4 n5 n6 n7 e => ⟨?_, rfl⟩) (q11 := fun _ _ _ n0 n1 n2 n3 n4 n5 n6 n7 n8 => ⟨?_, rfl⟩))
  · unfold tellX
    rw [if_pos e]
  · unfold tellX
    rw [if_neg n0, if_pos e]
  · unfold tellX
    rw [if_neg n0, if_neg n1, if_pos e]
  · unfold tellX
    rw [if_neg n0, if_neg n1, if_neg n2, if_pos e]
  · unfold tellX
    rw [if_neg n0, if_neg n1, if_neg n2, if_neg n3, if_pos e]
  · unfold tellX
    rw [if_neg n0, if_neg n1, if_neg n2, if_neg n3, if_neg n4, if_pos e]
  · unfold tellX
    rw [if_neg n0, if_neg n1, if_neg n2, if_neg n3, if_neg n4, if_neg n5, if_pos e, b2i_0 g]
  · unfold tellX
    rw [if_neg n0, if_neg n1, if_neg n2, if_neg n3, if_neg n4, if_neg n5, if_pos e, b2i_1 g]
  · unfold tellX
    rw [if_neg n0, if_neg n1, if_neg n2, if_neg n3, if_neg n4, if_neg n5, if_neg n6, if_pos e]
  · unfold tellX
    rw [if_neg n0, if_neg n1, if_neg n2, if_neg n3, if_neg n4, if_neg n5, if_neg n6, if_neg n7, if_pos e]
  · unfold tellX
    rw [if_neg n0, if_neg n1, if_neg n2, if_neg n3, if_neg n4, if_neg n5, if_neg n6, if_neg n7, if_neg n8]
theorem cn_X12_speech {d : Nat} {P : Int → mmM → Prop} {mem : mmM} {x1 x2 : Int} (h : mmT bX12_speech d 0 0 (mQ 0 P) 0 [(2, 65), (0, x1), (0, x2)] [] mS mem) : con 0 bX12_speech d [(2, 65), (0, x1), (0, x2)] mem P := mmC_of [(2, 65), (0, x1), (0, x2)] ok_X12_speech.2.2.2.2 rfl (Nat.le_of_ble_eq_true rfl) h
theorem bk_X12_speech_0 {d : Nat} {d1 : Nat} {P1 : Int → mmM → Prop} {P : Int → mmM → Prop} {mem : mmM} {x1 x2 : Int}
  (c1 : (0 ≤ x1 ∧ x1 ≤ (mem 65 27) - 1) → (0 ≤ x2 ∧ x2 ≤ 9) → ¬ x2 = 0 → ¬ x2 = 1 → ¬ x2 = 2 → ¬ x2 = 3 → ¬ x2 = 4 → ¬ x2 = 5 → ¬ x2 = 6 → x2 = 7 → con 0 bX12_forgets d1 [(2, 65), (0, x1)] (mset mem 65 0 0) P1)
  (q1 : ¬ (0 ≤ x1 ∧ x1 ≤ (mem 65 27) - 1) → P 0 (mset mem 65 0 1))
  (q2 : (0 ≤ x1 ∧ x1 ≤ (mem 65 27) - 1) → ¬ (0 ≤ x2 ∧ x2 ≤ 9) → P 0 (mset mem 65 0 1))
  (q3 : (0 ≤ x1 ∧ x1 ≤ (mem 65 27) - 1) → (0 ≤ x2 ∧ x2 ≤ 9) → x2 = 0 → P (mem 79 x1) (mset mem 65 0 0))
  (q4 : (0 ≤ x1 ∧ x1 ≤ (mem 65 27) - 1) → (0 ≤ x2 ∧ x2 ≤ 9) → ¬ x2 = 0 → x2 = 1 → P (mem 80 x1) (mset mem 65 0 0))
  (q5 : (0 ≤ x1 ∧ x1 ≤ (mem 65 27) - 1) → (0 ≤ x2 ∧ x2 ≤ 9) → ¬ x2 = 0 → ¬ x2 = 1 → x2 = 2 → P (mem 81 x1) (mset mem 65 0 0))
  (q6 : (0 ≤ x1 ∧ x1 ≤ (mem 65 27) - 1) → (0 ≤ x2 ∧ x2 ≤ 9) → ¬ x2 = 0 → ¬ x2 = 1 → ¬ x2 = 2 → x2 = 3 → P (cueF ((mset mem 65 0 0) 80) x1) (mset mem 65 0 0))
  (q7 : (0 ≤ x1 ∧ x1 ≤ (mem 65 27) - 1) → (0 ≤ x2 ∧ x2 ≤ 9) → ¬ x2 = 0 → ¬ x2 = 1 → ¬ x2 = 2 → ¬ x2 = 3 → x2 = 4 → P (gapF ((mset mem 65 0 0) 79) x1) (mset mem 65 0 0))
  (q8 : (0 ≤ x1 ∧ x1 ≤ (mem 65 27) - 1) → (0 ≤ x2 ∧ x2 ≤ 9) → ¬ x2 = 0 → ¬ x2 = 1 → ¬ x2 = 2 → ¬ x2 = 3 → ¬ x2 = 4 → x2 = 5 → P (likesF ((mset mem 65 0 0) 65 27) ((mset mem 65 0 0) 79) (cueF ((mset mem 65 0 0) 80)) x1) (mset mem 65 0 0))
  (q9 : (0 ≤ x1 ∧ x1 ≤ (mem 65 27) - 1) → (0 ≤ x2 ∧ x2 ≤ 9) → ¬ x2 = 0 → ¬ x2 = 1 → ¬ x2 = 2 → ¬ x2 = 3 → ¬ x2 = 4 → ¬ x2 = 5 → x2 = 6 → ¬ (and32 (shr32 (mem 65 31) x1) 1 = 1) → P 0 (mset mem 65 0 0))
  (q10 : (0 ≤ x1 ∧ x1 ≤ (mem 65 27) - 1) → (0 ≤ x2 ∧ x2 ≤ 9) → ¬ x2 = 0 → ¬ x2 = 1 → ¬ x2 = 2 → ¬ x2 = 3 → ¬ x2 = 4 → ¬ x2 = 5 → x2 = 6 → (and32 (shr32 (mem 65 31) x1) 1 = 1) → P 1 (mset mem 65 0 0))
  (q11 : (0 ≤ x1 ∧ x1 ≤ (mem 65 27) - 1) → (0 ≤ x2 ∧ x2 ≤ 9) → ¬ x2 = 0 → ¬ x2 = 1 → ¬ x2 = 2 → ¬ x2 = 3 → ¬ x2 = 4 → ¬ x2 = 5 → ¬ x2 = 6 → x2 = 7 → ∀ (v7 : Int), ∀ (m7 : mmM), P1 v7 m7 → P v7 m7)
  (q12 : (0 ≤ x1 ∧ x1 ≤ (mem 65 27) - 1) → (0 ≤ x2 ∧ x2 ≤ 9) → ¬ x2 = 0 → ¬ x2 = 1 → ¬ x2 = 2 → ¬ x2 = 3 → ¬ x2 = 4 → ¬ x2 = 5 → ¬ x2 = 6 → ¬ x2 = 7 → x2 = 8 → P (mem 82 x1) (mset mem 65 0 0))
  (q13 : (0 ≤ x1 ∧ x1 ≤ (mem 65 27) - 1) → (0 ≤ x2 ∧ x2 ≤ 9) → ¬ x2 = 0 → ¬ x2 = 1 → ¬ x2 = 2 → ¬ x2 = 3 → ¬ x2 = 4 → ¬ x2 = 5 → ¬ x2 = 6 → ¬ x2 = 7 → ¬ x2 = 8 → P (mem 85 x1) (mset mem 65 0 0))
  (hd_d1 : d1 + 1 ≤ d := by omega)
  (hd2 : 2 ≤ d := by omega)
  (hd3 : 3 ≤ d := by omega)
  (hd4 : 4 ≤ d := by omega)
  (s1 : R32 x1 := by intros; first | omega | assumption | solve_by_elim)
  (s2 : R32 ((mem 65 27) - 1) := by intros; first | omega | assumption | solve_by_elim)
  (s3 : (0 ≤ x1 ∧ x1 ≤ (mem 65 27) - 1) → R32 x2 := by intros; first | omega | assumption | solve_by_elim)
  (s4 : (0 ≤ x1 ∧ x1 ≤ (mem 65 27) - 1) → (0 ≤ x2 ∧ x2 ≤ 9) → x2 = 0 → 0 ≤ x1 ∧ x1 < 24 := by intros; first | omega | assumption | solve_by_elim)
  (s5 : (0 ≤ x1 ∧ x1 ≤ (mem 65 27) - 1) → (0 ≤ x2 ∧ x2 ≤ 9) → ¬ x2 = 0 → x2 = 1 → 0 ≤ x1 ∧ x1 < 24 := by intros; first | omega | assumption | solve_by_elim)
  (s6 : (0 ≤ x1 ∧ x1 ≤ (mem 65 27) - 1) → (0 ≤ x2 ∧ x2 ≤ 9) → ¬ x2 = 0 → ¬ x2 = 1 → x2 = 2 → 0 ≤ x1 ∧ x1 < 24 := by intros; first | omega | assumption | solve_by_elim)
  (s7 : (0 ≤ x1 ∧ x1 ≤ (mem 65 27) - 1) → (0 ≤ x2 ∧ x2 ≤ 9) → ¬ x2 = 0 → ¬ x2 = 1 → ¬ x2 = 2 → x2 = 3 → 0 ≤ x1 ∧ x1 < 24 := by intros; first | omega | assumption | solve_by_elim)
  (s8 : (0 ≤ x1 ∧ x1 ≤ (mem 65 27) - 1) → (0 ≤ x2 ∧ x2 ≤ 9) → ¬ x2 = 0 → ¬ x2 = 1 → ¬ x2 = 2 → ¬ x2 = 3 → x2 = 4 → 0 ≤ x1 ∧ x1 < 24 := by intros; first | omega | assumption | solve_by_elim)
  (s9 : (0 ≤ x1 ∧ x1 ≤ (mem 65 27) - 1) → (0 ≤ x2 ∧ x2 ≤ 9) → ¬ x2 = 0 → ¬ x2 = 1 → ¬ x2 = 2 → ¬ x2 = 3 → ¬ x2 = 4 → x2 = 5 → playM (mset mem 65 0 0) := by intros; first | omega | assumption | solve_by_elim)
  (s10 : (0 ≤ x1 ∧ x1 ≤ (mem 65 27) - 1) → (0 ≤ x2 ∧ x2 ≤ 9) → ¬ x2 = 0 → ¬ x2 = 1 → ¬ x2 = 2 → ¬ x2 = 3 → ¬ x2 = 4 → x2 = 5 → 0 ≤ x1 ∧ x1 < ((mset mem 65 0 0) 65 27) := by intros; first | omega | assumption | solve_by_elim)
  (s11 : (0 ≤ x1 ∧ x1 ≤ (mem 65 27) - 1) → (0 ≤ x2 ∧ x2 ≤ 9) → ¬ x2 = 0 → ¬ x2 = 1 → ¬ x2 = 2 → ¬ x2 = 3 → ¬ x2 = 4 → ¬ x2 = 5 → ¬ x2 = 6 → ¬ x2 = 7 → x2 = 8 → 0 ≤ x1 ∧ x1 < 24 := by intros; first | omega | assumption | solve_by_elim)
  (s12 : (0 ≤ x1 ∧ x1 ≤ (mem 65 27) - 1) → (0 ≤ x2 ∧ x2 ≤ 9) → ¬ x2 = 0 → ¬ x2 = 1 → ¬ x2 = 2 → ¬ x2 = 3 → ¬ x2 = 4 → ¬ x2 = 5 → ¬ x2 = 6 → ¬ x2 = 7 → ¬ x2 = 8 → 0 ≤ x1 ∧ x1 < 24 := by intros; first | omega | assumption | solve_by_elim)
  : mmT bX12_speech d 0 0 (mQ 0 P) 0 [(2, 65), (0, x1), (0, x2)] [] mS mem := by
  refine st_aload_n (i := 0) rfl (t := 0) rfl (by decide) dX12_speech_0 ?_
  refine st_aload_n (i := 0) rfl (t := 0) rfl (by decide) dX12_speech_1 ?_
  refine st_iload_n (i := 1) rfl rfl dX12_speech_2 ?_
  refine st_callV (kc2 := 0) (ks2 := 0) (av := [(0, x1)]) 65 11 mr_X12_317 ok_X12_isSpeech (c_X12_isSpeech mem x1 (s1) (s2)) rfl sh_65 ⟨_, rfl, rfl, by decide⟩ rfl rfl hd3 (Nat.le_refl 0) (Nat.le_refl 0) (Nat.le_of_ble_eq_true rfl) dX12_speech_3 (mQ.elim fun v1 m1 hp => ?_)
  obtain ⟨hpv, hpm⟩ := hp
  subst hpv
  have hpm := hpm.symm
  subst hpm
  refine so_ifeqB 23 (by decide) dX12_speech_6 (fun h1 => ?_) (fun h1 => ?_)
  · have h1 : ¬ (0 ≤ x1 ∧ x1 ≤ (mem 65 27) - 1) := h1
    refine st_iconst dX12_speech_23 ?_
    refine so_putI 65 0 fr_X12_114_11 pf_11_0 fo_65_0 rfl sh_65 ⟨by decide, by decide⟩ dX12_speech_24 ?_
    refine st_aload_n (i := 0) rfl (t := 0) rfl (by decide) dX12_speech_27 ?_
    refine so_getI (v := 1) 65 0 fr_X12_114_11 rfl sh_65 rfl dX12_speech_28 (fun r1 => ?_)
    refine st_iconst dX12_speech_31 ?_
    refine sr_icmp_ne 37 ⟨by decide, by decide⟩ ⟨by decide, by decide⟩ (by decide) dX12_speech_32 (fun h => ?_) (fun h => ?_)
    · exact absurd h (by decide)
    refine st_iconst dX12_speech_35 ?_
    exact st_ireturn rfl dX12_speech_36 (mQ.ret (q1 h1))
  · have h1 : (0 ≤ x1 ∧ x1 ≤ (mem 65 27) - 1) := h1
    refine st_iload_n (i := 2) rfl rfl dX12_speech_9 ?_
    refine st_iconst dX12_speech_10 ?_
    refine st_bipush rfl dX12_speech_11 ?_
    refine st_callS (kc2 := 0) (ks2 := 0) (av := [(0, x2), (0, 0), (0, 9)]) mr_X12_229 ok_X12_in (c_X12_in mem x2 0 9 ((s3 h1)) (⟨by decide, by decide⟩) (⟨by decide, by decide⟩)) rfl rfl hd2 (Nat.le_refl 0) (Nat.le_refl 0) (Nat.le_of_ble_eq_true rfl) dX12_speech_13 (mQ.elim fun v2 m2 hp => ?_)
    obtain ⟨hpv, hpm⟩ := hp
    subst hpv
    have hpm := hpm.symm
    subst hpm
    refine so_ifeqB 23 (by decide) dX12_speech_16 (fun h2 => ?_) (fun h2 => ?_)
    · have h2 : ¬ (0 ≤ x2 ∧ x2 ≤ 9) := h2
      refine st_iconst dX12_speech_23 ?_
      refine so_putI 65 0 fr_X12_114_11 pf_11_0 fo_65_0 rfl sh_65 ⟨by decide, by decide⟩ dX12_speech_24 ?_
      refine st_aload_n (i := 0) rfl (t := 0) rfl (by decide) dX12_speech_27 ?_
      refine so_getI (v := 1) 65 0 fr_X12_114_11 rfl sh_65 rfl dX12_speech_28 (fun r2 => ?_)
      refine st_iconst dX12_speech_31 ?_
      refine sr_icmp_ne 37 ⟨by decide, by decide⟩ ⟨by decide, by decide⟩ (by decide) dX12_speech_32 (fun h => ?_) (fun h => ?_)
      · exact absurd h (by decide)
      refine st_iconst dX12_speech_35 ?_
      exact st_ireturn rfl dX12_speech_36 (mQ.ret (q2 h1 h2))
    · have h2 : (0 ≤ x2 ∧ x2 ≤ 9) := h2
      refine st_iconst dX12_speech_19 ?_
      refine st_goto 24 (by decide) dX12_speech_20 ?_
      refine so_putI 65 0 fr_X12_114_11 pf_11_0 fo_65_0 rfl sh_65 ⟨by decide, by decide⟩ dX12_speech_24 ?_
      refine st_aload_n (i := 0) rfl (t := 0) rfl (by decide) dX12_speech_27 ?_
      refine so_getI (v := 0) 65 0 fr_X12_114_11 rfl sh_65 rfl dX12_speech_28 (fun r3 => ?_)
      refine st_iconst dX12_speech_31 ?_
      refine sr_icmp_ne 37 ⟨by decide, by decide⟩ ⟨by decide, by decide⟩ (by decide) dX12_speech_32 (fun h => ?_) (fun h => ?_)
      rotate_left
      · exact absurd h (by decide)
      refine st_iload_n (i := 2) rfl rfl dX12_speech_37 ?_
      by_cases h3 : x2 = 0
      · refine so_tabI 88 (s3 h1) 0 h3 (by decide) (by decide) rfl (by decide) dX12_speech_38 ?_
        refine st_aload_n (i := 0) rfl (t := 0) rfl (by decide) dX12_speech_88 ?_
        refine so_getA 65 22 fr_X12_49_11 rfl sh_65 fx_65_22 dX12_speech_89 ?_
        refine st_iload_n (i := 1) rfl rfl dX12_speech_92 ?_
        refine so_iald (v := (mem 79 x1)) 79 rfl sh_79 (by decide) (s4 h1 h2 h3) rfl dX12_speech_93 (fun r4 => ?_)
        exact st_ireturn rfl dX12_speech_94 (mQ.ret (q3 h1 h2 h3))
      by_cases h4 : x2 = 1
      · refine so_tabI 95 (s3 h1) 1 h4 (by decide) (by decide) rfl (by decide) dX12_speech_38 ?_
        refine st_aload_n (i := 0) rfl (t := 0) rfl (by decide) dX12_speech_95 ?_
        refine so_getA 65 23 fr_X12_52_11 rfl sh_65 fx_65_23 dX12_speech_96 ?_
        refine st_iload_n (i := 1) rfl rfl dX12_speech_99 ?_
        refine so_iald (v := (mem 80 x1)) 80 rfl sh_80 (by decide) (s5 h1 h2 h3 h4) rfl dX12_speech_100 (fun r5 => ?_)
        exact st_ireturn rfl dX12_speech_101 (mQ.ret (q4 h1 h2 h3 h4))
      by_cases h5 : x2 = 2
      · refine so_tabI 102 (s3 h1) 2 h5 (by decide) (by decide) rfl (by decide) dX12_speech_38 ?_
        refine st_aload_n (i := 0) rfl (t := 0) rfl (by decide) dX12_speech_102 ?_
        refine so_getA 65 24 fr_X12_55_11 rfl sh_65 fx_65_24 dX12_speech_103 ?_
        refine st_iload_n (i := 1) rfl rfl dX12_speech_106 ?_
        refine so_iald (v := (mem 81 x1)) 81 rfl sh_81 (by decide) (s6 h1 h2 h3 h4 h5) rfl dX12_speech_107 (fun r6 => ?_)
        exact st_ireturn rfl dX12_speech_108 (mQ.ret (q5 h1 h2 h3 h4 h5))
      by_cases h6 : x2 = 3
      · refine so_tabI 109 (s3 h1) 3 h6 (by decide) (by decide) rfl (by decide) dX12_speech_38 ?_
        refine st_aload_n (i := 0) rfl (t := 0) rfl (by decide) dX12_speech_109 ?_
        refine st_iload_n (i := 1) rfl rfl dX12_speech_110 ?_
        refine st_callV (kc2 := 0) (ks2 := 0) (av := [(0, x1)]) 65 11 mr_X12_297 ok_X12_cue (c_X12_cue (mset mem 65 0 0) x1 ((s7 h1 h2 h3 h4 h5 h6))) rfl sh_65 ⟨_, rfl, rfl, by decide⟩ rfl rfl hd2 (Nat.le_refl 0) (Nat.le_refl 0) (Nat.le_of_ble_eq_true rfl) dX12_speech_111 (mQ.elim fun v3 m3 hp => ?_)
        obtain ⟨hpv, hpm⟩ := hp
        subst hpv
        have hpm := hpm.symm
        subst hpm
        exact st_ireturn rfl dX12_speech_114 (mQ.ret (q6 h1 h2 h3 h4 h5 h6))
      by_cases h7 : x2 = 4
      · refine so_tabI 115 (s3 h1) 4 h7 (by decide) (by decide) rfl (by decide) dX12_speech_38 ?_
        refine st_aload_n (i := 0) rfl (t := 0) rfl (by decide) dX12_speech_115 ?_
        refine st_iload_n (i := 1) rfl rfl dX12_speech_116 ?_
        refine st_callV (kc2 := 0) (ks2 := 0) (av := [(0, x1)]) 65 11 mr_X12_303 ok_X12_gap (c_X12_gap (mset mem 65 0 0) x1 ((s8 h1 h2 h3 h4 h5 h6 h7))) rfl sh_65 ⟨_, rfl, rfl, by decide⟩ rfl rfl hd2 (Nat.le_refl 0) (Nat.le_refl 0) (Nat.le_of_ble_eq_true rfl) dX12_speech_117 (mQ.elim fun v4 m4 hp => ?_)
        obtain ⟨hpv, hpm⟩ := hp
        subst hpv
        have hpm := hpm.symm
        subst hpm
        exact st_ireturn rfl dX12_speech_120 (mQ.ret (q7 h1 h2 h3 h4 h5 h6 h7))
      by_cases h8 : x2 = 5
      · refine so_tabI 121 (s3 h1) 5 h8 (by decide) (by decide) rfl (by decide) dX12_speech_38 ?_
        refine st_aload_n (i := 0) rfl (t := 0) rfl (by decide) dX12_speech_121 ?_
        refine st_iload_n (i := 1) rfl rfl dX12_speech_122 ?_
        refine st_callV (kc2 := 0) (ks2 := 0) (av := [(0, x1)]) 65 11 mr_X12_306 ok_X12_likes (c_X12_likes (mset mem 65 0 0) x1 ((s9 h1 h2 h3 h4 h5 h6 h7 h8)) ((s10 h1 h2 h3 h4 h5 h6 h7 h8))) rfl sh_65 ⟨_, rfl, rfl, by decide⟩ rfl rfl hd4 (Nat.le_refl 0) (Nat.le_refl 0) (Nat.le_of_ble_eq_true rfl) dX12_speech_123 (mQ.elim fun v5 m5 hp => ?_)
        obtain ⟨hpv, hpm⟩ := hp
        subst hpv
        have hpm := hpm.symm
        subst hpm
        exact st_ireturn rfl dX12_speech_126 (mQ.ret (q8 h1 h2 h3 h4 h5 h6 h7 h8))
      by_cases h9 : x2 = 6
      · refine so_tabI 127 (s3 h1) 6 h9 (by decide) (by decide) rfl (by decide) dX12_speech_38 ?_
        refine st_aload_n (i := 0) rfl (t := 0) rfl (by decide) dX12_speech_127 ?_
        refine so_getI (v := (mem 65 31)) 65 31 fr_X12_275_11 rfl sh_65 rfl dX12_speech_128 (fun r7 => ?_)
        refine st_iload_n (i := 1) rfl rfl dX12_speech_131 ?_
        refine st_callS (kc2 := 0) (ks2 := 0) (av := [(0, (mem 65 31)), (0, x1)]) mr_X12_271 ok_X12_has (c_X12_has (mset mem 65 0 0) (mem 65 31) x1 ) rfl rfl hd2 (Nat.le_refl 0) (Nat.le_refl 0) (Nat.le_of_ble_eq_true rfl) dX12_speech_132 (mQ.elim fun v6 m6 hp => ?_)
        obtain ⟨hpv, hpm⟩ := hp
        subst hpv
        have hpm := hpm.symm
        subst hpm
        refine so_ifeqB 142 (by decide) dX12_speech_135 (fun h10 => ?_) (fun h10 => ?_)
        · have h10 : ¬ (and32 (shr32 (mem 65 31) x1) 1 = 1) := h10
          refine st_iconst dX12_speech_142 ?_
          exact st_ireturn rfl dX12_speech_143 (mQ.ret (q9 h1 h2 h3 h4 h5 h6 h7 h8 h9 h10))
        · have h10 : (and32 (shr32 (mem 65 31) x1) 1 = 1) := h10
          refine st_iconst dX12_speech_138 ?_
          refine st_goto 143 (by decide) dX12_speech_139 ?_
          exact st_ireturn rfl dX12_speech_143 (mQ.ret (q10 h1 h2 h3 h4 h5 h6 h7 h8 h9 h10))
      by_cases h11 : x2 = 7
      · refine so_tabI 144 (s3 h1) 7 h11 (by decide) (by decide) rfl (by decide) dX12_speech_38 ?_
        refine st_aload_n (i := 0) rfl (t := 0) rfl (by decide) dX12_speech_144 ?_
        refine st_iload_n (i := 1) rfl rfl dX12_speech_145 ?_
        refine st_callV (kc2 := 0) (ks2 := 0) (av := [(0, x1)]) 65 11 mr_X12_320 ok_X12_forgets (c1 h1 h2 h3 h4 h5 h6 h7 h8 h9 h11) rfl sh_65 ⟨_, rfl, rfl, by decide⟩ rfl rfl hd_d1 (Nat.le_refl 0) (Nat.le_refl 0) (Nat.le_of_ble_eq_true rfl) dX12_speech_146 (mQ.elim fun v7 m7 p1 => ?_)
        exact st_ireturn rfl dX12_speech_149 (mQ.ret (q11 h1 h2 h3 h4 h5 h6 h7 h8 h9 h11 v7 m7 p1))
      by_cases h12 : x2 = 8
      · refine so_tabI 150 (s3 h1) 8 h12 (by decide) (by decide) rfl (by decide) dX12_speech_38 ?_
        refine st_aload_n (i := 0) rfl (t := 0) rfl (by decide) dX12_speech_150 ?_
        refine so_getA 65 25 fr_X12_58_11 rfl sh_65 fx_65_25 dX12_speech_151 ?_
        refine st_iload_n (i := 1) rfl rfl dX12_speech_154 ?_
        refine so_iald (v := (mem 82 x1)) 82 rfl sh_82 (by decide) (s11 h1 h2 h3 h4 h5 h6 h7 h8 h9 h11 h12) rfl dX12_speech_155 (fun r8 => ?_)
        exact st_ireturn rfl dX12_speech_156 (mQ.ret (q12 h1 h2 h3 h4 h5 h6 h7 h8 h9 h11 h12))
      refine so_tabO 157 (s3 h1) (by omega) (by decide) dX12_speech_38 ?_
      refine st_aload_n (i := 0) rfl (t := 0) rfl (by decide) dX12_speech_157 ?_
      refine so_getA 65 33 fr_X12_71_11 rfl sh_65 fx_65_33 dX12_speech_158 ?_
      refine st_iload_n (i := 1) rfl rfl dX12_speech_161 ?_
      refine so_iald (v := (mem 85 x1)) 85 rfl sh_85 (by decide) (s12 h1 h2 h3 h4 h5 h6 h7 h8 h9 h11 h12) rfl dX12_speech_162 (fun r9 => ?_)
      exact st_ireturn rfl dX12_speech_163 (mQ.ret (q13 h1 h2 h3 h4 h5 h6 h7 h8 h9 h11 h12))
def spFr (mem m : mmM) : Prop := (∀ a, a ≠ 65 → a ≠ 74 → a ≠ 75 → m a = mem a) ∧ ∀ j, j ≠ 0 → m 65 j = mem 65 j
theorem mset0 (m : mmM) (z : Int) {j : Int} (h : j ≠ 0) : mset m 65 0 z 65 j = m 65 j := by rw [mset_at, if_neg h]
theorem spFr_0 (mem : mmM) (z : Int) : spFr mem (mset mem 65 0 z) := ⟨fun a h _ _ => mset_ne h, fun j h => mset0 mem z h⟩
def tkP (mem : mmM) (cl : lawT) (x y v : Int) (m : mmM) : Prop := ((((0 ≤ x ∧ x < mem 65 27) ∧ 0 ≤ y ∧ y ≤ 9) → v = tellM mem cl x y ∧ m 65 0 = 0) ∧ (¬ ((0 ≤ x ∧ x < mem 65 27) ∧ 0 ≤ y ∧ y ≤ 9) → v = 0 ∧ m 65 0 = 1)) ∧ spFr mem m
theorem tk_in {mem : mmM} {cl : lawT} {x y v : Int} (hx : 0 ≤ x ∧ x ≤ mem 65 27 - 1) (hy : 0 ≤ y ∧ y ≤ 9) (e : v = tellM mem cl x y) : tkP mem cl x y v (mset mem 65 0 0) := ⟨⟨fun _ => ⟨e, mset_same _ _ _ _⟩, fun h => absurd ⟨⟨hx.1, by omega⟩, hy⟩ h⟩, spFr_0 mem 0⟩
theorem tk_out {mem : mmM} {cl : lawT} {x y : Int} (h : ¬ ((0 ≤ x ∧ x < mem 65 27) ∧ 0 ≤ y ∧ y ≤ 9)) : tkP mem cl x y 0 (mset mem 65 0 1) := ⟨⟨fun z => absurd z h, fun _ => ⟨rfl, mset_same _ _ _ _⟩⟩, spFr_0 mem 1⟩
theorem forgF_0 (mem : mmM) (cl : lawT) (z x : Int) : forgF (mset mem 65 0 z) cl x = forgF mem cl x := by
  unfold forgF
  rw [mset0 mem z (by decide), mset0 mem z (by decide), letM_of (m := mset mem 65 0 z) (mem := mem) (fun a ha => mset_ne (by omega)) (mset0 mem z (by decide))]
theorem c_X12_speech (mem : mmM) (x y : Int) (cl : lawT) (hp : playM mem) (hx : R32 x) (hy : R32 y) (h28 : -1 ≤ mem 65 28 ∧ mem 65 28 < 5) (hr : ¬ mem 65 28 = -1 → lawR mem (mem 65 28) (90 * mem 65 28) cl ∧ 0 ≤ mem 70 (mem 65 28) ∧ mem 70 (mem 65 28) ≤ 90) : con 0 bX12_speech 9 [(2, 65), (0, x), (0, y)] mem (tkP mem cl x y) := by
  have hn := hp.1
  have e27 : mset mem 65 0 0 65 27 = mem 65 27 := mset0 mem 0 (by decide)
  have e28 : mset mem 65 0 0 65 28 = mem 65 28 := mset0 mem 0 (by decide)
  have e79 : mset mem 65 0 0 79 = mem 79 := mset_ne (by decide)
  have e80 : mset mem 65 0 0 80 = mem 80 := mset_ne (by decide)
  have e70 : mset mem 65 0 0 70 = mem 70 := mset_ne (by decide)
  have hp0 : playM (mset mem 65 0 0) := playM_congr hp e27 e79 e80 (mset_ne (by decide))
  have hr0 : ¬ mset mem 65 0 0 65 28 = -1 → lawR (mset mem 65 0 0) (mset mem 65 0 0 65 28) (90 * mset mem 65 0 0 65 28) cl ∧ 0 ≤ mset mem 65 0 0 70 (mset mem 65 0 0 65 28) ∧ mset mem 65 0 0 70 (mset mem 65 0 0 65 28) ≤ 90 := by
    rw [e28, e70]
    intro g
    have r := hr g
    exact ⟨lawR_same (fun a ha => mset_ne (by omega)) r.2.2 r.1, r.2⟩
  refine cn_X12_speech (bk_X12_speech_0 (d1 := 8) (P1 := fun v m => v = forgF (mset mem 65 0 0) cl x ∧ ∀ a, a ≠ 74 → a ≠ 75 → m a = mset mem 65 0 0 a)
    (c1 := fun h _ _ _ _ _ _ _ _ _ => c_X12_forgets (mset mem 65 0 0) x cl hp0 (by rw [e27]; omega) (by rw [e28]; exact h28) hr0)
    (q1 := fun h => tk_out (by omega)) (q2 := fun _ h => tk_out (fun z => h z.2))
    (q3 := fun h g e => tk_in h g ?_) (q4 := fun h g n0 e => tk_in h g ?_) (q5 := fun h g n0 n1 e => tk_in h g ?_) (q6 := fun h g n0 n1 n2 e => tk_in h g ?_) (q7 := fun h g n0 n1 n2 n3 e => tk_in h g ?_) (q8 := fun h g n0 n1 n2 n3 n4 e => tk_in h g ?_)
    (q9 := fun h g n0 n1 n2 n3 n4 n5 e z => tk_in h g ?_) (q10 := fun h g n0 n1 n2 n3 n4 n5 e z => tk_in h g ?_) (q11 := fun h g n0 n1 n2 n3 n4 n5 n6 e v7 m7 q => ?_) (q12 := fun h g n0 n1 n2 n3 n4 n5 n6 n7 e => tk_in h g ?_) (q13 := fun h g n0 n1 n2 n3 n4 n5 n6 n7 n8 => tk_in h g ?_))
  · unfold tellM
    rw [if_pos e]
  · unfold tellM
    rw [if_neg n0, if_pos e]
  · unfold tellM
    rw [if_neg n0, if_neg n1, if_pos e]
  · unfold tellM
    rw [if_neg n0, if_neg n1, if_neg n2, if_pos e, e80]
  · unfold tellM
    rw [if_neg n0, if_neg n1, if_neg n2, if_neg n3, if_pos e, e79]
  · unfold tellM
    rw [if_neg n0, if_neg n1, if_neg n2, if_neg n3, if_neg n4, if_pos e, e79, e80, e27]
  · unfold tellM
    rw [if_neg n0, if_neg n1, if_neg n2, if_neg n3, if_neg n4, if_neg n5, if_pos e, b2i_0 z]
  · unfold tellM
    rw [if_neg n0, if_neg n1, if_neg n2, if_neg n3, if_neg n4, if_neg n5, if_pos e, b2i_1 z]
  · obtain ⟨q1, q2⟩ := q
    refine ⟨⟨fun _ => ⟨?_, ?_⟩, fun z => absurd ⟨⟨h.1, by omega⟩, g⟩ z⟩, fun a a1 a2 a3 => ?_, fun j hj => ?_⟩
    · unfold tellM
      rw [if_neg n0, if_neg n1, if_neg n2, if_neg n3, if_neg n4, if_neg n5, if_neg n6, if_pos e, q1, forgF_0]
    · rw [q2 65 (by decide) (by decide), mset_same]
    · rw [q2 a a2 a3, mset_ne a1]
    · rw [q2 65 (by decide) (by decide), mset0 mem 0 hj]
  · unfold tellM
    rw [if_neg n0, if_neg n1, if_neg n2, if_neg n3, if_neg n4, if_neg n5, if_neg n6, if_neg n7, if_pos e]
  · unfold tellM
    rw [if_neg n0, if_neg n1, if_neg n2, if_neg n3, if_neg n4, if_neg n5, if_neg n6, if_neg n7, if_neg n8]
theorem same_sp {mem m : mmM} (h : spFr mem m) : same mem m := ⟨fun a ha => h.1 a (by unfold keepC at ha; omega) (by unfold keepC at ha; omega) (by unfold keepC at ha; omega), by rw [h.1 1 (by decide) (by decide) (by decide)], fun j hj => h.2 j (by unfold keepJ at hj; omega), odOr_of (h.1 58 (by decide) (by decide) (by decide))⟩
theorem bitN_b2i (mk s : Int) : b2i (and32 (shr32 mk s) 1 = 1) = bitN mk s := by
  have h := bitN_01 mk s
  unfold bitN at h ⊢
  rcases h with h | h
  · rw [h]
    rfl
  · rw [h]
    rfl
theorem tell_eq {sc : Int → Int} {ls : Nat → lawT} {t : Int} {mem : mmM} (w : Inv sc ls t mem) {x y : Int} (hx : 0 ≤ x ∧ x < mem 65 27) : tellX mem x y = tellM mem (heldL ls mem) x y := by
  have r := w.row x hx.1 hx.2
  have hn := w.n
  have e := w.2.2.2.2.2.1
  unfold tellX tellM
  refine ite_congr rfl (fun _ => r.1.1) (fun _ => ite_congr rfl (fun _ => r.1.2.1) (fun _ => ite_congr rfl (fun _ => r.1.2.2.1) (fun _ => ite_congr rfl (fun _ => r.2.2.1) (fun _ => ite_congr rfl (fun _ => r.2.2.2.1) (fun _ => ite_congr rfl (fun _ => r.2.2.2.2) (fun _ => ite_congr rfl (fun _ => by rw [e.1.2]) (fun _ => ite_congr rfl (fun _ => ?_) (fun _ => ite_congr rfl (fun _ => r.1.2.2.2) (fun _ => ((e.2.2.2 x hx.1 (by omega)).2.2.1 hx.2).symm)))))))))
  rw [bitN_b2i, w.forgets hx, forgF_per, e.1.2]
/-! the exception leaves X's method -/
theorem mmR_ext {G : mmG} {mem : mmM} {s : State} {H H1 : Heap} (hR : mmR G mS mem s H) (hz : H.size ≤ H1.size) (ho : ∀ x : Nat, x < H.size → H1[x]? = H[x]?) : mmR G mS mem s H1 := by
  obtain ⟨h1, h2, h3, h4, h5, h6, h7, h8, h9⟩ := hR
  refine ⟨fun h => absurd (show false = true from h) (by decide), h2, fun k' x hx => ?_, ⟨h4.1.kept (ho _ (by omega)), h4.2.kept (fun x hx _ => ho x hx)⟩, h5, by omega, h7, h8, h9⟩
  exact (h3 k' x hx).kept (ho _ (vx_lt h3 hx))
def exX (mem : mmM) (G : mmG) : String → State → State → Prop := fun E st t => E = exNm ∧ mmR G mS mem t t.heap ∧ va_F (mmAd G) st t
def exF (mem : mmM) : mmTE := fun _ _ _ R s _ args below _ c G t => (∀ x ∈ c.exceptionTable.toList, False) → vx_MQ below (mmPost G (fun _ _ _ => False)) (exX mem G) args s R.cells R.slots (mmAd G) t
def exNs : List String := ["java/lang/RuntimeException", "java/lang/Exception"]
def exRx : ByteArray := ⟨#[0x2a, 0x2b, 0xb7, 0x00, 0x0d, 0xb1]⟩
/-- the words of 'throw new' of this exception, whose constructor calls on by an index of its own -/
abbrev exL : List Cond := Bundle.ownAtomsX RX11 144 exNm 13 exRx exNs
def exB : List Cond := [Cond.castable exNm exNm, Cond.declares (Bundle.initS "java/lang/RuntimeException"), Cond.declares (Bundle.initS "java/lang/Exception"), Cond.declares (Bundle.initS Bundle.tN), .isRef (.static Bundle.tN "UNASSIGNED_STACK" Bundle.steD), .isRef (.static Bundle.tN "SUPPRESSED_SENTINEL" Bundle.listD), .laysStatic Bundle.tN "UNASSIGNED_STACK" Bundle.steD, .laysStatic Bundle.tN "SUPPRESSED_SENTINEL" Bundle.listD]
theorem ex_in : ∀ w ∈ exL.filter goodWord, w ∈ lw_tbl := by decide +kernel
theorem ex_bad : ∀ w ∈ exL.filter (fun w => !goodWord w), w ∈ exB := by decide +kernel
theorem ex_fit : Bundle.fit exNm = true ∧ ∀ n ∈ exNs, Bundle.fit n = true := by decide +kernel
theorem fl_no {l : Launch} (h : l.flags = flags0) : l.stackTraces = false := by
  unfold Launch.stackTraces
  rw [h]
  decide
theorem ex_dcl {x : MethodName} {b : ByteArray} {n : Nat} {r : Option FieldType} {args : Array Value} {s : State} (h1 : (Cond.instanceMethod x).before args s = true) (h2 : (Cond.code x b n r).before args s = true) : (Cond.declares x).before args s = true := by
  obtain ⟨m, meth, hn, hm, hst, -⟩ := Cond.instanceMethod_spec h1
  obtain ⟨meth', c, hm', -, -, -, -, -, -, hsig⟩ := Cond.code_spec hn h2
  cases hm.symm.trans hm'
  show (Cond.declares x).holds args s none s [] = true
  simp [Cond.holds, Cond.value, hn, hm, hst, hsig]
theorem ex_words {args : Array Value} {s : State} {A : Nat → Prop} (hg : ∀ w ∈ mm_tbl, w.before args s = true) (hc : va_Nw (.castable exNm exNm) s) (hU : vx_Zq Bundle.tN "UNASSIGNED_STACK" Bundle.steD A s s.heap) (hN : vx_Zq Bundle.tN "SUPPRESSED_SENTINEL" Bundle.listD A s s.heap) : ∀ w ∈ exL, w.before args s = true :=
  vx_hat (fun w hw => hg w (List.mem_filter.mpr ⟨ex_in w hw, (List.mem_filter.mp hw).2⟩)) ex_bad
    (vx_c (va_Nw.use rfl hc) (vx_c (ex_dcl (b := prog_19_method_2_code) (n := 2) (r := none) (hg _ (mm_wk5 117 (by decide +kernel) rfl)) (hg _ (mm_wk5 118 (by decide +kernel) rfl))) (vx_c (ex_dcl (b := prog_16_method_2_code) (n := 2) (r := none) (hg _ (mm_wk5 120 (by decide +kernel) rfl)) (hg _ (mm_wk5 121 (by decide +kernel) rfl))) (vx_c (ex_dcl (b := prog_22_method_2_code) (n := 2) (r := none) (hg _ (mm_wk5 123 (by decide +kernel) rfl)) (hg _ (mm_wk5 124 (by decide +kernel) rfl))) (vx_c (vx_isRefq hU.1) (vx_c (vx_isRefq hN.1) (vx_c hU.2.word (vx_c hN.2.word vx_n))))))))
theorem mmSF.back {G : mmG} {s : State} {H : Heap} {locs : List Loc} (h : mmSF G s H) (hS : va_S (mmAd G) s.heap H locs) (hb : G.1.2 ≤ s.heap.size) : mmSF G s s.heap := h.kept (fun a _ ha => (hS.2.1 a (by have : ¬ G.1.2 ≤ a := ha; omega) ha).symm)
/-- the constructor runs and the object is thrown; after the library's row for a class whose constructor calls on by the index 7 -/
theorem ex_ctor {p : Program} {l : Launch} {e : Env} {R : Room} {s : State} {m₀ : MethodId} {args : Array Value} {below : List Frame} {meth : Method} {c : Code} {W : State} {cells slots : Nat} (X : Stand p l e R s m₀ args below meth c W [] cells slots) (hexec : p.tables.exec = Jvm.exec) (htr : e.platform.stackTraces = false)
    (hown : s.vm.findClass RX11 = some m₀.cls) (h : ∀ a ∈ exL, a.before args s = true)
    {a : Addr} {cX : ClassId} {kX : Class} (hfoundX : s.vm.findClass exNm = some cX) (hkX : s.vm.classes[cX]? = some kX) (hcell : W.heap[a]? = some (freshCell cX kX)) (hnew : s.heap.size ≤ a) {msg : Value} (hmsg : msg.isRef = true)
    {g : JFrame} (hg : g.method = m₀) (hsize : g.locals.size = c.maxLocals) (hlocked : g.locked = none) (hentered : g.entered = []) {rest : List Value} (hstack : g.stack = msg :: .ref a :: .ref a :: rest)
    (hd6 : decode c.code g.pc = .ok (.invokespecial 144, 3)) (hd9 : decode c.code (g.pc + 3) = .ok (.athrow, 1)) (hout : ∀ x ∈ c.exceptionTable.toList, covers x (g.pc + 3) = false)
    (hRframes : 5 < R.frames) (hRlocals : 2 * g.monitorRoom + ((Value.ref a :: rest).map fun v => v.category).sum + 81 ≤ R.locals) (hlocks : meth.locks = false) :
    ∃ U : State, Steps p.tables e below (W.setTop g) U ∧ U.status = .running ∧ Ended U below (.threw a) ∧ s.WarmedH U.vm ∧ s.sameButNew ({ U with vm := s.vm } : State) [] cells slots ∧ ∃ ce, U.heap[a]? = some ce ∧ ce.vm = .none ∧ s.vm.findClass exNm = some ce.cls := by
  have howns : e.platform.frameOwnsMonitors = true := by rw [X.admits.platform]
  have hfin : e.platform.finalization = false := by rw [X.admits.platform]
  have hpl : e.platform.magicAccessors = ({} : Platform).magicAccessors := by rw [X.admits.platform]
  have hw : ∀ w : Cond, w ∈ exL → w.holds args s none s [] = true := fun w hw => h w hw
  obtain ⟨T, Z0, L, -, Y⟩ := ThrowableC.of_atoms (args := args) howns hfin hpl (fun x hx => h x (List.mem_append_left _ (List.mem_append_left _ (List.mem_append_left _ hx))))
  obtain ⟨Z, M, LZ, LM, hnZ⟩ := Init0T.ofS_atoms (args := args) hpl L Y (fun x hx => h x (List.mem_append_left _ (List.mem_append_left _ (List.mem_append_right _ hx))))
  obtain ⟨P1, Ps, hlen, L1, hL, hP1m, hlink1, hlink⟩ := Bundle.chainSX (args := args) hpl hnZ (ix := 13) (rx := exRx) (by decide +kernel) (by decide +kernel) (by decide +kernel) (by decide +kernel) exNs exNm ex_fit.1 ex_fit.2 (fun x hx => h x (List.mem_append_left _ (List.mem_append_right _ hx)))
  have hlen2 : Ps.length = 2 := hlen
  have hfound : s.vm.findClass exNm = some P1.m.cls := findClass_of_methodNamed hP1m
  cases Option.some.inj (hfoundX.symm.trans hfound)
  obtain ⟨c1, kX', hc1, hk, hord, -, -, hn6⟩ := Cond.instantiable_spec (hw (.instantiable exNm 6) (by decide +kernel))
  cases Option.some.inj (hc1.symm.trans hfound)
  cases Option.some.inj (hkX.symm.trans hk)
  have hsel : ∀ (y : MethodName) (f : MethodId), Cond.selects exNm y y ∈ exL → s.methodNamed? y = some f → (y.cls ≠ "java/lang/invoke/MethodHandle" ∧ y.cls ≠ "java/lang/invoke/VarHandle") → selectMethod e.platform s.vm P1.m.cls f = .method f := by
    intro y f hm hy hd
    obtain ⟨c2, r2, m2, q1, q2, q3, q4, -⟩ := Cond.selects_spec (hw _ hm)
    cases Option.some.inj (q1.symm.trans hfound)
    cases Option.some.inj (q2.symm.trans (State.methodFound?_of_named hy hd))
    cases Option.some.inj (q3.symm.trans hy)
    rw [Launch.admits_selectMethod X.admits]; exact q4
  have hsel0 := hsel Bundle.tFill0 T.fill0 (by decide +kernel) Y.fill0 (by decide)
  have hselF := hsel Bundle.tFill T.fill (by decide +kernel) Y.fill (by decide)
  obtain ⟨cellS0, hcS0, hiss⟩ := Y.statics
  obtain ⟨u0, hu0⟩ := Cond.staticRefV Y.unassigned L.unassignedStatic L.statics hcS0 hiss (hw (.isRef (.static Bundle.tN "UNASSIGNED_STACK" Bundle.steD)) (by decide +kernel))
  obtain ⟨sen, hsen⟩ := Cond.staticRefV Y.sentinel L.sentinelStatic L.statics hcS0 hiss (hw (.isRef (.static Bundle.tN "SUPPRESSED_SENTINEL" Bundle.listD)) (by decide +kernel))
  obtain ⟨ci198, i198, fB, hk198, hg198, ha198, hsB, -, hnB, htB, hffB⟩ := Cond.ownField (t := .object "java/lang/Object") Y.found L.cls (by decide +kernel) (hw (.fieldLink Bundle.tN 198 Bundle.tN "backtrace" "Ljava/lang/Object;") (by decide +kernel)) (hw (.lays Bundle.tN Bundle.tN "backtrace" "Ljava/lang/Object;") (by decide +kernel)) e.platform hpl
  obtain ⟨cellS, hcS', heS, -, hkeep⟩ := X.same.2.2.2.2.2 T.aS cellS0 hcS0
  have hcellS : W.heap[T.aS]? = some cellS := hcS'
  have hout' : ∀ i, (⟨T.aS, i⟩ : Loc) ∉ ([] : List Loc) := fun i hmem => nomatch hmem
  have hknownS : cellS.vm ≠ .unknown := by
    rw [heS]; intro hu
    rw [show cellS0.vm = .unknown from hu] at hiss
    cases hiss
  have hneS : T.aS ≠ a := Nat.ne_of_lt (Nat.lt_of_lt_of_le (Array.getElem?_eq_some_iff.mp hcS0).1 hnew)
  obtain ⟨iM, hffM⟩ := Y.msg
  obtain ⟨tyC, dC, hdC, hdnC⟩ := Cond.laysAt hfound hk Y.cause (hw (.lays exNm Bundle.tN "cause" "Ljava/lang/Throwable;") (by decide +kernel))
  obtain ⟨tyS, dS, hdS, hdnS⟩ := Cond.laysAt hfound hk Y.stack (hw (.lays exNm Bundle.tN "stackTrace" Bundle.steD) (by decide +kernel))
  obtain ⟨tyP, dP, hdP, hdnP⟩ := Cond.laysAt hfound hk Y.supp (hw (.lays exNm Bundle.tN "suppressedExceptions" Bundle.listD) (by decide +kernel))
  obtain ⟨tyM, dM, hdM, hdnM⟩ := Cond.laysAt hfound hk hffM (hw (.lays exNm Bundle.tN "detailMessage" "Ljava/lang/String;") (by decide +kernel))
  obtain ⟨tyB, dB, hdB, hdnB⟩ := Cond.laysAt hfound hk hffB (hw (.lays exNm Bundle.tN "backtrace" "Ljava/lang/Object;") (by decide +kernel))
  have bC := Cond.laysApart hdB hdC hdnB hdnC (by rw [hnB, Y.causeName]; decide)
  have bS := Cond.laysApart hdB hdS hdnB hdnS (by rw [hnB, Y.stackName]; decide)
  have bP := Cond.laysApart hdB hdP hdnB hdnP (by rw [hnB, Y.suppName]; decide)
  have hskip : SkipFacts T e.platform s (fun u => u) u0 ((preparedCellV T.toThrowableT (freshCell P1.m.cls kX) a u0 sen).withEntry W.cur) :=
    ⟨{ ci198 := ci198, i198 := i198, fBack := fB }, ⟨hk198, hg198, ha198, hsB⟩, by
      have := fresh_default (c := P1.m.cls) tyB
      rw [htB] at this
      simpa [preparedCellV, Cell.setSlot, Cell.withEntry, Array.getElem?_setIfInBounds, bC, bS, bP, bC.symm, bS.symm, bP.symm, defaultValue] using this, fun _ _ => rfl⟩
  obtain ⟨tm, methC, cdC, kC, vm₁, hnC, -, -, -, -, -, -, -, hW₁, st1⟩ := Steps.initColdS (tb := p.tables) (e := e) (below := below) (s := s) (U := W) X.here hexec X.warmed hpl hown (t := Bundle.initS exNm) rfl rfl (Bundle.fit_spec ex_fit.1).2
    (hw (.methodLink RX11 144 (Bundle.initS exNm)) (by decide +kernel)) (h (.instanceMethod (Bundle.initS exNm)) (by decide +kernel)) (bytes := exRx) (maxL := 2) (h (.code (Bundle.initS exNm) exRx 2 none) (by decide +kernel))
    (f := g) hg (a := a) (msg := msg) (rest := .ref a :: rest) hstack hd6
  cases Option.some.inj (hnC.symm.trans hP1m)
  have X₁ := X.noted hW₁
  obtain ⟨vm₂, X₂, st2⟩ := X₁.ctorMessageOffV hexec (g := { g with stack := .ref a :: rest }) hg hsize T L Z LZ M LM (P1 :: Ps)
    (fun P hP => (List.mem_cons.mp hP).elim (fun e => by rw [e]; exact L1) (fun hP => hL P hP)) ⟨hlink1, hlink⟩ (u0 := u0) (sen := sen) (self := a) hmsg (cell := freshCell P1.m.cls kX) (cellS := cellS)
    hcell (fun _ => by simp) (by simp) rfl rfl hsel0 hselF hcellS hneS hknownS (by rw [hkeep _ (hout' _)]; exact hu0) (by rw [hkeep _ (hout' _)]; exact hsen)
    (Takes.of_laid hk hord tyC (by rw [Y.causeType]; rfl)) (Takes.of_laid hk hord tyS (by rw [Y.stackType]; exact fits_refV_array _ u0)) (Takes.of_laid hk hord tyP (by rw [Y.suppType]; exact fits_refV_object _ sen))
    (Takes.of_laid hk hord tyM (by rw [Y.msgType]; exact fits_refV_object _ ⟨msg, hmsg⟩)) Y.objLocals hskip htr [] hd6
    (by simp only [List.length_cons, hlen2]; omega) (by simp only [List.length_cons, hlen2]; exact hRlocals)
  obtain ⟨hwalk, hrun, hended, hWU, hsame⟩ := X₂.athrowLeaves hexec (g := { g with stack := .ref a :: rest, pc := g.pc + 3 }) hg hlocked hentered hout (a := a) (rest := rest) rfl hd9
  have hlt : a < ((W.setVm vm₁).setVm vm₂).heap.size := (Array.getElem?_eq_some_iff.mp hcell).1
  have hU := heapAt_setCell_self (s := (W.setVm vm₁).setVm vm₂) (plainBareV T.toThrowableT (freshCell P1.m.cls kX) a u0 sen msg) hlt
  refine ⟨_, st1 _ (fun acts => ?_), hrun, hended, hWU, hsame.weaken (fun y hy hlt' => ?_) (Nat.le_refl _) (Nat.le_refl _), _, hU, rfl, hfound⟩
  · rw [doInvoke_state]
    exact st2 _ hwalk
  · rcases List.mem_append.mp hy with h1 | h1
    · exact h1
    · exfalso
      have hb : y.base = a := by
        simp only [List.mem_cons, List.not_mem_nil, or_false] at h1
        rcases h1 with rfl | rfl | rfl | rfl | rfl <;> rfl
      rw [hb] at hlt'
      exact Nat.not_lt.mpr hnew hlt'
theorem ex_throw {d : Nat} {lc : List mmV} {mem : mmM} (hd : 6 ≤ d) : mmTF (exF mem) bX11_speech d 1 6 21 lc [] mS mem := by
  intro p l e R s m args below meth c G H locs cells slots ls X T hT XT
  by_cases ht : ∀ x ∈ c.exceptionTable.toList, False
  · have hexec := X.1.1
    have hb := X.1.2.1
    have hts := X.1.2.2.2.2.2.1
    have hN := X.1.2.2.2.2.2.2.2.2
    have hSF := mmSF.back X.2.1.2.2.2.1.2 X.2.2.1 X.2.2.2.1
    have hcells := X.2.2.2.2.2.1
    have hslots := X.2.2.2.2.2.2.1
    have hfr := X.2.2.2.2.2.2.2.1
    have hlo := X.2.2.2.2.2.2.2.2.1
    have hS := X.2.2.1
    obtain ⟨lv, hlv, -⟩ := X.2.2.2.2.1
    have hsize : ls.size = c.maxLocals := hlv.1.trans X.1.2.2.1.symm
    have htr : e.platform.stackTraces = false := (show e.platform.stackTraces = l.stackTraces by rw [XT.admits.platform]).trans (fl_no X.2.2.2.2.2.2.2.2.2)
    have Y := vx_rebase XT (R' := { frames := R.frames, locals := R.locals, cells := 1, slots := 6 }) (Nat.le_refl _) (Nat.le_refl _) hcells hslots
    obtain ⟨s', hA⟩ : ∃ z, z = (T.setVm s.vm).setFrames (.invoking m args :: below) := ⟨_, rfl⟩
    rw [← hA] at Y
    have hvm : s'.vm = s.vm := by rw [hA]; rfl
    have hhp : s'.heap = H := by rw [hA]; exact hT
    have hW0 : s.WarmedH s'.vm := by rw [hvm]; exact State.WarmedH.refl s
    have hts' : ∀ w ∈ mm_tbl, w.before args s' = true := fun w hw => word_at hW0 (good_of_word (List.mem_filter.mp hw).2) (hts w hw)
    have hN' := hN.warm hW0
    obtain ⟨sa, hsa⟩ := hN'.2.2.1
    have hU' : vx_Zq Bundle.tN "UNASSIGNED_STACK" Bundle.steD (mmAd G) s' s'.heap := by rw [hhp]; exact vx_Zq.moved hW0.alike (hSF.1.kept hS.2.1)
    have hS' : vx_Zq Bundle.tN "SUPPRESSED_SENTINEL" Bundle.listD (mmAd G) s' s'.heap := by rw [hhp]; exact vx_Zq.moved hW0.alike (hSF.2.kept hS.2.1)
    have h : ∀ w ∈ exL, w.before args s' = true := ex_words hts' hN'.2.2.2 hU' hS'
    have hown' : s'.vm.findClass RX11 = some m.cls := by rw [hvm]; exact X.1.2.2.2.2.1
    obtain ⟨vm₁, cX, kX, hfX, hkX, -, -, X₁, st1⟩ := Y.newCold hexec (own := RX11) (C := exNm) (index := 140) (n := 6) hown' (hts' _ (mm_wk5 73 (by decide +kernel) rfl)) (h _ (by decide +kernel)) (hts' _ (mm_wk1 20 (by decide +kernel) rfl))
      (g := F0 m 21 ls []) rfl (by rw [hb]; exact dX11_speech_21) (Nat.le_refl _) (Nat.le_refl _)
    generalize hT1 : (T.setVm vm₁).pushCell { cls := cX, slots := kX.instanceTypes.map defaultValue, vm := .none } = T1 at X₁ st1
    have hcat : (Value.ref T.heap.size).category = 1 := rfl
    have hcellA : T1.heap[T.heap.size]? = some (freshCell cX kX) := by rw [← hT1]; exact State.heap_pushCell_size _ _
    have d3' : decode c.code (21 + 3) = .ok (.dup, 1) := by rw [hb]; exact dX11_speech_24
    have d4' : decode c.code (21 + 4) = .ok (.ldc 142, 2) := by rw [hb]; exact dX11_speech_25
    obtain ⟨U, hsteps, hrun, hend, hW, hsame, ce, hce, hcv, hcl⟩ := ex_ctor X₁ hexec htr hown' h hfX hkX hcellA (by rw [hhp, hT]; exact Nat.le_refl _) (msg := .ref sa) rfl
      (g := { method := m, pc := 21 + 6, locals := ls, stack := .ref sa :: .ref T.heap.size :: .ref T.heap.size :: [], locked := none }) rfl hsize rfl rfl (rest := []) rfl
      (by rw [hb]; exact dX11_speech_27) (by rw [hb]; exact dX11_speech_30) (fun x hx => (ht x hx).elim) (by show 5 < R.frames; omega) (by show 0 + (1 + 0) + 81 ≤ R.locals; omega) X.1.2.2.2.2.2.2.1
    obtain ⟨f1, f2⟩ := vx_frame hsame
    rw [hhp] at f1 f2
    have f2' : ∀ q : Nat, q < H.size → U.heap[q]? = H[q]? := fun q hq => f2 q hq (fun z hz => nomatch hz)
    have hWs : s.WarmedH U.vm := State.WarmedH.trans hW0 hW
    have hcl' : s.vm.findClass exNm = some ce.cls := by
      rw [hvm] at hcl
      exact hcl
    have hall : s.sameButNew ({ U with vm := s.vm } : State) locs R.cells R.slots := by
      subst hA
      obtain ⟨e1, e2⟩ := hsame
      rw [State.setFrames_setFrames] at e1
      have h2 : (T.setVm s.vm).sameButNew ({ U with vm := s.vm } : State) [] (0 + 1) (0 + 6) := ⟨e1, e2⟩
      have h3 := XT.same.trans h2
      rw [List.append_nil] at h3
      exact h3.mono hcells hslots
    refine ⟨U, ?_, fun _ => ⟨.threw T.heap.size, hrun, hend, Or.inr ⟨T.heap.size, rfl, exNm, ce, locs, ⟨rfl, (mmR_ext X.2.1 f1 f2').moved hWs.alike, (mm_Snew hS f1 f2').F rfl⟩, hce, hcv, hcl', hWs, hall, hS.2.2⟩⟩⟩
    refine st1 _ ?_
    show Steps p.tables e below (T1.setTop { method := m, pc := 21 + 3, locals := ls, stack := .ref T.heap.size :: [], locked := none }) _
    jvm_step X₁.here [X₁.here.top, hexec, d3', Value.category]
    exact X₁.ldcString hexec (own := RX11) (text := exTx) (index := 142) (a := sa) hown' hsa.1 hsa.2
      (g := { method := m, pc := 21 + 4, locals := ls, stack := .ref T.heap.size :: .ref T.heap.size :: [], locked := none }) rfl d4' _ hsteps
  · exact ⟨_, Steps.refl _, fun h => absurd h ht⟩
theorem ex_walk {mem : mmM} {x y : Int} (hx : R32 x) (hy : R32 y) (out : ¬ ((0 ≤ x ∧ x < mem 23 1) ∧ 0 ≤ y ∧ y ≤ 9)) : mmTF (exF mem) bX11_speech 6 1 6 0 [(2, 0), (0, x), (0, y)] [] mS mem := by
  have ex : ∀ lc : List mmV, mmTF (exF mem) bX11_speech 6 1 6 21 lc [] mS mem := fun lc => ex_throw (Nat.le_refl 6)
  refine tf_aload_n (i := 0) rfl (t := 0) rfl (by decide) dX11_speech_0 ?_
  refine tf_fact (P := mem 0 4 = 23) (fun G s H hR => hR.2.2.2.2.2.2.2.1 rfl _ fx_0_4) (fun hv => ?_)
  refine tf_getfield 0 4 fr_X11_42_10 rfl sh_0 hv dX11_speech_1 ?_
  refine tf_iload_n (i := 1) rfl rfl dX11_speech_4 ?_
  refine tf_callV (kc2 := 1) (ks2 := 6) (av := [(0, x)]) 23 8 mr_X11_136 ok_X8_has (c_X8_has mem x hx) rfl sh_23 ⟨_, rfl, rfl, by decide⟩ rfl rfl (by decide) (Nat.le_of_eq (Nat.zero_add 1)) (Nat.le_of_eq (Nat.zero_add 6)) (Nat.le_of_ble_eq_true rfl) dX11_speech_5 (fun r sh' mem' hq => ?_)
  obtain ⟨v, hr, hs, hv1, hm⟩ := hq
  rw [hr, hs, hm]
  show mmTF (exF mem) bX11_speech 6 1 6 8 [(2, 0), (0, x), (0, y)] ((0, v) :: []) mS mem
  refine tf_if_eq 21 (by decide) dX11_speech_8 (fun _ => ex _) (fun h1 => ?_)
  have gx : 0 ≤ x ∧ x < mem 23 1 := Decidable.byContradiction fun g => h1 (by rw [hv1, b2i_0 g]; exact mm_w0)
  refine tf_iload_n (i := 2) rfl rfl dX11_speech_11 ?_
  refine tf_if_lt 21 (by decide) dX11_speech_12 (fun _ => ex _) (fun h2 => ?_)
  refine tf_iload_n (i := 2) rfl rfl dX11_speech_15 ?_
  refine tf_bipush rfl dX11_speech_16 ?_
  refine tf_icmp_le 31 (by decide) dX11_speech_18 (fun h3 => ?_) (fun _ => ex _)
  exfalso
  rw [w32_id hy.1 hy.2] at h2 h3
  have h9 : w32 9 = 9 := by decide
  rw [h9] at h3
  exact out ⟨gx, by omega, h3⟩
theorem vx_X11 (mem : mmM) (x y : Int) (hx : R32 x) (hy : R32 y) (out : ¬ ((0 ≤ x ∧ x < mem 23 1) ∧ 0 ≤ y ∧ y ≤ 9)) (l : Launch) (G : mmG) (hfl : l.flags = flags0) : vx_Met l bX11_speech.1 (Cond.code bX11_speech.1 bX11_speech.2.1 bX11_speech.2.2.1 bX11_speech.2.2.2 :: mm_tbl) ({ frames := 6, cells := 1, slots := 6, locals := 64 * 6 } : Room) (mmPre G [(2, 0), (0, x), (0, y)] mS mem) (mmPost G (fun _ _ _ => False)) (exX mem G) 1 6 (mmAd G) := by
  refine vx_ofW (cc := bX11_speech.2.1) (maxL := bX11_speech.2.2.1) (ret := bX11_speech.2.2.2) ok_X11_speech.2.2.2.2 rfl ?_
  intro p e s m args below meth c s₁ BL hml ht hv
  obtain ⟨rfl, hR, hN⟩ := hv
  have hts := atoms_spec (ws := Cond.code bX11_speech.1 bX11_speech.2.1 bX11_speech.2.2.1 bX11_speech.2.2.2 :: mm_tbl) BL.pre
  have hown : s.vm.findClass bX11_speech.1.cls = some m.cls := findClass_of_methodNamed BL.named
  have hname : meth.name = bX11_speech.1.name := (name_of_methodNamed BL.named BL.method).1
  have hl := lv_entry (([(2, 0), (0, x), (0, y)] : List mmV).map (mmEnc G)) (n := bX11_speech.2.2.1) (by rw [mmEntry_len]; exact Nat.le_refl 3)
  rw [lg_entry_eq]
  intro T hT XT
  obtain ⟨t, a, b⟩ := ex_walk hx hy out p l e _ s m _ below meth c G s.heap [] 0 0 _ ⟨⟨BL.exec, BL.bytes, hml, BL.returns, hown, fun w hw => hts w (List.mem_cons_of_mem _ hw), BL.notSynchronized, (fun h => hname.trans h), hN⟩, hR, va_S.rf, hR.2.2.2.2.2.1, ⟨_, hl, fun i v hi hv => by
    have := mmEntry_in G [(2, 0), (0, x), (0, y)] 0 i v hi hv
    rwa [Nat.zero_add] at this⟩, Nat.le_refl _, Nat.le_refl _, Nat.le_refl _, Nat.le_refl _, hfl⟩ T hT XT
  exact ⟨t, a, b ht⟩
/-! the law's own SPEECH catches it -/
def lsH : List (Nat × Nat × Nat × Nat) := [(0, 10, 13, 13)]
def chF (hh : List (Nat × Nat × Nat × Nat)) (Q : mmQ) : mmTE := fun _ _ _ R s _ args below _ c G t => c.exceptionTable.toList = tableOf hh → MQ below (mmPost G Q) args s R.cells R.slots (mmAd G) t
theorem tf_of {hh : List (Nat × Nat × Nat × Nat)} {B : mmB} {d kc ks pc : Nat} {Q : mmQ} {lc st : List mmV} {sh : mmS} {mem : mmM} (h : mmT B d kc ks Q pc lc st sh mem) : mmTF (chF hh Q) B d kc ks pc lc st sh mem := by
  intro p l e R s m args below meth c G H locs cells slots ls X T hT XT
  obtain ⟨t, a, b⟩ := h p l e R s m args below meth c G H locs cells slots ls X T hT XT
  exact ⟨t, a, fun _ => b⟩
def mmCH (hh : List (Nat × Nat × Nat × Nat)) (B : mmB) (d kc ks : Nat) (av : List mmV) (sh : mmS) (mem : mmM) (Q : mmQ) : Prop :=
  ∀ (l : Launch) (G : mmG), l.flags = flags0 → Met l B.1 (Cond.codeWith B.1 B.2.1 B.2.2.1 B.2.2.2 hh :: mm_tbl) ({ frames := d, cells := kc, slots := ks, locals := 64 * d } : Room) (mmPre G av sh mem) (mmPost G Q) kc ks (mmAd G)
theorem mmCH_of {hh : List (Nat × Nat × Nat × Nat)} {B : mmB} {d kc ks : Nat} {av : List mmV} {sh : mmS} {mem : mmM} {Q : mmQ} (hy : plainName B.1.cls = true) (hn : (mmEntry av).length ≤ B.2.2.1) (h : mmTF (chF hh Q) B d kc ks 0 (mmEntry av) [] sh mem) : mmCH hh B d kc ks av sh mem Q := by
  intro l G hfl
  refine MetFree.of_bodyS (code := B.2.1) (maxLocals := B.2.2.1) (ret := B.2.2.2) hy ?_ ?_
  · intro args s m h hn
    obtain ⟨m9, meth, c, hn9, h1, h2, h3, h4, -, h5, h6, -⟩ := Cond.codeWith_spec (atoms_spec (ws := Cond.codeWith B.1 B.2.1 B.2.2.1 B.2.2.2 hh :: mm_tbl) h _ List.mem_cons_self)
    cases hn.symm.trans hn9
    exact ⟨meth, c, h1, h2, h3, h4, h5, h6⟩
  · intro p e s m args below meth c s₁ BL hml hP _
    have hh0 : s₁.heap = s.heap := by rw [BL.state]; rfl
    have hts := atoms_spec (ws := Cond.codeWith B.1 B.2.1 B.2.2.1 B.2.2.2 hh :: mm_tbl) BL.pre
    have htab : c.exceptionTable.toList = tableOf hh   := vx_table (x := B.1) BL (hts (Cond.codeWith B.1 B.2.1 B.2.2.1 B.2.2.2 hh) List.mem_cons_self)
    obtain ⟨rfl, hR, hN⟩ := hP
    have hown : s.vm.findClass B.1.cls = some m.cls := findClass_of_methodNamed BL.named
    have hname : meth.name = B.1.name := (name_of_methodNamed BL.named BL.method).1
    have hl := lv_entry (av.map (mmEnc G)) (n := B.2.2.1) (by rw [mmEntry_len]; exact hn)
    obtain ⟨t, a1, b⟩ := h p l e (headSpec (Cond.codeWith B.1 B.2.1 B.2.2.1 B.2.2.2 hh :: mm_tbl) ({ frames := d, cells := kc, slots := ks, locals := 64 * d } : Room)).room s m _ below meth c G s.heap [] 0 0 _ ⟨⟨BL.exec, BL.bytes, hml, BL.returns, hown, fun w hw => hts w (List.mem_cons_of_mem _ hw), BL.notSynchronized, (fun h => hname.trans h), hN⟩, hR, va_S.rf, hR.2.2.2.2.2.1, ⟨_, hl, fun i v hi hv => by
      have := mmEntry_in G av 0 i v hi hv
      rwa [Nat.zero_add] at this⟩, by show 0 + kc ≤ kc; omega, by show 0 + ks ≤ ks; omega, Nat.le_refl _, Nat.le_refl _, hfl⟩ s₁ hh0 (Stand.of_body BL)
    obtain ⟨o, b1, b2, b3⟩ := b htab
    refine ⟨t, o, ?_, b1, b2, b3⟩
    rw [lg_entry_eq] at *
    exact a1
def lsP (mem : mmM) (x y v : Int) (m : mmM) : Prop := (((0 ≤ x ∧ x < mem 23 1) ∧ 0 ≤ y ∧ y ≤ 9) → v = 0 ∧ m = mset mem 99 0 (w32 (tellX mem x y))) ∧ (¬ ((0 ≤ x ∧ x < mem 23 1) ∧ 0 ≤ y ∧ y ≤ 9) → v = 1 ∧ m = mem)
theorem ls_catch {mem : mmM} {x y : Int} {P : Int → mmM → Prop} {lc : List mmV} (hx : R32 x) (hy : R32 y) (out : ¬ ((0 ≤ x ∧ x < mem 23 1) ∧ 0 ≤ y ∧ y ≤ 9)) (hP : P 1 mem) : mmTF (chF lsH (mQ 0 P)) bL_speech 7 1 6 5 lc [(0, y), (0, x), (2, 0), (0, 0), (2, 99)] mS mem := by
  intro p l e R s m args below meth c G H locs cells slots ls X T hT XT
  by_cases ht : c.exceptionTable.toList = tableOf lsH
  · have hts := X.1.2.2.2.2.2.1
    have hrecv := mm_recv (q := (RX11, TX11, 13)) X.2.1 (show mS.2[0]? = some (10, 13) from sh_0) (by decide) rfl
    have hM := vx_X11 mem x y hx hy out l G X.2.2.2.2.2.2.2.2.2
    have hgood : GoodIn mm_tbl (wsV RL 7 bX11_speech.1.cls bX11_speech.1 (Cond.code bX11_speech.1 bX11_speech.2.1 bX11_speech.2.2.1 bX11_speech.2.2.2 :: mm_tbl)) := mm_good fun w hw => by
      unfold wsV at hw
      simp only [List.mem_append, List.mem_cons, List.not_mem_nil, or_false] at hw
      rcases hw with (rfl | rfl | rfl | rfl) | rfl | hw
      · exact mr_L_7.1
      · exact mr_L_7.2.1
      · exact mr_L_7.2.2
      · exact ok_X11_speech.2.1
      · exact ok_X11_speech.1
      · exact hw
    have est : ([(0, y), (0, x), (2, 0), (0, 0), (2, 99)] : List mmV).map (mmEnc G) = (([(0, x), (0, y)] : List mmV).map (mmEnc G)).reverse ++ Value.ref (G.1.2 + 0) :: ([(0, 0), (2, 99)] : List mmV).map (mmEnc G) := mm_stk (st := [(0, 0), (2, 99)]) (av := [(0, x), (0, y)]) G (r := 0) (a := 0) rfl
    have hcells := X.2.2.2.2.2.1
    have hslots := X.2.2.2.2.2.2.1
    obtain ⟨lv, hlv, hlv2⟩ := X.2.2.2.2.1
    have run := vx_runV (l := l) (R := R) (e := e) (below := below) (meth := meth) (H := H) (locs := locs) (cells := cells) (slots := slots) (Pc := mmPre G [(2, 0), (0, x), (0, y)] mS mem) (C := bX11_speech.1.cls) (As := ([(0, x), (0, y)] : List mmV).map (mmEnc G)) (b := G.1.2 + 0) (g := F0 m 5 ls ((([(0, x), (0, y)] : List mmV).map (mmEnc G)).reverse ++ Value.ref (G.1.2 + 0) :: ([(0, 0), (2, 99)] : List mmV).map (mmEnc G))) (rest := ([(0, 0), (2, 99)] : List mmV).map (mmEnc G)) (mm_fix X) hM (cwV 2 hts hgood rfl rfl rfl ⟨rfl, ok_X11_speech.2.2.1⟩ (mm_room X (Nat.le_refl 7) ok_X11_speech.2.2.2.1)) ⟨mm_blind, hrecv, fun U hU hW => ⟨by rw [mm_map1 G (r := 0) (a := 0) rfl], by rw [hU]; exact X.2.1.moved hW.alike, X.1.2.2.2.2.2.2.2.2.warm hW⟩⟩ rfl rfl hlv.1 rfl (lv_room (by rw [mmCat_enc]; exact Nat.le_of_ble_eq_true rfl)) dL_speech_5 ⟨hcells, hslots⟩ T hT XT
    rw [est]
    rcases run with ⟨v, st₀, t, T', L, h0, X', hL, e1, e2, hq, _⟩ | ⟨q, st₀, t, T', L, E, ce, h0, X', hL, e1, e2, hxx, hce, hcv, hcl, stp⟩
    · obtain ⟨⟨_, _, _, _, hf, _⟩, _⟩ := hq
      exact hf.elim
    · obtain ⟨hE, hR, hz, hk⟩ := hxx
      subst hE
      rw [h0] at hz hk
      have hal : t.vm.Alike s.vm := by rw [← e2]; exact X'.warmed.alike.symm
      have hcast : (Cond.castable exNm exNm).before args s = true := va_Nw.use rfl X.1.2.2.2.2.2.2.2.2.2.2.2
      have kk : W p l e R s m args below meth c T'.heap (locs ++ L) (cells + 1) (slots + 6) (MQ below (mmPost G (mQ 0 P)) args s R.cells R.slots (mmAd G)) (F0 m 13 ls [.ref q]) := by
        refine lv_astore X.1.1 X.1.2.1 dL_speech_13 hlv (by decide) rfl (fun ls' h' => ?_)
        refine (st_iconst dL_speech_15 (st_ireturn rfl dL_speech_16 (mQ.ret hP)) : mmT bL_speech 7 0 0 (mQ 0 P) 15 [] [] mS mem) p l e R s m args below meth c G T'.heap (locs ++ L) (cells + 1) (slots + 6) ls' ⟨X.1, by rw [e1]; exact hR.moved hal, ⟨Nat.le_trans X.2.2.1.1 (by rw [e1]; exact hz), fun z h1 h2 => ?_, fun z hz9 => ?_⟩, X.2.2.2.1, ⟨_, h', fun i v hi _ => nomatch hi⟩, hcells, hslots, X.2.2.2.2.2.2.2⟩
        · rw [e1, hk z (Nat.lt_of_lt_of_le h1 X.2.2.1.1) h2]
          exact X.2.2.1.2.1 z h1 h2
        · rcases List.mem_append.mp hz9 with h | h
          · exact X.2.2.1.2.2 z h
          · exact hL z h
      obtain ⟨t2, a, b⟩ := vx_catch (own := RL) (name := exNm) (pc := 5) (ls := ls) (rest := ([(0, 0), (2, 99)] : List mmV).map (mmEnc G)) X.1.2.2.2.2.1 [] ⟨0, 10, 13, 13⟩ [] ht (fun z hz => nomatch hz) rfl (by decide) (hts _ (mm_wk5 68 (by decide +kernel) rfl)) hcast (by rw [e1]; exact hce) hcv hcl kk T' rfl X'
      exact ⟨t2, stp.trans a, fun _ => b⟩
  · exact ⟨_, Steps.refl _, fun h => absurd h ht⟩
theorem c_L_speech (mem : mmM) (x y : Int) (hx : R32 x) (hy : R32 y) (hn : 0 ≤ mem 23 1 ∧ mem 23 1 ≤ 24) : mmCH lsH bL_speech 7 1 6 [(2, 0), (0, x), (0, y), (2, 99)] mS mem (mQ 0 (lsP mem x y)) := by
  refine mmCH_of (by decide +kernel) (Nat.le_of_ble_eq_true rfl) ?_
  show mmTF (chF lsH (mQ 0 (lsP mem x y))) bL_speech 7 1 6 0 [(2, 0), (0, x), (0, y), (2, 99)] [] mS mem
  refine tf_aload_n (i := 3) rfl (t := 0) rfl (by decide) dL_speech_0 ?_
  refine tf_iconst dL_speech_1 ?_
  refine tf_aload_n (i := 0) rfl (t := 0) rfl (by decide) dL_speech_2 ?_
  refine tf_iload_n (i := 1) rfl rfl dL_speech_3 ?_
  refine tf_iload_n (i := 2) rfl rfl dL_speech_4 ?_
  by_cases h : (0 ≤ x ∧ x < mem 23 1) ∧ 0 ≤ y ∧ y ≤ 9
  · refine tf_of ?_
    refine st_callV (kc2 := 1) (ks2 := 6) (av := [(0, x), (0, y)]) (st := [(0, 0), (2, 99)]) 0 10 mr_L_7 ok_X11_speech (c_X11_speech mem x y hn h.1 h.2) rfl sh_0 ⟨_, rfl, rfl, by decide⟩ rfl rfl (by decide) (Nat.le_of_eq (Nat.zero_add 1)) (Nat.le_of_eq (Nat.zero_add 6)) (Nat.le_of_ble_eq_true rfl) dL_speech_5 (mQ.elim fun v1 m1 hp => ?_)
    obtain ⟨hp1, hp2⟩ := hp
    rw [hp1, hp2]
    refine st_i2l dL_speech_8 ?_
    refine st_lastore 99 (fun _ => by decide) (by have := w32_rng (tellX mem x y); omega) rfl sh_99 (by decide) (by decide) (by decide) dL_speech_9 ?_
    refine st_goto 17 (by decide) dL_speech_10 ?_
    refine st_iconst dL_speech_17 ?_
    exact st_ireturn rfl dL_speech_18 (mQ.ret ⟨fun _ => ⟨rfl, rfl⟩, fun z => absurd h z⟩)
  · exact ls_catch hx hy h ⟨fun z => absurd z h, fun _ => ⟨rfl, rfl⟩⟩
/-! a static call of a method with a table -/
def mmOKH (hh : List (Nat × Nat × Nat × Nat)) (B : mmB) (n : Nat) : Prop := Cond.codeWith B.1 B.2.1 B.2.2.1 B.2.2.2 hh ∈ mm_tbl ∧ Cond.initialized B.1.cls ∈ mm_tbl ∧ (B.1.cls ≠ "java/lang/invoke/MethodHandle" ∧ B.1.cls ≠ "java/lang/invoke/VarHandle" ∧ (parseMethodDescriptor B.1.desc).map (fun d => d.parameters.length) = some n) ∧ B.2.2.1 ≤ 40
theorem ok_L_speech : mmOKH lsH bL_speech 4 := ⟨mm_wk5 67 (by decide +kernel) rfl, mm_wk1 0 (by decide +kernel) rfl, ⟨by decide +kernel, by decide +kernel, by decide +kernel⟩, by decide⟩
theorem st_callH {hh : List (Nat × Nat × Nat × Nat)} {B : mmB} {d kc ks : Nat} {Q : mmQ} {pc : Nat} {lc st : List mmV} {sh : mmS} {mem : mmM} {B' : mmB} {idx d' kc' ks' kc2 ks2 n : Nat} {stk av : List mmV} {Qc : mmQ} (hm : mmMS B.1.cls idx B') (ho : mmOKH hh B' n) (hC : mmCH hh B' d' kc' ks' av sh mem Qc) (hn : av.length = n) (hst : stk = av.reverse ++ st) (hd' : d' + 1 ≤ d) (hkc : kc' + kc2 ≤ kc) (hks : ks' + ks2 ≤ ks) (hcat : mmCat st ≤ 8) (hd : decode B.2.1 pc = .ok (.invokestatic idx, 3))
    (kk : ∀ (r : Option mmV) (sh' : mmS) (mem' : mmM), Qc r sh' mem' → mmT B d kc2 ks2 Q (pc + 3) lc (r.toList ++ st) sh' mem') : mmT B d kc ks Q pc lc stk sh mem := by
  intro p l e R s m args below meth c G H locs cells slots ls X
  subst hst
  have hM := hC l G X.2.2.2.2.2.2.2.2.2
  have hgood : GoodIn mm_tbl (va_wsS B.1.cls idx B'.1 (Cond.codeWith B'.1 B'.2.1 B'.2.2.1 B'.2.2.2 hh :: mm_tbl)) := mm_good fun w hw => by
    unfold va_wsS at hw
    simp only [List.mem_append, List.mem_cons, List.not_mem_nil, or_false] at hw
    rcases hw with (rfl | rfl | rfl) | rfl | hw
    · exact hm.1
    · exact hm.2
    · exact ho.2.1
    · exact ho.1
    · exact hw
  refine mm_goes (Qc := Qc) (mc := kc') (ms := ks') (a := (av.map (mmEnc G)).toArray) X hkc hks ?_ kk
  refine vx_runSW (hh := hh) (Pc := mmPre G av sh mem) (As := av.map (mmEnc G)) (mm_fix X) hM (vx_cwSW n X.1.2.2.2.2.2.1 hgood rfl rfl rfl ho.2.2.1 (mm_room X hd' ho.2.2.2)) ⟨mm_blind, fun U hU hW => ⟨rfl, by rw [hU]; exact X.2.1.moved hW.alike, X.1.2.2.2.2.2.2.2.2.warm hW⟩⟩ rfl (by rw [List.length_map]; exact hn) ?_ ?_ (lv_room (by rw [mmCat_enc]; exact hcat)) hd ⟨?_, ?_⟩
  · obtain ⟨lv, h1, -⟩ := X.2.2.2.2.1
    exact h1.1
  · show (av.reverse ++ st).map (mmEnc G) = _
    rw [List.map_append, List.map_reverse]
  · have := X.2.2.2.2.2.1
    omega
  · have := X.2.2.2.2.2.2.1
    omega
