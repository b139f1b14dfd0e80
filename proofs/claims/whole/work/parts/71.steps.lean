/-! steps of the law: what is told of the play -/
section
variable {sc : Int → Int} {ls : Nat → lawT} {t : Int} {mem m : mmM}
theorem st_leap (w : Inv sc ls t mem) (x : Int) (hx : R32 x) : stp 0 bX11_leap 2 [(2, 0), (0, x)] bX12_leap 4 [(2, 65), (0, x)] mem (Inv sc ls t) := stp_of (c_X11_leap mem x hx w.nX) (fun v1 m1 q => c_X12_leap m1 x hx (Inv_same (same_eq q.2) w).play) (fun v1 m1 v2 m2 q1 q2 => by
  obtain ⟨e1, f1⟩ := q1
  obtain ⟨e2, f2⟩ := q2
  refine ⟨?_, by rw [f2, f1]; exact w⟩
  rw [e1, e2, f1, w.size]
  exact ite_congr rfl (fun h => w.leapE x h.1 h.2) (fun _ => rfl))
theorem st_stops (w : Inv sc ls t mem) : stp 0 bX11_stops 2 [(2, 0)] bX12_stops 5 [(2, 65)] mem (Inv sc ls t) := stp_of (c_X11_stops mem w.nX) (fun v1 m1 q => c_X12_stops m1 (Inv_same (same_eq q.2) w).play) (fun v1 m1 v2 m2 q1 q2 => by
  obtain ⟨e1, f1⟩ := q1
  obtain ⟨e2, f2⟩ := q2
  refine ⟨?_, by rw [f2, f1]; exact w⟩
  rw [e1, e2, f1, w.size, wltF_cg w.leapE])
theorem st_from (w : Inv sc ls t mem) (x : Int) (hx : R32 x) : stp 0 bX11_from 2 [(2, 0), (0, x)] bX12_from 5 [(2, 65), (0, x)] mem (Inv sc ls t) := stp_of (c_X11_from mem x hx w.nX) (fun v1 m1 q => c_X12_from m1 x hx (Inv_same (same_eq q.2) w).play) (fun v1 m1 v2 m2 q1 q2 => by
  obtain ⟨e1, f1⟩ := q1
  obtain ⟨e2, f2⟩ := q2
  refine ⟨?_, by rw [f2, f1]; exact w⟩
  rw [e1, e2, f1, w.size, wltF_cg w.leapE])
theorem st_silence (w : Inv sc ls t mem) (x : Int) (hx : R32 x) : stp 0 bX11_silence 2 [(2, 0), (0, x)] bX12_silence 3 [(2, 65), (0, x)] mem (Inv sc ls t) := stp_of (c_X11_silence mem x hx w.nX w.len) (fun v1 m1 q => c_X12_silence m1 x hx (Inv_same (same_eq q.2) w).play) (fun v1 m1 v2 m2 q1 q2 => by
  obtain ⟨e1, f1⟩ := q1
  obtain ⟨e2, f2⟩ := q2
  refine ⟨?_, by rw [f2, f1]; exact w⟩
  rw [e1, e2, f1, w.size, silF_cg w.e24 w.e26]
  by_cases h : 0 ≤ x ∧ x < 8
  · rw [if_pos h]
    by_cases z : mem 65 27 = 0
    · rw [if_pos (Or.inl z), z]
      rfl
    · rw [if_neg (by omega)]
  · rw [if_neg h, if_pos (Or.inr h)])
theorem st_doubtful (w : Inv sc ls t mem) (x : Int) (hx : R32 x) : stp 0 bX11_doubtful 2 [(2, 0), (0, x)] bX12_doubtful 4 [(2, 65), (0, x)] mem (Inv sc ls t) := stp_of (c_X11_doubtful mem x hx w.nX) (fun v1 m1 q => c_X12_doubtful m1 x hx (Inv_same (same_eq q.2) w).play) (fun v1 m1 v2 m2 q1 q2 => by
  obtain ⟨e1, f1⟩ := q1
  obtain ⟨e2, f2⟩ := q2
  refine ⟨?_, by rw [f2, f1]; exact w⟩
  rw [e1, e2, f1, w.size, dbtF_cg w.e24 w.e30])
theorem st_reword (w : Inv sc ls t mem) (x : Int) (hx : R32 x) : stp 0 bX11_reword 5 [(2, 0), (0, x)] bX12_reword 3 [(2, 65), (0, x)] mem (Inv sc ls t) := stp_of (c_X11_reword mem x hx w.nX) (fun v1 m1 q => c_X12_reword m1 x hx (Inv_same (same_eq q.2) w).play) (fun v1 m1 v2 m2 q1 q2 => by
  obtain ⟨e1, f1⟩ := q1
  obtain ⟨e2, f2⟩ := q2
  refine ⟨?_, by rw [f2, f1]; exact w⟩
  rw [e1, e2, f1, w.size, wtcF_cg w.e24 w.e28, fwtF_cg w.e24 w.e28])
theorem told_eq {n : Int} {to to' : Int → Int} (h : ∀ i, 0 ≤ i → i < n → to i = to' i) (x : Int) (p p' : Int × Int) (hp : p = p') (h0 : n = 0 → p' = (-1, -1)) : (if x = 0 then p.1 else if x = 1 then p.2 else -1) = if n = 0 ∨ ¬ (0 ≤ x ∧ x ≤ 1) then -1 else if x = 0 then p'.1 else p'.2 := by
  rw [hp]
  by_cases z : n = 0
  · rw [if_pos (Or.inl z), h0 z]
    split
    · rfl
    · split <;> rfl
  · by_cases h : 0 ≤ x ∧ x ≤ 1
    · rw [if_neg (show ¬ (n = 0 ∨ ¬ (0 ≤ x ∧ x ≤ 1)) by omega)]
      by_cases y : x = 0
      · rw [if_pos y, if_pos y]
      · rw [if_neg y, if_neg y, if_pos (by omega)]
    · rw [if_pos (Or.inr h), if_neg (by omega), if_neg (by omega)]
theorem st_loop (w : Inv sc ls t mem) (x : Int) (hx : R32 x) : stp 0 bX11_loop 2 [(2, 0), (0, x)] bX12_loop 6 [(2, 65), (0, x)] mem (Inv sc ls t) := stp_of (c_X11_loop mem x hx w.nX (by rw [w.size]; exact w.leapB)) (fun v1 m1 q => c_X12_loop m1 x hx (Inv_same (same_eq q.2) w).play) (fun v1 m1 v2 m2 q1 q2 => by
  obtain ⟨e1, f1⟩ := q1
  obtain ⟨e2, f2⟩ := q2
  refine ⟨?_, by rw [f2, f1]; exact w⟩
  rw [e1, e2, f1, w.size]
  exact told_eq w.leapE x _ (pairM 1 mem) (loopF_cg w.leapE) (fun z => by
    unfold pairM
    rw [if_neg (by decide), z]
    rfl))
theorem st_hole (w : Inv sc ls t mem) (x : Int) (hx : R32 x) : stp 0 bX11_hole 2 [(2, 0), (0, x)] bX12_hole 6 [(2, 65), (0, x)] mem (Inv sc ls t) := stp_of (c_X11_hole mem x hx w.nX (by rw [w.size]; exact w.leapB)) (fun v1 m1 q => c_X12_hole m1 x hx (Inv_same (same_eq q.2) w).play) (fun v1 m1 v2 m2 q1 q2 => by
  obtain ⟨e1, f1⟩ := q1
  obtain ⟨e2, f2⟩ := q2
  refine ⟨?_, by rw [f2, f1]; exact w⟩
  rw [e1, e2, f1, w.size]
  exact told_eq w.leapE x _ (pairM 0 mem) (holeF_cg w.leapE) (fun z => by
    unfold pairM
    rw [if_pos rfl, z]
    rfl))
theorem st_spare (w : Inv sc ls t mem) (x y : Int) (hx : R32 x) (hy : R32 y) : stp 0 bX11_spare 4 [(2, 0), (0, x), (0, y)] bX12_spare 2 [(2, 65), (0, x), (0, y)] mem (Inv sc ls t) := stp_of (c_X11_spare mem x y hx hy w.nX) (fun v1 m1 q => c_X12_spare m1 x y hx hy (Inv_same (same_eq q.2) w).play) (fun v1 m1 v2 m2 q1 q2 => by
  obtain ⟨e1, f1⟩ := q1
  obtain ⟨e2, f2⟩ := q2
  refine ⟨?_, by rw [f2, f1]; exact w⟩
  rw [e1, e2, f1, w.size]
  exact spr_same w.n.1 w.e28 x y)
theorem Inv.notes (w : Inv sc ls t m) : iNotes t m := w.2.2.2.2.2.1
theorem Inv.marks (w : Inv sc ls t m) : m 65 31 = m 47 0 := w.notes.1.2
theorem Inv.nights (w : Inv sc ls t m) : m 65 34 = m 47 2 := w.notes.2.2.1.2.1
theorem st_latest (w : Inv sc ls t mem) (x : Int) (hx : R32 x) : stp 0 bX11_latest 2 [(2, 0), (0, x)] bX12_latest 2 [(2, 65), (0, x)] mem (Inv sc ls t) := stp_of (c_X11_latest mem x hx) (fun v1 m1 _ => c_X12_latest m1 x hx) (fun v1 m1 v2 m2 q1 q2 => by
  obtain ⟨e1, f1⟩ := q1
  obtain ⟨e2, f2⟩ := q2
  refine ⟨?_, by rw [f2, f1]; exact w⟩
  rw [e1, e2, f1]
  have h45 := w.notes.2.2.1.2.2
  by_cases z : mem 47 2 = 0
  · rw [if_pos z, if_pos (Or.inl (h45.mpr z))]
  · have no : ¬ mem 65 45 = 0 := fun y => z (h45.mp y)
    obtain ⟨l0, l1, l2, l3, l4⟩ := w.2.2.2.2.2.2.2.1 z
    rw [if_neg z]
    by_cases h : 0 ≤ x ∧ x ≤ 4
    · rw [if_neg (show ¬ (mem 65 45 = 0 ∨ ¬ (0 ≤ x ∧ x ≤ 4)) from fun y => y.elim no (fun y => y h))]
      have c : x = 0 ∨ x = 1 ∨ x = 2 ∨ x = 3 ∨ x = 4 := by omega
      rcases c with c | c | c | c | c
      · rw [c, if_pos rfl, l0]
      · rw [c, if_neg (by decide), if_pos rfl, l1]
      · rw [c, if_neg (by decide), if_neg (by decide), if_pos rfl, l2]
      · rw [c, if_neg (by decide), if_neg (by decide), if_neg (by decide), if_pos rfl, l3]
      · rw [c, if_neg (by decide), if_neg (by decide), if_neg (by decide), if_neg (by decide), if_pos rfl, l4]
    · rw [if_pos (Or.inr h), if_neg (by omega), if_neg (by omega), if_neg (by omega), if_neg (by omega), if_neg (by omega)])
theorem st_count (w : Inv sc ls t mem) (x : Int) (hx : R32 x) : stp 0 bX11_count 2 [(2, 0), (0, x)] bX12_count 2 [(2, 65), (0, x)] mem (Inv sc ls t) := stp_of (c_X11_count mem x hx) (fun v1 m1 _ => c_X12_count m1 x hx) (fun v1 m1 v2 m2 q1 q2 => by
  obtain ⟨e1, f1⟩ := q1
  obtain ⟨e2, f2⟩ := q2
  refine ⟨?_, by rw [f2, f1]; exact w⟩
  rw [e1, e2, f1, w.size, w.2.2.1.2.2.1, w.2.1.2.1, w.1.2.1, w.2.1.2.2.2.1, w.nights, w.marks, w.notes.2.1.2.1])
/-! rows, players, the shortest and the longest -/
theorem st_rows (w : Inv sc ls t mem) (x : Int) (hx : R32 x) : stp 0 bX11_rows 4 [(2, 0), (0, x)] bX12_rows 4 [(2, 65), (0, x)] mem (Inv sc ls t) := stp_of (c_X11_rows mem x hx w.nX) (fun v1 m1 q => c_X12_rows m1 x hx (Inv_same (same_rw q.2) w).play) (fun v1 m1 v2 m2 q1 q2 => by
  obtain ⟨e1, f1⟩ := q1
  obtain ⟨e2, f2⟩ := q2
  have s := same_rw f1
  have w1 := Inv_same s w
  refine ⟨?_, Inv_same (same_rm f2) w1⟩
  have n := w1.n
  have er : rwR (m1 65 27) (m1 38) x.toNat 0 = rwR (m1 65 27) (leapM m1) x.toNat 0 := rwS_congr w1.leapE _ _ (by omega) (fun i i0 i1 => (w1.leapB i i0 i1).1)
  rw [e1, e2, ← f1 23 (by omega), ← f1 38 (by omega), w1.size, er])
theorem st_players (w : Inv sc ls t mem) (x y : Int) (hx : R32 x) (hy : R32 y) : stp 0 bX11_players 4 [(2, 0), (0, x), (0, y)] bX12_players 4 [(2, 65), (0, x), (0, y)] mem (Inv sc ls t) := stp_of (c_X11_players mem x y hx hy w.nX w.act) (fun v1 m1 q => c_X12_players m1 x y hx hy (Inv_same (same_pl q.2) w).play) (fun v1 m1 v2 m2 q1 q2 => by
  obtain ⟨e1, f1⟩ := q1
  obtain ⟨e2, f2⟩ := q2
  have w1 := Inv_same (same_pl f1) w
  refine ⟨?_, Inv_same (same_97 f2) w1⟩
  rw [← f1 23 (by decide) (by decide), ← f1 24 (by decide) (by decide), w1.size] at e1
  have n := w1.n
  exact playersP_unique (actF_tb n.1 (fun i i0 i1 => (w1.play.2 i i0 (by omega)).1)).1 (playersP_cg w1.e24 e1) e2)
theorem st_shortest (w : Inv sc ls t mem) (x y : Int) (hx : R32 x) (hy : R32 y) : stp 0 bX11_shortest 8 [(2, 0), (0, x), (0, y)] bX12_shortest 8 [(2, 65), (0, x), (0, y)] mem (Inv sc ls t) := stp_of (c_X11_shortest mem x y hx hy w.playX) (fun v1 m1 q => c_X12_shortest m1 x y hx hy (Inv_same (same_ext q.2) w).play) (fun v1 m1 v2 m2 q1 q2 => by
  obtain ⟨e1, f1⟩ := q1
  obtain ⟨e2, f2⟩ := q2
  have w1 := Inv_same (same_ext f1) w
  refine ⟨?_, Inv_same (same_gt f2) w1⟩
  rw [← f1 23 (by decide), ← f1 38 (by decide), w1.size] at e1
  exact extQ_unique (extQ_cg w1.n.1 w1.leapB w1.leapE e1) e2)
theorem st_longest (w : Inv sc ls t mem) (x y : Int) (hx : R32 x) (hy : R32 y) : stp 0 bX11_longest 8 [(2, 0), (0, x), (0, y)] bX12_longest 8 [(2, 65), (0, x), (0, y)] mem (Inv sc ls t) := stp_of (c_X11_longest mem x y hx hy w.playX) (fun v1 m1 q => c_X12_longest m1 x y hx hy (Inv_same (same_ext q.2) w).play) (fun v1 m1 v2 m2 q1 q2 => by
  obtain ⟨e1, f1⟩ := q1
  obtain ⟨e2, f2⟩ := q2
  have w1 := Inv_same (same_ext f1) w
  refine ⟨?_, Inv_same (same_gt f2) w1⟩
  rw [← f1 23 (by decide), ← f1 38 (by decide), w1.size] at e1
  exact extQ_unique (extQ_cg w1.n.1 w1.leapB w1.leapE e1) e2)
/-! the odds -/
theorem Inv.oddE (w : Inv sc ls t m) (mk most : Int) : EX m mk most = EM m (fmI ls m) mk (-1) most := by
  unfold EX EM
  rw [w.size]
  refine odN_congr w.n.1 (fun i i0 i1 => ⟨?_, ?_, w.leapE i i0 i1⟩) _
  · have n := w.n
    have p := w.play.2 i i0 (by omega)
    unfold fgX fgS
    rw [if_neg (by omega), fmI_eq, w.forgets ⟨i0, i1⟩]
  · unfold tkX tkN
    rcases bitN_01 mk i with b | b
    · rw [b, if_pos rfl, if_neg (by decide)]
    · rw [b, if_neg (by decide), if_pos rfl]
      exact (w.takes ⟨i0, i1⟩).1
theorem Inv.oddS (w : Inv sc ls t m) (mk a most : Int) : ESX m mk a most = EM m (fmI ls m) mk a most := by
  unfold ESX EM
  rw [w.size]
  refine odN_congr w.n.1 (fun i i0 i1 => ⟨?_, ?_, w.leapE i i0 i1⟩) _
  · unfold fgX fgS
    rw [w.e24 i i0 i1, fmI_eq]
    show (if m 79 i = a then 0 else forgetsX m i (bitN mk i)) = _
    rw [w.forgets ⟨i0, i1⟩]
  · unfold tkX tkN
    rcases bitN_01 mk i with b | b
    · rw [b, if_pos rfl, if_neg (by decide)]
    · rw [b, if_neg (by decide), if_pos rfl]
      exact (w.takes ⟨i0, i1⟩).1
theorem fgX_odd (h : oddQ mem m) : fgX m = fgX mem := by
  funext mk j
  unfold fgX forgetsX
  rw [h.1 23 (by omega), h.1 31 (by omega), h.1 32 (by omega)]
theorem tkX_odd (h : oddQ mem m) : tkX m = tkX mem := by
  funext mk j
  unfold tkX takeX
  rw [h.1 23 (by omega), h.1 24 (by omega), h.1 37 (by omega)]
theorem EX_odd (h : oddQ mem m) (mk x : Int) : EX mem mk x = EX m mk x := by
  unfold EX
  rw [fgX_odd h, tkX_odd h, h.1 23 (by omega), h.1 38 (by omega)]
theorem ESX_odd (h : oddQ mem m) (mk a x : Int) : ESX mem mk a x = ESX m mk a x := by
  unfold ESX
  rw [fgX_odd h, tkX_odd h, h.1 23 (by omega), h.1 24 (by omega), h.1 38 (by omega)]
theorem Inv.odd (w : Inv sc ls t m) : odOr m := w.2.2.2.2.2.2.2.2.1
theorem Inv.scr (w : Inv sc ls t m) : m 999 = sc := w.2.2.2.2.2.2.2.2.2
theorem st_chance (w : Inv sc ls t mem) (x : Int) (hx : R32 x) : stp 0 bX11_chance 7 [(2, 0), (0, x)] bX12_chance 10 [(2, 65), (0, x)] mem (Inv sc ls t) := stp_of (c_X11_chance mem x hx w.nightP w.odd) (fun v1 m1 q => c_X12_chance m1 (fmI ls m1) x hx (Inv_same (same_odd q.2) w).play (Inv_same (same_odd q.2) w).takeM (Inv_same (same_odd q.2) w).forgS) (fun v1 m1 v2 m2 q1 q2 => by
  obtain ⟨e1, f1⟩ := q1
  obtain ⟨e2, f2⟩ := q2
  have w1 := Inv_same (same_odd f1) w
  refine ⟨?_, Inv_same (same_ch f2) w1⟩
  have n := w1.n
  rw [e1, e2, EX_odd f1, ← f1.1 23 (by omega), ← f1.1 47 (by omega), w1.size, w1.oddE, w1.marks]
  by_cases g : 0 < m1 65 27 ∧ 1 ≤ x ∧ x ≤ 200
  · rw [if_pos g, if_neg (by omega)]
  · rw [if_neg g, if_pos (by omega)])
theorem st_mean (w : Inv sc ls t mem) (x y : Int) (hx : R32 x) (hy : R32 y) : stp 0 bX11_mean 7 [(2, 0), (0, x), (0, y)] bX12_mean 10 [(2, 65), (0, x), (0, y)] mem (Inv sc ls t) := stp_of (c_X11_mean mem x y hx hy w.nightP w.odd) (fun v1 m1 q => c_X12_mean m1 (fmI ls m1) x y hx hy (Inv_same (same_odd q.2) w).play (Inv_same (same_odd q.2) w).takeM (Inv_same (same_odd q.2) w).forgS) (fun v1 m1 v2 m2 q1 q2 => by
  obtain ⟨e1, f1⟩ := q1
  obtain ⟨e2, f2⟩ := q2
  have w1 := Inv_same (same_odd f1) w
  refine ⟨?_, Inv_same (same_ch f2) w1⟩
  rw [e1, e2, EX_odd f1, ← f1.1 23 (by omega), ← f1.1 47 (by omega), w1.size, w1.oddE, w1.marks])
theorem st_visits (w : Inv sc ls t mem) (x y : Int) (hx : R32 x) (hy : R32 y) : stp 1 bX11_visits 7 [(2, 0), (0, x), (0, y)] bX12_visits 10 [(2, 65), (0, x), (0, y)] mem (Inv sc ls t) := stp_of (c_X11_visits mem x y hx hy w.nightP w.odd) (fun v1 m1 q => c_X12_visits m1 (fmI ls m1) x y hx hy (Inv_same (same_odd q.2) w).play (Inv_same (same_odd q.2) w).takeM (Inv_same (same_odd q.2) w).forgS) (fun v1 m1 v2 m2 q1 q2 => by
  obtain ⟨e1, f1⟩ := q1
  obtain ⟨e2, f2⟩ := q2
  have w1 := Inv_same (same_odd f1) w
  refine ⟨?_, Inv_same (same_ch f2) w1⟩
  rw [e1, e2, EX_odd f1, ← f1.1 23 (by omega), ← f1.1 47 (by omega), w1.size, w1.oddE, w1.marks])
theorem st_understudy (w : Inv sc ls t mem) (x y : Int) (hx : R32 x) (hy : R32 y) : stp 0 bX11_understudy 7 [(2, 0), (0, x), (0, y)] bX12_understudy 10 [(2, 65), (0, x), (0, y)] mem (Inv sc ls t) := stp_of (c_X11_understudy mem x y hx hy w.nightP w.odd) (fun v1 m1 q => c_X12_understudy m1 (fmI ls m1) x y hx hy (Inv_same (same_odd q.2) w).play (Inv_same (same_odd q.2) w).takeM (Inv_same (same_odd q.2) w).forgS) (fun v1 m1 v2 m2 q1 q2 => by
  obtain ⟨e1, f1⟩ := q1
  obtain ⟨e2, f2⟩ := q2
  have w1 := Inv_same (same_odd f1) w
  refine ⟨?_, Inv_same (same_ch f2) w1⟩
  have n := w1.n
  have eu : undF (actF (m1 65 27) (m1 24)) (fun a => (ESX mem (m1 47 0) a x).2.1) = undF (actF (m1 65 27) (m1 79)) (fun a => (EM m1 (fmI ls m1) (m1 47 0) a x).2.1) := by
    rw [actF_cg w1.e24]
    exact undF_cg (fun a _ _ => by rw [ESX_odd f1, w1.oddS])
  rw [e1, e2, ← f1.1 23 (by omega), ← f1.1 24 (by omega), ← f1.1 47 (by omega), w1.size, eu, w1.marks]
  by_cases g : 0 < m1 65 27 ∧ 1 ≤ x ∧ x ≤ 200
  · by_cases g2 : 0 ≤ y ∧ y ≤ 1
    · rw [if_neg (show ¬ (m1 65 27 = 0 ∨ ¬ (1 ≤ x ∧ x ≤ 200) ∨ ¬ (0 ≤ y ∧ y ≤ 1)) by omega), if_neg (show ¬ (¬ (0 < m1 65 27 ∧ 1 ≤ x ∧ x ≤ 200) ∨ ¬ (0 ≤ y ∧ y ≤ 1)) by omega)]
    · rw [if_pos (Or.inr (Or.inr g2)), if_pos (Or.inr g2)]
  · rw [if_pos (show m1 65 27 = 0 ∨ ¬ (1 ≤ x ∧ x ≤ 200) ∨ ¬ (0 ≤ y ∧ y ≤ 1) by omega), if_pos (Or.inl g)])
theorem st_worst (w : Inv sc ls t mem) (x : Int) (hx : R32 x) : stp 0 bX11_worst 7 [(2, 0), (0, x)] bX12_worst 10 [(2, 65), (0, x)] mem (Inv sc ls t) := stp_of (c_X11_worst mem x hx w.nightP w.odd w.notes.1.1) (fun v1 m1 q => c_X12_worst m1 (fmI ls m1) x hx (Inv_same (same_odd q.2) w).play (Inv_same (same_odd q.2) w).takeM (Inv_same (same_odd q.2) w).forgS (by rw [(Inv_same (same_odd q.2) w).marks]; exact (Inv_same (same_odd q.2) w).notes.1.1)) (fun v1 m1 v2 m2 q1 q2 => by
  obtain ⟨e1, f1⟩ := q1
  obtain ⟨e2, f2⟩ := q2
  have w1 := Inv_same (same_odd f1) w
  refine ⟨?_, Inv_same (same_ch f2) w1⟩
  have n := w1.n
  have eu : (fun mk => (EX mem mk x).2.1) = fun mk => (EM m1 (fmI ls m1) mk (-1) x).2.1 := by
    funext mk
    rw [EX_odd f1, w1.oddE]
  rw [e1, e2, eu, ← f1.1 23 (by omega), ← f1.1 47 (by omega), w1.size, w1.marks]
  by_cases g : 0 < m1 65 27 ∧ 1 ≤ x ∧ x ≤ 200
  · rw [if_pos g, if_neg (by omega)]
  · rw [if_neg g, if_pos (by omega)])
theorem st_fewest (w : Inv sc ls t mem) (x y z : Int) (hx : R32 x) (hy : R32 y) (hz : R32 z) : stp 0 bX11_fewest 8 [(2, 0), (0, x), (0, y), (0, z)] bX12_fewest 10 [(2, 65), (0, x), (0, y), (0, z)] mem (Inv sc ls t) := stp_of (c_X11_fewest mem x y z hx hy hz w.notes.2.1.1 w.notes.2.1.2.2 w.nightP w.odd) (fun v1 m1 q => c_X12_fewest m1 (fmI ls m1) x y z hx hy hz (by rw [(Inv_same (same_odd q.1) w).notes.2.1.2.1]; exact (Inv_same (same_odd q.1) w).notes.2.1.1) (Inv_same (same_odd q.1) w).play (Inv_same (same_odd q.1) w).takeM (Inv_same (same_odd q.1) w).forgS (by have e := (Inv_same (same_odd q.1) w).notes.1; rw [e.2]; exact ⟨by omega, by omega⟩)) (fun v1 m1 v2 m2 q1 q2 => by
  obtain ⟨f1, e1⟩ := q1
  obtain ⟨f2, e2⟩ := q2
  have w1 := Inv_same (same_odd f1) w
  refine ⟨?_, Inv_same (same_ch f2) w1⟩
  rw [← f1.1 23 (by omega), ← f1.1 47 (by omega), w1.size] at e1
  rw [w1.marks, w1.notes.2.1.2.1] at e2
  rcases e1 with ⟨g, e1⟩ | ⟨g, r1, k1, e1⟩
  · rcases e2 with ⟨-, e2⟩ | ⟨g2, -⟩
    · rw [e1, e2]
    · exact absurd g2 g
  · rcases e2 with ⟨g2, -⟩ | ⟨-, r2, k2, e2⟩
    · exact absurd g g2
    · have er : r1 = r2 := fewK_unique (fewK_congr k1 (fun s => by rw [EX_odd f1, w1.oddE])) k2
      rw [e1, e2, er])
end
