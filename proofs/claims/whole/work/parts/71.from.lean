theorem findBegun_s {μ0 : MM} {n s j z : Nat} (hV : VW (μ0 38) n) (hC : RC μ0) (hs : s < 4) (hj : j < 4) (hz : z ≤ 40) (ez : μ0 48 j = nI z) : ∃ m', f_X5_findBegun (nI j) (nI s) μ0 = some (vm (ff (fun v => al (tp (upd (μ0 38) (116 + 3 * s) (nI v)) n s (fun m => μ0 49 (40 * j + m))) 0 z) 100), m') ∧ Thk μ0 m' ∧ m' 37 9 = nI (cnt (fun v => al (tp (upd (μ0 38) (116 + 3 * s) (nI v)) n s (fun m => μ0 49 (40 * j + m))) 0 z) 100) := by
  obtain ⟨m', a1, a2, a3⟩ := findLoop hV hC hs hj hz ez (fun (x2 : Int32) (m2 : MM) => bdr (f_X5_atShip (nI s) 0) fun x3 => sti m2 38 152 x3 (μ0 38 (116 + 3 * s)) fun m3 => some (x2, m3)) 100 0 FU (wst μ0 37 9 0) (by omega) (by decide) (thq37 (by decide)) (by rw [wst_at, upd_at]; rfl)
  refine ⟨wst m' 38 (116 + 3 * s) (μ0 38 (116 + 3 * s)), ?_, ⟨fun k hk => ?_, by rw [wst_o (by decide), a2.2.1], by rw [wst_o (by decide), a2.2.2.1], fun i hi _ => ?_⟩, by rw [wst_o (by decide), a3]⟩
  · unfold f_X5_findBegun
    rw [shipIs0 hs, bdr_s, lt_s_, jn2_s]
    refine (show _ = _ from a1).trans ?_
    rw [atShip0, bdr_s, sti_n (n := 152) (j := 116 + 3 * s) (by omega) (by decide)]
  · rw [wst_o (fun e => hk (by rw [e]; unfold fre; omega)), a2.1 k hk]
  · rw [wst_at]
    by_cases y : i = 116 + 3 * s
    · subst y
      rw [upd_at]
    · rw [upd_o y, a2.2.2.2 i hi y]
/-- both calls, beyond the findings of the sheet and the ship -/
theorem log_ship {μ : MM} {n s j z : Nat} (h : Rel μ) (hV : VW (μ 38) n) (hs : s < 4) (hj : j < 4) (hz : z ≤ 40) (ez : μ 48 j = nI z) : ∃ μ1, (∀ k, k ≠ 35 → μ1 k = μ k) ∧ f_X4_readAhead (nI s) (μ (26 + 2 * j) 1) μ = some μ1 ∧ ∀ v, v < 100 → f_X4_goesAsTold (26 + 2 * j) (nI s) (nI v) μ1 = some (b01 ((fun v => al (tp (upd (μ 38) (116 + 3 * s) (nI v)) n s (fun m => μ 49 (40 * j + m))) 0 z) v)) := by
  obtain ⟨r1, r2, r3, r4, r5⟩ := h.2.2.2.2.2.1 j hj
  obtain ⟨μ1, e1, e2, e3⟩ := ready_s h.1 hV hs (N := z) (by omega)
  refine ⟨μ1, e2, by rw [r2, ez, e1], fun v hv => ?_⟩
  rw [xGoes e3 hV hs hz (by rw [e2 _ (by omega), r2, ez]) (by omega)]
  refine congrArg some (congrArg b01 (al_cong (fun x _ hx => ?_)))
  unfold tp
  rw [e2 _ (by omega), r3 x (by omega)]
theorem s_begun (a b : Int32) : Two (f_X4_begun a b) (f_X5_begun a b) := by
  intro μ h
  obtain ⟨n, hn⟩ := h.2.1
  have hV := hn.w
  by_cases q : wi a 0 3 = 0
  · exact two_find h (-1000001) 0 (by decide) (by simp only [f_X4_begun, xShip, bdr_s, wlog_1 q]; rw [find_pass (j := 0) (by decide) (by decide)]) (fun m hm => by simp only [f_X5_begun, lacks_1 q, bdr_s, bdw_id]; rw [if_neg (by decide)])
  obtain ⟨j, hj, rfl⟩ := wi_n (N := 3) (by decide) q
  have hj4 : j < 4 := by omega
  obtain ⟨r1, r2, r3, ⟨z, hz, ez⟩, r5⟩ := h.2.2.2.2.2.1 j hj4
  by_cases g : μ 47 j = 0
  · exact two_find h (-1000006) 5 (by decide) (by simp only [f_X4_begun, xShip, bdr_s, wlog_2 hj4 (r1.trans g)]; rw [find_pass (j := 5) (by decide) (by decide)]) (fun m hm => by simp only [f_X5_begun, lacks_2 hj4, hm 47 (by decide), if_pos g, bdr_s, bdw_id]; rw [if_neg (by decide)])
  have g' : ¬ μ (26 + 2 * j) 0 = 0 := by rw [r1]; exact g
  by_cases q2 : wi b 0 3 = 0
  · exact two_find h (-1000001) 0 (by decide) (by simp only [f_X4_begun, xShip, bdr_s, wlog_3 hj4 g' q2]; rw [find_pass (j := 0) (by decide) (by decide)]) (fun m hm => by simp only [f_X5_begun, lacks_2 hj4, hm 47 (by decide), if_neg g, mShip, bdr_s, if_pos q2, bdw_id]; rw [if_pos trivial])
  obtain ⟨s, hs, rfl⟩ := wi_n (N := 3) (by decide) q2
  have hs4 : s < 4 := by omega
  obtain ⟨μ1, e2, e1, e3⟩ := log_ship h hV hs4 hj4 hz ez
  obtain ⟨m', a1, a2, a3⟩ := findBegun_s (μ0 := μ1) (n := n) (s := s) (j := j) (z := z) (by rw [e2 38 (by decide)]; exact hV) (RC_fr (e2 42 (by decide)) (e2 43 (by decide)) h.2.2.2.2.2.2) hs4 hj4 hz (by rw [e2 48 (by decide), ez])
  rw [e2 38 (by decide), e2 49 (by decide)] at a1 a3
  refine two_thk (μ1 := μ1) (μ2 := m') h (nI (cnt (fun v => al (tp (upd (μ 38) (116 + 3 * s) (nI v)) n s (fun m => μ 49 (40 * j + m))) 0 z) 100)) ?_ (thk35 e2) ?_ a2
  · simp only [f_X4_begun, xShip, bdr_s, wlog_0 hj4 g' q2, bdw_s, if_true]
    rw [ldq_n hj4 (by decide), e1, bdr_s]
    exact begLoop hj4 e3 100 0 FU (by omega) (by decide)
  · simp only [f_X5_begun, lacks_2 hj4, e2 47 (by decide), if_neg g, mShip, bdr_s, if_neg q2, a1, bdw_s, a3]
    rw [if_pos trivial]
    cases e : ff (fun v => al (tp (upd (μ 38) (116 + 3 * s) (nI v)) n s (fun m => μ 49 (40 * j + m))) 0 z) 100 with
    | none => rw [if_neg (show ¬ (0 : Int32) ≤ vm none by decide), ff_0 e]; rfl
    | some y =>
      have := ff_lt e
      rw [if_pos (show (0 : Int32) ≤ vm (some y) from nn_0 (by omega))]
theorem s_from (a b : Int32) : Two (f_X4_from a b) (f_X5_from a b) := by
  intro μ h
  obtain ⟨n, hn⟩ := h.2.1
  have hV := hn.w
  by_cases q : wi a 0 3 = 0
  · exact two_find h (-1000001) 0 (by decide) (by simp only [f_X4_from, xShip, bdr_s, wlog_1 q]; rw [find_pass (j := 0) (by decide) (by decide)]) (fun m hm => by simp only [f_X5_from, lacks_1 q, bdr_s, bdw_id]; rw [if_neg (by decide)])
  obtain ⟨j, hj, rfl⟩ := wi_n (N := 3) (by decide) q
  have hj4 : j < 4 := by omega
  obtain ⟨r1, r2, r3, ⟨z, hz, ez⟩, r5⟩ := h.2.2.2.2.2.1 j hj4
  by_cases g : μ 47 j = 0
  · exact two_find h (-1000006) 5 (by decide) (by simp only [f_X4_from, xShip, bdr_s, wlog_2 hj4 (r1.trans g)]; rw [find_pass (j := 5) (by decide) (by decide)]) (fun m hm => by simp only [f_X5_from, lacks_2 hj4, hm 47 (by decide), if_pos g, bdr_s, bdw_id]; rw [if_neg (by decide)])
  have g' : ¬ μ (26 + 2 * j) 0 = 0 := by rw [r1]; exact g
  by_cases q2 : wi b 0 3 = 0
  · exact two_find h (-1000001) 0 (by decide) (by simp only [f_X4_from, xShip, bdr_s, wlog_3 hj4 g' q2]; rw [find_pass (j := 0) (by decide) (by decide)]) (fun m hm => by simp only [f_X5_from, lacks_2 hj4, hm 47 (by decide), if_neg g, mShip, bdr_s, if_pos q2, bdw_id]; rw [if_pos trivial])
  obtain ⟨s, hs, rfl⟩ := wi_n (N := 3) (by decide) q2
  have hs4 : s < 4 := by omega
  obtain ⟨μ1, e2, e1, e3⟩ := log_ship h hV hs4 hj4 hz ez
  have ex : f_X4_from (nI j) (nI s) μ = match ff (fun v => al (tp (upd (μ 38) (116 + 3 * s) (nI v)) n s (fun m => μ 49 (40 * j + m))) 0 z) 100 with | some k => some (nI k, μ1) | none => f_X4_finding (-1000004) μ1 := by
    simp only [f_X4_from, xShip, bdr_s, wlog_0 hj4 g' q2, bdw_s, if_true]
    rw [ldq_n hj4 (by decide), e1, bdr_s]
    exact fromLoop hj4 e3 100 0 FU (by omega) (by decide) rfl
  have em : ∀ m : MM, (∀ k, k ≠ 34 → m k = μ1 k) → ∃ m', Thk m m' ∧ f_X5_from (nI j) (nI s) m = f_X5_orNone (vm (ff (fun v => al (tp (upd (μ 38) (116 + 3 * s) (nI v)) n s (fun m => μ 49 (40 * j + m))) 0 z) 100)) m' := fun m hm => by
    have e : ∀ k, k ≠ 34 → k ≠ 35 → m k = μ k := fun k x y => (hm k x).trans (e2 k y)
    obtain ⟨m', a1, a2, a3⟩ := findBegun_s (μ0 := m) (n := n) (s := s) (j := j) (z := z) (by rw [e 38 (by decide) (by decide)]; exact hV) (RC_fr (e 42 (by decide) (by decide)) (e 43 (by decide) (by decide)) h.2.2.2.2.2.2) hs4 hj4 hz (by rw [e 48 (by decide) (by decide), ez])
    rw [e 38 (by decide) (by decide), e 49 (by decide) (by decide)] at a1
    refine ⟨m', a2, ?_⟩
    simp only [f_X5_from, lacks_2 hj4, e 47 (by decide) (by decide), if_neg g, mShip, bdr_s, if_neg q2, a1, bdw_s, bdw_id]
    rw [if_pos trivial]
  cases hq : ff (fun v => al (tp (upd (μ 38) (116 + 3 * s) (nI v)) n s (fun m => μ 49 (40 * j + m))) 0 z) 100 with
  | none =>
    rw [hq] at ex em
    refine find_thk h (-1000004) 3 (by decide) (thk35 e2) ex (fun m hm => ?_)
    obtain ⟨m', b, e⟩ := em m hm
    exact ⟨m', b, e.trans (orNone_n m')⟩
  | some y =>
    rw [hq] at ex em
    have := ff_lt hq
    obtain ⟨m', b, e⟩ := em μ1 (fun _ _ => rfl)
    exact two_thk h (nI y) ex (thk35 e2) (e.trans (orNone_s (by omega) m')) b
