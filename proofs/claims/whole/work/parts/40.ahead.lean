/-! ===== what is only thought: done and put back ===== -/
/-- the reference thinks: m WATCHES on from the row of μ0 (n CATS), which lies aside -/
def Sim (μ0 : MM) (n m : Nat) (μ : MM) : Prop := (∀ k, k ≠ 38 → k ≠ 40 → μ k = μ0 k) ∧ (∀ i, i < 152 → μ 38 i = wt (μ0 38) n m i) ∧ ∀ i, i < 152 → μ 40 i = μ0 38 i
theorem Sim.vw {μ0 μ : MM} {n m : Nat} (h : Sim μ0 n m μ) (hV : VW (μ0 38) n) (hm : m < 2 ^ 29) : VW (μ 38) n := VW_cong (fun i hi _ => (h.2.1 i hi).trans (by unfold wj; rw [if_neg (by omega)])) (VW_wj (m := m) (j := 0) hV (by omega) (by omega))
theorem Sim.rc {μ0 μ : MM} {n m : Nat} (h : Sim μ0 n m μ) (hC : RC μ0) : RC μ := RC_fr (h.1 42 (by decide) (by decide)) (h.1 43 (by decide) (by decide)) hC
theorem Sim.ship {μ0 μ : MM} {n m : Nat} (h : Sim μ0 n m μ) {s : Nat} (hs : s < 4) : μ 38 (116 + 3 * s) = nI (pos (μ0 38) n s m) := by
  rw [h.2.1 _ (by omega), wt_ship hs]
theorem sim_start {μ0 : MM} {n : Nat} (hV : VW (μ0 38) n) : ∃ μ, f_X5_copyRow 38 152 40 152 μ0 = some μ ∧ Sim μ0 n 0 μ := by
  refine ⟨_, copyRow_s (by decide) μ0, fun k a b => wsr_ne b, fun i hi => ?_, fun i hi => ?_⟩
  · rw [wsr_ne (by decide), wt_0 hV hi]
  · rw [wsr_same]
    show (if i < 152 then _ else _) = _
    rw [if_pos hi]
theorem sim_watch {μ0 μ : MM} {n m : Nat} (h : Sim μ0 n m μ) (hV : VW (μ0 38) n) (hC : RC μ0) (hm : m < 2 ^ 29) : ∃ μ', f_X5_watch μ = some μ' ∧ Sim μ0 n (m + 1) μ' := by
  obtain ⟨μ', e, a, b⟩ := mWatch hV (h.rc hC) hm h.2.1
  exact ⟨μ', e, fun k q1 q2 => (a k q1).trans (h.1 k q1 q2), b, fun i hi => by rw [a 40 (by decide)]; exact h.2.2 i hi⟩
theorem sim_watches {μ0 : MM} {n N : Nat} (hV : VW (μ0 38) n) (hC : RC μ0) (hN : N < 4096) : ∀ (d i fu : Nat) (μ : MM), i + d = N → d < fu → Sim μ0 n i μ → ∃ μ', L_X5_watches_2 (nI N) fu (nI i) μ = some μ' ∧ Sim μ0 n N μ' := by
  intro d
  induction d with
  | zero =>
    intro i fu μ hi hf h
    obtain ⟨f, rfl⟩ : ∃ f, fu = f + 1 := ⟨fu - 1, by omega⟩
    have e : i = N := by omega
    subst e
    exact ⟨μ, by rw [L_X5_watches_2, if_pos (Int32.le_refl _)], h⟩
  | succ d ih =>
    intro i fu μ hi hf h
    obtain ⟨f, rfl⟩ : ∃ f, fu = f + 1 := ⟨fu - 1, by omega⟩
    obtain ⟨μ1, e1, h1⟩ := sim_watch h hV hC (by omega)
    obtain ⟨μ2, e2, h2⟩ := ih (i + 1) f μ1 (by omega) (by omega) h1
    exact ⟨μ2, by rw [L_X5_watches_2, if_neg (nI_ge (by omega) (by omega)), e1, bdr_s, lt_s_, nI_1]; exact e2, h2⟩
/-- as it was, but for what lies aside -/
def Bk (μ0 μ : MM) : Prop := (∀ k, k ≠ 38 → k ≠ 40 → μ k = μ0 k) ∧ ∀ i, i < 152 → μ 38 i = μ0 38 i
theorem sim_back {μ0 μ : MM} {n m : Nat} (h : Sim μ0 n m μ) (v : Int32) : ∃ μ', f_X5_putBack v μ = some (v, μ') ∧ Bk μ0 μ' := by
  refine ⟨_, by unfold f_X5_putBack; rw [copyRow_s (by decide), bdr_s], fun k a b => by rw [wsr_ne a, h.1 k a b], fun i hi => ?_⟩
  rw [wsr_same]
  show (if i < 152 then _ else _) = _
  rw [if_pos hi, h.2.2 i hi]
theorem Rel_back {μ0 μ : MM} (b : Bk μ0 μ) (h : Rel μ0) : Rel μ := by
  obtain ⟨h1, ⟨n, hn⟩, h3, h4, h5, h6, h7⟩ := h
  have e := b.1
  refine ⟨?_, ⟨n, VN_cong b.2 hn⟩, RK_fr (by rw [e 0 (by decide) (by decide)]) (by rw [e 37 (by decide) (by decide)]) (fun k a b => e k (by omega) (by omega)) (e 39 (by decide) (by decide)) h3, RF_fr (e 34 (by decide) (by decide)) (e 41 (by decide) (by decide)) h4, RP_fr (by rw [e 19 (by decide) (by decide)]) (by rw [e 37 (by decide) (by decide)]) (e 20 (by decide) (by decide)) (e 44 (by decide) (by decide)) h5, RS_fr (fun k a b => e k (by omega) (by omega)) (e 47 (by decide) (by decide)) (e 48 (by decide) (by decide)) (e 49 (by decide) (by decide)) h6, RC_fr (e 42 (by decide) (by decide)) (e 43 (by decide) (by decide)) h7⟩
  exact RN_cong b.2 (RN_fr (fun k a b => e k (by omega) (by omega)) h1)
theorem aheadOf_s {μ0 : MM} {n N s : Nat} (hV : VW (μ0 38) n) (hC : RC μ0) (hN : N < 4096) (hs : s < 4) : ∃ μ, f_X5_aheadOf (nI s) (nI N) μ0 = some (nI (pos (μ0 38) n s N), μ) ∧ Bk μ0 μ := by
  obtain ⟨μ1, e1, h1⟩ := sim_start hV
  obtain ⟨μ2, e2, h2⟩ := sim_watches hV hC hN N 0 FU μ1 (by omega) (show N < 4096 from hN) h1
  obtain ⟨μ3, e3, h3⟩ := sim_back h2 (nI (pos (μ0 38) n s N))
  refine ⟨μ3, ?_, h3⟩
  unfold f_X5_aheadOf f_X5_watches
  rw [e1, bdr_s, show (0 : Int32) = nI 0 from rfl, e2, bdr_s, show nI 0 = (0 : Int32) from rfl, shipIs0 hs, bdr_s, h2.ship hs, e3, bdw_s]
/-- the class: the cell behind N watches -/
theorem cellBehind_s {μ : MM} {g : Nat → Int32} {n N s : Nat} (hR : RN μ 1 g) (hV : VW g n) (hN : N < 4096) (hs : s < 4) : f_X0_cellBehind (nI s) (nI N) μ = some (nI (pos g n s N)) := by
  have hL : ∀ (d i fu : Nat), i + d = N → d < fu → L_X0_cellBehind_10 (nI s) (nI N) μ fu (nI (pos g n s i)) (nI i) = some (nI (pos g n s N)) := by
    intro d
    induction d with
    | zero =>
      intro i fu hi hf
      obtain ⟨f, rfl⟩ : ∃ f, fu = f + 1 := ⟨fu - 1, by omega⟩
      have e : i = N := by omega
      subst e
      rw [L_X0_cellBehind_10, if_pos (Int32.le_refl _)]
    | succ d ih =>
      intro i fu hi hf
      obtain ⟨f, rfl⟩ : ∃ f, fu = f + 1 := ⟨fu - 1, by omega⟩
      rw [L_X0_cellBehind_10, if_neg (nI_ge (by omega) (by omega)), xNext hR hV hs (pos_lt hV hs i), bdr_s, lt_s_, nI_1]
      exact ih (i + 1) f (by omega) (by omega)
  unfold f_X0_cellBehind
  obtain ⟨c, hc, e⟩ := (hV.ship hs).1
  have e0 : g (116 + 3 * s) = nI (pos g n s 0) := by
    unfold pos
    rw [e, nI_clamp (by omega)]
  rw [ldi_n hs (by decide), (hR.ship1 hs).1, e0]
  exact hL N 0 FU (by omega) (show N < 4096 from hN)
/-- a question of which the reference thinks -/
theorem two_bk {α : Type} {fx fm : MM → Option (α × MM)} {μ μ' : MM} (h : Rel μ) (r : α) (e1 : fx μ = some (r, μ)) (e2 : fm μ = some (r, μ')) (b : Bk μ μ') : ∃ r μ1 μ2, fx μ = some (r, μ1) ∧ fm μ1 = some (r, μ2) ∧ Rel μ2 := ⟨r, μ, μ', e1, e2, Rel_back b h⟩
theorem s_ahead (a b : Int32) : Two (f_X4_ahead a b) (f_X5_ahead a b) := by
  intro μ h
  obtain ⟨n, hV0⟩ := h.2.1
  by_cases q : wi a 0 3 = 0
  · exact two_find h (-1000001) 0 (by decide) (by simp only [f_X4_ahead, xShip, bdr_s, if_pos q, bdw_id]) (fun m _ => by simp only [f_X5_ahead, mShip, bdr_s, if_pos q, bdw_id])
  by_cases g : wi b 0 200 = 0
  · exact two_find h (-1000001) 0 (by decide) (by simp only [f_X4_ahead, xShip, isWithin_s, bdr_s, if_neg q, if_pos g, bdw_id]) (fun m _ => by simp only [f_X5_ahead, mShip, within_s, bdr_s, if_neg q, if_pos g, bdw_id])
  obtain ⟨s, hs, rfl⟩ := wi_n (N := 3) (by decide) q
  obtain ⟨N, hN, rfl⟩ := wi_n (N := 200) (by decide) g
  obtain ⟨μ', e2, b2⟩ := aheadOf_s (N := N) (s := s) hV0.w h.2.2.2.2.2.2 (by omega) (by omega)
  exact two_bk h (nI (pos (μ 38) n s N)) (by simp only [f_X4_ahead, xShip, isWithin_s, bdr_s, if_neg q, if_neg g, cellBehind_s h.1 hV0.w (show N < 4096 by omega) (show s < 4 by omega)]) (by simp only [f_X5_ahead, mShip, within_s, bdr_s, if_neg q, if_neg g, e2, bdw_s]) b2
theorem sim_errs {μ0 μ : MM} {n m c : Nat} (h : Sim μ0 n m μ) (hV : VW (μ0 38) n) (hc : c < n) : f_X5_errs (nI c) μ = some (eN (μ0 38) m c) := by
  have hn := hV.le
  rw [merrs_s (by omega), h.2.1 _ (by omega), h.2.1 _ (by omega), h.2.1 _ (by omega), h.2.1 _ (by omega), h.2.1 _ (by omega), wt_o (by omega) (by omega) (by omega), wt_hun hc, wt_o (by omega) (by omega) (by omega), wt_o (by omega) (by omega) (by omega), wt_t]
  rfl
theorem s_sits (a b : Int32) : Two (f_X4_sits a b) (f_X5_sits a b) := by
  intro μ h
  obtain ⟨n, hn8, hn, hc, hcx⟩ := h.cats
  by_cases q : wi a 0 (nI n - 1) = 0
  · exact two_find h (-1000001) 0 (by decide) (by simp only [f_X4_sits, xCat, hcx, bdr_s, if_pos q, bdw_id]) (fun m hm => by simp only [f_X5_sits, mCat, hm 38 (by decide), hc, bdr_s, if_pos q, bdw_id])
  by_cases g : wi b 0 200 = 0
  · exact two_find h (-1000001) 0 (by decide) (by simp only [f_X4_sits, xCat, hcx, isWithin_s, bdr_s, if_neg q, if_pos g, bdw_id]) (fun m hm => by simp only [f_X5_sits, mCat, hm 38 (by decide), hc, within_s, bdr_s, if_neg q, if_pos g, bdw_id])
  obtain ⟨c, hcn, rfl⟩ := cat_n hn8 q
  obtain ⟨N, hN, rfl⟩ := wi_n (N := 200) (by decide) g
  have hc8 : c < 8 := by omega
  obtain ⟨n1, n2, n3, n4, n5, n6⟩ := h.1.num
  obtain ⟨μ1, e1, h1⟩ := sim_start hn.w
  obtain ⟨μ2, e2, h2⟩ := sim_watches hn.w h.2.2.2.2.2.2 (show N < 4096 by omega) N 0 FU μ1 (by omega) (show N < 4096 by omega) h1
  obtain ⟨μ3, e3, h3⟩ := sim_back h2 (eN (μ 38) N c)
  rw [show nI 0 = (0 : Int32) from rfl] at e2
  refine two_bk h (eN (μ 38) N c) ?_ ?_ h3
  · simp only [f_X4_sits, xCat, hcx, isWithin_s, bdr_s, if_neg q, if_neg g, errs_s hc8]
    unfold eN
    rw [(h.1.cat1 hc8).1, (h.1.cat1 hc8).2.1, (h.1.cat1 hc8).2.2, n3, n5]
  · simp only [f_X5_sits, mCat, hc, within_s, bdr_s, if_neg q, if_neg g, f_X5_satBehind, f_X5_watches, e1, e2, sim_errs h2 hn.w hcn, e3, bdw_s]
