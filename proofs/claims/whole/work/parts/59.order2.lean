def oO (g : Nat → Int32) (n s v : Nat) : Option Nat := fd (lp (upd g (116 + 3 * s + 1) (nI v)) n s) 0 61
def oW (g : Nat → Int32) (n s v : Nat) : Option Nat := fd (lp (upd g 2 (nI v)) n s) 0 61
theorem quick_s {μ : MM} {n s : Nat} (h : Rel μ) (hV : VW (μ 38) n) (hs : s < 4) : ∃ μ1, f_X4_quickestOrder (nI s) μ = some (qb (qk (oO (μ 38) n s) 32), μ1) ∧ (∀ k, k ≠ 35 → μ1 k = μ k) ∧ Rdy μ1 (μ 38) n s 60 := by
  obtain ⟨μ1, e1, e2, e3⟩ := ready_s h.1 hV hs (N := 60) (by decide)
  refine ⟨μ1, ?_, e2, e3⟩
  unfold f_X4_quickestOrder
  rw [show (60 : Int32) = nI 60 from rfl, e1, bdr_s]
  obtain ⟨w, hw, ew⟩ := hV.wind
  refine quickLoop (M := 32) (fun v k h => fd60 h) (fun v hv => ?_) 32 0 FU (by omega) (by decide)
  rw [(e3.1.num).2.1, ew, landsBy e3 hV hs (by omega) hw]
  rw [upd_gv_o ew]
theorem best_s {m : MM} {g : Nat → Int32} {n s : Nat} (eg : m 38 = g) (hV : VW g n) (hC : RC m) (hs : s < 4) : ∃ m', f_X5_bestOrder (nI s) m = some (qb (qk (oO g n s) 32), m') ∧ Thk m m' ∧ m' 37 7 = qr (qk (oO g n s) 32) := by
  subst eg
  obtain ⟨m', a1, a2, a3⟩ := soonWith_s (μ0 := m) (n := n) (s := s) (p := 116 + 3 * s + 1) (M := 32) (fun v hv => VW_upd hV (Or.inr ((ok_ship hs _).2.1.mpr ⟨v, by omega, rfl⟩))) hC hs (by omega) (by decide)
  refine ⟨m', ?_, a2, a3⟩
  unfold f_X5_bestOrder
  rw [atShip1, bdr_s, bdw_id]
  exact a1
theorem orNone_n (m : MM) : f_X5_orNone (-1) m = f_X5_finding (-1000004) m := by
  unfold f_X5_orNone
  rw [if_neg (by decide), bdw_id]
theorem orNone_s {k : Nat} (hk : k < 2 ^ 31) (m : MM) : f_X5_orNone (nI k) m = some (nI k, m) := by
  unfold f_X5_orNone
  rw [if_pos (Int32.not_lt.mp (nI_pos hk))]
theorem nn_0 {k : Nat} (hk : k < 2 ^ 31) : (0 : Int32) ≤ nI k := Int32.not_lt.mp (nI_pos hk)
theorem thk35 {μ μ1 : MM} (e : ∀ k, k ≠ 35 → μ1 k = μ k) : Thk μ μ1 := ⟨fun k hk => e k (fun q => hk (by rw [q]; unfold fre; omega)), by rw [e 37 (by decide)], by rw [e 37 (by decide)], fun i _ _ => by rw [e 38 (by decide)]⟩
theorem s_order (a : Int32) : Two (f_X4_order a) (f_X5_order a) := by
  intro μ h
  obtain ⟨n, hV0⟩ := h.2.1
  have hV := hV0.w
  by_cases q : wi a 0 3 = 0
  · exact two_find h (-1000001) 0 (by decide) (by simp only [f_X4_order, xShip, bdr_s, if_pos q, bdw_id]) (fun m _ => by simp only [f_X5_order, mShip, bdr_s, if_pos q, bdw_id])
  obtain ⟨s, hs, rfl⟩ := wi_n (N := 3) (by decide) q
  have hs4 : s < 4 := by omega
  obtain ⟨μ1, e1, e2, e3⟩ := quick_s h hV hs4
  have em : ∀ m : MM, (∀ k, k ≠ 34 → m k = μ1 k) → ∃ m', Thk m m' ∧ f_X5_order (nI s) m = f_X5_orNone (qb (qk (oO (μ 38) n s) 32)) m' := fun m hm => by
    obtain ⟨m', a1, a2, a3⟩ := best_s (m := m) ((hm 38 (by decide)).trans (e2 38 (by decide))) hV (RC_fr ((hm 42 (by decide)).trans (e2 42 (by decide))) ((hm 43 (by decide)).trans (e2 43 (by decide))) h.2.2.2.2.2.2) hs4
    refine ⟨m', a2, ?_⟩
    simp only [f_X5_order, mShip, bdr_s, if_neg q, a1, bdw_s, bdw_id]
  have ex : f_X4_order (nI s) μ = if 0 ≤ qb (qk (oO (μ 38) n s) 32) then some (qb (qk (oO (μ 38) n s) 32), μ1) else f_X4_finding (-1000004) μ1 := by
    simp only [f_X4_order, xShip, bdr_s, if_neg q, e1, bdw_s, bdw_id]
  cases hq : qk (oO (μ 38) n s) 32 with
  | none =>
    rw [hq] at ex em
    refine find_thk h (-1000004) 3 (by decide) (thk35 e2) (ex.trans (if_neg (by decide))) (fun m hm => ?_)
    obtain ⟨m', b, e⟩ := em m hm
    exact ⟨m', b, e.trans (orNone_n m')⟩
  | some x =>
    rw [hq] at ex em
    have hx := qk_le (fun v k h => fd60 h) 32 x hq
    obtain ⟨m', b, e⟩ := em μ1 (fun _ _ => rfl)
    exact two_thk h (nI x.1) (ex.trans (if_pos (nn_0 (by omega)))) (thk35 e2) (e.trans (orNone_s (by omega) m')) b
theorem s_soonest (a : Int32) : Two (f_X4_soonest a) (f_X5_soonest a) := by
  intro μ h
  obtain ⟨n, hV0⟩ := h.2.1
  have hV := hV0.w
  by_cases q : wi a 0 3 = 0
  · exact two_find h (-1000001) 0 (by decide) (by simp only [f_X4_soonest, xShip, bdr_s, if_pos q, bdw_id]) (fun m _ => by simp only [f_X5_soonest, mShip, bdr_s, if_pos q, bdw_id])
  obtain ⟨s, hs, rfl⟩ := wi_n (N := 3) (by decide) q
  have hs4 : s < 4 := by omega
  obtain ⟨μ1, e1, e2, e3⟩ := quick_s h hV hs4
  have em : ∀ m : MM, (∀ k, k ≠ 34 → m k = μ1 k) → ∃ m', Thk m m' ∧ f_X5_soonest (nI s) m = if 0 ≤ qb (qk (oO (μ 38) n s) 32) then f_X5_orNone (qr (qk (oO (μ 38) n s) 32)) m' else f_X5_orNone (-1) m' := fun m hm => by
    obtain ⟨m', a1, a2, a3⟩ := best_s (m := m) ((hm 38 (by decide)).trans (e2 38 (by decide))) hV (RC_fr ((hm 42 (by decide)).trans (e2 42 (by decide))) ((hm 43 (by decide)).trans (e2 43 (by decide))) h.2.2.2.2.2.2) hs4
    refine ⟨m', a2, ?_⟩
    simp only [f_X5_soonest, mShip, bdr_s, if_neg q, a1, bdw_s, bdw_id, a3]
  have ex : f_X4_soonest (nI s) μ = if 0 ≤ qb (qk (oO (μ 38) n s) 32) then (bdr (f_X4_landsBehind (nI s) (qb (qk (oO (μ 38) n s) 32)) (μ1 1 8) μ1) fun x3 => some (x3, μ1)) else f_X4_finding (-1000004) μ1 := by
    simp only [f_X4_soonest, xShip, bdr_s, if_neg q, e1, bdw_s, bdw_id]
  cases hq : qk (oO (μ 38) n s) 32 with
  | none =>
    rw [hq] at ex em
    refine find_thk h (-1000004) 3 (by decide) (thk35 e2) (ex.trans (if_neg (by decide))) (fun m hm => ?_)
    obtain ⟨m', b, e⟩ := em m hm
    exact ⟨m', b, (e.trans (if_neg (by decide))).trans (orNone_n m')⟩
  | some x =>
    rw [hq] at ex em
    have hx := qk_le (fun v k h => fd60 h) 32 x hq
    obtain ⟨m', b, e⟩ := em μ1 (fun _ _ => rfl)
    obtain ⟨w, hw, ew⟩ := hV.wind
    have el : f_X4_landsBehind (nI s) (nI x.1) (μ1 1 8) μ1 = some (nI x.2) := by
      rw [(e3.1.num).2.1, ew, landsBy e3 hV hs4 (by omega) hw, ← upd_gv_o ew]
      have := hx.2.2
      unfold oO at this
      rw [this]
      rfl
    refine two_thk h (nI x.2) ((ex.trans (if_pos (nn_0 (by omega)))).trans ?_) (thk35 e2) ((e.trans (if_pos (nn_0 (by omega)))).trans (orNone_s (by omega) m')) b
    show (bdr (f_X4_landsBehind (nI s) (nI x.1) (μ1 1 8) μ1) _) = _
    rw [el, bdr_s]
theorem s_windFor (a : Int32) : Two (f_X4_windFor a) (f_X5_windFor a) := by
  intro μ h
  obtain ⟨n, hV0⟩ := h.2.1
  have hV := hV0.w
  by_cases q : wi a 0 3 = 0
  · exact two_find h (-1000001) 0 (by decide) (by simp only [f_X4_windFor, xShip, bdr_s, if_pos q, bdw_id]) (fun m _ => by simp only [f_X5_windFor, mShip, bdr_s, if_pos q, bdw_id])
  obtain ⟨s, hs, rfl⟩ := wi_n (N := 3) (by decide) q
  have hs4 : s < 4 := by omega
  obtain ⟨μ1, e1, e2, e3⟩ := ready_s h.1 hV hs4 (N := 60) (by decide)
  obtain ⟨o, ho, eo⟩ := (hV.ship hs4).2.1
  have em : ∀ m : MM, (∀ k, k ≠ 34 → m k = μ1 k) → ∃ m', Thk m m' ∧ f_X5_windFor (nI s) m = f_X5_orNone (qb (qk (oW (μ 38) n s) 8)) m' := fun m hm => by
    have e38 : m 38 = μ 38 := (hm 38 (by decide)).trans (e2 38 (by decide))
    obtain ⟨m', a1, a2, a3⟩ := soonWith_s (μ0 := m) (n := n) (s := s) (p := 2) (M := 8) (fun v hv => VW_upd (by rw [e38]; exact hV) (Or.inr ⟨v, by omega, rfl⟩)) (RC_fr ((hm 42 (by decide)).trans (e2 42 (by decide))) ((hm 43 (by decide)).trans (e2 43 (by decide))) h.2.2.2.2.2.2) hs4 (by omega) (by decide)
    refine ⟨m', a2, ?_⟩
    rw [e38] at a1
    simp only [f_X5_windFor, mShip, bdr_s, if_neg q, bdw_id]
    rw [show (2 : Int32) = nI 2 from rfl, show (8 : Int32) = nI 8 from rfl, a1, bdw_s]
    rfl
  have ex : f_X4_windFor (nI s) μ = if 0 ≤ qb (qk (oW (μ 38) n s) 8) then some (qb (qk (oW (μ 38) n s) 8), μ1) else f_X4_finding (-1000004) μ1 := by
    simp only [f_X4_windFor, xShip, bdr_s, if_neg q, bdw_id]
    rw [show (60 : Int32) = nI 60 from rfl, e1, bdr_s, jn1_s]
    refine windLoop hs4 (fun v k h => fd60 h) (fun v hv => ?_) _ 8 0 FU (by omega) (by decide)
    rw [(e3.1.ship1 hs4).2.1, eo, landsBy e3 hV hs4 ho (by omega)]
    rw [upd_gv_w eo]
  cases hq : qk (oW (μ 38) n s) 8 with
  | none =>
    rw [hq] at ex em
    refine find_thk h (-1000004) 3 (by decide) (thk35 e2) (ex.trans (if_neg (by decide))) (fun m hm => ?_)
    obtain ⟨m', b, e⟩ := em m hm
    exact ⟨m', b, e.trans (orNone_n m')⟩
  | some x =>
    rw [hq] at ex em
    have hx := qk_le (fun v k h => fd60 h) 8 x hq
    obtain ⟨m', b, e⟩ := em μ1 (fun _ _ => rfl)
    exact two_thk h (nI x.1) (ex.trans (if_pos (nn_0 (by omega)))) (thk35 e2) (e.trans (orNone_s (by omega) m')) b
