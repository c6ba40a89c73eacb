/-! ===== orders ===== -/
def os (c : Nat → Nat) (p : Int32) : Nat → Int64
  | 0 => 0
  | v + 1 => if nI (c v) = p then os c p v ||| lsl 1 (nI v) else os c p v
theorem ends_s {μ : MM} {g : Nat → Int32} {n s o w : Nat} (h : Rdy μ g n s 60) (hV : VW g n) (hs : s < 4) (ho : o ≤ 31) (hw : g 2 = nI w ∧ w ≤ 7) : f_X4_endsAt (nI s) (nI o) μ = some (nI (pos (gv g s (nI o) (nI w)) n s 60)) := by
  have hL : ∀ (d i fu : Nat), i + d = 60 → d < fu → L_X4_endsAt_13 (nI o) μ fu (nI (pos (gv g s (nI o) (nI w)) n s i)) (nI i) = some (nI (pos (gv g s (nI o) (nI w)) n s 60)) := by
    intro d
    induction d with
    | zero =>
      intro i fu hi hf
      obtain ⟨f, rfl⟩ : ∃ f, fu = f + 1 := ⟨fu - 1, by omega⟩
      have e : i = 60 := by omega
      subst e
      rw [L_X4_endsAt_13, if_pos (show (60 : Int32) ≤ nI 60 by decide)]
    | succ d ih =>
      intro i fu hi hf
      obtain ⟨f, rfl⟩ : ∃ f, fu = f + 1 := ⟨fu - 1, by omega⟩
      have hp := pos_lt (VW_gv hV hs ho hw.2) hs i
      rw [L_X4_endsAt_13, if_neg (ge_n (z := 60) (N := 60) rfl (by decide) (by omega)), (h.1.num).2.1, hw.1, by_s (i := i) h hV hs ho hw.2 (by omega) (by decide) hp, lt_s_, nI_1]
      exact ih (i + 1) f (by omega) (by omega)
  unfold f_X4_endsAt
  rw [ldi_n hs (by decide), (h.1.ship1 hs).1, show g (116 + 3 * s) = nI (pos (gv g s (nI o) (nI w)) n s 0) from by rw [← pos_0 (VW_gv hV hs ho hw.2) hs, gv_o (by omega) (by omega)]]
  exact hL 60 0 FU (by omega) (by decide)
theorem xOrders {m : MM} {s : Nat} {p : Int32} {c : Nat → Nat} (hL : ∀ v, v < 32 → f_X4_endsAt (nI s) (nI v) m = some (nI (c v))) : ∀ (d i fu : Nat), i + d = 32 → d < fu → L_X4_orders_54 (nI s) p m fu (os c p i) (nI i) = some (os c p 32, m) := by
  intro d
  induction d with
  | zero =>
    intro i fu hi hf
    obtain ⟨f, rfl⟩ : ∃ f, fu = f + 1 := ⟨fu - 1, by omega⟩
    have e : i = 32 := by omega
    subst e
    rw [L_X4_orders_54, if_pos (show (32 : Int32) ≤ nI 32 by decide)]
  | succ d ih =>
    intro i fu hi hf
    obtain ⟨f, rfl⟩ : ∃ f, fu = f + 1 := ⟨fu - 1, by omega⟩
    rw [L_X4_orders_54, if_neg (ge_n (z := 32) (N := 32) rfl (by decide) (by omega)), hL i (by omega), bdr_s]
    simp only [jn1_s, lt_s_, nI_1]
    rw [← ih (i + 1) f (by omega) (by omega)]
    show _ = L_X4_orders_54 (nI s) p m f (if nI (c i) = p then os c p i ||| lsl 1 (nI i) else os c p i) (nI (i + 1))
    split <;> rfl
theorem or_0 (x : Int64) : x ||| 0 = x := Int64.or_zero
theorem row_at {m μ0 : MM} {q : Nat → Prop} {p : Nat} (hm : Thq q μ0 m) (hq : ∀ x, q x → x = p) (v : Int32) : ∀ j, j < 152 → wst m 38 p v 38 j = upd (μ0 38) p v j := fun j hj => by
  rw [wst_at]
  by_cases y : j = p
  · subst y
    rw [upd_at, upd_at]
  · rw [upd_o y, upd_o y, hm.2.2.2 j hj (fun z => y (hq j z))]
theorem thq38 {q : Nat → Prop} {m : MM} {p : Nat} {v : Int32} (hq : q p) : Thq q m (wst m 38 p v) := ⟨fun k hk => wst_o (fun e => hk (by rw [e]; unfold fre; omega)), by rw [wst_o (by decide)], by rw [wst_o (by decide)], fun x hx y => by rw [wst_at, upd_o (fun e => y (by rw [e]; exact hq))]⟩
theorem thq37 {q : Nat → Prop} {m : MM} {p : Nat} {v : Int32} (hp : p ≠ 3 ∧ p ≠ 11) : Thq q m (wst m 37 p v) := ⟨fun k hk => wst_o (fun e => hk (by rw [e]; unfold fre; omega)), by rw [wst_at, upd_o hp.1.symm], by rw [wst_at, upd_o hp.2.symm], fun x hx _ => by rw [wst_o (by decide)]⟩
theorem mOrders {μ0 : MM} {n s : Nat} {p : Int32} (hV : VW (μ0 38) n) (hC : RC μ0) (hs : s < 4) (k1 : Int64 → MM → Option (Int64 × MM)) : ∀ (d i fu : Nat) (m : MM), i + d = 32 → d < fu → Thq (fun x => x = 116 + 3 * s + 1) μ0 m → ∃ m', L_X5_orders_51 (nI s) p k1 fu (os (fun v => pos (upd (μ0 38) (116 + 3 * s + 1) (nI v)) n s 60) p i) (nI i) m = k1 (os (fun v => pos (upd (μ0 38) (116 + 3 * s + 1) (nI v)) n s 60) p 32) m' ∧ Thq (fun x => x = 116 + 3 * s + 1) μ0 m' := by
  intro d
  induction d with
  | zero =>
    intro i fu m hi hf hm
    obtain ⟨f, rfl⟩ : ∃ f, fu = f + 1 := ⟨fu - 1, by omega⟩
    have e : i = 32 := by omega
    subst e
    exact ⟨m, by rw [L_X5_orders_51, if_pos (show (32 : Int32) ≤ nI 32 by decide)], hm⟩
  | succ d ih =>
    intro i fu m hi hf hm
    obtain ⟨f, rfl⟩ : ∃ f, fu = f + 1 := ⟨fu - 1, by omega⟩
    have hv : VW (upd (μ0 38) (116 + 3 * s + 1) (nI i)) n := VW_upd hV (Or.inr ((ok_ship hs _).2.1.mpr ⟨i, by omega, rfl⟩))
    have e38 := row_at hm (fun x hx => hx) (nI i)
    obtain ⟨m6, e1, b6⟩ := aheadOf_s (μ0 := wst m 38 (116 + 3 * s + 1) (nI i)) (n := n) (N := 60) (s := s) (VW_cong (fun j hj _ => e38 j hj) hv) (RC_fr (wst_o (by decide)) (wst_o (by decide)) (hm.rc hC)) (by decide) hs
    rw [pos_cong hv hs e38] at e1
    obtain ⟨m', a1, a2⟩ := ih (i + 1) f m6 (by omega) (by omega) (hm.tr ((thq38 (q := fun x => x = 116 + 3 * s + 1) rfl).tr b6.thk.q))
    refine ⟨m', ?_, a2⟩
    rw [← a1, L_X5_orders_51, if_neg (ge_n (z := 32) (N := 32) rfl (by decide) (by omega)), atShip1, bdr_s, sti_n (n := 152) (j := 116 + 3 * s + 1) (by omega) (by decide), show (60 : Int32) = nI 60 from rfl, e1, bdw_s]
    simp only [jn1_s, lt_s_, nI_1]
    show _ = L_X5_orders_51 (nI s) p k1 f (if nI (pos (upd (μ0 38) (116 + 3 * s + 1) (nI i)) n s 60) = p then os (fun v => pos (upd (μ0 38) (116 + 3 * s + 1) (nI v)) n s 60) p i ||| lsl 1 (nI i) else os (fun v => pos (upd (μ0 38) (116 + 3 * s + 1) (nI v)) n s 60) p i) (nI (i + 1)) m6
    split
    · rfl
    · rw [or_0]
theorem two_find64 {fx fm : MM → Option (Int64 × MM)} {μ : MM} (h : Rel μ) (c : Int32) (j : Nat) (hj : j < 7 ∧ (-1000001) - c = nI j) (e1 : fx μ = bdw (f_X4_finding c μ) fun x m => some (x.toInt64, m)) (e2 : ∀ m : MM, (∀ k, k ≠ 34 → m k = μ k) → fm m = bdw (f_X5_finding c m) fun x m => some (x.toInt64, m)) : ∃ r μ1 μ2, fx μ = some (r, μ1) ∧ fm μ1 = some (r, μ2) ∧ Rel μ2 := by
  refine ⟨c.toInt64, _, _, e1.trans (by rw [xfind hj.1 hj.2, bdw_s]), (e2 _ (fun k hk => wst_o hk)).trans (by rw [mfind hj.1 hj.2, bdw_s]), ?_⟩
  have := Rel_find h hj.1
  rw [wst_o (show (41 : Nat) ≠ 34 by decide)]
  exact this
theorem s_orders (a b : Int32) : Two (f_X4_orders a b) (f_X5_orders a b) := by
  intro μ h
  obtain ⟨n, hV0⟩ := h.2.1
  have hV := hV0.w
  by_cases q : wi a 0 3 = 0
  · exact two_find64 h (-1000001) 0 (by decide) (by simp only [f_X4_orders, xShip, bdr_s, if_pos q]) (fun m _ => by simp only [f_X5_orders, mShip, bdr_s, if_pos q])
  by_cases q2 : wi b 0 99 = 0
  · exact two_find64 h (-1000001) 0 (by decide) (by simp only [f_X4_orders, xShip, xCell, bdr_s, if_neg q, if_pos q2]) (fun m _ => by simp only [f_X5_orders, mShip, mCell, bdr_s, if_neg q, if_pos q2])
  obtain ⟨s, hs, rfl⟩ := wi_n (N := 3) (by decide) q
  obtain ⟨c, hc, rfl⟩ := wi_n (N := 99) (by decide) q2
  have hs4 : s < 4 := by omega
  have hc100 : c < 100 := by omega
  have isl : ∀ m : MM, m 38 = μ 38 → f_X5_isIsland (nI c) m = some (μ 38 (16 + c)) := fun m e38 => by
    unfold f_X5_isIsland
    rw [show (16 : Int32) = nI 16 from rfl, nI_add, ldi_n (by omega) (by decide), e38]
    rcases hV.isl hc100 with e | e <;> rw [e] <;> rfl
  by_cases q3 : μ 38 (16 + c) = 0
  · refine two_find64 h (-1000005) 4 (by decide) ?_ (fun m hm => ?_)
    · simp only [f_X4_orders, xShip, xCell, bdr_s, if_neg q, if_neg q2]
      rw [ldi_n hc100 (by decide), h.1.isl1 hc100, if_pos q3]
    · simp only [f_X5_orders, mShip, mCell, bdr_s, if_neg q, if_neg q2, isl m (hm 38 (by decide)), if_pos q3]
  obtain ⟨μ1, e1, e2, e3⟩ := ready_s h.1 hV hs4 (N := 60) (by decide)
  obtain ⟨w, hw, ew⟩ := hV.wind
  have e38 : μ1 38 = μ 38 := e2 38 (by decide)
  obtain ⟨m', a1, a2⟩ := mOrders (μ0 := μ1) (n := n) (s := s) (p := nI c) (by rw [e38]; exact hV) (RC_fr (e2 42 (by decide)) (e2 43 (by decide)) h.2.2.2.2.2.2) hs4 (fun x6 m2 => bdr (f_X5_atShip (nI s) 1) fun x7 => sti m2 38 152 x7 (μ1 38 (116 + 3 * s + 1)) fun m3 => some (x6, m3)) 32 0 FU μ1 (by omega) (by decide) (Thq_rfl _ _)
  refine two_thk h (os (fun v => pos (upd (μ1 38) (116 + 3 * s + 1) (nI v)) n s 60) (nI c) 32) ?_ (thk35 e2) (μ2 := wst m' 38 (116 + 3 * s + 1) (μ1 38 (116 + 3 * s + 1))) ?_ ?_
  · simp only [f_X4_orders, xShip, xCell, bdr_s, if_neg q, if_neg q2]
    rw [ldi_n hc100 (by decide), h.1.isl1 hc100, if_neg q3, show (60 : Int32) = nI 60 from rfl, e1, bdr_s]
    refine xOrders (c := fun v => pos (upd (μ1 38) (116 + 3 * s + 1) (nI v)) n s 60) (fun v hv => ?_) 32 0 FU (by omega) (by decide)
    rw [e38, upd_gv_o ew, ends_s e3 hV hs4 (by omega) ⟨ew, hw⟩]
  · simp only [f_X5_orders, mShip, mCell, bdr_s, if_neg q, if_neg q2, isl μ1 e38, if_neg q3, shipIs1 hs4, jn2_s]
    refine (show _ = _ from a1).trans ?_
    rw [atShip1, bdr_s, sti_n (n := 152) (j := 116 + 3 * s + 1) (by omega) (by decide)]
  · refine ⟨fun k hk => ?_, by rw [wst_o (by decide), a2.2.1], by rw [wst_o (by decide), a2.2.2.1], fun i hi _ => ?_⟩
    · rw [wst_o (fun e => hk (by rw [e]; unfold fre; omega)), a2.1 k hk]
    · rw [wst_at]
      by_cases q : i = 116 + 3 * s + 1
      · subst q
        rw [upd_at]
      · rw [upd_o q, a2.2.2.2 i hi q]
