/-! ===== who is LANDED, on each side alone ===== -/
def ldG (g : Nat → Int32) (s : Nat) : Int32 := g (16 + (g (116 + 3 * s)).toNatClampNeg)
theorem xLd {μ : MM} {g : Nat → Int32} {n s : Nat} (hR : RN μ 1 g) (hV : VW g n) (hs : s < 4) : f_X0_isLanded (nI s) μ = some (ldG g s) := by
  obtain ⟨c, hc, e⟩ := (hV.ship hs).1
  have hc1 : c < 100 := by omega
  unfold f_X0_isLanded ldG
  rw [ldi_n hs (by decide), (hR.ship1 hs).1, e, ldi_n hc1 (by decide), hR.isl1 hc1, gd_t (hV.isl hc1), nI_clamp (by omega)]
theorem mLd {μ : MM} {n s : Nat} (hV : VW (μ 38) n) (hs : s < 4) : f_X5_isLanded (nI s) μ = some (ldG (μ 38) s) := by
  obtain ⟨c, hc, e⟩ := (hV.ship hs).1
  rw [mLanded hV hs (show c < 100 by omega) e]
  unfold ldG
  rw [e, nI_clamp (by omega)]
def lsG (g : Nat → Int32) : Int32 := fo (fun i x => if ldG g i = 0 then x else x ||| sl 1 (nI i)) 0 4 0
theorem xLs {μ : MM} {g : Nat → Int32} {n : Nat} (hR : RN μ 1 g) (hV : VW g n) : f_X0_landedShips μ = some (lsG g) := by
  unfold f_X0_landedShips
  refine loop0 (L_X0_landedShips_4 μ) 4 _ some (fun fu x i hi => ?_) (fun fu x => ?_) (by decide) 0
  · rw [L_X0_landedShips_4, if_neg (ge_n (z := 4) (N := 4) rfl (by decide) hi), xLd hR hV hi]
    simp only [bdr_s, jn1_s, lt_s_, nI_1]
    by_cases q : ldG g i = 0
    · rw [if_pos q, if_pos q]
    · rw [if_neg q, if_neg q]
  · rw [L_X0_landedShips_4, if_pos (le_n (z := 4) (N := 4) rfl)]
theorem mLs {μ : MM} {n : Nat} (hV : VW (μ 38) n) : f_X5_landed μ = some (lsG (μ 38)) := by
  unfold f_X5_landed
  refine loop0 (L_X5_landed_4 μ) 4 _ some (fun fu x i hi => ?_) (fun fu x => ?_) (by decide) 0
  · rw [L_X5_landed_4, if_neg (ge_n (z := 4) (N := 4) rfl (by decide) hi), mLd hV hi]
    simp only [bdr_s, jn1_s, lt_s_, nI_1]
    by_cases q : ldG (μ 38) i = 0
    · rw [if_pos q, if_pos q, Int32.or_zero]
    · rw [if_neg q, if_neg q]
  · rw [L_X5_landed_4, if_pos (le_n (z := 4) (N := 4) rfl)]
theorem lsG_n (g : Nat → Int32) : ∃ k : Nat, k < 256 ∧ lsG g = nI k := by
  have h := landed_n (fun k i => if k = 38 then g i else 0)
  exact h
theorem ldG_cong {g g' : Nat → Int32} {n s : Nat} (hV : VW g n) (hs : s < 4) (e : ∀ i, i < 152 → g' i = g i) : ldG g' s = ldG g s := by
  obtain ⟨c, hc, ec⟩ := (hV.ship hs).1
  unfold ldG
  rw [e (116 + 3 * s) (by omega), ec, nI_clamp (by omega), e _ (by omega)]
theorem lsG_cong {g g' : Nat → Int32} {n : Nat} (hV : VW g n) (e : ∀ i, i < 152 → g' i = g i) : lsG g' = lsG g := fo_cong (N := 4) (fun j x hj => by rw [ldG_cong hV hj e]) 4 0 0 (by decide)
theorem VN_of {g : Nat → Int32} {n : Nat} (h : VW g n) (h0 : bn (g 0) 99999) : VN g n := by
  refine ⟨h.1, fun i hi => ?_⟩
  by_cases q : i = 0
  · subst q
    exact h0
  · have := h.2 i hi
    rw [upd_o q] at this
    exact this
/-! ===== go ===== -/
theorem VW_wt {g : Nat → Int32} {n m : Nat} (hV : VW g n) (hm : m < 2 ^ 29) : VW (wt g n m) n := VW_cong (fun i hi _ => by unfold wj; rw [if_neg (by omega)]) (VW_wj (m := m) (j := 0) hV (by omega) (by omega))
theorem xGoLoop {μ : MM} {g : Nat → Int32} {n N : Nat} (hV : VW g n) (hN : N < 4096) (k1 : MM → Option (Int32 × MM)) : ∀ (d i fu : Nat) (ν : MM), i + d = N → d < fu → (∀ k, k ≠ 1 → k ≠ 3 → k ≠ 5 → ν k = μ k) → RN ν 1 (wt g n i) → ∃ ν', (∀ k, k ≠ 1 → k ≠ 3 → k ≠ 5 → ν' k = μ k) ∧ RN ν' 1 (wt g n N) ∧ L_X4_go_40 (nI N) k1 fu (nI i) ν = k1 ν' := by
  intro d
  induction d with
  | zero =>
    intro i fu ν hi hf h1 h2
    obtain ⟨f, rfl⟩ : ∃ f, fu = f + 1 := ⟨fu - 1, by omega⟩
    have e : i = N := by omega
    subst e
    exact ⟨ν, h1, h2, by rw [L_X4_go_40, if_pos (Int32.le_refl _)]⟩
  | succ d ih =>
    intro i fu ν hi hf h1 h2
    obtain ⟨f, rfl⟩ : ∃ f, fu = f + 1 := ⟨fu - 1, by omega⟩
    obtain ⟨ν1, e1, b1, b2⟩ := xPass hV (by omega) h2
    obtain ⟨ν', a1, a2, a3⟩ := ih (i + 1) f ν1 (by omega) (by omega) (fun k q1 q2 q3 => (b1 k q1 q2 q3).trans (h1 k q1 q2 q3)) b2
    exact ⟨ν', a1, a2, by rw [L_X4_go_40, if_neg (nI_ge (by omega) (by omega)), e1, bdr_s, lt_s_, nI_1]; exact a3⟩
theorem mGoLoop {μ : MM} {g : Nat → Int32} {n N : Nat} (hV : VW g n) (hC : RC μ) (hN : N < 4096) : ∀ (d i fu : Nat) (ν : MM), i + d = N → d < fu → (∀ k, k ≠ 38 → ν k = μ k) → (∀ j, j < 152 → ν 38 j = wt g n i j) → ∃ ν', (∀ k, k ≠ 38 → ν' k = μ k) ∧ (∀ j, j < 152 → ν' 38 j = wt g n N j) ∧ L_X5_watches_2 (nI N) fu (nI i) ν = some ν' := by
  intro d
  induction d with
  | zero =>
    intro i fu ν hi hf h1 h2
    obtain ⟨f, rfl⟩ : ∃ f, fu = f + 1 := ⟨fu - 1, by omega⟩
    have e : i = N := by omega
    subst e
    exact ⟨ν, h1, h2, by rw [L_X5_watches_2, if_pos (Int32.le_refl _)]⟩
  | succ d ih =>
    intro i fu ν hi hf h1 h2
    obtain ⟨f, rfl⟩ : ∃ f, fu = f + 1 := ⟨fu - 1, by omega⟩
    obtain ⟨ν1, e1, b1, b2⟩ := mWatch hV (RC_fr (h1 42 (by decide)) (h1 43 (by decide)) hC) (by omega) h2
    obtain ⟨ν', a1, a2, a3⟩ := ih (i + 1) f ν1 (by omega) (by omega) (fun k q1 => (b1 k q1).trans (h1 k q1)) b2
    exact ⟨ν', a1, a2, by rw [L_X5_watches_2, if_neg (nI_ge (by omega) (by omega)), e1, bdr_s, lt_s_, nI_1]; exact a3⟩
theorem s_go (a : Int32) : Two (f_X4_go a) (f_X5_go a) := by
  intro μ h
  obtain ⟨n, hV0⟩ := h.2.1
  have hV := hV0.w
  obtain ⟨n1, n2, n3, n4, n5, n6⟩ := h.1.num
  obtain ⟨w, hw, ew⟩ := hV0.num.1
  by_cases q : wi a 1 60 = 0
  · exact two_find h (-1000001) 0 (by decide) (by simp only [f_X4_go, isWithin_s, bdr_s, if_pos q, bdw_id]) (fun m _ => by simp only [f_X5_go, within_s, bdr_s, if_pos q, bdw_id])
  obtain ⟨N, hN1, hN, rfl⟩ : ∃ N : Nat, 1 ≤ N ∧ N ≤ 60 ∧ a = nI N := by
    rw [wi_0, fa_lt', fa_lt', show (1 : Int32).toInt = 1 from by decide, show (60 : Int32).toInt = 60 from by decide] at q
    refine ⟨a.toInt.toNat, by omega, by omega, Int32.toInt_inj.mp ?_⟩
    rw [nI_toInt (by omega)]
    omega
  have exw : μ 1 11 = nI w := n5.trans ew
  by_cases g : w + N ≤ 99999
  · have hWT := VW_wt (m := N) hV (by omega)
    obtain ⟨k, hk, ek⟩ := lsG_n (wt (μ 38) n N)
    obtain ⟨b, _, b1, b2⟩ := bits_n hk
    have c1 : (nI w : Int32) ≤ 99999 - nI N := by
      rw [show (99999 : Int32) = nI 99999 from rfl, pk_sub (by omega)]
      exact nI_le (by omega) (by omega)
    have c2 : nI w + nI N ≤ 99999 := by
      rw [nI_add]
      exact nI_le (b := 99999) g (by decide)
    have hgo : ∃ μ1, f_X4_go (nI N) μ = some (nI b, μ1) ∧ (∀ k, k ≠ 1 → k ≠ 3 → k ≠ 5 → μ1 k = μ k) ∧ RN μ1 1 (wt (μ 38) n N) := by
      generalize hk1 : (fun (m1 : MM) => bdr (f_X0_landedShips m1) fun x2 => bdr (f_J6_bitCount_0f7a4 x2) fun x3 => some (x3, m1)) = k1
      obtain ⟨μ1, a1, a2, a3⟩ := xGoLoop (μ := μ) hV (show N < 4096 by omega) k1 N 0 FU μ (by omega) (show N < 4096 by omega) (fun _ _ _ _ => rfl) (RN_cong (fun i hi => wt_0 hV hi) h.1)
      rw [show nI 0 = (0 : Int32) from rfl] at a3
      refine ⟨μ1, ?_, a1, a2⟩
      simp only [f_X4_go, isWithin_s, bdr_s, if_neg q, exw, if_pos c1, jn1_s]
      rw [hk1, a3, ← hk1]
      show (bdr (f_X0_landedShips μ1) _) = _
      rw [xLs a2 hWT, bdr_s, ek, b1, bdr_s]
    obtain ⟨μ1, e1, a1, a2⟩ := hgo
    have e38 : μ1 38 = μ 38 := a1 38 (by decide) (by decide) (by decide)
    obtain ⟨μ2, d1, d2, d3⟩ := mGoLoop (μ := μ1) (g := μ 38) hV (RC_fr (a1 42 (by decide) (by decide) (by decide)) (a1 43 (by decide) (by decide) (by decide)) h.2.2.2.2.2.2) (show N < 4096 by omega) N 0 FU μ1 (by omega) (show N < 4096 by omega) (fun _ _ => rfl) (fun j hj => by rw [e38, wt_0 hV hj])
    rw [show nI 0 = (0 : Int32) from rfl] at d3
    have hV2 : VW (μ2 38) n := VW_cong (fun i hi _ => d2 i hi) hWT
    refine ⟨nI b, μ1, μ2, e1, ?_, ?_⟩
    · simp only [f_X5_go, within_s, bdr_s, if_neg q, ld38 μ1 0 0 ⟨rfl, by decide⟩, e38, ew, if_pos c2, f_X5_watches, d3, mLs hV2, lsG_cong hWT d2, ek, b2]
    · refine Rel_rows (μc := μ1) h (RN_cong d2 a2) (fun k hk => a1 k (by omega) (by omega) (by omega)) d1 rfl ⟨n, VN_of hV2 ?_⟩
      rw [d2 0 (by decide), wt_t, ew, nI_add]
      exact ⟨w + N, g, rfl⟩
  · have c1 : ¬ (nI w : Int32) ≤ 99999 - nI N := by
      rw [show (99999 : Int32) = nI 99999 from rfl, pk_sub (by omega)]
      exact nI_ge (by omega) (by omega)
    have c2 : ¬ nI w + nI N ≤ 99999 := by
      rw [nI_add]
      exact nI_ge (a := 99999) (by omega) (by omega)
    exact two_find h (-1000005) 4 (by decide) (by simp only [f_X4_go, isWithin_s, bdr_s, if_neg q, exw, if_neg c1, bdw_id]) (fun m hm => by simp only [f_X5_go, within_s, bdr_s, if_neg q, ld38 m 0 0 ⟨rfl, by decide⟩, hm 38 (by decide), ew, if_neg c2, bdw_id])
