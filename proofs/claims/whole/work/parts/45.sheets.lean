/-! ===== sheets ===== -/
theorem find_pass {c : Int32} {j : Nat} (hj : j < 7 ∧ (-1000001) - c = nI j) (h0 : ¬ c = 0) (μ : MM) (F : Int32 → MM → Option (Int32 × MM)) : bdw (f_X4_finding c μ) (fun x m => if x = 0 then F x m else some (x, m)) = f_X4_finding c μ := by
  rw [xfind hj.1 hj.2, bdw_s, if_neg h0]
theorem missing_s (k : Nat) (μ : MM) : f_X2_isMissing k μ = some (if μ k 0 = 0 then 1 else 0) := by
  unfold f_X2_isMissing
  split <;> rfl
theorem wrong_1 {a : Int32} (q : wi a 0 3 = 0) (μ : MM) : f_X4_wrongSheet a μ = f_X4_finding (-1000001) μ := by
  simp only [f_X4_wrongSheet, xSheet, bdr_s, if_pos q, bdw_id]
theorem wrong_2 {j : Nat} (hj : j < 4) {μ : MM} (h0 : μ (26 + 2 * j) 0 = 0) : f_X4_wrongSheet (nI j) μ = f_X4_finding (-1000006) μ := by
  have q : ¬ wi (nI j) 0 3 = 0 := wi_y (N := 3) rfl (by decide) (show j ≤ 3 by omega) rfl
  simp only [f_X4_wrongSheet, xSheet, bdr_s, if_neg q, missing_s, bdw_id]
  rw [ldq_n hj (by decide), if_pos h0, if_neg (by decide)]
theorem wrong_0 {j : Nat} (hj : j < 4) {μ : MM} (h0 : ¬ μ (26 + 2 * j) 0 = 0) : f_X4_wrongSheet (nI j) μ = some (0, μ) := by
  have q : ¬ wi (nI j) 0 3 = 0 := wi_y (N := 3) rfl (by decide) (show j ≤ 3 by omega) rfl
  simp only [f_X4_wrongSheet, xSheet, bdr_s, if_neg q, missing_s, bdw_id]
  rw [ldq_n hj (by decide), if_neg h0, if_pos rfl]
theorem lacks_1 {a : Int32} (q : wi a 0 3 = 0) (μ : MM) : f_X5_lacks a μ = some (-1000001) := by
  simp only [f_X5_lacks, mSheet, bdr_s, if_pos q]
theorem lacks_2 {j : Nat} (hj : j < 4) {μ : MM} : f_X5_lacks (nI j) μ = some (if μ 47 j = 0 then -1000006 else 0) := by
  have q : ¬ wi (nI j) 0 3 = 0 := wi_y (N := 3) rfl (by decide) (show j ≤ 3 by omega) rfl
  simp only [f_X5_lacks, mSheet, bdr_s, if_neg q]
  rw [ldi_n hj (by decide)]
  split <;> rfl
theorem Rel_sheet {μ μ' : MM} (h : Rel μ) (e : ∀ k, ¬ (26 ≤ k ∧ k ≤ 33) → k ≠ 47 → k ≠ 48 → k ≠ 49 → k ≠ 50 → μ' k = μ k) (hS : RS μ') : Rel μ' := by
  obtain ⟨h1, h2, h3, h4, h5, h6, h7⟩ := h
  have e' : ∀ k, k ≤ 25 ∨ (34 ≤ k ∧ k ≤ 46) → μ' k = μ k := fun k hk => e k (by omega) (by omega) (by omega) (by omega) (by omega)
  refine ⟨?_, ?_, RK_fr (by rw [e' 0 (by omega)]) (by rw [e' 37 (by omega)]) (fun k a b => e' k (by omega)) (e' 39 (by omega)) h3, RF_fr (e' 34 (by omega)) (e' 41 (by omega)) h4, RP_fr (by rw [e' 19 (by omega)]) (by rw [e' 37 (by omega)]) (e' 20 (by omega)) (e' 44 (by omega)) h5, hS, RC_fr (e' 42 (by omega)) (e' 43 (by omega)) h7⟩
  · rw [e' 38 (by omega)]
    exact RN_fr (fun k a b => e' k (by omega)) h1
  · rw [e' 38 (by omega)]
    exact h2
theorem s_write (a b v : Int32) : Two (f_X4_write a b v) (f_X5_write a b v) := by
  intro μ h
  by_cases q : wi a 0 3 = 0
  · exact two_find h (-1000001) 0 (by decide) (by unfold f_X4_write; rw [wrong_1 q, find_pass (j := 0) (by decide) (by decide)]) (fun m _ => by simp only [f_X5_write, mSheet, bdr_s, if_pos q, bdw_id])
  obtain ⟨j, hj, rfl⟩ := wi_n (N := 3) (by decide) q
  have hj4 : j < 4 := by omega
  obtain ⟨r1, r2, r3, r4, r5⟩ := h.2.2.2.2.2.1 j hj4
  obtain ⟨z, hz, ez⟩ := r4
  have L47 : ∀ {β : Type} (m : MM) (k : Nat) (f : Int32 → Option β), ldi m k 4 (nI j) f = f (m k j) := fun m k f => ldi_n hj4 (by decide)
  have Lq : ∀ {β : Type} (f : Nat → Option β), ldq 4 (nI j) f = f j := fun f => ldq_n hj4 (by decide)
  by_cases g : μ 47 j = 0
  · exact two_find h (-1000006) 5 (by decide) (by unfold f_X4_write; rw [wrong_2 hj4 (by rw [r1]; exact g), find_pass (j := 5) (by decide) (by decide)]) (fun m hm => by simp only [f_X5_write, mSheet, bdr_s, if_neg q, L47, hm 47 (by decide), if_pos g, bdw_id])
  have w0 := wrong_0 hj4 (μ := μ) (by rw [r1]; exact g)
  by_cases i : wi b 0 (nI z - 1) = 0
  · refine two_find h (-1000001) 0 (by decide) ?_ (fun m hm => ?_)
    · simp only [f_X4_write, w0, bdw_s, if_true, Lq, isWithin_s, bdr_s, r2, ez, if_pos i, bdw_id]
    · simp only [f_X5_write, mSheet, bdr_s, if_neg q, L47, hm 47 (by decide), hm 48 (by decide), if_neg g, within_s, ez, if_pos i, bdw_id]
  · obtain ⟨x, hx, rfl⟩ : ∃ x : Nat, x < z ∧ b = nI x := by
      cases z with
      | zero =>
        rw [wi_0] at i
        exfalso
        apply i
        by_cases y : b < 0
        · exact Or.inl y
        · refine Or.inr ?_
          obtain ⟨t, ht, rfl⟩ := nI_of y
          rw [fa_lt', show ((nI 0 - 1 : Int32)).toInt = -1 from by decide, nI_toInt ht]
          omega
      | succ z =>
        rw [nI_pred] at i
        obtain ⟨c, hc, e⟩ := wi_n (N := z) (nI_toInt (by omega)) i
        exact ⟨c, by omega, e⟩
    have hx40 : x < 40 := by omega
    obtain ⟨u, eu1, eu2⟩ : ∃ u : Int32, f_X2_lowest (26 + 2 * j) v μ = some u ∧ ∀ m : MM, f_X5_cutTo v (μ 47 j) = some u := by
      refine ⟨if μ 47 j = 8 then v.toInt8.toInt32 else if μ 47 j = 16 then v.toInt16.toInt32 else v, ?_, fun _ => ?_⟩
      · unfold f_X2_lowest
        rw [r1]
        split
        · rfl
        · split <;> rfl
      · unfold f_X5_cutTo
        split
        · rfl
        · split <;> rfl
    refine ⟨1, wst μ (27 + 2 * j) x u, wst (wst μ (27 + 2 * j) x u) 49 (40 * j + x) u, ?_, ?_, ?_⟩
    · simp only [f_X4_write, w0, bdw_s, if_true, Lq, isWithin_s, bdr_s, r2, ez, if_neg i, eu1]
      rw [show 26 + 2 * j + 1 = 27 + 2 * j by omega, sti_n hx40 (by decide)]
    · have e47 : wst μ (27 + 2 * j) x u 47 = μ 47 := wst_o (by omega)
      have e48 : wst μ (27 + 2 * j) x u 48 = μ 48 := wst_o (by omega)
      simp only [f_X5_write, mSheet, bdr_s, if_neg q, L47, e47, e48, if_neg g, within_s, ez, if_neg i, eu2 μ]
      rw [show (40 : Int32) = nI 40 from rfl, pk_mul, nI_add, sti_n (by omega) (by decide)]
    · refine Rel_sheet h (fun k a1 a2 a3 a4 a5 => by rw [wst_o a4, wst_o (by omega)]) (fun j' hj' => ?_)
      obtain ⟨s1, s2, s3, s4, s5⟩ := h.2.2.2.2.2.1 j' hj'
      rw [wst_o (show 26 + 2 * j' ≠ 49 by omega), wst_o (show 26 + 2 * j' ≠ 27 + 2 * j by omega), wst_o (show (47 : Nat) ≠ 49 by decide), wst_o (show 47 ≠ 27 + 2 * j by omega), wst_o (show (48 : Nat) ≠ 49 by decide), wst_o (show 48 ≠ 27 + 2 * j by omega)]
      refine ⟨s1, s2, fun i' hi' => ?_, s4, s5⟩
      rw [wst_o (show 27 + 2 * j' ≠ 49 by omega), wst_at, wst_o (show 49 ≠ 27 + 2 * j by omega)]
      by_cases y : j' = j
      · subst y
        rw [wst_at]
        by_cases y2 : i' = x
        · subst y2
          rw [upd_at, upd_at]
        · rw [upd_o y2, upd_o (by omega)]
          exact s3 i' hi'
      · rw [wst_o (by omega), upd_o (by omega)]
        exact s3 i' hi'
