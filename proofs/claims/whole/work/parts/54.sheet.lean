theorem fill_s {ka N : Nat} (hN : N < 4096) (p : Int32) : ∀ (d i fu : Nat) (μ : MM), i + d = N → d < fu → ∃ μ', L_J7_fill_53178_5 ka N p (nI N) fu (nI i) μ = some μ' ∧ (∀ k, k ≠ ka → μ' k = μ k) ∧ (∀ x, x < i → μ' ka x = μ ka x) ∧ ∀ x, i ≤ x → x < N → μ' ka x = p := by
  intro d
  induction d with
  | zero =>
    intro i fu μ hi hf
    obtain ⟨f, rfl⟩ : ∃ f, fu = f + 1 := ⟨fu - 1, by omega⟩
    have e : i = N := by omega
    subst e
    exact ⟨μ, by rw [L_J7_fill_53178_5, if_pos (Int32.le_refl _)], fun _ _ => rfl, fun _ _ => rfl, fun x a b => by omega⟩
  | succ d ih =>
    intro i fu μ hi hf
    obtain ⟨f, rfl⟩ : ∃ f, fu = f + 1 := ⟨fu - 1, by omega⟩
    obtain ⟨μ', e1, e2, e3, e4⟩ := ih (i + 1) f (wst μ ka i p) (by omega) (by omega)
    refine ⟨μ', ?_, fun k hk => (e2 k hk).trans (wst_o hk), fun x hx => (e3 x (by omega)).trans (by rw [wst_at, upd_o (by omega)]), fun x a b => ?_⟩
    · rw [L_J7_fill_53178_5, if_neg (nI_ge (by omega) (by omega)), sti_n (n := N) (j := i) (by omega) (by omega), lt_s_, nI_1]
      exact e1
    · by_cases q : x = i
      · subst q
        rw [e3 x (by omega), wst_at, upd_at]
      · exact e4 x (by omega) b
theorem sheet86 {j : Nat} (hj : j < 4) (k1 : MM → Option (Int32 × MM)) : ∀ (d i fu : Nat) (μ : MM), i + d = 40 → d < fu → ∃ μ', L_X5_sheet_86 (nI j) k1 fu (nI i) μ = k1 μ' ∧ (∀ k, k ≠ 49 → μ' k = μ k) ∧ (∀ x, (x < 40 * j + i ∨ 40 * j + 40 ≤ x) → μ' 49 x = μ 49 x) ∧ ∀ x, 40 * j + i ≤ x → x < 40 * j + 40 → μ' 49 x = 0 := by
  intro d
  induction d with
  | zero =>
    intro i fu μ hi hf
    obtain ⟨f, rfl⟩ : ∃ f, fu = f + 1 := ⟨fu - 1, by omega⟩
    have e : i = 40 := by omega
    subst e
    exact ⟨μ, by rw [L_X5_sheet_86, if_pos (show (40 : Int32) ≤ nI 40 by decide)], fun _ _ => rfl, fun _ _ => rfl, fun x a b => by omega⟩
  | succ d ih =>
    intro i fu μ hi hf
    obtain ⟨f, rfl⟩ : ∃ f, fu = f + 1 := ⟨fu - 1, by omega⟩
    have e0 : (40 : Int32) * nI j = nI (40 * j) := by
      rcases (by omega : j = 0 ∨ j = 1 ∨ j = 2 ∨ j = 3) with rfl | rfl | rfl | rfl <;> decide
    obtain ⟨μ', e1, e2, e3, e4⟩ := ih (i + 1) f (wst μ 49 (40 * j + i) 0) (by omega) (by omega)
    refine ⟨μ', ?_, fun k hk => (e2 k hk).trans (wst_o hk), fun x hx => (e3 x (by omega)).trans (by rw [wst_at, upd_o (by omega)]), fun x a b => ?_⟩
    · rw [L_X5_sheet_86, if_neg (ge_n (z := 40) (N := 40) rfl (by decide) (by omega)), e0, nI_add, sti_n (n := 160) (j := 40 * j + i) (by omega) (by decide), lt_s_, nI_1]
      exact e1
    · by_cases q : x = 40 * j + i
      · subst q
        rw [e3 _ (by omega), wst_at, upd_at]
      · exact e4 x (by omega) b
theorem s_sheet (a w z : Int32) : Two (f_X4_sheet a w z) (f_X5_sheet a w z) := by
  intro μ h
  by_cases q : wi a 0 3 = 0
  · exact two_find h (-1000001) 0 (by decide) (by simp only [f_X4_sheet, xSheet, bdr_s, if_pos q, bdw_id]) (fun m _ => by simp only [f_X5_sheet, mSheet, bdr_s, if_pos q, bdw_id])
  obtain ⟨j, hj, rfl⟩ := wi_n (N := 3) (by decide) q
  have hj4 : j < 4 := by omega
  by_cases hw : w = 0 ∨ w = 8 ∨ w = 16 ∨ w = 32
  rotate_left
  · have n0 : ¬ w = 0 := fun e => hw (Or.inl e)
    have n1 : ¬ w = 8 := fun e => hw (Or.inr (Or.inl e))
    have n2 : ¬ w = 16 := fun e => hw (Or.inr (Or.inr (Or.inl e)))
    have n3 : ¬ w = 32 := fun e => hw (Or.inr (Or.inr (Or.inr e)))
    exact two_find h (-1000001) 0 (by decide) (by simp only [f_X4_sheet, xSheet, bdr_s, if_neg q, jn0_s, if_neg n0, if_neg n1, if_neg n2, if_neg n3, bdw_id]) (fun m _ => by simp only [f_X5_sheet, mSheet, bdr_s, if_neg q, jn0_s, if_neg n0, if_neg n1, if_neg n2, if_neg n3, bdw_id])
  have K : ∀ (r o : Option (Int32 × MM)), (if w = 0 then r else if w = 8 then r else if w = 16 then r else if w = 32 then r else o) = r := by
    intro r o
    rcases hw with e | e | e | e
    · rw [if_pos e]
    · rw [if_neg (by rw [e]; decide), if_pos e]
    · rw [if_neg (by rw [e]; decide), if_neg (by rw [e]; decide), if_pos e]
    · rw [if_neg (by rw [e]; decide), if_neg (by rw [e]; decide), if_neg (by rw [e]; decide), if_pos e]
  by_cases z0 : 0 ≤ z
  rotate_left
  · exact two_find h (-1000007) 6 (by decide) (by simp only [f_X4_sheet, xSheet, bdr_s, if_neg q, jn0_s, K, if_neg z0, bdw_id]) (fun m _ => by simp only [f_X5_sheet, mSheet, bdr_s, if_neg q, jn0_s, K, if_neg z0, bdw_id])
  by_cases z4 : z ≤ 40
  rotate_left
  · exact two_find h (-1000001) 0 (by decide) (by simp only [f_X4_sheet, xSheet, bdr_s, if_neg q, jn0_s, K, if_pos z0, if_neg z4, bdw_id]) (fun m _ => by simp only [f_X5_sheet, mSheet, bdr_s, if_neg q, jn0_s, K, if_pos z0, if_neg z4, bdw_id])
  have S : ∀ (f : Int32 → Option (Int32 × MM)), (if w = 0 then f 0 else f z) = f (if w = 0 then 0 else z) := by
    intro f
    split <;> rfl
  obtain ⟨y, hy⟩ : ∃ y : Int32, (if w = 0 then 0 else z) = y := ⟨_, rfl⟩
  have by40 : bn y 40 := by
    rw [← hy]
    split
    · exact ⟨0, by decide, rfl⟩
    · obtain ⟨t, ht, rfl⟩ := nI_of (show ¬ z < 0 from fun e => Int32.lt_irrefl (Int32.lt_of_lt_of_le e z0))
      refine ⟨t, ?_, rfl⟩
      rw [Int32.le_iff_toInt_le, nI_toInt ht] at z4
      have : (40 : Int32).toInt = 40 := by decide
      omega
  obtain ⟨μ1, e1, e2, e3, e4⟩ := fill_s (ka := 27 + 2 * j) (N := 40) (by decide) 0 40 0 FU (wst (wst μ (26 + 2 * j) 0 w) (26 + 2 * j) 1 y) (by omega) (by decide)
  obtain ⟨μ2, g1, g2, g3, g4⟩ := sheet86 hj4 (fun m4 => ldi m4 48 4 (nI j) fun x4 => some (x4, m4)) 40 0 FU (wst (wst μ1 47 j w) 48 j y) (by omega) (by decide)
  refine ⟨y, μ1, μ2, ?_, ?_, ?_⟩
  · simp only [f_X4_sheet, xSheet, bdr_s, if_neg q, jn0_s, K, if_pos z0, if_pos z4]
    rw [ldq_n hj4 (by decide)]
    simp only [jn1_s, S, hy]
    unfold f_X2_begin f_J7_fill_53178
    simp only [lt_s_]
    rw [show 26 + 2 * j + 1 = 27 + 2 * j by omega, show (Int32.ofNat 40) = nI 40 from rfl, show (0 : Int32) = nI 0 from rfl] at *
    rw [e1]
    simp only [bdr_s]
    rw [ldq_n hj4 (by decide), e2 _ (by omega), wst_at, upd_at]
  · simp only [f_X5_sheet, mSheet, bdr_s, if_neg q, jn0_s, K, if_pos z0, if_pos z4]
    rw [sti_n (n := 4) (j := j) hj4 (by decide)]
    simp only [jn1_s, S, hy]
    rw [sti_n (n := 4) (j := j) hj4 (by decide), show (0 : Int32) = nI 0 from rfl, g1, ldi_n hj4 (by decide), g2 48 (by decide), wst_at, upd_at]
  · refine Rel_sheet h (fun k a1 a2 a3 a4 a5 => by rw [g2 k a4, wst_o a3, wst_o a2, e2 k (by omega), wst_o (by omega), wst_o (by omega)]) (fun j' hj' => ?_)
    obtain ⟨s1, s2, s3, s4, s5⟩ := h.2.2.2.2.2.1 j' hj'
    have m47 : μ1 47 = μ 47 := by rw [e2 47 (by omega), wst_o (by omega), wst_o (by omega)]
    have m48 : μ1 48 = μ 48 := by rw [e2 48 (by omega), wst_o (by omega), wst_o (by omega)]
    have m49 : μ1 49 = μ 49 := by rw [e2 49 (by omega), wst_o (by omega), wst_o (by omega)]
    have n47 : μ2 47 = upd (μ 47) j w := by rw [g2 47 (by decide), wst_o (by decide), wst_at, m47]
    have n48 : μ2 48 = upd (μ 48) j y := by rw [g2 48 (by decide), wst_at, wst_o (by decide), m48]
    have n26 : ∀ k, k ≠ 47 → k ≠ 48 → k ≠ 49 → μ2 k = μ1 k := fun k a b c => by rw [g2 k c, wst_o b, wst_o a]
    rw [n47, n48, n26 _ (by omega) (by omega) (by omega), n26 _ (by omega) (by omega) (by omega), e2 _ (by omega)]
    by_cases yj : j' = j
    · subst yj
      rw [wst_at, upd_at, upd_at, upd_at, wst_at, upd_o (by decide), upd_at]
      refine ⟨rfl, rfl, fun i hi => ?_, by40, hw⟩
      rw [e4 i (by omega) hi, g4 _ (by omega) (by omega)]
    · rw [wst_o (by omega), wst_o (by omega), upd_o yj, upd_o yj]
      refine ⟨s1, s2, fun i hi => ?_, s4, s5⟩
      rw [e2 _ (by omega), wst_o (by omega), wst_o (by omega), s3 i hi, g3 _ (by omega), wst_o (by decide), wst_o (by decide), m49]
