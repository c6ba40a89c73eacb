theorem fill_s {ka N : Nat} (hN : N < 4096) (p : Int32) : ∀ (d i fu : Nat) (μ : MM), i + d = N → d < fu → ∃ μ', L_J7_fill_53178_5 ka N p (nI N) fu (nI i) μ = some μ' ∧ (∀ k, k ≠ ka → μ' k = μ k) ∧ (∀ x, x < i → μ' ka x = μ ka x) ∧ ∀ x, i ≤ x → x < N → μ' ka x = p := by
  intro d
  induction d with
  | zero =>
    intro i fu μ hi hf
    obtain ⟨f, rfl⟩ : ∃ f, fu = f + 1 := ⟨fu - 1, by omega⟩
    have e : i = N := by omega
    subst e
    exact ⟨μ, by rw [L_J7_fill_53178_5, if_pos (Int32.le_refl _)], fun _ _ => rfl, fun _ _ => rfl, fun x a b => by omega⟩
  | succ d ih =>
    intro i fu μ hi hf
    obtain ⟨f, rfl⟩ : ∃ f, fu = f + 1 := ⟨fu - 1, by omega⟩
    obtain ⟨μ', e1, e2, e3, e4⟩ := ih (i + 1) f (wst μ ka i p) (by omega) (by omega)
    refine ⟨μ', ?_, fun k hk => (e2 k hk).trans (wst_o hk), fun x hx => (e3 x (by omega)).trans (by rw [wst_at, upd_o (by omega)]), fun x a b => ?_⟩
    · rw [L_J7_fill_53178_5, if_neg (nI_ge (by omega) (by omega)), sti_n (n := N) (j := i) (by omega) (by omega), lt_s_, nI_1]
      exact e1
    · by_cases q : x = i
      · subst q
        rw [e3 x (by omega), wst_at, upd_at]
      · exact e4 x (by omega) b
theorem sheet86 {j : Nat} (hj : j < 4) (k1 : MM → Option (Int32 × MM)) : ∀ (d i fu : Nat) (μ : MM), i + d = 40 → d < fu → ∃ μ', L_X5_sheet_86 (nI j) k1 fu (nI i) μ = k1 μ' ∧ (∀ k, k ≠ 49 → μ' k = μ k) ∧ (∀ x, (x < 40 * j + i ∨ 40 * j + 40 ≤ x) → μ' 49 x = μ 49 x) ∧ ∀ x, 40 * j + i ≤ x → x < 40 * j + 40 → μ' 49 x = 0 := by
  intro d
  induction d with
  | zero =>
    intro i fu μ hi hf
    obtain ⟨f, rfl⟩ : ∃ f, fu = f + 1 := ⟨fu - 1, by omega⟩
    have e : i = 40 := by omega
    subst e
    exact ⟨μ, by rw [L_X5_sheet_86, if_pos (show (40 : Int32) ≤ nI 40 by decide)], fun _ _ => rfl, fun _ _ => rfl, fun x a b => by omega⟩
  | succ d ih =>
    intro i fu μ hi hf
    obtain ⟨f, rfl⟩ : ∃ f, fu = f + 1 := ⟨fu - 1, by omega⟩
    have e0 : (40 : Int32) * nI j = nI (40 * j) := by
      rcases (by omega : j = 0 ∨ j = 1 ∨ j = 2 ∨ j = 3) with rfl | rfl | rfl | rfl <;> decide
    obtain ⟨μ', e1, e2, e3, e4⟩ := ih (i + 1) f (wst μ 49 (40 * j + i) 0) (by omega) (by omega)
    refine ⟨μ', ?_, fun k hk => (e2 k hk).trans (wst_o hk), fun x hx => (e3 x (by omega)).trans (by rw [wst_at, upd_o (by omega)]), fun x a b => ?_⟩
    · rw [L_X5_sheet_86, if_neg (ge_n (z := 40) (N := 40) rfl (by decide) (by omega)), e0, nI_add, sti_n (n := 160) (j := 40 * j + i) (by omega) (by decide), lt_s_, nI_1]
      exact e1
    · by_cases q : x = 40 * j + i
      · subst q
        rw [e3 _ (by omega), wst_at, upd_at]
      · exact e4 x (by omega) b
