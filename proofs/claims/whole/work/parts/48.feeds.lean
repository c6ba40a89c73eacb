/-! ===== several CATS eat ===== -/
/-- CATS i .. i + d - 1 of the set p have eaten -/
def fe (p : Int32) (i : Nat) : Nat → (Nat → Int32) → Nat → Int32
  | 0, g => g
  | d + 1, g => fe p (i + 1) d (upd g (128 + 3 * i + 1) (if sr p (nI i) &&& 1 = 0 then g (128 + 3 * i + 1) else 0))
theorem upd_sf (g : Nat → Int32) (i : Nat) : upd g i (g i) = g := by
  funext j
  by_cases q : j = i
  · rw [q, upd_at]
  · rw [upd_o q]
theorem VN_fe {p : Int32} {n : Nat} : ∀ (d i : Nat) (g : Nat → Int32), i + d ≤ 8 → VN g n → VN (fe p i d g) n := by
  intro d
  induction d with
  | zero => exact fun i g _ h => h
  | succ d ih =>
    intro i g hi h
    refine ih (i + 1) _ (by omega) (VN_upd h ?_)
    by_cases q : sr p (nI i) &&& 1 = 0
    · rw [if_pos q]
      exact h.2 _ (by omega)
    · rw [if_neg q]
      exact (ok_cat (by omega) 0).2.1.mpr ⟨0, by omega, rfl⟩
theorem xFeeds {p : Int32} {n : Nat} (hn8 : n ≤ 8) (k1 : MM → Option (Int32 × MM)) : ∀ (d i fu : Nat) (g : Nat → Int32) (μ : MM), i + d = n → d < fu → μ 1 0 = nI n → RN μ 1 g → ∃ μ', L_X4_feeds_40 p k1 fu (nI i) μ = k1 μ' ∧ RN μ' 1 (fe p i d g) ∧ ∀ k, k ≠ 3 → μ' k = μ k := by
  intro d
  induction d with
  | zero =>
    intro i fu g μ hi hf hc hR
    obtain ⟨f, rfl⟩ : ∃ f, fu = f + 1 := ⟨fu - 1, by omega⟩
    have e : i = n := by omega
    subst e
    exact ⟨μ, by rw [L_X4_feeds_40, hc, if_pos (Int32.le_refl _)], hR, fun _ _ => rfl⟩
  | succ d ih =>
    intro i fu g μ hi hf hc hR
    obtain ⟨f, rfl⟩ : ∃ f, fu = f + 1 := ⟨fu - 1, by omega⟩
    have h0 : ¬ μ 1 0 ≤ nI i := by
      rw [hc]
      exact nI_ge (by omega) (by omega)
    by_cases q : sr p (nI i) &&& 1 = 0
    · obtain ⟨μ', e1, e2, e3⟩ := ih (i + 1) f g μ (by omega) (by omega) hc hR
      refine ⟨μ', ?_, ?_, e3⟩
      · rw [L_X4_feeds_40, if_neg h0, isIn_s, bdr_s]
        simp only [jn1_s]
        rw [if_pos q, lt_s_, nI_1]
        exact e1
      · rw [fe, if_pos q, upd_sf]
        exact e2
    · have hR2 : RN (wst μ 3 i 0) 1 (upd g (128 + 3 * i + 1) 0) := by
        have z := RN_upd (b := 1) (i := 128 + 3 * i + 1) (by omega) 0 hR
        have c1 : 1 + cl (128 + 3 * i + 1) = 3 ∧ ps (128 + 3 * i + 1) = i := by
          rcases (by omega : i = 0 ∨ i = 1 ∨ i = 2 ∨ i = 3 ∨ i = 4 ∨ i = 5 ∨ i = 6 ∨ i = 7) with rfl | rfl | rfl | rfl | rfl | rfl | rfl | rfl <;> exact ⟨rfl, rfl⟩
        rw [c1.1, c1.2] at z
        exact z
      obtain ⟨μ', e1, e2, e3⟩ := ih (i + 1) f (upd g (128 + 3 * i + 1) 0) (wst μ 3 i 0) (by omega) (by omega) (by rw [wst_o (by decide)]; exact hc) hR2
      refine ⟨μ', ?_, ?_, fun k hk => (e3 k hk).trans (wst_o hk)⟩
      · rw [L_X4_feeds_40, if_neg h0, isIn_s, bdr_s]
        simp only [jn1_s]
        rw [if_neg q, sti_n (n := 8) (j := i) (by omega) (by decide), lt_s_, nI_1]
        exact e1
      · rw [fe, if_neg q]
        exact e2
theorem mFeeds {p : Int32} {n : Nat} (hn8 : n ≤ 8) (k1 : MM → Option (Int32 × MM)) : ∀ (d i fu : Nat) (μ : MM), i + d = n → d < fu → μ 38 4 = nI n → ∃ μ', L_X5_feeds_37 p k1 fu (nI i) μ = k1 μ' ∧ μ' 38 = fe p i d (μ 38) ∧ ∀ k, k ≠ 38 → μ' k = μ k := by
  intro d
  induction d with
  | zero =>
    intro i fu μ hi hf hc
    obtain ⟨f, rfl⟩ : ∃ f, fu = f + 1 := ⟨fu - 1, by omega⟩
    have e : i = n := by omega
    subst e
    exact ⟨μ, by rw [L_X5_feeds_37, ld38 μ 4 4 ⟨rfl, by decide⟩, hc, if_pos (Int32.le_refl _)], rfl, fun _ _ => rfl⟩
  | succ d ih =>
    intro i fu μ hi hf hc
    obtain ⟨f, rfl⟩ : ∃ f, fu = f + 1 := ⟨fu - 1, by omega⟩
    have h0 : ¬ μ 38 4 ≤ nI i := by
      rw [hc]
      exact nI_ge (by omega) (by omega)
    obtain ⟨μ', e1, e2, e3⟩ := ih (i + 1) f (wst μ 38 (128 + 3 * i + 1) (if sr p (nI i) &&& 1 = 0 then μ 38 (128 + 3 * i + 1) else 0)) (by omega) (by omega) (by rw [wst_at, upd_o (by omega)]; exact hc)
    refine ⟨μ', ?_, ?_, fun k hk => (e3 k hk).trans (wst_o hk)⟩
    · rw [L_X5_feeds_37, ld38 μ 4 4 ⟨rfl, by decide⟩, if_neg h0, at1, bdr_s, has_s, bdr_s]
      simp only [jn1_s]
      by_cases q : sr p (nI i) &&& 1 = 0
      · rw [if_pos q] at e1
        rw [if_pos q, catIs1 (by omega), bdr_s, sti_n (n := 152) (j := 128 + 3 * i + 1) (by omega) (by decide), lt_s_, nI_1]
        exact e1
      · rw [if_neg q] at e1
        rw [if_neg q, sti_n (n := 152) (j := 128 + 3 * i + 1) (by omega) (by decide), lt_s_, nI_1]
        exact e1
    · rw [e2, wst_at]
      rfl
