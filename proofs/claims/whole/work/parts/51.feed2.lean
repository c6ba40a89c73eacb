/-- the tape with d bytes of p laid from place t on -/
def byt (p : Int32) : Nat → Nat → (Nat → Int32) → Nat → Int32
  | 0, _, f => f
  | d + 1, t, f => byt p d (t + 1) (upd f t (sr p (8 * nI d) &&& 255))
theorem dn_n : ∀ d, d < 5 → nI (d + 1) - 1 = nI d ∧ (nI d + -1 = nI d - 1) ∧ ¬ nI d < 0 := by
  intro d hd
  rcases (by omega : d = 0 ∨ d = 1 ∨ d = 2 ∨ d = 3 ∨ d = 4) with rfl | rfl | rfl | rfl | rfl <;> decide
theorem xFeed (p : Int32) : ∀ (d t fu : Nat) (μ : MM), d ≤ 4 → t + d ≤ 120 → d < fu → μ 19 1 = nI t → ∃ μ', L_X4_feed_41 p fu (nI d - 1) μ = some (nI (t + d), μ') ∧ μ' 20 = byt p d t (μ 20) ∧ μ' 19 1 = nI (t + d) ∧ ∀ k, k ≠ 19 → k ≠ 20 → μ' k = μ k := by
  intro d
  induction d with
  | zero =>
    intro t fu μ hd ht hf h
    obtain ⟨f, rfl⟩ : ∃ f, fu = f + 1 := ⟨fu - 1, by omega⟩
    exact ⟨μ, by rw [L_X4_feed_41, if_pos (by decide), h]; rfl, rfl, h, fun _ _ _ => rfl⟩
  | succ d ih =>
    intro t fu μ hd ht hf h
    obtain ⟨f, rfl⟩ : ∃ f, fu = f + 1 := ⟨fu - 1, by omega⟩
    obtain ⟨a1, a2, a3⟩ := dn_n d (by omega)
    obtain ⟨μ', e1, e2, e3, e4⟩ := ih (t + 1) f (wst (wst μ 20 t (sr p (8 * nI d) &&& 255)) 19 1 (nI (t + 1))) (by omega) (by omega) (by omega) (by rw [wst_at, upd_at])
    refine ⟨μ', ?_, ?_, ?_, fun k q1 q2 => (e4 k q1 q2).trans (by rw [wst_o q1, wst_o q2])⟩
    · rw [a1, L_X4_feed_41, if_neg a3, byte_s p (by omega)]
      unfold f_X3_add
      rw [h, if_neg (ge_n (z := 120) (N := 120) rfl (by decide) (by omega)), sti_n (n := 120) (j := t) (by omega) (by decide), lt_s_, bdr_s, lt_s_, a2, wst_o (by decide), h, nI_1, e1, Nat.add_assoc, Nat.add_comm 1 d]
    · rw [e2, wst_o (by decide), wst_at]
      rfl
    · rw [e3, Nat.add_assoc, Nat.add_comm 1 d]
