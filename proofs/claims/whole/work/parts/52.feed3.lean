theorem mFeed (p : Int32) : ∀ (d t fu : Nat) (μ : MM), d ≤ 4 → t + d ≤ 120 → d < fu → μ 37 11 = nI t → ∃ μ', L_X5_feed_38 p fu (nI d - 1) μ = some (nI (t + d), μ') ∧ μ' 44 = byt p d t (μ 44) ∧ μ' 37 11 = nI (t + d) ∧ μ' 37 3 = μ 37 3 ∧ ∀ k, k ≠ 37 → k ≠ 44 → μ' k = μ k := by
  intro d
  induction d with
  | zero =>
    intro t fu μ hd ht hf h
    obtain ⟨f, rfl⟩ : ∃ f, fu = f + 1 := ⟨fu - 1, by omega⟩
    exact ⟨μ, by rw [L_X5_feed_38, if_pos (by decide), h]; rfl, rfl, h, rfl, fun _ _ _ => rfl⟩
  | succ d ih =>
    intro t fu μ hd ht hf h
    obtain ⟨f, rfl⟩ : ∃ f, fu = f + 1 := ⟨fu - 1, by omega⟩
    obtain ⟨a1, a2, a3⟩ := dn_n d (by omega)
    obtain ⟨μ', e1, e2, e3, e5, e4⟩ := ih (t + 1) f (wst (wst μ 44 t (sr p (8 * nI d) &&& 255)) 37 11 (nI (t + 1))) (by omega) (by omega) (by omega) (by rw [wst_at, upd_at])
    refine ⟨μ', ?_, ?_, ?_, ?_, fun k q1 q2 => (e4 k q1 q2).trans (by rw [wst_o q1, wst_o q2])⟩
    · rw [a1, L_X5_feed_38, if_neg a3, h, sti_n (n := 120) (j := t) (by omega) (by decide), lt_s_, lt_s_, a2, wst_o (show (37 : Nat) ≠ 44 by decide), h, nI_1, e1, Nat.add_assoc, Nat.add_comm 1 d]
    · rw [e2, wst_o (by decide), wst_at]
      rfl
    · rw [e3, Nat.add_assoc, Nat.add_comm 1 d]
    · rw [e5, wst_at, upd_o (by decide), wst_o (by decide)]
