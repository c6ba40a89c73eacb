theorem cat_out {n i : Nat} (hn : n ≤ 8) (hi : i < 4096) (h : n ≤ i) : wi (nI i) 0 (nI n - 1) = 0 := by
  by_cases q : wi (nI i) 0 (nI n - 1) = 0
  · exact q
  · obtain ⟨c, hc, e⟩ := cat_n hn q
    have := (nI_eq (by omega) (by omega)).mp e
    omega
theorem cat_in {n i : Nat} (hn : n ≤ 8) (h : i < n) : ¬ wi (nI i) 0 (nI n - 1) = 0 := by
  obtain ⟨m, rfl⟩ : ∃ m, n = m + 1 := ⟨n - 1, by omega⟩
  rw [nI_pred]
  exact wi_y (N := m) rfl (by omega) (show i ≤ m by omega) rfl
theorem load_j {j : Nat} (hj : j < 4) {z : Nat} (hz : z ≤ 40) : ∀ (d i fu : Nat) (μx ρ : MM), i + d = z → d < fu → Rel ρ → (∀ k, k ≤ 36 → μx k = ρ k) → ρ 48 j = nI z → ∃ (r : Int32) (μ' ρ' : MM), L_X4_load_17 (nI j) fu (nI i) (nI i) μx = some (r, μ') ∧ Rel ρ' ∧ (∀ k, k ≤ 36 → μ' k = ρ' k) ∧ (∀ k, 37 ≤ k → μ' k = μx k) ∧ (∀ k, 37 ≤ k → k ≠ 38 → ρ' k = ρ k) ∧ ∀ μm : MM, (∀ k, 37 ≤ k → μm k = ρ k) → ∃ μm', L_X5_load_20 (nI j) fu (nI i) μm = some (r, μm') ∧ (∀ k, 37 ≤ k → μm' k = ρ' k) ∧ ∀ k, k ≤ 36 → μm' k = μm k := by
  intro d
  induction d with
  | zero =>
    intro i fu μx ρ hi hf h ex ez
    obtain ⟨f, rfl⟩ : ∃ f, fu = f + 1 := ⟨fu - 1, by omega⟩
    have e : i = z := by omega
    subst e
    obtain ⟨r1, r2, r3, r4, r5⟩ := h.2.2.2.2.2.1 j hj
    refine ⟨nI i, μx, ρ, ?_, h, ex, fun _ _ => rfl, fun _ _ _ => rfl, fun μm em => ⟨μm, ?_, em, fun _ _ => rfl⟩⟩
    · rw [L_X4_load_17, ldq_n hj (by decide), ex _ (by omega), r2, ez, if_pos (Int32.le_refl _)]
    · rw [L_X5_load_20, ldi_n hj (by decide), em 48 (by decide), ez, if_pos (Int32.le_refl _)]
  | succ d ih =>
    intro i fu μx ρ hi hf h ex ez
    obtain ⟨f, rfl⟩ : ∃ f, fu = f + 1 := ⟨fu - 1, by omega⟩
    obtain ⟨r1, r2, r3, r4, r5⟩ := h.2.2.2.2.2.1 j hj
    obtain ⟨n, hV⟩ := h.2.1
    have hn := hV.1
    have x10 : μx 1 0 = nI n := by rw [ex 1 (by decide), (h.1.num).1, hV.cats]
    have hx : L_X4_load_17 (nI j) (f + 1) (nI i) (nI i) μx = if nI n ≤ nI i then some (nI i, μx) else if wi (ρ 49 (40 * j + i)) 0 99 = 0 then some (nI i, μx) else sti μx 3 8 (nI i) (ρ 49 (40 * j + i)) fun m3 => L_X4_load_17 (nI j) f (nI (i + 1)) (nI (i + 1)) m3 := by
      rw [L_X4_load_17, ldq_n hj (by decide), ex _ (by omega), r2, ez, if_neg (nI_ge (by omega) (by omega)), x10, ldq_n hj (by decide), show 26 + 2 * j + 1 = 27 + 2 * j by omega, ldi_n (show i < 40 by omega) (by decide), ex _ (by omega), r3 i (by omega), isWithin_s]
      simp only [bdr_s, lt_s_, nI_1]
    have hm : ∀ μm : MM, (∀ k, 37 ≤ k → μm k = ρ k) → L_X5_load_20 (nI j) (f + 1) (nI i) μm = if wi (nI i) 0 (nI n - 1) = 0 then some (nI i, μm) else if wi (ρ 49 (40 * j + i)) 0 99 = 0 then some (nI i, μm) else sti μm 38 152 (nI (128 + 3 * i + 1)) (ρ 49 (40 * j + i)) fun m3 => L_X5_load_20 (nI j) f (nI (i + 1)) m3 := by
      intro μm em
      rw [L_X5_load_20, ldi_n hj (by decide), em 48 (by decide), ez, if_neg (nI_ge (by omega) (by omega)), mCat, em 38 (by decide), hV.cats, show (40 : Int32) = nI 40 from rfl, pk_mul, nI_add, ldi_n (by omega) (by decide), em 49 (by decide), within_s, at1]
      simp only [bdr_s]
      rw [ldi_n (by omega) (by decide), em 49 (by decide)]
      simp only [lt_s_, nI_1]
    by_cases q : n ≤ i
    · refine ⟨nI i, μx, ρ, ?_, h, ex, fun _ _ => rfl, fun _ _ _ => rfl, fun μm em => ⟨μm, ?_, em, fun _ _ => rfl⟩⟩
      · rw [hx, if_pos (by rw [Int32.le_iff_toInt_le, nI_toInt (by omega), nI_toInt (by omega)]; omega)]
      · rw [hm μm em, if_pos (cat_out hn (by omega) q)]
    · by_cases g : wi (ρ 49 (40 * j + i)) 0 99 = 0
      · refine ⟨nI i, μx, ρ, ?_, h, ex, fun _ _ => rfl, fun _ _ _ => rfl, fun μm em => ⟨μm, ?_, em, fun _ _ => rfl⟩⟩
        · rw [hx, if_neg (nI_ge (by omega) (by omega)), if_pos g]
        · rw [hm μm em, if_neg (cat_in hn (by omega)), if_pos g]
      · obtain ⟨v, hv, ev⟩ := wi_n (N := 99) (by decide) g
        have hR : Rel (wst (wst ρ 3 i (ρ 49 (40 * j + i))) 38 (128 + 3 * i + 1) (ρ 49 (40 * j + i))) := by
          have hc : 1 + cl (128 + 3 * i + 1) = 3 := by
            unfold cl
            repeat rw [if_neg (by omega)]
            omega
          have hp : ps (128 + 3 * i + 1) = i := by
            unfold ps
            repeat rw [if_neg (by omega)]
            omega
          exact Rel_upd h (by omega) hc hp hV ((ok_cat (by omega) _).2.1.mpr ⟨v, hv, ev⟩)
        obtain ⟨r, μ', ρ', a1, a2, a3, a4, a5, a6⟩ := ih (i + 1) f (wst μx 3 i (ρ 49 (40 * j + i))) _ (by omega) (by omega) hR (fun k hk => by
          rw [wst_o (show k ≠ 38 by omega)]
          by_cases y : k = 3
          · subst y
            rw [wst_at, wst_at, ex 3 hk]
          · rw [wst_o y, wst_o y, ex k hk]) (by rw [wst_o (by decide), wst_o (by decide), ez])
        refine ⟨r, μ', ρ', ?_, a2, a3, fun k hk => by rw [a4 k hk, wst_o (by omega)], fun k hk hk2 => by rw [a5 k hk hk2, wst_o hk2, wst_o (by omega)], fun μm em => ?_⟩
        · rw [hx, if_neg (nI_ge (by omega) (by omega)), if_neg g, sti_n (n := 8) (j := i) (by omega) (by decide), a1]
        · obtain ⟨μm', b1, b2, b3⟩ := a6 (wst μm 38 (128 + 3 * i + 1) (ρ 49 (40 * j + i))) (fun k hk => by
            by_cases y : k = 38
            · subst y
              rw [wst_at, wst_at, wst_o (by decide), em 38 hk]
            · rw [wst_o y, wst_o y, wst_o (by omega), em k hk])
          refine ⟨μm', ?_, b2, fun k hk => by rw [b3 k hk, wst_o (by omega)]⟩
          rw [hm μm em, if_neg (cat_in hn (by omega)), if_neg g, sti_n (n := 152) (j := 128 + 3 * i + 1) (by omega) (by decide), b1]
theorem s_load (a : Int32) : Two (f_X4_load a) (f_X5_load a) := by
  intro μ h
  by_cases q : wi a 0 3 = 0
  · exact two_find h (-1000001) 0 (by decide) (by unfold f_X4_load; rw [wrong_1 q, find_pass (j := 0) (by decide) (by decide)]) (fun m _ => by simp only [f_X5_load, lacks_1 q, bdr_s, bdw_id]; rw [if_neg (by decide)])
  obtain ⟨j, hj, rfl⟩ := wi_n (N := 3) (by decide) q
  have hj4 : j < 4 := by omega
  obtain ⟨r1, r2, r3, r4, r5⟩ := h.2.2.2.2.2.1 j hj4
  obtain ⟨z, hz, ez⟩ := r4
  by_cases g : μ 47 j = 0
  · exact two_find h (-1000006) 5 (by decide) (by unfold f_X4_load; rw [wrong_2 hj4 (by rw [r1]; exact g), find_pass (j := 5) (by decide) (by decide)]) (fun m hm => by simp only [f_X5_load, lacks_2 hj4, hm 47 (by decide), if_pos g, bdr_s, bdw_id]; rw [if_neg (by decide)])
  have w0 := wrong_0 hj4 (μ := μ) (by rw [r1]; exact g)
  obtain ⟨r, μ', ρ', a1, a2, a3, a4, a5, a6⟩ := load_j hj4 hz z 0 FU μ μ (by omega) (show z < 4096 by omega) h (fun _ _ => rfl) ez
  obtain ⟨μ2, b1, b2, b3⟩ := a6 μ' a4
  refine ⟨r, μ', μ2, ?_, ?_, ?_⟩
  · simp only [f_X4_load, w0, bdw_s, if_true]
    exact a1
  · simp only [f_X5_load, lacks_2 hj4, a4 47 (by decide), if_neg g, bdr_s]
    rw [if_pos trivial]
    exact b1
  · have e : μ2 = ρ' := by
      funext k
      by_cases y : k ≤ 36
      · rw [b3 k y, a3 k y]
      · exact b2 k (by omega)
    rw [e]
    exact a2
