/-! ===== one WATCH of the class ===== -/
theorem xShips {μ : MM} {g : Nat → Int32} {n m : Nat} (hV : VW g n) (hm : m < 2 ^ 30) (k2 : MM → Option MM) : ∀ (d j fu : Nat) (ν : MM), j + d = 4 → d < fu → (∀ k, k ≠ 5 → ν k = μ k) → RN ν 1 (wj g n m j) → ∃ ν', (∀ k, k ≠ 5 → ν' k = μ k) ∧ RN ν' 1 (wj g n m 4) ∧ L_X0_passWatch_2 k2 fu (nI j) ν = k2 ν' := by
  intro d
  induction d with
  | zero =>
    intro j fu ν hj hf h1 h2
    obtain ⟨f, rfl⟩ : ∃ f, fu = f + 1 := ⟨fu - 1, by omega⟩
    have e : j = 4 := by omega
    subst e
    exact ⟨ν, h1, h2, by rw [L_X0_passWatch_2, if_pos (le_n (z := 4) (N := 4) rfl)]⟩
  | succ d ih =>
    intro j fu ν hj hf h1 h2
    obtain ⟨f, rfl⟩ : ∃ f, fu = f + 1 := ⟨fu - 1, by omega⟩
    have hj4 : j < 4 := by omega
    have hp := pos_lt hV hj4 m
    have hVν : VW (wj g n m j) n := VW_wj hV (by omega) hm
    have ec : ν 5 j = nI (pos g n j m) := by
      rw [(h2.ship1 hj4).1]
      unfold wj
      rw [if_neg (by omega), wt_ship hj4]
    have xn := xNext h2 hVν hj4 hp 0
    rw [show nI 0 = (0 : Int32) from rfl, nx_wj hV hm (by omega) hj4 hp (fun _ _ => rfl)] at xn
    obtain ⟨c1, c2, c3, c4, c5, c6⟩ := cl_s hj4
    have hu := RN_upd (i := 116 + 3 * j) (by omega) (nI (nxN g n m j (pos g n j m))) h2
    rw [c1, c2] at hu
    obtain ⟨ν', a1, a2, a3⟩ := ih (j + 1) f (wst ν 5 j (nI (nxN g n m j (pos g n j m)))) (by omega) (by omega) (fun k hk => by rw [wst_o hk, h1 k hk]) (RN_cong (fun i hi => by
      by_cases q : i = 116 + 3 * j
      · subst q
        rw [upd_at]
        unfold wj
        rw [if_pos (by omega), show (116 + 3 * j - 116) / 3 = j by omega]
        rfl
      · rw [upd_o q]
        unfold wj
        by_cases z : 116 ≤ i ∧ i < 116 + 3 * j ∧ (i - 116) % 3 = 0
        · rw [if_pos z, if_pos (by omega)]
        · rw [if_neg z, if_neg (by omega)]) hu)
    refine ⟨ν', a1, a2, ?_⟩
    rw [L_X0_passWatch_2, if_neg (ge_n (z := 4) (N := 4) rfl (by decide) hj4), ldi_n hj4 (by decide), ec, xn, bdr_s, sti_n hj4 (by decide), lt_s_, nI_1]
    exact a3
theorem xHung {μ : MM} {g : Nat → Int32} {n m : Nat} (hV : VW g n) (hm : m < 2 ^ 29) (k1 : MM → Option MM) : ∀ (d j fu : Nat) (ν : MM), j + d = n → d < fu → (∀ k, k ≠ 3 → ν k = μ k) → RN ν 1 (wc g n m j) → ∃ ν', (∀ k, k ≠ 3 → ν' k = μ k) ∧ RN ν' 1 (wc g n m n) ∧ L_X0_passWatch_33 k1 fu (nI j) ν = k1 ν' := by
  have hn8 := hV.le
  have w4 : ∀ j, wc g n m j 4 = nI n := fun j => by
    unfold wc wj
    rw [if_neg (by omega), if_neg (by omega), wt_o (by omega) (by omega) (by omega)]
    exact hV.cats
  intro d
  induction d with
  | zero =>
    intro j fu ν hj hf h1 h2
    obtain ⟨f, rfl⟩ : ∃ f, fu = f + 1 := ⟨fu - 1, by omega⟩
    have e : j = n := by omega
    subst e
    have e4 : ν 1 0 = nI j := h2.num.1.trans (w4 j)
    exact ⟨ν, h1, h2, by rw [L_X0_passWatch_33, if_pos (le_n e4)]⟩
  | succ d ih =>
    intro j fu ν hj hf h1 h2
    obtain ⟨f, rfl⟩ : ∃ f, fu = f + 1 := ⟨fu - 1, by omega⟩
    have hj8 : j < 8 := by omega
    have e4 : ν 1 0 = nI n := h2.num.1.trans (w4 j)
    obtain ⟨a, ha, ea⟩ := (hV.cat hj8).2.1
    have eh : ν 3 j = imin (g (128 + 3 * j + 1) + nI m) 99 := by
      rw [(h2.cat1 hj8).2.1]
      unfold wc wj
      rw [if_neg (by omega), if_neg (by omega), wt_hun (by omega)]
    have ev : imin (ν 3 j + 1) 99 = imin (g (128 + 3 * j + 1) + nI (m + 1)) 99 := by
      rw [eh, imin_n ea ha m (by omega), imin_n ea ha (m + 1) (by omega), show (1 : Int32) = nI 1 from rfl, imin_n (a := min (a + m) 99) rfl (Nat.min_le_right _ _) 1 (by decide)]
      congr 1
      omega
    obtain ⟨c1, c2, c3, c4, c5, c6⟩ := cl_k j
    have hu := RN_upd (i := 128 + 3 * j + 1) (by omega) (imin (g (128 + 3 * j + 1) + nI (m + 1)) 99) h2
    rw [c3, c4] at hu
    obtain ⟨ν', a1, a2, a3⟩ := ih (j + 1) f (wst ν 3 j (imin (g (128 + 3 * j + 1) + nI (m + 1)) 99)) (by omega) (by omega) (fun k hk => by rw [wst_o hk, h1 k hk]) (RN_cong (fun i hi => by
      by_cases q : i = 128 + 3 * j + 1
      · subst q
        rw [upd_at]
        unfold wc
        rw [if_pos (by omega)]
      · rw [upd_o q]
        unfold wc
        by_cases z : 128 ≤ i ∧ i < 128 + 3 * j ∧ (i - 128) % 3 = 1
        · rw [if_pos z, if_pos (by omega)]
        · rw [if_neg z, if_neg (by omega)]) hu)
    refine ⟨ν', a1, a2, ?_⟩
    rw [L_X0_passWatch_33, if_neg (ge_n e4 (by omega) (show j < n by omega)), ldi_n hj8 (by decide), sti_n hj8 (by decide), lt_s_, nI_1, ev]
    exact a3
theorem wc_wt {g : Nat → Int32} {n m i : Nat} (q : i ≠ 0) : wc g n m n i = wt g n (m + 1) i := by
  unfold wc
  by_cases z : 128 ≤ i ∧ i < 128 + 3 * n ∧ (i - 128) % 3 = 1
  · obtain ⟨c, hc, rfl⟩ : ∃ c, c < n ∧ i = 128 + 3 * c + 1 := ⟨(i - 128) / 3, by omega, by omega⟩
    rw [if_pos z, wt_hun hc]
  · rw [if_neg z]
    unfold wj
    by_cases y : 116 ≤ i ∧ i < 116 + 3 * 4 ∧ (i - 116) % 3 = 0
    · obtain ⟨s, hs, rfl⟩ : ∃ s, s < 4 ∧ i = 116 + 3 * s := ⟨(i - 116) / 3, by omega, by omega⟩
      rw [if_pos y, wt_ship hs, show (116 + 3 * s - 116) / 3 = s by omega]
    · rw [if_neg y, wt_o q (by omega) z, wt_o q (by omega) z]
theorem xPass {μ : MM} {g : Nat → Int32} {n m : Nat} (hV : VW g n) (hm : m < 2 ^ 29) (hR : RN μ 1 (wt g n m)) : ∃ μ', f_X0_passWatch μ = some μ' ∧ (∀ k, k ≠ 1 → k ≠ 3 → k ≠ 5 → μ' k = μ k) ∧ RN μ' 1 (wt g n (m + 1)) := by
  have hn8 := hV.le
  unfold f_X0_passWatch
  rw [jn1_s]
  generalize hk2 : (fun (m1 : MM) => jn1 (fun (m2 : MM) => lt_ (wst m2 1 11 ((m2 1 11) + 1)) fun m3 => some m3) fun k1 => L_X0_passWatch_33 k1 FU 0 m1) = k2
  obtain ⟨ν, b1, b2, b3⟩ := xShips (m := m) (μ := μ) hV (by omega) k2 4 0 FU μ (by decide) (show 4 < 4096 by decide) (fun _ _ => rfl) (RN_cong (fun i hi => by unfold wj; rw [if_neg (by omega)]) hR)
  rw [show nI 0 = (0 : Int32) from rfl] at b3
  rw [b3, ← hk2]
  show ∃ μ', (jn1 _ _) = some μ' ∧ _
  rw [jn1_s]
  generalize hk1 : (fun (m2 : MM) => lt_ (wst m2 1 11 ((m2 1 11) + 1)) fun m3 => some m3) = k1
  obtain ⟨ν2, c1, c2, c3⟩ := xHung (m := m) (μ := ν) hV hm k1 n 0 FU ν (by omega) (show n < 4096 by omega) (fun _ _ => rfl) (RN_cong (fun i hi => by unfold wc; rw [if_neg (by omega)]) b2)
  rw [show nI 0 = (0 : Int32) from rfl] at c3
  rw [c3, ← hk1]
  show ∃ μ', (lt_ (wst ν2 1 11 ((ν2 1 11) + 1)) fun m3 => some m3) = some μ' ∧ _
  rw [lt_s_]
  have hu := RN_upd (i := 0) (by omega) (ν2 1 11 + 1) c2
  refine ⟨_, rfl, fun k q1 q2 q3 => by rw [wst_o q1, c1 k q2, b1 k q3], RN_cong (fun i hi => ?_) hu⟩
  by_cases q : i = 0
  · subst q
    rw [upd_at, c2.num.2.2.2.2.1, wt_t]
    unfold wc wj
    rw [if_neg (by omega), if_neg (by omega), wt_t, Int32.add_assoc, nI_1]
  · rw [upd_o q, wc_wt q]
