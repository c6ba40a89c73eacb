/-! ===== WATCHES go by ===== -/
/-- the CELL of a SHIP behind m WATCHES -/
def pos (g : Nat → Int32) (n s : Nat) : Nat → Nat
  | 0 => (g (116 + 3 * s)).toNatClampNeg
  | m + 1 => nxN g n m s (pos g n s m)
/-- the row behind m WATCHES -/
def wt (g : Nat → Int32) (n m : Nat) : Nat → Int32 := fun i =>
  if i = 0 then g 0 + nI m else if 116 ≤ i ∧ i < 128 ∧ (i - 116) % 3 = 0 then nI (pos g n ((i - 116) / 3) m) else if 128 ≤ i ∧ i < 128 + 3 * n ∧ (i - 128) % 3 = 1 then imin (g i + nI m) 99 else g i
theorem pos_lt {g : Nat → Int32} {n s : Nat} (hV : VW g n) (hs : s < 4) : ∀ m, pos g n s m < 100
  | 0 => by
    obtain ⟨c, hc, e⟩ := (hV.ship hs).1
    unfold pos
    rw [e, nI_clamp (by omega)]
    omega
  | m + 1 => by
    unfold pos
    exact nxN_lt (pos_lt hV hs m)
theorem wt_ship {g : Nat → Int32} {n m s : Nat} (hs : s < 4) : wt g n m (116 + 3 * s) = nI (pos g n s m) := by
  unfold wt
  rw [if_neg (by omega), if_pos (by omega), show (116 + 3 * s - 116) / 3 = s by omega]
theorem wt_hun {g : Nat → Int32} {n m c : Nat} (hc : c < n) : wt g n m (128 + 3 * c + 1) = imin (g (128 + 3 * c + 1) + nI m) 99 := by
  unfold wt
  rw [if_neg (by omega), if_neg (by omega), if_pos (by omega)]
theorem wt_o {g : Nat → Int32} {n m i : Nat} (h0 : i ≠ 0) (h1 : ¬ (116 ≤ i ∧ i < 128 ∧ (i - 116) % 3 = 0)) (h2 : ¬ (128 ≤ i ∧ i < 128 + 3 * n ∧ (i - 128) % 3 = 1)) : wt g n m i = g i := by
  unfold wt
  rw [if_neg h0, if_neg h1, if_neg h2]
theorem wt_t (g : Nat → Int32) (n m : Nat) : wt g n m 0 = g 0 + nI m := by
  unfold wt
  rw [if_pos rfl]
theorem imin_n {x : Int32} {a : Nat} (hx : x = nI a) (ha : a ≤ 99) (m : Nat) (hm : m < 2 ^ 30) : imin (x + nI m) 99 = nI (min (a + m) 99) := by
  unfold imin
  rw [hx, nI_add, show (99 : Int32) = nI 99 from rfl]
  by_cases q : 99 < a + m
  · rw [if_pos (nI_lt q (by omega)), Nat.min_eq_right (by omega)]
  · rw [if_neg (nI_nlt (by omega) (by decide)), Nat.min_eq_left (by omega)]
theorem imin_99' (x : Int32) : imin 99 x = imin x 99 := by
  unfold imin
  by_cases q : (99 : Int32) < x
  · rw [if_pos q, if_neg (Int32.not_lt.mpr (Int32.le_of_lt q))]
  · rw [if_neg q]
    by_cases z : x < 99
    · rw [if_pos z]
    · rw [if_neg z]
      exact Int32.le_antisymm (Int32.not_lt.mp z) (Int32.not_lt.mp q)
theorem wt_0 {g : Nat → Int32} {n : Nat} (hV : VW g n) {i : Nat} (hi : i < 152) : wt g n 0 i = g i := by
  by_cases h0 : i = 0
  · subst h0
    rw [wt_t, show nI 0 = (0 : Int32) from rfl, Int32.add_zero]
  by_cases h1 : 116 ≤ i ∧ i < 128 ∧ (i - 116) % 3 = 0
  · obtain ⟨s, hs, rfl⟩ : ∃ s, s < 4 ∧ i = 116 + 3 * s := ⟨(i - 116) / 3, by omega, by omega⟩
    rw [wt_ship hs]
    obtain ⟨c, hc, e⟩ := (hV.ship hs).1
    unfold pos
    rw [e, nI_clamp (by omega)]
  by_cases h2 : 128 ≤ i ∧ i < 128 + 3 * n ∧ (i - 128) % 3 = 1
  · obtain ⟨c, hc, rfl⟩ : ∃ c, c < n ∧ i = 128 + 3 * c + 1 := ⟨(i - 128) / 3, by omega, by omega⟩
    rw [wt_hun hc, show nI 0 = (0 : Int32) from rfl, imin_99 (hV.cat (Nat.lt_of_lt_of_le hc hV.le)).2.1]
  · exact wt_o h0 h1 h2
/-- the row while SHIPS go: those before j have gone -/
def wj (g : Nat → Int32) (n m j : Nat) : Nat → Int32 := fun i => if 116 ≤ i ∧ i < 116 + 3 * j ∧ (i - 116) % 3 = 0 then nI (pos g n ((i - 116) / 3) (m + 1)) else wt g n m i
theorem VW_wj {g : Nat → Int32} {n m j : Nat} (hV : VW g n) (hj : j ≤ 4) (hm : m < 2 ^ 30) : VW (wj g n m j) n := by
  refine ⟨hV.1, fun i hi => ?_⟩
  by_cases h0 : i = 0
  · subst h0
    rw [upd_at]
    exact ⟨0, by decide, rfl⟩
  rw [upd_o h0]
  by_cases h1 : 116 ≤ i ∧ i < 128 ∧ (i - 116) % 3 = 0
  · obtain ⟨s, hs, rfl⟩ : ∃ s, s < 4 ∧ i = 116 + 3 * s := ⟨(i - 116) / 3, by omega, by omega⟩
    refine (ok_ship hs _).1.mpr ?_
    unfold wj
    split
    · rw [show (116 + 3 * s - 116) / 3 = s by omega]
      have := pos_lt hV hs (m + 1)
      exact ⟨_, by omega, rfl⟩
    · rw [wt_ship hs]
      have := pos_lt hV hs m
      exact ⟨_, by omega, rfl⟩
  have e1 : wj g n m j i = wt g n m i := by
    unfold wj
    rw [if_neg (by omega)]
  rw [e1]
  by_cases h2 : 128 ≤ i ∧ i < 128 + 3 * n ∧ (i - 128) % 3 = 1
  · obtain ⟨c, hc, rfl⟩ : ∃ c, c < n ∧ i = 128 + 3 * c + 1 := ⟨(i - 128) / 3, by omega, by omega⟩
    have hc8 : c < 8 := Nat.lt_of_lt_of_le hc hV.le
    refine (ok_cat hc8 _).2.1.mpr ?_
    obtain ⟨a, ha, e⟩ := (hV.cat hc8).2.1
    rw [wt_hun hc, imin_n e ha m hm]
    exact ⟨_, Nat.min_le_right _ _, rfl⟩
  · rw [wt_o h0 h1 h2]
    have := hV.2 i hi
    rw [upd_o h0] at this
    exact this
theorem eN_cong {g g' : Nat → Int32} {n m : Nat} (hV : VW g n) (hm : m < 2 ^ 30) (h0 : g' 0 = g 0 + nI m) (h3 : g' 3 = g 3) (hk : ∀ c, c < n → g' (128 + 3 * c) = g (128 + 3 * c) ∧ g' (128 + 3 * c + 1) = imin (g (128 + 3 * c + 1) + nI m) 99 ∧ g' (128 + 3 * c + 2) = g (128 + 3 * c + 2)) {c : Nat} (hc : c < n) : eN g' 0 c = eN g m c := by
  obtain ⟨a, ha, e⟩ := (hV.cat (Nat.lt_of_lt_of_le hc hV.le)).2.1
  unfold eN
  obtain ⟨k1, k2, k3⟩ := hk c hc
  rw [k1, k2, k3, h3, h0, imin_n e ha m hm, show nI 0 = (0 : Int32) from rfl, imin_99 ⟨_, Nat.min_le_right _ _, rfl⟩, Int32.add_zero]
theorem nxN_cong {g g' : Nat → Int32} {n m m' s c : Nat} (hi : g' (16 + c) = g (16 + c)) (hw : g' 2 = g 2) (h1 : g' (116 + 3 * s + 1) = g (116 + 3 * s + 1)) (h2 : g' (116 + 3 * s + 2) = g (116 + 3 * s + 2)) (he : ∀ c, c < n → eN g' m' c = eN g m c) : nxN g' n m' s c = nxN g n m s c := by
  unfold nxN ckN rdN
  rw [hi, hw, h1, h2, mv_cong he]
theorem nx_wj {g r : Nat → Int32} {n m j s c : Nat} (hV : VW g n) (hm : m < 2 ^ 30) (hj : j ≤ 4) (hs : s < 4) (hc : c < 100) (hr : ∀ i, i < 152 → r i = wj g n m j i) : nxN r n 0 s c = nxN g n m s c := by
  have hn := hV.le
  have o : ∀ i, i < 152 → i ≠ 0 → ¬ (116 ≤ i ∧ i < 128 ∧ (i - 116) % 3 = 0) → ¬ (128 ≤ i ∧ i < 128 + 3 * n ∧ (i - 128) % 3 = 1) → r i = g i := fun i hi a b d => by
    rw [hr i hi]
    unfold wj
    rw [if_neg (by omega), wt_o a b d]
  refine nxN_cong (o _ (by omega) (by omega) (by omega) (by omega)) (o _ (by omega) (by omega) (by omega) (by omega)) (o _ (by omega) (by omega) (by omega) (by omega)) (o _ (by omega) (by omega) (by omega) (by omega)) (fun c hc => eN_cong hV hm ?_ (o _ (by omega) (by omega) (by omega) (by omega)) (fun c hc => ⟨o _ (by omega) (by omega) (by omega) (by omega), ?_, o _ (by omega) (by omega) (by omega) (by omega)⟩) hc)
  · rw [hr 0 (by omega)]
    unfold wj
    rw [if_neg (by omega), wt_t]
  · rw [hr _ (by omega)]
    unfold wj
    rw [if_neg (by omega), wt_hun hc]
theorem mShips {μ : MM} {g : Nat → Int32} {n m : Nat} (hV : VW g n) (hC : RC μ) (hm : m < 2 ^ 30) (k2 : MM → Option MM) : ∀ (d j fu : Nat) (ν : MM), j + d = 4 → d < fu → (∀ k, k ≠ 38 → ν k = μ k) → (∀ i, i < 152 → ν 38 i = wj g n m j i) → ∃ ν', (∀ k, k ≠ 38 → ν' k = μ k) ∧ (∀ i, i < 152 → ν' 38 i = wj g n m 4 i) ∧ L_X5_watch_2 k2 fu (nI j) ν = k2 ν' := by
  intro d
  induction d with
  | zero =>
    intro j fu ν hj hf h1 h2
    obtain ⟨f, rfl⟩ : ∃ f, fu = f + 1 := ⟨fu - 1, by omega⟩
    have e : j = 4 := by omega
    subst e
    exact ⟨ν, h1, h2, by rw [L_X5_watch_2, if_pos (le_n (z := 4) (N := 4) rfl)]⟩
  | succ d ih =>
    intro j fu ν hj hf h1 h2
    obtain ⟨f, rfl⟩ : ∃ f, fu = f + 1 := ⟨fu - 1, by omega⟩
    have hj4 : j < 4 := by omega
    have hp := pos_lt hV hj4 m
    have hVν : VW (ν 38) n := VW_cong (fun i hi _ => h2 i hi) (VW_wj hV (by omega) hm)
    have hCν : RC ν := RC_fr (h1 42 (by decide)) (h1 43 (by decide)) hC
    have ec : ν 38 (116 + 3 * j) = nI (pos g n j m) := by
      rw [h2 _ (by omega)]
      unfold wj
      rw [if_neg (by omega), wt_ship hj4]
    obtain ⟨ν', a1, a2, a3⟩ := ih (j + 1) f (wst ν 38 (116 + 3 * j) (nI (nxN g n m j (pos g n j m)))) (by omega) (by omega) (fun k hk => by rw [wst_o hk, h1 k hk]) (fun i hi => by
      rw [wst_at]
      by_cases q : i = 116 + 3 * j
      · subst q
        rw [upd_at]
        unfold wj
        rw [if_pos (by omega), show (116 + 3 * j - 116) / 3 = j by omega]
        rfl
      · rw [upd_o q, h2 i hi]
        unfold wj
        by_cases z : 116 ≤ i ∧ i < 116 + 3 * j ∧ (i - 116) % 3 = 0
        · rw [if_pos z, if_pos (by omega)]
        · rw [if_neg z, if_neg (by omega)])
    refine ⟨ν', a1, a2, ?_⟩
    rw [L_X5_watch_2, if_neg (ge_n (z := 4) (N := 4) rfl (by decide) hj4), atShip0, bdr_s, mGoes hVν hCν hj4 hp ec, bdr_s, sti_n (by omega) (by decide), lt_s_, nI_1, nx_wj hV hm (by omega) hj4 hp h2]
    exact a3
def wc (g : Nat → Int32) (n m c : Nat) : Nat → Int32 := fun i => if 128 ≤ i ∧ i < 128 + 3 * c ∧ (i - 128) % 3 = 1 then imin (g i + nI (m + 1)) 99 else wj g n m 4 i
theorem mHung {μ : MM} {g : Nat → Int32} {n m : Nat} (hV : VW g n) (hm : m < 2 ^ 29) (k1 : MM → Option MM) : ∀ (d j fu : Nat) (ν : MM), j + d = n → d < fu → (∀ k, k ≠ 38 → ν k = μ k) → (∀ i, i < 152 → ν 38 i = wc g n m j i) → ∃ ν', (∀ k, k ≠ 38 → ν' k = μ k) ∧ (∀ i, i < 152 → ν' 38 i = wc g n m n i) ∧ L_X5_watch_30 k1 fu (nI j) ν = k1 ν' := by
  have hn8 := hV.le
  intro d
  induction d with
  | zero =>
    intro j fu ν hj hf h1 h2
    obtain ⟨f, rfl⟩ : ∃ f, fu = f + 1 := ⟨fu - 1, by omega⟩
    have e : j = n := by omega
    subst e
    have e4 : ν 38 4 = nI j := by
      rw [h2 4 (by decide)]
      unfold wc wj
      rw [if_neg (by omega), if_neg (by omega), wt_o (by omega) (by omega) (by omega)]
      exact hV.cats
    exact ⟨ν, h1, h2, by rw [L_X5_watch_30, ld38 ν 4 4 ⟨rfl, by decide⟩, if_pos (le_n e4)]⟩
  | succ d ih =>
    intro j fu ν hj hf h1 h2
    obtain ⟨f, rfl⟩ : ∃ f, fu = f + 1 := ⟨fu - 1, by omega⟩
    have hj8 : j < 8 := by omega
    have e4 : ν 38 4 = nI n := by
      rw [h2 4 (by decide)]
      unfold wc wj
      rw [if_neg (by omega), if_neg (by omega), wt_o (by omega) (by omega) (by omega)]
      exact hV.cats
    obtain ⟨a, ha, ea⟩ := (hV.cat hj8).2.1
    have eh : ν 38 (128 + 3 * j + 1) = imin (g (128 + 3 * j + 1) + nI m) 99 := by
      rw [h2 _ (by omega)]
      unfold wc wj
      rw [if_neg (by omega), if_neg (by omega), wt_hun (by omega)]
    have ev : imin 99 (ν 38 (128 + 3 * j + 1) + 1) = imin (g (128 + 3 * j + 1) + nI (m + 1)) 99 := by
      rw [imin_99', eh, imin_n ea ha m (by omega), imin_n ea ha (m + 1) (by omega), show (1 : Int32) = nI 1 from rfl, imin_n (a := min (a + m) 99) rfl (Nat.min_le_right _ _) 1 (by decide)]
      congr 1
      omega
    obtain ⟨ν', a1, a2, a3⟩ := ih (j + 1) f (wst ν 38 (128 + 3 * j + 1) (imin (g (128 + 3 * j + 1) + nI (m + 1)) 99)) (by omega) (by omega) (fun k hk => by rw [wst_o hk, h1 k hk]) (fun i hi => by
      rw [wst_at]
      by_cases q : i = 128 + 3 * j + 1
      · subst q
        rw [upd_at]
        unfold wc
        rw [if_pos (by omega)]
      · rw [upd_o q, h2 i hi]
        unfold wc
        by_cases z : 128 ≤ i ∧ i < 128 + 3 * j ∧ (i - 128) % 3 = 1
        · rw [if_pos z, if_pos (by omega)]
        · rw [if_neg z, if_neg (by omega)])
    refine ⟨ν', a1, a2, ?_⟩
    rw [L_X5_watch_30, ld38 ν 4 4 ⟨rfl, by decide⟩, if_neg (ge_n e4 (by omega) (show j < n by omega)), at1, bdr_s, catIs1 hj8, bdr_s, sti_n (by omega) (by decide), lt_s_, nI_1, ev]
    exact a3
/-- one WATCH of the reference -/
theorem mWatch {μ : MM} {g : Nat → Int32} {n m : Nat} (hV : VW g n) (hC : RC μ) (hm : m < 2 ^ 29) (e : ∀ i, i < 152 → μ 38 i = wt g n m i) : ∃ μ', f_X5_watch μ = some μ' ∧ (∀ k, k ≠ 38 → μ' k = μ k) ∧ ∀ i, i < 152 → μ' 38 i = wt g n (m + 1) i := by
  have hn8 := hV.le
  unfold f_X5_watch
  rw [jn1_s]
  generalize hk2 : (fun (m1 : MM) => jn1 (fun (m2 : MM) => ldi m2 38 152 0 fun x1 => sti m2 38 152 0 (x1 + 1) fun m3 => some m3) fun k1 => L_X5_watch_30 k1 FU 0 m1) = k2
  obtain ⟨ν, b1, b2, b3⟩ := mShips (m := m) hV hC (by omega) k2 4 0 FU μ (by decide) (show 4 < 4096 by decide) (fun _ _ => rfl) (fun i hi => by rw [e i hi]; unfold wj; rw [if_neg (by omega)])
  rw [show nI 0 = (0 : Int32) from rfl] at b3
  rw [b3, ← hk2]
  show ∃ μ', (jn1 _ _) = some μ' ∧ _
  rw [jn1_s]
  generalize hk1 : (fun (m2 : MM) => ldi m2 38 152 0 fun x1 => sti m2 38 152 0 (x1 + 1) fun m3 => some m3) = k1
  obtain ⟨ν2, c1, c2, c3⟩ := mHung hV hm k1 n 0 FU ν (by omega) (show n < 4096 by omega) b1 (fun i hi => by rw [b2 i hi]; unfold wc; rw [if_neg (by omega)])
  rw [show nI 0 = (0 : Int32) from rfl] at c3
  rw [c3, ← hk1]
  show ∃ μ', (ldi ν2 38 152 0 fun x1 => sti ν2 38 152 0 (x1 + 1) fun m3 => some m3) = some μ' ∧ _
  rw [ld38 ν2 0 0 ⟨rfl, by decide⟩, st38 ν2 0 _ 0 ⟨rfl, by decide⟩]
  refine ⟨_, rfl, fun k hk => by rw [wst_o hk, c1 k hk], fun i hi => ?_⟩
  rw [wst_at]
  by_cases q : i = 0
  · subst q
    rw [upd_at, c2 0 (by decide), wt_t]
    unfold wc wj
    rw [if_neg (by omega), if_neg (by omega), wt_t, Int32.add_assoc, nI_1]
  · rw [upd_o q, c2 i hi]
    unfold wc
    by_cases z : 128 ≤ i ∧ i < 128 + 3 * n ∧ (i - 128) % 3 = 1
    · obtain ⟨c, hc, rfl⟩ : ∃ c, c < n ∧ i = 128 + 3 * c + 1 := ⟨(i - 128) / 3, by omega, by omega⟩
      rw [if_pos z, wt_hun hc]
    · rw [if_neg z]
      unfold wj
      by_cases y : 116 ≤ i ∧ i < 116 + 3 * 4 ∧ (i - 116) % 3 = 0
      · obtain ⟨s, hs, rfl⟩ : ∃ s, s < 4 ∧ i = 116 + 3 * s := ⟨(i - 116) / 3, by omega, by omega⟩
        rw [if_pos y, wt_ship hs, show (116 + 3 * s - 116) / 3 = s by omega]
      · rw [if_neg y, wt_o q (by omega) z, wt_o q (by omega) z]
