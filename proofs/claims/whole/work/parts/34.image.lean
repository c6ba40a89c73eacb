theorem catIs0 {c : Nat} (h : c < 8) (μ : MM) : f_X5_catIs (nI c) 0 μ = some (μ 38 (128 + 3 * c)) := catIs_s (f := 0) ⟨h, by decide⟩ μ
theorem catIs1 {c : Nat} (h : c < 8) (μ : MM) : f_X5_catIs (nI c) 1 μ = some (μ 38 (128 + 3 * c + 1)) := catIs_s (f := 1) ⟨h, by decide⟩ μ
theorem catIs2 {c : Nat} (h : c < 8) (μ : MM) : f_X5_catIs (nI c) 2 μ = some (μ 38 (128 + 3 * c + 2)) := catIs_s (f := 2) ⟨h, by decide⟩ μ
theorem shipIs0 {c : Nat} (h : c < 4) (μ : MM) : f_X5_shipIs (nI c) 0 μ = some (μ 38 (116 + 3 * c)) := shipIs_s (f := 0) ⟨h, by decide⟩ μ
theorem shipIs1 {c : Nat} (h : c < 4) (μ : MM) : f_X5_shipIs (nI c) 1 μ = some (μ 38 (116 + 3 * c + 1)) := shipIs_s (f := 1) ⟨h, by decide⟩ μ
theorem shipIs2 {c : Nat} (h : c < 4) (μ : MM) : f_X5_shipIs (nI c) 2 μ = some (μ 38 (116 + 3 * c + 2)) := shipIs_s (f := 2) ⟨h, by decide⟩ μ
theorem at0 (c : Nat) : f_X5_at (nI c) 0 = some (nI (128 + 3 * c)) := at_s c 0
theorem at1 (c : Nat) : f_X5_at (nI c) 1 = some (nI (128 + 3 * c + 1)) := at_s c 1
theorem at2 (c : Nat) : f_X5_at (nI c) 2 = some (nI (128 + 3 * c + 2)) := at_s c 2
theorem atShip0 (c : Nat) : f_X5_atShip (nI c) 0 = some (nI (116 + 3 * c)) := atShip_s c 0
theorem atShip1 (c : Nat) : f_X5_atShip (nI c) 1 = some (nI (116 + 3 * c + 1)) := atShip_s c 1
theorem atShip2 (c : Nat) : f_X5_atShip (nI c) 2 = some (nI (116 + 3 * c + 2)) := atShip_s c 2
/-! ===== loops ===== -/
theorem FU_s (k : Nat) (h : k ≤ 4096) : FU = (4096 - k) + k := by
  show 4096 = (4096 - k) + k
  omega
theorem nI_lt9 {a : Nat} {b : Int32} {n : Nat} (hb : b = nI n) (hn : n < 2 ^ 31) (h : ¬ a < n) (ha : a < 2 ^ 31) : b ≤ nI a := by
  rw [hb]
  exact nI_le (by omega) ha
/-- island -/
theorem s_island (a v : Int32) : Two (f_X4_island a v) (f_X5_island a v) := by
  intro μ h
  obtain ⟨n, hn8, hn, hc, hcx⟩ := h.cats
  by_cases q : wi a 0 99 = 0
  · exact two_find h (-1000001) 0 (by decide) (by simp only [f_X4_island, xCell, bdr_s, if_pos q, bdw_id]) (fun m hm => by simp only [f_X5_island, mCell, bdr_s, if_pos q, bdw_id])
  by_cases g : wi v 0 1 = 0
  · exact two_find h (-1000001) 0 (by decide) (by simp only [f_X4_island, xCell, isWithin_s, bdr_s, if_neg q, if_pos g, bdw_id]) (fun m hm => by simp only [f_X5_island, mCell, within_s, bdr_s, if_neg q, if_pos g, bdw_id])
  obtain ⟨s, hs, rfl⟩ := wi_n (N := 99) (by decide) q
  obtain ⟨x, hx, rfl⟩ := wi_n (N := 1) (by decide) g
  have hs1 : s < 100 := by omega
  obtain ⟨a1, a2⟩ := cl_i hs1
  have e := h.1.isl1 hs1
  have hv : nI x = 0 ∨ nI x = 1 := by
    rcases (by omega : x = 0 ∨ x = 1) with rfl | rfl
    · exact Or.inl rfl
    · exact Or.inr rfl
  have hb : ∀ y : Int32, y = 0 ∨ y = 1 → vp_nar .boolean y = y := by
    rintro y (rfl | rfl) <;> rfl
  refine ⟨if μ 38 (16 + s) = nI x then 0 else 1, wst μ 8 s (nI x), wst (wst μ 8 s (nI x)) 38 (16 + s) (nI x), ?_, ?_, Rel_upd h (by omega) (by rw [a1]) a2 hn ((ok_isl hs1 _).mpr hv)⟩
  · simp only [f_X4_island, xCell, isWithin_s, bdr_s, if_neg q, if_neg g, ldi_n hs1 (show 100 < 2 ^ 31 by decide), jn1_s, stz_n hs1 (show 100 < 2 ^ 31 by decide), e]
    rcases hv with hv | hv
    · rw [hv, if_neg (by decide), if_neg (by decide), hb 0 (Or.inl rfl)]
      split <;> rfl
    · rw [hv, if_pos rfl, if_pos rfl, hb 1 (Or.inr rfl)]
      split <;> rfl
  · simp only [f_X5_island, mCell, within_s, bdr_s, if_neg q, if_neg g]
    rw [show (16 : Int32) = nI 16 from rfl, nI_add, become_s (by omega), bdw_s, wst_o (by decide)]
    split <;> rfl
/-- drives -/
theorem s_drives (a : Int32) : Two (f_X4_drives a) (f_X5_drives a) := by
  intro μ h
  by_cases q : wi a 0 20 = 0
  · obtain ⟨μ1, μ2, e1, e2, h2⟩ := find2 h (c := -1000001) 0 (by decide)
    refine ⟨(-1000001 : Int32).toInt64, μ1, μ2, ?_, ?_, h2⟩
    · simp only [f_X4_drives, isWithin_s, bdr_s, if_pos q, e1, bdw_s]
    · simp only [f_X5_drives, within_s, bdr_s, if_pos q, e2, bdw_s]
  · refine ⟨lsl 1 (3 * a), μ, μ, ?_, ?_, h⟩
    · simp only [f_X4_drives, isWithin_s, bdr_s, if_neg q]
    · simp only [f_X5_drives, within_s, bdr_s, if_neg q]
/-- status -/
theorem L_status_i {μ : MM} {fu i : Nat} {x : Int32} (h : i < 7) : L_X4_status_32 μ (fu + 1) x (nI i) = L_X4_status_32 μ fu (x + μ 34 i) (nI (i + 1)) := by
  rw [L_X4_status_32, if_neg (show ¬ (7 : Int32) ≤ nI i from nI_ge (a := i) (b := 7) h (by decide)), ldi_n h (by decide)]
  simp only [lt_s_, nI_1]
theorem L_status_e {μ : MM} {fu : Nat} {x : Int32} : L_X4_status_32 μ (fu + 1) x (nI 7) = some (x, μ) := by
  rw [L_X4_status_32, if_pos (by decide)]
theorem s_status (a : Int32) : Two (f_X4_status a) (f_X5_status a) := by
  intro μ h
  by_cases q : wi a (-1) 6 = 0
  · exact two_find h (-1000001) 0 (by decide) (by simp only [f_X4_status, isWithin_s, bdr_s, if_pos q, bdw_id]) (fun m hm => by simp only [f_X5_status, within_s, bdr_s, if_pos q, bdw_id])
  have hF := h.2.2.2.1
  by_cases g : a < 0
  · have ea : a = -1 := by
      rw [wi_0, fa_lt', fa_lt', show ((-1 : Int32)).toInt = -1 from by decide] at q
      rw [fa_lt', show ((0 : Int32)).toInt = 0 from by decide] at g
      exact Int32.toInt_inj.mp (by rw [show ((-1 : Int32)).toInt = -1 from by decide]; omega)
    subst ea
    refine ⟨μ 41 0, μ, μ, ?_, ?_, h⟩
    · simp only [f_X4_status, isWithin_s, bdr_s, if_neg q, if_pos g]
      rw [FU_s 8 (by decide), show (0 : Int32) = nI 0 from rfl, L_status_i (by decide), L_status_i (by decide), L_status_i (by decide), L_status_i (by decide), L_status_i (by decide), L_status_i (by decide), L_status_i (by decide), L_status_e, hF.2, hF.1 0 (by decide), hF.1 1 (by decide), hF.1 2 (by decide), hF.1 3 (by decide), hF.1 4 (by decide), hF.1 5 (by decide), hF.1 6 (by decide), show nI 0 = (0 : Int32) from rfl, Int32.zero_add]
    · simp only [f_X5_status, within_s, bdr_s, if_neg q]
      rw [ldi_c 0 (by decide)]
  · obtain ⟨x, hx, rfl⟩ := nI_of2 (n := 6) (M := 6) (by decide) g (Int32.not_lt.mp (fun z => q (wi_0.mpr (Or.inr z))))
    refine ⟨μ 34 x, μ, μ, ?_, ?_, h⟩
    · simp only [f_X4_status, isWithin_s, bdr_s, if_neg q, if_neg g]
      rw [ldi_n (by omega) (by decide)]
    · simp only [f_X5_status, within_s, bdr_s, if_neg q]
      rw [nI_1, ldi_n (by omega) (by decide), hF.1 x (by omega)]
/-- as -/
theorem under_s : ∀ k, k < 7 → ∀ j, j < 7 → ∃ b : Int32, f_X4_isOrUnder (nI k) (nI j) = some b ∧ f_X5_isUnder (nI k) (nI j) = some b := by
  intro k hk j hj
  refine ⟨(f_X4_isOrUnder (nI k) (nI j)).getD 0, ?_⟩
  revert j
  revert k
  decide +kernel
theorem bdr_n {α β : Type} (r : α) (f : α → Option β) : bdr (some r) f = f r := by
  have h : bdr (some r) f = f r := rfl
  exact h
theorem s_as (a v : Int32) : Two (f_X4_as a v) (f_X5_as a v) := by
  intro μ h
  obtain ⟨n, hn8, hn, hc, hcx⟩ := h.cats
  by_cases q : wi a 0 9 = 0
  · exact two_find h (-1000001) 0 (by decide) (by simp only [f_X4_as, xSpot, bdr_n, if_pos q, bdw_id]) (fun m hm => by simp only [f_X5_as, mSpot, bdr_n, if_pos q, bdw_id])
  by_cases g : wi v 0 6 = 0
  · exact two_find h (-1000001) 0 (by decide) (by simp only [f_X4_as, xSpot, xKind, bdr_n, if_neg q, if_pos g, bdw_id]) (fun m hm => by simp only [f_X5_as, mSpot, mKind, bdr_n, if_neg q, if_pos g, bdw_id])
  obtain ⟨s, hs, rfl⟩ := wi_n (N := 9) (by decide) q
  obtain ⟨x, hx, rfl⟩ := wi_n (N := 6) (by decide) g
  have hs1 : s < 10 := by omega
  have e := h.1.spot1 hs1
  have l6 : ∀ {β : Type} (m : MM) (f : Int32 → Option β), ldi m 38 152 (6 + nI s) f = f (m 38 (6 + s)) := fun m f => by
    rw [show (6 : Int32) = nI 6 from rfl, nI_add]
    exact ldi_n (by omega) (by decide)
  rcases hn.spot hs1 with z | ⟨c, hcn, z⟩
  · refine two_find h (-1000006) 5 (by decide) ?_ (fun m hm => ?_)
    · simp only [f_X4_as, xSpot, xKind, xCat, bdr_n, if_neg q, if_neg g, ldi_n hs1 (show 10 < 2 ^ 31 by decide), e, z, hcx]
      rw [if_pos (wi_0.mpr (Or.inl (by decide))), bdw_id]
    · simp only [f_X5_as, mSpot, mKind, bdr_n, if_neg q, if_neg g, l6, hm 38 (by decide), z]
      rw [if_neg (by decide), bdw_id]
  · have hc8 : c < 8 := by omega
    obtain ⟨k, hk, ek⟩ := (hn.cat hc8).1
    obtain ⟨b, u1, u2⟩ := under_s k (by omega) x (by omega)
    have hcat : ¬ wi (nI c) 0 (nI n - 1) = 0 := by
      cases n with
      | zero => exact absurd hcn (Nat.not_lt_zero c)
      | succ n =>
        rw [nI_pred]
        exact wi_y rfl (by omega) (show c ≤ n by omega) rfl
    by_cases hb : b = 0
    · refine two_find h (-1000003) 2 (by decide) ?_ (fun m hm => ?_)
      · simp only [f_X4_as, xSpot, xKind, xCat, bdr_n, if_neg q, if_neg g, ldi_n hs1 (show 10 < 2 ^ 31 by decide), e, z, hcx, if_neg hcat, ldi_n hc8 (show 8 < 2 ^ 31 by decide), (h.1.cat1 hc8).1, ek, u1, hb, if_true, bdw_id]
      · simp only [f_X5_as, mSpot, mKind, bdr_n, if_neg q, if_neg g, l6, hm 38 (by decide), z]
        rw [if_pos (nI_pos' (by omega)), catIs0 hc8, bdr_n, hm 38 (by decide), ek, u2, bdr_n, if_pos hb, bdw_id]
    · refine ⟨nI c, μ, μ, ?_, ?_, h⟩
      · simp only [f_X4_as, xSpot, xKind, xCat, bdr_n, if_neg q, if_neg g, ldi_n hs1 (show 10 < 2 ^ 31 by decide), e, z, hcx, if_neg hcat, ldi_n hc8 (show 8 < 2 ^ 31 by decide), (h.1.cat1 hc8).1, ek, u1, if_neg hb]
      · simp only [f_X5_as, mSpot, mKind, bdr_n, if_neg q, if_neg g, l6, z]
        rw [if_pos (nI_pos' (by omega)), catIs0 hc8, bdr_n, ek, u2, bdr_n, if_neg hb]
/-! ===== image, undo ===== -/
theorem L_copy_s {ka kb : Nat} (hab : ka ≠ kb) (μ : MM) : ∀ (d i fu : Nat), i + d = 152 → d < fu → L_X5_copyRow_2 ka 152 kb 152 fu (nI i) (wsr μ kb (fun j => if j < i then μ ka j else μ kb j)) = some (wsr μ kb (fun j => if j < 152 then μ ka j else μ kb j)) := by
  intro d
  induction d with
  | zero =>
    intro i fu hi hf
    obtain ⟨f, rfl⟩ : ∃ f, fu = f + 1 := ⟨fu - 1, by omega⟩
    have e : i = 152 := by omega
    subst e
    rw [L_X5_copyRow_2, if_pos (by decide)]
  | succ d ih =>
    intro i fu hi hf
    obtain ⟨f, rfl⟩ : ∃ f, fu = f + 1 := ⟨fu - 1, by omega⟩
    rw [L_X5_copyRow_2, if_neg (show ¬ (152 : Int32) ≤ nI i from nI_ge (a := i) (b := 152) (by omega) (by decide)), ldi_n (by omega) (by decide), sti_n (by omega) (by decide), lt_s_, nI_1, wsr_ne hab]
    have e : wst (wsr μ kb (fun j => if j < i then μ ka j else μ kb j)) kb i (μ ka i) = wsr μ kb (fun j => if j < i + 1 then μ ka j else μ kb j) := by
      funext q
      by_cases hq : q = kb
      · subst hq
        rw [wst_at, wsr_same, wsr_same]
        funext j
        unfold upd
        by_cases h1 : j = i
        · rw [if_pos h1, if_pos (by omega), h1]
        · rw [if_neg h1]
          show (if j < i then _ else _) = _
          by_cases h2 : j < i
          · rw [if_pos h2, if_pos (by omega)]
          · rw [if_neg h2, if_neg (by omega)]
      · rw [wst_o hq, wsr_ne hq, wsr_ne hq]
    rw [e]
    exact ih (i + 1) f (by omega) (by omega)
theorem copyRow_s {ka kb : Nat} (hab : ka ≠ kb) (μ : MM) : f_X5_copyRow ka 152 kb 152 μ = some (wsr μ kb (fun j => if j < 152 then μ ka j else μ kb j)) := by
  unfold f_X5_copyRow
  have h := L_copy_s hab μ 152 0 FU (by decide) (show 152 < 4096 by decide)
  have e : wsr μ kb (fun j => if j < 0 then μ ka j else μ kb j) = μ := by
    funext q
    by_cases hq : q = kb
    · subst hq
      rw [wsr_same]
      funext j
      rw [if_neg (Nat.not_lt_zero j)]
    · rw [wsr_ne hq]
  rw [e] at h
  exact h
theorem acp_l {β : Type} {μ : MM} {k k' n : Nat} {f : MM → Option β} {z : Int32} (hz : z = nI n) (hn : n < 2 ^ 31) : acp μ k n k' n 0 0 z f = f (wsr μ k' (va_cpy (μ k) (μ k') 0 0 n)) := by
  unfold acp
  rw [hz, nI_clamp hn, if_pos ⟨by decide, by decide, nI_pos hn, by simp, by simp⟩]
  rfl
theorem cpy_in {f g : Nat → Int32} {n j : Nat} (h : j < n) : va_cpy f g 0 0 n j = f j := by
  rw [pk_cpy_in (Nat.zero_le j) (by omega)]
  congr 1
  omega
theorem VN_cong {g g' : Nat → Int32} {n : Nat} (e : ∀ i, i < 152 → g' i = g i) (h : VN g n) : VN g' n := ⟨h.1, fun i hi => by rw [e i hi]; exact h.2 i hi⟩
theorem RN_cong {μ : MM} {b : Nat} {g g' : Nat → Int32} (e : ∀ i, i < 152 → g' i = g i) (h : RN μ b g) : RN μ b g' := fun i hi => (h i hi).trans (e i hi).symm
theorem L_bec_s {b b' : Nat} (L : (MM → Option MM) → Nat → Int32 → MM → Option MM) (hL : ∀ k1 fu x1 m15, L k1 (fu + 1) x1 m15 = if 100 ≤ x1 then (k1 m15) else (ldi m15 b 100 x1 fun x2 => stz m15 b' 100 x1 x2 fun m16 => lt_ (x1 + 1) fun x3 => L k1 fu x3 m16)) (hab : b ≠ b') (μ : MM) (hz : ∀ c, c < 100 → μ b c = 0 ∨ μ b c = 1) (k1 : MM → Option MM) : ∀ (d i fu : Nat), i + d = 100 → d < fu → L k1 fu (nI i) (wsr μ b' (fun j => if j < i then μ b j else μ b' j)) = k1 (wsr μ b' (fun j => if j < 100 then μ b j else μ b' j)) := by
  intro d
  induction d with
  | zero =>
    intro i fu hi hf
    obtain ⟨f, rfl⟩ : ∃ f, fu = f + 1 := ⟨fu - 1, by omega⟩
    have e : i = 100 := by omega
    subst e
    rw [hL, if_pos (by decide)]
  | succ d ih =>
    intro i fu hi hf
    obtain ⟨f, rfl⟩ : ∃ f, fu = f + 1 := ⟨fu - 1, by omega⟩
    rw [hL, if_neg (show ¬ (100 : Int32) ≤ nI i from nI_ge (a := i) (b := 100) (by omega) (by decide)), ldi_n (by omega) (by decide), stz_n (by omega) (by decide), lt_s_, nI_1, wsr_ne hab]
    have ev : vp_nar .boolean (μ b i) = μ b i := by
      rcases hz i (by omega) with z | z <;> rw [z] <;> rfl
    have e : wst (wsr μ b' (fun j => if j < i then μ b j else μ b' j)) b' i (vp_nar .boolean (μ b i)) = wsr μ b' (fun j => if j < i + 1 then μ b j else μ b' j) := by
      funext q
      by_cases hq : q = b'
      · subst hq
        rw [wst_at, wsr_same, wsr_same, ev]
        funext j
        unfold upd
        by_cases h1 : j = i
        · rw [if_pos h1, if_pos (by omega), h1]
        · rw [if_neg h1]
          show (if j < i then _ else _) = _
          by_cases h2 : j < i
          · rw [if_pos h2, if_pos (by omega)]
          · rw [if_neg h2, if_neg (by omega)]
      · rw [wst_o hq, wsr_ne hq, wsr_ne hq]
    rw [e]
    exact ih (i + 1) f (by omega) (by omega)
