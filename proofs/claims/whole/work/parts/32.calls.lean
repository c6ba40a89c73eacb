theorem fa_lt' (a b : Int32) : a < b ↔ a.toInt < b.toInt := Int32.lt_iff_toInt_lt
/-! ===== looks at arguments ===== -/
theorem gdb (p a b : Int32) : gd (wi p a b = 0 ∨ wi p a b = 1) (some (wi p a b)) = some (wi p a b) := gd_t (wi_b p a b) _
theorem xShip (p : Int32) : f_X4_isShip p = some (wi p 0 3) := by simp only [f_X4_isShip, isWithin_s, bdr_s, gdb]
theorem xCell (p : Int32) : f_X4_isCell p = some (wi p 0 99) := by simp only [f_X4_isCell, isWithin_s, bdr_s, gdb]
theorem xKind (p : Int32) : f_X4_isKind p = some (wi p 0 6) := by simp only [f_X4_isKind, isWithin_s, bdr_s, gdb]
theorem xSpot (p : Int32) : f_X4_isSpot p = some (wi p 0 9) := by simp only [f_X4_isSpot, isWithin_s, bdr_s, gdb]
theorem xSheet (p : Int32) : f_X4_isSheet p = some (wi p 0 3) := by simp only [f_X4_isSheet, isWithin_s, bdr_s, gdb]
theorem xCat (p : Int32) (μ : MM) : f_X4_isCat p μ = some (wi p 0 (μ 1 0 - 1)) := by simp only [f_X4_isCat, isWithin_s, bdr_s, gdb]
theorem xCats (p : Int32) (μ : MM) : f_X4_isSetOfCats p μ = some (wi p 0 (sl 1 (μ 1 0) - 1)) := by simp only [f_X4_isSetOfCats, isWithin_s, bdr_s, gdb]
theorem mShip (p : Int32) : f_X5_isShip p = some (wi p 0 3) := by simp only [f_X5_isShip, within_s, bdr_s, gdb]
theorem mCell (p : Int32) : f_X5_isCell p = some (wi p 0 99) := by simp only [f_X5_isCell, within_s, bdr_s, gdb]
theorem mKind (p : Int32) : f_X5_isKind p = some (wi p 0 6) := by simp only [f_X5_isKind, within_s, bdr_s, gdb]
theorem mSpot (p : Int32) : f_X5_isSpot p = some (wi p 0 9) := by simp only [f_X5_isSpot, within_s, bdr_s, gdb]
theorem mSheet (p : Int32) : f_X5_isSheet p = some (wi p 0 3) := by simp only [f_X5_isSheet, within_s, bdr_s, gdb]
theorem ld38 {β : Type} (μ : MM) (i : Int32) (j : Nat) (h : i = nI j ∧ j < 152) (f : Int32 → Option β) : ldi μ 38 152 i f = f (μ 38 j) := by
  rw [h.1]
  exact ldi_n h.2 (by decide)
theorem st38 {β : Type} (μ : MM) (i v : Int32) (j : Nat) (h : i = nI j ∧ j < 152) (f : MM → Option β) : sti μ 38 152 i v f = f (wst μ 38 j v) := by
  rw [h.1]
  exact sti_n h.2 (by decide)
theorem mCat (p : Int32) (μ : MM) : f_X5_isCat p μ = some (wi p 0 (μ 38 4 - 1)) := by simp only [f_X5_isCat, ld38 μ 4 4 ⟨rfl, by decide⟩, within_s, bdr_s, gdb]
theorem mCats (p : Int32) (μ : MM) : f_X5_areCats p μ = some (wi p 0 (sl 1 (μ 38 4) - 1)) := by simp only [f_X5_areCats, ld38 μ 4 4 ⟨rfl, by decide⟩, within_s, bdr_s, gdb]
theorem cat_n {p : Int32} {n : Nat} (hn : n ≤ 8) (h : ¬ wi p 0 (nI n - 1) = 0) : ∃ c : Nat, c < n ∧ p = nI c := by
  cases n with
  | zero =>
    rw [wi_0] at h
    exfalso
    apply h
    by_cases q : p < 0
    · exact Or.inl q
    · refine Or.inr ?_
      obtain ⟨j, hj, rfl⟩ := nI_of q
      rw [fa_lt', show ((nI 0 - 1 : Int32)).toInt = -1 from by decide, nI_toInt hj]
      omega
  | succ n =>
    rw [nI_pred] at h
    obtain ⟨c, hc, e⟩ := wi_n (N := n) (nI_toInt (by omega)) h
    exact ⟨c, by omega, e⟩
theorem sl_n : ∀ n, n ≤ 8 → sl 1 (nI n) - 1 = nI (2 ^ n - 1) ∧ (sl 1 (nI n) - 1).toInt = ((2 ^ n - 1 : Nat) : Int) ∧ sl 1 (nI n) = nI (2 ^ n) := by
  intro n hn
  rcases (by omega : n = 0 ∨ n = 1 ∨ n = 2 ∨ n = 3 ∨ n = 4 ∨ n = 5 ∨ n = 6 ∨ n = 7 ∨ n = 8) with rfl | rfl | rfl | rfl | rfl | rfl | rfl | rfl | rfl <;> decide
theorem at_s (c f : Nat) : f_X5_at (nI c) (nI f) = some (nI (128 + 3 * c + f)) := by
  unfold f_X5_at
  rw [show (128 : Int32) = nI 128 from rfl, show (3 : Int32) = nI 3 from rfl, pk_mul, nI_add, nI_add]
theorem atShip_s (c f : Nat) : f_X5_atShip (nI c) (nI f) = some (nI (116 + 3 * c + f)) := by
  unfold f_X5_atShip
  rw [show (116 : Int32) = nI 116 from rfl, show (3 : Int32) = nI 3 from rfl, pk_mul, nI_add, nI_add]
theorem catIs_s {c f : Nat} (h : c < 8 ∧ f < 3) (μ : MM) : f_X5_catIs (nI c) (nI f) μ = some (μ 38 (128 + 3 * c + f)) := by
  simp only [f_X5_catIs, at_s, bdr_s, ld38 μ _ _ ⟨rfl, (by omega : 128 + 3 * c + f < 152)⟩]
theorem shipIs_s {c f : Nat} (h : c < 4 ∧ f < 3) (μ : MM) : f_X5_shipIs (nI c) (nI f) μ = some (μ 38 (116 + 3 * c + f)) := by
  simp only [f_X5_shipIs, atShip_s, bdr_s, ld38 μ _ _ ⟨rfl, (by omega : 116 + 3 * c + f < 152)⟩]
theorem put_s {k n p : Nat} (h : p < n) (hn : n < 2 ^ 31) (v : Int32) (μ : MM) : f_X4_put k n (nI p) v μ = some (μ k p, wst μ k p v) := by
  unfold f_X4_put
  rw [ldi_n h hn, sti_n h hn]
/-- what may be of a number of the row, by its kind -/
theorem ok_ship {n s : Nat} (h : s < 4) (x : Int32) : (ok n (116 + 3 * s) x ↔ bn x 99) ∧ (ok n (116 + 3 * s + 1) x ↔ bn x 31) ∧ (ok n (116 + 3 * s + 2) x ↔ bn x (2 ^ n - 1)) := by
  rcases (by omega : s = 0 ∨ s = 1 ∨ s = 2 ∨ s = 3) with rfl | rfl | rfl | rfl <;> exact ⟨Iff.rfl, Iff.rfl, Iff.rfl⟩
theorem ok_cat {n c : Nat} (h : c < 8) (x : Int32) : (ok n (128 + 3 * c) x ↔ bn x 6) ∧ (ok n (128 + 3 * c + 1) x ↔ bn x 99) ∧ (ok n (128 + 3 * c + 2) x ↔ (-15 ≤ x.toInt ∧ x.toInt ≤ 15)) := by
  rcases (by omega : c = 0 ∨ c = 1 ∨ c = 2 ∨ c = 3 ∨ c = 4 ∨ c = 5 ∨ c = 6 ∨ c = 7) with rfl | rfl | rfl | rfl | rfl | rfl | rfl | rfl <;> exact ⟨Iff.rfl, Iff.rfl, Iff.rfl⟩
theorem ok_isl {n c : Nat} (h : c < 100) (x : Int32) : ok n (16 + c) x ↔ (x = 0 ∨ x = 1) := by
  unfold ok
  repeat rw [if_neg (by omega)]
  rw [if_pos (by omega)]
theorem ok_spot {n k : Nat} (h : k < 10) (x : Int32) : ok n (6 + k) x ↔ (x = -1 ∨ ∃ c : Nat, c < n ∧ x = nI c) := by
  unfold ok
  repeat rw [if_neg (by omega)]
  rw [if_pos (by omega)]
/-- the same number of CATS on both sides -/
theorem Rel.cats {μ : MM} (h : Rel μ) : ∃ n, n ≤ 8 ∧ VN (μ 38) n ∧ μ 38 4 = nI n ∧ μ 1 0 = nI n := by
  obtain ⟨n, hn⟩ := h.2.1
  exact ⟨n, hn.1, hn, hn.cats, (h.eq (i := 4) (k := 1) (p := 0) (by decide) rfl rfl).trans hn.cats⟩
/-! ===== steer, change, island, hold ===== -/
theorem c10 : (1 : Int32) = 0 ↔ False := by decide
theorem c20 : (2 : Int32) = 0 ↔ False := by decide
theorem c21 : (2 : Int32) = 1 ↔ False := by decide
theorem n_n {p : Int32} {n : Nat} (hn : n ≤ 8) (h : ¬ wi p 0 (sl 1 (nI n) - 1) = 0) : bn p (2 ^ n - 1) := wi_n (sl_n n hn).2.1 h
theorem s_steer (a b v : Int32) : Two (f_X4_steer a b v) (f_X5_steer a b v) := by
  intro μ h
  obtain ⟨n, hn8, hn, hc, hcx⟩ := h.cats
  by_cases q : wi a 0 3 = 0
  · exact two_find h (-1000001) 0 (by decide) (by simp only [f_X4_steer, xShip, bdr_s, if_pos q, bdw_id]) (fun m _ => by simp only [f_X5_steer, jn0_s, jn1_s, mShip, mCell, mCats, within_s, bdr_s, if_pos q, bdw_id, ite_self])
  obtain ⟨s, hs, rfl⟩ := wi_n (N := 3) (by decide) q
  have hs4 : s < 4 := by omega
  obtain ⟨o1, o2, o3⟩ := ok_ship (n := n) hs4 v
  obtain ⟨a1, a2, a3, a4, a5, a6⟩ := cl_s hs4
  by_cases b0 : b = 0
  · subst b0
    by_cases g : wi v 0 99 = 0
    · exact two_find h (-1000001) 0 (by decide) (by simp [f_X4_steer, xShip, bdr_s, jn0_s, xCell, q, g, bdw_id]) (fun m _ => by simp [f_X5_steer, jn0_s, jn1_s, mShip, mCell, bdr_s, q, g, bdw_id])
    · have e := h.eq (i := 116 + 3 * s) (k := 5) (p := s) (by omega) (by rw [a1]) a2
      refine ⟨μ 5 s, wst μ 5 s v, wst (wst μ 5 s v) 38 (116 + 3 * s) v, ?_, ?_, Rel_upd h (by omega) (by rw [a1]) a2 hn (o1.mpr (wi_n (N := 99) (by decide) g))⟩
      · simp [f_X4_steer, xShip, bdr_s, jn0_s, xCell, q, g, bdw_id, put_s hs4]
      · simp only [f_X5_steer, jn0_s, jn1_s, mShip, mCell, bdr_s, if_neg q, if_neg g, bdw_id, if_true, c10, if_false]
        rw [show (0 : Int32) = nI 0 from rfl, atShip_s, bdr_s, become_s (by omega), wst_o (by decide), e]
        rfl
  by_cases b1 : b = 1
  · subst b1
    by_cases g : wi v 0 31 = 0
    · exact two_find h (-1000001) 0 (by decide) (by simp [f_X4_steer, xShip, bdr_s, jn0_s, isWithin_s, q, g, bdw_id]) (fun m _ => by simp [f_X5_steer, jn0_s, jn1_s, mShip, within_s, bdr_s, q, g, bdw_id])
    · have e := h.eq (i := 116 + 3 * s + 1) (k := 6) (p := s) (by omega) (by rw [a3]) a4
      refine ⟨μ 6 s, wst μ 6 s v, wst (wst μ 6 s v) 38 (116 + 3 * s + 1) v, ?_, ?_, Rel_upd h (by omega) (by rw [a3]) a4 hn (o2.mpr (wi_n (N := 31) (by decide) g))⟩
      · simp [f_X4_steer, xShip, bdr_s, jn0_s, isWithin_s, q, g, bdw_id, put_s hs4]
      · simp only [f_X5_steer, jn0_s, jn1_s, mShip, within_s, bdr_s, if_neg q, if_neg g, bdw_id, if_true, c10, if_false]
        rw [show (1 : Int32) = nI 1 from rfl, atShip_s, bdr_s, become_s (by omega), wst_o (by decide), e]
  by_cases b2 : b = 2
  · subst b2
    by_cases g : wi v 0 (sl 1 (nI n) - 1) = 0
    · exact two_find h (-1000001) 0 (by decide) (by simp [f_X4_steer, xShip, bdr_s, jn0_s, xCats, hcx, q, g, bdw_id]) (fun m hm => by simp [f_X5_steer, jn0_s, jn1_s, mShip, mCats, hm 38 (by decide), hc, bdr_s, q, g, bdw_id])
    · have e := h.eq (i := 116 + 3 * s + 2) (k := 7) (p := s) (by omega) (by rw [a5]) a6
      refine ⟨μ 7 s, wst μ 7 s v, wst (wst μ 7 s v) 38 (116 + 3 * s + 2) v, ?_, ?_, Rel_upd h (by omega) (by rw [a5]) a6 hn (o3.mpr (n_n hn8 g))⟩
      · simp [f_X4_steer, xShip, bdr_s, jn0_s, xCats, hcx, q, g, bdw_id, put_s hs4]
      · have e38 : wst μ 7 s v 38 4 = nI n := by rw [wst_o (by decide)]; exact hc
        simp only [f_X5_steer, jn0_s, jn1_s, mShip, mCats, e38, bdr_s, if_neg q, if_neg g, bdw_id, if_true, c10, c20, c21, if_false]
        rw [show (2 : Int32) = nI 2 from rfl, atShip_s, bdr_s, become_s (by omega), wst_o (by decide), e]
  · exact two_find h (-1000001) 0 (by decide) (by simp [f_X4_steer, xShip, bdr_s, jn0_s, q, b0, b1, b2, bdw_id]) (fun m _ => by simp [f_X5_steer, jn0_s, jn1_s, mShip, bdr_s, q, b0, b1, b2, bdw_id])
theorem wi_h {p : Int32} (h : ¬ wi p (-15) 15 = 0) : -15 ≤ p.toInt ∧ p.toInt ≤ 15 := by
  rw [wi_0, fa_lt', fa_lt', show ((-15 : Int32)).toInt = -15 from by decide, show ((15 : Int32)).toInt = 15 from by decide] at h
  omega
theorem s_change (a b v : Int32) : Two (f_X4_change a b v) (f_X5_change a b v) := by
  intro μ h
  obtain ⟨n, hn8, hn, hc, hcx⟩ := h.cats
  by_cases q : wi a 0 (nI n - 1) = 0
  · exact two_find h (-1000001) 0 (by decide) (by simp only [f_X4_change, xCat, hcx, bdr_s, if_pos q, bdw_id]) (fun m hm => by simp only [f_X5_change, jn0_s, jn1_s, mCat, hm 38 (by decide), hc, mKind, within_s, bdr_s, if_pos q, bdw_id, ite_self])
  obtain ⟨s, hs, rfl⟩ := cat_n hn8 q
  have hs4 : s < 8 := by omega
  obtain ⟨o1, o2, o3⟩ := ok_cat (n := n) hs4 v
  obtain ⟨a1, a2, a3, a4, a5, a6⟩ := cl_k s
  by_cases b0 : b = 0
  · subst b0
    by_cases g : wi v 0 6 = 0
    · exact two_find h (-1000001) 0 (by decide) (by simp [f_X4_change, xCat, hcx, bdr_s, jn0_s, xKind, q, g, bdw_id]) (fun m hm => by simp [f_X5_change, jn0_s, jn1_s, mCat, hm 38 (by decide), hc, mKind, bdr_s, q, g, bdw_id])
    · have e := h.eq (i := 128 + 3 * s) (k := 2) (p := s) (by omega) (by rw [a1]) a2
      refine ⟨μ 2 s, wst μ 2 s v, wst (wst μ 2 s v) 38 (128 + 3 * s) v, ?_, ?_, Rel_upd h (by omega) (by rw [a1]) a2 hn (o1.mpr (wi_n (N := 6) (by decide) g))⟩
      · simp [f_X4_change, xCat, hcx, bdr_s, jn0_s, xKind, q, g, bdw_id, put_s hs4]
      · have e38 : wst μ 2 s v 38 4 = nI n := by rw [wst_o (by decide)]; exact hc
        simp only [f_X5_change, jn0_s, jn1_s, mCat, e38, mKind, bdr_s, if_neg q, if_neg g, bdw_id, if_true, c10, c20, c21, if_false]
        rw [show (0 : Int32) = nI 0 from rfl, at_s, bdr_s, become_s (by omega), wst_o (by decide), e]
        rfl
  by_cases b1 : b = 1
  · subst b1
    by_cases g : wi v 0 99 = 0
    · exact two_find h (-1000001) 0 (by decide) (by simp [f_X4_change, xCat, hcx, bdr_s, jn0_s, isWithin_s, q, g, bdw_id]) (fun m hm => by simp [f_X5_change, jn0_s, jn1_s, mCat, hm 38 (by decide), hc, within_s, bdr_s, q, g, bdw_id])
    · have e := h.eq (i := 128 + 3 * s + 1) (k := 3) (p := s) (by omega) (by rw [a3]) a4
      refine ⟨μ 3 s, wst μ 3 s v, wst (wst μ 3 s v) 38 (128 + 3 * s + 1) v, ?_, ?_, Rel_upd h (by omega) (by rw [a3]) a4 hn (o2.mpr (wi_n (N := 99) (by decide) g))⟩
      · simp [f_X4_change, xCat, hcx, bdr_s, jn0_s, isWithin_s, q, g, bdw_id, put_s hs4]
      · have e38 : wst μ 3 s v 38 4 = nI n := by rw [wst_o (by decide)]; exact hc
        simp only [f_X5_change, jn0_s, jn1_s, mCat, e38, within_s, bdr_s, if_neg q, if_neg g, bdw_id, if_true, c10, c20, c21, if_false]
        rw [show (1 : Int32) = nI 1 from rfl, at_s, bdr_s, become_s (by omega), wst_o (by decide), e]
  by_cases b2 : b = 2
  · subst b2
    by_cases g : wi v (-15) 15 = 0
    · exact two_find h (-1000001) 0 (by decide) (by simp [f_X4_change, xCat, hcx, bdr_s, jn0_s, isWithin_s, q, g, bdw_id]) (fun m hm => by simp [f_X5_change, jn0_s, jn1_s, mCat, hm 38 (by decide), hc, within_s, bdr_s, q, g, bdw_id])
    · have e := h.eq (i := 128 + 3 * s + 2) (k := 4) (p := s) (by omega) (by rw [a5]) a6
      refine ⟨μ 4 s, wst μ 4 s v, wst (wst μ 4 s v) 38 (128 + 3 * s + 2) v, ?_, ?_, Rel_upd h (by omega) (by rw [a5]) a6 hn (o3.mpr (wi_h g))⟩
      · simp [f_X4_change, xCat, hcx, bdr_s, jn0_s, isWithin_s, q, g, bdw_id, put_s hs4]
      · have e38 : wst μ 4 s v 38 4 = nI n := by rw [wst_o (by decide)]; exact hc
        simp only [f_X5_change, jn0_s, jn1_s, mCat, e38, within_s, bdr_s, if_neg q, if_neg g, bdw_id, if_true, c10, c20, c21, if_false]
        rw [show (2 : Int32) = nI 2 from rfl, at_s, bdr_s, become_s (by omega), wst_o (by decide), e]
  exact two_find h (-1000001) 0 (by decide) (by simp [f_X4_change, xCat, hcx, bdr_s, jn0_s, q, b0, b1, b2, bdw_id]) (fun m hm => by simp [f_X5_change, jn0_s, jn1_s, mCat, hm 38 (by decide), hc, bdr_s, q, b0, b1, b2, bdw_id])
theorem s_hold (a v : Int32) : Two (f_X4_hold a v) (f_X5_hold a v) := by
  intro μ h
  obtain ⟨n, hn8, hn, hc, hcx⟩ := h.cats
  by_cases q : wi a 0 9 = 0
  · exact two_find h (-1000001) 0 (by decide) (by simp only [f_X4_hold, xSpot, bdr_s, if_pos q, bdw_id]) (fun m hm => by simp only [f_X5_hold, mSpot, bdr_s, if_pos q, bdw_id])
  obtain ⟨s, hs, rfl⟩ := wi_n (N := 9) (by decide) q
  have hs4 : s < 10 := by omega
  obtain ⟨a1, a2⟩ := cl_p hs4
  have fin : ∀ (ht : v = -1 ∨ ∃ c : Nat, c < n ∧ v = nI c), (∀ m : MM, (sti m 9 10 (nI s) v fun m2 => some ((1 : Int32), m2)) = f_X4_hold (nI s) v m ∨ m ≠ μ) → (∀ m : MM, m 38 4 = nI n → f_X5_hold (nI s) v m = sti m 38 152 (6 + nI s) v fun m2 => some ((1 : Int32), m2)) → ∃ r μ1 μ2, f_X4_hold (nI s) v μ = some (r, μ1) ∧ f_X5_hold (nI s) v μ1 = some (r, μ2) ∧ Rel μ2 := by
    intro ht e1 e2
    refine ⟨1, wst μ 9 s v, wst (wst μ 9 s v) 38 (6 + s) v, ?_, ?_, Rel_upd h (by omega) (by rw [a1]) a2 hn ((ok_spot hs4 v).mpr ht)⟩
    · rw [← (e1 μ).resolve_right (fun q => q rfl), sti_n hs4 (by decide)]
    · rw [e2 _ (by rw [wst_o (by decide)]; exact hc), show (6 : Int32) = nI 6 from rfl, nI_add, sti_n (by omega) (by decide)]
  by_cases b0 : v = -1
  · subst b0
    exact fin (Or.inl rfl) (fun m => Or.inl (by simp [f_X4_hold, xSpot, bdr_s, jn0_s, q])) (fun m _ => by simp [f_X5_hold, mSpot, bdr_s, jn0_s, q])
  · by_cases g : wi v 0 (nI n - 1) = 0
    · exact two_find h (-1000001) 0 (by decide) (by simp [f_X4_hold, xSpot, xCat, hcx, bdr_s, jn0_s, q, g, b0, bdw_id]) (fun m hm => by simp [f_X5_hold, mSpot, mCat, hm 38 (by decide), hc, jn0_s, bdr_s, q, g, b0, bdw_id])
    · obtain ⟨c, hcn, rfl⟩ := cat_n hn8 g
      exact fin (Or.inr ⟨c, hcn, rfl⟩) (fun m => (Classical.em (m = μ)).elim (fun e => Or.inl (by subst e; simp [f_X4_hold, xSpot, xCat, hcx, bdr_s, jn0_s, q, b0, g])) Or.inr) (fun m hm => by simp [f_X5_hold, mSpot, mCat, hm, bdr_s, jn0_s, q, b0, g])
