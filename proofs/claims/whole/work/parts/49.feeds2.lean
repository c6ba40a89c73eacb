theorem fe_1 {p : Int32} : ∀ (d i : Nat) (g : Nat → Int32), fe p i d g 1 = g 1 := by
  intro d
  induction d with
  | zero => exact fun i g => rfl
  | succ d ih =>
    intro i g
    rw [fe, ih, upd_o (by omega)]
theorem s_feeds (a : Int32) : Two (f_X4_feeds a) (f_X5_feeds a) := by
  intro μ h
  obtain ⟨n, hn8, hn, hc, hcx⟩ := h.cats
  by_cases q : wi a 0 (sl 1 (nI n) - 1) = 0
  · exact two_find h (-1000001) 0 (by decide) (by simp only [f_X4_feeds, xCats, hcx, bdr_s, if_pos q, bdw_id]) (fun m hm => by simp only [f_X5_feeds, mCats, hm 38 (by decide), hc, bdr_s, if_pos q, bdw_id])
  obtain ⟨k, hk, rfl⟩ := n_n hn8 q
  have hk2 : k < 256 := by
    have := Nat.pow_le_pow_right (n := 2) (by decide) hn8
    have e : 2 ^ 8 = 256 := rfl
    have := Nat.two_pow_pos n
    omega
  obtain ⟨b, hb, b1, b2⟩ := bits_n hk2
  have e10 := h.eq (i := 1) (k := 1) (p := 10) (by decide) rfl rfl
  obtain ⟨y, hy, ey⟩ : bn (μ 38 1) 9999 := hn.2 1 (by decide)
  by_cases w : nI b ≤ nI y
  · have hby : b ≤ y := Nat.le_of_not_lt fun z => nI_ge z (by omega) w
    have es : nI y - nI b = nI (y - b) := by
      rw [show nI y = nI (y - b) + nI b by rw [nI_add]; congr 1; omega, Int32.add_sub_cancel]
    obtain ⟨μ1, x1, x2, x3⟩ := xFeeds (p := nI k) hn8 (fun (m1 : MM) => lt_ (wst m1 1 10 ((m1 1 10) - nI b)) fun m2 => some ((m2 1 10), m2)) n 0 FU (μ 38) μ (by omega) (show n < 4096 by omega) hcx h.1
    have y1 : μ1 1 = μ 1 := x3 1 (by decide)
    have y38 : μ1 38 = μ 38 := x3 38 (by decide)
    obtain ⟨μ2, z1, z2, z3⟩ := mFeeds (p := nI k) hn8 (fun (m1 : MM) => ldi m1 38 152 1 fun x4 => bdr (f_X5_bits (nI k)) fun x5 => sti m1 38 152 1 (x4 - x5) fun m2 => ldi m2 38 152 1 fun x6 => some (x6, m2)) n 0 FU (wst μ1 1 10 (nI (y - b))) (by omega) (show n < 4096 by omega) (by rw [wst_o (by decide), y38]; exact hc)
    rw [wst_o (by decide), y38] at z2
    have z4 : μ2 38 1 = nI y := by rw [z2, fe_1, ey]
    refine ⟨nI (y - b), wst μ1 1 10 (nI (y - b)), wst μ2 38 1 (nI (y - b)), ?_, ?_, ?_⟩
    · simp only [f_X4_feeds, xCats, hcx, bdr_s, if_neg q, b1, e10, ey, if_pos w, jn1_s]
      refine x1.trans ?_
      rw [lt_s_, y1, e10, ey, es, wst_at, upd_at]
    · simp only [f_X5_feeds, mCats, wst_o (show (38 : Nat) ≠ 1 by decide), y38, hc, bdr_s, if_neg q, ld38 _ 1 1 ⟨rfl, by decide⟩, b2, ey, if_pos w, jn1_s]
      simp only [ld38 _ 1 1 ⟨rfl, by decide⟩, b2, bdr_s] at z1
      refine z1.trans ?_
      rw [z4, es, st38 _ 1 _ 1 ⟨rfl, by decide⟩, wst_at, upd_at]
    · refine Rel_rows (μc := wst μ1 1 10 (nI (y - b))) (g := upd (fe (nI k) 0 n (μ 38)) 1 (nI (y - b))) h (RN_upd (b := 1) (i := 1) (by decide) _ x2) (fun k hk => by rw [wst_o (by omega), x3 k (by omega)]) (fun k hk => by rw [wst_o hk, z3 k hk]) (by rw [wst_at, z2]) ⟨n, VN_upd (VN_fe n 0 _ (by omega) hn) ⟨y - b, by omega, rfl⟩⟩
  · exact two_find h (-1000005) 4 (by decide) (by simp only [f_X4_feeds, xCats, hcx, bdr_s, if_neg q, b1, e10, ey, if_neg w, bdw_id]) (fun m hm => by simp only [f_X5_feeds, mCats, hm 38 (by decide), hc, bdr_s, if_neg q, ld38 _ 1 1 ⟨rfl, by decide⟩, b2, ey, if_neg w, bdw_id])
