theorem bn_255 (x : Int32) : bn (x &&& 255) 255 := by
  refine ⟨(x.toBitVec &&& 255#32).toNat, ?_, Int32.toBitVec_inj.mp ?_⟩
  · rw [BitVec.toNat_and]
    exact Nat.and_le_right
  · show x.toBitVec &&& 255#32 = BitVec.ofNat 32 (x.toBitVec &&& 255#32).toNat
    rw [BitVec.ofNat_toNat, BitVec.setWidth_eq]
theorem byt_s (p : Int32) : ∀ (d t : Nat) (f g : Nat → Int32), (∀ i, i < t → f i = g i ∧ bn (g i) 255) → ∀ i, i < t + d → byt p d t f i = byt p d t g i ∧ bn (byt p d t g i) 255 := by
  intro d
  induction d with
  | zero => exact fun t f g h i hi => h i hi
  | succ d ih =>
    intro t f g h i hi
    rw [byt, byt]
    refine ih (t + 1) _ _ (fun j hj => ?_) i (by omega)
    by_cases q : j = t
    · subst q
      rw [upd_at, upd_at]
      exact ⟨rfl, bn_255 _⟩
    · rw [upd_o q, upd_o q]
      exact h j (by omega)
theorem s_feed (a b : Int32) : Two (f_X4_feed a b) (f_X5_feed a b) := by
  intro μ h
  by_cases q : wi b 1 4 = 0
  · exact two_find h (-1000001) 0 (by decide) (by simp only [f_X4_feed, isWithin_s, bdr_s, if_pos q, bdw_id]) (fun m _ => by simp only [f_X5_feed, within_s, bdr_s, if_pos q, bdw_id])
  obtain ⟨d, hd1, hd, rfl⟩ : ∃ N : Nat, 1 ≤ N ∧ N ≤ 4 ∧ b = nI N := by
    rw [wi_0, fa_lt', fa_lt', show (1 : Int32).toInt = 1 from by decide, show (4 : Int32).toInt = 4 from by decide] at q
    refine ⟨b.toInt.toNat, by omega, by omega, Int32.toInt_inj.mp ?_⟩
    rw [nI_toInt (by omega)]
    omega
  have h0 := h
  obtain ⟨h1, h2, h3, h4, ⟨t, ht, t1, t2, t3⟩, h6, h7⟩ := h
  have r1 : (120 : Int32) - nI d = nI (120 - d) := by
    rcases (by omega : d = 1 ∨ d = 2 ∨ d = 3 ∨ d = 4) with rfl | rfl | rfl | rfl <;> decide
  by_cases w : t + d ≤ 120
  · obtain ⟨μ1, x1, x2, x3, x4⟩ := xFeed a d t FU μ hd w (show d < 4096 by omega) t1
    obtain ⟨μ2, y1, y2, y3, y5, y4⟩ := mFeed a d t FU μ1 hd w (show d < 4096 by omega) (by rw [x4 37 (by decide) (by decide)]; exact t2)
    have e : ∀ k, k ≠ 19 → k ≠ 20 → k ≠ 37 → k ≠ 44 → μ2 k = μ k := fun k a b c d => (y4 k c d).trans (x4 k a b)
    refine ⟨nI (t + d), μ1, μ2, ?_, ?_, ?_, ?_, RK_fr (by rw [e 0 (by decide) (by decide) (by decide) (by decide)]) (y5.trans (by rw [x4 37 (by decide) (by decide)])) (fun k a b => e k (by omega) (by omega) (by omega) (by omega)) (e 39 (by decide) (by decide) (by decide) (by decide)) h3, RF_fr (e 34 (by decide) (by decide) (by decide) (by decide)) (e 41 (by decide) (by decide) (by decide) (by decide)) h4, ⟨t + d, w, ?_, y3, ?_⟩, RS_fr (fun k a b => e k (by omega) (by omega) (by omega) (by omega)) (e 47 (by decide) (by decide) (by decide) (by decide)) (e 48 (by decide) (by decide) (by decide) (by decide)) (e 49 (by decide) (by decide) (by decide) (by decide)) h6, RC_fr (e 42 (by decide) (by decide) (by decide) (by decide)) (e 43 (by decide) (by decide) (by decide) (by decide)) h7⟩
    · simp only [f_X4_feed, isWithin_s, bdr_s, if_neg q, lt_s_]
      rw [t1, r1, if_pos (Int32.not_lt.mp (nI_nlt (by omega) (by omega)))]
      exact x1
    · simp only [f_X5_feed, within_s, bdr_s, if_neg q, lt_s_]
      rw [x4 37 (by decide) (by decide), t2, nI_add, show (120 : Int32) = nI 120 from rfl, if_pos (show nI (t + d) ≤ nI 120 from Int32.not_lt.mp (nI_nlt (by omega) (by omega)))]
      exact y1
    · rw [e 38 (by decide) (by decide) (by decide) (by decide)]
      exact RN_fr (fun k a b => e k (by omega) (by omega) (by omega) (by omega)) h1
    · rw [e 38 (by decide) (by decide) (by decide) (by decide)]
      exact h2
    · rw [y4 19 (by decide) (by decide)]
      exact x3
    · rw [y4 20 (by decide) (by decide), x2, y2, x4 44 (by decide) (by decide)]
      exact byt_s a d t _ _ t3
  · exact two_find h0 (-1000002) 1 (by decide) (by
      simp only [f_X4_feed, isWithin_s, bdr_s, if_neg q, bdw_id]
      rw [t1, r1, if_neg (nI_ge (by omega) (by omega))]) (fun m hm => by
      simp only [f_X5_feed, within_s, bdr_s, if_neg q, bdw_id]
      rw [hm 37 (by decide), t2, nI_add, show (120 : Int32) = nI 120 from rfl, if_neg (show ¬ nI (t + d) ≤ nI 120 from nI_ge (by omega) (by omega))])
