/-! ===== how a cat errs ===== -/
def er (k h hb fi t : Int32) : Int32 :=
  if k = 1 then h / 10 + 2 * (sr fi t &&& 1) else if k = 2 then h / 10 + irm t 5 - 2 else if k = 3 then (if h < 50 then h / 10 + 2 * (sr fi t &&& 1) else hb) else if k = 4 then 16 - (if h < 50 then h / 10 + 2 * (sr fi t &&& 1) else hb) else if k = 5 then h / 10 / 2 else if k = 6 then h / 10 + irm t 5 - 2 + 1 else h / 10
theorem errsAs_s {c : Nat} (hc : c < 8) (k hb p : Int32) (μ : MM) : f_X0_errsAs (nI c) k hb p μ = some (er k (imin (μ 3 c + p) 99) hb (μ 1 9) (irm (μ 1 11 + p) 16)) := by
  unfold f_X0_errsAs er
  rw [ldi_n hc (by decide)]
  simp only [lt_s_, jn1_s]
  by_cases hh : imin (μ 3 c + p) 99 < 50
  · simp only [if_pos hh]
    repeat (first | rfl | (split; · rfl))
  · simp only [if_neg hh]
    repeat (first | rfl | (split; · rfl))
theorem errs_s {c : Nat} (hc : c < 8) (p : Int32) (μ : MM) : f_X0_errs (nI c) p μ = some (er (μ 2 c) (imin (μ 3 c + p) 99) (μ 4 c) (μ 1 9) (irm (μ 1 11 + p) 16)) := by
  unfold f_X0_errs
  rw [ldi_n hc (by decide), ldi_n hc (by decide), errsAs_s hc]
  rfl
theorem and1 (x : Int32) : x &&& 1 = 0 ∨ x &&& 1 = 1 := by
  obtain ⟨j, hj, e⟩ := pk_andE x (m := 1) 1 (by decide)
  rcases (by omega : j = 0 ∨ j = 1) with rfl | rfl
  · exact Or.inl e
  · exact Or.inr e
theorem has_s (f t : Int32) : f_X5_has f t = some (sr f t &&& 1) := by
  unfold f_X5_has
  rcases and1 (sr f t) with e | e
  · rw [e, if_neg (by decide)]
  · rw [e, if_pos rfl]
theorem merrs_s {c : Nat} (hc : c < 8) (μ : MM) : f_X5_errs (nI c) μ = some (er (μ 38 (128 + 3 * c)) (μ 38 (128 + 3 * c + 1)) (μ 38 (128 + 3 * c + 2)) (μ 38 3) (irm (μ 38 0) 16)) := by
  unfold f_X5_errs er
  have k0 := catIs_s (f := 0) ⟨hc, by decide⟩ μ
  have k1 := catIs_s (f := 1) ⟨hc, by decide⟩ μ
  have k2 := catIs_s (f := 2) ⟨hc, by decide⟩ μ
  rw [show (nI 0) = (0 : Int32) from rfl] at k0
  rw [show (nI 1) = (1 : Int32) from rfl] at k1
  rw [show (nI 2) = (2 : Int32) from rfl] at k2
  rw [ld38 μ 0 0 ⟨rfl, by decide⟩]
  simp only [lt_s_, jn1_s, k0, k1, k2, bdr_s, ld38 μ 3 3 ⟨rfl, by decide⟩, has_s, Nat.add_zero]
  have e2 : (if sr (μ 38 3) (irm (μ 38 0) 16) &&& 1 = 0 then (0 : Int32) else 2) = 2 * (sr (μ 38 3) (irm (μ 38 0) 16) &&& 1) := by
    rcases and1 (sr (μ 38 3) (irm (μ 38 0) 16)) with e | e
    · rw [e]; decide
    · rw [e]; decide
  rcases and1 (sr (μ 38 3) (irm (μ 38 0) 16)) with e | e
  · rw [if_pos e, e]
    by_cases hh : μ 38 (128 + 3 * c + 1) < 50
    · simp only [if_pos hh]
      repeat (first | rfl | (split; · rfl))
    · simp only [if_neg hh]
      repeat (first | rfl | (split; · rfl))
  · rw [if_neg (by rw [e]; decide), e]
    by_cases hh : μ 38 (128 + 3 * c + 1) < 50
    · simp only [if_pos hh]
      repeat (first | rfl | (split; · rfl))
    · simp only [if_neg hh]
      repeat (first | rfl | (split; · rfl))
/-! ===== several numbers of the row ===== -/
theorem Rel_rows {μ μc μ2 : MM} {g : Nat → Int32} (h : Rel μ) (hX : RN μc 1 g) (eX : ∀ k, ¬ (1 ≤ k ∧ k ≤ 9) → μc k = μ k) (e2 : ∀ k, k ≠ 38 → μ2 k = μc k) (e38 : μ2 38 = g) (hV : ∃ n, VN g n) : Rel μ2 := by
  refine Rel_row (fun k a b => by rw [e2 k b, eX k a]) h ?_ (by rw [e38]; exact hV)
  rw [e38]
  exact RN_fr (fun k a b => e2 k (by omega)) hX
theorem bn_le {x : Int32} {a b : Nat} (h : a ≤ b) (q : bn x a) : bn x b := by
  obtain ⟨n, hn, e⟩ := q
  exact ⟨n, by omega, e⟩
theorem ite_imp {c : Prop} [Decidable c] {A B A' B' : Prop} (h1 : c → A → A') (h2 : ¬ c → B → B') : (if c then A else B) → (if c then A' else B') := by
  by_cases q : c
  · rw [if_pos q, if_pos q]; exact h1 q
  · rw [if_neg q, if_neg q]; exact h2 q
theorem ok_mono {n i : Nat} {x : Int32} (hi : i ≠ 4) (h : ok n i x) : ok (n + 1) i x := by
  have hp : 2 ^ n - 1 ≤ 2 ^ (n + 1) - 1 := by
    have : 2 ^ n ≤ 2 ^ (n + 1) := Nat.pow_le_pow_right (by decide) (by omega)
    omega
  revert h
  unfold ok
  refine ite_imp (fun _ h => h) (fun _ => ?_)
  refine ite_imp (fun _ h => h) (fun _ => ?_)
  refine ite_imp (fun _ h => h) (fun _ => ?_)
  refine ite_imp (fun _ h => h) (fun _ => ?_)
  refine ite_imp (fun q _ => absurd q hi) (fun _ => ?_)
  refine ite_imp (fun _ h => h) (fun _ => ?_)
  refine ite_imp (fun _ h => h.imp id (fun ⟨c, a, b⟩ => ⟨c, Nat.lt_succ_of_lt a, b⟩)) (fun _ => ?_)
  refine ite_imp (fun _ h => h) (fun _ => ?_)
  by_cases hq : i < 128
  · rw [if_pos hq, if_pos hq]
    refine ite_imp (fun _ h => h) (fun _ => ?_)
    exact ite_imp (fun _ h => h) (fun _ h => bn_le hp h)
  · rw [if_neg hq, if_neg hq]
    exact id
theorem o12 {μ : MM} {i : Nat} {v : Int32} : wst μ 2 i v 1 = μ 1 := wst_o (by decide)
theorem o13 {μ : MM} {i : Nat} {v : Int32} : wst μ 3 i v 1 = μ 1 := wst_o (by decide)
theorem o14 {μ : MM} {i : Nat} {v : Int32} : wst μ 4 i v 1 = μ 1 := wst_o (by decide)
theorem VN_more {g : Nat → Int32} {n : Nat} (h : VN g n) (hn : n < 8) {k hu hb : Int32} (hk : bn k 6) (hh : bn hu 99) (hhb : -15 ≤ hb.toInt ∧ hb.toInt ≤ 15) : VN (upd (upd (upd (upd g (128 + 3 * n) k) (128 + 3 * n + 1) hu) (128 + 3 * n + 2) hb) 4 (nI (n + 1))) (n + 1) := by
  have h1 : VN (upd (upd (upd g (128 + 3 * n) k) (128 + 3 * n + 1) hu) (128 + 3 * n + 2) hb) n := VN_upd (VN_upd (VN_upd h ((ok_cat hn k).1.mpr hk)) ((ok_cat hn hu).2.1.mpr hh)) ((ok_cat hn hb).2.2.mpr hhb)
  refine ⟨by omega, fun i hi => ?_⟩
  by_cases q : i = 4
  · subst q
    rw [upd_at]
    rfl
  · rw [upd_o q]
    exact ok_mono q (h1.2 i hi)
theorem addCat_s {n : Nat} (hn : n < 8) (k hu hb : Int32) (μ : MM) (hm : μ 1 0 = nI n) : f_X0_addCat k hu hb μ = some (nI n, wst (wst (wst (wst μ 2 n k) 3 n hu) 4 n hb) 1 0 (nI (n + 1))) := by
  unfold f_X0_addCat
  rw [if_pos (by rw [hm]; exact nI_lt (b := 8) hn (by decide))]
  simp only [o12, o13, o14, hm, sti_n hn (show 8 < 2 ^ 31 by decide), lt_s_, nI_1, wst_at, upd_at, nI_pred]
theorem comes_s {n : Nat} (hn : n < 8) (k hu hb : Int32) (μ : MM) (hm : μ 38 4 = nI n) : f_X5_comes k hu hb μ = some (nI n, wst (wst (wst (wst μ 38 (128 + 3 * n) k) 38 (128 + 3 * n + 1) hu) 38 (128 + 3 * n + 2) hb) 38 4 (nI (n + 1))) := by
  unfold f_X5_comes
  have k0 := at_s n 0
  have k1 := at_s n 1
  have k2 := at_s n 2
  rw [show (nI 0) = (0 : Int32) from rfl] at k0
  rw [show (nI 1) = (1 : Int32) from rfl] at k1
  rw [show (nI 2) = (2 : Int32) from rfl] at k2
  rw [ld38 μ 4 4 ⟨rfl, by decide⟩, hm, k0, bdr_s, sti_n (by omega) (by decide), k1, bdr_s, sti_n (by omega) (by decide), k2, bdr_s, sti_n (by omega) (by decide), ld38 _ 4 4 ⟨rfl, by decide⟩, st38 _ 4 _ 4 ⟨rfl, by decide⟩]
  rw [wst_at, upd_o (by omega), wst_at, upd_o (by omega), wst_at, upd_o (by omega), hm, nI_1]
  rfl
/-- a new cat on both sides -/
theorem Rel_cat {μ : MM} (h : Rel μ) {n : Nat} (hn : n < 8) (hV : VN (μ 38) n) {k hu hb : Int32} (hk : bn k 6) (hh : bn hu 99) (hhb : -15 ≤ hb.toInt ∧ hb.toInt ≤ 15) : Rel (wst (wst (wst (wst (wst (wst (wst (wst μ 2 n k) 3 n hu) 4 n hb) 1 0 (nI (n + 1))) 38 (128 + 3 * n) k) 38 (128 + 3 * n + 1) hu) 38 (128 + 3 * n + 2) hb) 38 4 (nI (n + 1))) := by
  obtain ⟨a1, a2, a3, a4, a5, a6⟩ := cl_k n
  have r1 := RN_upd (i := 128 + 3 * n) (by omega) k h.1
  rw [a1, a2] at r1
  have r2 := RN_upd (i := 128 + 3 * n + 1) (by omega) hu r1
  rw [a3, a4] at r2
  have r3 := RN_upd (i := 128 + 3 * n + 2) (by omega) hb r2
  rw [a5, a6] at r3
  have r4 := RN_upd (i := 4) (by omega) (nI (n + 1)) r3
  refine Rel_rows h r4 (fun q hq => ?_) (fun q hq => ?_) ?_ ⟨n + 1, VN_more hV hn hk hh hhb⟩
  · show wst (wst (wst (wst μ 2 n k) 3 n hu) 4 n hb) 1 0 (nI (n + 1)) q = μ q
    rw [wst_o (by omega), wst_o (by omega), wst_o (by omega), wst_o (by omega)]
  · show _ = wst (wst (wst (wst μ 2 n k) 3 n hu) 4 n hb) 1 0 (nI (n + 1)) q
    rw [wst_o hq, wst_o hq, wst_o hq, wst_o hq]
  · rw [wst_at, wst_at, wst_at, wst_at, wst_o (by decide), wst_o (by decide), wst_o (by decide), wst_o (by decide)]
theorem z15 : -15 ≤ (0 : Int32).toInt ∧ (0 : Int32).toInt ≤ 15 := by decide
theorem s_cat (a : Int32) : Two (f_X4_cat a) (f_X5_cat a) := by
  intro μ h
  obtain ⟨n, hn8, hn, hc, hcx⟩ := h.cats
  by_cases q : wi a 0 6 = 0
  · exact two_find h (-1000001) 0 (by decide) (by simp only [f_X4_cat, xKind, bdr_s, if_pos q, bdw_id]) (fun m hm => by simp only [f_X5_cat, mKind, bdr_s, if_pos q, bdw_id])
  by_cases e8 : n = 8
  · subst e8
    refine two_find h (-1000002) 1 (by decide) ?_ (fun m hm => ?_)
    · simp only [f_X4_cat, xKind, bdr_s, if_neg q, hcx, bdw_id]
      rw [if_neg (by decide)]
    · simp only [f_X5_cat, mKind, bdr_s, if_neg q, ld38 m 4 4 ⟨rfl, by decide⟩, hm 38 (by decide), hc, bdw_id]
      rw [if_pos (by decide)]
  · have h8 : n < 8 := by omega
    refine ⟨nI n, wst (wst (wst (wst μ 2 n a) 3 n 0) 4 n 0) 1 0 (nI (n + 1)), _, ?_, ?_, Rel_cat (hu := 0) h h8 hn (wi_n (N := 6) (by decide) q) ⟨0, by decide, rfl⟩ z15⟩
    · simp only [f_X4_cat, xKind, bdr_s, if_neg q, hcx, bdw_id]
      rw [if_pos (show nI n < (8 : Int32) from nI_lt (b := 8) h8 (by decide)), addCat_s h8 _ _ _ _ hcx]
    · have e38 : wst (wst (wst (wst μ 2 n a) 3 n 0) 4 n 0) 1 0 (nI (n + 1)) 38 4 = nI n := by
        rw [wst_o (by decide), wst_o (by decide), wst_o (by decide), wst_o (by decide)]
        exact hc
      simp only [f_X5_cat, mKind, bdr_s, if_neg q, ld38 _ 4 4 ⟨rfl, by decide⟩, e38, bdw_id]
      rw [if_neg (show ¬ nI n = (8 : Int32) from fun e => e8 ((nI_eq (b := 8) (by omega) (by decide)).mp e)), comes_s h8 _ _ _ _ e38]
theorem RN.cat1 {μ : MM} {g : Nat → Int32} (h : RN μ 1 g) {c : Nat} (hc : c < 8) : μ 2 c = g (128 + 3 * c) ∧ μ 3 c = g (128 + 3 * c + 1) ∧ μ 4 c = g (128 + 3 * c + 2) := h.cat hc
theorem RN.ship1 {μ : MM} {g : Nat → Int32} (h : RN μ 1 g) {s : Nat} (hs : s < 4) : μ 5 s = g (116 + 3 * s) ∧ μ 6 s = g (116 + 3 * s + 1) ∧ μ 7 s = g (116 + 3 * s + 2) := h.ship hs
theorem RN.isl1 {μ : MM} {g : Nat → Int32} (h : RN μ 1 g) {c : Nat} (hc : c < 100) : μ 8 c = g (16 + c) := h.isl hc
theorem RN.spot1 {μ : MM} {g : Nat → Int32} (h : RN μ 1 g) {k : Nat} (hk : k < 10) : μ 9 k = g (6 + k) := h.spot hk
theorem imin_99 {x : Int32} (h : bn x 99) : imin (x + 0) 99 = x := by
  obtain ⟨n, hn, rfl⟩ := h
  unfold imin
  rw [Int32.add_zero, if_neg (show ¬ (99 : Int32) < nI n from nI_nlt (a := 99) (b := n) hn (by decide))]
theorem s_of (a b : Int32) : Two (f_X4_of a b) (f_X5_of a b) := by
  intro μ h
  obtain ⟨n, hn8, hn, hc, hcx⟩ := h.cats
  by_cases q : wi a 0 (nI n - 1) = 0
  · exact two_find h (-1000001) 0 (by decide) (by simp only [f_X4_of, xCat, hcx, bdr_s, if_pos q, bdw_id]) (fun m hm => by simp only [f_X5_of, mCat, hm 38 (by decide), hc, bdr_s, if_pos q, bdw_id])
  obtain ⟨s, hs, rfl⟩ := cat_n hn8 q
  have hs8 : s < 8 := by omega
  obtain ⟨e1, e2, e3⟩ := h.1.cat1 hs8
  obtain ⟨n1, n2, n3, n4, n5, n6⟩ := h.1.num
  have k0 := catIs_s (f := 0) ⟨hs8, by decide⟩ μ
  have k1 := catIs_s (f := 1) ⟨hs8, by decide⟩ μ
  have k2 := catIs_s (f := 2) ⟨hs8, by decide⟩ μ
  rw [show (nI 0) = (0 : Int32) from rfl] at k0
  rw [show (nI 1) = (1 : Int32) from rfl] at k1
  rw [show (nI 2) = (2 : Int32) from rfl] at k2
  by_cases b0 : b = 0
  · subst b0
    refine ⟨μ 2 s, μ, μ, ?_, ?_, h⟩
    · simp only [f_X4_of, xCat, hcx, bdr_s, if_neg q, if_true, ldi_n hs8 (show 8 < 2 ^ 31 by decide)]
    · simp only [f_X5_of, mCat, hc, bdr_s, if_neg q, within_s, k0]
      rw [if_neg (by decide), if_neg (by decide)]
      simp [e1]
  by_cases b1 : b = 1
  · subst b1
    refine ⟨μ 3 s, μ, μ, ?_, ?_, h⟩
    · simp only [f_X4_of, xCat, hcx, bdr_s, if_neg q, if_true, c10, if_false, ldi_n hs8 (show 8 < 2 ^ 31 by decide)]
    · simp only [f_X5_of, mCat, hc, bdr_s, if_neg q, within_s, k1]
      rw [if_neg (by decide), if_neg (by decide)]
      simp [e2]
  by_cases b2 : b = 2
  · subst b2
    refine ⟨μ 4 s, μ, μ, ?_, ?_, h⟩
    · simp only [f_X4_of, xCat, hcx, bdr_s, if_neg q, if_true, c20, c21, if_false, ldi_n hs8 (show 8 < 2 ^ 31 by decide)]
    · simp only [f_X5_of, mCat, hc, bdr_s, if_neg q, within_s, k2]
      rw [if_neg (by decide), if_neg (by decide)]
      simp [e3]
  by_cases b3 : b = 3
  · subst b3
    refine ⟨er (μ 38 (128 + 3 * s)) (μ 38 (128 + 3 * s + 1)) (μ 38 (128 + 3 * s + 2)) (μ 38 3) (irm (μ 38 0) 16), μ, μ, ?_, ?_, h⟩
    · simp only [f_X4_of, xCat, hcx, bdr_s, if_neg q]
      rw [if_neg (by decide), if_neg (by decide), if_neg (by decide), if_pos trivial, errs_s hs8, bdr_s, e1, e2, e3, n3, n5, imin_99 (hn.cat hs8).2.1, Int32.add_zero]
    · simp only [f_X5_of, mCat, hc, bdr_s, if_neg q, within_s]
      rw [if_neg (by decide), if_pos (by decide), merrs_s hs8, bdr_s]
  · refine two_find h (-1000001) 0 (by decide) (by simp only [f_X4_of, xCat, hcx, bdr_s, if_neg q, if_neg b0, if_neg b1, if_neg b2, if_neg b3, bdw_id]) (fun m hm => ?_)
    have g : wi b 0 3 = 0 := Classical.byContradiction fun g => by
      obtain ⟨x, hx, rfl⟩ := wi_n (N := 3) (by decide) g
      rcases (by omega : x = 0 ∨ x = 1 ∨ x = 2 ∨ x = 3) with rfl | rfl | rfl | rfl
      · exact b0 rfl
      · exact b1 rfl
      · exact b2 rfl
      · exact b3 rfl
    simp only [f_X5_of, mCat, hm 38 (by decide), hc, bdr_s, if_neg q, within_s, if_pos g, bdw_id]
/-! ===== tear, wipe, drives, status ===== -/
theorem s_tear : Two f_X4_tear f_X5_tear := by
  intro μ h
  obtain ⟨h1, h2, h3, h4, h5, h6, h7⟩ := h
  have e : ∀ k, k ≠ 0 → k ≠ 37 → wst (wst μ 0 2 0) 37 3 0 k = μ k := fun k a b => by rw [wst_o b, wst_o a]
  refine ⟨if μ 37 3 = 0 then 0 else 1, wst μ 0 2 0, wst (wst μ 0 2 0) 37 3 0, ?_, ?_, ?_⟩
  · simp only [f_X4_tear, jn1_s, lt_s_, h3.1]
    rw [gd_t (by decide), gd_t (by decide)]
    by_cases q : μ 37 3 = 0
    · rw [if_pos q, if_pos q]
    · rw [if_neg q, if_neg q]
  · simp only [f_X5_tear, jn1_s, lt_s_, wst_o (show (37 : Nat) ≠ 0 by decide)]
    rw [gd_t (by decide), gd_t (by decide)]
    by_cases q : μ 37 3 = 0
    · rw [if_pos q, if_pos q]
    · rw [if_neg q, if_neg q]
  · refine ⟨?_, ?_, ⟨?_, Or.inl ?_⟩, RF_fr (e 34 (by decide) (by decide)) (e 41 (by decide) (by decide)) h4, RP_fr (by rw [e 19 (by decide) (by decide)]) ?_ (e 20 (by decide) (by decide)) (e 44 (by decide) (by decide)) h5, RS_fr (fun k a b => e k (by omega) (by omega)) (e 47 (by decide) (by decide)) (e 48 (by decide) (by decide)) (e 49 (by decide) (by decide)) h6, RC_fr (e 42 (by decide) (by decide)) (e 43 (by decide) (by decide)) h7⟩
    · rw [e 38 (by decide) (by decide)]
      exact RN_fr (fun k a b => e k (by omega) (by omega)) h1
    · rw [e 38 (by decide) (by decide)]
      exact h2
    · rw [wst_o (by decide), wst_at, wst_at, upd_at, upd_at]
    · rw [wst_at, upd_at]
    · rw [wst_at, upd_o (by decide), wst_o (by decide)]
theorem s_wipe : Two f_X4_wipe f_X5_wipe := by
  intro μ h
  obtain ⟨h1, h2, h3, h4, h5, h6, h7⟩ := h
  have e : ∀ k, k ≠ 19 → k ≠ 37 → wst (wst μ 19 1 0) 37 11 0 k = μ k := fun k a b => by rw [wst_o b, wst_o a]
  obtain ⟨n, hn, t1, t2, t3⟩ := h5
  refine ⟨nI n, wst μ 19 1 0, wst (wst μ 19 1 0) 37 11 0, ?_, ?_, ?_⟩
  · simp only [f_X4_wipe, lt_s_, t1]
  · simp only [f_X5_wipe, lt_s_, wst_o (show (37 : Nat) ≠ 19 by decide), t2]
  · refine ⟨?_, ?_, RK_fr (by rw [e 0 (by decide) (by decide)]) ?_ (fun k a b => e k (by omega) (by omega)) (e 39 (by decide) (by decide)) h3, RF_fr (e 34 (by decide) (by decide)) (e 41 (by decide) (by decide)) h4, ⟨0, by decide, ?_, ?_, fun i hi => absurd hi (Nat.not_lt_zero i)⟩, RS_fr (fun k a b => e k (by omega) (by omega)) (e 47 (by decide) (by decide)) (e 48 (by decide) (by decide)) (e 49 (by decide) (by decide)) h6, RC_fr (e 42 (by decide) (by decide)) (e 43 (by decide) (by decide)) h7⟩
    · rw [e 38 (by decide) (by decide)]
      exact RN_fr (fun k a b => e k (by omega) (by omega)) h1
    · rw [e 38 (by decide) (by decide)]
      exact h2
    · rw [wst_at, upd_o (by decide), wst_o (by decide)]
    · rw [wst_o (by decide), wst_at, upd_at]; rfl
    · rw [wst_at, upd_at]; rfl
