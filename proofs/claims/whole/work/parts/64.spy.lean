/-! ===== spy ===== -/
theorem mkB {β : Type} {B : Nat} (hB : B < 2 ^ 31) {c : Nat → Nat} (z : Int32) (v : Nat) (hc : ∀ x, x ≤ v → c x ≤ B) (F : Int32 → Option β) : (if nI (c v) ≤ nf (mk c v) then F (nb z (mk c v)) else F (nI v)) = F (nb z (mk c (v + 1))) ∧ (if nI (c v) ≤ nf (mk c v) then nf (mk c v) else nI (c v)) = nf (mk c (v + 1)) ∧ imax (nf (mk c v)) (nI (c v)) = nf (mk c (v + 1)) := by
  have hv := hc v (Nat.le_refl _)
  unfold imax
  cases v with
  | zero =>
    show (if nI (c 0) ≤ -1 then _ else _) = F (nI 0) ∧ (if nI (c 0) ≤ -1 then _ else _) = nI (c 0) ∧ (if -1 < nI (c 0) then _ else _) = nI (c 0)
    have h0 : ¬ nI (c 0) ≤ -1 := by
      rw [Int32.le_iff_toInt_le, nI_toInt (by omega), show ((-1 : Int32)).toInt = -1 from by decide]
      omega
    rw [if_neg h0, if_neg h0, if_pos (Int32.not_le.mp h0)]
    exact ⟨rfl, rfl, rfl⟩
  | succ v =>
    obtain ⟨x, e, h1, h2⟩ := mk_s c v
    have hx : x.2 ≤ B := by rw [h2]; exact hc _ (by omega)
    have e2 : mk c (v + 1 + 1) = if x.2 < c (v + 1) then some (v + 1, c (v + 1)) else some x := by
      show (match mk c (v + 1) with
        | none => some (v + 1, c (v + 1))
        | some x => if x.2 < c (v + 1) then some (v + 1, c (v + 1)) else some x) = _
      rw [e]
    rw [e2, e]
    by_cases q : x.2 < c (v + 1)
    · rw [if_pos q]
      show (if nI (c (v + 1)) ≤ nI x.2 then _ else _) = F (nI (v + 1)) ∧ (if nI (c (v + 1)) ≤ nI x.2 then _ else _) = nI (c (v + 1)) ∧ (if nI x.2 < nI (c (v + 1)) then _ else _) = nI (c (v + 1))
      rw [if_neg (by rw [le_nn (by omega) (by omega)]; omega), if_neg (by rw [le_nn (by omega) (by omega)]; omega), if_pos (by rw [lt_n (by omega) (by omega)]; omega)]
      exact ⟨rfl, rfl, rfl⟩
    · rw [if_neg q]
      show (if nI (c (v + 1)) ≤ nI x.2 then _ else _) = F (nI x.1) ∧ (if nI (c (v + 1)) ≤ nI x.2 then _ else _) = nI x.2 ∧ (if nI x.2 < nI (c (v + 1)) then _ else _) = nI x.2
      rw [if_pos (by rw [le_nn (by omega) (by omega)]; omega), if_pos (by rw [le_nn (by omega) (by omega)]; omega), if_neg (by rw [lt_n (by omega) (by omega)]; omega)]
      exact ⟨rfl, rfl, rfl⟩
theorem mk_cong {c c' : Nat → Nat} : ∀ {M : Nat}, (∀ v, v < M → c v = c' v) → mk c M = mk c' M
  | 0, _ => rfl
  | M + 1, h => by
    show (match mk c M with
      | none => some (M, c M)
      | some x => if x.2 < c M then some (M, c M) else some x) = (match mk c' M with
      | none => some (M, c' M)
      | some x => if x.2 < c' M then some (M, c' M) else some x)
    rw [mk_cong (fun v hv => h v (by omega)), h M (by omega)]
theorem VW_kind {g : Nat → Int32} {n c v : Nat} (hV : VW g n) (hc : c < 8) (hv : v ≤ 6) : VW (upd g (128 + 3 * c) (nI v)) n := VW_upd hV (Or.inr ((ok_cat hc _).1.mpr ⟨v, hv, rfl⟩))
theorem RN_kind {μ m : MM} {g : Nat → Int32} {c : Nat} {v : Int32} (hc : c < 8) (hR : RN μ 1 g) (e : ∀ k, k ≠ 2 → m k = μ k) (e2 : ∀ x, x ≠ c → m 2 x = μ 2 x) (e3 : m 2 c = v) : RN m 1 (upd g (128 + 3 * c) v) := by
  intro i hi
  by_cases q : i = 128 + 3 * c
  · subst q
    have h1 : cl (128 + 3 * c) = 1 := by
      unfold cl
      repeat rw [if_neg (by omega)]
      omega
    have h2 : ps (128 + 3 * c) = c := by
      unfold ps
      repeat rw [if_neg (by omega)]
      omega
    rw [h1, h2, upd_at, e3]
  · rw [upd_o q, ← hR i hi]
    by_cases q2 : 1 + cl i = 2
    · rw [q2, e2]
      intro hp
      have h1 : ¬ i < 128 := by
        intro z
        unfold cl at q2
        split at q2
        · omega
        · split at q2
          · omega
          · split at q2
            · omega
            · omega
      have h2 : cl i = 1 + (i - 128) % 3 := by
        unfold cl
        repeat rw [if_neg (by omega)]
      have h3 : ps i = (i - 128) / 3 := by
        unfold ps
        repeat rw [if_neg (by omega)]
      omega
    · rw [e _ q2]
theorem xSpy {μ : MM} {g : Nat → Int32} {n s c N due : Nat} (hR : RN μ 1 g) (hV : VW g n) (hs : s < 4) (hc : c < 8) (hN : N < 4096) (hd : due < 100) (k1 : Int32 → MM → Option (Int32 × MM)) : ∀ (d i fu : Nat) (m : MM), i + d = 7 → d < fu → (∀ k, k ≠ 2 → m k = μ k) → (∀ x, x ≠ c → m 2 x = μ 2 x) → ∃ m', L_X4_spy_86 (nI s) (nI c) (nI N) (nI due) k1 fu (nb 0 (mk (fun v => dst due (pos (upd g (128 + 3 * c) (nI v)) n s N)) i)) (nf (mk (fun v => dst due (pos (upd g (128 + 3 * c) (nI v)) n s N)) i)) (nI i) m = k1 (nb 0 (mk (fun v => dst due (pos (upd g (128 + 3 * c) (nI v)) n s N)) 7)) m' ∧ (∀ k, k ≠ 2 → m' k = μ k) ∧ (∀ x, x ≠ c → m' 2 x = μ 2 x) := by
  intro d
  induction d with
  | zero =>
    intro i fu m hi hf h1 h2
    obtain ⟨f, rfl⟩ : ∃ f, fu = f + 1 := ⟨fu - 1, by omega⟩
    have e : i = 7 := by omega
    subst e
    exact ⟨m, by rw [L_X4_spy_86, if_pos (show (7 : Int32) ≤ nI 7 by decide)], h1, h2⟩
  | succ d ih =>
    intro i fu m hi hf h1 h2
    obtain ⟨f, rfl⟩ : ∃ f, fu = f + 1 := ⟨fu - 1, by omega⟩
    have hv := VW_kind (v := i) hV hc (by omega)
    have h1' : ∀ k, k ≠ 2 → wst m 2 c (nI i) k = μ k := fun k hk => (wst_o hk).trans (h1 k hk)
    have h2' : ∀ x, x ≠ c → wst m 2 c (nI i) 2 x = μ 2 x := fun x hx => by rw [wst_at, upd_o hx, h2 x hx]
    have hr : RN (wst m 2 c (nI i)) 1 (upd g (128 + 3 * c) (nI i)) := RN_kind hc hR h1' h2' (by rw [wst_at, upd_at])
    have hp := pos_lt hv hs N
    obtain ⟨m', a1, a2, a3⟩ := ih (i + 1) f (wst m 2 c (nI i)) (by omega) (by omega) h1' h2'
    refine ⟨m', ?_, a2, a3⟩
    have hb : ∀ v, v ≤ i → dst due (pos (upd g (128 + 3 * c) (nI v)) n s N) ≤ 18 := fun v hv => (dst_s due hd _ (pos_lt (VW_kind (v := v) hV hc (by omega)) hs N)).2
    obtain ⟨q1, q2, q3⟩ := mkB (β := Int32 × MM) (B := 18) (by decide) (c := fun v => dst due (pos (upd g (128 + 3 * c) (nI v)) n s N)) 0 i hb (fun x => L_X4_spy_86 (nI s) (nI c) (nI N) (nI due) k1 f x (nf (mk (fun v => dst due (pos (upd g (128 + 3 * c) (nI v)) n s N)) (i + 1))) (nI (i + 1)) (wst m 2 c (nI i)))
    rw [L_X4_spy_86, if_neg (ge_n (z := 7) (N := 7) rfl (by decide) (by omega)), sti_n (n := 8) (j := c) hc (by decide), cellBehind_s hr hv hN hs, bdr_s, (dst_s due hd _ hp).1, bdr_s]
    simp only [jn2_s, lt_s_, nI_1]
    rw [← a1, ← q1]
    by_cases y : nI (dst due (pos (upd g (128 + 3 * c) (nI i)) n s N)) ≤ nf (mk (fun v => dst due (pos (upd g (128 + 3 * c) (nI v)) n s N)) i)
    · rw [if_pos y] at q2 ⊢
      rw [if_pos y, q2]
    · rw [if_neg y] at q2 ⊢
      rw [if_neg y, q2]
theorem mSpy {μ0 : MM} {n s c N due : Nat} (hV : VW (μ0 38) n) (hC : RC μ0) (hs : s < 4) (hc : c < 8) (hN : N < 4096) (hd : due < 100) (k1 : Int32 → MM → Option (Int32 × MM)) : ∀ (d i fu : Nat) (m : MM), i + d = 7 → d < fu → Thq (fun x => x = 128 + 3 * c) μ0 m → ∃ m', L_X5_spy_77 (nI s) (nI c) (nI N) (nI due) k1 fu (nb (-1) (mk (fun v => dst due (pos (upd (μ0 38) (128 + 3 * c) (nI v)) n s N)) i)) (nf (mk (fun v => dst due (pos (upd (μ0 38) (128 + 3 * c) (nI v)) n s N)) i)) (nI i) m = k1 (nb (-1) (mk (fun v => dst due (pos (upd (μ0 38) (128 + 3 * c) (nI v)) n s N)) 7)) m' ∧ Thq (fun x => x = 128 + 3 * c) μ0 m' := by
  intro d
  induction d with
  | zero =>
    intro i fu m hi hf hm
    obtain ⟨f, rfl⟩ : ∃ f, fu = f + 1 := ⟨fu - 1, by omega⟩
    have e : i = 7 := by omega
    subst e
    exact ⟨m, by rw [L_X5_spy_77, if_pos (show (6 : Int32) < nI 7 by decide)], hm⟩
  | succ d ih =>
    intro i fu m hi hf hm
    obtain ⟨f, rfl⟩ : ∃ f, fu = f + 1 := ⟨fu - 1, by omega⟩
    have hv := VW_kind (v := i) hV hc (by omega)
    have e38 := row_at hm (fun x hx => hx) (nI i)
    obtain ⟨m6, e1, b6⟩ := aheadOf_s (μ0 := wst m 38 (128 + 3 * c) (nI i)) (n := n) (N := N) (s := s) (VW_cong (fun j hj _ => e38 j hj) hv) (RC_fr (wst_o (by decide)) (wst_o (by decide)) (hm.rc hC)) hN hs
    rw [pos_cong hv hs e38] at e1
    have hp := pos_lt hv hs N
    have hb : ∀ v, v ≤ i → dst due (pos (upd (μ0 38) (128 + 3 * c) (nI v)) n s N) ≤ 18 := fun v hv => (dst_s due hd _ (pos_lt (VW_kind (v := v) hV hc (by omega)) hs N)).2
    obtain ⟨q1, q2, q3⟩ := mkB (β := Int32 × MM) (B := 18) (by decide) (c := fun v => dst due (pos (upd (μ0 38) (128 + 3 * c) (nI v)) n s N)) (-1) i hb (fun x => L_X5_spy_77 (nI s) (nI c) (nI N) (nI due) k1 f x (nf (mk (fun v => dst due (pos (upd (μ0 38) (128 + 3 * c) (nI v)) n s N)) (i + 1))) (nI (i + 1)) m6)
    obtain ⟨m', a1, a2⟩ := ih (i + 1) f m6 (by omega) (by omega) (hm.tr ((thq38 (q := fun x => x = 128 + 3 * c) rfl).tr b6.thk.q))
    refine ⟨m', ?_, a2⟩
    rw [← a1, L_X5_spy_77, if_neg (show ¬ (6 : Int32) < nI i from nI_nlt (a := 6) (b := i) (by omega) (by decide)), at0, bdr_s, sti_n (n := 152) (j := 128 + 3 * c) (by omega) (by decide), e1, bdw_s, apart_s hd hp, bdr_s]
    simp only [jn1_s, lt_s_, nI_1]
    rw [q3]
    exact q1
theorem s_spy (a b v : Int32) : Two (f_X4_spy a b v) (f_X5_spy a b v) := by
  intro μ h
  obtain ⟨n, hn8, hn, hc, hcx⟩ := h.cats
  have hV := hn.w
  by_cases q : wi a 0 3 = 0
  · exact two_find h (-1000001) 0 (by decide) (by simp only [f_X4_spy, xShip, bdr_s, if_pos q, bdw_id]) (fun m hm => by simp only [f_X5_spy, mShip, bdr_s, if_pos q, bdw_id])
  by_cases q2 : wi b 0 (nI n - 1) = 0
  · exact two_find h (-1000001) 0 (by decide) (by simp only [f_X4_spy, xShip, xCat, hcx, bdr_s, if_neg q, if_pos q2, bdw_id]) (fun m hm => by simp only [f_X5_spy, mShip, mCat, hm 38 (by decide), hc, bdr_s, if_neg q, if_pos q2, bdw_id])
  by_cases q3 : wi v 0 40 = 0
  · exact two_find h (-1000001) 0 (by decide) (by simp only [f_X4_spy, xShip, xCat, hcx, isWithin_s, bdr_s, if_neg q, if_neg q2, if_pos q3, bdw_id]) (fun m hm => by simp only [f_X5_spy, mShip, mCat, hm 38 (by decide), hc, within_s, bdr_s, if_neg q, if_neg q2, if_pos q3, bdw_id])
  obtain ⟨s, hs, rfl⟩ := wi_n (N := 3) (by decide) q
  have hs4 : s < 4 := by omega
  obtain ⟨c, hcn, rfl⟩ := cat_n hn8 q2
  have hc8 : c < 8 := by omega
  obtain ⟨N, hN, rfl⟩ := wi_n (N := 40) (by decide) q3
  have L7 : ∀ {β : Type} (f : Int32 → Option β), ldi μ 7 4 (nI s) f = f (μ 38 (116 + 3 * s + 2)) := fun f => by rw [ldi_n hs4 (by decide), (h.1.ship1 hs4).2.2]
  by_cases q4 : sr (μ 38 (116 + 3 * s + 2)) (nI c) &&& 1 = 0
  · exact two_find h (-1000005) 4 (by decide) (by simp only [f_X4_spy, xShip, xCat, hcx, isWithin_s, bdr_s, if_neg q, if_neg q2, if_neg q3, L7, isIn_s, if_pos q4, bdw_id]) (fun m hm => by simp only [f_X5_spy, mShip, mCat, hm 38 (by decide), hc, within_s, bdr_s, if_neg q, if_neg q2, if_neg q3, shipIs2 hs4, has_s, if_pos q4, bdw_id])
  have hN4 : N < 4096 := by omega
  have hdue := pos_lt hV hs4 N
  obtain ⟨m', a1, a2, a3⟩ := xSpy h.1 hV hs4 hc8 hN4 hdue (fun (x10 : Int32) (m3 : MM) => sti m3 2 8 (nI c) (μ 2 c) fun m4 => some (x10, m4)) 7 0 FU μ (by omega) (by decide) (fun _ _ => rfl) (fun _ _ => rfl)
  have em : wst m' 2 c (μ 2 c) = μ := by
    funext k
    by_cases y : k = 2
    · subst y
      rw [wst_at]
      funext x
      by_cases z : x = c
      · subst z
        rw [upd_at]
      · rw [upd_o z, a3 x z]
    · rw [wst_o y, a2 k y]
  obtain ⟨m1, b1, b2⟩ := aheadOf_s (μ0 := μ) (n := n) (N := N) (s := s) hV h.2.2.2.2.2.2 hN4 hs4
  have hV1 : VW (m1 38) n := VW_cong (fun i hi _ => b2.2 i hi) hV
  obtain ⟨m2, c1, c2⟩ := mSpy (μ0 := m1) (due := pos (μ 38) n s N) hV1 (RC_fr (b2.1 42 (by decide) (by decide)) (b2.1 43 (by decide) (by decide)) h.2.2.2.2.2.2) hs4 hc8 hN4 hdue (fun (x10 : Int32) (m4 : MM) => bdr (f_X5_at (nI c) 0) fun x11 => sti m4 38 152 x11 (m1 38 (128 + 3 * c)) fun m5 => some (x10, m5)) 7 0 FU m1 (by omega) (by decide) (Thq_rfl _ _)
  have ek : mk (fun v => dst (pos (μ 38) n s N) (pos (upd (m1 38) (128 + 3 * c) (nI v)) n s N)) 7 = mk (fun v => dst (pos (μ 38) n s N) (pos (upd (μ 38) (128 + 3 * c) (nI v)) n s N)) 7 := by
    refine mk_cong (fun v hv => ?_)
    have := pos_cong (g := upd (μ 38) (128 + 3 * c) (nI v)) (g' := upd (m1 38) (128 + 3 * c) (nI v)) (n := n) (s := s) (VW_kind hV hc8 (by omega)) hs4 (fun i hi => by
      by_cases y : i = 128 + 3 * c
      · subst y
        rw [upd_at, upd_at]
      · rw [upd_o y, upd_o y, b2.2 i hi]) N
    show dst _ (pos _ n s N) = dst _ (pos _ n s N)
    rw [this]
  obtain ⟨x, ex, h1, h2⟩ := mk_s (fun v => dst (pos (μ 38) n s N) (pos (upd (μ 38) (128 + 3 * c) (nI v)) n s N)) 6
  refine two_thk (μ1 := μ) (μ2 := wst m2 38 (128 + 3 * c) (m1 38 (128 + 3 * c))) h (nI x.1) ?_ (Thk_rfl μ) ?_ ?_
  · simp only [f_X4_spy, xShip, xCat, hcx, isWithin_s, bdr_s, if_neg q, if_neg q2, if_neg q3, L7, isIn_s, if_neg q4]
    rw [ldi_n hc8 (by decide), cellBehind_s h.1 hV hN4 hs4, bdr_s, jn2_s]
    refine (show _ = _ from a1).trans ?_
    rw [sti_n (n := 8) (j := c) hc8 (by decide), em, ex]
    rfl
  · simp only [f_X5_spy, mShip, mCat, hc, within_s, bdr_s, if_neg q, if_neg q2, if_neg q3, shipIs2 hs4, has_s, if_neg q4, b1, bdw_s, catIs0 hc8, jn2_s]
    refine (show _ = _ from c1).trans ?_
    rw [at0, bdr_s, sti_n (n := 152) (j := 128 + 3 * c) (by omega) (by decide), ek, ex]
    rfl
  · refine Thq.tr b2.thk ⟨fun k hk => ?_, by rw [wst_o (by decide), c2.2.1], by rw [wst_o (by decide), c2.2.2.1], fun i hi _ => ?_⟩
    · rw [wst_o (fun e => hk (by rw [e]; unfold fre; omega)), c2.1 k hk]
    · rw [wst_at]
      by_cases y : i = 128 + 3 * c
      · subst y
        rw [upd_at]
      · rw [upd_o y, c2.2.2.2 i hi y]
