/-! ===== odds ===== -/
theorem halve (k1 : Int32 → Int32 → Option (Int32 × MM)) : ∀ (d i fx fm : Nat) (a : Int32), i + d = 3 → d < fx → d < fm → L_X4_odds_39 k1 fx a (nI (2 ^ d)) (nI i) = L_X5_odds_80 k1 fm a (nI (2 ^ d)) := by
  intro d
  induction d with
  | zero =>
    intro i fx fm a hi h1 h2
    obtain ⟨f, rfl⟩ : ∃ f, fx = f + 1 := ⟨fx - 1, by omega⟩
    obtain ⟨f', rfl⟩ : ∃ f, fm = f + 1 := ⟨fm - 1, by omega⟩
    have e : i = 3 := by omega
    subst e
    rw [L_X4_odds_39, L_X5_odds_80, if_pos (by decide), if_pos (by decide)]
  | succ d ih =>
    intro i fx fm a hi h1 h2
    obtain ⟨f, rfl⟩ : ∃ f, fx = f + 1 := ⟨fx - 1, by omega⟩
    obtain ⟨f', rfl⟩ : ∃ f, fm = f + 1 := ⟨fm - 1, by omega⟩
    have hp : 0 < 2 ^ d := Nat.pow_pos (by decide)
    have hp2 : 2 ^ d ≤ 2 ^ 2 := Nat.pow_le_pow_right (by decide) (by omega)
    have e2 : nI (2 ^ (d + 1)) / 2 = nI (2 ^ d) := by
      rw [show (2 : Int32) = nI 2 from rfl, pk_div (by rw [Nat.pow_succ]; omega) (by decide) (by decide), Nat.pow_succ, Nat.mul_div_cancel _ (by decide)]
    rw [L_X4_odds_39, L_X5_odds_80, if_neg (ge_n (z := 3) (N := 3) rfl (by decide) (by omega)), if_neg (show ¬ nI (2 ^ (d + 1)) ≤ 1 from fun z => by
      have := (le_nn (b := 1) (by rw [Nat.pow_succ]; omega) (by decide)).mp z
      rw [Nat.pow_succ] at this
      omega), lt_s_, lt_s_, lt_s_, lt_s_, lt_s_, e2, nI_1, ih (i + 1) f f' (a / 2) (by omega) (by omega) (by omega)]
theorem xLdc {μ : MM} {g : Nat → Int32} {n s c : Nat} (hR : RN μ 1 g) (hV : VW g n) (hs : s < 4) (hc : c < 100) (e : g (116 + 3 * s) = nI c) : f_X0_isLanded (nI s) μ = some (g (16 + c)) := by
  unfold f_X0_isLanded
  rw [ldi_n hs (by decide), (hR.ship1 hs).1, e, ldi_n hc (by decide), hR.isl1 hc, gd_t (hV.isl hc)]
theorem mIsl {μ : MM} {n c : Nat} (hV : VW (μ 38) n) (hc : c < 100) : f_X5_isIsland (nI c) μ = some (μ 38 (16 + c)) := by
  unfold f_X5_isIsland
  rw [show (16 : Int32) = nI 16 from rfl, nI_add, ldi_n (by omega) (by decide)]
  rcases hV.isl hc with e | e <;> rw [e] <;> rfl
def dl (g : Nat → Int32) (c : Nat) : Nat → Nat
  | 0 => 0
  | w + 1 => if g (16 + bsd c w) = 0 then dl g c w else dl g c w + 1
theorem s_odds (a b : Int32) : Two (f_X4_odds a b) (f_X5_odds a b) := by
  intro μ h
  obtain ⟨n, hV0⟩ := h.2.1
  have hV := hV0.w
  by_cases q : wi a 0 3 = 0
  · exact two_find h (-1000001) 0 (by decide) (by simp only [f_X4_odds, xShip, bdr_s, if_pos q, bdw_id]) (fun m _ => by simp only [f_X5_odds, mShip, bdr_s, if_pos q, bdw_id])
  by_cases q2 : wi b 0 1 = 0
  · exact two_find h (-1000001) 0 (by decide) (by simp only [f_X4_odds, xShip, isWithin_s, bdr_s, if_neg q, if_pos q2, bdw_id]) (fun m _ => by simp only [f_X5_odds, mShip, within_s, bdr_s, if_neg q, if_pos q2, bdw_id])
  obtain ⟨s, hs, rfl⟩ := wi_n (N := 3) (by decide) q
  have hs4 : s < 4 := by omega
  obtain ⟨c, hc, ec⟩ := (hV.ship hs4).1
  have hc100 : c < 100 := by omega
  obtain ⟨v, ev⟩ : ∃ v : Nat, v = if μ 38 (16 + c) = 0 then dl (μ 38) c 8 else 8 := ⟨_, rfl⟩
  generalize hk : (fun (x5 : Int32) (x6 : Int32) => if b = 0 then some (x5, μ) else some (x6, μ)) = k1
  have hx : f_X4_odds (nI s) b μ = L_X4_odds_39 k1 FU (nI v) 8 0 := by
    simp only [f_X4_odds, xShip, isWithin_s, bdr_s, if_neg q, if_neg q2, jn2_s, f_X0_drivesThatLand, xLdc h.1 hV hs4 hc100 ec]
    by_cases z : μ 38 (16 + c) = 0
    · rw [if_pos z] at ev ⊢
      have H : ∀ (d i fu : Nat), i + d = 8 → d < fu → L_X0_drivesThatLand_15 (nI s) μ fu (nI (dl (μ 38) c i)) (nI i) = some (nI (dl (μ 38) c 8)) := by
        intro d
        induction d with
        | zero =>
          intro i fu hi hf
          obtain ⟨f, rfl⟩ : ∃ f, fu = f + 1 := ⟨fu - 1, by omega⟩
          have e : i = 8 := by omega
          subst e
          rw [L_X0_drivesThatLand_15, if_pos (show (8 : Int32) ≤ nI 8 by decide)]
        | succ d ih =>
          intro i fu hi hf
          obtain ⟨f, rfl⟩ : ∃ f, fu = f + 1 := ⟨fu - 1, by omega⟩
          have hb := bsd_s c hc100 i (by omega)
          rw [L_X0_drivesThatLand_15, if_neg (ge_n (z := 8) (N := 8) rfl (by decide) (by omega)), ldi_n hs4 (by decide), (h.1.ship1 hs4).1, ec, hb.1, bdr_s, ldi_n hb.2 (by decide), h.1.isl1 hb.2, ← ih (i + 1) f (by omega) (by omega)]
          simp only [jn1_s, lt_s_, nI_1]
          show _ = L_X0_drivesThatLand_15 (nI s) μ f (nI (if μ 38 (16 + bsd c i) = 0 then dl (μ 38) c i else dl (μ 38) c i + 1)) (nI (i + 1))
          split <;> rfl
      rw [show (0 : Int32) = nI 0 from rfl, show L_X0_drivesThatLand_15 (nI s) μ FU (nI 0) (nI 0) = some (nI (dl (μ 38) c 8)) from H 8 0 FU (by omega) (by decide), bdr_s, ev, ← hk]
      rfl
    · rw [if_neg z] at ev ⊢
      rw [bdr_s, ev, ← hk]
      rfl
  have hm : f_X5_odds (nI s) b μ = L_X5_odds_80 k1 FU (nI v) 8 := by
    simp only [f_X5_odds, mShip, within_s, bdr_s, if_neg q, if_neg q2, jn2_s, jn1_s]
    rw [hk]
    have H : ∀ (d i fu : Nat), i + d = 8 → d < fu → L_X5_odds_28 (nI s) μ (fun x4 => L_X5_odds_80 k1 FU x4 8) fu (nI (if μ 38 (16 + c) = 0 then dl (μ 38) c i else i)) (nI i) = L_X5_odds_80 k1 FU (nI v) 8 := by
      intro d
      induction d with
      | zero =>
        intro i fu hi hf
        obtain ⟨f, rfl⟩ : ∃ f, fu = f + 1 := ⟨fu - 1, by omega⟩
        have e : i = 8 := by omega
        subst e
        rw [L_X5_odds_28, if_pos (show (8 : Int32) ≤ nI 8 by decide), ev]
      | succ d ih =>
        intro i fu hi hf
        obtain ⟨f, rfl⟩ : ∃ f, fu = f + 1 := ⟨fu - 1, by omega⟩
        have hb := bsd_s c hc100 i (by omega)
        rw [L_X5_odds_28, if_neg (ge_n (z := 8) (N := 8) rfl (by decide) (by omega)), mLanded hV hs4 hc100 ec, bdr_s, ← ih (i + 1) f (by omega) (by omega)]
        simp only [jn1_s, jn0_s, lt_s_, nI_1, shipIs0 hs4, bdr_s]
        rw [ec, mBeside h.2.2.2.2.2.2 (by omega), hb.1, bdr_s, mIsl hV hb.2, bdr_s]
        by_cases z : μ 38 (16 + c) = 0
        · rw [if_pos z, if_pos z, if_pos z]
          show _ = L_X5_odds_28 (nI s) μ (fun x4 => L_X5_odds_80 k1 FU x4 8) f (nI (if μ 38 (16 + bsd c i) = 0 then dl (μ 38) c i else dl (μ 38) c i + 1)) (nI (i + 1))
          by_cases z2 : μ 38 (16 + bsd c i) = 0
          · rw [if_pos z2, if_pos z2, Int32.add_zero]
          · rw [if_neg z2, if_neg z2]
        · rw [if_neg z, if_neg z, if_neg z]
    have := H 8 0 FU (by omega) (by decide)
    rw [show (if μ 38 (16 + c) = 0 then dl (μ 38) c 0 else 0) = 0 from by split <;> rfl] at this
    exact this
  have hh : L_X4_odds_39 k1 FU (nI v) 8 0 = L_X5_odds_80 k1 FU (nI v) 8 := halve k1 3 0 FU FU (nI v) (by omega) (by decide) (by decide)
  have hr : ∃ r, L_X5_odds_80 k1 FU (nI v) 8 = some (r, μ) := by
    have G : ∀ (d fu : Nat) (a : Int32), d < fu → ∃ r, L_X5_odds_80 k1 fu a (nI (2 ^ d)) = some (r, μ) ∨ 3 < d := by
      intro d
      induction d with
      | zero =>
        intro fu a hf
        obtain ⟨f, rfl⟩ : ∃ f, fu = f + 1 := ⟨fu - 1, by omega⟩
        rw [L_X5_odds_80, if_pos (by decide), ← hk]
        show ∃ r, (if b = 0 then some (a, μ) else some (nI (2 ^ 0), μ)) = _ ∨ _
        by_cases z : b = 0
        · exact ⟨a, Or.inl (if_pos z)⟩
        · exact ⟨_, Or.inl (if_neg z)⟩
      | succ d ih =>
        intro fu a hf
        obtain ⟨f, rfl⟩ : ∃ f, fu = f + 1 := ⟨fu - 1, by omega⟩
        by_cases y : 3 < d + 1
        · exact ⟨0, Or.inr y⟩
        have hp : 0 < 2 ^ d := Nat.pow_pos (by decide)
        have hp2 : 2 ^ d ≤ 2 ^ 2 := Nat.pow_le_pow_right (by decide) (by omega)
        have e2 : nI (2 ^ (d + 1)) / 2 = nI (2 ^ d) := by
          rw [show (2 : Int32) = nI 2 from rfl, pk_div (by rw [Nat.pow_succ]; omega) (by decide) (by decide), Nat.pow_succ, Nat.mul_div_cancel _ (by decide)]
        rw [L_X5_odds_80, if_neg (show ¬ nI (2 ^ (d + 1)) ≤ 1 from fun z => by
          have := (le_nn (b := 1) (by rw [Nat.pow_succ]; omega) (by decide)).mp z
          rw [Nat.pow_succ] at this
          omega), lt_s_, lt_s_, e2]
        by_cases z : irm a 2 = 0
        · rw [if_pos z]
          obtain ⟨r, e⟩ := ih f (a / 2) (by omega)
          exact ⟨r, e.elim Or.inl (fun x => Or.inr (by omega))⟩
        · rw [if_neg z, ← hk]
          show ∃ r, (if b = 0 then some (a, μ) else some (nI (2 ^ (d + 1)), μ)) = _ ∨ _
          by_cases z : b = 0
          · exact ⟨a, Or.inl (if_pos z)⟩
          · exact ⟨_, Or.inl (if_neg z)⟩
    obtain ⟨r, e⟩ := G 3 FU (nI v) (by decide)
    exact ⟨r, e.elim id (fun x => absurd x (by decide))⟩
  obtain ⟨r, er⟩ := hr
  exact two_val h r (hx.trans (hh.trans er)) (hm.trans er)
