/-! ===== storms ===== -/
theorem ur8 (x : Int32) : ∃ k : Nat, k < 2 ^ 24 ∧ ur x 8 = nI k := by
  refine ⟨(x.toUInt32 >>> 8).toNat, ?_, ?_⟩
  · rw [UInt32.toNat_shiftRight]
    have h1 : x.toUInt32.toNat < 2 ^ 32 := x.toUInt32.toNat_lt
    rw [show (8 : UInt32).toNat % 32 = 8 from by decide, Nat.shiftRight_eq_div_pow]
    omega
  · unfold ur
    rw [show ((8 : Int32).toUInt32 &&& Int32.toUInt32 31) = (8 : UInt32) from by decide]
    apply Int32.toBitVec_inj.mp
    show (x.toUInt32 >>> 8).toBitVec = BitVec.ofNat 32 (x.toUInt32 >>> 8).toNat
    rw [← UInt32.toNat_toBitVec, BitVec.ofNat_toNat, BitVec.setWidth_eq]
def zN (z : Int32) : Int32 := z * 1103515245 + 12345
def wN (z : Int32) : Nat := (irm (ur z 8) 8).toNatClampNeg
theorem wN_s (z : Int32) : irm (ur z 8) 8 = nI (wN z) ∧ wN z < 8 := by
  obtain ⟨k, hk, e⟩ := ur8 z
  have e2 : irm (ur z 8) 8 = nI (k % 8) := by
    rw [e, show (8 : Int32) = nI 8 from rfl, irm_n (by omega) (by decide) (by decide)]
  unfold wN
  rw [e2, nI_clamp (by omega)]
  exact ⟨rfl, by omega⟩
/-- a SHIP's CELL -/
def at_ (g : Nat → Int32) (s : Nat) : Nat := (g (116 + 3 * s)).toNatClampNeg
theorem at_n {g : Nat → Int32} {n s : Nat} (hV : VW g n) (hs : s < 4) : g (116 + 3 * s) = nI (at_ g s) ∧ at_ g s < 100 := by
  obtain ⟨c, hc, e⟩ := (hV.ship hs).1
  unfold at_
  rw [e, nI_clamp (by omega)]
  exact ⟨rfl, by omega⟩
/-- one SHIP driven -/
def dr (g : Nat → Int32) (s : Nat) : Nat → Int32 := if g (16 + at_ g s) = 0 then upd (upd g 5 (zN (g 5))) (116 + 3 * s) (nI (bsd (at_ g s) (wN (zN (g 5))))) else g
def dj (g : Nat → Int32) : Nat → Nat → Int32
  | 0 => g
  | j + 1 => dr (dj g j) j
theorem VW_dr {g : Nat → Int32} {n s : Nat} (hV : VW g n) (hs : s < 4) : VW (dr g s) n := by
  unfold dr
  by_cases q : g (16 + at_ g s) = 0
  · rw [if_pos q]
    have := bsd_s (at_ g s) (at_n hV hs).2 (wN (zN (g 5))) (wN_s _).2
    exact VW_at (VW_upd hV (Or.inr (show ok n 5 _ from trivial))) hs (by omega)
  · rw [if_neg q]
    exact hV
theorem VW_dj {g : Nat → Int32} {n : Nat} (hV : VW g n) : ∀ j, j ≤ 4 → VW (dj g j) n
  | 0, _ => hV
  | j + 1, h => VW_dr (VW_dj hV j (by omega)) (by omega)
theorem dr_cong {g g' : Nat → Int32} {n s : Nat} (hV : VW g n) (hs : s < 4) (e : ∀ i, i < 152 → g' i = g i) : ∀ i, i < 152 → dr g' s i = dr g s i := by
  have ea : at_ g' s = at_ g s := by
    unfold at_
    rw [e _ (by omega)]
  have hp := (at_n hV hs).2
  intro i hi
  unfold dr
  rw [ea, e (16 + at_ g s) (by omega), e 5 (by decide)]
  by_cases q : g (16 + at_ g s) = 0
  · rw [if_pos q, if_pos q]
    by_cases y : i = 116 + 3 * s
    · subst y
      rw [upd_at, upd_at]
    · rw [upd_o y, upd_o y]
      by_cases y2 : i = 5
      · subst y2
        rw [upd_at, upd_at]
      · rw [upd_o y2, upd_o y2, e i hi]
  · rw [if_neg q, if_neg q, e i hi]
theorem dr_0 (g : Nat → Int32) {s : Nat} : dr g s 0 = g 0 := by
  unfold dr
  split
  · rw [upd_o (by omega), upd_o (by omega)]
  · rfl
theorem dj_0 (g : Nat → Int32) : ∀ j, dj g j 0 = g 0
  | 0 => rfl
  | j + 1 => (dr_0 _).trans (dj_0 g j)
theorem RN_5 {μ : MM} {g : Nat → Int32} {s : Nat} {v : Int32} (hs : s < 4) (hR : RN μ 1 g) : RN (wst μ 5 s v) 1 (upd g (116 + 3 * s) v) := by
  have h1 : 1 + cl (116 + 3 * s) = 5 := by
    unfold cl
    rw [if_neg (by omega), if_neg (by omega), if_neg (by omega), if_pos (by omega)]
    omega
  have h2 : ps (116 + 3 * s) = s := by
    unfold ps
    repeat rw [if_neg (by omega)]
    rw [if_pos (by omega)]
    omega
  have := RN_upd (μ := μ) (b := 1) (i := 116 + 3 * s) (by omega) v hR
  rw [h1, h2] at this
  exact this
theorem RN_z {μ : MM} {g : Nat → Int32} {v : Int32} (hR : RN μ 1 g) : RN (wst μ 1 12 v) 1 (upd g 5 v) := RN_upd (μ := μ) (b := 1) (i := 5) (by decide) v hR
/-- the class: one storm -/
theorem xStorm {μ : MM} {g : Nat → Int32} {n : Nat} (hV : VW g n) : ∀ (d i fu : Nat) (ν : MM), i + d = 4 → d < fu → (∀ k, k ≠ 1 → k ≠ 3 → k ≠ 5 → ν k = μ k) → RN ν 1 (dj g i) → ∃ ν', (∀ k, k ≠ 1 → k ≠ 3 → k ≠ 5 → ν' k = μ k) ∧ RN ν' 1 (wt (dj g 4) n 1) ∧ L_X0_passStorm_2 fu (nI i) ν = some ν' := by
  intro d
  induction d with
  | zero =>
    intro i fu ν hi hf h1 h2
    obtain ⟨f, rfl⟩ : ∃ f, fu = f + 1 := ⟨fu - 1, by omega⟩
    have e : i = 4 := by omega
    subst e
    have hv := VW_dj hV 4 (by decide)
    obtain ⟨ν', a1, a2, a3⟩ := xPass (m := 0) hv (by decide) (RN_cong (fun i hi => wt_0 hv hi) h2)
    exact ⟨ν', fun k x y z => (a2 k x y z).trans (h1 k x y z), a3, by rw [L_X0_passStorm_2, if_pos (show (4 : Int32) ≤ nI 4 by decide), a1, bdr_s]⟩
  | succ d ih =>
    intro i fu ν hi hf h1 h2
    obtain ⟨f, rfl⟩ : ∃ f, fu = f + 1 := ⟨fu - 1, by omega⟩
    have hv := VW_dj hV i (by omega)
    have hi4 : i < 4 := by omega
    obtain ⟨ec, hc⟩ := at_n hv hi4
    obtain ⟨ew, hw⟩ := wN_s (zN (dj g i 5))
    have hb := bsd_s _ hc _ hw
    rw [L_X0_passStorm_2, if_neg (ge_n (z := 4) (N := 4) rfl (by decide) hi4), xLdc h2 hv hi4 hc ec, bdr_s]
    simp only [jn1_s, lt_s_, nI_1]
    by_cases q : dj g i (16 + at_ (dj g i) i) = 0
    · rw [if_pos q, ldi_n hi4 (by decide), (h2.ship1 hi4).1, ec]
      unfold f_X0_draw
      rw [(h2.num).2.2.2.2.2, lt_s_, bdw_s]
      show ∃ ν', _ ∧ _ ∧ (bdr (f_X4_beside (nI (at_ (dj g i) i)) (irm (ur (wst ν 1 12 (zN (dj g i 5)) 1 12) 8) 8)) _) = _
      rw [wst_at, upd_at, ew, hb.1, bdr_s, sti_n (n := 4) (j := i) hi4 (by decide)]
      refine ih (i + 1) f _ (by omega) (by omega) (fun k x y z => by rw [wst_o z, wst_o x, h1 k x y z]) ?_
      show RN _ 1 (dr (dj g i) i)
      unfold dr
      rw [if_pos q]
      exact RN_5 hi4 (RN_z h2)
    · rw [if_neg q]
      refine ih (i + 1) f ν (by omega) (by omega) h1 ?_
      show RN _ 1 (dr (dj g i) i)
      unfold dr
      rw [if_neg q]
      exact h2
/-- the reference: one storm -/
theorem mStorm {μ : MM} {g : Nat → Int32} {n : Nat} (hV : VW g n) (hC : RC μ) (k1 : MM → Option (Int32 × MM)) : ∀ (d i fu : Nat) (ν : MM), i + d = 4 → d < fu → (∀ k, k ≠ 38 → ν k = μ k) → (∀ j, j < 152 → ν 38 j = dj g i j) → ∃ ν', (∀ k, k ≠ 38 → ν' k = μ k) ∧ (∀ j, j < 152 → ν' 38 j = dj g 4 j) ∧ L_X5_storms_46 k1 fu (nI i) ν = k1 ν' := by
  intro d
  induction d with
  | zero =>
    intro i fu ν hi hf h1 h2
    obtain ⟨f, rfl⟩ : ∃ f, fu = f + 1 := ⟨fu - 1, by omega⟩
    have e : i = 4 := by omega
    subst e
    exact ⟨ν, h1, h2, by rw [L_X5_storms_46, if_pos (show (4 : Int32) ≤ nI 4 by decide)]⟩
  | succ d ih =>
    intro i fu ν hi hf h1 h2
    obtain ⟨f, rfl⟩ : ∃ f, fu = f + 1 := ⟨fu - 1, by omega⟩
    have hv := VW_dj hV i (by omega)
    have hν : VW (ν 38) n := VW_cong (fun j hj _ => h2 j hj) hv
    have hi4 : i < 4 := by omega
    obtain ⟨ec, hc⟩ := at_n hv hi4
    obtain ⟨ew, hw⟩ := wN_s (zN (dj g i 5))
    have hb := bsd_s _ hc _ hw
    have ec' : ν 38 (116 + 3 * i) = nI (at_ (dj g i) i) := by rw [h2 _ (by omega), ec]
    rw [L_X5_storms_46, if_neg (ge_n (z := 4) (N := 4) rfl (by decide) hi4), mLanded hν hi4 hc ec', bdr_s, h2 (16 + at_ (dj g i) i) (by omega)]
    simp only [jn1_s, lt_s_, nI_1]
    by_cases q : dj g i (16 + at_ (dj g i) i) = 0
    · rw [if_pos q, atShip0, bdr_s, shipIs0 hi4, bdr_s, ec']
      unfold f_X5_drawn
      rw [ld38 ν 5 5 ⟨rfl, by decide⟩, h2 5 (by decide), show (5 : Int32) = nI 5 from rfl, sti_n (n := 152) (j := 5) (by decide) (by decide), ldi_n (show 5 < 152 by decide) (by decide), wst_at, upd_at, gd_t (by decide), bdw_s]
      show ∃ ν', _ ∧ _ ∧ (bdr (f_X5_beside (nI (at_ (dj g i) i)) (irm (ur (zN (dj g i 5)) 8) 8) (wst ν 38 5 (zN (dj g i 5)))) _) = _
      rw [ew, mBeside (RC_fr ((wst_o (by decide)).trans (h1 42 (by decide))) ((wst_o (by decide)).trans (h1 43 (by decide))) hC) hw, hb.1, bdr_s, sti_n (n := 152) (j := 116 + 3 * i) (by omega) (by decide)]
      refine ih (i + 1) f _ (by omega) (by omega) (fun k x => by rw [wst_o x, wst_o x, h1 k x]) (fun j hj => ?_)
      show _ = dr (dj g i) i j
      unfold dr
      rw [if_pos q, wst_at]
      by_cases y : j = 116 + 3 * i
      · subst y
        rw [upd_at, upd_at]
      · rw [upd_o y, upd_o y, wst_at]
        by_cases y2 : j = 5
        · subst y2
          rw [upd_at, upd_at]
          rfl
        · rw [upd_o y2, upd_o y2, h2 j hj]
    · rw [if_neg q]
      refine ih (i + 1) f ν (by omega) (by omega) h1 (fun j hj => ?_)
      show _ = dr (dj g i) i j
      unfold dr
      rw [if_neg q]
      exact h2 j hj
/-- the row behind k storms -/
def sN (n : Nat) (g : Nat → Int32) : Nat → Nat → Int32
  | 0 => g
  | k + 1 => wt (dj (sN n g k) 4) n 1
theorem VW_sN {g : Nat → Int32} {n : Nat} (hV : VW g n) : ∀ k, VW (sN n g k) n
  | 0 => hV
  | k + 1 => VW_wt (VW_dj (VW_sN hV k) 4 (by decide)) (by decide)
theorem sN_0 {g : Nat → Int32} {n w : Nat} (e : g 0 = nI w) : ∀ k, sN n g k 0 = nI (w + k)
  | 0 => e
  | k + 1 => by
    show wt (dj (sN n g k) 4) n 1 0 = _
    rw [wt_t, dj_0, sN_0 e k, nI_add]
    rfl
theorem xStorms {μ : MM} {g : Nat → Int32} {n N : Nat} (hV : VW g n) (hN : N < 4096) (k1 : MM → Option (Int32 × MM)) : ∀ (d i fu : Nat) (ν : MM), i + d = N → d < fu → (∀ k, k ≠ 1 → k ≠ 3 → k ≠ 5 → ν k = μ k) → RN ν 1 (sN n g i) → ∃ ν', (∀ k, k ≠ 1 → k ≠ 3 → k ≠ 5 → ν' k = μ k) ∧ RN ν' 1 (sN n g N) ∧ L_X4_storms_40 (nI N) k1 fu (nI i) ν = k1 ν' := by
  intro d
  induction d with
  | zero =>
    intro i fu ν hi hf h1 h2
    obtain ⟨f, rfl⟩ : ∃ f, fu = f + 1 := ⟨fu - 1, by omega⟩
    have e : i = N := by omega
    subst e
    exact ⟨ν, h1, h2, by rw [L_X4_storms_40, if_pos (Int32.le_refl _)]⟩
  | succ d ih =>
    intro i fu ν hi hf h1 h2
    obtain ⟨f, rfl⟩ : ∃ f, fu = f + 1 := ⟨fu - 1, by omega⟩
    obtain ⟨ν1, b1, b2, b3⟩ := xStorm (μ := μ) (VW_sN hV i) 4 0 FU ν (by omega) (by decide) h1 h2
    obtain ⟨ν', a1, a2, a3⟩ := ih (i + 1) f ν1 (by omega) (by omega) b1 b2
    refine ⟨ν', a1, a2, ?_⟩
    rw [L_X4_storms_40, if_neg (nI_ge (by omega) (by omega))]
    unfold f_X0_passStorm
    rw [show (0 : Int32) = nI 0 from rfl, b3, bdr_s, lt_s_, nI_1]
    exact a3
theorem mStorms {μ : MM} {g : Nat → Int32} {n N : Nat} (hV : VW g n) (hC : RC μ) (hN : N < 4096) : ∀ (d i fu : Nat) (ν : MM), i + d = N → d < fu → (∀ k, k ≠ 38 → ν k = μ k) → (∀ j, j < 152 → ν 38 j = sN n g i j) → ∃ ν', (∀ k, k ≠ 38 → ν' k = μ k) ∧ (∀ j, j < 152 → ν' 38 j = sN n g N j) ∧ L_X5_storms_39 (nI N) fu (nI i) ν = bdr (f_X5_landed ν') fun x4 => bdr (f_X5_bits x4) fun x5 => some (x5, ν') := by
  intro d
  induction d with
  | zero =>
    intro i fu ν hi hf h1 h2
    obtain ⟨f, rfl⟩ : ∃ f, fu = f + 1 := ⟨fu - 1, by omega⟩
    have e : i = N := by omega
    subst e
    exact ⟨ν, h1, h2, by rw [L_X5_storms_39, if_pos (Int32.le_refl _)]⟩
  | succ d ih =>
    intro i fu ν hi hf h1 h2
    obtain ⟨f, rfl⟩ : ∃ f, fu = f + 1 := ⟨fu - 1, by omega⟩
    have hv4 := VW_dj (VW_sN hV i) 4 (by decide)
    obtain ⟨ν1, b1, b2, b3⟩ := mStorm (μ := μ) (VW_sN hV i) hC (fun (m2 : MM) => bdr (f_X5_watch m2) fun m3 => lt_ (nI i + 1) fun x6 => L_X5_storms_39 (nI N) f x6 m3) 4 0 FU ν (by omega) (by decide) h1 h2
    obtain ⟨ν2, c1, c2, c3⟩ := mWatch (m := 0) hv4 (RC_fr (b1 42 (by decide)) (b1 43 (by decide)) hC) (by decide) (fun j hj => (b2 j hj).trans (wt_0 hv4 hj).symm)
    obtain ⟨ν', a1, a2, a3⟩ := ih (i + 1) f ν2 (by omega) (by omega) (fun k q => (c2 k q).trans (b1 k q)) c3
    refine ⟨ν', a1, a2, ?_⟩
    rw [L_X5_storms_39, if_neg (nI_ge (by omega) (by omega)), jn1_s]
    refine (show _ = _ from b3).trans ?_
    rw [c1, bdr_s, lt_s_, nI_1]
    exact a3
theorem s_storms (a : Int32) : Two (f_X4_storms a) (f_X5_storms a) := by
  intro μ h
  obtain ⟨n, hV0⟩ := h.2.1
  have hV := hV0.w
  obtain ⟨n1, n2, n3, n4, n5, n6⟩ := h.1.num
  obtain ⟨w, hw, ew⟩ := hV0.num.1
  by_cases q : wi a 1 20 = 0
  · exact two_find h (-1000001) 0 (by decide) (by simp only [f_X4_storms, isWithin_s, bdr_s, if_pos q, bdw_id]) (fun m _ => by simp only [f_X5_storms, within_s, bdr_s, if_pos q, bdw_id])
  obtain ⟨N, hN1, hN, rfl⟩ : ∃ N : Nat, 1 ≤ N ∧ N ≤ 20 ∧ a = nI N := by
    rw [wi_0, fa_lt', fa_lt', show (1 : Int32).toInt = 1 from by decide, show (20 : Int32).toInt = 20 from by decide] at q
    refine ⟨a.toInt.toNat, by omega, by omega, Int32.toInt_inj.mp ?_⟩
    rw [nI_toInt (by omega)]
    omega
  have exw : μ 1 11 = nI w := n5.trans ew
  by_cases g : w + N ≤ 99999
  · have hWT := VW_sN hV N
    obtain ⟨k, hk, ek⟩ := lsG_n (sN n (μ 38) N)
    obtain ⟨b, _, b1, b2⟩ := bits_n hk
    have c1 : (nI w : Int32) ≤ 99999 - nI N := by
      rw [show (99999 : Int32) = nI 99999 from rfl, pk_sub (by omega)]
      exact nI_le (by omega) (by omega)
    have c2 : nI w + nI N ≤ 99999 := by
      rw [nI_add]
      exact nI_le (b := 99999) g (by decide)
    obtain ⟨μ1, a1, a2, a3⟩ := xStorms (μ := μ) hV (show N < 4096 by omega) (fun (m1 : MM) => bdr (f_X0_landedShips m1) fun x2 => bdr (f_J6_bitCount_0f7a4 x2) fun x3 => some (x3, m1)) N 0 FU μ (by omega) (show N < 4096 by omega) (fun _ _ _ _ => rfl) h.1
    have e38 : μ1 38 = μ 38 := a1 38 (by decide) (by decide) (by decide)
    obtain ⟨μ2, d1, d2, d3⟩ := mStorms (μ := μ1) (g := μ 38) hV (RC_fr (a1 42 (by decide) (by decide) (by decide)) (a1 43 (by decide) (by decide) (by decide)) h.2.2.2.2.2.2) (show N < 4096 by omega) N 0 FU μ1 (by omega) (show N < 4096 by omega) (fun _ _ => rfl) (fun j hj => by rw [e38]; rfl)
    have hV2 : VW (μ2 38) n := VW_cong (fun i hi _ => d2 i hi) hWT
    refine ⟨nI b, μ1, μ2, ?_, ?_, ?_⟩
    · simp only [f_X4_storms, isWithin_s, bdr_s, if_neg q, exw, if_pos c1, jn1_s]
      refine (show _ = _ from a3).trans ?_
      rw [xLs a2 hWT, bdr_s, ek, b1, bdr_s]
    · simp only [f_X5_storms, within_s, bdr_s, if_neg q, ld38 μ1 0 0 ⟨rfl, by decide⟩, e38, ew, if_pos c2]
      refine (show _ = _ from d3).trans ?_
      rw [mLs hV2, lsG_cong hWT d2, bdr_s, ek, b2, bdr_s]
    · refine Rel_rows (μc := μ1) h (RN_cong d2 a2) (fun k hk => a1 k (by omega) (by omega) (by omega)) d1 rfl ⟨n, VN_of hV2 ?_⟩
      rw [d2 0 (by decide), sN_0 ew]
      exact ⟨w + N, g, rfl⟩
  · have c1 : ¬ (nI w : Int32) ≤ 99999 - nI N := by
      rw [show (99999 : Int32) = nI 99999 from rfl, pk_sub (by omega)]
      exact nI_ge (by omega) (by omega)
    have c2 : ¬ nI w + nI N ≤ 99999 := by
      rw [nI_add]
      exact nI_ge (a := 99999) (by omega) (by omega)
    exact two_find h (-1000005) 4 (by decide) (by simp only [f_X4_storms, isWithin_s, bdr_s, if_neg q, exw, if_neg c1, bdw_id]) (fun m hm => by simp only [f_X5_storms, within_s, bdr_s, if_neg q, ld38 m 0 0 ⟨rfl, by decide⟩, hm 38 (by decide), ew, if_neg c2, bdw_id])
