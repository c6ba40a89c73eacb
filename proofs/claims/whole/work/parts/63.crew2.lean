/-! ===== crew, mean, better ===== -/
def oC (g : Nat → Int32) (n k a : Nat) : Option Nat := if Cn (bi a) 8 = k then some (ea g n a) else none
theorem oC_b {g : Nat → Int32} {n k : Nat} (hV : VW g n) (v z : Nat) (h : oC g n k v = some z) : z ≤ 800 ∧ z = ea g n v ∧ Cn (bi v) 8 = k := by
  unfold oC at h
  by_cases q : Cn (bi v) 8 = k
  · rw [if_pos q] at h
    have := Option.some.inj h
    subst this
    exact ⟨(ea_s hV v).2, rfl, q⟩
  · rw [if_neg q] at h
    cases h
theorem cn8 (a : Nat) : Cn (bi a) 8 ≤ 8 := Cn_le _ 8
theorem xCrew {μ : MM} {g : Nat → Int32} {n k : Nat} (hR : RN μ 1 g) (hV : VW g n) (hk : k ≤ 8) : ∀ (d i fu : Nat), i + d = 2 ^ n → d < fu → L_X4_bestCrew_7 (nI k) μ fu (nb 0 (qk (oC g n k) i)) (nf (qk (oC g n k) i)) (nI i) = some (nb 0 (qk (oC g n k) (2 ^ n))) := by
  have hn := hV.le
  have h256 : 2 ^ n ≤ 256 := Nat.pow_le_pow_right (by decide) hn
  have e0 : sl 1 (μ 1 0) = nI (2 ^ n) := by rw [(hR.num).1, hV.cats, (sl_n n hn).2.2]
  intro d
  induction d with
  | zero =>
    intro i fu hi hf
    obtain ⟨f, rfl⟩ : ∃ f, fu = f + 1 := ⟨fu - 1, by omega⟩
    have e : i = 2 ^ n := by omega
    rw [L_X4_bestCrew_7, e0, if_pos (by rw [e]; exact Int32.le_refl _), e]
  | succ d ih =>
    intro i fu hi hf
    obtain ⟨f, rfl⟩ : ∃ f, fu = f + 1 := ⟨fu - 1, by omega⟩
    have b1 := (bits_all i (by omega)).1
    have b2 := (bits2 i (by omega)).1
    rw [L_X4_bestCrew_7, e0, if_neg (nI_ge (by omega) (by omega)), ← b2, b1, bdr_s, xM0 hR hV (by omega)]
    simp only [jn2_s, jn0_s, lt_s_, nI_1, bdr_s, (ea_s hV i).1]
    have c8 := cn8 i
    by_cases q : Cn (bi i) 8 = k
    · rw [if_pos (by rw [q])]
      have eo : oC g n k i = some (ea g n i) := if_pos q
      exact (cx (B := 800) (by decide) (fun v z h => (oC_b hV v z h).1) eo (fun x5 x6 => L_X4_bestCrew_7 (nI k) μ f x5 x6 (nI (i + 1)))).trans (ih (i + 1) f (by omega) (by omega))
    · rw [if_neg (fun e => q ((nI_eq (by omega) (by omega)).mp e))]
      have eo : oC g n k i = none := if_neg q
      rw [← ih (i + 1) f (by omega) (by omega), qk_n eo]
theorem mCrew {μ : MM} {g : Nat → Int32} {n k : Nat} (e38 : μ 38 = g) (hV : VW g n) (hk : k ≤ 8) : ∀ (d i fu : Nat), i + d = 2 ^ n → d < fu → L_X5_findCrew_4 (nI k) μ fu (nb (-1) (qk (oC g n k) i)) (nI i) = some (nb (-1) (qk (oC g n k) (2 ^ n))) := by
  have hn := hV.le
  have h256 : 2 ^ n ≤ 256 := Nat.pow_le_pow_right (by decide) hn
  have hd : ∀ (f : Int32 → Option Int32), ldi μ 38 152 4 f = f (nI n) := fun f => by
    rw [ld38 μ 4 4 ⟨rfl, by decide⟩, e38, hV.cats]
  intro d
  induction d with
  | zero =>
    intro i fu hi hf
    obtain ⟨f, rfl⟩ : ∃ f, fu = f + 1 := ⟨fu - 1, by omega⟩
    have e : i = 2 ^ n := by omega
    rw [L_X5_findCrew_4, hd, (sl_n n hn).2.2, if_pos (by rw [e]; exact Int32.le_refl _), e]
  | succ d ih =>
    intro i fu hi hf
    obtain ⟨f, rfl⟩ : ∃ f, fu = f + 1 := ⟨fu - 1, by omega⟩
    have b1 := (bits_all i (by omega)).1
    rw [L_X5_findCrew_4, hd, (sl_n n hn).2.2, if_neg (nI_ge (by omega) (by omega)), b1, mM0 e38 hV (show i < 2 ^ n by omega)]
    simp only [jn1_s, jn0_s, lt_s_, nI_1, bdr_s]
    rw [(ea_s hV i).1, ← ih (i + 1) f (by omega) (by omega)]
    have c8 := cn8 i
    by_cases q : Cn (bi i) 8 = k
    · have eo : oC g n k i = some (ea g n i) := if_pos q
      have t : (nI (Cn (bi i) 8) = nI k) = True := by rw [q]; exact eq_self _
      simp only [t, if_true]
      rw [qk_c eo]
      cases e2 : qk (oC g n k) i with
      | none =>
        show (if (-1 : Int32) < 0 then _ else _) = _
        rw [if_pos (by decide)]
        rfl
      | some x =>
        have hx := qk_b (B := 800) (fun v z h => (oC_b hV v z h).1) i x e2
        have hx2 := (oC_b hV x.1 x.2 hx.2.2).2.1
        have hei := (ea_s hV i).2
        show (if nI x.1 < 0 then _ else bdr (f_X5_meanOf (nI x.1) μ) _) = L_X5_findCrew_4 (nI k) μ f (nb (-1) (if ea g n i < x.2 then some (i, ea g n i) else some x)) (nI (i + 1))
        rw [if_neg (nI_pos (by omega)), mM0 e38 hV (show x.1 < 2 ^ n by omega), bdr_s, (ea_s hV x.1).1, ← hx2]
        by_cases q2 : ea g n i < x.2
        · rw [if_pos q2, if_neg (by rw [le_nn (by omega) (by omega)]; omega), if_neg (by decide)]
          rfl
        · rw [if_neg q2, if_pos (by rw [le_nn (by omega) (by omega)]; omega)]
    · have eo : oC g n k i = none := if_neg q
      have t : (nI (Cn (bi i) 8) = nI k) = False := eq_false (fun e => q ((nI_eq (by omega) (by omega)).mp e))
      simp only [t, if_false]
      rw [qk_n eo]
      cases e2 : qk (oC g n k) i with
      | none =>
        show (if (-1 : Int32) < 0 then _ else _) = _
        rw [if_pos (by decide)]
      | some x =>
        have hx := qk_b (B := 800) (fun v z h => (oC_b hV v z h).1) i x e2
        show (if nI x.1 < 0 then _ else bdr (f_X5_meanOf (nI x.1) μ) _) = _
        rw [if_neg (nI_pos (by omega)), mM0 e38 hV (show x.1 < 2 ^ n by omega), bdr_s]
        split <;> rfl
theorem cnP : ∀ k, k ≤ 8 → Cn (bi (2 ^ k - 1)) 8 = k := by decide
theorem crew_o {g : Nat → Int32} {n k : Nat} (hV : VW g n) (hk : 1 ≤ k) : (k ≤ n → ∃ x, qk (oC g n k) (2 ^ n) = some x ∧ x.1 < 2 ^ n) ∧ (n < k → qk (oC g n k) (2 ^ n) = none) ∧ qk (oC g n k) 1 = none := by
  have hn := hV.le
  refine ⟨fun h => ?_, fun h => ?_, ?_⟩
  · have hp : 0 < 2 ^ k := Nat.pow_pos (by decide)
    have hl : 2 ^ k ≤ 2 ^ n := Nat.pow_le_pow_right (by decide) h
    obtain ⟨x, e⟩ := qk_some (o := oC g n k) (v := 2 ^ n) (i := 2 ^ k - 1) (k := ea g n (2 ^ k - 1)) (by omega) (if_pos (cnP k (by omega)))
    exact ⟨x, e, (qk_b (B := 800) (fun v z h => (oC_b hV v z h).1) _ x e).1⟩
  · refine qk_none (fun i hi => if_neg (fun e => ?_))
    have := Cn_8 n hn i hi
    have := Cn_le (bi i) n
    omega
  · refine qk_none (fun i hi => if_neg (fun e => ?_))
    have : i = 0 := by omega
    subst this
    have : Cn (bi 0) 8 = 0 := by decide
    omega
theorem xbest {μ : MM} {g : Nat → Int32} {n k : Nat} (hR : RN μ 1 g) (hV : VW g n) (hk : 1 ≤ k ∧ k ≤ 8) : f_X4_bestCrew (nI k) μ = some (nb 0 (qk (oC g n k) (2 ^ n))) := by
  have h256 : 2 ^ n ≤ 256 := Nat.pow_le_pow_right (by decide) hV.le
  have hp : 0 < 2 ^ n := Nat.pow_pos (by decide)
  have := xCrew hR hV hk.2 (2 ^ n - 1) 1 FU (by omega) (show 2 ^ n - 1 < 4096 by omega)
  rw [(crew_o hV hk.1).2.2] at this
  exact this
theorem mbest {μ : MM} {g : Nat → Int32} {n k : Nat} (e38 : μ 38 = g) (hV : VW g n) (hk : k ≤ 8) : f_X5_findCrew (nI k) μ = some (nb (-1) (qk (oC g n k) (2 ^ n))) := by
  have h256 : 2 ^ n ≤ 256 := Nat.pow_le_pow_right (by decide) hV.le
  exact mCrew e38 hV hk (2 ^ n) 0 FU (by omega) (show 2 ^ n < 4096 by omega)
theorem one_8 {a : Int32} (q : ¬ wi a 1 8 = 0) : ∃ k : Nat, 1 ≤ k ∧ k ≤ 8 ∧ a = nI k := by
  rw [wi_0, fa_lt', fa_lt', show ((1 : Int32)).toInt = 1 from by decide, show ((8 : Int32)).toInt = 8 from by decide] at q
  refine ⟨a.toInt.toNat, by omega, by omega, Int32.toInt_inj.mp ?_⟩
  rw [nI_toInt (by omega)]
  omega
theorem s_crew (a : Int32) : Two (f_X4_crew a) (f_X5_crew a) := by
  intro μ h
  obtain ⟨n, hV0⟩ := h.2.1
  have hV := hV0.w
  have hn := hV.le
  by_cases q : wi a 1 8 = 0
  · exact two_find h (-1000001) 0 (by decide) (by simp only [f_X4_crew, isWithin_s, bdr_s, if_pos q, bdw_id]) (fun m _ => by simp only [f_X5_crew, within_s, bdr_s, if_pos q, bdw_id])
  obtain ⟨k, hk1, hk8, rfl⟩ := one_8 q
  have x10 : μ 1 0 = nI n := by rw [(h.1.num).1, hV.cats]
  obtain ⟨o1, o2, o3⟩ := crew_o (k := k) hV hk1
  by_cases g : k ≤ n
  · obtain ⟨x, e, hx⟩ := o1 g
    have h256 : 2 ^ n ≤ 256 := Nat.pow_le_pow_right (by decide) hn
    refine two_val h (nI x.1) ?_ ?_
    · simp only [f_X4_crew, isWithin_s, bdr_s, if_neg q, x10]
      rw [if_pos ((le_nn (by omega) (by omega)).mpr g), xbest h.1 hV ⟨hk1, hk8⟩, bdr_s, e]
      rfl
    · simp only [f_X5_crew, within_s, bdr_s, if_neg q, mbest rfl hV hk8, e, bdw_id]
      exact orNone_s (by omega) μ
  · refine two_find h (-1000004) 3 (by decide) ?_ (fun m hm => ?_)
    · simp only [f_X4_crew, isWithin_s, bdr_s, if_neg q, x10, bdw_id]
      rw [if_neg (fun z => g ((le_nn (by omega) (by omega)).mp z))]
    · simp only [f_X5_crew, within_s, bdr_s, if_neg q, mbest (hm 38 (by decide)) hV hk8, o2 (by omega), bdw_id]
      exact orNone_n m
theorem s_mean (a : Int32) : Two (f_X4_mean a) (f_X5_mean a) := by
  intro μ h
  obtain ⟨n, hV0⟩ := h.2.1
  have hV := hV0.w
  have hn := hV.le
  by_cases q : wi a 1 8 = 0
  · exact two_find h (-1000001) 0 (by decide) (by simp only [f_X4_mean, isWithin_s, bdr_s, if_pos q, bdw_id]) (fun m _ => by simp only [f_X5_mean, within_s, bdr_s, if_pos q, bdw_id])
  obtain ⟨k, hk1, hk8, rfl⟩ := one_8 q
  have x10 : μ 1 0 = nI n := by rw [(h.1.num).1, hV.cats]
  obtain ⟨o1, o2, o3⟩ := crew_o (k := k) hV hk1
  by_cases g : k ≤ n
  · obtain ⟨x, e, hx⟩ := o1 g
    have h256 : 2 ^ n ≤ 256 := Nat.pow_le_pow_right (by decide) hn
    refine two_val h (mv (eN (μ 38) 0) x.1 n) ?_ ?_
    · simp only [f_X4_mean, isWithin_s, bdr_s, if_neg q, x10]
      rw [if_pos ((le_nn (by omega) (by omega)).mpr g), xbest h.1 hV ⟨hk1, hk8⟩, bdr_s, e]
      show (bdr (f_X0_meanOf (nI x.1) 0 μ) _) = _
      rw [xM0 h.1 hV hx, bdr_s]
    · simp only [f_X5_mean, within_s, bdr_s, if_neg q, mbest rfl hV hk8, e, bdw_id]
      show (if 0 ≤ nI x.1 then (bdr (f_X5_meanOf (nI x.1) μ) _) else _) = _
      rw [if_pos (nn_0 (by omega)), mM0 rfl hV hx, bdr_s]
  · refine two_find h (-1000004) 3 (by decide) ?_ (fun m hm => ?_)
    · simp only [f_X4_mean, isWithin_s, bdr_s, if_neg q, x10, bdw_id]
      rw [if_neg (fun z => g ((le_nn (by omega) (by omega)).mp z))]
    · simp only [f_X5_mean, within_s, bdr_s, if_neg q, mbest (hm 38 (by decide)) hV hk8, o2 (by omega), bdw_id]
      exact if_neg (by decide)
theorem xor_all : ∀ a, a < 256 → ∀ c, c < 8 → nI a ^^^ sl 1 (nI c) = nI (a ^^^ 2 ^ c) := by decide +kernel
theorem s_better (a : Int32) : Two (f_X4_better a) (f_X5_better a) := by
  intro μ h
  obtain ⟨n, hV0⟩ := h.2.1
  have hV := hV0.w
  have hn := hV.le
  have h256 : 2 ^ n ≤ 256 := Nat.pow_le_pow_right (by decide) hn
  by_cases q : wi a 0 3 = 0
  · exact two_find h (-1000001) 0 (by decide) (by simp only [f_X4_better, xShip, bdr_s, if_pos q, bdw_id]) (fun m _ => by simp only [f_X5_better, mShip, bdr_s, if_pos q, bdw_id])
  obtain ⟨s, hs, rfl⟩ := wi_n (N := 3) (by decide) q
  have hs4 : s < 4 := by omega
  have x10 : μ 1 0 = nI n := by rw [(h.1.num).1, hV.cats]
  have hd : ∀ (m : MM), m 38 = μ 38 → ∀ (f : Int32 → Option (Int32 × MM)), ldi m 38 152 4 f = f (nI n) := fun m e38 f => by
    rw [ld38 m 4 4 ⟨rfl, by decide⟩, e38, hV.cats]
  by_cases g : n = 0
  · subst g
    refine two_find h (-1000004) 3 (by decide) ?_ (fun m hm => ?_)
    · simp only [f_X4_better, xShip, bdr_s, if_neg q, x10, bdw_id]
      exact if_pos rfl
    · simp only [f_X5_better, mShip, bdr_s, if_neg q, shipIs2 hs4]
      show L_X5_better_30 m _ (4095 + 1) _ _ _ = _
      rw [L_X5_better_30, hd m (hm 38 (by decide)), if_pos (by decide), bdw_id, orNone_n]
  obtain ⟨b, hb, eb, _⟩ := abo hV hs4
  have hc : ∀ c, c < n → b ^^^ 2 ^ c < 2 ^ n := fun c hc => Nat.xor_lt_two_pow hb (Nat.pow_lt_pow_right (by decide) hc)
  have ho : ∀ v k, (some (ea (μ 38) n (b ^^^ 2 ^ v))) = some k → k ≤ 800 := fun v k e => by
    have := Option.some.inj e
    subst this
    exact (ea_s hV _).2
  have hX : ∀ (d i fu : Nat), i + d = n → d < fu → L_X4_better_38 (nI s) μ fu (nb 0 (qk (fun v => some (ea (μ 38) n (b ^^^ 2 ^ v))) i)) (nf (qk (fun v => some (ea (μ 38) n (b ^^^ 2 ^ v))) i)) (nI i) = some (nb 0 (qk (fun v => some (ea (μ 38) n (b ^^^ 2 ^ v))) n), μ) := by
    intro d
    induction d with
    | zero =>
      intro i fu hi hf
      obtain ⟨f, rfl⟩ : ∃ f, fu = f + 1 := ⟨fu - 1, by omega⟩
      have e : i = n := by omega
      rw [L_X4_better_38, x10, if_pos (by rw [e]; exact Int32.le_refl _), e]
    | succ d ih =>
      intro i fu hi hf
      obtain ⟨f, rfl⟩ : ∃ f, fu = f + 1 := ⟨fu - 1, by omega⟩
      rw [L_X4_better_38, x10, if_neg (nI_ge (by omega) (by omega)), ldi_n hs4 (by decide), (h.1.ship1 hs4).2.2, eb, xor_all b (by omega) i (by omega), xM0 h.1 hV (hc i (by omega)), bdr_s, (ea_s hV _).1]
      simp only [jn2_s, jn0_s, lt_s_, nI_1]
      exact (cx (B := 800) (by decide) ho rfl (fun x5 x6 => L_X4_better_38 (nI s) μ f x5 x6 (nI (i + 1)))).trans (ih (i + 1) f (by omega) (by omega))
  have hM : ∀ (d i fu : Nat), i + d = n → d < fu → L_X5_better_30 μ (nI b) fu (qb (qk (fun v => some (ea (μ 38) n (b ^^^ 2 ^ v))) i)) (qr (qk (fun v => some (ea (μ 38) n (b ^^^ 2 ^ v))) i)) (nI i) = f_X5_orNone (qb (qk (fun v => some (ea (μ 38) n (b ^^^ 2 ^ v))) n)) μ := by
    intro d
    induction d with
    | zero =>
      intro i fu hi hf
      obtain ⟨f, rfl⟩ : ∃ f, fu = f + 1 := ⟨fu - 1, by omega⟩
      have e : i = n := by omega
      rw [L_X5_better_30, hd μ rfl, if_pos (by rw [e]; exact Int32.le_refl _), e, bdw_id]
    | succ d ih =>
      intro i fu hi hf
      obtain ⟨f, rfl⟩ : ∃ f, fu = f + 1 := ⟨fu - 1, by omega⟩
      obtain ⟨q1, q2⟩ := qmB (β := Int32 × MM) (B := 800) (by decide) ho (v := i) (k := ea (μ 38) n (b ^^^ 2 ^ i)) rfl (fun x10 => L_X5_better_30 μ (nI b) f x10 (qr (qk (fun v => some (ea (μ 38) n (b ^^^ 2 ^ v))) (i + 1))) (nI (i + 1)))
      rw [L_X5_better_30, hd μ rfl, if_neg (nI_ge (by omega) (by omega)), xor_all b (by omega) i (by omega), mM0 rfl hV (hc i (by omega)), bdr_s, (ea_s hV _).1]
      simp only [jn1_s, lt_s_, nI_1]
      rw [q2]
      exact q1.trans (ih (i + 1) f (by omega) (by omega))
  obtain ⟨x, ex⟩ := qk_some (o := fun v => some (ea (μ 38) n (b ^^^ 2 ^ v))) (v := n) (i := 0) (k := ea (μ 38) n (b ^^^ 2 ^ 0)) (by omega) rfl
  have hx := qk_b (B := 800) ho n x ex
  refine two_val h (nI x.1) ?_ ?_
  · simp only [f_X4_better, xShip, bdr_s, if_neg q, x10, bdw_id]
    rw [if_neg (show ¬ nI n = 0 from fun e => g ((nI_eq (b := 0) (by omega) (by decide)).mp e))]
    have := hX n 0 FU (by omega) (show n < 4096 by omega)
    rw [ex] at this
    exact this
  · simp only [f_X5_better, mShip, bdr_s, if_neg q, shipIs2 hs4, eb]
    have := hM n 0 FU (by omega) (show n < 4096 by omega)
    rw [ex] at this
    exact this.trans (orNone_s (by omega) μ)
