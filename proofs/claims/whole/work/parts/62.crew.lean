/-! ===== how far a mean can be ===== -/
theorem er_bd {k h hb fi t : Int32} (hh : bn h 99) (h1 : -15 ≤ hb.toInt) (h2 : hb.toInt ≤ 15) : -100 ≤ (er k h hb fi t).toInt ∧ (er k h hb fi t).toInt ≤ 100 := by
  obtain ⟨a, ha, rfl⟩ := hh
  have d1 : (nI a / 10).toInt = ((a / 10 : Nat) : Int) := by
    rw [show (10 : Int32) = nI 10 from rfl, pk_div (by omega) (by decide) (by decide), nI_toInt (by omega)]
  have d2 : (nI a / 10 / 2).toInt = ((a / 10 / 2 : Nat) : Int) := by
    rw [show (10 : Int32) = nI 10 from rfl, show (2 : Int32) = nI 2 from rfl, pk_div (by omega) (by decide) (by decide), pk_div (by omega) (by decide) (by decide), nI_toInt (by omega)]
  have b1 : (2 * (sr fi t &&& 1)).toInt = 0 ∨ (2 * (sr fi t &&& 1)).toInt = 2 := by
    rcases and1 (sr fi t) with e | e <;> rw [e]
    · exact Or.inl (by decide)
    · exact Or.inr (by decide)
  have c1 : -4 ≤ (irm t 5).toInt ∧ (irm t 5).toInt ≤ 4 := by
    rw [irm_t t (d := 5) (D := 5) (by decide) (by decide)]
    obtain ⟨z1, z2⟩ := tdiv_bd t.toInt (d := 5) (by decide)
    by_cases q : 0 ≤ t.toInt
    · have := z1 q
      omega
    · have := z2 (by omega)
      omega
  have s1 : (nI a / 10 + 2 * (sr fi t &&& 1)).toInt = (nI a / 10).toInt + (2 * (sr fi t &&& 1)).toInt := fb_addI (by omega) (by omega)
  have s2 : (nI a / 10 + irm t 5).toInt = (nI a / 10).toInt + (irm t 5).toInt := fb_addI (by omega) (by omega)
  have t2 : (2 : Int32).toInt = 2 := by decide
  have t1 : (1 : Int32).toInt = 1 := by decide
  have t16 : (16 : Int32).toInt = 16 := by decide
  have s3 : (nI a / 10 + irm t 5 - 2).toInt = (nI a / 10).toInt + (irm t 5).toInt - 2 := by
    rw [fb_subI (by omega) (by omega), s2, t2]
  have s4 : (nI a / 10 + irm t 5 - 2 + 1).toInt = (nI a / 10).toInt + (irm t 5).toInt - 2 + 1 := by
    rw [fb_addI (by omega) (by omega), s3, t1]
  have s5 : (16 - (nI a / 10 + 2 * (sr fi t &&& 1))).toInt = 16 - (nI a / 10 + 2 * (sr fi t &&& 1)).toInt := by
    rw [fb_subI (by omega) (by omega), t16]
  have s6 : (16 - hb).toInt = 16 - hb.toInt := by
    rw [fb_subI (by omega) (by omega), t16]
  unfold er
  repeat' split
  all_goals omega
theorem Sm_bd {p : Nat → Bool} {f : Nat → Int32} : ∀ {n : Nat}, n ≤ 8 → (∀ c, c < n → -100 ≤ (f c).toInt ∧ (f c).toInt ≤ 100) → -100 * (n : Int) ≤ (Sm p f n).toInt ∧ (Sm p f n).toInt ≤ 100 * (n : Int)
  | 0, _, _ => by
    have : (Sm p f 0).toInt = 0 := by
      show ((0 : Int32)).toInt = 0
      decide
    omega
  | n + 1, hn, h => by
    have ih := Sm_bd (p := p) (n := n) (by omega) (fun c hc => h c (by omega))
    have hl := h n (by omega)
    have e : (Sm p f n + f n).toInt = (Sm p f n).toInt + (f n).toInt := fb_addI (by omega) (by omega)
    unfold Sm
    split <;> omega
theorem mv_bd {f : Nat → Int32} {a n : Nat} (hn : n ≤ 8) (h : ∀ c, c < n → -100 ≤ (f c).toInt ∧ (f c).toInt ≤ 100) : -800 ≤ (mv f a n).toInt ∧ (mv f a n).toInt ≤ 800 := by
  have hs := Sm_bd (p := bi a) hn h
  have hc := Cn_le (bi a) n
  unfold mv
  by_cases q : Cn (bi a) n = 0
  · rw [if_pos q]
    decide
  · rw [if_neg q]
    by_cases q1 : Cn (bi a) n = 1
    · rw [q1, show nI 1 = (1 : Int32) from rfl, Int32.div_one]
      omega
    · rw [div_t _ (D := (Cn (bi a) n : Int)) (nI_toInt (by omega)) (by omega)]
      obtain ⟨z1, z2⟩ := tdiv_bd (Sm (bi a) f n).toInt (d := (Cn (bi a) n : Int)) (by omega)
      have pos : ∀ x y : Int, 0 ≤ x → 2 ≤ y → x ≤ x * y := fun x y hx hy => by
        have := Int.mul_le_mul_of_nonneg_left hy hx
        omega
      by_cases w : 0 ≤ (Sm (bi a) f n).toInt
      · have z := z1 w
        have := pos _ (Cn (bi a) n : Int) z.1 (by omega)
        omega
      · have z := z2 (by omega)
        have := pos (-(Sm (bi a) f n).toInt.tdiv (Cn (bi a) n : Int)) (Cn (bi a) n : Int) (by omega) (by omega)
        rw [Int.neg_mul] at this
        omega
theorem iabs_n {x : Int32} (h1 : -800 ≤ x.toInt) (h2 : x.toInt ≤ 800) : ∃ k : Nat, k ≤ 800 ∧ iabs x = nI k := by
  unfold iabs
  have t0 : (0 : Int32).toInt = 0 := by decide
  by_cases q : 0 ≤ x
  · rw [if_pos q]
    rw [Int32.le_iff_toInt_le, t0] at q
    exact ⟨x.toInt.toNat, by omega, Int32.toInt_inj.mp (by rw [nI_toInt (by omega)]; omega)⟩
  · rw [if_neg q]
    rw [Int32.le_iff_toInt_le, t0] at q
    refine ⟨(-x.toInt).toNat, by omega, Int32.toInt_inj.mp ?_⟩
    rw [nI_toInt (by omega), fb_subI (by omega) (by omega), t0]
    omega
def ea (g : Nat → Int32) (n a : Nat) : Nat := (iabs (mv (eN g 0) a n)).toNatClampNeg
theorem ea_s {g : Nat → Int32} {n : Nat} (hV : VW g n) (a : Nat) : iabs (mv (eN g 0) a n) = nI (ea g n a) ∧ ea g n a ≤ 800 := by
  have hn := hV.le
  have hb := mv_bd (f := eN g 0) (a := a) hn (fun c hc => by
    rw [eN_0 hV (by omega)]
    have := hV.cat (c := c) (by omega)
    exact er_bd this.2.1 this.2.2.1 this.2.2.2)
  obtain ⟨k, hk, e⟩ := iabs_n hb.1 hb.2
  unfold ea
  rw [e, nI_clamp (by omega)]
  exact ⟨rfl, hk⟩
theorem xM0 {μ : MM} {g : Nat → Int32} {n a : Nat} (hR : RN μ 1 g) (hV : VW g n) (ha : a < 2 ^ n) : f_X0_meanOf (nI a) 0 μ = some (mv (eN g 0) a n) := by
  have hn := hV.le
  rw [xMean hn (by rw [(hR.num).1, hV.cats]) ha]
  refine congrArg some (mv_cong (fun c hc => ?_))
  unfold eN
  rw [(hR.cat1 (show c < 8 by omega)).1, (hR.cat1 (show c < 8 by omega)).2.1, (hR.cat1 (show c < 8 by omega)).2.2, (hR.num).2.2.1, (hR.num).2.2.2.2.1]
  rfl
theorem mM0 {μ : MM} {g : Nat → Int32} {n a : Nat} (e : μ 38 = g) (hV : VW g n) (ha : a < 2 ^ n) : f_X5_meanOf (nI a) μ = some (mv (eN g 0) a n) := by
  subst e
  have hn := hV.le
  rw [mMean hn hV.cats ha]
  exact congrArg some (mv_cong (fun c hc => (eN_0 hV (by omega)).symm))
/-! ===== the first of the least, any bound ===== -/
theorem qk_n {o : Nat → Option Nat} {v : Nat} (h : o v = none) : qk o (v + 1) = qk o v := by
  show (match o v with
    | none => qk o v
    | some k => match qk o v with
      | none => some (v, k)
      | some x => if k < x.2 then some (v, k) else some x) = _
  rw [h]
theorem qk_c {o : Nat → Option Nat} {v k : Nat} (h : o v = some k) : qk o (v + 1) = match qk o v with
      | none => some (v, k)
      | some x => if k < x.2 then some (v, k) else some x := by
  show (match o v with
    | none => qk o v
    | some k => match qk o v with
      | none => some (v, k)
      | some x => if k < x.2 then some (v, k) else some x) = _
  rw [h]
theorem qk_b {B : Nat} {o : Nat → Option Nat} (ho : ∀ v k, o v = some k → k ≤ B) : ∀ v x, qk o v = some x → x.1 < v ∧ x.2 ≤ B ∧ o x.1 = some x.2 := by
  intro v
  induction v with
  | zero => intro x h; cases h
  | succ v ih =>
    intro x h
    cases e : o v with
    | none =>
      rw [qk_n e] at h
      have := ih x h
      exact ⟨by omega, this.2⟩
    | some k =>
      rw [qk_c e] at h
      cases e2 : qk o v with
      | none =>
        rw [e2] at h
        have := Option.some.inj h
        subst this
        exact ⟨Nat.lt_succ_self _, ho v k e, e⟩
      | some y =>
        rw [e2] at h
        have h : (if k < y.2 then some (v, k) else some y) = some x := h
        by_cases q : k < y.2
        · rw [if_pos q] at h
          have := Option.some.inj h
          subst this
          exact ⟨Nat.lt_succ_self _, ho v k e, e⟩
        · rw [if_neg q] at h
          have := Option.some.inj h
          subst this
          have := ih y e2
          exact ⟨by omega, this.2⟩
theorem qk_none {o : Nat → Option Nat} : ∀ {v : Nat}, (∀ i, i < v → o i = none) → qk o v = none
  | 0, _ => rfl
  | v + 1, h => by rw [qk_n (h v (by omega))]; exact qk_none (fun i hi => h i (by omega))
theorem qk_some {o : Nat → Option Nat} : ∀ {v i k : Nat}, i < v → o i = some k → ∃ x, qk o v = some x
  | 0, i, k, h, _ => absurd h (Nat.not_lt_zero i)
  | v + 1, i, k, h, e => by
    cases e2 : o v with
    | none =>
      rw [qk_n e2]
      exact qk_some (i := i) (k := k) (by
        by_cases q : i = v
        · rw [q, e2] at e
          cases e
        · omega) e
    | some y =>
      rw [qk_c e2]
      cases qk o v with
      | none => exact ⟨_, rfl⟩
      | some x =>
        by_cases q : y < x.2
        · exact ⟨_, if_pos q⟩
        · exact ⟨_, if_neg q⟩
theorem cx {β : Type} {B : Nat} (hB : B < 2 ^ 31) {o : Nat → Option Nat} (ho : ∀ v k, o v = some k → k ≤ B) {v k : Nat} (e : o v = some k) (F : Int32 → Int32 → Option β) : (if nf (qk o v) < 0 then F (nI v) (nI k) else if nf (qk o v) ≤ nI k then F (nb 0 (qk o v)) (nf (qk o v)) else F (nI v) (nI k)) = F (nb 0 (qk o (v + 1))) (nf (qk o (v + 1))) := by
  have hk := ho v k e
  rw [qk_c e]
  cases e2 : qk o v with
  | none => exact if_pos (by decide)
  | some x =>
    have hx := qk_b ho v x e2
    show (if nI x.2 < 0 then _ else if nI x.2 ≤ nI k then _ else _) = F (nb 0 (if k < x.2 then some (v, k) else some x)) (nf (if k < x.2 then some (v, k) else some x))
    rw [if_neg (nI_pos (by omega))]
    by_cases q : k < x.2
    · rw [if_pos q, if_neg (by rw [le_nn (by omega) (by omega)]; omega)]
      rfl
    · rw [if_neg q, if_pos (by rw [le_nn (by omega) (by omega)]; omega)]
theorem qmB {β : Type} {B : Nat} (hB : B < 1000000) {o : Nat → Option Nat} (ho : ∀ v k, o v = some k → k ≤ B) {v k : Nat} (e : o v = some k) (F : Int32 → Option β) : (if qr (qk o v) ≤ nI k then F (qb (qk o v)) else F (nI v)) = F (qb (qk o (v + 1))) ∧ imin (qr (qk o v)) (nI k) = qr (qk o (v + 1)) := by
  have hk := ho v k e
  rw [qk_c e]
  unfold imin
  cases e2 : qk o v with
  | none =>
    show ((if nI 1000000 ≤ nI k then _ else _) = F (nI v)) ∧ (if nI k < nI 1000000 then _ else _) = nI k
    rw [if_neg (by rw [le_nn (by decide) (by omega)]; omega), if_pos (by rw [lt_n (by omega) (by decide)]; omega)]
    exact ⟨rfl, rfl⟩
  | some x =>
    have hx := qk_b ho v x e2
    show ((if nI x.2 ≤ nI k then _ else _) = F (qb (if k < x.2 then some (v, k) else some x))) ∧ (if nI k < nI x.2 then nI k else nI x.2) = qr (if k < x.2 then some (v, k) else some x)
    by_cases q : k < x.2
    · rw [if_pos q, if_neg (by rw [le_nn (by omega) (by omega)]; omega), if_pos (by rw [lt_n (by omega) (by omega)]; omega)]
      exact ⟨rfl, rfl⟩
    · rw [if_neg q, if_pos (by rw [le_nn (by omega) (by omega)]; omega), if_neg (by rw [lt_n (by omega) (by omega)]; omega)]
      exact ⟨rfl, rfl⟩
