/-! ===== the mean of what some err ===== -/
def bi (a c : Nat) : Bool := decide (a / 2 ^ c % 2 = 1)
def Sm (p : Nat → Bool) (f : Nat → Int32) : Nat → Int32
  | 0 => 0
  | i + 1 => if p i then Sm p f i + f i else Sm p f i
def Cn (p : Nat → Bool) : Nat → Nat
  | 0 => 0
  | i + 1 => if p i then Cn p i + 1 else Cn p i
theorem Cn_le (p : Nat → Bool) : ∀ n, Cn p n ≤ n
  | 0 => Nat.le_refl 0
  | n + 1 => by
    have := Cn_le p n
    unfold Cn
    split <;> omega
theorem Sm_cong {p : Nat → Bool} {f f' : Nat → Int32} : ∀ {n : Nat}, (∀ c, c < n → f c = f' c) → Sm p f n = Sm p f' n
  | 0, _ => rfl
  | n + 1, h => by
    unfold Sm
    rw [Sm_cong (fun c hc => h c (by omega)), h n (by omega)]
/-- the mean: of n CATS, those of the set a, each of which errs f -/
def mv (f : Nat → Int32) (a n : Nat) : Int32 := if Cn (bi a) n = 0 then 0 else Sm (bi a) f n / nI (Cn (bi a) n)
theorem mv_cong {f f' : Nat → Int32} {a n : Nat} (h : ∀ c, c < n → f c = f' c) : mv f a n = mv f' a n := by
  unfold mv
  rw [Sm_cong h]
theorem bit_all : ∀ a, a < 256 → ∀ c, c < 8 → (sr (nI a) (nI c) &&& 1 = if bi a c then 1 else 0) := by decide +kernel
theorem bits_all : ∀ a, a < 256 → f_X5_bits (nI a) = some (nI (Cn (bi a) 8)) ∧ (Cn (bi a) 8 = 0 ↔ a = 0) := by decide +kernel
theorem Cn_8 : ∀ n, n ≤ 8 → ∀ a, a < 2 ^ n → Cn (bi a) n = Cn (bi a) 8 := by decide +kernel
theorem pow_256 {n a : Nat} (hn : n ≤ 8) (ha : a < 2 ^ n) : a < 256 := Nat.lt_of_lt_of_le ha (Nat.pow_le_pow_right (by decide) hn)
theorem isIn_s (f t : Int32) : f_X4_isIn f t = some (sr f t &&& 1) := has_s f t
theorem xMean {μ : MM} {n a : Nat} (hn8 : n ≤ 8) (hcx : μ 1 0 = nI n) (ha : a < 2 ^ n) (p : Int32) : f_X0_meanOf (nI a) p μ = some (mv (fun c => er (μ 2 c) (imin (μ 3 c + p) 99) (μ 4 c) (μ 1 9) (irm (μ 1 11 + p) 16)) a n) := by
  have ha256 := pow_256 hn8 ha
  unfold f_X0_meanOf
  rw [jn2_s]
  generalize hk : (fun (x1 : Int32) (x2 : Int32) => if x2 = 0 then (some (0 : Int32)) else (gd (¬ x2 = 0) (some (x1 / x2)))) = k1
  have hL : ∀ (d i fu : Nat), i + d = n → d < fu → L_X0_meanOf_8 (nI a) p μ k1 fu (Sm (bi a) (fun c => er (μ 2 c) (imin (μ 3 c + p) 99) (μ 4 c) (μ 1 9) (irm (μ 1 11 + p) 16)) i) (nI (Cn (bi a) i)) (nI i) = k1 (Sm (bi a) (fun c => er (μ 2 c) (imin (μ 3 c + p) 99) (μ 4 c) (μ 1 9) (irm (μ 1 11 + p) 16)) n) (nI (Cn (bi a) n)) := by
    intro d
    induction d with
    | zero =>
      intro i fu hi hf
      obtain ⟨f, rfl⟩ : ∃ f, fu = f + 1 := ⟨fu - 1, by omega⟩
      have e : i = n := by omega
      subst e
      rw [L_X0_meanOf_8, if_pos (le_n hcx)]
    | succ d ih =>
      intro i fu hi hf
      obtain ⟨f, rfl⟩ : ∃ f, fu = f + 1 := ⟨fu - 1, by omega⟩
      have hi8 : i < 8 := by omega
      rw [L_X0_meanOf_8, if_neg (ge_n hcx (by omega) (show i < n by omega)), isIn_s, bdr_s, bit_all a ha256 i hi8, jn2_s]
      have ih1 := ih (i + 1) f (by omega) (by omega)
      rw [Sm, Cn] at ih1
      by_cases q : bi a i = true
      · rw [if_pos q, if_neg (by decide), ldi_n hi8 (by decide), ldi_n hi8 (by decide), errsAs_s hi8]
        simp only [bdr_s, lt_s_, nI_1]
        rw [if_pos q, if_pos q] at ih1
        exact ih1
      · rw [if_neg q, if_pos rfl]
        simp only [lt_s_, nI_1]
        rw [if_neg q, if_neg q] at ih1
        exact ih1
  have h0 := hL n 0 FU (by omega) (show n < 4096 by omega)
  rw [show Sm (bi a) (fun c => er (μ 2 c) (imin (μ 3 c + p) 99) (μ 4 c) (μ 1 9) (irm (μ 1 11 + p) 16)) 0 = 0 from rfl, show nI (Cn (bi a) 0) = 0 from rfl, show nI 0 = (0 : Int32) from rfl] at h0
  rw [h0, ← hk]
  have hcn := Cn_le (bi a) n
  unfold mv
  by_cases q : Cn (bi a) n = 0
  · rw [if_pos q, q]
    exact if_pos rfl
  · have q2 : ¬ nI (Cn (bi a) n) = 0 := nI_ne0 (by omega) (by omega)
    rw [if_neg q]
    show (if nI (Cn (bi a) n) = 0 then _ else _) = _
    rw [if_neg q2, gd_t q2]
theorem mMean {μ : MM} {n a : Nat} (hn8 : n ≤ 8) (hc : μ 38 4 = nI n) (ha : a < 2 ^ n) : f_X5_meanOf (nI a) μ = some (mv (fun c => er (μ 38 (128 + 3 * c)) (μ 38 (128 + 3 * c + 1)) (μ 38 (128 + 3 * c + 2)) (μ 38 3) (irm (μ 38 0) 16)) a n) := by
  have ha256 := pow_256 hn8 ha
  unfold f_X5_meanOf
  rw [jn1_s]
  generalize hk : (fun (x1 : Int32) => if nI a = 0 then (some (0 : Int32)) else (bdr (f_X5_bits (nI a)) fun x2 => gd (¬ x2 = 0) (some (x1 / x2)))) = k1
  generalize hf : (fun c => er (μ 38 (128 + 3 * c)) (μ 38 (128 + 3 * c + 1)) (μ 38 (128 + 3 * c + 2)) (μ 38 3) (irm (μ 38 0) 16)) = F
  have hL : ∀ (d i fu : Nat), i + d = n → d < fu → L_X5_meanOf_4 (nI a) μ k1 fu (Sm (bi a) F i) (nI i) = k1 (Sm (bi a) F n) := by
    intro d
    induction d with
    | zero =>
      intro i fu hi hf
      obtain ⟨f, rfl⟩ : ∃ f, fu = f + 1 := ⟨fu - 1, by omega⟩
      have e : i = n := by omega
      subst e
      rw [L_X5_meanOf_4, ld38 μ 4 4 ⟨rfl, by decide⟩, if_pos (le_n hc)]
    | succ d ih =>
      intro i fu hi hfu
      obtain ⟨f, rfl⟩ : ∃ f, fu = f + 1 := ⟨fu - 1, by omega⟩
      have hi8 : i < 8 := by omega
      rw [L_X5_meanOf_4, ld38 μ 4 4 ⟨rfl, by decide⟩, if_neg (ge_n hc (by omega) (show i < n by omega)), has_s, bdr_s, bit_all a ha256 i hi8, jn1_s]
      have ih1 := ih (i + 1) f (by omega) (by omega)
      rw [Sm] at ih1
      by_cases q : bi a i = true
      · rw [if_pos q, if_neg (by decide), merrs_s hi8]
        simp only [bdr_s, lt_s_, nI_1]
        rw [if_pos q, ← hf] at ih1
        rw [← hf]
        exact ih1
      · rw [if_neg q, if_pos rfl]
        simp only [lt_s_, nI_1, Int32.add_zero]
        rw [if_neg q] at ih1
        exact ih1
  have h0 := hL n 0 FU (by omega) (show n < 4096 by omega)
  rw [show Sm (bi a) F 0 = 0 from rfl, show nI 0 = (0 : Int32) from rfl] at h0
  rw [h0, ← hk]
  have hcn := Cn_le (bi a) n
  obtain ⟨b1, b2⟩ := bits_all a ha256
  rw [← Cn_8 n hn8 a ha] at b1 b2
  unfold mv
  by_cases q : Cn (bi a) n = 0
  · have e := b2.mp q
    subst e
    rw [if_pos q]
    exact if_pos rfl
  · have q2 : ¬ nI (Cn (bi a) n) = 0 := nI_ne0 (by omega) (by omega)
    have q3 : ¬ nI a = 0 := nI_ne0 (Nat.pos_of_ne_zero (fun e => q (b2.mpr e))) (by omega)
    rw [if_neg q]
    show (if nI a = 0 then _ else _) = _
    rw [if_neg q3, b1, bdr_s, gd_t q2]
