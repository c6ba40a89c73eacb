/-! ===== loops that count ===== -/
def fo (F : Nat → Int32 → Int32) (i : Nat) : Nat → Int32 → Int32
  | 0, x => x
  | d + 1, x => fo F (i + 1) d (F i x)
theorem fo_cong {F F' : Nat → Int32 → Int32} {N : Nat} (h : ∀ j x, j < N → F j x = F' j x) : ∀ (d i : Nat) (x : Int32), i + d = N → fo F i d x = fo F' i d x := by
  intro d
  induction d with
  | zero => intro i x _; rfl
  | succ d ih =>
    intro i x hi
    show fo F (i + 1) d (F i x) = fo F' (i + 1) d (F' i x)
    rw [h i x (by omega)]
    exact ih (i + 1) _ (by omega)
theorem loopF {α : Type} (L : Nat → Int32 → Int32 → Option α) (N : Nat) (F : Nat → Int32 → Int32) (out : Int32 → Option α) (hs : ∀ fu x i, i < N → L (fu + 1) x (nI i) = L fu (F i x) (nI (i + 1))) (he : ∀ fu x, L (fu + 1) x (nI N) = out x) : ∀ (d i fu : Nat) (x : Int32), i + d = N → d < fu → L fu x (nI i) = out (fo F i d x) := by
  intro d
  induction d with
  | zero =>
    intro i fu x hi hf
    obtain ⟨f, rfl⟩ : ∃ f, fu = f + 1 := ⟨fu - 1, by omega⟩
    have e : i = N := by omega
    subst e
    exact he f x
  | succ d ih =>
    intro i fu x hi hf
    obtain ⟨f, rfl⟩ : ∃ f, fu = f + 1 := ⟨fu - 1, by omega⟩
    rw [hs f x i (by omega)]
    exact ih (i + 1) f _ (by omega) (by omega)
theorem loop0 {α : Type} (L : Nat → Int32 → Int32 → Option α) (N : Nat) (F : Nat → Int32 → Int32) (out : Int32 → Option α) (hs : ∀ fu x i, i < N → L (fu + 1) x (nI i) = L fu (F i x) (nI (i + 1))) (he : ∀ fu x, L (fu + 1) x (nI N) = out x) (hN : N < 4096) (x : Int32) : L FU x 0 = out (fo F 0 N x) := loopF L N F out hs he N 0 FU x (by omega) (show N < 4096 from hN)
theorem ge_n {N : Nat} {z : Int32} (hz : z = nI N) (hN : N < 2 ^ 31) {i : Nat} (h : i < N) : ¬ z ≤ nI i := by
  rw [hz]
  exact nI_ge h hN
theorem le_n {N : Nat} {z : Int32} (hz : z = nI N) : z ≤ nI N := by
  rw [hz]
  exact Int32.le_refl _
/-! islands -/
theorem xIslands (μ : MM) : f_X0_islands μ = some (fo (fun i x => if μ 8 i = 0 then x else x + 1) 0 100 0) := by
  unfold f_X0_islands
  refine loop0 (L_X0_islands_4 μ) 100 _ some (fun fu x i hi => ?_) (fun fu x => ?_) (by decide) 0
  · rw [L_X0_islands_4, if_neg (ge_n (z := 100) (N := 100) rfl (by decide) hi), ldi_n hi (by decide)]
    simp only [jn1_s, lt_s_, nI_1]
    by_cases q : μ 8 i = 0
    · rw [if_pos q, if_pos q]
    · rw [if_neg q, if_neg q]
  · rw [L_X0_islands_4, if_pos (le_n (z := 100) (N := 100) rfl)]
theorem mIslands (μ : MM) : f_X5_islands μ = some (fo (fun i x => x + μ 38 (16 + i)) 0 100 0) := by
  unfold f_X5_islands
  refine loop0 (L_X5_islands_4 μ) 100 _ some (fun fu x i hi => ?_) (fun fu x => ?_) (by decide) 0
  · rw [L_X5_islands_4, if_neg (ge_n (z := 100) (N := 100) rfl (by decide) hi), show (16 : Int32) = nI 16 from rfl, nI_add, ldi_n (by omega) (by decide)]
    simp only [lt_s_, nI_1]
  · rw [L_X5_islands_4, if_pos (le_n (z := 100) (N := 100) rfl)]
theorem islands2 {μ : MM} (h : Rel μ) : ∃ r, f_X0_islands μ = some r ∧ f_X5_islands μ = some r := by
  obtain ⟨n, hn⟩ := h.2.1
  refine ⟨_, xIslands μ, (mIslands μ).trans (congrArg some (fo_cong (N := 100) (fun j x hj => ?_) 100 0 0 (by decide)))⟩
  show x + μ 38 (16 + j) = if μ 8 j = 0 then x else x + 1
  rw [h.1.isl1 hj]
  rcases hn.isl hj with z | z
  · rw [z, if_pos rfl, Int32.add_zero]
  · rw [z, if_neg (by decide)]
/-! landed -/
theorem xLanded {μ : MM} (h : Rel μ) {s : Nat} (hs : s < 4) : ∃ c : Nat, c < 100 ∧ μ 38 (116 + 3 * s) = nI c ∧ f_X0_isLanded (nI s) μ = some (μ 38 (16 + c)) ∧ f_X5_isLanded (nI s) μ = some (μ 38 (16 + c)) := by
  obtain ⟨n, hn⟩ := h.2.1
  obtain ⟨c, hc, e⟩ := (hn.ship hs).1
  have hc1 : c < 100 := by omega
  refine ⟨c, hc1, e, ?_, ?_⟩
  · unfold f_X0_isLanded
    rw [ldi_n hs (by decide), (h.1.ship1 hs).1, e, ldi_n hc1 (by decide), h.1.isl1 hc1, gd_t (hn.isl hc1)]
  · simp only [f_X5_isLanded, f_X5_isIsland, shipIs0 hs, bdr_s, e]
    rw [show (16 : Int32) = nI 16 from rfl, nI_add, ldi_n (by omega) (by decide)]
    rcases hn.isl hc1 with z | z
    · rw [z, if_neg (by decide), bdr_s, gd_t (Or.inl rfl)]
    · rw [z, if_pos rfl, bdr_s, gd_t (Or.inr rfl)]
def ldF (μ : MM) (s : Nat) : Int32 := μ 38 (16 + (μ 38 (116 + 3 * s)).toNatClampNeg)
theorem xLanded' {μ : MM} (h : Rel μ) {s : Nat} (hs : s < 4) : f_X0_isLanded (nI s) μ = some (ldF μ s) ∧ f_X5_isLanded (nI s) μ = some (ldF μ s) := by
  obtain ⟨c, hc, e, e1, e2⟩ := xLanded h hs
  have : ldF μ s = μ 38 (16 + c) := by unfold ldF; rw [e, nI_clamp (by omega)]
  rw [this]
  exact ⟨e1, e2⟩
theorem landed2 {μ : MM} (h : Rel μ) : f_X0_landedShips μ = some (fo (fun i x => if ldF μ i = 0 then x else x ||| sl 1 (nI i)) 0 4 0) ∧ f_X5_landed μ = some (fo (fun i x => if ldF μ i = 0 then x else x ||| sl 1 (nI i)) 0 4 0) := by
  refine ⟨?_, ?_⟩
  · unfold f_X0_landedShips
    refine loop0 (L_X0_landedShips_4 μ) 4 _ some (fun fu x i hi => ?_) (fun fu x => ?_) (by decide) 0
    · rw [L_X0_landedShips_4, if_neg (ge_n (z := 4) (N := 4) rfl (by decide) hi), (xLanded' h hi).1]
      simp only [bdr_s, jn1_s, lt_s_, nI_1]
      by_cases q : ldF μ i = 0
      · rw [if_pos q, if_pos q]
      · rw [if_neg q, if_neg q]
    · rw [L_X0_landedShips_4, if_pos (le_n (z := 4) (N := 4) rfl)]
  · unfold f_X5_landed
    refine loop0 (L_X5_landed_4 μ) 4 _ some (fun fu x i hi => ?_) (fun fu x => ?_) (by decide) 0
    · rw [L_X5_landed_4, if_neg (ge_n (z := 4) (N := 4) rfl (by decide) hi), (xLanded' h hi).2]
      simp only [bdr_s, jn1_s, lt_s_, nI_1]
      by_cases q : ldF μ i = 0
      · rw [if_pos q, if_pos q, Int32.or_zero]
      · rw [if_neg q, if_neg q]
    · rw [L_X5_landed_4, if_pos (le_n (z := 4) (N := 4) rfl)]
/-! hungers -/
theorem hungry2 {μ : MM} (h : Rel μ) : ∃ r, f_X0_greatestHunger μ = some r ∧ f_X5_hungriest μ = some r := by
  obtain ⟨n, hn8, hn, hc, hcx⟩ := h.cats
  refine ⟨fo (fun i x => imax x (μ 38 (128 + 3 * i + 1))) 0 n 0, ?_, ?_⟩
  · unfold f_X0_greatestHunger
    refine loop0 (L_X0_greatestHunger_4 μ) n _ some (fun fu x i hi => ?_) (fun fu x => ?_) (by omega) 0
    · rw [L_X0_greatestHunger_4, if_neg (ge_n hcx (by omega) hi), ldi_n (by omega) (by decide), (h.1.cat1 (by omega)).2.1]
      simp only [lt_s_, nI_1]
    · rw [L_X0_greatestHunger_4, if_pos (le_n hcx)]
  · unfold f_X5_hungriest
    refine loop0 (L_X5_hungriest_4 μ) n _ some (fun fu x i hi => ?_) (fun fu x => ?_) (by omega) 0
    · rw [L_X5_hungriest_4, ld38 μ 4 4 ⟨rfl, by decide⟩, if_neg (ge_n hc (by omega) hi), catIs1 (by omega)]
      simp only [bdr_s, lt_s_, nI_1]
    · rw [L_X5_hungriest_4, ld38 μ 4 4 ⟨rfl, by decide⟩, if_pos (le_n hc)]
/-- a question that changes nothing -/
theorem two_val {α : Type} {fx fm : MM → Option (α × MM)} {μ : MM} (h : Rel μ) (r : α) (e1 : fx μ = some (r, μ)) (e2 : fm μ = some (r, μ)) : ∃ r μ1 μ2, fx μ = some (r, μ1) ∧ fm μ1 = some (r, μ2) ∧ Rel μ2 := ⟨r, μ, μ, e1, e2, h⟩
theorem s_now (a : Int32) : Two (f_X4_now a) (f_X5_now a) := by
  intro μ h
  obtain ⟨n1, n2, n3, n4, n5, n6⟩ := h.1.num
  by_cases a0 : a = 0
  · subst a0
    exact two_val h (μ 38 0) (by simp only [f_X4_now, if_true, n5]) (by simp only [f_X5_now, if_true]; rw [ld38 μ 0 0 ⟨rfl, by decide⟩])
  by_cases a1 : a = 1
  · subst a1
    exact two_val h (μ 38 1) (by simp only [f_X4_now, c10, if_false, if_true, n4]) (by simp only [f_X5_now, c10, if_false, if_true]; rw [ld38 μ 1 1 ⟨rfl, by decide⟩])
  by_cases a2 : a = 2
  · subst a2
    exact two_val h (μ 38 2) (by simp only [f_X4_now, c20, c21, if_false, if_true, n2]) (by simp only [f_X5_now, c20, c21, if_false, if_true]; rw [ld38 μ 2 2 ⟨rfl, by decide⟩])
  by_cases a3 : a = 3
  · obtain ⟨r, l1, l2⟩ : ∃ r, f_X0_landedShips μ = some r ∧ f_X5_landed μ = some r := ⟨_, landed2 h⟩
    exact two_val h r (by simp only [f_X4_now, if_neg a0, if_neg a1, if_neg a2, if_pos a3, l1, bdr_s]) (by simp only [f_X5_now, if_neg a0, if_neg a1, if_neg a2, if_pos a3, l2, bdr_s])
  by_cases a4 : a = 4
  · obtain ⟨r, l1, l2⟩ := hungry2 h
    exact two_val h r (by simp only [f_X4_now, if_neg a0, if_neg a1, if_neg a2, if_neg a3, if_pos a4, l1, bdr_s]) (by simp only [f_X5_now, if_neg a0, if_neg a1, if_neg a2, if_neg a3, if_pos a4, l2, bdr_s])
  by_cases a5 : a = 5
  · obtain ⟨r, l1, l2⟩ := islands2 h
    exact two_val h r (by simp only [f_X4_now, if_neg a0, if_neg a1, if_neg a2, if_neg a3, if_neg a4, if_pos a5, l1, bdr_s]) (by simp only [f_X5_now, if_neg a0, if_neg a1, if_neg a2, if_neg a3, if_neg a4, if_pos a5, l2, bdr_s])
  · exact two_find h (-1000001) 0 (by decide) (by simp only [f_X4_now, if_neg a0, if_neg a1, if_neg a2, if_neg a3, if_neg a4, if_neg a5, bdw_id]) (fun m hm => by simp only [f_X5_now, if_neg a0, if_neg a1, if_neg a2, if_neg a3, if_neg a4, if_neg a5, bdw_id])
/-! bits -/
theorem bits2 : ∀ n, n < 256 → f_X5_bits (nI n) = f_J6_bitCount_0f7a4 (nI n) ∧ ((f_J6_bitCount_0f7a4 (nI n)).map (fun b => decide (0 ≤ b) && decide (b ≤ 8))) = some true := by decide +kernel
theorem fo4_n (F : Nat → Int32 → Int32) (x : Int32) : fo F 0 4 x = F 3 (F 2 (F 1 (F 0 x))) := rfl
theorem landed_n (μ : MM) : ∃ n : Nat, n < 256 ∧ fo (fun i x => if ldF μ i = 0 then x else x ||| sl 1 (nI i)) 0 4 0 = nI n := by
  rw [fo4_n]
  by_cases h0 : ldF μ 0 = 0 <;> by_cases h1 : ldF μ 1 = 0 <;> by_cases h2 : ldF μ 2 = 0 <;> by_cases h3 : ldF μ 3 = 0 <;> simp only [h0, h1, h2, h3, if_true, if_false]
  · exact ⟨0, by decide, by decide⟩
  · exact ⟨8, by decide, by decide⟩
  · exact ⟨4, by decide, by decide⟩
  · exact ⟨12, by decide, by decide⟩
  · exact ⟨2, by decide, by decide⟩
  · exact ⟨10, by decide, by decide⟩
  · exact ⟨6, by decide, by decide⟩
  · exact ⟨14, by decide, by decide⟩
  · exact ⟨1, by decide, by decide⟩
  · exact ⟨9, by decide, by decide⟩
  · exact ⟨5, by decide, by decide⟩
  · exact ⟨13, by decide, by decide⟩
  · exact ⟨3, by decide, by decide⟩
  · exact ⟨11, by decide, by decide⟩
  · exact ⟨7, by decide, by decide⟩
  · exact ⟨15, by decide, by decide⟩
/-- how many a set has, on both sides -/
theorem bits_n {n : Nat} (h : n < 256) : ∃ b : Nat, b ≤ 8 ∧ f_J6_bitCount_0f7a4 (nI n) = some (nI b) ∧ f_X5_bits (nI n) = some (nI b) := by
  obtain ⟨e1, e2⟩ := bits2 n h
  cases hb : f_J6_bitCount_0f7a4 (nI n) with
  | none => rw [hb] at e2; cases e2
  | some v =>
    rw [hb] at e1 e2
    have e3 := Option.some.inj e2
    rw [Bool.and_eq_true, decide_eq_true_eq, decide_eq_true_eq] at e3
    obtain ⟨b, hb8, rfl⟩ := nI_of2 (n := 8) (M := 8) (by decide) (Int32.not_lt.mpr e3.1) e3.2
    exact ⟨b, hb8, rfl, e1⟩
theorem landed3 {μ : MM} (h : Rel μ) : ∃ n : Nat, n < 256 ∧ f_X0_landedShips μ = some (nI n) ∧ f_X5_landed μ = some (nI n) := by
  obtain ⟨l1, l2⟩ := landed2 h
  obtain ⟨n, hn, e⟩ := landed_n μ
  rw [e] at l1 l2
  exact ⟨n, hn, l1, l2⟩
theorem hsum2 {μ : MM} (h : Rel μ) : ∃ r, f_X0_hungerOfAll μ = some r ∧ L_X5_count_77 μ FU 0 0 = some (r, μ) := by
  obtain ⟨n, hn8, hn, hc, hcx⟩ := h.cats
  refine ⟨fo (fun i x => x + (μ 38 (128 + 3 * i + 1))) 0 n 0, ?_, ?_⟩
  · unfold f_X0_hungerOfAll
    refine loop0 (L_X0_hungerOfAll_4 μ) n _ some (fun fu x i hi => ?_) (fun fu x => ?_) (by omega) 0
    · rw [L_X0_hungerOfAll_4, if_neg (ge_n hcx (by omega) hi), ldi_n (by omega) (by decide), (h.1.cat1 (by omega)).2.1]
      simp only [lt_s_, nI_1]
    · rw [L_X0_hungerOfAll_4, if_pos (le_n hcx)]
  · refine loop0 (L_X5_count_77 μ) n _ (fun x => some (x, μ)) (fun fu x i hi => ?_) (fun fu x => ?_) (by omega) 0
    · rw [L_X5_count_77, ld38 μ 4 4 ⟨rfl, by decide⟩, if_neg (ge_n hc (by omega) hi), catIs1 (by omega)]
      simp only [bdr_s, lt_s_, nI_1]
    · rw [L_X5_count_77, ld38 μ 4 4 ⟨rfl, by decide⟩, if_pos (le_n hc)]
theorem spots2 {μ : MM} (h : Rel μ) : ∃ r, f_X0_spotsHeld μ = some r ∧ L_X5_count_118 μ FU 0 0 = some (r, μ) := by
  refine ⟨fo (fun i x => if μ 38 (6 + i) < 0 then x else x + 1) 0 10 0, ?_, ?_⟩
  · unfold f_X0_spotsHeld
    refine loop0 (L_X0_spotsHeld_4 μ) 10 _ some (fun fu x i hi => ?_) (fun fu x => ?_) (by omega) 0
    · rw [L_X0_spotsHeld_4, if_neg (ge_n (z := 10) (N := 10) rfl (by omega) hi), ldi_n hi (by decide), h.1.spot1 hi]
      simp only [jn1_s, lt_s_, nI_1]
      by_cases q : μ 38 (6 + i) < 0
      · rw [if_pos q, if_pos q]
      · rw [if_neg q, if_neg q]
    · rw [L_X0_spotsHeld_4, if_pos (le_n (z := 10) (N := 10) rfl)]
  · refine loop0 (L_X5_count_118 μ) 10 _ (fun x => some (x, μ)) (fun fu x i hi => ?_) (fun fu x => ?_) (by omega) 0
    · rw [L_X5_count_118, if_neg (ge_n (z := 10) (N := 10) rfl (by omega) hi), show (6 : Int32) = nI 6 from rfl, nI_add, ldi_n (by omega) (by decide)]
      simp only [jn1_s, lt_s_, nI_1]
      by_cases q : μ 38 (6 + i) < 0
      · rw [if_pos q, if_neg (Int32.not_le.mpr q), Int32.add_zero]
      · rw [if_neg q, if_pos (Int32.not_lt.mp q)]
    · rw [L_X5_count_118, if_pos (le_n (z := 10) (N := 10) rfl)]
theorem s_count (a : Int32) : Two (f_X4_count a) (f_X5_count a) := by
  intro μ h
  obtain ⟨n1, n2, n3, n4, n5, n6⟩ := h.1.num
  obtain ⟨nt, hnt, t1, t2, t3⟩ := h.2.2.2.2.1
  by_cases a0 : a = 0
  · exact two_val h (μ 38 0) (by simp only [f_X4_count, if_pos a0, n5]) (by simp only [f_X5_count, if_pos a0]; rw [ld38 μ 0 0 ⟨rfl, by decide⟩])
  by_cases a1 : a = 1
  · exact two_val h (μ 38 4) (by simp only [f_X4_count, if_neg a0, if_pos a1, n1]) (by simp only [f_X5_count, if_neg a0, if_pos a1]; rw [ld38 μ 4 4 ⟨rfl, by decide⟩])
  by_cases a2 : a = 2
  · obtain ⟨r, l1, l2⟩ := islands2 h
    exact two_val h r (by simp only [f_X4_count, if_neg a0, if_neg a1, if_pos a2, l1, bdr_s]) (by simp only [f_X5_count, if_neg a0, if_neg a1, if_pos a2, l2, bdr_s])
  by_cases a3 : a = 3
  · obtain ⟨n, hn, l1, l2⟩ := landed3 h
    obtain ⟨b, _, b1, b2⟩ := bits_n hn
    exact two_val h (nI b) (by simp only [f_X4_count, if_neg a0, if_neg a1, if_neg a2, if_pos a3, l1, b1, bdr_s]) (by simp only [f_X5_count, if_neg a0, if_neg a1, if_neg a2, if_pos a3, l2, b2, bdr_s])
  by_cases a4 : a = 4
  · obtain ⟨r, l1, l2⟩ := hsum2 h
    exact two_val h r (by simp only [f_X4_count, if_neg a0, if_neg a1, if_neg a2, if_neg a3, if_pos a4, l1, bdr_s]) (by simp only [f_X5_count, if_neg a0, if_neg a1, if_neg a2, if_neg a3, if_pos a4, l2])
  by_cases a5 : a = 5
  · exact two_val h (nI nt) (by simp only [f_X4_count, if_neg a0, if_neg a1, if_neg a2, if_neg a3, if_neg a4, if_pos a5, t1]) (by simp only [f_X5_count, if_neg a0, if_neg a1, if_neg a2, if_neg a3, if_neg a4, if_pos a5, t2])
  by_cases a6 : a = 6
  · exact two_val h (μ 38 5) (by simp only [f_X4_count, if_neg a0, if_neg a1, if_neg a2, if_neg a3, if_neg a4, if_neg a5, if_pos a6, n6]) (by simp only [f_X5_count, if_neg a0, if_neg a1, if_neg a2, if_neg a3, if_neg a4, if_neg a5, if_pos a6]; rw [ld38 μ 5 5 ⟨rfl, by decide⟩])
  by_cases a7 : a = 7
  · obtain ⟨r, l1, l2⟩ := spots2 h
    exact two_val h r (by simp only [f_X4_count, if_neg a0, if_neg a1, if_neg a2, if_neg a3, if_neg a4, if_neg a5, if_neg a6, if_pos a7, l1, bdr_s]) (by simp only [f_X5_count, if_neg a0, if_neg a1, if_neg a2, if_neg a3, if_neg a4, if_neg a5, if_neg a6, if_pos a7, l2])
  · exact two_find h (-1000001) 0 (by decide) (by simp only [f_X4_count, if_neg a0, if_neg a1, if_neg a2, if_neg a3, if_neg a4, if_neg a5, if_neg a6, if_neg a7, bdw_id]) (fun m hm => by simp only [f_X5_count, if_neg a0, if_neg a1, if_neg a2, if_neg a3, if_neg a4, if_neg a5, if_neg a6, if_neg a7, bdw_id])
