theorem xHas {z : Nat} (hz : z ≤ 40) (k : Nat) (p c : Int32) {μ : MM} (e : μ k 1 = nI z) : f_X2_has k p c μ = some (if 0 ≤ p.toInt ∧ 0 ≤ c.toInt ∧ p.toInt + c.toInt ≤ z then 1 else 0) := by
  unfold f_X2_has
  rw [e]
  by_cases q1 : p < 0
  · rw [if_pos q1, if_neg (fun y => by have := Int32.lt_iff_toInt_lt.mp q1; have := y.1; simp at *; omega)]
  by_cases q2 : c < 0
  · rw [if_neg q1, if_pos q2, if_neg (fun y => by have := Int32.lt_iff_toInt_lt.mp q2; have := y.2.1; simp at *; omega)]
  rw [if_neg q1, if_neg q2]
  obtain ⟨a, ha, rfl⟩ := nI_of q1
  obtain ⟨b, hb, rfl⟩ := nI_of q2
  rw [nI_toInt ha, nI_toInt hb]
  by_cases q3 : nI z < nI a
  · rw [if_pos q3, if_neg (fun y => by rw [fa_lt', nI_toInt ha, nI_toInt (by omega)] at q3; omega)]
  · rw [if_neg q3]
    have h3 : a ≤ z := by
      rw [fa_lt', nI_toInt ha, nI_toInt (by omega)] at q3
      omega
    have e2 : nI z - nI a = nI (z - a) := by
      rw [show z = (z - a) + a by omega, ← nI_add, Int32.add_sub_cancel, show (z - a) + a - a = z - a by omega]
    rw [e2]
    by_cases q4 : nI (z - a) < nI b
    · rw [if_pos q4, if_neg (fun y => by rw [fa_lt', nI_toInt hb, nI_toInt (by omega)] at q4; omega)]
    · rw [if_neg q4, if_pos (by rw [fa_lt', nI_toInt hb, nI_toInt (by omega)] at q4; omega)]
theorem sum64 (p c : Int32) : (p.toInt64 + c.toInt64).toInt = p.toInt + c.toInt := by
  rw [Int64.toInt_add, Int32.toInt_toInt64, Int32.toInt_toInt64]
  have a1 := p.toInt_lt
  have a2 := p.le_toInt
  have b1 := c.toInt_lt
  have b2 := c.le_toInt
  exact Int.bmod_eq_of_le (by omega) (by omega)
theorem cmp_gt (p c x : Int32) : (0 < lg_cmp (p.toInt64 + c.toInt64) x.toInt64) ↔ x.toInt < p.toInt + c.toInt := by
  rw [lg_cmp_gt, Int64.lt_iff_toInt_lt, sum64, Int32.toInt_toInt64]
theorem cmp_le (p c x : Int32) : (lg_cmp (p.toInt64 + c.toInt64) x.toInt64 ≤ 0) ↔ p.toInt + c.toInt ≤ x.toInt := by
  rw [lg_cmp_le, Int64.le_iff_toInt_le, sum64, Int32.toInt_toInt64]
theorem copy128 {s a c : Nat} (hs : s < 4) (hc : a + c ≤ 40) (k1 : MM → Option (Int32 × MM)) : ∀ (d i fu : Nat) (μ : MM), i + d = c → d < fu → ∃ μ', L_X5_copy_128 (nI s) (nI a) (nI c) k1 fu (nI i) μ = k1 μ' ∧ (∀ k, k ≠ 50 → μ' k = μ k) ∧ (∀ x, x < i → μ' 50 x = μ 50 x) ∧ ∀ x, i ≤ x → x < c → μ' 50 x = μ 49 (40 * s + a + x) := by
  intro d
  induction d with
  | zero =>
    intro i fu μ hi hf
    obtain ⟨f, rfl⟩ : ∃ f, fu = f + 1 := ⟨fu - 1, by omega⟩
    have e : i = c := by omega
    subst e
    exact ⟨μ, by rw [L_X5_copy_128, if_pos (Int32.le_refl _)], fun _ _ => rfl, fun _ _ => rfl, fun x a b => by omega⟩
  | succ d ih =>
    intro i fu μ hi hf
    obtain ⟨f, rfl⟩ : ∃ f, fu = f + 1 := ⟨fu - 1, by omega⟩
    obtain ⟨μ', e1, e2, e3, e4⟩ := ih (i + 1) f (wst μ 50 i (μ 49 (40 * s + a + i))) (by omega) (by omega)
    refine ⟨μ', ?_, fun k hk => (e2 k hk).trans (wst_o hk), fun x hx => (e3 x (by omega)).trans (by rw [wst_at, upd_o (by omega)]), fun x a b => ?_⟩
    · rw [L_X5_copy_128, if_neg (nI_ge (by omega) (by omega)), show (40 : Int32) = nI 40 from rfl, pk_mul, nI_add, nI_add, ldi_n (show 40 * s + a + i < 160 by omega) (by decide), sti_n (n := 40) (j := i) (by omega) (by decide), lt_s_, nI_1]
      exact e1
    · by_cases q : x = i
      · subst q
        rw [e3 x (by omega), wst_at, upd_at]
      · rw [e4 x (by omega) b, wst_o (by decide)]
theorem copy165 {s a c : Nat} (hs : s < 4) (hc : a + c ≤ 40) : ∀ (d i fu : Nat) (μ : MM), i + d = c → d < fu → ∃ μ', L_X5_copy_165 (nI s) (nI a) (nI c) fu (nI i) μ = some (nI c, μ') ∧ (∀ k, k ≠ 49 → μ' k = μ k) ∧ (∀ y, (y < 40 * s + a + i ∨ 40 * s + a + c ≤ y) → μ' 49 y = μ 49 y) ∧ ∀ x, i ≤ x → x < c → μ' 49 (40 * s + a + x) = μ 50 x := by
  intro d
  induction d with
  | zero =>
    intro i fu μ hi hf
    obtain ⟨f, rfl⟩ : ∃ f, fu = f + 1 := ⟨fu - 1, by omega⟩
    have e : i = c := by omega
    subst e
    exact ⟨μ, by rw [L_X5_copy_165, if_pos (Int32.le_refl _)], fun _ _ => rfl, fun _ _ => rfl, fun x a b => by omega⟩
  | succ d ih =>
    intro i fu μ hi hf
    obtain ⟨f, rfl⟩ : ∃ f, fu = f + 1 := ⟨fu - 1, by omega⟩
    obtain ⟨μ', e1, e2, e3, e4⟩ := ih (i + 1) f (wst μ 49 (40 * s + a + i) (μ 50 i)) (by omega) (by omega)
    refine ⟨μ', ?_, fun k hk => (e2 k hk).trans (wst_o hk), fun x hx => (e3 x (by omega)).trans (by rw [wst_at, upd_o (by omega)]), fun x a b => ?_⟩
    · rw [L_X5_copy_165, if_neg (nI_ge (by omega) (by omega)), show (40 : Int32) = nI 40 from rfl, pk_mul, nI_add, nI_add, ldi_n (show i < 40 by omega) (by decide), sti_n (n := 160) (j := 40 * s + a + i) (by omega) (by decide), lt_s_, nI_1]
      exact e1
    · by_cases q : x = i
      · subst q
        rw [e3 _ (by omega), wst_at, upd_at]
      · rw [e4 x (by omega) b, wst_o (by decide)]
theorem s_copy (p1 p2 p3 p4 p5 : Int32) : Two (f_X4_copy p1 p2 p3 p4 p5) (f_X5_copy p1 p2 p3 p4 p5) := by
  intro μ h
  by_cases q : wi p1 0 3 = 0
  · exact two_find h (-1000001) 0 (by decide) (by simp only [f_X4_copy, xSheet, bdr_s, if_pos q, bdw_id]) (fun m _ => by simp only [f_X5_copy, mSheet, bdr_s, if_pos q, bdw_id])
  by_cases q2 : wi p3 0 3 = 0
  · exact two_find h (-1000001) 0 (by decide) (by simp only [f_X4_copy, xSheet, bdr_s, if_neg q, if_pos q2, bdw_id]) (fun m _ => by simp only [f_X5_copy, mSheet, bdr_s, if_neg q, if_pos q2, bdw_id])
  obtain ⟨s, hs, rfl⟩ := wi_n (N := 3) (by decide) q
  obtain ⟨t, ht, rfl⟩ := wi_n (N := 3) (by decide) q2
  have hs4 : s < 4 := by omega
  have ht4 : t < 4 := by omega
  obtain ⟨r1, r2, r3, ⟨z, hz, ez⟩, r5⟩ := h.2.2.2.2.2.1 s hs4
  obtain ⟨t1, t2, t3, ⟨y, hy, ey⟩, t5⟩ := h.2.2.2.2.2.1 t ht4
  have xe : f_X4_copy (nI s) p2 (nI t) p4 p5 μ = if μ 47 s = 0 then f_X4_finding (-1000006) μ else if μ 47 t = 0 then f_X4_finding (-1000006) μ else if μ 47 s = μ 47 t then (if (0 ≤ p2.toInt ∧ 0 ≤ p5.toInt ∧ p2.toInt + p5.toInt ≤ z) ∧ 0 ≤ p4.toInt ∧ 0 ≤ p5.toInt ∧ p4.toInt + p5.toInt ≤ y then acp μ (27 + 2 * s) 40 (27 + 2 * t) 40 p2 p4 p5 fun m4 => some (p5, m4) else f_X4_finding (-1000001) μ) else f_X4_finding (-1000003) μ := by
    simp only [f_X4_copy, xSheet, bdr_s, if_neg q, if_neg q2]
    rw [ldq_n hs4 (by decide), ldq_n ht4 (by decide), missing_s, missing_s, xHas hz _ _ _ (r2.trans ez), xHas hy _ _ _ (t2.trans ey)]
    simp only [bdr_s, r1, t1, bdw_id, show 26 + 2 * s + 1 = 27 + 2 * s by omega, show 26 + 2 * t + 1 = 27 + 2 * t by omega]
    by_cases g1 : μ 47 s = 0
    · simp only [if_pos g1]
      rw [if_neg (by decide)]
    by_cases g2 : μ 47 t = 0
    · simp only [if_neg g1, if_pos g2]
      rw [if_pos trivial, if_neg (by decide)]
    simp only [if_neg g1, if_neg g2, if_true]
    by_cases g3 : μ 47 s = μ 47 t
    · simp only [if_pos g3]
      by_cases g4 : 0 ≤ p2.toInt ∧ 0 ≤ p5.toInt ∧ p2.toInt + p5.toInt ≤ z
      · by_cases g5 : 0 ≤ p4.toInt ∧ 0 ≤ p5.toInt ∧ p4.toInt + p5.toInt ≤ y
        · simp only [if_pos g4, if_pos g5]
          rw [if_neg (by decide), if_neg (by decide), if_pos ⟨g4, g5⟩]
        · simp only [if_pos g4, if_neg g5]
          rw [if_neg (by decide), if_pos trivial, if_neg (fun e => g5 e.2)]
      · simp only [if_neg g4]
        rw [if_pos trivial, if_neg (fun e => g4 e.1)]
    · simp only [if_neg g3]
  have me : ∀ m : MM, (∀ k, 37 ≤ k → m k = μ k) → f_X5_copy (nI s) p2 (nI t) p4 p5 m = if μ 47 s = 0 then f_X5_finding (-1000006) m else if μ 47 t = 0 then f_X5_finding (-1000006) m else if μ 47 s = μ 47 t then (if (0 ≤ p2.toInt ∧ 0 ≤ p5.toInt ∧ p2.toInt + p5.toInt ≤ z) ∧ 0 ≤ p4.toInt ∧ 0 ≤ p5.toInt ∧ p4.toInt + p5.toInt ≤ y then L_X5_copy_128 (nI s) p2 p5 (fun m7 => L_X5_copy_165 (nI t) p4 p5 FU 0 m7) FU 0 m else f_X5_finding (-1000001) m) else f_X5_finding (-1000003) m := by
    intro m em
    have L : ∀ {β : Type} (j : Nat) (hj : j < 4) (k : Nat) (f : Int32 → Option β), ldi m k 4 (nI j) f = f (m k j) := fun j hj k f => ldi_n hj (by decide)
    simp only [f_X5_copy, mSheet, bdr_s, if_neg q, if_neg q2, L s hs4, L t ht4, em 47 (by decide), em 48 (by decide), bdw_id, cmp_gt, cmp_le, jn1_s, ez, ey, nI_toInt (show z < 2 ^ 31 by omega), nI_toInt (show y < 2 ^ 31 by omega)]
    simp only [fa_lt']
    by_cases g1 : μ 47 s = 0
    · simp only [if_pos g1]
    by_cases g2 : μ 47 t = 0
    · simp only [if_neg g1, if_pos g2]
    simp only [if_neg g1, if_neg g2]
    by_cases g3 : μ 47 s = μ 47 t
    · simp only [if_pos g3]
      have z0 : (0 : Int32).toInt = 0 := by decide
      simp only [z0]
      by_cases a1 : p2.toInt < 0
      · rw [if_pos a1, if_neg (by omega)]
      by_cases a2 : p4.toInt < 0
      · rw [if_neg a1, if_pos a2, if_neg (by omega)]
      by_cases a3 : p5.toInt < 0
      · rw [if_neg a1, if_neg a2, if_pos a3, if_neg (by omega)]
      by_cases a4 : (z : Int) < p2.toInt + p5.toInt
      · rw [if_neg a1, if_neg a2, if_neg a3, if_pos a4, if_neg (by omega)]
      by_cases a5 : p4.toInt + p5.toInt ≤ (y : Int)
      · rw [if_neg a1, if_neg a2, if_neg a3, if_neg a4, if_pos a5, if_pos (by omega)]
      · rw [if_neg a1, if_neg a2, if_neg a3, if_neg a4, if_neg a5, if_neg (by omega)]
    · simp only [if_neg g3]
  by_cases g1 : μ 47 s = 0
  · exact two_find h (-1000006) 5 (by decide) (by rw [xe, if_pos g1]) (fun m hm => by rw [me m (fun k hk => hm k (by omega)), if_pos g1])
  by_cases g2 : μ 47 t = 0
  · exact two_find h (-1000006) 5 (by decide) (by rw [xe, if_neg g1, if_pos g2]) (fun m hm => by rw [me m (fun k hk => hm k (by omega)), if_neg g1, if_pos g2])
  by_cases g3 : μ 47 s = μ 47 t
  rotate_left
  · exact two_find h (-1000003) 2 (by decide) (by rw [xe, if_neg g1, if_neg g2, if_neg g3]) (fun m hm => by rw [me m (fun k hk => hm k (by omega)), if_neg g1, if_neg g2, if_neg g3])
  by_cases g4 : (0 ≤ p2.toInt ∧ 0 ≤ p5.toInt ∧ p2.toInt + p5.toInt ≤ z) ∧ 0 ≤ p4.toInt ∧ 0 ≤ p5.toInt ∧ p4.toInt + p5.toInt ≤ y
  rotate_left
  · exact two_find h (-1000001) 0 (by decide) (by rw [xe, if_neg g1, if_neg g2, if_pos g3, if_neg g4]) (fun m hm => by rw [me m (fun k hk => hm k (by omega)), if_neg g1, if_neg g2, if_pos g3, if_neg g4])
  have N0 : ∀ p : Int32, 0 ≤ p.toInt → ¬ p < 0 := fun p e y => by
    rw [fa_lt'] at y
    have z0 : (0 : Int32).toInt = 0 := by decide
    omega
  obtain ⟨a, ha, rfl⟩ := nI_of (N0 p2 g4.1.1)
  obtain ⟨b, hb, rfl⟩ := nI_of (N0 p4 g4.2.1)
  obtain ⟨c, hc, rfl⟩ := nI_of (N0 p5 g4.2.2.1)
  have g5 := g4
  rw [nI_toInt ha, nI_toInt hb, nI_toInt hc] at g5
  have hac : a + c ≤ z := by omega
  have hbc : b + c ≤ y := by omega
  have xa : acp μ (27 + 2 * s) 40 (27 + 2 * t) 40 (nI a) (nI b) (nI c) (fun m4 => some (nI c, m4)) = some (nI c, wsr μ (27 + 2 * t) (va_cpy (μ (27 + 2 * s)) (μ (27 + 2 * t)) a b c)) := by
    unfold acp
    rw [nI_clamp ha, nI_clamp hb, nI_clamp hc, if_pos ⟨nI_pos ha, nI_pos hb, nI_pos hc, by omega, by omega⟩]
  generalize e1 : wsr μ (27 + 2 * t) (va_cpy (μ (27 + 2 * s)) (μ (27 + 2 * t)) a b c) = μ1 at xa
  have o1 : ∀ k, k ≠ 27 + 2 * t → μ1 k = μ k := fun k hk => by rw [← e1, wsr_ne hk]
  obtain ⟨μ2, b1, b2, b3, b4⟩ := copy128 hs4 (show a + c ≤ 40 by omega) (fun m7 => L_X5_copy_165 (nI t) (nI b) (nI c) FU 0 m7) c 0 FU μ1 (by omega) (show c < 4096 by omega)
  obtain ⟨μ3, c1, c2, c3, c4⟩ := copy165 ht4 (show b + c ≤ 40 by omega) c 0 FU μ2 (by omega) (show c < 4096 by omega)
  refine ⟨nI c, μ1, μ3, ?_, ?_, ?_⟩
  · rw [xe, if_neg g1, if_neg g2, if_pos g3, if_pos g4, xa]
  · rw [me μ1 (fun k hk => o1 k (by omega)), if_neg g1, if_neg g2, if_pos g3, if_pos g4]
    exact b1.trans c1
  · have o3 : ∀ k, k ≠ 27 + 2 * t → k ≠ 49 → k ≠ 50 → μ3 k = μ k := fun k p q r => by rw [c2 k q, b2 k r, o1 k p]
    refine Rel_sheet h (fun k a1 a2 a3 a4 a5 => o3 k (by omega) a4 a5) (fun j' hj' => ?_)
    obtain ⟨s1, s2, s3, s4, s5⟩ := h.2.2.2.2.2.1 j' hj'
    rw [o3 _ (by omega) (by omega) (by omega), o3 47 (by omega) (by omega) (by omega), o3 48 (by omega) (by omega) (by omega)]
    refine ⟨s1, s2, fun i hi => ?_, s4, s5⟩
    rw [c2 _ (by omega), b2 _ (by omega)]
    have e49 : μ2 49 = μ 49 := by rw [b2 49 (by decide), o1 49 (by omega)]
    by_cases yj : j' = t
    · subst yj
      rw [← e1, wsr_same]
      by_cases y1 : b ≤ i ∧ i < b + c
      · obtain ⟨x, rfl⟩ : ∃ x, i = b + x := ⟨i - b, by omega⟩
        rw [pk_cpy_in y1.1 y1.2, r3 _ (by omega), show 40 * j' + (b + x) = 40 * j' + b + x by omega, c4 x (by omega) (by omega), b4 x (by omega) (by omega), o1 49 (by omega)]
        congr 1
        omega
      · rw [pk_cpy_out (by omega), s3 i hi, c3 _ (by omega), e49]
    · rw [o1 _ (by omega), s3 i hi, c3 _ (by omega), e49]
