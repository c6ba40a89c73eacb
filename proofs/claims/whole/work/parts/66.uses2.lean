/-- one WATCH of any row -/
theorem watch1 {μ : MM} {n : Nat} (hV : VW (μ 38) n) (hC : RC μ) : ∃ μ', f_X5_watch μ = some μ' ∧ (∀ k, k ≠ 38 → μ' k = μ k) ∧ VW (μ' 38) n ∧ ∀ c, c < n → μ' 38 (128 + 3 * c + 1) = imin (μ 38 (128 + 3 * c + 1) + nI 1) 99 := by
  have hn := hV.le
  obtain ⟨μ', e, a, b⟩ := mWatch (g := μ 38) (n := n) (m := 0) hV hC (by decide) (fun i hi => (wt_0 hV hi).symm)
  refine ⟨μ', e, a, VW_cong (fun i hi _ => (b i hi).trans (by unfold wj; rw [if_neg (by omega)])) (VW_wj (g := μ 38) (m := 0 + 1) (j := 0) hV (by omega) (by decide)), fun c hc => ?_⟩
  rw [b _ (by omega), wt_hun hc]
/-- the reference thinks of feeding: before WATCH k -/
def Us (μ0 : MM) (n h k : Nat) (μ : MM) : Prop := (∀ q, q ≠ 38 → q ≠ 40 → μ q = μ0 q) ∧ (∀ i, i < 152 → μ 40 i = μ0 38 i) ∧ VW (μ 38) n ∧ ∀ c, c < n → μ 38 (128 + 3 * c + 1) = nI (hu h (hg (μ0 38) c) k)
theorem used25 {μ0 : MM} {n h k U : Nat} (hV : VW (μ0 38) n) (h99 : h ≤ 99) (k1 : Int32 → MM → Option (Int32 × MM)) : ∀ (d i fu : Nat) (m : MM), i + d = n → d < fu → (∀ q, q ≠ 38 → q ≠ 40 → m q = μ0 q) → (∀ i, i < 152 → m 40 i = μ0 38 i) → VW (m 38) n → (∀ c, c < n → m 38 (128 + 3 * c + 1) = nI (if c < i ∧ h ≤ hu h (hg (μ0 38) c) k then 0 else hu h (hg (μ0 38) c) k)) → ∃ m', L_X5_usedIn_25 (nI h) k1 fu (nI (U + sumN (fun c => if h ≤ hu h (hg (μ0 38) c) k then 1 else 0) i)) (nI i) m = k1 (nI (U + sumN (fun c => if h ≤ hu h (hg (μ0 38) c) k then 1 else 0) n)) m' ∧ (∀ q, q ≠ 38 → q ≠ 40 → m' q = μ0 q) ∧ (∀ i, i < 152 → m' 40 i = μ0 38 i) ∧ VW (m' 38) n ∧ (∀ c, c < n → m' 38 (128 + 3 * c + 1) = nI (if h ≤ hu h (hg (μ0 38) c) k then 0 else hu h (hg (μ0 38) c) k)) := by
  have hn := hV.le
  intro d
  induction d with
  | zero =>
    intro i fu m hi hf g1 g2 g3 g4
    obtain ⟨f, rfl⟩ : ∃ f, fu = f + 1 := ⟨fu - 1, by omega⟩
    have e : i = n := by omega
    subst e
    refine ⟨m, ?_, g1, g2, g3, fun c hc => ?_⟩
    · rw [L_X5_usedIn_25, ld38 m 4 4 ⟨rfl, by decide⟩, g3.cats, if_pos (Int32.le_refl _)]
    · rw [g4 c hc]
      by_cases q : h ≤ hu h (hg (μ0 38) c) k
      · rw [if_pos ⟨hc, q⟩, if_pos q]
      · rw [if_neg (fun z => q z.2), if_neg q]
  | succ d ih =>
    intro i fu m hi hf g1 g2 g3 g4
    obtain ⟨f, rfl⟩ : ∃ f, fu = f + 1 := ⟨fu - 1, by omega⟩
    have hl := hu_le (h := h) (hg_s hV (show i < 8 by omega)).2 k
    have hi4 := g4 i (by omega)
    rw [if_neg (fun z => by omega)] at hi4
    rw [L_X5_usedIn_25, ld38 m 4 4 ⟨rfl, by decide⟩, g3.cats, if_neg (nI_ge (by omega) (by omega)), catIs1 (by omega), bdr_s, at1, hi4]
    simp only [jn2_s, bdr_s]
    rw [sti_n (n := 152) (j := 128 + 3 * i + 1) (by omega) (by decide)]
    simp only [lt_s_, nI_1]
    by_cases q : h ≤ hu h (hg (μ0 38) i) k
    · rw [if_neg (fun z => by
        have := (lt_n (by omega) (by omega)).mp z
        omega)]
      have es : U + sumN (fun c => if h ≤ hu h (hg (μ0 38) c) k then 1 else 0) i + 1 = U + sumN (fun c => if h ≤ hu h (hg (μ0 38) c) k then 1 else 0) (i + 1) := by
        show _ = U + (sumN (fun c => if h ≤ hu h (hg (μ0 38) c) k then 1 else 0) i + if h ≤ hu h (hg (μ0 38) i) k then 1 else 0)
        rw [if_pos q]
        omega
      rw [es]
      refine ih (i + 1) f (wst m 38 (128 + 3 * i + 1) 0) (by omega) (by omega) (fun k a b => by rw [wst_o a, g1 k a b]) (fun j hj => by rw [wst_o (by decide), g2 j hj]) ?_ (fun c hc => ?_)
      · rw [wst_at]
        exact VW_upd g3 (Or.inr ((ok_cat (by omega) _).2.1.mpr ⟨0, by decide, rfl⟩))
      · rw [wst_at]
        by_cases y : c = i
        · subst y
          rw [upd_at, if_pos ⟨by omega, q⟩]
          rfl
        · rw [upd_o (by omega), g4 c hc]
          by_cases y2 : c < i
          · by_cases y3 : h ≤ hu h (hg (μ0 38) c) k
            · rw [if_pos ⟨y2, y3⟩, if_pos ⟨by omega, y3⟩]
            · rw [if_neg (fun z => y3 z.2), if_neg (fun z => y3 z.2)]
          · rw [if_neg (fun z => y2 z.1), if_neg (fun z => by omega)]
    · rw [if_pos ((lt_n (by omega) (by omega)).mpr (by omega))]
      have es : U + sumN (fun c => if h ≤ hu h (hg (μ0 38) c) k then 1 else 0) i = U + sumN (fun c => if h ≤ hu h (hg (μ0 38) c) k then 1 else 0) (i + 1) := by
        show _ = U + (sumN (fun c => if h ≤ hu h (hg (μ0 38) c) k then 1 else 0) i + if h ≤ hu h (hg (μ0 38) i) k then 1 else 0)
        rw [if_neg q]
        omega
      rw [es]
      refine ih (i + 1) f m (by omega) (by omega) g1 g2 g3 (fun c hc => ?_)
      rw [g4 c hc]
      by_cases y : c = i
      · subst y
        rw [if_neg (fun z => q z.2), if_neg (fun z => q z.2)]
      · by_cases y2 : c < i
        · by_cases y3 : h ≤ hu h (hg (μ0 38) c) k
          · rw [if_pos ⟨y2, y3⟩, if_pos ⟨by omega, y3⟩]
          · rw [if_neg (fun z => y3 z.2), if_neg (fun z => y3 z.2)]
        · rw [if_neg (fun z => y2 z.1), if_neg (fun z => by omega)]
theorem us_succ (g : Nat → Int32) (n h k : Nat) : us g n h (k + 1) = us g n h k + sumN (fun c => if h ≤ hu h (hg g c) k then 1 else 0) n := by
  unfold us
  rw [← sumN_add]
  rfl
theorem used16 {μ0 : MM} {n h N : Nat} (hV : VW (μ0 38) n) (hC : RC μ0) (hN : N ≤ 200) (h99 : h ≤ 99) : ∀ (d i fu : Nat) (m : MM), i + d = N → d < fu → Us μ0 n h i m → ∃ m', L_X5_usedIn_16 (nI N) (nI h) fu (nI (us (μ0 38) n h i)) (nI i) m = some (nI (us (μ0 38) n h N), m') ∧ Bk μ0 m' := by
  intro d
  induction d with
  | zero =>
    intro i fu m hi hf hm
    obtain ⟨f, rfl⟩ : ∃ f, fu = f + 1 := ⟨fu - 1, by omega⟩
    have e : i = N := by omega
    subst e
    refine ⟨wsr m 38 (fun j => if j < 152 then m 40 j else m 38 j), ?_, fun q a b => ?_, fun j hj => ?_⟩
    · rw [L_X5_usedIn_16, if_pos (Int32.le_refl _), bdw_id]
      unfold f_X5_putBack
      rw [copyRow_s (by decide), bdr_s]
    · rw [wsr_ne a, hm.1 q a b]
    · rw [wsr_same, if_pos hj, hm.2.1 j hj]
  | succ d ih =>
    intro i fu m hi hf hm
    obtain ⟨f, rfl⟩ : ∃ f, fu = f + 1 := ⟨fu - 1, by omega⟩
    rw [L_X5_usedIn_16, if_neg (nI_ge (by omega) (by omega)), jn2_s]
    obtain ⟨m4, a1, a2, a3, a4, a5⟩ := used25 (U := us (μ0 38) n h i) (k := i) hV h99 (fun (x4 : Int32) (m4 : MM) => bdr (f_X5_watch m4) fun m5 => lt_ (nI i + 1) fun x5 => L_X5_usedIn_16 (nI N) (nI h) f x4 x5 m5) n 0 FU m (by omega) (show n < 4096 from Nat.lt_of_le_of_lt hV.le (by decide)) hm.1 hm.2.1 hm.2.2.1 (fun c hc => by rw [if_neg (fun z => by omega)]; exact hm.2.2.2 c hc)
    have hC4 : RC m4 := RC_fr (a2 42 (by decide) (by decide)) (a2 43 (by decide) (by decide)) hC
    obtain ⟨m5, b1, b2, b3, b4⟩ := watch1 a4 hC4
    obtain ⟨m', c1, c2⟩ := ih (i + 1) f m5 (by omega) (by omega) ⟨fun q a b => by rw [b2 q a, a2 q a b], fun j hj => by rw [b2 40 (by decide), a3 j hj], b3, fun c hc => by
      have hl := hu_le (h := h) (hg_s hV (Nat.lt_of_lt_of_le hc hV.le)).2 i
      rw [b4 c hc, a5 c hc, imin_n rfl (by split <;> omega) 1 (by decide)]
      rfl⟩
    refine ⟨m', ?_, c2⟩
    refine (show _ = _ from a1).trans ?_
    rw [b1, bdr_s, lt_s_, nI_1, ← us_succ]
    exact c1
theorem usedIn_s {μ0 : MM} {n h N : Nat} (hV : VW (μ0 38) n) (hC : RC μ0) (hN : N ≤ 200) (h99 : h ≤ 99) : ∃ m', f_X5_usedIn (nI N) (nI h) μ0 = some (nI (us (μ0 38) n h N), m') ∧ Bk μ0 m' := by
  obtain ⟨m1, e1, h1⟩ := sim_start hV
  have z0 : ∀ k, sumN (fun c => fc h (hg (μ0 38) c) 0) k = 0 := by
    intro k
    induction k with
    | zero => rfl
    | succ k ih =>
      show sumN (fun c => fc h (hg (μ0 38) c) 0) k + 0 = 0
      rw [ih]
  have hu0 : Us μ0 n h 0 m1 := ⟨h1.1, h1.2.2, h1.vw hV (by decide), fun c hc => by
    have hn := hV.le
    rw [h1.2.1 _ (by omega), wt_0 hV (by omega), (hg_s hV (by omega)).1]
    rfl⟩
  obtain ⟨m', a1, a2⟩ := used16 hV hC hN h99 N 0 FU m1 (by omega) (show N < 4096 by omega) hu0
  have e0 : us (μ0 38) n h 0 = 0 := z0 n
  rw [e0] at a1
  refine ⟨m', ?_, a2⟩
  unfold f_X5_usedIn
  rw [e1, bdr_s]
  exact a1
theorem one_99 {a : Int32} (q : ¬ wi a 1 99 = 0) : ∃ k : Nat, 1 ≤ k ∧ k ≤ 99 ∧ a = nI k := by
  rw [wi_0, fa_lt', fa_lt', show ((1 : Int32)).toInt = 1 from by decide, show ((99 : Int32)).toInt = 99 from by decide] at q
  refine ⟨a.toInt.toNat, by omega, by omega, Int32.toInt_inj.mp ?_⟩
  rw [nI_toInt (by omega)]
  omega
theorem s_uses (a b : Int32) : Two (f_X4_uses a b) (f_X5_uses a b) := by
  intro μ h
  obtain ⟨n, hV0⟩ := h.2.1
  have hV := hV0.w
  by_cases q : wi a 0 200 = 0
  · exact two_find h (-1000001) 0 (by decide) (by simp only [f_X4_uses, isWithin_s, bdr_s, if_pos q, bdw_id]) (fun m _ => by simp only [f_X5_uses, within_s, bdr_s, if_pos q, bdw_id])
  by_cases q2 : wi b 1 99 = 0
  · exact two_find h (-1000001) 0 (by decide) (by simp only [f_X4_uses, isWithin_s, bdr_s, if_neg q, if_pos q2, bdw_id]) (fun m _ => by simp only [f_X5_uses, within_s, bdr_s, if_neg q, if_pos q2, bdw_id])
  obtain ⟨N, hN, rfl⟩ := wi_n (N := 200) (by decide) q
  obtain ⟨k, hk1, hk99, rfl⟩ := one_99 q2
  obtain ⟨m', e, b⟩ := usedIn_s (μ0 := μ) hV h.2.2.2.2.2.2 hN hk99
  exact two_bk h (nI (us (μ 38) n k N)) (by simp only [f_X4_uses, isWithin_s, bdr_s, if_neg q, if_neg q2, xFed h.1 hV hN hk1 hk99]) (by simp only [f_X5_uses, within_s, bdr_s, if_neg q, if_neg q2, e, bdw_s]) b
theorem xHunger {μ : MM} {g : Nat → Int32} {n N : Nat} (hR : RN μ 1 g) (hV : VW g n) (hN : N ≤ 200) : ∀ (d i fu : Nat), i + d = 100 → 1 ≤ i → d < fu → L_X4_hunger_20 (nI N) μ fu (nI i) = match fd (fun h => decide (¬ g 1 < nI (us g n h N))) i d with | some k => some (nI k, μ) | none => f_X4_finding (-1000004) μ := by
  intro d
  induction d with
  | zero =>
    intro i fu hi h1 hf
    obtain ⟨f, rfl⟩ : ∃ f, fu = f + 1 := ⟨fu - 1, by omega⟩
    have e : i = 100 := by omega
    subst e
    rw [L_X4_hunger_20, if_pos (by decide), bdw_id]
    rfl
  | succ d ih =>
    intro i fu hi h1 hf
    obtain ⟨f, rfl⟩ : ∃ f, fu = f + 1 := ⟨fu - 1, by omega⟩
    rw [L_X4_hunger_20, if_neg (show ¬ (99 : Int32) < nI i from nI_nlt (a := 99) (b := i) (by omega) (by decide)), xFed hR hV hN h1 (by omega), bdr_s, (hR.num).2.2.2.1, fd]
    by_cases q : g 1 < nI (us g n i N)
    · rw [if_pos q, if_neg (by rw [decide_eq_true_eq]; exact fun z => z q), lt_s_, nI_1]
      exact ih (i + 1) f (by omega) (by omega) (by omega)
    · rw [if_neg q, if_pos (by rw [decide_eq_true_eq]; exact q)]
theorem mHunger {μ0 : MM} {n N : Nat} (hV : VW (μ0 38) n) (hC : RC μ0) (hN : N ≤ 200) (k1 : Int32 → MM → Option (Int32 × MM)) : ∀ (d i fu : Nat) (m : MM), i + d = 100 → d < fu → Thk μ0 m → ∃ m', Thk μ0 m' ∧ L_X5_hunger_20 (nI N) k1 fu (nI i) m = k1 (match fd (fun h => decide (¬ μ0 38 1 < nI (us (μ0 38) n h N))) i d with | some k => nI k | none => 100) m' := by
  intro d
  induction d with
  | zero =>
    intro i fu m hi hf hm
    obtain ⟨f, rfl⟩ : ∃ f, fu = f + 1 := ⟨fu - 1, by omega⟩
    have e : i = 100 := by omega
    subst e
    exact ⟨m, hm, by rw [L_X5_hunger_20, if_pos (by decide)]; rfl⟩
  | succ d ih =>
    intro i fu m hi hf hm
    obtain ⟨f, rfl⟩ : ∃ f, fu = f + 1 := ⟨fu - 1, by omega⟩
    obtain ⟨m4, a1, a2⟩ := usedIn_s (μ0 := m) (h := i) (VW_cong (fun j hj _ => hm.row j hj) hV) (hm.rc hC) hN (by omega)
    rw [us_cong hV.le hm.row] at a1
    have b4 : Thk μ0 m4 := Thq.tr hm a2.thk
    rw [L_X5_hunger_20, if_neg (show ¬ (99 : Int32) < nI i from nI_nlt (a := 99) (b := i) (by omega) (by decide)), a1, bdw_s, ld38 m4 1 1 ⟨rfl, by decide⟩, b4.row 1 (by decide), fd]
    by_cases q : μ0 38 1 < nI (us (μ0 38) n i N)
    · rw [if_neg (Int32.not_le.mpr q), if_neg (by rw [decide_eq_true_eq]; exact fun z => z q), lt_s_, nI_1]
      exact ih (i + 1) f m4 (by omega) (by omega) b4
    · rw [if_pos (Int32.not_lt.mp q), if_pos (by rw [decide_eq_true_eq]; exact q)]
      exact ⟨m4, b4, rfl⟩
theorem s_hunger (a : Int32) : Two (f_X4_hunger a) (f_X5_hunger a) := by
  intro μ h
  obtain ⟨n, hV0⟩ := h.2.1
  have hV := hV0.w
  by_cases q : wi a 0 200 = 0
  · exact two_find h (-1000001) 0 (by decide) (by simp only [f_X4_hunger, isWithin_s, bdr_s, if_pos q, bdw_id]) (fun m _ => by simp only [f_X5_hunger, within_s, bdr_s, if_pos q, bdw_id])
  obtain ⟨N, hN, rfl⟩ := wi_n (N := 200) (by decide) q
  have ex : f_X4_hunger (nI N) μ = match fd (fun h => decide (¬ μ 38 1 < nI (us (μ 38) n h N))) 1 99 with | some k => some (nI k, μ) | none => f_X4_finding (-1000004) μ := by
    simp only [f_X4_hunger, isWithin_s, bdr_s, if_neg q]
    exact xHunger h.1 hV hN 99 1 FU (by omega) (by omega) (by decide)
  have em : ∀ m : MM, (∀ k, k ≠ 34 → m k = μ k) → ∃ m', Thk m m' ∧ f_X5_hunger (nI N) m = if (match fd (fun h => decide (¬ μ 38 1 < nI (us (μ 38) n h N))) 1 99 with | some k => nI k | none => 100) ≤ (99 : Int32) then some ((match fd (fun h => decide (¬ μ 38 1 < nI (us (μ 38) n h N))) 1 99 with | some k => nI k | none => 100), m') else f_X5_finding (-1000004) m' := fun m hm => by
    have e38 : m 38 = μ 38 := hm 38 (by decide)
    obtain ⟨m', a1, a2⟩ := mHunger (μ0 := m) (n := n) (N := N) (by rw [e38]; exact hV) (RC_fr (hm 42 (by decide)) (hm 43 (by decide)) h.2.2.2.2.2.2) hN (fun (x2 : Int32) (m1 : MM) => if x2 ≤ 99 then (some (x2, m1)) else (bdw (f_X5_finding (-1000004) m1) fun x3 m2 => some (x3, m2))) 99 1 FU m (by omega) (by decide) (Thk_rfl m)
    rw [e38] at a2
    refine ⟨m', a1, ?_⟩
    simp only [f_X5_hunger, within_s, bdr_s, if_neg q, jn2_s]
    refine (show _ = _ from a2).trans ?_
    rw [bdw_id]
  cases hf : fd (fun h => decide (¬ μ 38 1 < nI (us (μ 38) n h N))) 1 99 with
  | none =>
    rw [hf] at ex em
    refine find_thk h (-1000004) 3 (by decide) (Thk_rfl μ) ex (fun m hm => ?_)
    obtain ⟨m', b, e⟩ := em m hm
    exact ⟨m', b, e.trans (if_neg (by decide))⟩
  | some k =>
    rw [hf] at ex em
    have hk := fd_lt 99 1 k hf
    obtain ⟨m', b, e⟩ := em μ (fun _ _ => rfl)
    exact two_thk h (nI k) ex (Thk_rfl μ) (e.trans (if_pos (show nI k ≤ nI 99 from (le_nn (by omega) (by decide)).mpr (by omega)))) b
