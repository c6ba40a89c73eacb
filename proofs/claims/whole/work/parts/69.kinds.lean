/-! ===== the findings of a log ===== -/
theorem wlog_1 {a x : Int32} (q : wi a 0 3 = 0) (μ : MM) : f_X4_wrongLog a x μ = f_X4_finding (-1000001) μ := by
  unfold f_X4_wrongLog
  rw [wrong_1 q, find_pass (j := 0) (by decide) (by decide)]
theorem wlog_2 {j : Nat} {x : Int32} (hj : j < 4) {μ : MM} (h0 : μ (26 + 2 * j) 0 = 0) : f_X4_wrongLog (nI j) x μ = f_X4_finding (-1000006) μ := by
  unfold f_X4_wrongLog
  rw [wrong_2 hj h0, find_pass (j := 5) (by decide) (by decide)]
theorem wlog_3 {j : Nat} {x : Int32} (hj : j < 4) {μ : MM} (h0 : ¬ μ (26 + 2 * j) 0 = 0) (hx : x = 0) : f_X4_wrongLog (nI j) x μ = f_X4_finding (-1000001) μ := by
  unfold f_X4_wrongLog
  rw [wrong_0 hj h0, bdw_s, if_pos rfl, if_pos hx, bdw_id]
theorem wlog_0 {j : Nat} {x : Int32} (hj : j < 4) {μ : MM} (h0 : ¬ μ (26 + 2 * j) 0 = 0) (hx : ¬ x = 0) : f_X4_wrongLog (nI j) x μ = some (0, μ) := by
  unfold f_X4_wrongLog
  rw [wrong_0 hj h0, bdw_s, if_pos rfl, if_neg hx]
theorem erm_k {g : Nat → Int32} {c m : Nat} {v : Int32} : eN (upd g (128 + 3 * c) v) m c = erm g c v (g (128 + 3 * c + 2)) m := by
  unfold eN erm
  rw [upd_at, upd_o (by omega), upd_o (by omega), upd_o (by omega), upd_o (by omega)]
theorem erm_h {g : Nat → Int32} {c m : Nat} {v : Int32} : eN (upd g (128 + 3 * c + 2) v) m c = erm g c (g (128 + 3 * c)) v m := by
  unfold eN erm
  rw [upd_at, upd_o (by omega), upd_o (by omega), upd_o (by omega), upd_o (by omega)]
theorem kindsLoop {m : MM} {j c : Nat} {b : Nat → Bool} (hj : j < 4) (hc : c < 8) (hL : ∀ v, v < 7 → f_X4_sitsAsTold (26 + 2 * j) (nI c) (nI v) (m 4 c) m = some (b01 (b v))) : ∀ (d i fu : Nat), i + d = 7 → d < fu → L_X4_kinds_23 (nI j) (nI c) m fu (S32 b i) (nI i) = some (S32 b 7, m) := by
  intro d
  induction d with
  | zero =>
    intro i fu hi hf
    obtain ⟨f, rfl⟩ : ∃ f, fu = f + 1 := ⟨fu - 1, by omega⟩
    have e : i = 7 := by omega
    subst e
    rw [L_X4_kinds_23, if_pos (show (7 : Int32) ≤ nI 7 by decide)]
  | succ d ih =>
    intro i fu hi hf
    obtain ⟨f, rfl⟩ : ∃ f, fu = f + 1 := ⟨fu - 1, by omega⟩
    rw [L_X4_kinds_23, if_neg (ge_n (z := 7) (N := 7) rfl (by decide) (by omega)), ldq_n hj (by decide), ldi_n hc (by decide), hL i (by omega), bdr_s, ← ih (i + 1) f (by omega) (by omega)]
    simp only [jn1_s, lt_s_, nI_1]
    show _ = L_X4_kinds_23 (nI j) (nI c) m f (if b i then S32 b i ||| sl 1 (nI i) else S32 b i) (nI (i + 1))
    cases b i with
    | true => rw [if_neg (show ¬ b01 true = 0 by decide), if_pos rfl]
    | false => rw [if_pos (show b01 false = 0 by decide), if_neg (by decide)]
def hv (i : Nat) : Int32 := -15 + nI i
theorem hv_s : ∀ i, i < 31 → ¬ (15 : Int32) < hv i ∧ hv i + 1 = hv (i + 1) ∧ hv i - (-15) = nI i ∧ -15 ≤ (hv i).toInt ∧ (hv i).toInt ≤ 15 := by decide
theorem habitsLoop {m : MM} {j c : Nat} {b : Nat → Bool} (hj : j < 4) (hc : c < 8) (hL : ∀ v, v < 31 → f_X4_sitsAsTold (26 + 2 * j) (nI c) (m 2 c) (hv v) m = some (b01 (b v))) : ∀ (d i fu : Nat), i + d = 31 → d < fu → L_X4_habits_24 (nI j) (nI c) m fu (nI (cnt b i)) (hv i) = some (nI (cnt b 31), m) := by
  intro d
  induction d with
  | zero =>
    intro i fu hi hf
    obtain ⟨f, rfl⟩ : ∃ f, fu = f + 1 := ⟨fu - 1, by omega⟩
    have e : i = 31 := by omega
    subst e
    rw [L_X4_habits_24, if_pos (show (15 : Int32) < hv 31 by decide)]
  | succ d ih =>
    intro i fu hi hf
    obtain ⟨f, rfl⟩ : ∃ f, fu = f + 1 := ⟨fu - 1, by omega⟩
    obtain ⟨v1, v2, v3, v4, v5⟩ := hv_s i (by omega)
    rw [L_X4_habits_24, if_neg v1, ldq_n hj (by decide), ldi_n hc (by decide), hL i (by omega), bdr_s, ← ih (i + 1) f (by omega) (by omega)]
    simp only [jn1_s, lt_s_, nI_1, v2]
    show _ = L_X4_habits_24 (nI j) (nI c) m f (nI (if b i then cnt b i + 1 else cnt b i)) (hv (i + 1))
    cases b i with
    | true => rw [if_neg (show ¬ b01 true = 0 by decide), if_pos rfl]
    | false => rw [if_pos (show b01 false = 0 by decide), if_neg (by decide)]
theorem s_kinds (a b : Int32) : Two (f_X4_kinds a b) (f_X5_kinds a b) := by
  intro μ h
  obtain ⟨n, hn8, hn, hc, hcx⟩ := h.cats
  have hV := hn.w
  by_cases q : wi a 0 3 = 0
  · exact two_find h (-1000001) 0 (by decide) (by simp only [f_X4_kinds, xCat, bdr_s, wlog_1 q]; rw [find_pass (j := 0) (by decide) (by decide)]) (fun m hm => by simp only [f_X5_kinds, lacks_1 q, bdr_s, bdw_id]; rw [if_neg (by decide)])
  obtain ⟨j, hj, rfl⟩ := wi_n (N := 3) (by decide) q
  have hj4 : j < 4 := by omega
  obtain ⟨r1, r2, r3, ⟨z, hz, ez⟩, r5⟩ := h.2.2.2.2.2.1 j hj4
  by_cases g : μ 47 j = 0
  · exact two_find h (-1000006) 5 (by decide) (by simp only [f_X4_kinds, xCat, bdr_s, wlog_2 hj4 (r1.trans g)]; rw [find_pass (j := 5) (by decide) (by decide)]) (fun m hm => by simp only [f_X5_kinds, lacks_2 hj4, hm 47 (by decide), if_pos g, bdr_s, bdw_id]; rw [if_neg (by decide)])
  have g' : ¬ μ (26 + 2 * j) 0 = 0 := by rw [r1]; exact g
  by_cases q2 : wi b 0 (nI n - 1) = 0
  · exact two_find h (-1000001) 0 (by decide) (by simp only [f_X4_kinds, xCat, hcx, bdr_s, wlog_3 hj4 g' q2]; rw [find_pass (j := 0) (by decide) (by decide)]) (fun m hm => by simp only [f_X5_kinds, lacks_2 hj4, hm 47 (by decide), if_neg g, mCat, hm 38 (by decide), hc, bdr_s, if_pos q2, bdw_id]; rw [if_pos trivial])
  obtain ⟨c, hcn, rfl⟩ := cat_n hn8 q2
  have hc8 : c < 8 := by omega
  obtain ⟨m', e, bk⟩ := fitting_s (μ0 := μ) (n := n) (c := c) (j := j) (z := z) (P := 128 + 3 * c) (M := 7) (pf := 0) (p4 := 0) (p5 := 6) (val := fun i => nI i) (fun i hi => VW_kind hV hc8 (by omega)) h.2.2.2.2.2.2 hcn hj4 hz ez (by omega) (at0 c) rfl (fun i hi => nI_nlt (a := 6) (b := i) (by omega) (by decide)) (by decide) (fun i hi => ⟨nI_1 .., by rw [Int32.sub_zero]⟩) (by decide) (catIs0 hc8 μ)
  refine two_thk (μ1 := μ) (μ2 := m') h (S32 (fun v => al (fun m => decide (eN (upd (μ 38) (128 + 3 * c) (nI v)) m c = μ 49 (40 * j + m))) 0 z) 7) ?_ (Thk_rfl μ) ?_ bk
  · simp only [f_X4_kinds, xCat, hcx, bdr_s, wlog_0 hj4 g' q2, bdw_s, if_true]
    refine kindsLoop (b := fun v => al (fun m => decide (eN (upd (μ 38) (128 + 3 * c) (nI v)) m c = μ 49 (40 * j + m))) 0 z) hj4 hc8 (fun v hv => ?_) 7 0 FU (by omega) (by decide)
    rw [xSits h.1 hc8 hz (r2.trans ez)]
    refine congrArg some (congrArg b01 (al_cong (fun x _ hx => ?_)))
    show decide _ = decide _
    rw [erm_k, (h.1.cat1 hc8).2.2, r3 x (by omega)]
  · simp only [f_X5_kinds, lacks_2 hj4, if_neg g, mCat, hc, bdr_s, if_neg q2, e, bdw_s]
    rw [if_pos trivial, S_32 (by decide)]
theorem s_habits (a b : Int32) : Two (f_X4_habits a b) (f_X5_habits a b) := by
  intro μ h
  obtain ⟨n, hn8, hn, hc, hcx⟩ := h.cats
  have hV := hn.w
  by_cases q : wi a 0 3 = 0
  · exact two_find h (-1000001) 0 (by decide) (by simp only [f_X4_habits, xCat, bdr_s, wlog_1 q]; rw [find_pass (j := 0) (by decide) (by decide)]) (fun m hm => by simp only [f_X5_habits, lacks_1 q, bdr_s, bdw_id]; rw [if_neg (by decide)])
  obtain ⟨j, hj, rfl⟩ := wi_n (N := 3) (by decide) q
  have hj4 : j < 4 := by omega
  obtain ⟨r1, r2, r3, ⟨z, hz, ez⟩, r5⟩ := h.2.2.2.2.2.1 j hj4
  by_cases g : μ 47 j = 0
  · exact two_find h (-1000006) 5 (by decide) (by simp only [f_X4_habits, xCat, bdr_s, wlog_2 hj4 (r1.trans g)]; rw [find_pass (j := 5) (by decide) (by decide)]) (fun m hm => by simp only [f_X5_habits, lacks_2 hj4, hm 47 (by decide), if_pos g, bdr_s, bdw_id]; rw [if_neg (by decide)])
  have g' : ¬ μ (26 + 2 * j) 0 = 0 := by rw [r1]; exact g
  by_cases q2 : wi b 0 (nI n - 1) = 0
  · exact two_find h (-1000001) 0 (by decide) (by simp only [f_X4_habits, xCat, hcx, bdr_s, wlog_3 hj4 g' q2]; rw [find_pass (j := 0) (by decide) (by decide)]) (fun m hm => by simp only [f_X5_habits, lacks_2 hj4, hm 47 (by decide), if_neg g, mCat, hm 38 (by decide), hc, bdr_s, if_pos q2, bdw_id]; rw [if_pos trivial])
  obtain ⟨c, hcn, rfl⟩ := cat_n hn8 q2
  have hc8 : c < 8 := by omega
  obtain ⟨m', e, bk⟩ := fitting_s (μ0 := μ) (n := n) (c := c) (j := j) (z := z) (P := 128 + 3 * c + 2) (M := 31) (pf := 2) (p4 := -15) (p5 := 15) (val := hv) (fun i hi => VW_upd hV (Or.inr ((ok_cat hc8 _).2.2.mpr ⟨(hv_s i hi).2.2.2.1, (hv_s i hi).2.2.2.2⟩))) h.2.2.2.2.2.2 hcn hj4 hz ez (by omega) (at2 c) (by decide) (fun i hi => (hv_s i hi).1) (by decide) (fun i hi => ⟨(hv_s i hi).2.1, (hv_s i hi).2.2.1⟩) (by decide) (catIs2 hc8 μ)
  rw [S64_T (by decide)] at e
  refine two_thk (μ1 := μ) (μ2 := m') h (nI (cnt (fun v => al (fun m => decide (eN (upd (μ 38) (128 + 3 * c + 2) (hv v)) m c = μ 49 (40 * j + m))) 0 z) 31)) ?_ (Thk_rfl μ) ?_ bk
  · simp only [f_X4_habits, xCat, hcx, bdr_s, wlog_0 hj4 g' q2, bdw_s, if_true]
    refine habitsLoop (b := fun v => al (fun m => decide (eN (upd (μ 38) (128 + 3 * c + 2) (hv v)) m c = μ 49 (40 * j + m))) 0 z) hj4 hc8 (fun v hv => ?_) 31 0 FU (by omega) (by decide)
    rw [xSits h.1 hc8 hz (r2.trans ez)]
    refine congrArg some (congrArg b01 (al_cong (fun x _ hx => ?_)))
    show decide _ = decide _
    rw [erm_h, (h.1.cat1 hc8).1, r3 x (by omega)]
  · simp only [f_X5_habits, lacks_2 hj4, if_neg g, mCat, hc, bdr_s, if_neg q2, e, bdw_s]
    rw [if_pos trivial]
    have := bitsLoop m' 31 (fun v => al (fun m => decide (eN (upd (μ 38) (128 + 3 * c + 2) (hv v)) m c = μ 49 (40 * j + m))) 0 z) 0 FU (by decide) (by decide)
    rw [Nat.zero_add] at this
    exact this
