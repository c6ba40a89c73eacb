/-! ===== where a ship began ===== -/
def tp (g : Nat → Int32) (n s : Nat) (N : Nat → Int32) (m : Nat) : Bool := decide (N m = -1 ∨ N m = nI (pos g n s m / 10))
theorem VW_at {g : Nat → Int32} {n s v : Nat} (hV : VW g n) (hs : s < 4) (hv : v ≤ 99) : VW (upd g (116 + 3 * s) (nI v)) n := VW_upd hV (Or.inr ((ok_ship hs _).1.mpr ⟨v, hv, rfl⟩))
theorem nx_at {g : Nat → Int32} {n m s c : Nat} {v : Int32} (hn : n ≤ 8) (hs : s < 4) (hc : c < 100) : nxN (upd g (116 + 3 * s) v) n m s c = nxN g n m s c := by
  refine nxN_cong (upd_o (by omega)) (upd_o (by omega)) (upd_o (by omega)) (upd_o (by omega)) (fun x hx => ?_)
  unfold eN
  rw [upd_o (by omega), upd_o (by omega), upd_o (by omega), upd_o (by omega), upd_o (by omega)]
theorem xGoes {μ : MM} {g : Nat → Int32} {n s j z v : Nat} (h : Rdy μ g n s z) (hV : VW g n) (hs : s < 4) (hz : z ≤ 40) (ez : μ (26 + 2 * j) 1 = nI z) (hv : v ≤ 99) : f_X4_goesAsTold (26 + 2 * j) (nI s) (nI v) μ = some (b01 (al (tp (upd g (116 + 3 * s) (nI v)) n s (μ (27 + 2 * j))) 0 z)) := by
  have hG := VW_at hV hs hv
  obtain ⟨o, ho, eo⟩ := (hV.ship hs).2.1
  obtain ⟨w, hw, ew⟩ := hV.wind
  have eg : gv g s (nI o) (nI w) = g := by rw [← upd_gv_o ew, ← eo, upd_sf]
  have H : ∀ (d i fu : Nat), i + d = z → d < fu → L_X4_goesAsTold_6 (26 + 2 * j) (nI s) μ fu (nI (pos (upd g (116 + 3 * s) (nI v)) n s i)) (nI i) = some (b01 (al (tp (upd g (116 + 3 * s) (nI v)) n s (μ (27 + 2 * j))) i d)) := by
    intro d
    induction d with
    | zero =>
      intro i fu hi hf
      obtain ⟨f, rfl⟩ : ∃ f, fu = f + 1 := ⟨fu - 1, by omega⟩
      have e : i = z := by omega
      subst e
      rw [L_X4_goesAsTold_6, ez, if_pos (Int32.le_refl _)]
      rfl
    | succ d ih =>
      intro i fu hi hf
      obtain ⟨f, rfl⟩ : ∃ f, fu = f + 1 := ⟨fu - 1, by omega⟩
      have hp := pos_lt hG hs i
      have en : nI (nxN g n i s (pos (upd g (116 + 3 * s) (nI v)) n s i)) = nI (pos (upd g (116 + 3 * s) (nI v)) n s (i + 1)) := by
        rw [← nx_at (v := nI v) hV.le hs hp]
        rfl
      rw [L_X4_goesAsTold_6, ez, if_neg (nI_ge (by omega) (by omega)), show 26 + 2 * j + 1 = 27 + 2 * j by omega, ldi_n (show i < 40 by omega) (by decide), ldi_n hs (by decide), (h.1.ship1 hs).2.1, eo, (h.1.num).2.1, ew, by_s (i := i) h hV hs ho hw (by omega) (by omega) hp, eg, en, jn0_s, lt_s_, nI_1, ih (i + 1) f (by omega) (by omega), show (10 : Int32) = nI 10 from rfl, pk_div (by omega) (by decide) (by decide)]
      show _ = some (b01 (tp (upd g (116 + 3 * s) (nI v)) n s (μ (27 + 2 * j)) i && al (tp (upd g (116 + 3 * s) (nI v)) n s (μ (27 + 2 * j))) (i + 1) d))
      by_cases q1 : μ (27 + 2 * j) i = -1
      · rw [if_pos q1, show tp (upd g (116 + 3 * s) (nI v)) n s (μ (27 + 2 * j)) i = true from decide_eq_true (Or.inl q1), Bool.true_and]
      · rw [if_neg q1]
        by_cases q2 : μ (27 + 2 * j) i = nI (pos (upd g (116 + 3 * s) (nI v)) n s i / 10)
        · rw [if_pos q2, show tp (upd g (116 + 3 * s) (nI v)) n s (μ (27 + 2 * j)) i = true from decide_eq_true (Or.inr q2), Bool.true_and]
        · rw [if_neg q2, show tp (upd g (116 + 3 * s) (nI v)) n s (μ (27 + 2 * j)) i = false from decide_eq_false (fun e => e.elim q1 q2), Bool.false_and]
          rfl
  unfold f_X4_goesAsTold
  have e0 : nI v = nI (pos (upd g (116 + 3 * s) (nI v)) n s 0) := by rw [← pos_0 hG hs, upd_at]
  rw [e0]
  have := H z 0 FU (by omega) (show z < 4096 by omega)
  rw [← e0] at this ⊢
  exact this
theorem wentLoop {μ0 : MM} {n s j z : Nat} (hV : VW (μ0 38) n) (hC : RC μ0) (hs : s < 4) (hj : j < 4) (hz : z ≤ 40) (ez : μ0 48 j = nI z) (k1 : Int32 → MM → Option (Int32 × MM)) : ∀ (d i fu : Nat) (m : MM), i + d = z → d + 1 < fu → Sim μ0 n i m → ∃ k m', L_X5_wentSo_16 (nI j) (nI s) k1 fu 1 (nI i) m = k1 (b01 (al (tp (μ0 38) n s (fun m => μ0 49 (40 * j + m))) i d)) m' ∧ Sim μ0 n k m' := by
  intro d
  induction d with
  | zero =>
    intro i fu m hi hf h
    obtain ⟨f, rfl⟩ : ∃ f, fu = f + 1 := ⟨fu - 1, by omega⟩
    have e : i = z := by omega
    subst e
    exact ⟨i, m, by rw [L_X5_wentSo_16, ldi_n hj (by decide), h.1 48 (by decide) (by decide), ez, if_pos (Int32.le_refl _)]; rfl, h⟩
  | succ d ih =>
    intro i fu m hi hf h
    obtain ⟨f, rfl⟩ : ∃ f, fu = f + 1 := ⟨fu - 1, by omega⟩
    obtain ⟨m5, e5, h5⟩ := sim_watch h hV hC (by omega)
    have hp := pos_lt hV hs i
    have e0 : L_X5_wentSo_16 (nI j) (nI s) k1 (f + 1) 1 (nI i) m = if μ0 49 (40 * j + i) = -1 then L_X5_wentSo_16 (nI j) (nI s) k1 f 1 (nI (i + 1)) m5 else if μ0 49 (40 * j + i) = nI (pos (μ0 38) n s i / 10) then L_X5_wentSo_16 (nI j) (nI s) k1 f 1 (nI (i + 1)) m5 else L_X5_wentSo_16 (nI j) (nI s) k1 f 0 (nI (i + 1)) m5 := by
      rw [L_X5_wentSo_16, ldi_n hj (by decide), h.1 48 (by decide) (by decide), ez, if_neg (nI_ge (by omega) (by omega)), if_neg (by decide), show (40 : Int32) = nI 40 from rfl, pk_mul, nI_add, ldi_n (by omega) (by decide), h.1 49 (by decide) (by decide), shipIs0 hs, h.ship hs]
      simp only [jn1_s, jn0_s, e5, bdr_s, lt_s_, nI_1]
      rw [show (10 : Int32) = nI 10 from rfl, pk_div (by omega) (by decide) (by decide)]
    rw [e0]
    show ∃ k m', _ = k1 (b01 (tp (μ0 38) n s (fun m => μ0 49 (40 * j + m)) i && al (tp (μ0 38) n s (fun m => μ0 49 (40 * j + m))) (i + 1) d)) m' ∧ _
    by_cases q1 : μ0 49 (40 * j + i) = -1
    · rw [if_pos q1, show tp (μ0 38) n s (fun m => μ0 49 (40 * j + m)) i = true from decide_eq_true (Or.inl q1), Bool.true_and]
      exact ih (i + 1) f m5 (by omega) (by omega) h5
    · rw [if_neg q1]
      by_cases q2 : μ0 49 (40 * j + i) = nI (pos (μ0 38) n s i / 10)
      · rw [if_pos q2, show tp (μ0 38) n s (fun m => μ0 49 (40 * j + m)) i = true from decide_eq_true (Or.inr q2), Bool.true_and]
        exact ih (i + 1) f m5 (by omega) (by omega) h5
      · rw [if_neg q2, show tp (μ0 38) n s (fun m => μ0 49 (40 * j + m)) i = false from decide_eq_false (fun e => e.elim q1 q2), Bool.false_and]
        refine ⟨i + 1, m5, ?_, h5⟩
        obtain ⟨f', rfl⟩ : ∃ f', f = f' + 1 := ⟨f - 1, by omega⟩
        rw [L_X5_wentSo_16, ldi_n hj (by decide), if_pos rfl]
        split <;> rfl
theorem wentSo_s {μ0 : MM} {n s j z : Nat} (hV : VW (μ0 38) n) (hC : RC μ0) (hs : s < 4) (hj : j < 4) (hz : z ≤ 40) (ez : μ0 48 j = nI z) : ∃ m', f_X5_wentSo (nI j) (nI s) μ0 = some (b01 (al (tp (μ0 38) n s (fun m => μ0 49 (40 * j + m))) 0 z), m') ∧ Bk μ0 m' := by
  obtain ⟨m1, e1, h1⟩ := sim_start hV
  obtain ⟨k, m2, e2, h2⟩ := wentLoop hV hC hs hj hz ez (fun (x1 : Int32) (m2 : MM) => bdr (f_X5_copyRow 40 152 38 152 m2) fun m3 => gd (x1 = 0 ∨ x1 = 1) (some (x1, m3))) z 0 FU m1 (by omega) (show z + 1 < 4096 by omega) h1
  obtain ⟨m3, e3, h3⟩ := back_row h2
  refine ⟨m3, ?_, h3⟩
  unfold f_X5_wentSo
  rw [e1, bdr_s, jn2_s]
  refine (show _ = _ from e2).trans ?_
  rw [e3, bdr_s, gd_t (b01_b _)]
def ff (b : Nat → Bool) : Nat → Option Nat
  | 0 => none
  | i + 1 => match ff b i with
    | some k => some k
    | none => if b i then some i else none
theorem ff_n {b : Nat → Bool} {i : Nat} (h : ff b i = none) : ff b (i + 1) = if b i then some i else none := by
  show (match ff b i with
    | some k => some k
    | none => if b i then some i else none) = _
  rw [h]
theorem ff_k {b : Nat → Bool} {i k : Nat} (h : ff b i = some k) : ff b (i + 1) = some k := by
  show (match ff b i with
    | some k => some k
    | none => if b i then some i else none) = _
  rw [h]
theorem ff_more {b : Nat → Bool} {i k : Nat} (h : ff b i = some k) : ∀ d, ff b (i + d) = some k
  | 0 => h
  | d + 1 => ff_k (ff_more h d)
theorem ff_lt {b : Nat → Bool} : ∀ {i k : Nat}, ff b i = some k → k < i
  | 0, k, h => by cases h
  | i + 1, k, h => by
    cases e : ff b i with
    | some y =>
      rw [ff_k e] at h
      have := Option.some.inj h
      subst this
      have := ff_lt e
      omega
    | none =>
      rw [ff_n e] at h
      by_cases q : b i = true
      · rw [if_pos q] at h
        have := Option.some.inj h
        omega
      · rw [if_neg q] at h
        cases h
theorem ff_0 {b : Nat → Bool} : ∀ {i : Nat}, ff b i = none → cnt b i = 0
  | 0, _ => rfl
  | i + 1, h => by
    cases e : ff b i with
    | some y => rw [ff_k e] at h; cases h
    | none =>
      rw [ff_n e] at h
      unfold cnt
      by_cases q : b i = true
      · rw [if_pos q] at h
        cases h
      · rw [if_neg q]
        exact ff_0 e
theorem begLoop {m : MM} {j s : Nat} {b : Nat → Bool} (hj : j < 4) (hL : ∀ v, v < 100 → f_X4_goesAsTold (26 + 2 * j) (nI s) (nI v) m = some (b01 (b v))) : ∀ (d i fu : Nat), i + d = 100 → d < fu → L_X4_begun_36 (nI j) (nI s) m fu (nI (cnt b i)) (nI i) = some (nI (cnt b 100), m) := by
  intro d
  induction d with
  | zero =>
    intro i fu hi hf
    obtain ⟨f, rfl⟩ : ∃ f, fu = f + 1 := ⟨fu - 1, by omega⟩
    have e : i = 100 := by omega
    subst e
    rw [L_X4_begun_36, if_pos (show (100 : Int32) ≤ nI 100 by decide)]
  | succ d ih =>
    intro i fu hi hf
    obtain ⟨f, rfl⟩ : ∃ f, fu = f + 1 := ⟨fu - 1, by omega⟩
    rw [L_X4_begun_36, if_neg (ge_n (z := 100) (N := 100) rfl (by decide) (by omega)), ldq_n hj (by decide), hL i (by omega), bdr_s, ← ih (i + 1) f (by omega) (by omega)]
    simp only [jn1_s, lt_s_, nI_1]
    show _ = L_X4_begun_36 (nI j) (nI s) m f (nI (if b i then cnt b i + 1 else cnt b i)) (nI (i + 1))
    cases b i with
    | true => rw [if_neg (show ¬ b01 true = 0 by decide), if_pos rfl]
    | false => rw [if_pos (show b01 false = 0 by decide), if_neg (by decide)]
theorem fromLoop {m : MM} {j s : Nat} {b : Nat → Bool} (hj : j < 4) (hL : ∀ v, v < 100 → f_X4_goesAsTold (26 + 2 * j) (nI s) (nI v) m = some (b01 (b v))) : ∀ (d i fu : Nat), i + d = 100 → d < fu → ff b i = none → L_X4_from_33 (nI j) (nI s) m fu (nI i) = match ff b 100 with | some k => some (nI k, m) | none => f_X4_finding (-1000004) m := by
  intro d
  induction d with
  | zero =>
    intro i fu hi hf h
    obtain ⟨f, rfl⟩ : ∃ f, fu = f + 1 := ⟨fu - 1, by omega⟩
    have e : i = 100 := by omega
    subst e
    rw [L_X4_from_33, if_pos (show (100 : Int32) ≤ nI 100 by decide), bdw_id, h]
  | succ d ih =>
    intro i fu hi hf h
    obtain ⟨f, rfl⟩ : ∃ f, fu = f + 1 := ⟨fu - 1, by omega⟩
    have hn := ff_n h
    rw [L_X4_from_33, if_neg (ge_n (z := 100) (N := 100) rfl (by decide) (by omega)), ldq_n hj (by decide), hL i (by omega), bdr_s]
    cases e : b i with
    | true =>
      rw [e, if_pos rfl] at hn
      have := ff_more hn d
      rw [show i + 1 + d = 100 by omega] at this
      rw [if_neg (show ¬ b01 true = 0 by decide), this]
    | false =>
      rw [e, if_neg (by decide)] at hn
      rw [if_pos (show b01 false = 0 by decide), lt_s_, nI_1]
      exact ih (i + 1) f (by omega) (by omega) hn
theorem findLoop {μ0 : MM} {n s j z : Nat} (hV : VW (μ0 38) n) (hC : RC μ0) (hs : s < 4) (hj : j < 4) (hz : z ≤ 40) (ez : μ0 48 j = nI z) (k1 : Int32 → MM → Option (Int32 × MM)) : ∀ (d i fu : Nat) (m : MM), i + d = 100 → d < fu → Thq (fun x => x = 116 + 3 * s) μ0 m → m 37 9 = nI (cnt (fun v => al (tp (upd (μ0 38) (116 + 3 * s) (nI v)) n s (fun m => μ0 49 (40 * j + m))) 0 z) i) → ∃ m', L_X5_findBegun_18 (nI j) (nI s) k1 fu (vm (ff (fun v => al (tp (upd (μ0 38) (116 + 3 * s) (nI v)) n s (fun m => μ0 49 (40 * j + m))) 0 z) i)) (nI i) m = k1 (vm (ff (fun v => al (tp (upd (μ0 38) (116 + 3 * s) (nI v)) n s (fun m => μ0 49 (40 * j + m))) 0 z) 100)) m' ∧ Thq (fun x => x = 116 + 3 * s) μ0 m' ∧ m' 37 9 = nI (cnt (fun v => al (tp (upd (μ0 38) (116 + 3 * s) (nI v)) n s (fun m => μ0 49 (40 * j + m))) 0 z) 100) := by
  intro d
  induction d with
  | zero =>
    intro i fu m hi hf hm h9
    obtain ⟨f, rfl⟩ : ∃ f, fu = f + 1 := ⟨fu - 1, by omega⟩
    have e : i = 100 := by omega
    subst e
    exact ⟨m, by rw [L_X5_findBegun_18, if_pos (show (100 : Int32) ≤ nI 100 by decide)], hm, h9⟩
  | succ d ih =>
    intro i fu m hi hf hm h9
    obtain ⟨f, rfl⟩ : ∃ f, fu = f + 1 := ⟨fu - 1, by omega⟩
    have hv : VW (upd (μ0 38) (116 + 3 * s) (nI i)) n := VW_at hV hs (by omega)
    have e38 := row_at hm (fun x hx => hx) (nI i)
    obtain ⟨m6, e1, b6⟩ := wentSo_s (μ0 := wst m 38 (116 + 3 * s) (nI i)) (n := n) (s := s) (j := j) (z := z) (VW_cong (fun j hj _ => e38 j hj) hv) (RC_fr (wst_o (by decide)) (wst_o (by decide)) (hm.rc hC)) hs hj hz (by rw [wst_o (by decide), hm.k 48 (by omega), ez])
    have ea : al (tp (wst m 38 (116 + 3 * s) (nI i) 38) n s (fun x => wst m 38 (116 + 3 * s) (nI i) 49 (40 * j + x))) 0 z = al (tp (upd (μ0 38) (116 + 3 * s) (nI i)) n s (fun m => μ0 49 (40 * j + m))) 0 z := by
      refine al_cong (fun q _ _ => ?_)
      unfold tp
      rw [pos_cong hv hs e38, wst_o (by decide), hm.k 49 (by omega)]
    rw [ea] at e1
    have e9 : m6 37 9 = nI (cnt (fun v => al (tp (upd (μ0 38) (116 + 3 * s) (nI v)) n s (fun m => μ0 49 (40 * j + m))) 0 z) i) := by rw [b6.1 37 (by decide) (by decide), wst_o (by decide), h9]
    obtain ⟨m', a1, a2, a3⟩ := ih (i + 1) f (wst m6 37 9 (nI (cnt (fun v => al (tp (upd (μ0 38) (116 + 3 * s) (nI v)) n s (fun m => μ0 49 (40 * j + m))) 0 z) (i + 1)))) (by omega) (by omega) (hm.tr ((thq38 (q := fun x => x = 116 + 3 * s) rfl).tr (b6.thk.q.tr (thq37 (by decide))))) (by rw [wst_at, upd_at])
    refine ⟨m', ?_, a2, a3⟩
    rw [← a1, L_X5_findBegun_18, if_neg (ge_n (z := 100) (N := 100) rfl (by decide) (by omega)), atShip0, bdr_s, sti_n (n := 152) (j := 116 + 3 * s) (by omega) (by decide), e1, bdw_s]
    simp only [jn1_s, jn0_s, lt_s_, nI_1, e9]
    have ec : cnt (fun v => al (tp (upd (μ0 38) (116 + 3 * s) (nI v)) n s (fun m => μ0 49 (40 * j + m))) 0 z) (i + 1) = if al (tp (upd (μ0 38) (116 + 3 * s) (nI i)) n s (fun m => μ0 49 (40 * j + m))) 0 z then cnt (fun v => al (tp (upd (μ0 38) (116 + 3 * s) (nI v)) n s (fun m => μ0 49 (40 * j + m))) 0 z) i + 1 else cnt (fun v => al (tp (upd (μ0 38) (116 + 3 * s) (nI v)) n s (fun m => μ0 49 (40 * j + m))) 0 z) i := rfl
    rw [ec]
    cases eb : al (tp (upd (μ0 38) (116 + 3 * s) (nI i)) n s (fun m => μ0 49 (40 * j + m))) 0 z with
    | false =>
      have ef : ff (fun v => al (tp (upd (μ0 38) (116 + 3 * s) (nI v)) n s (fun m => μ0 49 (40 * j + m))) 0 z) (i + 1) = ff (fun v => al (tp (upd (μ0 38) (116 + 3 * s) (nI v)) n s (fun m => μ0 49 (40 * j + m))) 0 z) i := by
        cases e : ff (fun v => al (tp (upd (μ0 38) (116 + 3 * s) (nI v)) n s (fun m => μ0 49 (40 * j + m))) 0 z) i with
        | some y => exact ff_k e
        | none => rw [ff_n e, eb]; rfl
      rw [ef, if_pos (show b01 false = 0 by decide), if_pos (show b01 false = 0 by decide), Int32.add_zero, if_neg (by decide)]
    | true =>
      rw [if_neg (show ¬ b01 true = 0 by decide), if_neg (show ¬ b01 true = 0 by decide), if_pos rfl]
      cases e : ff (fun v => al (tp (upd (μ0 38) (116 + 3 * s) (nI v)) n s (fun m => μ0 49 (40 * j + m))) 0 z) i with
      | some y =>
        have := ff_lt e
        rw [ff_k e, if_pos (show (0 : Int32) ≤ vm (some y) from nn_0 (by omega))]
      | none =>
        rw [ff_n e, eb, if_neg (show ¬ (0 : Int32) ≤ vm none by decide), if_pos rfl]
        rfl
