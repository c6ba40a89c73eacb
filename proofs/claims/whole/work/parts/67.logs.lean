/-! ===== logs ===== -/
def al (p : Nat → Bool) (i : Nat) : Nat → Bool
  | 0 => true
  | d + 1 => p i && al p (i + 1) d
def b01 (b : Bool) : Int32 := if b then 1 else 0
theorem al_cong {p q : Nat → Bool} : ∀ {d i : Nat}, (∀ m, i ≤ m → m < i + d → p m = q m) → al p i d = al q i d
  | 0, _, _ => rfl
  | d + 1, i, h => by
    show (p i && al p (i + 1) d) = (q i && al q (i + 1) d)
    rw [h i (Nat.le_refl _) (by omega), al_cong (fun m a b => h m (by omega) (by omega))]
theorem b01_0 (b : Bool) : (b01 b = 0) ↔ b = false := by cases b <;> decide
theorem b01_b (b : Bool) : b01 b = 0 ∨ b01 b = 1 := by cases b <;> decide
def erm (g : Nat → Int32) (c : Nat) (k hb : Int32) (m : Nat) : Int32 := er k (imin (g (128 + 3 * c + 1) + nI m) 99) hb (g 3) (irm (g 0 + nI m) 16)
/-- the class -/
theorem xSits {μ : MM} {g : Nat → Int32} {c j z : Nat} (hR : RN μ 1 g) (hc : c < 8) (hz : z ≤ 40) (ez : μ (26 + 2 * j) 1 = nI z) (k hb : Int32) : f_X4_sitsAsTold (26 + 2 * j) (nI c) k hb μ = some (b01 (al (fun m => decide (erm g c k hb m = μ (27 + 2 * j) m)) 0 z)) := by
  have H : ∀ (d i fu : Nat), i + d = z → d < fu → L_X4_sitsAsTold_3 (26 + 2 * j) (nI c) k hb μ fu (nI i) = some (b01 (al (fun m => decide (erm g c k hb m = μ (27 + 2 * j) m)) i d)) := by
    intro d
    induction d with
    | zero =>
      intro i fu hi hf
      obtain ⟨f, rfl⟩ : ∃ f, fu = f + 1 := ⟨fu - 1, by omega⟩
      have e : i = z := by omega
      subst e
      rw [L_X4_sitsAsTold_3, ez, if_pos (Int32.le_refl _)]
      rfl
    | succ d ih =>
      intro i fu hi hf
      obtain ⟨f, rfl⟩ : ∃ f, fu = f + 1 := ⟨fu - 1, by omega⟩
      have ee : er k (imin (μ 3 c + nI i) 99) hb (μ 1 9) (irm (μ 1 11 + nI i) 16) = erm g c k hb i := by
        unfold erm
        rw [(hR.cat1 hc).2.1, (hR.num).2.2.1, (hR.num).2.2.2.2.1]
      rw [L_X4_sitsAsTold_3, ez, if_neg (nI_ge (by omega) (by omega)), show 26 + 2 * j + 1 = 27 + 2 * j by omega, ldi_n (show i < 40 by omega) (by decide), errsAs_s hc, bdr_s, ee]
      show _ = some (b01 (decide (erm g c k hb i = μ (27 + 2 * j) i) && al (fun m => decide (erm g c k hb m = μ (27 + 2 * j) m)) (i + 1) d))
      by_cases q : erm g c k hb i = μ (27 + 2 * j) i
      · rw [if_pos q.symm, lt_s_, nI_1, decide_eq_true q, Bool.true_and]
        exact ih (i + 1) f (by omega) (by omega)
      · rw [if_neg (fun e => q e.symm), decide_eq_false q, Bool.false_and]
        rfl
  exact H z 0 FU (by omega) (show z < 4096 by omega)
/-- the reference -/
theorem satLoop {μ0 : MM} {n c j z : Nat} (hV : VW (μ0 38) n) (hC : RC μ0) (hc : c < n) (hj : j < 4) (hz : z ≤ 40) (ez : μ0 48 j = nI z) (k1 : Int32 → MM → Option (Int32 × MM)) : ∀ (d i fu : Nat) (m : MM), i + d = z → d + 1 < fu → Sim μ0 n i m → ∃ k m', L_X5_satSo_16 (nI j) (nI c) k1 fu 1 (nI i) m = k1 (b01 (al (fun m => decide (eN (μ0 38) m c = μ0 49 (40 * j + m))) i d)) m' ∧ Sim μ0 n k m' := by
  intro d
  induction d with
  | zero =>
    intro i fu m hi hf h
    obtain ⟨f, rfl⟩ : ∃ f, fu = f + 1 := ⟨fu - 1, by omega⟩
    have e : i = z := by omega
    subst e
    exact ⟨i, m, by rw [L_X5_satSo_16, ldi_n hj (by decide), h.1 48 (by decide) (by decide), ez, if_pos (Int32.le_refl _)]; rfl, h⟩
  | succ d ih =>
    intro i fu m hi hf h
    obtain ⟨f, rfl⟩ : ∃ f, fu = f + 1 := ⟨fu - 1, by omega⟩
    obtain ⟨m5, e5, h5⟩ := sim_watch h hV hC (by omega)
    have e0 : L_X5_satSo_16 (nI j) (nI c) k1 (f + 1) 1 (nI i) m = if eN (μ0 38) i c = μ0 49 (40 * j + i) then L_X5_satSo_16 (nI j) (nI c) k1 f 1 (nI (i + 1)) m5 else L_X5_satSo_16 (nI j) (nI c) k1 f 0 (nI (i + 1)) m5 := by
      rw [L_X5_satSo_16, ldi_n hj (by decide), h.1 48 (by decide) (by decide), ez, if_neg (nI_ge (by omega) (by omega)), if_neg (by decide), sim_errs h hV hc, bdr_s, show (40 : Int32) = nI 40 from rfl, pk_mul, nI_add, ldi_n (by omega) (by decide), h.1 49 (by decide) (by decide)]
      simp only [jn1_s, e5, bdr_s, lt_s_, nI_1]
    rw [e0]
    show ∃ k m', _ = k1 (b01 (decide (eN (μ0 38) i c = μ0 49 (40 * j + i)) && al (fun m => decide (eN (μ0 38) m c = μ0 49 (40 * j + m))) (i + 1) d)) m' ∧ _
    by_cases q : eN (μ0 38) i c = μ0 49 (40 * j + i)
    · rw [if_pos q, decide_eq_true q, Bool.true_and]
      exact ih (i + 1) f m5 (by omega) (by omega) h5
    · rw [if_neg q, decide_eq_false q, Bool.false_and]
      refine ⟨i + 1, m5, ?_, h5⟩
      obtain ⟨f', rfl⟩ : ∃ f', f = f' + 1 := ⟨f - 1, by omega⟩
      rw [L_X5_satSo_16, ldi_n hj (by decide), if_pos rfl]
      split <;> rfl
theorem back_row {μ0 m : MM} {n k : Nat} (h : Sim μ0 n k m) : ∃ m', f_X5_copyRow 40 152 38 152 m = some m' ∧ Bk μ0 m' := by
  refine ⟨_, copyRow_s (by decide) m, fun q a b => by rw [wsr_ne a, h.1 q a b], fun i hi => ?_⟩
  rw [wsr_same]
  show (if i < 152 then _ else _) = _
  rw [if_pos hi, h.2.2 i hi]
theorem satSo_s {μ0 : MM} {n c j z : Nat} (hV : VW (μ0 38) n) (hC : RC μ0) (hc : c < n) (hj : j < 4) (hz : z ≤ 40) (ez : μ0 48 j = nI z) : ∃ m', f_X5_satSo (nI j) (nI c) μ0 = some (b01 (al (fun m => decide (eN (μ0 38) m c = μ0 49 (40 * j + m))) 0 z), m') ∧ Bk μ0 m' := by
  obtain ⟨m1, e1, h1⟩ := sim_start hV
  obtain ⟨k, m2, e2, h2⟩ := satLoop hV hC hc hj hz ez (fun (x1 : Int32) (m2 : MM) => bdr (f_X5_copyRow 40 152 38 152 m2) fun m3 => gd (x1 = 0 ∨ x1 = 1) (some (x1, m3))) z 0 FU m1 (by omega) (show z + 1 < 4096 by omega) h1
  obtain ⟨m3, e3, h3⟩ := back_row h2
  refine ⟨m3, ?_, h3⟩
  unfold f_X5_satSo
  rw [e1, bdr_s, jn2_s]
  refine (show _ = _ from e2).trans ?_
  rw [e3, bdr_s, gd_t (b01_b _)]
def S64 (b : Nat → Bool) : Nat → Int64
  | 0 => 0
  | i + 1 => if b i then S64 b i ||| lsl 1 (nI i) else S64 b i
def S32 (b : Nat → Bool) : Nat → Int32
  | 0 => 0
  | i + 1 => if b i then S32 b i ||| sl 1 (nI i) else S32 b i
def cnt (b : Nat → Bool) : Nat → Nat
  | 0 => 0
  | i + 1 => if b i then cnt b i + 1 else cnt b i
theorem cnt_le (b : Nat → Bool) : ∀ n, cnt b n ≤ n
  | 0 => Nat.le_refl 0
  | n + 1 => by
    have := cnt_le b n
    unfold cnt
    split <;> omega
theorem S64_cong {b b' : Nat → Bool} : ∀ {M : Nat}, (∀ i, i < M → b i = b' i) → S64 b M = S64 b' M
  | 0, _ => rfl
  | M + 1, h => by
    unfold S64
    rw [S64_cong (fun i hi => h i (by omega)), h M (by omega)]
/-- with which values in one place it would have sat so -/
theorem fitLoop {μ0 : MM} {n c j z P M : Nat} {pf p4 p5 : Int32} {val : Nat → Int32} (hV : ∀ i, i < M → VW (upd (μ0 38) P (val i)) n) (hC : RC μ0) (hc : c < n) (hj : j < 4) (hz : z ≤ 40) (ez : μ0 48 j = nI z) (hP : P < 152) (hat : f_X5_at (nI c) pf = some (nI P)) (hv1 : ∀ i, i < M → ¬ p5 < val i) (hv2 : p5 < val M) (hv3 : ∀ i, i < M → val i + 1 = val (i + 1) ∧ val i - p4 = nI i) (k1 : Int64 → MM → Option (Int64 × MM)) : ∀ (d i fu : Nat) (m : MM), i + d = M → d < fu → Thq (fun x => x = P) μ0 m → ∃ m', L_X5_fitting_15 (nI j) (nI c) pf p4 p5 k1 fu (S64 (fun v => al (fun m => decide (eN (upd (μ0 38) P (val v)) m c = μ0 49 (40 * j + m))) 0 z) i) (val i) m = k1 (S64 (fun v => al (fun m => decide (eN (upd (μ0 38) P (val v)) m c = μ0 49 (40 * j + m))) 0 z) M) m' ∧ Thq (fun x => x = P) μ0 m' := by
  intro d
  induction d with
  | zero =>
    intro i fu m hi hf hm
    obtain ⟨f, rfl⟩ : ∃ f, fu = f + 1 := ⟨fu - 1, by omega⟩
    have e : i = M := by omega
    subst e
    exact ⟨m, by rw [L_X5_fitting_15, if_pos hv2], hm⟩
  | succ d ih =>
    intro i fu m hi hf hm
    obtain ⟨f, rfl⟩ : ∃ f, fu = f + 1 := ⟨fu - 1, by omega⟩
    have hv := hV i (by omega)
    have hn := hv.le
    have e38 := row_at hm (fun x hx => hx) (val i)
    obtain ⟨m5, e1, b5⟩ := satSo_s (μ0 := wst m 38 P (val i)) (n := n) (c := c) (j := j) (z := z) (VW_cong (fun j hj _ => e38 j hj) hv) (RC_fr (wst_o (by decide)) (wst_o (by decide)) (hm.rc hC)) hc hj hz (by rw [wst_o (by decide), hm.k 48 (by omega), ez])
    have ea : al (fun m1 => decide (eN (wst m 38 P (val i) 38) m1 c = wst m 38 P (val i) 49 (40 * j + m1))) 0 z = al (fun m => decide (eN (upd (μ0 38) P (val i)) m c = μ0 49 (40 * j + m))) 0 z := by
      refine al_cong (fun q _ _ => ?_)
      show decide (eN (wst m 38 P (val i) 38) q c = wst m 38 P (val i) 49 (40 * j + q)) = decide (eN (upd (μ0 38) P (val i)) q c = μ0 49 (40 * j + q))
      rw [eN_same e38 (by omega), wst_o (by decide), hm.k 49 (by omega)]
    rw [ea] at e1
    obtain ⟨m', a1, a2⟩ := ih (i + 1) f m5 (by omega) (by omega) (hm.tr ((thq38 (q := fun x => x = P) rfl).tr b5.thk.q))
    refine ⟨m', ?_, a2⟩
    rw [← a1, L_X5_fitting_15, if_neg (hv1 i (by omega)), hat, bdr_s, sti_n (n := 152) (j := P) hP (by decide), e1, bdw_s]
    simp only [jn1_s, lt_s_, (hv3 i (by omega)).1, (hv3 i (by omega)).2]
    show _ = L_X5_fitting_15 (nI j) (nI c) pf p4 p5 k1 f (if al (fun m => decide (eN (upd (μ0 38) P (val i)) m c = μ0 49 (40 * j + m))) 0 z then S64 (fun v => al (fun m => decide (eN (upd (μ0 38) P (val v)) m c = μ0 49 (40 * j + m))) 0 z) i ||| lsl 1 (nI i) else S64 (fun v => al (fun m => decide (eN (upd (μ0 38) P (val v)) m c = μ0 49 (40 * j + m))) 0 z) i) (val (i + 1)) m5
    cases al (fun m => decide (eN (upd (μ0 38) P (val i)) m c = μ0 49 (40 * j + m))) 0 z with
    | true => rw [if_neg (show ¬ b01 true = 0 by decide), if_pos rfl]
    | false => rw [if_pos (show b01 false = 0 by decide), or_0, if_neg (by decide)]
theorem fitting_s {μ0 : MM} {n c j z P M : Nat} {pf p4 p5 : Int32} {val : Nat → Int32} (hV : ∀ i, i < M → VW (upd (μ0 38) P (val i)) n) (hC : RC μ0) (hc : c < n) (hj : j < 4) (hz : z ≤ 40) (ez : μ0 48 j = nI z) (hP : P < 152) (hat : f_X5_at (nI c) pf = some (nI P)) (hv0 : val 0 = p4) (hv1 : ∀ i, i < M → ¬ p5 < val i) (hv2 : p5 < val M) (hv3 : ∀ i, i < M → val i + 1 = val (i + 1) ∧ val i - p4 = nI i) (hM : M < 4096) (hci : f_X5_catIs (nI c) pf μ0 = some (μ0 38 P)) : ∃ m', f_X5_fitting (nI j) (nI c) pf p4 p5 μ0 = some (S64 (fun v => al (fun m => decide (eN (upd (μ0 38) P (val v)) m c = μ0 49 (40 * j + m))) 0 z) M, m') ∧ Thk μ0 m' := by
  obtain ⟨m', a1, a2⟩ := fitLoop hV hC hc hj hz ez hP hat hv1 hv2 hv3 (fun (x2 : Int64) (m1 : MM) => bdr (f_X5_at (nI c) pf) fun x3 => sti m1 38 152 x3 (μ0 38 P) fun m2 => some (x2, m2)) M 0 FU μ0 (by omega) (show M < 4096 from hM) (Thq_rfl _ _)
  refine ⟨wst m' 38 P (μ0 38 P), ?_, ⟨fun k hk => ?_, by rw [wst_o (by decide), a2.2.1], by rw [wst_o (by decide), a2.2.2.1], fun i hi _ => ?_⟩⟩
  · unfold f_X5_fitting
    rw [hci, bdr_s, jn2_s]
    rw [hv0] at a1
    refine (show _ = _ from a1).trans ?_
    rw [hat, bdr_s, sti_n (n := 152) (j := P) hP (by decide)]
  · rw [wst_o (fun e => hk (by rw [e]; unfold fre; omega)), a2.1 k hk]
  · rw [wst_at]
    by_cases y : i = P
    · subst y
      rw [upd_at]
    · rw [upd_o y, a2.2.2.2 i hi y]
