/-! ===== the class: the scan ===== -/
def tc (b : Nat → Int32) (L p : Nat) : Int32 := if Lt b L p then wcd b p (enT b L p) else if Dg b L p then 17 else sg (b p)
theorem wcd_s (b : Nat → Int32) (p e : Nat) : (∃ w, w < 17 ∧ wcd b p e = nI w ∧ wm b p e w = true) ∨ (wcd b p e = 21 ∧ ∀ w, w < 17 → wm b p e w = false) := by
  unfold wcd
  have H : ∀ (d i : Nat), (∃ w, i ≤ w ∧ w < i + d ∧ fd (wm b p e) i d = some w ∧ wm b p e w = true) ∨ (fd (wm b p e) i d = none ∧ ∀ w, i ≤ w → w < i + d → wm b p e w = false) := by
    intro d
    induction d with
    | zero => intro i; exact Or.inr ⟨rfl, fun w a b => by omega⟩
    | succ d ih =>
      intro i
      cases eb : wm b p e i with
      | true => exact Or.inl ⟨i, Nat.le_refl _, by omega, by rw [fd, eb, if_pos rfl], eb⟩
      | false =>
        rcases ih (i + 1) with ⟨w, h1, h2, h3, h4⟩ | ⟨h1, h2⟩
        · exact Or.inl ⟨w, by omega, by omega, by rw [fd, eb, if_neg (by decide)]; exact h3, h4⟩
        · refine Or.inr ⟨by rw [fd, eb, if_neg (by decide)]; exact h1, fun w a c => ?_⟩
          by_cases y : w = i
          · rw [y]; exact eb
          · exact h2 w (by omega) (by omega)
  rcases H 17 0 with ⟨w, h1, h2, h3, h4⟩ | ⟨h1, h2⟩
  · exact Or.inl ⟨w, by omega, by rw [h3], h4⟩
  · exact Or.inr ⟨by rw [h1], fun w hw => h2 w (by omega) (by omega)⟩
theorem nI_lit {w : Nat} (hw : w < 17) {z : Int32} (k : Nat) (hz : z = nI k) (hk : 17 ≤ k ∧ k < 2 ^ 31) : ¬ nI w = z := fun e => by
  rw [hz] at e
  have := (nI_eq (by omega) (by omega)).mp e
  omega
theorem sg_s (x : Int32) : sg x = 18 ∨ sg x = 19 ∨ sg x = 21 := by
  unfold sg
  split
  · exact Or.inl rfl
  · split
    · exact Or.inr (Or.inl rfl)
    · exact Or.inr (Or.inr rfl)
theorem tc_17 {b : Nat → Int32} {L p : Nat} (h : tc b L p = 17) : Lt b L p = false ∧ Dg b L p = true := by
  unfold tc at h
  cases e : Lt b L p with
  | true =>
    rw [e, if_pos rfl] at h
    rcases wcd_s b p (enT b L p) with ⟨w, hw, h1, _⟩ | ⟨h1, _⟩
    · rw [h1] at h
      exact absurd h (nI_lit hw 17 rfl (by decide))
    · rw [h1] at h
      exact absurd h (by decide)
  | false =>
    rw [e, if_neg (by decide)] at h
    refine ⟨rfl, ?_⟩
    cases e2 : Dg b L p with
    | true => rfl
    | false =>
      rw [e2, if_neg (by decide)] at h
      rcases sg_s (b p) with z | z | z <;> rw [z] at h <;> exact absurd h (by decide)
theorem XT_fr {b : Nat → Int32} {L : Nat} {m m' : MM} (h : XT b L m) (e1 : m' 19 = m 19) (e2 : m' 20 = m 20) : XT b L m' := ⟨by rw [e1]; exact h.1, fun i hi => by rw [e2]; exact h.2 i hi⟩
theorem take_s {b : Nat → Int32} {L p t : Nat} {m : MM} (hL : L ≤ 120) (h : XT b L m) (hp : p < L) (ht : t ≤ 120) (e3 : m 21 3 = nI t) : ∃ m', f_X1_takeToken (nI p) m = some (nI (enT b L p), m') ∧ (∀ k, k ≠ 22 → k ≠ 23 → k ≠ 24 → m' k = m k) ∧ (∀ x, x ≠ t → m' 22 x = m 22 x ∧ m' 23 x = m 23 x ∧ m' 24 x = m 24 x) ∧ m' 22 t = tc b L p ∧ m' 23 t = nI p ∧ (tc b L p = 17 → m' 24 t = vl b p (enT b L p - p) 0) := by
  have h1 : XT b L (wst m 23 t (nI p)) := XT_fr h (wst_o (by decide)) (wst_o (by decide))
  have r1 := xRun hL h1 97 122 (L - p) p FU (by omega) (show L - p < 4096 by omega)
  have r2 := xRun hL h1 48 57 (L - p) p FU (by omega) (show L - p < 4096 by omega)
  have e21 : ∀ v, wst m 23 t v 21 3 = nI t := fun v => by rw [wst_o (by decide), e3]
  unfold f_X1_takeToken
  rw [e3, sti_n (n := 121) (j := t) (by omega) (by decide)]
  unfold f_X3_runEnd
  rw [r1, bdr_s, r2, bdr_s, e21]
  cases el : Lt b L p with
  | true =>
    have ee : enT b L p = run (Lt b L) p := by unfold enT; rw [el, if_pos rfl]
    have hl := run_lt (Bd_inr b L 97 122) hL el
    have hr := (run_ok (Bd_inr b L 97 122) hL (Nat.le_of_lt hp)).2.1
    refine ⟨wst (wst m 23 t (nI p)) 22 t (tc b L p), ?_, fun k a c d => by rw [wst_o a, wst_o c], fun x hx => ⟨by rw [wst_at, upd_o hx, wst_o (by decide)], by rw [wst_o (by decide), wst_at, upd_o hx], by rw [wst_o (by decide), wst_o (by decide)]⟩, by rw [wst_at, upd_at], by rw [wst_o (by decide), wst_at, upd_at], fun z => by rw [(tc_17 z).1] at el; cases el⟩
    rw [if_neg (fun z => by
      have := (le_nn (by omega) (by omega)).mp z
      omega), xWord hL h1 (Nat.le_of_lt hl) hr, bdr_s, sti_n (n := 121) (j := t) (by omega) (by decide), ee]
    unfold tc
    rw [el, if_pos rfl, ee]
    rfl
  | false =>
    have n1 : run (inr b L 97 122) p = p := run_f el
    rw [n1, if_pos (Int32.le_refl _)]
    cases ed : Dg b L p with
    | true =>
      have ee : enT b L p = run (Dg b L) p := by unfold enT; rw [el, ed, if_neg (by decide), if_pos rfl]
      have hl := run_lt (Bd_inr b L 48 57) hL ed
      have hr := (run_ok (Bd_inr b L 48 57) hL (Nat.le_of_lt hp)).2.1
      have et : tc b L p = 17 := by unfold tc; rw [el, ed, if_neg (by decide), if_pos rfl]
      refine ⟨wst (wst (wst m 23 t (nI p)) 22 t 17) 24 t (vl b p (enT b L p - p) 0), ?_, fun k a c d => by rw [wst_o d, wst_o a, wst_o c], fun x hx => ⟨by rw [wst_o (by decide), wst_at, upd_o hx, wst_o (by decide)], by rw [wst_o (by decide), wst_o (by decide), wst_at, upd_o hx], by rw [wst_at, upd_o hx, wst_o (by decide), wst_o (by decide)]⟩, by rw [wst_o (by decide), wst_at, upd_at, et], by rw [wst_o (by decide), wst_o (by decide), wst_at, upd_at], fun _ => by rw [wst_at, upd_at]⟩
      have h2 : XT b L (wst (wst m 23 t (nI p)) 22 t 17) := XT_fr h1 (wst_o (by decide)) (wst_o (by decide))
      have hn := xNum hL h2 hr (run (inr b L 48 57) p - p) p FU 0 (by have : p < run (inr b L 48 57) p := hl; omega) (show run (inr b L 48 57) p - p < 4096 by have : run (inr b L 48 57) p ≤ L := hr; omega)
      rw [if_neg (fun z => by
        have := (le_nn (by have : run (inr b L 48 57) p ≤ L := hr; omega) (by omega)).mp z
        have : p < run (inr b L 48 57) p := hl
        omega), sti_n (n := 121) (j := t) (by omega) (by decide)]
      unfold f_X3_numberAt
      rw [hn, bdr_s, wst_o (show (21 : Nat) ≠ 22 by decide), e21, sti_n (n := 121) (j := t) (by omega) (by decide), ee]
      rfl
    | false =>
      have n2 : run (inr b L 48 57) p = p := run_f ed
      have ee : enT b L p = p + 1 := by unfold enT; rw [el, ed, if_neg (by decide), if_neg (by decide)]
      have et : tc b L p = sg (b p) := by unfold tc; rw [el, ed, if_neg (by decide), if_neg (by decide)]
      refine ⟨wst (wst m 23 t (nI p)) 22 t (tc b L p), ?_, fun k a c d => by rw [wst_o a, wst_o c], fun x hx => ⟨by rw [wst_at, upd_o hx, wst_o (by decide)], by rw [wst_o (by decide), wst_at, upd_o hx], by rw [wst_o (by decide), wst_o (by decide)]⟩, by rw [wst_at, upd_at], by rw [wst_o (by decide), wst_at, upd_at], fun z => by rw [(tc_17 z).2] at ed; cases ed⟩
      have es : f_X1_signOf (b p) = some (sg (b p)) := by
        unfold f_X1_signOf sg
        split
        · rfl
        · split <;> rfl
      rw [n2, if_pos (Int32.le_refl _), ldi_n (show p < 120 by omega) (by decide), h1.2 p hp, es, bdr_s, sti_n (n := 121) (j := t) (by omega) (by decide), ee, et, nI_1]
/-- the tokens lie ready up to t -/
def AR (b : Nat → Int32) (L : Nat) (m : MM) (t : Nat) : Prop := m 22 t = tk b L t ∧ m 23 t = nI (bg b L t) ∧ (tk b L t = 17 → m 24 t = nv b L t)
theorem tk_c {b : Nat → Int32} {L t : Nat} (h : bg b L t < L) : tk b L t = tc b L (bg b L t) := by
  unfold tk tc
  rw [if_pos h]
theorem scanLoop {b : Nat → Int32} {L : Nat} {μ : MM} (hL : L ≤ 120) (k1 : MM → Option MM) : ∀ (fu e i l : Nat) (m : MM), L - e < fu → e ≤ L → i ≤ e → l ≤ e → skT b L e = bg b L l → XT b L m → m 21 3 = nI l → (∀ t, t < l → bg b L t < L ∧ AR b L m t) → (∀ k, ¬ (21 ≤ k ∧ k ≤ 24) → m k = μ k) → (∀ x, x ≠ 3 → m 21 x = μ 21 x) → ∃ T m', L_X1_scan_9 k1 fu (nI e) (nI i) m = k1 m' ∧ isT b L T ∧ XT b L m' ∧ m' 21 3 = nI T ∧ (∀ t, t < T → AR b L m' t) ∧ (∀ k, ¬ (21 ≤ k ∧ k ≤ 24) → m' k = μ k) ∧ (∀ x, x ≠ 3 → m' 21 x = μ 21 x) := by
  intro fu
  induction fu with
  | zero => intro e i l m h; omega
  | succ f ih =>
    intro e i l m hf he hi hl hs hX h3 hA hfr hfr2
    by_cases q : e = L
    · subst q
      have hb : bg b e l = e := by
        rw [← hs]
        exact run_f (Bd_iSp b e e (Nat.le_refl _))
      refine ⟨l, m, ?_, ⟨hb, fun t ht => (hA t ht).1⟩, hX, h3, fun t ht => (hA t ht).2, hfr, hfr2⟩
      rw [L_X1_scan_9, hX.1, if_pos (Int32.le_refl _)]
      split <;> rfl
    · have he' : e < L := by omega
      rw [L_X1_scan_9, if_neg (ge_n (z := 120) (N := 120) rfl (by decide) (by omega)), hX.1, if_neg (nI_ge he' (by omega)), ldi_n (show e < 120 by omega) (by decide), hX.2 e he']
      simp only [jn2_s, lt_s_, nI_1]
      by_cases q2 : b e = 32
      · rw [if_pos q2]
        refine ih (e + 1) (i + 1) l m (by omega) (by omega) (by omega) (by omega) ?_ hX h3 hA hfr hfr2
        rw [← hs]
        exact (run_t (Bd_iSp b L) hL (by rw [iSp_s he', decide_eq_true q2])).symm
      · have hbe : bg b L l = e := by
          rw [← hs]
          exact run_f (by rw [iSp_s he', decide_eq_false q2])
        obtain ⟨m1, a1, a2, a3, a4, a5, a6⟩ := take_s hL hX he' (show l ≤ 120 by omega) h3
        have hen := enT_s (b := b) hL he'
        rw [if_neg q2, a1, bdw_s, a2 21 (by decide) (by decide) (by decide), h3, nI_1]
        refine ih (enT b L e) (i + 1) (l + 1) (wst m1 21 3 (nI (l + 1))) (by omega) hen.2 (by omega) (by omega) ?_ ?_ (by rw [wst_at, upd_at]) (fun t ht => ?_) (fun k hk => ?_) (fun x hx => ?_)
        · show _ = (if bg b L l < L then skT b L (enT b L (bg b L l)) else bg b L l)
          rw [hbe, if_pos he']
        · exact XT_fr hX (by rw [wst_o (by decide), a2 19 (by decide) (by decide) (by decide)]) (by rw [wst_o (by decide), a2 20 (by decide) (by decide) (by decide)])
        · unfold AR
          rw [wst_o (show (22 : Nat) ≠ 21 by decide), wst_o (show (23 : Nat) ≠ 21 by decide), wst_o (show (24 : Nat) ≠ 21 by decide)]
          by_cases y : t = l
          · subst y
            have hlt : bg b L t < L := by omega
            rw [tk_c hlt, a4, a5, hbe]
            refine ⟨he', rfl, rfl, fun z => ?_⟩
            rw [a6 z]
            unfold nv
            rw [hbe]
          · obtain ⟨x1, x2, x3, x4⟩ := hA t (by omega)
            obtain ⟨y1, y2, y3⟩ := a3 t y
            rw [y1, y2, y3]
            exact ⟨x1, x2, x3, x4⟩
        · rw [wst_o (by omega), a2 k (by omega) (by omega) (by omega), hfr k hk]
        · rw [wst_at, upd_o hx, a2 21 (by decide) (by decide) (by decide), hfr2 x hx]
/-- all tokens lie ready -/
def CT (b : Nat → Int32) (L T : Nat) (m : MM) : Prop := m 21 3 = nI T ∧ ∀ t, t ≤ T → AR b L m t
theorem scan_s {b : Nat → Int32} {L : Nat} {μ : MM} (hL : L ≤ 120) (hX : XT b L μ) : ∃ T m, f_X1_scan μ = some m ∧ isT b L T ∧ CT b L T m ∧ (∀ k, ¬ (21 ≤ k ∧ k ≤ 24) → m k = μ k) := by
  obtain ⟨T, m, a1, a2, a3, a4, a5, a6, a7⟩ := scanLoop (b := b) (μ := μ) hL (fun (m2 : MM) => sti m2 22 121 (m2 21 3) 20 fun m3 => sti m3 23 121 (m3 21 3) (m3 19 1) fun m4 => some m4) FU 0 0 0 (wst μ 21 3 0) (show L - 0 < 4096 by omega) (Nat.zero_le _) (Nat.le_refl _) (Nat.le_refl _) rfl (XT_fr hX (wst_o (by decide)) (wst_o (by decide))) (by rw [wst_at, upd_at]; rfl) (fun t ht => by omega) (fun k hk => wst_o (by omega)) (fun x hx => by rw [wst_at, upd_o hx])
  have hT := T_120 hL a2
  refine ⟨T, wst (wst m 22 T 20) 23 T (nI L), ?_, a2, ⟨by rw [wst_o (by decide), wst_o (by decide), a4], fun t ht => ?_⟩, fun k hk => by rw [wst_o (by omega), wst_o (by omega), a6 k hk]⟩
  · unfold f_X1_scan
    rw [lt_s_, jn1_s]
    refine (show _ = _ from a1).trans ?_
    rw [a4, sti_n (n := 121) (j := T) (by omega) (by decide), wst_o (show (21 : Nat) ≠ 22 by decide), a4, wst_o (show (19 : Nat) ≠ 22 by decide), a3.1, sti_n (n := 121) (j := T) (by omega) (by decide)]
  · unfold AR
    rw [wst_o (show (22 : Nat) ≠ 23 by decide), wst_at, wst_at, wst_o (show (24 : Nat) ≠ 23 by decide), wst_o (show (24 : Nat) ≠ 22 by decide)]
    by_cases y : t = T
    · subst y
      have et : tk b L t = 20 := by unfold tk; rw [a2.1, if_neg (Nat.lt_irrefl _)]
      rw [upd_at, upd_at, et, a2.1]
      exact ⟨rfl, rfl, fun z => absurd z (by decide)⟩
    · rw [upd_o y, upd_o y, wst_o (show (23 : Nat) ≠ 22 by decide)]
      exact a5 t (by omega)
