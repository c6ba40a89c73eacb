/-! ===== when all SHIPS are still ===== -/
/-- whether no SHIP goes on behind m WATCHES -/
def stp (g : Nat → Int32) (n m : Nat) : Bool := decide (pos g n 0 (m + 1) = pos g n 0 m ∧ pos g n 1 (m + 1) = pos g n 1 m ∧ pos g n 2 (m + 1) = pos g n 2 m ∧ pos g n 3 (m + 1) = pos g n 3 m)
theorem all4 (p : Nat → Prop) : (∀ t, t < 4 → p t) ↔ (p 0 ∧ p 1 ∧ p 2 ∧ p 3) := by
  refine ⟨fun z => ⟨z 0 (by omega), z 1 (by omega), z 2 (by omega), z 3 (by omega)⟩, fun ⟨a, b, c, d⟩ t ht => ?_⟩
  rcases (show t = 0 ∨ t = 1 ∨ t = 2 ∨ t = 3 by omega) with e | e | e | e <;> subst e <;> assumption
theorem stp_s (g : Nat → Int32) (n m : Nat) : stp g n m = true ↔ ∀ t, t < 4 → pos g n t (m + 1) = pos g n t m := by
  unfold stp
  rw [decide_eq_true_eq]
  exact (all4 fun t => pos g n t (m + 1) = pos g n t m).symm
theorem mvStep {μ : MM} {g : Nat → Int32} {n m s f : Nat} {x : Int32} (hR : RN μ 1 g) (hV : VW g n) (hs : s < 4) (e : μ 36 s = nI (pos g n s m)) : L_X4_movesPlaces_4 (nI m) (f + 1) x (nI s) μ = L_X4_movesPlaces_4 (nI m) f (if pos g n s (m + 1) = pos g n s m then x else 1) (nI (s + 1)) (wst μ 36 s (nI (pos g n s (m + 1)))) := by
  have hp : nxN g n m s (pos g n s m) = pos g n s (m + 1) := rfl
  have l1 := pos_lt hV hs m
  have l2 := pos_lt hV hs (m + 1)
  rw [L_X4_movesPlaces_4, if_neg (ge_n (z := 4) (N := 4) rfl (by decide) hs), ldi_n hs (by decide), e, xNext hR hV hs (pos_lt hV hs m), bdr_s, hp, ldi_n hs (by decide), e]
  simp only [jn1_s]
  by_cases q : pos g n s (m + 1) = pos g n s m
  · rw [if_pos (congrArg nI q), if_pos q, sti_n hs (by decide), lt_s_, nI_1]
  · rw [if_neg (fun z => q ((nI_eq (by omega) (by omega)).mp z)), if_neg q, sti_n hs (by decide), lt_s_, nI_1]
theorem mvLoop {g : Nat → Int32} {n m : Nat} (hV : VW g n) : ∀ (d s fu : Nat) (x : Int32) (μ : MM), s + d = 4 → d < fu → RN μ 1 g → (x = 0 ∨ x = 1) → (∀ t, t < 4 → μ 36 t = nI (pos g n t (if t < s then m + 1 else m))) → ∃ r μ', L_X4_movesPlaces_4 (nI m) fu x (nI s) μ = some (r, μ') ∧ (r = 0 ↔ x = 0 ∧ ∀ t, s ≤ t → t < 4 → pos g n t (m + 1) = pos g n t m) ∧ (∀ k, k ≠ 36 → μ' k = μ k) ∧ ∀ t, t < 4 → μ' 36 t = nI (pos g n t (m + 1)) := by
  intro d
  induction d with
  | zero =>
    intro s fu x μ hi hf hR hx h
    obtain ⟨f, rfl⟩ : ∃ f, fu = f + 1 := ⟨fu - 1, by omega⟩
    have e : s = 4 := by omega
    subst e
    refine ⟨x, μ, by rw [L_X4_movesPlaces_4, if_pos (show (4 : Int32) ≤ nI 4 by decide), gd_t hx], ⟨fun z => ⟨z, fun t a b => by omega⟩, fun z => z.1⟩, fun _ _ => rfl, fun t ht => ?_⟩
    rw [h t ht, if_pos ht]
  | succ d ih =>
    intro s fu x μ hi hf hR hx h
    obtain ⟨f, rfl⟩ : ∃ f, fu = f + 1 := ⟨fu - 1, by omega⟩
    have hs : s < 4 := by omega
    have e : μ 36 s = nI (pos g n s m) := by
      rw [h s hs, if_neg (Nat.lt_irrefl _)]
    obtain ⟨r, μ', e1, e2, e3, e4⟩ := ih (s + 1) f (if pos g n s (m + 1) = pos g n s m then x else 1) (wst μ 36 s (nI (pos g n s (m + 1)))) (by omega) (by omega) (RN_fr (fun k a b => wst_o (by omega)) hR) (by
      by_cases q : pos g n s (m + 1) = pos g n s m
      · rw [if_pos q]
        exact hx
      · rw [if_neg q]
        exact Or.inr rfl) (fun t ht => by
      rw [wst_at]
      by_cases q : t = s
      · subst q
        rw [upd_at, if_pos (by omega)]
      · rw [upd_o q, h t ht]
        by_cases z : t < s
        · rw [if_pos z, if_pos (by omega)]
        · rw [if_neg z, if_neg (by omega)])
    refine ⟨r, μ', (mvStep hR hV hs e).trans e1, e2.trans ?_, fun k hk => (e3 k hk).trans (wst_o hk), e4⟩
    by_cases q : pos g n s (m + 1) = pos g n s m
    · rw [if_pos q]
      exact ⟨fun z => ⟨z.1, fun t a b => by
        by_cases w : t = s
        · rw [w]
          exact q
        · exact z.2 t (by omega) b⟩, fun z => ⟨z.1, fun t a b => z.2 t (by omega) b⟩⟩
    · rw [if_neg q]
      exact ⟨fun z => absurd z.1 (by decide), fun z => absurd (z.2 s (Nat.le_refl _) hs) q⟩
theorem moves_s {μ : MM} {g : Nat → Int32} {n m : Nat} (hR : RN μ 1 g) (hV : VW g n) (h : ∀ t, t < 4 → μ 36 t = nI (pos g n t m)) : ∃ r μ', f_X4_movesPlaces (nI m) μ = some (r, μ') ∧ (r = 0 ↔ stp g n m = true) ∧ (∀ k, k ≠ 36 → μ' k = μ k) ∧ ∀ t, t < 4 → μ' 36 t = nI (pos g n t (m + 1)) := by
  obtain ⟨r, μ', e1, e2, e3, e4⟩ := mvLoop (m := m) hV 4 0 FU 0 μ (by omega) (show 4 < 4096 by decide) hR (Or.inl rfl) (fun t ht => by rw [if_neg (by omega)]; exact h t ht)
  refine ⟨r, μ', e1, e2.trans ?_, e3, e4⟩
  rw [stp_s]
  exact ⟨fun z t ht => z.2 t (by omega) ht, fun z => ⟨rfl, fun t _ ht => z t ht⟩⟩
theorem sim_goes {μ0 μ : MM} {n m s : Nat} (h : Sim μ0 n m μ) (hV : VW (μ0 38) n) (hC : RC μ0) (hm : m < 2 ^ 29) (hs : s < 4) : f_X5_goesTo (nI s) μ = some (nI (pos (μ0 38) n s (m + 1))) := by
  have e : nxN (μ 38) n 0 s (pos (μ0 38) n s m) = nxN (μ0 38) n m s (pos (μ0 38) n s m) := nx_wj (j := 0) (m := m) (g := μ0 38) hV (by omega) (by omega) hs (pos_lt hV hs m) (fun i hi => (h.2.1 i hi).trans (by unfold wj; rw [if_neg (by omega)]))
  have e2 : nxN (μ0 38) n m s (pos (μ0 38) n s m) = pos (μ0 38) n s (m + 1) := rfl
  rw [mGoes (h.vw hV hm) (h.rc hC) hs (pos_lt hV hs m) (h.ship hs), e, e2]
theorem stLoop {μ0 μ : MM} {n m : Nat} (h : Sim μ0 n m μ) (hV : VW (μ0 38) n) (hC : RC μ0) (hm : m < 2 ^ 29) : ∀ (d s fu : Nat) (x : Int32), s + d = 4 → d < fu → (x = 0 ∨ x = 1) → ∃ r, L_X5_isStill_4 μ fu x (nI s) = some r ∧ (r = 0 ↔ ¬ (x = 1 ∧ ∀ t, s ≤ t → t < 4 → pos (μ0 38) n t (m + 1) = pos (μ0 38) n t m)) := by
  intro d
  induction d with
  | zero =>
    intro s fu x hi hf hx
    obtain ⟨f, rfl⟩ : ∃ f, fu = f + 1 := ⟨fu - 1, by omega⟩
    have e : s = 4 := by omega
    subst e
    refine ⟨x, by rw [L_X5_isStill_4, if_pos (show (4 : Int32) ≤ nI 4 by decide), gd_t hx], fun z w => ?_, fun z => ?_⟩
    · rw [z] at w
      exact absurd w.1 (by decide)
    · rcases hx with w | w
      · exact w
      · exact absurd ⟨w, fun t a b => by omega⟩ z
  | succ d ih =>
    intro s fu x hi hf hx
    obtain ⟨f, rfl⟩ : ∃ f, fu = f + 1 := ⟨fu - 1, by omega⟩
    have hs : s < 4 := by omega
    have l1 := pos_lt hV hs m
    have l2 := pos_lt hV hs (m + 1)
    rw [L_X5_isStill_4, if_neg (ge_n (z := 4) (N := 4) rfl (by decide) hs)]
    simp only [jn1_s, jn0_s]
    rcases hx with w | w
    · subst w
      obtain ⟨r, e1, e2⟩ := ih (s + 1) f 0 (by omega) (by omega) (Or.inl rfl)
      refine ⟨r, by rw [if_pos rfl, lt_s_, nI_1]; exact e1, e2.trans ⟨fun _ z => absurd z.1 (by decide), fun _ z => absurd z.1 (by decide)⟩⟩
    · subst w
      by_cases q : pos (μ0 38) n s (m + 1) = pos (μ0 38) n s m
      · obtain ⟨r, e1, e2⟩ := ih (s + 1) f 1 (by omega) (by omega) (Or.inr rfl)
        refine ⟨r, ?_, e2.trans (not_congr ⟨fun z => ⟨rfl, fun t a b => ?_⟩, fun z => ⟨rfl, fun t a b => z.2 t (by omega) b⟩⟩)⟩
        · rw [if_neg (by decide), sim_goes h hV hC hm hs, bdr_s, shipIs0 hs, bdr_s, h.ship hs, if_pos (congrArg nI q), lt_s_, nI_1]
          exact e1
        · by_cases w : t = s
          · rw [w]
            exact q
          · exact z.2 t (by omega) b
      · obtain ⟨r, e1, e2⟩ := ih (s + 1) f 0 (by omega) (by omega) (Or.inl rfl)
        refine ⟨r, ?_, e2.trans ⟨fun _ z => q (z.2 s (Nat.le_refl _) hs), fun _ z => absurd z.1 (by decide)⟩⟩
        rw [if_neg (by decide), sim_goes h hV hC hm hs, bdr_s, shipIs0 hs, bdr_s, h.ship hs, if_neg (fun z => q ((nI_eq (by omega) (by omega)).mp z)), lt_s_, nI_1]
        exact e1
theorem isStill_s {μ0 μ : MM} {n m : Nat} (h : Sim μ0 n m μ) (hV : VW (μ0 38) n) (hC : RC μ0) (hm : m < 2 ^ 29) : ∃ r, f_X5_isStill μ = some r ∧ (r = 0 ↔ ¬ stp (μ0 38) n m = true) := by
  obtain ⟨r, e1, e2⟩ := stLoop h hV hC hm 4 0 FU 1 (by omega) (show 4 < 4096 by decide) (Or.inr rfl)
  refine ⟨r, e1, e2.trans (not_congr ?_)⟩
  rw [stp_s]
  exact ⟨fun z t ht => z.2 t (by omega) ht, fun z => ⟨rfl, fun t _ ht => z t ht⟩⟩
theorem xStill {g : Nat → Int32} {n : Nat} (hV : VW g n) : ∀ (d i fu : Nat) (μ : MM), i + d = 61 → d < fu → RN μ 1 g → (∀ t, t < 4 → μ 36 t = nI (pos g n t i)) → ∃ μ', (∀ k, k ≠ 36 → μ' k = μ k) ∧ L_X4_still_19 fu (nI i) μ = match fd (stp g n) i d with | some k => some (nI k, μ') | none => f_X4_finding (-1000004) μ' := by
  intro d
  induction d with
  | zero =>
    intro i fu μ hi hf hR h
    obtain ⟨f, rfl⟩ : ∃ f, fu = f + 1 := ⟨fu - 1, by omega⟩
    have e : i = 61 := by omega
    subst e
    exact ⟨μ, fun _ _ => rfl, by rw [L_X4_still_19, if_pos (show (60 : Int32) < nI 61 by decide), bdw_id]; rfl⟩
  | succ d ih =>
    intro i fu μ hi hf hR h
    obtain ⟨f, rfl⟩ : ∃ f, fu = f + 1 := ⟨fu - 1, by omega⟩
    have hi60 : ¬ (60 : Int32) < nI i := nI_nlt (a := 60) (b := i) (by omega) (by decide)
    obtain ⟨r, μ1, e1, e2, e3, e4⟩ := moves_s hR hV h
    by_cases q : stp g n i = true
    · refine ⟨μ1, e3, ?_⟩
      rw [L_X4_still_19, if_neg hi60, e1, bdw_s, if_pos (e2.mpr q), fd, if_pos q]
    · obtain ⟨μ', a, b⟩ := ih (i + 1) f μ1 (by omega) (by omega) (RN_fr (fun k a b => e3 k (by omega)) hR) e4
      refine ⟨μ', fun k hk => (a k hk).trans (e3 k hk), ?_⟩
      rw [L_X4_still_19, if_neg hi60, e1, bdw_s, if_neg (fun z => q (e2.mp z)), lt_s_, nI_1, fd, if_neg q]
      exact b
theorem mStill {μ0 : MM} {n : Nat} (hV : VW (μ0 38) n) (hC : RC μ0) (k1 : Int32 → MM → Option (Int32 × MM)) : ∀ (d i fu : Nat) (μ : MM), i + d = 60 → d < fu → Sim μ0 n i μ → ∃ k μ', k ≤ 60 ∧ Sim μ0 n k μ' ∧ L_X5_still_13 k1 fu (nI i) μ = k1 (nI k) μ' ∧ fd (stp (μ0 38) n) i (d + 1) = if stp (μ0 38) n k then some k else none := by
  intro d
  induction d with
  | zero =>
    intro i fu μ hi hf h
    obtain ⟨f, rfl⟩ : ∃ f, fu = f + 1 := ⟨fu - 1, by omega⟩
    have e : i = 60 := by omega
    subst e
    exact ⟨60, μ, Nat.le_refl _, h, by rw [L_X5_still_13, if_pos (show (60 : Int32) ≤ nI 60 by decide)], rfl⟩
  | succ d ih =>
    intro i fu μ hi hf h
    obtain ⟨f, rfl⟩ : ∃ f, fu = f + 1 := ⟨fu - 1, by omega⟩
    obtain ⟨r, e0, er⟩ := isStill_s h hV hC (by omega)
    by_cases q : stp (μ0 38) n i = true
    · refine ⟨i, μ, by omega, h, ?_, ?_⟩
      · rw [L_X5_still_13, if_neg (ge_n (z := 60) (N := 60) rfl (by decide) (by omega)), e0, bdr_s, if_neg (fun z => er.mp z q)]
      · rw [fd, if_pos q, if_pos q]
    · obtain ⟨μ1, e1, h1⟩ := sim_watch h hV hC (by omega)
      obtain ⟨k, μ2, hk, h2, e2, e3⟩ := ih (i + 1) f μ1 (by omega) (by omega) h1
      refine ⟨k, μ2, hk, h2, ?_, ?_⟩
      · rw [L_X5_still_13, if_neg (ge_n (z := 60) (N := 60) rfl (by decide) (by omega)), e0, bdr_s, if_pos (er.mpr q), e1, bdr_s, lt_s_, nI_1]
        exact e2
      · rw [fd, if_neg q]
        exact e3
theorem still_m {μ0 : MM} {n : Nat} (hV : VW (μ0 38) n) (hC : RC μ0) : ∃ μ', Bk μ0 μ' ∧ f_X5_still μ0 = f_X5_told (vo (fd (stp (μ0 38) n) 0 61)) μ' := by
  obtain ⟨μ1, e1, h1⟩ := sim_start hV
  unfold f_X5_still
  rw [e1, bdr_s, jn2_s]
  obtain ⟨k, μ2, hk, h2, e2, e3⟩ := mStill hV hC (fun (x1 : Int32) (m2 : MM) => bdr (f_X5_isStill m2) fun x2 => if x2 = 0 then (bdw (f_X5_putBack 1000000 m2) fun x3 m3 => bdw (f_X5_told x3 m3) fun x4 m4 => some (x4, m4)) else (bdw (f_X5_putBack x1 m2) fun x5 m5 => bdw (f_X5_told x5 m5) fun x6 m6 => some (x6, m6))) 60 0 FU μ1 (by omega) (show 60 < 4096 by decide) h1
  obtain ⟨r, e0, er⟩ := isStill_s h2 hV hC (by omega)
  rw [show nI 0 = (0 : Int32) from rfl] at e2
  by_cases q : stp (μ0 38) n k = true
  · obtain ⟨μ3, e4, b⟩ := sim_back h2 (nI k)
    refine ⟨μ3, b, e2.trans ?_⟩
    rw [e0, bdr_s, if_neg (fun z => er.mp z q), e4, bdw_s, bdw_id, e3, if_pos q]
    rfl
  · obtain ⟨μ3, e4, b⟩ := sim_back h2 1000000
    refine ⟨μ3, b, e2.trans ?_⟩
    rw [e0, bdr_s, if_pos (er.mpr q), e4, bdw_s, bdw_id, e3, if_neg q]
    rfl
theorem s_still : Two f_X4_still f_X5_still := by
  intro μ h
  obtain ⟨n, hV0⟩ := h.2.1
  have hV := hV0.w
  obtain ⟨μ', a, e⟩ := xStill hV 61 0 FU (wsr μ 36 (va_cpy (μ 5) (μ 36) 0 0 4)) (by omega) (show 61 < 4096 by decide) (RN_fr (fun k a b => wsr_ne (by omega)) h.1) (fun t ht => by rw [wsr_same, cpy_in ht, (h.1.ship1 ht).1, pos_0 hV ht])
  have ex : f_X4_still μ = match fd (stp (μ 38) n) 0 61 with | some k => some (nI k, μ') | none => f_X4_finding (-1000004) μ' := by
    unfold f_X4_still
    rw [acp4]
    exact e
  have fr : ∀ k, k ≠ 36 → μ' k = μ k := fun k hk => (a k hk).trans (wsr_ne hk)
  have h' : Rel μ' := Rel_sc ⟨fun k _ _ q _ _ _ _ => fr k q, by rw [fr 37 (by decide)], by rw [fr 37 (by decide)]⟩ h
  have e38 : μ' 38 = μ 38 := fr 38 (by decide)
  have em : ∀ m : MM, (∀ k, k ≠ 34 → m k = μ' k) → ∃ m', Bk m m' ∧ f_X5_still m = f_X5_told (vo (fd (stp (μ 38) n) 0 61)) m' := fun m hm => by
    have q38 : m 38 = μ 38 := (hm 38 (by decide)).trans e38
    obtain ⟨m', b, e⟩ := still_m (μ0 := m) (n := n) (by rw [q38]; exact hV) (RC_fr (hm 42 (by decide)) (hm 43 (by decide)) h'.2.2.2.2.2.2)
    rw [q38] at e
    exact ⟨m', b, e⟩
  cases hf : fd (stp (μ 38) n) 0 61 with
  | none =>
    rw [hf] at ex em
    obtain ⟨r, μ1, μ2, e1, e2, e3⟩ := find_bk (fx := f_X4_finding (-1000004)) (fm := f_X5_still) h' (-1000004) 3 (by decide) rfl (fun m hm => by
      obtain ⟨m', b, e⟩ := em m hm
      exact ⟨m', b, e.trans told_n⟩)
    exact ⟨r, μ1, μ2, ex.trans e1, e2, e3⟩
  | some k =>
    rw [hf] at ex em
    have hk := fd_lt 61 0 k hf
    obtain ⟨m', b, e⟩ := em μ' (fun _ _ => rfl)
    exact ⟨nI k, μ', m', ex, e.trans (told_s (by omega)), Rel_back b h'⟩
