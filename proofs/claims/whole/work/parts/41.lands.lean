/-! ===== the first of some ===== -/
def fd (p : Nat → Bool) (i : Nat) : Nat → Option Nat
  | 0 => none
  | d + 1 => if p i then some i else fd p (i + 1) d
def vo (o : Option Nat) : Int32 := match o with
  | some k => nI k
  | none => 1000000
/-- whether a SHIP is LANDED behind m WATCHES -/
def lp (g : Nat → Int32) (n s m : Nat) : Bool := decide (¬ g (16 + pos g n s m) = 0)
theorem fd_lt {p : Nat → Bool} : ∀ (d i k : Nat), fd p i d = some k → i ≤ k ∧ k < i + d := by
  intro d
  induction d with
  | zero => intro i k h; cases h
  | succ d ih =>
    intro i k h
    unfold fd at h
    by_cases q : p i = true
    · rw [if_pos q] at h
      have := Option.some.inj h
      omega
    · rw [if_neg q] at h
      have := ih (i + 1) k h
      omega
theorem sim_isl {μ0 μ : MM} {n m s : Nat} (h : Sim μ0 n m μ) (hV : VW (μ0 38) n) (hm : m < 2 ^ 29) (hs : s < 4) : f_X5_isLanded (nI s) μ = some (μ0 38 (16 + pos (μ0 38) n s m)) := by
  have hp := pos_lt hV hs m
  rw [mLanded (h.vw hV hm) hs hp (h.ship hs), h.2.1 _ (by omega), wt_o (by omega) (by omega) (by omega)]
theorem landsLoop {μ0 : MM} {n N s : Nat} (hV : VW (μ0 38) n) (hC : RC μ0) (hN : N < 4096) (hs : s < 4) (k1 : Int32 → MM → Option (Int32 × MM)) : ∀ (d i fu : Nat) (μ : MM), i + d = N → d < fu → Sim μ0 n i μ → ∃ k μ', k ≤ N ∧ Sim μ0 n k μ' ∧ L_X5_landsIn_13 (nI s) (nI N) k1 fu (nI i) μ = k1 (nI k) μ' ∧ fd (lp (μ0 38) n s) i (d + 1) = if lp (μ0 38) n s k then some k else none := by
  intro d
  induction d with
  | zero =>
    intro i fu μ hi hf h
    obtain ⟨f, rfl⟩ : ∃ f, fu = f + 1 := ⟨fu - 1, by omega⟩
    have e : i = N := by omega
    subst e
    exact ⟨i, μ, Nat.le_refl _, h, by rw [L_X5_landsIn_13, if_pos (Int32.le_refl _)], rfl⟩
  | succ d ih =>
    intro i fu μ hi hf h
    obtain ⟨f, rfl⟩ : ∃ f, fu = f + 1 := ⟨fu - 1, by omega⟩
    by_cases q : μ0 38 (16 + pos (μ0 38) n s i) = 0
    · obtain ⟨μ1, e1, h1⟩ := sim_watch h hV hC (by omega)
      obtain ⟨k, μ2, hk, h2, e2, e3⟩ := ih (i + 1) f μ1 (by omega) (by omega) h1
      have hl : ¬ lp (μ0 38) n s i = true := by
        unfold lp
        rw [decide_eq_true_eq]
        exact fun z => z q
      refine ⟨k, μ2, hk, h2, ?_, ?_⟩
      · rw [L_X5_landsIn_13, if_neg (nI_ge (by omega) (by omega)), sim_isl h hV (by omega) hs, bdr_s, if_pos q, e1, bdr_s, lt_s_, nI_1]
        exact e2
      · rw [fd, if_neg hl]
        exact e3
    · have hl : lp (μ0 38) n s i = true := by
        unfold lp
        rw [decide_eq_true_eq]
        exact q
      refine ⟨i, μ, by omega, h, ?_, ?_⟩
      · rw [L_X5_landsIn_13, if_neg (nI_ge (by omega) (by omega)), sim_isl h hV (by omega) hs, bdr_s, if_neg q]
      · rw [fd, if_pos hl, if_pos hl]
theorem landsIn_s {μ0 : MM} {n N s : Nat} (hV : VW (μ0 38) n) (hC : RC μ0) (hN : N < 4096) (hs : s < 4) : ∃ μ, f_X5_landsIn (nI s) (nI N) μ0 = some (vo (fd (lp (μ0 38) n s) 0 (N + 1)), μ) ∧ Bk μ0 μ := by
  obtain ⟨μ1, e1, h1⟩ := sim_start hV
  unfold f_X5_landsIn
  rw [e1, bdr_s, jn2_s]
  generalize hk : (fun (x1 : Int32) (m2 : MM) => bdr (f_X5_isLanded (nI s) m2) fun x2 => if x2 = 0 then (bdw (f_X5_putBack 1000000 m2) fun x3 m3 => some (x3, m3)) else (bdw (f_X5_putBack x1 m2) fun x4 m4 => some (x4, m4))) = k1
  obtain ⟨k, μ2, hkN, h2, e2, e3⟩ := landsLoop hV hC hN hs k1 N 0 FU μ1 (by omega) (show N < 4096 from hN) h1
  rw [show nI 0 = (0 : Int32) from rfl] at e2
  rw [e2, ← hk, e3]
  show ∃ μ, (bdr (f_X5_isLanded (nI s) μ2) _) = _ ∧ _
  rw [sim_isl h2 hV (by omega) hs, bdr_s, bdw_id, bdw_id]
  by_cases q : μ0 38 (16 + pos (μ0 38) n s k) = 0
  · have hl : ¬ lp (μ0 38) n s k = true := by
      unfold lp
      rw [decide_eq_true_eq]
      exact fun z => z q
    rw [if_pos q, if_neg hl]
    exact sim_back h2 1000000
  · have hl : lp (μ0 38) n s k = true := by
      unfold lp
      rw [decide_eq_true_eq]
      exact q
    rw [if_neg q, if_pos hl]
    exact sim_back h2 (nI k)
theorem xLandsLoop {μ : MM} {g : Nat → Int32} {n s : Nat} (hR : RN μ 1 g) (hV : VW g n) (hs : s < 4) : ∀ (d i fu : Nat), i + d = 201 → d < fu → L_X4_lands_26 (nI s) μ fu (nI (pos g n s i)) (nI i) = match fd (lp g n s) i d with | some k => some (nI k, μ) | none => f_X4_finding (-1000004) μ := by
  intro d
  induction d with
  | zero =>
    intro i fu hi hf
    obtain ⟨f, rfl⟩ : ∃ f, fu = f + 1 := ⟨fu - 1, by omega⟩
    have e : i = 201 := by omega
    subst e
    rw [L_X4_lands_26, if_pos (by decide), bdw_id]
    rfl
  | succ d ih =>
    intro i fu hi hf
    obtain ⟨f, rfl⟩ : ∃ f, fu = f + 1 := ⟨fu - 1, by omega⟩
    have hp := pos_lt hV hs i
    rw [L_X4_lands_26, if_neg (show ¬ (200 : Int32) < nI i from nI_nlt (a := 200) (b := i) (by omega) (by decide)), ldi_n hp (by decide), hR.isl1 hp, fd]
    by_cases q : g (16 + pos g n s i) = 0
    · have hl : ¬ lp g n s i = true := by
        unfold lp
        rw [decide_eq_true_eq]
        exact fun z => z q
      rw [if_pos q, if_neg hl, xNext hR hV hs hp, bdr_s, lt_s_, nI_1]
      exact ih (i + 1) f (by omega) (by omega)
    · have hl : lp g n s i = true := by
        unfold lp
        rw [decide_eq_true_eq]
        exact q
      rw [if_neg q, if_pos hl]
theorem pos_0 {g : Nat → Int32} {n s : Nat} (hV : VW g n) (hs : s < 4) : g (116 + 3 * s) = nI (pos g n s 0) := by
  obtain ⟨c, hc, e⟩ := (hV.ship hs).1
  unfold pos
  rw [e, nI_clamp (by omega)]
/-- a finding of which the reference has thought before -/
theorem find_bk {fx fm : MM → Option (Int32 × MM)} {μ : MM} (h : Rel μ) (c : Int32) (j : Nat) (hj : j < 7 ∧ (-1000001) - c = nI j) (e1 : fx μ = f_X4_finding c μ) (e2 : ∀ m : MM, (∀ k, k ≠ 34 → m k = μ k) → ∃ m', Bk m m' ∧ fm m = f_X5_finding c m') : ∃ r μ1 μ2, fx μ = some (r, μ1) ∧ fm μ1 = some (r, μ2) ∧ Rel μ2 := by
  obtain ⟨m', hb, e3⟩ := e2 (wst μ 34 j (μ 34 j + 1)) (fun k hk => wst_o hk)
  refine ⟨c, _, _, e1.trans (xfind hj.1 hj.2 μ), e3.trans (mfind hj.1 hj.2 _), ?_⟩
  have h1 := Rel_find h hj.1
  refine Rel_back (μ0 := wst (wst (wst μ 34 j (μ 34 j + 1)) 41 (j + 1) (μ 41 (j + 1) + 1)) 41 0 (μ 41 0 + 1)) ⟨fun k a b => ?_, fun i hi => ?_⟩ h1
  · have e41 : m' 41 = μ 41 := by rw [hb.1 41 (by decide) (by decide), wst_o (by decide)]
    rw [e41]
    by_cases q : k = 41
    · subst q
      rw [wst_at, wst_at, wst_at, wst_at, e41, wst_o (show (41 : Nat) ≠ 34 by decide)]
    · rw [wst_o q, wst_o q, wst_o q, wst_o q, hb.1 k a b]
  · rw [wst_o (by decide), wst_o (by decide), wst_o (by decide), wst_o (by decide), hb.2 i hi]
theorem s_lands (a : Int32) : Two (f_X4_lands a) (f_X5_lands a) := by
  intro μ h
  obtain ⟨n, hV0⟩ := h.2.1
  have hV := hV0.w
  by_cases q : wi a 0 3 = 0
  · exact two_find h (-1000001) 0 (by decide) (by simp only [f_X4_lands, xShip, bdr_s, if_pos q, bdw_id]) (fun m _ => by simp only [f_X5_lands, mShip, bdr_s, if_pos q, bdw_id])
  obtain ⟨s, hs, rfl⟩ := wi_n (N := 3) (by decide) q
  have hs4 : s < 4 := by omega
  have ex := xLandsLoop h.1 hV hs4 201 0 FU (by decide) (show 201 < 4096 by decide)
  rw [show nI 0 = (0 : Int32) from rfl] at ex
  have ex2 : f_X4_lands (nI s) μ = match fd (lp (μ 38) n s) 0 201 with | some k => some (nI k, μ) | none => f_X4_finding (-1000004) μ := by
    simp only [f_X4_lands, xShip, bdr_s, if_neg q]
    rw [ldi_n hs4 (by decide), (h.1.ship1 hs4).1, pos_0 hV hs4]
    exact ex
  have em : ∀ m : MM, (∀ k, k ≠ 34 → m k = μ k) → ∃ m', Bk m m' ∧ f_X5_lands (nI s) m = f_X5_told (vo (fd (lp (μ 38) n s) 0 201)) m' := fun m hm => by
    have e38 : m 38 = μ 38 := hm 38 (by decide)
    obtain ⟨m', e1, b⟩ := landsIn_s (μ0 := m) (n := n) (N := 200) (s := s) (by rw [e38]; exact hV) (RC_fr (hm 42 (by decide)) (hm 43 (by decide)) h.2.2.2.2.2.2) (by decide) hs4
    refine ⟨m', b, ?_⟩
    rw [e38] at e1
    simp only [f_X5_lands, mShip, bdr_s, if_neg q, bdw_id]
    rw [show (200 : Int32) = nI 200 from rfl, e1, bdw_s]
  cases hf : fd (lp (μ 38) n s) 0 201 with
  | none =>
    rw [hf] at ex2 em
    refine find_bk h (-1000004) 3 (by decide) ex2 (fun m hm => ?_)
    obtain ⟨m', b, e⟩ := em m hm
    exact ⟨m', b, by rw [e]; unfold f_X5_told vo; rw [if_pos rfl, bdw_id]⟩
  | some k =>
    rw [hf] at ex2 em
    have hk := fd_lt 201 0 k hf
    obtain ⟨m', b, e⟩ := em μ (fun _ _ => rfl)
    refine two_bk h (nI k) ex2 ?_ b
    rw [e]
    unfold f_X5_told vo
    rw [if_neg (show ¬ nI k = (1000000 : Int32) from fun z => by
      have := (nI_eq (a := k) (b := 1000000) (by omega) (by decide)).mp z
      omega)]
