/-! ===== meets ===== -/
def mp (g : Nat → Int32) (n a b m : Nat) : Bool := decide (pos g n a m = pos g n b m)
theorem mp_t {g : Nat → Int32} {n a b m : Nat} (hV : VW g n) (ha : a < 4) (hb : b < 4) : (nI (pos g n a m) = nI (pos g n b m)) ↔ mp g n a b m = true := by
  have h1 := pos_lt hV ha m
  have h2 := pos_lt hV hb m
  unfold mp
  rw [decide_eq_true_eq]
  exact nI_eq (by omega) (by omega)
theorem meetsLoop {μ0 : MM} {n a b : Nat} (hV : VW (μ0 38) n) (hC : RC μ0) (ha : a < 4) (hb : b < 4) (k1 : Int32 → MM → Option (Int32 × MM)) : ∀ (d i fu : Nat) (μ : MM), i + d = 200 → d < fu → Sim μ0 n i μ → ∃ k μ', k ≤ 200 ∧ Sim μ0 n k μ' ∧ L_X5_meets_39 (nI a) (nI b) k1 fu (nI i) μ = k1 (nI k) μ' ∧ fd (mp (μ0 38) n a b) i (d + 1) = if mp (μ0 38) n a b k then some k else none := by
  intro d
  induction d with
  | zero =>
    intro i fu μ hi hf h
    obtain ⟨f, rfl⟩ : ∃ f, fu = f + 1 := ⟨fu - 1, by omega⟩
    have e : i = 200 := by omega
    subst e
    exact ⟨200, μ, Nat.le_refl _, h, by rw [L_X5_meets_39, if_pos (le_n (z := 200) (N := 200) rfl)], rfl⟩
  | succ d ih =>
    intro i fu μ hi hf h
    obtain ⟨f, rfl⟩ : ∃ f, fu = f + 1 := ⟨fu - 1, by omega⟩
    by_cases q : mp (μ0 38) n a b i = true
    · refine ⟨i, μ, by omega, h, ?_, ?_⟩
      · rw [L_X5_meets_39, if_neg (ge_n (z := 200) (N := 200) rfl (by decide) (by omega)), shipIs0 ha, bdr_s, shipIs0 hb, bdr_s, h.ship ha, h.ship hb, if_pos ((mp_t hV ha hb).mpr q)]
      · rw [fd, if_pos q, if_pos q]
    · obtain ⟨μ1, e1, h1⟩ := sim_watch h hV hC (by omega)
      obtain ⟨k, μ2, hk, h2, e2, e3⟩ := ih (i + 1) f μ1 (by omega) (by omega) h1
      refine ⟨k, μ2, hk, h2, ?_, ?_⟩
      · rw [L_X5_meets_39, if_neg (ge_n (z := 200) (N := 200) rfl (by decide) (by omega)), shipIs0 ha, bdr_s, shipIs0 hb, bdr_s, h.ship ha, h.ship hb, if_neg (fun z => q ((mp_t hV ha hb).mp z)), e1, bdr_s, lt_s_, nI_1]
        exact e2
      · rw [fd, if_neg q]
        exact e3
theorem xMeetsLoop {μ : MM} {g : Nat → Int32} {n a b : Nat} (hR : RN μ 1 g) (hV : VW g n) (ha : a < 4) (hb : b < 4) : ∀ (d i fu : Nat), i + d = 201 → d < fu → L_X4_meets_50 (nI a) (nI b) μ fu (nI (pos g n a i)) (nI (pos g n b i)) (nI i) = match fd (mp g n a b) i d with | some k => some (nI k, μ) | none => f_X4_finding (-1000004) μ := by
  intro d
  induction d with
  | zero =>
    intro i fu hi hf
    obtain ⟨f, rfl⟩ : ∃ f, fu = f + 1 := ⟨fu - 1, by omega⟩
    have e : i = 201 := by omega
    subst e
    rw [L_X4_meets_50, if_pos (by decide), bdw_id]
    rfl
  | succ d ih =>
    intro i fu hi hf
    obtain ⟨f, rfl⟩ : ∃ f, fu = f + 1 := ⟨fu - 1, by omega⟩
    rw [L_X4_meets_50, if_neg (show ¬ (200 : Int32) < nI i from nI_nlt (a := 200) (b := i) (by omega) (by decide)), fd]
    by_cases q : mp g n a b i = true
    · rw [if_pos ((mp_t hV ha hb).mpr q), if_pos q]
    · rw [if_neg (fun z => q ((mp_t hV ha hb).mp z)), if_neg q, xNext hR hV ha (pos_lt hV ha i), bdr_s, xNext hR hV hb (pos_lt hV hb i), bdr_s, lt_s_, nI_1]
      exact ih (i + 1) f (by omega) (by omega)
theorem told_s {μ : MM} {k : Nat} (hk : k < 1000) : f_X5_told (nI k) μ = some (nI k, μ) := by
  unfold f_X5_told
  rw [if_neg (show ¬ nI k = (1000000 : Int32) from fun z => by
    have := (nI_eq (a := k) (b := 1000000) (by omega) (by decide)).mp z
    omega)]
theorem told_n {μ : MM} : f_X5_told 1000000 μ = f_X5_finding (-1000004) μ := by
  unfold f_X5_told
  rw [if_pos rfl, bdw_id]
theorem s_meets (a b : Int32) : Two (f_X4_meets a b) (f_X5_meets a b) := by
  intro μ h
  obtain ⟨n, hV0⟩ := h.2.1
  have hV := hV0.w
  by_cases q : wi a 0 3 = 0
  · exact two_find h (-1000001) 0 (by decide) (by simp only [f_X4_meets, xShip, bdr_s, if_pos q, bdw_id]) (fun m _ => by simp only [f_X5_meets, mShip, bdr_s, if_pos q, bdw_id])
  by_cases g : wi b 0 3 = 0
  · exact two_find h (-1000001) 0 (by decide) (by simp only [f_X4_meets, xShip, bdr_s, if_neg q, if_pos g, bdw_id]) (fun m _ => by simp only [f_X5_meets, mShip, bdr_s, if_neg q, if_pos g, bdw_id])
  by_cases e : a = b
  · exact two_find h (-1000001) 0 (by decide) (by simp only [f_X4_meets, xShip, bdr_s, if_neg q, if_neg g, if_pos e, bdw_id]) (fun m _ => by simp only [f_X5_meets, mShip, bdr_s, if_neg q, if_neg g, if_pos e, bdw_id])
  obtain ⟨s, hs, rfl⟩ := wi_n (N := 3) (by decide) q
  obtain ⟨t, ht, rfl⟩ := wi_n (N := 3) (by decide) g
  have hs4 : s < 4 := by omega
  have ht4 : t < 4 := by omega
  have ex := xMeetsLoop h.1 hV hs4 ht4 201 0 FU (by decide) (show 201 < 4096 by decide)
  rw [show nI 0 = (0 : Int32) from rfl] at ex
  have ex2 : f_X4_meets (nI s) (nI t) μ = match fd (mp (μ 38) n s t) 0 201 with | some k => some (nI k, μ) | none => f_X4_finding (-1000004) μ := by
    simp only [f_X4_meets, xShip, bdr_s, if_neg q, if_neg g, if_neg e]
    rw [ldi_n hs4 (by decide), ldi_n ht4 (by decide), (h.1.ship1 hs4).1, (h.1.ship1 ht4).1, pos_0 hV hs4, pos_0 hV ht4]
    exact ex
  have em : ∀ m : MM, (∀ k, k ≠ 34 → m k = μ k) → ∃ m', Bk m m' ∧ f_X5_meets (nI s) (nI t) m = f_X5_told (vo (fd (mp (μ 38) n s t) 0 201)) m' := fun m hm => by
    have e38 : m 38 = μ 38 := hm 38 (by decide)
    have hVm : VW (m 38) n := by rw [e38]; exact hV
    have hCm : RC m := RC_fr (hm 42 (by decide)) (hm 43 (by decide)) h.2.2.2.2.2.2
    obtain ⟨m1, e1, h1⟩ := sim_start hVm
    simp only [f_X5_meets, mShip, bdr_s, if_neg q, if_neg g, if_neg e, e1, jn2_s, bdw_id]
    generalize hk : (fun (x5 : Int32) (m4 : MM) => bdr (f_X5_shipIs (nI s) 0 m4) fun x6 => bdr (f_X5_shipIs (nI t) 0 m4) fun x7 => jn1 (fun (x8 : Int32) => if x8 = 0 then (bdw (f_X5_putBack 1000000 m4) fun x9 m5 => f_X5_told x9 m5) else (bdw (f_X5_putBack x5 m4) fun x11 m7 => f_X5_told x11 m7)) fun k1 => if x6 = x7 then (k1 1) else (k1 0)) = k1
    obtain ⟨k, m2, hk2, h2, e2, e3⟩ := meetsLoop hVm hCm hs4 ht4 k1 200 0 FU m1 (by decide) (show 200 < 4096 by decide) h1
    rw [show nI 0 = (0 : Int32) from rfl] at e2
    rw [e38] at e3
    rw [e2, ← hk, e3]
    show ∃ m', _ ∧ (bdr (f_X5_shipIs (nI s) 0 m2) _) = _
    rw [shipIs0 hs4, bdr_s, shipIs0 ht4, bdr_s, h2.ship hs4, h2.ship ht4, jn1_s, e38]
    by_cases z : mp (μ 38) n s t k = true
    · obtain ⟨m3, e4, b4⟩ := sim_back h2 (nI k)
      exact ⟨m3, b4, by rw [if_pos ((mp_t hV hs4 ht4).mpr z), if_pos z]; show (if (1 : Int32) = 0 then _ else _) = _; rw [if_neg (by decide), e4, bdw_s]; rfl⟩
    · obtain ⟨m3, e4, b4⟩ := sim_back h2 1000000
      exact ⟨m3, b4, by rw [if_neg (fun y => z ((mp_t hV hs4 ht4).mp y)), if_neg z]; show (if (0 : Int32) = 0 then _ else _) = _; rw [if_pos rfl, e4, bdw_s]; rfl⟩
  cases hf : fd (mp (μ 38) n s t) 0 201 with
  | none =>
    rw [hf] at ex2 em
    refine find_bk h (-1000004) 3 (by decide) ex2 (fun m hm => ?_)
    obtain ⟨m', b, e⟩ := em m hm
    exact ⟨m', b, by rw [e]; exact told_n⟩
  | some k =>
    rw [hf] at ex2 em
    have hk := fd_lt 201 0 k hf
    obtain ⟨m', b, e⟩ := em μ (fun _ _ => rfl)
    refine two_bk h (nI k) ex2 ?_ b
    rw [e]
    exact told_s (by omega)
