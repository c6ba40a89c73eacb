/-! ===== surest and winds ===== -/
def wl (o : Nat → Option Nat) : Nat → Nat
  | 0 => 0
  | w + 1 => if (o w).isSome then wl o w + 1 else wl o w
theorem wl_le (o : Nat → Option Nat) : ∀ w, wl o w ≤ w
  | 0 => Nat.le_refl 0
  | w + 1 => by
    have := wl_le o w
    unfold wl
    split <;> omega
def mk (c : Nat → Nat) : Nat → Option (Nat × Nat)
  | 0 => none
  | v + 1 => match mk c v with
    | none => some (v, c v)
    | some x => if x.2 < c v then some (v, c v) else some x
def nb (z : Int32) (q : Option (Nat × Nat)) : Int32 := match q with
  | none => z
  | some x => nI x.1
def nf (q : Option (Nat × Nat)) : Int32 := match q with
  | none => -1
  | some x => nI x.2
theorem mk_s (c : Nat → Nat) : ∀ v, ∃ x, mk c (v + 1) = some x ∧ x.1 < v + 1 ∧ x.2 = c x.1
  | 0 => ⟨(0, c 0), rfl, Nat.zero_lt_one, rfl⟩
  | v + 1 => by
    obtain ⟨x, e, h1, h2⟩ := mk_s c v
    have e2 : mk c (v + 1 + 1) = if x.2 < c (v + 1) then some (v + 1, c (v + 1)) else some x := by
      show (match mk c (v + 1) with
        | none => some (v + 1, c (v + 1))
        | some x => if x.2 < c (v + 1) then some (v + 1, c (v + 1)) else some x) = _
      rw [e]
    by_cases q : x.2 < c (v + 1)
    · exact ⟨_, e2.trans (if_pos q), by show v + 1 < v + 1 + 1; omega, rfl⟩
    · exact ⟨x, e2.trans (if_neg q), by omega, h2⟩
theorem mkx {β : Type} {c : Nat → Nat} (hc : ∀ v, c v ≤ 8) (z : Int32) (v : Nat) (F : Int32 → Option β) : (if nI (c v) ≤ nf (mk c v) then F (nb z (mk c v)) else F (nI v)) = F (nb z (mk c (v + 1))) ∧ (if nI (c v) ≤ nf (mk c v) then nf (mk c v) else nI (c v)) = nf (mk c (v + 1)) ∧ imax (nf (mk c v)) (nI (c v)) = nf (mk c (v + 1)) := by
  have hv := hc v
  unfold imax
  cases v with
  | zero =>
    show (if nI (c 0) ≤ -1 then _ else _) = F (nI 0) ∧ (if nI (c 0) ≤ -1 then _ else _) = nI (c 0) ∧ (if -1 < nI (c 0) then _ else _) = nI (c 0)
    have h0 : ¬ nI (c 0) ≤ -1 := by
      rw [Int32.le_iff_toInt_le, nI_toInt (by omega), show ((-1 : Int32)).toInt = -1 from by decide]
      omega
    rw [if_neg h0, if_neg h0, if_pos (Int32.not_le.mp h0)]
    exact ⟨rfl, rfl, rfl⟩
  | succ v =>
    obtain ⟨x, e, h1, h2⟩ := mk_s c v
    have hx : x.2 ≤ 8 := by rw [h2]; exact hc _
    have e2 : mk c (v + 1 + 1) = if x.2 < c (v + 1) then some (v + 1, c (v + 1)) else some x := by
      show (match mk c (v + 1) with
        | none => some (v + 1, c (v + 1))
        | some x => if x.2 < c (v + 1) then some (v + 1, c (v + 1)) else some x) = _
      rw [e]
    rw [e2, e]
    by_cases q : x.2 < c (v + 1)
    · rw [if_pos q]
      show (if nI (c (v + 1)) ≤ nI x.2 then _ else _) = F (nI (v + 1)) ∧ (if nI (c (v + 1)) ≤ nI x.2 then _ else _) = nI (c (v + 1)) ∧ (if nI x.2 < nI (c (v + 1)) then _ else _) = nI (c (v + 1))
      rw [if_neg (by rw [le_nn (by omega) (by omega)]; omega), if_neg (by rw [le_nn (by omega) (by omega)]; omega), if_pos (by rw [lt_n (by omega) (by omega)]; omega)]
      exact ⟨rfl, rfl, rfl⟩
    · rw [if_neg q]
      show (if nI (c (v + 1)) ≤ nI x.2 then _ else _) = F (nI x.1) ∧ (if nI (c (v + 1)) ≤ nI x.2 then _ else _) = nI x.2 ∧ (if nI x.2 < nI (c (v + 1)) then _ else _) = nI x.2
      rw [if_pos (by rw [le_nn (by omega) (by omega)]; omega), if_pos (by rw [le_nn (by omega) (by omega)]; omega), if_neg (by rw [lt_n (by omega) (by omega)]; omega)]
      exact ⟨rfl, rfl, rfl⟩
def oV (g : Nat → Int32) (n s v w : Nat) : Option Nat := fd (lp (gv g s (nI v) (nI w)) n s) 0 61
theorem vm_0 {o : Option Nat} (ho : ∀ k, o = some k → k ≤ 60) : (vm o < 0) ↔ o = none := by
  cases o with
  | none => exact ⟨fun _ => rfl, fun _ => by decide⟩
  | some k =>
    have := ho k rfl
    exact ⟨fun h => absurd h (nI_pos (by omega)), fun h => by cases h⟩
theorem vo_0 {o : Option Nat} (ho : ∀ k, o = some k → k ≤ 60) : (vo o = 1000000) ↔ o = none := by
  cases o with
  | none => exact ⟨fun _ => rfl, fun _ => rfl⟩
  | some k =>
    have := ho k rfl
    refine ⟨fun h => ?_, fun h => by cases h⟩
    have := (nI_eq (a := k) (b := 1000000) (by omega) (by decide)).mp h
    omega
theorem xWinds {m : MM} {s v : Nat} {o : Nat → Option Nat} (ho : ∀ w k, o w = some k → k ≤ 60) (hL : ∀ w, w < 8 → f_X4_landsBehind (nI s) (nI v) (nI w) m = some (vm (o w))) : f_X4_windsThatLand (nI s) (nI v) m = some (nI (wl o 8)) := by
  have H : ∀ (d i fu : Nat), i + d = 8 → d < fu → L_X4_windsThatLand_5 (nI s) (nI v) m fu (nI (wl o i)) (nI i) = some (nI (wl o 8)) := by
    intro d
    induction d with
    | zero =>
      intro i fu hi hf
      obtain ⟨f, rfl⟩ : ∃ f, fu = f + 1 := ⟨fu - 1, by omega⟩
      have e : i = 8 := by omega
      subst e
      rw [L_X4_windsThatLand_5, if_pos (show (8 : Int32) ≤ nI 8 by decide)]
    | succ d ih =>
      intro i fu hi hf
      obtain ⟨f, rfl⟩ : ∃ f, fu = f + 1 := ⟨fu - 1, by omega⟩
      rw [L_X4_windsThatLand_5, if_neg (ge_n (z := 8) (N := 8) rfl (by decide) (by omega)), hL i (by omega), bdr_s]
      simp only [jn1_s, lt_s_, nI_1]
      rw [← ih (i + 1) f (by omega) (by omega)]
      show _ = L_X4_windsThatLand_5 (nI s) (nI v) m f (nI (if (o i).isSome then wl o i + 1 else wl o i)) (nI (i + 1))
      cases e : o i with
      | none => rw [if_pos (show vm none < 0 by decide)]; rfl
      | some k =>
        have := ho i k e
        rw [if_neg (show ¬ vm (some k) < 0 from nI_pos (by omega))]
        rfl
  exact H 8 0 FU (by omega) (by decide)
theorem surLoop {m : MM} {s : Nat} {c : Nat → Nat} (hc : ∀ v, c v ≤ 8) (hL : ∀ v, v < 32 → f_X4_windsThatLand (nI s) (nI v) m = some (nI (c v))) : ∀ (d i fu : Nat), i + d = 32 → d < fu → L_X4_surestOrder_14 (nI s) m fu (nb 0 (mk c i)) (nf (mk c i)) (nI i) = some (nb 0 (mk c 32), m) := by
  intro d
  induction d with
  | zero =>
    intro i fu hi hf
    obtain ⟨f, rfl⟩ : ∃ f, fu = f + 1 := ⟨fu - 1, by omega⟩
    have e : i = 32 := by omega
    subst e
    rw [L_X4_surestOrder_14, if_pos (show (32 : Int32) ≤ nI 32 by decide)]
  | succ d ih =>
    intro i fu hi hf
    obtain ⟨f, rfl⟩ : ∃ f, fu = f + 1 := ⟨fu - 1, by omega⟩
    rw [L_X4_surestOrder_14, if_neg (ge_n (z := 32) (N := 32) rfl (by decide) (by omega)), hL i (by omega), bdr_s]
    simp only [jn2_s, lt_s_, nI_1]
    rw [← ih (i + 1) f (by omega) (by omega)]
    obtain ⟨k1, k2, k3⟩ := mkx (β := Int32 × MM) hc 0 i (fun x5 => L_X4_surestOrder_14 (nI s) m f x5 (nf (mk c (i + 1))) (nI (i + 1)))
    rw [← k1]
    by_cases y : nI (c i) ≤ nf (mk c i)
    · rw [if_pos y] at k2 ⊢
      rw [if_pos y, k2]
    · rw [if_neg y] at k2 ⊢
      rw [if_neg y, k2]
theorem surest_s {μ : MM} {n s : Nat} (h : Rel μ) (hV : VW (μ 38) n) (hs : s < 4) : ∃ μ1, f_X4_surestOrder (nI s) μ = some (nb 0 (mk (fun v => wl (oV (μ 38) n s v) 8) 32), μ1) ∧ (∀ k, k ≠ 35 → μ1 k = μ k) ∧ ∀ v, v < 32 → f_X4_windsThatLand (nI s) (nI v) μ1 = some (nI (wl (oV (μ 38) n s v) 8)) := by
  obtain ⟨μ1, e1, e2, e3⟩ := ready_s h.1 hV hs (N := 60) (by decide)
  have hL : ∀ v, v < 32 → f_X4_windsThatLand (nI s) (nI v) μ1 = some (nI (wl (oV (μ 38) n s v) 8)) := fun v hv => xWinds (fun w k h => fd60 h) (fun w hw => landsBy e3 hV hs (by omega) (by omega))
  refine ⟨μ1, ?_, e2, hL⟩
  unfold f_X4_surestOrder
  rw [show (60 : Int32) = nI 60 from rfl, e1, bdr_s]
  exact surLoop (fun v => wl_le _ 8) hL 32 0 FU (by omega) (by decide)
/-- the reference: the winds with one ORDER -/
theorem fs50 {μ0 : MM} {n s v : Nat} (hV : VW (μ0 38) n) (hC : RC μ0) (hs : s < 4) (hv : v ≤ 31) (k3 : Int32 → MM → Option (Int32 × MM)) : ∀ (d i fu : Nat) (m : MM), i + d = 8 → d < fu → Thq (fun x => x = 116 + 3 * s + 1 ∨ x = 2) μ0 m → m 38 (116 + 3 * s + 1) = nI v → ∃ m', L_X5_findSurest_50 (nI s) k3 fu (nI (wl (oV (μ0 38) n s v) i)) (nI i) m = k3 (nI (wl (oV (μ0 38) n s v) 8)) m' ∧ Thq (fun x => x = 116 + 3 * s + 1 ∨ x = 2) μ0 m' ∧ m' 37 8 = m 37 8 := by
  intro d
  induction d with
  | zero =>
    intro i fu m hi hf hm _
    obtain ⟨f, rfl⟩ : ∃ f, fu = f + 1 := ⟨fu - 1, by omega⟩
    have e : i = 8 := by omega
    subst e
    exact ⟨m, by rw [L_X5_findSurest_50, if_pos (show (8 : Int32) ≤ nI 8 by decide)], hm, rfl⟩
  | succ d ih =>
    intro i fu m hi hf hm hp
    obtain ⟨f, rfl⟩ : ∃ f, fu = f + 1 := ⟨fu - 1, by omega⟩
    have hg : VW (gv (μ0 38) s (nI v) (nI i)) n := VW_gv hV hs hv (by omega)
    have e38 : ∀ j, j < 152 → wst m 38 2 (nI i) 38 j = gv (μ0 38) s (nI v) (nI i) j := fun j hj => by
      rw [wst_at]
      by_cases y : j = 2
      · subst y
        rw [upd_at, gv_2]
      · rw [upd_o y]
        by_cases y2 : j = 116 + 3 * s + 1
        · subst y2
          rw [gv_s, hp]
        · rw [gv_o y2 y, hm.2.2.2 j hj (by omega)]
    obtain ⟨m6, e1, b6⟩ := landsIn_s (μ0 := wst m 38 2 (nI i)) (n := n) (N := 60) (s := s) (VW_cong (fun j hj _ => e38 j hj) hg) (RC_fr (wst_o (by decide)) (wst_o (by decide)) (hm.rc hC)) (by decide) hs
    rw [lp_cong hg hs e38] at e1
    obtain ⟨m', a1, a2, a3⟩ := ih (i + 1) f m6 (by omega) (by omega) (hm.tr ((thq38 (q := fun x => x = 116 + 3 * s + 1 ∨ x = 2) (Or.inr rfl)).tr b6.thk.q)) (by rw [b6.2 _ (by omega), wst_at, upd_o (by omega), hp])
    refine ⟨m', ?_, a2, by rw [a3, b6.1 37 (by decide) (by decide), wst_o (by decide)]⟩
    rw [← a1, L_X5_findSurest_50, if_neg (ge_n (z := 8) (N := 8) rfl (by decide) (by omega)), show (2 : Int32) = nI 2 from rfl, sti_n (n := 152) (j := 2) (by decide) (by decide), show (60 : Int32) = nI 60 from rfl, e1, bdw_s]
    simp only [jn1_s, lt_s_, nI_1]
    show _ = L_X5_findSurest_50 (nI s) k3 f (nI (if (oV (μ0 38) n s v i).isSome then wl (oV (μ0 38) n s v) i + 1 else wl (oV (μ0 38) n s v) i)) (nI (i + 1)) m6
    have ev := vo_0 (o := oV (μ0 38) n s v i) (fun k h => fd60 h)
    have eo : oV (μ0 38) n s v i = fd (lp (gv (μ0 38) s (nI v) (nI i)) n s) 0 61 := rfl
    rw [← eo]
    cases e : oV (μ0 38) n s v i with
    | none =>
      rw [if_pos (show vo none = 1000000 from rfl), Int32.add_zero]
      rfl
    | some k =>
      rw [e] at ev
      rw [if_neg (fun z => by cases ev.mp z)]
      rfl
theorem fs25 {μ0 : MM} {n s : Nat} (hV : VW (μ0 38) n) (hC : RC μ0) (hs : s < 4) (k1 : Int32 → MM → Option (Int32 × MM)) : ∀ (d i fu : Nat) (m : MM), i + d = 32 → d < fu → Thq (fun x => x = 116 + 3 * s + 1 ∨ x = 2) μ0 m → m 37 8 = nf (mk (fun v => wl (oV (μ0 38) n s v) 8) i) → ∃ m', L_X5_findSurest_25 (nI s) k1 fu (nb (-1) (mk (fun v => wl (oV (μ0 38) n s v) 8) i)) (nI i) m = k1 (nb (-1) (mk (fun v => wl (oV (μ0 38) n s v) 8) 32)) m' ∧ Thq (fun x => x = 116 + 3 * s + 1 ∨ x = 2) μ0 m' ∧ m' 37 8 = nf (mk (fun v => wl (oV (μ0 38) n s v) 8) 32) := by
  intro d
  induction d with
  | zero =>
    intro i fu m hi hf hm h8
    obtain ⟨f, rfl⟩ : ∃ f, fu = f + 1 := ⟨fu - 1, by omega⟩
    have e : i = 32 := by omega
    subst e
    exact ⟨m, by rw [L_X5_findSurest_25, if_pos (show (32 : Int32) ≤ nI 32 by decide)], hm, h8⟩
  | succ d ih =>
    intro i fu m hi hf hm h8
    obtain ⟨f, rfl⟩ : ∃ f, fu = f + 1 := ⟨fu - 1, by omega⟩
    rw [L_X5_findSurest_25, if_neg (ge_n (z := 32) (N := 32) rfl (by decide) (by omega)), atShip1, bdr_s, sti_n (n := 152) (j := 116 + 3 * s + 1) (by omega) (by decide), jn2_s]
    generalize hk : (fun (x8 : Int32) (m7 : MM) => jn1 (fun (x9 : Int32) => lt_ (wst m7 37 8 (imax (m7 37 8) x8)) fun m8 => lt_ (nI i + 1) fun x10 => L_X5_findSurest_25 (nI s) k1 f x9 x10 m8) fun k2 => if x8 ≤ (m7 37 8) then (k2 (nb (-1) (mk (fun v => wl (oV (μ0 38) n s v) 8) i))) else (k2 (nI i))) = k3
    obtain ⟨m7, e1, b7, c7⟩ := fs50 (v := i) hV hC hs (by omega) k3 8 0 FU (wst m 38 (116 + 3 * s + 1) (nI i)) (by omega) (by decide) (hm.tr (thq38 (Or.inl rfl))) (by rw [wst_at, upd_at])
    rw [wst_o (by decide), h8] at c7
    obtain ⟨q1, q2, q3⟩ := mkx (β := Int32 × MM) (c := fun v => wl (oV (μ0 38) n s v) 8) (fun v => wl_le _ 8) (-1) i (fun x9 => L_X5_findSurest_25 (nI s) k1 f x9 (nI (i + 1)) (wst m7 37 8 (nf (mk (fun v => wl (oV (μ0 38) n s v) 8) (i + 1)))))
    obtain ⟨m', a1, a2, a3⟩ := ih (i + 1) f (wst m7 37 8 (nf (mk (fun v => wl (oV (μ0 38) n s v) 8) (i + 1)))) (by omega) (by omega) (b7.tr (thq37 (by decide))) (by rw [wst_at, upd_at])
    refine ⟨m', ?_, a2, a3⟩
    refine (show _ = _ from e1).trans ?_
    rw [← hk]
    show (jn1 _ _) = _
    simp only [jn1_s, lt_s_, nI_1, c7, q3]
    exact q1.trans a1
theorem findSurest_s {μ0 : MM} {n s : Nat} (hV : VW (μ0 38) n) (hC : RC μ0) (hs : s < 4) : ∃ m', f_X5_findSurest (nI s) μ0 = some (nb (-1) (mk (fun v => wl (oV (μ0 38) n s v) 8) 32), m') ∧ Thk μ0 m' ∧ m' 37 8 = nf (mk (fun v => wl (oV (μ0 38) n s v) 8) 32) := by
  unfold f_X5_findSurest
  rw [shipIs1 hs, bdr_s, show (2 : Int32) = nI 2 from rfl, ldi_n (show 2 < 152 by decide) (by decide), lt_s_, jn2_s]
  obtain ⟨m', a1, a2, a3⟩ := fs25 hV hC hs (fun (x3 : Int32) (m2 : MM) => sti m2 38 152 (nI 2) (μ0 38 2) fun m3 => bdr (f_X5_atShip (nI s) 1) fun x4 => sti m3 38 152 x4 (μ0 38 (116 + 3 * s + 1)) fun m4 => some (x3, m4)) 32 0 FU (wst μ0 37 8 (-1)) (by omega) (by decide) (thq37 (by decide)) (by rw [wst_at, upd_at]; rfl)
  refine ⟨wst (wst m' 38 2 (μ0 38 2)) 38 (116 + 3 * s + 1) (μ0 38 (116 + 3 * s + 1)), (show _ = _ from a1).trans ?_, ?_, ?_⟩
  · rw [sti_n (n := 152) (j := 2) (by decide) (by decide), atShip1, bdr_s, sti_n (n := 152) (j := 116 + 3 * s + 1) (by omega) (by decide)]
  · refine ⟨fun k hk => ?_, by rw [wst_o (by decide), wst_o (by decide), a2.2.1], by rw [wst_o (by decide), wst_o (by decide), a2.2.2.1], fun i hi _ => ?_⟩
    · have : k ≠ 38 := fun e => hk (by rw [e]; unfold fre; omega)
      rw [wst_o this, wst_o this, a2.1 k hk]
    · rw [wst_at]
      by_cases q : i = 116 + 3 * s + 1
      · subst q
        rw [upd_at]
      · rw [upd_o q, wst_at]
        by_cases q2 : i = 2
        · subst q2
          rw [upd_at]
        · rw [upd_o q2, a2.2.2.2 i hi (by omega)]
  · rw [wst_o (by decide), wst_o (by decide), a3]
theorem s_surest (a : Int32) : Two (f_X4_surest a) (f_X5_surest a) := by
  intro μ h
  obtain ⟨n, hV0⟩ := h.2.1
  have hV := hV0.w
  by_cases q : wi a 0 3 = 0
  · exact two_find h (-1000001) 0 (by decide) (by simp only [f_X4_surest, xShip, bdr_s, if_pos q, bdw_id]) (fun m _ => by simp only [f_X5_surest, mShip, bdr_s, if_pos q, bdw_id])
  obtain ⟨s, hs, rfl⟩ := wi_n (N := 3) (by decide) q
  have hs4 : s < 4 := by omega
  obtain ⟨μ1, e1, e2, e3⟩ := surest_s h hV hs4
  have e38 : μ1 38 = μ 38 := e2 38 (by decide)
  obtain ⟨m', a1, a2, a3⟩ := findSurest_s (μ0 := μ1) (n := n) (s := s) (by rw [e38]; exact hV) (RC_fr (e2 42 (by decide)) (e2 43 (by decide)) h.2.2.2.2.2.2) hs4
  rw [e38] at a1
  obtain ⟨x, ex, h1, h2⟩ := mk_s (fun v => wl (oV (μ 38) n s v) 8) 31
  refine two_thk h (nI x.1) ?_ (thk35 e2) ?_ a2
  · simp only [f_X4_surest, xShip, bdr_s, if_neg q, e1, bdw_s, ex]
    rfl
  · simp only [f_X5_surest, mShip, bdr_s, if_neg q, a1, bdw_s, ex]
    rfl
theorem s_winds (a : Int32) : Two (f_X4_winds a) (f_X5_winds a) := by
  intro μ h
  obtain ⟨n, hV0⟩ := h.2.1
  have hV := hV0.w
  by_cases q : wi a 0 3 = 0
  · exact two_find h (-1000001) 0 (by decide) (by simp only [f_X4_winds, xShip, bdr_s, if_pos q, bdw_id]) (fun m _ => by simp only [f_X5_winds, mShip, bdr_s, if_pos q, bdw_id])
  obtain ⟨s, hs, rfl⟩ := wi_n (N := 3) (by decide) q
  have hs4 : s < 4 := by omega
  obtain ⟨μ1, e1, e2, e3⟩ := surest_s h hV hs4
  have e38 : μ1 38 = μ 38 := e2 38 (by decide)
  obtain ⟨m', a1, a2, a3⟩ := findSurest_s (μ0 := μ1) (n := n) (s := s) (by rw [e38]; exact hV) (RC_fr (e2 42 (by decide)) (e2 43 (by decide)) h.2.2.2.2.2.2) hs4
  rw [e38] at a1 a3
  obtain ⟨x, ex, h1, h2⟩ := mk_s (fun v => wl (oV (μ 38) n s v) 8) 31
  refine two_thk h (nI x.2) ?_ (thk35 e2) ?_ a2
  · simp only [f_X4_winds, xShip, bdr_s, if_neg q, e1, bdw_s, ex]
    show (bdr (f_X4_windsThatLand (nI s) (nI x.1) μ1) _) = _
    rw [e3 x.1 h1, bdr_s, h2]
  · simp only [f_X5_winds, mShip, bdr_s, if_neg q, a1, bdw_s, ex, a3]
    show (if 0 ≤ nI x.1 then _ else _) = some (nI x.2, m')
    rw [if_pos (nn_0 (by omega))]
    rfl
