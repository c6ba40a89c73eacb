/-! ===== the first of the least ===== -/
def qk (o : Nat → Option Nat) : Nat → Option (Nat × Nat)
  | 0 => none
  | v + 1 => match o v with
    | none => qk o v
    | some k => match qk o v with
      | none => some (v, k)
      | some x => if k < x.2 then some (v, k) else some x
def qb (q : Option (Nat × Nat)) : Int32 := match q with
  | none => -1
  | some x => nI x.1
def qf (q : Option (Nat × Nat)) : Int32 := match q with
  | none => 61
  | some x => nI x.2
def qr (q : Option (Nat × Nat)) : Int32 := match q with
  | none => 1000000
  | some x => nI x.2
theorem qk_le {o : Nat → Option Nat} (ho : ∀ v k, o v = some k → k ≤ 60) : ∀ v x, qk o v = some x → x.1 < v ∧ x.2 ≤ 60 ∧ o x.1 = some x.2 := by
  intro v
  induction v with
  | zero => intro x h; cases h
  | succ v ih =>
    intro x h
    unfold qk at h
    cases e : o v with
    | none =>
      rw [e] at h
      have := ih x h
      exact ⟨by omega, this.2⟩
    | some k =>
      rw [e] at h
      cases e2 : qk o v with
      | none =>
        rw [e2] at h
        have := Option.some.inj h
        subst this
        exact ⟨Nat.lt_succ_self _, ho v k e, e⟩
      | some y =>
        rw [e2] at h
        have h : (if k < y.2 then some (v, k) else some y) = some x := h
        by_cases q : k < y.2
        · rw [if_pos q] at h
          have := Option.some.inj h
          subst this
          exact ⟨Nat.lt_succ_self _, ho v k e, e⟩
        · rw [if_neg q] at h
          have := Option.some.inj h
          subst this
          have := ih y e2
          exact ⟨by omega, this.2⟩
theorem lt_n {a b : Nat} (ha : a < 2 ^ 31) (hb : b < 2 ^ 31) : nI a < nI b ↔ a < b := by
  rw [fa_lt', nI_toInt ha, nI_toInt hb]
  omega
theorem le_nn {a b : Nat} (ha : a < 2 ^ 31) (hb : b < 2 ^ 31) : nI a ≤ nI b ↔ a ≤ b := by
  rw [Int32.le_iff_toInt_le, nI_toInt ha, nI_toInt hb]
  omega
theorem qx {β : Type} {o : Nat → Option Nat} (ho : ∀ v k, o v = some k → k ≤ 60) (v : Nat) (F : Int32 → Int32 → Option β) : (if vm (o v) < 0 then F (qb (qk o v)) (qf (qk o v)) else if qf (qk o v) ≤ vm (o v) then F (qb (qk o v)) (qf (qk o v)) else F (nI v) (vm (o v))) = F (qb (qk o (v + 1))) (qf (qk o (v + 1))) := by
  show _ = F (qb (match o v with
    | none => qk o v
    | some k => match qk o v with
      | none => some (v, k)
      | some x => if k < x.2 then some (v, k) else some x)) (qf (match o v with
    | none => qk o v
    | some k => match qk o v with
      | none => some (v, k)
      | some x => if k < x.2 then some (v, k) else some x))
  cases e : o v with
  | none => rw [if_pos (show vm none < 0 by decide)]
  | some k =>
    have hk := ho v k e
    rw [if_neg (show ¬ vm (some k) < 0 from nI_pos (by omega))]
    cases e2 : qk o v with
    | none =>
      show (if nI 61 ≤ nI k then _ else _) = F (nI v) (nI k)
      rw [if_neg (by rw [le_nn (by decide) (by omega)]; omega)]
      rfl
    | some x =>
      have hx := qk_le ho v x e2
      show (if nI x.2 ≤ nI k then _ else _) = F (qb (if k < x.2 then some (v, k) else some x)) (qf (if k < x.2 then some (v, k) else some x))
      by_cases q : k < x.2
      · rw [if_pos q, if_neg (by rw [le_nn (by omega) (by omega)]; omega)]
        rfl
      · rw [if_neg q, if_pos (by rw [le_nn (by omega) (by omega)]; omega)]
theorem qm {β : Type} {o : Nat → Option Nat} (ho : ∀ v k, o v = some k → k ≤ 60) (v : Nat) (F : Int32 → Option β) : (if qr (qk o v) ≤ vo (o v) then F (qb (qk o v)) else F (nI v)) = F (qb (qk o (v + 1))) ∧ imin (qr (qk o v)) (vo (o v)) = qr (qk o (v + 1)) := by
  show (_ = F (qb (match o v with
    | none => qk o v
    | some k => match qk o v with
      | none => some (v, k)
      | some x => if k < x.2 then some (v, k) else some x))) ∧ _ = qr (match o v with
    | none => qk o v
    | some k => match qk o v with
      | none => some (v, k)
      | some x => if k < x.2 then some (v, k) else some x)
  unfold imin
  cases e : o v with
  | none =>
    cases e2 : qk o v with
    | none => exact ⟨if_pos (by decide), if_neg (by decide)⟩
    | some x =>
      have hx := qk_le ho v x e2
      show ((if nI x.2 ≤ nI 1000000 then _ else _) = F (qb (some x))) ∧ (if nI 1000000 < nI x.2 then _ else _) = nI x.2
      rw [if_pos (by rw [le_nn (by omega) (by decide)]; omega), if_neg (by rw [lt_n (by decide) (by omega)]; omega)]
      exact ⟨rfl, rfl⟩
  | some k =>
    have hk := ho v k e
    cases e2 : qk o v with
    | none =>
      show ((if nI 1000000 ≤ nI k then _ else _) = F (nI v)) ∧ (if nI k < nI 1000000 then _ else _) = nI k
      rw [if_neg (by rw [le_nn (by decide) (by omega)]; omega), if_pos (by rw [lt_n (by omega) (by decide)]; omega)]
      exact ⟨rfl, rfl⟩
    | some x =>
      have hx := qk_le ho v x e2
      show ((if nI x.2 ≤ nI k then _ else _) = F (qb (if k < x.2 then some (v, k) else some x))) ∧ (if nI k < nI x.2 then nI k else nI x.2) = qr (if k < x.2 then some (v, k) else some x)
      by_cases q : k < x.2
      · rw [if_pos q, if_neg (by rw [le_nn (by omega) (by omega)]; omega), if_pos (by rw [lt_n (by omega) (by omega)]; omega)]
        exact ⟨rfl, rfl⟩
      · rw [if_neg q, if_pos (by rw [le_nn (by omega) (by omega)]; omega), if_neg (by rw [lt_n (by omega) (by omega)]; omega)]
        exact ⟨rfl, rfl⟩
theorem fd60 {p : Nat → Bool} {k : Nat} (h : fd p 0 61 = some k) : k ≤ 60 := by
  have := fd_lt 61 0 k h
  omega
/-! ===== the reference ===== -/
theorem upd_gv_o {g : Nat → Int32} {s w : Nat} (hw : g 2 = nI w) (v : Int32) : upd g (116 + 3 * s + 1) v = gv g s v (nI w) := by
  unfold gv
  rw [← hw]
  funext i
  by_cases q : i = 2
  · subst q
    rw [upd_at, upd_o (by omega)]
  · rw [upd_o q]
theorem upd_gv_w {g : Nat → Int32} {s o : Nat} (ho : g (116 + 3 * s + 1) = nI o) (v : Int32) : upd g 2 v = gv g s (nI o) v := by
  unfold gv
  rw [← ho]
  congr 1
  funext i
  by_cases q : i = 116 + 3 * s + 1
  · subst q
    rw [upd_at]
  · rw [upd_o q]
theorem soonLoop {μ0 : MM} {n s p M : Nat} (hV : ∀ v, v < M → VW (upd (μ0 38) p (nI v)) n) (hC : RC μ0) (hs : s < 4) (hp : p < 152) (hM : M < 4096) (k1 : Int32 → MM → Option (Int32 × MM)) : ∀ (d i fu : Nat) (m : MM), i + d = M → d < fu → Thq (fun x => x = p) μ0 m → m 37 7 = qr (qk (fun v => fd (lp (upd (μ0 38) p (nI v)) n s) 0 61) i) → ∃ m', L_X5_soonestWith_20 (nI p) (nI M) (nI s) k1 fu (qb (qk (fun v => fd (lp (upd (μ0 38) p (nI v)) n s) 0 61) i)) (nI i) m = k1 (qb (qk (fun v => fd (lp (upd (μ0 38) p (nI v)) n s) 0 61) M)) m' ∧ Thq (fun x => x = p) μ0 m' ∧ m' 37 7 = qr (qk (fun v => fd (lp (upd (μ0 38) p (nI v)) n s) 0 61) M) := by
  intro d
  induction d with
  | zero =>
    intro i fu m hi hf hm h7
    obtain ⟨f, rfl⟩ : ∃ f, fu = f + 1 := ⟨fu - 1, by omega⟩
    have e : i = M := by omega
    subst e
    exact ⟨m, by rw [L_X5_soonestWith_20, if_pos (Int32.le_refl _)], hm, h7⟩
  | succ d ih =>
    intro i fu m hi hf hm h7
    obtain ⟨f, rfl⟩ : ∃ f, fu = f + 1 := ⟨fu - 1, by omega⟩
    have hv := hV i (by omega)
    have e38 : ∀ j, j < 152 → wst m 38 p (nI i) 38 j = upd (μ0 38) p (nI i) j := fun j hj => by
      rw [wst_at]
      by_cases q : j = p
      · subst q
        rw [upd_at, upd_at]
      · rw [upd_o q, upd_o q, hm.2.2.2 j hj q]
    obtain ⟨m6, e1, b6⟩ := landsIn_s (μ0 := wst m 38 p (nI i)) (n := n) (N := 60) (s := s) (VW_cong (fun j hj _ => e38 j hj) hv) (RC_fr (wst_o (by decide)) (wst_o (by decide)) (hm.rc hC)) (by decide) hs
    rw [lp_cong hv hs e38] at e1
    have e7 : m6 37 7 = qr (qk (fun v => fd (lp (upd (μ0 38) p (nI v)) n s) 0 61) i) := by rw [b6.1 37 (by decide) (by decide), wst_o (by decide), h7]
    have hq := fun F => qm (β := Int32 × MM) (o := fun v => fd (lp (upd (μ0 38) p (nI v)) n s) 0 61) (fun v k h => fd60 h) i F
    have hb : Thq (fun x => x = p) μ0 (wst m6 37 7 (qr (qk (fun v => fd (lp (upd (μ0 38) p (nI v)) n s) 0 61) (i + 1)))) := by
      refine hm.tr (Thq.tr (b := m6) (Thq.tr (b := wst m 38 p (nI i)) ⟨fun k hk => wst_o (fun e => hk (by rw [e]; unfold fre; omega)), by rw [wst_o (by decide)], by rw [wst_o (by decide)], fun x hx hq => by rw [wst_at, upd_o hq]⟩ b6.thk.q) ⟨fun k hk => wst_o (fun e => hk (by rw [e]; unfold fre; omega)), by rw [wst_at, upd_o (by decide)], by rw [wst_at, upd_o (by decide)], fun x hx _ => by rw [wst_o (by decide)]⟩)
    obtain ⟨m', a1, a2, a3⟩ := ih (i + 1) f (wst m6 37 7 (qr (qk (fun v => fd (lp (upd (μ0 38) p (nI v)) n s) 0 61) (i + 1)))) (by omega) (by omega) hb (by rw [wst_at, upd_at])
    refine ⟨m', ?_, a2, a3⟩
    rw [L_X5_soonestWith_20, if_neg (nI_ge (by omega) (by omega)), sti_n (n := 152) (j := p) hp (by decide), show (60 : Int32) = nI 60 from rfl, e1, bdw_s]
    simp only [jn1_s, lt_s_, nI_1, e7, (hq (fun _ => none)).2]
    refine ((hq (fun x6 => L_X5_soonestWith_20 (nI p) (nI M) (nI s) k1 f x6 (nI (i + 1)) (wst m6 37 7 (qr (qk (fun v => fd (lp (upd (μ0 38) p (nI v)) n s) 0 61) (i + 1)))))).1).trans a1
theorem soonWith_s {μ0 : MM} {n s p M : Nat} (hV : ∀ v, v < M → VW (upd (μ0 38) p (nI v)) n) (hC : RC μ0) (hs : s < 4) (hp : p < 152) (hM : M < 4096) : ∃ m', f_X5_soonestWith (nI p) (nI M) (nI s) μ0 = some (qb (qk (fun v => fd (lp (upd (μ0 38) p (nI v)) n s) 0 61) M), m') ∧ Thk μ0 m' ∧ m' 37 7 = qr (qk (fun v => fd (lp (upd (μ0 38) p (nI v)) n s) 0 61) M) := by
  obtain ⟨m', a1, a2, a3⟩ := soonLoop hV hC hs hp hM (fun x2 m2 => sti m2 38 152 (nI p) (μ0 38 p) fun m3 => some (x2, m3)) M 0 FU (wst μ0 37 7 1000000) (by omega) (show M < 4096 from hM) ⟨fun k hk => wst_o (fun e => hk (by rw [e]; unfold fre; omega)), by rw [wst_at, upd_o (by decide)], by rw [wst_at, upd_o (by decide)], fun x hx _ => by rw [wst_o (by decide)]⟩ (by rw [wst_at, upd_at]; rfl)
  refine ⟨wst m' 38 p (μ0 38 p), ?_, ?_, ?_⟩
  · unfold f_X5_soonestWith
    rw [ldi_n hp (by decide), lt_s_, jn2_s]
    refine (show _ = _ from a1).trans ?_
    rw [sti_n (n := 152) (j := p) hp (by decide)]
  · refine ⟨fun k hk => ?_, by rw [wst_o (by decide), a2.2.1], by rw [wst_o (by decide), a2.2.2.1], fun i hi _ => ?_⟩
    · rw [wst_o (fun e => hk (by rw [e]; unfold fre; omega)), a2.1 k hk]
    · rw [wst_at]
      by_cases q : i = p
      · subst q
        rw [upd_at]
      · rw [upd_o q, a2.2.2.2 i hi q]
  · rw [wst_o (by decide), a3]
/-! ===== the class ===== -/
theorem quickLoop {m : MM} {s M : Nat} {o : Nat → Option Nat} (ho : ∀ v k, o v = some k → k ≤ 60) (hL : ∀ v, v < 32 → f_X4_landsBehind (nI s) (nI v) (m 1 8) m = some (vm (o v))) : ∀ (d i fu : Nat), i + d = 32 → d < fu → L_X4_quickestOrder_15 (nI s) m fu (qb (qk o i)) (qf (qk o i)) (nI i) = some (qb (qk o 32), m) := by
  intro d
  induction d with
  | zero =>
    intro i fu hi hf
    obtain ⟨f, rfl⟩ : ∃ f, fu = f + 1 := ⟨fu - 1, by omega⟩
    have e : i = 32 := by omega
    subst e
    rw [L_X4_quickestOrder_15, if_pos (show (32 : Int32) ≤ nI 32 by decide)]
  | succ d ih =>
    intro i fu hi hf
    obtain ⟨f, rfl⟩ : ∃ f, fu = f + 1 := ⟨fu - 1, by omega⟩
    rw [L_X4_quickestOrder_15, if_neg (ge_n (z := 32) (N := 32) rfl (by decide) (by omega)), hL i (by omega), bdr_s]
    simp only [jn2_s, lt_s_, nI_1]
    exact (qx ho i (fun x5 x6 => L_X4_quickestOrder_15 (nI s) m f x5 x6 (nI (i + 1)))).trans (ih (i + 1) f (by omega) (by omega))
theorem windLoop {m : MM} {s : Nat} {o : Nat → Option Nat} (hs : s < 4) (ho : ∀ v k, o v = some k → k ≤ 60) (hL : ∀ v, v < 8 → f_X4_landsBehind (nI s) (m 6 s) (nI v) m = some (vm (o v))) (k1 : Int32 → Option (Int32 × MM)) : ∀ (d i fu : Nat), i + d = 8 → d < fu → L_X4_windFor_29 (nI s) m k1 fu (qb (qk o i)) (qf (qk o i)) (nI i) = k1 (qb (qk o 8)) := by
  intro d
  induction d with
  | zero =>
    intro i fu hi hf
    obtain ⟨f, rfl⟩ : ∃ f, fu = f + 1 := ⟨fu - 1, by omega⟩
    have e : i = 8 := by omega
    subst e
    rw [L_X4_windFor_29, if_pos (show (8 : Int32) ≤ nI 8 by decide)]
  | succ d ih =>
    intro i fu hi hf
    obtain ⟨f, rfl⟩ : ∃ f, fu = f + 1 := ⟨fu - 1, by omega⟩
    rw [L_X4_windFor_29, if_neg (ge_n (z := 8) (N := 8) rfl (by decide) (by omega)), ldi_n hs (by decide), hL i (by omega), bdr_s]
    simp only [jn2_s, lt_s_, nI_1]
    exact (qx ho i (fun x5 x6 => L_X4_windFor_29 (nI s) m k1 f x5 x6 (nI (i + 1)))).trans (ih (i + 1) f (by omega) (by omega))
