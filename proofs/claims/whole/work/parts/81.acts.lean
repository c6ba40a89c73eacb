/-! ===== what is bounded ===== -/
theorem lt_T {b : Nat → Int32} {L T t : Nat} (hT : isT b L T) (h : t ≤ T) (e : ¬ tk b L t = 20) : t < T := by
  by_cases q : t = T
  · exfalso
    apply e
    rw [q]
    unfold tk
    rw [hT.1, if_neg (Nat.lt_irrefl _)]
  · omega
theorem w_20 {w : Nat} (hw : w < 17) {z : Int32} (e : z = nI w) : ¬ z = 20 := by
  rw [e]
  exact nI_lit hw 20 rfl (by decide)
theorem pn_17 {b : Nat → Int32} {L t : Nat} {hi : Int32} (h : pn b L hi t = true) : tk b L t = 17 := by
  unfold pn at h
  rw [decide_eq_true_eq] at h
  exact h.1
theorem pn_20 {b : Nat → Int32} {L t : Nat} {hi : Int32} (h : pn b L hi t = true) : ¬ tk b L t = 20 := by
  rw [pn_17 h]
  decide
def Pb (b : Nat → Int32) (L T w : Nat) (hi : Int32) (t : Nat) (x : Nat × Option Int32) : Prop := match x.2 with
  | none => x.1 ≤ T
  | some v => x.1 ≤ T ∧ ((v = -1 ∧ x.1 = t ∧ ¬ tk b L t = nI w) ∨ (x.1 = t + 2 ∧ tk b L t = nI w ∧ pn b L hi (t + 1) = true ∧ v = nv b L (t + 1)))
theorem part_b {b : Nat → Int32} {L T w t : Nat} {hi : Int32} (hT : isT b L T) (ht : t ≤ T) (hw : w < 17) : Pb b L T w hi t (part b L w hi t) := by
  unfold part
  by_cases q : tk b L t = nI w
  · have h1 := lt_T hT ht (w_20 hw q)
    rw [if_pos q]
    cases q2 : pn b L hi (t + 1) with
    | true =>
      have h2 := lt_T hT (show t + 1 ≤ T by omega) (pn_20 q2)
      rw [if_pos rfl]
      exact ⟨h2, Or.inr ⟨rfl, q, q2, rfl⟩⟩
    | false =>
      rw [if_neg (by decide)]
      exact h1
  · rw [if_neg q]
    exact ⟨ht, Or.inl ⟨rfl, rfl, q⟩⟩
theorem phab_b {b : Nat → Int32} {L T t : Nat} (hL : L ≤ 120) (hT : isT b L T) (ht : t ≤ T) : match (phab b L t).2 with | none => (phab b L t).1 ≤ T | some v => (phab b L t).1 ≤ T ∧ t ≤ (phab b L t).1 ∧ -15 ≤ v.toInt ∧ v.toInt ≤ 15 := by
  unfold phab
  by_cases q : tk b L t = nI 13
  · have h1 := lt_T hT ht (w_20 (by decide) q)
    rw [if_pos q]
    by_cases q1 : tk b L (t + 1) = 19
    · have h2 := lt_T hT (show t + 1 ≤ T by omega) (by rw [q1]; decide)
      rw [if_pos q1]
      cases q2 : pn b L 15 (t + 2) with
      | true =>
        have h3 := lt_T hT (show t + 2 ≤ T by omega) (pn_20 q2)
        obtain ⟨k, hk, e⟩ := pn_hi hL (show (15 : Int32) = nI 15 from rfl) (by decide) q2
        rw [if_pos rfl]
        refine ⟨h3, by show t ≤ t + 3; omega, ?_⟩
        have e3 : (-(nv b L (t + 2))).toInt = -(k : Int) := by
          rw [e, Int32.toInt_neg, nI_toInt (by omega)]
          exact fb_bmod (by omega) (by omega)
        rw [e3]
        omega
      | false =>
        rw [if_neg (by decide)]
        exact h2
    · rw [if_neg q1]
      cases q2 : pn b L 15 (t + 1) with
      | true =>
        have h3 := lt_T hT (show t + 1 ≤ T by omega) (pn_20 q2)
        obtain ⟨k, hk, e⟩ := pn_hi hL (show (15 : Int32) = nI 15 from rfl) (by decide) q2
        rw [if_pos rfl]
        refine ⟨h3, by show t ≤ t + 2; omega, ?_⟩
        rw [e, nI_toInt (by omega)]
        omega
      | false =>
        rw [if_neg (by decide)]
        exact h1
  · rw [if_neg q]
    exact ⟨ht, Nat.le_refl _, by decide, by decide⟩
/-! ===== acts ===== -/
def okP (c P v : Nat) : Prop := (P = 1 ∧ v ≤ 9999) ∨ (P = 2 ∧ v ≤ 7) ∨ (P = 3 ∧ v ≤ 65535) ∨ ∃ s, s < 4 ∧ ((P = 116 + 3 * s ∧ v ≤ 99) ∨ (P = 116 + 3 * s + 1 ∧ v ≤ 31) ∨ (P = 116 + 3 * s + 2 ∧ v ≤ 2 ^ c - 1))
def okA (c : Nat) (x : Act) (c' : Nat) : Prop :=
  (∃ k h : Nat, k ≤ 6 ∧ h ≤ 99 ∧ x.1 = nI k ∧ x.2.1 = nI h ∧ -15 ≤ x.2.2.toInt ∧ x.2.2.toInt ≤ 15 ∧ c < 8 ∧ c' = c + 1) ∨ (∃ v : Nat, v ≤ 99 ∧ x = (10, nI v, 0) ∧ c' = c) ∨ (∃ P v : Nat, okP c P v ∧ x = (nI (20 + P), nI v, 0) ∧ c' = c)
def okL (c : Nat) : List Act → Nat → Prop
  | [], c' => c = c'
  | x :: l, c' => ∃ c1, okA c x c1 ∧ okL c1 l c'
theorem okL_app {l2 : List Act} {c3 : Nat} : ∀ {l1 : List Act} {c1 c2 : Nat}, okL c1 l1 c2 → okL c2 l2 c3 → okL c1 (l1 ++ l2) c3
  | [], c1, c2, h, g => by
    have h : c1 = c2 := h
    rw [h]
    exact g
  | x :: l1, c1, c2, ⟨c, h1, h2⟩, g => ⟨c, h1, okL_app h2 g⟩
theorem okA_le {c c' : Nat} {x : Act} (h : okA c x c') (hc : c ≤ 8) : c' ≤ 8 := by
  rcases h with ⟨k, hh, _, _, _, _, _, _, h1, h2⟩ | ⟨v, _, _, h⟩ | ⟨P, v, _, _, h⟩ <;> omega
def ap (g : Nat → Int32) (x : Act) : Nat → Int32 :=
  if x.1 < 20 then (if x.1 = 10 then upd g (16 + x.2.1.toNatClampNeg) 1 else upd (upd (upd (upd g (128 + 3 * (g 4).toNatClampNeg) x.1) (128 + 3 * (g 4).toNatClampNeg + 1) x.2.1) (128 + 3 * (g 4).toNatClampNeg + 2) x.2.2) 4 (g 4 + 1)) else upd g (x.1 - 20).toNatClampNeg x.2.1
/-- an item's bounds -/
def Ib (T t c : Nat) (x : Nat × Option (Nat × List Act)) : Prop := match x.2 with
  | none => x.1 ≤ T
  | some y => x.1 ≤ T ∧ t + 1 ≤ x.1 ∧ 2 * y.2.length ≤ x.1 - t + 1 ∧ okL c y.2 y.1
theorem pone_b {b : Nat → Int32} {L T w t c N : Nat} {hi pl : Int32} (hL : L ≤ 120) (hT : isT b L T) (ht : t ≤ T) (hw : w < 17) (e : tk b L t = nI w) (hh : hi = nI N) (hN : N < 2 ^ 31) (ok : ∀ v, v ≤ N → okA c (pl, nI v, 0) c) : Ib T t c (pone b L w hi pl t c) := by
  have hb := part_b (w := w) (hi := hi) hT ht hw
  unfold pone
  generalize part b L w hi t = x at hb ⊢
  obtain ⟨t1, o⟩ := x
  cases o with
  | none => exact hb
  | some v =>
    obtain ⟨h1, h2⟩ : t1 ≤ T ∧ ((v = -1 ∧ t1 = t ∧ ¬ tk b L t = nI w) ∨ (t1 = t + 2 ∧ tk b L t = nI w ∧ pn b L hi (t + 1) = true ∧ v = nv b L (t + 1))) := hb
    rcases h2 with ⟨_, _, h⟩ | ⟨h3, _, h4, h5⟩
    · exact absurd e h
    · obtain ⟨k, hk, ek⟩ := pn_hi hL hh hN h4
      refine ⟨h1, by show t + 1 ≤ t1; omega, by show 2 * 1 ≤ t1 - t + 1; omega, c, ?_, rfl⟩
      rw [h5, ek]
      exact ok k hk
theorem pcat_b {b : Nat → Int32} {L T t c : Nat} (hL : L ≤ 120) (hT : isT b L T) (ht : t ≤ T) (e : ¬ wi (tk b L t) 0 6 = 0) : Ib T t c (pcat b L t c) := by
  obtain ⟨k, hk, ek⟩ := wi_n (N := 6) (by decide) e
  have h0 := lt_T hT ht (w_20 (show k < 17 by omega) ek)
  unfold pcat
  by_cases q : c < 8
  · rw [if_pos q]
    have hb := part_b (w := 12) (hi := 99) hT (show t + 1 ≤ T by omega) (by decide)
    generalize part b L 12 99 (t + 1) = x at hb ⊢
    obtain ⟨t1, o⟩ := x
    cases o with
    | none => exact hb
    | some v =>
      obtain ⟨h1, h2⟩ : t1 ≤ T ∧ ((v = -1 ∧ t1 = t + 1 ∧ ¬ tk b L (t + 1) = nI 12) ∨ (t1 = t + 1 + 2 ∧ tk b L (t + 1) = nI 12 ∧ pn b L 99 (t + 1 + 1) = true ∧ v = nv b L (t + 1 + 1))) := hb
      have ht1 : t + 1 ≤ t1 := by rcases h2 with ⟨_, h, _⟩ | ⟨h, _⟩ <;> omega
      have hv : ∃ h : Nat, h ≤ 99 ∧ (if v = -1 then 0 else v) = nI h := by
        by_cases y : v = -1
        · rw [if_pos y]
          exact ⟨0, by decide, rfl⟩
        · rw [if_neg y]
          rcases h2 with ⟨z, _, _⟩ | ⟨_, _, h4, h5⟩
          · exact absurd z y
          · obtain ⟨h, hh, eh⟩ := pn_hi hL (show (99 : Int32) = nI 99 from rfl) (by decide) h4
            exact ⟨h, hh, h5.trans eh⟩
      obtain ⟨h, hh, eh⟩ := hv
      have hp := phab_b hL hT h1
      show Ib T t c (bnd (phab b L t1) fun t2 hb => (t2, some (c + 1, [(tk b L t, (if v = -1 then 0 else v), hb)])))
      generalize phab b L t1 = y at hp ⊢
      obtain ⟨t2, o⟩ := y
      cases o with
      | none => exact hp
      | some w =>
        obtain ⟨p1, p2, p3, p4⟩ : t2 ≤ T ∧ t1 ≤ t2 ∧ -15 ≤ w.toInt ∧ w.toInt ≤ 15 := hp
        exact ⟨p1, by show t + 1 ≤ t2; omega, by show 2 * 1 ≤ t2 - t + 1; omega, c + 1, Or.inl ⟨k, h, hk, hh, ek, eh, p3, p4, q, rfl⟩, rfl⟩
  · rw [if_neg q]
    exact ht
theorem sact_ok {c P v : Nat} (h : okP c P v) (hv : v < 2 ^ 31) : okL c (sact P (nI v)) c := by
  unfold sact
  rw [if_neg (fun z => by
    have := congrArg Int32.toInt z
    rw [nI_toInt hv, show ((-1 : Int32)).toInt = -1 from by decide] at this
    omega)]
  exact ⟨c, Or.inr (Or.inr ⟨P, v, h, rfl, rfl⟩), rfl⟩
theorem spart_ok {b : Nat → Int32} {L T w t c P N : Nat} {hi : Int32} {t1 : Nat} {v : Int32} (hL : L ≤ 120) (hh : hi = nI N) (hN : N < 2 ^ 31) (h : Pb b L T w hi t (t1, some v)) (ok : ∀ v, v ≤ N → okP c P v) : t1 ≤ T ∧ t ≤ t1 ∧ 2 * (sact P v).length ≤ t1 - t ∧ okL c (sact P v) c := by
  obtain ⟨h1, h2⟩ : t1 ≤ T ∧ ((v = -1 ∧ t1 = t ∧ ¬ tk b L t = nI w) ∨ (t1 = t + 2 ∧ tk b L t = nI w ∧ pn b L hi (t + 1) = true ∧ v = nv b L (t + 1))) := h
  rcases h2 with ⟨z, h3, _⟩ | ⟨h3, _, h4, h5⟩
  · refine ⟨h1, by omega, ?_, ?_⟩
    · unfold sact
      rw [if_pos z]
      exact Nat.zero_le _
    · unfold sact
      rw [if_pos z]
      rfl
  · obtain ⟨k, hk, ek⟩ := pn_hi hL hh hN h4
    have := sact_le P v
    refine ⟨h1, by omega, by omega, ?_⟩
    rw [h5, ek]
    exact sact_ok (ok k hk) (by omega)
theorem pship_b {b : Nat → Int32} {L T t c : Nat} (hL : L ≤ 120) (hT : isT b L T) (ht : t ≤ T) (hc : c ≤ 8) (e : tk b L t = nI 8) : Ib T t c (pship b L t c) := by
  have h256 : 2 ^ c ≤ 256 := Nat.pow_le_pow_right (by decide) hc
  have hb := part_b (w := 8) (hi := 3) hT ht (by decide)
  unfold pship
  generalize part b L 8 3 t = x at hb ⊢
  obtain ⟨t1, o⟩ := x
  cases o with
  | none => exact hb
  | some v =>
    obtain ⟨h1, h2⟩ : t1 ≤ T ∧ ((v = -1 ∧ t1 = t ∧ ¬ tk b L t = nI 8) ∨ (t1 = t + 2 ∧ tk b L t = nI 8 ∧ pn b L 3 (t + 1) = true ∧ v = nv b L (t + 1))) := hb
    rcases h2 with ⟨_, _, h⟩ | ⟨h3, _, h4, h5⟩
    · exact absurd e h
    obtain ⟨s, hs, es⟩ := pn_hi hL (show (3 : Int32) = nI 3 from rfl) (by decide) h4
    have ecl : v.toNatClampNeg = s := by rw [h5, es, nI_clamp (by omega)]
    show Ib T t c (bnd (part b L 14 99 t1) fun t2 x => bnd (part b L 15 31 t2) fun t3 y => bnd (part b L 16 (sl 1 (nI c) - 1) t3) fun t4 z => (t4, some (c, sact (116 + 3 * v.toNatClampNeg) x ++ sact (116 + 3 * v.toNatClampNeg + 1) y ++ sact (116 + 3 * v.toNatClampNeg + 2) z)))
    rw [ecl]
    have hb2 := part_b (w := 14) (hi := 99) hT h1 (by decide)
    generalize part b L 14 99 t1 = x at hb2 ⊢
    obtain ⟨t2, o⟩ := x
    cases o with
    | none => exact hb2
    | some x =>
      obtain ⟨a1, a2, a3, a4⟩ := spart_ok (c := c) (P := 116 + 3 * s) hL (show (99 : Int32) = nI 99 from rfl) (by decide) hb2 (fun v hv => Or.inr (Or.inr (Or.inr ⟨s, by omega, Or.inl ⟨rfl, hv⟩⟩)))
      show Ib T t c (bnd (part b L 15 31 t2) fun t3 y => bnd (part b L 16 (sl 1 (nI c) - 1) t3) fun t4 z => (t4, some (c, sact (116 + 3 * s) x ++ sact (116 + 3 * s + 1) y ++ sact (116 + 3 * s + 2) z)))
      have hb3 := part_b (w := 15) (hi := 31) hT a1 (by decide)
      generalize part b L 15 31 t2 = y at hb3 ⊢
      obtain ⟨t3, o⟩ := y
      cases o with
      | none => exact hb3
      | some y =>
        obtain ⟨c1, c2, c3, c4⟩ := spart_ok (c := c) (P := 116 + 3 * s + 1) hL (show (31 : Int32) = nI 31 from rfl) (by decide) hb3 (fun v hv => Or.inr (Or.inr (Or.inr ⟨s, by omega, Or.inr (Or.inl ⟨rfl, hv⟩)⟩)))
        show Ib T t c (bnd (part b L 16 (sl 1 (nI c) - 1) t3) fun t4 z => (t4, some (c, sact (116 + 3 * s) x ++ sact (116 + 3 * s + 1) y ++ sact (116 + 3 * s + 2) z)))
        have hb4 := part_b (w := 16) (hi := sl 1 (nI c) - 1) hT c1 (by decide)
        generalize part b L 16 (sl 1 (nI c) - 1) t3 = z at hb4 ⊢
        obtain ⟨t4, o⟩ := z
        cases o with
        | none => exact hb4
        | some z =>
          obtain ⟨d1, d2, d3, d4⟩ := spart_ok (c := c) (P := 116 + 3 * s + 2) hL (sl_n c hc).1 (by omega) hb4 (fun v hv => Or.inr (Or.inr (Or.inr ⟨s, by omega, Or.inr (Or.inr ⟨rfl, hv⟩)⟩)))
          refine ⟨d1, by show t + 1 ≤ t4; omega, ?_, okL_app (okL_app a4 c4) d4⟩
          show 2 * (sact (116 + 3 * s) x ++ sact (116 + 3 * s + 1) y ++ sact (116 + 3 * s + 2) z).length ≤ t4 - t + 1
          rw [List.length_append, List.length_append]
          omega
theorem pitem_b {b : Nat → Int32} {L T t c : Nat} (hL : L ≤ 120) (hT : isT b L T) (ht : t ≤ T) (hc : c ≤ 8) : Ib T t c (pitem b L t c) := by
  unfold pitem
  by_cases q : wi (tk b L t) 0 6 = 0
  · rw [if_neg (not_not_intro q)]
    by_cases q7 : tk b L t = 7
    · rw [if_pos q7]
      exact pone_b hL hT ht (by decide) q7 (show (99 : Int32) = nI 99 from rfl) (by decide) (fun v hv => Or.inr (Or.inl ⟨v, hv, rfl, rfl⟩))
    rw [if_neg q7]
    by_cases q8 : tk b L t = 8
    · rw [if_pos q8]
      exact pship_b hL hT ht hc q8
    rw [if_neg q8]
    by_cases q9 : tk b L t = 9
    · rw [if_pos q9]
      exact pone_b hL hT ht (by decide) q9 (show (7 : Int32) = nI 7 from rfl) (by decide) (fun v hv => Or.inr (Or.inr ⟨2, v, Or.inr (Or.inl ⟨rfl, hv⟩), rfl, rfl⟩))
    rw [if_neg q9]
    by_cases q10 : tk b L t = 10
    · rw [if_pos q10]
      exact pone_b hL hT ht (by decide) q10 (show (65535 : Int32) = nI 65535 from rfl) (by decide) (fun v hv => Or.inr (Or.inr ⟨3, v, Or.inr (Or.inr (Or.inl ⟨rfl, hv⟩)), rfl, rfl⟩))
    rw [if_neg q10]
    by_cases q11 : tk b L t = 11
    · rw [if_pos q11]
      exact pone_b hL hT ht (by decide) q11 (show (9999 : Int32) = nI 9999 from rfl) (by decide) (fun v hv => Or.inr (Or.inr ⟨1, v, Or.inl ⟨rfl, hv⟩, rfl, rfl⟩))
    rw [if_neg q11]
    exact ht
  · rw [if_pos q]
    exact pcat_b hL hT ht q
