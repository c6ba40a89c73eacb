/-! ===== the reference: one item ===== -/
def Ep (w : Nat) (f x1 : Int32) (hi : MM → Int32) (m : MM) (K : MM → Option MM) : Option MM := bdw (f_X5_isNext w m) fun x2 m2 => if x2 = 0 then K m2 else bdr (f_X5_atShip x1 f) fun x9 => bdw (f_X5_number 0 (hi m2) m2) fun x10 m11 => bdr (f_X5_item (20 + x9) x10 0 m11) fun m12 => K m12
theorem ship_e (m : MM) : f_X5_shipTold m = bdw (f_X5_number 0 3 m) fun x1 m1 => Ep 14 0 x1 (fun _ => 99) m1 fun m3 => Ep 15 1 x1 (fun _ => 31) m3 fun m5 => Ep 16 2 x1 (fun m => sl 1 (m 37 21) - 1) m5 some := rfl
theorem Ep_w {b : Nat → Int32} {L t w : Nat} {f x1 : Int32} {hi : MM → Int32} {m : MM} (h : RM b L t true m) (K : MM → Option MM) : Ep w f x1 hi m K = K m := by
  unfold Ep
  rw [nx_w h, bdw_s, if_pos rfl]
/-- how a part of an item ended -/
def Pr (b : Nat → Int32) (L : Nat) (x : Nat × Option Int32) (l : List Act) (P : Nat) (m' : MM) : Prop := match x.2 with
  | none => RM b L x.1 true m'
  | some v => RM b L x.1 false m' ∧ IT m' (l ++ sact P v)
theorem Ep_s {b : Nat → Int32} {L t w s P : Nat} {f hi : Int32} {hm : MM → Int32} {m : MM} {l : List Act} (hL : L ≤ 120) (hb : ∀ i, i < L → bn (b i) 255) (hw : w < 17) (h : RM b L t false m) (g : IT m l) (hl : l.length < 120) (hat : f_X5_atShip (nI s) f = some (nI P)) (hhi : ∀ m', Nf m m' → hm m' = hi) (K : MM → Option MM) : ∃ m', Ep w f (nI s) hm m K = K m' ∧ Pf m m' ∧ m' 37 20 = m 37 20 ∧ m' 37 21 = m 37 21 ∧ Pr b L (part b L w hi t) l P m' := by
  unfold Ep part
  by_cases q : tk b L t = nI w
  · obtain ⟨m1, a1, a2, a3⟩ := nx_y hL hb hw h q
    rw [a1, bdw_s, if_neg (by decide), if_pos q, hat, bdr_s, hhi m1 a2]
    cases q3 : pn b L hi (t + 1) with
    | true =>
      obtain ⟨m3, d1, d2, d3⟩ := num_ok hL hb a3 q3
      obtain ⟨m4, e1, e2, e3, e4, e5, e6⟩ := item_s (20 + nI P) (nv b L (t + 1)) 0 hl d3 ((a2.tr d2).it g)
      rw [d1, bdw_s, e1, bdr_s, if_pos rfl]
      refine ⟨m4, rfl, (a2.tr d2).pf.tr e2, by rw [e5, d2.2 20 (by omega), a2.2 20 (by omega)], by rw [e6, d2.2 21 (by omega), a2.2 21 (by omega)], e3, ?_⟩
      unfold sact
      rw [if_neg (nv_ne hL q3), ← nI_add]
      exact e4
    | false =>
      obtain ⟨r, m3, d1, d2, d3⟩ := num_no a3 q3
      obtain ⟨m4, e1, e2, e3, e4, e5, e6⟩ := item_s (20 + nI P) r 0 hl d3 ((a2.tr d2).it g)
      rw [d1, bdw_s, e1, bdr_s, if_neg (by decide)]
      exact ⟨m4, rfl, (a2.tr d2).pf.tr e2, by rw [e5, d2.2 20 (by omega), a2.2 20 (by omega)], by rw [e6, d2.2 21 (by omega), a2.2 21 (by omega)], e3⟩
  · rw [nx_n hL hw h q, bdw_s, if_pos rfl, if_neg q]
    refine ⟨m, rfl, (Nf_rfl m).pf, rfl, rfl, h, ?_⟩
    unfold sact
    rw [if_pos rfl, List.append_nil]
    exact g
/-- how an item ended -/
def Ir (b : Nat → Int32) (L : Nat) (x : Nat × Option (Nat × List Act)) (l : List Act) (m' : MM) : Prop := match x.2 with
  | none => RM b L x.1 true m'
  | some y => RM b L x.1 false m' ∧ IT m' (l ++ y.2) ∧ m' 37 21 = nI y.1
theorem Ir_bnd {b : Nat → Int32} {L : Nat} {x : Nat × Option Int32} {f : Nat → Int32 → Nat × Option (Nat × List Act)} {l : List Act} {m' : MM} (h : match x.2 with | none => RM b L x.1 true m' | some v => Ir b L (f x.1 v) l m') : Ir b L (bnd x f) l m' := by
  unfold bnd
  cases e : x.2 with
  | none =>
    rw [e] at h
    exact h
  | some v =>
    rw [e] at h
    exact h
theorem sact_le (P : Nat) (v : Int32) : (sact P v).length ≤ 1 := by
  unfold sact
  split
  · exact Nat.zero_le _
  · exact Nat.le_refl _
/-- a number and its item -/
theorem one_s {b : Nat → Int32} {L t w c : Nat} {hi pl : Int32} {m m1 : MM} {l : List Act} (hL : L ≤ 120) (hb : ∀ i, i < L → bn (b i) 255) (hc : m 37 21 = nI c) (hn : Nf m m1) (h1 : RM b L (t + 1) false m1) (e : tk b L t = nI w) (g : IT m l) (hl : l.length < 120) : ∃ m', (bdw (f_X5_number 0 hi m1) fun x10 m14 => bdr (f_X5_item pl x10 0 m14) fun m15 => some m15) = some m' ∧ Pf m m' ∧ m' 37 20 = m 37 20 ∧ Ir b L (pone b L w hi pl t c) l m' := by
  unfold pone
  cases q3 : pn b L hi (t + 1) with
  | true =>
    obtain ⟨m3, d1, d2, d3⟩ := num_ok hL hb h1 q3
    obtain ⟨m4, e1, e2, e3, e4, e5, e6⟩ := item_s pl (nv b L (t + 1)) 0 hl d3 ((hn.tr d2).it g)
    rw [d1, bdw_s, e1, bdr_s]
    refine ⟨m4, rfl, (hn.tr d2).pf.tr e2, by rw [e5, d2.2 20 (by omega), hn.2 20 (by omega)], Ir_bnd ?_⟩
    unfold part
    rw [if_pos e, q3, if_pos rfl]
    exact ⟨e3, e4, by rw [e6, d2.2 21 (by omega), hn.2 21 (by omega), hc]⟩
  | false =>
    obtain ⟨r, m3, d1, d2, d3⟩ := num_no h1 q3
    obtain ⟨m4, e1, e2, e3, e4, e5, e6⟩ := item_s pl r 0 hl d3 ((hn.tr d2).it g)
    rw [d1, bdw_s, e1, bdr_s]
    refine ⟨m4, rfl, (hn.tr d2).pf.tr e2, by rw [e5, d2.2 20 (by omega), hn.2 20 (by omega)], Ir_bnd ?_⟩
    unfold part
    rw [if_pos e, q3, if_neg (by decide)]
    exact e3
theorem pn_hi {b : Nat → Int32} {L t N : Nat} {hi : Int32} (hL : L ≤ 120) (hh : hi = nI N) (hN : N < 2 ^ 31) (h : pn b L hi t = true) : ∃ k : Nat, k ≤ N ∧ nv b L t = nI k := by
  unfold pn at h
  rw [decide_eq_true_eq] at h
  obtain ⟨k, hk, e⟩ := nv_bd hL h.1
  refine ⟨k, ?_, e⟩
  rw [e, hh] at h
  exact (le_nn (by omega) hN).mp h.2
theorem ship_s {b : Nat → Int32} {L t c : Nat} {m m1 : MM} {l : List Act} (hL : L ≤ 120) (hb : ∀ i, i < L → bn (b i) 255) (hc : m 37 21 = nI c) (hn : Nf m m1) (h1 : RM b L (t + 1) false m1) (e : tk b L t = nI 8) (g : IT m l) (hl : l.length < 110) : ∃ m', f_X5_shipTold m1 = some m' ∧ Pf m m' ∧ m' 37 20 = m 37 20 ∧ Ir b L (pship b L t c) l m' := by
  rw [ship_e]
  unfold pship
  have ep : part b L 8 3 t = if pn b L 3 (t + 1) then (t + 2, some (nv b L (t + 1))) else (t + 1, none) := by
    unfold part
    rw [if_pos e]
  cases q3 : pn b L 3 (t + 1) with
  | false =>
    obtain ⟨r, m3, d1, d2, d3⟩ := num_no h1 q3
    rw [d1, bdw_s, Ep_w d3, Ep_w d3, Ep_w d3]
    refine ⟨m3, rfl, (hn.tr d2).pf, by rw [d2.2 20 (by omega), hn.2 20 (by omega)], Ir_bnd ?_⟩
    rw [ep, q3, if_neg (by decide)]
    exact d3
  | true =>
    obtain ⟨m3, d1, d2, d3⟩ := num_ok hL hb h1 q3
    obtain ⟨s, hs, es⟩ := pn_hi hL (show (3 : Int32) = nI 3 from rfl) (by decide) q3
    have ecl : (nv b L (t + 1)).toNatClampNeg = s := by rw [es, nI_clamp (by omega)]
    have c3 : m3 37 21 = nI c := by rw [d2.2 21 (by omega), hn.2 21 (by omega), hc]
    have f3 : Pf m m3 := (hn.tr d2).pf
    have t3 : m3 37 20 = m 37 20 := by rw [d2.2 20 (by omega), hn.2 20 (by omega)]
    rw [d1, bdw_s, es]
    obtain ⟨m4, p1, p2, p3, p4, p5⟩ := Ep_s (P := 116 + 3 * s) (hi := 99) (hm := fun _ => 99) hL hb (show 14 < 17 by decide) d3 ((hn.tr d2).it g) (by omega) (atShip0 s) (fun _ _ => rfl) (fun m3 => Ep 15 1 (nI s) (fun _ => 31) m3 fun m5 => Ep 16 2 (nI s) (fun m => sl 1 (m 37 21) - 1) m5 some)
    rw [p1]
    suffices H : ∃ m', (Ep 15 1 (nI s) (fun _ => 31) m4 fun m5 => Ep 16 2 (nI s) (fun m => sl 1 (m 37 21) - 1) m5 some) = some m' ∧ Pf m4 m' ∧ m' 37 20 = m4 37 20 ∧ Ir b L (bnd (part b L 14 99 (t + 2)) fun t2 x => bnd (part b L 15 31 t2) fun t3 y => bnd (part b L 16 (sl 1 (nI c) - 1) t3) fun t4 z => (t4, some (c, sact (116 + 3 * s) x ++ sact (116 + 3 * s + 1) y ++ sact (116 + 3 * s + 2) z))) l m' by
      obtain ⟨m', x1, x2, x3, x4⟩ := H
      refine ⟨m', x1, (f3.tr p2).tr x2, by rw [x3, p3, t3], Ir_bnd ?_⟩
      rw [ep, q3, if_pos rfl]
      show Ir b L (bnd (part b L 14 99 (t + 2)) fun t2 x => bnd (part b L 15 31 t2) fun t3 y => bnd (part b L 16 (sl 1 (nI c) - 1) t3) fun t4 z => (t4, some (c, sact (116 + 3 * (nv b L (t + 1)).toNatClampNeg) x ++ sact (116 + 3 * (nv b L (t + 1)).toNatClampNeg + 1) y ++ sact (116 + 3 * (nv b L (t + 1)).toNatClampNeg + 2) z))) l m'
      rw [ecl]
      exact x4
    have p5' : Pr b L (part b L 14 99 (t + 2)) l (116 + 3 * s) m4 := p5
    generalize part b L 14 99 (t + 2) = x at p5' ⊢
    obtain ⟨t2, o⟩ := x
    cases o with
    | none =>
      have p5' : RM b L t2 true m4 := p5'
      rw [Ep_w p5', Ep_w p5']
      exact ⟨m4, rfl, (Nf_rfl m4).pf, rfl, Ir_bnd p5'⟩
    | some x =>
      obtain ⟨r4, i4⟩ : RM b L t2 false m4 ∧ IT m4 (l ++ sact (116 + 3 * s) x) := p5'
      have hx := sact_le (116 + 3 * s) x
      obtain ⟨m5, u1, u2, u3, u4, u5⟩ := Ep_s (P := 116 + 3 * s + 1) (hi := 31) (hm := fun _ => 31) hL hb (show 15 < 17 by decide) r4 i4 (by rw [List.length_append]; omega) (atShip1 s) (fun _ _ => rfl) (fun m5 => Ep 16 2 (nI s) (fun m => sl 1 (m 37 21) - 1) m5 some)
      rw [u1]
      have c5 : m5 37 21 = nI c := by rw [u4, p4, c3]
      show ∃ m', _ ∧ _ ∧ _ ∧ Ir b L (bnd (part b L 15 31 t2) fun t3 y => bnd (part b L 16 (sl 1 (nI c) - 1) t3) fun t4 z => (t4, some (c, sact (116 + 3 * s) x ++ sact (116 + 3 * s + 1) y ++ sact (116 + 3 * s + 2) z))) l m'
      generalize part b L 15 31 t2 = y at u5 ⊢
      obtain ⟨t3, o⟩ := y
      cases o with
      | none =>
        have u5 : RM b L t3 true m5 := u5
        rw [Ep_w u5]
        exact ⟨m5, rfl, u2, u3, Ir_bnd u5⟩
      | some y =>
        obtain ⟨r5, i5⟩ : RM b L t3 false m5 ∧ IT m5 (l ++ sact (116 + 3 * s) x ++ sact (116 + 3 * s + 1) y) := u5
        have hy := sact_le (116 + 3 * s + 1) y
        obtain ⟨m6, v1, v2, v3, v4, v5⟩ := Ep_s (P := 116 + 3 * s + 2) (hi := sl 1 (nI c) - 1) (hm := fun m => sl 1 (m 37 21) - 1) hL hb (show 16 < 17 by decide) r5 i5 (by rw [List.length_append, List.length_append]; omega) (atShip2 s) (fun m' hm' => by show sl 1 (m' 37 21) - 1 = _; rw [hm'.2 21 (by omega), c5]) some
        rw [v1]
        refine ⟨m6, rfl, u2.tr v2, by rw [v3, u3], ?_⟩
        show Ir b L (bnd (part b L 16 (sl 1 (nI c) - 1) t3) fun t4 z => (t4, some (c, sact (116 + 3 * s) x ++ sact (116 + 3 * s + 1) y ++ sact (116 + 3 * s + 2) z))) l m6
        generalize part b L 16 (sl 1 (nI c) - 1) t3 = z at v5 ⊢
        obtain ⟨t4, o⟩ := z
        cases o with
        | none => exact Ir_bnd v5
        | some z =>
          obtain ⟨r6, i6⟩ : RM b L t4 false m6 ∧ IT m6 (l ++ sact (116 + 3 * s) x ++ sact (116 + 3 * s + 1) y ++ sact (116 + 3 * s + 2) z) := v5
          refine ⟨r6, ?_, by rw [v4, c5]⟩
          show IT m6 (l ++ (sact (116 + 3 * s) x ++ sact (116 + 3 * s + 1) y ++ sact (116 + 3 * s + 2) z))
          rw [← List.append_assoc, ← List.append_assoc]
          exact i6
