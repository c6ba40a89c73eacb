theorem kindTold_s {b : Nat → Int32} {L t : Nat} {w : Bool} {m : MM} (hL : L ≤ 120) (h : RM b L t w m) : f_X5_kindTold m = some (if ¬ wi (tk b L t) 0 6 = 0 then tk b L t else -1) := by
  have step : ∀ (i f : Nat) (x : Int32), i < 7 → L_X5_kindTold_4 m (f + 1) x (nI i) = L_X5_kindTold_4 m f (if tk b L t = nI i then nI i else x) (nI (i + 1)) := fun i f x hi => by
    rw [L_X5_kindTold_4, if_neg (ge_n (z := 7) (N := 7) rfl (by decide) hi), ldq_n hi (by decide), Nat.one_mul, isWord_s (by omega) hL h.1 h.2.1, bdr_s]
    simp only [jn1_s, lt_s_, nI_1]
    by_cases q : tk b L t = nI i
    · rw [decide_eq_true q, if_neg (by decide), if_pos q]
    · rw [decide_eq_false q, if_pos (by decide), if_neg q]
  have fin : ∀ (f : Nat) (x : Int32), L_X5_kindTold_4 m (f + 1) x (nI 7) = some x := fun f x => by
    rw [L_X5_kindTold_4, if_pos (by decide)]
  have e0 : f_X5_kindTold m = L_X5_kindTold_4 m (4095 + 1) (-1) (nI 0) := rfl
  rw [e0, step 0 _ _ (by decide), step 1 4094 _ (by decide), step 2 4093 _ (by decide), step 3 4092 _ (by decide), step 4 4091 _ (by decide), step 5 4090 _ (by decide), step 6 4089 _ (by decide), fin 4088]
  by_cases q : wi (tk b L t) 0 6 = 0
  · have hne : ∀ k, k < 7 → ¬ tk b L t = nI k := fun k hk e => by
      rw [e] at q
      exact wi_y (N := 6) rfl (by decide) (show k ≤ 6 by omega) rfl q
    rw [if_neg (not_not_intro q), if_neg (hne 0 (by decide)), if_neg (hne 1 (by decide)), if_neg (hne 2 (by decide)), if_neg (hne 3 (by decide)), if_neg (hne 4 (by decide)), if_neg (hne 5 (by decide)), if_neg (hne 6 (by decide))]
  · rw [if_pos q]
    obtain ⟨k, hk, e⟩ := wi_n (N := 6) (by decide) q
    rw [e]
    rcases (by omega : k = 0 ∨ k = 1 ∨ k = 2 ∨ k = 3 ∨ k = 4 ∨ k = 5 ∨ k = 6) with rfl | rfl | rfl | rfl | rfl | rfl | rfl <;> decide
theorem cat_s {b : Nat → Int32} {L t c : Nat} {m : MM} {l : List Act} {x1 : Int32} (hL : L ≤ 120) (hb : ∀ i, i < L → bn (b i) 255) (hc : m 37 21 = nI c) (hc8 : c ≤ 8) (h : RM b L t false m) (e : tk b L t = x1) (g : IT m l) (hl : l.length < 120) : ∃ m', (jn1 (fun (x11 : Int32) => bdr (f_X5_must x11 m) fun m16 => lt_ (wst m16 37 21 ((m16 37 21) + 1)) fun m17 => bdw (f_X5_isNext 12 m17) fun x12 m18 => jn2 (fun (x13 : Int32) (m19 : MM) => bdw (f_X5_habitTold m19) fun x14 m20 => bdr (f_X5_item x1 x13 x14 m20) fun m21 => some m21) fun k1 => if x12 = 0 then (k1 0 m18) else (bdw (f_X5_number 0 99 m18) fun x15 m22 => k1 x15 m22)) fun k2 => if 8 ≤ (m 37 21) then (k2 0) else (k2 1)) = some m' ∧ Pf m m' ∧ m' 37 20 = m 37 20 ∧ Ir b L (pcat b L t c) l m' := by
  simp only [jn1_s, jn2_s]
  rw [hc]
  unfold pcat
  by_cases q : c < 8
  · rw [if_neg (ge_n (z := 8) (N := 8) rfl (by decide) q), if_pos q]
    obtain ⟨m1, a1, a2, a3⟩ := must_1 hL hb h
    rw [a1, bdr_s, lt_s_, a2.2 21 (by omega), hc, nI_1]
    have r1 : RM b L (t + 1) false (wst m1 37 21 (nI (c + 1))) := RM_w a3 (by omega)
    have f1 : Pf m (wst m1 37 21 (nI (c + 1))) := a2.pf.tr (Pf_w (by omega))
    have i1 : IT (wst m1 37 21 (nI (c + 1))) l := ⟨by rw [wst_at, upd_o (by decide)]; exact (a2.it g).1, fun i hi => by rw [wst_o (by decide)]; exact (a2.it g).2 i hi⟩
    have c1 : wst m1 37 21 (nI (c + 1)) 37 21 = nI (c + 1) := by rw [wst_at, upd_at]
    have d1 : wst m1 37 21 (nI (c + 1)) 37 20 = m 37 20 := by rw [wst_at, upd_o (by decide), a2.2 20 (by omega)]
    generalize wst m1 37 21 (nI (c + 1)) = m2 at r1 f1 i1 c1 d1 ⊢
    obtain ⟨r, m3, b1, b2, b3⟩ := hung_s (w := 12) (hi := 99) hL hb (by decide) r1 (fun x13 m19 => bdw (f_X5_habitTold m19) fun x14 m20 => bdr (f_X5_item x1 x13 x14 m20) fun m21 => some m21)
    suffices H : ∃ m', (bdw (f_X5_habitTold m3) fun x14 m20 => bdr (f_X5_item x1 r x14 m20) fun m21 => some m21) = some m' ∧ Pf m3 m' ∧ m' 37 20 = m3 37 20 ∧ Ir b L (bnd (part b L 12 99 (t + 1)) fun t1 h => bnd (phab b L t1) fun t2 hb => (t2, some (c + 1, [(tk b L t, (if h = -1 then 0 else h), hb)]))) l m' by
      obtain ⟨m', y1, y2, y3, y4⟩ := H
      exact ⟨m', b1.trans y1, (f1.tr b2.pf).tr y2, by rw [y3, b2.2 20 (by omega), d1], y4⟩
    generalize part b L 12 99 (t + 1) = x at b3 ⊢
    obtain ⟨t1, o⟩ := x
    cases o with
    | none =>
      have b3 : RM b L t1 true m3 := b3
      obtain ⟨m4, e1, e2, e3, e4, e5, e6⟩ := item_s x1 r 0 hl b3 (b2.it i1)
      rw [habit_w b3, bdw_s, e1, bdr_s]
      exact ⟨m4, rfl, e2, e5, Ir_bnd e3⟩
    | some v =>
      obtain ⟨er, r3⟩ : r = abs0 v ∧ RM b L t1 false m3 := b3
      obtain ⟨hbv, m4, g1, g2, g3⟩ := habit_s hL hb r3
      rw [g1, bdw_s]
      show ∃ m', _ ∧ _ ∧ _ ∧ Ir b L (bnd (phab b L t1) fun t2 hb => (t2, some (c + 1, [(tk b L t, (if v = -1 then 0 else v), hb)]))) l m'
      generalize phab b L t1 = y at g3 ⊢
      obtain ⟨t2, o⟩ := y
      cases o with
      | none =>
        have g3 : RM b L t2 true m4 := g3
        obtain ⟨m5, e1, e2, e3, e4, e5, e6⟩ := item_s x1 r hbv hl g3 (g2.it (b2.it i1))
        rw [e1, bdr_s]
        exact ⟨m5, rfl, g2.pf.tr e2, by rw [e5, g2.2 20 (by omega)], Ir_bnd e3⟩
      | some w =>
        obtain ⟨ew, r4⟩ : hbv = id w ∧ RM b L t2 false m4 := g3
        obtain ⟨m5, e1, e2, e3, e4, e5, e6⟩ := item_s x1 r hbv hl r4 (g2.it (b2.it i1))
        rw [e1, bdr_s]
        refine ⟨m5, rfl, g2.pf.tr e2, by rw [e5, g2.2 20 (by omega)], e3, ?_, by rw [e6, g2.2 21 (by omega), b2.2 21 (by omega), c1]⟩
        rw [er, ew, ← e] at e4
        exact e4
  · rw [if_pos (show (8 : Int32) ≤ nI c from (le_nn (a := 8) (by decide) (by omega)).mpr (by omega)), if_neg q]
    obtain ⟨m1, a1, a2, a3⟩ := must_0 h
    rw [a1, bdr_s, lt_s_, a2.2 21 (by omega), hc, nI_1]
    have r1 : RM b L t true (wst m1 37 21 (nI (c + 1))) := RM_w a3 (by omega)
    have i1 : IT (wst m1 37 21 (nI (c + 1))) l := ⟨by rw [wst_at, upd_o (by decide)]; exact (a2.it g).1, fun i hi => by rw [wst_o (by decide)]; exact (a2.it g).2 i hi⟩
    obtain ⟨m4, e1, e2, e3, e4, e5, e6⟩ := item_s x1 0 0 hl r1 i1
    rw [nx_w r1, bdw_s, if_pos rfl, habit_w r1, bdw_s, e1, bdr_s]
    exact ⟨m4, rfl, (a2.pf.tr (Pf_w (by omega))).tr e2, by rw [e5, wst_at, upd_o (by decide), a2.2 20 (by omega)], e3⟩
theorem rItem_s {b : Nat → Int32} {L t c n : Nat} {m : MM} {l : List Act} (hL : L ≤ 120) (hb : ∀ i, i < L → bn (b i) 255) (hc : m 37 21 = nI c) (hc8 : c ≤ 8) (hn : m 37 20 = nI n) (h : RM b L t false m) (g : IT m l) (hl : l.length < 110) : ∃ m', f_X5_readItem m = some m' ∧ Pf m m' ∧ m' 37 20 = nI (n + 1) ∧ Ir b L (pitem b L t c) l m' := by
  unfold f_X5_readItem
  rw [kindTold_s hL h, bdr_s, lt_s_, hn, nI_1]
  have r1 : RM b L t false (wst m 37 20 (nI (n + 1))) := RM_w h (by omega)
  have f1 : Pf m (wst m 37 20 (nI (n + 1))) := Pf_w (by omega)
  have i1 : IT (wst m 37 20 (nI (n + 1))) l := ⟨by rw [wst_at, upd_o (by decide)]; exact g.1, fun i hi => by rw [wst_o (by decide)]; exact g.2 i hi⟩
  have c1 : wst m 37 20 (nI (n + 1)) 37 21 = nI c := by rw [wst_at, upd_o (by decide), hc]
  have d1 : wst m 37 20 (nI (n + 1)) 37 20 = nI (n + 1) := by rw [wst_at, upd_at]
  generalize wst m 37 20 (nI (n + 1)) = m1 at r1 f1 i1 c1 d1 ⊢
  suffices H : ∃ m', (if (if ¬ wi (tk b L t) 0 6 = 0 then tk b L t else -1) < 0 then (bdw (f_X5_isNext 7 m1) fun x2 m2 => if x2 = 0 then (bdw (f_X5_isNext 8 m2) fun x3 m3 => if x3 = 0 then (bdw (f_X5_isNext 9 m3) fun x4 m4 => if x4 = 0 then (bdw (f_X5_isNext 10 m4) fun x5 m5 => if x5 = 0 then (bdr (f_X5_isWord 11 m5) fun x6 => bdr (f_X5_must x6 m5) fun m6 => bdw (f_X5_number 0 9999 m6) fun x7 m7 => bdr (f_X5_item 21 x7 0 m7) fun m8 => some m8) else (bdw (f_X5_number 0 65535 m5) fun x8 m9 => bdr (f_X5_item 23 x8 0 m9) fun m10 => some m10)) else (bdw (f_X5_number 0 7 m4) fun x9 m11 => bdr (f_X5_item 22 x9 0 m11) fun m12 => some m12)) else (bdr (f_X5_shipTold m3) fun m13 => some m13)) else (bdw (f_X5_number 0 99 m2) fun x10 m14 => bdr (f_X5_item 10 x10 0 m14) fun m15 => some m15)) else (jn1 (fun (x11 : Int32) => bdr (f_X5_must x11 m1) fun m16 => lt_ (wst m16 37 21 ((m16 37 21) + 1)) fun m17 => bdw (f_X5_isNext 12 m17) fun x12 m18 => jn2 (fun (x13 : Int32) (m19 : MM) => bdw (f_X5_habitTold m19) fun x14 m20 => bdr (f_X5_item (if ¬ wi (tk b L t) 0 6 = 0 then tk b L t else -1) x13 x14 m20) fun m21 => some m21) fun k1 => if x12 = 0 then (k1 0 m18) else (bdw (f_X5_number 0 99 m18) fun x15 m22 => k1 x15 m22)) fun k2 => if 8 ≤ (m1 37 21) then (k2 0) else (k2 1))) = some m' ∧ Pf m1 m' ∧ m' 37 20 = m1 37 20 ∧ Ir b L (pitem b L t c) l m' by
    obtain ⟨m', y1, y2, y3, y4⟩ := H
    exact ⟨m', y1, f1.tr y2, by rw [y3, d1], y4⟩
  unfold pitem
  by_cases q : wi (tk b L t) 0 6 = 0
  · simp only [if_neg (not_not_intro q)]
    rw [if_pos (show (-1 : Int32) < 0 by decide)]
    by_cases q7 : tk b L t = 7
    · obtain ⟨m2, a1, a2, a3⟩ := nx_y (w := 7) hL hb (by decide) r1 q7
      rw [a1, bdw_s, if_neg (by decide), if_pos q7]
      exact one_s hL hb c1 a2 a3 q7 i1 (by omega)
    rw [nx_n (w := 7) hL (by decide) r1 q7, bdw_s, if_pos rfl, if_neg q7]
    by_cases q8 : tk b L t = 8
    · obtain ⟨m2, a1, a2, a3⟩ := nx_y (w := 8) hL hb (by decide) r1 q8
      obtain ⟨m3, b1, b2⟩ := ship_s hL hb c1 a2 a3 q8 i1 hl
      rw [a1, bdw_s, if_neg (by decide), if_pos q8, b1, bdr_s]
      exact ⟨m3, rfl, b2⟩
    rw [nx_n (w := 8) hL (by decide) r1 q8, bdw_s, if_pos rfl, if_neg q8]
    by_cases q9 : tk b L t = 9
    · obtain ⟨m2, a1, a2, a3⟩ := nx_y (w := 9) hL hb (by decide) r1 q9
      rw [a1, bdw_s, if_neg (by decide), if_pos q9]
      exact one_s hL hb c1 a2 a3 q9 i1 (by omega)
    rw [nx_n (w := 9) hL (by decide) r1 q9, bdw_s, if_pos rfl, if_neg q9]
    by_cases q10 : tk b L t = 10
    · obtain ⟨m2, a1, a2, a3⟩ := nx_y (w := 10) hL hb (by decide) r1 q10
      rw [a1, bdw_s, if_neg (by decide), if_pos q10]
      exact one_s hL hb c1 a2 a3 q10 i1 (by omega)
    rw [nx_n (w := 10) hL (by decide) r1 q10, bdw_s, if_pos rfl, if_neg q10, isWord_s (w := 11) (by decide) hL r1.1 r1.2.1, bdr_s]
    by_cases q11 : tk b L t = 11
    · obtain ⟨m2, a1, a2, a3⟩ := must_1 hL hb r1
      rw [decide_eq_true (show tk b L t = nI 11 from q11), show b01 true = 1 from rfl, a1, bdr_s, if_pos q11]
      exact one_s hL hb c1 a2 a3 q11 i1 (by omega)
    · obtain ⟨m2, a1, a2, a3⟩ := must_0 r1
      obtain ⟨r, m3, b1, b2, b3⟩ := num_w (lo := 0) (hi := 9999) a3
      obtain ⟨m4, e1, e2, e3, e4, e5, e6⟩ := item_s 21 r 0 (by omega) b3 ((a2.tr b2).it i1)
      rw [decide_eq_false (show ¬ tk b L t = nI 11 from q11), show b01 false = 0 from rfl, a1, bdr_s, b1, bdw_s, e1, bdr_s, if_neg q11]
      exact ⟨m4, rfl, (a2.tr b2).pf.tr e2, by rw [e5, b2.2 20 (by omega), a2.2 20 (by omega)], e3⟩
  · rw [if_pos q]
    obtain ⟨k, hk, ek⟩ := wi_n (N := 6) (by decide) q
    rw [if_neg (by rw [ek]; exact nI_pos (by omega)), if_pos q]
    exact cat_s hL hb c1 hc8 r1 rfl i1 (by omega)
