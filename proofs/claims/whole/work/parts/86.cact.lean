/-! ===== the class: an item done ===== -/
/-- all but the reader and the navy -/
def X19 (m m' : MM) : Prop := ∀ k, k ≠ 21 → ¬ (1 ≤ k ∧ k ≤ 9) → m' k = m k
theorem X21.n {m m' : MM} (h : X21 m m') : X19 m m' := fun k x _ => h k x
theorem X19.tr {a b c : MM} (h : X19 a b) (g : X19 b c) : X19 a c := fun k x y => (g k x y).trans (h k x y)
theorem X19_w {m : MM} {k i : Nat} {v : Int32} (h : 1 ≤ k ∧ k ≤ 9) : X19 m (wst m k i v) := fun q x y => wst_o (by omega)
/-- it ended well, and was done -/
def Cd (b : Nat → Int32) (L T : Nat) (x : Nat × Option (Nat × List Act)) (g : Nat → Int32) (m' : MM) : Prop := ∀ y, x.2 = some y → CS b L T x.1 false y.1 1 m' ∧ RN m' 1 (y.2.foldl ap g)
theorem sact_f (g : Nat → Int32) {P : Nat} (hP : P < 152) (v : Int32) : (sact P v).foldl ap g = if v = -1 then g else upd g P v := by
  unfold sact
  by_cases q : v = -1
  · rw [if_pos q, if_pos q]
    rfl
  · rw [if_neg q, if_neg q]
    exact ap_3 hP
theorem RN_6 {μ : MM} {g : Nat → Int32} {s : Nat} {v : Int32} (hs : s < 4) (hR : RN μ 1 g) : RN (wst μ 6 s v) 1 (upd g (116 + 3 * s + 1) v) := by
  have h1 : 1 + cl (116 + 3 * s + 1) = 6 := by
    unfold cl
    rw [if_neg (by omega), if_neg (by omega), if_neg (by omega), if_pos (by omega)]
    omega
  have h2 : ps (116 + 3 * s + 1) = s := by
    unfold ps
    repeat rw [if_neg (by omega)]
    rw [if_pos (by omega)]
    omega
  have := RN_upd (μ := μ) (b := 1) (i := 116 + 3 * s + 1) (by omega) v hR
  rw [h1, h2] at this
  exact this
theorem RN_7 {μ : MM} {g : Nat → Int32} {s : Nat} {v : Int32} (hs : s < 4) (hR : RN μ 1 g) : RN (wst μ 7 s v) 1 (upd g (116 + 3 * s + 2) v) := by
  have h1 : 1 + cl (116 + 3 * s + 2) = 7 := by
    unfold cl
    rw [if_neg (by omega), if_neg (by omega), if_neg (by omega), if_pos (by omega)]
    omega
  have h2 : ps (116 + 3 * s + 2) = s := by
    unfold ps
    repeat rw [if_neg (by omega)]
    rw [if_pos (by omega)]
    omega
  have := RN_upd (μ := μ) (b := 1) (i := 116 + 3 * s + 2) (by omega) v hR
  rw [h1, h2] at this
  exact this
theorem RN_8 {μ : MM} {g : Nat → Int32} {c : Nat} {v : Int32} (hc : c < 100) (hR : RN μ 1 g) : RN (wst μ 8 c v) 1 (upd g (16 + c) v) := by
  have h1 : 1 + cl (16 + c) = 8 := by
    unfold cl
    rw [if_neg (by omega), if_neg (by omega), if_pos (by omega)]
  have h2 : ps (16 + c) = c := by
    unfold ps
    repeat rw [if_neg (by omega)]
    rw [if_pos (by omega)]
    omega
  have := RN_upd (μ := μ) (b := 1) (i := 16 + c) (by omega) v hR
  rw [h1, h2] at this
  exact this
theorem cat_x1 {b : Nat → Int32} {L T t c k : Nat} {g : Nat → Int32} {m : MM} (hL : L ≤ 120) (hT : isT b L T) (h : CS b L T t false c 1 m) (hR : RN m 1 g) (hV : VN g c) (hk : k ≤ 6) (e : tk b L t = nI k) (hs : ∃ y, (pcat b L t c).2 = some y) : ∃ m', f_X1_readCat (nI k) m = some m' ∧ X19 m m' ∧ Cd b L T (pcat b L t c) g m' := by
  have hc := hV.1
  unfold f_X1_readCat pcat
  unfold pcat at hs
  rw [h.2.2.2.2.1]
  by_cases q : c < 8
  · rw [if_pos q] at hs
    rw [if_pos (show nI c < 8 from (lt_n (b := 8) (by omega) (by decide)).mpr q), if_pos q]
    obtain ⟨m1, a1, a2, a3⟩ := adv_x hL hT h (lt_T hT h.2.1 (w_20 (show k < 17 by omega) e))
    obtain ⟨r, m2, b1, b2, b3⟩ := rp_x (w := 12) (hi := 99) hL hT (by decide) a3
    rw [a1, bdr_s, show (12 : Int32) = nI 12 from rfl, b1, bdw_s]
    generalize part b L 12 99 (t + 1) = x at b3 hs ⊢
    obtain ⟨t1, o⟩ := x
    cases o with
    | none =>
      obtain ⟨y, hy⟩ := hs
      cases hy
    | some v =>
      obtain ⟨rfl, r3⟩ : r = v ∧ CS b L T t1 false c 1 m2 := b3
      obtain ⟨hb, m3, d1, d2, d3⟩ := rh_x hL hT r3
      rw [d1, bdw_s, lt_s_]
      have hs : ∃ y, (bnd (phab b L t1) fun t2 hb => (t2, some (c + 1, [(tk b L t, (if r = -1 then 0 else r), hb)]))).2 = some y := hs
      show ∃ m', _ ∧ _ ∧ Cd b L T (bnd (phab b L t1) fun t2 hb => (t2, some (c + 1, [(tk b L t, (if r = -1 then 0 else r), hb)]))) g m'
      generalize phab b L t1 = y at d3 hs ⊢
      obtain ⟨t2, o⟩ := y
      cases o with
      | none =>
        obtain ⟨y, hy⟩ := hs
        cases hy
      | some w =>
        obtain ⟨rfl, r4⟩ : hb = w ∧ CS b L T t2 false c 1 m3 := d3
        have c4 := CS_7 r4
        have x4 : X21 m (wst m3 21 7 (m3 21 7 + 1)) := ((a2.tr b2).tr d2).tr X21_w
        have R4 := x4.rn hR
        generalize wst m3 21 7 (m3 21 7 + 1) = m4 at c4 x4 R4 ⊢
        rw [c4.2.2.2.2.2, if_neg (by decide), c4.2.2.2.1, if_pos (show b01 false = 0 by decide)]
        have e10 : m4 1 0 = nI c := by rw [(R4.num).1, hV.cats]
        have ad : ∀ v, f_X0_addCat (nI k) v hb m4 = some (nI (c + 1) - 1, wst (wst (wst (wst m4 2 c (nI k)) 3 c v) 4 c hb) 1 0 (nI (c + 1))) := fun v => by
          unfold f_X0_addCat
          rw [e10, if_pos (show nI c < 8 from (lt_n (b := 8) (by omega) (by decide)).mpr q), sti_n (n := 8) (j := c) q (by decide), wst_o (show (1 : Nat) ≠ 2 by decide), e10, sti_n (n := 8) (j := c) q (by decide), wst_o (show (1 : Nat) ≠ 3 by decide), wst_o (show (1 : Nat) ≠ 2 by decide), e10, sti_n (n := 8) (j := c) q (by decide), lt_s_, wst_o (show (1 : Nat) ≠ 4 by decide), wst_o (show (1 : Nat) ≠ 3 by decide), wst_o (show (1 : Nat) ≠ 2 by decide), e10, nI_1, wst_at, upd_at]
        have ec : (if r = -1 then (bdw (f_X0_addCat (nI k) 0 hb m4) fun x4 m6 => some m6) else (bdw (f_X0_addCat (nI k) r hb m4) fun x3 m5 => some m5)) = some (wst (wst (wst (wst m4 2 c (nI k)) 3 c (if r = -1 then 0 else r)) 4 c hb) 1 0 (nI (c + 1))) := by
          by_cases y : r = -1
          · rw [if_pos y, if_pos y, ad, bdw_s]
          · rw [if_neg y, if_neg y, ad, bdw_s]
        rw [ec]
        obtain ⟨z1, z2, z3, z4, z5, z6⟩ := cl_k c
        have w1 := RN_upd (i := 128 + 3 * c) (by omega) (nI k) R4
        rw [z1, z2] at w1
        have w2 := RN_upd (i := 128 + 3 * c + 1) (by omega) (if r = -1 then 0 else r) w1
        rw [z3, z4] at w2
        have w3 := RN_upd (i := 128 + 3 * c + 2) (by omega) hb w2
        rw [z5, z6] at w3
        have w4 := RN_upd (i := 4) (by omega) (nI (c + 1)) w3
        refine ⟨_, rfl, (((x4.n.tr (X19_w (by omega))).tr (X19_w (by omega))).tr (X19_w (by omega))).tr (X19_w (by omega)), fun y hy => ?_⟩
        have hy := Option.some.inj hy
        subst hy
        refine ⟨CS_fr c4 (fun k x y => by rw [wst_o (by omega), wst_o (by omega), wst_o (by omega), wst_o (by omega)]), ?_⟩
        show RN _ 1 (ap g (tk b L t, (if r = -1 then 0 else r), hb))
        rw [ap_1 (x := (tk b L t, (if r = -1 then 0 else r), hb)) hV.cats q hk e]
        rw [← e] at w4 ⊢
        exact w4
  · rw [if_neg q] at hs
    obtain ⟨y, hy⟩ := hs
    cases hy
theorem isl_x1 {b : Nat → Int32} {L T t c : Nat} {g : Nat → Int32} {m : MM} (hL : L ≤ 120) (hT : isT b L T) (h : CS b L T t false c 1 m) (hR : RN m 1 g) (e : tk b L t = nI 7) (hs : ∃ y, (pone b L 7 99 10 t c).2 = some y) : ∃ m', f_X1_readIsland m = some m' ∧ X19 m m' ∧ Cd b L T (pone b L 7 99 10 t c) g m' := by
  obtain ⟨r, m1, a1, a2, a3⟩ := rp_x (w := 7) (hi := 99) hL hT (by decide) h
  have hb := part_b (w := 7) (hi := 99) hT h.2.1 (by decide)
  unfold f_X1_readIsland
  unfold pone at hs ⊢
  rw [show (7 : Int32) = nI 7 from rfl, a1, bdw_s]
  generalize part b L 7 99 t = x at a3 hs hb ⊢
  obtain ⟨t1, o⟩ := x
  cases o with
  | none =>
    obtain ⟨y, hy⟩ := hs
    cases hy
  | some v =>
    obtain ⟨rfl, r3⟩ : r = v ∧ CS b L T t1 false c 1 m1 := a3
    obtain ⟨h1, h2⟩ : t1 ≤ T ∧ ((r = -1 ∧ t1 = t ∧ ¬ tk b L t = nI 7) ∨ (t1 = t + 2 ∧ tk b L t = nI 7 ∧ pn b L 99 (t + 1) = true ∧ r = nv b L (t + 1))) := hb
    rcases h2 with ⟨_, _, z⟩ | ⟨_, _, h4, h5⟩
    · exact absurd e z
    obtain ⟨k, hk, ek⟩ := pn_hi hL (show (99 : Int32) = nI 99 from rfl) (by decide) h4
    have er : r = nI k := h5.trans ek
    rw [r3.2.2.2.2.2, if_neg (by decide), er, xCell, bdr_s, if_neg (show ¬ wi (nI k) 0 99 = 0 from wi_y (N := 99) rfl (by decide) hk rfl), stz_n (show k < 100 by omega) (by decide)]
    refine ⟨_, rfl, a2.n.tr (X19_w (by omega)), fun y hy => ?_⟩
    have hy := Option.some.inj hy
    subst hy
    refine ⟨CS_fr r3 (fun k x y => by rw [wst_o (by omega)]), ?_⟩
    show RN _ 1 (ap g (10, nI k, 0))
    rw [ap_2 (by omega)]
    exact RN_8 (by omega) (a2.rn hR)
theorem set_x1 {b : Nat → Int32} {L T t c w : Nat} {p hi pl : Int32} {m : MM} (hL : L ≤ 120) (hT : isT b L T) (hw : w < 17) (h : CS b L T t false c 1 m) (e : tk b L t = nI w) (hs : ∃ y, (pone b L w hi pl t c).2 = some y) : ∃ m' v, f_X1_readSetting p hi m = some (v, m') ∧ X21 m m' ∧ CS b L T (t + 2) false c 1 m' ∧ pone b L w hi pl t c = (t + 2, some (c, [(pl, v, 0)])) := by
  obtain ⟨m1, a1, a2, a3⟩ := adv_x hL hT h (lt_T hT h.2.1 (w_20 hw e))
  unfold f_X1_readSetting
  unfold pone part at hs ⊢
  rw [if_pos e] at hs
  rw [a1, bdr_s, if_pos e]
  cases q2 : pn b L hi (t + 1) with
  | true =>
    obtain ⟨m2, b1, b2, b3⟩ := tn_ok hL hT a3 q2
    rw [b1, bdw_s, b3.2.2.2.2.2, if_neg (by decide), b3.2.2.2.1, if_pos (show b01 false = 0 by decide), if_pos rfl]
    exact ⟨m2, _, rfl, a2.tr b2, b3, rfl⟩
  | false =>
    rw [q2, if_neg (by decide)] at hs
    obtain ⟨y, hy⟩ := hs
    cases hy
theorem ship_x1 {b : Nat → Int32} {L T t c : Nat} {g : Nat → Int32} {m : MM} (hL : L ≤ 120) (hT : isT b L T) (h : CS b L T t false c 1 m) (hR : RN m 1 g) (hc : c ≤ 8) (e : tk b L t = nI 8) (hs : ∃ y, (pship b L t c).2 = some y) : ∃ m', f_X1_readShip m = some m' ∧ X19 m m' ∧ Cd b L T (pship b L t c) g m' := by
  obtain ⟨r, m1, a1, a2, a3⟩ := rp_x (w := 8) (hi := 3) hL hT (by decide) h
  have hb := part_b (w := 8) (hi := 3) hT h.2.1 (by decide)
  unfold f_X1_readShip
  unfold pship at hs ⊢
  rw [show (8 : Int32) = nI 8 from rfl, a1, bdw_s]
  generalize part b L 8 3 t = x at a3 hs hb ⊢
  obtain ⟨t1, o⟩ := x
  cases o with
  | none =>
    obtain ⟨y, hy⟩ := hs
    cases hy
  | some v =>
    obtain ⟨rfl, r1⟩ : r = v ∧ CS b L T t1 false c 1 m1 := a3
    obtain ⟨h1, h2⟩ : t1 ≤ T ∧ ((r = -1 ∧ t1 = t ∧ ¬ tk b L t = nI 8) ∨ (t1 = t + 2 ∧ tk b L t = nI 8 ∧ pn b L 3 (t + 1) = true ∧ r = nv b L (t + 1))) := hb
    rcases h2 with ⟨_, _, z⟩ | ⟨_, _, h4, h5⟩
    · exact absurd e z
    obtain ⟨s, hs3, es⟩ := pn_hi hL (show (3 : Int32) = nI 3 from rfl) (by decide) h4
    have er : r = nI s := h5.trans es
    have hs4 : s < 4 := by omega
    have ecl : r.toNatClampNeg = s := by rw [er, nI_clamp (by omega)]
    obtain ⟨x, m2, b1, b2, b3⟩ := rp_x (w := 14) (hi := 99) hL hT (by decide) r1
    rw [show (14 : Int32) = nI 14 from rfl, b1, bdw_s]
    have hs : ∃ y, (bnd (part b L 14 99 t1) fun t2 x => bnd (part b L 15 31 t2) fun t3 y => bnd (part b L 16 (sl 1 (nI c) - 1) t3) fun t4 z => (t4, some (c, sact (116 + 3 * r.toNatClampNeg) x ++ sact (116 + 3 * r.toNatClampNeg + 1) y ++ sact (116 + 3 * r.toNatClampNeg + 2) z))).2 = some y := hs
    show ∃ m', _ ∧ _ ∧ Cd b L T (bnd (part b L 14 99 t1) fun t2 x => bnd (part b L 15 31 t2) fun t3 y => bnd (part b L 16 (sl 1 (nI c) - 1) t3) fun t4 z => (t4, some (c, sact (116 + 3 * r.toNatClampNeg) x ++ sact (116 + 3 * r.toNatClampNeg + 1) y ++ sact (116 + 3 * r.toNatClampNeg + 2) z))) g m'
    rw [ecl] at hs ⊢
    generalize part b L 14 99 t1 = y at b3 hs ⊢
    obtain ⟨t2, o⟩ := y
    cases o with
    | none =>
      obtain ⟨y, hy⟩ := hs
      cases hy
    | some x' =>
      obtain ⟨rfl, r2⟩ : x = x' ∧ CS b L T t2 false c 1 m2 := b3
      obtain ⟨y, m3, c1, c2, c3⟩ := rp_x (w := 15) (hi := 31) hL hT (by decide) r2
      rw [show (15 : Int32) = nI 15 from rfl, c1, bdw_s]
      have hs : ∃ y, (bnd (part b L 15 31 t2) fun t3 y => bnd (part b L 16 (sl 1 (nI c) - 1) t3) fun t4 z => (t4, some (c, sact (116 + 3 * s) x ++ sact (116 + 3 * s + 1) y ++ sact (116 + 3 * s + 2) z))).2 = some y := hs
      show ∃ m', _ ∧ _ ∧ Cd b L T (bnd (part b L 15 31 t2) fun t3 y => bnd (part b L 16 (sl 1 (nI c) - 1) t3) fun t4 z => (t4, some (c, sact (116 + 3 * s) x ++ sact (116 + 3 * s + 1) y ++ sact (116 + 3 * s + 2) z))) g m'
      generalize part b L 15 31 t2 = yy at c3 hs ⊢
      obtain ⟨t3, o⟩ := yy
      cases o with
      | none =>
        obtain ⟨y, hy⟩ := hs
        cases hy
      | some y' =>
        obtain ⟨rfl, r3⟩ : y = y' ∧ CS b L T t3 false c 1 m3 := c3
        obtain ⟨z, m4, d1, d2, d3⟩ := rp_x (w := 16) (hi := sl 1 (nI c) - 1) hL hT (by decide) r3
        rw [r3.2.2.2.2.1, show (16 : Int32) = nI 16 from rfl, d1, bdw_s]
        have hs : ∃ w, (bnd (part b L 16 (sl 1 (nI c) - 1) t3) fun t4 z => (t4, some (c, sact (116 + 3 * s) x ++ sact (116 + 3 * s + 1) y ++ sact (116 + 3 * s + 2) z))).2 = some w := hs
        show ∃ m', _ ∧ _ ∧ Cd b L T (bnd (part b L 16 (sl 1 (nI c) - 1) t3) fun t4 z => (t4, some (c, sact (116 + 3 * s) x ++ sact (116 + 3 * s + 1) y ++ sact (116 + 3 * s + 2) z))) g m'
        generalize part b L 16 (sl 1 (nI c) - 1) t3 = zz at d3 hs ⊢
        obtain ⟨t4, o⟩ := zz
        cases o with
        | none =>
          obtain ⟨y, hy⟩ := hs
          cases hy
        | some z' =>
          obtain ⟨rfl, r4⟩ : z = z' ∧ CS b L T t4 false c 1 m4 := d3
          have x4 : X21 m m4 := ((a2.tr b2).tr c2).tr d2
          have R4 := x4.rn hR
          have sh : ∀ p, p = nI s → f_X4_isShip p = some (wi (nI s) 0 3) := fun p hp => by rw [hp, xShip]
          rw [r4.2.2.2.2.2, if_neg (by decide), r4.2.2.2.1, if_pos (show b01 false = 0 by decide), sh r er, bdr_s, if_neg (show ¬ wi (nI s) 0 3 = 0 from wi_y (N := 3) rfl (by decide) hs3 rfl), er]
          simp only [jn1_s]
          have e5 : ∀ (F : MM → Option MM), (if x = -1 then (ldi m4 5 4 (nI s) fun x10 => sti m4 5 4 (nI s) x10 F) else sti m4 5 4 (nI s) x F) = F (wst m4 5 s (if x = -1 then m4 5 s else x)) := fun F => by
            by_cases q : x = -1
            · rw [if_pos q, if_pos q, ldi_n hs4 (by decide), sti_n (n := 4) (j := s) hs4 (by decide)]
            · rw [if_neg q, if_neg q, sti_n (n := 4) (j := s) hs4 (by decide)]
          have e6 : ∀ (m5 : MM) (F : MM → Option MM), (if y = -1 then (ldi m5 6 4 (nI s) fun x10 => sti m5 6 4 (nI s) x10 F) else sti m5 6 4 (nI s) y F) = F (wst m5 6 s (if y = -1 then m5 6 s else y)) := fun m5 F => by
            by_cases q : y = -1
            · rw [if_pos q, if_pos q, ldi_n hs4 (by decide), sti_n (n := 4) (j := s) hs4 (by decide)]
            · rw [if_neg q, if_neg q, sti_n (n := 4) (j := s) hs4 (by decide)]
          have e7 : ∀ (m6 : MM), (if z = -1 then (ldi m6 7 4 (nI s) fun x8 => sti m6 7 4 (nI s) x8 fun m8 => some m8) else sti m6 7 4 (nI s) z fun m7 => some m7) = some (wst m6 7 s (if z = -1 then m6 7 s else z)) := fun m6 => by
            by_cases q : z = -1
            · rw [if_pos q, if_pos q, ldi_n hs4 (by decide), sti_n (n := 4) (j := s) hs4 (by decide)]
            · rw [if_neg q, if_neg q, sti_n (n := 4) (j := s) hs4 (by decide)]
          rw [e5]
          simp only [e6, e7]
          refine ⟨_, rfl, ((x4.n.tr (X19_w (by omega))).tr (X19_w (by omega))).tr (X19_w (by omega)), fun w hw => ?_⟩
          have hw := Option.some.inj hw
          subst hw
          refine ⟨CS_fr r4 (fun k x y => by rw [wst_o (by omega), wst_o (by omega), wst_o (by omega)]), ?_⟩
          show RN _ 1 (List.foldl ap g (sact (116 + 3 * s) x ++ sact (116 + 3 * s + 1) y ++ sact (116 + 3 * s + 2) z))
          rw [List.foldl_append, List.foldl_append, sact_f _ (by omega), sact_f _ (by omega), sact_f _ (by omega)]
          have k5 : RN (wst m4 5 s (if x = -1 then m4 5 s else x)) 1 (if x = -1 then g else upd g (116 + 3 * s) x) := by
            by_cases q : x = -1
            · rw [if_pos q, if_pos q, wst_sf rfl]
              exact R4
            · rw [if_neg q, if_neg q]
              exact RN_5 hs4 R4
          generalize wst m4 5 s (if x = -1 then m4 5 s else x) = m5 at k5 ⊢
          generalize (if x = -1 then g else upd g (116 + 3 * s) x) = g5 at k5 ⊢
          have k6 : RN (wst m5 6 s (if y = -1 then m5 6 s else y)) 1 (if y = -1 then g5 else upd g5 (116 + 3 * s + 1) y) := by
            by_cases q : y = -1
            · rw [if_pos q, if_pos q, wst_sf rfl]
              exact k5
            · rw [if_neg q, if_neg q]
              exact RN_6 hs4 k5
          generalize wst m5 6 s (if y = -1 then m5 6 s else y) = m6 at k6 ⊢
          generalize (if y = -1 then g5 else upd g5 (116 + 3 * s + 1) y) = g6 at k6 ⊢
          by_cases q : z = -1
          · rw [if_pos q, if_pos q, wst_sf rfl]
            exact k6
          · rw [if_neg q, if_neg q]
            exact RN_7 hs4 k6
theorem item_x1 {b : Nat → Int32} {L T t c : Nat} {g : Nat → Int32} {m : MM} (hL : L ≤ 120) (hT : isT b L T) (h : CS b L T t false c 1 m) (hR : RN m 1 g) (hV : VN g c) (hs : ∃ y, (pitem b L t c).2 = some y) : ∃ m', f_X1_readItem m = some m' ∧ X19 m m' ∧ Cd b L T (pitem b L t c) g m' := by
  unfold f_X1_readItem
  rw [tok_x hL hT h, xKind, bdr_s]
  unfold pitem at hs ⊢
  by_cases q : wi (tk b L t) 0 6 = 0
  · rw [if_neg (not_not_intro q)] at hs
    rw [if_pos q, if_neg (not_not_intro q)]
    by_cases q7 : tk b L t = 7
    · rw [if_pos q7] at hs
      obtain ⟨m1, a1, a2, a3⟩ := isl_x1 hL hT h hR q7 hs
      rw [if_pos q7, if_pos q7, a1, bdr_s]
      exact ⟨m1, rfl, a2, a3⟩
    rw [if_neg q7] at hs
    rw [if_neg q7, if_neg q7]
    by_cases q8 : tk b L t = 8
    · rw [if_pos q8] at hs
      obtain ⟨m1, a1, a2, a3⟩ := ship_x1 hL hT h hR hV.1 q8 hs
      rw [if_pos q8, if_pos q8, a1, bdr_s]
      exact ⟨m1, rfl, a2, a3⟩
    rw [if_neg q8] at hs
    rw [if_neg q8, if_neg q8]
    have done : ∀ {w : Nat} {hi pl : Int32} {P i : Nat} {v : Int32} {m1 : MM}, X21 m m1 → CS b L T (t + 2) false c 1 m1 → pone b L w hi pl t c = (t + 2, some (c, [(pl, v, 0)])) → pl = nI (20 + P) → P < 152 → 1 + cl P = 1 → ps P = i → X19 m (wst m1 1 i v) ∧ Cd b L T (pone b L w hi pl t c) g (wst m1 1 i v) := fun {w hi pl P i v m1} x1 c1 ep epl hP hcl hps => by
      refine ⟨x1.n.tr (X19_w (by omega)), fun y hy => ?_⟩
      rw [ep] at hy
      have hy := Option.some.inj hy
      subst hy
      rw [ep]
      refine ⟨CS_fr c1 (fun k x y => by rw [wst_o (by omega)]), ?_⟩
      show RN _ 1 (ap g (pl, v, 0))
      rw [epl, ap_3 hP]
      have := RN_upd (b := 1) hP v (x1.rn hR)
      rw [hcl, hps] at this
      exact this
    by_cases q9 : tk b L t = 9
    · rw [if_pos q9] at hs
      obtain ⟨m1, v, a1, a2, a3, a4⟩ := set_x1 (w := 9) (p := m 1 8) (hi := 7) (pl := 22) hL hT (by decide) h q9 hs
      rw [if_pos q9, if_pos q9, a1, bdw_s, lt_s_]
      exact ⟨_, rfl, done (P := 2) a2 a3 a4 rfl (by decide) (by decide) (by decide)⟩
    rw [if_neg q9] at hs
    rw [if_neg q9, if_neg q9]
    by_cases q10 : tk b L t = 10
    · rw [if_pos q10] at hs
      obtain ⟨m1, v, a1, a2, a3, a4⟩ := set_x1 (w := 10) (p := m 1 9) (hi := 65535) (pl := 23) hL hT (by decide) h q10 hs
      rw [if_pos q10, if_pos q10, a1, bdw_s, lt_s_]
      exact ⟨_, rfl, done (P := 3) a2 a3 a4 rfl (by decide) (by decide) (by decide)⟩
    rw [if_neg q10] at hs
    rw [if_neg q10, if_neg q10]
    by_cases q11 : tk b L t = 11
    · rw [if_pos q11] at hs
      obtain ⟨m1, v, a1, a2, a3, a4⟩ := set_x1 (w := 11) (p := m 1 10) (hi := 9999) (pl := 21) hL hT (by decide) h q11 hs
      rw [if_pos q11, if_pos q11, a1, bdw_s, lt_s_]
      exact ⟨_, rfl, done (P := 1) a2 a3 a4 rfl (by decide) (by decide) (by decide)⟩
    rw [if_neg q11] at hs
    obtain ⟨y, hy⟩ := hs
    cases hy
  · rw [if_pos q] at hs
    obtain ⟨k, hk, ek⟩ := wi_n (N := 6) (by decide) q
    obtain ⟨m1, a1, a2, a3⟩ := cat_x1 hL hT h hR hV hk ek hs
    rw [if_neg q, if_pos q]
    rw [← ek] at a1
    rw [a1, bdr_s]
    exact ⟨m1, rfl, a2, a3⟩
