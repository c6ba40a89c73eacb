/-! ===== the class: an item, looked at only ===== -/
def Cr (b : Nat → Int32) (L T : Nat) (x : Nat × Option (Nat × List Act)) (m' : MM) : Prop := match x.2 with
  | none => ∃ c', CS b L T x.1 true c' 0 m'
  | some y => CS b L T x.1 false y.1 0 m'
theorem CS_7 {b : Nat → Int32} {L T t c : Nat} {w : Bool} {a : Int32} {m : MM} (h : CS b L T t w c a m) : CS b L T t w (c + 1) a (wst m 21 7 (m 21 7 + 1)) := by
  obtain ⟨h1, h2, h3, h4, h5, h6⟩ := h
  exact ⟨CT_w h1 (by decide), h2, by rw [wst_at, upd_o (by decide), h3], by rw [wst_at, upd_o (by decide), h4], by rw [wst_at, upd_at, h5, nI_1], by rw [wst_at, upd_o (by decide), h6]⟩
theorem cat_x0 {b : Nat → Int32} {L T t c k : Nat} {m : MM} (hL : L ≤ 120) (hT : isT b L T) (h : CS b L T t false c 0 m) (hc : c ≤ 8) (hk : k ≤ 6) (e : tk b L t = nI k) : ∃ m', f_X1_readCat (nI k) m = some m' ∧ X21 m m' ∧ Cr b L T (pcat b L t c) m' := by
  unfold f_X1_readCat pcat
  rw [h.2.2.2.2.1]
  by_cases q : c < 8
  · rw [if_pos (show nI c < 8 from (lt_n (b := 8) (by omega) (by decide)).mpr q), if_pos q]
    obtain ⟨m1, a1, a2, a3⟩ := adv_x hL hT h (lt_T hT h.2.1 (w_20 (show k < 17 by omega) e))
    obtain ⟨r, m2, b1, b2, b3⟩ := rp_x (w := 12) (hi := 99) hL hT (by decide) a3
    rw [a1, bdr_s, show (12 : Int32) = nI 12 from rfl, b1, bdw_s]
    generalize part b L 12 99 (t + 1) = x at b3 ⊢
    obtain ⟨t1, o⟩ := x
    cases o with
    | none =>
      have b3 : CS b L T t1 true c 0 m2 := b3
      have c4 := CS_7 b3
      rw [rh_w b3, bdw_s, lt_s_, c4.2.2.2.2.2, if_pos rfl]
      exact ⟨_, rfl, (a2.tr b2).tr X21_w, c + 1, c4⟩
    | some v =>
      obtain ⟨_, r3⟩ : r = v ∧ CS b L T t1 false c 0 m2 := b3
      obtain ⟨hb, m3, d1, d2, d3⟩ := rh_x hL hT r3
      rw [d1, bdw_s, lt_s_]
      show ∃ m', _ ∧ _ ∧ Cr b L T (bnd (phab b L t1) fun t2 hb => (t2, some (c + 1, [(tk b L t, (if v = -1 then 0 else v), hb)]))) m'
      generalize phab b L t1 = y at d3 ⊢
      obtain ⟨t2, o⟩ := y
      cases o with
      | none =>
        have c4 := CS_7 (show CS b L T t2 true c 0 m3 from d3)
        rw [c4.2.2.2.2.2, if_pos rfl]
        exact ⟨_, rfl, ((a2.tr b2).tr d2).tr X21_w, c + 1, c4⟩
      | some w =>
        have c4 := CS_7 (show CS b L T t2 false c 0 m3 from (show hb = w ∧ CS b L T t2 false c 0 m3 from d3).2)
        rw [c4.2.2.2.2.2, if_pos rfl]
        exact ⟨_, rfl, ((a2.tr b2).tr d2).tr X21_w, c4⟩
  · rw [if_neg (show ¬ nI c < 8 from fun z => q ((lt_n (b := 8) (by omega) (by decide)).mp z)), if_neg q, gd_t (Or.inr rfl), lt_s_]
    exact ⟨_, rfl, X21_w, c, CS_6 h⟩
theorem one_x0 {b : Nat → Int32} {L T t c w : Nat} {hi pl r : Int32} {m m1 : MM} (hx : X21 m m1) (hv : Cv b L T c 0 (part b L w hi t) r m1) : Cr b L T (pone b L w hi pl t c) m1 := by
  unfold pone
  generalize part b L w hi t = x at hv ⊢
  obtain ⟨t1, o⟩ := x
  cases o with
  | none => exact ⟨c, hv⟩
  | some v => exact (show r = v ∧ CS b L T t1 false c 0 m1 from hv).2
theorem isl_x0 {b : Nat → Int32} {L T t c : Nat} {m : MM} (hL : L ≤ 120) (hT : isT b L T) (h : CS b L T t false c 0 m) : ∃ m', f_X1_readIsland m = some m' ∧ X21 m m' ∧ Cr b L T (pone b L 7 99 10 t c) m' := by
  obtain ⟨r, m1, a1, a2, a3⟩ := rp_x (w := 7) (hi := 99) hL hT (by decide) h
  have e5 : m1 21 5 = 0 := by
    generalize part b L 7 99 t = x at a3
    obtain ⟨t1, o⟩ := x
    cases o with
    | none => exact (show CS b L T t1 true c 0 m1 from a3).2.2.2.2.2
    | some v => exact (show r = v ∧ CS b L T t1 false c 0 m1 from a3).2.2.2.2.2.2
  unfold f_X1_readIsland
  rw [show (7 : Int32) = nI 7 from rfl, a1, bdw_s, e5, if_pos rfl]
  exact ⟨m1, rfl, a2, one_x0 a2 a3⟩
theorem set_x0 {b : Nat → Int32} {L T t c w : Nat} {p hi pl : Int32} {m : MM} (hL : L ≤ 120) (hT : isT b L T) (hw : w < 17) (h : CS b L T t false c 0 m) (e : tk b L t = nI w) : ∃ m', f_X1_readSetting p hi m = some (p, m') ∧ X21 m m' ∧ Cr b L T (pone b L w hi pl t c) m' := by
  obtain ⟨m1, a1, a2, a3⟩ := adv_x hL hT h (lt_T hT h.2.1 (w_20 hw e))
  unfold f_X1_readSetting pone part
  rw [a1, bdr_s, if_pos e]
  cases q2 : pn b L hi (t + 1) with
  | true =>
    obtain ⟨m2, b1, b2, b3⟩ := tn_ok hL hT a3 q2
    rw [b1, bdw_s, b3.2.2.2.2.2, if_pos rfl, if_pos rfl]
    exact ⟨m2, rfl, a2.tr b2, b3⟩
  | false =>
    obtain ⟨m2, b1, b2, b3⟩ := tn_no hL hT a3 q2
    rw [b1, bdw_s, b3.2.2.2.2.2, if_pos rfl, if_neg (by decide)]
    exact ⟨m2, rfl, a2.tr b2, c, b3⟩
theorem ship_x0 {b : Nat → Int32} {L T t c : Nat} {m : MM} (hL : L ≤ 120) (hT : isT b L T) (h : CS b L T t false c 0 m) : ∃ m', f_X1_readShip m = some m' ∧ X21 m m' ∧ Cr b L T (pship b L t c) m' := by
  obtain ⟨r, m1, a1, a2, a3⟩ := rp_x (w := 8) (hi := 3) hL hT (by decide) h
  unfold f_X1_readShip pship
  rw [show (8 : Int32) = nI 8 from rfl, a1, bdw_s]
  generalize part b L 8 3 t = x at a3 ⊢
  obtain ⟨t1, o⟩ := x
  cases o with
  | none =>
    have a3 : CS b L T t1 true c 0 m1 := a3
    rw [rp_w a3, bdw_s, rp_w a3, bdw_s, rp_w a3, bdw_s, a3.2.2.2.2.2, if_pos rfl]
    exact ⟨m1, rfl, a2, c, a3⟩
  | some v =>
    obtain ⟨_, r1⟩ : r = v ∧ CS b L T t1 false c 0 m1 := a3
    obtain ⟨x, m2, b1, b2, b3⟩ := rp_x (w := 14) (hi := 99) hL hT (by decide) r1
    rw [show (14 : Int32) = nI 14 from rfl, b1, bdw_s]
    show ∃ m', _ ∧ _ ∧ Cr b L T (bnd (part b L 14 99 t1) fun t2 x => bnd (part b L 15 31 t2) fun t3 y => bnd (part b L 16 (sl 1 (nI c) - 1) t3) fun t4 z => (t4, some (c, sact (116 + 3 * v.toNatClampNeg) x ++ sact (116 + 3 * v.toNatClampNeg + 1) y ++ sact (116 + 3 * v.toNatClampNeg + 2) z))) m'
    generalize part b L 14 99 t1 = y at b3 ⊢
    obtain ⟨t2, o⟩ := y
    cases o with
    | none =>
      have b3 : CS b L T t2 true c 0 m2 := b3
      rw [rp_w b3, bdw_s, rp_w b3, bdw_s, b3.2.2.2.2.2, if_pos rfl]
      exact ⟨m2, rfl, a2.tr b2, c, b3⟩
    | some x' =>
      obtain ⟨_, r2⟩ : x = x' ∧ CS b L T t2 false c 0 m2 := b3
      obtain ⟨y, m3, c1, c2, c3⟩ := rp_x (w := 15) (hi := 31) hL hT (by decide) r2
      rw [show (15 : Int32) = nI 15 from rfl, c1, bdw_s]
      show ∃ m', _ ∧ _ ∧ Cr b L T (bnd (part b L 15 31 t2) fun t3 y => bnd (part b L 16 (sl 1 (nI c) - 1) t3) fun t4 z => (t4, some (c, sact (116 + 3 * v.toNatClampNeg) x' ++ sact (116 + 3 * v.toNatClampNeg + 1) y ++ sact (116 + 3 * v.toNatClampNeg + 2) z))) m'
      generalize part b L 15 31 t2 = yy at c3 ⊢
      obtain ⟨t3, o⟩ := yy
      cases o with
      | none =>
        have c3 : CS b L T t3 true c 0 m3 := c3
        rw [rp_w c3, bdw_s, c3.2.2.2.2.2, if_pos rfl]
        exact ⟨m3, rfl, (a2.tr b2).tr c2, c, c3⟩
      | some y' =>
        obtain ⟨_, r3⟩ : y = y' ∧ CS b L T t3 false c 0 m3 := c3
        obtain ⟨z, m4, d1, d2, d3⟩ := rp_x (w := 16) (hi := sl 1 (nI c) - 1) hL hT (by decide) r3
        rw [r3.2.2.2.2.1, show (16 : Int32) = nI 16 from rfl, d1, bdw_s]
        show ∃ m', _ ∧ _ ∧ Cr b L T (bnd (part b L 16 (sl 1 (nI c) - 1) t3) fun t4 z => (t4, some (c, sact (116 + 3 * v.toNatClampNeg) x' ++ sact (116 + 3 * v.toNatClampNeg + 1) y' ++ sact (116 + 3 * v.toNatClampNeg + 2) z))) m'
        generalize part b L 16 (sl 1 (nI c) - 1) t3 = zz at d3 ⊢
        obtain ⟨t4, o⟩ := zz
        cases o with
        | none =>
          have d3 : CS b L T t4 true c 0 m4 := d3
          rw [d3.2.2.2.2.2, if_pos rfl]
          exact ⟨m4, rfl, ((a2.tr b2).tr c2).tr d2, c, d3⟩
        | some z' =>
          obtain ⟨_, r4⟩ : z = z' ∧ CS b L T t4 false c 0 m4 := d3
          rw [r4.2.2.2.2.2, if_pos rfl]
          exact ⟨m4, rfl, ((a2.tr b2).tr c2).tr d2, r4⟩
theorem item_x0 {b : Nat → Int32} {L T t c : Nat} {m : MM} (hL : L ≤ 120) (hT : isT b L T) (h : CS b L T t false c 0 m) (hc : c ≤ 8) : ∃ m', f_X1_readItem m = some m' ∧ X21 m m' ∧ Cr b L T (pitem b L t c) m' := by
  unfold f_X1_readItem
  rw [tok_x hL hT h, xKind, bdr_s]
  unfold pitem
  have own : ∀ {m3 : MM} (i : Nat), X21 m m3 → wst m3 1 i (m 1 i) = m3 := fun i hx => wst_sf (by rw [hx 1 (by decide)])
  by_cases q : wi (tk b L t) 0 6 = 0
  · rw [if_pos q, if_neg (not_not_intro q)]
    by_cases q7 : tk b L t = 7
    · obtain ⟨m1, a1, a2, a3⟩ := isl_x0 hL hT h
      rw [if_pos q7, if_pos q7, a1, bdr_s]
      exact ⟨m1, rfl, a2, a3⟩
    rw [if_neg q7, if_neg q7]
    by_cases q8 : tk b L t = 8
    · obtain ⟨m1, a1, a2, a3⟩ := ship_x0 hL hT h
      rw [if_pos q8, if_pos q8, a1, bdr_s]
      exact ⟨m1, rfl, a2, a3⟩
    rw [if_neg q8, if_neg q8]
    by_cases q9 : tk b L t = 9
    · obtain ⟨m1, a1, a2, a3⟩ := set_x0 (w := 9) (p := m 1 8) (hi := 7) (pl := 22) hL hT (by decide) h q9
      rw [if_pos q9, if_pos q9, a1, bdw_s, lt_s_, own 8 a2]
      exact ⟨m1, rfl, a2, a3⟩
    rw [if_neg q9, if_neg q9]
    by_cases q10 : tk b L t = 10
    · obtain ⟨m1, a1, a2, a3⟩ := set_x0 (w := 10) (p := m 1 9) (hi := 65535) (pl := 23) hL hT (by decide) h q10
      rw [if_pos q10, if_pos q10, a1, bdw_s, lt_s_, own 9 a2]
      exact ⟨m1, rfl, a2, a3⟩
    rw [if_neg q10, if_neg q10]
    by_cases q11 : tk b L t = 11
    · obtain ⟨m1, a1, a2, a3⟩ := set_x0 (w := 11) (p := m 1 10) (hi := 9999) (pl := 21) hL hT (by decide) h q11
      rw [if_pos q11, if_pos q11, a1, bdw_s, lt_s_, own 10 a2]
      exact ⟨m1, rfl, a2, a3⟩
    rw [if_neg q11, if_neg q11, gd_t (Or.inr rfl), lt_s_]
    exact ⟨_, rfl, X21_w, c, CS_6 h⟩
  · obtain ⟨k, hk, ek⟩ := wi_n (N := 6) (by decide) q
    obtain ⟨m1, a1, a2, a3⟩ := cat_x0 hL hT h hc hk ek
    rw [if_neg q, if_pos q]
    rw [← ek] at a1
    rw [a1, bdr_s]
    exact ⟨m1, rfl, a2, a3⟩
