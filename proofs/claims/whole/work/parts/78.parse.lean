/-! ===== what a text says ===== -/
abbrev Act := Int32 × Int32 × Int32
/-- a part: a word and its number, or nothing (-1); none: a fault there -/
def part (b : Nat → Int32) (L w : Nat) (hi : Int32) (t : Nat) : Nat × Option Int32 :=
  if tk b L t = nI w then (if pn b L hi (t + 1) then (t + 2, some (nv b L (t + 1))) else (t + 1, none)) else (t, some (-1))
def phab (b : Nat → Int32) (L t : Nat) : Nat × Option Int32 :=
  if tk b L t = nI 13 then (if tk b L (t + 1) = 19 then (if pn b L 15 (t + 2) then (t + 3, some (-(nv b L (t + 2)))) else (t + 2, none)) else (if pn b L 15 (t + 1) then (t + 2, some (nv b L (t + 1))) else (t + 1, none))) else (t, some 0)
def bnd (x : Nat × Option Int32) (f : Nat → Int32 → Nat × Option (Nat × List Act)) : Nat × Option (Nat × List Act) := match x.2 with
  | none => (x.1, none)
  | some v => f x.1 v
def pcat (b : Nat → Int32) (L t c : Nat) : Nat × Option (Nat × List Act) :=
  if c < 8 then bnd (part b L 12 99 (t + 1)) fun t1 h => bnd (phab b L t1) fun t2 hb => (t2, some (c + 1, [(tk b L t, (if h = -1 then 0 else h), hb)])) else (t, none)
def pone (b : Nat → Int32) (L w : Nat) (hi pl : Int32) (t c : Nat) : Nat × Option (Nat × List Act) := bnd (part b L w hi t) fun t1 v => (t1, some (c, [(pl, v, 0)]))
def sact (P : Nat) (v : Int32) : List Act := if v = -1 then [] else [(nI (20 + P), v, 0)]
def pship (b : Nat → Int32) (L t c : Nat) : Nat × Option (Nat × List Act) :=
  bnd (part b L 8 3 t) fun t1 s => bnd (part b L 14 99 t1) fun t2 x => bnd (part b L 15 31 t2) fun t3 y => bnd (part b L 16 (sl 1 (nI c) - 1) t3) fun t4 z =>
    (t4, some (c, sact (116 + 3 * s.toNatClampNeg) x ++ sact (116 + 3 * s.toNatClampNeg + 1) y ++ sact (116 + 3 * s.toNatClampNeg + 2) z))
def pitem (b : Nat → Int32) (L t c : Nat) : Nat × Option (Nat × List Act) :=
  if ¬ wi (tk b L t) 0 6 = 0 then pcat b L t c else if tk b L t = 7 then pone b L 7 99 10 t c else if tk b L t = 8 then pship b L t c else if tk b L t = 9 then pone b L 9 7 22 t c else if tk b L t = 10 then pone b L 10 65535 23 t c else if tk b L t = 11 then pone b L 11 9999 21 t c else (t, none)
def pread (b : Nat → Int32) (L : Nat) : Nat → Nat → Nat → Nat → List Act → Nat × Option (Nat × List Act)
  | 0, t, _, _, _ => (t, none)
  | f + 1, t, c, n, l => match (pitem b L t c).2 with
    | none => ((pitem b L t c).1, none)
    | some x => if tk b L (pitem b L t c).1 = 20 then ((pitem b L t c).1, some (n, l ++ x.2)) else if tk b L (pitem b L t c).1 = 18 then pread b L f ((pitem b L t c).1 + 1) x.1 (n + 1) (l ++ x.2) else ((pitem b L t c).1, none)
/-! ===== the reference: items ===== -/
/-- the items that were read -/
def IT (m : MM) (l : List Act) : Prop := m 37 19 = nI l.length ∧ ∀ i, i < l.length → l[i]? = some (m 46 (3 * i), m 46 (3 * i + 1), m 46 (3 * i + 2))
theorem Nf.it {m m' : MM} {l : List Act} (h : Nf m m') (g : IT m l) : IT m' l := ⟨by rw [h.2 19 (by omega)]; exact g.1, fun i hi => by rw [h.1 46 (by decide)]; exact g.2 i hi⟩
/-- a reader's frame -/
def Pf (m m' : MM) : Prop := (∀ k, k ≠ 37 → k ≠ 46 → m' k = m k) ∧ ∀ x, ¬ (12 ≤ x ∧ x ≤ 16) → ¬ (19 ≤ x ∧ x ≤ 21) → m' 37 x = m 37 x
theorem Pf.tr {a b c : MM} (h : Pf a b) (g : Pf b c) : Pf a c := ⟨fun k x y => (g.1 k x y).trans (h.1 k x y), fun k x y => (g.2 k x y).trans (h.2 k x y)⟩
theorem Nf.pf {m m' : MM} (h : Nf m m') : Pf m m' := ⟨fun k x _ => h.1 k x, fun x y _ => h.2 x y⟩
theorem Pf_w {m : MM} {i : Nat} {v : Int32} (h : 19 ≤ i ∧ i ≤ 21) : Pf m (wst m 37 i v) := ⟨fun k x _ => wst_o x, fun x _ z => by rw [wst_at, upd_o (by omega)]⟩
theorem RM_w {b : Nat → Int32} {L t i : Nat} {w : Bool} {m : MM} {v : Int32} (h : RM b L t w m) (hi : 19 ≤ i ∧ i ≤ 21) : RM b L t w (wst m 37 i v) := by
  obtain ⟨h1, ⟨a1, a2, a3, a4⟩, h3⟩ := h
  refine ⟨MT_w h1 (by omega), ⟨?_, ?_, ?_, ?_⟩, ?_⟩
  · rw [wst_at, upd_o (by omega)]; exact a1
  · rw [wst_at, upd_o (by omega)]; exact a2
  · rw [wst_at, upd_o (by omega)]; exact a3
  · rw [wst_at, upd_o (by omega)]; exact a4
  · rw [wst_at, upd_o (by omega)]; exact h3
theorem RM_46 {b : Nat → Int32} {L t i : Nat} {w : Bool} {m : MM} {v : Int32} (h : RM b L t w m) : RM b L t w (wst m 46 i v) := by
  obtain ⟨h1, ⟨a1, a2, a3, a4⟩, h3⟩ := h
  refine ⟨⟨by rw [wst_o (by decide)]; exact h1.1, fun j hj => by rw [wst_o (by decide)]; exact h1.2 j hj⟩, ⟨?_, ?_, ?_, ?_⟩, ?_⟩ <;> rw [wst_o (by decide)]
  · exact a1
  · exact a2
  · exact a3
  · exact a4
  · exact h3
theorem item_s {b : Nat → Int32} {L t : Nat} {w : Bool} {m : MM} {l : List Act} (x y z : Int32) (hl : l.length < 120) (h : RM b L t w m) (g : IT m l) : ∃ m', f_X5_item x y z m = some m' ∧ Pf m m' ∧ RM b L t w m' ∧ IT m' (l ++ [(x, y, z)]) ∧ m' 37 20 = m 37 20 ∧ m' 37 21 = m 37 21 := by
  have e1 : (1 : Int32) = nI 1 := rfl
  have e2 : (2 : Int32) = nI 2 := rfl
  refine ⟨wst (wst (wst (wst m 46 (3 * l.length) x) 46 (3 * l.length + 1) y) 46 (3 * l.length + 2) z) 37 19 (nI (l.length + 1)), ?_, ?_, RM_w (RM_46 (RM_46 (RM_46 h))) (by omega), ⟨?_, fun i hi => ?_⟩, ?_, ?_⟩
  · unfold f_X5_item
    rw [lt_s_, g.1, show (3 : Int32) = nI 3 from rfl, pk_mul, sti_n (n := 360) (j := 3 * l.length) (by omega) (by decide), e1, nI_add, sti_n (n := 360) (j := 3 * l.length + 1) (by omega) (by decide), e2, nI_add, sti_n (n := 360) (j := 3 * l.length + 2) (by omega) (by decide), lt_s_, wst_o (by decide), wst_o (by decide), wst_o (by decide), g.1, nI_add]
  · refine Pf.tr (b := wst (wst (wst m 46 (3 * l.length) x) 46 (3 * l.length + 1) y) 46 (3 * l.length + 2) z) ⟨fun k p q => by rw [wst_o q, wst_o q, wst_o q], fun k _ _ => by rw [wst_o (by decide), wst_o (by decide), wst_o (by decide)]⟩ (Pf_w (by omega))
  · rw [wst_at, upd_at, List.length_append]
    rfl
  · rw [List.length_append] at hi
    have hi2 : i < l.length + 1 := hi
    rw [wst_o (by decide), wst_at]
    by_cases q : i = l.length
    · subst q
      rw [List.getElem?_append_right (Nat.le_refl _), Nat.sub_self, upd_o (by omega), wst_at, upd_o (by omega), wst_at, upd_at, upd_o (by omega), upd_at, upd_at]
      rfl
    · rw [List.getElem?_append_left (by omega), g.2 i (by omega), upd_o (by omega), wst_at, upd_o (by omega), wst_at, upd_o (by omega), upd_o (by omega), upd_o (by omega), upd_o (by omega), upd_o (by omega), upd_o (by omega), upd_o (by omega)]
  · rw [wst_at, upd_o (by decide), wst_o (by decide), wst_o (by decide), wst_o (by decide)]
  · rw [wst_at, upd_o (by decide), wst_o (by decide), wst_o (by decide), wst_o (by decide)]
/-- how a reading of a value ended -/
def Vr (b : Nat → Int32) (L : Nat) (x : Nat × Option Int32) (f : Int32 → Int32) (r : Int32) (m' : MM) : Prop := match x.2 with
  | none => RM b L x.1 true m'
  | some v => r = f v ∧ RM b L x.1 false m'
theorem habit_s {b : Nat → Int32} {L t : Nat} {m : MM} (hL : L ≤ 120) (hb : ∀ i, i < L → bn (b i) 255) (h : RM b L t false m) : ∃ r m', f_X5_habitTold m = some (r, m') ∧ Nf m m' ∧ Vr b L (phab b L t) id r m' := by
  unfold f_X5_habitTold phab
  by_cases q : tk b L t = nI 13
  · obtain ⟨m1, a1, a2, a3⟩ := nx_y hL hb (by decide) h q
    rw [a1, bdw_s, if_neg (by decide), if_pos q]
    by_cases q2 : tk b L (t + 1) = 19
    · obtain ⟨m2, c1, c2, c3⟩ := mn_y hL hb a3 q2
      rw [c1, bdw_s, if_neg (by decide), if_pos q2]
      cases q3 : pn b L 15 (t + 2) with
      | true =>
        obtain ⟨m3, d1, d2, d3⟩ := num_ok hL hb c3 q3
        rw [d1, bdw_s, if_pos rfl]
        exact ⟨_, m3, rfl, (a2.tr c2).tr d2, rfl, d3⟩
      | false =>
        obtain ⟨r, m3, d1, d2, d3⟩ := num_no c3 q3
        rw [d1, bdw_s, if_neg (by decide)]
        exact ⟨_, m3, rfl, (a2.tr c2).tr d2, d3⟩
    · rw [mn_n hL a3 q2, bdw_s, if_pos rfl, if_neg q2]
      cases q3 : pn b L 15 (t + 1) with
      | true =>
        obtain ⟨m3, d1, d2, d3⟩ := num_ok hL hb a3 q3
        rw [d1, bdw_s, if_pos rfl]
        exact ⟨_, m3, rfl, a2.tr d2, rfl, d3⟩
      | false =>
        obtain ⟨r, m3, d1, d2, d3⟩ := num_no a3 q3
        rw [d1, bdw_s, if_neg (by decide)]
        exact ⟨_, m3, rfl, a2.tr d2, d3⟩
  · rw [nx_n hL (by decide) h q, bdw_s, if_pos rfl, if_neg q]
    exact ⟨0, m, rfl, Nf_rfl m, rfl, h⟩
theorem habit_w {b : Nat → Int32} {L t : Nat} {m : MM} (h : RM b L t true m) : f_X5_habitTold m = some (0, m) := by
  unfold f_X5_habitTold
  rw [nx_w h, bdw_s, if_pos rfl]
def abs0 (v : Int32) : Int32 := if v = -1 then 0 else v
theorem nv_ne {b : Nat → Int32} {L t : Nat} {hi : Int32} (hL : L ≤ 120) (h : pn b L hi t = true) : ¬ nv b L t = -1 := by
  unfold pn at h
  rw [decide_eq_true_eq] at h
  obtain ⟨k, hk, e⟩ := nv_bd hL h.1
  rw [e]
  intro z
  have := congrArg Int32.toInt z
  rw [nI_toInt (by omega), show ((-1 : Int32)).toInt = -1 from by decide] at this
  omega
theorem hung_s {b : Nat → Int32} {L t w : Nat} {hi : Int32} {m : MM} (hL : L ≤ 120) (hb : ∀ i, i < L → bn (b i) 255) (hw : w < 17) (h : RM b L t false m) (K : Int32 → MM → Option MM) : ∃ r m', (bdw (f_X5_isNext w m) fun x12 m18 => if x12 = 0 then (K 0 m18) else (bdw (f_X5_number 0 hi m18) fun x15 m22 => K x15 m22)) = K r m' ∧ Nf m m' ∧ Vr b L (part b L w hi t) abs0 r m' := by
  unfold part
  by_cases q : tk b L t = nI w
  · obtain ⟨m1, a1, a2, a3⟩ := nx_y hL hb hw h q
    rw [a1, bdw_s, if_neg (by decide), if_pos q]
    cases q3 : pn b L hi (t + 1) with
    | true =>
      obtain ⟨m3, d1, d2, d3⟩ := num_ok hL hb a3 q3
      rw [d1, bdw_s, if_pos rfl]
      refine ⟨_, m3, rfl, a2.tr d2, ?_, d3⟩
      unfold abs0
      rw [if_neg (nv_ne hL q3)]
    | false =>
      obtain ⟨r, m3, d1, d2, d3⟩ := num_no a3 q3
      rw [d1, bdw_s, if_neg (by decide)]
      exact ⟨_, m3, rfl, a2.tr d2, d3⟩
  · rw [nx_n hL hw h q, bdw_s, if_pos rfl, if_neg q]
    exact ⟨0, m, rfl, Nf_rfl m, rfl, h⟩
