/-! ===== the class: the reader ===== -/
def CS (b : Nat → Int32) (L T t : Nat) (w : Bool) (c : Nat) (a : Int32) (m : MM) : Prop := CT b L T m ∧ t ≤ T ∧ m 21 4 = nI t ∧ m 21 6 = b01 w ∧ m 21 7 = nI c ∧ m 21 5 = a
def X21 (m m' : MM) : Prop := ∀ k, k ≠ 21 → m' k = m k
theorem X21.tr {a b c : MM} (h : X21 a b) (g : X21 b c) : X21 a c := fun k hk => (g k hk).trans (h k hk)
theorem X21_rfl (m : MM) : X21 m m := fun _ _ => rfl
theorem X21_w {m : MM} {i : Nat} {v : Int32} : X21 m (wst m 21 i v) := fun k hk => wst_o hk
theorem X21.rn {m m' : MM} {g : Nat → Int32} (h : X21 m m') (hR : RN m 1 g) : RN m' 1 g := RN_fr (fun k a b => h k (by omega)) hR
theorem CT_w {b : Nat → Int32} {L T i : Nat} {m : MM} {v : Int32} (h : CT b L T m) (hi : i ≠ 3) : CT b L T (wst m 21 i v) := by
  refine ⟨by rw [wst_at, upd_o hi.symm]; exact h.1, fun t ht => ?_⟩
  obtain ⟨h1, h2, h3⟩ := h.2 t ht
  unfold AR
  rw [wst_o (by decide), wst_o (by decide), wst_o (by decide)]
  exact ⟨h1, h2, h3⟩
theorem CT_fr {b : Nat → Int32} {L T : Nat} {m m' : MM} (h : CT b L T m) (e : ∀ k, 21 ≤ k → k ≤ 24 → m' k = m k) : CT b L T m' := by
  refine ⟨by rw [e 21 (by omega) (by omega)]; exact h.1, fun t ht => ?_⟩
  obtain ⟨h1, h2, h3⟩ := h.2 t ht
  unfold AR
  rw [e 22 (by omega) (by omega), e 23 (by omega) (by omega), e 24 (by omega) (by omega)]
  exact ⟨h1, h2, h3⟩
theorem CS_fr {b : Nat → Int32} {L T t c : Nat} {w : Bool} {a : Int32} {m m' : MM} (h : CS b L T t w c a m) (e : ∀ k, 21 ≤ k → k ≤ 24 → m' k = m k) : CS b L T t w c a m' := by
  obtain ⟨h1, h2, h3, h4, h5, h6⟩ := h
  refine ⟨CT_fr h1 e, h2, ?_, ?_, ?_, ?_⟩ <;> rw [e 21 (by omega) (by omega)]
  · exact h3
  · exact h4
  · exact h5
  · exact h6
theorem adv_x {b : Nat → Int32} {L T t c : Nat} {w : Bool} {a : Int32} {m : MM} (hL : L ≤ 120) (hT : isT b L T) (h : CS b L T t w c a m) (ht : t < T) : ∃ m', f_X1_advance m = some m' ∧ X21 m m' ∧ CS b L T (t + 1) w c a m' := by
  have hT120 := T_120 hL hT
  obtain ⟨h1, h2, h3, h4, h5, h6⟩ := h
  refine ⟨wst m 21 4 (nI (t + 1)), ?_, X21_w, CT_w h1 (by decide), ht, by rw [wst_at, upd_at], by rw [wst_at, upd_o (by decide), h4], by rw [wst_at, upd_o (by decide), h5], by rw [wst_at, upd_o (by decide), h6]⟩
  unfold f_X1_advance
  rw [h1.1, h3, if_neg (nI_ge ht (by omega)), lt_s_, nI_1]
theorem tok_x {β : Type} {b : Nat → Int32} {L T t c : Nat} {w : Bool} {a : Int32} {m : MM} (hL : L ≤ 120) (hT : isT b L T) (h : CS b L T t w c a m) (f : Int32 → Option β) : ldi m 22 121 (m 21 4) f = f (tk b L t) := by
  have hT120 := T_120 hL hT
  rw [h.2.2.1, ldi_n (show t < 121 by have := h.2.1; omega) (by decide), (h.1.2 t h.2.1).1]
theorem CS_6 {b : Nat → Int32} {L T t c : Nat} {w : Bool} {a : Int32} {m : MM} (h : CS b L T t w c a m) : CS b L T t true c a (wst m 21 6 1) := by
  obtain ⟨h1, h2, h3, h4, h5, h6⟩ := h
  exact ⟨CT_w h1 (by decide), h2, by rw [wst_at, upd_o (by decide), h3], by rw [wst_at, upd_at]; rfl, by rw [wst_at, upd_o (by decide), h5], by rw [wst_at, upd_o (by decide), h6]⟩
theorem tn_ok {b : Nat → Int32} {L T t c : Nat} {a hi : Int32} {m : MM} (hL : L ≤ 120) (hT : isT b L T) (h : CS b L T t false c a m) (hp : pn b L hi t = true) : ∃ m', f_X1_takeNumber hi m = some (nv b L t, m') ∧ X21 m m' ∧ CS b L T (t + 1) false c a m' := by
  have hT120 := T_120 hL hT
  have h17 := pn_17 hp
  obtain ⟨m', a1, a2, a3⟩ := adv_x hL hT h (lt_T hT h.2.1 (pn_20 hp))
  have e24 : ∀ (f : Int32 → Option (Int32 × MM)), ldi m 24 121 (m 21 4) f = f (nv b L t) := fun f => by
    rw [h.2.2.1, ldi_n (show t < 121 by have := h.2.1; omega) (by decide), (h.1.2 t h.2.1).2.2 h17]
  unfold pn at hp
  rw [decide_eq_true_eq] at hp
  refine ⟨m', ?_, a2, a3⟩
  unfold f_X1_takeNumber
  rw [tok_x hL hT h, if_pos h17, e24, if_pos hp.2, e24, a1, bdr_s]
theorem tn_no {b : Nat → Int32} {L T t c : Nat} {a hi : Int32} {m : MM} (hL : L ≤ 120) (hT : isT b L T) (h : CS b L T t false c a m) (hp : pn b L hi t = false) : ∃ m', f_X1_takeNumber hi m = some (-1, m') ∧ X21 m m' ∧ CS b L T t true c a m' := by
  have hT120 := T_120 hL hT
  unfold pn at hp
  rw [decide_eq_false_iff_not] at hp
  refine ⟨wst m 21 6 1, ?_, X21_w, CS_6 h⟩
  unfold f_X1_takeNumber
  rw [tok_x hL hT h]
  by_cases q : tk b L t = 17
  · rw [if_pos q, h.2.2.1, ldi_n (show t < 121 by have := h.2.1; omega) (by decide), (h.1.2 t h.2.1).2.2 q, if_neg (fun z => hp ⟨q, z⟩), gd_t (Or.inr rfl), lt_s_]
  · rw [if_neg q, gd_t (Or.inr rfl), lt_s_]
/-- how the class' reading of a value ended -/
def Cv (b : Nat → Int32) (L T c : Nat) (a : Int32) (x : Nat × Option Int32) (r : Int32) (m' : MM) : Prop := match x.2 with
  | none => CS b L T x.1 true c a m'
  | some v => r = v ∧ CS b L T x.1 false c a m'
theorem rp_x {b : Nat → Int32} {L T t c w : Nat} {a hi : Int32} {m : MM} (hL : L ≤ 120) (hT : isT b L T) (hw : w < 17) (h : CS b L T t false c a m) : ∃ r m', f_X1_readPart (nI w) hi m = some (r, m') ∧ X21 m m' ∧ Cv b L T c a (part b L w hi t) r m' := by
  unfold f_X1_readPart part
  rw [h.2.2.2.1, if_pos (show b01 false = 0 by decide), tok_x hL hT h]
  by_cases q : tk b L t = nI w
  · obtain ⟨m1, a1, a2, a3⟩ := adv_x hL hT h (lt_T hT h.2.1 (w_20 hw q))
    rw [if_pos q, if_pos q, a1, bdr_s]
    cases q2 : pn b L hi (t + 1) with
    | true =>
      obtain ⟨m2, b1, b2, b3⟩ := tn_ok hL hT a3 q2
      rw [b1, bdw_s, if_pos rfl]
      exact ⟨_, m2, rfl, a2.tr b2, rfl, b3⟩
    | false =>
      obtain ⟨m2, b1, b2, b3⟩ := tn_no hL hT a3 q2
      rw [b1, bdw_s, if_neg (by decide)]
      exact ⟨_, m2, rfl, a2.tr b2, b3⟩
  · rw [if_neg q, if_neg q]
    exact ⟨_, m, rfl, X21_rfl m, rfl, h⟩
theorem rp_w {b : Nat → Int32} {L T t c : Nat} {w a hi : Int32} {m : MM} (h : CS b L T t true c a m) : f_X1_readPart w hi m = some (-1, m) := by
  unfold f_X1_readPart
  rw [h.2.2.2.1, if_neg (show ¬ b01 true = 0 by decide)]
theorem rh_x {b : Nat → Int32} {L T t c : Nat} {a : Int32} {m : MM} (hL : L ≤ 120) (hT : isT b L T) (h : CS b L T t false c a m) : ∃ r m', f_X1_readHabit m = some (r, m') ∧ X21 m m' ∧ Cv b L T c a (phab b L t) r m' := by
  unfold f_X1_readHabit phab
  simp only [jn1_s]
  rw [h.2.2.2.1, if_pos (show b01 false = 0 by decide), tok_x hL hT h]
  by_cases q : tk b L t = nI 13
  · obtain ⟨m1, a1, a2, a3⟩ := adv_x hL hT h (lt_T hT h.2.1 (w_20 (by decide) q))
    rw [if_pos (show tk b L t = 13 from q), if_pos q, a1, bdr_s, tok_x hL hT a3]
    by_cases q1 : tk b L (t + 1) = 19
    · obtain ⟨m2, c1, c2, c3⟩ := adv_x hL hT a3 (lt_T hT a3.2.1 (by rw [q1]; decide))
      rw [if_pos q1, if_pos q1, if_neg (by decide), c1, bdr_s]
      cases q2 : pn b L 15 (t + 2) with
      | true =>
        obtain ⟨m3, b1, b2, b3⟩ := tn_ok hL hT c3 q2
        rw [b1, bdw_s, if_neg (by decide), if_pos rfl]
        exact ⟨_, m3, rfl, (a2.tr c2).tr b2, rfl, b3⟩
      | false =>
        obtain ⟨m3, b1, b2, b3⟩ := tn_no hL hT c3 q2
        rw [b1, bdw_s, if_neg (by decide), if_neg (by decide)]
        exact ⟨_, m3, rfl, (a2.tr c2).tr b2, b3⟩
    · rw [if_neg q1, if_neg q1, if_pos trivial]
      cases q2 : pn b L 15 (t + 1) with
      | true =>
        obtain ⟨m3, b1, b2, b3⟩ := tn_ok hL hT a3 q2
        rw [b1, bdw_s, if_pos rfl]
        exact ⟨_, m3, rfl, a2.tr b2, rfl, b3⟩
      | false =>
        obtain ⟨m3, b1, b2, b3⟩ := tn_no hL hT a3 q2
        rw [b1, bdw_s]
        exact ⟨_, m3, rfl, a2.tr b2, b3⟩
  · rw [if_neg (show ¬ tk b L t = 13 from q), if_neg q]
    exact ⟨_, m, rfl, X21_rfl m, rfl, h⟩
theorem rh_w {b : Nat → Int32} {L T t c : Nat} {a : Int32} {m : MM} (h : CS b L T t true c a m) : f_X1_readHabit m = some (0, m) := by
  unfold f_X1_readHabit
  rw [h.2.2.2.1, if_neg (show ¬ b01 true = 0 by decide)]
