/-! ===== the reference: what a reader does at a token ===== -/
theorem bg_next {b : Nat → Int32} {L t : Nat} (hL : L ≤ 120) : skT b L (if bg b L t < L then enT b L (bg b L t) else bg b L t) = bg b L (t + 1) := by
  show _ = (if bg b L t < L then skT b L (enT b L (bg b L t)) else bg b L t)
  by_cases q : bg b L t < L
  · rw [if_pos q, if_pos q]
  · rw [if_neg q, if_neg q]
    have := (bg_le (b := b) hL t).1
    exact run_f (Bd_iSp b L _ (by omega))
theorem next_RM {b : Nat → Int32} {L t : Nat} {w : Bool} {m : MM} (hL : L ≤ 120) (hb : ∀ i, i < L → bn (b i) 255) (h : RM b L t w m) : ∃ m', f_X5_next m = some m' ∧ Nf m m' ∧ RM b L (t + 1) w m' := by
  have hle : (if bg b L t < L then enT b L (bg b L t) else bg b L t) ≤ L := by
    by_cases q : bg b L t < L
    · rw [if_pos q]
      exact (enT_s hL q).2
    · rw [if_neg q]
      exact (bg_le hL t).1
  obtain ⟨m', a1, a2, a3, a4⟩ := next_s hL hb h.1 hle h.2.1.2.1
  rw [bg_next hL] at a3
  exact ⟨m', a1, a2, a2.mt h.1, a3, a4.trans h.2.2⟩
theorem SP_16 {b : Nat → Int32} {L p : Nat} {m : MM} {v : Int32} (h : SP b L p m) : SP b L p (wst m 37 16 v) := by
  obtain ⟨h1, h2, h3, h4⟩ := h
  unfold SP
  rw [wst_at, upd_o (by decide), upd_o (by decide), upd_o (by decide), upd_o (by decide)]
  exact ⟨h1, h2, h3, h4⟩
theorem RM_16 {b : Nat → Int32} {L t : Nat} {w : Bool} {m : MM} (v : Bool) (h : RM b L t w m) : RM b L t v (wst m 37 16 (b01 v)) := ⟨MT_w h.1 (by decide), SP_16 h.2.1, by rw [wst_at, upd_at]⟩
theorem must_1 {b : Nat → Int32} {L t : Nat} {m : MM} (hL : L ≤ 120) (hb : ∀ i, i < L → bn (b i) 255) (h : RM b L t false m) : ∃ m', f_X5_must 1 m = some m' ∧ Nf m m' ∧ RM b L (t + 1) false m' := by
  obtain ⟨m', a1, a2, a3⟩ := next_RM hL hb (RM_16 false h)
  refine ⟨m', ?_, (Nf_w (by omega)).tr a2, a3⟩
  unfold f_X5_must
  simp only [jn1_s, jn0_s]
  rw [h.2.2, if_pos (show b01 false = 0 by decide), if_neg (by decide), gd_t (Or.inl trivial), lt_s_, wst_at, upd_at, if_pos rfl]
  have e : wst m 37 16 (b01 false) = wst m 37 16 0 := rfl
  rw [← e, a1, bdr_s]
theorem must_0 {b : Nat → Int32} {L t : Nat} {m : MM} (h : RM b L t false m) : ∃ m', f_X5_must 0 m = some m' ∧ Nf m m' ∧ RM b L t true m' := by
  refine ⟨wst m 37 16 (b01 true), ?_, Nf_w (by omega), RM_16 true h⟩
  unfold f_X5_must
  simp only [jn1_s, jn0_s]
  rw [h.2.2, if_pos (show b01 false = 0 by decide), if_pos trivial, gd_t (Or.inr trivial), lt_s_, wst_at, upd_at, if_neg (by decide)]
  rfl
theorem must_w {b : Nat → Int32} {L t : Nat} {m : MM} (x : Int32) (h : RM b L t true m) : ∃ m', f_X5_must x m = some m' ∧ Nf m m' ∧ RM b L t true m' := by
  refine ⟨wst m 37 16 (b01 true), ?_, Nf_w (by omega), RM_16 true h⟩
  unfold f_X5_must
  simp only [jn1_s, jn0_s]
  rw [h.2.2, if_neg (show ¬ b01 true = 0 by decide), gd_t (Or.inr trivial), lt_s_, wst_at, upd_at, if_neg (by decide)]
  rfl
/-! numbers -/
theorem vl_bd {b : Nat → Int32} : ∀ (d k : Nat) (a : Int32), (∀ j, k ≤ j → j < k + d → ∃ c : Nat, 48 ≤ c ∧ c ≤ 57 ∧ b j = nI c) → bn a 100000 → bn (vl b k d a) 100000
  | 0, k, a, _, h => h
  | d + 1, k, a, hb, h => by
    obtain ⟨c, c1, c2, e⟩ := hb k (Nat.le_refl _) (by omega)
    obtain ⟨n, hn, rfl⟩ := h
    refine vl_bd d (k + 1) _ (fun j x y => hb j (by omega) (by omega)) ?_
    have e2 : nI n * 10 + b k - 48 = nI (n * 10 + (c - 48)) := by
      rw [e, show (10 : Int32) = nI 10 from rfl, pk_mul, nI_add, show (48 : Int32) = nI 48 from rfl, pk_sub (by omega)]
      congr 1
      omega
    rw [e2]
    unfold imin
    by_cases q : (100000 : Int32) < nI (n * 10 + (c - 48))
    · rw [if_pos q]
      exact ⟨100000, Nat.le_refl _, rfl⟩
    · rw [if_neg q]
      refine ⟨n * 10 + (c - 48), ?_, rfl⟩
      have := mt (lt_n (a := 100000) (b := n * 10 + (c - 48)) (by decide) (by omega)).mpr q
      omega
theorem nv_bd {b : Nat → Int32} {L t : Nat} (hL : L ≤ 120) (h : tk b L t = 17) : bn (nv b L t) 100000 := by
  have hlt : bg b L t < L := by
    by_cases q : bg b L t < L
    · exact q
    · unfold tk at h
      rw [if_neg q] at h
      exact absurd h (by decide)
  rw [tk_c hlt] at h
  obtain ⟨el, ed⟩ := tc_17 h
  have ee : enT b L (bg b L t) = run (Dg b L) (bg b L t) := by unfold enT; rw [el, ed, if_neg (by decide), if_pos rfl]
  have hr := run_ok (Bd_inr b L 48 57) hL (Nat.le_of_lt hlt)
  unfold nv
  rw [ee]
  refine vl_bd _ _ _ (fun j x y => ?_) ⟨0, by decide, rfl⟩
  have h1 : bg b L t ≤ run (Dg b L) (bg b L t) := hr.1
  have h2 : Dg b L j = true := hr.2.2.2 j x (by show j < run (Dg b L) (bg b L t); omega)
  have h3 : j < L := (Bd_inr b L 48 57).lt h2
  unfold Dg at h2
  rw [inr_s h3, decide_eq_true_eq, wi_0, fa_lt', fa_lt', show ((48 : Int32)).toInt = 48 from by decide, show ((57 : Int32)).toInt = 57 from by decide] at h2
  exact ⟨(b j).toInt.toNat, by omega, by omega, Int32.toInt_inj.mp (by rw [nI_toInt (by omega)]; omega)⟩
theorem sp_tk {b : Nat → Int32} {L t : Nat} {m : MM} (h : SP b L (bg b L t) m) : (m 37 14 = 2 ↔ tk b L t = 17) ∧ (tk b L t = 17 → m 37 15 = nv b L t) ∧ (m 37 14 = 0 ↔ tk b L t = 20) ∧ (m 37 14 = 3 → bg b L t < L ∧ tk b L t = sg (b (bg b L t))) ∧ (tk b L t = 18 ∨ tk b L t = 19 → m 37 14 = 3) := by
  obtain ⟨s1, s2, s3, s4⟩ := h
  unfold tk
  by_cases q : bg b L t < L
  · rw [if_pos q] at s3
    rw [if_pos q]
    cases el : Lt b L (bg b L t) with
    | true =>
      rw [el, if_pos rfl] at s3
      rw [if_pos rfl, s3]
      rcases wcd_s b (bg b L t) (enT b L (bg b L t)) with ⟨w, hw, h1, _⟩ | ⟨h1, _⟩
      · rw [h1]
        refine ⟨⟨fun z => absurd z (by decide), fun z => absurd z (nI_lit hw 17 rfl (by decide))⟩, fun z => absurd z (nI_lit hw 17 rfl (by decide)), ⟨fun z => absurd z (by decide), fun z => absurd z (nI_lit hw 20 rfl (by decide))⟩, fun z => absurd z (by decide), fun z => ?_⟩
        rcases z with z | z
        · exact absurd z (nI_lit hw 18 rfl (by decide))
        · exact absurd z (nI_lit hw 19 rfl (by decide))
      · rw [h1]
        refine ⟨⟨fun z => absurd z (by decide), fun z => absurd z (by decide)⟩, fun z => absurd z (by decide), ⟨fun z => absurd z (by decide), fun z => absurd z (by decide)⟩, fun z => absurd z (by decide), fun z => ?_⟩
        rcases z with z | z <;> exact absurd z (by decide)
    | false =>
      rw [el, if_neg (by decide)] at s3
      rw [if_neg (by decide)]
      cases ed : Dg b L (bg b L t) with
      | true =>
        rw [ed, if_pos rfl] at s3
        rw [if_pos rfl, s3]
        refine ⟨⟨fun _ => rfl, fun _ => rfl⟩, fun _ => s4 q el ed, ⟨fun z => absurd z (by decide), fun z => absurd z (by decide)⟩, fun z => absurd z (by decide), fun z => ?_⟩
        rcases z with z | z <;> exact absurd z (by decide)
      | false =>
        rw [ed, if_neg (by decide)] at s3
        rw [if_neg (by decide), s3]
        refine ⟨⟨fun z => absurd z (by decide), fun z => ?_⟩, fun z => ?_, ⟨fun z => absurd z (by decide), fun z => ?_⟩, fun _ => ⟨q, rfl⟩, fun _ => rfl⟩
        · rcases sg_s (b (bg b L t)) with y | y | y <;> rw [y] at z <;> exact absurd z (by decide)
        · rcases sg_s (b (bg b L t)) with y | y | y <;> rw [y] at z <;> exact absurd z (by decide)
        · rcases sg_s (b (bg b L t)) with y | y | y <;> rw [y] at z <;> exact absurd z (by decide)
  · rw [if_neg q] at s3
    rw [if_neg q, s3]
    refine ⟨⟨fun z => absurd z (by decide), fun z => absurd z (by decide)⟩, fun z => absurd z (by decide), ⟨fun _ => rfl, fun _ => rfl⟩, fun z => absurd z (by decide), fun z => ?_⟩
    rcases z with z | z <;> exact absurd z (by decide)
/-- a number that must be there -/
def pn (b : Nat → Int32) (L : Nat) (hi : Int32) (t : Nat) : Bool := decide (tk b L t = 17 ∧ nv b L t ≤ hi)
theorem num_ok {b : Nat → Int32} {L t : Nat} {hi : Int32} {m : MM} (hL : L ≤ 120) (hb : ∀ i, i < L → bn (b i) 255) (h : RM b L t false m) (hp : pn b L hi t = true) : ∃ m', f_X5_number 0 hi m = some (nv b L t, m') ∧ Nf m m' ∧ RM b L (t + 1) false m' := by
  unfold pn at hp
  rw [decide_eq_true_eq] at hp
  obtain ⟨m', a1, a2, a3⟩ := must_1 hL hb h
  obtain ⟨k, hk, ek⟩ := nv_bd hL hp.1
  refine ⟨m', ?_, a2, a3⟩
  unfold f_X5_number
  rw [lt_s_, if_pos ((sp_tk h.2.1).1.mpr hp.1), (sp_tk h.2.1).2.1 hp.1, within_s, bdr_s, if_neg (by
    rw [wi_0, ek]
    rintro (z | z)
    · exact nI_pos (by omega) z
    · rw [ek] at hp
      exact Int32.lt_irrefl (Int32.lt_of_lt_of_le z hp.2)), a1, bdr_s]
theorem num_no {b : Nat → Int32} {L t : Nat} {hi : Int32} {m : MM} (h : RM b L t false m) (hp : pn b L hi t = false) : ∃ r m', f_X5_number 0 hi m = some (r, m') ∧ Nf m m' ∧ RM b L t true m' := by
  unfold pn at hp
  rw [decide_eq_false_iff_not] at hp
  obtain ⟨m', a1, a2, a3⟩ := must_0 h
  refine ⟨m 37 15, m', ?_, a2, a3⟩
  unfold f_X5_number
  rw [lt_s_, a1, bdr_s]
  by_cases q : m 37 14 = 2
  · have h17 := (sp_tk h.2.1).1.mp q
    rw [if_pos q, within_s, bdr_s, if_pos (by
      rw [wi_0, (sp_tk h.2.1).2.1 h17]
      exact Or.inr (Int32.not_le.mp (fun z => hp ⟨h17, z⟩)))]
  · rw [if_neg q]
theorem num_w {b : Nat → Int32} {L t : Nat} {lo hi : Int32} {m : MM} (h : RM b L t true m) : ∃ r m', f_X5_number lo hi m = some (r, m') ∧ Nf m m' ∧ RM b L t true m' := by
  obtain ⟨m0, a1, a2, a3⟩ := must_w 0 h
  obtain ⟨m1, b1, b2, b3⟩ := must_w 1 h
  unfold f_X5_number
  rw [lt_s_, a1, bdr_s, b1, bdr_s, within_s, bdr_s]
  by_cases q : m 37 14 = 2
  · rw [if_pos q]
    by_cases q2 : wi (m 37 15) lo hi = 0
    · rw [if_pos q2]
      exact ⟨_, m0, rfl, a2, a3⟩
    · rw [if_neg q2]
      exact ⟨_, m1, rfl, b2, b3⟩
  · rw [if_neg q]
    exact ⟨_, m0, rfl, a2, a3⟩
theorem nx_y {b : Nat → Int32} {L t w : Nat} {m : MM} (hL : L ≤ 120) (hb : ∀ i, i < L → bn (b i) 255) (hw : w < 17) (h : RM b L t false m) (e : tk b L t = nI w) : ∃ m', f_X5_isNext w m = some (1, m') ∧ Nf m m' ∧ RM b L (t + 1) false m' := by
  obtain ⟨m', a1, a2, a3⟩ := must_1 hL hb h
  refine ⟨m', ?_, a2, a3⟩
  unfold f_X5_isNext
  simp only [jn1_s, jn0_s]
  rw [h.2.2, if_pos (show b01 false = 0 by decide), isWord_s hw hL h.1 h.2.1, bdr_s, decide_eq_true e, if_neg (by decide), if_neg (by decide), a1, bdr_s, gd_t (Or.inr trivial)]
theorem nx_n {b : Nat → Int32} {L t w : Nat} {m : MM} (hL : L ≤ 120) (hw : w < 17) (h : RM b L t false m) (e : ¬ tk b L t = nI w) : f_X5_isNext w m = some (0, m) := by
  unfold f_X5_isNext
  simp only [jn1_s, jn0_s]
  rw [h.2.2, if_pos (show b01 false = 0 by decide), isWord_s hw hL h.1 h.2.1, bdr_s, decide_eq_false e, if_pos (by decide), if_pos trivial, gd_t (Or.inl trivial)]
theorem nx_w {b : Nat → Int32} {L t w : Nat} {m : MM} (h : RM b L t true m) : f_X5_isNext w m = some (0, m) := by
  unfold f_X5_isNext
  simp only [jn1_s, jn0_s]
  rw [h.2.2, if_neg (show ¬ b01 true = 0 by decide), if_pos trivial, gd_t (Or.inl trivial)]
theorem sg_45 (x : Int32) : (sg x = 19 ↔ x = 45) ∧ (sg x = 18 ↔ x = 59) := by
  unfold sg
  by_cases h : x = 59
  · rw [if_pos h, h]
    decide
  · rw [if_neg h]
    by_cases h2 : x = 45
    · rw [if_pos h2, h2]
      decide
    · rw [if_neg h2]
      exact ⟨⟨fun z => absurd z (by decide), fun z => absurd z h2⟩, ⟨fun z => absurd z (by decide), fun z => absurd z h⟩⟩
theorem mn_y {b : Nat → Int32} {L t : Nat} {m : MM} (hL : L ≤ 120) (hb : ∀ i, i < L → bn (b i) 255) (h : RM b L t false m) (e : tk b L t = 19) : ∃ m', f_X5_isMinus m = some (1, m') ∧ Nf m m' ∧ RM b L (t + 1) false m' := by
  obtain ⟨m', a1, a2, a3⟩ := must_1 hL hb h
  obtain ⟨t1, t2, t3, t4, t5⟩ := sp_tk h.2.1
  have e14 := t5 (Or.inr e)
  have eb := (sg_45 _).1.mp ((t4 e14).2.symm.trans e)
  refine ⟨m', ?_, a2, a3⟩
  unfold f_X5_isMinus
  simp only [jn1_s, jn0_s]
  rw [h.2.2, if_pos (show b01 false = 0 by decide), if_pos e14, h.2.1.1, ldi_n (show bg b L t < 120 by have := (t4 e14).1; omega) (by decide), h.1.2 _ (t4 e14).1, if_pos eb, if_neg (by decide), a1, bdr_s, gd_t (Or.inr trivial)]
theorem mn_n {b : Nat → Int32} {L t : Nat} {m : MM} (hL : L ≤ 120) (h : RM b L t false m) (e : ¬ tk b L t = 19) : f_X5_isMinus m = some (0, m) := by
  obtain ⟨t1, t2, t3, t4, t5⟩ := sp_tk h.2.1
  unfold f_X5_isMinus
  simp only [jn1_s, jn0_s]
  rw [h.2.2, if_pos (show b01 false = 0 by decide)]
  by_cases q : m 37 14 = 3
  · rw [if_pos q, h.2.1.1, ldi_n (show bg b L t < 120 by have := (t4 q).1; omega) (by decide), h.1.2 _ (t4 q).1, if_neg (fun z => e ((t4 q).2.trans ((sg_45 _).1.mpr z))), if_pos trivial, gd_t (Or.inl trivial)]
  · rw [if_neg q, if_pos trivial, gd_t (Or.inl trivial)]
