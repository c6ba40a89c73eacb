/-! ===== the class: a whole text ===== -/
def kF (m : MM) : Option (Int32 × MM) := ldi m 23 121 (m 21 4) fun x1 => some (((-1) - x1), m)
theorem kF_s {b : Nat → Int32} {L T t c : Nat} {w : Bool} {a : Int32} {m : MM} (hL : L ≤ 120) (hT : isT b L T) (h : CS b L T t w c a m) : kF m = some (-1 - nI (bg b L t), m) := by
  have hT120 := T_120 hL hT
  unfold kF
  rw [h.2.2.1, ldi_n (show t < 121 by have := h.2.1; omega) (by decide), (h.1.2 t h.2.1).2.1]
/-- how the first reading ended -/
def R0 (b : Nat → Int32) (L T : Nat) (x : Nat × Option (Nat × List Act)) (r : Int32) (m' : MM) : Prop := match x.2 with
  | none => r = -1 - nI (bg b L x.1)
  | some y => r = nI y.1 ∧ y.1 ≤ 121 ∧ CT b L T m'
theorem okL_le : ∀ {l : List Act} {c c' : Nat}, okL c l c' → c ≤ 8 → c' ≤ 8
  | [], c, c', h, hc => by
    have h : c = c' := h
    omega
  | x :: l, c, c', ⟨c2, p1, p2⟩, hc => okL_le p2 (okA_le p1 hc)
theorem read0 {b : Nat → Int32} {L T : Nat} (hL : L ≤ 120) (hT : isT b L T) : ∀ (f fu t c n : Nat) (l : List Act) (m : MM), f < fu → n + f = 121 → CS b L T t false c 0 m → c ≤ 8 → ∃ r m', L_X1_read_25 kF kF fu (nI n) m = some (r, m') ∧ X21 m m' ∧ R0 b L T (pread b L f t c n l) r m' := by
  intro f
  induction f with
  | zero =>
    intro fu t c n l m hf hn h hc
    obtain ⟨g, rfl⟩ : ∃ g, fu = g + 1 := ⟨fu - 1, by omega⟩
    refine ⟨_, m, ?_, X21_rfl m, rfl⟩
    rw [L_X1_read_25, show n = 121 by omega, if_pos (by decide), kF_s hL hT h]
    rfl
  | succ f ih =>
    intro fu t c n l m hf hn h hc
    obtain ⟨g, rfl⟩ : ∃ g, fu = g + 1 := ⟨fu - 1, by omega⟩
    obtain ⟨m8, a1, a2, a3⟩ := item_x0 hL hT h hc
    have hB := pitem_b (c := c) hL hT h.2.1 hc
    rw [L_X1_read_25, if_neg (show ¬ (120 : Int32) < nI n from nI_nlt (a := 120) (b := n) (by omega) (by decide)), a1, bdr_s, jn0_s, pread_s]
    generalize pitem b L t c = x at a3 hB ⊢
    obtain ⟨t1, o⟩ := x
    cases o with
    | none =>
      obtain ⟨c', h8⟩ : ∃ c', CS b L T t1 true c' 0 m8 := a3
      refine ⟨-1 - nI (bg b L t1), m8, ?_, a2, rfl⟩
      rw [h8.2.2.2.1, if_neg (show ¬ b01 true = 0 by decide), if_neg (show ¬ b01 true = 0 by decide), kF_s hL hT h8]
    | some y =>
      obtain ⟨c1, l1⟩ := y
      have h8 : CS b L T t1 false c1 0 m8 := a3
      obtain ⟨b1, b2, b3, b4⟩ : t1 ≤ T ∧ t + 1 ≤ t1 ∧ 2 * l1.length ≤ t1 - t + 1 ∧ okL c l1 c1 := hB
      rw [h8.2.2.2.1, if_pos (show b01 false = 0 by decide), if_pos (show b01 false = 0 by decide), tok_x hL hT h8, tok_x hL hT h8]
      show ∃ r m', _ ∧ _ ∧ R0 b L T (if tk b L t1 = 20 then (t1, some (n, l ++ l1)) else if tk b L t1 = 18 then pread b L f (t1 + 1) c1 (n + 1) (l ++ l1) else (t1, none)) r m'
      by_cases q20 : tk b L t1 = 20
      · rw [if_pos q20, if_pos q20]
        exact ⟨_, m8, rfl, a2, rfl, (show n ≤ 121 by omega), h8.1⟩
      rw [if_neg q20, if_neg q20]
      by_cases q18 : tk b L t1 = 18
      · obtain ⟨m9, d1, d2, d3⟩ := adv_x hL hT h8 (lt_T hT b1 q20)
        obtain ⟨r, m', u1, u2, u3⟩ := ih g (t1 + 1) c1 (n + 1) (l ++ l1) m9 (by omega) (by omega) d3 (okL_le b4 hc)
        rw [if_pos q18, if_pos q18, d1, bdr_s, lt_s_, nI_1]
        exact ⟨r, m', u1, (a2.tr d2).tr u2, u3⟩
      · rw [if_neg q18, if_neg q18, kF_s hL hT h8]
        exact ⟨_, m8, rfl, a2, rfl⟩
theorem pread_n {b : Nat → Int32} {L : Nat} {o : Nat × List Act} : ∀ {f t c n : Nat} {l : List Act}, (pread b L f t c n l).2 = some o → ∃ l2, o.2 = l ++ l2
  | 0, t, c, n, l, h => by cases h
  | f + 1, t, c, n, l, h => by
    rw [pread_s] at h
    unfold post at h
    generalize pitem b L t c = x at h
    obtain ⟨t1, p⟩ := x
    cases p with
    | none => cases h
    | some y =>
      obtain ⟨c1, l1⟩ := y
      have h : (if tk b L t1 = 20 then (t1, some (n, l ++ l1)) else if tk b L t1 = 18 then pread b L f (t1 + 1) c1 (n + 1) (l ++ l1) else (t1, none)).2 = some o := h
      by_cases q20 : tk b L t1 = 20
      · rw [if_pos q20] at h
        have := Option.some.inj h
        exact ⟨l1, by rw [← this]⟩
      rw [if_neg q20] at h
      by_cases q18 : tk b L t1 = 18
      · rw [if_pos q18] at h
        obtain ⟨l2, e⟩ := pread_n h
        exact ⟨l1 ++ l2, by rw [e, List.append_assoc]⟩
      · rw [if_neg q18] at h
        cases h
theorem read1 {b : Nat → Int32} {L T : Nat} {o : Nat × List Act} (hL : L ≤ 120) (hT : isT b L T) : ∀ (f fu t c n : Nat) (l : List Act) (g : Nat → Int32) (m : MM), f < fu → n + f = 121 → CS b L T t false c 1 m → RN m 1 g → VN g c → (pread b L f t c n l).2 = some o → ∃ m' l2, L_X1_read_25 kF kF fu (nI n) m = some (nI o.1, m') ∧ X19 m m' ∧ o.2 = l ++ l2 ∧ RN m' 1 (l2.foldl ap g) := by
  intro f
  induction f with
  | zero =>
    intro fu t c n l g m hf hn h hR hV hp
    cases hp
  | succ f ih =>
    intro fu t c n l g m hf hn h hR hV hp
    have hc := hV.1
    obtain ⟨fu', rfl⟩ : ∃ g, fu = g + 1 := ⟨fu - 1, by omega⟩
    rw [pread_s] at hp
    have hsome : ∃ y, (pitem b L t c).2 = some y := by
      unfold post at hp
      generalize pitem b L t c = x at hp
      obtain ⟨t1, p⟩ := x
      cases p with
      | none => cases hp
      | some y => exact ⟨y, rfl⟩
    obtain ⟨m8, a1, a2, a3⟩ := item_x1 hL hT h hR hV hsome
    have hB := pitem_b (c := c) hL hT h.2.1 hc
    rw [L_X1_read_25, if_neg (show ¬ (120 : Int32) < nI n from nI_nlt (a := 120) (b := n) (by omega) (by decide)), a1, bdr_s, jn0_s]
    unfold post at hp
    generalize pitem b L t c = x at a3 hB hp hsome ⊢
    obtain ⟨t1, p⟩ := x
    cases p with
    | none =>
      obtain ⟨y, hy⟩ := hsome
      cases hy
    | some y =>
      obtain ⟨c1, l1⟩ := y
      obtain ⟨h8, R8⟩ : CS b L T t1 false c1 1 m8 ∧ RN m8 1 (l1.foldl ap g) := a3 (c1, l1) rfl
      obtain ⟨b1, b2, b3, b4⟩ : t1 ≤ T ∧ t + 1 ≤ t1 ∧ 2 * l1.length ≤ t1 - t + 1 ∧ okL c l1 c1 := hB
      have V8 : VN (l1.foldl ap g) c1 := by
        have : ∀ (l : List Act) (c c' : Nat) (g : Nat → Int32), okL c l c' → VN g c → VN (l.foldl ap g) c' := by
          intro l
          induction l with
          | nil => intro c c' g h hv; have h : c = c' := h; subst h; exact hv
          | cons x l ih2 => intro c c' g ⟨c2, p1, p2⟩ hv; exact ih2 c2 c' (ap g x) p2 (ap_ok p1 hv)
        exact this l1 c c1 g b4 hV
      have hp : (if tk b L t1 = 20 then (t1, some (n, l ++ l1)) else if tk b L t1 = 18 then pread b L f (t1 + 1) c1 (n + 1) (l ++ l1) else (t1, none)).2 = some o := hp
      rw [h8.2.2.2.1, if_pos (show b01 false = 0 by decide), if_pos (show b01 false = 0 by decide), tok_x hL hT h8, tok_x hL hT h8]
      by_cases q20 : tk b L t1 = 20
      · rw [if_pos q20] at hp
        have := Option.some.inj hp
        subst this
        rw [if_pos q20]
        exact ⟨m8, l1, rfl, a2, rfl, R8⟩
      rw [if_neg q20] at hp ⊢
      by_cases q18 : tk b L t1 = 18
      · rw [if_pos q18] at hp
        obtain ⟨m9, d1, d2, d3⟩ := adv_x hL hT h8 (lt_T hT b1 q20)
        obtain ⟨m', l2, u1, u2, u3, u4⟩ := ih fu' (t1 + 1) c1 (n + 1) (l ++ l1) (l1.foldl ap g) m9 (by omega) (by omega) d3 (d2.rn R8) V8 hp
        rw [if_pos q18, d1, bdr_s, lt_s_, nI_1]
        exact ⟨m', l1 ++ l2, u1, (a2.tr d2.n).tr u2, by rw [u3, List.append_assoc], by rw [List.foldl_append]; exact u4⟩
      · rw [if_neg q18] at hp
        cases hp
theorem readS {b : Nat → Int32} {L T c : Nat} {a : Int32} {m : MM} (ha : a = 0 ∨ a = 1) (h : CT b L T m) (h0 : m 1 0 = nI c) : ∃ m', f_X1_read a m = L_X1_read_25 kF kF FU (nI 1) m' ∧ X21 m m' ∧ CS b L T 0 false c a m' := by
  refine ⟨wst (wst (wst (wst m 21 5 a) 21 6 0) 21 7 (nI c)) 21 4 0, ?_, ((X21_w.tr X21_w).tr X21_w).tr X21_w, CT_w (CT_w (CT_w (CT_w h (by decide)) (by decide)) (by decide)) (by decide), Nat.zero_le _, by rw [wst_at, upd_at]; rfl, by rw [wst_at, upd_o (by decide), wst_at, upd_o (by decide), wst_at, upd_at]; rfl, by rw [wst_at, upd_o (by decide), wst_at, upd_at], by rw [wst_at, upd_o (by decide), wst_at, upd_o (by decide), wst_at, upd_o (by decide), wst_at, upd_at]⟩
  unfold f_X1_read
  rw [gd_t ha, lt_s_, gd_t (Or.inl rfl), lt_s_, lt_s_, wst_o (show (1 : Nat) ≠ 21 by decide), wst_o (show (1 : Nat) ≠ 21 by decide), h0, lt_s_, jn1_s, jn1_s]
  rfl
theorem Rel_text {μ μ2 : MM} (h : Rel μ) (e : ∀ k, (k = 0 ∨ (10 ≤ k ∧ k ≤ 18) ∨ (25 ≤ k ∧ k ≤ 34) ∨ k = 39 ∨ k = 41 ∨ k = 42 ∨ k = 43 ∨ (47 ≤ k ∧ k ≤ 49)) → μ2 k = μ k) (e3 : μ2 37 3 = μ 37 3) (e19 : μ2 19 1 = 0) (e11 : μ2 37 11 = 0) (hR : RN μ2 1 (μ2 38)) (hV : ∃ n, VN (μ2 38) n) : Rel μ2 := by
  obtain ⟨h1, h2, h3, h4, h5, h6, h7⟩ := h
  refine ⟨hR, hV, RK_fr (by rw [e 0 (by omega)]) e3 (fun k a b => e k (by omega)) (e 39 (by omega)) h3, RF_fr (e 34 (by omega)) (e 41 (by omega)) h4, ⟨0, by decide, e19, e11, fun i hi => absurd hi (Nat.not_lt_zero i)⟩, RS_fr (fun k a b => e k (by omega)) (e 47 (by omega)) (e 48 (by omega)) (e 49 (by omega)) h6, RC_fr (e 42 (by omega)) (e 43 (by omega)) h7⟩
theorem s_text : Two f_X4_text f_X5_text := by
  intro μ h
  obtain ⟨c, hc8, hV, hcm, hcx⟩ := h.cats
  obtain ⟨L, hL, e19, e11, hby⟩ := h.2.2.2.2.1
  have hX : XT (μ 44) L μ := ⟨e19, fun i hi => (hby i hi).1⟩
  have hb : ∀ i, i < L → bn (μ 44 i) 255 := fun i hi => (hby i hi).2
  obtain ⟨T, m1, s1, hT, s3, s4⟩ := scan_s hL hX
  obtain ⟨m2, r1, r2, r3⟩ := readS (c := c) (Or.inl rfl) s3 (by rw [s4 1 (by omega), hcx])
  obtain ⟨x1, m3, p1, p2, p3⟩ := read0 hL hT 120 FU 0 c 1 [] m2 (by decide) (by decide) r3 hc8
  have x13 : ∀ k, ¬ (21 ≤ k ∧ k ≤ 24) → m3 k = μ k := fun k hk => by rw [p2 k (by omega), r2 k (by omega), s4 k hk]
  have ex : f_X4_text μ = if x1 < 0 then some (x1, wst m3 19 1 0) else bdw (f_X1_read 1 m3) fun x3 m5 => some (x3, wst m5 19 1 0) := by
    unfold f_X4_text
    simp only [jn2_s, lt_s_]
    rw [s1, bdr_s, r1, p1, bdw_s]
  have fault : (pread (μ 44) L 120 0 c 1 []).2 = none → ∃ r μ1 μ2, f_X4_text μ = some (r, μ1) ∧ f_X5_text μ1 = some (r, μ2) ∧ Rel μ2 := fun hn => by
    have hM : MT (μ 44) L (wst m3 19 1 0) := ⟨by rw [wst_o (by decide), x13 37 (by omega), e11], fun i hi => by rw [wst_o (by decide), x13 44 (by omega)]⟩
    have e38 : wst m3 19 1 0 38 = μ 38 := by rw [wst_o (by decide), x13 38 (by omega)]
    obtain ⟨r, m', t1, t2, t3, t4, t5⟩ := text_m (c := c) hL hb hT hM (by rw [e38]; exact hV)
    rw [e38] at t5
    generalize pread (μ 44) L 120 0 c 1 [] = x at hn p3 t5
    obtain ⟨tf, o⟩ := x
    have hn : o = none := hn
    subst hn
    have p3 : x1 = -1 - nI (bg (μ 44) L tf) := p3
    obtain ⟨t6, t7⟩ : r = -1 - nI (bg (μ 44) L tf) ∧ ∀ j, j < 152 → m' 38 j = μ 38 j := t5
    have hbg := (bg_le (b := μ 44) hL tf).1
    have hneg : x1 < 0 := by
      rw [p3, fa_lt', fb_subI (by rw [nI_toInt (by omega), show ((-1 : Int32)).toInt = -1 from by decide]; omega) (by rw [nI_toInt (by omega), show ((-1 : Int32)).toInt = -1 from by decide]; omega), nI_toInt (by omega), show ((-1 : Int32)).toInt = -1 from by decide, show ((0 : Int32)).toInt = 0 from by decide]
      omega
    refine ⟨x1, wst m3 19 1 0, m', by rw [ex, if_pos hneg], by rw [t1, t6, p3], ?_⟩
    refine Rel_text h (fun k hk => by rw [t2 k (by omega) (by omega) (by omega), wst_o (by omega), x13 k (by omega)]) (by rw [t3, wst_o (by decide), x13 37 (by omega)]) (by rw [t2 19 (by decide) (by decide) (by decide), wst_at, upd_at]) t4 ?_ ⟨c, VN_cong t7 hV⟩
    exact RN_cong t7 (RN_fr (fun k a b => by rw [t2 k (by omega) (by omega) (by omega), wst_o (by omega), x13 k (by omega)]) h.1)
  have good : ∀ o, (pread (μ 44) L 120 0 c 1 []).2 = some o → ∃ r μ1 μ2, f_X4_text μ = some (r, μ1) ∧ f_X5_text μ1 = some (r, μ2) ∧ Rel μ2 := fun o ho => by
    have hCT : CT (μ 44) L T m3 ∧ x1 = nI o.1 ∧ o.1 ≤ 121 := by
      generalize pread (μ 44) L 120 0 c 1 [] = x at ho p3
      obtain ⟨tf, q⟩ := x
      have ho : q = some o := ho
      subst ho
      obtain ⟨q1, q2, q3⟩ : x1 = nI o.1 ∧ o.1 ≤ 121 ∧ CT (μ 44) L T m3 := p3
      exact ⟨q3, q1, q2⟩
    obtain ⟨m4, v1, v2, v3⟩ := readS (c := c) (Or.inr rfl) hCT.1 (by rw [x13 1 (by omega), hcx])
    have R4 : RN m4 1 (μ 38) := RN_fr (fun k a b => by rw [v2 k (by omega), x13 k (by omega)]) h.1
    obtain ⟨m5, l2, w1, w2, w3, w4⟩ := read1 hL hT 120 FU 0 c 1 [] (μ 38) m4 (by decide) (by decide) v3 R4 hV ho
    have w3 : o.2 = l2 := w3
    have x15 : ∀ k, ¬ (21 ≤ k ∧ k ≤ 24) → ¬ (1 ≤ k ∧ k ≤ 9) → m5 k = μ k := fun k hk hk2 => by rw [w2 k (by omega) hk2, v2 k (by omega), x13 k hk]
    have hM : MT (μ 44) L (wst m5 19 1 0) := ⟨by rw [wst_o (by decide), x15 37 (by omega) (by omega), e11], fun i hi => by rw [wst_o (by decide), x15 44 (by omega) (by omega)]⟩
    have e38 : wst m5 19 1 0 38 = μ 38 := by rw [wst_o (by decide), x15 38 (by omega) (by omega)]
    obtain ⟨r, m', t1, t2, t3, t4, t5⟩ := text_m (c := c) hL hb hT hM (by rw [e38]; exact hV)
    rw [e38] at t5
    have t6 : r = nI o.1 ∧ ∃ c', VN (o.2.foldl ap (μ 38)) c' ∧ ∀ j, j < 152 → m' 38 j = o.2.foldl ap (μ 38) j := by
      generalize pread (μ 44) L 120 0 c 1 [] = x at ho t5
      obtain ⟨tf, q⟩ := x
      have ho : q = some o := ho
      subst ho
      exact t5
    obtain ⟨t7, c', t8, t9⟩ := t6
    rw [w3] at t8 t9
    refine ⟨nI o.1, wst m5 19 1 0, m', ?_, by rw [t1, t7], ?_⟩
    · rw [ex, hCT.2.1, if_neg (nI_pos (by have := hCT.2.2; omega)), v1, w1, bdw_s]
    refine Rel_text h (fun k hk => by rw [t2 k (by omega) (by omega) (by omega), wst_o (by omega), x15 k (by omega) (by omega)]) (by rw [t3, wst_o (by decide), x15 37 (by omega) (by omega)]) (by rw [t2 19 (by decide) (by decide) (by decide), wst_at, upd_at]) t4 ?_ ⟨c', VN_cong t9 t8⟩
    exact RN_cong t9 (RN_fr (fun k a b => by rw [t2 k (by omega) (by omega) (by omega), wst_o (by omega)]) w4)
  cases hq : (pread (μ 44) L 120 0 c 1 []).2 with
  | none => exact fault hq
  | some o => exact good o hq
