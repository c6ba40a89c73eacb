/-! ===== the reference: a whole text ===== -/
def post (b : Nat → Int32) (L : Nat) (x : Nat × Option (Nat × List Act)) (f n : Nat) (l : List Act) : Nat × Option (Nat × List Act) := match x.2 with
  | none => (x.1, none)
  | some y => if tk b L x.1 = 20 then (x.1, some (n, l ++ y.2)) else if tk b L x.1 = 18 then pread b L f (x.1 + 1) y.1 (n + 1) (l ++ y.2) else (x.1, none)
theorem pread_s (b : Nat → Int32) (L f t c n : Nat) (l : List Act) : pread b L (f + 1) t c n l = post b L (pitem b L t c) f n l := rfl
/-- how the reading ended: before what must be the end -/
def Fn (b : Nat → Int32) (L c0 : Nat) (x : Nat × Option (Nat × List Act)) (m : MM) : Prop := match x.2 with
  | none => RM b L x.1 true m ∨ (RM b L x.1 false m ∧ ¬ tk b L x.1 = 20)
  | some y => RM b L x.1 false m ∧ tk b L x.1 = 20 ∧ IT m y.2 ∧ m 37 20 = nI y.1 ∧ y.2.length ≤ 120 ∧ ∃ c', okL c0 y.2 c'
theorem txLoop {b : Nat → Int32} {L T c0 : Nat} (hL : L ≤ 120) (hb : ∀ i, i < L → bn (b i) 255) (hT : isT b L T) (hc0 : c0 ≤ 8) (k3 : MM → Option (Int32 × MM)) : ∀ (f fu t c n : Nat) (l : List Act) (m : MM), f < fu → n + f = 120 → 1 ≤ n → 2 * (n - 1) ≤ t → t ≤ T → 2 * l.length ≤ t → okL c0 l c → c ≤ 8 → m 37 20 = nI n → Ir b L (pitem b L t c) l m → ∃ m', L_X5_text_38 k3 fu m = k3 m' ∧ Pf m m' ∧ Fn b L c0 (post b L (pitem b L t c) f n l) m' := by
  intro f
  induction f with
  | zero =>
    intro fu t c n l m hf hn h1 h2 ht
    have := T_120 hL hT
    omega
  | succ f ih =>
    intro fu t c n l m hf hn h1 h2 ht hl ho hc h20 hI
    obtain ⟨g, rfl⟩ : ∃ g, fu = g + 1 := ⟨fu - 1, by omega⟩
    have hT120 := T_120 hL hT
    have hB := pitem_b (c := c) hL hT ht hc
    generalize hx : pitem b L t c = x at hI hB ⊢
    obtain ⟨t1, o⟩ := x
    cases o with
    | none =>
      have hI : RM b L t1 true m := hI
      refine ⟨m, ?_, (Nf_rfl m).pf, Or.inl hI⟩
      rw [L_X5_text_38, hI.2.2, if_neg (by decide)]
    | some y =>
      obtain ⟨c1, a⟩ := y
      obtain ⟨r1, i1, e21⟩ : RM b L t1 false m ∧ IT m (l ++ a) ∧ m 37 21 = nI c1 := hI
      obtain ⟨b1, b2, b3, b4⟩ : t1 ≤ T ∧ t + 1 ≤ t1 ∧ 2 * a.length ≤ t1 - t + 1 ∧ okL c a c1 := hB
      obtain ⟨s1, s2, s3, s4, s5⟩ := sp_tk r1.2.1
      have hlen : (l ++ a).length = l.length + a.length := List.length_append
      show ∃ m', _ ∧ _ ∧ Fn b L c0 (if tk b L t1 = 20 then (t1, some (n, l ++ a)) else if tk b L t1 = 18 then pread b L (f + 1) (t1 + 1) c1 (n + 1) (l ++ a) else (t1, none)) m'
      by_cases q20 : tk b L t1 = 20
      · have e14 := s3.mpr q20
        rw [if_pos q20]
        refine ⟨m, ?_, (Nf_rfl m).pf, r1, q20, i1, h20, (show (l ++ a).length ≤ 120 by omega), c1, okL_app ho b4⟩
        rw [L_X5_text_38, r1.2.2, if_pos (by decide), e14, if_neg (by decide)]
      rw [if_neg q20]
      by_cases q18 : tk b L t1 = 18
      · have e14 := s5 (Or.inl q18)
        have ebt := (sg_45 _).2.mp ((s4 e14).2.symm.trans q18)
        obtain ⟨m1, d1, d2, d3⟩ := must_1 hL hb r1
        have ht2 := lt_T hT b1 q20
        have hc1 : c1 ≤ 8 := by
          have : ∀ (l : List Act) (c c' : Nat), okL c l c' → c ≤ 8 → c' ≤ 8 := by
            intro l
            induction l with
            | nil => intro c c' h hc; have h : c = c' := h; omega
            | cons x l ih2 => intro c c' ⟨c2, p1, p2⟩ hc; exact ih2 c2 c' p2 (okA_le p1 hc)
          exact this a c c1 b4 hc
        obtain ⟨m2, p1, p2, p3, p4⟩ := rItem_s (n := n) hL hb (show m1 37 21 = nI c1 by rw [d2.2 21 (by omega), e21]) hc1 (by rw [d2.2 20 (by omega), h20]) d3 (d2.it i1) (by omega)
        rw [if_pos q18, pread_s]
        obtain ⟨m3, u1, u2, u3⟩ := ih g (t1 + 1) c1 (n + 1) (l ++ a) m2 (by omega) (by omega) (by omega) (by omega) (by omega) (by omega) (okL_app ho b4) hc1 p3 p4
        refine ⟨m3, ?_, (d2.pf.tr p2).tr u2, u3⟩
        rw [L_X5_text_38, r1.2.2, if_pos (by decide), if_pos e14, r1.2.1.1, ldi_n (show bg b L t1 < 120 by have := (s4 e14).1; omega) (by decide), r1.1.2 _ (s4 e14).1, if_pos ebt, d1, bdr_s, p1, bdr_s]
        exact u1
      · rw [if_neg q18]
        refine ⟨m, ?_, (Nf_rfl m).pf, Or.inr ⟨r1, q20⟩⟩
        rw [L_X5_text_38, r1.2.2, if_pos (by decide)]
        by_cases e14 : m 37 14 = 3
        · rw [if_pos e14, r1.2.1.1, ldi_n (show bg b L t1 < 120 by have := (s4 e14).1; omega) (by decide), r1.1.2 _ (s4 e14).1, if_neg (fun z => q18 ((s4 e14).2.trans ((sg_45 _).2.mpr z)))]
        · rw [if_neg e14]
/-- how a text ended -/
def Tx (b : Nat → Int32) (L : Nat) (g : Nat → Int32) (x : Nat × Option (Nat × List Act)) (r : Int32) (h : Nat → Int32) : Prop := match x.2 with
  | none => r = -1 - nI (bg b L x.1) ∧ ∀ j, j < 152 → h j = g j
  | some y => r = nI y.1 ∧ ∃ c', VN (y.2.foldl ap g) c' ∧ ∀ j, j < 152 → h j = y.2.foldl ap g j
theorem text_m {b : Nat → Int32} {L T c : Nat} {m : MM} (hL : L ≤ 120) (hb : ∀ i, i < L → bn (b i) 255) (hT : isT b L T) (hM : MT b L m) (hV : VN (m 38) c) : ∃ r m', f_X5_text m = some (r, m') ∧ (∀ k, k ≠ 37 → k ≠ 38 → k ≠ 46 → m' k = m k) ∧ m' 37 3 = m 37 3 ∧ m' 37 11 = 0 ∧ Tx b L (m 38) (pread b L 120 0 c 1 []) r (m' 38) := by
  have hc := hV.1
  unfold f_X5_text
  rw [lt_s_, gd_t (Or.inl rfl), lt_s_, lt_s_, lt_s_, show (4 : Int32) = nI 4 from rfl, ldi_n (show 4 < 152 by decide) (by decide), lt_s_, wst_o (show (38 : Nat) ≠ 37 by decide), wst_o (show (38 : Nat) ≠ 37 by decide), wst_o (show (38 : Nat) ≠ 37 by decide), wst_o (show (38 : Nat) ≠ 37 by decide), hV.cats]
  generalize hm5 : wst (wst (wst (wst (wst m 37 13 0) 37 16 0) 37 19 0) 37 20 0) 37 21 (nI c) = m5
  have f5 : Pf m m5 := by
    rw [← hm5]
    exact ((((Nf_w (by omega)).pf.tr (Nf_w (by omega)).pf).tr (Pf_w (by omega))).tr (Pf_w (by omega))).tr (Pf_w (by omega))
  have e13 : m5 37 13 = nI 0 := by rw [← hm5, wst_at, upd_o (by decide), wst_at, upd_o (by decide), wst_at, upd_o (by decide), wst_at, upd_o (by decide), wst_at, upd_at]; rfl
  have e16 : m5 37 16 = b01 false := by rw [← hm5, wst_at, upd_o (by decide), wst_at, upd_o (by decide), wst_at, upd_o (by decide), wst_at, upd_at]; rfl
  have e19 : m5 37 19 = nI 0 := by rw [← hm5, wst_at, upd_o (by decide), wst_at, upd_o (by decide), wst_at, upd_at]; rfl
  have e20 : m5 37 20 = nI 0 := by rw [← hm5, wst_at, upd_o (by decide), wst_at, upd_at]; rfl
  have e21 : m5 37 21 = nI c := by rw [← hm5, wst_at, upd_at]
  have M5 : MT b L m5 := ⟨by rw [f5.2 11 (by omega) (by omega)]; exact hM.1, fun i hi => by rw [f5.1 44 (by decide) (by decide)]; exact hM.2 i hi⟩
  obtain ⟨m6, a1, a2, a3, a4⟩ := next_s hL hb M5 (Nat.zero_le L) e13
  have r6 : RM b L 0 false m6 := ⟨a2.mt M5, a3, a4.trans e16⟩
  obtain ⟨m7, b1, b2, b3, b4⟩ := rItem_s (l := []) (c := c) (n := 0) hL hb (by rw [a2.2 21 (by omega), e21]) hc (by rw [a2.2 20 (by omega), e20]) r6 ⟨by rw [a2.2 19 (by omega), e19]; rfl, fun i hi => absurd hi (Nat.not_lt_zero i)⟩ (by decide)
  rw [a1, bdr_s, b1, bdr_s, jn1_s]
  generalize hk3 : (fun (m8 : MM) => jn1 (fun (x2 : Int32) => bdr (f_X5_must x2 m8) fun m9 => lt_ (wst m9 37 11 0) fun m10 => if (m10 37 16) = 0 then (jn2 (fun (x3 : Int32) (m11 : MM) => if (-15) ≤ x3 then (some ((m11 37 20), m11)) else (some (x3, m11))) fun k1 => L_X5_text_118 k1 FU 0 0 m10) else (some (((-1) - (m10 37 12)), m10))) fun k2 => if (m8 37 14) = 0 then (k2 1) else (k2 0)) = k3
  obtain ⟨m8, d1, d2, d3⟩ := txLoop hL hb hT hc k3 119 FU 0 c 1 [] m7 (by decide) (by decide) (by decide) (by decide) (Nat.zero_le _) (by decide) rfl hc b3 b4
  rw [← pread_s] at d3
  have F8 : Pf m m8 := ((f5.tr a2.pf).tr b2).tr d2
  rw [d1, ← hk3]
  simp only [jn1_s]
  have wr : ∀ m9 t, RM b L t true m9 → Pf m m9 → (wst m9 37 11 0) 37 16 = b01 true ∧ (wst m9 37 11 0) 37 12 = nI (bg b L t) := fun m9 t h9 _ => ⟨by rw [wst_at, upd_o (by decide), h9.2.2], by rw [wst_at, upd_o (by decide), h9.2.1.1]⟩
  have fr : ∀ m9, Pf m m9 → (∀ k, k ≠ 37 → k ≠ 38 → k ≠ 46 → wst m9 37 11 0 k = m k) ∧ wst m9 37 11 0 37 3 = m 37 3 ∧ wst m9 37 11 0 37 11 = 0 ∧ wst m9 37 11 0 38 = m 38 := fun m9 h9 => ⟨fun k x y z => by rw [wst_o x, h9.1 k x z], by rw [wst_at, upd_o (by decide), h9.2 3 (by omega) (by omega)], by rw [wst_at, upd_at], by rw [wst_o (by decide), h9.1 38 (by decide) (by decide)]⟩
  generalize pread b L 120 0 c 1 [] = x at d3 ⊢
  obtain ⟨tf, o⟩ := x
  cases o with
  | none =>
    have fault : ∀ (x : Int32) (m9 : MM), f_X5_must x m8 = some m9 → Nf m8 m9 → RM b L tf true m9 → ∃ r m', (bdr (f_X5_must x m8) fun m9 => lt_ (wst m9 37 11 0) fun m10 => if (m10 37 16) = 0 then (jn2 (fun (x3 : Int32) (m11 : MM) => if (-15) ≤ x3 then (some ((m11 37 20), m11)) else (some (x3, m11))) fun k1 => L_X5_text_118 k1 FU 0 0 m10) else (some (((-1) - (m10 37 12)), m10))) = some (r, m') ∧ (∀ k, k ≠ 37 → k ≠ 38 → k ≠ 46 → m' k = m k) ∧ m' 37 3 = m 37 3 ∧ m' 37 11 = 0 ∧ Tx b L (m 38) (tf, none) r (m' 38) := fun x m9 p1 p2 p3 => by
      obtain ⟨w1, w2⟩ := wr m9 tf p3 (F8.tr p2.pf)
      obtain ⟨g1, g2, g3, g4⟩ := fr m9 (F8.tr p2.pf)
      refine ⟨-1 - nI (bg b L tf), wst m9 37 11 0, ?_, g1, g2, g3, rfl, fun j _ => by rw [g4]⟩
      rw [p1, bdr_s, lt_s_, w1, if_neg (by decide), w2]
    rcases d3 with h | ⟨h, hne⟩
    · obtain ⟨m9, p1, p2, p3⟩ := must_w 1 h
      obtain ⟨m9', p1', p2', p3'⟩ := must_w 0 h
      by_cases q : m8 37 14 = 0
      · rw [if_pos q]
        exact fault 1 m9 p1 p2 p3
      · rw [if_neg q]
        exact fault 0 m9' p1' p2' p3'
    · obtain ⟨m9, p1, p2, p3⟩ := must_0 h
      rw [if_neg (fun z => hne ((sp_tk h.2.1).2.2.1.mp z))]
      exact fault 0 m9 p1 p2 p3
  | some y =>
    obtain ⟨n, l⟩ := y
    obtain ⟨h, h20, hI, e8, hlen, c', ho⟩ : RM b L tf false m8 ∧ tk b L tf = 20 ∧ IT m8 l ∧ m8 37 20 = nI n ∧ l.length ≤ 120 ∧ ∃ c', okL c l c' := d3
    obtain ⟨m9, p1, p2, p3⟩ := must_1 hL hb h
    obtain ⟨g1, g2, g3, g4⟩ := fr m9 (F8.tr p2.pf)
    have i10 : IT (wst m9 37 11 0) l := ⟨by rw [wst_at, upd_o (by decide)]; exact (p2.it hI).1, fun i hi => by rw [wst_o (by decide)]; exact (p2.it hI).2 i hi⟩
    have e10 : wst m9 37 11 0 37 20 = nI n := by rw [wst_at, upd_o (by decide), p2.2 20 (by omega), e8]
    have e16 : wst m9 37 11 0 37 16 = 0 := by rw [wst_at, upd_o (by decide), p3.2.2]; rfl
    rw [if_pos ((sp_tk h.2.1).2.2.1.mpr h20), p1, bdr_s, lt_s_, if_pos e16, jn2_s]
    generalize wst m9 37 11 0 = m10 at g1 g2 g3 g4 i10 e10 e16 ⊢
    obtain ⟨r, m11, u1, u2, u3, u4, u5⟩ := actLoop hlen (fun (x3 : Int32) (m11 : MM) => if (-15) ≤ x3 then (some ((m11 37 20), m11)) else (some (x3, m11))) l 0 FU c c' 0 (m 38) m10 rfl (Nat.zero_le _) (show l.length < 4096 by omega) ho hV i10 (fun j _ => by rw [g4]) (by decide)
    refine ⟨nI n, m11, (show _ = _ from u1).trans ?_, fun k x y z => by rw [u3 k y, g1 k x y z], by rw [u3 37 (by decide), g2], by rw [u3 37 (by decide), g3], rfl, c', u5, u4⟩
    rw [if_pos u2, u3 37 (by decide), e10]
