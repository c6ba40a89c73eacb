/-! ===== the reference: the token that is looked at ===== -/
theorem wst_2 (m : MM) (k i : Nat) (x y : Int32) : wst (wst m k i x) k i y = wst m k i y := by
  funext q
  by_cases z : q = k
  · subst z
    rw [wst_at, wst_at, wst_at]
    funext j
    by_cases z2 : j = i
    · subst z2
      rw [upd_at, upd_at]
    · rw [upd_o z2, upd_o z2, upd_o z2]
  · rw [wst_o z, wst_o z, wst_o z]
theorem wst_c (m : MM) (k : Nat) {i j : Nat} (h : i ≠ j) (x y : Int32) : wst (wst m k i x) k j y = wst (wst m k j y) k i x := by
  funext q
  by_cases z : q = k
  · subst z
    rw [wst_at, wst_at, wst_at, wst_at]
    funext a
    by_cases z2 : a = i
    · subst z2
      rw [upd_o h, upd_at, upd_at]
    · by_cases z3 : a = j
      · subst z3
        rw [upd_at, upd_o z2, upd_at]
      · rw [upd_o z3, upd_o z2, upd_o z2, upd_o z3]
  · rw [wst_o z, wst_o z, wst_o z, wst_o z]
theorem imin_comm (x y : Int32) : imin x y = imin y x := by
  unfold imin
  by_cases h : y < x
  · rw [if_pos h, if_neg (fun z => Int32.lt_irrefl (Int32.lt_trans h z))]
  · rw [if_neg h]
    by_cases h2 : x < y
    · rw [if_pos h2]
    · rw [if_neg h2]
      exact Int32.le_antisymm (Int32.not_lt.mp h) (Int32.not_lt.mp h2)
/-- the reference's tape -/
def MT (b : Nat → Int32) (L : Nat) (m : MM) : Prop := m 37 11 = nI L ∧ ∀ i, i < L → m 44 i = b i
theorem MT_w {b : Nat → Int32} {L i : Nat} {m : MM} {v : Int32} (h : MT b L m) (hi : i ≠ 11) : MT b L (wst m 37 i v) := ⟨by rw [wst_at, upd_o hi.symm]; exact h.1, fun j hj => by rw [wst_o (by decide)]; exact h.2 j hj⟩
theorem byteAt_s {b : Nat → Int32} {L k : Nat} {m : MM} (hL : L ≤ 120) (h : MT b L m) (hk : k ≤ L) : f_X5_byteAt (nI k) m = some (if k < L then b k else -1) := by
  unfold f_X5_byteAt
  rw [h.1]
  by_cases q : k < L
  · rw [if_neg (nI_ge q (by omega)), if_pos q, ldi_n (show k < 120 by omega) (by decide), h.2 k q]
  · rw [if_pos ((le_nn (by omega) (by omega)).mpr (by omega)), if_neg q]
theorem sp_loop {b : Nat → Int32} {L : Nat} (hL : L ≤ 120) (k1 : MM → Option MM) : ∀ (d k fu : Nat) (m : MM), k + d = L → d < fu → MT b L m → L_X5_next_8 k1 fu (wst m 37 12 (nI k)) = k1 (wst m 37 12 (nI (skT b L k))) := by
  intro d
  induction d with
  | zero =>
    intro k fu m hk hf h
    obtain ⟨f, rfl⟩ : ∃ f, fu = f + 1 := ⟨fu - 1, by omega⟩
    have e : skT b L k = k := run_f (Bd_iSp b L k (by omega))
    rw [L_X5_next_8, wst_at, upd_at, byteAt_s hL (MT_w h (by decide)) (by omega), if_neg (by omega), bdr_s, if_neg (by decide), e]
  | succ d ih =>
    intro k fu m hk hf h
    obtain ⟨f, rfl⟩ : ∃ f, fu = f + 1 := ⟨fu - 1, by omega⟩
    rw [L_X5_next_8, wst_at, upd_at, byteAt_s hL (MT_w h (by decide)) (by omega), if_pos (by omega), bdr_s]
    by_cases q : b k = 32
    · have e : skT b L k = skT b L (k + 1) := run_t (Bd_iSp b L) hL (by rw [iSp_s (by omega), decide_eq_true q])
      rw [if_pos q, lt_s_, nI_1, wst_2, ih (k + 1) f m (by omega) (by omega) h, e]
    · have e : skT b L k = k := run_f (by rw [iSp_s (by omega), decide_eq_false q])
      rw [if_neg q, e]
theorem wd_loop {b : Nat → Int32} {L : Nat} (hL : L ≤ 120) : ∀ (d k fu : Nat) (m : MM), k + d = L → d < fu → MT b L m → L_X5_next_84 fu (wst m 37 13 (nI k)) = some (wst m 37 13 (nI (run (Lt b L) k))) := by
  intro d
  induction d with
  | zero =>
    intro k fu m hk hf h
    obtain ⟨f, rfl⟩ : ∃ f, fu = f + 1 := ⟨fu - 1, by omega⟩
    have e : run (Lt b L) k = k := run_f (Bd_inr b L 97 122 k (by omega))
    rw [L_X5_next_84, wst_at, upd_at, byteAt_s hL (MT_w h (by decide)) (by omega), if_neg (by omega), bdr_s, within_s, bdr_s, if_pos (by decide), e]
  | succ d ih =>
    intro k fu m hk hf h
    obtain ⟨f, rfl⟩ : ∃ f, fu = f + 1 := ⟨fu - 1, by omega⟩
    rw [L_X5_next_84, wst_at, upd_at, byteAt_s hL (MT_w h (by decide)) (by omega), if_pos (by omega), bdr_s, within_s, bdr_s]
    by_cases q : wi (b k) 97 122 = 0
    · have e : run (Lt b L) k = k := run_f (by unfold Lt; rw [inr_s (by omega), decide_eq_false (fun z => z q)])
      rw [if_pos q, e]
    · have e : run (Lt b L) k = run (Lt b L) (k + 1) := run_t (Bd_inr b L 97 122) hL (by unfold Lt; rw [inr_s (by omega), decide_eq_true q])
      rw [if_neg q, lt_s_, nI_1, wst_2, ih (k + 1) f m (by omega) (by omega) h, e]
theorem nm_loop {b : Nat → Int32} {L : Nat} (hL : L ≤ 120) : ∀ (d k fu : Nat) (m : MM) (a : Int32), k + d = L → d < fu → MT b L m → L_X5_next_131 fu (wst (wst m 37 15 a) 37 13 (nI k)) = some (wst (wst m 37 15 (vl b k (run (Dg b L) k - k) a)) 37 13 (nI (run (Dg b L) k))) := by
  intro d
  induction d with
  | zero =>
    intro k fu m a hk hf h
    obtain ⟨f, rfl⟩ : ∃ f, fu = f + 1 := ⟨fu - 1, by omega⟩
    have e : run (Dg b L) k = k := run_f (Bd_inr b L 48 57 k (by omega))
    rw [L_X5_next_131, wst_at, upd_at, byteAt_s hL (MT_w (MT_w h (by decide)) (by decide)) (by omega), if_neg (by omega), bdr_s, within_s, bdr_s, if_pos (by decide), e, Nat.sub_self]
    rfl
  | succ d ih =>
    intro k fu m a hk hf h
    obtain ⟨f, rfl⟩ : ∃ f, fu = f + 1 := ⟨fu - 1, by omega⟩
    rw [L_X5_next_131, wst_at, upd_at, byteAt_s hL (MT_w (MT_w h (by decide)) (by decide)) (by omega), if_pos (by omega), bdr_s, within_s, bdr_s, bdr_s]
    by_cases q : wi (b k) 48 57 = 0
    · have e : run (Dg b L) k = k := run_f (by unfold Dg; rw [inr_s (by omega), decide_eq_false (fun z => z q)])
      rw [if_pos q, e, Nat.sub_self]
      rfl
    · have hq : Dg b L k = true := by unfold Dg; rw [inr_s (by omega), decide_eq_true q]
      have e : run (Dg b L) k = run (Dg b L) (k + 1) := run_t (Bd_inr b L 48 57) hL hq
      have hl := run_lt (Bd_inr b L 48 57) hL hq
      have e2 : run (Dg b L) k - k = (run (Dg b L) (k + 1) - (k + 1)) + 1 := by
        have : k < run (Dg b L) k := hl
        omega
      rw [if_neg q, lt_s_, lt_s_, upd_o (by decide), wst_at, upd_at, Int32.mul_comm, imin_comm]
      rw [show wst (wst (wst (wst m 37 15 a) 37 13 (nI k)) 37 15 (imin (a * 10 + b k - 48) 100000)) 37 13 (wst (wst (wst m 37 15 a) 37 13 (nI k)) 37 15 (imin (a * 10 + b k - 48) 100000) 37 13 + 1) = wst (wst m 37 15 (imin (a * 10 + b k - 48) 100000)) 37 13 (nI (k + 1)) from by
        rw [wst_at, upd_o (show (13 : Nat) ≠ 15 by decide), wst_at, upd_at, nI_1, wst_c _ _ (show (15 : Nat) ≠ 13 by decide), wst_2, wst_c m 37 (show (15 : Nat) ≠ 13 by decide) a, wst_c _ _ (show (15 : Nat) ≠ 13 by decide), wst_2, wst_c _ _ (show (13 : Nat) ≠ 15 by decide)]]
      rw [ih (k + 1) f m _ (by omega) (by omega) h, e2, e]
      rfl
/-- what the reference holds of the token that begins at p -/
def SP (b : Nat → Int32) (L p : Nat) (m : MM) : Prop := m 37 12 = nI p ∧ m 37 13 = nI (if p < L then enT b L p else p) ∧ m 37 14 = (if p < L then (if Lt b L p then 1 else if Dg b L p then 2 else 3) else 0) ∧ (p < L → Lt b L p = false → Dg b L p = true → m 37 15 = vl b p (enT b L p - p) 0)
/-- only the scanner's own numbers changed -/
def Nf (m m' : MM) : Prop := (∀ k, k ≠ 37 → m' k = m k) ∧ ∀ x, ¬ (12 ≤ x ∧ x ≤ 16) → m' 37 x = m 37 x
theorem Nf.tr {a b c : MM} (h : Nf a b) (g : Nf b c) : Nf a c := ⟨fun k hk => (g.1 k hk).trans (h.1 k hk), fun x hx => (g.2 x hx).trans (h.2 x hx)⟩
theorem Nf_rfl (m : MM) : Nf m m := ⟨fun _ _ => rfl, fun _ _ => rfl⟩
theorem Nf_w {m : MM} {i : Nat} {v : Int32} (h : 12 ≤ i ∧ i ≤ 16) : Nf m (wst m 37 i v) := ⟨fun k hk => wst_o hk, fun x hx => by rw [wst_at, upd_o (by omega)]⟩
theorem Nf.mt {b : Nat → Int32} {L : Nat} {m m' : MM} (h : Nf m m') (g : MT b L m) : MT b L m' := ⟨by rw [h.2 11 (by omega)]; exact g.1, fun i hi => by rw [h.1 44 (by decide)]; exact g.2 i hi⟩
theorem wst_sf {m : MM} {k i : Nat} {v : Int32} (h : m k i = v) : wst m k i v = m := by
  funext q
  by_cases z : q = k
  · subst z
    rw [wst_at]
    funext j
    by_cases z2 : j = i
    · subst z2
      rw [upd_at, h]
    · rw [upd_o z2]
  · rw [wst_o z]
theorem next_s {b : Nat → Int32} {L e : Nat} {m : MM} (hL : L ≤ 120) (hb : ∀ i, i < L → bn (b i) 255) (h : MT b L m) (he : e ≤ L) (e13 : m 37 13 = nI e) : ∃ m', f_X5_next m = some m' ∧ Nf m m' ∧ SP b L (skT b L e) m' ∧ m' 37 16 = m 37 16 := by
  have hs := skT_s (b := b) hL he
  unfold f_X5_next
  rw [lt_s_, jn1_s, e13]
  generalize hk : (fun (m2 : MM) => bdr (f_X5_byteAt (m2 37 12) m2) fun x1 => lt_ (wst m2 37 13 (m2 37 12)) fun m3 => lt_ (wst m3 37 15 0) fun m4 => if 0 ≤ x1 then (bdr (f_X5_within x1 97 122) fun x2 => if x2 = 0 then (bdr (f_X5_within x1 48 57) fun x3 => if x3 = 0 then (lt_ (wst m4 37 14 3) fun m5 => lt_ (wst m5 37 13 ((m5 37 13) + 1)) fun m6 => some m6) else (lt_ (wst m4 37 14 2) fun m7 => L_X5_next_131 FU m7)) else (lt_ (wst m4 37 14 1) fun m11 => L_X5_next_84 FU m11)) else (lt_ (wst m4 37 14 0) fun m14 => some m14)) = k1
  rw [sp_loop hL k1 (L - e) e FU m (by omega) (show L - e < 4096 by omega) h, ← hk]
  generalize hp : skT b L e = p at hs ⊢
  show ∃ m', (bdr (f_X5_byteAt (wst m 37 12 (nI p) 37 12) (wst m 37 12 (nI p))) _) = _ ∧ _
  rw [wst_at, upd_at, byteAt_s hL (MT_w h (by decide)) hs.2.1, bdr_s, lt_s_, lt_s_]
  generalize hm4 : wst (wst (wst m 37 12 (nI p)) 37 13 (nI p)) 37 15 0 = m4
  have n4 : Nf m m4 := by
    rw [← hm4]
    exact ((Nf_w (by omega)).tr (Nf_w (by omega))).tr (Nf_w (by omega))
  have a12 : m4 37 12 = nI p := by rw [← hm4, wst_at, upd_o (by decide), wst_at, upd_o (by decide), wst_at, upd_at]
  have a13 : m4 37 13 = nI p := by rw [← hm4, wst_at, upd_o (by decide), wst_at, upd_at]
  have a15 : m4 37 15 = 0 := by rw [← hm4, wst_at, upd_at]
  have a16 : m4 37 16 = m 37 16 := by rw [← hm4, wst_at, upd_o (by decide), wst_at, upd_o (by decide), wst_at, upd_o (by decide)]
  by_cases q : p < L
  · obtain ⟨v, hv, ev⟩ := hb p q
    have h4 := n4.mt h
    rw [if_pos q, if_pos (show (0 : Int32) ≤ b p by rw [ev]; exact nn_0 (by omega)), within_s, bdr_s, within_s, bdr_s]
    by_cases l : wi (b p) 97 122 = 0
    · have el : Lt b L p = false := by unfold Lt; rw [inr_s q, decide_eq_false (fun z => z l)]
      rw [if_pos l]
      by_cases d : wi (b p) 48 57 = 0
      · have ed : Dg b L p = false := by unfold Dg; rw [inr_s q, decide_eq_false (fun z => z d)]
        have ee : enT b L p = p + 1 := by unfold enT; rw [el, ed, if_neg (by decide), if_neg (by decide)]
        rw [if_pos d, lt_s_, lt_s_]
        refine ⟨_, rfl, (n4.tr (Nf_w (by omega))).tr (Nf_w (by omega)), ⟨?_, ?_, ?_, fun _ _ z => by rw [ed] at z; cases z⟩, ?_⟩
        · rw [wst_at, upd_o (by decide), wst_at, upd_o (by decide), a12]
        · rw [wst_at, upd_at, wst_at, upd_o (by decide), a13, if_pos q, ee, nI_1]
        · rw [wst_at, upd_o (by decide), wst_at, upd_at, if_pos q, el, ed, if_neg (by decide), if_neg (by decide)]
        · rw [wst_at, upd_o (by decide), wst_at, upd_o (by decide), a16]
      · have ed : Dg b L p = true := by unfold Dg; rw [inr_s q, decide_eq_true d]
        have ee : enT b L p = run (Dg b L) p := by unfold enT; rw [el, ed, if_neg (by decide), if_pos rfl]
        have n7 : Nf m (wst m4 37 14 2) := n4.tr (Nf_w (by omega))
        have e7 : wst (wst (wst m4 37 14 2) 37 15 0) 37 13 (nI p) = wst m4 37 14 2 := by
          rw [wst_sf (v := 0) (by rw [wst_at, upd_o (by decide), a15]), wst_sf (by rw [wst_at, upd_o (by decide), a13])]
        have hl := nm_loop hL (L - p) p FU (wst m4 37 14 2) 0 (by omega) (show L - p < 4096 by omega) (n7.mt h)
        rw [e7] at hl
        rw [if_neg d, lt_s_, hl]
        refine ⟨_, rfl, (n7.tr (Nf_w (by omega))).tr (Nf_w (by omega)), ⟨?_, ?_, ?_, fun _ _ _ => ?_⟩, ?_⟩
        · rw [wst_at, upd_o (by decide), wst_at, upd_o (by decide), wst_at, upd_o (by decide), a12]
        · rw [wst_at, upd_at, if_pos q, ee]
        · rw [wst_at, upd_o (by decide), wst_at, upd_o (by decide), wst_at, upd_at, if_pos q, el, ed, if_neg (by decide), if_pos rfl]
        · rw [wst_at, upd_o (by decide), wst_at, upd_at, ee]
        · rw [wst_at, upd_o (by decide), wst_at, upd_o (by decide), wst_at, upd_o (by decide), a16]
    · have el : Lt b L p = true := by unfold Lt; rw [inr_s q, decide_eq_true l]
      have ee : enT b L p = run (Lt b L) p := by unfold enT; rw [el, if_pos rfl]
      have n7 : Nf m (wst m4 37 14 1) := n4.tr (Nf_w (by omega))
      have e7 : wst (wst m4 37 14 1) 37 13 (nI p) = wst m4 37 14 1 := wst_sf (by rw [wst_at, upd_o (by decide), a13])
      have hl := wd_loop hL (L - p) p FU (wst m4 37 14 1) (by omega) (show L - p < 4096 by omega) (n7.mt h)
      rw [e7] at hl
      rw [if_neg l, lt_s_, hl]
      refine ⟨_, rfl, n7.tr (Nf_w (by omega)), ⟨?_, ?_, ?_, fun _ z _ => by rw [el] at z; cases z⟩, ?_⟩
      · rw [wst_at, upd_o (by decide), wst_at, upd_o (by decide), a12]
      · rw [wst_at, upd_at, if_pos q, ee]
      · rw [wst_at, upd_o (by decide), wst_at, upd_at, if_pos q, el, if_pos rfl]
      · rw [wst_at, upd_o (by decide), wst_at, upd_o (by decide), a16]
  · rw [if_neg q, if_neg (by decide)]
    refine ⟨wst m4 37 14 0, rfl, n4.tr (Nf_w (by omega)), ⟨by rw [wst_at, upd_o (by decide), a12], by rw [wst_at, upd_o (by decide), a13, if_neg q], by rw [wst_at, upd_at, if_neg q], fun z => absurd z q⟩, by rw [wst_at, upd_o (by decide), a16]⟩
/-! ===== words ===== -/
theorem al_all {p : Nat → Bool} : ∀ {d i : Nat}, al p i d = true → ∀ j, i ≤ j → j < i + d → p j = true
  | 0, i, _, j, a, b => by omega
  | d + 1, i, h, j, a, b => by
    have h : (p i && al p (i + 1) d) = true := h
    rw [Bool.and_eq_true] at h
    by_cases y : j = i
    · rw [y]; exact h.1
    · exact al_all h.2 j (by omega) (by omega)
theorem words_differ : ∀ w, w < 17 → ∀ v, v < 17 → w = v ∨ lenS.getD w 0 ≠ lenS.getD v 0 ∨ (List.range 6).any (fun i => decide (i < lenS.getD w 0) && decide (chS w i ≠ chS v i)) = true := by decide
theorem wm_1 {b : Nat → Int32} {p e w v : Nat} (hw : w < 17) (hv : v < 17) (h1 : wm b p e w = true) (h2 : wm b p e v = true) : w = v := by
  unfold wm mtc at h1 h2
  rw [Bool.and_eq_true, decide_eq_true_eq] at h1 h2
  rcases words_differ w hw v hv with z | z | z
  · exact z
  · exfalso
    apply z
    omega
  · exfalso
    rw [List.any_eq_true] at z
    obtain ⟨i, hi, z⟩ := z
    rw [Bool.and_eq_true, decide_eq_true_eq, decide_eq_true_eq] at z
    have a1 := al_all h1.2 i (by omega) (by omega)
    have a2 := al_all h2.2 i (by omega) (by omega)
    rw [decide_eq_true_eq] at a1 a2
    exact z.2 (a1.symm.trans a2)
theorem wcd_w {b : Nat → Int32} {p e w : Nat} (hw : w < 17) : wm b p e w = decide (wcd b p e = nI w) := by
  rcases wcd_s b p e with ⟨v, hv, h1, h2⟩ | ⟨h1, h2⟩
  · rw [h1]
    by_cases y : v = w
    · subst y
      rw [h2, decide_eq_true rfl]
    · rw [decide_eq_false (fun z => y ((nI_eq (by omega) (by omega)).mp z))]
      cases e3 : wm b p e w with
      | false => rfl
      | true => exact absurd (wm_1 hv hw h2 e3) y
  · rw [h1, h2 w hw, decide_eq_false (fun z => nI_lit hw 21 rfl (by decide) z.symm)]
/-- what the reference holds at token t -/
def RM (b : Nat → Int32) (L t : Nat) (w : Bool) (m : MM) : Prop := MT b L m ∧ SP b L (bg b L t) m ∧ m 37 16 = b01 w
theorem isWordLoop {b : Nat → Int32} {L p w : Nat} {m : MM} (hw : w < 18) (hL : L ≤ 120) (h : MT b L m) (e12 : m 37 12 = nI p) (hp : p + lenS.getD w 0 ≤ L) : ∀ (d i fu : Nat), i + d = lenS.getD w 0 → d + 1 < fu → L_X5_isWord_32 w m fu 1 (nI i) = some (b01 (al (fun i => decide (b (p + i) = chS w i)) i d)) := by
  have hl := lenS_le w hw
  intro d
  induction d with
  | zero =>
    intro i fu hi hf
    obtain ⟨f, rfl⟩ : ∃ f, fu = f + 1 := ⟨fu - 1, by omega⟩
    rw [L_X5_isWord_32, show i = lenS.getD w 0 by omega, if_pos (Int32.le_refl _), gd_t (Or.inr rfl)]
    rfl
  | succ d ih =>
    intro i fu hi hf
    obtain ⟨f, rfl⟩ : ∃ f, fu = f + 1 := ⟨fu - 1, by omega⟩
    rw [L_X5_isWord_32, if_neg (nI_ge (by omega) (by omega)), if_neg (by decide), e12, nI_add, ldi_n (show p + i < 120 by omega) (by decide), h.2 _ (by omega), ldch_n (by omega) (by omega)]
    simp only [jn1_s, lt_s_, nI_1]
    show _ = some (b01 (decide (b (p + i) = chS w i) && al (fun i => decide (b (p + i) = chS w i)) (i + 1) d))
    by_cases q : b (p + i) = chS w i
    · rw [if_pos q, decide_eq_true q, Bool.true_and]
      exact ih (i + 1) f (by omega) (by omega)
    · rw [if_neg q, decide_eq_false q, Bool.false_and]
      obtain ⟨f', rfl⟩ : ∃ f', f = f' + 1 := ⟨f - 1, by omega⟩
      rw [L_X5_isWord_32, if_pos rfl, gd_t (Or.inl rfl)]
      split <;> rfl
theorem isWord_s {b : Nat → Int32} {L t w : Nat} {m : MM} (hw : w < 17) (hL : L ≤ 120) (hT : MT b L m) (hS : SP b L (bg b L t) m) : f_X5_isWord w m = some (b01 (decide (tk b L t = nI w))) := by
  have hl := lenS_le w (by omega)
  obtain ⟨s1, s2, s3, s4⟩ := hS
  have z0 : ∀ f, L_X5_isWord_32 w m (f + 1) 0 0 = some 0 := fun f => by
    rw [L_X5_isWord_32, if_pos rfl, gd_t (Or.inl rfl)]
    split <;> rfl
  have hz : L_X5_isWord_32 w m FU 0 0 = some 0 := z0 4095
  unfold f_X5_isWord
  simp only [jn1_s, jn0_s]
  unfold tk
  by_cases q : bg b L t < L
  · rw [if_pos q] at s3 s2
    rw [if_pos q]
    cases el : Lt b L (bg b L t) with
    | true =>
      have he := enT_s (b := b) hL q
      rw [el, if_pos rfl] at s3
      rw [s3, if_pos rfl, if_pos rfl, s1, s2, pk_sub (by omega), ← wcd_w hw]
      unfold wm
      by_cases y : enT b L (bg b L t) = bg b L t + lenS.getD w 0
      · rw [if_pos (by rw [y, Nat.add_sub_cancel_left]), decide_eq_true y, Bool.true_and]
        exact isWordLoop (by omega) hL hT s1 (by omega) (lenS.getD w 0) 0 FU (by omega) (show lenS.getD w 0 + 1 < 4096 by omega)
      · rw [if_neg (fun z => by
          have := (nI_eq (by omega) (by omega)).mp z
          omega), decide_eq_false y, Bool.false_and, hz]
        rfl
    | false =>
      rw [el, if_neg (by decide)] at s3
      cases ed : Dg b L (bg b L t) with
      | true =>
        rw [ed, if_pos rfl] at s3
        rw [s3, if_neg (by decide), hz, if_neg (by decide), if_pos rfl, decide_eq_false (fun z => nI_lit hw 17 rfl (by decide) z.symm)]
        rfl
      | false =>
        rw [ed, if_neg (by decide)] at s3
        rw [s3, if_neg (by decide), hz, if_neg (by decide), if_neg (by decide), decide_eq_false (fun z => by
          rcases sg_s (b (bg b L t)) with y | y | y
          · rw [y] at z
            exact nI_lit hw 18 rfl (by decide) z.symm
          · rw [y] at z
            exact nI_lit hw 19 rfl (by decide) z.symm
          · rw [y] at z
            exact nI_lit hw 21 rfl (by decide) z.symm)]
        rfl
  · rw [if_neg q] at s3
    rw [s3, if_neg (by decide), hz, if_neg q, decide_eq_false (fun z => nI_lit hw 20 rfl (by decide) z.symm)]
    rfl
