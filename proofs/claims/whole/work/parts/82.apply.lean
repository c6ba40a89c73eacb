/-! ===== what acts do ===== -/
theorem ap_1 {g : Nat → Int32} {c k : Nat} {x : Act} (h4 : g 4 = nI c) (hc : c < 8) (hk : k ≤ 6) (e : x.1 = nI k) : ap g x = upd (upd (upd (upd g (128 + 3 * c) x.1) (128 + 3 * c + 1) x.2.1) (128 + 3 * c + 2) x.2.2) 4 (nI (c + 1)) := by
  unfold ap
  rw [if_pos (show x.1 < 20 by rw [e]; exact (lt_n (b := 20) (by omega) (by decide)).mpr (by omega)), if_neg (show ¬ x.1 = 10 by
    rw [e]
    exact fun z => by
      have := (nI_eq (a := k) (b := 10) (by omega) (by decide)).mp z
      omega), h4, nI_clamp (by omega), nI_1]
theorem ap_2 {g : Nat → Int32} {v : Nat} (hv : v < 2 ^ 31) : ap g (10, nI v, 0) = upd g (16 + v) 1 := by
  unfold ap
  rw [if_pos (show (10 : Int32) < 20 by decide), if_pos rfl]
  show upd g (16 + (nI v).toNatClampNeg) 1 = _
  rw [nI_clamp hv]
theorem ap_3 {g : Nat → Int32} {P : Nat} {v : Int32} (hP : P < 152) : ap g (nI (20 + P), v, 0) = upd g P v := by
  unfold ap
  have e : nI (20 + P) - 20 = nI P := by
    rw [show (20 : Int32) = nI 20 from rfl, pk_sub (by omega)]
    congr 1
    omega
  rw [if_neg (show ¬ nI (20 + P) < 20 from fun z => by
    have := (lt_n (b := 20) (by omega) (by decide)).mp z
    omega)]
  show upd g (nI (20 + P) - 20).toNatClampNeg v = _
  rw [e, nI_clamp (by omega)]
theorem okP_s {c P v : Nat} (h : okP c P v) (hc : c ≤ 8) : P < 152 ∧ P ≠ 4 ∧ v < 2 ^ 31 ∧ ok c P (nI v) := by
  have h256 : 2 ^ c ≤ 256 := Nat.pow_le_pow_right (by decide) hc
  rcases h with ⟨rfl, hv⟩ | ⟨rfl, hv⟩ | ⟨rfl, hv⟩ | ⟨s, hs, ⟨rfl, hv⟩ | ⟨rfl, hv⟩ | ⟨rfl, hv⟩⟩
  · exact ⟨by decide, by decide, by omega, ⟨v, hv, rfl⟩⟩
  · exact ⟨by decide, by decide, by omega, ⟨v, hv, rfl⟩⟩
  · exact ⟨by decide, by decide, by omega, ⟨v, hv, rfl⟩⟩
  · exact ⟨by omega, by omega, by omega, (ok_ship hs _).1.mpr ⟨v, hv, rfl⟩⟩
  · exact ⟨by omega, by omega, by omega, (ok_ship hs _).2.1.mpr ⟨v, hv, rfl⟩⟩
  · exact ⟨by omega, by omega, by omega, (ok_ship hs _).2.2.mpr ⟨v, hv, rfl⟩⟩
theorem ap_ok {g : Nat → Int32} {c c' : Nat} {x : Act} (h : okA c x c') (hV : VN g c) : VN (ap g x) c' := by
  have hc := hV.1
  rcases h with ⟨k, hh, h1, h2, h3, h4, h5, h6, h7, rfl⟩ | ⟨v, hv, rfl, rfl⟩ | ⟨P, v, hp, rfl, rfl⟩
  · rw [ap_1 hV.cats h7 h1 h3]
    exact VN_more hV h7 ⟨k, h1, h3⟩ ⟨hh, h2, h4⟩ ⟨h5, h6⟩
  · rw [ap_2 (by omega)]
    exact VN_upd hV ((ok_isl (by omega) _).mpr (Or.inr rfl))
  · obtain ⟨p1, p2, p3, p4⟩ := okP_s hp hc
    rw [ap_3 p1]
    exact VN_upd hV p4
/-- the reference: one act -/
theorem isSo_s {m : MM} {g : Nat → Int32} {c c' i : Nat} {x : Act} (hi : i < 120) (hx : x = (m 46 (3 * i), m 46 (3 * i + 1), m 46 (3 * i + 2))) (ho : okA c x c') (hV : VN g c) (e : ∀ j, j < 152 → m 38 j = g j) : ∃ r m', f_X5_isSo (nI (3 * i)) m = some (r, m') ∧ (-15 : Int32) ≤ r ∧ (∀ k, k ≠ 38 → m' k = m k) ∧ ∀ j, j < 152 → m' 38 j = ap g x j := by
  have hc := hV.1
  have x1 : m 46 (3 * i) = x.1 := by rw [hx]
  have x2 : m 46 (3 * i + 1) = x.2.1 := by rw [hx]
  have x3 : m 46 (3 * i + 2) = x.2.2 := by rw [hx]
  have big : ∀ k : Nat, k < 2 ^ 31 → (-15 : Int32) ≤ nI k := fun k hk => by
    rw [Int32.le_iff_toInt_le, nI_toInt hk, show ((-15 : Int32)).toInt = -15 from by decide]
    omega
  unfold f_X5_isSo
  rw [ldi_n (show 3 * i < 360 by omega) (by decide), show (1 : Int32) = nI 1 from rfl, nI_add, ldi_n (show 3 * i + 1 < 360 by omega) (by decide), show (2 : Int32) = nI 2 from rfl, nI_add, ldi_n (show 3 * i + 2 < 360 by omega) (by decide), x1, x2, x3]
  rcases ho with ⟨k, hh, h1, h2, h3, h4, h5, h6, h7, rfl⟩ | ⟨v, hv, rfl, rfl⟩ | ⟨P, v, hp, rfl, rfl⟩
  · rw [if_pos (show x.1 < 20 by rw [h3]; exact (lt_n (b := 20) (by omega) (by decide)).mpr (by omega)), if_neg (show ¬ x.1 = 10 by
      rw [h3]
      exact fun z => by
        have := (nI_eq (a := k) (b := 10) (by omega) (by decide)).mp z
        omega), ap_1 hV.cats h7 h1 h3]
    unfold f_X5_comes
    rw [ld38 m 4 4 ⟨rfl, by decide⟩, e 4 (by decide), hV.cats, at0, bdr_s, sti_n (n := 152) (j := 128 + 3 * c) (by omega) (by decide), at1, bdr_s, sti_n (n := 152) (j := 128 + 3 * c + 1) (by omega) (by decide), at2, bdr_s, sti_n (n := 152) (j := 128 + 3 * c + 2) (by omega) (by decide), show (4 : Int32) = nI 4 from rfl, ldi_n (show 4 < 152 by decide) (by decide), sti_n (n := 152) (j := 4) (by decide) (by decide), bdw_s, wst_at, upd_o (by omega), wst_at, upd_o (by omega), wst_at, upd_o (by omega), e 4 (by decide), hV.cats, nI_1]
    refine ⟨nI c, _, rfl, big c (by omega), fun k hk => by rw [wst_o hk, wst_o hk, wst_o hk, wst_o hk], fun j hj => ?_⟩
    rw [wst_at, wst_at, wst_at, wst_at]
    by_cases y1 : j = 4
    · rw [y1, upd_at, upd_at]
    rw [upd_o y1, upd_o y1]
    by_cases y2 : j = 128 + 3 * c + 2
    · rw [y2, upd_at, upd_at]
    rw [upd_o y2, upd_o y2]
    by_cases y3 : j = 128 + 3 * c + 1
    · rw [y3, upd_at, upd_at]
    rw [upd_o y3, upd_o y3]
    by_cases y4 : j = 128 + 3 * c
    · rw [y4, upd_at, upd_at]
    rw [upd_o y4, upd_o y4, e j hj]
  · have hisl := hV.2 (16 + v) (by omega)
    rw [ok_isl (by omega)] at hisl
    rw [if_pos (show (10 : Int32) < 20 by decide), if_pos rfl, ap_2 (by omega)]
    unfold f_X5_become
    show ∃ r m', (bdw (ldi m 38 152 (16 + nI v) _) _) = _ ∧ _
    rw [show (16 : Int32) = nI 16 from rfl, nI_add, ldi_n (show 16 + v < 152 by omega) (by decide), sti_n (n := 152) (j := 16 + v) (by omega) (by decide), bdw_s, e _ (by omega)]
    refine ⟨g (16 + v), _, rfl, ?_, fun k hk => wst_o hk, fun j hj => ?_⟩
    · rcases hisl with z | z <;> rw [z] <;> decide
    · rw [wst_at]
      by_cases y : j = 16 + v
      · rw [y, upd_at, upd_at]; rfl
      · rw [upd_o y, upd_o y, e j hj]
  · obtain ⟨p1, p2, p3, p4⟩ := okP_s hp hc
    have es : nI (20 + P) - 20 = nI P := by
      rw [show (20 : Int32) = nI 20 from rfl, pk_sub (by omega)]
      congr 1
      omega
    have hold : (-15 : Int32) ≤ g P := by
      have hg := hV.2 P p1
      have h256 : 2 ^ c' ≤ 256 := Nat.pow_le_pow_right (by decide) hc
      rcases hp with ⟨rfl, hv⟩ | ⟨rfl, hv⟩ | ⟨rfl, hv⟩ | ⟨s, hs, ⟨rfl, hv⟩ | ⟨rfl, hv⟩ | ⟨rfl, hv⟩⟩
      · obtain ⟨n, hn, en⟩ : bn _ 9999 := hg
        rw [en]; exact big n (by omega)
      · obtain ⟨n, hn, en⟩ : bn _ 7 := hg
        rw [en]; exact big n (by omega)
      · obtain ⟨n, hn, en⟩ : bn _ 65535 := hg
        rw [en]; exact big n (by omega)
      · obtain ⟨n, hn, en⟩ := (ok_ship hs _).1.mp hg
        rw [en]; exact big n (by omega)
      · obtain ⟨n, hn, en⟩ := (ok_ship hs _).2.1.mp hg
        rw [en]; exact big n (by omega)
      · obtain ⟨n, hn, en⟩ := (ok_ship hs _).2.2.mp hg
        rw [en]; exact big n (by omega)
    rw [if_neg (show ¬ nI (20 + P) < 20 from fun z => by
      have := (lt_n (b := 20) (by omega) (by decide)).mp z
      omega), ap_3 p1]
    unfold f_X5_become
    show ∃ r m', (bdw (ldi m 38 152 (nI (20 + P) - 20) _) _) = _ ∧ _
    rw [es, ldi_n p1 (by decide), sti_n (n := 152) (j := P) p1 (by decide), bdw_s, e P p1]
    refine ⟨g P, _, rfl, hold, fun k hk => wst_o hk, fun j hj => ?_⟩
    rw [wst_at]
    by_cases y : j = P
    · rw [y, upd_at, upd_at]
    · rw [upd_o y, upd_o y, e j hj]
theorem actLoop {l : List Act} (hl : l.length ≤ 120) (k1 : Int32 → MM → Option (Int32 × MM)) : ∀ (rest : List Act) (i fu c c' : Nat) (x4 : Int32) (g : Nat → Int32) (m : MM), l.drop i = rest → i ≤ l.length → rest.length < fu → okL c rest c' → VN g c → IT m l → (∀ j, j < 152 → m 38 j = g j) → (-15 : Int32) ≤ x4 → ∃ r m', L_X5_text_118 k1 fu x4 (nI i) m = k1 r m' ∧ (-15 : Int32) ≤ r ∧ (∀ k, k ≠ 38 → m' k = m k) ∧ (∀ j, j < 152 → m' 38 j = rest.foldl ap g j) ∧ VN (rest.foldl ap g) c' := by
  intro rest
  induction rest with
  | nil =>
    intro i fu c c' x4 g m hd hi hf ho hV hI he hx
    obtain ⟨f, rfl⟩ : ∃ f, fu = f + 1 := ⟨fu - 1, by omega⟩
    have e : i = l.length := by
      have := congrArg List.length hd
      rw [List.length_drop] at this
      have : l.length - i = 0 := this
      omega
    have ho : c = c' := ho
    subst ho
    exact ⟨x4, m, by rw [L_X5_text_118, hI.1, e, if_pos (Int32.le_refl _)], hx, fun _ _ => rfl, he, hV⟩
  | cons x rest ih =>
    intro i fu c c' x4 g m hd hi hf ho hV hI he hx
    obtain ⟨f, rfl⟩ : ∃ f, fu = f + 1 := ⟨fu - 1, by omega⟩
    have hlen := congrArg List.length hd
    rw [List.length_drop, List.length_cons] at hlen
    have hil : i < l.length := by omega
    have hget : l[i]? = some x := by
      have : (l.drop i)[0]? = some x := by rw [hd]; rfl
      rw [List.getElem?_drop] at this
      exact this
    have hd2 : l.drop (i + 1) = rest := by
      rw [← List.drop_drop, hd]
      rfl
    obtain ⟨c1, o1, o2⟩ : ∃ c1, okA c x c1 ∧ okL c1 rest c' := ho
    have hx2 : x = (m 46 (3 * i), m 46 (3 * i + 1), m 46 (3 * i + 2)) := by
      have := hI.2 i hil
      rw [hget] at this
      exact Option.some.inj this
    obtain ⟨r, m1, a1, a2, a3, a4⟩ := isSo_s (by omega) hx2 o1 hV he
    obtain ⟨r2, m2, b1, b2, b3, b4, b5⟩ := ih (i + 1) f c1 c' r (ap g x) m1 hd2 (by omega) (by rw [List.length_cons] at hf; omega) o2 (ap_ok o1 hV) ⟨by rw [a3 37 (by decide)]; exact hI.1, fun j hj => by rw [a3 46 (by decide)]; exact hI.2 j hj⟩ a4 a2
    refine ⟨r2, m2, ?_, b2, fun k hk => (b3 k hk).trans (a3 k hk), b4, b5⟩
    rw [L_X5_text_118, hI.1, if_neg (nI_ge hil (by omega)), show (3 : Int32) = nI 3 from rfl, pk_mul, a1, bdw_s, lt_s_, nI_1]
    exact b1
