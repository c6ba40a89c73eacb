/-! ===== numbers with their sign ===== -/
theorem fb_rng (x : Int32) : -2147483648 ≤ x.toInt ∧ x.toInt < 2147483648 := ⟨Int32.le_toInt x, Int32.toInt_lt x⟩
theorem fb_bmod {z : Int} (h1 : -2147483648 ≤ z) (h2 : z < 2147483648) : z.bmod (2 ^ 32) = z := Int.bmod_eq_of_le (by simpa using h1) (by simpa using h2)
theorem fb_addI {x y : Int32} (h1 : -2147483648 ≤ x.toInt + y.toInt) (h2 : x.toInt + y.toInt < 2147483648) : (x + y).toInt = x.toInt + y.toInt := by rw [Int32.toInt_add, fb_bmod h1 h2]
theorem fb_subI {x y : Int32} (h1 : -2147483648 ≤ x.toInt - y.toInt) (h2 : x.toInt - y.toInt < 2147483648) : (x - y).toInt = x.toInt - y.toInt := by rw [Int32.toInt_sub, fb_bmod h1 h2]
theorem fb_mulI {x y : Int32} (h1 : -2147483648 ≤ x.toInt * y.toInt) (h2 : x.toInt * y.toInt < 2147483648) : (x * y).toInt = x.toInt * y.toInt := by rw [Int32.toInt_mul, fb_bmod h1 h2]
theorem tdiv_bd (a : Int) {d : Int} (hd : 0 < d) : (0 ≤ a → 0 ≤ a.tdiv d ∧ a.tdiv d * d ≤ a ∧ a < a.tdiv d * d + d) ∧ (a < 0 → a.tdiv d ≤ 0 ∧ a ≤ a.tdiv d * d ∧ a.tdiv d * d - d < a) := by
  refine ⟨fun h => ?_, fun h => ?_⟩
  · rw [Int.tdiv_eq_ediv_of_nonneg h]
    refine ⟨Int.ediv_nonneg h (by omega), Int.ediv_mul_le a (by omega), ?_⟩
    have := Int.lt_ediv_add_one_mul_self a hd
    rw [Int.add_mul, Int.one_mul] at this
    exact this
  · have e : a.tdiv d = -((-a).tdiv d) := by rw [Int.neg_tdiv, Int.neg_neg]
    have h2 : 0 ≤ -a := by omega
    have b1 := Int.ediv_nonneg h2 (show 0 ≤ d by omega)
    have b2 := Int.ediv_mul_le (-a) (show d ≠ 0 by omega)
    have b3 := Int.lt_ediv_add_one_mul_self (-a) hd
    rw [Int.add_mul, Int.one_mul] at b3
    rw [e, Int.tdiv_eq_ediv_of_nonneg h2, Int.neg_mul]
    omega
theorem div_t (x : Int32) {d : Int32} {D : Int} (hd : d.toInt = D) (h0 : 1 < D) : (x / d).toInt = x.toInt.tdiv D := by
  have hr := fb_rng x
  rw [Int32.toInt_div, hd]
  obtain ⟨t1, t2⟩ := tdiv_bd x.toInt (show 0 < D by omega)
  have hb : -2147483648 ≤ x.toInt.tdiv D ∧ x.toInt.tdiv D < 2147483648 := by
    by_cases q : 0 ≤ x.toInt
    · obtain ⟨a1, a2, a3⟩ := t1 q
      refine ⟨by omega, ?_⟩
      have : x.toInt.tdiv D ≤ x.toInt.tdiv D * D := by
        have := Int.mul_le_mul_of_nonneg_left (show (1 : Int) ≤ D by omega) a1
        rw [Int.mul_one] at this
        exact this
      omega
    · obtain ⟨a1, a2, a3⟩ := t2 (by omega)
      refine ⟨?_, by omega⟩
      have : x.toInt.tdiv D * D ≤ x.toInt.tdiv D := by
        have := Int.mul_le_mul_of_nonpos_left a1 (show (1 : Int) ≤ D by omega)
        rw [Int.mul_one] at this
        exact this
      omega
  exact fb_bmod hb.1 hb.2
theorem irm_t (x : Int32) {d : Int32} {D : Int} (hd : d.toInt = D) (h0 : 1 < D) : (irm x d).toInt = x.toInt - x.toInt.tdiv D * D := by
  have hr := fb_rng x
  have e1 := div_t x hd h0
  obtain ⟨t1, t2⟩ := tdiv_bd x.toInt (show 0 < D by omega)
  have hb : -2147483648 ≤ x.toInt.tdiv D * D ∧ x.toInt.tdiv D * D < 2147483648 := by
    by_cases q : 0 ≤ x.toInt
    · obtain ⟨a1, a2, a3⟩ := t1 q
      have := Int.mul_nonneg a1 (show 0 ≤ D by omega)
      omega
    · obtain ⟨a1, a2, a3⟩ := t2 (by omega)
      have := Int.mul_nonpos_of_nonpos_of_nonneg a1 (show 0 ≤ D by omega)
      omega
  have e2 : (x / d * d).toInt = x.toInt.tdiv D * D := by
    rw [fb_mulI (by rw [e1, hd]; exact hb.1) (by rw [e1, hd]; exact hb.2), e1, hd]
  have hc : -2147483648 ≤ x.toInt - x.toInt.tdiv D * D ∧ x.toInt - x.toInt.tdiv D * D < 2147483648 := by
    by_cases q : 0 ≤ x.toInt
    · obtain ⟨a1, a2, a3⟩ := t1 q
      have := Int.mul_nonneg a1 (show 0 ≤ D by omega)
      omega
    · obtain ⟨a1, a2, a3⟩ := t2 (by omega)
      have := Int.mul_nonpos_of_nonpos_of_nonneg a1 (show 0 ≤ D by omega)
      omega
  unfold irm
  rw [fb_subI (by rw [e2]; exact hc.1) (by rw [e2]; exact hc.2), e2]
theorem xor_sign (x : Int32) : (0 ≤ x ^^^ 32) ↔ 0 ≤ x := by
  rw [Int32.le_iff_toInt_le, Int32.le_iff_toInt_le]
  have e1 : (x ^^^ 32).toInt < 0 ↔ x.toInt < 0 := by
    have m1 := BitVec.msb_eq_toInt (x := (x ^^^ 32).toBitVec)
    have m2 := BitVec.msb_eq_toInt (x := x.toBitVec)
    rw [Int32.toBitVec_xor, BitVec.msb_xor, show (Int32.toBitVec 32).msb = false from by decide, Bool.xor_false, m2] at m1
    rw [← Int32.toBitVec_xor] at m1
    have := decide_eq_decide.mp m1
    exact this.symm
  rw [show (0 : Int32).toInt = 0 from by decide]
  omega
/-- the COURSE of a sum -/
def crs (x : Int32) : Int32 := if 0 ≤ irm x 32 then irm x 32 else irm x 32 + 32
theorem crs_n (x : Int32) : ∃ k : Nat, k < 32 ∧ crs x = nI k := by
  have e := irm_t x (d := 32) (D := 32) (by decide) (by decide)
  obtain ⟨t1, t2⟩ := tdiv_bd x.toInt (show (0 : Int) < 32 by decide)
  have hr : -32 < (irm x 32).toInt ∧ (irm x 32).toInt < 32 := by
    rw [e]
    by_cases q : 0 ≤ x.toInt
    · have := t1 q; omega
    · have := t2 (by omega); omega
  have key : 0 ≤ (crs x).toInt ∧ (crs x).toInt < 32 := by
    unfold crs
    by_cases q : 0 ≤ irm x 32
    · rw [if_pos q]
      rw [Int32.le_iff_toInt_le, show (0 : Int32).toInt = 0 from by decide] at q
      omega
    · rw [if_neg q]
      rw [Int32.le_iff_toInt_le, show (0 : Int32).toInt = 0 from by decide] at q
      rw [fb_addI (by rw [show (32 : Int32).toInt = 32 from by decide]; omega) (by rw [show (32 : Int32).toInt = 32 from by decide]; omega), show (32 : Int32).toInt = 32 from by decide]
      omega
  refine ⟨(crs x).toInt.toNat, by omega, Int32.toInt_inj.mp ?_⟩
  rw [nI_toInt (by omega)]
  omega
theorem course_s (o r : Int32) : f_X4_course o r = some (crs (o + r)) := by
  simp only [f_X4_course, bdr_id]
  unfold f_J9_floorMod_7cf53 crs
  rw [gd_t (by decide), lt_s_]
  generalize o + r = x
  have e := irm_t x (d := 32) (D := 32) (by decide) (by decide)
  obtain ⟨t1, t2⟩ := tdiv_bd x.toInt (show (0 : Int) < 32 by decide)
  by_cases q : 0 ≤ x
  · rw [if_pos ((xor_sign x).mpr q)]
    rw [Int32.le_iff_toInt_le, show (0 : Int32).toInt = 0 from by decide] at q
    have := t1 q
    rw [if_pos (Int32.le_iff_toInt_le.mpr (by rw [show (0 : Int32).toInt = 0 from by decide, e]; omega))]
  · rw [if_neg (fun z => q ((xor_sign x).mp z))]
    rw [Int32.le_iff_toInt_le, show (0 : Int32).toInt = 0 from by decide] at q
    have := t2 (by omega)
    by_cases z : irm x 32 = 0
    · rw [if_pos z, if_pos (by rw [z]; decide)]
    · have z2 : (irm x 32).toInt ≠ 0 := fun w => z (Int32.toInt_inj.mp (by rw [w]; decide))
      rw [if_neg z, if_neg (fun w => ?_)]
      rw [Int32.le_iff_toInt_le, show (0 : Int32).toInt = 0 from by decide] at w
      omega
theorem irm_n {a d : Nat} (ha : a < 2 ^ 31) (h0 : 0 < d) (hd : d < 2 ^ 31) : irm (nI a) (nI d) = nI (a % d) := pk_rem ha h0 hd
/-- of eight ways, the one of a COURSE -/
theorem head_n {k : Nat} (h : k < 32) : irm ((nI k + 2) / 4) 8 = nI ((k + 2) / 4 % 8) := by
  rw [show (2 : Int32) = nI 2 from rfl, nI_add, show (4 : Int32) = nI 4 from rfl, pk_div (by omega) (by decide) (by decide), show (8 : Int32) = nI 8 from rfl, irm_n (by omega) (by decide) (by decide)]
def bsd (c h : Nat) : Nat := ((f_X4_beside (nI c) (nI h)).getD 0).toNatClampNeg
theorem bsd_s : ∀ c, c < 100 → ∀ h, h < 8 → f_X4_beside (nI c) (nI h) = some (nI (bsd c h)) ∧ bsd c h < 100 := by decide +kernel
theorem mBeside {μ : MM} (hC : RC μ) {c h : Nat} (hh : h < 8) : f_X5_beside (nI c) (nI h) μ = f_X4_beside (nI c) (nI h) := by
  unfold f_X5_beside f_X4_beside
  have l0 : ∀ {β : Type} (t : Nat) (f : Int32 → Option β), lds t 8 (nI h) f = f (tS t h) := fun t f => by
    unfold lds
    rw [if_pos (inb_n hh (by decide)), nI_clamp (by omega)]
  rw [ldi_n hh (by decide), l0, (hC h hh).1]
  simp only [lt_s_]
  rw [ldi_n hh (by decide), l0, (hC h hh).2]
  simp only [within_s, isWithin_s]
  rw [Int32.mul_comm 10]
/-! ===== where a ship goes ===== -/
def nxc (il : Int32) (w k c : Nat) : Nat := if il = 0 then (if (k + 2) / 4 % 8 = w then c else bsd c ((k + 2) / 4 % 8)) else c
theorem nxc_lt {il : Int32} {w k c : Nat} (h : c < 100) : nxc il w k c < 100 := by
  unfold nxc
  split
  · split
    · exact h
    · exact (bsd_s c h _ (by omega)).2
  · exact h
theorem nextBy_s {μ : MM} {c k w : Nat} (hc : c < 100) (hk : k < 32) (hw : w < 8) : f_X0_nextBy (nI c) (nI k) (nI w) μ = some (nI (nxc (μ 8 c) w k c)) := by
  unfold f_X0_nextBy f_X4_heading
  rw [bdr_s, head_n hk, ldi_n hc (by decide)]
  unfold nxc
  by_cases q : μ 8 c = 0
  · rw [if_pos q, if_pos q]
    by_cases z : (k + 2) / 4 % 8 = w
    · rw [if_pos z, if_pos (by rw [z])]
    · rw [if_neg z, if_neg (fun e => z ((nI_eq (by omega) (by omega)).mp e)), (bsd_s c hc _ (by omega)).1, bdr_s]
  · rw [if_neg q, if_neg q]
/-- a row as it may be, but for how many WATCHES have gone by -/
def VW (g : Nat → Int32) (n : Nat) : Prop := VN (upd g 0 0) n
theorem VN.w {g : Nat → Int32} {n : Nat} (h : VN g n) : VW g n := VN_upd (i := 0) (v := 0) h ⟨0, by decide, rfl⟩
theorem VW.le {g : Nat → Int32} {n : Nat} (h : VW g n) : n ≤ 8 := h.1
theorem VW.cats {g : Nat → Int32} {n : Nat} (h : VW g n) : g 4 = nI n := by
  have h1 := VN.cats h
  rw [upd_o (by decide)] at h1
  exact h1
theorem VW.cat {g : Nat → Int32} {n : Nat} (h : VW g n) {c : Nat} (hc : c < 8) : bn (g (128 + 3 * c)) 6 ∧ bn (g (128 + 3 * c + 1)) 99 ∧ -15 ≤ (g (128 + 3 * c + 2)).toInt ∧ (g (128 + 3 * c + 2)).toInt ≤ 15 := by
  have := VN.cat h hc
  rw [upd_o (by omega), upd_o (by omega), upd_o (by omega)] at this
  exact this
theorem VW.ship {g : Nat → Int32} {n : Nat} (h : VW g n) {s : Nat} (hs : s < 4) : bn (g (116 + 3 * s)) 99 ∧ bn (g (116 + 3 * s + 1)) 31 ∧ bn (g (116 + 3 * s + 2)) (2 ^ n - 1) := by
  have := VN.ship h hs
  rw [upd_o (by omega), upd_o (by omega), upd_o (by omega)] at this
  exact this
theorem VW.isl {g : Nat → Int32} {n : Nat} (h : VW g n) {c : Nat} (hc : c < 100) : g (16 + c) = 0 ∨ g (16 + c) = 1 := by
  have := VN.isl h hc
  rw [upd_o (by omega)] at this
  exact this
theorem VW.wind {g : Nat → Int32} {n : Nat} (h : VW g n) : bn (g 2) 7 := by
  have h1 := (VN.num h).2.2.1
  rw [upd_o (by decide)] at h1
  exact h1
theorem VW_upd {g : Nat → Int32} {n i : Nat} {v : Int32} (h : VW g n) (hv : i = 0 ∨ ok n i v) : VW (upd g i v) n := by
  refine ⟨h.1, fun j hj => ?_⟩
  by_cases q : j = 0
  · subst q
    rw [upd_at]
    exact ⟨0, by decide, rfl⟩
  · rw [upd_o q]
    by_cases z : j = i
    · subst z
      rw [upd_at]
      exact hv.resolve_left q
    · rw [upd_o z]
      have := h.2 j hj
      rw [upd_o q] at this
      exact this
theorem VW_cong {g g' : Nat → Int32} {n : Nat} (e : ∀ i, i < 152 → i ≠ 0 → g' i = g i) (h : VW g n) : VW g' n := by
  refine ⟨h.1, fun j hj => ?_⟩
  have := h.2 j hj
  by_cases q : j = 0
  · subst q
    rw [upd_at]
    exact ⟨0, by decide, rfl⟩
  · rw [upd_o q] at this ⊢
    rw [e j hj q]
    exact this
def eN (g : Nat → Int32) (m c : Nat) : Int32 := er (g (128 + 3 * c)) (imin (g (128 + 3 * c + 1) + nI m) 99) (g (128 + 3 * c + 2)) (g 3) (irm (g 0 + nI m) 16)
def rdN (g : Nat → Int32) (n m s : Nat) : Int32 := mv (eN g m) (g (116 + 3 * s + 2)).toNatClampNeg n
def ckN (g : Nat → Int32) (n m s : Nat) : Nat := (crs (g (116 + 3 * s + 1) + rdN g n m s)).toNatClampNeg
def nxN (g : Nat → Int32) (n m s c : Nat) : Nat := nxc (g (16 + c)) (g 2).toNatClampNeg (ckN g n m s) c
theorem ckN_s (g : Nat → Int32) (n m s : Nat) : crs (g (116 + 3 * s + 1) + rdN g n m s) = nI (ckN g n m s) ∧ ckN g n m s < 32 := by
  obtain ⟨k, hk, e⟩ := crs_n (g (116 + 3 * s + 1) + rdN g n m s)
  unfold ckN
  rw [e, nI_clamp (by omega)]
  exact ⟨rfl, hk⟩
theorem abo {g : Nat → Int32} {n s : Nat} (hV : VW g n) (hs : s < 4) : ∃ a : Nat, a < 2 ^ n ∧ g (116 + 3 * s + 2) = nI a ∧ (g (116 + 3 * s + 2)).toNatClampNeg = a := by
  obtain ⟨a, ha, e⟩ := (hV.ship hs).2.2
  have hp : 0 < 2 ^ n := Nat.pow_pos (by decide)
  have h256 : 2 ^ n ≤ 256 := Nat.pow_le_pow_right (by decide) hV.le
  exact ⟨a, by omega, e, by rw [e, nI_clamp (by omega)]⟩
theorem xReads {μ : MM} {g : Nat → Int32} {n s : Nat} (hR : RN μ 1 g) (hV : VW g n) (hs : s < 4) (m : Nat) : f_X0_meanOf (μ 7 s) (nI m) μ = some (rdN g n m s) := by
  obtain ⟨a, ha, e, ea⟩ := abo hV hs
  obtain ⟨n1, n2, n3, n4, n5, n6⟩ := hR.num
  rw [(hR.ship1 hs).2.2, e, xMean hV.le (n1.trans hV.cats) ha]
  unfold rdN
  rw [ea, mv_cong (f' := eN g m) (fun c hc => ?_)]
  have hc8 : c < 8 := Nat.lt_of_lt_of_le hc hV.le
  unfold eN
  rw [(hR.cat1 hc8).1, (hR.cat1 hc8).2.1, (hR.cat1 hc8).2.2, n3, n5]
theorem xNext {μ : MM} {g : Nat → Int32} {n s c : Nat} (hR : RN μ 1 g) (hV : VW g n) (hs : s < 4) (hc : c < 100) (m : Nat) : f_X0_nextOf (nI s) (nI c) (nI m) μ = some (nI (nxN g n m s c)) := by
  obtain ⟨n1, n2, n3, n4, n5, n6⟩ := hR.num
  obtain ⟨w, hw, ew⟩ := hV.wind
  obtain ⟨k1, k2⟩ := ckN_s g n m s
  unfold f_X0_nextOf
  rw [ldi_n hs (by decide), ldi_n hs (by decide), xReads hR hV hs, bdr_s, course_s, bdr_s, (hR.ship1 hs).2.1, k1, n2, ew, nextBy_s hc k2 (by omega), bdr_s, hR.isl1 hc]
  unfold nxN
  rw [ew, nI_clamp (by omega)]
theorem eN_0 {g : Nat → Int32} {n c : Nat} (hV : VW g n) (hc : c < 8) : eN g 0 c = er (g (128 + 3 * c)) (g (128 + 3 * c + 1)) (g (128 + 3 * c + 2)) (g 3) (irm (g 0) 16) := by
  unfold eN
  rw [show nI 0 = (0 : Int32) from rfl, imin_99 (hV.cat hc).2.1, Int32.add_zero]
theorem mReads {μ : MM} {n s : Nat} (hV : VW (μ 38) n) (hs : s < 4) : f_X5_reads (nI s) μ = some (rdN (μ 38) n 0 s) := by
  obtain ⟨a, ha, e, ea⟩ := abo hV hs
  simp only [f_X5_reads, shipIs2 hs, bdr_s, bdr_id]
  rw [e, mMean hV.le hV.cats ha]
  unfold rdN
  rw [ea, mv_cong (f' := eN (μ 38) 0) (fun c hc => (eN_0 hV (Nat.lt_of_lt_of_le hc hV.le)).symm)]
theorem mCourse {μ : MM} {n s : Nat} (hV : VW (μ 38) n) (hs : s < 4) : f_X5_course (nI s) μ = some (nI (ckN (μ 38) n 0 s)) := by
  rw [← (ckN_s (μ 38) n 0 s).1]
  simp only [f_X5_course, shipIs1 hs, bdr_s, mReads hV hs, lt_s_]
  unfold crs
  split <;> rfl
theorem mLanded {μ : MM} {n s c : Nat} (hV : VW (μ 38) n) (hs : s < 4) (hc : c < 100) (e : μ 38 (116 + 3 * s) = nI c) : f_X5_isLanded (nI s) μ = some (μ 38 (16 + c)) := by
  simp only [f_X5_isLanded, f_X5_isIsland, shipIs0 hs, bdr_s, e]
  rw [show (16 : Int32) = nI 16 from rfl, nI_add, ldi_n (by omega) (by decide)]
  rcases hV.isl hc with z | z
  · rw [z, if_neg (by decide), bdr_s, gd_t (Or.inl rfl)]
  · rw [z, if_pos rfl, bdr_s, gd_t (Or.inr rfl)]
theorem mGoes {μ : MM} {n s c : Nat} (hV : VW (μ 38) n) (hC : RC μ) (hs : s < 4) (hc : c < 100) (e : μ 38 (116 + 3 * s) = nI c) : f_X5_goesTo (nI s) μ = some (nI (nxN (μ 38) n 0 s c)) := by
  obtain ⟨w, hw, ew⟩ := hV.wind
  obtain ⟨k1, k2⟩ := ckN_s (μ 38) n 0 s
  simp only [f_X5_goesTo, mCourse hV hs, shipIs0 hs, mLanded hV hs hc e, bdr_s, lt_s_, ld38 μ 2 2 ⟨rfl, by decide⟩, ew, e, head_n k2]
  unfold nxN nxc
  rw [ew, nI_clamp (by omega)]
  by_cases q : μ 38 (16 + c) = 0
  · rw [if_pos q, if_pos q]
    by_cases z : (ckN (μ 38) n 0 s + 2) / 4 % 8 = w
    · rw [if_pos z, if_pos (by rw [z])]
    · rw [if_neg z, if_neg (fun e => z ((nI_eq (by omega) (by omega)).mp e)), mBeside hC (by omega), (bsd_s c hc _ (by omega)).1, bdr_s]
  · rw [if_neg q, if_neg q]
theorem nxN_lt {g : Nat → Int32} {n m s c : Nat} (h : c < 100) : nxN g n m s c < 100 := nxc_lt h
theorem s_ship (a b : Int32) : Two (f_X4_ship a b) (f_X5_ship a b) := by
  intro μ h
  obtain ⟨n, hV0⟩ := h.2.1
  have hV := hV0.w
  by_cases q : wi a 0 3 = 0
  · exact two_find h (-1000001) 0 (by decide) (by simp only [f_X4_ship, xShip, bdr_s, if_pos q, bdw_id]) (fun m _ => by simp only [f_X5_ship, mShip, bdr_s, if_pos q, bdw_id])
  obtain ⟨s, hs, rfl⟩ := wi_n (N := 3) (by decide) q
  have hs4 : s < 4 := by omega
  obtain ⟨e0, e1, e2⟩ := h.1.ship1 hs4
  obtain ⟨c, hc, ec⟩ := (hV.ship hs4).1
  have hc1 : c < 100 := by omega
  have xr := xReads h.1 hV hs4 0
  rw [show nI 0 = (0 : Int32) from rfl] at xr
  have xn := xNext h.1 hV hs4 hc1 0
  rw [show nI 0 = (0 : Int32) from rfl] at xn
  have L4 : ∀ {β : Type} (k : Nat) (f : Int32 → Option β), ldi μ k 4 (nI s) f = f (μ k s) := fun k f => ldi_n hs4 (by decide)
  by_cases g : wi b 0 6 = 0
  · have hb : ∀ k : Nat, k ≤ 6 → ¬ b = nI k := fun k hk e => wi_y (N := 6) rfl (by decide) hk e g
    exact two_find h (-1000001) 0 (by decide) (by simp only [f_X4_ship, xShip, bdr_s, if_neg q, if_neg (show ¬ b = 0 from hb 0 (by decide)), if_neg (show ¬ b = 1 from hb 1 (by decide)), if_neg (show ¬ b = 2 from hb 2 (by decide)), if_neg (show ¬ b = 3 from hb 3 (by decide)), if_neg (show ¬ b = 4 from hb 4 (by decide)), if_neg (show ¬ b = 5 from hb 5 (by decide)), if_neg (show ¬ b = 6 from hb 6 (by decide)), bdw_id]) (fun m _ => by simp only [f_X5_ship, mShip, within_s, bdr_s, if_neg q, if_pos g, bdw_id])
  obtain ⟨x, hx, rfl⟩ := wi_n (N := 6) (by decide) g
  have mS : f_X5_isShip (nI s) = some (wi (nI s) 0 3) := mShip _
  have mW : f_X5_within (nI x) 0 6 = some (wi (nI x) 0 6) := within_s _ _ _
  rcases (by omega : x = 0 ∨ x = 1 ∨ x = 2 ∨ x = 3 ∨ x = 4 ∨ x = 5 ∨ x = 6) with rfl | rfl | rfl | rfl | rfl | rfl | rfl
  · refine two_val h (μ 5 s) ?_ ?_
    · simp only [f_X4_ship, xShip, bdr_s, if_neg q, L4]; rfl
    · simp only [f_X5_ship, mS, mW, bdr_s, if_neg q, if_neg g]
      rw [if_neg (by decide), if_neg (by decide), if_neg (by decide), if_neg (by decide), show (nI 0) = (0 : Int32) from rfl, shipIs0 hs4, bdr_s, e0]
  · refine two_val h (μ 6 s) ?_ ?_
    · simp only [f_X4_ship, xShip, bdr_s, if_neg q, L4]; rfl
    · simp only [f_X5_ship, mS, mW, bdr_s, if_neg q, if_neg g]
      rw [if_neg (by decide), if_neg (by decide), if_neg (by decide), if_neg (by decide), show (nI 1) = (1 : Int32) from rfl, shipIs1 hs4, bdr_s, e1]
  · refine two_val h (μ 7 s) ?_ ?_
    · simp only [f_X4_ship, xShip, bdr_s, if_neg q, L4]; rfl
    · simp only [f_X5_ship, mS, mW, bdr_s, if_neg q, if_neg g]
      rw [if_neg (by decide), if_neg (by decide), if_neg (by decide), if_neg (by decide), show (nI 2) = (2 : Int32) from rfl, shipIs2 hs4, bdr_s, e2]
  · refine two_val h (rdN (μ 38) n 0 s) ?_ ?_
    · simp only [f_X4_ship, xShip, bdr_s, if_neg q, L4, xr]; rfl
    · simp only [f_X5_ship, mS, mW, bdr_s, if_neg q, if_neg g, mReads hV hs4]; rfl
  · refine two_val h (nI (ckN (μ 38) n 0 s)) ?_ ?_
    · simp only [f_X4_ship, xShip, bdr_s, if_neg q, L4, xr, course_s, e1, (ckN_s (μ 38) n 0 s).1]; rfl
    · simp only [f_X5_ship, mS, mW, bdr_s, if_neg q, if_neg g, mCourse hV hs4]; rfl
  · refine two_val h (nI (nxN (μ 38) n 0 s c)) ?_ ?_
    · simp only [f_X4_ship, xShip, bdr_s, if_neg q, L4, e0, ec, xn]; rfl
    · simp only [f_X5_ship, mS, mW, bdr_s, if_neg q, if_neg g, mGoes hV h.2.2.2.2.2.2 hs4 hc1 ec]; rfl
  · obtain ⟨l1, l2⟩ := xLanded' h hs4
    refine two_val h (if ldF μ s = 0 then 0 else 1) ?_ ?_
    · simp only [f_X4_ship, xShip, bdr_s, if_neg q, l1]
      rw [if_neg (by decide), if_neg (by decide), if_neg (by decide), if_neg (by decide), if_neg (by decide), if_neg (by decide), if_pos (by decide)]
      split <;> rfl
    · simp only [f_X5_ship, mS, mW, bdr_s, if_neg q, if_neg g, l2]
      rw [if_neg (by decide), if_neg (by decide), if_neg (by decide), if_pos (by decide)]
      split <;> rfl
