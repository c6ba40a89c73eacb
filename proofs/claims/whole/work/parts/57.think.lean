/-! ===== what is scratch ===== -/
def fre (k : Nat) : Prop := (21 ≤ k ∧ k ≤ 24) ∨ k = 35 ∨ k = 36 ∨ k = 37 ∨ k = 38 ∨ k = 40 ∨ k = 46 ∨ k = 50
/-- as it was, but for scratch, and for the places q of the row -/
def Thq (q : Nat → Prop) (μ0 μ : MM) : Prop := (∀ k, ¬ fre k → μ k = μ0 k) ∧ μ 37 3 = μ0 37 3 ∧ μ 37 11 = μ0 37 11 ∧ ∀ i, i < 152 → ¬ q i → μ 38 i = μ0 38 i
def Thk (μ0 μ : MM) : Prop := Thq (fun _ => False) μ0 μ
theorem Thq_rfl (q : Nat → Prop) (μ : MM) : Thq q μ μ := ⟨fun _ _ => rfl, rfl, rfl, fun _ _ _ => rfl⟩
theorem Thk_rfl (μ : MM) : Thk μ μ := Thq_rfl _ μ
theorem Thq.tr {q : Nat → Prop} {a b c : MM} (h : Thq q a b) (g : Thq q b c) : Thq q a c := ⟨fun k hk => (g.1 k hk).trans (h.1 k hk), g.2.1.trans h.2.1, g.2.2.1.trans h.2.2.1, fun i hi hq => (g.2.2.2 i hi hq).trans (h.2.2.2 i hi hq)⟩
theorem Thk.q {q : Nat → Prop} {a b : MM} (h : Thk a b) : Thq q a b := ⟨h.1, h.2.1, h.2.2.1, fun i hi _ => h.2.2.2 i hi id⟩
theorem Thq.le {q r : Nat → Prop} {a b : MM} (h : Thq q a b) (e : ∀ i, q i → r i) : Thq r a b := ⟨h.1, h.2.1, h.2.2.1, fun i hi hr => h.2.2.2 i hi (fun z => hr (e i z))⟩
theorem Bk.thk {a b : MM} (h : Bk a b) : Thk a b := by
  refine ⟨fun k hk => h.1 k ?_ ?_, by rw [h.1 37 (by decide) (by decide)], by rw [h.1 37 (by decide) (by decide)], fun i hi _ => h.2 i hi⟩
  · rintro rfl
    exact hk (by unfold fre; omega)
  · rintro rfl
    exact hk (by unfold fre; omega)
theorem Thk.row {a b : MM} (h : Thk a b) : ∀ i, i < 152 → b 38 i = a 38 i := fun i hi => h.2.2.2 i hi id
theorem Thq.k {q : Nat → Prop} {a b : MM} (h : Thq q a b) (k : Nat) (hk : k ≤ 20 ∨ (25 ≤ k ∧ k ≤ 34) ∨ k = 39 ∨ (41 ≤ k ∧ k ≤ 45) ∨ (47 ≤ k ∧ k ≤ 49)) : b k = a k := h.1 k (by unfold fre; omega)
theorem Thq.rc {q : Nat → Prop} {a b : MM} (h : Thq q a b) (hC : RC a) : RC b := RC_fr (h.k 42 (by omega)) (h.k 43 (by omega)) hC
theorem Thq.rn {q : Nat → Prop} {a b : MM} {g : Nat → Int32} (h : Thq q a b) (hR : RN a 1 g) : RN b 1 g := RN_fr (fun k x y => h.k k (by omega)) hR
theorem Rel_thk {μ0 μ : MM} (b : Thk μ0 μ) (h : Rel μ0) : Rel μ := by
  obtain ⟨h1, ⟨n, hn⟩, h3, h4, h5, h6, h7⟩ := h
  have e : ∀ k, (k ≤ 20 ∨ (25 ≤ k ∧ k ≤ 34) ∨ k = 39 ∨ (41 ≤ k ∧ k ≤ 45) ∨ (47 ≤ k ∧ k ≤ 49)) → μ k = μ0 k := b.k
  refine ⟨?_, ⟨n, VN_cong b.row hn⟩, RK_fr (by rw [e 0 (by omega)]) b.2.1 (fun k a b => e k (by omega)) (e 39 (by omega)) h3, RF_fr (e 34 (by omega)) (e 41 (by omega)) h4, RP_fr (by rw [e 19 (by omega)]) b.2.2.1 (e 20 (by omega)) (e 44 (by omega)) h5, RS_fr (fun k a b => e k (by omega)) (e 47 (by omega)) (e 48 (by omega)) (e 49 (by omega)) h6, RC_fr (e 42 (by omega)) (e 43 (by omega)) h7⟩
  exact RN_cong b.row (RN_fr (fun k a b => e k (by omega)) h1)
theorem two_thk {α : Type} {fx fm : MM → Option (α × MM)} {μ μ1 μ2 : MM} (h : Rel μ) (r : α) (e1 : fx μ = some (r, μ1)) (b1 : Thk μ μ1) (e2 : fm μ1 = some (r, μ2)) (b2 : Thk μ1 μ2) : ∃ r μ1 μ2, fx μ = some (r, μ1) ∧ fm μ1 = some (r, μ2) ∧ Rel μ2 := ⟨r, μ1, μ2, e1, e2, Rel_thk b2 (Rel_thk b1 h)⟩
theorem find_thk {fx fm : MM → Option (Int32 × MM)} {μ μ1 : MM} (h : Rel μ) (c : Int32) (j : Nat) (hj : j < 7 ∧ (-1000001) - c = nI j) (b1 : Thk μ μ1) (e1 : fx μ = f_X4_finding c μ1) (e2 : ∀ m : MM, (∀ k, k ≠ 34 → m k = μ1 k) → ∃ m', Thk m m' ∧ fm m = f_X5_finding c m') : ∃ r μ1 μ2, fx μ = some (r, μ1) ∧ fm μ1 = some (r, μ2) ∧ Rel μ2 := by
  obtain ⟨m', hb, e3⟩ := e2 (wst μ1 34 j (μ1 34 j + 1)) (fun k hk => wst_o hk)
  refine ⟨c, _, _, e1.trans (xfind hj.1 hj.2 μ1), e3.trans (mfind hj.1 hj.2 _), ?_⟩
  have h1 := Rel_find (Rel_thk b1 h) hj.1
  have e41 : m' 41 = μ1 41 := by rw [hb.k 41 (by omega), wst_o (by decide)]
  refine Rel_thk (μ0 := wst (wst (wst μ1 34 j (μ1 34 j + 1)) 41 (j + 1) (μ1 41 (j + 1) + 1)) 41 0 (μ1 41 0 + 1)) ⟨fun k hk => ?_, ?_, ?_, fun i hi _ => ?_⟩ h1
  · rw [e41]
    by_cases q : k = 41
    · subst q
      rw [wst_at, wst_at, wst_at, wst_at, e41, wst_o (show (41 : Nat) ≠ 34 by decide)]
    · rw [wst_o q, wst_o q, wst_o q, wst_o q, hb.1 k hk]
  · rw [wst_o (by decide), wst_o (by decide), wst_o (by decide), wst_o (by decide), hb.2.1]
  · rw [wst_o (by decide), wst_o (by decide), wst_o (by decide), wst_o (by decide), hb.2.2.1]
  · rw [wst_o (by decide), wst_o (by decide), wst_o (by decide), wst_o (by decide), hb.row i hi]
/-! ===== rows that are alike ===== -/
theorem eN_same {g g' : Nat → Int32} {m c : Nat} (e : ∀ i, i < 152 → g' i = g i) (hc : c < 8) : eN g' m c = eN g m c := by
  unfold eN
  rw [e _ (by omega), e _ (by omega), e _ (by omega), e 3 (by decide), e 0 (by decide)]
theorem pos_cong {g g' : Nat → Int32} {n s : Nat} (hV : VW g n) (hs : s < 4) (e : ∀ i, i < 152 → g' i = g i) : ∀ m, pos g' n s m = pos g n s m
  | 0 => by
    unfold pos
    rw [e _ (by omega)]
  | m + 1 => by
    have hp := pos_lt hV hs m
    have hn := hV.le
    show nxN g' n m s (pos g' n s m) = nxN g n m s (pos g n s m)
    rw [pos_cong hV hs e m]
    exact nxN_cong (e _ (by omega)) (e 2 (by decide)) (e _ (by omega)) (e _ (by omega)) (fun c hc => eN_same e (by omega))
theorem lp_cong {g g' : Nat → Int32} {n s : Nat} (hV : VW g n) (hs : s < 4) (e : ∀ i, i < 152 → g' i = g i) : lp g' n s = lp g n s := by
  funext m
  have hp := pos_lt hV hs m
  unfold lp
  rw [pos_cong hV hs e m, e _ (by omega)]
/-- with another ORDER and another wind -/
def gv (g : Nat → Int32) (s : Nat) (o w : Int32) : Nat → Int32 := upd (upd g (116 + 3 * s + 1) o) 2 w
theorem VW_gv {g : Nat → Int32} {n s : Nat} {o w : Nat} (hV : VW g n) (hs : s < 4) (ho : o ≤ 31) (hw : w ≤ 7) : VW (gv g s (nI o) (nI w)) n :=
  VW_upd (VW_upd hV (Or.inr ((ok_ship hs _).2.1.mpr ⟨o, ho, rfl⟩))) (Or.inr ⟨w, hw, rfl⟩)
theorem gv_o {g : Nat → Int32} {s i : Nat} {o w : Int32} (h1 : i ≠ 116 + 3 * s + 1) (h2 : i ≠ 2) : gv g s o w i = g i := by
  unfold gv
  rw [upd_o h2, upd_o h1]
theorem gv_2 {g : Nat → Int32} {s : Nat} {o w : Int32} : gv g s o w 2 = w := by
  unfold gv
  rw [upd_at]
theorem gv_s {g : Nat → Int32} {s : Nat} {o w : Int32} : gv g s o w (116 + 3 * s + 1) = o := by
  unfold gv
  rw [upd_o (by omega), upd_at]
theorem rd_gv {g : Nat → Int32} {n m s : Nat} {o w : Int32} (hn : n ≤ 8) (hs : s < 4) : rdN (gv g s o w) n m s = rdN g n m s := by
  unfold rdN
  rw [gv_o (by omega) (by omega)]
  refine mv_cong (fun c hc => ?_)
  unfold eN
  rw [gv_o (by omega) (by omega), gv_o (by omega) (by omega), gv_o (by omega) (by omega), gv_o (by omega) (by omega), gv_o (by omega) (by omega)]
/-! ===== the class: the reads, and what follows of them ===== -/
def vm (o : Option Nat) : Int32 := match o with
  | some k => nI k
  | none => -1
theorem readAhead_s {g : Nat → Int32} {n s N : Nat} (hV : VW g n) (hs : s < 4) (hN : N ≤ 60) : ∀ (d i fu : Nat) (μ : MM), i + d = N → d < fu → RN μ 1 g → ∃ μ', L_X4_readAhead_2 (nI s) (nI N) fu (nI i) μ = some μ' ∧ (∀ k, k ≠ 35 → μ' k = μ k) ∧ (∀ x, x < i → μ' 35 x = μ 35 x) ∧ ∀ x, i ≤ x → x < N → μ' 35 x = rdN g n x s := by
  intro d
  induction d with
  | zero =>
    intro i fu μ hi hf hR
    obtain ⟨f, rfl⟩ : ∃ f, fu = f + 1 := ⟨fu - 1, by omega⟩
    have e : i = N := by omega
    subst e
    exact ⟨μ, by rw [L_X4_readAhead_2, if_pos (Int32.le_refl _)], fun _ _ => rfl, fun _ _ => rfl, fun x a b => by omega⟩
  | succ d ih =>
    intro i fu μ hi hf hR
    obtain ⟨f, rfl⟩ : ∃ f, fu = f + 1 := ⟨fu - 1, by omega⟩
    obtain ⟨μ', e1, e2, e3, e4⟩ := ih (i + 1) f (wst μ 35 i (rdN g n i s)) (by omega) (by omega) (RN_fr (fun k a b => wst_o (by omega)) hR)
    refine ⟨μ', ?_, fun k hk => (e2 k hk).trans (wst_o hk), fun x hx => (e3 x (by omega)).trans (by rw [wst_at, upd_o (by omega)]), fun x a b => ?_⟩
    · rw [L_X4_readAhead_2, if_neg (nI_ge (by omega) (by omega)), if_neg (ge_n (z := 60) (N := 60) rfl (by decide) (by omega)), ldi_n hs (by decide), xReads hR hV hs i, bdr_s, sti_n (n := 60) (j := i) (by omega) (by decide), lt_s_, nI_1]
      exact e1
    · by_cases q : x = i
      · subst q
        rw [e3 x (by omega), wst_at, upd_at]
      · exact e4 x (by omega) b
/-- the reads of a ship lie ready -/
def Rdy (μ : MM) (g : Nat → Int32) (n s N : Nat) : Prop := RN μ 1 g ∧ ∀ x, x < N → μ 35 x = rdN g n x s
theorem ready_s {μ : MM} {g : Nat → Int32} {n s N : Nat} (hR : RN μ 1 g) (hV : VW g n) (hs : s < 4) (hN : N ≤ 60) : ∃ μ', f_X4_readAhead (nI s) (nI N) μ = some μ' ∧ (∀ k, k ≠ 35 → μ' k = μ k) ∧ Rdy μ' g n s N := by
  obtain ⟨μ', e1, e2, e3, e4⟩ := readAhead_s hV hs hN N 0 FU μ (by omega) (show N < 4096 by omega) hR
  exact ⟨μ', e1, e2, RN_fr (fun k a b => e2 k (by omega)) hR, fun x hx => e4 x (by omega) hx⟩
theorem by_s {β : Type} {μ : MM} {g : Nat → Int32} {n s N o w i c : Nat} (h : Rdy μ g n s N) (hV : VW g n) (hs : s < 4) (ho : o ≤ 31) (hw : w ≤ 7) (hi : i < N) (hN : N ≤ 60) (hc : c < 100) (F : Int32 → Option β) : (ldi μ 35 60 (nI i) fun x7 => bdr (f_X4_course (nI o) x7) fun x8 => bdr (f_X0_nextBy (nI c) x8 (nI w) μ) F) = F (nI (nxN (gv g s (nI o) (nI w)) n i s c)) := by
  have h1 := ckN_s (gv g s (nI o) (nI w)) n i s
  rw [gv_s, rd_gv hV.le hs] at h1
  rw [ldi_n (by omega) (by decide), h.2 i hi, course_s, bdr_s, h1.1, nextBy_s hc h1.2 (by omega), bdr_s, h.1.isl1 hc]
  unfold nxN
  rw [gv_o (by omega) (by omega), gv_2, nI_clamp (by omega)]
theorem landsBy_loop {μ : MM} {g : Nat → Int32} {n s o w : Nat} (h : Rdy μ g n s 60) (hV : VW g n) (hs : s < 4) (ho : o ≤ 31) (hw : w ≤ 7) (k1 : Int32 → Option Int32) (hk : k1 (nI (pos (gv g s (nI o) (nI w)) n s 60)) = some (if g (16 + pos (gv g s (nI o) (nI w)) n s 60) = 0 then -1 else 60)) : ∀ (d i fu : Nat), i + d = 60 → d < fu → L_X4_landsBehind_14 (nI o) (nI w) μ k1 fu (nI (pos (gv g s (nI o) (nI w)) n s i)) (nI i) = some (vm (fd (lp (gv g s (nI o) (nI w)) n s) i (d + 1))) := by
  intro d
  induction d with
  | zero =>
    intro i fu hi hf
    obtain ⟨f, rfl⟩ : ∃ f, fu = f + 1 := ⟨fu - 1, by omega⟩
    have e : i = 60 := by omega
    subst e
    rw [L_X4_landsBehind_14, if_pos (show (60 : Int32) ≤ nI 60 by decide), hk]
    have hp := pos_lt (VW_gv hV hs ho hw) hs 60
    have e16 : gv g s (nI o) (nI w) (16 + pos (gv g s (nI o) (nI w)) n s 60) = g (16 + pos (gv g s (nI o) (nI w)) n s 60) := gv_o (by omega) (by omega)
    by_cases q : g (16 + pos (gv g s (nI o) (nI w)) n s 60) = 0
    · rw [if_pos q, fd, if_neg (by unfold lp; rw [decide_eq_true_eq, e16]; exact fun z => z q)]
      rfl
    · rw [if_neg q, fd, if_pos (by unfold lp; rw [decide_eq_true_eq, e16]; exact q)]
      rfl
  | succ d ih =>
    intro i fu hi hf
    obtain ⟨f, rfl⟩ : ∃ f, fu = f + 1 := ⟨fu - 1, by omega⟩
    have hp := pos_lt (VW_gv hV hs ho hw) hs i
    have e16 : gv g s (nI o) (nI w) (16 + pos (gv g s (nI o) (nI w)) n s i) = g (16 + pos (gv g s (nI o) (nI w)) n s i) := gv_o (by omega) (by omega)
    rw [L_X4_landsBehind_14, if_neg (ge_n (z := 60) (N := 60) rfl (by decide) (by omega)), ldi_n hp (by decide), h.1.isl1 hp, by_s (i := i) h hV hs ho hw (by omega) (by decide) hp, fd]
    by_cases q : g (16 + pos (gv g s (nI o) (nI w)) n s i) = 0
    · rw [if_pos q, if_neg (by unfold lp; rw [decide_eq_true_eq, e16]; exact fun z => z q), lt_s_, nI_1]
      exact ih (i + 1) f (by omega) (by omega)
    · rw [if_neg q, if_pos (by unfold lp; rw [decide_eq_true_eq, e16]; exact q)]
      rfl
theorem landsBy {μ : MM} {g : Nat → Int32} {n s o w : Nat} (h : Rdy μ g n s 60) (hV : VW g n) (hs : s < 4) (ho : o ≤ 31) (hw : w ≤ 7) : f_X4_landsBehind (nI s) (nI o) (nI w) μ = some (vm (fd (lp (gv g s (nI o) (nI w)) n s) 0 61)) := by
  have hp := pos_lt (VW_gv hV hs ho hw) hs 60
  unfold f_X4_landsBehind
  have e0 : g (116 + 3 * s) = nI (pos (gv g s (nI o) (nI w)) n s 0) := by
    rw [← pos_0 (VW_gv hV hs ho hw) hs, gv_o (by omega) (by omega)]
  rw [ldi_n hs (by decide), (h.1.ship1 hs).1, e0, jn1_s]
  refine landsBy_loop h hV hs ho hw _ ?_ 60 0 FU (by omega) (by decide)
  rw [ldi_n hp (by decide), h.1.isl1 hp]
  split <;> rfl
