/-! ===== judge ===== -/
def jp (μ : MM) (n j m : Nat) : Bool := decide (¬ μ 49 (40 * j + m) = nI (pos (μ 38) n 0 m))
def jo (o : Option Nat) : Int32 := match o with
  | some k => 1 + nI k
  | none => 0
theorem xJudgeLoop {μ : MM} {n j z : Nat} (h : Rel μ) (hV : VW (μ 38) n) (hj : j < 4) (ez : μ 48 j = nI z) (hz : z ≤ 40) : ∀ (d i fu : Nat), i + d = z → d < fu → L_X4_judge_25 (nI j) μ fu (nI (pos (μ 38) n 0 i)) (nI i) = some (jo (fd (jp μ n j) i d), μ) := by
  obtain ⟨r1, r2, r3, r4, r5⟩ := h.2.2.2.2.2.1 j hj
  have Lq : ∀ {β : Type} (f : Nat → Option β), ldq 4 (nI j) f = f j := fun f => ldq_n hj (by decide)
  intro d
  induction d with
  | zero =>
    intro i fu hi hf
    obtain ⟨f, rfl⟩ : ∃ f, fu = f + 1 := ⟨fu - 1, by omega⟩
    have e : i = z := by omega
    subst e
    rw [L_X4_judge_25, Lq, r2, if_pos (le_n ez)]
    rfl
  | succ d ih =>
    intro i fu hi hf
    obtain ⟨f, rfl⟩ : ∃ f, fu = f + 1 := ⟨fu - 1, by omega⟩
    rw [L_X4_judge_25, Lq, r2, if_neg (ge_n ez (by omega) (show i < z by omega)), Lq, show 26 + 2 * j + 1 = 27 + 2 * j by omega, ldi_n (show i < 40 by omega) (by decide), r3 i (by omega), fd]
    by_cases q : μ 49 (40 * j + i) = nI (pos (μ 38) n 0 i)
    · have hl : ¬ jp μ n j i = true := by
        unfold jp
        rw [decide_eq_true_eq]
        exact fun y => y q
      have xn := xNext h.1 hV (s := 0) (by decide) (pos_lt hV (s := 0) (by decide) i) i
      rw [show nI 0 = (0 : Int32) from rfl] at xn
      rw [if_pos q, if_neg hl, xn, bdr_s, lt_s_, nI_1]
      exact ih (i + 1) f (by omega) (by omega)
    · have hl : jp μ n j i = true := by
        unfold jp
        rw [decide_eq_true_eq]
        exact q
      rw [if_neg q, if_pos hl]
      rfl
theorem mJudgeLoop {μ0 : MM} {n j z : Nat} (hV : VW (μ0 38) n) (hC : RC μ0) (hj : j < 4) (ez : μ0 48 j = nI z) (hz : z ≤ 40) (k1 : Int32 → MM → Option (Int32 × MM)) : ∀ (d i fu : Nat) (μ : MM), i + d = z → d < fu → Sim μ0 n i μ → ∃ k μ', k ≤ z ∧ Sim μ0 n k μ' ∧ L_X5_judge_31 (nI j) k1 fu (nI i) μ = k1 (nI k) μ' ∧ fd (jp μ0 n j) i d = if k = z then none else some k := by
  intro d
  induction d with
  | zero =>
    intro i fu μ hi hf h
    obtain ⟨f, rfl⟩ : ∃ f, fu = f + 1 := ⟨fu - 1, by omega⟩
    have e : i = z := by omega
    subst e
    exact ⟨i, μ, Nat.le_refl _, h, by rw [L_X5_judge_31, ldi_n hj (by decide), h.1 48 (by decide) (by decide), if_pos (le_n ez)], by rw [if_pos rfl]; rfl⟩
  | succ d ih =>
    intro i fu μ hi hf h
    obtain ⟨f, rfl⟩ : ∃ f, fu = f + 1 := ⟨fu - 1, by omega⟩
    have hs0 := h.ship (s := 0) (by decide)
    have head : ∀ m : MM, f_X5_shipIs 0 0 m = some (m 38 116) := fun m => shipIs0 (c := 0) (by decide) m
    by_cases q : μ0 49 (40 * j + i) = nI (pos (μ0 38) n 0 i)
    · have hl : ¬ jp μ0 n j i = true := by
        unfold jp
        rw [decide_eq_true_eq]
        exact fun y => y q
      obtain ⟨μ1, e1, h1⟩ := sim_watch h hV hC (by omega)
      obtain ⟨k, μ2, hk, h2, e2, e3⟩ := ih (i + 1) f μ1 (by omega) (by omega) h1
      refine ⟨k, μ2, hk, h2, ?_, ?_⟩
      · rw [L_X5_judge_31, ldi_n hj (by decide), h.1 48 (by decide) (by decide), if_neg (ge_n ez (by omega) (show i < z by omega)), show (40 : Int32) = nI 40 from rfl, pk_mul, nI_add, ldi_n (by omega) (by decide), h.1 49 (by decide) (by decide), head, bdr_s, show μ 38 116 = nI (pos (μ0 38) n 0 i) from hs0, if_pos q, e1, bdr_s, lt_s_, nI_1]
        exact e2
      · rw [fd, if_neg hl]
        exact e3
    · have hl : jp μ0 n j i = true := by
        unfold jp
        rw [decide_eq_true_eq]
        exact q
      refine ⟨i, μ, by omega, h, ?_, ?_⟩
      · rw [L_X5_judge_31, ldi_n hj (by decide), h.1 48 (by decide) (by decide), if_neg (ge_n ez (by omega) (show i < z by omega)), show (40 : Int32) = nI 40 from rfl, pk_mul, nI_add, ldi_n (by omega) (by decide), h.1 49 (by decide) (by decide), head, bdr_s, show μ 38 116 = nI (pos (μ0 38) n 0 i) from hs0, if_neg q]
      · rw [fd, if_pos hl, if_neg (by omega)]
theorem s_judge (a : Int32) : Two (f_X4_judge a) (f_X5_judge a) := by
  intro μ h
  obtain ⟨n, hV0⟩ := h.2.1
  have hV := hV0.w
  by_cases q : wi a 0 3 = 0
  · exact two_find h (-1000001) 0 (by decide) (by unfold f_X4_judge; rw [wrong_1 q, find_pass (j := 0) (by decide) (by decide)]) (fun m _ => by simp only [f_X5_judge, lacks_1 q, bdr_s, bdw_id]; rw [if_neg (by decide)])
  obtain ⟨j, hj, rfl⟩ := wi_n (N := 3) (by decide) q
  have hj4 : j < 4 := by omega
  obtain ⟨r1, r2, r3, r4, r5⟩ := h.2.2.2.2.2.1 j hj4
  obtain ⟨z, hz, ez⟩ := r4
  by_cases g : μ 47 j = 0
  · exact two_find h (-1000006) 5 (by decide) (by unfold f_X4_judge; rw [wrong_2 hj4 (by rw [r1]; exact g), find_pass (j := 5) (by decide) (by decide)]) (fun m hm => by simp only [f_X5_judge, lacks_2 hj4, hm 47 (by decide), if_pos g, bdr_s, bdw_id]; rw [if_neg (by decide)])
  have w0 := wrong_0 hj4 (μ := μ) (by rw [r1]; exact g)
  have ex := xJudgeLoop h hV hj4 ez hz z 0 FU (by omega) (show z < 4096 by omega)
  rw [show nI 0 = (0 : Int32) from rfl] at ex
  have ex2 : f_X4_judge (nI j) μ = some (jo (fd (jp μ n j) 0 z), μ) := by
    simp only [f_X4_judge, w0, bdw_s, if_true]
    rw [ldi_c 0 (by decide), (h.1.ship1 (s := 0) (by decide)).1, pos_0 hV (s := 0) (by decide)]
    exact ex
  obtain ⟨m1, e1, h1⟩ := sim_start hV
  generalize hk : (fun (x2 : Int32) (m2 : MM) => ldi m2 48 4 (nI j) fun x3 => if x2 = x3 then (bdw (f_X5_putBack 0 m2) fun x5 m4 => some (x5, m4)) else (bdw (f_X5_putBack (1 + x2) m2) fun x4 m3 => some (x4, m3))) = k1
  obtain ⟨k, m2, hk2, h2, e2, e3⟩ := mJudgeLoop hV h.2.2.2.2.2.2 hj4 ez hz k1 z 0 FU m1 (by omega) (show z < 4096 by omega) h1
  rw [show nI 0 = (0 : Int32) from rfl] at e2
  have em : f_X5_judge (nI j) μ = k1 (nI k) m2 := by
    simp only [f_X5_judge, lacks_2 hj4, if_neg g, bdr_s, e1, jn2_s]
    rw [if_pos trivial, hk]
    exact e2
  rw [← hk] at em
  have em2 : f_X5_judge (nI j) μ = if nI k = nI z then f_X5_putBack 0 m2 else f_X5_putBack (1 + nI k) m2 := by
    rw [em]
    show (ldi m2 48 4 (nI j) _) = _
    rw [ldi_n hj4 (by decide), h2.1 48 (by decide) (by decide), ez, bdw_id, bdw_id]
  by_cases y : k = z
  · obtain ⟨m3, e4, b4⟩ := sim_back h2 0
    rw [if_pos y] at e3
    refine two_bk h (jo (fd (jp μ n j) 0 z)) ex2 ?_ b4
    rw [em2, if_pos (by rw [y]), e4, e3]
    rfl
  · obtain ⟨m3, e4, b4⟩ := sim_back h2 (1 + nI k)
    rw [if_neg y] at e3
    refine two_bk h (jo (fd (jp μ n j) 0 z)) ex2 ?_ b4
    rw [em2, if_neg (fun x => y ((nI_eq (by omega) (by omega)).mp x)), e4, e3]
    rfl
