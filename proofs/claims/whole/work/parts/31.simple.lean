/-! ===== what keeps each part of the relation ===== -/
theorem RN_fr {μ μ' : MM} {b : Nat} {g : Nat → Int32} (he : ∀ k, b ≤ k → k ≤ b + 8 → μ' k = μ k) (h : RN μ b g) : RN μ' b g := by
  intro i hi
  have := cl_le i
  rw [he _ (by omega) (by omega)]
  exact h i hi
theorem RN_upd {μ : MM} {b i : Nat} {g : Nat → Int32} (hi : i < 152) (v : Int32) (h : RN μ b g) : RN (wst μ (b + cl i) (ps i) v) b (upd g i v) := by
  intro j hj
  by_cases q : j = i
  · subst q
    rw [wst_at, upd_at, upd_at]
  · rw [upd_o q]
    by_cases q2 : b + cl j = b + cl i
    · rw [q2, wst_at, upd_o (fun e => q (cp_inj j hj i hi (by omega) e)), ← q2]
      exact h j hj
    · rw [wst_o q2]
      exact h j hj
theorem VN_upd {g : Nat → Int32} {n i : Nat} {v : Int32} (h : VN g n) (hv : ok n i v) : VN (upd g i v) n := by
  refine ⟨h.1, fun j hj => ?_⟩
  by_cases q : j = i
  · subst q
    rw [upd_at]
    exact hv
  · rw [upd_o q]
    exact h.2 j hj
theorem RK_fr {μ μ' : MM} (h0 : μ' 0 2 = μ 0 2) (h1 : μ' 37 3 = μ 37 3) (h2 : ∀ k, 10 ≤ k → k ≤ 18 → μ' k = μ k) (h3 : μ' 39 = μ 39) (h : RK μ) : RK μ' := by
  unfold RK
  rw [h0, h1, h3]
  refine ⟨h.1, h.2.elim Or.inl (fun q => Or.inr ⟨q.1, RN_fr (fun k a b => h2 k a (by omega)) q.2.1, q.2.2⟩)⟩
theorem RF_fr {μ μ' : MM} (h0 : μ' 34 = μ 34) (h1 : μ' 41 = μ 41) (h : RF μ) : RF μ' := by
  unfold RF
  rw [h0, h1]
  exact h
theorem RP_fr {μ μ' : MM} (h0 : μ' 19 1 = μ 19 1) (h1 : μ' 37 11 = μ 37 11) (h2 : μ' 20 = μ 20) (h3 : μ' 44 = μ 44) (h : RP μ) : RP μ' := by
  unfold RP
  rw [h0, h1, h2, h3]
  exact h
theorem RS_fr {μ μ' : MM} (h0 : ∀ k, 26 ≤ k → k ≤ 33 → μ' k = μ k) (h1 : μ' 47 = μ 47) (h2 : μ' 48 = μ 48) (h3 : μ' 49 = μ 49) (h : RS μ) : RS μ' := by
  intro j hj
  rw [h0 (26 + 2 * j) (by omega) (by omega), h0 (27 + 2 * j) (by omega) (by omega), h1, h2, h3]
  exact h j hj
theorem RC_fr {μ μ' : MM} (h0 : μ' 42 = μ 42) (h1 : μ' 43 = μ 43) (h : RC μ) : RC μ' := by
  intro j hj
  rw [h0, h1]
  exact h j hj
/-- all but scratch is as it was -/
def sc (μ μ' : MM) : Prop := (∀ k, ¬ (21 ≤ k ∧ k ≤ 24) → k ≠ 35 → k ≠ 36 → k ≠ 37 → k ≠ 40 → k ≠ 46 → k ≠ 50 → μ' k = μ k) ∧ μ' 37 3 = μ 37 3 ∧ μ' 37 11 = μ 37 11
theorem sc_rf (μ : MM) : sc μ μ := ⟨fun _ _ _ _ _ _ _ _ => rfl, rfl, rfl⟩
theorem sc_tr {a b c : MM} (h : sc a b) (h2 : sc b c) : sc a c := ⟨fun k q1 q2 q3 q4 q5 q6 q7 => (h2.1 k q1 q2 q3 q4 q5 q6 q7).trans (h.1 k q1 q2 q3 q4 q5 q6 q7), h2.2.1.trans h.2.1, h2.2.2.trans h.2.2⟩
theorem Rel_sc {μ μ' : MM} (s : sc μ μ') (h : Rel μ) : Rel μ' := by
  have e : ∀ k, k ≤ 20 ∨ (25 ≤ k ∧ k ≤ 34) ∨ k = 38 ∨ k = 39 ∨ (41 ≤ k ∧ k ≤ 45) ∨ (47 ≤ k ∧ k ≤ 49) → μ' k = μ k := fun k hk => s.1 k (by omega) (by omega) (by omega) (by omega) (by omega) (by omega) (by omega)
  obtain ⟨h1, h2, h3, h4, h5, h6, h7⟩ := h
  refine ⟨?_, ?_, RK_fr (by rw [e 0 (by omega)]) s.2.1 (fun k a b => e k (by omega)) (e 39 (by omega)) h3, RF_fr (e 34 (by omega)) (e 41 (by omega)) h4, RP_fr (by rw [e 19 (by omega)]) s.2.2 (e 20 (by omega)) (e 44 (by omega)) h5, RS_fr (fun k a b => e k (by omega)) (e 47 (by omega)) (e 48 (by omega)) (e 49 (by omega)) h6, RC_fr (e 42 (by omega)) (e 43 (by omega)) h7⟩
  · rw [e 38 (by omega)]
    exact RN_fr (fun k a b => e k (by omega)) h1
  · rw [e 38 (by omega)]
    exact h2
/-- the memory but cells 1 to 9 and 38 is as it was; these hold a row again -/
theorem Rel_row {μ μ' : MM} (e : ∀ k, ¬ (1 ≤ k ∧ k ≤ 9) → k ≠ 38 → μ' k = μ k) (h : Rel μ) (h1 : RN μ' 1 (μ' 38)) (h2 : ∃ n, VN (μ' 38) n) : Rel μ' := by
  obtain ⟨_, _, h3, h4, h5, h6, h7⟩ := h
  exact ⟨h1, h2, RK_fr (by rw [e 0 (by omega) (by omega)]) (by rw [e 37 (by omega) (by omega)]) (fun k a b => e k (by omega) (by omega)) (e 39 (by omega) (by omega)) h3, RF_fr (e 34 (by omega) (by omega)) (e 41 (by omega) (by omega)) h4, RP_fr (by rw [e 19 (by omega) (by omega)]) (by rw [e 37 (by omega) (by omega)]) (e 20 (by omega) (by omega)) (e 44 (by omega) (by omega)) h5, RS_fr (fun k a b => e k (by omega) (by omega)) (e 47 (by omega) (by omega)) (e 48 (by omega) (by omega)) (e 49 (by omega) (by omega)) h6, RC_fr (e 42 (by omega) (by omega)) (e 43 (by omega) (by omega)) h7⟩
theorem i_alc (a b c : Int32) : a + (b + c) = b + (a + c) := by rw [← Int32.add_assoc, Int32.add_comm a b, Int32.add_assoc]
/-! ===== findings ===== -/
theorem xfind {c : Int32} {j : Nat} (hj : j < 7) (hc : (-1000001) - c = nI j) (μ : MM) : f_X4_finding c μ = some (c, wst μ 34 j (μ 34 j + 1)) := by
  unfold f_X4_finding
  rw [lt_s_, hc, if_neg (nI_pos (by omega)), if_neg (show ¬ (7 : Int32) ≤ nI j from nI_ge (a := j) (b := 7) hj (by decide)), ldi_n hj (by decide), sti_n hj (by decide)]
theorem mfind {c : Int32} {j : Nat} (hj : j < 7) (hc : (-1000001) - c = nI j) (μ : MM) : f_X5_finding c μ = some (c, wst (wst μ 41 (j + 1) (μ 41 (j + 1) + 1)) 41 0 (μ 41 0 + 1)) := by
  unfold f_X5_finding
  rw [hc, nI_1, ldi_n (by omega) (by decide), sti_n (by omega) (by decide), ldi_c 0 (by decide), sti_c 0 (by decide)]
  rw [wst_at, upd_o (by omega)]
theorem Rel_find {μ : MM} (h : Rel μ) {j : Nat} (hj : j < 7) : Rel (wst (wst (wst μ 34 j (μ 34 j + 1)) 41 (j + 1) (μ 41 (j + 1) + 1)) 41 0 (μ 41 0 + 1)) := by
  obtain ⟨h1, h2, h3, h4, h5, h6, h7⟩ := h
  have e : ∀ k, k ≠ 34 → k ≠ 41 → (wst (wst (wst μ 34 j (μ 34 j + 1)) 41 (j + 1) (μ 41 (j + 1) + 1)) 41 0 (μ 41 0 + 1)) k = μ k := fun k a b => by rw [wst_o b, wst_o b, wst_o a]
  generalize hm : wst (wst (wst μ 34 j (μ 34 j + 1)) 41 (j + 1) (μ 41 (j + 1) + 1)) 41 0 (μ 41 0 + 1) = m at e ⊢
  have e34 : m 34 = upd (μ 34) j (μ 34 j + 1) := by rw [← hm, wst_o (by decide), wst_o (by decide), wst_at]
  have e41 : m 41 = upd (upd (μ 41) (j + 1) (μ 41 (j + 1) + 1)) 0 (μ 41 0 + 1) := by rw [← hm, wst_at, wst_at, wst_o (by decide)]
  refine ⟨?_, ?_, RK_fr (by rw [e 0 (by omega) (by omega)]) (by rw [e 37 (by omega) (by omega)]) (fun k a b => e k (by omega) (by omega)) (e 39 (by omega) (by omega)) h3, ?_, RP_fr (by rw [e 19 (by omega) (by omega)]) (by rw [e 37 (by omega) (by omega)]) (e 20 (by omega) (by omega)) (e 44 (by omega) (by omega)) h5, RS_fr (fun k a b => e k (by omega) (by omega)) (e 47 (by omega) (by omega)) (e 48 (by omega) (by omega)) (e 49 (by omega) (by omega)) h6, RC_fr (e 42 (by omega) (by omega)) (e 43 (by omega) (by omega)) h7⟩
  · rw [e 38 (by omega) (by omega)]
    exact RN_fr (fun k a b => e k (by omega) (by omega)) h1
  · rw [e 38 (by omega) (by omega)]
    exact h2
  · refine ⟨fun i hi => ?_, ?_⟩
    · rw [e34, e41]
      by_cases q : i = j
      · subst q
        simp [upd, h4.1 i hi]
      · simp [upd, q, h4.1 i hi]
    · rw [e41]
      rcases (by omega : j = 0 ∨ j = 1 ∨ j = 2 ∨ j = 3 ∨ j = 4 ∨ j = 5 ∨ j = 6) with rfl | rfl | rfl | rfl | rfl | rfl | rfl <;> simp [upd, h4.2, Int32.add_assoc, Int32.add_comm, i_alc]
/-- both tell the same finding -/
theorem find2 {μ : MM} (h : Rel μ) {c : Int32} (j : Nat) (hj : j < 7 ∧ (-1000001) - c = nI j) : ∃ μ1 μ2, f_X4_finding c μ = some (c, μ1) ∧ f_X5_finding c μ1 = some (c, μ2) ∧ Rel μ2 := by
  refine ⟨_, _, xfind hj.1 hj.2 μ, mfind hj.1 hj.2 _, ?_⟩
  have := Rel_find h hj.1
  rw [wst_o (show (41 : Nat) ≠ 34 by decide)]
  exact this
/-- and where the memory was only scratched between -/
theorem find2s {μ m : MM} (h : Rel μ) {c : Int32} (j : Nat) (hj : j < 7 ∧ (-1000001) - c = nI j) : ∃ μ1 μ2, f_X4_finding c μ = some (c, μ1) ∧ f_X5_finding c μ1 = some (c, μ2) ∧ Rel μ2 := find2 h j hj
theorem bdw_id {α : Type} (x : Option (α × MM)) : bdw x (fun a m => some (a, m)) = x := by cases x <;> rfl
theorem bdr_id {α : Type} (x : Option α) : bdr x (fun a => some a) = x := by cases x <;> rfl
/-- both tell a finding -/
theorem two_find {fx fm : MM → Option (Int32 × MM)} {μ : MM} (h : Rel μ) (c : Int32) (j : Nat) (hj : j < 7 ∧ (-1000001) - c = nI j) (e1 : fx μ = f_X4_finding c μ) (e2 : ∀ m : MM, (∀ k, k ≠ 34 → m k = μ k) → fm m = f_X5_finding c m) : ∃ r μ1 μ2, fx μ = some (r, μ1) ∧ fm μ1 = some (r, μ2) ∧ Rel μ2 := by
  refine ⟨c, _, _, e1.trans (xfind hj.1 hj.2 μ), (e2 _ (fun k hk => wst_o hk)).trans (mfind hj.1 hj.2 _), ?_⟩
  have := Rel_find h hj.1
  rw [wst_o (show (41 : Nat) ≠ 34 by decide)]
  exact this
/-! ===== one number of the row ===== -/
theorem become_s {i : Nat} (hi : i < 152) (v : Int32) (μ : MM) : f_X5_become (nI i) v μ = some (μ 38 i, wst μ 38 i v) := by
  unfold f_X5_become
  rw [ldi_n hi (by decide), sti_n hi (by decide)]
/-- number i of the row is put on both sides -/
theorem Rel_upd {μ : MM} (h : Rel μ) {i k p n : Nat} (hi : i < 152) (hk : 1 + cl i = k) (hp : ps i = p) {v : Int32} (hn : VN (μ 38) n) (hv : ok n i v) : Rel (wst (wst μ k p v) 38 i v) := by
  subst hk
  subst hp
  have := cl_le i
  refine Rel_row (fun q a b => by rw [wst_o b, wst_o (by omega)]) h ?_ ⟨n, ?_⟩
  · rw [wst_at, wst_o (show (38 : Nat) ≠ 1 + cl i by omega)]
    exact RN_fr (fun q a b => wst_o (by omega)) (RN_upd hi v h.1)
  · rw [wst_at, wst_o (show (38 : Nat) ≠ 1 + cl i by omega)]
    exact VN_upd hn hv
theorem Rel.eq {μ : MM} (h : Rel μ) {i k p : Nat} (hi : i < 152) (hk : 1 + cl i = k) (hp : ps i = p) : μ k p = μ 38 i := by
  subst hk
  subst hp
  exact h.1 i hi
theorem s_wind (a : Int32) : Two (f_X4_wind a) (f_X5_wind a) := by
  intro μ h
  by_cases q : wi a 0 7 = 0
  · exact two_find h (-1000001) 0 (by decide) (by simp only [f_X4_wind, isWithin_s, bdr_s, if_pos q, bdw_id]) (fun m _ => by simp only [f_X5_wind, within_s, bdr_s, if_pos q, bdw_id])
  · obtain ⟨x, hx, rfl⟩ := wi_n (N := 7) (by decide) q
    obtain ⟨n, hn⟩ := h.2.1
    have e := h.eq (i := 2) (k := 1) (p := 8) (by decide) rfl rfl
    refine ⟨μ 1 8, wst μ 1 8 (nI x), wst (wst μ 1 8 (nI x)) 38 2 (nI x), ?_, ?_, Rel_upd h (by decide) rfl rfl hn ⟨x, hx, rfl⟩⟩
    · simp only [f_X4_wind, isWithin_s, bdr_s, if_neg q, lt_s_]
    · simp only [f_X5_wind, within_s, bdr_s, if_neg q, bdw_id]
      rw [show (2 : Int32) = nI 2 from rfl, become_s (by decide), wst_o (by decide), e]
theorem s_fish (a : Int32) : Two (f_X4_fish a) (f_X5_fish a) := by
  intro μ h
  by_cases q : wi a 0 65535 = 0
  · exact two_find h (-1000001) 0 (by decide) (by simp only [f_X4_fish, isWithin_s, bdr_s, if_pos q, bdw_id]) (fun m _ => by simp only [f_X5_fish, within_s, bdr_s, if_pos q, bdw_id])
  · obtain ⟨x, hx, rfl⟩ := wi_n (N := 65535) (by decide) q
    obtain ⟨n, hn⟩ := h.2.1
    have e := h.eq (i := 3) (k := 1) (p := 9) (by decide) rfl rfl
    refine ⟨μ 1 9, wst μ 1 9 (nI x), wst (wst μ 1 9 (nI x)) 38 3 (nI x), ?_, ?_, Rel_upd h (by decide) rfl rfl hn ⟨x, hx, rfl⟩⟩
    · simp only [f_X4_fish, isWithin_s, bdr_s, if_neg q, lt_s_]
    · simp only [f_X5_fish, within_s, bdr_s, if_neg q, bdw_id]
      rw [show (3 : Int32) = nI 3 from rfl, become_s (by decide), wst_o (by decide), e]
theorem s_store (a : Int32) : Two (f_X4_store a) (f_X5_store a) := by
  intro μ h
  by_cases q : wi a 0 9999 = 0
  · exact two_find h (-1000001) 0 (by decide) (by simp only [f_X4_store, isWithin_s, bdr_s, if_pos q, bdw_id]) (fun m _ => by simp only [f_X5_store, within_s, bdr_s, if_pos q, bdw_id])
  · obtain ⟨x, hx, rfl⟩ := wi_n (N := 9999) (by decide) q
    obtain ⟨n, hn⟩ := h.2.1
    have e := h.eq (i := 1) (k := 1) (p := 10) (by decide) rfl rfl
    refine ⟨μ 1 10, wst μ 1 10 (nI x), wst (wst μ 1 10 (nI x)) 38 1 (nI x), ?_, ?_, Rel_upd h (by decide) rfl rfl hn ⟨x, hx, rfl⟩⟩
    · simp only [f_X4_store, isWithin_s, bdr_s, if_neg q, lt_s_]
    · simp only [f_X5_store, within_s, bdr_s, if_neg q, bdw_id]
      rw [show (1 : Int32) = nI 1 from rfl, become_s (by decide), wst_o (by decide), e]
theorem s_seed (a : Int32) : Two (f_X4_seed a) (f_X5_seed a) := by
  intro μ h
  obtain ⟨n, hn⟩ := h.2.1
  have e := h.eq (i := 5) (k := 1) (p := 12) (by decide) rfl rfl
  refine ⟨μ 1 12, wst μ 1 12 a, wst (wst μ 1 12 a) 38 5 a, rfl, ?_, Rel_upd h (by decide) rfl rfl hn trivial⟩
  simp only [f_X5_seed, bdw_id]
  rw [show (5 : Int32) = nI 5 from rfl, become_s (by decide), wst_o (by decide), e]
