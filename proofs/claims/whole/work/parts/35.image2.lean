theorem acp8 {β : Type} {μ : MM} {k k' : Nat} {f : MM → Option β} : acp μ k 8 k' 8 0 0 8 f = f (wsr μ k' (va_cpy (μ k) (μ k') 0 0 8)) := acp_l (n := 8) rfl (by decide)
theorem acp4 {β : Type} {μ : MM} {k k' : Nat} {f : MM → Option β} : acp μ k 4 k' 4 0 0 4 f = f (wsr μ k' (va_cpy (μ k) (μ k') 0 0 4)) := acp_l (n := 4) rfl (by decide)
theorem acp10 {β : Type} {μ : MM} {k k' : Nat} {f : MM → Option β} : acp μ k 10 k' 10 0 0 10 f = f (wsr μ k' (va_cpy (μ k) (μ k') 0 0 10)) := acp_l (n := 10) rfl (by decide)
theorem become_10_1_s (μ : MM) (hz : ∀ c, c < 100 → μ 8 c = 0 ∨ μ 8 c = 1) : ∃ m, f_X0_become_10_1 μ = some m ∧ (∀ k, ¬ (10 ≤ k ∧ k ≤ 18) → m k = μ k) ∧ ∀ i, i < 152 → m (10 + cl i) (ps i) = μ (1 + cl i) (ps i) := by
  unfold f_X0_become_10_1
  rw [lt_s_, acp8, acp8, acp8, acp4, acp4, acp4, jn1_s]
  generalize hm7 : wsr _ 16 _ = m7
  have o7 : ∀ k, ¬ (10 ≤ k ∧ k ≤ 18) → m7 k = μ k := by
    intro k hk
    subst hm7
    rw [wsr_ne (by omega), wsr_ne (by omega), wsr_ne (by omega), wsr_ne (by omega), wsr_ne (by omega), wsr_ne (by omega), wst_o (by omega)]
  have v0 : m7 10 0 = μ 1 0 := by subst hm7; simp [wsr, upd]
  have v1 : ∀ c, c < 8 → m7 11 c = μ 2 c ∧ m7 12 c = μ 3 c ∧ m7 13 c = μ 4 c := by
    intro c hc
    subst hm7
    simp [wsr, cpy_in hc]
  have v2 : ∀ c, c < 4 → m7 14 c = μ 5 c ∧ m7 15 c = μ 6 c ∧ m7 16 c = μ 7 c := by
    intro c hc
    subst hm7
    simp [wsr, cpy_in hc]
  clear hm7
  have eL := L_bec_s (b := 8) (b' := 17) L_X0_become_10_1_97 (fun k1 fu x1 m15 => by rw [L_X0_become_10_1_97]) (by decide) m7 (fun c hc => by rw [o7 8 (by decide)]; exact hz c hc) (fun m8 => lt_ (wst m8 10 8 (m8 1 8)) fun m9 => lt_ (wst m9 10 9 (m9 1 9)) fun m10 => lt_ (wst m10 10 10 (m10 1 10)) fun m11 => lt_ (wst m11 10 11 (m11 1 11)) fun m12 => lt_ (wst m12 10 12 (m12 1 12)) fun m13 => acp m13 9 10 18 10 0 0 10 fun m14 => some m14) 100 0 FU (by decide) (show 100 < 4096 by decide)
  have e0 : wsr m7 17 (fun j => if j < 0 then m7 8 j else m7 17 j) = m7 := by
    funext q
    by_cases hq : q = 17
    · subst hq
      rw [wsr_same]
      funext j
      rw [if_neg (Nat.not_lt_zero j)]
    · rw [wsr_ne hq]
  rw [e0, show nI 0 = (0 : Int32) from rfl] at eL
  rw [eL]
  simp only [lt_s_]
  rw [acp10]
  refine ⟨_, rfl, fun k hk => ?_, fun i hi => ?_⟩
  · rw [wsr_ne (by omega), wst_o (by omega), wst_o (by omega), wst_o (by omega), wst_o (by omega), wst_o (by omega), wsr_ne (by omega), o7 k hk]
  · have w1 := o7 1 (by decide)
    have w8 := o7 8 (by decide)
    have w9 := o7 9 (by decide)
    by_cases i6 : i < 6
    · rcases (by omega : i = 0 ∨ i = 1 ∨ i = 2 ∨ i = 3 ∨ i = 4 ∨ i = 5) with rfl | rfl | rfl | rfl | rfl | rfl <;> simp [cl, ps, wsr, upd, w1, v0]
    by_cases i16 : i < 16
    · obtain ⟨k, rfl⟩ : ∃ k, i = 6 + k := ⟨i - 6, by omega⟩
      have hk : k < 10 := by omega
      rw [(cl_p hk).1, (cl_p hk).2]
      simp [wsr, cpy_in hk, w9]
    by_cases i116 : i < 116
    · obtain ⟨k, rfl⟩ : ∃ k, i = 16 + k := ⟨i - 16, by omega⟩
      have hk : k < 100 := by omega
      rw [(cl_i hk).1, (cl_i hk).2]
      simp [wsr, hk, w8]
    by_cases i128 : i < 128
    · obtain ⟨s, hs, hi3⟩ : ∃ s, s < 4 ∧ (i = 116 + 3 * s ∨ i = 116 + 3 * s + 1 ∨ i = 116 + 3 * s + 2) := ⟨(i - 116) / 3, by omega, by omega⟩
      obtain ⟨a1, a2, a3, a4, a5, a6⟩ := cl_s hs
      obtain ⟨b1, b2, b3⟩ := v2 s hs
      rcases hi3 with rfl | rfl | rfl
      · rw [a1, a2]; simp [wsr, b1]
      · rw [a3, a4]; simp [wsr, b2]
      · rw [a5, a6]; simp [wsr, b3]
    · obtain ⟨s, hs, hi3⟩ : ∃ s, s < 8 ∧ (i = 128 + 3 * s ∨ i = 128 + 3 * s + 1 ∨ i = 128 + 3 * s + 2) := ⟨(i - 128) / 3, by omega, by omega⟩
      obtain ⟨a1, a2, a3, a4, a5, a6⟩ := cl_k s
      obtain ⟨b1, b2, b3⟩ := v1 s hs
      rcases hi3 with rfl | rfl | rfl
      · rw [a1, a2]; simp [wsr, b1]
      · rw [a3, a4]; simp [wsr, b2]
      · rw [a5, a6]; simp [wsr, b3]
theorem become_1_10_s (μ : MM) (hz : ∀ c, c < 100 → μ 17 c = 0 ∨ μ 17 c = 1) : ∃ m, f_X0_become_1_10 μ = some m ∧ (∀ k, ¬ (1 ≤ k ∧ k ≤ 9) → m k = μ k) ∧ ∀ i, i < 152 → m (1 + cl i) (ps i) = μ (10 + cl i) (ps i) := by
  unfold f_X0_become_1_10
  rw [lt_s_, acp8, acp8, acp8, acp4, acp4, acp4, jn1_s]
  generalize hm7 : wsr _ 7 _ = m7
  have o7 : ∀ k, ¬ (1 ≤ k ∧ k ≤ 9) → m7 k = μ k := by
    intro k hk
    subst hm7
    rw [wsr_ne (by omega), wsr_ne (by omega), wsr_ne (by omega), wsr_ne (by omega), wsr_ne (by omega), wsr_ne (by omega), wst_o (by omega)]
  have v0 : m7 1 0 = μ 10 0 := by subst hm7; simp [wsr, upd]
  have v1 : ∀ c, c < 8 → m7 2 c = μ 11 c ∧ m7 3 c = μ 12 c ∧ m7 4 c = μ 13 c := by
    intro c hc
    subst hm7
    simp [wsr, cpy_in hc]
  have v2 : ∀ c, c < 4 → m7 5 c = μ 14 c ∧ m7 6 c = μ 15 c ∧ m7 7 c = μ 16 c := by
    intro c hc
    subst hm7
    simp [wsr, cpy_in hc]
  clear hm7
  have eL := L_bec_s (b := 17) (b' := 8) L_X0_become_1_10_97 (fun k1 fu x1 m15 => by rw [L_X0_become_1_10_97]) (by decide) m7 (fun c hc => by rw [o7 17 (by decide)]; exact hz c hc) (fun m8 => lt_ (wst m8 1 8 (m8 10 8)) fun m9 => lt_ (wst m9 1 9 (m9 10 9)) fun m10 => lt_ (wst m10 1 10 (m10 10 10)) fun m11 => lt_ (wst m11 1 11 (m11 10 11)) fun m12 => lt_ (wst m12 1 12 (m12 10 12)) fun m13 => acp m13 18 10 9 10 0 0 10 fun m14 => some m14) 100 0 FU (by decide) (show 100 < 4096 by decide)
  have e0 : wsr m7 8 (fun j => if j < 0 then m7 17 j else m7 8 j) = m7 := by
    funext q
    by_cases hq : q = 8
    · subst hq
      rw [wsr_same]
      funext j
      rw [if_neg (Nat.not_lt_zero j)]
    · rw [wsr_ne hq]
  rw [e0, show nI 0 = (0 : Int32) from rfl] at eL
  rw [eL]
  simp only [lt_s_]
  rw [acp10]
  refine ⟨_, rfl, fun k hk => ?_, fun i hi => ?_⟩
  · rw [wsr_ne (by omega), wst_o (by omega), wst_o (by omega), wst_o (by omega), wst_o (by omega), wst_o (by omega), wsr_ne (by omega), o7 k hk]
  · have w1 := o7 10 (by decide)
    have w8 := o7 17 (by decide)
    have w9 := o7 18 (by decide)
    by_cases i6 : i < 6
    · rcases (by omega : i = 0 ∨ i = 1 ∨ i = 2 ∨ i = 3 ∨ i = 4 ∨ i = 5) with rfl | rfl | rfl | rfl | rfl | rfl <;> simp [cl, ps, wsr, upd, w1, v0]
    by_cases i16 : i < 16
    · obtain ⟨k, rfl⟩ : ∃ k, i = 6 + k := ⟨i - 6, by omega⟩
      have hk : k < 10 := by omega
      rw [(cl_p hk).1, (cl_p hk).2]
      simp [wsr, cpy_in hk, w9]
    by_cases i116 : i < 116
    · obtain ⟨k, rfl⟩ : ∃ k, i = 16 + k := ⟨i - 16, by omega⟩
      have hk : k < 100 := by omega
      rw [(cl_i hk).1, (cl_i hk).2]
      simp [wsr, hk, w8]
    by_cases i128 : i < 128
    · obtain ⟨s, hs, hi3⟩ : ∃ s, s < 4 ∧ (i = 116 + 3 * s ∨ i = 116 + 3 * s + 1 ∨ i = 116 + 3 * s + 2) := ⟨(i - 116) / 3, by omega, by omega⟩
      obtain ⟨a1, a2, a3, a4, a5, a6⟩ := cl_s hs
      obtain ⟨b1, b2, b3⟩ := v2 s hs
      rcases hi3 with rfl | rfl | rfl
      · rw [a1, a2]; simp [wsr, b1]
      · rw [a3, a4]; simp [wsr, b2]
      · rw [a5, a6]; simp [wsr, b3]
    · obtain ⟨s, hs, hi3⟩ : ∃ s, s < 8 ∧ (i = 128 + 3 * s ∨ i = 128 + 3 * s + 1 ∨ i = 128 + 3 * s + 2) := ⟨(i - 128) / 3, by omega, by omega⟩
      obtain ⟨a1, a2, a3, a4, a5, a6⟩ := cl_k s
      obtain ⟨b1, b2, b3⟩ := v1 s hs
      rcases hi3 with rfl | rfl | rfl
      · rw [a1, a2]; simp [wsr, b1]
      · rw [a3, a4]; simp [wsr, b2]
      · rw [a5, a6]; simp [wsr, b3]
theorem s_image : Two f_X4_image f_X5_image := by
  intro μ h
  obtain ⟨h1, ⟨n, hn⟩, h3, h4, h5, h6, h7⟩ := h
  obtain ⟨m, em, eo, ei⟩ := become_10_1_s μ (fun c hc => by rw [h1.isl1 hc]; exact hn.isl hc)
  refine ⟨1, wst m 0 2 1, wst (wsr (wst m 0 2 1) 39 (fun j => if j < 152 then (wst m 0 2 1) 38 j else (wst m 0 2 1) 39 j)) 37 3 1, ?_, ?_, ?_⟩
  · simp only [f_X4_image, em, bdr_s]
    rw [gd_t (by decide), lt_s_]
  · simp only [f_X5_image, copyRow_s (show (38 : Nat) ≠ 39 by decide), bdr_s]
    rw [gd_t (by decide), lt_s_]
  · have e : ∀ k, ¬ (10 ≤ k ∧ k ≤ 18) → k ≠ 0 → k ≠ 37 → k ≠ 39 → wst (wsr (wst m 0 2 1) 39 (fun j => if j < 152 then (wst m 0 2 1) 38 j else (wst m 0 2 1) 39 j)) 37 3 1 k = μ k := fun k q1 q2 q3 q4 => by rw [wst_o q3, wsr_ne q4, wst_o q2, eo k q1]
    have e2 : ∀ k, 10 ≤ k ∧ k ≤ 18 → wst (wsr (wst m 0 2 1) 39 (fun j => if j < 152 then (wst m 0 2 1) 38 j else (wst m 0 2 1) 39 j)) 37 3 1 k = m k := fun k q => by rw [wst_o (by omega), wsr_ne (by omega), wst_o (by omega)]
    have e39 : ∀ j, j < 152 → wst (wsr (wst m 0 2 1) 39 (fun j => if j < 152 then (wst m 0 2 1) 38 j else (wst m 0 2 1) 39 j)) 37 3 1 39 j = μ 38 j := fun j hj => by
      rw [wst_o (by decide), wsr_same]
      show (if j < 152 then _ else _) = _
      rw [if_pos hj, wst_o (by decide), eo 38 (by decide)]
    have e37 : ∀ j, j ≠ 3 → wst (wsr (wst m 0 2 1) 39 (fun j => if j < 152 then (wst m 0 2 1) 38 j else (wst m 0 2 1) 39 j)) 37 3 1 37 j = μ 37 j := fun j hj => by
      rw [wst_at, upd_o hj, wsr_ne (by decide), wst_o (by decide), eo 37 (by decide)]
    have e373 : wst (wsr (wst m 0 2 1) 39 (fun j => if j < 152 then (wst m 0 2 1) 38 j else (wst m 0 2 1) 39 j)) 37 3 1 37 3 = 1 := by rw [wst_at, upd_at]
    have e02 : wst (wsr (wst m 0 2 1) 39 (fun j => if j < 152 then (wst m 0 2 1) 38 j else (wst m 0 2 1) 39 j)) 37 3 1 0 2 = 1 := by rw [wst_o (by decide), wsr_ne (by decide), wst_at, upd_at]
    generalize wst (wsr (wst m 0 2 1) 39 (fun j => if j < 152 then (wst m 0 2 1) 38 j else (wst m 0 2 1) 39 j)) 37 3 1 = M at e e2 e39 e37 e373 e02 ⊢
    refine ⟨?_, ?_, ⟨by rw [e02, e373], Or.inr ⟨e373, ?_, n, VN_cong e39 hn⟩⟩, RF_fr (e 34 (by decide) (by decide) (by decide) (by decide)) (e 41 (by decide) (by decide) (by decide) (by decide)) h4, RP_fr (by rw [e 19 (by decide) (by decide) (by decide) (by decide)]) (e37 11 (by decide)) (e 20 (by decide) (by decide) (by decide) (by decide)) (e 44 (by decide) (by decide) (by decide) (by decide)) h5, RS_fr (fun k a b => e k (by omega) (by omega) (by omega) (by omega)) (e 47 (by decide) (by decide) (by decide) (by decide)) (e 48 (by decide) (by decide) (by decide) (by decide)) (e 49 (by decide) (by decide) (by decide) (by decide)) h6, RC_fr (e 42 (by decide) (by decide) (by decide) (by decide)) (e 43 (by decide) (by decide) (by decide) (by decide)) h7⟩
    · rw [e 38 (by decide) (by decide) (by decide) (by decide)]
      exact RN_fr (fun k a b => e k (by omega) (by omega) (by omega) (by omega)) h1
    · rw [e 38 (by decide) (by decide) (by decide) (by decide)]
      exact ⟨n, hn⟩
    · intro i hi
      have := cl_le i
      rw [e2 _ (by omega), ei i hi, e39 i hi]
      exact h1 i hi
theorem s_undo : Two f_X4_undo f_X5_undo := by
  intro μ h
  by_cases q : μ 37 3 = 0
  · exact two_find h (-1000004) 3 (by decide) (by simp only [f_X4_undo, h.2.2.1.1, if_pos q, bdw_id]) (fun m hm => by simp only [f_X5_undo, hm 37 (by decide), if_pos q, bdw_id])
  · obtain ⟨k1, hk, n, hn⟩ := h.2.2.1.2.resolve_left q
    obtain ⟨m, em, eo, ei⟩ := become_1_10_s μ (fun c hc => by rw [show μ 17 c = μ 39 (16 + c) from hk.isl hc]; exact hn.isl hc)
    have e0 : m 1 11 = μ 39 0 := (ei 0 (by decide)).trans (hk 0 (by decide))
    refine ⟨μ 39 0, m, wsr m 38 (fun j => if j < 152 then m 39 j else m 38 j), ?_, ?_, ?_⟩
    · simp only [f_X4_undo, h.2.2.1.1, if_neg q, em, bdr_s, e0]
    · simp only [f_X5_undo, eo 37 (by decide), if_neg q, copyRow_s (show (39 : Nat) ≠ 38 by decide), bdr_s]
      rw [ldi_c 0 (by decide), wsr_same]
      show some ((if 0 < 152 then m 39 0 else m 38 0), _) = _
      rw [if_pos (by decide), eo 39 (by decide)]
    · have e38 : ∀ j, j < 152 → (wsr m 38 (fun j => if j < 152 then m 39 j else m 38 j)) 38 j = μ 39 j := fun j hj => by
        rw [wsr_same]
        show (if j < 152 then _ else _) = _
        rw [if_pos hj, eo 39 (by decide)]
      refine Rel_row (fun k a b => by rw [wsr_ne b, eo k (by omega)]) h ?_ ⟨n, VN_cong e38 hn⟩
      intro i hi
      have := cl_le i
      rw [e38 i hi, wsr_ne (by omega), ei i hi]
      exact hk i hi
