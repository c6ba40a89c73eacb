def L_X4_status_32 (μ : MM) : Nat → Int32 → Int32 → Option (Int32 × MM)
  | 0, _, _ => none
  | fu + 1, x2, x3 => if 7 ≤ x3 then (some (x2, μ)) else (ldi μ 34 7 x3 fun x4 => lt_ ((x2 + x4)) fun x5 => lt_ (x3 + 1) fun x6 => L_X4_status_32 μ fu x5 x6)
def f_X4_status (p1 : Int32) (μ : MM) : Option (Int32 × MM) := bdr (f_X4_isWithin p1 (-1) 6) fun x1 => if x1 = 0 then (bdw (f_X4_finding (-1000001) μ) fun x8 m1 => some (x8, m1)) else (if p1 < 0 then (L_X4_status_32 μ FU 0 0) else (ldi μ 34 7 p1 fun x7 => some (x7, μ)))
theorem nd_X4_status : yX4_status.cls ≠ "java/lang/invoke/MethodHandle" ∧ yX4_status.cls ≠ "java/lang/invoke/VarHandle" ∧ (parseMethodDescriptor yX4_status.desc).map (fun d => d.parameters.length) = some 1 := by decide +kernel
set_option maxHeartbeats 4000000 in
set_option maxRecDepth 100000 in
theorem c_X4_status (l : Launch) (G : EN)  {p1 : Int32} {μ : MM} {r : Int32} {m : MM} (h : f_X4_status p1 μ = some (r, m)) : XM l G yX4_status cX4_status 4 (some .int) 1 22 [.ref (G.2.1 0), .int p1] μ (some (.int r)) m := by
  refine x_met (own := RX4) (by decide +kernel) rfl (Nat.le_of_ble_eq_true rfl) (fun Γ A H ls hg C hr hX hQ hl => ?_)
  have hl : lv_has ls 4 [(0, .ref (G.2.1 0)), (1, .int p1)] := hl
  unfold f_X4_status at h
  refine i_iload_n C dX4_status_0 rfl (lv_at hl 1 rfl) ?_
  refine i_iconst (v := (-1)) C dX4_status_1 rfl ?_
  refine i_bipush (v := 6) C dX4_status_2 rfl ?_
  obtain ⟨x1, e1, h⟩ := w_bdr h
  refine x_callSi C hX (c_X4_isWithin (gl Γ) G  e1) [] rfl hl tw1_201 tw1_202 tw1_1 tw1_203 nd_X4_isWithin ⟨(Nat.le_of_ble_eq_true rfl), (Nat.le_of_ble_eq_true rfl)⟩ (Nat.le_of_ble_eq_true rfl) dX4_status_4 (fun H locs hX => ?_)
  refine i_if_ne (tgt := 17) C h dX4_status_7 (by decide) (fun _ h => ?_) (fun _ h => ?_)
  · refine i_iload_n C dX4_status_17 rfl (lv_at hl 1 rfl) ?_
    refine i_if_lt (tgt := 28) C h dX4_status_18 (by decide) (fun _ h => ?_) (fun _ h => ?_)
    · refine i_iconst (v := 0) C dX4_status_28 rfl ?_
      refine i_istore_n C [(2, .int 0), (0, .ref (G.2.1 0)), (1, .int p1)] dX4_status_29 rfl hl (by decide) rfl (fun ls hl => ?_)
      refine i_iconst (v := 0) C dX4_status_30 rfl ?_
      refine i_istore_n C [(3, .int 0), (2, .int 0), (0, .ref (G.2.1 0)), (1, .int p1)] dX4_status_31 rfl hl (by decide) rfl (fun ls hl => ?_)
      have L1 : ∀ (fu : Nat) (x2 : Int32) (x3 : Int32) (H : Heap) (locs : List Loc) (ls : Array Slot), L_X4_status_32 μ fu x2 x3 = some (r, m) → lv_has ls 4 [(0, .ref (G.2.1 0)), (2, .int x2), (3, .int x3)] → XW G A (gs Γ) H locs μ → WX Γ H locs 32 ls [] := by
        intro fu
        induction fu with
        | zero =>
          intro x2 x3 H locs ls h
          rw [L_X4_status_32] at h
          cases h
        | succ fu ih =>
          intro x2 x3 H locs ls h hl hX
          rw [L_X4_status_32] at h
          refine i_iload_n C dX4_status_32 rfl (lv_at hl 2 rfl) ?_
          refine i_bipush (v := 7) C dX4_status_33 rfl ?_
          refine i_icmp_ge (tgt := 53) C h dX4_status_35 (by decide) (fun _ h => ?_) (fun _ h => ?_)
          · refine i_iload_n C dX4_status_53 rfl (lv_at hl 1 rfl) ?_
            exact x_iretW C hX hr hQ h dX4_status_54
          refine i_iload_n C dX4_status_38 rfl (lv_at hl 1 rfl) ?_
          refine i_aload_n C dX4_status_39 rfl (lv_at hl 0 rfl) ?_
          refine x_get C hX (fg_0_6 G) tw1_172 dX4_status_40 ?_
          refine i_iload_n C dX4_status_43 rfl (lv_at hl 2 rfl) ?_
          refine x_iald C hX (ai_34 G) h dX4_status_44 (fun x4 h => ?_)
          refine i_iadd C dX4_status_45 ?_
          refine i_istoreL_n C (fun x5 => [(2, .int x5), (0, .ref (G.2.1 0)), (3, .int x3)]) h dX4_status_46 rfl hl (by decide) (fun _ => rfl) (fun x5 ls h hl => ?_)
          refine i_iinc C (j := 2) (fun x6 => [(3, .int x6), (2, .int x5), (0, .ref (G.2.1 0))]) h dX4_status_47 hl rfl rfl (by decide) (fun _ => rfl) (fun x6 ls h hl => ?_)
          refine i_goto (tgt := 32) C dX4_status_50 (by decide) ?_
          exact ih _ _ _ _ _ h (lv_sub hl [2, 1, 0] rfl) hX
      exact L1 FU _ _ _ _ _ h (lv_sub hl [2, 1, 0] rfl) hX
    refine i_aload_n C dX4_status_21 rfl (lv_at hl 0 rfl) ?_
    refine x_get C hX (fg_0_6 G) tw1_172 dX4_status_22 ?_
    refine i_iload_n C dX4_status_25 rfl (lv_at hl 1 rfl) ?_
    refine x_iald C hX (ai_34 G) h dX4_status_26 (fun x7 h => ?_)
    exact x_iretW C hX hr hQ h dX4_status_27
  refine i_aload_n C dX4_status_10 rfl (lv_at hl 0 rfl) ?_
  refine i_ldc C tw1_204 dX4_status_11 ?_
  obtain ⟨x8, m1, e2, h⟩ := w_bdw h
  refine x_callVi C hX (fg_0_0 G) (c_X4_finding (gl Γ) G  e2) [] rfl hl tw1_205 tw1_207 ts1_0 tw1_1 tw1_208 rfl nd_X4_finding ⟨(Nat.le_of_ble_eq_true rfl), (Nat.le_of_ble_eq_true rfl)⟩ (Nat.le_of_ble_eq_true rfl) dX4_status_13 (fun H locs hX => ?_)
  exact x_iretW C hX hr hQ h dX4_status_16
def f_X5_finding (p1 : Int32) (μ : MM) : Option (Int32 × MM) := ldi μ 41 8 (((-1000001) - p1) + 1) fun x1 => sti μ 41 8 (((-1000001) - p1) + 1) (x1 + 1) fun m1 => ldi m1 41 8 0 fun x2 => sti m1 41 8 0 (x2 + 1) fun m2 => some (p1, m2)
theorem nd_X5_finding : yX5_finding.cls ≠ "java/lang/invoke/MethodHandle" ∧ yX5_finding.cls ≠ "java/lang/invoke/VarHandle" ∧ (parseMethodDescriptor yX5_finding.desc).map (fun d => d.parameters.length) = some 1 := by decide +kernel
set_option maxHeartbeats 4000000 in
set_option maxRecDepth 100000 in
theorem c_X5_finding (l : Launch) (G : EN)  {p1 : Int32} {μ : MM} {r : Int32} {m : MM} (h : f_X5_finding p1 μ = some (r, m)) : XM l G yX5_finding cX5_finding 2 (some .int) 0 0 [.ref (G.2.1 37), .int p1] μ (some (.int r)) m := by
  refine x_met (own := RX5) (by decide +kernel) rfl (Nat.le_of_ble_eq_true rfl) (fun Γ A H ls hg C hr hX hQ hl => ?_)
  have hl : lv_has ls 2 [(0, .ref (G.2.1 37)), (1, .int p1)] := hl
  unfold f_X5_finding at h
  refine i_aload_n C dX5_finding_0 rfl (lv_at hl 0 rfl) ?_
  refine x_get C hX (fg_37_4 G) tw4_87 dX5_finding_1 ?_
  refine i_ldc C tw4_172 dX5_finding_4 ?_
  refine i_iload_n C dX5_finding_6 rfl (lv_at hl 1 rfl) ?_
  refine i_isub C dX5_finding_7 ?_
  refine i_iconst (v := 1) C dX5_finding_8 rfl ?_
  refine i_iadd C dX5_finding_9 ?_
  refine i_dup2 C dX5_finding_10 rfl rfl ?_
  refine x_iald C hX (ai_41 G) h dX5_finding_11 (fun x1 h => ?_)
  refine i_iconst (v := 1) C dX5_finding_12 rfl ?_
  refine i_iadd C dX5_finding_13 ?_
  refine x_iast C hX (ai_41 G) h dX5_finding_14 (fun H locs m1 h hX => ?_)
  refine i_aload_n C dX5_finding_15 rfl (lv_at hl 0 rfl) ?_
  refine x_get C hX (fg_37_4 G) tw4_87 dX5_finding_16 ?_
  refine i_iconst (v := 0) C dX5_finding_19 rfl ?_
  refine i_dup2 C dX5_finding_20 rfl rfl ?_
  refine x_iald C hX (ai_41 G) h dX5_finding_21 (fun x2 h => ?_)
  refine i_iconst (v := 1) C dX5_finding_22 rfl ?_
  refine i_iadd C dX5_finding_23 ?_
  refine x_iast C hX (ai_41 G) h dX5_finding_24 (fun H locs m2 h hX => ?_)
  refine i_iload_n C dX5_finding_25 rfl (lv_at hl 1 rfl) ?_
  exact x_iretW C hX hr hQ h dX5_finding_26
def f_X5_within (p0 : Int32) (p1 : Int32) (p2 : Int32) : Option Int32 := if p0 < p1 then (some 0) else (if p2 < p0 then (some 0) else (some 1))
theorem nd_X5_within : yX5_within.cls ≠ "java/lang/invoke/MethodHandle" ∧ yX5_within.cls ≠ "java/lang/invoke/VarHandle" ∧ (parseMethodDescriptor yX5_within.desc).map (fun d => d.parameters.length) = some 3 := by decide +kernel
set_option maxHeartbeats 4000000 in
set_option maxRecDepth 100000 in
theorem c_X5_within (l : Launch) (G : EN)  {p0 p1 p2 : Int32} {μ : MM} {r : Int32} (h : f_X5_within p0 p1 p2 = some r) : XM l G yX5_within cX5_within 3 (some .boolean) 0 0 [.int p0, .int p1, .int p2] μ (some (.int r)) μ := by
  refine x_met (own := RX5) (by decide +kernel) rfl (Nat.le_of_ble_eq_true rfl) (fun Γ A H ls hg C hr hX hQ hl => ?_)
  have hl : lv_has ls 3 [(0, .int p0), (1, .int p1), (2, .int p2)] := hl
  unfold f_X5_within at h
  refine i_iload_n C dX5_within_0 rfl (lv_at hl 0 rfl) ?_
  refine i_iload_n C dX5_within_1 rfl (lv_at hl 1 rfl) ?_
  refine i_icmp_lt (tgt := 14) C h dX5_within_2 (by decide) (fun _ h => ?_) (fun _ h => ?_)
  · refine i_iconst (v := 0) C dX5_within_14 rfl ?_
    exact x_zcR C hX (by decide) hr hQ h dX5_within_15
  refine i_iload_n C dX5_within_5 rfl (lv_at hl 0 rfl) ?_
  refine i_iload_n C dX5_within_6 rfl (lv_at hl 2 rfl) ?_
  refine i_icmp_gt (tgt := 14) C h dX5_within_7 (by decide) (fun _ h => ?_) (fun _ h => ?_)
  · refine i_iconst (v := 0) C dX5_within_14 rfl ?_
    exact x_zcR C hX (by decide) hr hQ h dX5_within_15
  refine i_iconst (v := 1) C dX5_within_10 rfl ?_
  refine i_goto (tgt := 15) C dX5_within_11 (by decide) ?_
  exact x_zcR C hX (by decide) hr hQ h dX5_within_15
def f_X5_become (p1 : Int32) (p2 : Int32) (μ : MM) : Option (Int32 × MM) := ldi μ 38 152 p1 fun x1 => sti μ 38 152 p1 p2 fun m1 => some (x1, m1)
theorem nd_X5_become : yX5_become.cls ≠ "java/lang/invoke/MethodHandle" ∧ yX5_become.cls ≠ "java/lang/invoke/VarHandle" ∧ (parseMethodDescriptor yX5_become.desc).map (fun d => d.parameters.length) = some 2 := by decide +kernel
set_option maxHeartbeats 4000000 in
set_option maxRecDepth 100000 in
theorem c_X5_become (l : Launch) (G : EN)  {p1 p2 : Int32} {μ : MM} {r : Int32} {m : MM} (h : f_X5_become p1 p2 μ = some (r, m)) : XM l G yX5_become cX5_become 4 (some .int) 0 0 [.ref (G.2.1 37), .int p1, .int p2] μ (some (.int r)) m := by
  refine x_met (own := RX5) (by decide +kernel) rfl (Nat.le_of_ble_eq_true rfl) (fun Γ A H ls hg C hr hX hQ hl => ?_)
  have hl : lv_has ls 4 [(0, .ref (G.2.1 37)), (1, .int p1), (2, .int p2)] := hl
  unfold f_X5_become at h
  refine i_aload_n C dX5_become_0 rfl (lv_at hl 0 rfl) ?_
  refine x_get C hX (fg_37_0 G) tw4_83 dX5_become_1 ?_
  refine i_iload_n C dX5_become_4 rfl (lv_at hl 1 rfl) ?_
  refine x_iald C hX (ai_38 G) h dX5_become_5 (fun x1 h => ?_)
  refine i_istore_n C [(3, .int x1), (0, .ref (G.2.1 37)), (1, .int p1), (2, .int p2)] dX5_become_6 rfl hl (by decide) rfl (fun ls hl => ?_)
  refine i_aload_n C dX5_become_7 rfl (lv_at hl 1 rfl) ?_
  refine x_get C hX (fg_37_0 G) tw4_83 dX5_become_8 ?_
  refine i_iload_n C dX5_become_11 rfl (lv_at hl 2 rfl) ?_
  refine i_iload_n C dX5_become_12 rfl (lv_at hl 3 rfl) ?_
  refine x_iast C hX (ai_38 G) h dX5_become_13 (fun H locs m1 h hX => ?_)
  refine i_iload_n C dX5_become_14 rfl (lv_at hl 0 rfl) ?_
  exact x_iretW C hX hr hQ h dX5_become_15
def L_X5_copyRow_2 (ka : Nat) (na : Nat) (kb : Nat) (nb : Nat) : Nat → Int32 → MM → Option MM
  | 0, _, _ => none
  | fu + 1, x1, m1 => if 152 ≤ x1 then (some m1) else (ldi m1 ka na x1 fun x2 => sti m1 kb nb x1 x2 fun m2 => lt_ (x1 + 1) fun x3 => L_X5_copyRow_2 ka na kb nb fu x3 m2)
def f_X5_copyRow (ka : Nat) (na : Nat) (kb : Nat) (nb : Nat) (μ : MM) : Option MM := L_X5_copyRow_2 ka na kb nb FU 0 μ
theorem nd_X5_copyRow : yX5_copyRow.cls ≠ "java/lang/invoke/MethodHandle" ∧ yX5_copyRow.cls ≠ "java/lang/invoke/VarHandle" ∧ (parseMethodDescriptor yX5_copyRow.desc).map (fun d => d.parameters.length) = some 2 := by decide +kernel
set_option maxHeartbeats 4000000 in
set_option maxRecDepth 100000 in
theorem c_X5_copyRow (l : Launch) (G : EN) {ka na : Nat} (ha : AI G ka na) {kb nb : Nat} (hb : AI G kb nb) {μ : MM} {r : MM} (h : f_X5_copyRow ka na kb nb μ = some r) : XM l G yX5_copyRow cX5_copyRow 3 none 0 0 [.ref (G.2.1 ka), .ref (G.2.1 kb)] μ none r := by
  refine x_met (own := RX5) (by decide +kernel) rfl (Nat.le_of_ble_eq_true rfl) (fun Γ A H ls hg C hr hX hQ hl => ?_)
  have hl : lv_has ls 3 [(0, .ref (G.2.1 ka)), (1, .ref (G.2.1 kb))] := hl
  unfold f_X5_copyRow at h
  refine i_iconst (v := 0) C dX5_copyRow_0 rfl ?_
  refine i_istore_n C [(2, .int 0), (0, .ref (G.2.1 ka)), (1, .ref (G.2.1 kb))] dX5_copyRow_1 rfl hl (by decide) rfl (fun ls hl => ?_)
  have L1 : ∀ (fu : Nat) (x1 : Int32) (m1 : MM) (H : Heap) (locs : List Loc) (ls : Array Slot), L_X5_copyRow_2 ka na kb nb fu x1 m1 = some r → lv_has ls 3 [(0, .ref (G.2.1 ka)), (1, .ref (G.2.1 kb)), (2, .int x1)] → XW G A (gs Γ) H locs m1 → WX Γ H locs 2 ls [] := by
    intro fu
    induction fu with
    | zero =>
      intro x1 m1 H locs ls h
      rw [L_X5_copyRow_2] at h
      cases h
    | succ fu ih =>
      intro x1 m1 H locs ls h hl hX
      rw [L_X5_copyRow_2] at h
      refine i_iload_n C dX5_copyRow_2 rfl (lv_at hl 2 rfl) ?_
      refine i_sipush (v := 152) C dX5_copyRow_3 rfl ?_
      refine i_icmp_ge (tgt := 21) C h dX5_copyRow_6 (by decide) (fun _ h => ?_) (fun _ h => ?_)
      · exact x_vretV C hX hr hQ h dX5_copyRow_21
      refine i_aload_n C dX5_copyRow_9 rfl (lv_at hl 1 rfl) ?_
      refine i_iload_n C dX5_copyRow_10 rfl (lv_at hl 2 rfl) ?_
      refine i_aload_n C dX5_copyRow_11 rfl (lv_at hl 0 rfl) ?_
      refine i_iload_n C dX5_copyRow_12 rfl (lv_at hl 2 rfl) ?_
      refine x_iald C hX ha h dX5_copyRow_13 (fun x2 h => ?_)
      refine x_iast C hX hb h dX5_copyRow_14 (fun H locs m2 h hX => ?_)
      refine i_iinc C (j := 2) (fun x3 => [(2, .int x3), (0, .ref (G.2.1 ka)), (1, .ref (G.2.1 kb))]) h dX5_copyRow_15 hl rfl rfl (by decide) (fun _ => rfl) (fun x3 ls h hl => ?_)
      refine i_goto (tgt := 2) C dX5_copyRow_18 (by decide) ?_
      exact ih _ _ _ _ _ h (lv_sub hl [1, 2, 0] rfl) hX
  exact L1 FU _ _ _ _ _ h (lv_sub hl [1, 2, 0] rfl) hX
def f_X5_putBack (p1 : Int32) (μ : MM) : Option (Int32 × MM) := bdr (f_X5_copyRow 40 152 38 152 μ) fun m1 => some (p1, m1)
theorem nd_X5_putBack : yX5_putBack.cls ≠ "java/lang/invoke/MethodHandle" ∧ yX5_putBack.cls ≠ "java/lang/invoke/VarHandle" ∧ (parseMethodDescriptor yX5_putBack.desc).map (fun d => d.parameters.length) = some 1 := by decide +kernel
set_option maxHeartbeats 4000000 in
set_option maxRecDepth 100000 in
theorem c_X5_putBack (l : Launch) (G : EN)  {p1 : Int32} {μ : MM} {r : Int32} {m : MM} (h : f_X5_putBack p1 μ = some (r, m)) : XM l G yX5_putBack cX5_putBack 2 (some .int) 1 22 [.ref (G.2.1 37), .int p1] μ (some (.int r)) m := by
  refine x_met (own := RX5) (by decide +kernel) rfl (Nat.le_of_ble_eq_true rfl) (fun Γ A H ls hg C hr hX hQ hl => ?_)
  have hl : lv_has ls 2 [(0, .ref (G.2.1 37)), (1, .int p1)] := hl
  unfold f_X5_putBack at h
  refine i_aload_n C dX5_putBack_0 rfl (lv_at hl 0 rfl) ?_
  refine x_get C hX (fg_37_2 G) tw4_85 dX5_putBack_1 ?_
  refine i_aload_n C dX5_putBack_4 rfl (lv_at hl 0 rfl) ?_
  refine x_get C hX (fg_37_0 G) tw4_83 dX5_putBack_5 ?_
  obtain ⟨m1, e1, h⟩ := w_bdr h
  refine x_callSv C hX (c_X5_copyRow (gl Γ) G (ai_40 G) (ai_38 G) e1) [] rfl hl tw5_89 tw5_90 tw1_7 tw5_91 nd_X5_copyRow ⟨(Nat.le_of_ble_eq_true rfl), (Nat.le_of_ble_eq_true rfl)⟩ (Nat.le_of_ble_eq_true rfl) dX5_putBack_8 (fun H locs hX => ?_)
  refine i_iload_n C dX5_putBack_11 rfl (lv_at hl 1 rfl) ?_
  exact x_iretW C hX hr hQ h dX5_putBack_12
def f_X5_has (p0 : Int32) (p1 : Int32) : Option Int32 := if ((sr p0 p1) &&& 1) = 1 then (some 1) else (some 0)
theorem nd_X5_has : yX5_has.cls ≠ "java/lang/invoke/MethodHandle" ∧ yX5_has.cls ≠ "java/lang/invoke/VarHandle" ∧ (parseMethodDescriptor yX5_has.desc).map (fun d => d.parameters.length) = some 2 := by decide +kernel
set_option maxHeartbeats 4000000 in
set_option maxRecDepth 100000 in
theorem c_X5_has (l : Launch) (G : EN)  {p0 p1 : Int32} {μ : MM} {r : Int32} (h : f_X5_has p0 p1 = some r) : XM l G yX5_has cX5_has 2 (some .boolean) 0 0 [.int p0, .int p1] μ (some (.int r)) μ := by
  refine x_met (own := RX5) (by decide +kernel) rfl (Nat.le_of_ble_eq_true rfl) (fun Γ A H ls hg C hr hX hQ hl => ?_)
  have hl : lv_has ls 2 [(0, .int p0), (1, .int p1)] := hl
  unfold f_X5_has at h
  refine i_iload_n C dX5_has_0 rfl (lv_at hl 0 rfl) ?_
  refine i_iload_n C dX5_has_1 rfl (lv_at hl 1 rfl) ?_
  refine i_ishr C dX5_has_2 ?_
  refine i_iconst (v := 1) C dX5_has_3 rfl ?_
  refine i_iand C dX5_has_4 ?_
  refine i_iconst (v := 1) C dX5_has_5 rfl ?_
  refine i_icmp_ne (tgt := 13) C h dX5_has_6 (by decide) (fun _ h => ?_) (fun _ h => ?_)
  · refine i_iconst (v := 0) C dX5_has_13 rfl ?_
    exact x_zcR C hX (by decide) hr hQ h dX5_has_14
  refine i_iconst (v := 1) C dX5_has_9 rfl ?_
  refine i_goto (tgt := 14) C dX5_has_10 (by decide) ?_
  exact x_zcR C hX (by decide) hr hQ h dX5_has_14
def L_X5_bits_4 : Nat → Int32 → Int32 → Option Int32
  | 0, _, _ => none
  | fu + 1, x1, x2 => if x2 = 0 then (some x1) else (lt_ (x1 + 1) fun x3 => lt_ ((x2 &&& (x2 - 1))) fun x4 => L_X5_bits_4 fu x3 x4)
def f_X5_bits (p0 : Int32) : Option Int32 := L_X5_bits_4 FU 0 p0
theorem nd_X5_bits : yX5_bits.cls ≠ "java/lang/invoke/MethodHandle" ∧ yX5_bits.cls ≠ "java/lang/invoke/VarHandle" ∧ (parseMethodDescriptor yX5_bits.desc).map (fun d => d.parameters.length) = some 1 := by decide +kernel
set_option maxHeartbeats 4000000 in
set_option maxRecDepth 100000 in
theorem c_X5_bits (l : Launch) (G : EN)  {p0 : Int32} {μ : MM} {r : Int32} (h : f_X5_bits p0 = some r) : XM l G yX5_bits cX5_bits 3 (some .int) 0 0 [.int p0] μ (some (.int r)) μ := by
  refine x_met (own := RX5) (by decide +kernel) rfl (Nat.le_of_ble_eq_true rfl) (fun Γ A H ls hg C hr hX hQ hl => ?_)
  have hl : lv_has ls 3 [(0, .int p0)] := hl
  unfold f_X5_bits at h
  refine i_iconst (v := 0) C dX5_bits_0 rfl ?_
  refine i_istore_n C [(1, .int 0), (0, .int p0)] dX5_bits_1 rfl hl (by decide) rfl (fun ls hl => ?_)
  refine i_iload_n C dX5_bits_2 rfl (lv_at hl 1 rfl) ?_
  refine i_istore_n C [(2, .int p0), (1, .int 0), (0, .int p0)] dX5_bits_3 rfl hl (by decide) rfl (fun ls hl => ?_)
  have L1 : ∀ (fu : Nat) (x1 : Int32) (x2 : Int32) (H : Heap) (locs : List Loc) (ls : Array Slot), L_X5_bits_4 fu x1 x2 = some r → lv_has ls 3 [(1, .int x1), (2, .int x2)] → XW G A (gs Γ) H locs μ → WX Γ H locs 4 ls [] := by
    intro fu
    induction fu with
    | zero =>
      intro x1 x2 H locs ls h
      rw [L_X5_bits_4] at h
      cases h
    | succ fu ih =>
      intro x1 x2 H locs ls h hl hX
      rw [L_X5_bits_4] at h
      refine i_iload_n C dX5_bits_4 rfl (lv_at hl 1 rfl) ?_
      refine i_if_eq (tgt := 20) C h dX5_bits_5 (by decide) (fun _ h => ?_) (fun _ h => ?_)
      · refine i_iload_n C dX5_bits_20 rfl (lv_at hl 0 rfl) ?_
        exact x_iretR C hX hr hQ h dX5_bits_21
      refine i_iinc C (j := 0) (fun x3 => [(1, .int x3), (2, .int x2)]) h dX5_bits_8 hl rfl rfl (by decide) (fun _ => rfl) (fun x3 ls h hl => ?_)
      refine i_iload_n C dX5_bits_11 rfl (lv_at hl 1 rfl) ?_
      refine i_iload_n C dX5_bits_12 rfl (lv_at hl 1 rfl) ?_
      refine i_iconst (v := 1) C dX5_bits_13 rfl ?_
      refine i_isub C dX5_bits_14 ?_
      refine i_iand C dX5_bits_15 ?_
      refine i_istoreL_n C (fun x4 => [(2, .int x4), (1, .int x3)]) h dX5_bits_16 rfl hl (by decide) (fun _ => rfl) (fun x4 ls h hl => ?_)
      refine i_goto (tgt := 4) C dX5_bits_17 (by decide) ?_
      exact ih _ _ _ _ _ h (lv_sub hl [1, 0] rfl) hX
  exact L1 FU _ _ _ _ _ h (lv_sub hl [1, 0] rfl) hX
def f_X5_isCat (p1 : Int32) (μ : MM) : Option Int32 := ldi μ 38 152 4 fun x1 => bdr (f_X5_within p1 0 (x1 - 1)) fun x2 => gd (x2 = 0 ∨ x2 = 1) (some x2)
theorem nd_X5_isCat : yX5_isCat.cls ≠ "java/lang/invoke/MethodHandle" ∧ yX5_isCat.cls ≠ "java/lang/invoke/VarHandle" ∧ (parseMethodDescriptor yX5_isCat.desc).map (fun d => d.parameters.length) = some 1 := by decide +kernel
set_option maxHeartbeats 4000000 in
set_option maxRecDepth 100000 in
theorem c_X5_isCat (l : Launch) (G : EN)  {p1 : Int32} {μ : MM} {r : Int32} (h : f_X5_isCat p1 μ = some r) : XM l G yX5_isCat cX5_isCat 2 (some .boolean) 1 22 [.ref (G.2.1 37), .int p1] μ (some (.int r)) μ := by
  refine x_met (own := RX5) (by decide +kernel) rfl (Nat.le_of_ble_eq_true rfl) (fun Γ A H ls hg C hr hX hQ hl => ?_)
  have hl : lv_has ls 2 [(0, .ref (G.2.1 37)), (1, .int p1)] := hl
  unfold f_X5_isCat at h
  refine i_iload_n C dX5_isCat_0 rfl (lv_at hl 1 rfl) ?_
  refine i_iconst (v := 0) C dX5_isCat_1 rfl ?_
  refine i_aload_n C dX5_isCat_2 rfl (lv_at hl 0 rfl) ?_
  refine x_get C hX (fg_37_0 G) tw4_83 dX5_isCat_3 ?_
  refine i_iconst (v := 4) C dX5_isCat_6 rfl ?_
  refine x_iald C hX (ai_38 G) h dX5_isCat_7 (fun x1 h => ?_)
  refine i_iconst (v := 1) C dX5_isCat_8 rfl ?_
  refine i_isub C dX5_isCat_9 ?_
  obtain ⟨x2, e1, h⟩ := w_bdr h
  refine x_callSi C hX (c_X5_within (gl Γ) G  e1) [] rfl hl tw4_169 tw4_170 tw1_7 tw4_171 nd_X5_within ⟨(Nat.le_of_ble_eq_true rfl), (Nat.le_of_ble_eq_true rfl)⟩ (Nat.le_of_ble_eq_true rfl) dX5_isCat_10 (fun H locs hX => ?_)
  exact x_zretR C hX hr hQ h dX5_isCat_13
def f_X5_isShip (p0 : Int32) : Option Int32 := bdr (f_X5_within p0 0 3) fun x1 => gd (x1 = 0 ∨ x1 = 1) (some x1)
theorem nd_X5_isShip : yX5_isShip.cls ≠ "java/lang/invoke/MethodHandle" ∧ yX5_isShip.cls ≠ "java/lang/invoke/VarHandle" ∧ (parseMethodDescriptor yX5_isShip.desc).map (fun d => d.parameters.length) = some 1 := by decide +kernel
set_option maxHeartbeats 4000000 in
set_option maxRecDepth 100000 in
theorem c_X5_isShip (l : Launch) (G : EN)  {p0 : Int32} {μ : MM} {r : Int32} (h : f_X5_isShip p0 = some r) : XM l G yX5_isShip cX5_isShip 1 (some .boolean) 1 22 [.int p0] μ (some (.int r)) μ := by
  refine x_met (own := RX5) (by decide +kernel) rfl (Nat.le_of_ble_eq_true rfl) (fun Γ A H ls hg C hr hX hQ hl => ?_)
  have hl : lv_has ls 1 [(0, .int p0)] := hl
  unfold f_X5_isShip at h
  refine i_iload_n C dX5_isShip_0 rfl (lv_at hl 0 rfl) ?_
  refine i_iconst (v := 0) C dX5_isShip_1 rfl ?_
  refine i_iconst (v := 3) C dX5_isShip_2 rfl ?_
  obtain ⟨x1, e1, h⟩ := w_bdr h
  refine x_callSi C hX (c_X5_within (gl Γ) G  e1) [] rfl hl tw4_169 tw4_170 tw1_7 tw4_171 nd_X5_within ⟨(Nat.le_of_ble_eq_true rfl), (Nat.le_of_ble_eq_true rfl)⟩ (Nat.le_of_ble_eq_true rfl) dX5_isShip_3 (fun H locs hX => ?_)
  exact x_zretR C hX hr hQ h dX5_isShip_6
def f_X5_isCell (p0 : Int32) : Option Int32 := bdr (f_X5_within p0 0 99) fun x1 => gd (x1 = 0 ∨ x1 = 1) (some x1)
theorem nd_X5_isCell : yX5_isCell.cls ≠ "java/lang/invoke/MethodHandle" ∧ yX5_isCell.cls ≠ "java/lang/invoke/VarHandle" ∧ (parseMethodDescriptor yX5_isCell.desc).map (fun d => d.parameters.length) = some 1 := by decide +kernel
set_option maxHeartbeats 4000000 in
set_option maxRecDepth 100000 in
theorem c_X5_isCell (l : Launch) (G : EN)  {p0 : Int32} {μ : MM} {r : Int32} (h : f_X5_isCell p0 = some r) : XM l G yX5_isCell cX5_isCell 1 (some .boolean) 1 22 [.int p0] μ (some (.int r)) μ := by
  refine x_met (own := RX5) (by decide +kernel) rfl (Nat.le_of_ble_eq_true rfl) (fun Γ A H ls hg C hr hX hQ hl => ?_)
  have hl : lv_has ls 1 [(0, .int p0)] := hl
  unfold f_X5_isCell at h
  refine i_iload_n C dX5_isCell_0 rfl (lv_at hl 0 rfl) ?_
  refine i_iconst (v := 0) C dX5_isCell_1 rfl ?_
  refine i_bipush (v := 99) C dX5_isCell_2 rfl ?_
  obtain ⟨x1, e1, h⟩ := w_bdr h
  refine x_callSi C hX (c_X5_within (gl Γ) G  e1) [] rfl hl tw4_169 tw4_170 tw1_7 tw4_171 nd_X5_within ⟨(Nat.le_of_ble_eq_true rfl), (Nat.le_of_ble_eq_true rfl)⟩ (Nat.le_of_ble_eq_true rfl) dX5_isCell_4 (fun H locs hX => ?_)
  exact x_zretR C hX hr hQ h dX5_isCell_7
def f_X5_isKind (p0 : Int32) : Option Int32 := bdr (f_X5_within p0 0 6) fun x1 => gd (x1 = 0 ∨ x1 = 1) (some x1)
theorem nd_X5_isKind : yX5_isKind.cls ≠ "java/lang/invoke/MethodHandle" ∧ yX5_isKind.cls ≠ "java/lang/invoke/VarHandle" ∧ (parseMethodDescriptor yX5_isKind.desc).map (fun d => d.parameters.length) = some 1 := by decide +kernel
set_option maxHeartbeats 4000000 in
set_option maxRecDepth 100000 in
theorem c_X5_isKind (l : Launch) (G : EN)  {p0 : Int32} {μ : MM} {r : Int32} (h : f_X5_isKind p0 = some r) : XM l G yX5_isKind cX5_isKind 1 (some .boolean) 1 22 [.int p0] μ (some (.int r)) μ := by
  refine x_met (own := RX5) (by decide +kernel) rfl (Nat.le_of_ble_eq_true rfl) (fun Γ A H ls hg C hr hX hQ hl => ?_)
  have hl : lv_has ls 1 [(0, .int p0)] := hl
  unfold f_X5_isKind at h
  refine i_iload_n C dX5_isKind_0 rfl (lv_at hl 0 rfl) ?_
  refine i_iconst (v := 0) C dX5_isKind_1 rfl ?_
  refine i_bipush (v := 6) C dX5_isKind_2 rfl ?_
  obtain ⟨x1, e1, h⟩ := w_bdr h
  refine x_callSi C hX (c_X5_within (gl Γ) G  e1) [] rfl hl tw4_169 tw4_170 tw1_7 tw4_171 nd_X5_within ⟨(Nat.le_of_ble_eq_true rfl), (Nat.le_of_ble_eq_true rfl)⟩ (Nat.le_of_ble_eq_true rfl) dX5_isKind_4 (fun H locs hX => ?_)
  exact x_zretR C hX hr hQ h dX5_isKind_7
def f_X5_areCats (p1 : Int32) (μ : MM) : Option Int32 := ldi μ 38 152 4 fun x1 => bdr (f_X5_within p1 0 ((sl 1 x1) - 1)) fun x2 => gd (x2 = 0 ∨ x2 = 1) (some x2)
theorem nd_X5_areCats : yX5_areCats.cls ≠ "java/lang/invoke/MethodHandle" ∧ yX5_areCats.cls ≠ "java/lang/invoke/VarHandle" ∧ (parseMethodDescriptor yX5_areCats.desc).map (fun d => d.parameters.length) = some 1 := by decide +kernel
set_option maxHeartbeats 4000000 in
set_option maxRecDepth 100000 in
theorem c_X5_areCats (l : Launch) (G : EN)  {p1 : Int32} {μ : MM} {r : Int32} (h : f_X5_areCats p1 μ = some r) : XM l G yX5_areCats cX5_areCats 2 (some .boolean) 1 22 [.ref (G.2.1 37), .int p1] μ (some (.int r)) μ := by
  refine x_met (own := RX5) (by decide +kernel) rfl (Nat.le_of_ble_eq_true rfl) (fun Γ A H ls hg C hr hX hQ hl => ?_)
  have hl : lv_has ls 2 [(0, .ref (G.2.1 37)), (1, .int p1)] := hl
  unfold f_X5_areCats at h
  refine i_iload_n C dX5_areCats_0 rfl (lv_at hl 1 rfl) ?_
  refine i_iconst (v := 0) C dX5_areCats_1 rfl ?_
  refine i_iconst (v := 1) C dX5_areCats_2 rfl ?_
  refine i_aload_n C dX5_areCats_3 rfl (lv_at hl 0 rfl) ?_
  refine x_get C hX (fg_37_0 G) tw4_83 dX5_areCats_4 ?_
  refine i_iconst (v := 4) C dX5_areCats_7 rfl ?_
  refine x_iald C hX (ai_38 G) h dX5_areCats_8 (fun x1 h => ?_)
  refine i_ishl C dX5_areCats_9 ?_
  refine i_iconst (v := 1) C dX5_areCats_10 rfl ?_
  refine i_isub C dX5_areCats_11 ?_
  obtain ⟨x2, e1, h⟩ := w_bdr h
  refine x_callSi C hX (c_X5_within (gl Γ) G  e1) [] rfl hl tw4_169 tw4_170 tw1_7 tw4_171 nd_X5_within ⟨(Nat.le_of_ble_eq_true rfl), (Nat.le_of_ble_eq_true rfl)⟩ (Nat.le_of_ble_eq_true rfl) dX5_areCats_12 (fun H locs hX => ?_)
  exact x_zretR C hX hr hQ h dX5_areCats_15
def f_X5_at (p0 : Int32) (p1 : Int32) : Option Int32 := some ((128 + (3 * p0)) + p1)
theorem nd_X5_at : yX5_at.cls ≠ "java/lang/invoke/MethodHandle" ∧ yX5_at.cls ≠ "java/lang/invoke/VarHandle" ∧ (parseMethodDescriptor yX5_at.desc).map (fun d => d.parameters.length) = some 2 := by decide +kernel
set_option maxHeartbeats 4000000 in
set_option maxRecDepth 100000 in
theorem c_X5_at (l : Launch) (G : EN)  {p0 p1 : Int32} {μ : MM} {r : Int32} (h : f_X5_at p0 p1 = some r) : XM l G yX5_at cX5_at 2 (some .int) 0 0 [.int p0, .int p1] μ (some (.int r)) μ := by
  refine x_met (own := RX5) (by decide +kernel) rfl (Nat.le_of_ble_eq_true rfl) (fun Γ A H ls hg C hr hX hQ hl => ?_)
  have hl : lv_has ls 2 [(0, .int p0), (1, .int p1)] := hl
  unfold f_X5_at at h
  refine i_sipush (v := 128) C dX5_at_0 rfl ?_
  refine i_iconst (v := 3) C dX5_at_3 rfl ?_
  refine i_iload_n C dX5_at_4 rfl (lv_at hl 0 rfl) ?_
  refine i_imul C dX5_at_5 ?_
  refine i_iadd C dX5_at_6 ?_
  refine i_iload_n C dX5_at_7 rfl (lv_at hl 1 rfl) ?_
  refine i_iadd C dX5_at_8 ?_
  exact x_iretR C hX hr hQ h dX5_at_9
def f_X5_catIs (p1 : Int32) (p2 : Int32) (μ : MM) : Option Int32 := bdr (f_X5_at p1 p2) fun x1 => ldi μ 38 152 x1 fun x2 => some x2
theorem nd_X5_catIs : yX5_catIs.cls ≠ "java/lang/invoke/MethodHandle" ∧ yX5_catIs.cls ≠ "java/lang/invoke/VarHandle" ∧ (parseMethodDescriptor yX5_catIs.desc).map (fun d => d.parameters.length) = some 2 := by decide +kernel
set_option maxHeartbeats 4000000 in
set_option maxRecDepth 100000 in
theorem c_X5_catIs (l : Launch) (G : EN)  {p1 p2 : Int32} {μ : MM} {r : Int32} (h : f_X5_catIs p1 p2 μ = some r) : XM l G yX5_catIs cX5_catIs 3 (some .int) 1 21 [.ref (G.2.1 37), .int p1, .int p2] μ (some (.int r)) μ := by
  refine x_met (own := RX5) (by decide +kernel) rfl (Nat.le_of_ble_eq_true rfl) (fun Γ A H ls hg C hr hX hQ hl => ?_)
  have hl : lv_has ls 3 [(0, .ref (G.2.1 37)), (1, .int p1), (2, .int p2)] := hl
  unfold f_X5_catIs at h
  refine i_aload_n C dX5_catIs_0 rfl (lv_at hl 0 rfl) ?_
  refine x_get C hX (fg_37_0 G) tw4_83 dX5_catIs_1 ?_
  refine i_iload_n C dX5_catIs_4 rfl (lv_at hl 1 rfl) ?_
  refine i_iload_n C dX5_catIs_5 rfl (lv_at hl 2 rfl) ?_
  obtain ⟨x1, e1, h⟩ := w_bdr h
  refine x_callSi C hX (c_X5_at (gl Γ) G  e1) [.ref (G.2.1 38)] rfl hl tw4_182 tw4_183 tw1_7 tw4_184 nd_X5_at ⟨(Nat.le_of_ble_eq_true rfl), (Nat.le_of_ble_eq_true rfl)⟩ (Nat.le_of_ble_eq_true rfl) dX5_catIs_6 (fun H locs hX => ?_)
  refine x_iald C hX (ai_38 G) h dX5_catIs_9 (fun x2 h => ?_)
  exact x_iretR C hX hr hQ h dX5_catIs_10
def f_X5_atShip (p0 : Int32) (p1 : Int32) : Option Int32 := some ((116 + (3 * p0)) + p1)
theorem nd_X5_atShip : yX5_atShip.cls ≠ "java/lang/invoke/MethodHandle" ∧ yX5_atShip.cls ≠ "java/lang/invoke/VarHandle" ∧ (parseMethodDescriptor yX5_atShip.desc).map (fun d => d.parameters.length) = some 2 := by decide +kernel
set_option maxHeartbeats 4000000 in
set_option maxRecDepth 100000 in
theorem c_X5_atShip (l : Launch) (G : EN)  {p0 p1 : Int32} {μ : MM} {r : Int32} (h : f_X5_atShip p0 p1 = some r) : XM l G yX5_atShip cX5_atShip 2 (some .int) 0 0 [.int p0, .int p1] μ (some (.int r)) μ := by
  refine x_met (own := RX5) (by decide +kernel) rfl (Nat.le_of_ble_eq_true rfl) (fun Γ A H ls hg C hr hX hQ hl => ?_)
  have hl : lv_has ls 2 [(0, .int p0), (1, .int p1)] := hl
  unfold f_X5_atShip at h
  refine i_bipush (v := 116) C dX5_atShip_0 rfl ?_
  refine i_iconst (v := 3) C dX5_atShip_2 rfl ?_
  refine i_iload_n C dX5_atShip_3 rfl (lv_at hl 0 rfl) ?_
  refine i_imul C dX5_atShip_4 ?_
  refine i_iadd C dX5_atShip_5 ?_
  refine i_iload_n C dX5_atShip_6 rfl (lv_at hl 1 rfl) ?_
  refine i_iadd C dX5_atShip_7 ?_
  exact x_iretR C hX hr hQ h dX5_atShip_8
def f_X5_shipIs (p1 : Int32) (p2 : Int32) (μ : MM) : Option Int32 := bdr (f_X5_atShip p1 p2) fun x1 => ldi μ 38 152 x1 fun x2 => some x2
theorem nd_X5_shipIs : yX5_shipIs.cls ≠ "java/lang/invoke/MethodHandle" ∧ yX5_shipIs.cls ≠ "java/lang/invoke/VarHandle" ∧ (parseMethodDescriptor yX5_shipIs.desc).map (fun d => d.parameters.length) = some 2 := by decide +kernel
set_option maxHeartbeats 4000000 in
set_option maxRecDepth 100000 in
theorem c_X5_shipIs (l : Launch) (G : EN)  {p1 p2 : Int32} {μ : MM} {r : Int32} (h : f_X5_shipIs p1 p2 μ = some r) : XM l G yX5_shipIs cX5_shipIs 3 (some .int) 1 21 [.ref (G.2.1 37), .int p1, .int p2] μ (some (.int r)) μ := by
  refine x_met (own := RX5) (by decide +kernel) rfl (Nat.le_of_ble_eq_true rfl) (fun Γ A H ls hg C hr hX hQ hl => ?_)
  have hl : lv_has ls 3 [(0, .ref (G.2.1 37)), (1, .int p1), (2, .int p2)] := hl
  unfold f_X5_shipIs at h
  refine i_aload_n C dX5_shipIs_0 rfl (lv_at hl 0 rfl) ?_
  refine x_get C hX (fg_37_0 G) tw4_83 dX5_shipIs_1 ?_
  refine i_iload_n C dX5_shipIs_4 rfl (lv_at hl 1 rfl) ?_
  refine i_iload_n C dX5_shipIs_5 rfl (lv_at hl 2 rfl) ?_
  obtain ⟨x1, e1, h⟩ := w_bdr h
  refine x_callSi C hX (c_X5_atShip (gl Γ) G  e1) [.ref (G.2.1 38)] rfl hl tw4_227 tw4_228 tw1_7 tw4_229 nd_X5_atShip ⟨(Nat.le_of_ble_eq_true rfl), (Nat.le_of_ble_eq_true rfl)⟩ (Nat.le_of_ble_eq_true rfl) dX5_shipIs_6 (fun H locs hX => ?_)
  refine x_iald C hX (ai_38 G) h dX5_shipIs_9 (fun x2 h => ?_)
  exact x_iretR C hX hr hQ h dX5_shipIs_10
def f_X5_comes (p1 : Int32) (p2 : Int32) (p3 : Int32) (μ : MM) : Option (Int32 × MM) := ldi μ 38 152 4 fun x1 => bdr (f_X5_at x1 0) fun x2 => sti μ 38 152 x2 p1 fun m1 => bdr (f_X5_at x1 1) fun x3 => sti m1 38 152 x3 p2 fun m2 => bdr (f_X5_at x1 2) fun x4 => sti m2 38 152 x4 p3 fun m3 => ldi m3 38 152 4 fun x5 => sti m3 38 152 4 (x5 + 1) fun m4 => some (x1, m4)
theorem nd_X5_comes : yX5_comes.cls ≠ "java/lang/invoke/MethodHandle" ∧ yX5_comes.cls ≠ "java/lang/invoke/VarHandle" ∧ (parseMethodDescriptor yX5_comes.desc).map (fun d => d.parameters.length) = some 3 := by decide +kernel
set_option maxHeartbeats 4000000 in
set_option maxRecDepth 100000 in
theorem c_X5_comes (l : Launch) (G : EN)  {p1 p2 p3 : Int32} {μ : MM} {r : Int32} {m : MM} (h : f_X5_comes p1 p2 p3 μ = some (r, m)) : XM l G yX5_comes cX5_comes 5 (some .int) 1 21 [.ref (G.2.1 37), .int p1, .int p2, .int p3] μ (some (.int r)) m := by
  refine x_met (own := RX5) (by decide +kernel) rfl (Nat.le_of_ble_eq_true rfl) (fun Γ A H ls hg C hr hX hQ hl => ?_)
  have hl : lv_has ls 5 [(0, .ref (G.2.1 37)), (1, .int p1), (2, .int p2), (3, .int p3)] := hl
  unfold f_X5_comes at h
  refine i_aload_n C dX5_comes_0 rfl (lv_at hl 0 rfl) ?_
  refine x_get C hX (fg_37_0 G) tw4_83 dX5_comes_1 ?_
  refine i_iconst (v := 4) C dX5_comes_4 rfl ?_
  refine x_iald C hX (ai_38 G) h dX5_comes_5 (fun x1 h => ?_)
  refine i_istore C [(4, .int x1), (0, .ref (G.2.1 37)), (1, .int p1), (2, .int p2), (3, .int p3)] dX5_comes_6 hl (by decide) rfl (fun ls hl => ?_)
  refine i_aload_n C dX5_comes_8 rfl (lv_at hl 1 rfl) ?_
  refine x_get C hX (fg_37_0 G) tw4_83 dX5_comes_9 ?_
  refine i_iload C dX5_comes_12 (lv_at hl 0 rfl) ?_
  refine i_iconst (v := 0) C dX5_comes_14 rfl ?_
  obtain ⟨x2, e1, h⟩ := w_bdr h
  refine x_callSi C hX (c_X5_at (gl Γ) G  e1) [.ref (G.2.1 38)] rfl hl tw4_182 tw4_183 tw1_7 tw4_184 nd_X5_at ⟨(Nat.le_of_ble_eq_true rfl), (Nat.le_of_ble_eq_true rfl)⟩ (Nat.le_of_ble_eq_true rfl) dX5_comes_15 (fun H locs hX => ?_)
  refine i_iload_n C dX5_comes_18 rfl (lv_at hl 2 rfl) ?_
  refine x_iast C hX (ai_38 G) h dX5_comes_19 (fun H locs m1 h hX => ?_)
  refine i_aload_n C dX5_comes_20 rfl (lv_at hl 1 rfl) ?_
  refine x_get C hX (fg_37_0 G) tw4_83 dX5_comes_21 ?_
  refine i_iload C dX5_comes_24 (lv_at hl 0 rfl) ?_
  refine i_iconst (v := 1) C dX5_comes_26 rfl ?_
  obtain ⟨x3, e2, h⟩ := w_bdr h
  refine x_callSi C hX (c_X5_at (gl Γ) G  e2) [.ref (G.2.1 38)] rfl hl tw4_182 tw4_183 tw1_7 tw4_184 nd_X5_at ⟨(Nat.le_of_ble_eq_true rfl), (Nat.le_of_ble_eq_true rfl)⟩ (Nat.le_of_ble_eq_true rfl) dX5_comes_27 (fun H locs hX => ?_)
  refine i_iload_n C dX5_comes_30 rfl (lv_at hl 3 rfl) ?_
  refine x_iast C hX (ai_38 G) h dX5_comes_31 (fun H locs m2 h hX => ?_)
  refine i_aload_n C dX5_comes_32 rfl (lv_at hl 1 rfl) ?_
  refine x_get C hX (fg_37_0 G) tw4_83 dX5_comes_33 ?_
  refine i_iload C dX5_comes_36 (lv_at hl 0 rfl) ?_
  refine i_iconst (v := 2) C dX5_comes_38 rfl ?_
  obtain ⟨x4, e3, h⟩ := w_bdr h
  refine x_callSi C hX (c_X5_at (gl Γ) G  e3) [.ref (G.2.1 38)] rfl hl tw4_182 tw4_183 tw1_7 tw4_184 nd_X5_at ⟨(Nat.le_of_ble_eq_true rfl), (Nat.le_of_ble_eq_true rfl)⟩ (Nat.le_of_ble_eq_true rfl) dX5_comes_39 (fun H locs hX => ?_)
  refine i_iload_n C dX5_comes_42 rfl (lv_at hl 4 rfl) ?_
  refine x_iast C hX (ai_38 G) h dX5_comes_43 (fun H locs m3 h hX => ?_)
  refine i_aload_n C dX5_comes_44 rfl (lv_at hl 1 rfl) ?_
  refine x_get C hX (fg_37_0 G) tw4_83 dX5_comes_45 ?_
  refine i_iconst (v := 4) C dX5_comes_48 rfl ?_
  refine i_dup2 C dX5_comes_49 rfl rfl ?_
  refine x_iald C hX (ai_38 G) h dX5_comes_50 (fun x5 h => ?_)
  refine i_iconst (v := 1) C dX5_comes_51 rfl ?_
  refine i_iadd C dX5_comes_52 ?_
  refine x_iast C hX (ai_38 G) h dX5_comes_53 (fun H locs m4 h hX => ?_)
  refine i_iload C dX5_comes_54 (lv_at hl 0 rfl) ?_
  exact x_iretW C hX hr hQ h dX5_comes_56
def f_X5_cat (p1 : Int32) (μ : MM) : Option (Int32 × MM) := bdr (f_X5_isKind p1) fun x1 => if x1 = 0 then (bdw (f_X5_finding (-1000001) μ) fun x5 m3 => some (x5, m3)) else (ldi μ 38 152 4 fun x2 => if x2 = 8 then (bdw (f_X5_finding (-1000002) μ) fun x4 m2 => some (x4, m2)) else (bdw (f_X5_comes p1 0 0 μ) fun x3 m1 => some (x3, m1)))
theorem nd_X5_cat : yX5_cat.cls ≠ "java/lang/invoke/MethodHandle" ∧ yX5_cat.cls ≠ "java/lang/invoke/VarHandle" ∧ (parseMethodDescriptor yX5_cat.desc).map (fun d => d.parameters.length) = some 1 := by decide +kernel
set_option maxHeartbeats 4000000 in
set_option maxRecDepth 100000 in
theorem c_X5_cat (l : Launch) (G : EN)  {p1 : Int32} {μ : MM} {r : Int32} {m : MM} (h : f_X5_cat p1 μ = some (r, m)) : XM l G yX5_cat cX5_cat 2 (some .int) 2 45 [.ref (G.2.1 37), .int p1] μ (some (.int r)) m := by
  refine x_met (own := RX5) (by decide +kernel) rfl (Nat.le_of_ble_eq_true rfl) (fun Γ A H ls hg C hr hX hQ hl => ?_)
  have hl : lv_has ls 2 [(0, .ref (G.2.1 37)), (1, .int p1)] := hl
  unfold f_X5_cat at h
  refine i_iload_n C dX5_cat_0 rfl (lv_at hl 1 rfl) ?_
  obtain ⟨x1, e1, h⟩ := w_bdr h
  refine x_callSi C hX (c_X5_isKind (gl Γ) G  e1) [] rfl hl tw4_166 tw4_167 tw1_7 tw4_168 nd_X5_isKind ⟨(Nat.le_of_ble_eq_true rfl), (Nat.le_of_ble_eq_true rfl)⟩ (Nat.le_of_ble_eq_true rfl) dX5_cat_1 (fun H locs hX => ?_)
  refine i_if_ne (tgt := 14) C h dX5_cat_4 (by decide) (fun _ h => ?_) (fun _ h => ?_)
  · refine i_aload_n C dX5_cat_14 rfl (lv_at hl 0 rfl) ?_
    refine x_get C hX (fg_37_0 G) tw4_83 dX5_cat_15 ?_
    refine i_iconst (v := 4) C dX5_cat_18 rfl ?_
    refine x_iald C hX (ai_38 G) h dX5_cat_19 (fun x2 h => ?_)
    refine i_bipush (v := 8) C dX5_cat_20 rfl ?_
    refine i_icmp_ne (tgt := 34) C h dX5_cat_22 (by decide) (fun _ h => ?_) (fun _ h => ?_)
    · refine i_aload_n C dX5_cat_34 rfl (lv_at hl 0 rfl) ?_
      refine i_iload_n C dX5_cat_35 rfl (lv_at hl 1 rfl) ?_
      refine i_iconst (v := 0) C dX5_cat_36 rfl ?_
      refine i_iconst (v := 0) C dX5_cat_37 rfl ?_
      obtain ⟨x3, m1, e2, h⟩ := w_bdw h
      refine x_callVi C hX (fg_37_0 G) (c_X5_comes (gl Γ) G  e2) [] rfl hl tw4_178 tw4_180 ts2_0 tw1_7 tw4_181 rfl nd_X5_comes ⟨(Nat.le_of_ble_eq_true rfl), (Nat.le_of_ble_eq_true rfl)⟩ (Nat.le_of_ble_eq_true rfl) dX5_cat_38 (fun H locs hX => ?_)
      exact x_iretW C hX hr hQ h dX5_cat_41
    refine i_aload_n C dX5_cat_25 rfl (lv_at hl 0 rfl) ?_
    refine i_ldc C tw4_177 dX5_cat_26 ?_
    obtain ⟨x4, m2, e3, h⟩ := w_bdw h
    refine x_callVi C hX (fg_37_0 G) (c_X5_finding (gl Γ) G  e3) [] rfl hl tw4_173 tw4_175 ts1_15 tw1_7 tw4_176 rfl nd_X5_finding ⟨(Nat.le_of_ble_eq_true rfl), (Nat.le_of_ble_eq_true rfl)⟩ (Nat.le_of_ble_eq_true rfl) dX5_cat_28 (fun H locs hX => ?_)
    refine i_goto (tgt := 41) C dX5_cat_31 (by decide) ?_
    exact x_iretW C hX hr hQ h dX5_cat_41
  refine i_aload_n C dX5_cat_7 rfl (lv_at hl 0 rfl) ?_
  refine i_ldc C tw4_172 dX5_cat_8 ?_
  obtain ⟨x5, m3, e4, h⟩ := w_bdw h
  refine x_callVi C hX (fg_37_0 G) (c_X5_finding (gl Γ) G  e4) [] rfl hl tw4_173 tw4_175 ts1_15 tw1_7 tw4_176 rfl nd_X5_finding ⟨(Nat.le_of_ble_eq_true rfl), (Nat.le_of_ble_eq_true rfl)⟩ (Nat.le_of_ble_eq_true rfl) dX5_cat_10 (fun H locs hX => ?_)
  exact x_iretW C hX hr hQ h dX5_cat_13
def f_X5_above (p0 : Int32) : Option Int32 := if p0 = 0 then (some (-1)) else (if p0 = 3 then (some 1) else (if p0 = 4 then (some 3) else (if p0 = 6 then (some 2) else (some 0))))
theorem nd_X5_above : yX5_above.cls ≠ "java/lang/invoke/MethodHandle" ∧ yX5_above.cls ≠ "java/lang/invoke/VarHandle" ∧ (parseMethodDescriptor yX5_above.desc).map (fun d => d.parameters.length) = some 1 := by decide +kernel
set_option maxHeartbeats 4000000 in
set_option maxRecDepth 100000 in
theorem c_X5_above (l : Launch) (G : EN)  {p0 : Int32} {μ : MM} {r : Int32} (h : f_X5_above p0 = some r) : XM l G yX5_above cX5_above 1 (some .int) 0 0 [.int p0] μ (some (.int r)) μ := by
  refine x_met (own := RX5) (by decide +kernel) rfl (Nat.le_of_ble_eq_true rfl) (fun Γ A H ls hg C hr hX hQ hl => ?_)
  have hl : lv_has ls 1 [(0, .int p0)] := hl
  unfold f_X5_above at h
  refine i_iload_n C dX5_above_0 rfl (lv_at hl 0 rfl) ?_
  refine i_if_ne (tgt := 8) C h dX5_above_1 (by decide) (fun _ h => ?_) (fun _ h => ?_)
  · refine i_iload_n C dX5_above_8 rfl (lv_at hl 0 rfl) ?_
    refine i_iconst (v := 3) C dX5_above_9 rfl ?_
    refine i_icmp_ne (tgt := 17) C h dX5_above_10 (by decide) (fun _ h => ?_) (fun _ h => ?_)
    · refine i_iload_n C dX5_above_17 rfl (lv_at hl 0 rfl) ?_
      refine i_iconst (v := 4) C dX5_above_18 rfl ?_
      refine i_icmp_ne (tgt := 26) C h dX5_above_19 (by decide) (fun _ h => ?_) (fun _ h => ?_)
      · refine i_iload_n C dX5_above_26 rfl (lv_at hl 0 rfl) ?_
        refine i_bipush (v := 6) C dX5_above_27 rfl ?_
        refine i_icmp_ne (tgt := 36) C h dX5_above_29 (by decide) (fun _ h => ?_) (fun _ h => ?_)
        · refine i_iconst (v := 0) C dX5_above_36 rfl ?_
          exact x_iretR C hX hr hQ h dX5_above_37
        refine i_iconst (v := 2) C dX5_above_32 rfl ?_
        refine i_goto (tgt := 37) C dX5_above_33 (by decide) ?_
        exact x_iretR C hX hr hQ h dX5_above_37
      refine i_iconst (v := 3) C dX5_above_22 rfl ?_
      refine i_goto (tgt := 37) C dX5_above_23 (by decide) ?_
      exact x_iretR C hX hr hQ h dX5_above_37
    refine i_iconst (v := 1) C dX5_above_13 rfl ?_
    refine i_goto (tgt := 37) C dX5_above_14 (by decide) ?_
    exact x_iretR C hX hr hQ h dX5_above_37
  refine i_iconst (v := (-1)) C dX5_above_4 rfl ?_
  refine i_goto (tgt := 37) C dX5_above_5 (by decide) ?_
  exact x_iretR C hX hr hQ h dX5_above_37
def L_X5_isUnder_2 (p1 : Int32) (k1 : Int32 → Option Int32) : Nat → Int32 → Option Int32
  | 0, _ => none
  | fu + 1, x2 => if x2 < 0 then (k1 x2) else (if x2 = p1 then (k1 x2) else (bdr (f_X5_above x2) fun x3 => L_X5_isUnder_2 p1 k1 fu x3))
def f_X5_isUnder (p0 : Int32) (p1 : Int32) : Option Int32 := jn1 (fun (x1 : Int32) => if x1 < 0 then (some 0) else (some 1)) fun k1 => L_X5_isUnder_2 p1 k1 FU p0
theorem nd_X5_isUnder : yX5_isUnder.cls ≠ "java/lang/invoke/MethodHandle" ∧ yX5_isUnder.cls ≠ "java/lang/invoke/VarHandle" ∧ (parseMethodDescriptor yX5_isUnder.desc).map (fun d => d.parameters.length) = some 2 := by decide +kernel
set_option maxHeartbeats 4000000 in
set_option maxRecDepth 100000 in
theorem c_X5_isUnder (l : Launch) (G : EN)  {p0 p1 : Int32} {μ : MM} {r : Int32} (h : f_X5_isUnder p0 p1 = some r) : XM l G yX5_isUnder cX5_isUnder 3 (some .boolean) 1 20 [.int p0, .int p1] μ (some (.int r)) μ := by
  refine x_met (own := RX5) (by decide +kernel) rfl (Nat.le_of_ble_eq_true rfl) (fun Γ A H ls hg C hr hX hQ hl => ?_)
  have hl : lv_has ls 3 [(0, .int p0), (1, .int p1)] := hl
  unfold f_X5_isUnder at h
  refine i_iload_n C dX5_isUnder_0 rfl (lv_at hl 0 rfl) ?_
  refine i_istore_n C [(2, .int p0), (0, .int p0), (1, .int p1)] dX5_isUnder_1 rfl hl (by decide) rfl (fun ls hl => ?_)
  refine w_jn1 (fun (x1 : Int32) => ∀ (H : Heap) (locs : List Loc) (ls : Array Slot), lv_has ls 3 [(2, .int x1)] → XW G A (gs Γ) H locs μ → WX Γ H locs 19 ls []) h (fun x1 h H locs ls hl hX => ?_) (fun k1 J1 h => ?_)
  · refine i_iload_n C dX5_isUnder_19 rfl (lv_at hl 0 rfl) ?_
    refine i_if_lt (tgt := 27) C h dX5_isUnder_20 (by decide) (fun _ h => ?_) (fun _ h => ?_)
    · refine i_iconst (v := 0) C dX5_isUnder_27 rfl ?_
      exact x_zcR C hX (by decide) hr hQ h dX5_isUnder_28
    refine i_iconst (v := 1) C dX5_isUnder_23 rfl ?_
    refine i_goto (tgt := 28) C dX5_isUnder_24 (by decide) ?_
    exact x_zcR C hX (by decide) hr hQ h dX5_isUnder_28
  have L1 : ∀ (fu : Nat) (x2 : Int32) (H : Heap) (locs : List Loc) (ls : Array Slot), L_X5_isUnder_2 p1 k1 fu x2 = some r → lv_has ls 3 [(1, .int p1), (2, .int x2)] → XW G A (gs Γ) H locs μ → WX Γ H locs 2 ls [] := by
    intro fu
    induction fu with
    | zero =>
      intro x2 H locs ls h
      rw [L_X5_isUnder_2] at h
      cases h
    | succ fu ih =>
      intro x2 H locs ls h hl hX
      rw [L_X5_isUnder_2] at h
      refine i_iload_n C dX5_isUnder_2 rfl (lv_at hl 1 rfl) ?_
      refine i_if_lt (tgt := 19) C h dX5_isUnder_3 (by decide) (fun _ h => ?_) (fun _ h => ?_)
      · exact J1 _ h _ _ _ (lv_sub hl [1] rfl) hX
      refine i_iload_n C dX5_isUnder_6 rfl (lv_at hl 1 rfl) ?_
      refine i_iload_n C dX5_isUnder_7 rfl (lv_at hl 0 rfl) ?_
      refine i_icmp_eq (tgt := 19) C h dX5_isUnder_8 (by decide) (fun _ h => ?_) (fun _ h => ?_)
      · exact J1 _ h _ _ _ (lv_sub hl [1] rfl) hX
      refine i_iload_n C dX5_isUnder_11 rfl (lv_at hl 1 rfl) ?_
      obtain ⟨x3, e1, h⟩ := w_bdr h
      refine x_callSi C hX (c_X5_above (gl Γ) G  e1) [] rfl hl tw6_118 tw6_119 tw1_7 tw6_120 nd_X5_above ⟨(Nat.le_of_ble_eq_true rfl), (Nat.le_of_ble_eq_true rfl)⟩ (Nat.le_of_ble_eq_true rfl) dX5_isUnder_12 (fun H locs hX => ?_)
      refine i_istore_n C [(2, .int x3), (1, .int p1)] dX5_isUnder_15 rfl hl (by decide) rfl (fun ls hl => ?_)
      refine i_goto (tgt := 2) C dX5_isUnder_16 (by decide) ?_
      exact ih _ _ _ _ h (lv_sub hl [1, 0] rfl) hX
  exact L1 FU _ _ _ _ h (lv_sub hl [2, 0] rfl) hX
def f_X5_errs (p1 : Int32) (μ : MM) : Option Int32 := ldi μ 38 152 0 fun x1 => lt_ ((irm x1 16)) fun x2 => bdr (f_X5_catIs p1 1 μ) fun x3 => lt_ ((x3 / 10)) fun x4 => ldi μ 38 152 3 fun x5 => bdr (f_X5_has x5 x2) fun x6 => jn1 (fun (x7 : Int32) => lt_ ((x4 + x7)) fun x8 => bdr (f_X5_catIs p1 1 μ) fun x9 => jn1 (fun (x10 : Int32) => lt_ (((x4 + (irm x2 5)) - 2)) fun x11 => bdr (f_X5_catIs p1 0 μ) fun x12 => if x12 = 1 then (some x8) else if x12 = 2 then (some x11) else if x12 = 3 then (some x10) else if x12 = 4 then (some (16 - x10)) else if x12 = 5 then (some (x4 / 2)) else if x12 = 6 then (some (x11 + 1)) else (some x4)) fun k1 => if x9 < 50 then (k1 x8) else (bdr (f_X5_catIs p1 2 μ) fun x13 => k1 x13)) fun k2 => if x6 = 0 then (k2 0) else (k2 2)
theorem nd_X5_errs : yX5_errs.cls ≠ "java/lang/invoke/MethodHandle" ∧ yX5_errs.cls ≠ "java/lang/invoke/VarHandle" ∧ (parseMethodDescriptor yX5_errs.desc).map (fun d => d.parameters.length) = some 1 := by decide +kernel
set_option maxHeartbeats 4000000 in
set_option maxRecDepth 100000 in
theorem c_X5_errs (l : Launch) (G : EN)  {p1 : Int32} {μ : MM} {r : Int32} (h : f_X5_errs p1 μ = some r) : XM l G yX5_errs cX5_errs 7 (some .int) 2 43 [.ref (G.2.1 37), .int p1] μ (some (.int r)) μ := by
  refine x_met (own := RX5) (by decide +kernel) rfl (Nat.le_of_ble_eq_true rfl) (fun Γ A H ls hg C hr hX hQ hl => ?_)
  have hl : lv_has ls 7 [(0, .ref (G.2.1 37)), (1, .int p1)] := hl
  unfold f_X5_errs at h
  refine i_aload_n C dX5_errs_0 rfl (lv_at hl 0 rfl) ?_
  refine x_get C hX (fg_37_0 G) tw4_83 dX5_errs_1 ?_
  refine i_iconst (v := 0) C dX5_errs_4 rfl ?_
  refine x_iald C hX (ai_38 G) h dX5_errs_5 (fun x1 h => ?_)
  refine i_bipush (v := 16) C dX5_errs_6 rfl ?_
  refine i_iremc C dX5_errs_8 (by decide) ?_
  refine i_istoreL_n C (fun x2 => [(2, .int x2), (0, .ref (G.2.1 37)), (1, .int p1)]) h dX5_errs_9 rfl hl (by decide) (fun _ => rfl) (fun x2 ls h hl => ?_)
  refine i_aload_n C dX5_errs_10 rfl (lv_at hl 1 rfl) ?_
  refine i_iload_n C dX5_errs_11 rfl (lv_at hl 2 rfl) ?_
  refine i_iconst (v := 1) C dX5_errs_12 rfl ?_
  obtain ⟨x3, e1, h⟩ := w_bdr h
  refine x_callVi C hX (fg_37_0 G) (c_X5_catIs (gl Γ) G  e1) [] rfl hl tw4_193 tw4_195 ts2_2 tw1_7 tw4_196 rfl nd_X5_catIs ⟨(Nat.le_of_ble_eq_true rfl), (Nat.le_of_ble_eq_true rfl)⟩ (Nat.le_of_ble_eq_true rfl) dX5_errs_13 (fun H locs hX => ?_)
  refine i_bipush (v := 10) C dX5_errs_16 rfl ?_
  refine i_idivc C dX5_errs_18 (by decide) ?_
  refine i_istoreL_n C (fun x4 => [(3, .int x4), (2, .int x2), (0, .ref (G.2.1 37)), (1, .int p1)]) h dX5_errs_19 rfl hl (by decide) (fun _ => rfl) (fun x4 ls h hl => ?_)
  refine i_iload_n C dX5_errs_20 rfl (lv_at hl 0 rfl) ?_
  refine i_aload_n C dX5_errs_21 rfl (lv_at hl 2 rfl) ?_
  refine x_get C hX (fg_37_0 G) tw4_83 dX5_errs_22 ?_
  refine i_iconst (v := 3) C dX5_errs_25 rfl ?_
  refine x_iald C hX (ai_38 G) h dX5_errs_26 (fun x5 h => ?_)
  refine i_iload_n C dX5_errs_27 rfl (lv_at hl 1 rfl) ?_
  obtain ⟨x6, e2, h⟩ := w_bdr h
  refine x_callSi C hX (c_X5_has (gl Γ) G  e2) [.int x4] rfl hl tw4_201 tw4_202 tw1_7 tw4_203 nd_X5_has ⟨(Nat.le_of_ble_eq_true rfl), (Nat.le_of_ble_eq_true rfl)⟩ (Nat.le_of_ble_eq_true rfl) dX5_errs_28 (fun H locs hX => ?_)
  refine w_jn1 (fun (x7 : Int32) => ∀ (H : Heap) (locs : List Loc) (ls : Array Slot), lv_has ls 7 [(0, .ref (G.2.1 37)), (1, .int p1), (2, .int x2), (3, .int x4)] → XW G A (gs Γ) H locs μ → WX Γ H locs 39 ls [.int x7, .int x4]) h (fun x7 h H locs ls hl hX => ?_) (fun k2 J2 h => ?_)
  · refine i_iadd C dX5_errs_39 ?_
    refine i_istoreL C (fun x8 => [(4, .int x8), (0, .ref (G.2.1 37)), (1, .int p1), (2, .int x2), (3, .int x4)]) h dX5_errs_40 hl (by decide) (fun _ => rfl) (fun x8 ls h hl => ?_)
    refine i_aload_n C dX5_errs_42 rfl (lv_at hl 1 rfl) ?_
    refine i_iload_n C dX5_errs_43 rfl (lv_at hl 2 rfl) ?_
    refine i_iconst (v := 1) C dX5_errs_44 rfl ?_
    obtain ⟨x9, e3, h⟩ := w_bdr h
    refine x_callVi C hX (fg_37_0 G) (c_X5_catIs (gl Γ) G  e3) [] rfl hl tw4_193 tw4_195 ts2_2 tw1_7 tw4_196 rfl nd_X5_catIs ⟨(Nat.le_of_ble_eq_true rfl), (Nat.le_of_ble_eq_true rfl)⟩ (Nat.le_of_ble_eq_true rfl) dX5_errs_45 (fun H locs hX => ?_)
    refine i_bipush (v := 50) C dX5_errs_48 rfl ?_
    refine w_jn1 (fun (x10 : Int32) => ∀ (H : Heap) (locs : List Loc) (ls : Array Slot), lv_has ls 7 [(0, .ref (G.2.1 37)), (1, .int p1), (2, .int x2), (3, .int x4), (4, .int x8)] → XW G A (gs Γ) H locs μ → WX Γ H locs 64 ls [.int x10]) h (fun x10 h H locs ls hl hX => ?_) (fun k1 J1 h => ?_)
    · refine i_istore C [(5, .int x10), (0, .ref (G.2.1 37)), (1, .int p1), (2, .int x2), (3, .int x4), (4, .int x8)] dX5_errs_64 hl (by decide) rfl (fun ls hl => ?_)
      refine i_iload_n C dX5_errs_66 rfl (lv_at hl 4 rfl) ?_
      refine i_iload_n C dX5_errs_67 rfl (lv_at hl 3 rfl) ?_
      refine i_iconst (v := 5) C dX5_errs_68 rfl ?_
      refine i_iremc C dX5_errs_69 (by decide) ?_
      refine i_iadd C dX5_errs_70 ?_
      refine i_iconst (v := 2) C dX5_errs_71 rfl ?_
      refine i_isub C dX5_errs_72 ?_
      refine i_istoreL C (fun x11 => [(6, .int x11), (5, .int x10), (0, .ref (G.2.1 37)), (1, .int p1), (2, .int x2), (3, .int x4), (4, .int x8)]) h dX5_errs_73 hl (by decide) (fun _ => rfl) (fun x11 ls h hl => ?_)
      refine i_aload_n C dX5_errs_75 rfl (lv_at hl 2 rfl) ?_
      refine i_iload_n C dX5_errs_76 rfl (lv_at hl 3 rfl) ?_
      refine i_iconst (v := 0) C dX5_errs_77 rfl ?_
      obtain ⟨x12, e4, h⟩ := w_bdr h
      refine x_callVi C hX (fg_37_0 G) (c_X5_catIs (gl Γ) G  e4) [] rfl hl tw4_193 tw4_195 ts2_2 tw1_7 tw4_196 rfl nd_X5_catIs ⟨(Nat.le_of_ble_eq_true rfl), (Nat.le_of_ble_eq_true rfl)⟩ (Nat.le_of_ble_eq_true rfl) dX5_errs_78 (fun H locs hX => ?_)
      refine i_case h (fun e h => ?_) (fun n1 h => ?_)
      · refine i_tabIn (tgt := 120) C e dX5_errs_81 (by decide) (by decide) rfl (by decide) ?_
        refine i_iload C dX5_errs_120 (lv_at hl 6 rfl) ?_
        exact x_iretR C hX hr hQ h dX5_errs_122
      refine i_case h (fun e h => ?_) (fun n2 h => ?_)
      · refine i_tabIn (tgt := 123) C e dX5_errs_81 (by decide) (by decide) rfl (by decide) ?_
        refine i_iload C dX5_errs_123 (lv_at hl 0 rfl) ?_
        exact x_iretR C hX hr hQ h dX5_errs_125
      refine i_case h (fun e h => ?_) (fun n3 h => ?_)
      · refine i_tabIn (tgt := 126) C e dX5_errs_81 (by decide) (by decide) rfl (by decide) ?_
        refine i_iload C dX5_errs_126 (lv_at hl 1 rfl) ?_
        exact x_iretR C hX hr hQ h dX5_errs_128
      refine i_case h (fun e h => ?_) (fun n4 h => ?_)
      · refine i_tabIn (tgt := 129) C e dX5_errs_81 (by decide) (by decide) rfl (by decide) ?_
        refine i_bipush (v := 16) C dX5_errs_129 rfl ?_
        refine i_iload C dX5_errs_131 (lv_at hl 1 rfl) ?_
        refine i_isub C dX5_errs_133 ?_
        exact x_iretR C hX hr hQ h dX5_errs_134
      refine i_case h (fun e h => ?_) (fun n5 h => ?_)
      · refine i_tabIn (tgt := 135) C e dX5_errs_81 (by decide) (by decide) rfl (by decide) ?_
        refine i_iload_n C dX5_errs_135 rfl (lv_at hl 5 rfl) ?_
        refine i_iconst (v := 2) C dX5_errs_136 rfl ?_
        refine i_idivc C dX5_errs_137 (by decide) ?_
        exact x_iretR C hX hr hQ h dX5_errs_138
      refine i_case h (fun e h => ?_) (fun n6 h => ?_)
      · refine i_tabIn (tgt := 139) C e dX5_errs_81 (by decide) (by decide) rfl (by decide) ?_
        refine i_iload C dX5_errs_139 (lv_at hl 0 rfl) ?_
        refine i_iconst (v := 1) C dX5_errs_141 rfl ?_
        refine i_iadd C dX5_errs_142 ?_
        exact x_iretR C hX hr hQ h dX5_errs_143
      refine i_tabOut (tgt := 144) C (by have := ne_t (n := 1) (by decide) n1; have := ne_t (n := 2) (by decide) n2; have := ne_t (n := 3) (by decide) n3; have := ne_t (n := 4) (by decide) n4; have := ne_t (n := 5) (by decide) n5; have := ne_t (n := 6) (by decide) n6; omega) dX5_errs_81 (by decide) ?_
      refine i_iload_n C dX5_errs_144 rfl (lv_at hl 5 rfl) ?_
      exact x_iretR C hX hr hQ h dX5_errs_145
    refine i_icmp_lt (tgt := 62) C h dX5_errs_50 (by decide) (fun _ h => ?_) (fun _ h => ?_)
    · refine i_iload C dX5_errs_62 (lv_at hl 0 rfl) ?_
      exact J1 _ h _ _ _ (lv_sub hl [1, 2, 3, 4, 0] rfl) hX
    refine i_aload_n C dX5_errs_53 rfl (lv_at hl 1 rfl) ?_
    refine i_iload_n C dX5_errs_54 rfl (lv_at hl 2 rfl) ?_
    refine i_iconst (v := 2) C dX5_errs_55 rfl ?_
    obtain ⟨x13, e5, h⟩ := w_bdr h
    refine x_callVi C hX (fg_37_0 G) (c_X5_catIs (gl Γ) G  e5) [] rfl hl tw4_193 tw4_195 ts2_2 tw1_7 tw4_196 rfl nd_X5_catIs ⟨(Nat.le_of_ble_eq_true rfl), (Nat.le_of_ble_eq_true rfl)⟩ (Nat.le_of_ble_eq_true rfl) dX5_errs_56 (fun H locs hX => ?_)
    refine i_goto (tgt := 64) C dX5_errs_59 (by decide) ?_
    exact J1 _ h _ _ _ (lv_sub hl [1, 2, 3, 4, 0] rfl) hX
  refine i_if_eq (tgt := 38) C h dX5_errs_31 (by decide) (fun _ h => ?_) (fun _ h => ?_)
  · refine i_iconst (v := 0) C dX5_errs_38 rfl ?_
    exact J2 _ h _ _ _ (lv_sub hl [2, 3, 1, 0] rfl) hX
  refine i_iconst (v := 2) C dX5_errs_34 rfl ?_
  refine i_goto (tgt := 39) C dX5_errs_35 (by decide) ?_
  exact J2 _ h _ _ _ (lv_sub hl [2, 3, 1, 0] rfl) hX
def f_X5_of (p1 : Int32) (p2 : Int32) (μ : MM) : Option (Int32 × MM) := bdr (f_X5_isCat p1 μ) fun x1 => if x1 = 0 then (bdw (f_X5_finding (-1000001) μ) fun x2 m1 => some (x2, m1)) else (bdr (f_X5_within p2 0 3) fun x3 => if x3 = 0 then (bdw (f_X5_finding (-1000001) μ) fun x6 m2 => some (x6, m2)) else (if 3 ≤ p2 then (bdr (f_X5_errs p1 μ) fun x4 => some (x4, μ)) else (bdr (f_X5_catIs p1 p2 μ) fun x5 => some (x5, μ))))
theorem nd_X5_of : yX5_of.cls ≠ "java/lang/invoke/MethodHandle" ∧ yX5_of.cls ≠ "java/lang/invoke/VarHandle" ∧ (parseMethodDescriptor yX5_of.desc).map (fun d => d.parameters.length) = some 2 := by decide +kernel
set_option maxHeartbeats 4000000 in
set_option maxRecDepth 100000 in
theorem c_X5_of (l : Launch) (G : EN)  {p1 p2 : Int32} {μ : MM} {r : Int32} {m : MM} (h : f_X5_of p1 p2 μ = some (r, m)) : XM l G yX5_of cX5_of 3 (some .int) 3 69 [.ref (G.2.1 37), .int p1, .int p2] μ (some (.int r)) m := by
  refine x_met (own := RX5) (by decide +kernel) rfl (Nat.le_of_ble_eq_true rfl) (fun Γ A H ls hg C hr hX hQ hl => ?_)
  have hl : lv_has ls 3 [(0, .ref (G.2.1 37)), (1, .int p1), (2, .int p2)] := hl
  unfold f_X5_of at h
  refine i_aload_n C dX5_of_0 rfl (lv_at hl 0 rfl) ?_
  refine i_iload_n C dX5_of_1 rfl (lv_at hl 1 rfl) ?_
  obtain ⟨x1, e1, h⟩ := w_bdr h
  refine x_callVi C hX (fg_37_0 G) (c_X5_isCat (gl Γ) G  e1) [] rfl hl tw4_189 tw4_191 ts2_1 tw1_7 tw4_192 rfl nd_X5_isCat ⟨(Nat.le_of_ble_eq_true rfl), (Nat.le_of_ble_eq_true rfl)⟩ (Nat.le_of_ble_eq_true rfl) dX5_of_2 (fun H locs hX => ?_)
  refine i_if_eq (tgt := 17) C h dX5_of_5 (by decide) (fun _ h => ?_) (fun _ h => ?_)
  · refine i_aload_n C dX5_of_17 rfl (lv_at hl 0 rfl) ?_
    refine i_ldc C tw4_172 dX5_of_18 ?_
    obtain ⟨x2, m1, e2, h⟩ := w_bdw h
    refine x_callVi C hX (fg_37_0 G) (c_X5_finding (gl Γ) G  e2) [] rfl hl tw4_173 tw4_175 ts1_15 tw1_7 tw4_176 rfl nd_X5_finding ⟨(Nat.le_of_ble_eq_true rfl), (Nat.le_of_ble_eq_true rfl)⟩ (Nat.le_of_ble_eq_true rfl) dX5_of_20 (fun H locs hX => ?_)
    exact x_iretW C hX hr hQ h dX5_of_23
  refine i_iload_n C dX5_of_8 rfl (lv_at hl 2 rfl) ?_
  refine i_iconst (v := 0) C dX5_of_9 rfl ?_
  refine i_iconst (v := 3) C dX5_of_10 rfl ?_
  obtain ⟨x3, e3, h⟩ := w_bdr h
  refine x_callSi C hX (c_X5_within (gl Γ) G  e3) [] rfl hl tw4_169 tw4_170 tw1_7 tw4_171 nd_X5_within ⟨(Nat.le_of_ble_eq_true rfl), (Nat.le_of_ble_eq_true rfl)⟩ (Nat.le_of_ble_eq_true rfl) dX5_of_11 (fun H locs hX => ?_)
  refine i_if_ne (tgt := 24) C h dX5_of_14 (by decide) (fun _ h => ?_) (fun _ h => ?_)
  · refine i_iload_n C dX5_of_24 rfl (lv_at hl 2 rfl) ?_
    refine i_iconst (v := 3) C dX5_of_25 rfl ?_
    refine i_icmp_ge (tgt := 38) C h dX5_of_26 (by decide) (fun _ h => ?_) (fun _ h => ?_)
    · refine i_aload_n C dX5_of_38 rfl (lv_at hl 0 rfl) ?_
      refine i_iload_n C dX5_of_39 rfl (lv_at hl 1 rfl) ?_
      obtain ⟨x4, e4, h⟩ := w_bdr h
      refine x_callVi C hX (fg_37_0 G) (c_X5_errs (gl Γ) G  e4) [] rfl hl tw4_197 tw4_199 ts2_3 tw1_7 tw4_200 rfl nd_X5_errs ⟨(Nat.le_of_ble_eq_true rfl), (Nat.le_of_ble_eq_true rfl)⟩ (Nat.le_of_ble_eq_true rfl) dX5_of_40 (fun H locs hX => ?_)
      exact x_iretW C hX hr hQ h dX5_of_43
    refine i_aload_n C dX5_of_29 rfl (lv_at hl 0 rfl) ?_
    refine i_iload_n C dX5_of_30 rfl (lv_at hl 1 rfl) ?_
    refine i_iload_n C dX5_of_31 rfl (lv_at hl 2 rfl) ?_
    obtain ⟨x5, e5, h⟩ := w_bdr h
    refine x_callVi C hX (fg_37_0 G) (c_X5_catIs (gl Γ) G  e5) [] rfl hl tw4_193 tw4_195 ts2_2 tw1_7 tw4_196 rfl nd_X5_catIs ⟨(Nat.le_of_ble_eq_true rfl), (Nat.le_of_ble_eq_true rfl)⟩ (Nat.le_of_ble_eq_true rfl) dX5_of_32 (fun H locs hX => ?_)
    refine i_goto (tgt := 43) C dX5_of_35 (by decide) ?_
    exact x_iretW C hX hr hQ h dX5_of_43
  refine i_aload_n C dX5_of_17 rfl (lv_at hl 0 rfl) ?_
  refine i_ldc C tw4_172 dX5_of_18 ?_
  obtain ⟨x6, m2, e6, h⟩ := w_bdw h
  refine x_callVi C hX (fg_37_0 G) (c_X5_finding (gl Γ) G  e6) [] rfl hl tw4_173 tw4_175 ts1_15 tw1_7 tw4_176 rfl nd_X5_finding ⟨(Nat.le_of_ble_eq_true rfl), (Nat.le_of_ble_eq_true rfl)⟩ (Nat.le_of_ble_eq_true rfl) dX5_of_20 (fun H locs hX => ?_)
  exact x_iretW C hX hr hQ h dX5_of_23
def f_X5_change (p1 : Int32) (p2 : Int32) (p3 : Int32) (μ : MM) : Option (Int32 × MM) := jn1 (fun (x1 : Int32) => bdr (f_X5_isCat p1 μ) fun x2 => if x2 = 0 then (bdw (f_X5_finding (-1000001) μ) fun x3 m1 => some (x3, m1)) else (if x1 = 0 then (bdw (f_X5_finding (-1000001) μ) fun x4 m2 => some (x4, m2)) else (bdr (f_X5_at p1 p2) fun x5 => bdw (f_X5_become x5 p3 μ) fun x6 m3 => some (x6, m3)))) fun k1 => jn0 (k1 1) fun k2 => jn0 (jn0 (jn0 (k1 0) fun k3 => if p2 = 2 then (bdr (f_X5_within p3 (-15) 15) fun x7 => if x7 = 0 then (k3) else (k2)) else (k3)) fun k4 => if p2 = 1 then (bdr (f_X5_within p3 0 99) fun x8 => if x8 = 0 then (k4) else (k2)) else (k4)) fun k5 => if p2 = 0 then (bdr (f_X5_isKind p3) fun x9 => if x9 = 0 then (k5) else (k2)) else (k5)
theorem nd_X5_change : yX5_change.cls ≠ "java/lang/invoke/MethodHandle" ∧ yX5_change.cls ≠ "java/lang/invoke/VarHandle" ∧ (parseMethodDescriptor yX5_change.desc).map (fun d => d.parameters.length) = some 3 := by decide +kernel
set_option maxHeartbeats 4000000 in
set_option maxRecDepth 100000 in
theorem c_X5_change (l : Launch) (G : EN)  {p1 p2 p3 : Int32} {μ : MM} {r : Int32} {m : MM} (h : f_X5_change p1 p2 p3 μ = some (r, m)) : XM l G yX5_change cX5_change 5 (some .int) 2 43 [.ref (G.2.1 37), .int p1, .int p2, .int p3] μ (some (.int r)) m := by
  refine x_met (own := RX5) (by decide +kernel) rfl (Nat.le_of_ble_eq_true rfl) (fun Γ A H ls hg C hr hX hQ hl => ?_)
  have hl : lv_has ls 5 [(0, .ref (G.2.1 37)), (1, .int p1), (2, .int p2), (3, .int p3)] := hl
  unfold f_X5_change at h
  refine i_iload_n C dX5_change_0 rfl (lv_at hl 2 rfl) ?_
  refine w_jn1 (fun (x1 : Int32) => ∀ (H : Heap) (locs : List Loc) (ls : Array Slot), lv_has ls 5 [(0, .ref (G.2.1 37)), (1, .int p1), (2, .int p2), (3, .int p3)] → XW G A (gs Γ) H locs μ → WX Γ H locs 47 ls [.int x1]) h (fun x1 h H locs ls hl hX => ?_) (fun k1 J1 h => ?_)
  · refine i_istore C [(4, .int x1), (0, .ref (G.2.1 37)), (1, .int p1), (2, .int p2), (3, .int p3)] dX5_change_47 hl (by decide) rfl (fun ls hl => ?_)
    refine i_aload_n C dX5_change_49 rfl (lv_at hl 1 rfl) ?_
    refine i_iload_n C dX5_change_50 rfl (lv_at hl 2 rfl) ?_
    obtain ⟨x2, e1, h⟩ := w_bdr h
    refine x_callVi C hX (fg_37_0 G) (c_X5_isCat (gl Γ) G  e1) [] rfl hl tw4_189 tw4_191 ts2_1 tw1_7 tw4_192 rfl nd_X5_isCat ⟨(Nat.le_of_ble_eq_true rfl), (Nat.le_of_ble_eq_true rfl)⟩ (Nat.le_of_ble_eq_true rfl) dX5_change_51 (fun H locs hX => ?_)
    refine i_if_eq (tgt := 75) C h dX5_change_54 (by decide) (fun _ h => ?_) (fun _ h => ?_)
    · refine i_aload_n C dX5_change_75 rfl (lv_at hl 1 rfl) ?_
      refine i_ldc C tw4_172 dX5_change_76 ?_
      obtain ⟨x3, m1, e2, h⟩ := w_bdw h
      refine x_callVi C hX (fg_37_0 G) (c_X5_finding (gl Γ) G  e2) [] rfl hl tw4_173 tw4_175 ts1_15 tw1_7 tw4_176 rfl nd_X5_finding ⟨(Nat.le_of_ble_eq_true rfl), (Nat.le_of_ble_eq_true rfl)⟩ (Nat.le_of_ble_eq_true rfl) dX5_change_78 (fun H locs hX => ?_)
      exact x_iretW C hX hr hQ h dX5_change_81
    refine i_iload C dX5_change_57 (lv_at hl 0 rfl) ?_
    refine i_if_eq (tgt := 75) C h dX5_change_59 (by decide) (fun _ h => ?_) (fun _ h => ?_)
    · refine i_aload_n C dX5_change_75 rfl (lv_at hl 1 rfl) ?_
      refine i_ldc C tw4_172 dX5_change_76 ?_
      obtain ⟨x4, m2, e3, h⟩ := w_bdw h
      refine x_callVi C hX (fg_37_0 G) (c_X5_finding (gl Γ) G  e3) [] rfl hl tw4_173 tw4_175 ts1_15 tw1_7 tw4_176 rfl nd_X5_finding ⟨(Nat.le_of_ble_eq_true rfl), (Nat.le_of_ble_eq_true rfl)⟩ (Nat.le_of_ble_eq_true rfl) dX5_change_78 (fun H locs hX => ?_)
      exact x_iretW C hX hr hQ h dX5_change_81
    refine i_aload_n C dX5_change_62 rfl (lv_at hl 1 rfl) ?_
    refine i_iload_n C dX5_change_63 rfl (lv_at hl 2 rfl) ?_
    refine i_iload_n C dX5_change_64 rfl (lv_at hl 3 rfl) ?_
    obtain ⟨x5, e4, h⟩ := w_bdr h
    refine x_callSi C hX (c_X5_at (gl Γ) G  e4) [.ref (G.2.1 37)] rfl hl tw4_182 tw4_183 tw1_7 tw4_184 nd_X5_at ⟨(Nat.le_of_ble_eq_true rfl), (Nat.le_of_ble_eq_true rfl)⟩ (Nat.le_of_ble_eq_true rfl) dX5_change_65 (fun H locs hX => ?_)
    refine i_iload_n C dX5_change_68 rfl (lv_at hl 4 rfl) ?_
    obtain ⟨x6, m3, e5, h⟩ := w_bdw h
    refine x_callVi C hX (fg_37_0 G) (c_X5_become (gl Γ) G  e5) [] rfl hl tw4_208 tw4_210 ts2_4 tw1_7 tw4_211 rfl nd_X5_become ⟨(Nat.le_of_ble_eq_true rfl), (Nat.le_of_ble_eq_true rfl)⟩ (Nat.le_of_ble_eq_true rfl) dX5_change_69 (fun H locs hX => ?_)
    refine i_goto (tgt := 81) C dX5_change_72 (by decide) ?_
    exact x_iretW C hX hr hQ h dX5_change_81
  refine w_jn0 (∀ (H : Heap) (locs : List Loc) (ls : Array Slot), lv_has ls 5 [(0, .ref (G.2.1 37)), (1, .int p1), (2, .int p2), (3, .int p3)] → XW G A (gs Γ) H locs μ → WX Γ H locs 42 ls []) h (fun  h H locs ls hl hX => ?_) (fun k2 J2 h => ?_)
  · refine i_iconst (v := 1) C dX5_change_42 rfl ?_
    refine i_goto (tgt := 47) C dX5_change_43 (by decide) ?_
    exact J1 _ h _ _ _ (lv_sub hl [0, 1, 2, 3] rfl) hX
  refine w_jn0 (∀ (H : Heap) (locs : List Loc) (ls : Array Slot), lv_has ls 5 [(0, .ref (G.2.1 37)), (1, .int p1), (2, .int p2), (3, .int p3)] → XW G A (gs Γ) H locs μ → WX Γ H locs 11 ls []) h (fun  h H locs ls hl hX => ?_) (fun k5 J5 h => ?_)
  · refine i_iload_n C dX5_change_11 rfl (lv_at hl 2 rfl) ?_
    refine i_iconst (v := 1) C dX5_change_12 rfl ?_
    refine w_jn0 (∀ (H : Heap) (locs : List Loc) (ls : Array Slot), lv_has ls 5 [(0, .ref (G.2.1 37)), (1, .int p1), (2, .int p2), (3, .int p3)] → XW G A (gs Γ) H locs μ → WX Γ H locs 26 ls []) h (fun  h H locs ls hl hX => ?_) (fun k4 J4 h => ?_)
    · refine i_iload_n C dX5_change_26 rfl (lv_at hl 2 rfl) ?_
      refine i_iconst (v := 2) C dX5_change_27 rfl ?_
      refine w_jn0 (∀ (H : Heap) (locs : List Loc) (ls : Array Slot), lv_has ls 5 [(0, .ref (G.2.1 37)), (1, .int p1), (2, .int p2), (3, .int p3)] → XW G A (gs Γ) H locs μ → WX Γ H locs 46 ls []) h (fun  h H locs ls hl hX => ?_) (fun k3 J3 h => ?_)
      · refine i_iconst (v := 0) C dX5_change_46 rfl ?_
        exact J1 _ h _ _ _ (lv_sub hl [0, 1, 2, 3] rfl) hX
      refine i_icmp_ne (tgt := 46) C h dX5_change_28 (by decide) (fun _ h => ?_) (fun _ h => ?_)
      · exact J3 h _ _ _ (lv_sub hl [0, 1, 2, 3] rfl) hX
      refine i_iload_n C dX5_change_31 rfl (lv_at hl 3 rfl) ?_
      refine i_bipush (v := (-15)) C dX5_change_32 rfl ?_
      refine i_bipush (v := 15) C dX5_change_34 rfl ?_
      obtain ⟨x7, e6, h⟩ := w_bdr h
      refine x_callSi C hX (c_X5_within (gl Γ) G  e6) [] rfl hl tw4_169 tw4_170 tw1_7 tw4_171 nd_X5_within ⟨(Nat.le_of_ble_eq_true rfl), (Nat.le_of_ble_eq_true rfl)⟩ (Nat.le_of_ble_eq_true rfl) dX5_change_36 (fun H locs hX => ?_)
      refine i_if_eq (tgt := 46) C h dX5_change_39 (by decide) (fun _ h => ?_) (fun _ h => ?_)
      · exact J3 h _ _ _ (lv_sub hl [0, 1, 2, 3] rfl) hX
      exact J2 h _ _ _ (lv_sub hl [0, 1, 2, 3] rfl) hX
    refine i_icmp_ne (tgt := 26) C h dX5_change_13 (by decide) (fun _ h => ?_) (fun _ h => ?_)
    · exact J4 h _ _ _ (lv_sub hl [0, 1, 2, 3] rfl) hX
    refine i_iload_n C dX5_change_16 rfl (lv_at hl 3 rfl) ?_
    refine i_iconst (v := 0) C dX5_change_17 rfl ?_
    refine i_bipush (v := 99) C dX5_change_18 rfl ?_
    obtain ⟨x8, e7, h⟩ := w_bdr h
    refine x_callSi C hX (c_X5_within (gl Γ) G  e7) [] rfl hl tw4_169 tw4_170 tw1_7 tw4_171 nd_X5_within ⟨(Nat.le_of_ble_eq_true rfl), (Nat.le_of_ble_eq_true rfl)⟩ (Nat.le_of_ble_eq_true rfl) dX5_change_20 (fun H locs hX => ?_)
    refine i_if_ne (tgt := 42) C h dX5_change_23 (by decide) (fun _ h => ?_) (fun _ h => ?_)
    · exact J2 h _ _ _ (lv_sub hl [0, 1, 2, 3] rfl) hX
    exact J4 h _ _ _ (lv_sub hl [0, 1, 2, 3] rfl) hX
  refine i_if_ne (tgt := 11) C h dX5_change_1 (by decide) (fun _ h => ?_) (fun _ h => ?_)
  · exact J5 h _ _ _ (lv_sub hl [0, 1, 2, 3] rfl) hX
  refine i_iload_n C dX5_change_4 rfl (lv_at hl 3 rfl) ?_
  obtain ⟨x9, e8, h⟩ := w_bdr h
  refine x_callSi C hX (c_X5_isKind (gl Γ) G  e8) [] rfl hl tw4_166 tw4_167 tw1_7 tw4_168 nd_X5_isKind ⟨(Nat.le_of_ble_eq_true rfl), (Nat.le_of_ble_eq_true rfl)⟩ (Nat.le_of_ble_eq_true rfl) dX5_change_5 (fun H locs hX => ?_)
  refine i_if_ne (tgt := 42) C h dX5_change_8 (by decide) (fun _ h => ?_) (fun _ h => ?_)
  · exact J2 h _ _ _ (lv_sub hl [0, 1, 2, 3] rfl) hX
  exact J5 h _ _ _ (lv_sub hl [0, 1, 2, 3] rfl) hX
def L_X5_meanOf_4 (p1 : Int32) (μ : MM) (k1 : Int32 → Option Int32) : Nat → Int32 → Int32 → Option Int32
  | 0, _, _ => none
  | fu + 1, x3, x4 => ldi μ 38 152 4 fun x5 => if x5 ≤ x4 then (k1 x3) else (bdr (f_X5_has p1 x4) fun x6 => jn1 (fun (x7 : Int32) => lt_ ((x3 + x7)) fun x8 => lt_ (x4 + 1) fun x9 => L_X5_meanOf_4 p1 μ k1 fu x8 x9) fun k2 => if x6 = 0 then (k2 0) else (bdr (f_X5_errs x4 μ) fun x10 => k2 x10))
def f_X5_meanOf (p1 : Int32) (μ : MM) : Option Int32 := jn1 (fun (x1 : Int32) => if p1 = 0 then (some 0) else (bdr (f_X5_bits p1) fun x2 => gd (¬ x2 = 0) (some (x1 / x2)))) fun k1 => L_X5_meanOf_4 p1 μ k1 FU 0 0
theorem nd_X5_meanOf : yX5_meanOf.cls ≠ "java/lang/invoke/MethodHandle" ∧ yX5_meanOf.cls ≠ "java/lang/invoke/VarHandle" ∧ (parseMethodDescriptor yX5_meanOf.desc).map (fun d => d.parameters.length) = some 1 := by decide +kernel
set_option maxHeartbeats 4000000 in
set_option maxRecDepth 100000 in
theorem c_X5_meanOf (l : Launch) (G : EN)  {p1 : Int32} {μ : MM} {r : Int32} (h : f_X5_meanOf p1 μ = some r) : XM l G yX5_meanOf cX5_meanOf 4 (some .int) 3 69 [.ref (G.2.1 37), .int p1] μ (some (.int r)) μ := by
  refine x_met (own := RX5) (by decide +kernel) rfl (Nat.le_of_ble_eq_true rfl) (fun Γ A H ls hg C hr hX hQ hl => ?_)
  have hl : lv_has ls 4 [(0, .ref (G.2.1 37)), (1, .int p1)] := hl
  unfold f_X5_meanOf at h
  refine i_iconst (v := 0) C dX5_meanOf_0 rfl ?_
  refine i_istore_n C [(2, .int 0), (0, .ref (G.2.1 37)), (1, .int p1)] dX5_meanOf_1 rfl hl (by decide) rfl (fun ls hl => ?_)
  refine i_iconst (v := 0) C dX5_meanOf_2 rfl ?_
  refine i_istore_n C [(3, .int 0), (2, .int 0), (0, .ref (G.2.1 37)), (1, .int p1)] dX5_meanOf_3 rfl hl (by decide) rfl (fun ls hl => ?_)
  refine w_jn1 (fun (x1 : Int32) => ∀ (H : Heap) (locs : List Loc) (ls : Array Slot), lv_has ls 4 [(1, .int p1), (2, .int x1)] → XW G A (gs Γ) H locs μ → WX Γ H locs 40 ls []) h (fun x1 h H locs ls hl hX => ?_) (fun k1 J1 h => ?_)
  · refine i_iload_n C dX5_meanOf_40 rfl (lv_at hl 0 rfl) ?_
    refine i_if_ne (tgt := 48) C h dX5_meanOf_41 (by decide) (fun _ h => ?_) (fun _ h => ?_)
    · refine i_iload_n C dX5_meanOf_48 rfl (lv_at hl 1 rfl) ?_
      refine i_iload_n C dX5_meanOf_49 rfl (lv_at hl 0 rfl) ?_
      obtain ⟨x2, e1, h⟩ := w_bdr h
      refine x_callSi C hX (c_X5_bits (gl Γ) G  e1) [.int x1] rfl hl tw4_234 tw4_235 tw1_7 tw4_236 nd_X5_bits ⟨(Nat.le_of_ble_eq_true rfl), (Nat.le_of_ble_eq_true rfl)⟩ (Nat.le_of_ble_eq_true rfl) dX5_meanOf_50 (fun H locs hX => ?_)
      refine i_idiv C h dX5_meanOf_53 (fun h => ?_)
      exact x_iretR C hX hr hQ h dX5_meanOf_54
    refine i_iconst (v := 0) C dX5_meanOf_44 rfl ?_
    refine i_goto (tgt := 54) C dX5_meanOf_45 (by decide) ?_
    exact x_iretR C hX hr hQ h dX5_meanOf_54
  have L1 : ∀ (fu : Nat) (x3 : Int32) (x4 : Int32) (H : Heap) (locs : List Loc) (ls : Array Slot), L_X5_meanOf_4 p1 μ k1 fu x3 x4 = some r → lv_has ls 4 [(0, .ref (G.2.1 37)), (1, .int p1), (2, .int x3), (3, .int x4)] → XW G A (gs Γ) H locs μ → WX Γ H locs 4 ls [] := by
    intro fu
    induction fu with
    | zero =>
      intro x3 x4 H locs ls h
      rw [L_X5_meanOf_4] at h
      cases h
    | succ fu ih =>
      intro x3 x4 H locs ls h hl hX
      rw [L_X5_meanOf_4] at h
      refine i_iload_n C dX5_meanOf_4 rfl (lv_at hl 3 rfl) ?_
      refine i_aload_n C dX5_meanOf_5 rfl (lv_at hl 0 rfl) ?_
      refine x_get C hX (fg_37_0 G) tw4_83 dX5_meanOf_6 ?_
      refine i_iconst (v := 4) C dX5_meanOf_9 rfl ?_
      refine x_iald C hX (ai_38 G) h dX5_meanOf_10 (fun x5 h => ?_)
      refine i_icmp_ge (tgt := 40) C h dX5_meanOf_11 (by decide) (fun _ h => ?_) (fun _ h => ?_)
      · exact J1 _ h _ _ _ (lv_sub hl [1, 2] rfl) hX
      refine i_iload_n C dX5_meanOf_14 rfl (lv_at hl 2 rfl) ?_
      refine i_iload_n C dX5_meanOf_15 rfl (lv_at hl 1 rfl) ?_
      refine i_iload_n C dX5_meanOf_16 rfl (lv_at hl 3 rfl) ?_
      obtain ⟨x6, e2, h⟩ := w_bdr h
      refine x_callSi C hX (c_X5_has (gl Γ) G  e2) [.int x3] rfl hl tw4_201 tw4_202 tw1_7 tw4_203 nd_X5_has ⟨(Nat.le_of_ble_eq_true rfl), (Nat.le_of_ble_eq_true rfl)⟩ (Nat.le_of_ble_eq_true rfl) dX5_meanOf_17 (fun H locs hX => ?_)
      refine w_jn1 (fun (x7 : Int32) => ∀ (H : Heap) (locs : List Loc) (ls : Array Slot), lv_has ls 4 [(0, .ref (G.2.1 37)), (1, .int p1), (3, .int x4)] → XW G A (gs Γ) H locs μ → WX Γ H locs 32 ls [.int x7, .int x3]) h (fun x7 h H locs ls hl hX => ?_) (fun k2 J2 h => ?_)
      · refine i_iadd C dX5_meanOf_32 ?_
        refine i_istoreL_n C (fun x8 => [(2, .int x8), (0, .ref (G.2.1 37)), (1, .int p1), (3, .int x4)]) h dX5_meanOf_33 rfl hl (by decide) (fun _ => rfl) (fun x8 ls h hl => ?_)
        refine i_iinc C (j := 3) (fun x9 => [(3, .int x9), (2, .int x8), (0, .ref (G.2.1 37)), (1, .int p1)]) h dX5_meanOf_34 hl rfl rfl (by decide) (fun _ => rfl) (fun x9 ls h hl => ?_)
        refine i_goto (tgt := 4) C dX5_meanOf_37 (by decide) ?_
        exact ih _ _ _ _ _ h (lv_sub hl [2, 3, 1, 0] rfl) hX
      refine i_if_eq (tgt := 31) C h dX5_meanOf_20 (by decide) (fun _ h => ?_) (fun _ h => ?_)
      · refine i_iconst (v := 0) C dX5_meanOf_31 rfl ?_
        exact J2 _ h _ _ _ (lv_sub hl [0, 1, 3] rfl) hX
      refine i_aload_n C dX5_meanOf_23 rfl (lv_at hl 0 rfl) ?_
      refine i_iload_n C dX5_meanOf_24 rfl (lv_at hl 3 rfl) ?_
      obtain ⟨x10, e3, h⟩ := w_bdr h
      refine x_callVi C hX (fg_37_0 G) (c_X5_errs (gl Γ) G  e3) [.int x3] rfl hl tw4_197 tw4_199 ts2_3 tw1_7 tw4_200 rfl nd_X5_errs ⟨(Nat.le_of_ble_eq_true rfl), (Nat.le_of_ble_eq_true rfl)⟩ (Nat.le_of_ble_eq_true rfl) dX5_meanOf_25 (fun H locs hX => ?_)
      refine i_goto (tgt := 32) C dX5_meanOf_28 (by decide) ?_
      exact J2 _ h _ _ _ (lv_sub hl [0, 1, 3] rfl) hX
  exact L1 FU _ _ _ _ _ h (lv_sub hl [2, 3, 1, 0] rfl) hX
def f_X5_reads (p1 : Int32) (μ : MM) : Option Int32 := bdr (f_X5_shipIs p1 2 μ) fun x1 => bdr (f_X5_meanOf x1 μ) fun x2 => some x2
theorem nd_X5_reads : yX5_reads.cls ≠ "java/lang/invoke/MethodHandle" ∧ yX5_reads.cls ≠ "java/lang/invoke/VarHandle" ∧ (parseMethodDescriptor yX5_reads.desc).map (fun d => d.parameters.length) = some 1 := by decide +kernel
set_option maxHeartbeats 4000000 in
set_option maxRecDepth 100000 in
theorem c_X5_reads (l : Launch) (G : EN)  {p1 : Int32} {μ : MM} {r : Int32} (h : f_X5_reads p1 μ = some r) : XM l G yX5_reads cX5_reads 2 (some .int) 4 92 [.ref (G.2.1 37), .int p1] μ (some (.int r)) μ := by
  refine x_met (own := RX5) (by decide +kernel) rfl (Nat.le_of_ble_eq_true rfl) (fun Γ A H ls hg C hr hX hQ hl => ?_)
  have hl : lv_has ls 2 [(0, .ref (G.2.1 37)), (1, .int p1)] := hl
  unfold f_X5_reads at h
  refine i_aload_n C dX5_reads_0 rfl (lv_at hl 0 rfl) ?_
  refine i_aload_n C dX5_reads_1 rfl (lv_at hl 0 rfl) ?_
  refine i_iload_n C dX5_reads_2 rfl (lv_at hl 1 rfl) ?_
  refine i_iconst (v := 2) C dX5_reads_3 rfl ?_
  obtain ⟨x1, e1, h⟩ := w_bdr h
  refine x_callVi C hX (fg_37_0 G) (c_X5_shipIs (gl Γ) G  e1) [.ref (G.2.1 37)] rfl hl tw4_223 tw4_225 ts2_6 tw1_7 tw4_226 rfl nd_X5_shipIs ⟨(Nat.le_of_ble_eq_true rfl), (Nat.le_of_ble_eq_true rfl)⟩ (Nat.le_of_ble_eq_true rfl) dX5_reads_4 (fun H locs hX => ?_)
  obtain ⟨x2, e2, h⟩ := w_bdr h
  refine x_callVi C hX (fg_37_0 G) (c_X5_meanOf (gl Γ) G  e2) [] rfl hl tw4_230 tw4_232 ts2_7 tw1_7 tw4_233 rfl nd_X5_meanOf ⟨(Nat.le_of_ble_eq_true rfl), (Nat.le_of_ble_eq_true rfl)⟩ (Nat.le_of_ble_eq_true rfl) dX5_reads_7 (fun H locs hX => ?_)
  exact x_iretR C hX hr hQ h dX5_reads_10
def f_X5_course (p1 : Int32) (μ : MM) : Option Int32 := bdr (f_X5_shipIs p1 1 μ) fun x1 => bdr (f_X5_reads p1 μ) fun x2 => lt_ ((irm (x1 + x2) 32)) fun x3 => if 0 ≤ x3 then (some x3) else (some (x3 + 32))
theorem nd_X5_course : yX5_course.cls ≠ "java/lang/invoke/MethodHandle" ∧ yX5_course.cls ≠ "java/lang/invoke/VarHandle" ∧ (parseMethodDescriptor yX5_course.desc).map (fun d => d.parameters.length) = some 1 := by decide +kernel
set_option maxHeartbeats 4000000 in
set_option maxRecDepth 100000 in
theorem c_X5_course (l : Launch) (G : EN)  {p1 : Int32} {μ : MM} {r : Int32} (h : f_X5_course p1 μ = some r) : XM l G yX5_course cX5_course 3 (some .int) 5 113 [.ref (G.2.1 37), .int p1] μ (some (.int r)) μ := by
  refine x_met (own := RX5) (by decide +kernel) rfl (Nat.le_of_ble_eq_true rfl) (fun Γ A H ls hg C hr hX hQ hl => ?_)
  have hl : lv_has ls 3 [(0, .ref (G.2.1 37)), (1, .int p1)] := hl
  unfold f_X5_course at h
  refine i_aload_n C dX5_course_0 rfl (lv_at hl 0 rfl) ?_
  refine i_iload_n C dX5_course_1 rfl (lv_at hl 1 rfl) ?_
  refine i_iconst (v := 1) C dX5_course_2 rfl ?_
  obtain ⟨x1, e1, h⟩ := w_bdr h
  refine x_callVi C hX (fg_37_0 G) (c_X5_shipIs (gl Γ) G  e1) [] rfl hl tw4_223 tw4_225 ts2_6 tw1_7 tw4_226 rfl nd_X5_shipIs ⟨(Nat.le_of_ble_eq_true rfl), (Nat.le_of_ble_eq_true rfl)⟩ (Nat.le_of_ble_eq_true rfl) dX5_course_3 (fun H locs hX => ?_)
  refine i_aload_n C dX5_course_6 rfl (lv_at hl 0 rfl) ?_
  refine i_iload_n C dX5_course_7 rfl (lv_at hl 1 rfl) ?_
  obtain ⟨x2, e2, h⟩ := w_bdr h
  refine x_callVi C hX (fg_37_0 G) (c_X5_reads (gl Γ) G  e2) [.int x1] rfl hl tw4_219 tw4_221 ts2_5 tw1_7 tw4_222 rfl nd_X5_reads ⟨(Nat.le_of_ble_eq_true rfl), (Nat.le_of_ble_eq_true rfl)⟩ (Nat.le_of_ble_eq_true rfl) dX5_course_8 (fun H locs hX => ?_)
  refine i_iadd C dX5_course_11 ?_
  refine i_bipush (v := 32) C dX5_course_12 rfl ?_
  refine i_iremc C dX5_course_14 (by decide) ?_
  refine i_istoreL_n C (fun x3 => [(2, .int x3), (0, .ref (G.2.1 37)), (1, .int p1)]) h dX5_course_15 rfl hl (by decide) (fun _ => rfl) (fun x3 ls h hl => ?_)
  refine i_iload_n C dX5_course_16 rfl (lv_at hl 0 rfl) ?_
  refine i_if_ge (tgt := 27) C h dX5_course_17 (by decide) (fun _ h => ?_) (fun _ h => ?_)
  · refine i_iload_n C dX5_course_27 rfl (lv_at hl 0 rfl) ?_
    exact x_iretR C hX hr hQ h dX5_course_28
  refine i_iload_n C dX5_course_20 rfl (lv_at hl 0 rfl) ?_
  refine i_bipush (v := 32) C dX5_course_21 rfl ?_
  refine i_iadd C dX5_course_23 ?_
  refine i_goto (tgt := 28) C dX5_course_24 (by decide) ?_
  exact x_iretR C hX hr hQ h dX5_course_28
def f_X5_beside (p1 : Int32) (p2 : Int32) (μ : MM) : Option Int32 := ldi μ 42 8 p2 fun x1 => lt_ (((p1 / 10) + x1)) fun x2 => ldi μ 43 8 p2 fun x3 => lt_ (((irm p1 10) + x3)) fun x4 => bdr (f_X5_within x2 0 9) fun x5 => if x5 = 0 then (some p1) else (bdr (f_X5_within x4 0 9) fun x6 => if x6 = 0 then (some p1) else (some ((10 * x2) + x4)))
theorem nd_X5_beside : yX5_beside.cls ≠ "java/lang/invoke/MethodHandle" ∧ yX5_beside.cls ≠ "java/lang/invoke/VarHandle" ∧ (parseMethodDescriptor yX5_beside.desc).map (fun d => d.parameters.length) = some 2 := by decide +kernel
set_option maxHeartbeats 4000000 in
set_option maxRecDepth 100000 in
theorem c_X5_beside (l : Launch) (G : EN)  {p1 p2 : Int32} {μ : MM} {r : Int32} (h : f_X5_beside p1 p2 μ = some r) : XM l G yX5_beside cX5_beside 5 (some .int) 1 22 [.ref (G.2.1 37), .int p1, .int p2] μ (some (.int r)) μ := by
  refine x_met (own := RX5) (by decide +kernel) rfl (Nat.le_of_ble_eq_true rfl) (fun Γ A H ls hg C hr hX hQ hl => ?_)
  have hl : lv_has ls 5 [(0, .ref (G.2.1 37)), (1, .int p1), (2, .int p2)] := hl
  unfold f_X5_beside at h
  refine i_iload_n C dX5_beside_0 rfl (lv_at hl 1 rfl) ?_
  refine i_bipush (v := 10) C dX5_beside_1 rfl ?_
  refine i_idivc C dX5_beside_3 (by decide) ?_
  refine i_aload_n C dX5_beside_4 rfl (lv_at hl 0 rfl) ?_
  refine x_get C hX (fg_37_5 G) tw4_88 dX5_beside_5 ?_
  refine i_iload_n C dX5_beside_8 rfl (lv_at hl 2 rfl) ?_
  refine x_iald C hX (ai_42 G) h dX5_beside_9 (fun x1 h => ?_)
  refine i_iadd C dX5_beside_10 ?_
  refine i_istoreL_n C (fun x2 => [(3, .int x2), (0, .ref (G.2.1 37)), (1, .int p1), (2, .int p2)]) h dX5_beside_11 rfl hl (by decide) (fun _ => rfl) (fun x2 ls h hl => ?_)
  refine i_iload_n C dX5_beside_12 rfl (lv_at hl 2 rfl) ?_
  refine i_bipush (v := 10) C dX5_beside_13 rfl ?_
  refine i_iremc C dX5_beside_15 (by decide) ?_
  refine i_aload_n C dX5_beside_16 rfl (lv_at hl 1 rfl) ?_
  refine x_get C hX (fg_37_6 G) tw4_89 dX5_beside_17 ?_
  refine i_iload_n C dX5_beside_20 rfl (lv_at hl 3 rfl) ?_
  refine x_iald C hX (ai_43 G) h dX5_beside_21 (fun x3 h => ?_)
  refine i_iadd C dX5_beside_22 ?_
  refine i_istoreL C (fun x4 => [(4, .int x4), (3, .int x2), (0, .ref (G.2.1 37)), (1, .int p1), (2, .int p2)]) h dX5_beside_23 hl (by decide) (fun _ => rfl) (fun x4 ls h hl => ?_)
  refine i_iload_n C dX5_beside_25 rfl (lv_at hl 1 rfl) ?_
  refine i_iconst (v := 0) C dX5_beside_26 rfl ?_
  refine i_bipush (v := 9) C dX5_beside_27 rfl ?_
  obtain ⟨x5, e1, h⟩ := w_bdr h
  refine x_callSi C hX (c_X5_within (gl Γ) G  e1) [] rfl hl tw4_169 tw4_170 tw1_7 tw4_171 nd_X5_within ⟨(Nat.le_of_ble_eq_true rfl), (Nat.le_of_ble_eq_true rfl)⟩ (Nat.le_of_ble_eq_true rfl) dX5_beside_29 (fun H locs hX => ?_)
  refine i_if_eq (tgt := 56) C h dX5_beside_32 (by decide) (fun _ h => ?_) (fun _ h => ?_)
  · refine i_iload_n C dX5_beside_56 rfl (lv_at hl 3 rfl) ?_
    exact x_iretR C hX hr hQ h dX5_beside_57
  refine i_iload C dX5_beside_35 (lv_at hl 0 rfl) ?_
  refine i_iconst (v := 0) C dX5_beside_37 rfl ?_
  refine i_bipush (v := 9) C dX5_beside_38 rfl ?_
  obtain ⟨x6, e2, h⟩ := w_bdr h
  refine x_callSi C hX (c_X5_within (gl Γ) G  e2) [] rfl hl tw4_169 tw4_170 tw1_7 tw4_171 nd_X5_within ⟨(Nat.le_of_ble_eq_true rfl), (Nat.le_of_ble_eq_true rfl)⟩ (Nat.le_of_ble_eq_true rfl) dX5_beside_40 (fun H locs hX => ?_)
  refine i_if_eq (tgt := 56) C h dX5_beside_43 (by decide) (fun _ h => ?_) (fun _ h => ?_)
  · refine i_iload_n C dX5_beside_56 rfl (lv_at hl 3 rfl) ?_
    exact x_iretR C hX hr hQ h dX5_beside_57
  refine i_bipush (v := 10) C dX5_beside_46 rfl ?_
  refine i_iload_n C dX5_beside_48 rfl (lv_at hl 1 rfl) ?_
  refine i_imul C dX5_beside_49 ?_
  refine i_iload C dX5_beside_50 (lv_at hl 0 rfl) ?_
  refine i_iadd C dX5_beside_52 ?_
  refine i_goto (tgt := 57) C dX5_beside_53 (by decide) ?_
  exact x_iretR C hX hr hQ h dX5_beside_57
def f_X5_isIsland (p1 : Int32) (μ : MM) : Option Int32 := ldi μ 38 152 (16 + p1) fun x1 => if x1 = 1 then (some 1) else (some 0)
theorem nd_X5_isIsland : yX5_isIsland.cls ≠ "java/lang/invoke/MethodHandle" ∧ yX5_isIsland.cls ≠ "java/lang/invoke/VarHandle" ∧ (parseMethodDescriptor yX5_isIsland.desc).map (fun d => d.parameters.length) = some 1 := by decide +kernel
set_option maxHeartbeats 4000000 in
set_option maxRecDepth 100000 in
theorem c_X5_isIsland (l : Launch) (G : EN)  {p1 : Int32} {μ : MM} {r : Int32} (h : f_X5_isIsland p1 μ = some r) : XM l G yX5_isIsland cX5_isIsland 2 (some .boolean) 0 0 [.ref (G.2.1 37), .int p1] μ (some (.int r)) μ := by
  refine x_met (own := RX5) (by decide +kernel) rfl (Nat.le_of_ble_eq_true rfl) (fun Γ A H ls hg C hr hX hQ hl => ?_)
  have hl : lv_has ls 2 [(0, .ref (G.2.1 37)), (1, .int p1)] := hl
  unfold f_X5_isIsland at h
  refine i_aload_n C dX5_isIsland_0 rfl (lv_at hl 0 rfl) ?_
  refine x_get C hX (fg_37_0 G) tw4_83 dX5_isIsland_1 ?_
  refine i_bipush (v := 16) C dX5_isIsland_4 rfl ?_
  refine i_iload_n C dX5_isIsland_6 rfl (lv_at hl 1 rfl) ?_
  refine i_iadd C dX5_isIsland_7 ?_
  refine x_iald C hX (ai_38 G) h dX5_isIsland_8 (fun x1 h => ?_)
  refine i_iconst (v := 1) C dX5_isIsland_9 rfl ?_
  refine i_icmp_ne (tgt := 17) C h dX5_isIsland_10 (by decide) (fun _ h => ?_) (fun _ h => ?_)
  · refine i_iconst (v := 0) C dX5_isIsland_17 rfl ?_
    exact x_zcR C hX (by decide) hr hQ h dX5_isIsland_18
  refine i_iconst (v := 1) C dX5_isIsland_13 rfl ?_
  refine i_goto (tgt := 18) C dX5_isIsland_14 (by decide) ?_
  exact x_zcR C hX (by decide) hr hQ h dX5_isIsland_18
def f_X5_isLanded (p1 : Int32) (μ : MM) : Option Int32 := bdr (f_X5_shipIs p1 0 μ) fun x1 => bdr (f_X5_isIsland x1 μ) fun x2 => gd (x2 = 0 ∨ x2 = 1) (some x2)
theorem nd_X5_isLanded : yX5_isLanded.cls ≠ "java/lang/invoke/MethodHandle" ∧ yX5_isLanded.cls ≠ "java/lang/invoke/VarHandle" ∧ (parseMethodDescriptor yX5_isLanded.desc).map (fun d => d.parameters.length) = some 1 := by decide +kernel
set_option maxHeartbeats 4000000 in
set_option maxRecDepth 100000 in
theorem c_X5_isLanded (l : Launch) (G : EN)  {p1 : Int32} {μ : MM} {r : Int32} (h : f_X5_isLanded p1 μ = some r) : XM l G yX5_isLanded cX5_isLanded 2 (some .boolean) 2 43 [.ref (G.2.1 37), .int p1] μ (some (.int r)) μ := by
  refine x_met (own := RX5) (by decide +kernel) rfl (Nat.le_of_ble_eq_true rfl) (fun Γ A H ls hg C hr hX hQ hl => ?_)
  have hl : lv_has ls 2 [(0, .ref (G.2.1 37)), (1, .int p1)] := hl
  unfold f_X5_isLanded at h
  refine i_aload_n C dX5_isLanded_0 rfl (lv_at hl 0 rfl) ?_
  refine i_aload_n C dX5_isLanded_1 rfl (lv_at hl 0 rfl) ?_
  refine i_iload_n C dX5_isLanded_2 rfl (lv_at hl 1 rfl) ?_
  refine i_iconst (v := 0) C dX5_isLanded_3 rfl ?_
  obtain ⟨x1, e1, h⟩ := w_bdr h
  refine x_callVi C hX (fg_37_0 G) (c_X5_shipIs (gl Γ) G  e1) [.ref (G.2.1 37)] rfl hl tw4_223 tw4_225 ts2_6 tw1_7 tw4_226 rfl nd_X5_shipIs ⟨(Nat.le_of_ble_eq_true rfl), (Nat.le_of_ble_eq_true rfl)⟩ (Nat.le_of_ble_eq_true rfl) dX5_isLanded_4 (fun H locs hX => ?_)
  obtain ⟨x2, e2, h⟩ := w_bdr h
  refine x_callVi C hX (fg_37_0 G) (c_X5_isIsland (gl Γ) G  e2) [] rfl hl tw5_9 tw5_11 ts2_11 tw1_7 tw5_12 rfl nd_X5_isIsland ⟨(Nat.le_of_ble_eq_true rfl), (Nat.le_of_ble_eq_true rfl)⟩ (Nat.le_of_ble_eq_true rfl) dX5_isLanded_7 (fun H locs hX => ?_)
  exact x_zretR C hX hr hQ h dX5_isLanded_10
def f_X5_goesTo (p1 : Int32) (μ : MM) : Option Int32 := bdr (f_X5_course p1 μ) fun x1 => lt_ ((irm ((x1 + 2) / 4) 8)) fun x2 => bdr (f_X5_shipIs p1 0 μ) fun x3 => bdr (f_X5_isLanded p1 μ) fun x4 => if x4 = 0 then (ldi μ 38 152 2 fun x5 => if x2 = x5 then (some x3) else (bdr (f_X5_beside x3 x2 μ) fun x6 => some x6)) else (some x3)
theorem nd_X5_goesTo : yX5_goesTo.cls ≠ "java/lang/invoke/MethodHandle" ∧ yX5_goesTo.cls ≠ "java/lang/invoke/VarHandle" ∧ (parseMethodDescriptor yX5_goesTo.desc).map (fun d => d.parameters.length) = some 1 := by decide +kernel
set_option maxHeartbeats 4000000 in
set_option maxRecDepth 100000 in
theorem c_X5_goesTo (l : Launch) (G : EN)  {p1 : Int32} {μ : MM} {r : Int32} (h : f_X5_goesTo p1 μ = some r) : XM l G yX5_goesTo cX5_goesTo 4 (some .int) 6 135 [.ref (G.2.1 37), .int p1] μ (some (.int r)) μ := by
  refine x_met (own := RX5) (by decide +kernel) rfl (Nat.le_of_ble_eq_true rfl) (fun Γ A H ls hg C hr hX hQ hl => ?_)
  have hl : lv_has ls 4 [(0, .ref (G.2.1 37)), (1, .int p1)] := hl
  unfold f_X5_goesTo at h
  refine i_aload_n C dX5_goesTo_0 rfl (lv_at hl 0 rfl) ?_
  refine i_iload_n C dX5_goesTo_1 rfl (lv_at hl 1 rfl) ?_
  obtain ⟨x1, e1, h⟩ := w_bdr h
  refine x_callVi C hX (fg_37_0 G) (c_X5_course (gl Γ) G  e1) [] rfl hl tw4_237 tw4_239 ts2_8 tw1_7 tw5_0 rfl nd_X5_course ⟨(Nat.le_of_ble_eq_true rfl), (Nat.le_of_ble_eq_true rfl)⟩ (Nat.le_of_ble_eq_true rfl) dX5_goesTo_2 (fun H locs hX => ?_)
  refine i_iconst (v := 2) C dX5_goesTo_5 rfl ?_
  refine i_iadd C dX5_goesTo_6 ?_
  refine i_iconst (v := 4) C dX5_goesTo_7 rfl ?_
  refine i_idivc C dX5_goesTo_8 (by decide) ?_
  refine i_bipush (v := 8) C dX5_goesTo_9 rfl ?_
  refine i_iremc C dX5_goesTo_11 (by decide) ?_
  refine i_istoreL_n C (fun x2 => [(2, .int x2), (0, .ref (G.2.1 37)), (1, .int p1)]) h dX5_goesTo_12 rfl hl (by decide) (fun _ => rfl) (fun x2 ls h hl => ?_)
  refine i_aload_n C dX5_goesTo_13 rfl (lv_at hl 1 rfl) ?_
  refine i_iload_n C dX5_goesTo_14 rfl (lv_at hl 2 rfl) ?_
  refine i_iconst (v := 0) C dX5_goesTo_15 rfl ?_
  obtain ⟨x3, e2, h⟩ := w_bdr h
  refine x_callVi C hX (fg_37_0 G) (c_X5_shipIs (gl Γ) G  e2) [] rfl hl tw4_223 tw4_225 ts2_6 tw1_7 tw4_226 rfl nd_X5_shipIs ⟨(Nat.le_of_ble_eq_true rfl), (Nat.le_of_ble_eq_true rfl)⟩ (Nat.le_of_ble_eq_true rfl) dX5_goesTo_16 (fun H locs hX => ?_)
  refine i_istore_n C [(3, .int x3), (2, .int x2), (0, .ref (G.2.1 37)), (1, .int p1)] dX5_goesTo_19 rfl hl (by decide) rfl (fun ls hl => ?_)
  refine i_aload_n C dX5_goesTo_20 rfl (lv_at hl 2 rfl) ?_
  refine i_iload_n C dX5_goesTo_21 rfl (lv_at hl 3 rfl) ?_
  obtain ⟨x4, e3, h⟩ := w_bdr h
  refine x_callVi C hX (fg_37_0 G) (c_X5_isLanded (gl Γ) G  e3) [] rfl hl tw5_5 tw5_7 ts2_10 tw1_7 tw5_8 rfl nd_X5_isLanded ⟨(Nat.le_of_ble_eq_true rfl), (Nat.le_of_ble_eq_true rfl)⟩ (Nat.le_of_ble_eq_true rfl) dX5_goesTo_22 (fun H locs hX => ?_)
  refine i_if_ne (tgt := 38) C h dX5_goesTo_25 (by decide) (fun _ h => ?_) (fun _ h => ?_)
  · refine i_iload_n C dX5_goesTo_38 rfl (lv_at hl 0 rfl) ?_
    refine i_goto (tgt := 48) C dX5_goesTo_39 (by decide) ?_
    exact x_iretR C hX hr hQ h dX5_goesTo_48
  refine i_iload_n C dX5_goesTo_28 rfl (lv_at hl 1 rfl) ?_
  refine i_aload_n C dX5_goesTo_29 rfl (lv_at hl 2 rfl) ?_
  refine x_get C hX (fg_37_0 G) tw4_83 dX5_goesTo_30 ?_
  refine i_iconst (v := 2) C dX5_goesTo_33 rfl ?_
  refine x_iald C hX (ai_38 G) h dX5_goesTo_34 (fun x5 h => ?_)
  refine i_icmp_ne (tgt := 42) C h dX5_goesTo_35 (by decide) (fun _ h => ?_) (fun _ h => ?_)
  · refine i_aload_n C dX5_goesTo_42 rfl (lv_at hl 2 rfl) ?_
    refine i_iload_n C dX5_goesTo_43 rfl (lv_at hl 0 rfl) ?_
    refine i_iload_n C dX5_goesTo_44 rfl (lv_at hl 1 rfl) ?_
    obtain ⟨x6, e4, h⟩ := w_bdr h
    refine x_callVi C hX (fg_37_0 G) (c_X5_beside (gl Γ) G  e4) [] rfl hl tw5_13 tw5_15 ts2_12 tw1_7 tw5_16 rfl nd_X5_beside ⟨(Nat.le_of_ble_eq_true rfl), (Nat.le_of_ble_eq_true rfl)⟩ (Nat.le_of_ble_eq_true rfl) dX5_goesTo_45 (fun H locs hX => ?_)
    exact x_iretR C hX hr hQ h dX5_goesTo_48
  refine i_iload_n C dX5_goesTo_38 rfl (lv_at hl 0 rfl) ?_
  refine i_goto (tgt := 48) C dX5_goesTo_39 (by decide) ?_
  exact x_iretR C hX hr hQ h dX5_goesTo_48
def f_X5_ship (p1 : Int32) (p2 : Int32) (μ : MM) : Option (Int32 × MM) := bdr (f_X5_isShip p1) fun x1 => if x1 = 0 then (bdw (f_X5_finding (-1000001) μ) fun x2 m1 => some (x2, m1)) else (bdr (f_X5_within p2 0 6) fun x3 => if x3 = 0 then (bdw (f_X5_finding (-1000001) μ) fun x9 m2 => some (x9, m2)) else (if p2 = 3 then (bdr (f_X5_reads p1 μ) fun x4 => some (x4, μ)) else if p2 = 4 then (bdr (f_X5_course p1 μ) fun x5 => some (x5, μ)) else if p2 = 5 then (bdr (f_X5_goesTo p1 μ) fun x6 => some (x6, μ)) else if p2 = 6 then (bdr (f_X5_isLanded p1 μ) fun x7 => if x7 = 0 then (some (0, μ)) else (some (1, μ))) else (bdr (f_X5_shipIs p1 p2 μ) fun x8 => some (x8, μ))))
theorem nd_X5_ship : yX5_ship.cls ≠ "java/lang/invoke/MethodHandle" ∧ yX5_ship.cls ≠ "java/lang/invoke/VarHandle" ∧ (parseMethodDescriptor yX5_ship.desc).map (fun d => d.parameters.length) = some 2 := by decide +kernel
set_option maxHeartbeats 4000000 in
set_option maxRecDepth 100000 in
theorem c_X5_ship (l : Launch) (G : EN)  {p1 p2 : Int32} {μ : MM} {r : Int32} {m : MM} (h : f_X5_ship p1 p2 μ = some (r, m)) : XM l G yX5_ship cX5_ship 3 (some .int) 7 158 [.ref (G.2.1 37), .int p1, .int p2] μ (some (.int r)) m := by
  refine x_met (own := RX5) (by decide +kernel) rfl (Nat.le_of_ble_eq_true rfl) (fun Γ A H ls hg C hr hX hQ hl => ?_)
  have hl : lv_has ls 3 [(0, .ref (G.2.1 37)), (1, .int p1), (2, .int p2)] := hl
  unfold f_X5_ship at h
  refine i_iload_n C dX5_ship_0 rfl (lv_at hl 1 rfl) ?_
  obtain ⟨x1, e1, h⟩ := w_bdr h
  refine x_callSi C hX (c_X5_isShip (gl Γ) G  e1) [] rfl hl tw4_216 tw4_217 tw1_7 tw4_218 nd_X5_isShip ⟨(Nat.le_of_ble_eq_true rfl), (Nat.le_of_ble_eq_true rfl)⟩ (Nat.le_of_ble_eq_true rfl) dX5_ship_1 (fun H locs hX => ?_)
  refine i_if_eq (tgt := 17) C h dX5_ship_4 (by decide) (fun _ h => ?_) (fun _ h => ?_)
  · refine i_aload_n C dX5_ship_17 rfl (lv_at hl 0 rfl) ?_
    refine i_ldc C tw4_172 dX5_ship_18 ?_
    obtain ⟨x2, m1, e2, h⟩ := w_bdw h
    refine x_callVi C hX (fg_37_0 G) (c_X5_finding (gl Γ) G  e2) [] rfl hl tw4_173 tw4_175 ts1_15 tw1_7 tw4_176 rfl nd_X5_finding ⟨(Nat.le_of_ble_eq_true rfl), (Nat.le_of_ble_eq_true rfl)⟩ (Nat.le_of_ble_eq_true rfl) dX5_ship_20 (fun H locs hX => ?_)
    exact x_iretW C hX hr hQ h dX5_ship_23
  refine i_iload_n C dX5_ship_7 rfl (lv_at hl 2 rfl) ?_
  refine i_iconst (v := 0) C dX5_ship_8 rfl ?_
  refine i_bipush (v := 6) C dX5_ship_9 rfl ?_
  obtain ⟨x3, e3, h⟩ := w_bdr h
  refine x_callSi C hX (c_X5_within (gl Γ) G  e3) [] rfl hl tw4_169 tw4_170 tw1_7 tw4_171 nd_X5_within ⟨(Nat.le_of_ble_eq_true rfl), (Nat.le_of_ble_eq_true rfl)⟩ (Nat.le_of_ble_eq_true rfl) dX5_ship_11 (fun H locs hX => ?_)
  refine i_if_ne (tgt := 24) C h dX5_ship_14 (by decide) (fun _ h => ?_) (fun _ h => ?_)
  · refine i_iload_n C dX5_ship_24 rfl (lv_at hl 2 rfl) ?_
    refine i_case h (fun e h => ?_) (fun n1 h => ?_)
    · refine i_tabIn (tgt := 56) C e dX5_ship_25 (by decide) (by decide) rfl (by decide) ?_
      refine i_aload_n C dX5_ship_56 rfl (lv_at hl 0 rfl) ?_
      refine i_iload_n C dX5_ship_57 rfl (lv_at hl 1 rfl) ?_
      obtain ⟨x4, e4, h⟩ := w_bdr h
      refine x_callVi C hX (fg_37_0 G) (c_X5_reads (gl Γ) G  e4) [] rfl hl tw4_219 tw4_221 ts2_5 tw1_7 tw4_222 rfl nd_X5_reads ⟨(Nat.le_of_ble_eq_true rfl), (Nat.le_of_ble_eq_true rfl)⟩ (Nat.le_of_ble_eq_true rfl) dX5_ship_58 (fun H locs hX => ?_)
      exact x_iretW C hX hr hQ h dX5_ship_61
    refine i_case h (fun e h => ?_) (fun n2 h => ?_)
    · refine i_tabIn (tgt := 62) C e dX5_ship_25 (by decide) (by decide) rfl (by decide) ?_
      refine i_aload_n C dX5_ship_62 rfl (lv_at hl 0 rfl) ?_
      refine i_iload_n C dX5_ship_63 rfl (lv_at hl 1 rfl) ?_
      obtain ⟨x5, e5, h⟩ := w_bdr h
      refine x_callVi C hX (fg_37_0 G) (c_X5_course (gl Γ) G  e5) [] rfl hl tw4_237 tw4_239 ts2_8 tw1_7 tw5_0 rfl nd_X5_course ⟨(Nat.le_of_ble_eq_true rfl), (Nat.le_of_ble_eq_true rfl)⟩ (Nat.le_of_ble_eq_true rfl) dX5_ship_64 (fun H locs hX => ?_)
      exact x_iretW C hX hr hQ h dX5_ship_67
    refine i_case h (fun e h => ?_) (fun n3 h => ?_)
    · refine i_tabIn (tgt := 68) C e dX5_ship_25 (by decide) (by decide) rfl (by decide) ?_
      refine i_aload_n C dX5_ship_68 rfl (lv_at hl 0 rfl) ?_
      refine i_iload_n C dX5_ship_69 rfl (lv_at hl 1 rfl) ?_
      obtain ⟨x6, e6, h⟩ := w_bdr h
      refine x_callVi C hX (fg_37_0 G) (c_X5_goesTo (gl Γ) G  e6) [] rfl hl tw5_1 tw5_3 ts2_9 tw1_7 tw5_4 rfl nd_X5_goesTo ⟨(Nat.le_of_ble_eq_true rfl), (Nat.le_of_ble_eq_true rfl)⟩ (Nat.le_of_ble_eq_true rfl) dX5_ship_70 (fun H locs hX => ?_)
      exact x_iretW C hX hr hQ h dX5_ship_73
    refine i_case h (fun e h => ?_) (fun n4 h => ?_)
    · refine i_tabIn (tgt := 74) C e dX5_ship_25 (by decide) (by decide) rfl (by decide) ?_
      refine i_aload_n C dX5_ship_74 rfl (lv_at hl 0 rfl) ?_
      refine i_iload_n C dX5_ship_75 rfl (lv_at hl 1 rfl) ?_
      obtain ⟨x7, e7, h⟩ := w_bdr h
      refine x_callVi C hX (fg_37_0 G) (c_X5_isLanded (gl Γ) G  e7) [] rfl hl tw5_5 tw5_7 ts2_10 tw1_7 tw5_8 rfl nd_X5_isLanded ⟨(Nat.le_of_ble_eq_true rfl), (Nat.le_of_ble_eq_true rfl)⟩ (Nat.le_of_ble_eq_true rfl) dX5_ship_76 (fun H locs hX => ?_)
      refine i_if_eq (tgt := 86) C h dX5_ship_79 (by decide) (fun _ h => ?_) (fun _ h => ?_)
      · refine i_iconst (v := 0) C dX5_ship_86 rfl ?_
        exact x_iretW C hX hr hQ h dX5_ship_87
      refine i_iconst (v := 1) C dX5_ship_82 rfl ?_
      refine i_goto (tgt := 87) C dX5_ship_83 (by decide) ?_
      exact x_iretW C hX hr hQ h dX5_ship_87
    refine i_tabOut (tgt := 88) C (by have := ne_t (n := 3) (by decide) n1; have := ne_t (n := 4) (by decide) n2; have := ne_t (n := 5) (by decide) n3; have := ne_t (n := 6) (by decide) n4; omega) dX5_ship_25 (by decide) ?_
    refine i_aload_n C dX5_ship_88 rfl (lv_at hl 0 rfl) ?_
    refine i_iload_n C dX5_ship_89 rfl (lv_at hl 1 rfl) ?_
    refine i_iload_n C dX5_ship_90 rfl (lv_at hl 2 rfl) ?_
    obtain ⟨x8, e8, h⟩ := w_bdr h
    refine x_callVi C hX (fg_37_0 G) (c_X5_shipIs (gl Γ) G  e8) [] rfl hl tw4_223 tw4_225 ts2_6 tw1_7 tw4_226 rfl nd_X5_shipIs ⟨(Nat.le_of_ble_eq_true rfl), (Nat.le_of_ble_eq_true rfl)⟩ (Nat.le_of_ble_eq_true rfl) dX5_ship_91 (fun H locs hX => ?_)
    exact x_iretW C hX hr hQ h dX5_ship_94
  refine i_aload_n C dX5_ship_17 rfl (lv_at hl 0 rfl) ?_
  refine i_ldc C tw4_172 dX5_ship_18 ?_
  obtain ⟨x9, m2, e9, h⟩ := w_bdw h
  refine x_callVi C hX (fg_37_0 G) (c_X5_finding (gl Γ) G  e9) [] rfl hl tw4_173 tw4_175 ts1_15 tw1_7 tw4_176 rfl nd_X5_finding ⟨(Nat.le_of_ble_eq_true rfl), (Nat.le_of_ble_eq_true rfl)⟩ (Nat.le_of_ble_eq_true rfl) dX5_ship_20 (fun H locs hX => ?_)
  exact x_iretW C hX hr hQ h dX5_ship_23
def f_X5_steer (p1 : Int32) (p2 : Int32) (p3 : Int32) (μ : MM) : Option (Int32 × MM) := jn1 (fun (x1 : Int32) => bdr (f_X5_isShip p1) fun x2 => if x2 = 0 then (bdw (f_X5_finding (-1000001) μ) fun x3 m1 => some (x3, m1)) else (if x1 = 0 then (bdw (f_X5_finding (-1000001) μ) fun x4 m2 => some (x4, m2)) else (bdr (f_X5_atShip p1 p2) fun x5 => bdw (f_X5_become x5 p3 μ) fun x6 m3 => some (x6, m3)))) fun k1 => jn0 (k1 1) fun k2 => jn0 (jn0 (jn0 (k1 0) fun k3 => if p2 = 2 then (bdr (f_X5_areCats p3 μ) fun x7 => if x7 = 0 then (k3) else (k2)) else (k3)) fun k4 => if p2 = 1 then (bdr (f_X5_within p3 0 31) fun x8 => if x8 = 0 then (k4) else (k2)) else (k4)) fun k5 => if p2 = 0 then (bdr (f_X5_isCell p3) fun x9 => if x9 = 0 then (k5) else (k2)) else (k5)
theorem nd_X5_steer : yX5_steer.cls ≠ "java/lang/invoke/MethodHandle" ∧ yX5_steer.cls ≠ "java/lang/invoke/VarHandle" ∧ (parseMethodDescriptor yX5_steer.desc).map (fun d => d.parameters.length) = some 3 := by decide +kernel
set_option maxHeartbeats 4000000 in
set_option maxRecDepth 100000 in
theorem c_X5_steer (l : Launch) (G : EN)  {p1 p2 p3 : Int32} {μ : MM} {r : Int32} {m : MM} (h : f_X5_steer p1 p2 p3 μ = some (r, m)) : XM l G yX5_steer cX5_steer 5 (some .int) 2 43 [.ref (G.2.1 37), .int p1, .int p2, .int p3] μ (some (.int r)) m := by
  refine x_met (own := RX5) (by decide +kernel) rfl (Nat.le_of_ble_eq_true rfl) (fun Γ A H ls hg C hr hX hQ hl => ?_)
  have hl : lv_has ls 5 [(0, .ref (G.2.1 37)), (1, .int p1), (2, .int p2), (3, .int p3)] := hl
  unfold f_X5_steer at h
  refine i_iload_n C dX5_steer_0 rfl (lv_at hl 2 rfl) ?_
  refine w_jn1 (fun (x1 : Int32) => ∀ (H : Heap) (locs : List Loc) (ls : Array Slot), lv_has ls 5 [(0, .ref (G.2.1 37)), (1, .int p1), (2, .int p2), (3, .int p3)] → XW G A (gs Γ) H locs μ → WX Γ H locs 44 ls [.int x1]) h (fun x1 h H locs ls hl hX => ?_) (fun k1 J1 h => ?_)
  · refine i_istore C [(4, .int x1), (0, .ref (G.2.1 37)), (1, .int p1), (2, .int p2), (3, .int p3)] dX5_steer_44 hl (by decide) rfl (fun ls hl => ?_)
    refine i_iload_n C dX5_steer_46 rfl (lv_at hl 2 rfl) ?_
    obtain ⟨x2, e1, h⟩ := w_bdr h
    refine x_callSi C hX (c_X5_isShip (gl Γ) G  e1) [] rfl hl tw4_216 tw4_217 tw1_7 tw4_218 nd_X5_isShip ⟨(Nat.le_of_ble_eq_true rfl), (Nat.le_of_ble_eq_true rfl)⟩ (Nat.le_of_ble_eq_true rfl) dX5_steer_47 (fun H locs hX => ?_)
    refine i_if_eq (tgt := 71) C h dX5_steer_50 (by decide) (fun _ h => ?_) (fun _ h => ?_)
    · refine i_aload_n C dX5_steer_71 rfl (lv_at hl 1 rfl) ?_
      refine i_ldc C tw4_172 dX5_steer_72 ?_
      obtain ⟨x3, m1, e2, h⟩ := w_bdw h
      refine x_callVi C hX (fg_37_0 G) (c_X5_finding (gl Γ) G  e2) [] rfl hl tw4_173 tw4_175 ts1_15 tw1_7 tw4_176 rfl nd_X5_finding ⟨(Nat.le_of_ble_eq_true rfl), (Nat.le_of_ble_eq_true rfl)⟩ (Nat.le_of_ble_eq_true rfl) dX5_steer_74 (fun H locs hX => ?_)
      exact x_iretW C hX hr hQ h dX5_steer_77
    refine i_iload C dX5_steer_53 (lv_at hl 0 rfl) ?_
    refine i_if_eq (tgt := 71) C h dX5_steer_55 (by decide) (fun _ h => ?_) (fun _ h => ?_)
    · refine i_aload_n C dX5_steer_71 rfl (lv_at hl 1 rfl) ?_
      refine i_ldc C tw4_172 dX5_steer_72 ?_
      obtain ⟨x4, m2, e3, h⟩ := w_bdw h
      refine x_callVi C hX (fg_37_0 G) (c_X5_finding (gl Γ) G  e3) [] rfl hl tw4_173 tw4_175 ts1_15 tw1_7 tw4_176 rfl nd_X5_finding ⟨(Nat.le_of_ble_eq_true rfl), (Nat.le_of_ble_eq_true rfl)⟩ (Nat.le_of_ble_eq_true rfl) dX5_steer_74 (fun H locs hX => ?_)
      exact x_iretW C hX hr hQ h dX5_steer_77
    refine i_aload_n C dX5_steer_58 rfl (lv_at hl 1 rfl) ?_
    refine i_iload_n C dX5_steer_59 rfl (lv_at hl 2 rfl) ?_
    refine i_iload_n C dX5_steer_60 rfl (lv_at hl 3 rfl) ?_
    obtain ⟨x5, e4, h⟩ := w_bdr h
    refine x_callSi C hX (c_X5_atShip (gl Γ) G  e4) [.ref (G.2.1 37)] rfl hl tw4_227 tw4_228 tw1_7 tw4_229 nd_X5_atShip ⟨(Nat.le_of_ble_eq_true rfl), (Nat.le_of_ble_eq_true rfl)⟩ (Nat.le_of_ble_eq_true rfl) dX5_steer_61 (fun H locs hX => ?_)
    refine i_iload_n C dX5_steer_64 rfl (lv_at hl 4 rfl) ?_
    obtain ⟨x6, m3, e5, h⟩ := w_bdw h
    refine x_callVi C hX (fg_37_0 G) (c_X5_become (gl Γ) G  e5) [] rfl hl tw4_208 tw4_210 ts2_4 tw1_7 tw4_211 rfl nd_X5_become ⟨(Nat.le_of_ble_eq_true rfl), (Nat.le_of_ble_eq_true rfl)⟩ (Nat.le_of_ble_eq_true rfl) dX5_steer_65 (fun H locs hX => ?_)
    refine i_goto (tgt := 77) C dX5_steer_68 (by decide) ?_
    exact x_iretW C hX hr hQ h dX5_steer_77
  refine w_jn0 (∀ (H : Heap) (locs : List Loc) (ls : Array Slot), lv_has ls 5 [(0, .ref (G.2.1 37)), (1, .int p1), (2, .int p2), (3, .int p3)] → XW G A (gs Γ) H locs μ → WX Γ H locs 39 ls []) h (fun  h H locs ls hl hX => ?_) (fun k2 J2 h => ?_)
  · refine i_iconst (v := 1) C dX5_steer_39 rfl ?_
    refine i_goto (tgt := 44) C dX5_steer_40 (by decide) ?_
    exact J1 _ h _ _ _ (lv_sub hl [0, 1, 2, 3] rfl) hX
  refine w_jn0 (∀ (H : Heap) (locs : List Loc) (ls : Array Slot), lv_has ls 5 [(0, .ref (G.2.1 37)), (1, .int p1), (2, .int p2), (3, .int p3)] → XW G A (gs Γ) H locs μ → WX Γ H locs 11 ls []) h (fun  h H locs ls hl hX => ?_) (fun k5 J5 h => ?_)
  · refine i_iload_n C dX5_steer_11 rfl (lv_at hl 2 rfl) ?_
    refine i_iconst (v := 1) C dX5_steer_12 rfl ?_
    refine w_jn0 (∀ (H : Heap) (locs : List Loc) (ls : Array Slot), lv_has ls 5 [(0, .ref (G.2.1 37)), (1, .int p1), (2, .int p2), (3, .int p3)] → XW G A (gs Γ) H locs μ → WX Γ H locs 26 ls []) h (fun  h H locs ls hl hX => ?_) (fun k4 J4 h => ?_)
    · refine i_iload_n C dX5_steer_26 rfl (lv_at hl 2 rfl) ?_
      refine i_iconst (v := 2) C dX5_steer_27 rfl ?_
      refine w_jn0 (∀ (H : Heap) (locs : List Loc) (ls : Array Slot), lv_has ls 5 [(0, .ref (G.2.1 37)), (1, .int p1), (2, .int p2), (3, .int p3)] → XW G A (gs Γ) H locs μ → WX Γ H locs 43 ls []) h (fun  h H locs ls hl hX => ?_) (fun k3 J3 h => ?_)
      · refine i_iconst (v := 0) C dX5_steer_43 rfl ?_
        exact J1 _ h _ _ _ (lv_sub hl [0, 1, 2, 3] rfl) hX
      refine i_icmp_ne (tgt := 43) C h dX5_steer_28 (by decide) (fun _ h => ?_) (fun _ h => ?_)
      · exact J3 h _ _ _ (lv_sub hl [0, 1, 2, 3] rfl) hX
      refine i_aload_n C dX5_steer_31 rfl (lv_at hl 0 rfl) ?_
      refine i_iload_n C dX5_steer_32 rfl (lv_at hl 3 rfl) ?_
      obtain ⟨x7, e6, h⟩ := w_bdr h
      refine x_callVi C hX (fg_37_0 G) (c_X5_areCats (gl Γ) G  e6) [] rfl hl tw5_24 tw5_26 ts2_13 tw1_7 tw5_27 rfl nd_X5_areCats ⟨(Nat.le_of_ble_eq_true rfl), (Nat.le_of_ble_eq_true rfl)⟩ (Nat.le_of_ble_eq_true rfl) dX5_steer_33 (fun H locs hX => ?_)
      refine i_if_eq (tgt := 43) C h dX5_steer_36 (by decide) (fun _ h => ?_) (fun _ h => ?_)
      · exact J3 h _ _ _ (lv_sub hl [0, 1, 2, 3] rfl) hX
      exact J2 h _ _ _ (lv_sub hl [0, 1, 2, 3] rfl) hX
    refine i_icmp_ne (tgt := 26) C h dX5_steer_13 (by decide) (fun _ h => ?_) (fun _ h => ?_)
    · exact J4 h _ _ _ (lv_sub hl [0, 1, 2, 3] rfl) hX
    refine i_iload_n C dX5_steer_16 rfl (lv_at hl 3 rfl) ?_
    refine i_iconst (v := 0) C dX5_steer_17 rfl ?_
    refine i_bipush (v := 31) C dX5_steer_18 rfl ?_
    obtain ⟨x8, e7, h⟩ := w_bdr h
    refine x_callSi C hX (c_X5_within (gl Γ) G  e7) [] rfl hl tw4_169 tw4_170 tw1_7 tw4_171 nd_X5_within ⟨(Nat.le_of_ble_eq_true rfl), (Nat.le_of_ble_eq_true rfl)⟩ (Nat.le_of_ble_eq_true rfl) dX5_steer_20 (fun H locs hX => ?_)
    refine i_if_ne (tgt := 39) C h dX5_steer_23 (by decide) (fun _ h => ?_) (fun _ h => ?_)
    · exact J2 h _ _ _ (lv_sub hl [0, 1, 2, 3] rfl) hX
    exact J4 h _ _ _ (lv_sub hl [0, 1, 2, 3] rfl) hX
  refine i_if_ne (tgt := 11) C h dX5_steer_1 (by decide) (fun _ h => ?_) (fun _ h => ?_)
  · exact J5 h _ _ _ (lv_sub hl [0, 1, 2, 3] rfl) hX
  refine i_iload_n C dX5_steer_4 rfl (lv_at hl 3 rfl) ?_
  obtain ⟨x9, e8, h⟩ := w_bdr h
  refine x_callSi C hX (c_X5_isCell (gl Γ) G  e8) [] rfl hl tw5_21 tw5_22 tw1_7 tw5_23 nd_X5_isCell ⟨(Nat.le_of_ble_eq_true rfl), (Nat.le_of_ble_eq_true rfl)⟩ (Nat.le_of_ble_eq_true rfl) dX5_steer_5 (fun H locs hX => ?_)
  refine i_if_ne (tgt := 39) C h dX5_steer_8 (by decide) (fun _ h => ?_) (fun _ h => ?_)
  · exact J2 h _ _ _ (lv_sub hl [0, 1, 2, 3] rfl) hX
  exact J5 h _ _ _ (lv_sub hl [0, 1, 2, 3] rfl) hX
def f_X5_island (p1 : Int32) (p2 : Int32) (μ : MM) : Option (Int32 × MM) := bdr (f_X5_isCell p1) fun x1 => if x1 = 0 then (bdw (f_X5_finding (-1000001) μ) fun x2 m1 => some (x2, m1)) else (bdr (f_X5_within p2 0 1) fun x3 => if x3 = 0 then (bdw (f_X5_finding (-1000001) μ) fun x5 m3 => some (x5, m3)) else (bdw (f_X5_become (16 + p1) p2 μ) fun x4 m2 => if x4 = p2 then (some (0, m2)) else (some (1, m2))))
theorem nd_X5_island : yX5_island.cls ≠ "java/lang/invoke/MethodHandle" ∧ yX5_island.cls ≠ "java/lang/invoke/VarHandle" ∧ (parseMethodDescriptor yX5_island.desc).map (fun d => d.parameters.length) = some 2 := by decide +kernel
set_option maxHeartbeats 4000000 in
set_option maxRecDepth 100000 in
theorem c_X5_island (l : Launch) (G : EN)  {p1 p2 : Int32} {μ : MM} {r : Int32} {m : MM} (h : f_X5_island p1 p2 μ = some (r, m)) : XM l G yX5_island cX5_island 3 (some .int) 2 42 [.ref (G.2.1 37), .int p1, .int p2] μ (some (.int r)) m := by
  refine x_met (own := RX5) (by decide +kernel) rfl (Nat.le_of_ble_eq_true rfl) (fun Γ A H ls hg C hr hX hQ hl => ?_)
  have hl : lv_has ls 3 [(0, .ref (G.2.1 37)), (1, .int p1), (2, .int p2)] := hl
  unfold f_X5_island at h
  refine i_iload_n C dX5_island_0 rfl (lv_at hl 1 rfl) ?_
  obtain ⟨x1, e1, h⟩ := w_bdr h
  refine x_callSi C hX (c_X5_isCell (gl Γ) G  e1) [] rfl hl tw5_21 tw5_22 tw1_7 tw5_23 nd_X5_isCell ⟨(Nat.le_of_ble_eq_true rfl), (Nat.le_of_ble_eq_true rfl)⟩ (Nat.le_of_ble_eq_true rfl) dX5_island_1 (fun H locs hX => ?_)
  refine i_if_eq (tgt := 16) C h dX5_island_4 (by decide) (fun _ h => ?_) (fun _ h => ?_)
  · refine i_aload_n C dX5_island_16 rfl (lv_at hl 0 rfl) ?_
    refine i_ldc C tw4_172 dX5_island_17 ?_
    obtain ⟨x2, m1, e2, h⟩ := w_bdw h
    refine x_callVi C hX (fg_37_0 G) (c_X5_finding (gl Γ) G  e2) [] rfl hl tw4_173 tw4_175 ts1_15 tw1_7 tw4_176 rfl nd_X5_finding ⟨(Nat.le_of_ble_eq_true rfl), (Nat.le_of_ble_eq_true rfl)⟩ (Nat.le_of_ble_eq_true rfl) dX5_island_19 (fun H locs hX => ?_)
    exact x_iretW C hX hr hQ h dX5_island_22
  refine i_iload_n C dX5_island_7 rfl (lv_at hl 2 rfl) ?_
  refine i_iconst (v := 0) C dX5_island_8 rfl ?_
  refine i_iconst (v := 1) C dX5_island_9 rfl ?_
  obtain ⟨x3, e3, h⟩ := w_bdr h
  refine x_callSi C hX (c_X5_within (gl Γ) G  e3) [] rfl hl tw4_169 tw4_170 tw1_7 tw4_171 nd_X5_within ⟨(Nat.le_of_ble_eq_true rfl), (Nat.le_of_ble_eq_true rfl)⟩ (Nat.le_of_ble_eq_true rfl) dX5_island_10 (fun H locs hX => ?_)
  refine i_if_ne (tgt := 23) C h dX5_island_13 (by decide) (fun _ h => ?_) (fun _ h => ?_)
  · refine i_aload_n C dX5_island_23 rfl (lv_at hl 0 rfl) ?_
    refine i_bipush (v := 16) C dX5_island_24 rfl ?_
    refine i_iload_n C dX5_island_26 rfl (lv_at hl 1 rfl) ?_
    refine i_iadd C dX5_island_27 ?_
    refine i_iload_n C dX5_island_28 rfl (lv_at hl 2 rfl) ?_
    obtain ⟨x4, m2, e4, h⟩ := w_bdw h
    refine x_callVi C hX (fg_37_0 G) (c_X5_become (gl Γ) G  e4) [] rfl hl tw4_208 tw4_210 ts2_4 tw1_7 tw4_211 rfl nd_X5_become ⟨(Nat.le_of_ble_eq_true rfl), (Nat.le_of_ble_eq_true rfl)⟩ (Nat.le_of_ble_eq_true rfl) dX5_island_29 (fun H locs hX => ?_)
    refine i_iload_n C dX5_island_32 rfl (lv_at hl 2 rfl) ?_
    refine i_icmp_ne (tgt := 40) C h dX5_island_33 (by decide) (fun _ h => ?_) (fun _ h => ?_)
    · refine i_iconst (v := 1) C dX5_island_40 rfl ?_
      exact x_iretW C hX hr hQ h dX5_island_41
    refine i_iconst (v := 0) C dX5_island_36 rfl ?_
    refine i_goto (tgt := 41) C dX5_island_37 (by decide) ?_
    exact x_iretW C hX hr hQ h dX5_island_41
  refine i_aload_n C dX5_island_16 rfl (lv_at hl 0 rfl) ?_
  refine i_ldc C tw4_172 dX5_island_17 ?_
  obtain ⟨x5, m3, e5, h⟩ := w_bdw h
  refine x_callVi C hX (fg_37_0 G) (c_X5_finding (gl Γ) G  e5) [] rfl hl tw4_173 tw4_175 ts1_15 tw1_7 tw4_176 rfl nd_X5_finding ⟨(Nat.le_of_ble_eq_true rfl), (Nat.le_of_ble_eq_true rfl)⟩ (Nat.le_of_ble_eq_true rfl) dX5_island_19 (fun H locs hX => ?_)
  exact x_iretW C hX hr hQ h dX5_island_22
def f_X5_wind (p1 : Int32) (μ : MM) : Option (Int32 × MM) := bdr (f_X5_within p1 0 7) fun x1 => if x1 = 0 then (bdw (f_X5_finding (-1000001) μ) fun x2 m1 => some (x2, m1)) else (bdw (f_X5_become 2 p1 μ) fun x3 m2 => some (x3, m2))
theorem nd_X5_wind : yX5_wind.cls ≠ "java/lang/invoke/MethodHandle" ∧ yX5_wind.cls ≠ "java/lang/invoke/VarHandle" ∧ (parseMethodDescriptor yX5_wind.desc).map (fun d => d.parameters.length) = some 1 := by decide +kernel
set_option maxHeartbeats 4000000 in
set_option maxRecDepth 100000 in
theorem c_X5_wind (l : Launch) (G : EN)  {p1 : Int32} {μ : MM} {r : Int32} {m : MM} (h : f_X5_wind p1 μ = some (r, m)) : XM l G yX5_wind cX5_wind 2 (some .int) 1 23 [.ref (G.2.1 37), .int p1] μ (some (.int r)) m := by
  refine x_met (own := RX5) (by decide +kernel) rfl (Nat.le_of_ble_eq_true rfl) (fun Γ A H ls hg C hr hX hQ hl => ?_)
  have hl : lv_has ls 2 [(0, .ref (G.2.1 37)), (1, .int p1)] := hl
  unfold f_X5_wind at h
  refine i_iload_n C dX5_wind_0 rfl (lv_at hl 1 rfl) ?_
  refine i_iconst (v := 0) C dX5_wind_1 rfl ?_
  refine i_bipush (v := 7) C dX5_wind_2 rfl ?_
  obtain ⟨x1, e1, h⟩ := w_bdr h
  refine x_callSi C hX (c_X5_within (gl Γ) G  e1) [] rfl hl tw4_169 tw4_170 tw1_7 tw4_171 nd_X5_within ⟨(Nat.le_of_ble_eq_true rfl), (Nat.le_of_ble_eq_true rfl)⟩ (Nat.le_of_ble_eq_true rfl) dX5_wind_4 (fun H locs hX => ?_)
  refine i_if_eq (tgt := 19) C h dX5_wind_7 (by decide) (fun _ h => ?_) (fun _ h => ?_)
  · refine i_aload_n C dX5_wind_19 rfl (lv_at hl 0 rfl) ?_
    refine i_ldc C tw4_172 dX5_wind_20 ?_
    obtain ⟨x2, m1, e2, h⟩ := w_bdw h
    refine x_callVi C hX (fg_37_0 G) (c_X5_finding (gl Γ) G  e2) [] rfl hl tw4_173 tw4_175 ts1_15 tw1_7 tw4_176 rfl nd_X5_finding ⟨(Nat.le_of_ble_eq_true rfl), (Nat.le_of_ble_eq_true rfl)⟩ (Nat.le_of_ble_eq_true rfl) dX5_wind_22 (fun H locs hX => ?_)
    exact x_iretW C hX hr hQ h dX5_wind_25
  refine i_aload_n C dX5_wind_10 rfl (lv_at hl 0 rfl) ?_
  refine i_iconst (v := 2) C dX5_wind_11 rfl ?_
  refine i_iload_n C dX5_wind_12 rfl (lv_at hl 1 rfl) ?_
  obtain ⟨x3, m2, e3, h⟩ := w_bdw h
  refine x_callVi C hX (fg_37_0 G) (c_X5_become (gl Γ) G  e3) [] rfl hl tw4_208 tw4_210 ts2_4 tw1_7 tw4_211 rfl nd_X5_become ⟨(Nat.le_of_ble_eq_true rfl), (Nat.le_of_ble_eq_true rfl)⟩ (Nat.le_of_ble_eq_true rfl) dX5_wind_13 (fun H locs hX => ?_)
  refine i_goto (tgt := 25) C dX5_wind_16 (by decide) ?_
  exact x_iretW C hX hr hQ h dX5_wind_25
def f_X5_fish (p1 : Int32) (μ : MM) : Option (Int32 × MM) := bdr (f_X5_within p1 0 65535) fun x1 => if x1 = 0 then (bdw (f_X5_finding (-1000001) μ) fun x2 m1 => some (x2, m1)) else (bdw (f_X5_become 3 p1 μ) fun x3 m2 => some (x3, m2))
theorem nd_X5_fish : yX5_fish.cls ≠ "java/lang/invoke/MethodHandle" ∧ yX5_fish.cls ≠ "java/lang/invoke/VarHandle" ∧ (parseMethodDescriptor yX5_fish.desc).map (fun d => d.parameters.length) = some 1 := by decide +kernel
set_option maxHeartbeats 4000000 in
set_option maxRecDepth 100000 in
theorem c_X5_fish (l : Launch) (G : EN)  {p1 : Int32} {μ : MM} {r : Int32} {m : MM} (h : f_X5_fish p1 μ = some (r, m)) : XM l G yX5_fish cX5_fish 2 (some .int) 1 23 [.ref (G.2.1 37), .int p1] μ (some (.int r)) m := by
  refine x_met (own := RX5) (by decide +kernel) rfl (Nat.le_of_ble_eq_true rfl) (fun Γ A H ls hg C hr hX hQ hl => ?_)
  have hl : lv_has ls 2 [(0, .ref (G.2.1 37)), (1, .int p1)] := hl
  unfold f_X5_fish at h
  refine i_iload_n C dX5_fish_0 rfl (lv_at hl 1 rfl) ?_
  refine i_iconst (v := 0) C dX5_fish_1 rfl ?_
  refine i_ldc C tw5_40 dX5_fish_2 ?_
  obtain ⟨x1, e1, h⟩ := w_bdr h
  refine x_callSi C hX (c_X5_within (gl Γ) G  e1) [] rfl hl tw4_169 tw4_170 tw1_7 tw4_171 nd_X5_within ⟨(Nat.le_of_ble_eq_true rfl), (Nat.le_of_ble_eq_true rfl)⟩ (Nat.le_of_ble_eq_true rfl) dX5_fish_4 (fun H locs hX => ?_)
  refine i_if_eq (tgt := 19) C h dX5_fish_7 (by decide) (fun _ h => ?_) (fun _ h => ?_)
  · refine i_aload_n C dX5_fish_19 rfl (lv_at hl 0 rfl) ?_
    refine i_ldc C tw4_172 dX5_fish_20 ?_
    obtain ⟨x2, m1, e2, h⟩ := w_bdw h
    refine x_callVi C hX (fg_37_0 G) (c_X5_finding (gl Γ) G  e2) [] rfl hl tw4_173 tw4_175 ts1_15 tw1_7 tw4_176 rfl nd_X5_finding ⟨(Nat.le_of_ble_eq_true rfl), (Nat.le_of_ble_eq_true rfl)⟩ (Nat.le_of_ble_eq_true rfl) dX5_fish_22 (fun H locs hX => ?_)
    exact x_iretW C hX hr hQ h dX5_fish_25
  refine i_aload_n C dX5_fish_10 rfl (lv_at hl 0 rfl) ?_
  refine i_iconst (v := 3) C dX5_fish_11 rfl ?_
  refine i_iload_n C dX5_fish_12 rfl (lv_at hl 1 rfl) ?_
  obtain ⟨x3, m2, e3, h⟩ := w_bdw h
  refine x_callVi C hX (fg_37_0 G) (c_X5_become (gl Γ) G  e3) [] rfl hl tw4_208 tw4_210 ts2_4 tw1_7 tw4_211 rfl nd_X5_become ⟨(Nat.le_of_ble_eq_true rfl), (Nat.le_of_ble_eq_true rfl)⟩ (Nat.le_of_ble_eq_true rfl) dX5_fish_13 (fun H locs hX => ?_)
  refine i_goto (tgt := 25) C dX5_fish_16 (by decide) ?_
  exact x_iretW C hX hr hQ h dX5_fish_25
def f_X5_store (p1 : Int32) (μ : MM) : Option (Int32 × MM) := bdr (f_X5_within p1 0 9999) fun x1 => if x1 = 0 then (bdw (f_X5_finding (-1000001) μ) fun x2 m1 => some (x2, m1)) else (bdw (f_X5_become 1 p1 μ) fun x3 m2 => some (x3, m2))
theorem nd_X5_store : yX5_store.cls ≠ "java/lang/invoke/MethodHandle" ∧ yX5_store.cls ≠ "java/lang/invoke/VarHandle" ∧ (parseMethodDescriptor yX5_store.desc).map (fun d => d.parameters.length) = some 1 := by decide +kernel
set_option maxHeartbeats 4000000 in
set_option maxRecDepth 100000 in
theorem c_X5_store (l : Launch) (G : EN)  {p1 : Int32} {μ : MM} {r : Int32} {m : MM} (h : f_X5_store p1 μ = some (r, m)) : XM l G yX5_store cX5_store 2 (some .int) 1 23 [.ref (G.2.1 37), .int p1] μ (some (.int r)) m := by
  refine x_met (own := RX5) (by decide +kernel) rfl (Nat.le_of_ble_eq_true rfl) (fun Γ A H ls hg C hr hX hQ hl => ?_)
  have hl : lv_has ls 2 [(0, .ref (G.2.1 37)), (1, .int p1)] := hl
  unfold f_X5_store at h
  refine i_iload_n C dX5_store_0 rfl (lv_at hl 1 rfl) ?_
  refine i_iconst (v := 0) C dX5_store_1 rfl ?_
  refine i_sipush (v := 9999) C dX5_store_2 rfl ?_
  obtain ⟨x1, e1, h⟩ := w_bdr h
  refine x_callSi C hX (c_X5_within (gl Γ) G  e1) [] rfl hl tw4_169 tw4_170 tw1_7 tw4_171 nd_X5_within ⟨(Nat.le_of_ble_eq_true rfl), (Nat.le_of_ble_eq_true rfl)⟩ (Nat.le_of_ble_eq_true rfl) dX5_store_5 (fun H locs hX => ?_)
  refine i_if_eq (tgt := 20) C h dX5_store_8 (by decide) (fun _ h => ?_) (fun _ h => ?_)
  · refine i_aload_n C dX5_store_20 rfl (lv_at hl 0 rfl) ?_
    refine i_ldc C tw4_172 dX5_store_21 ?_
    obtain ⟨x2, m1, e2, h⟩ := w_bdw h
    refine x_callVi C hX (fg_37_0 G) (c_X5_finding (gl Γ) G  e2) [] rfl hl tw4_173 tw4_175 ts1_15 tw1_7 tw4_176 rfl nd_X5_finding ⟨(Nat.le_of_ble_eq_true rfl), (Nat.le_of_ble_eq_true rfl)⟩ (Nat.le_of_ble_eq_true rfl) dX5_store_23 (fun H locs hX => ?_)
    exact x_iretW C hX hr hQ h dX5_store_26
  refine i_aload_n C dX5_store_11 rfl (lv_at hl 0 rfl) ?_
  refine i_iconst (v := 1) C dX5_store_12 rfl ?_
  refine i_iload_n C dX5_store_13 rfl (lv_at hl 1 rfl) ?_
  obtain ⟨x3, m2, e3, h⟩ := w_bdw h
  refine x_callVi C hX (fg_37_0 G) (c_X5_become (gl Γ) G  e3) [] rfl hl tw4_208 tw4_210 ts2_4 tw1_7 tw4_211 rfl nd_X5_become ⟨(Nat.le_of_ble_eq_true rfl), (Nat.le_of_ble_eq_true rfl)⟩ (Nat.le_of_ble_eq_true rfl) dX5_store_14 (fun H locs hX => ?_)
  refine i_goto (tgt := 26) C dX5_store_17 (by decide) ?_
  exact x_iretW C hX hr hQ h dX5_store_26
def L_X5_landed_4 (μ : MM) : Nat → Int32 → Int32 → Option Int32
  | 0, _, _ => none
  | fu + 1, x1, x2 => if 4 ≤ x2 then (some x1) else (bdr (f_X5_isLanded x2 μ) fun x3 => jn1 (fun (x4 : Int32) => lt_ ((x1 ||| x4)) fun x5 => lt_ (x2 + 1) fun x6 => L_X5_landed_4 μ fu x5 x6) fun k1 => if x3 = 0 then (k1 0) else (k1 (sl 1 x2)))
def f_X5_landed (μ : MM) : Option Int32 := L_X5_landed_4 μ FU 0 0
theorem nd_X5_landed : yX5_landed.cls ≠ "java/lang/invoke/MethodHandle" ∧ yX5_landed.cls ≠ "java/lang/invoke/VarHandle" ∧ (parseMethodDescriptor yX5_landed.desc).map (fun d => d.parameters.length) = some 0 := by decide +kernel
set_option maxHeartbeats 4000000 in
set_option maxRecDepth 100000 in
theorem c_X5_landed (l : Launch) (G : EN)  {μ : MM} {r : Int32} (h : f_X5_landed μ = some r) : XM l G yX5_landed cX5_landed 3 (some .int) 3 64 [.ref (G.2.1 37)] μ (some (.int r)) μ := by
  refine x_met (own := RX5) (by decide +kernel) rfl (Nat.le_of_ble_eq_true rfl) (fun Γ A H ls hg C hr hX hQ hl => ?_)
  have hl : lv_has ls 3 [(0, .ref (G.2.1 37))] := hl
  unfold f_X5_landed at h
  refine i_iconst (v := 0) C dX5_landed_0 rfl ?_
  refine i_istore_n C [(1, .int 0), (0, .ref (G.2.1 37))] dX5_landed_1 rfl hl (by decide) rfl (fun ls hl => ?_)
  refine i_iconst (v := 0) C dX5_landed_2 rfl ?_
  refine i_istore_n C [(2, .int 0), (1, .int 0), (0, .ref (G.2.1 37))] dX5_landed_3 rfl hl (by decide) rfl (fun ls hl => ?_)
  have L1 : ∀ (fu : Nat) (x1 : Int32) (x2 : Int32) (H : Heap) (locs : List Loc) (ls : Array Slot), L_X5_landed_4 μ fu x1 x2 = some r → lv_has ls 3 [(0, .ref (G.2.1 37)), (1, .int x1), (2, .int x2)] → XW G A (gs Γ) H locs μ → WX Γ H locs 4 ls [] := by
    intro fu
    induction fu with
    | zero =>
      intro x1 x2 H locs ls h
      rw [L_X5_landed_4] at h
      cases h
    | succ fu ih =>
      intro x1 x2 H locs ls h hl hX
      rw [L_X5_landed_4] at h
      refine i_iload_n C dX5_landed_4 rfl (lv_at hl 2 rfl) ?_
      refine i_iconst (v := 4) C dX5_landed_5 rfl ?_
      refine i_icmp_ge (tgt := 33) C h dX5_landed_6 (by decide) (fun _ h => ?_) (fun _ h => ?_)
      · refine i_iload_n C dX5_landed_33 rfl (lv_at hl 1 rfl) ?_
        exact x_iretR C hX hr hQ h dX5_landed_34
      refine i_iload_n C dX5_landed_9 rfl (lv_at hl 1 rfl) ?_
      refine i_aload_n C dX5_landed_10 rfl (lv_at hl 0 rfl) ?_
      refine i_iload_n C dX5_landed_11 rfl (lv_at hl 2 rfl) ?_
      obtain ⟨x3, e1, h⟩ := w_bdr h
      refine x_callVi C hX (fg_37_0 G) (c_X5_isLanded (gl Γ) G  e1) [.int x1] rfl hl tw5_5 tw5_7 ts2_10 tw1_7 tw5_8 rfl nd_X5_isLanded ⟨(Nat.le_of_ble_eq_true rfl), (Nat.le_of_ble_eq_true rfl)⟩ (Nat.le_of_ble_eq_true rfl) dX5_landed_12 (fun H locs hX => ?_)
      refine w_jn1 (fun (x4 : Int32) => ∀ (H : Heap) (locs : List Loc) (ls : Array Slot), lv_has ls 3 [(0, .ref (G.2.1 37)), (2, .int x2)] → XW G A (gs Γ) H locs μ → WX Γ H locs 25 ls [.int x4, .int x1]) h (fun x4 h H locs ls hl hX => ?_) (fun k1 J1 h => ?_)
      · refine i_ior C dX5_landed_25 ?_
        refine i_istoreL_n C (fun x5 => [(1, .int x5), (0, .ref (G.2.1 37)), (2, .int x2)]) h dX5_landed_26 rfl hl (by decide) (fun _ => rfl) (fun x5 ls h hl => ?_)
        refine i_iinc C (j := 2) (fun x6 => [(2, .int x6), (1, .int x5), (0, .ref (G.2.1 37))]) h dX5_landed_27 hl rfl rfl (by decide) (fun _ => rfl) (fun x6 ls h hl => ?_)
        refine i_goto (tgt := 4) C dX5_landed_30 (by decide) ?_
        exact ih _ _ _ _ _ h (lv_sub hl [2, 1, 0] rfl) hX
      refine i_if_eq (tgt := 24) C h dX5_landed_15 (by decide) (fun _ h => ?_) (fun _ h => ?_)
      · refine i_iconst (v := 0) C dX5_landed_24 rfl ?_
        exact J1 _ h _ _ _ (lv_sub hl [0, 2] rfl) hX
      refine i_iconst (v := 1) C dX5_landed_18 rfl ?_
      refine i_iload_n C dX5_landed_19 rfl (lv_at hl 2 rfl) ?_
      refine i_ishl C dX5_landed_20 ?_
      refine i_goto (tgt := 25) C dX5_landed_21 (by decide) ?_
      exact J1 _ h _ _ _ (lv_sub hl [0, 2] rfl) hX
  exact L1 FU _ _ _ _ _ h (lv_sub hl [2, 1, 0] rfl) hX
def L_X5_watch_30 (k1 : MM → Option MM) : Nat → Int32 → MM → Option MM
  | 0, _, _ => none
  | fu + 1, x2, m4 => ldi m4 38 152 4 fun x3 => if x3 ≤ x2 then (k1 m4) else (bdr (f_X5_at x2 1) fun x4 => bdr (f_X5_catIs x2 1 m4) fun x5 => sti m4 38 152 x4 (imin 99 (x5 + 1)) fun m5 => lt_ (x2 + 1) fun x6 => L_X5_watch_30 k1 fu x6 m5)
def L_X5_watch_2 (k2 : MM → Option MM) : Nat → Int32 → MM → Option MM
  | 0, _, _ => none
  | fu + 1, x7, m6 => if 4 ≤ x7 then (k2 m6) else (bdr (f_X5_atShip x7 0) fun x8 => bdr (f_X5_goesTo x7 m6) fun x9 => sti m6 38 152 x8 x9 fun m7 => lt_ (x7 + 1) fun x10 => L_X5_watch_2 k2 fu x10 m7)
def f_X5_watch (μ : MM) : Option MM := jn1 (fun (m1 : MM) => jn1 (fun (m2 : MM) => ldi m2 38 152 0 fun x1 => sti m2 38 152 0 (x1 + 1) fun m3 => some m3) fun k1 => L_X5_watch_30 k1 FU 0 m1) fun k2 => L_X5_watch_2 k2 FU 0 μ
theorem nd_X5_watch : yX5_watch.cls ≠ "java/lang/invoke/MethodHandle" ∧ yX5_watch.cls ≠ "java/lang/invoke/VarHandle" ∧ (parseMethodDescriptor yX5_watch.desc).map (fun d => d.parameters.length) = some 0 := by decide +kernel
set_option maxHeartbeats 4000000 in
set_option maxRecDepth 100000 in
theorem c_X5_watch (l : Launch) (G : EN)  {μ : MM} {r : MM} (h : f_X5_watch μ = some r) : XM l G yX5_watch cX5_watch 2 none 7 158 [.ref (G.2.1 37)] μ none r := by
  refine x_met (own := RX5) (by decide +kernel) rfl (Nat.le_of_ble_eq_true rfl) (fun Γ A H ls hg C hr hX hQ hl => ?_)
  have hl : lv_has ls 2 [(0, .ref (G.2.1 37))] := hl
  unfold f_X5_watch at h
  refine i_iconst (v := 0) C dX5_watch_0 rfl ?_
  refine i_istore_n C [(1, .int 0), (0, .ref (G.2.1 37))] dX5_watch_1 rfl hl (by decide) rfl (fun ls hl => ?_)
  refine w_jn1 (fun (m1 : MM) => ∀ (H : Heap) (locs : List Loc) (ls : Array Slot), lv_has ls 2 [(0, .ref (G.2.1 37))] → XW G A (gs Γ) H locs m1 → WX Γ H locs 28 ls []) h (fun m1 h H locs ls hl hX => ?_) (fun k2 J2 h => ?_)
  · refine i_iconst (v := 0) C dX5_watch_28 rfl ?_
    refine i_istore_n C [(1, .int 0), (0, .ref (G.2.1 37))] dX5_watch_29 rfl hl (by decide) rfl (fun ls hl => ?_)
    refine w_jn1 (fun (m2 : MM) => ∀ (H : Heap) (locs : List Loc) (ls : Array Slot), lv_has ls 2 [(0, .ref (G.2.1 37))] → XW G A (gs Γ) H locs m2 → WX Γ H locs 69 ls []) h (fun m2 h H locs ls hl hX => ?_) (fun k1 J1 h => ?_)
    · refine i_aload_n C dX5_watch_69 rfl (lv_at hl 0 rfl) ?_
      refine x_get C hX (fg_37_0 G) tw4_83 dX5_watch_70 ?_
      refine i_iconst (v := 0) C dX5_watch_73 rfl ?_
      refine i_dup2 C dX5_watch_74 rfl rfl ?_
      refine x_iald C hX (ai_38 G) h dX5_watch_75 (fun x1 h => ?_)
      refine i_iconst (v := 1) C dX5_watch_76 rfl ?_
      refine i_iadd C dX5_watch_77 ?_
      refine x_iast C hX (ai_38 G) h dX5_watch_78 (fun H locs m3 h hX => ?_)
      exact x_vretV C hX hr hQ h dX5_watch_79
    have L1 : ∀ (fu : Nat) (x2 : Int32) (m4 : MM) (H : Heap) (locs : List Loc) (ls : Array Slot), L_X5_watch_30 k1 fu x2 m4 = some r → lv_has ls 2 [(0, .ref (G.2.1 37)), (1, .int x2)] → XW G A (gs Γ) H locs m4 → WX Γ H locs 30 ls [] := by
      intro fu
      induction fu with
      | zero =>
        intro x2 m4 H locs ls h
        rw [L_X5_watch_30] at h
        cases h
      | succ fu ih =>
        intro x2 m4 H locs ls h hl hX
        rw [L_X5_watch_30] at h
        refine i_iload_n C dX5_watch_30 rfl (lv_at hl 1 rfl) ?_
        refine i_aload_n C dX5_watch_31 rfl (lv_at hl 0 rfl) ?_
        refine x_get C hX (fg_37_0 G) tw4_83 dX5_watch_32 ?_
        refine i_iconst (v := 4) C dX5_watch_35 rfl ?_
        refine x_iald C hX (ai_38 G) h dX5_watch_36 (fun x3 h => ?_)
        refine i_icmp_ge (tgt := 69) C h dX5_watch_37 (by decide) (fun _ h => ?_) (fun _ h => ?_)
        · exact J1 _ h _ _ _ (lv_sub hl [0] rfl) hX
        refine i_aload_n C dX5_watch_40 rfl (lv_at hl 0 rfl) ?_
        refine x_get C hX (fg_37_0 G) tw4_83 dX5_watch_41 ?_
        refine i_iload_n C dX5_watch_44 rfl (lv_at hl 1 rfl) ?_
        refine i_iconst (v := 1) C dX5_watch_45 rfl ?_
        obtain ⟨x4, e1, h⟩ := w_bdr h
        refine x_callSi C hX (c_X5_at (gl Γ) G  e1) [.ref (G.2.1 38)] rfl hl tw4_182 tw4_183 tw1_7 tw4_184 nd_X5_at ⟨(Nat.le_of_ble_eq_true rfl), (Nat.le_of_ble_eq_true rfl)⟩ (Nat.le_of_ble_eq_true rfl) dX5_watch_46 (fun H locs hX => ?_)
        refine i_bipush (v := 99) C dX5_watch_49 rfl ?_
        refine i_aload_n C dX5_watch_51 rfl (lv_at hl 0 rfl) ?_
        refine i_iload_n C dX5_watch_52 rfl (lv_at hl 1 rfl) ?_
        refine i_iconst (v := 1) C dX5_watch_53 rfl ?_
        obtain ⟨x5, e2, h⟩ := w_bdr h
        refine x_callVi C hX (fg_37_0 G) (c_X5_catIs (gl Γ) G  e2) [.int 99, .int x4, .ref (G.2.1 38)] rfl hl tw4_193 tw4_195 ts2_2 tw1_7 tw4_196 rfl nd_X5_catIs ⟨(Nat.le_of_ble_eq_true rfl), (Nat.le_of_ble_eq_true rfl)⟩ (Nat.le_of_ble_eq_true rfl) dX5_watch_54 (fun H locs hX => ?_)
        refine i_iconst (v := 1) C dX5_watch_57 rfl ?_
        refine i_iadd C dX5_watch_58 ?_
        refine x_min C hl tw5_59 tw1_231 tw1_8 tw1_232 (Nat.le_of_ble_eq_true rfl) (Nat.le_of_ble_eq_true rfl) dX5_watch_59 ?_
        refine x_iast C hX (ai_38 G) h dX5_watch_62 (fun H locs m5 h hX => ?_)
        refine i_iinc C (j := 1) (fun x6 => [(1, .int x6), (0, .ref (G.2.1 37))]) h dX5_watch_63 hl rfl rfl (by decide) (fun _ => rfl) (fun x6 ls h hl => ?_)
        refine i_goto (tgt := 30) C dX5_watch_66 (by decide) ?_
        exact ih _ _ _ _ _ h (lv_sub hl [1, 0] rfl) hX
    exact L1 FU _ _ _ _ _ h (lv_sub hl [1, 0] rfl) hX
  have L2 : ∀ (fu : Nat) (x7 : Int32) (m6 : MM) (H : Heap) (locs : List Loc) (ls : Array Slot), L_X5_watch_2 k2 fu x7 m6 = some r → lv_has ls 2 [(0, .ref (G.2.1 37)), (1, .int x7)] → XW G A (gs Γ) H locs m6 → WX Γ H locs 2 ls [] := by
    intro fu
    induction fu with
    | zero =>
      intro x7 m6 H locs ls h
      rw [L_X5_watch_2] at h
      cases h
    | succ fu ih =>
      intro x7 m6 H locs ls h hl hX
      rw [L_X5_watch_2] at h
      refine i_iload_n C dX5_watch_2 rfl (lv_at hl 1 rfl) ?_
      refine i_iconst (v := 4) C dX5_watch_3 rfl ?_
      refine i_icmp_ge (tgt := 28) C h dX5_watch_4 (by decide) (fun _ h => ?_) (fun _ h => ?_)
      · exact J2 _ h _ _ _ (lv_sub hl [0] rfl) hX
      refine i_aload_n C dX5_watch_7 rfl (lv_at hl 0 rfl) ?_
      refine x_get C hX (fg_37_0 G) tw4_83 dX5_watch_8 ?_
      refine i_iload_n C dX5_watch_11 rfl (lv_at hl 1 rfl) ?_
      refine i_iconst (v := 0) C dX5_watch_12 rfl ?_
      obtain ⟨x8, e3, h⟩ := w_bdr h
      refine x_callSi C hX (c_X5_atShip (gl Γ) G  e3) [.ref (G.2.1 38)] rfl hl tw4_227 tw4_228 tw1_7 tw4_229 nd_X5_atShip ⟨(Nat.le_of_ble_eq_true rfl), (Nat.le_of_ble_eq_true rfl)⟩ (Nat.le_of_ble_eq_true rfl) dX5_watch_13 (fun H locs hX => ?_)
      refine i_aload_n C dX5_watch_16 rfl (lv_at hl 0 rfl) ?_
      refine i_iload_n C dX5_watch_17 rfl (lv_at hl 1 rfl) ?_
      obtain ⟨x9, e4, h⟩ := w_bdr h
      refine x_callVi C hX (fg_37_0 G) (c_X5_goesTo (gl Γ) G  e4) [.int x8, .ref (G.2.1 38)] rfl hl tw5_1 tw5_3 ts2_9 tw1_7 tw5_4 rfl nd_X5_goesTo ⟨(Nat.le_of_ble_eq_true rfl), (Nat.le_of_ble_eq_true rfl)⟩ (Nat.le_of_ble_eq_true rfl) dX5_watch_18 (fun H locs hX => ?_)
      refine x_iast C hX (ai_38 G) h dX5_watch_21 (fun H locs m7 h hX => ?_)
      refine i_iinc C (j := 1) (fun x10 => [(1, .int x10), (0, .ref (G.2.1 37))]) h dX5_watch_22 hl rfl rfl (by decide) (fun _ => rfl) (fun x10 ls h hl => ?_)
      refine i_goto (tgt := 2) C dX5_watch_25 (by decide) ?_
      exact ih _ _ _ _ _ h (lv_sub hl [1, 0] rfl) hX
  exact L2 FU _ _ _ _ _ h (lv_sub hl [1, 0] rfl) hX
def L_X5_watches_2 (p1 : Int32) : Nat → Int32 → MM → Option MM
  | 0, _, _ => none
  | fu + 1, x1, m1 => if p1 ≤ x1 then (some m1) else (bdr (f_X5_watch m1) fun m2 => lt_ (x1 + 1) fun x2 => L_X5_watches_2 p1 fu x2 m2)
def f_X5_watches (p1 : Int32) (μ : MM) : Option MM := L_X5_watches_2 p1 FU 0 μ
theorem nd_X5_watches : yX5_watches.cls ≠ "java/lang/invoke/MethodHandle" ∧ yX5_watches.cls ≠ "java/lang/invoke/VarHandle" ∧ (parseMethodDescriptor yX5_watches.desc).map (fun d => d.parameters.length) = some 1 := by decide +kernel
set_option maxHeartbeats 4000000 in
set_option maxRecDepth 100000 in
theorem c_X5_watches (l : Launch) (G : EN)  {p1 : Int32} {μ : MM} {r : MM} (h : f_X5_watches p1 μ = some r) : XM l G yX5_watches cX5_watches 3 none 8 179 [.ref (G.2.1 37), .int p1] μ none r := by
  refine x_met (own := RX5) (by decide +kernel) rfl (Nat.le_of_ble_eq_true rfl) (fun Γ A H ls hg C hr hX hQ hl => ?_)
  have hl : lv_has ls 3 [(0, .ref (G.2.1 37)), (1, .int p1)] := hl
  unfold f_X5_watches at h
  refine i_iconst (v := 0) C dX5_watches_0 rfl ?_
  refine i_istore_n C [(2, .int 0), (0, .ref (G.2.1 37)), (1, .int p1)] dX5_watches_1 rfl hl (by decide) rfl (fun ls hl => ?_)
  have L1 : ∀ (fu : Nat) (x1 : Int32) (m1 : MM) (H : Heap) (locs : List Loc) (ls : Array Slot), L_X5_watches_2 p1 fu x1 m1 = some r → lv_has ls 3 [(0, .ref (G.2.1 37)), (1, .int p1), (2, .int x1)] → XW G A (gs Γ) H locs m1 → WX Γ H locs 2 ls [] := by
    intro fu
    induction fu with
    | zero =>
      intro x1 m1 H locs ls h
      rw [L_X5_watches_2] at h
      cases h
    | succ fu ih =>
      intro x1 m1 H locs ls h hl hX
      rw [L_X5_watches_2] at h
      refine i_iload_n C dX5_watches_2 rfl (lv_at hl 2 rfl) ?_
      refine i_iload_n C dX5_watches_3 rfl (lv_at hl 1 rfl) ?_
      refine i_icmp_ge (tgt := 17) C h dX5_watches_4 (by decide) (fun _ h => ?_) (fun _ h => ?_)
      · exact x_vretV C hX hr hQ h dX5_watches_17
      refine i_aload_n C dX5_watches_7 rfl (lv_at hl 0 rfl) ?_
      obtain ⟨m2, e1, h⟩ := w_bdr h
      refine x_callVv C hX (fg_37_0 G) (c_X5_watch (gl Γ) G  e1) [] rfl hl tw5_55 tw5_57 ts2_15 tw1_7 tw5_58 rfl nd_X5_watch ⟨(Nat.le_of_ble_eq_true rfl), (Nat.le_of_ble_eq_true rfl)⟩ (Nat.le_of_ble_eq_true rfl) dX5_watches_8 (fun H locs hX => ?_)
      refine i_iinc C (j := 2) (fun x2 => [(2, .int x2), (0, .ref (G.2.1 37)), (1, .int p1)]) h dX5_watches_11 hl rfl rfl (by decide) (fun _ => rfl) (fun x2 ls h hl => ?_)
      refine i_goto (tgt := 2) C dX5_watches_14 (by decide) ?_
      exact ih _ _ _ _ _ h (lv_sub hl [1, 2, 0] rfl) hX
  exact L1 FU _ _ _ _ _ h (lv_sub hl [1, 2, 0] rfl) hX
def f_X5_go (p1 : Int32) (μ : MM) : Option (Int32 × MM) := bdr (f_X5_within p1 1 60) fun x1 => if x1 = 0 then (bdw (f_X5_finding (-1000001) μ) fun x6 m3 => some (x6, m3)) else (ldi μ 38 152 0 fun x2 => if (x2 + p1) ≤ 99999 then (bdr (f_X5_watches p1 μ) fun m1 => bdr (f_X5_landed m1) fun x3 => bdr (f_X5_bits x3) fun x4 => some (x4, m1)) else (bdw (f_X5_finding (-1000005) μ) fun x5 m2 => some (x5, m2)))
theorem nd_X5_go : yX5_go.cls ≠ "java/lang/invoke/MethodHandle" ∧ yX5_go.cls ≠ "java/lang/invoke/VarHandle" ∧ (parseMethodDescriptor yX5_go.desc).map (fun d => d.parameters.length) = some 1 := by decide +kernel
set_option maxHeartbeats 4000000 in
set_option maxRecDepth 100000 in
theorem c_X5_go (l : Launch) (G : EN)  {p1 : Int32} {μ : MM} {r : Int32} {m : MM} (h : f_X5_go p1 μ = some (r, m)) : XM l G yX5_go cX5_go 2 (some .int) 9 201 [.ref (G.2.1 37), .int p1] μ (some (.int r)) m := by
  refine x_met (own := RX5) (by decide +kernel) rfl (Nat.le_of_ble_eq_true rfl) (fun Γ A H ls hg C hr hX hQ hl => ?_)
  have hl : lv_has ls 2 [(0, .ref (G.2.1 37)), (1, .int p1)] := hl
  unfold f_X5_go at h
  refine i_iload_n C dX5_go_0 rfl (lv_at hl 1 rfl) ?_
  refine i_iconst (v := 1) C dX5_go_1 rfl ?_
  refine i_bipush (v := 60) C dX5_go_2 rfl ?_
  obtain ⟨x1, e1, h⟩ := w_bdr h
  refine x_callSi C hX (c_X5_within (gl Γ) G  e1) [] rfl hl tw4_169 tw4_170 tw1_7 tw4_171 nd_X5_within ⟨(Nat.le_of_ble_eq_true rfl), (Nat.le_of_ble_eq_true rfl)⟩ (Nat.le_of_ble_eq_true rfl) dX5_go_4 (fun H locs hX => ?_)
  refine i_if_ne (tgt := 17) C h dX5_go_7 (by decide) (fun _ h => ?_) (fun _ h => ?_)
  · refine i_aload_n C dX5_go_17 rfl (lv_at hl 0 rfl) ?_
    refine x_get C hX (fg_37_0 G) tw4_83 dX5_go_18 ?_
    refine i_iconst (v := 0) C dX5_go_21 rfl ?_
    refine x_iald C hX (ai_38 G) h dX5_go_22 (fun x2 h => ?_)
    refine i_iload_n C dX5_go_23 rfl (lv_at hl 1 rfl) ?_
    refine i_iadd C dX5_go_24 ?_
    refine i_ldc C tw5_49 dX5_go_25 ?_
    refine i_icmp_le (tgt := 37) C h dX5_go_27 (by decide) (fun _ h => ?_) (fun _ h => ?_)
    · refine i_aload_n C dX5_go_37 rfl (lv_at hl 0 rfl) ?_
      refine i_iload_n C dX5_go_38 rfl (lv_at hl 1 rfl) ?_
      obtain ⟨m1, e2, h⟩ := w_bdr h
      refine x_callVv C hX (fg_37_0 G) (c_X5_watches (gl Γ) G  e2) [] rfl hl tw5_51 tw5_53 ts2_14 tw1_7 tw5_54 rfl nd_X5_watches ⟨(Nat.le_of_ble_eq_true rfl), (Nat.le_of_ble_eq_true rfl)⟩ (Nat.le_of_ble_eq_true rfl) dX5_go_39 (fun H locs hX => ?_)
      refine i_aload_n C dX5_go_42 rfl (lv_at hl 0 rfl) ?_
      obtain ⟨x3, e3, h⟩ := w_bdr h
      refine x_callVi C hX (fg_37_0 G) (c_X5_landed (gl Γ) G  e3) [] rfl hl tw5_60 tw5_62 ts3_0 tw1_7 tw5_63 rfl nd_X5_landed ⟨(Nat.le_of_ble_eq_true rfl), (Nat.le_of_ble_eq_true rfl)⟩ (Nat.le_of_ble_eq_true rfl) dX5_go_43 (fun H locs hX => ?_)
      obtain ⟨x4, e4, h⟩ := w_bdr h
      refine x_callSi C hX (c_X5_bits (gl Γ) G  e4) [] rfl hl tw4_234 tw4_235 tw1_7 tw4_236 nd_X5_bits ⟨(Nat.le_of_ble_eq_true rfl), (Nat.le_of_ble_eq_true rfl)⟩ (Nat.le_of_ble_eq_true rfl) dX5_go_46 (fun H locs hX => ?_)
      exact x_iretW C hX hr hQ h dX5_go_49
    refine i_aload_n C dX5_go_30 rfl (lv_at hl 0 rfl) ?_
    refine i_ldc C tw5_50 dX5_go_31 ?_
    obtain ⟨x5, m2, e5, h⟩ := w_bdw h
    refine x_callVi C hX (fg_37_0 G) (c_X5_finding (gl Γ) G  e5) [] rfl hl tw4_173 tw4_175 ts1_15 tw1_7 tw4_176 rfl nd_X5_finding ⟨(Nat.le_of_ble_eq_true rfl), (Nat.le_of_ble_eq_true rfl)⟩ (Nat.le_of_ble_eq_true rfl) dX5_go_33 (fun H locs hX => ?_)
    exact x_iretW C hX hr hQ h dX5_go_36
  refine i_aload_n C dX5_go_10 rfl (lv_at hl 0 rfl) ?_
  refine i_ldc C tw4_172 dX5_go_11 ?_
  obtain ⟨x6, m3, e6, h⟩ := w_bdw h
  refine x_callVi C hX (fg_37_0 G) (c_X5_finding (gl Γ) G  e6) [] rfl hl tw4_173 tw4_175 ts1_15 tw1_7 tw4_176 rfl nd_X5_finding ⟨(Nat.le_of_ble_eq_true rfl), (Nat.le_of_ble_eq_true rfl)⟩ (Nat.le_of_ble_eq_true rfl) dX5_go_13 (fun H locs hX => ?_)
  exact x_iretW C hX hr hQ h dX5_go_16
def L_X5_feeds_37 (p1 : Int32) (k1 : MM → Option (Int32 × MM)) : Nat → Int32 → MM → Option (Int32 × MM)
  | 0, _, _ => none
  | fu + 1, x7, m3 => ldi m3 38 152 4 fun x8 => if x8 ≤ x7 then (k1 m3) else (bdr (f_X5_at x7 1) fun x9 => bdr (f_X5_has p1 x7) fun x10 => jn1 (fun (x11 : Int32) => sti m3 38 152 x9 x11 fun m4 => lt_ (x7 + 1) fun x12 => L_X5_feeds_37 p1 k1 fu x12 m4) fun k2 => if x10 = 0 then (bdr (f_X5_catIs x7 1 m3) fun x13 => k2 x13) else (k2 0))
def f_X5_feeds (p1 : Int32) (μ : MM) : Option (Int32 × MM) := bdr (f_X5_areCats p1 μ) fun x1 => if x1 = 0 then (bdw (f_X5_finding (-1000001) μ) fun x15 m6 => some (x15, m6)) else (ldi μ 38 152 1 fun x2 => bdr (f_X5_bits p1) fun x3 => if x3 ≤ x2 then (jn1 (fun (m1 : MM) => ldi m1 38 152 1 fun x4 => bdr (f_X5_bits p1) fun x5 => sti m1 38 152 1 (x4 - x5) fun m2 => ldi m2 38 152 1 fun x6 => some (x6, m2)) fun k1 => L_X5_feeds_37 p1 k1 FU 0 μ) else (bdw (f_X5_finding (-1000005) μ) fun x14 m5 => some (x14, m5)))
theorem nd_X5_feeds : yX5_feeds.cls ≠ "java/lang/invoke/MethodHandle" ∧ yX5_feeds.cls ≠ "java/lang/invoke/VarHandle" ∧ (parseMethodDescriptor yX5_feeds.desc).map (fun d => d.parameters.length) = some 1 := by decide +kernel
set_option maxHeartbeats 4000000 in
set_option maxRecDepth 100000 in
theorem c_X5_feeds (l : Launch) (G : EN)  {p1 : Int32} {μ : MM} {r : Int32} {m : MM} (h : f_X5_feeds p1 μ = some (r, m)) : XM l G yX5_feeds cX5_feeds 3 (some .int) 2 43 [.ref (G.2.1 37), .int p1] μ (some (.int r)) m := by
  refine x_met (own := RX5) (by decide +kernel) rfl (Nat.le_of_ble_eq_true rfl) (fun Γ A H ls hg C hr hX hQ hl => ?_)
  have hl : lv_has ls 3 [(0, .ref (G.2.1 37)), (1, .int p1)] := hl
  unfold f_X5_feeds at h
  refine i_aload_n C dX5_feeds_0 rfl (lv_at hl 0 rfl) ?_
  refine i_iload_n C dX5_feeds_1 rfl (lv_at hl 1 rfl) ?_
  obtain ⟨x1, e1, h⟩ := w_bdr h
  refine x_callVi C hX (fg_37_0 G) (c_X5_areCats (gl Γ) G  e1) [] rfl hl tw5_24 tw5_26 ts2_13 tw1_7 tw5_27 rfl nd_X5_areCats ⟨(Nat.le_of_ble_eq_true rfl), (Nat.le_of_ble_eq_true rfl)⟩ (Nat.le_of_ble_eq_true rfl) dX5_feeds_2 (fun H locs hX => ?_)
  refine i_if_ne (tgt := 15) C h dX5_feeds_5 (by decide) (fun _ h => ?_) (fun _ h => ?_)
  · refine i_aload_n C dX5_feeds_15 rfl (lv_at hl 0 rfl) ?_
    refine x_get C hX (fg_37_0 G) tw4_83 dX5_feeds_16 ?_
    refine i_iconst (v := 1) C dX5_feeds_19 rfl ?_
    refine x_iald C hX (ai_38 G) h dX5_feeds_20 (fun x2 h => ?_)
    refine i_iload_n C dX5_feeds_21 rfl (lv_at hl 1 rfl) ?_
    obtain ⟨x3, e2, h⟩ := w_bdr h
    refine x_callSi C hX (c_X5_bits (gl Γ) G  e2) [.int x2] rfl hl tw4_234 tw4_235 tw1_7 tw4_236 nd_X5_bits ⟨(Nat.le_of_ble_eq_true rfl), (Nat.le_of_ble_eq_true rfl)⟩ (Nat.le_of_ble_eq_true rfl) dX5_feeds_22 (fun H locs hX => ?_)
    refine i_icmp_ge (tgt := 35) C h dX5_feeds_25 (by decide) (fun _ h => ?_) (fun _ h => ?_)
    · refine i_iconst (v := 0) C dX5_feeds_35 rfl ?_
      refine i_istore_n C [(2, .int 0), (0, .ref (G.2.1 37)), (1, .int p1)] dX5_feeds_36 rfl hl (by decide) rfl (fun ls hl => ?_)
      refine w_jn1 (fun (m1 : MM) => ∀ (H : Heap) (locs : List Loc) (ls : Array Slot), lv_has ls 3 [(0, .ref (G.2.1 37)), (1, .int p1)] → XW G A (gs Γ) H locs m1 → WX Γ H locs 81 ls []) h (fun m1 h H locs ls hl hX => ?_) (fun k1 J1 h => ?_)
      · refine i_aload_n C dX5_feeds_81 rfl (lv_at hl 0 rfl) ?_
        refine x_get C hX (fg_37_0 G) tw4_83 dX5_feeds_82 ?_
        refine i_iconst (v := 1) C dX5_feeds_85 rfl ?_
        refine i_dup2 C dX5_feeds_86 rfl rfl ?_
        refine x_iald C hX (ai_38 G) h dX5_feeds_87 (fun x4 h => ?_)
        refine i_iload_n C dX5_feeds_88 rfl (lv_at hl 1 rfl) ?_
        obtain ⟨x5, e3, h⟩ := w_bdr h
        refine x_callSi C hX (c_X5_bits (gl Γ) G  e3) [.int x4, .int 1, .ref (G.2.1 38)] rfl hl tw4_234 tw4_235 tw1_7 tw4_236 nd_X5_bits ⟨(Nat.le_of_ble_eq_true rfl), (Nat.le_of_ble_eq_true rfl)⟩ (Nat.le_of_ble_eq_true rfl) dX5_feeds_89 (fun H locs hX => ?_)
        refine i_isub C dX5_feeds_92 ?_
        refine x_iast C hX (ai_38 G) h dX5_feeds_93 (fun H locs m2 h hX => ?_)
        refine i_aload_n C dX5_feeds_94 rfl (lv_at hl 0 rfl) ?_
        refine x_get C hX (fg_37_0 G) tw4_83 dX5_feeds_95 ?_
        refine i_iconst (v := 1) C dX5_feeds_98 rfl ?_
        refine x_iald C hX (ai_38 G) h dX5_feeds_99 (fun x6 h => ?_)
        exact x_iretW C hX hr hQ h dX5_feeds_100
      have L1 : ∀ (fu : Nat) (x7 : Int32) (m3 : MM) (H : Heap) (locs : List Loc) (ls : Array Slot), L_X5_feeds_37 p1 k1 fu x7 m3 = some (r, m) → lv_has ls 3 [(0, .ref (G.2.1 37)), (1, .int p1), (2, .int x7)] → XW G A (gs Γ) H locs m3 → WX Γ H locs 37 ls [] := by
        intro fu
        induction fu with
        | zero =>
          intro x7 m3 H locs ls h
          rw [L_X5_feeds_37] at h
          cases h
        | succ fu ih =>
          intro x7 m3 H locs ls h hl hX
          rw [L_X5_feeds_37] at h
          refine i_iload_n C dX5_feeds_37 rfl (lv_at hl 2 rfl) ?_
          refine i_aload_n C dX5_feeds_38 rfl (lv_at hl 0 rfl) ?_
          refine x_get C hX (fg_37_0 G) tw4_83 dX5_feeds_39 ?_
          refine i_iconst (v := 4) C dX5_feeds_42 rfl ?_
          refine x_iald C hX (ai_38 G) h dX5_feeds_43 (fun x8 h => ?_)
          refine i_icmp_ge (tgt := 81) C h dX5_feeds_44 (by decide) (fun _ h => ?_) (fun _ h => ?_)
          · exact J1 _ h _ _ _ (lv_sub hl [0, 1] rfl) hX
          refine i_aload_n C dX5_feeds_47 rfl (lv_at hl 0 rfl) ?_
          refine x_get C hX (fg_37_0 G) tw4_83 dX5_feeds_48 ?_
          refine i_iload_n C dX5_feeds_51 rfl (lv_at hl 2 rfl) ?_
          refine i_iconst (v := 1) C dX5_feeds_52 rfl ?_
          obtain ⟨x9, e4, h⟩ := w_bdr h
          refine x_callSi C hX (c_X5_at (gl Γ) G  e4) [.ref (G.2.1 38)] rfl hl tw4_182 tw4_183 tw1_7 tw4_184 nd_X5_at ⟨(Nat.le_of_ble_eq_true rfl), (Nat.le_of_ble_eq_true rfl)⟩ (Nat.le_of_ble_eq_true rfl) dX5_feeds_53 (fun H locs hX => ?_)
          refine i_iload_n C dX5_feeds_56 rfl (lv_at hl 1 rfl) ?_
          refine i_iload_n C dX5_feeds_57 rfl (lv_at hl 2 rfl) ?_
          obtain ⟨x10, e5, h⟩ := w_bdr h
          refine x_callSi C hX (c_X5_has (gl Γ) G  e5) [.int x9, .ref (G.2.1 38)] rfl hl tw4_201 tw4_202 tw1_7 tw4_203 nd_X5_has ⟨(Nat.le_of_ble_eq_true rfl), (Nat.le_of_ble_eq_true rfl)⟩ (Nat.le_of_ble_eq_true rfl) dX5_feeds_58 (fun H locs hX => ?_)
          refine w_jn1 (fun (x11 : Int32) => ∀ (H : Heap) (locs : List Loc) (ls : Array Slot), lv_has ls 3 [(0, .ref (G.2.1 37)), (1, .int p1), (2, .int x7)] → XW G A (gs Γ) H locs m3 → WX Γ H locs 74 ls [.int x11, .int x9, .ref (G.2.1 38)]) h (fun x11 h H locs ls hl hX => ?_) (fun k2 J2 h => ?_)
          · refine x_iast C hX (ai_38 G) h dX5_feeds_74 (fun H locs m4 h hX => ?_)
            refine i_iinc C (j := 2) (fun x12 => [(2, .int x12), (0, .ref (G.2.1 37)), (1, .int p1)]) h dX5_feeds_75 hl rfl rfl (by decide) (fun _ => rfl) (fun x12 ls h hl => ?_)
            refine i_goto (tgt := 37) C dX5_feeds_78 (by decide) ?_
            exact ih _ _ _ _ _ h (lv_sub hl [1, 2, 0] rfl) hX
          refine i_if_eq (tgt := 68) C h dX5_feeds_61 (by decide) (fun _ h => ?_) (fun _ h => ?_)
          · refine i_aload_n C dX5_feeds_68 rfl (lv_at hl 0 rfl) ?_
            refine i_iload_n C dX5_feeds_69 rfl (lv_at hl 2 rfl) ?_
            refine i_iconst (v := 1) C dX5_feeds_70 rfl ?_
            obtain ⟨x13, e6, h⟩ := w_bdr h
            refine x_callVi C hX (fg_37_0 G) (c_X5_catIs (gl Γ) G  e6) [.int x9, .ref (G.2.1 38)] rfl hl tw4_193 tw4_195 ts2_2 tw1_7 tw4_196 rfl nd_X5_catIs ⟨(Nat.le_of_ble_eq_true rfl), (Nat.le_of_ble_eq_true rfl)⟩ (Nat.le_of_ble_eq_true rfl) dX5_feeds_71 (fun H locs hX => ?_)
            exact J2 _ h _ _ _ (lv_sub hl [0, 1, 2] rfl) hX
          refine i_iconst (v := 0) C dX5_feeds_64 rfl ?_
          refine i_goto (tgt := 74) C dX5_feeds_65 (by decide) ?_
          exact J2 _ h _ _ _ (lv_sub hl [0, 1, 2] rfl) hX
      exact L1 FU _ _ _ _ _ h (lv_sub hl [1, 2, 0] rfl) hX
    refine i_aload_n C dX5_feeds_28 rfl (lv_at hl 0 rfl) ?_
    refine i_ldc C tw5_50 dX5_feeds_29 ?_
    obtain ⟨x14, m5, e7, h⟩ := w_bdw h
    refine x_callVi C hX (fg_37_0 G) (c_X5_finding (gl Γ) G  e7) [] rfl hl tw4_173 tw4_175 ts1_15 tw1_7 tw4_176 rfl nd_X5_finding ⟨(Nat.le_of_ble_eq_true rfl), (Nat.le_of_ble_eq_true rfl)⟩ (Nat.le_of_ble_eq_true rfl) dX5_feeds_31 (fun H locs hX => ?_)
    exact x_iretW C hX hr hQ h dX5_feeds_34
  refine i_aload_n C dX5_feeds_8 rfl (lv_at hl 0 rfl) ?_
  refine i_ldc C tw4_172 dX5_feeds_9 ?_
  obtain ⟨x15, m6, e8, h⟩ := w_bdw h
  refine x_callVi C hX (fg_37_0 G) (c_X5_finding (gl Γ) G  e8) [] rfl hl tw4_173 tw4_175 ts1_15 tw1_7 tw4_176 rfl nd_X5_finding ⟨(Nat.le_of_ble_eq_true rfl), (Nat.le_of_ble_eq_true rfl)⟩ (Nat.le_of_ble_eq_true rfl) dX5_feeds_11 (fun H locs hX => ?_)
  exact x_iretW C hX hr hQ h dX5_feeds_14
def L_X5_islands_4 (μ : MM) : Nat → Int32 → Int32 → Option Int32
  | 0, _, _ => none
  | fu + 1, x1, x2 => if 100 ≤ x2 then (some x1) else (ldi μ 38 152 (16 + x2) fun x3 => lt_ ((x1 + x3)) fun x4 => lt_ (x2 + 1) fun x5 => L_X5_islands_4 μ fu x4 x5)
def f_X5_islands (μ : MM) : Option Int32 := L_X5_islands_4 μ FU 0 0
theorem nd_X5_islands : yX5_islands.cls ≠ "java/lang/invoke/MethodHandle" ∧ yX5_islands.cls ≠ "java/lang/invoke/VarHandle" ∧ (parseMethodDescriptor yX5_islands.desc).map (fun d => d.parameters.length) = some 0 := by decide +kernel
set_option maxHeartbeats 4000000 in
set_option maxRecDepth 100000 in
theorem c_X5_islands (l : Launch) (G : EN)  {μ : MM} {r : Int32} (h : f_X5_islands μ = some r) : XM l G yX5_islands cX5_islands 3 (some .int) 0 0 [.ref (G.2.1 37)] μ (some (.int r)) μ := by
  refine x_met (own := RX5) (by decide +kernel) rfl (Nat.le_of_ble_eq_true rfl) (fun Γ A H ls hg C hr hX hQ hl => ?_)
  have hl : lv_has ls 3 [(0, .ref (G.2.1 37))] := hl
  unfold f_X5_islands at h
  refine i_iconst (v := 0) C dX5_islands_0 rfl ?_
  refine i_istore_n C [(1, .int 0), (0, .ref (G.2.1 37))] dX5_islands_1 rfl hl (by decide) rfl (fun ls hl => ?_)
  refine i_iconst (v := 0) C dX5_islands_2 rfl ?_
  refine i_istore_n C [(2, .int 0), (1, .int 0), (0, .ref (G.2.1 37))] dX5_islands_3 rfl hl (by decide) rfl (fun ls hl => ?_)
  have L1 : ∀ (fu : Nat) (x1 : Int32) (x2 : Int32) (H : Heap) (locs : List Loc) (ls : Array Slot), L_X5_islands_4 μ fu x1 x2 = some r → lv_has ls 3 [(0, .ref (G.2.1 37)), (1, .int x1), (2, .int x2)] → XW G A (gs Γ) H locs μ → WX Γ H locs 4 ls [] := by
    intro fu
    induction fu with
    | zero =>
      intro x1 x2 H locs ls h
      rw [L_X5_islands_4] at h
      cases h
    | succ fu ih =>
      intro x1 x2 H locs ls h hl hX
      rw [L_X5_islands_4] at h
      refine i_iload_n C dX5_islands_4 rfl (lv_at hl 2 rfl) ?_
      refine i_bipush (v := 100) C dX5_islands_5 rfl ?_
      refine i_icmp_ge (tgt := 28) C h dX5_islands_7 (by decide) (fun _ h => ?_) (fun _ h => ?_)
      · refine i_iload_n C dX5_islands_28 rfl (lv_at hl 1 rfl) ?_
        exact x_iretR C hX hr hQ h dX5_islands_29
      refine i_iload_n C dX5_islands_10 rfl (lv_at hl 1 rfl) ?_
      refine i_aload_n C dX5_islands_11 rfl (lv_at hl 0 rfl) ?_
      refine x_get C hX (fg_37_0 G) tw4_83 dX5_islands_12 ?_
      refine i_bipush (v := 16) C dX5_islands_15 rfl ?_
      refine i_iload_n C dX5_islands_17 rfl (lv_at hl 2 rfl) ?_
      refine i_iadd C dX5_islands_18 ?_
      refine x_iald C hX (ai_38 G) h dX5_islands_19 (fun x3 h => ?_)
      refine i_iadd C dX5_islands_20 ?_
      refine i_istoreL_n C (fun x4 => [(1, .int x4), (0, .ref (G.2.1 37)), (2, .int x2)]) h dX5_islands_21 rfl hl (by decide) (fun _ => rfl) (fun x4 ls h hl => ?_)
      refine i_iinc C (j := 2) (fun x5 => [(2, .int x5), (1, .int x4), (0, .ref (G.2.1 37))]) h dX5_islands_22 hl rfl rfl (by decide) (fun _ => rfl) (fun x5 ls h hl => ?_)
      refine i_goto (tgt := 4) C dX5_islands_25 (by decide) ?_
      exact ih _ _ _ _ _ h (lv_sub hl [2, 1, 0] rfl) hX
  exact L1 FU _ _ _ _ _ h (lv_sub hl [2, 1, 0] rfl) hX
def L_X5_hungriest_4 (μ : MM) : Nat → Int32 → Int32 → Option Int32
  | 0, _, _ => none
  | fu + 1, x1, x2 => ldi μ 38 152 4 fun x3 => if x3 ≤ x2 then (some x1) else (bdr (f_X5_catIs x2 1 μ) fun x4 => lt_ ((imax x1 x4)) fun x5 => lt_ (x2 + 1) fun x6 => L_X5_hungriest_4 μ fu x5 x6)
def f_X5_hungriest (μ : MM) : Option Int32 := L_X5_hungriest_4 μ FU 0 0
theorem nd_X5_hungriest : yX5_hungriest.cls ≠ "java/lang/invoke/MethodHandle" ∧ yX5_hungriest.cls ≠ "java/lang/invoke/VarHandle" ∧ (parseMethodDescriptor yX5_hungriest.desc).map (fun d => d.parameters.length) = some 0 := by decide +kernel
set_option maxHeartbeats 4000000 in
set_option maxRecDepth 100000 in
theorem c_X5_hungriest (l : Launch) (G : EN)  {μ : MM} {r : Int32} (h : f_X5_hungriest μ = some r) : XM l G yX5_hungriest cX5_hungriest 3 (some .int) 2 43 [.ref (G.2.1 37)] μ (some (.int r)) μ := by
  refine x_met (own := RX5) (by decide +kernel) rfl (Nat.le_of_ble_eq_true rfl) (fun Γ A H ls hg C hr hX hQ hl => ?_)
  have hl : lv_has ls 3 [(0, .ref (G.2.1 37))] := hl
  unfold f_X5_hungriest at h
  refine i_iconst (v := 0) C dX5_hungriest_0 rfl ?_
  refine i_istore_n C [(1, .int 0), (0, .ref (G.2.1 37))] dX5_hungriest_1 rfl hl (by decide) rfl (fun ls hl => ?_)
  refine i_iconst (v := 0) C dX5_hungriest_2 rfl ?_
  refine i_istore_n C [(2, .int 0), (1, .int 0), (0, .ref (G.2.1 37))] dX5_hungriest_3 rfl hl (by decide) rfl (fun ls hl => ?_)
  have L1 : ∀ (fu : Nat) (x1 : Int32) (x2 : Int32) (H : Heap) (locs : List Loc) (ls : Array Slot), L_X5_hungriest_4 μ fu x1 x2 = some r → lv_has ls 3 [(0, .ref (G.2.1 37)), (1, .int x1), (2, .int x2)] → XW G A (gs Γ) H locs μ → WX Γ H locs 4 ls [] := by
    intro fu
    induction fu with
    | zero =>
      intro x1 x2 H locs ls h
      rw [L_X5_hungriest_4] at h
      cases h
    | succ fu ih =>
      intro x1 x2 H locs ls h hl hX
      rw [L_X5_hungriest_4] at h
      refine i_iload_n C dX5_hungriest_4 rfl (lv_at hl 2 rfl) ?_
      refine i_aload_n C dX5_hungriest_5 rfl (lv_at hl 0 rfl) ?_
      refine x_get C hX (fg_37_0 G) tw4_83 dX5_hungriest_6 ?_
      refine i_iconst (v := 4) C dX5_hungriest_9 rfl ?_
      refine x_iald C hX (ai_38 G) h dX5_hungriest_10 (fun x3 h => ?_)
      refine i_icmp_ge (tgt := 31) C h dX5_hungriest_11 (by decide) (fun _ h => ?_) (fun _ h => ?_)
      · refine i_iload_n C dX5_hungriest_31 rfl (lv_at hl 1 rfl) ?_
        exact x_iretR C hX hr hQ h dX5_hungriest_32
      refine i_iload_n C dX5_hungriest_14 rfl (lv_at hl 1 rfl) ?_
      refine i_aload_n C dX5_hungriest_15 rfl (lv_at hl 0 rfl) ?_
      refine i_iload_n C dX5_hungriest_16 rfl (lv_at hl 2 rfl) ?_
      refine i_iconst (v := 1) C dX5_hungriest_17 rfl ?_
      obtain ⟨x4, e1, h⟩ := w_bdr h
      refine x_callVi C hX (fg_37_0 G) (c_X5_catIs (gl Γ) G  e1) [.int x1] rfl hl tw4_193 tw4_195 ts2_2 tw1_7 tw4_196 rfl nd_X5_catIs ⟨(Nat.le_of_ble_eq_true rfl), (Nat.le_of_ble_eq_true rfl)⟩ (Nat.le_of_ble_eq_true rfl) dX5_hungriest_18 (fun H locs hX => ?_)
      refine x_max C hl tw5_76 tw2_108 tw1_8 tw2_109 (Nat.le_of_ble_eq_true rfl) (Nat.le_of_ble_eq_true rfl) dX5_hungriest_21 ?_
      refine i_istoreL_n C (fun x5 => [(1, .int x5), (0, .ref (G.2.1 37)), (2, .int x2)]) h dX5_hungriest_24 rfl hl (by decide) (fun _ => rfl) (fun x5 ls h hl => ?_)
      refine i_iinc C (j := 2) (fun x6 => [(2, .int x6), (1, .int x5), (0, .ref (G.2.1 37))]) h dX5_hungriest_25 hl rfl rfl (by decide) (fun _ => rfl) (fun x6 ls h hl => ?_)
      refine i_goto (tgt := 4) C dX5_hungriest_28 (by decide) ?_
      exact ih _ _ _ _ _ h (lv_sub hl [2, 1, 0] rfl) hX
  exact L1 FU _ _ _ _ _ h (lv_sub hl [2, 1, 0] rfl) hX
def f_X5_now (p1 : Int32) (μ : MM) : Option (Int32 × MM) := if p1 = 0 then (ldi μ 38 152 p1 fun x1 => some (x1, μ)) else if p1 = 1 then (ldi μ 38 152 p1 fun x2 => some (x2, μ)) else if p1 = 2 then (ldi μ 38 152 p1 fun x3 => some (x3, μ)) else if p1 = 3 then (bdr (f_X5_landed μ) fun x4 => some (x4, μ)) else if p1 = 4 then (bdr (f_X5_hungriest μ) fun x5 => some (x5, μ)) else if p1 = 5 then (bdr (f_X5_islands μ) fun x6 => some (x6, μ)) else (bdw (f_X5_finding (-1000001) μ) fun x7 m1 => some (x7, m1))
theorem nd_X5_now : yX5_now.cls ≠ "java/lang/invoke/MethodHandle" ∧ yX5_now.cls ≠ "java/lang/invoke/VarHandle" ∧ (parseMethodDescriptor yX5_now.desc).map (fun d => d.parameters.length) = some 1 := by decide +kernel
set_option maxHeartbeats 4000000 in
set_option maxRecDepth 100000 in
theorem c_X5_now (l : Launch) (G : EN)  {p1 : Int32} {μ : MM} {r : Int32} {m : MM} (h : f_X5_now p1 μ = some (r, m)) : XM l G yX5_now cX5_now 2 (some .int) 4 86 [.ref (G.2.1 37), .int p1] μ (some (.int r)) m := by
  refine x_met (own := RX5) (by decide +kernel) rfl (Nat.le_of_ble_eq_true rfl) (fun Γ A H ls hg C hr hX hQ hl => ?_)
  have hl : lv_has ls 2 [(0, .ref (G.2.1 37)), (1, .int p1)] := hl
  unfold f_X5_now at h
  refine i_iload_n C dX5_now_0 rfl (lv_at hl 1 rfl) ?_
  refine i_case h (fun e h => ?_) (fun n1 h => ?_)
  · refine i_tabIn (tgt := 40) C e dX5_now_1 (by decide) (by decide) rfl (by decide) ?_
    refine i_aload_n C dX5_now_40 rfl (lv_at hl 0 rfl) ?_
    refine x_get C hX (fg_37_0 G) tw4_83 dX5_now_41 ?_
    refine i_iload_n C dX5_now_44 rfl (lv_at hl 1 rfl) ?_
    refine x_iald C hX (ai_38 G) h dX5_now_45 (fun x1 h => ?_)
    exact x_iretW C hX hr hQ h dX5_now_46
  refine i_case h (fun e h => ?_) (fun n2 h => ?_)
  · refine i_tabIn (tgt := 40) C e dX5_now_1 (by decide) (by decide) rfl (by decide) ?_
    refine i_aload_n C dX5_now_40 rfl (lv_at hl 0 rfl) ?_
    refine x_get C hX (fg_37_0 G) tw4_83 dX5_now_41 ?_
    refine i_iload_n C dX5_now_44 rfl (lv_at hl 1 rfl) ?_
    refine x_iald C hX (ai_38 G) h dX5_now_45 (fun x2 h => ?_)
    exact x_iretW C hX hr hQ h dX5_now_46
  refine i_case h (fun e h => ?_) (fun n3 h => ?_)
  · refine i_tabIn (tgt := 40) C e dX5_now_1 (by decide) (by decide) rfl (by decide) ?_
    refine i_aload_n C dX5_now_40 rfl (lv_at hl 0 rfl) ?_
    refine x_get C hX (fg_37_0 G) tw4_83 dX5_now_41 ?_
    refine i_iload_n C dX5_now_44 rfl (lv_at hl 1 rfl) ?_
    refine x_iald C hX (ai_38 G) h dX5_now_45 (fun x3 h => ?_)
    exact x_iretW C hX hr hQ h dX5_now_46
  refine i_case h (fun e h => ?_) (fun n4 h => ?_)
  · refine i_tabIn (tgt := 47) C e dX5_now_1 (by decide) (by decide) rfl (by decide) ?_
    refine i_aload_n C dX5_now_47 rfl (lv_at hl 0 rfl) ?_
    obtain ⟨x4, e1, h⟩ := w_bdr h
    refine x_callVi C hX (fg_37_0 G) (c_X5_landed (gl Γ) G  e1) [] rfl hl tw5_60 tw5_62 ts3_0 tw1_7 tw5_63 rfl nd_X5_landed ⟨(Nat.le_of_ble_eq_true rfl), (Nat.le_of_ble_eq_true rfl)⟩ (Nat.le_of_ble_eq_true rfl) dX5_now_48 (fun H locs hX => ?_)
    exact x_iretW C hX hr hQ h dX5_now_51
  refine i_case h (fun e h => ?_) (fun n5 h => ?_)
  · refine i_tabIn (tgt := 52) C e dX5_now_1 (by decide) (by decide) rfl (by decide) ?_
    refine i_aload_n C dX5_now_52 rfl (lv_at hl 0 rfl) ?_
    obtain ⟨x5, e2, h⟩ := w_bdr h
    refine x_callVi C hX (fg_37_0 G) (c_X5_hungriest (gl Γ) G  e2) [] rfl hl tw5_72 tw5_74 ts3_1 tw1_7 tw5_75 rfl nd_X5_hungriest ⟨(Nat.le_of_ble_eq_true rfl), (Nat.le_of_ble_eq_true rfl)⟩ (Nat.le_of_ble_eq_true rfl) dX5_now_53 (fun H locs hX => ?_)
    exact x_iretW C hX hr hQ h dX5_now_56
  refine i_case h (fun e h => ?_) (fun n6 h => ?_)
  · refine i_tabIn (tgt := 57) C e dX5_now_1 (by decide) (by decide) rfl (by decide) ?_
    refine i_aload_n C dX5_now_57 rfl (lv_at hl 0 rfl) ?_
    obtain ⟨x6, e3, h⟩ := w_bdr h
    refine x_callVi C hX (fg_37_0 G) (c_X5_islands (gl Γ) G  e3) [] rfl hl tw5_77 tw5_79 ts3_2 tw1_7 tw5_80 rfl nd_X5_islands ⟨(Nat.le_of_ble_eq_true rfl), (Nat.le_of_ble_eq_true rfl)⟩ (Nat.le_of_ble_eq_true rfl) dX5_now_58 (fun H locs hX => ?_)
    exact x_iretW C hX hr hQ h dX5_now_61
  refine i_tabOut (tgt := 62) C (by have := ne_t (n := 0) (by decide) n1; have := ne_t (n := 1) (by decide) n2; have := ne_t (n := 2) (by decide) n3; have := ne_t (n := 3) (by decide) n4; have := ne_t (n := 4) (by decide) n5; have := ne_t (n := 5) (by decide) n6; omega) dX5_now_1 (by decide) ?_
  refine i_aload_n C dX5_now_62 rfl (lv_at hl 0 rfl) ?_
  refine i_ldc C tw4_172 dX5_now_63 ?_
  obtain ⟨x7, m1, e4, h⟩ := w_bdw h
  refine x_callVi C hX (fg_37_0 G) (c_X5_finding (gl Γ) G  e4) [] rfl hl tw4_173 tw4_175 ts1_15 tw1_7 tw4_176 rfl nd_X5_finding ⟨(Nat.le_of_ble_eq_true rfl), (Nat.le_of_ble_eq_true rfl)⟩ (Nat.le_of_ble_eq_true rfl) dX5_now_65 (fun H locs hX => ?_)
  exact x_iretW C hX hr hQ h dX5_now_68
def f_X5_aheadOf (p1 : Int32) (p2 : Int32) (μ : MM) : Option (Int32 × MM) := bdr (f_X5_copyRow 38 152 40 152 μ) fun m1 => bdr (f_X5_watches p2 m1) fun m2 => bdr (f_X5_shipIs p1 0 m2) fun x1 => bdw (f_X5_putBack x1 m2) fun x2 m3 => some (x2, m3)
theorem nd_X5_aheadOf : yX5_aheadOf.cls ≠ "java/lang/invoke/MethodHandle" ∧ yX5_aheadOf.cls ≠ "java/lang/invoke/VarHandle" ∧ (parseMethodDescriptor yX5_aheadOf.desc).map (fun d => d.parameters.length) = some 2 := by decide +kernel
set_option maxHeartbeats 4000000 in
set_option maxRecDepth 100000 in
theorem c_X5_aheadOf (l : Launch) (G : EN)  {p1 p2 : Int32} {μ : MM} {r : Int32} {m : MM} (h : f_X5_aheadOf p1 p2 μ = some (r, m)) : XM l G yX5_aheadOf cX5_aheadOf 3 (some .int) 9 201 [.ref (G.2.1 37), .int p1, .int p2] μ (some (.int r)) m := by
  refine x_met (own := RX5) (by decide +kernel) rfl (Nat.le_of_ble_eq_true rfl) (fun Γ A H ls hg C hr hX hQ hl => ?_)
  have hl : lv_has ls 3 [(0, .ref (G.2.1 37)), (1, .int p1), (2, .int p2)] := hl
  unfold f_X5_aheadOf at h
  refine i_aload_n C dX5_aheadOf_0 rfl (lv_at hl 0 rfl) ?_
  refine x_get C hX (fg_37_0 G) tw4_83 dX5_aheadOf_1 ?_
  refine i_aload_n C dX5_aheadOf_4 rfl (lv_at hl 0 rfl) ?_
  refine x_get C hX (fg_37_2 G) tw4_85 dX5_aheadOf_5 ?_
  obtain ⟨m1, e1, h⟩ := w_bdr h
  refine x_callSv C hX (c_X5_copyRow (gl Γ) G (ai_38 G) (ai_40 G) e1) [] rfl hl tw5_89 tw5_90 tw1_7 tw5_91 nd_X5_copyRow ⟨(Nat.le_of_ble_eq_true rfl), (Nat.le_of_ble_eq_true rfl)⟩ (Nat.le_of_ble_eq_true rfl) dX5_aheadOf_8 (fun H locs hX => ?_)
  refine i_aload_n C dX5_aheadOf_11 rfl (lv_at hl 0 rfl) ?_
  refine i_iload_n C dX5_aheadOf_12 rfl (lv_at hl 2 rfl) ?_
  obtain ⟨m2, e2, h⟩ := w_bdr h
  refine x_callVv C hX (fg_37_0 G) (c_X5_watches (gl Γ) G  e2) [] rfl hl tw5_51 tw5_53 ts2_14 tw1_7 tw5_54 rfl nd_X5_watches ⟨(Nat.le_of_ble_eq_true rfl), (Nat.le_of_ble_eq_true rfl)⟩ (Nat.le_of_ble_eq_true rfl) dX5_aheadOf_13 (fun H locs hX => ?_)
  refine i_aload_n C dX5_aheadOf_16 rfl (lv_at hl 0 rfl) ?_
  refine i_aload_n C dX5_aheadOf_17 rfl (lv_at hl 0 rfl) ?_
  refine i_iload_n C dX5_aheadOf_18 rfl (lv_at hl 1 rfl) ?_
  refine i_iconst (v := 0) C dX5_aheadOf_19 rfl ?_
  obtain ⟨x1, e3, h⟩ := w_bdr h
  refine x_callVi C hX (fg_37_0 G) (c_X5_shipIs (gl Γ) G  e3) [.ref (G.2.1 37)] rfl hl tw4_223 tw4_225 ts2_6 tw1_7 tw4_226 rfl nd_X5_shipIs ⟨(Nat.le_of_ble_eq_true rfl), (Nat.le_of_ble_eq_true rfl)⟩ (Nat.le_of_ble_eq_true rfl) dX5_aheadOf_20 (fun H locs hX => ?_)
  obtain ⟨x2, m3, e4, h⟩ := w_bdw h
  refine x_callVi C hX (fg_37_0 G) (c_X5_putBack (gl Γ) G  e4) [] rfl hl tw5_92 tw5_94 ts3_4 tw1_7 tw5_95 rfl nd_X5_putBack ⟨(Nat.le_of_ble_eq_true rfl), (Nat.le_of_ble_eq_true rfl)⟩ (Nat.le_of_ble_eq_true rfl) dX5_aheadOf_23 (fun H locs hX => ?_)
  exact x_iretW C hX hr hQ h dX5_aheadOf_26
def f_X5_ahead (p1 : Int32) (p2 : Int32) (μ : MM) : Option (Int32 × MM) := bdr (f_X5_isShip p1) fun x1 => if x1 = 0 then (bdw (f_X5_finding (-1000001) μ) fun x2 m1 => some (x2, m1)) else (bdr (f_X5_within p2 0 200) fun x3 => if x3 = 0 then (bdw (f_X5_finding (-1000001) μ) fun x4 m2 => some (x4, m2)) else (bdw (f_X5_aheadOf p1 p2 μ) fun x5 m3 => some (x5, m3)))
theorem nd_X5_ahead : yX5_ahead.cls ≠ "java/lang/invoke/MethodHandle" ∧ yX5_ahead.cls ≠ "java/lang/invoke/VarHandle" ∧ (parseMethodDescriptor yX5_ahead.desc).map (fun d => d.parameters.length) = some 2 := by decide +kernel
set_option maxHeartbeats 4000000 in
set_option maxRecDepth 100000 in
theorem c_X5_ahead (l : Launch) (G : EN)  {p1 p2 : Int32} {μ : MM} {r : Int32} {m : MM} (h : f_X5_ahead p1 p2 μ = some (r, m)) : XM l G yX5_ahead cX5_ahead 3 (some .int) 10 223 [.ref (G.2.1 37), .int p1, .int p2] μ (some (.int r)) m := by
  refine x_met (own := RX5) (by decide +kernel) rfl (Nat.le_of_ble_eq_true rfl) (fun Γ A H ls hg C hr hX hQ hl => ?_)
  have hl : lv_has ls 3 [(0, .ref (G.2.1 37)), (1, .int p1), (2, .int p2)] := hl
  unfold f_X5_ahead at h
  refine i_iload_n C dX5_ahead_0 rfl (lv_at hl 1 rfl) ?_
  obtain ⟨x1, e1, h⟩ := w_bdr h
  refine x_callSi C hX (c_X5_isShip (gl Γ) G  e1) [] rfl hl tw4_216 tw4_217 tw1_7 tw4_218 nd_X5_isShip ⟨(Nat.le_of_ble_eq_true rfl), (Nat.le_of_ble_eq_true rfl)⟩ (Nat.le_of_ble_eq_true rfl) dX5_ahead_1 (fun H locs hX => ?_)
  refine i_if_eq (tgt := 27) C h dX5_ahead_4 (by decide) (fun _ h => ?_) (fun _ h => ?_)
  · refine i_aload_n C dX5_ahead_27 rfl (lv_at hl 0 rfl) ?_
    refine i_ldc C tw4_172 dX5_ahead_28 ?_
    obtain ⟨x2, m1, e2, h⟩ := w_bdw h
    refine x_callVi C hX (fg_37_0 G) (c_X5_finding (gl Γ) G  e2) [] rfl hl tw4_173 tw4_175 ts1_15 tw1_7 tw4_176 rfl nd_X5_finding ⟨(Nat.le_of_ble_eq_true rfl), (Nat.le_of_ble_eq_true rfl)⟩ (Nat.le_of_ble_eq_true rfl) dX5_ahead_30 (fun H locs hX => ?_)
    exact x_iretW C hX hr hQ h dX5_ahead_33
  refine i_iload_n C dX5_ahead_7 rfl (lv_at hl 2 rfl) ?_
  refine i_iconst (v := 0) C dX5_ahead_8 rfl ?_
  refine i_sipush (v := 200) C dX5_ahead_9 rfl ?_
  obtain ⟨x3, e3, h⟩ := w_bdr h
  refine x_callSi C hX (c_X5_within (gl Γ) G  e3) [] rfl hl tw4_169 tw4_170 tw1_7 tw4_171 nd_X5_within ⟨(Nat.le_of_ble_eq_true rfl), (Nat.le_of_ble_eq_true rfl)⟩ (Nat.le_of_ble_eq_true rfl) dX5_ahead_12 (fun H locs hX => ?_)
  refine i_if_eq (tgt := 27) C h dX5_ahead_15 (by decide) (fun _ h => ?_) (fun _ h => ?_)
  · refine i_aload_n C dX5_ahead_27 rfl (lv_at hl 0 rfl) ?_
    refine i_ldc C tw4_172 dX5_ahead_28 ?_
    obtain ⟨x4, m2, e4, h⟩ := w_bdw h
    refine x_callVi C hX (fg_37_0 G) (c_X5_finding (gl Γ) G  e4) [] rfl hl tw4_173 tw4_175 ts1_15 tw1_7 tw4_176 rfl nd_X5_finding ⟨(Nat.le_of_ble_eq_true rfl), (Nat.le_of_ble_eq_true rfl)⟩ (Nat.le_of_ble_eq_true rfl) dX5_ahead_30 (fun H locs hX => ?_)
    exact x_iretW C hX hr hQ h dX5_ahead_33
  refine i_aload_n C dX5_ahead_18 rfl (lv_at hl 0 rfl) ?_
  refine i_iload_n C dX5_ahead_19 rfl (lv_at hl 1 rfl) ?_
  refine i_iload_n C dX5_ahead_20 rfl (lv_at hl 2 rfl) ?_
  obtain ⟨x5, m3, e5, h⟩ := w_bdw h
  refine x_callVi C hX (fg_37_0 G) (c_X5_aheadOf (gl Γ) G  e5) [] rfl hl tw5_85 tw5_87 ts3_3 tw1_7 tw5_88 rfl nd_X5_aheadOf ⟨(Nat.le_of_ble_eq_true rfl), (Nat.le_of_ble_eq_true rfl)⟩ (Nat.le_of_ble_eq_true rfl) dX5_ahead_21 (fun H locs hX => ?_)
  refine i_goto (tgt := 33) C dX5_ahead_24 (by decide) ?_
  exact x_iretW C hX hr hQ h dX5_ahead_33
def L_X5_landsIn_13 (p1 : Int32) (p2 : Int32) (k1 : Int32 → MM → Option (Int32 × MM)) : Nat → Int32 → MM → Option (Int32 × MM)
  | 0, _, _ => none
  | fu + 1, x5, m5 => if p2 ≤ x5 then (k1 x5 m5) else (bdr (f_X5_isLanded p1 m5) fun x6 => if x6 = 0 then (bdr (f_X5_watch m5) fun m6 => lt_ (x5 + 1) fun x7 => L_X5_landsIn_13 p1 p2 k1 fu x7 m6) else (k1 x5 m5))
def f_X5_landsIn (p1 : Int32) (p2 : Int32) (μ : MM) : Option (Int32 × MM) := bdr (f_X5_copyRow 38 152 40 152 μ) fun m1 => jn2 (fun (x1 : Int32) (m2 : MM) => bdr (f_X5_isLanded p1 m2) fun x2 => if x2 = 0 then (bdw (f_X5_putBack 1000000 m2) fun x3 m3 => some (x3, m3)) else (bdw (f_X5_putBack x1 m2) fun x4 m4 => some (x4, m4))) fun k1 => L_X5_landsIn_13 p1 p2 k1 FU 0 m1
theorem nd_X5_landsIn : yX5_landsIn.cls ≠ "java/lang/invoke/MethodHandle" ∧ yX5_landsIn.cls ≠ "java/lang/invoke/VarHandle" ∧ (parseMethodDescriptor yX5_landsIn.desc).map (fun d => d.parameters.length) = some 2 := by decide +kernel
set_option maxHeartbeats 4000000 in
set_option maxRecDepth 100000 in
theorem c_X5_landsIn (l : Launch) (G : EN)  {p1 p2 : Int32} {μ : MM} {r : Int32} {m : MM} (h : f_X5_landsIn p1 p2 μ = some (r, m)) : XM l G yX5_landsIn cX5_landsIn 4 (some .int) 8 179 [.ref (G.2.1 37), .int p1, .int p2] μ (some (.int r)) m := by
  refine x_met (own := RX5) (by decide +kernel) rfl (Nat.le_of_ble_eq_true rfl) (fun Γ A H ls hg C hr hX hQ hl => ?_)
  have hl : lv_has ls 4 [(0, .ref (G.2.1 37)), (1, .int p1), (2, .int p2)] := hl
  unfold f_X5_landsIn at h
  refine i_aload_n C dX5_landsIn_0 rfl (lv_at hl 0 rfl) ?_
  refine x_get C hX (fg_37_0 G) tw4_83 dX5_landsIn_1 ?_
  refine i_aload_n C dX5_landsIn_4 rfl (lv_at hl 0 rfl) ?_
  refine x_get C hX (fg_37_2 G) tw4_85 dX5_landsIn_5 ?_
  obtain ⟨m1, e1, h⟩ := w_bdr h
  refine x_callSv C hX (c_X5_copyRow (gl Γ) G (ai_38 G) (ai_40 G) e1) [] rfl hl tw5_89 tw5_90 tw1_7 tw5_91 nd_X5_copyRow ⟨(Nat.le_of_ble_eq_true rfl), (Nat.le_of_ble_eq_true rfl)⟩ (Nat.le_of_ble_eq_true rfl) dX5_landsIn_8 (fun H locs hX => ?_)
  refine i_iconst (v := 0) C dX5_landsIn_11 rfl ?_
  refine i_istore_n C [(3, .int 0), (0, .ref (G.2.1 37)), (1, .int p1), (2, .int p2)] dX5_landsIn_12 rfl hl (by decide) rfl (fun ls hl => ?_)
  refine w_jn2 (fun (x1 : Int32) (m2 : MM) => ∀ (H : Heap) (locs : List Loc) (ls : Array Slot), lv_has ls 4 [(0, .ref (G.2.1 37)), (1, .int p1), (3, .int x1)] → XW G A (gs Γ) H locs m2 → WX Γ H locs 36 ls []) h (fun x1 m2 h H locs ls hl hX => ?_) (fun k1 J1 h => ?_)
  · refine i_aload_n C dX5_landsIn_36 rfl (lv_at hl 0 rfl) ?_
    refine i_aload_n C dX5_landsIn_37 rfl (lv_at hl 0 rfl) ?_
    refine i_iload_n C dX5_landsIn_38 rfl (lv_at hl 1 rfl) ?_
    obtain ⟨x2, e2, h⟩ := w_bdr h
    refine x_callVi C hX (fg_37_0 G) (c_X5_isLanded (gl Γ) G  e2) [.ref (G.2.1 37)] rfl hl tw5_5 tw5_7 ts2_10 tw1_7 tw5_8 rfl nd_X5_isLanded ⟨(Nat.le_of_ble_eq_true rfl), (Nat.le_of_ble_eq_true rfl)⟩ (Nat.le_of_ble_eq_true rfl) dX5_landsIn_39 (fun H locs hX => ?_)
    refine i_if_eq (tgt := 49) C h dX5_landsIn_42 (by decide) (fun _ h => ?_) (fun _ h => ?_)
    · refine i_ldc C tw5_104 dX5_landsIn_49 ?_
      obtain ⟨x3, m3, e3, h⟩ := w_bdw h
      refine x_callVi C hX (fg_37_0 G) (c_X5_putBack (gl Γ) G  e3) [] rfl hl tw5_92 tw5_94 ts3_4 tw1_7 tw5_95 rfl nd_X5_putBack ⟨(Nat.le_of_ble_eq_true rfl), (Nat.le_of_ble_eq_true rfl)⟩ (Nat.le_of_ble_eq_true rfl) dX5_landsIn_51 (fun H locs hX => ?_)
      exact x_iretW C hX hr hQ h dX5_landsIn_54
    refine i_iload_n C dX5_landsIn_45 rfl (lv_at hl 2 rfl) ?_
    refine i_goto (tgt := 51) C dX5_landsIn_46 (by decide) ?_
    obtain ⟨x4, m4, e4, h⟩ := w_bdw h
    refine x_callVi C hX (fg_37_0 G) (c_X5_putBack (gl Γ) G  e4) [] rfl hl tw5_92 tw5_94 ts3_4 tw1_7 tw5_95 rfl nd_X5_putBack ⟨(Nat.le_of_ble_eq_true rfl), (Nat.le_of_ble_eq_true rfl)⟩ (Nat.le_of_ble_eq_true rfl) dX5_landsIn_51 (fun H locs hX => ?_)
    exact x_iretW C hX hr hQ h dX5_landsIn_54
  have L1 : ∀ (fu : Nat) (x5 : Int32) (m5 : MM) (H : Heap) (locs : List Loc) (ls : Array Slot), L_X5_landsIn_13 p1 p2 k1 fu x5 m5 = some (r, m) → lv_has ls 4 [(0, .ref (G.2.1 37)), (1, .int p1), (2, .int p2), (3, .int x5)] → XW G A (gs Γ) H locs m5 → WX Γ H locs 13 ls [] := by
    intro fu
    induction fu with
    | zero =>
      intro x5 m5 H locs ls h
      rw [L_X5_landsIn_13] at h
      cases h
    | succ fu ih =>
      intro x5 m5 H locs ls h hl hX
      rw [L_X5_landsIn_13] at h
      refine i_iload_n C dX5_landsIn_13 rfl (lv_at hl 3 rfl) ?_
      refine i_iload_n C dX5_landsIn_14 rfl (lv_at hl 2 rfl) ?_
      refine i_icmp_ge (tgt := 36) C h dX5_landsIn_15 (by decide) (fun _ h => ?_) (fun _ h => ?_)
      · exact J1 _ _ h _ _ _ (lv_sub hl [0, 1, 3] rfl) hX
      refine i_aload_n C dX5_landsIn_18 rfl (lv_at hl 0 rfl) ?_
      refine i_iload_n C dX5_landsIn_19 rfl (lv_at hl 1 rfl) ?_
      obtain ⟨x6, e5, h⟩ := w_bdr h
      refine x_callVi C hX (fg_37_0 G) (c_X5_isLanded (gl Γ) G  e5) [] rfl hl tw5_5 tw5_7 ts2_10 tw1_7 tw5_8 rfl nd_X5_isLanded ⟨(Nat.le_of_ble_eq_true rfl), (Nat.le_of_ble_eq_true rfl)⟩ (Nat.le_of_ble_eq_true rfl) dX5_landsIn_20 (fun H locs hX => ?_)
      refine i_if_ne (tgt := 36) C h dX5_landsIn_23 (by decide) (fun _ h => ?_) (fun _ h => ?_)
      · exact J1 _ _ h _ _ _ (lv_sub hl [0, 1, 3] rfl) hX
      refine i_aload_n C dX5_landsIn_26 rfl (lv_at hl 0 rfl) ?_
      obtain ⟨m6, e6, h⟩ := w_bdr h
      refine x_callVv C hX (fg_37_0 G) (c_X5_watch (gl Γ) G  e6) [] rfl hl tw5_55 tw5_57 ts2_15 tw1_7 tw5_58 rfl nd_X5_watch ⟨(Nat.le_of_ble_eq_true rfl), (Nat.le_of_ble_eq_true rfl)⟩ (Nat.le_of_ble_eq_true rfl) dX5_landsIn_27 (fun H locs hX => ?_)
      refine i_iinc C (j := 3) (fun x7 => [(3, .int x7), (0, .ref (G.2.1 37)), (1, .int p1), (2, .int p2)]) h dX5_landsIn_30 hl rfl rfl (by decide) (fun _ => rfl) (fun x7 ls h hl => ?_)
      refine i_goto (tgt := 13) C dX5_landsIn_33 (by decide) ?_
      exact ih _ _ _ _ _ h (lv_sub hl [1, 2, 3, 0] rfl) hX
  exact L1 FU _ _ _ _ _ h (lv_sub hl [1, 2, 3, 0] rfl) hX
def f_X5_told (p1 : Int32) (μ : MM) : Option (Int32 × MM) := if p1 = 1000000 then (bdw (f_X5_finding (-1000004) μ) fun x1 m1 => some (x1, m1)) else (some (p1, μ))
theorem nd_X5_told : yX5_told.cls ≠ "java/lang/invoke/MethodHandle" ∧ yX5_told.cls ≠ "java/lang/invoke/VarHandle" ∧ (parseMethodDescriptor yX5_told.desc).map (fun d => d.parameters.length) = some 1 := by decide +kernel
set_option maxHeartbeats 4000000 in
set_option maxRecDepth 100000 in
theorem c_X5_told (l : Launch) (G : EN)  {p1 : Int32} {μ : MM} {r : Int32} {m : MM} (h : f_X5_told p1 μ = some (r, m)) : XM l G yX5_told cX5_told 2 (some .int) 1 21 [.ref (G.2.1 37), .int p1] μ (some (.int r)) m := by
  refine x_met (own := RX5) (by decide +kernel) rfl (Nat.le_of_ble_eq_true rfl) (fun Γ A H ls hg C hr hX hQ hl => ?_)
  have hl : lv_has ls 2 [(0, .ref (G.2.1 37)), (1, .int p1)] := hl
  unfold f_X5_told at h
  refine i_iload_n C dX5_told_0 rfl (lv_at hl 1 rfl) ?_
  refine i_ldc C tw5_104 dX5_told_1 ?_
  refine i_icmp_ne (tgt := 15) C h dX5_told_3 (by decide) (fun _ h => ?_) (fun _ h => ?_)
  · refine i_iload_n C dX5_told_15 rfl (lv_at hl 1 rfl) ?_
    exact x_iretW C hX hr hQ h dX5_told_16
  refine i_aload_n C dX5_told_6 rfl (lv_at hl 0 rfl) ?_
  refine i_ldc C tw5_109 dX5_told_7 ?_
  obtain ⟨x1, m1, e1, h⟩ := w_bdw h
  refine x_callVi C hX (fg_37_0 G) (c_X5_finding (gl Γ) G  e1) [] rfl hl tw4_173 tw4_175 ts1_15 tw1_7 tw4_176 rfl nd_X5_finding ⟨(Nat.le_of_ble_eq_true rfl), (Nat.le_of_ble_eq_true rfl)⟩ (Nat.le_of_ble_eq_true rfl) dX5_told_9 (fun H locs hX => ?_)
  refine i_goto (tgt := 16) C dX5_told_12 (by decide) ?_
  exact x_iretW C hX hr hQ h dX5_told_16
def f_X5_lands (p1 : Int32) (μ : MM) : Option (Int32 × MM) := bdr (f_X5_isShip p1) fun x1 => if x1 = 0 then (bdw (f_X5_finding (-1000001) μ) fun x2 m1 => some (x2, m1)) else (bdw (f_X5_landsIn p1 200 μ) fun x3 m2 => bdw (f_X5_told x3 m2) fun x4 m3 => some (x4, m3))
theorem nd_X5_lands : yX5_lands.cls ≠ "java/lang/invoke/MethodHandle" ∧ yX5_lands.cls ≠ "java/lang/invoke/VarHandle" ∧ (parseMethodDescriptor yX5_lands.desc).map (fun d => d.parameters.length) = some 1 := by decide +kernel
set_option maxHeartbeats 4000000 in
set_option maxRecDepth 100000 in
theorem c_X5_lands (l : Launch) (G : EN)  {p1 : Int32} {μ : MM} {r : Int32} {m : MM} (h : f_X5_lands p1 μ = some (r, m)) : XM l G yX5_lands cX5_lands 2 (some .int) 9 202 [.ref (G.2.1 37), .int p1] μ (some (.int r)) m := by
  refine x_met (own := RX5) (by decide +kernel) rfl (Nat.le_of_ble_eq_true rfl) (fun Γ A H ls hg C hr hX hQ hl => ?_)
  have hl : lv_has ls 2 [(0, .ref (G.2.1 37)), (1, .int p1)] := hl
  unfold f_X5_lands at h
  refine i_iload_n C dX5_lands_0 rfl (lv_at hl 1 rfl) ?_
  obtain ⟨x1, e1, h⟩ := w_bdr h
  refine x_callSi C hX (c_X5_isShip (gl Γ) G  e1) [] rfl hl tw4_216 tw4_217 tw1_7 tw4_218 nd_X5_isShip ⟨(Nat.le_of_ble_eq_true rfl), (Nat.le_of_ble_eq_true rfl)⟩ (Nat.le_of_ble_eq_true rfl) dX5_lands_1 (fun H locs hX => ?_)
  refine i_if_eq (tgt := 22) C h dX5_lands_4 (by decide) (fun _ h => ?_) (fun _ h => ?_)
  · refine i_aload_n C dX5_lands_22 rfl (lv_at hl 0 rfl) ?_
    refine i_ldc C tw4_172 dX5_lands_23 ?_
    obtain ⟨x2, m1, e2, h⟩ := w_bdw h
    refine x_callVi C hX (fg_37_0 G) (c_X5_finding (gl Γ) G  e2) [] rfl hl tw4_173 tw4_175 ts1_15 tw1_7 tw4_176 rfl nd_X5_finding ⟨(Nat.le_of_ble_eq_true rfl), (Nat.le_of_ble_eq_true rfl)⟩ (Nat.le_of_ble_eq_true rfl) dX5_lands_25 (fun H locs hX => ?_)
    exact x_iretW C hX hr hQ h dX5_lands_28
  refine i_aload_n C dX5_lands_7 rfl (lv_at hl 0 rfl) ?_
  refine i_aload_n C dX5_lands_8 rfl (lv_at hl 0 rfl) ?_
  refine i_iload_n C dX5_lands_9 rfl (lv_at hl 1 rfl) ?_
  refine i_sipush (v := 200) C dX5_lands_10 rfl ?_
  obtain ⟨x3, m2, e3, h⟩ := w_bdw h
  refine x_callVi C hX (fg_37_0 G) (c_X5_landsIn (gl Γ) G  e3) [.ref (G.2.1 37)] rfl hl tw5_100 tw5_102 ts3_5 tw1_7 tw5_103 rfl nd_X5_landsIn ⟨(Nat.le_of_ble_eq_true rfl), (Nat.le_of_ble_eq_true rfl)⟩ (Nat.le_of_ble_eq_true rfl) dX5_lands_13 (fun H locs hX => ?_)
  obtain ⟨x4, m3, e4, h⟩ := w_bdw h
  refine x_callVi C hX (fg_37_0 G) (c_X5_told (gl Γ) G  e4) [] rfl hl tw5_105 tw5_107 ts3_6 tw1_7 tw5_108 rfl nd_X5_told ⟨(Nat.le_of_ble_eq_true rfl), (Nat.le_of_ble_eq_true rfl)⟩ (Nat.le_of_ble_eq_true rfl) dX5_lands_16 (fun H locs hX => ?_)
  refine i_goto (tgt := 28) C dX5_lands_19 (by decide) ?_
  exact x_iretW C hX hr hQ h dX5_lands_28
def L_X5_meets_39 (p1 : Int32) (p2 : Int32) (k2 : Int32 → MM → Option (Int32 × MM)) : Nat → Int32 → MM → Option (Int32 × MM)
  | 0, _, _ => none
  | fu + 1, x13, m9 => if 200 ≤ x13 then (k2 x13 m9) else (bdr (f_X5_shipIs p1 0 m9) fun x14 => bdr (f_X5_shipIs p2 0 m9) fun x15 => if x14 = x15 then (k2 x13 m9) else (bdr (f_X5_watch m9) fun m10 => lt_ (x13 + 1) fun x16 => L_X5_meets_39 p1 p2 k2 fu x16 m10))
def f_X5_meets (p1 : Int32) (p2 : Int32) (μ : MM) : Option (Int32 × MM) := bdr (f_X5_isShip p1) fun x1 => if x1 = 0 then (bdw (f_X5_finding (-1000001) μ) fun x2 m1 => some (x2, m1)) else (bdr (f_X5_isShip p2) fun x3 => if x3 = 0 then (bdw (f_X5_finding (-1000001) μ) fun x4 m2 => some (x4, m2)) else (if p1 = p2 then (bdw (f_X5_finding (-1000001) μ) fun x17 m11 => some (x17, m11)) else (bdr (f_X5_copyRow 38 152 40 152 μ) fun m3 => jn2 (fun (x5 : Int32) (m4 : MM) => bdr (f_X5_shipIs p1 0 m4) fun x6 => bdr (f_X5_shipIs p2 0 m4) fun x7 => jn1 (fun (x8 : Int32) => if x8 = 0 then (bdw (f_X5_putBack 1000000 m4) fun x9 m5 => bdw (f_X5_told x9 m5) fun x10 m6 => some (x10, m6)) else (bdw (f_X5_putBack x5 m4) fun x11 m7 => bdw (f_X5_told x11 m7) fun x12 m8 => some (x12, m8))) fun k1 => if x6 = x7 then (k1 1) else (k1 0)) fun k2 => L_X5_meets_39 p1 p2 k2 FU 0 m3)))
theorem nd_X5_meets : yX5_meets.cls ≠ "java/lang/invoke/MethodHandle" ∧ yX5_meets.cls ≠ "java/lang/invoke/VarHandle" ∧ (parseMethodDescriptor yX5_meets.desc).map (fun d => d.parameters.length) = some 2 := by decide +kernel
set_option maxHeartbeats 4000000 in
set_option maxRecDepth 100000 in
theorem c_X5_meets (l : Launch) (G : EN)  {p1 p2 : Int32} {μ : MM} {r : Int32} {m : MM} (h : f_X5_meets p1 p2 μ = some (r, m)) : XM l G yX5_meets cX5_meets 5 (some .int) 8 179 [.ref (G.2.1 37), .int p1, .int p2] μ (some (.int r)) m := by
  refine x_met (own := RX5) (by decide +kernel) rfl (Nat.le_of_ble_eq_true rfl) (fun Γ A H ls hg C hr hX hQ hl => ?_)
  have hl : lv_has ls 5 [(0, .ref (G.2.1 37)), (1, .int p1), (2, .int p2)] := hl
  unfold f_X5_meets at h
  refine i_iload_n C dX5_meets_0 rfl (lv_at hl 1 rfl) ?_
  obtain ⟨x1, e1, h⟩ := w_bdr h
  refine x_callSi C hX (c_X5_isShip (gl Γ) G  e1) [] rfl hl tw4_216 tw4_217 tw1_7 tw4_218 nd_X5_isShip ⟨(Nat.le_of_ble_eq_true rfl), (Nat.le_of_ble_eq_true rfl)⟩ (Nat.le_of_ble_eq_true rfl) dX5_meets_1 (fun H locs hX => ?_)
  refine i_if_eq (tgt := 19) C h dX5_meets_4 (by decide) (fun _ h => ?_) (fun _ h => ?_)
  · refine i_aload_n C dX5_meets_19 rfl (lv_at hl 0 rfl) ?_
    refine i_ldc C tw4_172 dX5_meets_20 ?_
    obtain ⟨x2, m1, e2, h⟩ := w_bdw h
    refine x_callVi C hX (fg_37_0 G) (c_X5_finding (gl Γ) G  e2) [] rfl hl tw4_173 tw4_175 ts1_15 tw1_7 tw4_176 rfl nd_X5_finding ⟨(Nat.le_of_ble_eq_true rfl), (Nat.le_of_ble_eq_true rfl)⟩ (Nat.le_of_ble_eq_true rfl) dX5_meets_22 (fun H locs hX => ?_)
    exact x_iretW C hX hr hQ h dX5_meets_25
  refine i_iload_n C dX5_meets_7 rfl (lv_at hl 2 rfl) ?_
  obtain ⟨x3, e3, h⟩ := w_bdr h
  refine x_callSi C hX (c_X5_isShip (gl Γ) G  e3) [] rfl hl tw4_216 tw4_217 tw1_7 tw4_218 nd_X5_isShip ⟨(Nat.le_of_ble_eq_true rfl), (Nat.le_of_ble_eq_true rfl)⟩ (Nat.le_of_ble_eq_true rfl) dX5_meets_8 (fun H locs hX => ?_)
  refine i_if_eq (tgt := 19) C h dX5_meets_11 (by decide) (fun _ h => ?_) (fun _ h => ?_)
  · refine i_aload_n C dX5_meets_19 rfl (lv_at hl 0 rfl) ?_
    refine i_ldc C tw4_172 dX5_meets_20 ?_
    obtain ⟨x4, m2, e4, h⟩ := w_bdw h
    refine x_callVi C hX (fg_37_0 G) (c_X5_finding (gl Γ) G  e4) [] rfl hl tw4_173 tw4_175 ts1_15 tw1_7 tw4_176 rfl nd_X5_finding ⟨(Nat.le_of_ble_eq_true rfl), (Nat.le_of_ble_eq_true rfl)⟩ (Nat.le_of_ble_eq_true rfl) dX5_meets_22 (fun H locs hX => ?_)
    exact x_iretW C hX hr hQ h dX5_meets_25
  refine i_iload_n C dX5_meets_14 rfl (lv_at hl 1 rfl) ?_
  refine i_iload_n C dX5_meets_15 rfl (lv_at hl 2 rfl) ?_
  refine i_icmp_ne (tgt := 26) C h dX5_meets_16 (by decide) (fun _ h => ?_) (fun _ h => ?_)
  · refine i_aload_n C dX5_meets_26 rfl (lv_at hl 0 rfl) ?_
    refine x_get C hX (fg_37_0 G) tw4_83 dX5_meets_27 ?_
    refine i_aload_n C dX5_meets_30 rfl (lv_at hl 0 rfl) ?_
    refine x_get C hX (fg_37_2 G) tw4_85 dX5_meets_31 ?_
    obtain ⟨m3, e5, h⟩ := w_bdr h
    refine x_callSv C hX (c_X5_copyRow (gl Γ) G (ai_38 G) (ai_40 G) e5) [] rfl hl tw5_89 tw5_90 tw1_7 tw5_91 nd_X5_copyRow ⟨(Nat.le_of_ble_eq_true rfl), (Nat.le_of_ble_eq_true rfl)⟩ (Nat.le_of_ble_eq_true rfl) dX5_meets_34 (fun H locs hX => ?_)
    refine i_iconst (v := 0) C dX5_meets_37 rfl ?_
    refine i_istore_n C [(3, .int 0), (0, .ref (G.2.1 37)), (1, .int p1), (2, .int p2)] dX5_meets_38 rfl hl (by decide) rfl (fun ls hl => ?_)
    refine w_jn2 (fun (x5 : Int32) (m4 : MM) => ∀ (H : Heap) (locs : List Loc) (ls : Array Slot), lv_has ls 5 [(0, .ref (G.2.1 37)), (1, .int p1), (2, .int p2), (3, .int x5)] → XW G A (gs Γ) H locs m4 → WX Γ H locs 71 ls []) h (fun x5 m4 h H locs ls hl hX => ?_) (fun k2 J2 h => ?_)
    · refine i_aload_n C dX5_meets_71 rfl (lv_at hl 0 rfl) ?_
      refine i_iload_n C dX5_meets_72 rfl (lv_at hl 1 rfl) ?_
      refine i_iconst (v := 0) C dX5_meets_73 rfl ?_
      obtain ⟨x6, e6, h⟩ := w_bdr h
      refine x_callVi C hX (fg_37_0 G) (c_X5_shipIs (gl Γ) G  e6) [] rfl hl tw4_223 tw4_225 ts2_6 tw1_7 tw4_226 rfl nd_X5_shipIs ⟨(Nat.le_of_ble_eq_true rfl), (Nat.le_of_ble_eq_true rfl)⟩ (Nat.le_of_ble_eq_true rfl) dX5_meets_74 (fun H locs hX => ?_)
      refine i_aload_n C dX5_meets_77 rfl (lv_at hl 0 rfl) ?_
      refine i_iload_n C dX5_meets_78 rfl (lv_at hl 2 rfl) ?_
      refine i_iconst (v := 0) C dX5_meets_79 rfl ?_
      obtain ⟨x7, e7, h⟩ := w_bdr h
      refine x_callVi C hX (fg_37_0 G) (c_X5_shipIs (gl Γ) G  e7) [.int x6] rfl hl tw4_223 tw4_225 ts2_6 tw1_7 tw4_226 rfl nd_X5_shipIs ⟨(Nat.le_of_ble_eq_true rfl), (Nat.le_of_ble_eq_true rfl)⟩ (Nat.le_of_ble_eq_true rfl) dX5_meets_80 (fun H locs hX => ?_)
      refine w_jn1 (fun (x8 : Int32) => ∀ (H : Heap) (locs : List Loc) (ls : Array Slot), lv_has ls 5 [(0, .ref (G.2.1 37)), (3, .int x5)] → XW G A (gs Γ) H locs m4 → WX Γ H locs 91 ls [.int x8]) h (fun x8 h H locs ls hl hX => ?_) (fun k1 J1 h => ?_)
      · refine i_istore C [(4, .int x8), (0, .ref (G.2.1 37)), (3, .int x5)] dX5_meets_91 hl (by decide) rfl (fun ls hl => ?_)
        refine i_aload_n C dX5_meets_93 rfl (lv_at hl 1 rfl) ?_
        refine i_aload_n C dX5_meets_94 rfl (lv_at hl 1 rfl) ?_
        refine i_iload C dX5_meets_95 (lv_at hl 0 rfl) ?_
        refine i_if_eq (tgt := 104) C h dX5_meets_97 (by decide) (fun _ h => ?_) (fun _ h => ?_)
        · refine i_ldc C tw5_104 dX5_meets_104 ?_
          obtain ⟨x9, m5, e8, h⟩ := w_bdw h
          refine x_callVi C hX (fg_37_0 G) (c_X5_putBack (gl Γ) G  e8) [.ref (G.2.1 37)] rfl hl tw5_92 tw5_94 ts3_4 tw1_7 tw5_95 rfl nd_X5_putBack ⟨(Nat.le_of_ble_eq_true rfl), (Nat.le_of_ble_eq_true rfl)⟩ (Nat.le_of_ble_eq_true rfl) dX5_meets_106 (fun H locs hX => ?_)
          obtain ⟨x10, m6, e9, h⟩ := w_bdw h
          refine x_callVi C hX (fg_37_0 G) (c_X5_told (gl Γ) G  e9) [] rfl hl tw5_105 tw5_107 ts3_6 tw1_7 tw5_108 rfl nd_X5_told ⟨(Nat.le_of_ble_eq_true rfl), (Nat.le_of_ble_eq_true rfl)⟩ (Nat.le_of_ble_eq_true rfl) dX5_meets_109 (fun H locs hX => ?_)
          exact x_iretW C hX hr hQ h dX5_meets_112
        refine i_iload_n C dX5_meets_100 rfl (lv_at hl 2 rfl) ?_
        refine i_goto (tgt := 106) C dX5_meets_101 (by decide) ?_
        obtain ⟨x11, m7, e10, h⟩ := w_bdw h
        refine x_callVi C hX (fg_37_0 G) (c_X5_putBack (gl Γ) G  e10) [.ref (G.2.1 37)] rfl hl tw5_92 tw5_94 ts3_4 tw1_7 tw5_95 rfl nd_X5_putBack ⟨(Nat.le_of_ble_eq_true rfl), (Nat.le_of_ble_eq_true rfl)⟩ (Nat.le_of_ble_eq_true rfl) dX5_meets_106 (fun H locs hX => ?_)
        obtain ⟨x12, m8, e11, h⟩ := w_bdw h
        refine x_callVi C hX (fg_37_0 G) (c_X5_told (gl Γ) G  e11) [] rfl hl tw5_105 tw5_107 ts3_6 tw1_7 tw5_108 rfl nd_X5_told ⟨(Nat.le_of_ble_eq_true rfl), (Nat.le_of_ble_eq_true rfl)⟩ (Nat.le_of_ble_eq_true rfl) dX5_meets_109 (fun H locs hX => ?_)
        exact x_iretW C hX hr hQ h dX5_meets_112
      refine i_icmp_ne (tgt := 90) C h dX5_meets_83 (by decide) (fun _ h => ?_) (fun _ h => ?_)
      · refine i_iconst (v := 0) C dX5_meets_90 rfl ?_
        exact J1 _ h _ _ _ (lv_sub hl [0, 3] rfl) hX
      refine i_iconst (v := 1) C dX5_meets_86 rfl ?_
      refine i_goto (tgt := 91) C dX5_meets_87 (by decide) ?_
      exact J1 _ h _ _ _ (lv_sub hl [0, 3] rfl) hX
    have L1 : ∀ (fu : Nat) (x13 : Int32) (m9 : MM) (H : Heap) (locs : List Loc) (ls : Array Slot), L_X5_meets_39 p1 p2 k2 fu x13 m9 = some (r, m) → lv_has ls 5 [(0, .ref (G.2.1 37)), (1, .int p1), (2, .int p2), (3, .int x13)] → XW G A (gs Γ) H locs m9 → WX Γ H locs 39 ls [] := by
      intro fu
      induction fu with
      | zero =>
        intro x13 m9 H locs ls h
        rw [L_X5_meets_39] at h
        cases h
      | succ fu ih =>
        intro x13 m9 H locs ls h hl hX
        rw [L_X5_meets_39] at h
        refine i_iload_n C dX5_meets_39 rfl (lv_at hl 3 rfl) ?_
        refine i_sipush (v := 200) C dX5_meets_40 rfl ?_
        refine i_icmp_ge (tgt := 71) C h dX5_meets_43 (by decide) (fun _ h => ?_) (fun _ h => ?_)
        · exact J2 _ _ h _ _ _ (lv_sub hl [0, 1, 2, 3] rfl) hX
        refine i_aload_n C dX5_meets_46 rfl (lv_at hl 0 rfl) ?_
        refine i_iload_n C dX5_meets_47 rfl (lv_at hl 1 rfl) ?_
        refine i_iconst (v := 0) C dX5_meets_48 rfl ?_
        obtain ⟨x14, e12, h⟩ := w_bdr h
        refine x_callVi C hX (fg_37_0 G) (c_X5_shipIs (gl Γ) G  e12) [] rfl hl tw4_223 tw4_225 ts2_6 tw1_7 tw4_226 rfl nd_X5_shipIs ⟨(Nat.le_of_ble_eq_true rfl), (Nat.le_of_ble_eq_true rfl)⟩ (Nat.le_of_ble_eq_true rfl) dX5_meets_49 (fun H locs hX => ?_)
        refine i_aload_n C dX5_meets_52 rfl (lv_at hl 0 rfl) ?_
        refine i_iload_n C dX5_meets_53 rfl (lv_at hl 2 rfl) ?_
        refine i_iconst (v := 0) C dX5_meets_54 rfl ?_
        obtain ⟨x15, e13, h⟩ := w_bdr h
        refine x_callVi C hX (fg_37_0 G) (c_X5_shipIs (gl Γ) G  e13) [.int x14] rfl hl tw4_223 tw4_225 ts2_6 tw1_7 tw4_226 rfl nd_X5_shipIs ⟨(Nat.le_of_ble_eq_true rfl), (Nat.le_of_ble_eq_true rfl)⟩ (Nat.le_of_ble_eq_true rfl) dX5_meets_55 (fun H locs hX => ?_)
        refine i_icmp_eq (tgt := 71) C h dX5_meets_58 (by decide) (fun _ h => ?_) (fun _ h => ?_)
        · exact J2 _ _ h _ _ _ (lv_sub hl [0, 1, 2, 3] rfl) hX
        refine i_aload_n C dX5_meets_61 rfl (lv_at hl 0 rfl) ?_
        obtain ⟨m10, e14, h⟩ := w_bdr h
        refine x_callVv C hX (fg_37_0 G) (c_X5_watch (gl Γ) G  e14) [] rfl hl tw5_55 tw5_57 ts2_15 tw1_7 tw5_58 rfl nd_X5_watch ⟨(Nat.le_of_ble_eq_true rfl), (Nat.le_of_ble_eq_true rfl)⟩ (Nat.le_of_ble_eq_true rfl) dX5_meets_62 (fun H locs hX => ?_)
        refine i_iinc C (j := 3) (fun x16 => [(3, .int x16), (0, .ref (G.2.1 37)), (1, .int p1), (2, .int p2)]) h dX5_meets_65 hl rfl rfl (by decide) (fun _ => rfl) (fun x16 ls h hl => ?_)
        refine i_goto (tgt := 39) C dX5_meets_68 (by decide) ?_
        exact ih _ _ _ _ _ h (lv_sub hl [1, 2, 3, 0] rfl) hX
    exact L1 FU _ _ _ _ _ h (lv_sub hl [1, 2, 3, 0] rfl) hX
  refine i_aload_n C dX5_meets_19 rfl (lv_at hl 0 rfl) ?_
  refine i_ldc C tw4_172 dX5_meets_20 ?_
  obtain ⟨x17, m11, e15, h⟩ := w_bdw h
  refine x_callVi C hX (fg_37_0 G) (c_X5_finding (gl Γ) G  e15) [] rfl hl tw4_173 tw4_175 ts1_15 tw1_7 tw4_176 rfl nd_X5_finding ⟨(Nat.le_of_ble_eq_true rfl), (Nat.le_of_ble_eq_true rfl)⟩ (Nat.le_of_ble_eq_true rfl) dX5_meets_22 (fun H locs hX => ?_)
  exact x_iretW C hX hr hQ h dX5_meets_25
def L_X5_isStill_4 (μ : MM) : Nat → Int32 → Int32 → Option Int32
  | 0, _, _ => none
  | fu + 1, x1, x2 => if 4 ≤ x2 then (gd (x1 = 0 ∨ x1 = 1) (some x1)) else (jn1 (fun (x3 : Int32) => lt_ (x2 + 1) fun x4 => L_X5_isStill_4 μ fu x3 x4) fun k1 => jn0 (k1 0) fun k2 => if x1 = 0 then (k2) else (bdr (f_X5_goesTo x2 μ) fun x5 => bdr (f_X5_shipIs x2 0 μ) fun x6 => if x5 = x6 then (k1 1) else (k2)))
def f_X5_isStill (μ : MM) : Option Int32 := L_X5_isStill_4 μ FU 1 0
theorem nd_X5_isStill : yX5_isStill.cls ≠ "java/lang/invoke/MethodHandle" ∧ yX5_isStill.cls ≠ "java/lang/invoke/VarHandle" ∧ (parseMethodDescriptor yX5_isStill.desc).map (fun d => d.parameters.length) = some 0 := by decide +kernel
set_option maxHeartbeats 4000000 in
set_option maxRecDepth 100000 in
theorem c_X5_isStill (l : Launch) (G : EN)  {μ : MM} {r : Int32} (h : f_X5_isStill μ = some r) : XM l G yX5_isStill cX5_isStill 3 (some .boolean) 7 158 [.ref (G.2.1 37)] μ (some (.int r)) μ := by
  refine x_met (own := RX5) (by decide +kernel) rfl (Nat.le_of_ble_eq_true rfl) (fun Γ A H ls hg C hr hX hQ hl => ?_)
  have hl : lv_has ls 3 [(0, .ref (G.2.1 37))] := hl
  unfold f_X5_isStill at h
  refine i_iconst (v := 1) C dX5_isStill_0 rfl ?_
  refine i_istore_n C [(1, .int 1), (0, .ref (G.2.1 37))] dX5_isStill_1 rfl hl (by decide) rfl (fun ls hl => ?_)
  refine i_iconst (v := 0) C dX5_isStill_2 rfl ?_
  refine i_istore_n C [(2, .int 0), (1, .int 1), (0, .ref (G.2.1 37))] dX5_isStill_3 rfl hl (by decide) rfl (fun ls hl => ?_)
  have L1 : ∀ (fu : Nat) (x1 : Int32) (x2 : Int32) (H : Heap) (locs : List Loc) (ls : Array Slot), L_X5_isStill_4 μ fu x1 x2 = some r → lv_has ls 3 [(0, .ref (G.2.1 37)), (1, .int x1), (2, .int x2)] → XW G A (gs Γ) H locs μ → WX Γ H locs 4 ls [] := by
    intro fu
    induction fu with
    | zero =>
      intro x1 x2 H locs ls h
      rw [L_X5_isStill_4] at h
      cases h
    | succ fu ih =>
      intro x1 x2 H locs ls h hl hX
      rw [L_X5_isStill_4] at h
      refine i_iload_n C dX5_isStill_4 rfl (lv_at hl 2 rfl) ?_
      refine i_iconst (v := 4) C dX5_isStill_5 rfl ?_
      refine i_icmp_ge (tgt := 39) C h dX5_isStill_6 (by decide) (fun _ h => ?_) (fun _ h => ?_)
      · refine i_iload_n C dX5_isStill_39 rfl (lv_at hl 1 rfl) ?_
        exact x_zretR C hX hr hQ h dX5_isStill_40
      refine i_iload_n C dX5_isStill_9 rfl (lv_at hl 1 rfl) ?_
      refine w_jn1 (fun (x3 : Int32) => ∀ (H : Heap) (locs : List Loc) (ls : Array Slot), lv_has ls 3 [(0, .ref (G.2.1 37)), (2, .int x2)] → XW G A (gs Γ) H locs μ → WX Γ H locs 32 ls [.int x3]) h (fun x3 h H locs ls hl hX => ?_) (fun k1 J1 h => ?_)
      · refine i_istore_n C [(1, .int x3), (0, .ref (G.2.1 37)), (2, .int x2)] dX5_isStill_32 rfl hl (by decide) rfl (fun ls hl => ?_)
        refine i_iinc C (j := 2) (fun x4 => [(2, .int x4), (1, .int x3), (0, .ref (G.2.1 37))]) h dX5_isStill_33 hl rfl rfl (by decide) (fun _ => rfl) (fun x4 ls h hl => ?_)
        refine i_goto (tgt := 4) C dX5_isStill_36 (by decide) ?_
        exact ih _ _ _ _ _ h (lv_sub hl [2, 1, 0] rfl) hX
      refine w_jn0 (∀ (H : Heap) (locs : List Loc) (ls : Array Slot), lv_has ls 3 [(0, .ref (G.2.1 37)), (2, .int x2)] → XW G A (gs Γ) H locs μ → WX Γ H locs 31 ls []) h (fun  h H locs ls hl hX => ?_) (fun k2 J2 h => ?_)
      · refine i_iconst (v := 0) C dX5_isStill_31 rfl ?_
        exact J1 _ h _ _ _ (lv_sub hl [0, 1] rfl) hX
      refine i_if_eq (tgt := 31) C h dX5_isStill_10 (by decide) (fun _ h => ?_) (fun _ h => ?_)
      · exact J2 h _ _ _ (lv_sub hl [0, 2] rfl) hX
      refine i_aload_n C dX5_isStill_13 rfl (lv_at hl 0 rfl) ?_
      refine i_iload_n C dX5_isStill_14 rfl (lv_at hl 2 rfl) ?_
      obtain ⟨x5, e1, h⟩ := w_bdr h
      refine x_callVi C hX (fg_37_0 G) (c_X5_goesTo (gl Γ) G  e1) [] rfl hl tw5_1 tw5_3 ts2_9 tw1_7 tw5_4 rfl nd_X5_goesTo ⟨(Nat.le_of_ble_eq_true rfl), (Nat.le_of_ble_eq_true rfl)⟩ (Nat.le_of_ble_eq_true rfl) dX5_isStill_15 (fun H locs hX => ?_)
      refine i_aload_n C dX5_isStill_18 rfl (lv_at hl 0 rfl) ?_
      refine i_iload_n C dX5_isStill_19 rfl (lv_at hl 2 rfl) ?_
      refine i_iconst (v := 0) C dX5_isStill_20 rfl ?_
      obtain ⟨x6, e2, h⟩ := w_bdr h
      refine x_callVi C hX (fg_37_0 G) (c_X5_shipIs (gl Γ) G  e2) [.int x5] rfl hl tw4_223 tw4_225 ts2_6 tw1_7 tw4_226 rfl nd_X5_shipIs ⟨(Nat.le_of_ble_eq_true rfl), (Nat.le_of_ble_eq_true rfl)⟩ (Nat.le_of_ble_eq_true rfl) dX5_isStill_21 (fun H locs hX => ?_)
      refine i_icmp_ne (tgt := 31) C h dX5_isStill_24 (by decide) (fun _ h => ?_) (fun _ h => ?_)
      · exact J2 h _ _ _ (lv_sub hl [0, 2] rfl) hX
      refine i_iconst (v := 1) C dX5_isStill_27 rfl ?_
      refine i_goto (tgt := 32) C dX5_isStill_28 (by decide) ?_
      exact J1 _ h _ _ _ (lv_sub hl [0, 2] rfl) hX
  exact L1 FU _ _ _ _ _ h (lv_sub hl [2, 1, 0] rfl) hX
def L_X5_still_13 (k1 : Int32 → MM → Option (Int32 × MM)) : Nat → Int32 → MM → Option (Int32 × MM)
  | 0, _, _ => none
  | fu + 1, x7, m7 => if 60 ≤ x7 then (k1 x7 m7) else (bdr (f_X5_isStill m7) fun x8 => if x8 = 0 then (bdr (f_X5_watch m7) fun m8 => lt_ (x7 + 1) fun x9 => L_X5_still_13 k1 fu x9 m8) else (k1 x7 m7))
def f_X5_still (μ : MM) : Option (Int32 × MM) := bdr (f_X5_copyRow 38 152 40 152 μ) fun m1 => jn2 (fun (x1 : Int32) (m2 : MM) => bdr (f_X5_isStill m2) fun x2 => if x2 = 0 then (bdw (f_X5_putBack 1000000 m2) fun x3 m3 => bdw (f_X5_told x3 m3) fun x4 m4 => some (x4, m4)) else (bdw (f_X5_putBack x1 m2) fun x5 m5 => bdw (f_X5_told x5 m5) fun x6 m6 => some (x6, m6))) fun k1 => L_X5_still_13 k1 FU 0 m1
theorem nd_X5_still : yX5_still.cls ≠ "java/lang/invoke/MethodHandle" ∧ yX5_still.cls ≠ "java/lang/invoke/VarHandle" ∧ (parseMethodDescriptor yX5_still.desc).map (fun d => d.parameters.length) = some 0 := by decide +kernel
set_option maxHeartbeats 4000000 in
set_option maxRecDepth 100000 in
theorem c_X5_still (l : Launch) (G : EN)  {μ : MM} {r : Int32} {m : MM} (h : f_X5_still μ = some (r, m)) : XM l G yX5_still cX5_still 2 (some .int) 8 180 [.ref (G.2.1 37)] μ (some (.int r)) m := by
  refine x_met (own := RX5) (by decide +kernel) rfl (Nat.le_of_ble_eq_true rfl) (fun Γ A H ls hg C hr hX hQ hl => ?_)
  have hl : lv_has ls 2 [(0, .ref (G.2.1 37))] := hl
  unfold f_X5_still at h
  refine i_aload_n C dX5_still_0 rfl (lv_at hl 0 rfl) ?_
  refine x_get C hX (fg_37_0 G) tw4_83 dX5_still_1 ?_
  refine i_aload_n C dX5_still_4 rfl (lv_at hl 0 rfl) ?_
  refine x_get C hX (fg_37_2 G) tw4_85 dX5_still_5 ?_
  obtain ⟨m1, e1, h⟩ := w_bdr h
  refine x_callSv C hX (c_X5_copyRow (gl Γ) G (ai_38 G) (ai_40 G) e1) [] rfl hl tw5_89 tw5_90 tw1_7 tw5_91 nd_X5_copyRow ⟨(Nat.le_of_ble_eq_true rfl), (Nat.le_of_ble_eq_true rfl)⟩ (Nat.le_of_ble_eq_true rfl) dX5_still_8 (fun H locs hX => ?_)
  refine i_iconst (v := 0) C dX5_still_11 rfl ?_
  refine i_istore_n C [(1, .int 0), (0, .ref (G.2.1 37))] dX5_still_12 rfl hl (by decide) rfl (fun ls hl => ?_)
  refine w_jn2 (fun (x1 : Int32) (m2 : MM) => ∀ (H : Heap) (locs : List Loc) (ls : Array Slot), lv_has ls 2 [(0, .ref (G.2.1 37)), (1, .int x1)] → XW G A (gs Γ) H locs m2 → WX Γ H locs 36 ls []) h (fun x1 m2 h H locs ls hl hX => ?_) (fun k1 J1 h => ?_)
  · refine i_aload_n C dX5_still_36 rfl (lv_at hl 0 rfl) ?_
    refine i_aload_n C dX5_still_37 rfl (lv_at hl 0 rfl) ?_
    refine i_aload_n C dX5_still_38 rfl (lv_at hl 0 rfl) ?_
    obtain ⟨x2, e2, h⟩ := w_bdr h
    refine x_callVi C hX (fg_37_0 G) (c_X5_isStill (gl Γ) G  e2) [.ref (G.2.1 37), .ref (G.2.1 37)] rfl hl tw5_118 tw5_120 ts3_7 tw1_7 tw5_121 rfl nd_X5_isStill ⟨(Nat.le_of_ble_eq_true rfl), (Nat.le_of_ble_eq_true rfl)⟩ (Nat.le_of_ble_eq_true rfl) dX5_still_39 (fun H locs hX => ?_)
    refine i_if_eq (tgt := 49) C h dX5_still_42 (by decide) (fun _ h => ?_) (fun _ h => ?_)
    · refine i_ldc C tw5_104 dX5_still_49 ?_
      obtain ⟨x3, m3, e3, h⟩ := w_bdw h
      refine x_callVi C hX (fg_37_0 G) (c_X5_putBack (gl Γ) G  e3) [.ref (G.2.1 37)] rfl hl tw5_92 tw5_94 ts3_4 tw1_7 tw5_95 rfl nd_X5_putBack ⟨(Nat.le_of_ble_eq_true rfl), (Nat.le_of_ble_eq_true rfl)⟩ (Nat.le_of_ble_eq_true rfl) dX5_still_51 (fun H locs hX => ?_)
      obtain ⟨x4, m4, e4, h⟩ := w_bdw h
      refine x_callVi C hX (fg_37_0 G) (c_X5_told (gl Γ) G  e4) [] rfl hl tw5_105 tw5_107 ts3_6 tw1_7 tw5_108 rfl nd_X5_told ⟨(Nat.le_of_ble_eq_true rfl), (Nat.le_of_ble_eq_true rfl)⟩ (Nat.le_of_ble_eq_true rfl) dX5_still_54 (fun H locs hX => ?_)
      exact x_iretW C hX hr hQ h dX5_still_57
    refine i_iload_n C dX5_still_45 rfl (lv_at hl 1 rfl) ?_
    refine i_goto (tgt := 51) C dX5_still_46 (by decide) ?_
    obtain ⟨x5, m5, e5, h⟩ := w_bdw h
    refine x_callVi C hX (fg_37_0 G) (c_X5_putBack (gl Γ) G  e5) [.ref (G.2.1 37)] rfl hl tw5_92 tw5_94 ts3_4 tw1_7 tw5_95 rfl nd_X5_putBack ⟨(Nat.le_of_ble_eq_true rfl), (Nat.le_of_ble_eq_true rfl)⟩ (Nat.le_of_ble_eq_true rfl) dX5_still_51 (fun H locs hX => ?_)
    obtain ⟨x6, m6, e6, h⟩ := w_bdw h
    refine x_callVi C hX (fg_37_0 G) (c_X5_told (gl Γ) G  e6) [] rfl hl tw5_105 tw5_107 ts3_6 tw1_7 tw5_108 rfl nd_X5_told ⟨(Nat.le_of_ble_eq_true rfl), (Nat.le_of_ble_eq_true rfl)⟩ (Nat.le_of_ble_eq_true rfl) dX5_still_54 (fun H locs hX => ?_)
    exact x_iretW C hX hr hQ h dX5_still_57
  have L1 : ∀ (fu : Nat) (x7 : Int32) (m7 : MM) (H : Heap) (locs : List Loc) (ls : Array Slot), L_X5_still_13 k1 fu x7 m7 = some (r, m) → lv_has ls 2 [(0, .ref (G.2.1 37)), (1, .int x7)] → XW G A (gs Γ) H locs m7 → WX Γ H locs 13 ls [] := by
    intro fu
    induction fu with
    | zero =>
      intro x7 m7 H locs ls h
      rw [L_X5_still_13] at h
      cases h
    | succ fu ih =>
      intro x7 m7 H locs ls h hl hX
      rw [L_X5_still_13] at h
      refine i_iload_n C dX5_still_13 rfl (lv_at hl 1 rfl) ?_
      refine i_bipush (v := 60) C dX5_still_14 rfl ?_
      refine i_icmp_ge (tgt := 36) C h dX5_still_16 (by decide) (fun _ h => ?_) (fun _ h => ?_)
      · exact J1 _ _ h _ _ _ (lv_sub hl [0, 1] rfl) hX
      refine i_aload_n C dX5_still_19 rfl (lv_at hl 0 rfl) ?_
      obtain ⟨x8, e7, h⟩ := w_bdr h
      refine x_callVi C hX (fg_37_0 G) (c_X5_isStill (gl Γ) G  e7) [] rfl hl tw5_118 tw5_120 ts3_7 tw1_7 tw5_121 rfl nd_X5_isStill ⟨(Nat.le_of_ble_eq_true rfl), (Nat.le_of_ble_eq_true rfl)⟩ (Nat.le_of_ble_eq_true rfl) dX5_still_20 (fun H locs hX => ?_)
      refine i_if_ne (tgt := 36) C h dX5_still_23 (by decide) (fun _ h => ?_) (fun _ h => ?_)
      · exact J1 _ _ h _ _ _ (lv_sub hl [0, 1] rfl) hX
      refine i_aload_n C dX5_still_26 rfl (lv_at hl 0 rfl) ?_
      obtain ⟨m8, e8, h⟩ := w_bdr h
      refine x_callVv C hX (fg_37_0 G) (c_X5_watch (gl Γ) G  e8) [] rfl hl tw5_55 tw5_57 ts2_15 tw1_7 tw5_58 rfl nd_X5_watch ⟨(Nat.le_of_ble_eq_true rfl), (Nat.le_of_ble_eq_true rfl)⟩ (Nat.le_of_ble_eq_true rfl) dX5_still_27 (fun H locs hX => ?_)
      refine i_iinc C (j := 1) (fun x9 => [(1, .int x9), (0, .ref (G.2.1 37))]) h dX5_still_30 hl rfl rfl (by decide) (fun _ => rfl) (fun x9 ls h hl => ?_)
      refine i_goto (tgt := 13) C dX5_still_33 (by decide) ?_
      exact ih _ _ _ _ _ h (lv_sub hl [1, 0] rfl) hX
  exact L1 FU _ _ _ _ _ h (lv_sub hl [1, 0] rfl) hX
def f_X5_satBehind (p1 : Int32) (p2 : Int32) (μ : MM) : Option (Int32 × MM) := bdr (f_X5_copyRow 38 152 40 152 μ) fun m1 => bdr (f_X5_watches p2 m1) fun m2 => bdr (f_X5_errs p1 m2) fun x1 => bdw (f_X5_putBack x1 m2) fun x2 m3 => some (x2, m3)
theorem nd_X5_satBehind : yX5_satBehind.cls ≠ "java/lang/invoke/MethodHandle" ∧ yX5_satBehind.cls ≠ "java/lang/invoke/VarHandle" ∧ (parseMethodDescriptor yX5_satBehind.desc).map (fun d => d.parameters.length) = some 2 := by decide +kernel
set_option maxHeartbeats 4000000 in
set_option maxRecDepth 100000 in
theorem c_X5_satBehind (l : Launch) (G : EN)  {p1 p2 : Int32} {μ : MM} {r : Int32} {m : MM} (h : f_X5_satBehind p1 p2 μ = some (r, m)) : XM l G yX5_satBehind cX5_satBehind 3 (some .int) 9 201 [.ref (G.2.1 37), .int p1, .int p2] μ (some (.int r)) m := by
  refine x_met (own := RX5) (by decide +kernel) rfl (Nat.le_of_ble_eq_true rfl) (fun Γ A H ls hg C hr hX hQ hl => ?_)
  have hl : lv_has ls 3 [(0, .ref (G.2.1 37)), (1, .int p1), (2, .int p2)] := hl
  unfold f_X5_satBehind at h
  refine i_aload_n C dX5_satBehind_0 rfl (lv_at hl 0 rfl) ?_
  refine x_get C hX (fg_37_0 G) tw4_83 dX5_satBehind_1 ?_
  refine i_aload_n C dX5_satBehind_4 rfl (lv_at hl 0 rfl) ?_
  refine x_get C hX (fg_37_2 G) tw4_85 dX5_satBehind_5 ?_
  obtain ⟨m1, e1, h⟩ := w_bdr h
  refine x_callSv C hX (c_X5_copyRow (gl Γ) G (ai_38 G) (ai_40 G) e1) [] rfl hl tw5_89 tw5_90 tw1_7 tw5_91 nd_X5_copyRow ⟨(Nat.le_of_ble_eq_true rfl), (Nat.le_of_ble_eq_true rfl)⟩ (Nat.le_of_ble_eq_true rfl) dX5_satBehind_8 (fun H locs hX => ?_)
  refine i_aload_n C dX5_satBehind_11 rfl (lv_at hl 0 rfl) ?_
  refine i_iload_n C dX5_satBehind_12 rfl (lv_at hl 2 rfl) ?_
  obtain ⟨m2, e2, h⟩ := w_bdr h
  refine x_callVv C hX (fg_37_0 G) (c_X5_watches (gl Γ) G  e2) [] rfl hl tw5_51 tw5_53 ts2_14 tw1_7 tw5_54 rfl nd_X5_watches ⟨(Nat.le_of_ble_eq_true rfl), (Nat.le_of_ble_eq_true rfl)⟩ (Nat.le_of_ble_eq_true rfl) dX5_satBehind_13 (fun H locs hX => ?_)
  refine i_aload_n C dX5_satBehind_16 rfl (lv_at hl 0 rfl) ?_
  refine i_aload_n C dX5_satBehind_17 rfl (lv_at hl 0 rfl) ?_
  refine i_iload_n C dX5_satBehind_18 rfl (lv_at hl 1 rfl) ?_
  obtain ⟨x1, e3, h⟩ := w_bdr h
  refine x_callVi C hX (fg_37_0 G) (c_X5_errs (gl Γ) G  e3) [.ref (G.2.1 37)] rfl hl tw4_197 tw4_199 ts2_3 tw1_7 tw4_200 rfl nd_X5_errs ⟨(Nat.le_of_ble_eq_true rfl), (Nat.le_of_ble_eq_true rfl)⟩ (Nat.le_of_ble_eq_true rfl) dX5_satBehind_19 (fun H locs hX => ?_)
  obtain ⟨x2, m3, e4, h⟩ := w_bdw h
  refine x_callVi C hX (fg_37_0 G) (c_X5_putBack (gl Γ) G  e4) [] rfl hl tw5_92 tw5_94 ts3_4 tw1_7 tw5_95 rfl nd_X5_putBack ⟨(Nat.le_of_ble_eq_true rfl), (Nat.le_of_ble_eq_true rfl)⟩ (Nat.le_of_ble_eq_true rfl) dX5_satBehind_22 (fun H locs hX => ?_)
  exact x_iretW C hX hr hQ h dX5_satBehind_25
def f_X5_sits (p1 : Int32) (p2 : Int32) (μ : MM) : Option (Int32 × MM) := bdr (f_X5_isCat p1 μ) fun x1 => if x1 = 0 then (bdw (f_X5_finding (-1000001) μ) fun x2 m1 => some (x2, m1)) else (bdr (f_X5_within p2 0 200) fun x3 => if x3 = 0 then (bdw (f_X5_finding (-1000001) μ) fun x4 m2 => some (x4, m2)) else (bdw (f_X5_satBehind p1 p2 μ) fun x5 m3 => some (x5, m3)))
theorem nd_X5_sits : yX5_sits.cls ≠ "java/lang/invoke/MethodHandle" ∧ yX5_sits.cls ≠ "java/lang/invoke/VarHandle" ∧ (parseMethodDescriptor yX5_sits.desc).map (fun d => d.parameters.length) = some 2 := by decide +kernel
set_option maxHeartbeats 4000000 in
set_option maxRecDepth 100000 in
theorem c_X5_sits (l : Launch) (G : EN)  {p1 p2 : Int32} {μ : MM} {r : Int32} {m : MM} (h : f_X5_sits p1 p2 μ = some (r, m)) : XM l G yX5_sits cX5_sits 3 (some .int) 10 223 [.ref (G.2.1 37), .int p1, .int p2] μ (some (.int r)) m := by
  refine x_met (own := RX5) (by decide +kernel) rfl (Nat.le_of_ble_eq_true rfl) (fun Γ A H ls hg C hr hX hQ hl => ?_)
  have hl : lv_has ls 3 [(0, .ref (G.2.1 37)), (1, .int p1), (2, .int p2)] := hl
  unfold f_X5_sits at h
  refine i_aload_n C dX5_sits_0 rfl (lv_at hl 0 rfl) ?_
  refine i_iload_n C dX5_sits_1 rfl (lv_at hl 1 rfl) ?_
  obtain ⟨x1, e1, h⟩ := w_bdr h
  refine x_callVi C hX (fg_37_0 G) (c_X5_isCat (gl Γ) G  e1) [] rfl hl tw4_189 tw4_191 ts2_1 tw1_7 tw4_192 rfl nd_X5_isCat ⟨(Nat.le_of_ble_eq_true rfl), (Nat.le_of_ble_eq_true rfl)⟩ (Nat.le_of_ble_eq_true rfl) dX5_sits_2 (fun H locs hX => ?_)
  refine i_if_eq (tgt := 28) C h dX5_sits_5 (by decide) (fun _ h => ?_) (fun _ h => ?_)
  · refine i_aload_n C dX5_sits_28 rfl (lv_at hl 0 rfl) ?_
    refine i_ldc C tw4_172 dX5_sits_29 ?_
    obtain ⟨x2, m1, e2, h⟩ := w_bdw h
    refine x_callVi C hX (fg_37_0 G) (c_X5_finding (gl Γ) G  e2) [] rfl hl tw4_173 tw4_175 ts1_15 tw1_7 tw4_176 rfl nd_X5_finding ⟨(Nat.le_of_ble_eq_true rfl), (Nat.le_of_ble_eq_true rfl)⟩ (Nat.le_of_ble_eq_true rfl) dX5_sits_31 (fun H locs hX => ?_)
    exact x_iretW C hX hr hQ h dX5_sits_34
  refine i_iload_n C dX5_sits_8 rfl (lv_at hl 2 rfl) ?_
  refine i_iconst (v := 0) C dX5_sits_9 rfl ?_
  refine i_sipush (v := 200) C dX5_sits_10 rfl ?_
  obtain ⟨x3, e3, h⟩ := w_bdr h
  refine x_callSi C hX (c_X5_within (gl Γ) G  e3) [] rfl hl tw4_169 tw4_170 tw1_7 tw4_171 nd_X5_within ⟨(Nat.le_of_ble_eq_true rfl), (Nat.le_of_ble_eq_true rfl)⟩ (Nat.le_of_ble_eq_true rfl) dX5_sits_13 (fun H locs hX => ?_)
  refine i_if_eq (tgt := 28) C h dX5_sits_16 (by decide) (fun _ h => ?_) (fun _ h => ?_)
  · refine i_aload_n C dX5_sits_28 rfl (lv_at hl 0 rfl) ?_
    refine i_ldc C tw4_172 dX5_sits_29 ?_
    obtain ⟨x4, m2, e4, h⟩ := w_bdw h
    refine x_callVi C hX (fg_37_0 G) (c_X5_finding (gl Γ) G  e4) [] rfl hl tw4_173 tw4_175 ts1_15 tw1_7 tw4_176 rfl nd_X5_finding ⟨(Nat.le_of_ble_eq_true rfl), (Nat.le_of_ble_eq_true rfl)⟩ (Nat.le_of_ble_eq_true rfl) dX5_sits_31 (fun H locs hX => ?_)
    exact x_iretW C hX hr hQ h dX5_sits_34
  refine i_aload_n C dX5_sits_19 rfl (lv_at hl 0 rfl) ?_
  refine i_iload_n C dX5_sits_20 rfl (lv_at hl 1 rfl) ?_
  refine i_iload_n C dX5_sits_21 rfl (lv_at hl 2 rfl) ?_
  obtain ⟨x5, m3, e5, h⟩ := w_bdw h
  refine x_callVi C hX (fg_37_0 G) (c_X5_satBehind (gl Γ) G  e5) [] rfl hl tw5_126 tw5_128 ts3_8 tw1_7 tw5_129 rfl nd_X5_satBehind ⟨(Nat.le_of_ble_eq_true rfl), (Nat.le_of_ble_eq_true rfl)⟩ (Nat.le_of_ble_eq_true rfl) dX5_sits_22 (fun H locs hX => ?_)
  refine i_goto (tgt := 34) C dX5_sits_25 (by decide) ?_
  exact x_iretW C hX hr hQ h dX5_sits_34
def L_X5_soonestWith_20 (p1 : Int32) (p2 : Int32) (p3 : Int32) (k1 : Int32 → MM → Option (Int32 × MM)) : Nat → Int32 → Int32 → MM → Option (Int32 × MM)
  | 0, _, _, _ => none
  | fu + 1, x3, x4, m4 => if p2 ≤ x4 then (k1 x3 m4) else (sti m4 38 152 p1 x4 fun m5 => bdw (f_X5_landsIn p3 60 m5) fun x5 m6 => jn1 (fun (x6 : Int32) => lt_ (wst m6 37 7 (imin (m6 37 7) x5)) fun m7 => lt_ (x4 + 1) fun x7 => L_X5_soonestWith_20 p1 p2 p3 k1 fu x6 x7 m7) fun k2 => if (m6 37 7) ≤ x5 then (k2 x3) else (k2 x4))
def f_X5_soonestWith (p1 : Int32) (p2 : Int32) (p3 : Int32) (μ : MM) : Option (Int32 × MM) := ldi μ 38 152 p1 fun x1 => lt_ (wst μ 37 7 1000000) fun m1 => jn2 (fun (x2 : Int32) (m2 : MM) => sti m2 38 152 p1 x1 fun m3 => some (x2, m3)) fun k1 => L_X5_soonestWith_20 p1 p2 p3 k1 FU (-1) 0 m1
theorem nd_X5_soonestWith : yX5_soonestWith.cls ≠ "java/lang/invoke/MethodHandle" ∧ yX5_soonestWith.cls ≠ "java/lang/invoke/VarHandle" ∧ (parseMethodDescriptor yX5_soonestWith.desc).map (fun d => d.parameters.length) = some 3 := by decide +kernel
set_option maxHeartbeats 4000000 in
set_option maxRecDepth 100000 in
theorem c_X5_soonestWith (l : Launch) (G : EN)  {p1 p2 p3 : Int32} {μ : MM} {r : Int32} {m : MM} (h : f_X5_soonestWith p1 p2 p3 μ = some (r, m)) : XM l G yX5_soonestWith cX5_soonestWith 8 (some .int) 9 202 [.ref (G.2.1 37), .int p1, .int p2, .int p3] μ (some (.int r)) m := by
  refine x_met (own := RX5) (by decide +kernel) rfl (Nat.le_of_ble_eq_true rfl) (fun Γ A H ls hg C hr hX hQ hl => ?_)
  have hl : lv_has ls 8 [(0, .ref (G.2.1 37)), (1, .int p1), (2, .int p2), (3, .int p3)] := hl
  unfold f_X5_soonestWith at h
  refine i_aload_n C dX5_soonestWith_0 rfl (lv_at hl 0 rfl) ?_
  refine x_get C hX (fg_37_0 G) tw4_83 dX5_soonestWith_1 ?_
  refine i_iload_n C dX5_soonestWith_4 rfl (lv_at hl 1 rfl) ?_
  refine x_iald C hX (ai_38 G) h dX5_soonestWith_5 (fun x1 h => ?_)
  refine i_istore C [(4, .int x1), (0, .ref (G.2.1 37)), (1, .int p1), (2, .int p2), (3, .int p3)] dX5_soonestWith_6 hl (by decide) rfl (fun ls hl => ?_)
  refine i_iconst (v := (-1)) C dX5_soonestWith_8 rfl ?_
  refine i_istore C [(5, .int (-1)), (4, .int x1), (0, .ref (G.2.1 37)), (1, .int p1), (2, .int p2), (3, .int p3)] dX5_soonestWith_9 hl (by decide) rfl (fun ls hl => ?_)
  refine i_aload_n C dX5_soonestWith_11 rfl (lv_at hl 2 rfl) ?_
  refine i_ldc C tw5_104 dX5_soonestWith_12 ?_
  refine x_putI C hX (fp_37_7 G) h tw4_90 dX5_soonestWith_14 (fun H locs m1 h hX => ?_)
  refine i_iconst (v := 0) C dX5_soonestWith_17 rfl ?_
  refine i_istore C [(6, .int 0), (5, .int (-1)), (4, .int x1), (0, .ref (G.2.1 37)), (1, .int p1), (2, .int p2), (3, .int p3)] dX5_soonestWith_18 hl (by decide) rfl (fun ls hl => ?_)
  refine w_jn2 (fun (x2 : Int32) (m2 : MM) => ∀ (H : Heap) (locs : List Loc) (ls : Array Slot), lv_has ls 8 [(0, .ref (G.2.1 37)), (1, .int p1), (4, .int x1), (5, .int x2)] → XW G A (gs Γ) H locs m2 → WX Γ H locs 80 ls []) h (fun x2 m2 h H locs ls hl hX => ?_) (fun k1 J1 h => ?_)
  · refine i_aload_n C dX5_soonestWith_80 rfl (lv_at hl 0 rfl) ?_
    refine x_get C hX (fg_37_0 G) tw4_83 dX5_soonestWith_81 ?_
    refine i_iload_n C dX5_soonestWith_84 rfl (lv_at hl 1 rfl) ?_
    refine i_iload C dX5_soonestWith_85 (lv_at hl 2 rfl) ?_
    refine x_iast C hX (ai_38 G) h dX5_soonestWith_87 (fun H locs m3 h hX => ?_)
    refine i_iload C dX5_soonestWith_88 (lv_at hl 3 rfl) ?_
    exact x_iretW C hX hr hQ h dX5_soonestWith_90
  have L1 : ∀ (fu : Nat) (x3 : Int32) (x4 : Int32) (m4 : MM) (H : Heap) (locs : List Loc) (ls : Array Slot), L_X5_soonestWith_20 p1 p2 p3 k1 fu x3 x4 m4 = some (r, m) → lv_has ls 8 [(0, .ref (G.2.1 37)), (1, .int p1), (2, .int p2), (3, .int p3), (4, .int x1), (5, .int x3), (6, .int x4)] → XW G A (gs Γ) H locs m4 → WX Γ H locs 20 ls [] := by
    intro fu
    induction fu with
    | zero =>
      intro x3 x4 m4 H locs ls h
      rw [L_X5_soonestWith_20] at h
      cases h
    | succ fu ih =>
      intro x3 x4 m4 H locs ls h hl hX
      rw [L_X5_soonestWith_20] at h
      refine i_iload C dX5_soonestWith_20 (lv_at hl 6 rfl) ?_
      refine i_iload_n C dX5_soonestWith_22 rfl (lv_at hl 2 rfl) ?_
      refine i_icmp_ge (tgt := 80) C h dX5_soonestWith_23 (by decide) (fun _ h => ?_) (fun _ h => ?_)
      · exact J1 _ _ h _ _ _ (lv_sub hl [0, 1, 4, 5] rfl) hX
      refine i_aload_n C dX5_soonestWith_26 rfl (lv_at hl 0 rfl) ?_
      refine x_get C hX (fg_37_0 G) tw4_83 dX5_soonestWith_27 ?_
      refine i_iload_n C dX5_soonestWith_30 rfl (lv_at hl 1 rfl) ?_
      refine i_iload C dX5_soonestWith_31 (lv_at hl 6 rfl) ?_
      refine x_iast C hX (ai_38 G) h dX5_soonestWith_33 (fun H locs m5 h hX => ?_)
      refine i_aload_n C dX5_soonestWith_34 rfl (lv_at hl 0 rfl) ?_
      refine i_iload_n C dX5_soonestWith_35 rfl (lv_at hl 3 rfl) ?_
      refine i_bipush (v := 60) C dX5_soonestWith_36 rfl ?_
      obtain ⟨x5, m6, e1, h⟩ := w_bdw h
      refine x_callVi C hX (fg_37_0 G) (c_X5_landsIn (gl Γ) G  e1) [] rfl hl tw5_100 tw5_102 ts3_5 tw1_7 tw5_103 rfl nd_X5_landsIn ⟨(Nat.le_of_ble_eq_true rfl), (Nat.le_of_ble_eq_true rfl)⟩ (Nat.le_of_ble_eq_true rfl) dX5_soonestWith_38 (fun H locs hX => ?_)
      refine i_istore C [(7, .int x5), (0, .ref (G.2.1 37)), (1, .int p1), (2, .int p2), (3, .int p3), (4, .int x1), (5, .int x3), (6, .int x4)] dX5_soonestWith_41 hl (by decide) rfl (fun ls hl => ?_)
      refine i_iload C dX5_soonestWith_43 (lv_at hl 0 rfl) ?_
      refine i_aload_n C dX5_soonestWith_45 rfl (lv_at hl 1 rfl) ?_
      refine x_get C hX (fg_37_7 G) tw4_90 dX5_soonestWith_46 ?_
      refine w_jn1 (fun (x6 : Int32) => ∀ (H : Heap) (locs : List Loc) (ls : Array Slot), lv_has ls 8 [(0, .ref (G.2.1 37)), (1, .int p1), (2, .int p2), (3, .int p3), (4, .int x1), (6, .int x4), (7, .int x5)] → XW G A (gs Γ) H locs m6 → WX Γ H locs 59 ls [.int x6]) h (fun x6 h H locs ls hl hX => ?_) (fun k2 J2 h => ?_)
      · refine i_istore C [(5, .int x6), (0, .ref (G.2.1 37)), (1, .int p1), (2, .int p2), (3, .int p3), (4, .int x1), (6, .int x4), (7, .int x5)] dX5_soonestWith_59 hl (by decide) rfl (fun ls hl => ?_)
        refine i_aload_n C dX5_soonestWith_61 rfl (lv_at hl 1 rfl) ?_
        refine i_aload_n C dX5_soonestWith_62 rfl (lv_at hl 1 rfl) ?_
        refine x_get C hX (fg_37_7 G) tw4_90 dX5_soonestWith_63 ?_
        refine i_iload C dX5_soonestWith_66 (lv_at hl 7 rfl) ?_
        refine x_min C hl tw5_59 tw1_231 tw1_8 tw1_232 (Nat.le_of_ble_eq_true rfl) (Nat.le_of_ble_eq_true rfl) dX5_soonestWith_68 ?_
        refine x_putI C hX (fp_37_7 G) h tw4_90 dX5_soonestWith_71 (fun H locs m7 h hX => ?_)
        refine i_iinc C (j := 6) (fun x7 => [(6, .int x7), (5, .int x6), (0, .ref (G.2.1 37)), (1, .int p1), (2, .int p2), (3, .int p3), (4, .int x1), (7, .int x5)]) h dX5_soonestWith_74 hl rfl rfl (by decide) (fun _ => rfl) (fun x7 ls h hl => ?_)
        refine i_goto (tgt := 20) C dX5_soonestWith_77 (by decide) ?_
        exact ih _ _ _ _ _ _ h (lv_sub hl [2, 3, 4, 5, 6, 1, 0] rfl) hX
      refine i_icmp_ge (tgt := 57) C h dX5_soonestWith_49 (by decide) (fun _ h => ?_) (fun _ h => ?_)
      · refine i_iload C dX5_soonestWith_57 (lv_at hl 6 rfl) ?_
        exact J2 _ h _ _ _ (lv_sub hl [1, 2, 3, 4, 5, 7, 0] rfl) hX
      refine i_iload C dX5_soonestWith_52 (lv_at hl 7 rfl) ?_
      refine i_goto (tgt := 59) C dX5_soonestWith_54 (by decide) ?_
      exact J2 _ h _ _ _ (lv_sub hl [1, 2, 3, 4, 5, 7, 0] rfl) hX
  exact L1 FU _ _ _ _ _ _ h (lv_sub hl [3, 4, 5, 6, 2, 1, 0] rfl) hX
def f_X5_bestOrder (p1 : Int32) (μ : MM) : Option (Int32 × MM) := bdr (f_X5_atShip p1 1) fun x1 => bdw (f_X5_soonestWith x1 32 p1 μ) fun x2 m1 => some (x2, m1)
theorem nd_X5_bestOrder : yX5_bestOrder.cls ≠ "java/lang/invoke/MethodHandle" ∧ yX5_bestOrder.cls ≠ "java/lang/invoke/VarHandle" ∧ (parseMethodDescriptor yX5_bestOrder.desc).map (fun d => d.parameters.length) = some 1 := by decide +kernel
set_option maxHeartbeats 4000000 in
set_option maxRecDepth 100000 in
theorem c_X5_bestOrder (l : Launch) (G : EN)  {p1 : Int32} {μ : MM} {r : Int32} {m : MM} (h : f_X5_bestOrder p1 μ = some (r, m)) : XM l G yX5_bestOrder cX5_bestOrder 2 (some .int) 10 229 [.ref (G.2.1 37), .int p1] μ (some (.int r)) m := by
  refine x_met (own := RX5) (by decide +kernel) rfl (Nat.le_of_ble_eq_true rfl) (fun Γ A H ls hg C hr hX hQ hl => ?_)
  have hl : lv_has ls 2 [(0, .ref (G.2.1 37)), (1, .int p1)] := hl
  unfold f_X5_bestOrder at h
  refine i_aload_n C dX5_bestOrder_0 rfl (lv_at hl 0 rfl) ?_
  refine i_iload_n C dX5_bestOrder_1 rfl (lv_at hl 1 rfl) ?_
  refine i_iconst (v := 1) C dX5_bestOrder_2 rfl ?_
  obtain ⟨x1, e1, h⟩ := w_bdr h
  refine x_callSi C hX (c_X5_atShip (gl Γ) G  e1) [.ref (G.2.1 37)] rfl hl tw4_227 tw4_228 tw1_7 tw4_229 nd_X5_atShip ⟨(Nat.le_of_ble_eq_true rfl), (Nat.le_of_ble_eq_true rfl)⟩ (Nat.le_of_ble_eq_true rfl) dX5_bestOrder_3 (fun H locs hX => ?_)
  refine i_bipush (v := 32) C dX5_bestOrder_6 rfl ?_
  refine i_iload_n C dX5_bestOrder_8 rfl (lv_at hl 1 rfl) ?_
  obtain ⟨x2, m1, e2, h⟩ := w_bdw h
  refine x_callVi C hX (fg_37_0 G) (c_X5_soonestWith (gl Γ) G  e2) [] rfl hl tw5_138 tw5_140 ts3_10 tw1_7 tw5_141 rfl nd_X5_soonestWith ⟨(Nat.le_of_ble_eq_true rfl), (Nat.le_of_ble_eq_true rfl)⟩ (Nat.le_of_ble_eq_true rfl) dX5_bestOrder_9 (fun H locs hX => ?_)
  exact x_iretW C hX hr hQ h dX5_bestOrder_12
def f_X5_orNone (p1 : Int32) (μ : MM) : Option (Int32 × MM) := if 0 ≤ p1 then (some (p1, μ)) else (bdw (f_X5_finding (-1000004) μ) fun x1 m1 => some (x1, m1))
theorem nd_X5_orNone : yX5_orNone.cls ≠ "java/lang/invoke/MethodHandle" ∧ yX5_orNone.cls ≠ "java/lang/invoke/VarHandle" ∧ (parseMethodDescriptor yX5_orNone.desc).map (fun d => d.parameters.length) = some 1 := by decide +kernel
set_option maxHeartbeats 4000000 in
set_option maxRecDepth 100000 in
theorem c_X5_orNone (l : Launch) (G : EN)  {p1 : Int32} {μ : MM} {r : Int32} {m : MM} (h : f_X5_orNone p1 μ = some (r, m)) : XM l G yX5_orNone cX5_orNone 2 (some .int) 1 21 [.ref (G.2.1 37), .int p1] μ (some (.int r)) m := by
  refine x_met (own := RX5) (by decide +kernel) rfl (Nat.le_of_ble_eq_true rfl) (fun Γ A H ls hg C hr hX hQ hl => ?_)
  have hl : lv_has ls 2 [(0, .ref (G.2.1 37)), (1, .int p1)] := hl
  unfold f_X5_orNone at h
  refine i_iload_n C dX5_orNone_0 rfl (lv_at hl 1 rfl) ?_
  refine i_if_ge (tgt := 13) C h dX5_orNone_1 (by decide) (fun _ h => ?_) (fun _ h => ?_)
  · refine i_iload_n C dX5_orNone_13 rfl (lv_at hl 1 rfl) ?_
    exact x_iretW C hX hr hQ h dX5_orNone_14
  refine i_aload_n C dX5_orNone_4 rfl (lv_at hl 0 rfl) ?_
  refine i_ldc C tw5_109 dX5_orNone_5 ?_
  obtain ⟨x1, m1, e1, h⟩ := w_bdw h
  refine x_callVi C hX (fg_37_0 G) (c_X5_finding (gl Γ) G  e1) [] rfl hl tw4_173 tw4_175 ts1_15 tw1_7 tw4_176 rfl nd_X5_finding ⟨(Nat.le_of_ble_eq_true rfl), (Nat.le_of_ble_eq_true rfl)⟩ (Nat.le_of_ble_eq_true rfl) dX5_orNone_7 (fun H locs hX => ?_)
  refine i_goto (tgt := 14) C dX5_orNone_10 (by decide) ?_
  exact x_iretW C hX hr hQ h dX5_orNone_14
def f_X5_order (p1 : Int32) (μ : MM) : Option (Int32 × MM) := bdr (f_X5_isShip p1) fun x1 => if x1 = 0 then (bdw (f_X5_finding (-1000001) μ) fun x2 m1 => some (x2, m1)) else (bdw (f_X5_bestOrder p1 μ) fun x3 m2 => bdw (f_X5_orNone x3 m2) fun x4 m3 => some (x4, m3))
theorem nd_X5_order : yX5_order.cls ≠ "java/lang/invoke/MethodHandle" ∧ yX5_order.cls ≠ "java/lang/invoke/VarHandle" ∧ (parseMethodDescriptor yX5_order.desc).map (fun d => d.parameters.length) = some 1 := by decide +kernel
set_option maxHeartbeats 4000000 in
set_option maxRecDepth 100000 in
theorem c_X5_order (l : Launch) (G : EN)  {p1 : Int32} {μ : MM} {r : Int32} {m : MM} (h : f_X5_order p1 μ = some (r, m)) : XM l G yX5_order cX5_order 2 (some .int) 11 250 [.ref (G.2.1 37), .int p1] μ (some (.int r)) m := by
  refine x_met (own := RX5) (by decide +kernel) rfl (Nat.le_of_ble_eq_true rfl) (fun Γ A H ls hg C hr hX hQ hl => ?_)
  have hl : lv_has ls 2 [(0, .ref (G.2.1 37)), (1, .int p1)] := hl
  unfold f_X5_order at h
  refine i_iload_n C dX5_order_0 rfl (lv_at hl 1 rfl) ?_
  obtain ⟨x1, e1, h⟩ := w_bdr h
  refine x_callSi C hX (c_X5_isShip (gl Γ) G  e1) [] rfl hl tw4_216 tw4_217 tw1_7 tw4_218 nd_X5_isShip ⟨(Nat.le_of_ble_eq_true rfl), (Nat.le_of_ble_eq_true rfl)⟩ (Nat.le_of_ble_eq_true rfl) dX5_order_1 (fun H locs hX => ?_)
  refine i_if_eq (tgt := 19) C h dX5_order_4 (by decide) (fun _ h => ?_) (fun _ h => ?_)
  · refine i_aload_n C dX5_order_19 rfl (lv_at hl 0 rfl) ?_
    refine i_ldc C tw4_172 dX5_order_20 ?_
    obtain ⟨x2, m1, e2, h⟩ := w_bdw h
    refine x_callVi C hX (fg_37_0 G) (c_X5_finding (gl Γ) G  e2) [] rfl hl tw4_173 tw4_175 ts1_15 tw1_7 tw4_176 rfl nd_X5_finding ⟨(Nat.le_of_ble_eq_true rfl), (Nat.le_of_ble_eq_true rfl)⟩ (Nat.le_of_ble_eq_true rfl) dX5_order_22 (fun H locs hX => ?_)
    exact x_iretW C hX hr hQ h dX5_order_25
  refine i_aload_n C dX5_order_7 rfl (lv_at hl 0 rfl) ?_
  refine i_aload_n C dX5_order_8 rfl (lv_at hl 0 rfl) ?_
  refine i_iload_n C dX5_order_9 rfl (lv_at hl 1 rfl) ?_
  obtain ⟨x3, m2, e3, h⟩ := w_bdw h
  refine x_callVi C hX (fg_37_0 G) (c_X5_bestOrder (gl Γ) G  e3) [.ref (G.2.1 37)] rfl hl tw5_134 tw5_136 ts3_9 tw1_7 tw5_137 rfl nd_X5_bestOrder ⟨(Nat.le_of_ble_eq_true rfl), (Nat.le_of_ble_eq_true rfl)⟩ (Nat.le_of_ble_eq_true rfl) dX5_order_10 (fun H locs hX => ?_)
  obtain ⟨x4, m3, e4, h⟩ := w_bdw h
  refine x_callVi C hX (fg_37_0 G) (c_X5_orNone (gl Γ) G  e4) [] rfl hl tw5_142 tw5_144 ts3_11 tw1_7 tw5_145 rfl nd_X5_orNone ⟨(Nat.le_of_ble_eq_true rfl), (Nat.le_of_ble_eq_true rfl)⟩ (Nat.le_of_ble_eq_true rfl) dX5_order_13 (fun H locs hX => ?_)
  refine i_goto (tgt := 25) C dX5_order_16 (by decide) ?_
  exact x_iretW C hX hr hQ h dX5_order_25
def f_X5_soonest (p1 : Int32) (μ : MM) : Option (Int32 × MM) := bdr (f_X5_isShip p1) fun x1 => if x1 = 0 then (bdw (f_X5_finding (-1000001) μ) fun x5 m4 => some (x5, m4)) else (bdw (f_X5_bestOrder p1 μ) fun x2 m1 => if 0 ≤ x2 then (bdw (f_X5_orNone (m1 37 7) m1) fun x3 m2 => some (x3, m2)) else (bdw (f_X5_orNone (-1) m1) fun x4 m3 => some (x4, m3)))
theorem nd_X5_soonest : yX5_soonest.cls ≠ "java/lang/invoke/MethodHandle" ∧ yX5_soonest.cls ≠ "java/lang/invoke/VarHandle" ∧ (parseMethodDescriptor yX5_soonest.desc).map (fun d => d.parameters.length) = some 1 := by decide +kernel
set_option maxHeartbeats 4000000 in
set_option maxRecDepth 100000 in
theorem c_X5_soonest (l : Launch) (G : EN)  {p1 : Int32} {μ : MM} {r : Int32} {m : MM} (h : f_X5_soonest p1 μ = some (r, m)) : XM l G yX5_soonest cX5_soonest 2 (some .int) 11 250 [.ref (G.2.1 37), .int p1] μ (some (.int r)) m := by
  refine x_met (own := RX5) (by decide +kernel) rfl (Nat.le_of_ble_eq_true rfl) (fun Γ A H ls hg C hr hX hQ hl => ?_)
  have hl : lv_has ls 2 [(0, .ref (G.2.1 37)), (1, .int p1)] := hl
  unfold f_X5_soonest at h
  refine i_iload_n C dX5_soonest_0 rfl (lv_at hl 1 rfl) ?_
  obtain ⟨x1, e1, h⟩ := w_bdr h
  refine x_callSi C hX (c_X5_isShip (gl Γ) G  e1) [] rfl hl tw4_216 tw4_217 tw1_7 tw4_218 nd_X5_isShip ⟨(Nat.le_of_ble_eq_true rfl), (Nat.le_of_ble_eq_true rfl)⟩ (Nat.le_of_ble_eq_true rfl) dX5_soonest_1 (fun H locs hX => ?_)
  refine i_if_ne (tgt := 14) C h dX5_soonest_4 (by decide) (fun _ h => ?_) (fun _ h => ?_)
  · refine i_aload_n C dX5_soonest_14 rfl (lv_at hl 0 rfl) ?_
    refine i_aload_n C dX5_soonest_15 rfl (lv_at hl 0 rfl) ?_
    refine i_iload_n C dX5_soonest_16 rfl (lv_at hl 1 rfl) ?_
    obtain ⟨x2, m1, e2, h⟩ := w_bdw h
    refine x_callVi C hX (fg_37_0 G) (c_X5_bestOrder (gl Γ) G  e2) [.ref (G.2.1 37)] rfl hl tw5_134 tw5_136 ts3_9 tw1_7 tw5_137 rfl nd_X5_bestOrder ⟨(Nat.le_of_ble_eq_true rfl), (Nat.le_of_ble_eq_true rfl)⟩ (Nat.le_of_ble_eq_true rfl) dX5_soonest_17 (fun H locs hX => ?_)
    refine i_if_ge (tgt := 27) C h dX5_soonest_20 (by decide) (fun _ h => ?_) (fun _ h => ?_)
    · refine i_aload_n C dX5_soonest_27 rfl (lv_at hl 0 rfl) ?_
      refine x_get C hX (fg_37_7 G) tw4_90 dX5_soonest_28 ?_
      obtain ⟨x3, m2, e3, h⟩ := w_bdw h
      refine x_callVi C hX (fg_37_0 G) (c_X5_orNone (gl Γ) G  e3) [] rfl hl tw5_142 tw5_144 ts3_11 tw1_7 tw5_145 rfl nd_X5_orNone ⟨(Nat.le_of_ble_eq_true rfl), (Nat.le_of_ble_eq_true rfl)⟩ (Nat.le_of_ble_eq_true rfl) dX5_soonest_31 (fun H locs hX => ?_)
      exact x_iretW C hX hr hQ h dX5_soonest_34
    refine i_iconst (v := (-1)) C dX5_soonest_23 rfl ?_
    refine i_goto (tgt := 31) C dX5_soonest_24 (by decide) ?_
    obtain ⟨x4, m3, e4, h⟩ := w_bdw h
    refine x_callVi C hX (fg_37_0 G) (c_X5_orNone (gl Γ) G  e4) [] rfl hl tw5_142 tw5_144 ts3_11 tw1_7 tw5_145 rfl nd_X5_orNone ⟨(Nat.le_of_ble_eq_true rfl), (Nat.le_of_ble_eq_true rfl)⟩ (Nat.le_of_ble_eq_true rfl) dX5_soonest_31 (fun H locs hX => ?_)
    exact x_iretW C hX hr hQ h dX5_soonest_34
  refine i_aload_n C dX5_soonest_7 rfl (lv_at hl 0 rfl) ?_
  refine i_ldc C tw4_172 dX5_soonest_8 ?_
  obtain ⟨x5, m4, e5, h⟩ := w_bdw h
  refine x_callVi C hX (fg_37_0 G) (c_X5_finding (gl Γ) G  e5) [] rfl hl tw4_173 tw4_175 ts1_15 tw1_7 tw4_176 rfl nd_X5_finding ⟨(Nat.le_of_ble_eq_true rfl), (Nat.le_of_ble_eq_true rfl)⟩ (Nat.le_of_ble_eq_true rfl) dX5_soonest_10 (fun H locs hX => ?_)
  exact x_iretW C hX hr hQ h dX5_soonest_13
def L_X5_orders_51 (p1 : Int32) (p2 : Int32) (k1 : Int64 → MM → Option (Int64 × MM)) : Nat → Int64 → Int32 → MM → Option (Int64 × MM)
  | 0, _, _, _ => none
  | fu + 1, x8, x9, m4 => if 32 ≤ x9 then (k1 x8 m4) else (bdr (f_X5_atShip p1 1) fun x10 => sti m4 38 152 x10 x9 fun m5 => bdw (f_X5_aheadOf p1 60 m5) fun x11 m6 => jn1 (fun (x12 : Int64) => lt_ ((x8 ||| x12)) fun x13 => lt_ (x9 + 1) fun x14 => L_X5_orders_51 p1 p2 k1 fu x13 x14 m6) fun k2 => if x11 = p2 then (k2 (lsl 1 x9)) else (k2 0))
def f_X5_orders (p1 : Int32) (p2 : Int32) (μ : MM) : Option (Int64 × MM) := bdr (f_X5_isShip p1) fun x1 => if x1 = 0 then (bdw (f_X5_finding (-1000001) μ) fun x2 m1 => some ((x2).toInt64, m1)) else (bdr (f_X5_isCell p2) fun x3 => if x3 = 0 then (bdw (f_X5_finding (-1000001) μ) fun x16 m8 => some ((x16).toInt64, m8)) else (bdr (f_X5_isIsland p2 μ) fun x4 => if x4 = 0 then (bdw (f_X5_finding (-1000005) μ) fun x15 m7 => some ((x15).toInt64, m7)) else (bdr (f_X5_shipIs p1 1 μ) fun x5 => jn2 (fun (x6 : Int64) (m2 : MM) => bdr (f_X5_atShip p1 1) fun x7 => sti m2 38 152 x7 x5 fun m3 => some (x6, m3)) fun k1 => L_X5_orders_51 p1 p2 k1 FU 0 0 μ)))
theorem nd_X5_orders : yX5_orders.cls ≠ "java/lang/invoke/MethodHandle" ∧ yX5_orders.cls ≠ "java/lang/invoke/VarHandle" ∧ (parseMethodDescriptor yX5_orders.desc).map (fun d => d.parameters.length) = some 2 := by decide +kernel
set_option maxHeartbeats 4000000 in
set_option maxRecDepth 100000 in
theorem c_X5_orders (l : Launch) (G : EN)  {p1 p2 : Int32} {μ : MM} {r : Int64} {m : MM} (h : f_X5_orders p1 p2 μ = some (r, m)) : XM l G yX5_orders cX5_orders 7 (some .long) 10 223 [.ref (G.2.1 37), .int p1, .int p2] μ (some (.long r)) m := by
  refine x_met (own := RX5) (by decide +kernel) rfl (Nat.le_of_ble_eq_true rfl) (fun Γ A H ls hg C hr hX hQ hl => ?_)
  have hl : lv_has ls 7 [(0, .ref (G.2.1 37)), (1, .int p1), (2, .int p2)] := hl
  unfold f_X5_orders at h
  refine i_iload_n C dX5_orders_0 rfl (lv_at hl 1 rfl) ?_
  obtain ⟨x1, e1, h⟩ := w_bdr h
  refine x_callSi C hX (c_X5_isShip (gl Γ) G  e1) [] rfl hl tw4_216 tw4_217 tw1_7 tw4_218 nd_X5_isShip ⟨(Nat.le_of_ble_eq_true rfl), (Nat.le_of_ble_eq_true rfl)⟩ (Nat.le_of_ble_eq_true rfl) dX5_orders_1 (fun H locs hX => ?_)
  refine i_if_eq (tgt := 14) C h dX5_orders_4 (by decide) (fun _ h => ?_) (fun _ h => ?_)
  · refine i_aload_n C dX5_orders_14 rfl (lv_at hl 0 rfl) ?_
    refine i_ldc C tw4_172 dX5_orders_15 ?_
    obtain ⟨x2, m1, e2, h⟩ := w_bdw h
    refine x_callVi C hX (fg_37_0 G) (c_X5_finding (gl Γ) G  e2) [] rfl hl tw4_173 tw4_175 ts1_15 tw1_7 tw4_176 rfl nd_X5_finding ⟨(Nat.le_of_ble_eq_true rfl), (Nat.le_of_ble_eq_true rfl)⟩ (Nat.le_of_ble_eq_true rfl) dX5_orders_17 (fun H locs hX => ?_)
    refine i_i2l C dX5_orders_20 ?_
    exact x_lretW C hX hr hQ h dX5_orders_21
  refine i_iload_n C dX5_orders_7 rfl (lv_at hl 2 rfl) ?_
  obtain ⟨x3, e3, h⟩ := w_bdr h
  refine x_callSi C hX (c_X5_isCell (gl Γ) G  e3) [] rfl hl tw5_21 tw5_22 tw1_7 tw5_23 nd_X5_isCell ⟨(Nat.le_of_ble_eq_true rfl), (Nat.le_of_ble_eq_true rfl)⟩ (Nat.le_of_ble_eq_true rfl) dX5_orders_8 (fun H locs hX => ?_)
  refine i_if_ne (tgt := 22) C h dX5_orders_11 (by decide) (fun _ h => ?_) (fun _ h => ?_)
  · refine i_aload_n C dX5_orders_22 rfl (lv_at hl 0 rfl) ?_
    refine i_iload_n C dX5_orders_23 rfl (lv_at hl 2 rfl) ?_
    obtain ⟨x4, e4, h⟩ := w_bdr h
    refine x_callVi C hX (fg_37_0 G) (c_X5_isIsland (gl Γ) G  e4) [] rfl hl tw5_9 tw5_11 ts2_11 tw1_7 tw5_12 rfl nd_X5_isIsland ⟨(Nat.le_of_ble_eq_true rfl), (Nat.le_of_ble_eq_true rfl)⟩ (Nat.le_of_ble_eq_true rfl) dX5_orders_24 (fun H locs hX => ?_)
    refine i_if_ne (tgt := 38) C h dX5_orders_27 (by decide) (fun _ h => ?_) (fun _ h => ?_)
    · refine i_aload_n C dX5_orders_38 rfl (lv_at hl 0 rfl) ?_
      refine i_iload_n C dX5_orders_39 rfl (lv_at hl 1 rfl) ?_
      refine i_iconst (v := 1) C dX5_orders_40 rfl ?_
      obtain ⟨x5, e5, h⟩ := w_bdr h
      refine x_callVi C hX (fg_37_0 G) (c_X5_shipIs (gl Γ) G  e5) [] rfl hl tw4_223 tw4_225 ts2_6 tw1_7 tw4_226 rfl nd_X5_shipIs ⟨(Nat.le_of_ble_eq_true rfl), (Nat.le_of_ble_eq_true rfl)⟩ (Nat.le_of_ble_eq_true rfl) dX5_orders_41 (fun H locs hX => ?_)
      refine i_istore_n C [(3, .int x5), (0, .ref (G.2.1 37)), (1, .int p1), (2, .int p2)] dX5_orders_44 rfl hl (by decide) rfl (fun ls hl => ?_)
      refine i_lconst (v := 0) C dX5_orders_45 rfl ?_
      refine i_lstore C [(4, .long 0), (3, .int x5), (0, .ref (G.2.1 37)), (1, .int p1), (2, .int p2)] dX5_orders_46 hl (by decide) rfl (fun ls hl => ?_)
      refine i_iconst (v := 0) C dX5_orders_48 rfl ?_
      refine i_istore C [(6, .int 0), (4, .long 0), (3, .int x5), (0, .ref (G.2.1 37)), (1, .int p1), (2, .int p2)] dX5_orders_49 hl (by decide) rfl (fun ls hl => ?_)
      refine w_jn2 (fun (x6 : Int64) (m2 : MM) => ∀ (H : Heap) (locs : List Loc) (ls : Array Slot), lv_has ls 7 [(0, .ref (G.2.1 37)), (1, .int p1), (3, .int x5), (4, .long x6)] → XW G A (gs Γ) H locs m2 → WX Γ H locs 100 ls []) h (fun x6 m2 h H locs ls hl hX => ?_) (fun k1 J1 h => ?_)
      · refine i_aload_n C dX5_orders_100 rfl (lv_at hl 0 rfl) ?_
        refine x_get C hX (fg_37_0 G) tw4_83 dX5_orders_101 ?_
        refine i_iload_n C dX5_orders_104 rfl (lv_at hl 1 rfl) ?_
        refine i_iconst (v := 1) C dX5_orders_105 rfl ?_
        obtain ⟨x7, e6, h⟩ := w_bdr h
        refine x_callSi C hX (c_X5_atShip (gl Γ) G  e6) [.ref (G.2.1 38)] rfl hl tw4_227 tw4_228 tw1_7 tw4_229 nd_X5_atShip ⟨(Nat.le_of_ble_eq_true rfl), (Nat.le_of_ble_eq_true rfl)⟩ (Nat.le_of_ble_eq_true rfl) dX5_orders_106 (fun H locs hX => ?_)
        refine i_iload_n C dX5_orders_109 rfl (lv_at hl 2 rfl) ?_
        refine x_iast C hX (ai_38 G) h dX5_orders_110 (fun H locs m3 h hX => ?_)
        refine i_lload C dX5_orders_111 (lv_at hl 3 rfl) ?_
        exact x_lretW C hX hr hQ h dX5_orders_113
      have L1 : ∀ (fu : Nat) (x8 : Int64) (x9 : Int32) (m4 : MM) (H : Heap) (locs : List Loc) (ls : Array Slot), L_X5_orders_51 p1 p2 k1 fu x8 x9 m4 = some (r, m) → lv_has ls 7 [(0, .ref (G.2.1 37)), (1, .int p1), (2, .int p2), (3, .int x5), (4, .long x8), (6, .int x9)] → XW G A (gs Γ) H locs m4 → WX Γ H locs 51 ls [] := by
        intro fu
        induction fu with
        | zero =>
          intro x8 x9 m4 H locs ls h
          rw [L_X5_orders_51] at h
          cases h
        | succ fu ih =>
          intro x8 x9 m4 H locs ls h hl hX
          rw [L_X5_orders_51] at h
          refine i_iload C dX5_orders_51 (lv_at hl 5 rfl) ?_
          refine i_bipush (v := 32) C dX5_orders_53 rfl ?_
          refine i_icmp_ge (tgt := 100) C h dX5_orders_55 (by decide) (fun _ h => ?_) (fun _ h => ?_)
          · exact J1 _ _ h _ _ _ (lv_sub hl [0, 1, 3, 4] rfl) hX
          refine i_aload_n C dX5_orders_58 rfl (lv_at hl 0 rfl) ?_
          refine x_get C hX (fg_37_0 G) tw4_83 dX5_orders_59 ?_
          refine i_iload_n C dX5_orders_62 rfl (lv_at hl 1 rfl) ?_
          refine i_iconst (v := 1) C dX5_orders_63 rfl ?_
          obtain ⟨x10, e7, h⟩ := w_bdr h
          refine x_callSi C hX (c_X5_atShip (gl Γ) G  e7) [.ref (G.2.1 38)] rfl hl tw4_227 tw4_228 tw1_7 tw4_229 nd_X5_atShip ⟨(Nat.le_of_ble_eq_true rfl), (Nat.le_of_ble_eq_true rfl)⟩ (Nat.le_of_ble_eq_true rfl) dX5_orders_64 (fun H locs hX => ?_)
          refine i_iload C dX5_orders_67 (lv_at hl 5 rfl) ?_
          refine x_iast C hX (ai_38 G) h dX5_orders_69 (fun H locs m5 h hX => ?_)
          refine i_lload C dX5_orders_70 (lv_at hl 4 rfl) ?_
          refine i_aload_n C dX5_orders_72 rfl (lv_at hl 0 rfl) ?_
          refine i_iload_n C dX5_orders_73 rfl (lv_at hl 1 rfl) ?_
          refine i_bipush (v := 60) C dX5_orders_74 rfl ?_
          obtain ⟨x11, m6, e8, h⟩ := w_bdw h
          refine x_callVi C hX (fg_37_0 G) (c_X5_aheadOf (gl Γ) G  e8) [.long x8] rfl hl tw5_85 tw5_87 ts3_3 tw1_7 tw5_88 rfl nd_X5_aheadOf ⟨(Nat.le_of_ble_eq_true rfl), (Nat.le_of_ble_eq_true rfl)⟩ (Nat.le_of_ble_eq_true rfl) dX5_orders_76 (fun H locs hX => ?_)
          refine i_iload_n C dX5_orders_79 rfl (lv_at hl 2 rfl) ?_
          refine w_jn1 (fun (x12 : Int64) => ∀ (H : Heap) (locs : List Loc) (ls : Array Slot), lv_has ls 7 [(0, .ref (G.2.1 37)), (1, .int p1), (2, .int p2), (3, .int x5), (6, .int x9)] → XW G A (gs Γ) H locs m6 → WX Γ H locs 91 ls [.long x12, .long x8]) h (fun x12 h H locs ls hl hX => ?_) (fun k2 J2 h => ?_)
          · refine i_lor C dX5_orders_91 ?_
            refine i_lstoreL C (fun x13 => [(4, .long x13), (0, .ref (G.2.1 37)), (1, .int p1), (2, .int p2), (3, .int x5), (6, .int x9)]) h dX5_orders_92 hl (by decide) (fun _ => rfl) (fun x13 ls h hl => ?_)
            refine i_iinc C (j := 5) (fun x14 => [(6, .int x14), (4, .long x13), (0, .ref (G.2.1 37)), (1, .int p1), (2, .int p2), (3, .int x5)]) h dX5_orders_94 hl rfl rfl (by decide) (fun _ => rfl) (fun x14 ls h hl => ?_)
            refine i_goto (tgt := 51) C dX5_orders_97 (by decide) ?_
            exact ih _ _ _ _ _ _ h (lv_sub hl [2, 3, 4, 5, 1, 0] rfl) hX
          refine i_icmp_ne (tgt := 90) C h dX5_orders_80 (by decide) (fun _ h => ?_) (fun _ h => ?_)
          · refine i_lconst (v := 0) C dX5_orders_90 rfl ?_
            exact J2 _ h _ _ _ (lv_sub hl [0, 1, 2, 3, 5] rfl) hX
          refine i_lconst (v := 1) C dX5_orders_83 rfl ?_
          refine i_iload C dX5_orders_84 (lv_at hl 5 rfl) ?_
          refine i_lshl C dX5_orders_86 ?_
          refine i_goto (tgt := 91) C dX5_orders_87 (by decide) ?_
          exact J2 _ h _ _ _ (lv_sub hl [0, 1, 2, 3, 5] rfl) hX
      exact L1 FU _ _ _ _ _ _ h (lv_sub hl [3, 4, 5, 2, 1, 0] rfl) hX
    refine i_aload_n C dX5_orders_30 rfl (lv_at hl 0 rfl) ?_
    refine i_ldc C tw5_50 dX5_orders_31 ?_
    obtain ⟨x15, m7, e9, h⟩ := w_bdw h
    refine x_callVi C hX (fg_37_0 G) (c_X5_finding (gl Γ) G  e9) [] rfl hl tw4_173 tw4_175 ts1_15 tw1_7 tw4_176 rfl nd_X5_finding ⟨(Nat.le_of_ble_eq_true rfl), (Nat.le_of_ble_eq_true rfl)⟩ (Nat.le_of_ble_eq_true rfl) dX5_orders_33 (fun H locs hX => ?_)
    refine i_i2l C dX5_orders_36 ?_
    exact x_lretW C hX hr hQ h dX5_orders_37
  refine i_aload_n C dX5_orders_14 rfl (lv_at hl 0 rfl) ?_
  refine i_ldc C tw4_172 dX5_orders_15 ?_
  obtain ⟨x16, m8, e10, h⟩ := w_bdw h
  refine x_callVi C hX (fg_37_0 G) (c_X5_finding (gl Γ) G  e10) [] rfl hl tw4_173 tw4_175 ts1_15 tw1_7 tw4_176 rfl nd_X5_finding ⟨(Nat.le_of_ble_eq_true rfl), (Nat.le_of_ble_eq_true rfl)⟩ (Nat.le_of_ble_eq_true rfl) dX5_orders_17 (fun H locs hX => ?_)
  refine i_i2l C dX5_orders_20 ?_
  exact x_lretW C hX hr hQ h dX5_orders_21
