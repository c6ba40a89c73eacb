def L_X4_bestCrew_7 (p1 : Int32) (μ : MM) : Nat → Int32 → Int32 → Int32 → Option Int32
  | 0, _, _, _ => none
  | fu + 1, x1, x2, x3 => if (sl 1 (μ 1 0)) ≤ x3 then (some x1) else (bdr (f_J6_bitCount_0f7a4 x3) fun x4 => jn2 (fun (x5 : Int32) (x6 : Int32) => lt_ (x3 + 1) fun x7 => L_X4_bestCrew_7 p1 μ fu x5 x6 x7) fun k1 => if x4 = p1 then (bdr (f_X0_meanOf x3 0 μ) fun x8 => lt_ ((iabs x8)) fun x9 => jn0 (k1 x3 x9) fun k2 => if x2 < 0 then (k2) else (if x2 ≤ x9 then (k1 x1 x2) else (k2))) else (k1 x1 x2))
def f_X4_bestCrew (p1 : Int32) (μ : MM) : Option Int32 := L_X4_bestCrew_7 p1 μ FU 0 (-1) 1
theorem nd_X4_bestCrew : yX4_bestCrew.cls ≠ "java/lang/invoke/MethodHandle" ∧ yX4_bestCrew.cls ≠ "java/lang/invoke/VarHandle" ∧ (parseMethodDescriptor yX4_bestCrew.desc).map (fun d => d.parameters.length) = some 1 := by decide +kernel
set_option maxHeartbeats 4000000 in
set_option maxRecDepth 100000 in
theorem c_X4_bestCrew (l : Launch) (G : EN)  {p1 : Int32} {μ : MM} {r : Int32} (h : f_X4_bestCrew p1 μ = some r) : XM l G yX4_bestCrew cX4_bestCrew 6 (some .int) 3 76 [.ref (G.2.1 0), .int p1] μ (some (.int r)) μ := by
  refine x_met (own := RX4) (by decide +kernel) rfl (Nat.le_of_ble_eq_true rfl) (fun Γ A H ls hg C hr hX hQ hl => ?_)
  have hl : lv_has ls 6 [(0, .ref (G.2.1 0)), (1, .int p1)] := hl
  unfold f_X4_bestCrew at h
  refine i_iconst (v := 0) C dX4_bestCrew_0 rfl ?_
  refine i_istore_n C [(2, .int 0), (0, .ref (G.2.1 0)), (1, .int p1)] dX4_bestCrew_1 rfl hl (by decide) rfl (fun ls hl => ?_)
  refine i_iconst (v := (-1)) C dX4_bestCrew_2 rfl ?_
  refine i_istore_n C [(3, .int (-1)), (2, .int 0), (0, .ref (G.2.1 0)), (1, .int p1)] dX4_bestCrew_3 rfl hl (by decide) rfl (fun ls hl => ?_)
  refine i_iconst (v := 1) C dX4_bestCrew_4 rfl ?_
  refine i_istore C [(4, .int 1), (3, .int (-1)), (2, .int 0), (0, .ref (G.2.1 0)), (1, .int p1)] dX4_bestCrew_5 hl (by decide) rfl (fun ls hl => ?_)
  have L1 : ∀ (fu : Nat) (x1 : Int32) (x2 : Int32) (x3 : Int32) (H : Heap) (locs : List Loc) (ls : Array Slot), L_X4_bestCrew_7 p1 μ fu x1 x2 x3 = some r → lv_has ls 6 [(0, .ref (G.2.1 0)), (1, .int p1), (2, .int x1), (3, .int x2), (4, .int x3)] → XW G A (gs Γ) H locs μ → WX Γ H locs 7 ls [] := by
    intro fu
    induction fu with
    | zero =>
      intro x1 x2 x3 H locs ls h
      rw [L_X4_bestCrew_7] at h
      cases h
    | succ fu ih =>
      intro x1 x2 x3 H locs ls h hl hX
      rw [L_X4_bestCrew_7] at h
      refine i_iload C dX4_bestCrew_7 (lv_at hl 4 rfl) ?_
      refine i_iconst (v := 1) C dX4_bestCrew_9 rfl ?_
      refine i_aload_n C dX4_bestCrew_10 rfl (lv_at hl 0 rfl) ?_
      refine x_get C hX (fg_0_0 G) tw1_166 dX4_bestCrew_11 ?_
      refine x_get C hX (fg_1_0 G) tw1_33 dX4_bestCrew_14 ?_
      refine i_ishl C dX4_bestCrew_17 ?_
      refine i_icmp_ge (tgt := 67) C h dX4_bestCrew_18 (by decide) (fun _ h => ?_) (fun _ h => ?_)
      · refine i_iload_n C dX4_bestCrew_67 rfl (lv_at hl 2 rfl) ?_
        exact x_iretR C hX hr hQ h dX4_bestCrew_68
      refine i_iload C dX4_bestCrew_21 (lv_at hl 4 rfl) ?_
      obtain ⟨x4, e1, h⟩ := w_bdr h
      refine x_callSi C hX (c_J6_bitCount_0f7a4 (gl Γ) G  e1) [] rfl hl tw2_88 tw2_89 tw1_9 tw2_90 nd_J6_bitCount_0f7a4 ⟨(Nat.le_of_ble_eq_true rfl), (Nat.le_of_ble_eq_true rfl)⟩ (Nat.le_of_ble_eq_true rfl) dX4_bestCrew_23 (fun H locs hX => ?_)
      refine i_iload_n C dX4_bestCrew_26 rfl (lv_at hl 1 rfl) ?_
      refine w_jn2 (fun (x5 : Int32) (x6 : Int32) => ∀ (H : Heap) (locs : List Loc) (ls : Array Slot), lv_has ls 6 [(0, .ref (G.2.1 0)), (1, .int p1), (2, .int x5), (3, .int x6), (4, .int x3)] → XW G A (gs Γ) H locs μ → WX Γ H locs 61 ls []) h (fun x5 x6 h H locs ls hl hX => ?_) (fun k1 J1 h => ?_)
      · refine i_iinc C (j := 4) (fun x7 => [(4, .int x7), (0, .ref (G.2.1 0)), (1, .int p1), (2, .int x5), (3, .int x6)]) h dX4_bestCrew_61 hl rfl rfl (by decide) (fun _ => rfl) (fun x7 ls h hl => ?_)
        refine i_goto (tgt := 7) C dX4_bestCrew_64 (by decide) ?_
        exact ih _ _ _ _ _ _ h (lv_sub hl [1, 2, 3, 4, 0] rfl) hX
      refine i_icmp_ne (tgt := 61) C h dX4_bestCrew_27 (by decide) (fun _ h => ?_) (fun _ h => ?_)
      · exact J1 _ _ h _ _ _ (lv_sub hl [0, 1, 2, 3, 4] rfl) hX
      refine i_aload_n C dX4_bestCrew_30 rfl (lv_at hl 0 rfl) ?_
      refine x_get C hX (fg_0_0 G) tw1_166 dX4_bestCrew_31 ?_
      refine i_iload C dX4_bestCrew_34 (lv_at hl 4 rfl) ?_
      refine i_iconst (v := 0) C dX4_bestCrew_36 rfl ?_
      obtain ⟨x8, e2, h⟩ := w_bdr h
      refine x_callVi C hX (fg_1_0 G) (c_X0_meanOf (gl Γ) G  e2) [] rfl hl tw2_7 tw2_8 tw2_9 tw1_2 tw2_10 rfl nd_X0_meanOf ⟨(Nat.le_of_ble_eq_true rfl), (Nat.le_of_ble_eq_true rfl)⟩ (Nat.le_of_ble_eq_true rfl) dX4_bestCrew_37 (fun H locs hX => ?_)
      refine x_abs C hl tw2_203 tw2_204 tw1_8 tw2_205 (Nat.le_of_ble_eq_true rfl) (Nat.le_of_ble_eq_true rfl) dX4_bestCrew_40 ?_
      refine i_istoreL C (fun x9 => [(5, .int x9), (0, .ref (G.2.1 0)), (1, .int p1), (2, .int x1), (3, .int x2), (4, .int x3)]) h dX4_bestCrew_43 hl (by decide) (fun _ => rfl) (fun x9 ls h hl => ?_)
      refine i_iload_n C dX4_bestCrew_45 rfl (lv_at hl 4 rfl) ?_
      refine w_jn0 (∀ (H : Heap) (locs : List Loc) (ls : Array Slot), lv_has ls 6 [(0, .ref (G.2.1 0)), (1, .int p1), (4, .int x3), (5, .int x9)] → XW G A (gs Γ) H locs μ → WX Γ H locs 55 ls []) h (fun  h H locs ls hl hX => ?_) (fun k2 J2 h => ?_)
      · refine i_iload C dX4_bestCrew_55 (lv_at hl 3 rfl) ?_
        refine i_istore_n C [(3, .int x9), (0, .ref (G.2.1 0)), (1, .int p1), (4, .int x3), (5, .int x9)] dX4_bestCrew_57 rfl hl (by decide) rfl (fun ls hl => ?_)
        refine i_iload C dX4_bestCrew_58 (lv_at hl 3 rfl) ?_
        refine i_istore_n C [(2, .int x3), (3, .int x9), (0, .ref (G.2.1 0)), (1, .int p1), (4, .int x3), (5, .int x9)] dX4_bestCrew_60 rfl hl (by decide) rfl (fun ls hl => ?_)
        exact J1 _ _ h _ _ _ (lv_sub hl [2, 3, 0, 1, 4] rfl) hX
      refine i_if_lt (tgt := 55) C h dX4_bestCrew_46 (by decide) (fun _ h => ?_) (fun _ h => ?_)
      · exact J2 h _ _ _ (lv_sub hl [1, 2, 5, 0] rfl) hX
      refine i_iload C dX4_bestCrew_49 (lv_at hl 0 rfl) ?_
      refine i_iload_n C dX4_bestCrew_51 rfl (lv_at hl 4 rfl) ?_
      refine i_icmp_ge (tgt := 61) C h dX4_bestCrew_52 (by decide) (fun _ h => ?_) (fun _ h => ?_)
      · exact J1 _ _ h _ _ _ (lv_sub hl [1, 2, 3, 4, 5] rfl) hX
      exact J2 h _ _ _ (lv_sub hl [1, 2, 5, 0] rfl) hX
  exact L1 FU _ _ _ _ _ _ h (lv_sub hl [3, 4, 2, 1, 0] rfl) hX
def f_X4_crew (p1 : Int32) (μ : MM) : Option (Int32 × MM) := bdr (f_X4_isWithin p1 1 8) fun x1 => if x1 = 0 then (bdw (f_X4_finding (-1000001) μ) fun x4 m2 => some (x4, m2)) else (if p1 ≤ (μ 1 0) then (bdr (f_X4_bestCrew p1 μ) fun x2 => some (x2, μ)) else (bdw (f_X4_finding (-1000004) μ) fun x3 m1 => some (x3, m1)))
theorem nd_X4_crew : yX4_crew.cls ≠ "java/lang/invoke/MethodHandle" ∧ yX4_crew.cls ≠ "java/lang/invoke/VarHandle" ∧ (parseMethodDescriptor yX4_crew.desc).map (fun d => d.parameters.length) = some 1 := by decide +kernel
set_option maxHeartbeats 4000000 in
set_option maxRecDepth 100000 in
theorem c_X4_crew (l : Launch) (G : EN)  {p1 : Int32} {μ : MM} {r : Int32} {m : MM} (h : f_X4_crew p1 μ = some (r, m)) : XM l G yX4_crew cX4_crew 2 (some .int) 4 101 [.ref (G.2.1 0), .int p1] μ (some (.int r)) m := by
  refine x_met (own := RX4) (by decide +kernel) rfl (Nat.le_of_ble_eq_true rfl) (fun Γ A H ls hg C hr hX hQ hl => ?_)
  have hl : lv_has ls 2 [(0, .ref (G.2.1 0)), (1, .int p1)] := hl
  unfold f_X4_crew at h
  refine i_iload_n C dX4_crew_0 rfl (lv_at hl 1 rfl) ?_
  refine i_iconst (v := 1) C dX4_crew_1 rfl ?_
  refine i_bipush (v := 8) C dX4_crew_2 rfl ?_
  obtain ⟨x1, e1, h⟩ := w_bdr h
  refine x_callSi C hX (c_X4_isWithin (gl Γ) G  e1) [] rfl hl tw1_201 tw1_202 tw1_1 tw1_203 nd_X4_isWithin ⟨(Nat.le_of_ble_eq_true rfl), (Nat.le_of_ble_eq_true rfl)⟩ (Nat.le_of_ble_eq_true rfl) dX4_crew_4 (fun H locs hX => ?_)
  refine i_if_ne (tgt := 17) C h dX4_crew_7 (by decide) (fun _ h => ?_) (fun _ h => ?_)
  · refine i_aload_n C dX4_crew_17 rfl (lv_at hl 0 rfl) ?_
    refine x_get C hX (fg_0_0 G) tw1_166 dX4_crew_18 ?_
    refine x_get C hX (fg_1_0 G) tw1_33 dX4_crew_21 ?_
    refine i_iload_n C dX4_crew_24 rfl (lv_at hl 1 rfl) ?_
    refine i_icmp_ge (tgt := 35) C h dX4_crew_25 (by decide) (fun _ h => ?_) (fun _ h => ?_)
    · refine i_aload_n C dX4_crew_35 rfl (lv_at hl 0 rfl) ?_
      refine i_iload_n C dX4_crew_36 rfl (lv_at hl 1 rfl) ?_
      obtain ⟨x2, e2, h⟩ := w_bdr h
      refine x_callVi C hX (fg_0_0 G) (c_X4_bestCrew (gl Γ) G  e2) [] rfl hl tw2_199 tw2_201 ts1_10 tw1_1 tw2_202 rfl nd_X4_bestCrew ⟨(Nat.le_of_ble_eq_true rfl), (Nat.le_of_ble_eq_true rfl)⟩ (Nat.le_of_ble_eq_true rfl) dX4_crew_37 (fun H locs hX => ?_)
      exact x_iretW C hX hr hQ h dX4_crew_40
    refine i_aload_n C dX4_crew_28 rfl (lv_at hl 0 rfl) ?_
    refine i_ldc C tw2_126 dX4_crew_29 ?_
    obtain ⟨x3, m1, e3, h⟩ := w_bdw h
    refine x_callVi C hX (fg_0_0 G) (c_X4_finding (gl Γ) G  e3) [] rfl hl tw1_205 tw1_207 ts1_0 tw1_1 tw1_208 rfl nd_X4_finding ⟨(Nat.le_of_ble_eq_true rfl), (Nat.le_of_ble_eq_true rfl)⟩ (Nat.le_of_ble_eq_true rfl) dX4_crew_31 (fun H locs hX => ?_)
    exact x_iretW C hX hr hQ h dX4_crew_34
  refine i_aload_n C dX4_crew_10 rfl (lv_at hl 0 rfl) ?_
  refine i_ldc C tw1_204 dX4_crew_11 ?_
  obtain ⟨x4, m2, e4, h⟩ := w_bdw h
  refine x_callVi C hX (fg_0_0 G) (c_X4_finding (gl Γ) G  e4) [] rfl hl tw1_205 tw1_207 ts1_0 tw1_1 tw1_208 rfl nd_X4_finding ⟨(Nat.le_of_ble_eq_true rfl), (Nat.le_of_ble_eq_true rfl)⟩ (Nat.le_of_ble_eq_true rfl) dX4_crew_13 (fun H locs hX => ?_)
  exact x_iretW C hX hr hQ h dX4_crew_16
def f_X4_mean (p1 : Int32) (μ : MM) : Option (Int32 × MM) := bdr (f_X4_isWithin p1 1 8) fun x1 => if x1 = 0 then (bdw (f_X4_finding (-1000001) μ) fun x5 m2 => some (x5, m2)) else (if p1 ≤ (μ 1 0) then (bdr (f_X4_bestCrew p1 μ) fun x2 => bdr (f_X0_meanOf x2 0 μ) fun x3 => some (x3, μ)) else (bdw (f_X4_finding (-1000004) μ) fun x4 m1 => some (x4, m1)))
theorem nd_X4_mean : yX4_mean.cls ≠ "java/lang/invoke/MethodHandle" ∧ yX4_mean.cls ≠ "java/lang/invoke/VarHandle" ∧ (parseMethodDescriptor yX4_mean.desc).map (fun d => d.parameters.length) = some 1 := by decide +kernel
set_option maxHeartbeats 4000000 in
set_option maxRecDepth 100000 in
theorem c_X4_mean (l : Launch) (G : EN)  {p1 : Int32} {μ : MM} {r : Int32} {m : MM} (h : f_X4_mean p1 μ = some (r, m)) : XM l G yX4_mean cX4_mean 2 (some .int) 4 101 [.ref (G.2.1 0), .int p1] μ (some (.int r)) m := by
  refine x_met (own := RX4) (by decide +kernel) rfl (Nat.le_of_ble_eq_true rfl) (fun Γ A H ls hg C hr hX hQ hl => ?_)
  have hl : lv_has ls 2 [(0, .ref (G.2.1 0)), (1, .int p1)] := hl
  unfold f_X4_mean at h
  refine i_iload_n C dX4_mean_0 rfl (lv_at hl 1 rfl) ?_
  refine i_iconst (v := 1) C dX4_mean_1 rfl ?_
  refine i_bipush (v := 8) C dX4_mean_2 rfl ?_
  obtain ⟨x1, e1, h⟩ := w_bdr h
  refine x_callSi C hX (c_X4_isWithin (gl Γ) G  e1) [] rfl hl tw1_201 tw1_202 tw1_1 tw1_203 nd_X4_isWithin ⟨(Nat.le_of_ble_eq_true rfl), (Nat.le_of_ble_eq_true rfl)⟩ (Nat.le_of_ble_eq_true rfl) dX4_mean_4 (fun H locs hX => ?_)
  refine i_if_ne (tgt := 17) C h dX4_mean_7 (by decide) (fun _ h => ?_) (fun _ h => ?_)
  · refine i_aload_n C dX4_mean_17 rfl (lv_at hl 0 rfl) ?_
    refine x_get C hX (fg_0_0 G) tw1_166 dX4_mean_18 ?_
    refine x_get C hX (fg_1_0 G) tw1_33 dX4_mean_21 ?_
    refine i_iload_n C dX4_mean_24 rfl (lv_at hl 1 rfl) ?_
    refine i_icmp_ge (tgt := 35) C h dX4_mean_25 (by decide) (fun _ h => ?_) (fun _ h => ?_)
    · refine i_aload_n C dX4_mean_35 rfl (lv_at hl 0 rfl) ?_
      refine x_get C hX (fg_0_0 G) tw1_166 dX4_mean_36 ?_
      refine i_aload_n C dX4_mean_39 rfl (lv_at hl 0 rfl) ?_
      refine i_iload_n C dX4_mean_40 rfl (lv_at hl 1 rfl) ?_
      obtain ⟨x2, e2, h⟩ := w_bdr h
      refine x_callVi C hX (fg_0_0 G) (c_X4_bestCrew (gl Γ) G  e2) [.ref (G.2.1 1)] rfl hl tw2_199 tw2_201 ts1_10 tw1_1 tw2_202 rfl nd_X4_bestCrew ⟨(Nat.le_of_ble_eq_true rfl), (Nat.le_of_ble_eq_true rfl)⟩ (Nat.le_of_ble_eq_true rfl) dX4_mean_41 (fun H locs hX => ?_)
      refine i_iconst (v := 0) C dX4_mean_44 rfl ?_
      obtain ⟨x3, e3, h⟩ := w_bdr h
      refine x_callVi C hX (fg_1_0 G) (c_X0_meanOf (gl Γ) G  e3) [] rfl hl tw2_7 tw2_8 tw2_9 tw1_2 tw2_10 rfl nd_X0_meanOf ⟨(Nat.le_of_ble_eq_true rfl), (Nat.le_of_ble_eq_true rfl)⟩ (Nat.le_of_ble_eq_true rfl) dX4_mean_45 (fun H locs hX => ?_)
      exact x_iretW C hX hr hQ h dX4_mean_48
    refine i_aload_n C dX4_mean_28 rfl (lv_at hl 0 rfl) ?_
    refine i_ldc C tw2_126 dX4_mean_29 ?_
    obtain ⟨x4, m1, e4, h⟩ := w_bdw h
    refine x_callVi C hX (fg_0_0 G) (c_X4_finding (gl Γ) G  e4) [] rfl hl tw1_205 tw1_207 ts1_0 tw1_1 tw1_208 rfl nd_X4_finding ⟨(Nat.le_of_ble_eq_true rfl), (Nat.le_of_ble_eq_true rfl)⟩ (Nat.le_of_ble_eq_true rfl) dX4_mean_31 (fun H locs hX => ?_)
    exact x_iretW C hX hr hQ h dX4_mean_34
  refine i_aload_n C dX4_mean_10 rfl (lv_at hl 0 rfl) ?_
  refine i_ldc C tw1_204 dX4_mean_11 ?_
  obtain ⟨x5, m2, e5, h⟩ := w_bdw h
  refine x_callVi C hX (fg_0_0 G) (c_X4_finding (gl Γ) G  e5) [] rfl hl tw1_205 tw1_207 ts1_0 tw1_1 tw1_208 rfl nd_X4_finding ⟨(Nat.le_of_ble_eq_true rfl), (Nat.le_of_ble_eq_true rfl)⟩ (Nat.le_of_ble_eq_true rfl) dX4_mean_13 (fun H locs hX => ?_)
  exact x_iretW C hX hr hQ h dX4_mean_16
def L_X4_better_38 (p1 : Int32) (μ : MM) : Nat → Int32 → Int32 → Int32 → Option (Int32 × MM)
  | 0, _, _, _ => none
  | fu + 1, x2, x3, x4 => if (μ 1 0) ≤ x4 then (some (x2, μ)) else (ldi μ 7 4 p1 fun x5 => bdr (f_X0_meanOf (x5 ^^^ (sl 1 x4)) 0 μ) fun x6 => lt_ ((iabs x6)) fun x7 => jn2 (fun (x8 : Int32) (x9 : Int32) => lt_ (x4 + 1) fun x10 => L_X4_better_38 p1 μ fu x8 x9 x10) fun k1 => jn0 (k1 x4 x7) fun k2 => if x3 < 0 then (k2) else (if x3 ≤ x7 then (k1 x2 x3) else (k2)))
def f_X4_better (p1 : Int32) (μ : MM) : Option (Int32 × MM) := bdr (f_X4_isShip p1) fun x1 => if x1 = 0 then (bdw (f_X4_finding (-1000001) μ) fun x12 m2 => some (x12, m2)) else (if (μ 1 0) = 0 then (bdw (f_X4_finding (-1000004) μ) fun x11 m1 => some (x11, m1)) else (L_X4_better_38 p1 μ FU 0 (-1) 0))
theorem nd_X4_better : yX4_better.cls ≠ "java/lang/invoke/MethodHandle" ∧ yX4_better.cls ≠ "java/lang/invoke/VarHandle" ∧ (parseMethodDescriptor yX4_better.desc).map (fun d => d.parameters.length) = some 1 := by decide +kernel
set_option maxHeartbeats 4000000 in
set_option maxRecDepth 100000 in
theorem c_X4_better (l : Launch) (G : EN)  {p1 : Int32} {μ : MM} {r : Int32} {m : MM} (h : f_X4_better p1 μ = some (r, m)) : XM l G yX4_better cX4_better 6 (some .int) 3 76 [.ref (G.2.1 0), .int p1] μ (some (.int r)) m := by
  refine x_met (own := RX4) (by decide +kernel) rfl (Nat.le_of_ble_eq_true rfl) (fun Γ A H ls hg C hr hX hQ hl => ?_)
  have hl : lv_has ls 6 [(0, .ref (G.2.1 0)), (1, .int p1)] := hl
  unfold f_X4_better at h
  refine i_iload_n C dX4_better_0 rfl (lv_at hl 1 rfl) ?_
  obtain ⟨x1, e1, h⟩ := w_bdr h
  refine x_callSi C hX (c_X4_isShip (gl Γ) G  e1) [] rfl hl tw2_4 tw2_5 tw1_1 tw2_6 nd_X4_isShip ⟨(Nat.le_of_ble_eq_true rfl), (Nat.le_of_ble_eq_true rfl)⟩ (Nat.le_of_ble_eq_true rfl) dX4_better_1 (fun H locs hX => ?_)
  refine i_if_ne (tgt := 14) C h dX4_better_4 (by decide) (fun _ h => ?_) (fun _ h => ?_)
  · refine i_aload_n C dX4_better_14 rfl (lv_at hl 0 rfl) ?_
    refine x_get C hX (fg_0_0 G) tw1_166 dX4_better_15 ?_
    refine x_get C hX (fg_1_0 G) tw1_33 dX4_better_18 ?_
    refine i_if_ne (tgt := 31) C h dX4_better_21 (by decide) (fun _ h => ?_) (fun _ h => ?_)
    · refine i_iconst (v := 0) C dX4_better_31 rfl ?_
      refine i_istore_n C [(2, .int 0), (0, .ref (G.2.1 0)), (1, .int p1)] dX4_better_32 rfl hl (by decide) rfl (fun ls hl => ?_)
      refine i_iconst (v := (-1)) C dX4_better_33 rfl ?_
      refine i_istore_n C [(3, .int (-1)), (2, .int 0), (0, .ref (G.2.1 0)), (1, .int p1)] dX4_better_34 rfl hl (by decide) rfl (fun ls hl => ?_)
      refine i_iconst (v := 0) C dX4_better_35 rfl ?_
      refine i_istore C [(4, .int 0), (3, .int (-1)), (2, .int 0), (0, .ref (G.2.1 0)), (1, .int p1)] dX4_better_36 hl (by decide) rfl (fun ls hl => ?_)
      have L1 : ∀ (fu : Nat) (x2 : Int32) (x3 : Int32) (x4 : Int32) (H : Heap) (locs : List Loc) (ls : Array Slot), L_X4_better_38 p1 μ fu x2 x3 x4 = some (r, m) → lv_has ls 6 [(0, .ref (G.2.1 0)), (1, .int p1), (2, .int x2), (3, .int x3), (4, .int x4)] → XW G A (gs Γ) H locs μ → WX Γ H locs 38 ls [] := by
        intro fu
        induction fu with
        | zero =>
          intro x2 x3 x4 H locs ls h
          rw [L_X4_better_38] at h
          cases h
        | succ fu ih =>
          intro x2 x3 x4 H locs ls h hl hX
          rw [L_X4_better_38] at h
          refine i_iload C dX4_better_38 (lv_at hl 4 rfl) ?_
          refine i_aload_n C dX4_better_40 rfl (lv_at hl 0 rfl) ?_
          refine x_get C hX (fg_0_0 G) tw1_166 dX4_better_41 ?_
          refine x_get C hX (fg_1_0 G) tw1_33 dX4_better_44 ?_
          refine i_icmp_ge (tgt := 99) C h dX4_better_47 (by decide) (fun _ h => ?_) (fun _ h => ?_)
          · refine i_iload_n C dX4_better_99 rfl (lv_at hl 2 rfl) ?_
            exact x_iretW C hX hr hQ h dX4_better_100
          refine i_aload_n C dX4_better_50 rfl (lv_at hl 0 rfl) ?_
          refine x_get C hX (fg_0_0 G) tw1_166 dX4_better_51 ?_
          refine i_aload_n C dX4_better_54 rfl (lv_at hl 0 rfl) ?_
          refine x_get C hX (fg_0_0 G) tw1_166 dX4_better_55 ?_
          refine x_get C hX (fg_1_6 G) tw1_48 dX4_better_58 ?_
          refine i_iload_n C dX4_better_61 rfl (lv_at hl 1 rfl) ?_
          refine x_iald C hX (ai_7 G) h dX4_better_62 (fun x5 h => ?_)
          refine i_iconst (v := 1) C dX4_better_63 rfl ?_
          refine i_iload C dX4_better_64 (lv_at hl 4 rfl) ?_
          refine i_ishl C dX4_better_66 ?_
          refine i_ixor C dX4_better_67 ?_
          refine i_iconst (v := 0) C dX4_better_68 rfl ?_
          obtain ⟨x6, e2, h⟩ := w_bdr h
          refine x_callVi C hX (fg_1_0 G) (c_X0_meanOf (gl Γ) G  e2) [] rfl hl tw2_7 tw2_8 tw2_9 tw1_2 tw2_10 rfl nd_X0_meanOf ⟨(Nat.le_of_ble_eq_true rfl), (Nat.le_of_ble_eq_true rfl)⟩ (Nat.le_of_ble_eq_true rfl) dX4_better_69 (fun H locs hX => ?_)
          refine x_abs C hl tw2_203 tw2_204 tw1_8 tw2_205 (Nat.le_of_ble_eq_true rfl) (Nat.le_of_ble_eq_true rfl) dX4_better_72 ?_
          refine i_istoreL C (fun x7 => [(5, .int x7), (0, .ref (G.2.1 0)), (1, .int p1), (2, .int x2), (3, .int x3), (4, .int x4)]) h dX4_better_75 hl (by decide) (fun _ => rfl) (fun x7 ls h hl => ?_)
          refine i_iload_n C dX4_better_77 rfl (lv_at hl 4 rfl) ?_
          refine w_jn2 (fun (x8 : Int32) (x9 : Int32) => ∀ (H : Heap) (locs : List Loc) (ls : Array Slot), lv_has ls 6 [(0, .ref (G.2.1 0)), (1, .int p1), (2, .int x8), (3, .int x9), (4, .int x4)] → XW G A (gs Γ) H locs μ → WX Γ H locs 93 ls []) h (fun x8 x9 h H locs ls hl hX => ?_) (fun k1 J1 h => ?_)
          · refine i_iinc C (j := 4) (fun x10 => [(4, .int x10), (0, .ref (G.2.1 0)), (1, .int p1), (2, .int x8), (3, .int x9)]) h dX4_better_93 hl rfl rfl (by decide) (fun _ => rfl) (fun x10 ls h hl => ?_)
            refine i_goto (tgt := 38) C dX4_better_96 (by decide) ?_
            exact ih _ _ _ _ _ _ h (lv_sub hl [1, 2, 3, 4, 0] rfl) hX
          refine w_jn0 (∀ (H : Heap) (locs : List Loc) (ls : Array Slot), lv_has ls 6 [(0, .ref (G.2.1 0)), (1, .int p1), (4, .int x4), (5, .int x7)] → XW G A (gs Γ) H locs μ → WX Γ H locs 87 ls []) h (fun  h H locs ls hl hX => ?_) (fun k2 J2 h => ?_)
          · refine i_iload C dX4_better_87 (lv_at hl 3 rfl) ?_
            refine i_istore_n C [(3, .int x7), (0, .ref (G.2.1 0)), (1, .int p1), (4, .int x4), (5, .int x7)] dX4_better_89 rfl hl (by decide) rfl (fun ls hl => ?_)
            refine i_iload C dX4_better_90 (lv_at hl 3 rfl) ?_
            refine i_istore_n C [(2, .int x4), (3, .int x7), (0, .ref (G.2.1 0)), (1, .int p1), (4, .int x4), (5, .int x7)] dX4_better_92 rfl hl (by decide) rfl (fun ls hl => ?_)
            exact J1 _ _ h _ _ _ (lv_sub hl [2, 3, 0, 1, 4] rfl) hX
          refine i_if_lt (tgt := 87) C h dX4_better_78 (by decide) (fun _ h => ?_) (fun _ h => ?_)
          · exact J2 h _ _ _ (lv_sub hl [1, 2, 5, 0] rfl) hX
          refine i_iload C dX4_better_81 (lv_at hl 0 rfl) ?_
          refine i_iload_n C dX4_better_83 rfl (lv_at hl 4 rfl) ?_
          refine i_icmp_ge (tgt := 93) C h dX4_better_84 (by decide) (fun _ h => ?_) (fun _ h => ?_)
          · exact J1 _ _ h _ _ _ (lv_sub hl [1, 2, 3, 4, 5] rfl) hX
          exact J2 h _ _ _ (lv_sub hl [1, 2, 5, 0] rfl) hX
      exact L1 FU _ _ _ _ _ _ h (lv_sub hl [3, 4, 2, 1, 0] rfl) hX
    refine i_aload_n C dX4_better_24 rfl (lv_at hl 0 rfl) ?_
    refine i_ldc C tw2_126 dX4_better_25 ?_
    obtain ⟨x11, m1, e3, h⟩ := w_bdw h
    refine x_callVi C hX (fg_0_0 G) (c_X4_finding (gl Γ) G  e3) [] rfl hl tw1_205 tw1_207 ts1_0 tw1_1 tw1_208 rfl nd_X4_finding ⟨(Nat.le_of_ble_eq_true rfl), (Nat.le_of_ble_eq_true rfl)⟩ (Nat.le_of_ble_eq_true rfl) dX4_better_27 (fun H locs hX => ?_)
    exact x_iretW C hX hr hQ h dX4_better_30
  refine i_aload_n C dX4_better_7 rfl (lv_at hl 0 rfl) ?_
  refine i_ldc C tw1_204 dX4_better_8 ?_
  obtain ⟨x12, m2, e4, h⟩ := w_bdw h
  refine x_callVi C hX (fg_0_0 G) (c_X4_finding (gl Γ) G  e4) [] rfl hl tw1_205 tw1_207 ts1_0 tw1_1 tw1_208 rfl nd_X4_finding ⟨(Nat.le_of_ble_eq_true rfl), (Nat.le_of_ble_eq_true rfl)⟩ (Nat.le_of_ble_eq_true rfl) dX4_better_10 (fun H locs hX => ?_)
  exact x_iretW C hX hr hQ h dX4_better_13
def f_X4_distance (p0 : Int32) (p1 : Int32) : Option Int32 := some ((iabs ((p0 / 10) - (p1 / 10))) + (iabs ((irm p0 10) - (irm p1 10))))
theorem nd_X4_distance : yX4_distance.cls ≠ "java/lang/invoke/MethodHandle" ∧ yX4_distance.cls ≠ "java/lang/invoke/VarHandle" ∧ (parseMethodDescriptor yX4_distance.desc).map (fun d => d.parameters.length) = some 2 := by decide +kernel
set_option maxHeartbeats 4000000 in
set_option maxRecDepth 100000 in
theorem c_X4_distance (l : Launch) (G : EN)  {p0 p1 : Int32} {μ : MM} {r : Int32} (h : f_X4_distance p0 p1 = some r) : XM l G yX4_distance cX4_distance 2 (some .int) 1 21 [.int p0, .int p1] μ (some (.int r)) μ := by
  refine x_met (own := RX4) (by decide +kernel) rfl (Nat.le_of_ble_eq_true rfl) (fun Γ A H ls hg C hr hX hQ hl => ?_)
  have hl : lv_has ls 2 [(0, .int p0), (1, .int p1)] := hl
  unfold f_X4_distance at h
  refine i_iload_n C dX4_distance_0 rfl (lv_at hl 0 rfl) ?_
  refine i_bipush (v := 10) C dX4_distance_1 rfl ?_
  refine i_idivc C dX4_distance_3 (by decide) ?_
  refine i_iload_n C dX4_distance_4 rfl (lv_at hl 1 rfl) ?_
  refine i_bipush (v := 10) C dX4_distance_5 rfl ?_
  refine i_idivc C dX4_distance_7 (by decide) ?_
  refine i_isub C dX4_distance_8 ?_
  refine x_abs C hl tw2_203 tw2_204 tw1_8 tw2_205 (Nat.le_of_ble_eq_true rfl) (Nat.le_of_ble_eq_true rfl) dX4_distance_9 ?_
  refine i_iload_n C dX4_distance_12 rfl (lv_at hl 0 rfl) ?_
  refine i_bipush (v := 10) C dX4_distance_13 rfl ?_
  refine i_iremc C dX4_distance_15 (by decide) ?_
  refine i_iload_n C dX4_distance_16 rfl (lv_at hl 1 rfl) ?_
  refine i_bipush (v := 10) C dX4_distance_17 rfl ?_
  refine i_iremc C dX4_distance_19 (by decide) ?_
  refine i_isub C dX4_distance_20 ?_
  refine x_abs C hl tw2_203 tw2_204 tw1_8 tw2_205 (Nat.le_of_ble_eq_true rfl) (Nat.le_of_ble_eq_true rfl) dX4_distance_21 ?_
  refine i_iadd C dX4_distance_24 ?_
  exact x_iretR C hX hr hQ h dX4_distance_25
def L_X4_spy_86 (p1 : Int32) (p2 : Int32) (p3 : Int32) (x9 : Int32) (k1 : Int32 → MM → Option (Int32 × MM)) : Nat → Int32 → Int32 → Int32 → MM → Option (Int32 × MM)
  | 0, _, _, _, _ => none
  | fu + 1, x11, x12, x13, m5 => if 7 ≤ x13 then (k1 x11 m5) else (sti m5 2 8 p2 x13 fun m6 => bdr (f_X0_cellBehind p1 p3 m6) fun x14 => bdr (f_X4_distance x9 x14) fun x15 => jn2 (fun (x16 : Int32) (x17 : Int32) => lt_ (x13 + 1) fun x18 => L_X4_spy_86 p1 p2 p3 x9 k1 fu x16 x17 x18 m6) fun k2 => if x15 ≤ x12 then (k2 x11 x12) else (k2 x13 x15))
def f_X4_spy (p1 : Int32) (p2 : Int32) (p3 : Int32) (μ : MM) : Option (Int32 × MM) := bdr (f_X4_isShip p1) fun x1 => if x1 = 0 then (bdw (f_X4_finding (-1000001) μ) fun x2 m1 => some (x2, m1)) else (bdr (f_X4_isCat p2 μ) fun x3 => if x3 = 0 then (bdw (f_X4_finding (-1000001) μ) fun x4 m2 => some (x4, m2)) else (bdr (f_X4_isWithin p3 0 40) fun x5 => if x5 = 0 then (bdw (f_X4_finding (-1000001) μ) fun x20 m8 => some (x20, m8)) else (ldi μ 7 4 p1 fun x6 => bdr (f_X4_isIn x6 p2) fun x7 => if x7 = 0 then (bdw (f_X4_finding (-1000005) μ) fun x19 m7 => some (x19, m7)) else (ldi μ 2 8 p2 fun x8 => bdr (f_X0_cellBehind p1 p3 μ) fun x9 => jn2 (fun (x10 : Int32) (m3 : MM) => sti m3 2 8 p2 x8 fun m4 => some (x10, m4)) fun k1 => L_X4_spy_86 p1 p2 p3 x9 k1 FU 0 (-1) 0 μ))))
theorem nd_X4_spy : yX4_spy.cls ≠ "java/lang/invoke/MethodHandle" ∧ yX4_spy.cls ≠ "java/lang/invoke/VarHandle" ∧ (parseMethodDescriptor yX4_spy.desc).map (fun d => d.parameters.length) = some 3 := by decide +kernel
set_option maxHeartbeats 4000000 in
set_option maxRecDepth 100000 in
theorem c_X4_spy (l : Launch) (G : EN)  {p1 p2 p3 : Int32} {μ : MM} {r : Int32} {m : MM} (h : f_X4_spy p1 p2 p3 μ = some (r, m)) : XM l G yX4_spy cX4_spy 10 (some .int) 5 123 [.ref (G.2.1 0), .int p1, .int p2, .int p3] μ (some (.int r)) m := by
  refine x_met (own := RX4) (by decide +kernel) rfl (Nat.le_of_ble_eq_true rfl) (fun Γ A H ls hg C hr hX hQ hl => ?_)
  have hl : lv_has ls 10 [(0, .ref (G.2.1 0)), (1, .int p1), (2, .int p2), (3, .int p3)] := hl
  unfold f_X4_spy at h
  refine i_iload_n C dX4_spy_0 rfl (lv_at hl 1 rfl) ?_
  obtain ⟨x1, e1, h⟩ := w_bdr h
  refine x_callSi C hX (c_X4_isShip (gl Γ) G  e1) [] rfl hl tw2_4 tw2_5 tw1_1 tw2_6 nd_X4_isShip ⟨(Nat.le_of_ble_eq_true rfl), (Nat.le_of_ble_eq_true rfl)⟩ (Nat.le_of_ble_eq_true rfl) dX4_spy_1 (fun H locs hX => ?_)
  refine i_if_eq (tgt := 25) C h dX4_spy_4 (by decide) (fun _ h => ?_) (fun _ h => ?_)
  · refine i_aload_n C dX4_spy_25 rfl (lv_at hl 0 rfl) ?_
    refine i_ldc C tw1_204 dX4_spy_26 ?_
    obtain ⟨x2, m1, e2, h⟩ := w_bdw h
    refine x_callVi C hX (fg_0_0 G) (c_X4_finding (gl Γ) G  e2) [] rfl hl tw1_205 tw1_207 ts1_0 tw1_1 tw1_208 rfl nd_X4_finding ⟨(Nat.le_of_ble_eq_true rfl), (Nat.le_of_ble_eq_true rfl)⟩ (Nat.le_of_ble_eq_true rfl) dX4_spy_28 (fun H locs hX => ?_)
    exact x_iretW C hX hr hQ h dX4_spy_31
  refine i_aload_n C dX4_spy_7 rfl (lv_at hl 0 rfl) ?_
  refine i_iload_n C dX4_spy_8 rfl (lv_at hl 2 rfl) ?_
  obtain ⟨x3, e3, h⟩ := w_bdr h
  refine x_callVi C hX (fg_0_0 G) (c_X4_isCat (gl Γ) G  e3) [] rfl hl tw1_218 tw1_220 ts1_1 tw1_1 tw1_221 rfl nd_X4_isCat ⟨(Nat.le_of_ble_eq_true rfl), (Nat.le_of_ble_eq_true rfl)⟩ (Nat.le_of_ble_eq_true rfl) dX4_spy_9 (fun H locs hX => ?_)
  refine i_if_eq (tgt := 25) C h dX4_spy_12 (by decide) (fun _ h => ?_) (fun _ h => ?_)
  · refine i_aload_n C dX4_spy_25 rfl (lv_at hl 0 rfl) ?_
    refine i_ldc C tw1_204 dX4_spy_26 ?_
    obtain ⟨x4, m2, e4, h⟩ := w_bdw h
    refine x_callVi C hX (fg_0_0 G) (c_X4_finding (gl Γ) G  e4) [] rfl hl tw1_205 tw1_207 ts1_0 tw1_1 tw1_208 rfl nd_X4_finding ⟨(Nat.le_of_ble_eq_true rfl), (Nat.le_of_ble_eq_true rfl)⟩ (Nat.le_of_ble_eq_true rfl) dX4_spy_28 (fun H locs hX => ?_)
    exact x_iretW C hX hr hQ h dX4_spy_31
  refine i_iload_n C dX4_spy_15 rfl (lv_at hl 3 rfl) ?_
  refine i_iconst (v := 0) C dX4_spy_16 rfl ?_
  refine i_bipush (v := 40) C dX4_spy_17 rfl ?_
  obtain ⟨x5, e5, h⟩ := w_bdr h
  refine x_callSi C hX (c_X4_isWithin (gl Γ) G  e5) [] rfl hl tw1_201 tw1_202 tw1_1 tw1_203 nd_X4_isWithin ⟨(Nat.le_of_ble_eq_true rfl), (Nat.le_of_ble_eq_true rfl)⟩ (Nat.le_of_ble_eq_true rfl) dX4_spy_19 (fun H locs hX => ?_)
  refine i_if_ne (tgt := 32) C h dX4_spy_22 (by decide) (fun _ h => ?_) (fun _ h => ?_)
  · refine i_aload_n C dX4_spy_32 rfl (lv_at hl 0 rfl) ?_
    refine x_get C hX (fg_0_0 G) tw1_166 dX4_spy_33 ?_
    refine x_get C hX (fg_1_6 G) tw1_48 dX4_spy_36 ?_
    refine i_iload_n C dX4_spy_39 rfl (lv_at hl 1 rfl) ?_
    refine x_iald C hX (ai_7 G) h dX4_spy_40 (fun x6 h => ?_)
    refine i_iload_n C dX4_spy_41 rfl (lv_at hl 2 rfl) ?_
    obtain ⟨x7, e6, h⟩ := w_bdr h
    refine x_callSi C hX (c_X4_isIn (gl Γ) G  e6) [] rfl hl tw2_98 tw2_12 tw1_1 tw2_13 nd_X4_isIn ⟨(Nat.le_of_ble_eq_true rfl), (Nat.le_of_ble_eq_true rfl)⟩ (Nat.le_of_ble_eq_true rfl) dX4_spy_42 (fun H locs hX => ?_)
    refine i_if_ne (tgt := 55) C h dX4_spy_45 (by decide) (fun _ h => ?_) (fun _ h => ?_)
    · refine i_aload_n C dX4_spy_55 rfl (lv_at hl 0 rfl) ?_
      refine x_get C hX (fg_0_0 G) tw1_166 dX4_spy_56 ?_
      refine x_get C hX (fg_1_1 G) tw1_36 dX4_spy_59 ?_
      refine i_iload_n C dX4_spy_62 rfl (lv_at hl 2 rfl) ?_
      refine x_iald C hX (ai_2 G) h dX4_spy_63 (fun x8 h => ?_)
      refine i_istore C [(4, .int x8), (0, .ref (G.2.1 0)), (1, .int p1), (2, .int p2), (3, .int p3)] dX4_spy_64 hl (by decide) rfl (fun ls hl => ?_)
      refine i_aload_n C dX4_spy_66 rfl (lv_at hl 1 rfl) ?_
      refine x_get C hX (fg_0_0 G) tw1_166 dX4_spy_67 ?_
      refine i_iload_n C dX4_spy_70 rfl (lv_at hl 2 rfl) ?_
      refine i_iload_n C dX4_spy_71 rfl (lv_at hl 4 rfl) ?_
      obtain ⟨x9, e7, h⟩ := w_bdr h
      refine x_callVi C hX (fg_1_0 G) (c_X0_cellBehind (gl Γ) G  e7) [] rfl hl tw2_118 tw2_119 tw2_120 tw1_2 tw2_121 rfl nd_X0_cellBehind ⟨(Nat.le_of_ble_eq_true rfl), (Nat.le_of_ble_eq_true rfl)⟩ (Nat.le_of_ble_eq_true rfl) dX4_spy_72 (fun H locs hX => ?_)
      refine i_istore C [(5, .int x9), (4, .int x8), (0, .ref (G.2.1 0)), (1, .int p1), (2, .int p2), (3, .int p3)] dX4_spy_75 hl (by decide) rfl (fun ls hl => ?_)
      refine i_iconst (v := 0) C dX4_spy_77 rfl ?_
      refine i_istore C [(6, .int 0), (5, .int x9), (4, .int x8), (0, .ref (G.2.1 0)), (1, .int p1), (2, .int p2), (3, .int p3)] dX4_spy_78 hl (by decide) rfl (fun ls hl => ?_)
      refine i_iconst (v := (-1)) C dX4_spy_80 rfl ?_
      refine i_istore C [(7, .int (-1)), (6, .int 0), (5, .int x9), (4, .int x8), (0, .ref (G.2.1 0)), (1, .int p1), (2, .int p2), (3, .int p3)] dX4_spy_81 hl (by decide) rfl (fun ls hl => ?_)
      refine i_iconst (v := 0) C dX4_spy_83 rfl ?_
      refine i_istore C [(8, .int 0), (7, .int (-1)), (6, .int 0), (5, .int x9), (4, .int x8), (0, .ref (G.2.1 0)), (1, .int p1), (2, .int p2), (3, .int p3)] dX4_spy_84 hl (by decide) rfl (fun ls hl => ?_)
      refine w_jn2 (fun (x10 : Int32) (m3 : MM) => ∀ (H : Heap) (locs : List Loc) (ls : Array Slot), lv_has ls 10 [(0, .ref (G.2.1 0)), (2, .int p2), (4, .int x8), (6, .int x10)] → XW G A (gs Γ) H locs m3 → WX Γ H locs 141 ls []) h (fun x10 m3 h H locs ls hl hX => ?_) (fun k1 J1 h => ?_)
      · refine i_aload_n C dX4_spy_141 rfl (lv_at hl 0 rfl) ?_
        refine x_get C hX (fg_0_0 G) tw1_166 dX4_spy_142 ?_
        refine x_get C hX (fg_1_1 G) tw1_36 dX4_spy_145 ?_
        refine i_iload_n C dX4_spy_148 rfl (lv_at hl 1 rfl) ?_
        refine i_iload C dX4_spy_149 (lv_at hl 2 rfl) ?_
        refine x_iast C hX (ai_2 G) h dX4_spy_151 (fun H locs m4 h hX => ?_)
        refine i_iload C dX4_spy_152 (lv_at hl 3 rfl) ?_
        exact x_iretW C hX hr hQ h dX4_spy_154
      have L1 : ∀ (fu : Nat) (x11 : Int32) (x12 : Int32) (x13 : Int32) (m5 : MM) (H : Heap) (locs : List Loc) (ls : Array Slot), L_X4_spy_86 p1 p2 p3 x9 k1 fu x11 x12 x13 m5 = some (r, m) → lv_has ls 10 [(0, .ref (G.2.1 0)), (1, .int p1), (2, .int p2), (3, .int p3), (4, .int x8), (5, .int x9), (6, .int x11), (7, .int x12), (8, .int x13)] → XW G A (gs Γ) H locs m5 → WX Γ H locs 86 ls [] := by
        intro fu
        induction fu with
        | zero =>
          intro x11 x12 x13 m5 H locs ls h
          rw [L_X4_spy_86] at h
          cases h
        | succ fu ih =>
          intro x11 x12 x13 m5 H locs ls h hl hX
          rw [L_X4_spy_86] at h
          refine i_iload C dX4_spy_86 (lv_at hl 8 rfl) ?_
          refine i_bipush (v := 7) C dX4_spy_88 rfl ?_
          refine i_icmp_ge (tgt := 141) C h dX4_spy_90 (by decide) (fun _ h => ?_) (fun _ h => ?_)
          · exact J1 _ _ h _ _ _ (lv_sub hl [0, 2, 4, 6] rfl) hX
          refine i_aload_n C dX4_spy_93 rfl (lv_at hl 0 rfl) ?_
          refine x_get C hX (fg_0_0 G) tw1_166 dX4_spy_94 ?_
          refine x_get C hX (fg_1_1 G) tw1_36 dX4_spy_97 ?_
          refine i_iload_n C dX4_spy_100 rfl (lv_at hl 2 rfl) ?_
          refine i_iload C dX4_spy_101 (lv_at hl 8 rfl) ?_
          refine x_iast C hX (ai_2 G) h dX4_spy_103 (fun H locs m6 h hX => ?_)
          refine i_iload C dX4_spy_104 (lv_at hl 5 rfl) ?_
          refine i_aload_n C dX4_spy_106 rfl (lv_at hl 0 rfl) ?_
          refine x_get C hX (fg_0_0 G) tw1_166 dX4_spy_107 ?_
          refine i_iload_n C dX4_spy_110 rfl (lv_at hl 1 rfl) ?_
          refine i_iload_n C dX4_spy_111 rfl (lv_at hl 3 rfl) ?_
          obtain ⟨x14, e8, h⟩ := w_bdr h
          refine x_callVi C hX (fg_1_0 G) (c_X0_cellBehind (gl Γ) G  e8) [.int x9] rfl hl tw2_118 tw2_119 tw2_120 tw1_2 tw2_121 rfl nd_X0_cellBehind ⟨(Nat.le_of_ble_eq_true rfl), (Nat.le_of_ble_eq_true rfl)⟩ (Nat.le_of_ble_eq_true rfl) dX4_spy_112 (fun H locs hX => ?_)
          obtain ⟨x15, e9, h⟩ := w_bdr h
          refine x_callSi C hX (c_X4_distance (gl Γ) G  e9) [] rfl hl tw2_218 tw2_219 tw1_1 tw2_220 nd_X4_distance ⟨(Nat.le_of_ble_eq_true rfl), (Nat.le_of_ble_eq_true rfl)⟩ (Nat.le_of_ble_eq_true rfl) dX4_spy_115 (fun H locs hX => ?_)
          refine i_istore C [(9, .int x15), (0, .ref (G.2.1 0)), (1, .int p1), (2, .int p2), (3, .int p3), (4, .int x8), (5, .int x9), (6, .int x11), (7, .int x12), (8, .int x13)] dX4_spy_118 hl (by decide) rfl (fun ls hl => ?_)
          refine i_iload C dX4_spy_120 (lv_at hl 0 rfl) ?_
          refine i_iload C dX4_spy_122 (lv_at hl 8 rfl) ?_
          refine w_jn2 (fun (x16 : Int32) (x17 : Int32) => ∀ (H : Heap) (locs : List Loc) (ls : Array Slot), lv_has ls 10 [(0, .ref (G.2.1 0)), (1, .int p1), (2, .int p2), (3, .int p3), (4, .int x8), (5, .int x9), (6, .int x16), (7, .int x17), (8, .int x13)] → XW G A (gs Γ) H locs m6 → WX Γ H locs 135 ls []) h (fun x16 x17 h H locs ls hl hX => ?_) (fun k2 J2 h => ?_)
          · refine i_iinc C (j := 8) (fun x18 => [(8, .int x18), (0, .ref (G.2.1 0)), (1, .int p1), (2, .int p2), (3, .int p3), (4, .int x8), (5, .int x9), (6, .int x16), (7, .int x17)]) h dX4_spy_135 hl rfl rfl (by decide) (fun _ => rfl) (fun x18 ls h hl => ?_)
            refine i_goto (tgt := 86) C dX4_spy_138 (by decide) ?_
            exact ih _ _ _ _ _ _ _ h (lv_sub hl [1, 2, 3, 4, 5, 6, 7, 8, 0] rfl) hX
          refine i_icmp_le (tgt := 135) C h dX4_spy_124 (by decide) (fun _ h => ?_) (fun _ h => ?_)
          · exact J2 _ _ h _ _ _ (lv_sub hl [1, 2, 3, 4, 5, 6, 7, 8, 9] rfl) hX
          refine i_iload C dX4_spy_127 (lv_at hl 0 rfl) ?_
          refine i_istore C [(7, .int x15), (9, .int x15), (0, .ref (G.2.1 0)), (1, .int p1), (2, .int p2), (3, .int p3), (4, .int x8), (5, .int x9), (6, .int x11), (8, .int x13)] dX4_spy_129 hl (by decide) rfl (fun ls hl => ?_)
          refine i_iload C dX4_spy_131 (lv_at hl 9 rfl) ?_
          refine i_istore C [(6, .int x13), (7, .int x15), (9, .int x15), (0, .ref (G.2.1 0)), (1, .int p1), (2, .int p2), (3, .int p3), (4, .int x8), (5, .int x9), (8, .int x13)] dX4_spy_133 hl (by decide) rfl (fun ls hl => ?_)
          exact J2 _ _ h _ _ _ (lv_sub hl [3, 4, 5, 6, 7, 8, 0, 1, 9] rfl) hX
      exact L1 FU _ _ _ _ _ _ _ h (lv_sub hl [5, 6, 7, 8, 4, 3, 2, 1, 0] rfl) hX
    refine i_aload_n C dX4_spy_48 rfl (lv_at hl 0 rfl) ?_
    refine i_ldc C tw2_77 dX4_spy_49 ?_
    obtain ⟨x19, m7, e10, h⟩ := w_bdw h
    refine x_callVi C hX (fg_0_0 G) (c_X4_finding (gl Γ) G  e10) [] rfl hl tw1_205 tw1_207 ts1_0 tw1_1 tw1_208 rfl nd_X4_finding ⟨(Nat.le_of_ble_eq_true rfl), (Nat.le_of_ble_eq_true rfl)⟩ (Nat.le_of_ble_eq_true rfl) dX4_spy_51 (fun H locs hX => ?_)
    exact x_iretW C hX hr hQ h dX4_spy_54
  refine i_aload_n C dX4_spy_25 rfl (lv_at hl 0 rfl) ?_
  refine i_ldc C tw1_204 dX4_spy_26 ?_
  obtain ⟨x20, m8, e11, h⟩ := w_bdw h
  refine x_callVi C hX (fg_0_0 G) (c_X4_finding (gl Γ) G  e11) [] rfl hl tw1_205 tw1_207 ts1_0 tw1_1 tw1_208 rfl nd_X4_finding ⟨(Nat.le_of_ble_eq_true rfl), (Nat.le_of_ble_eq_true rfl)⟩ (Nat.le_of_ble_eq_true rfl) dX4_spy_28 (fun H locs hX => ?_)
  exact x_iretW C hX hr hQ h dX4_spy_31
def L_X0_fedIn_12 (p1 : Int32) (p2 : Int32) (μ : MM) : Nat → Int32 → Int32 → Option Int32
  | 0, _, _ => none
  | fu + 1, x1, x2 => if (μ 1 0) ≤ x2 then (some x1) else (ldi μ 3 8 x2 fun x3 => lt_ ((imax (p2 - x3) 0)) fun x4 => jn1 (fun (x5 : Int32) => lt_ (x2 + 1) fun x6 => L_X0_fedIn_12 p1 p2 μ fu x5 x6) fun k1 => if p1 ≤ x4 then (k1 x1) else (gd (¬ p2 = 0) (lt_ ((x1 + (1 + (((p1 - 1) - x4) / p2)))) fun x7 => k1 x7)))
def f_X0_fedIn (p1 : Int32) (p2 : Int32) (μ : MM) : Option Int32 := if 1 ≤ p2 then (L_X0_fedIn_12 p1 p2 μ FU 0 0) else (some 0)
theorem nd_X0_fedIn : yX0_fedIn.cls ≠ "java/lang/invoke/MethodHandle" ∧ yX0_fedIn.cls ≠ "java/lang/invoke/VarHandle" ∧ (parseMethodDescriptor yX0_fedIn.desc).map (fun d => d.parameters.length) = some 2 := by decide +kernel
set_option maxHeartbeats 4000000 in
set_option maxRecDepth 100000 in
theorem c_X0_fedIn (l : Launch) (G : EN)  {p1 p2 : Int32} {μ : MM} {r : Int32} (h : f_X0_fedIn p1 p2 μ = some r) : XM l G yX0_fedIn cX0_fedIn 6 (some .int) 1 21 [.ref (G.2.1 1), .int p1, .int p2] μ (some (.int r)) μ := by
  refine x_met (own := RX0) (by decide +kernel) rfl (Nat.le_of_ble_eq_true rfl) (fun Γ A H ls hg C hr hX hQ hl => ?_)
  have hl : lv_has ls 6 [(0, .ref (G.2.1 1)), (1, .int p1), (2, .int p2)] := hl
  unfold f_X0_fedIn at h
  refine i_iload_n C dX0_fedIn_0 rfl (lv_at hl 2 rfl) ?_
  refine i_iconst (v := 1) C dX0_fedIn_1 rfl ?_
  refine i_icmp_ge (tgt := 7) C h dX0_fedIn_2 (by decide) (fun _ h => ?_) (fun _ h => ?_)
  · refine i_iconst (v := 0) C dX0_fedIn_7 rfl ?_
    refine i_istore_n C [(3, .int 0), (0, .ref (G.2.1 1)), (1, .int p1), (2, .int p2)] dX0_fedIn_8 rfl hl (by decide) rfl (fun ls hl => ?_)
    refine i_iconst (v := 0) C dX0_fedIn_9 rfl ?_
    refine i_istore C [(4, .int 0), (3, .int 0), (0, .ref (G.2.1 1)), (1, .int p1), (2, .int p2)] dX0_fedIn_10 hl (by decide) rfl (fun ls hl => ?_)
    have L1 : ∀ (fu : Nat) (x1 : Int32) (x2 : Int32) (H : Heap) (locs : List Loc) (ls : Array Slot), L_X0_fedIn_12 p1 p2 μ fu x1 x2 = some r → lv_has ls 6 [(0, .ref (G.2.1 1)), (1, .int p1), (2, .int p2), (3, .int x1), (4, .int x2)] → XW G A (gs Γ) H locs μ → WX Γ H locs 12 ls [] := by
      intro fu
      induction fu with
      | zero =>
        intro x1 x2 H locs ls h
        rw [L_X0_fedIn_12] at h
        cases h
      | succ fu ih =>
        intro x1 x2 H locs ls h hl hX
        rw [L_X0_fedIn_12] at h
        refine i_iload C dX0_fedIn_12 (lv_at hl 4 rfl) ?_
        refine i_aload_n C dX0_fedIn_14 rfl (lv_at hl 0 rfl) ?_
        refine x_get C hX (fg_1_0 G) tw1_32 dX0_fedIn_15 ?_
        refine i_icmp_ge (tgt := 61) C h dX0_fedIn_18 (by decide) (fun _ h => ?_) (fun _ h => ?_)
        · refine i_iload_n C dX0_fedIn_61 rfl (lv_at hl 3 rfl) ?_
          exact x_iretR C hX hr hQ h dX0_fedIn_62
        refine i_iload_n C dX0_fedIn_21 rfl (lv_at hl 2 rfl) ?_
        refine i_aload_n C dX0_fedIn_22 rfl (lv_at hl 0 rfl) ?_
        refine x_get C hX (fg_1_2 G) tw1_37 dX0_fedIn_23 ?_
        refine i_iload C dX0_fedIn_26 (lv_at hl 4 rfl) ?_
        refine x_iald C hX (ai_3 G) h dX0_fedIn_28 (fun x3 h => ?_)
        refine i_isub C dX0_fedIn_29 ?_
        refine i_iconst (v := 0) C dX0_fedIn_30 rfl ?_
        refine x_max C hl tw2_107 tw2_108 tw1_8 tw2_109 (Nat.le_of_ble_eq_true rfl) (Nat.le_of_ble_eq_true rfl) dX0_fedIn_31 ?_
        refine i_istoreL C (fun x4 => [(5, .int x4), (0, .ref (G.2.1 1)), (1, .int p1), (2, .int p2), (3, .int x1), (4, .int x2)]) h dX0_fedIn_34 hl (by decide) (fun _ => rfl) (fun x4 ls h hl => ?_)
        refine i_iload C dX0_fedIn_36 (lv_at hl 0 rfl) ?_
        refine i_iload_n C dX0_fedIn_38 rfl (lv_at hl 2 rfl) ?_
        refine w_jn1 (fun (x5 : Int32) => ∀ (H : Heap) (locs : List Loc) (ls : Array Slot), lv_has ls 6 [(0, .ref (G.2.1 1)), (1, .int p1), (2, .int p2), (3, .int x5), (4, .int x2)] → XW G A (gs Γ) H locs μ → WX Γ H locs 55 ls []) h (fun x5 h H locs ls hl hX => ?_) (fun k1 J1 h => ?_)
        · refine i_iinc C (j := 4) (fun x6 => [(4, .int x6), (0, .ref (G.2.1 1)), (1, .int p1), (2, .int p2), (3, .int x5)]) h dX0_fedIn_55 hl rfl rfl (by decide) (fun _ => rfl) (fun x6 ls h hl => ?_)
          refine i_goto (tgt := 12) C dX0_fedIn_58 (by decide) ?_
          exact ih _ _ _ _ _ h (lv_sub hl [1, 2, 3, 4, 0] rfl) hX
        refine i_icmp_ge (tgt := 55) C h dX0_fedIn_39 (by decide) (fun _ h => ?_) (fun _ h => ?_)
        · exact J1 _ h _ _ _ (lv_sub hl [1, 2, 3, 4, 5] rfl) hX
        refine i_iload_n C dX0_fedIn_42 rfl (lv_at hl 4 rfl) ?_
        refine i_iconst (v := 1) C dX0_fedIn_43 rfl ?_
        refine i_iload_n C dX0_fedIn_44 rfl (lv_at hl 2 rfl) ?_
        refine i_iconst (v := 1) C dX0_fedIn_45 rfl ?_
        refine i_isub C dX0_fedIn_46 ?_
        refine i_iload C dX0_fedIn_47 (lv_at hl 0 rfl) ?_
        refine i_isub C dX0_fedIn_49 ?_
        refine i_iload_n C dX0_fedIn_50 rfl (lv_at hl 3 rfl) ?_
        refine i_idiv C h dX0_fedIn_51 (fun h => ?_)
        refine i_iadd C dX0_fedIn_52 ?_
        refine i_iadd C dX0_fedIn_53 ?_
        refine i_istoreL_n C (fun x7 => [(3, .int x7), (5, .int x4), (0, .ref (G.2.1 1)), (1, .int p1), (2, .int p2), (4, .int x2)]) h dX0_fedIn_54 rfl hl (by decide) (fun _ => rfl) (fun x7 ls h hl => ?_)
        exact J1 _ h _ _ _ (lv_sub hl [2, 3, 4, 0, 5] rfl) hX
    exact L1 FU _ _ _ _ _ h (lv_sub hl [2, 3, 4, 1, 0] rfl) hX
  refine i_iconst (v := 0) C dX0_fedIn_5 rfl ?_
  exact x_iretR C hX hr hQ h dX0_fedIn_6
def f_X4_uses (p1 : Int32) (p2 : Int32) (μ : MM) : Option (Int32 × MM) := bdr (f_X4_isWithin p1 0 200) fun x1 => if x1 = 0 then (bdw (f_X4_finding (-1000001) μ) fun x2 m1 => some (x2, m1)) else (bdr (f_X4_isWithin p2 1 99) fun x3 => if x3 = 0 then (bdw (f_X4_finding (-1000001) μ) fun x5 m2 => some (x5, m2)) else (bdr (f_X0_fedIn p1 p2 μ) fun x4 => some (x4, μ)))
theorem nd_X4_uses : yX4_uses.cls ≠ "java/lang/invoke/MethodHandle" ∧ yX4_uses.cls ≠ "java/lang/invoke/VarHandle" ∧ (parseMethodDescriptor yX4_uses.desc).map (fun d => d.parameters.length) = some 2 := by decide +kernel
set_option maxHeartbeats 4000000 in
set_option maxRecDepth 100000 in
theorem c_X4_uses (l : Launch) (G : EN)  {p1 p2 : Int32} {μ : MM} {r : Int32} {m : MM} (h : f_X4_uses p1 p2 μ = some (r, m)) : XM l G yX4_uses cX4_uses 3 (some .int) 2 46 [.ref (G.2.1 0), .int p1, .int p2] μ (some (.int r)) m := by
  refine x_met (own := RX4) (by decide +kernel) rfl (Nat.le_of_ble_eq_true rfl) (fun Γ A H ls hg C hr hX hQ hl => ?_)
  have hl : lv_has ls 3 [(0, .ref (G.2.1 0)), (1, .int p1), (2, .int p2)] := hl
  unfold f_X4_uses at h
  refine i_iload_n C dX4_uses_0 rfl (lv_at hl 1 rfl) ?_
  refine i_iconst (v := 0) C dX4_uses_1 rfl ?_
  refine i_sipush (v := 200) C dX4_uses_2 rfl ?_
  obtain ⟨x1, e1, h⟩ := w_bdr h
  refine x_callSi C hX (c_X4_isWithin (gl Γ) G  e1) [] rfl hl tw1_201 tw1_202 tw1_1 tw1_203 nd_X4_isWithin ⟨(Nat.le_of_ble_eq_true rfl), (Nat.le_of_ble_eq_true rfl)⟩ (Nat.le_of_ble_eq_true rfl) dX4_uses_5 (fun H locs hX => ?_)
  refine i_if_eq (tgt := 21) C h dX4_uses_8 (by decide) (fun _ h => ?_) (fun _ h => ?_)
  · refine i_aload_n C dX4_uses_21 rfl (lv_at hl 0 rfl) ?_
    refine i_ldc C tw1_204 dX4_uses_22 ?_
    obtain ⟨x2, m1, e2, h⟩ := w_bdw h
    refine x_callVi C hX (fg_0_0 G) (c_X4_finding (gl Γ) G  e2) [] rfl hl tw1_205 tw1_207 ts1_0 tw1_1 tw1_208 rfl nd_X4_finding ⟨(Nat.le_of_ble_eq_true rfl), (Nat.le_of_ble_eq_true rfl)⟩ (Nat.le_of_ble_eq_true rfl) dX4_uses_24 (fun H locs hX => ?_)
    exact x_iretW C hX hr hQ h dX4_uses_27
  refine i_iload_n C dX4_uses_11 rfl (lv_at hl 2 rfl) ?_
  refine i_iconst (v := 1) C dX4_uses_12 rfl ?_
  refine i_bipush (v := 99) C dX4_uses_13 rfl ?_
  obtain ⟨x3, e3, h⟩ := w_bdr h
  refine x_callSi C hX (c_X4_isWithin (gl Γ) G  e3) [] rfl hl tw1_201 tw1_202 tw1_1 tw1_203 nd_X4_isWithin ⟨(Nat.le_of_ble_eq_true rfl), (Nat.le_of_ble_eq_true rfl)⟩ (Nat.le_of_ble_eq_true rfl) dX4_uses_15 (fun H locs hX => ?_)
  refine i_if_ne (tgt := 28) C h dX4_uses_18 (by decide) (fun _ h => ?_) (fun _ h => ?_)
  · refine i_aload_n C dX4_uses_28 rfl (lv_at hl 0 rfl) ?_
    refine x_get C hX (fg_0_0 G) tw1_166 dX4_uses_29 ?_
    refine i_iload_n C dX4_uses_32 rfl (lv_at hl 1 rfl) ?_
    refine i_iload_n C dX4_uses_33 rfl (lv_at hl 2 rfl) ?_
    obtain ⟨x4, e4, h⟩ := w_bdr h
    refine x_callVi C hX (fg_1_0 G) (c_X0_fedIn (gl Γ) G  e4) [] rfl hl tw2_225 tw2_226 tw2_227 tw1_2 tw2_228 rfl nd_X0_fedIn ⟨(Nat.le_of_ble_eq_true rfl), (Nat.le_of_ble_eq_true rfl)⟩ (Nat.le_of_ble_eq_true rfl) dX4_uses_34 (fun H locs hX => ?_)
    exact x_iretW C hX hr hQ h dX4_uses_37
  refine i_aload_n C dX4_uses_21 rfl (lv_at hl 0 rfl) ?_
  refine i_ldc C tw1_204 dX4_uses_22 ?_
  obtain ⟨x5, m2, e5, h⟩ := w_bdw h
  refine x_callVi C hX (fg_0_0 G) (c_X4_finding (gl Γ) G  e5) [] rfl hl tw1_205 tw1_207 ts1_0 tw1_1 tw1_208 rfl nd_X4_finding ⟨(Nat.le_of_ble_eq_true rfl), (Nat.le_of_ble_eq_true rfl)⟩ (Nat.le_of_ble_eq_true rfl) dX4_uses_24 (fun H locs hX => ?_)
  exact x_iretW C hX hr hQ h dX4_uses_27
def L_X4_hunger_20 (p1 : Int32) (μ : MM) : Nat → Int32 → Option (Int32 × MM)
  | 0, _ => none
  | fu + 1, x2 => if 99 < x2 then (bdw (f_X4_finding (-1000004) μ) fun x3 m1 => some (x3, m1)) else (bdr (f_X0_fedIn p1 x2 μ) fun x4 => if (μ 1 10) < x4 then (lt_ (x2 + 1) fun x5 => L_X4_hunger_20 p1 μ fu x5) else (some (x2, μ)))
def f_X4_hunger (p1 : Int32) (μ : MM) : Option (Int32 × MM) := bdr (f_X4_isWithin p1 0 200) fun x1 => if x1 = 0 then (bdw (f_X4_finding (-1000001) μ) fun x6 m2 => some (x6, m2)) else (L_X4_hunger_20 p1 μ FU 1)
theorem nd_X4_hunger : yX4_hunger.cls ≠ "java/lang/invoke/MethodHandle" ∧ yX4_hunger.cls ≠ "java/lang/invoke/VarHandle" ∧ (parseMethodDescriptor yX4_hunger.desc).map (fun d => d.parameters.length) = some 1 := by decide +kernel
set_option maxHeartbeats 4000000 in
set_option maxRecDepth 100000 in
theorem c_X4_hunger (l : Launch) (G : EN)  {p1 : Int32} {μ : MM} {r : Int32} {m : MM} (h : f_X4_hunger p1 μ = some (r, m)) : XM l G yX4_hunger cX4_hunger 3 (some .int) 2 46 [.ref (G.2.1 0), .int p1] μ (some (.int r)) m := by
  refine x_met (own := RX4) (by decide +kernel) rfl (Nat.le_of_ble_eq_true rfl) (fun Γ A H ls hg C hr hX hQ hl => ?_)
  have hl : lv_has ls 3 [(0, .ref (G.2.1 0)), (1, .int p1)] := hl
  unfold f_X4_hunger at h
  refine i_iload_n C dX4_hunger_0 rfl (lv_at hl 1 rfl) ?_
  refine i_iconst (v := 0) C dX4_hunger_1 rfl ?_
  refine i_sipush (v := 200) C dX4_hunger_2 rfl ?_
  obtain ⟨x1, e1, h⟩ := w_bdr h
  refine x_callSi C hX (c_X4_isWithin (gl Γ) G  e1) [] rfl hl tw1_201 tw1_202 tw1_1 tw1_203 nd_X4_isWithin ⟨(Nat.le_of_ble_eq_true rfl), (Nat.le_of_ble_eq_true rfl)⟩ (Nat.le_of_ble_eq_true rfl) dX4_hunger_5 (fun H locs hX => ?_)
  refine i_if_ne (tgt := 18) C h dX4_hunger_8 (by decide) (fun _ h => ?_) (fun _ h => ?_)
  · refine i_iconst (v := 1) C dX4_hunger_18 rfl ?_
    refine i_istore_n C [(2, .int 1), (0, .ref (G.2.1 0)), (1, .int p1)] dX4_hunger_19 rfl hl (by decide) rfl (fun ls hl => ?_)
    have L1 : ∀ (fu : Nat) (x2 : Int32) (H : Heap) (locs : List Loc) (ls : Array Slot), L_X4_hunger_20 p1 μ fu x2 = some (r, m) → lv_has ls 3 [(0, .ref (G.2.1 0)), (1, .int p1), (2, .int x2)] → XW G A (gs Γ) H locs μ → WX Γ H locs 20 ls [] := by
      intro fu
      induction fu with
      | zero =>
        intro x2 H locs ls h
        rw [L_X4_hunger_20] at h
        cases h
      | succ fu ih =>
        intro x2 H locs ls h hl hX
        rw [L_X4_hunger_20] at h
        refine i_iload_n C dX4_hunger_20 rfl (lv_at hl 2 rfl) ?_
        refine i_bipush (v := 99) C dX4_hunger_21 rfl ?_
        refine i_icmp_gt (tgt := 53) C h dX4_hunger_23 (by decide) (fun _ h => ?_) (fun _ h => ?_)
        · refine i_aload_n C dX4_hunger_53 rfl (lv_at hl 0 rfl) ?_
          refine i_ldc C tw2_126 dX4_hunger_54 ?_
          obtain ⟨x3, m1, e2, h⟩ := w_bdw h
          refine x_callVi C hX (fg_0_0 G) (c_X4_finding (gl Γ) G  e2) [] rfl hl tw1_205 tw1_207 ts1_0 tw1_1 tw1_208 rfl nd_X4_finding ⟨(Nat.le_of_ble_eq_true rfl), (Nat.le_of_ble_eq_true rfl)⟩ (Nat.le_of_ble_eq_true rfl) dX4_hunger_56 (fun H locs hX => ?_)
          exact x_iretW C hX hr hQ h dX4_hunger_59
        refine i_aload_n C dX4_hunger_26 rfl (lv_at hl 0 rfl) ?_
        refine x_get C hX (fg_0_0 G) tw1_166 dX4_hunger_27 ?_
        refine i_iload_n C dX4_hunger_30 rfl (lv_at hl 1 rfl) ?_
        refine i_iload_n C dX4_hunger_31 rfl (lv_at hl 2 rfl) ?_
        obtain ⟨x4, e3, h⟩ := w_bdr h
        refine x_callVi C hX (fg_1_0 G) (c_X0_fedIn (gl Γ) G  e3) [] rfl hl tw2_225 tw2_226 tw2_227 tw1_2 tw2_228 rfl nd_X0_fedIn ⟨(Nat.le_of_ble_eq_true rfl), (Nat.le_of_ble_eq_true rfl)⟩ (Nat.le_of_ble_eq_true rfl) dX4_hunger_32 (fun H locs hX => ?_)
        refine i_aload_n C dX4_hunger_35 rfl (lv_at hl 0 rfl) ?_
        refine x_get C hX (fg_0_0 G) tw1_166 dX4_hunger_36 ?_
        refine x_get C hX (fg_1_10 G) tw1_61 dX4_hunger_39 ?_
        refine i_icmp_gt (tgt := 47) C h dX4_hunger_42 (by decide) (fun _ h => ?_) (fun _ h => ?_)
        · refine i_iinc C (j := 2) (fun x5 => [(2, .int x5), (0, .ref (G.2.1 0)), (1, .int p1)]) h dX4_hunger_47 hl rfl rfl (by decide) (fun _ => rfl) (fun x5 ls h hl => ?_)
          refine i_goto (tgt := 20) C dX4_hunger_50 (by decide) ?_
          exact ih _ _ _ _ h (lv_sub hl [1, 2, 0] rfl) hX
        refine i_iload_n C dX4_hunger_45 rfl (lv_at hl 2 rfl) ?_
        exact x_iretW C hX hr hQ h dX4_hunger_46
    exact L1 FU _ _ _ _ h (lv_sub hl [1, 2, 0] rfl) hX
  refine i_aload_n C dX4_hunger_11 rfl (lv_at hl 0 rfl) ?_
  refine i_ldc C tw1_204 dX4_hunger_12 ?_
  obtain ⟨x6, m2, e4, h⟩ := w_bdw h
  refine x_callVi C hX (fg_0_0 G) (c_X4_finding (gl Γ) G  e4) [] rfl hl tw1_205 tw1_207 ts1_0 tw1_1 tw1_208 rfl nd_X4_finding ⟨(Nat.le_of_ble_eq_true rfl), (Nat.le_of_ble_eq_true rfl)⟩ (Nat.le_of_ble_eq_true rfl) dX4_hunger_14 (fun H locs hX => ?_)
  exact x_iretW C hX hr hQ h dX4_hunger_17
def f_X4_isSheet (p0 : Int32) : Option Int32 := bdr (f_X4_isWithin p0 0 3) fun x1 => gd (x1 = 0 ∨ x1 = 1) (some x1)
theorem nd_X4_isSheet : yX4_isSheet.cls ≠ "java/lang/invoke/MethodHandle" ∧ yX4_isSheet.cls ≠ "java/lang/invoke/VarHandle" ∧ (parseMethodDescriptor yX4_isSheet.desc).map (fun d => d.parameters.length) = some 1 := by decide +kernel
set_option maxHeartbeats 4000000 in
set_option maxRecDepth 100000 in
theorem c_X4_isSheet (l : Launch) (G : EN)  {p0 : Int32} {μ : MM} {r : Int32} (h : f_X4_isSheet p0 = some r) : XM l G yX4_isSheet cX4_isSheet 1 (some .boolean) 1 22 [.int p0] μ (some (.int r)) μ := by
  refine x_met (own := RX4) (by decide +kernel) rfl (Nat.le_of_ble_eq_true rfl) (fun Γ A H ls hg C hr hX hQ hl => ?_)
  have hl : lv_has ls 1 [(0, .int p0)] := hl
  unfold f_X4_isSheet at h
  refine i_iload_n C dX4_isSheet_0 rfl (lv_at hl 0 rfl) ?_
  refine i_iconst (v := 0) C dX4_isSheet_1 rfl ?_
  refine i_iconst (v := 3) C dX4_isSheet_2 rfl ?_
  obtain ⟨x1, e1, h⟩ := w_bdr h
  refine x_callSi C hX (c_X4_isWithin (gl Γ) G  e1) [] rfl hl tw1_201 tw1_202 tw1_1 tw1_203 nd_X4_isWithin ⟨(Nat.le_of_ble_eq_true rfl), (Nat.le_of_ble_eq_true rfl)⟩ (Nat.le_of_ble_eq_true rfl) dX4_isSheet_3 (fun H locs hX => ?_)
  exact x_zretR C hX hr hQ h dX4_isSheet_6
def f_X2_isMissing (kS : Nat) (μ : MM) : Option Int32 := if (μ kS 0) = 0 then (some 1) else (some 0)
theorem nd_X2_isMissing : yX2_isMissing.cls ≠ "java/lang/invoke/MethodHandle" ∧ yX2_isMissing.cls ≠ "java/lang/invoke/VarHandle" ∧ (parseMethodDescriptor yX2_isMissing.desc).map (fun d => d.parameters.length) = some 0 := by decide +kernel
set_option maxHeartbeats 4000000 in
set_option maxRecDepth 100000 in
theorem c_X2_isMissing (l : Launch) (G : EN) {kS : Nat} (hS : iS kS) {μ : MM} {r : Int32} (h : f_X2_isMissing kS μ = some r) : XM l G yX2_isMissing cX2_isMissing 1 (some .boolean) 0 0 [.ref (G.2.1 kS)] μ (some (.int r)) μ := by
  refine x_met (own := RX2) (by decide +kernel) rfl (Nat.le_of_ble_eq_true rfl) (fun Γ A H ls hg C hr hX hQ hl => ?_)
  have hl : lv_has ls 1 [(0, .ref (G.2.1 kS))] := hl
  unfold f_X2_isMissing at h
  refine i_aload_n C dX2_isMissing_0 rfl (lv_at hl 0 rfl) ?_
  refine x_get C hX (fg_S_0 G hS) tw1_153 dX2_isMissing_1 ?_
  refine i_if_ne (tgt := 11) C h dX2_isMissing_4 (by decide) (fun _ h => ?_) (fun _ h => ?_)
  · refine i_iconst (v := 0) C dX2_isMissing_11 rfl ?_
    exact x_zcR C hX (by decide) hr hQ h dX2_isMissing_12
  refine i_iconst (v := 1) C dX2_isMissing_7 rfl ?_
  refine i_goto (tgt := 12) C dX2_isMissing_8 (by decide) ?_
  exact x_zcR C hX (by decide) hr hQ h dX2_isMissing_12
def f_X4_wrongSheet (p1 : Int32) (μ : MM) : Option (Int32 × MM) := bdr (f_X4_isSheet p1) fun x1 => if x1 = 0 then (bdw (f_X4_finding (-1000001) μ) fun x4 m2 => some (x4, m2)) else (ldq 4 p1 fun j1 => bdr (f_X2_isMissing (26 + 2 * j1) μ) fun x2 => if x2 = 0 then (some (0, μ)) else (bdw (f_X4_finding (-1000006) μ) fun x3 m1 => some (x3, m1)))
theorem nd_X4_wrongSheet : yX4_wrongSheet.cls ≠ "java/lang/invoke/MethodHandle" ∧ yX4_wrongSheet.cls ≠ "java/lang/invoke/VarHandle" ∧ (parseMethodDescriptor yX4_wrongSheet.desc).map (fun d => d.parameters.length) = some 1 := by decide +kernel
set_option maxHeartbeats 4000000 in
set_option maxRecDepth 100000 in
theorem c_X4_wrongSheet (l : Launch) (G : EN)  {p1 : Int32} {μ : MM} {r : Int32} {m : MM} (h : f_X4_wrongSheet p1 μ = some (r, m)) : XM l G yX4_wrongSheet cX4_wrongSheet 2 (some .int) 2 42 [.ref (G.2.1 0), .int p1] μ (some (.int r)) m := by
  refine x_met (own := RX4) (by decide +kernel) rfl (Nat.le_of_ble_eq_true rfl) (fun Γ A H ls hg C hr hX hQ hl => ?_)
  have hl : lv_has ls 2 [(0, .ref (G.2.1 0)), (1, .int p1)] := hl
  unfold f_X4_wrongSheet at h
  refine i_iload_n C dX4_wrongSheet_0 rfl (lv_at hl 1 rfl) ?_
  obtain ⟨x1, e1, h⟩ := w_bdr h
  refine x_callSi C hX (c_X4_isSheet (gl Γ) G  e1) [] rfl hl tw3_5 tw3_6 tw1_1 tw3_7 nd_X4_isSheet ⟨(Nat.le_of_ble_eq_true rfl), (Nat.le_of_ble_eq_true rfl)⟩ (Nat.le_of_ble_eq_true rfl) dX4_wrongSheet_1 (fun H locs hX => ?_)
  refine i_if_ne (tgt := 14) C h dX4_wrongSheet_4 (by decide) (fun _ h => ?_) (fun _ h => ?_)
  · refine i_aload_n C dX4_wrongSheet_14 rfl (lv_at hl 0 rfl) ?_
    refine x_get C hX (fg_0_5 G) tw1_171 dX4_wrongSheet_15 ?_
    refine i_iload_n C dX4_wrongSheet_18 rfl (lv_at hl 1 rfl) ?_
    refine x_aald C hX (aq_25 G) rfl h dX4_wrongSheet_19 (fun j1 hj1 h => ?_)
    obtain ⟨x2, e2, h⟩ := w_bdr h
    refine x_callVi C hX (fg_S_0 G (iS_of hj1)) (c_X2_isMissing (gl Γ) G (iS_of hj1) e2) [] rfl hl tw3_8 tw3_9 tw3_10 tw1_6 tw3_11 rfl nd_X2_isMissing ⟨(Nat.le_of_ble_eq_true rfl), (Nat.le_of_ble_eq_true rfl)⟩ (Nat.le_of_ble_eq_true rfl) dX4_wrongSheet_20 (fun H locs hX => ?_)
    refine i_if_eq (tgt := 36) C h dX4_wrongSheet_23 (by decide) (fun _ h => ?_) (fun _ h => ?_)
    · refine i_iconst (v := 0) C dX4_wrongSheet_36 rfl ?_
      exact x_iretW C hX hr hQ h dX4_wrongSheet_37
    refine i_aload_n C dX4_wrongSheet_26 rfl (lv_at hl 0 rfl) ?_
    refine i_ldcw C tw3_12 dX4_wrongSheet_27 ?_
    obtain ⟨x3, m1, e3, h⟩ := w_bdw h
    refine x_callVi C hX (fg_0_0 G) (c_X4_finding (gl Γ) G  e3) [] rfl hl tw1_205 tw1_207 ts1_0 tw1_1 tw1_208 rfl nd_X4_finding ⟨(Nat.le_of_ble_eq_true rfl), (Nat.le_of_ble_eq_true rfl)⟩ (Nat.le_of_ble_eq_true rfl) dX4_wrongSheet_30 (fun H locs hX => ?_)
    refine i_goto (tgt := 37) C dX4_wrongSheet_33 (by decide) ?_
    exact x_iretW C hX hr hQ h dX4_wrongSheet_37
  refine i_aload_n C dX4_wrongSheet_7 rfl (lv_at hl 0 rfl) ?_
  refine i_ldc C tw1_204 dX4_wrongSheet_8 ?_
  obtain ⟨x4, m2, e4, h⟩ := w_bdw h
  refine x_callVi C hX (fg_0_0 G) (c_X4_finding (gl Γ) G  e4) [] rfl hl tw1_205 tw1_207 ts1_0 tw1_1 tw1_208 rfl nd_X4_finding ⟨(Nat.le_of_ble_eq_true rfl), (Nat.le_of_ble_eq_true rfl)⟩ (Nat.le_of_ble_eq_true rfl) dX4_wrongSheet_10 (fun H locs hX => ?_)
  exact x_iretW C hX hr hQ h dX4_wrongSheet_13
def f_X4_wrongLog (p1 : Int32) (p2 : Int32) (μ : MM) : Option (Int32 × MM) := bdw (f_X4_wrongSheet p1 μ) fun x1 m1 => if x1 = 0 then (if p2 = 0 then (bdw (f_X4_finding (-1000001) m1) fun x2 m2 => some (x2, m2)) else (some (0, m1))) else (some (x1, m1))
theorem nd_X4_wrongLog : yX4_wrongLog.cls ≠ "java/lang/invoke/MethodHandle" ∧ yX4_wrongLog.cls ≠ "java/lang/invoke/VarHandle" ∧ (parseMethodDescriptor yX4_wrongLog.desc).map (fun d => d.parameters.length) = some 2 := by decide +kernel
set_option maxHeartbeats 4000000 in
set_option maxRecDepth 100000 in
theorem c_X4_wrongLog (l : Launch) (G : EN)  {p1 p2 : Int32} {μ : MM} {r : Int32} {m : MM} (h : f_X4_wrongLog p1 p2 μ = some (r, m)) : XM l G yX4_wrongLog cX4_wrongLog 4 (some .int) 3 63 [.ref (G.2.1 0), .int p1, .int p2] μ (some (.int r)) m := by
  refine x_met (own := RX4) (by decide +kernel) rfl (Nat.le_of_ble_eq_true rfl) (fun Γ A H ls hg C hr hX hQ hl => ?_)
  have hl : lv_has ls 4 [(0, .ref (G.2.1 0)), (1, .int p1), (2, .int p2)] := hl
  unfold f_X4_wrongLog at h
  refine i_aload_n C dX4_wrongLog_0 rfl (lv_at hl 0 rfl) ?_
  refine i_iload_n C dX4_wrongLog_1 rfl (lv_at hl 1 rfl) ?_
  obtain ⟨x1, m1, e1, h⟩ := w_bdw h
  refine x_callVi C hX (fg_0_0 G) (c_X4_wrongSheet (gl Γ) G  e1) [] rfl hl tw3_1 tw3_3 ts1_12 tw1_1 tw3_4 rfl nd_X4_wrongSheet ⟨(Nat.le_of_ble_eq_true rfl), (Nat.le_of_ble_eq_true rfl)⟩ (Nat.le_of_ble_eq_true rfl) dX4_wrongLog_2 (fun H locs hX => ?_)
  refine i_istore_n C [(3, .int x1), (0, .ref (G.2.1 0)), (1, .int p1), (2, .int p2)] dX4_wrongLog_5 rfl hl (by decide) rfl (fun ls hl => ?_)
  refine i_iload_n C dX4_wrongLog_6 rfl (lv_at hl 0 rfl) ?_
  refine i_if_eq (tgt := 12) C h dX4_wrongLog_7 (by decide) (fun _ h => ?_) (fun _ h => ?_)
  · refine i_iload_n C dX4_wrongLog_12 rfl (lv_at hl 3 rfl) ?_
    refine i_if_eq (tgt := 20) C h dX4_wrongLog_13 (by decide) (fun _ h => ?_) (fun _ h => ?_)
    · refine i_aload_n C dX4_wrongLog_20 rfl (lv_at hl 1 rfl) ?_
      refine i_ldc C tw1_204 dX4_wrongLog_21 ?_
      obtain ⟨x2, m2, e2, h⟩ := w_bdw h
      refine x_callVi C hX (fg_0_0 G) (c_X4_finding (gl Γ) G  e2) [] rfl hl tw1_205 tw1_207 ts1_0 tw1_1 tw1_208 rfl nd_X4_finding ⟨(Nat.le_of_ble_eq_true rfl), (Nat.le_of_ble_eq_true rfl)⟩ (Nat.le_of_ble_eq_true rfl) dX4_wrongLog_23 (fun H locs hX => ?_)
      exact x_iretW C hX hr hQ h dX4_wrongLog_26
    refine i_iconst (v := 0) C dX4_wrongLog_16 rfl ?_
    refine i_goto (tgt := 26) C dX4_wrongLog_17 (by decide) ?_
    exact x_iretW C hX hr hQ h dX4_wrongLog_26
  refine i_iload_n C dX4_wrongLog_10 rfl (lv_at hl 0 rfl) ?_
  exact x_iretW C hX hr hQ h dX4_wrongLog_11
def L_X4_sitsAsTold_3 (kS : Nat) (p2 : Int32) (p3 : Int32) (p4 : Int32) (μ : MM) : Nat → Int32 → Option Int32
  | 0, _ => none
  | fu + 1, x1 => if (μ kS 1) ≤ x1 then (some 1) else (ldi μ (kS + 1) 40 x1 fun x2 => bdr (f_X0_errsAs p2 p3 p4 x1 μ) fun x3 => if x2 = x3 then (lt_ (x1 + 1) fun x4 => L_X4_sitsAsTold_3 kS p2 p3 p4 μ fu x4) else (some 0))
def f_X4_sitsAsTold (kS : Nat) (p2 : Int32) (p3 : Int32) (p4 : Int32) (μ : MM) : Option Int32 := L_X4_sitsAsTold_3 kS p2 p3 p4 μ FU 0
theorem nd_X4_sitsAsTold : yX4_sitsAsTold.cls ≠ "java/lang/invoke/MethodHandle" ∧ yX4_sitsAsTold.cls ≠ "java/lang/invoke/VarHandle" ∧ (parseMethodDescriptor yX4_sitsAsTold.desc).map (fun d => d.parameters.length) = some 4 := by decide +kernel
set_option maxHeartbeats 4000000 in
set_option maxRecDepth 100000 in
theorem c_X4_sitsAsTold (l : Launch) (G : EN) {kS : Nat} (hS : iS kS) {p2 p3 p4 : Int32} {μ : MM} {r : Int32} (h : f_X4_sitsAsTold kS p2 p3 p4 μ = some r) : XM l G yX4_sitsAsTold cX4_sitsAsTold 6 (some .boolean) 2 51 [.ref (G.2.1 0), .ref (G.2.1 kS), .int p2, .int p3, .int p4] μ (some (.int r)) μ := by
  refine x_met (own := RX4) (by decide +kernel) rfl (Nat.le_of_ble_eq_true rfl) (fun Γ A H ls hg C hr hX hQ hl => ?_)
  have hl : lv_has ls 6 [(0, .ref (G.2.1 0)), (1, .ref (G.2.1 kS)), (2, .int p2), (3, .int p3), (4, .int p4)] := hl
  unfold f_X4_sitsAsTold at h
  refine i_iconst (v := 0) C dX4_sitsAsTold_0 rfl ?_
  refine i_istore C [(5, .int 0), (0, .ref (G.2.1 0)), (1, .ref (G.2.1 kS)), (2, .int p2), (3, .int p3), (4, .int p4)] dX4_sitsAsTold_1 hl (by decide) rfl (fun ls hl => ?_)
  have L1 : ∀ (fu : Nat) (x1 : Int32) (H : Heap) (locs : List Loc) (ls : Array Slot), L_X4_sitsAsTold_3 kS p2 p3 p4 μ fu x1 = some r → lv_has ls 6 [(0, .ref (G.2.1 0)), (1, .ref (G.2.1 kS)), (2, .int p2), (3, .int p3), (4, .int p4), (5, .int x1)] → XW G A (gs Γ) H locs μ → WX Γ H locs 3 ls [] := by
    intro fu
    induction fu with
    | zero =>
      intro x1 H locs ls h
      rw [L_X4_sitsAsTold_3] at h
      cases h
    | succ fu ih =>
      intro x1 H locs ls h hl hX
      rw [L_X4_sitsAsTold_3] at h
      refine i_iload C dX4_sitsAsTold_3 (lv_at hl 5 rfl) ?_
      refine i_aload_n C dX4_sitsAsTold_5 rfl (lv_at hl 1 rfl) ?_
      refine x_get C hX (fg_S_1 G hS) tw1_156 dX4_sitsAsTold_6 ?_
      refine i_icmp_ge (tgt := 43) C h dX4_sitsAsTold_9 (by decide) (fun _ h => ?_) (fun _ h => ?_)
      · refine i_iconst (v := 1) C dX4_sitsAsTold_43 rfl ?_
        exact x_zcR C hX (by decide) hr hQ h dX4_sitsAsTold_44
      refine i_aload_n C dX4_sitsAsTold_12 rfl (lv_at hl 1 rfl) ?_
      refine x_get C hX (fg_S_2 G hS) tw1_158 dX4_sitsAsTold_13 ?_
      refine i_iload C dX4_sitsAsTold_16 (lv_at hl 5 rfl) ?_
      refine x_iald C hX (ai_S G hS) h dX4_sitsAsTold_18 (fun x2 h => ?_)
      refine i_aload_n C dX4_sitsAsTold_19 rfl (lv_at hl 0 rfl) ?_
      refine x_get C hX (fg_0_0 G) tw1_166 dX4_sitsAsTold_20 ?_
      refine i_iload_n C dX4_sitsAsTold_23 rfl (lv_at hl 2 rfl) ?_
      refine i_iload_n C dX4_sitsAsTold_24 rfl (lv_at hl 3 rfl) ?_
      refine i_iload C dX4_sitsAsTold_25 (lv_at hl 4 rfl) ?_
      refine i_iload C dX4_sitsAsTold_27 (lv_at hl 5 rfl) ?_
      obtain ⟨x3, e1, h⟩ := w_bdr h
      refine x_callVi C hX (fg_1_0 G) (c_X0_errsAs (gl Γ) G  e1) [.int x2] rfl hl tw3_17 tw1_227 tw1_228 tw1_2 tw1_229 rfl nd_X0_errsAs ⟨(Nat.le_of_ble_eq_true rfl), (Nat.le_of_ble_eq_true rfl)⟩ (Nat.le_of_ble_eq_true rfl) dX4_sitsAsTold_29 (fun H locs hX => ?_)
      refine i_icmp_eq (tgt := 37) C h dX4_sitsAsTold_32 (by decide) (fun _ h => ?_) (fun _ h => ?_)
      · refine i_iinc C (j := 5) (fun x4 => [(5, .int x4), (0, .ref (G.2.1 0)), (1, .ref (G.2.1 kS)), (2, .int p2), (3, .int p3), (4, .int p4)]) h dX4_sitsAsTold_37 hl rfl rfl (by decide) (fun _ => rfl) (fun x4 ls h hl => ?_)
        refine i_goto (tgt := 3) C dX4_sitsAsTold_40 (by decide) ?_
        exact ih _ _ _ _ h (lv_sub hl [1, 2, 3, 4, 5, 0] rfl) hX
      refine i_iconst (v := 0) C dX4_sitsAsTold_35 rfl ?_
      exact x_zcR C hX (by decide) hr hQ h dX4_sitsAsTold_36
  exact L1 FU _ _ _ _ h (lv_sub hl [1, 2, 3, 4, 5, 0] rfl) hX
def L_X4_kinds_23 (p1 : Int32) (p2 : Int32) (m1 : MM) : Nat → Int32 → Int32 → Option (Int32 × MM)
  | 0, _, _ => none
  | fu + 1, x3, x4 => if 7 ≤ x4 then (some (x3, m1)) else (ldq 4 p1 fun j1 => ldi m1 4 8 p2 fun x5 => bdr (f_X4_sitsAsTold (26 + 2 * j1) p2 x4 x5 m1) fun x6 => jn1 (fun (x7 : Int32) => lt_ (x4 + 1) fun x8 => L_X4_kinds_23 p1 p2 m1 fu x7 x8) fun k1 => if x6 = 0 then (k1 x3) else (lt_ ((x3 ||| (sl 1 x4))) fun x9 => k1 x9))
def f_X4_kinds (p1 : Int32) (p2 : Int32) (μ : MM) : Option (Int32 × MM) := bdr (f_X4_isCat p2 μ) fun x1 => bdw (f_X4_wrongLog p1 x1 μ) fun x2 m1 => if x2 = 0 then (L_X4_kinds_23 p1 p2 m1 FU 0 0) else (some (x2, m1))
theorem nd_X4_kinds : yX4_kinds.cls ≠ "java/lang/invoke/MethodHandle" ∧ yX4_kinds.cls ≠ "java/lang/invoke/VarHandle" ∧ (parseMethodDescriptor yX4_kinds.desc).map (fun d => d.parameters.length) = some 2 := by decide +kernel
set_option maxHeartbeats 4000000 in
set_option maxRecDepth 100000 in
theorem c_X4_kinds (l : Launch) (G : EN)  {p1 p2 : Int32} {μ : MM} {r : Int32} {m : MM} (h : f_X4_kinds p1 p2 μ = some (r, m)) : XM l G yX4_kinds cX4_kinds 6 (some .int) 4 86 [.ref (G.2.1 0), .int p1, .int p2] μ (some (.int r)) m := by
  refine x_met (own := RX4) (by decide +kernel) rfl (Nat.le_of_ble_eq_true rfl) (fun Γ A H ls hg C hr hX hQ hl => ?_)
  have hl : lv_has ls 6 [(0, .ref (G.2.1 0)), (1, .int p1), (2, .int p2)] := hl
  unfold f_X4_kinds at h
  refine i_aload_n C dX4_kinds_0 rfl (lv_at hl 0 rfl) ?_
  refine i_iload_n C dX4_kinds_1 rfl (lv_at hl 1 rfl) ?_
  refine i_aload_n C dX4_kinds_2 rfl (lv_at hl 0 rfl) ?_
  refine i_iload_n C dX4_kinds_3 rfl (lv_at hl 2 rfl) ?_
  obtain ⟨x1, e1, h⟩ := w_bdr h
  refine x_callVi C hX (fg_0_0 G) (c_X4_isCat (gl Γ) G  e1) [.int p1, .ref (G.2.1 0)] rfl hl tw1_218 tw1_220 ts1_1 tw1_1 tw1_221 rfl nd_X4_isCat ⟨(Nat.le_of_ble_eq_true rfl), (Nat.le_of_ble_eq_true rfl)⟩ (Nat.le_of_ble_eq_true rfl) dX4_kinds_4 (fun H locs hX => ?_)
  obtain ⟨x2, m1, e2, h⟩ := w_bdw h
  refine x_callVi C hX (fg_0_0 G) (c_X4_wrongLog (gl Γ) G  e2) [] rfl hl tw2_237 tw2_239 ts1_11 tw1_1 tw3_0 rfl nd_X4_wrongLog ⟨(Nat.le_of_ble_eq_true rfl), (Nat.le_of_ble_eq_true rfl)⟩ (Nat.le_of_ble_eq_true rfl) dX4_kinds_7 (fun H locs hX => ?_)
  refine i_istore_n C [(3, .int x2), (0, .ref (G.2.1 0)), (1, .int p1), (2, .int p2)] dX4_kinds_10 rfl hl (by decide) rfl (fun ls hl => ?_)
  refine i_iload_n C dX4_kinds_11 rfl (lv_at hl 0 rfl) ?_
  refine i_if_eq (tgt := 17) C h dX4_kinds_12 (by decide) (fun _ h => ?_) (fun _ h => ?_)
  · refine i_iconst (v := 0) C dX4_kinds_17 rfl ?_
    refine i_istore C [(4, .int 0), (3, .int x2), (0, .ref (G.2.1 0)), (1, .int p1), (2, .int p2)] dX4_kinds_18 hl (by decide) rfl (fun ls hl => ?_)
    refine i_iconst (v := 0) C dX4_kinds_20 rfl ?_
    refine i_istore C [(5, .int 0), (4, .int 0), (3, .int x2), (0, .ref (G.2.1 0)), (1, .int p1), (2, .int p2)] dX4_kinds_21 hl (by decide) rfl (fun ls hl => ?_)
    have L1 : ∀ (fu : Nat) (x3 : Int32) (x4 : Int32) (H : Heap) (locs : List Loc) (ls : Array Slot), L_X4_kinds_23 p1 p2 m1 fu x3 x4 = some (r, m) → lv_has ls 6 [(0, .ref (G.2.1 0)), (1, .int p1), (2, .int p2), (4, .int x3), (5, .int x4)] → XW G A (gs Γ) H locs m1 → WX Γ H locs 23 ls [] := by
      intro fu
      induction fu with
      | zero =>
        intro x3 x4 H locs ls h
        rw [L_X4_kinds_23] at h
        cases h
      | succ fu ih =>
        intro x3 x4 H locs ls h hl hX
        rw [L_X4_kinds_23] at h
        refine i_iload C dX4_kinds_23 (lv_at hl 4 rfl) ?_
        refine i_bipush (v := 7) C dX4_kinds_25 rfl ?_
        refine i_icmp_ge (tgt := 70) C h dX4_kinds_27 (by decide) (fun _ h => ?_) (fun _ h => ?_)
        · refine i_iload C dX4_kinds_70 (lv_at hl 3 rfl) ?_
          exact x_iretW C hX hr hQ h dX4_kinds_72
        refine i_aload_n C dX4_kinds_30 rfl (lv_at hl 0 rfl) ?_
        refine i_aload_n C dX4_kinds_31 rfl (lv_at hl 0 rfl) ?_
        refine x_get C hX (fg_0_5 G) tw1_171 dX4_kinds_32 ?_
        refine i_iload_n C dX4_kinds_35 rfl (lv_at hl 1 rfl) ?_
        refine x_aald C hX (aq_25 G) rfl h dX4_kinds_36 (fun j1 hj1 h => ?_)
        refine i_iload_n C dX4_kinds_37 rfl (lv_at hl 2 rfl) ?_
        refine i_iload C dX4_kinds_38 (lv_at hl 4 rfl) ?_
        refine i_aload_n C dX4_kinds_40 rfl (lv_at hl 0 rfl) ?_
        refine x_get C hX (fg_0_0 G) tw1_166 dX4_kinds_41 ?_
        refine x_get C hX (fg_1_3 G) tw1_40 dX4_kinds_44 ?_
        refine i_iload_n C dX4_kinds_47 rfl (lv_at hl 2 rfl) ?_
        refine x_iald C hX (ai_4 G) h dX4_kinds_48 (fun x5 h => ?_)
        obtain ⟨x6, e3, h⟩ := w_bdr h
        refine x_callVi C hX (fg_0_0 G) (c_X4_sitsAsTold (gl Γ) G (iS_of hj1) e3) [] rfl hl tw3_13 tw3_15 ts1_13 tw1_1 tw3_16 rfl nd_X4_sitsAsTold ⟨(Nat.le_of_ble_eq_true rfl), (Nat.le_of_ble_eq_true rfl)⟩ (Nat.le_of_ble_eq_true rfl) dX4_kinds_49 (fun H locs hX => ?_)
        refine w_jn1 (fun (x7 : Int32) => ∀ (H : Heap) (locs : List Loc) (ls : Array Slot), lv_has ls 6 [(0, .ref (G.2.1 0)), (1, .int p1), (2, .int p2), (4, .int x7), (5, .int x4)] → XW G A (gs Γ) H locs m1 → WX Γ H locs 64 ls []) h (fun x7 h H locs ls hl hX => ?_) (fun k1 J1 h => ?_)
        · refine i_iinc C (j := 4) (fun x8 => [(5, .int x8), (0, .ref (G.2.1 0)), (1, .int p1), (2, .int p2), (4, .int x7)]) h dX4_kinds_64 hl rfl rfl (by decide) (fun _ => rfl) (fun x8 ls h hl => ?_)
          refine i_goto (tgt := 23) C dX4_kinds_67 (by decide) ?_
          exact ih _ _ _ _ _ h (lv_sub hl [1, 2, 3, 4, 0] rfl) hX
        refine i_if_eq (tgt := 64) C h dX4_kinds_52 (by decide) (fun _ h => ?_) (fun _ h => ?_)
        · exact J1 _ h _ _ _ (lv_sub hl [0, 1, 2, 3, 4] rfl) hX
        refine i_iload C dX4_kinds_55 (lv_at hl 3 rfl) ?_
        refine i_iconst (v := 1) C dX4_kinds_57 rfl ?_
        refine i_iload C dX4_kinds_58 (lv_at hl 4 rfl) ?_
        refine i_ishl C dX4_kinds_60 ?_
        refine i_ior C dX4_kinds_61 ?_
        refine i_istoreL C (fun x9 => [(4, .int x9), (0, .ref (G.2.1 0)), (1, .int p1), (2, .int p2), (5, .int x4)]) h dX4_kinds_62 hl (by decide) (fun _ => rfl) (fun x9 ls h hl => ?_)
        exact J1 _ h _ _ _ (lv_sub hl [1, 2, 3, 0, 4] rfl) hX
    exact L1 FU _ _ _ _ _ h (lv_sub hl [3, 4, 5, 1, 0] rfl) hX
  refine i_iload_n C dX4_kinds_15 rfl (lv_at hl 0 rfl) ?_
  exact x_iretW C hX hr hQ h dX4_kinds_16
def L_X4_habits_24 (p1 : Int32) (p2 : Int32) (m1 : MM) : Nat → Int32 → Int32 → Option (Int32 × MM)
  | 0, _, _ => none
  | fu + 1, x3, x4 => if 15 < x4 then (some (x3, m1)) else (ldq 4 p1 fun j1 => ldi m1 2 8 p2 fun x5 => bdr (f_X4_sitsAsTold (26 + 2 * j1) p2 x5 x4 m1) fun x6 => jn1 (fun (x7 : Int32) => lt_ (x4 + 1) fun x8 => L_X4_habits_24 p1 p2 m1 fu x7 x8) fun k1 => if x6 = 0 then (k1 x3) else (lt_ (x3 + 1) fun x9 => k1 x9))
def f_X4_habits (p1 : Int32) (p2 : Int32) (μ : MM) : Option (Int32 × MM) := bdr (f_X4_isCat p2 μ) fun x1 => bdw (f_X4_wrongLog p1 x1 μ) fun x2 m1 => if x2 = 0 then (L_X4_habits_24 p1 p2 m1 FU 0 (-15)) else (some (x2, m1))
theorem nd_X4_habits : yX4_habits.cls ≠ "java/lang/invoke/MethodHandle" ∧ yX4_habits.cls ≠ "java/lang/invoke/VarHandle" ∧ (parseMethodDescriptor yX4_habits.desc).map (fun d => d.parameters.length) = some 2 := by decide +kernel
set_option maxHeartbeats 4000000 in
set_option maxRecDepth 100000 in
theorem c_X4_habits (l : Launch) (G : EN)  {p1 p2 : Int32} {μ : MM} {r : Int32} {m : MM} (h : f_X4_habits p1 p2 μ = some (r, m)) : XM l G yX4_habits cX4_habits 6 (some .int) 4 86 [.ref (G.2.1 0), .int p1, .int p2] μ (some (.int r)) m := by
  refine x_met (own := RX4) (by decide +kernel) rfl (Nat.le_of_ble_eq_true rfl) (fun Γ A H ls hg C hr hX hQ hl => ?_)
  have hl : lv_has ls 6 [(0, .ref (G.2.1 0)), (1, .int p1), (2, .int p2)] := hl
  unfold f_X4_habits at h
  refine i_aload_n C dX4_habits_0 rfl (lv_at hl 0 rfl) ?_
  refine i_iload_n C dX4_habits_1 rfl (lv_at hl 1 rfl) ?_
  refine i_aload_n C dX4_habits_2 rfl (lv_at hl 0 rfl) ?_
  refine i_iload_n C dX4_habits_3 rfl (lv_at hl 2 rfl) ?_
  obtain ⟨x1, e1, h⟩ := w_bdr h
  refine x_callVi C hX (fg_0_0 G) (c_X4_isCat (gl Γ) G  e1) [.int p1, .ref (G.2.1 0)] rfl hl tw1_218 tw1_220 ts1_1 tw1_1 tw1_221 rfl nd_X4_isCat ⟨(Nat.le_of_ble_eq_true rfl), (Nat.le_of_ble_eq_true rfl)⟩ (Nat.le_of_ble_eq_true rfl) dX4_habits_4 (fun H locs hX => ?_)
  obtain ⟨x2, m1, e2, h⟩ := w_bdw h
  refine x_callVi C hX (fg_0_0 G) (c_X4_wrongLog (gl Γ) G  e2) [] rfl hl tw2_237 tw2_239 ts1_11 tw1_1 tw3_0 rfl nd_X4_wrongLog ⟨(Nat.le_of_ble_eq_true rfl), (Nat.le_of_ble_eq_true rfl)⟩ (Nat.le_of_ble_eq_true rfl) dX4_habits_7 (fun H locs hX => ?_)
  refine i_istore_n C [(3, .int x2), (0, .ref (G.2.1 0)), (1, .int p1), (2, .int p2)] dX4_habits_10 rfl hl (by decide) rfl (fun ls hl => ?_)
  refine i_iload_n C dX4_habits_11 rfl (lv_at hl 0 rfl) ?_
  refine i_if_eq (tgt := 17) C h dX4_habits_12 (by decide) (fun _ h => ?_) (fun _ h => ?_)
  · refine i_iconst (v := 0) C dX4_habits_17 rfl ?_
    refine i_istore C [(4, .int 0), (3, .int x2), (0, .ref (G.2.1 0)), (1, .int p1), (2, .int p2)] dX4_habits_18 hl (by decide) rfl (fun ls hl => ?_)
    refine i_bipush (v := (-15)) C dX4_habits_20 rfl ?_
    refine i_istore C [(5, .int (-15)), (4, .int 0), (3, .int x2), (0, .ref (G.2.1 0)), (1, .int p1), (2, .int p2)] dX4_habits_22 hl (by decide) rfl (fun ls hl => ?_)
    have L1 : ∀ (fu : Nat) (x3 : Int32) (x4 : Int32) (H : Heap) (locs : List Loc) (ls : Array Slot), L_X4_habits_24 p1 p2 m1 fu x3 x4 = some (r, m) → lv_has ls 6 [(0, .ref (G.2.1 0)), (1, .int p1), (2, .int p2), (4, .int x3), (5, .int x4)] → XW G A (gs Γ) H locs m1 → WX Γ H locs 24 ls [] := by
      intro fu
      induction fu with
      | zero =>
        intro x3 x4 H locs ls h
        rw [L_X4_habits_24] at h
        cases h
      | succ fu ih =>
        intro x3 x4 H locs ls h hl hX
        rw [L_X4_habits_24] at h
        refine i_iload C dX4_habits_24 (lv_at hl 4 rfl) ?_
        refine i_bipush (v := 15) C dX4_habits_26 rfl ?_
        refine i_icmp_gt (tgt := 65) C h dX4_habits_28 (by decide) (fun _ h => ?_) (fun _ h => ?_)
        · refine i_iload C dX4_habits_65 (lv_at hl 3 rfl) ?_
          exact x_iretW C hX hr hQ h dX4_habits_67
        refine i_aload_n C dX4_habits_31 rfl (lv_at hl 0 rfl) ?_
        refine i_aload_n C dX4_habits_32 rfl (lv_at hl 0 rfl) ?_
        refine x_get C hX (fg_0_5 G) tw1_171 dX4_habits_33 ?_
        refine i_iload_n C dX4_habits_36 rfl (lv_at hl 1 rfl) ?_
        refine x_aald C hX (aq_25 G) rfl h dX4_habits_37 (fun j1 hj1 h => ?_)
        refine i_iload_n C dX4_habits_38 rfl (lv_at hl 2 rfl) ?_
        refine i_aload_n C dX4_habits_39 rfl (lv_at hl 0 rfl) ?_
        refine x_get C hX (fg_0_0 G) tw1_166 dX4_habits_40 ?_
        refine x_get C hX (fg_1_1 G) tw1_36 dX4_habits_43 ?_
        refine i_iload_n C dX4_habits_46 rfl (lv_at hl 2 rfl) ?_
        refine x_iald C hX (ai_2 G) h dX4_habits_47 (fun x5 h => ?_)
        refine i_iload C dX4_habits_48 (lv_at hl 4 rfl) ?_
        obtain ⟨x6, e3, h⟩ := w_bdr h
        refine x_callVi C hX (fg_0_0 G) (c_X4_sitsAsTold (gl Γ) G (iS_of hj1) e3) [] rfl hl tw3_13 tw3_15 ts1_13 tw1_1 tw3_16 rfl nd_X4_sitsAsTold ⟨(Nat.le_of_ble_eq_true rfl), (Nat.le_of_ble_eq_true rfl)⟩ (Nat.le_of_ble_eq_true rfl) dX4_habits_50 (fun H locs hX => ?_)
        refine w_jn1 (fun (x7 : Int32) => ∀ (H : Heap) (locs : List Loc) (ls : Array Slot), lv_has ls 6 [(0, .ref (G.2.1 0)), (1, .int p1), (2, .int p2), (4, .int x7), (5, .int x4)] → XW G A (gs Γ) H locs m1 → WX Γ H locs 59 ls []) h (fun x7 h H locs ls hl hX => ?_) (fun k1 J1 h => ?_)
        · refine i_iinc C (j := 4) (fun x8 => [(5, .int x8), (0, .ref (G.2.1 0)), (1, .int p1), (2, .int p2), (4, .int x7)]) h dX4_habits_59 hl rfl rfl (by decide) (fun _ => rfl) (fun x8 ls h hl => ?_)
          refine i_goto (tgt := 24) C dX4_habits_62 (by decide) ?_
          exact ih _ _ _ _ _ h (lv_sub hl [1, 2, 3, 4, 0] rfl) hX
        refine i_if_eq (tgt := 59) C h dX4_habits_53 (by decide) (fun _ h => ?_) (fun _ h => ?_)
        · exact J1 _ h _ _ _ (lv_sub hl [0, 1, 2, 3, 4] rfl) hX
        refine i_iinc C (j := 3) (fun x9 => [(4, .int x9), (0, .ref (G.2.1 0)), (1, .int p1), (2, .int p2), (5, .int x4)]) h dX4_habits_56 hl rfl rfl (by decide) (fun _ => rfl) (fun x9 ls h hl => ?_)
        exact J1 _ h _ _ _ (lv_sub hl [1, 2, 3, 0, 4] rfl) hX
    exact L1 FU _ _ _ _ _ h (lv_sub hl [3, 4, 5, 1, 0] rfl) hX
  refine i_iload_n C dX4_habits_15 rfl (lv_at hl 0 rfl) ?_
  exact x_iretW C hX hr hQ h dX4_habits_16
def L_X4_goesAsTold_6 (kS : Nat) (p2 : Int32) (μ : MM) : Nat → Int32 → Int32 → Option Int32
  | 0, _, _ => none
  | fu + 1, x1, x2 => if (μ kS 1) ≤ x2 then (some 1) else (ldi μ (kS + 1) 40 x2 fun x3 => jn0 (ldi μ 6 4 p2 fun x4 => ldi μ 35 60 x2 fun x5 => bdr (f_X4_course x4 x5) fun x6 => bdr (f_X0_nextBy x1 x6 (μ 1 8) μ) fun x7 => lt_ (x2 + 1) fun x8 => L_X4_goesAsTold_6 kS p2 μ fu x7 x8) fun k1 => if x3 = (-1) then (k1) else (if x3 = (x1 / 10) then (k1) else (some 0)))
def f_X4_goesAsTold (kS : Nat) (p2 : Int32) (p3 : Int32) (μ : MM) : Option Int32 := L_X4_goesAsTold_6 kS p2 μ FU p3 0
theorem nd_X4_goesAsTold : yX4_goesAsTold.cls ≠ "java/lang/invoke/MethodHandle" ∧ yX4_goesAsTold.cls ≠ "java/lang/invoke/VarHandle" ∧ (parseMethodDescriptor yX4_goesAsTold.desc).map (fun d => d.parameters.length) = some 3 := by decide +kernel
set_option maxHeartbeats 4000000 in
set_option maxRecDepth 100000 in
theorem c_X4_goesAsTold (l : Launch) (G : EN) {kS : Nat} (hS : iS kS) {p2 p3 : Int32} {μ : MM} {r : Int32} (h : f_X4_goesAsTold kS p2 p3 μ = some r) : XM l G yX4_goesAsTold cX4_goesAsTold 7 (some .boolean) 3 69 [.ref (G.2.1 0), .ref (G.2.1 kS), .int p2, .int p3] μ (some (.int r)) μ := by
  refine x_met (own := RX4) (by decide +kernel) rfl (Nat.le_of_ble_eq_true rfl) (fun Γ A H ls hg C hr hX hQ hl => ?_)
  have hl : lv_has ls 7 [(0, .ref (G.2.1 0)), (1, .ref (G.2.1 kS)), (2, .int p2), (3, .int p3)] := hl
  unfold f_X4_goesAsTold at h
  refine i_iload_n C dX4_goesAsTold_0 rfl (lv_at hl 3 rfl) ?_
  refine i_istore C [(4, .int p3), (0, .ref (G.2.1 0)), (1, .ref (G.2.1 kS)), (2, .int p2), (3, .int p3)] dX4_goesAsTold_1 hl (by decide) rfl (fun ls hl => ?_)
  refine i_iconst (v := 0) C dX4_goesAsTold_3 rfl ?_
  refine i_istore C [(5, .int 0), (4, .int p3), (0, .ref (G.2.1 0)), (1, .ref (G.2.1 kS)), (2, .int p2), (3, .int p3)] dX4_goesAsTold_4 hl (by decide) rfl (fun ls hl => ?_)
  have L1 : ∀ (fu : Nat) (x1 : Int32) (x2 : Int32) (H : Heap) (locs : List Loc) (ls : Array Slot), L_X4_goesAsTold_6 kS p2 μ fu x1 x2 = some r → lv_has ls 7 [(0, .ref (G.2.1 0)), (1, .ref (G.2.1 kS)), (2, .int p2), (4, .int x1), (5, .int x2)] → XW G A (gs Γ) H locs μ → WX Γ H locs 6 ls [] := by
    intro fu
    induction fu with
    | zero =>
      intro x1 x2 H locs ls h
      rw [L_X4_goesAsTold_6] at h
      cases h
    | succ fu ih =>
      intro x1 x2 H locs ls h hl hX
      rw [L_X4_goesAsTold_6] at h
      refine i_iload C dX4_goesAsTold_6 (lv_at hl 4 rfl) ?_
      refine i_aload_n C dX4_goesAsTold_8 rfl (lv_at hl 1 rfl) ?_
      refine x_get C hX (fg_S_1 G hS) tw1_156 dX4_goesAsTold_9 ?_
      refine i_icmp_ge (tgt := 85) C h dX4_goesAsTold_12 (by decide) (fun _ h => ?_) (fun _ h => ?_)
      · refine i_iconst (v := 1) C dX4_goesAsTold_85 rfl ?_
        exact x_zcR C hX (by decide) hr hQ h dX4_goesAsTold_86
      refine i_aload_n C dX4_goesAsTold_15 rfl (lv_at hl 1 rfl) ?_
      refine x_get C hX (fg_S_2 G hS) tw1_158 dX4_goesAsTold_16 ?_
      refine i_iload C dX4_goesAsTold_19 (lv_at hl 4 rfl) ?_
      refine x_iald C hX (ai_S G hS) h dX4_goesAsTold_21 (fun x3 h => ?_)
      refine i_istore C [(6, .int x3), (0, .ref (G.2.1 0)), (1, .ref (G.2.1 kS)), (2, .int p2), (4, .int x1), (5, .int x2)] dX4_goesAsTold_22 hl (by decide) rfl (fun ls hl => ?_)
      refine i_iload C dX4_goesAsTold_24 (lv_at hl 0 rfl) ?_
      refine i_iconst (v := (-1)) C dX4_goesAsTold_26 rfl ?_
      refine w_jn0 (∀ (H : Heap) (locs : List Loc) (ls : Array Slot), lv_has ls 7 [(0, .ref (G.2.1 0)), (1, .ref (G.2.1 kS)), (2, .int p2), (4, .int x1), (5, .int x2)] → XW G A (gs Γ) H locs μ → WX Γ H locs 42 ls []) h (fun  h H locs ls hl hX => ?_) (fun k1 J1 h => ?_)
      · refine i_aload_n C dX4_goesAsTold_42 rfl (lv_at hl 0 rfl) ?_
        refine x_get C hX (fg_0_0 G) tw1_166 dX4_goesAsTold_43 ?_
        refine i_iload C dX4_goesAsTold_46 (lv_at hl 3 rfl) ?_
        refine i_aload_n C dX4_goesAsTold_48 rfl (lv_at hl 0 rfl) ?_
        refine x_get C hX (fg_0_0 G) tw1_166 dX4_goesAsTold_49 ?_
        refine x_get C hX (fg_1_5 G) tw1_45 dX4_goesAsTold_52 ?_
        refine i_iload_n C dX4_goesAsTold_55 rfl (lv_at hl 2 rfl) ?_
        refine x_iald C hX (ai_6 G) h dX4_goesAsTold_56 (fun x4 h => ?_)
        refine i_aload_n C dX4_goesAsTold_57 rfl (lv_at hl 0 rfl) ?_
        refine x_get C hX (fg_0_7 G) tw1_173 dX4_goesAsTold_58 ?_
        refine i_iload C dX4_goesAsTold_61 (lv_at hl 4 rfl) ?_
        refine x_iald C hX (ai_35 G) h dX4_goesAsTold_63 (fun x5 h => ?_)
        obtain ⟨x6, e1, h⟩ := w_bdr h
        refine x_callSi C hX (c_X4_course (gl Γ) G  e1) [.int x1, .ref (G.2.1 1)] rfl hl tw2_14 tw2_15 tw1_1 tw2_16 nd_X4_course ⟨(Nat.le_of_ble_eq_true rfl), (Nat.le_of_ble_eq_true rfl)⟩ (Nat.le_of_ble_eq_true rfl) dX4_goesAsTold_64 (fun H locs hX => ?_)
        refine i_aload_n C dX4_goesAsTold_67 rfl (lv_at hl 0 rfl) ?_
        refine x_get C hX (fg_0_0 G) tw1_166 dX4_goesAsTold_68 ?_
        refine x_get C hX (fg_1_8 G) tw1_54 dX4_goesAsTold_71 ?_
        obtain ⟨x7, e2, h⟩ := w_bdr h
        refine x_callVi C hX (fg_1_0 G) (c_X0_nextBy (gl Γ) G  e2) [] rfl hl tw2_162 tw2_27 tw2_28 tw1_2 tw2_29 rfl nd_X0_nextBy ⟨(Nat.le_of_ble_eq_true rfl), (Nat.le_of_ble_eq_true rfl)⟩ (Nat.le_of_ble_eq_true rfl) dX4_goesAsTold_74 (fun H locs hX => ?_)
        refine i_istore C [(4, .int x7), (0, .ref (G.2.1 0)), (1, .ref (G.2.1 kS)), (2, .int p2), (5, .int x2)] dX4_goesAsTold_77 hl (by decide) rfl (fun ls hl => ?_)
        refine i_iinc C (j := 4) (fun x8 => [(5, .int x8), (4, .int x7), (0, .ref (G.2.1 0)), (1, .ref (G.2.1 kS)), (2, .int p2)]) h dX4_goesAsTold_79 hl rfl rfl (by decide) (fun _ => rfl) (fun x8 ls h hl => ?_)
        refine i_goto (tgt := 6) C dX4_goesAsTold_82 (by decide) ?_
        exact ih _ _ _ _ _ h (lv_sub hl [2, 3, 4, 1, 0] rfl) hX
      refine i_icmp_eq (tgt := 42) C h dX4_goesAsTold_27 (by decide) (fun _ h => ?_) (fun _ h => ?_)
      · exact J1 h _ _ _ (lv_sub hl [1, 2, 3, 4, 5] rfl) hX
      refine i_iload C dX4_goesAsTold_30 (lv_at hl 0 rfl) ?_
      refine i_iload C dX4_goesAsTold_32 (lv_at hl 4 rfl) ?_
      refine i_bipush (v := 10) C dX4_goesAsTold_34 rfl ?_
      refine i_idivc C dX4_goesAsTold_36 (by decide) ?_
      refine i_icmp_eq (tgt := 42) C h dX4_goesAsTold_37 (by decide) (fun _ h => ?_) (fun _ h => ?_)
      · exact J1 h _ _ _ (lv_sub hl [1, 2, 3, 4, 5] rfl) hX
      refine i_iconst (v := 0) C dX4_goesAsTold_40 rfl ?_
      exact x_zcR C hX (by decide) hr hQ h dX4_goesAsTold_41
  exact L1 FU _ _ _ _ _ h (lv_sub hl [2, 3, 4, 1, 0] rfl) hX
def L_X4_begun_36 (p1 : Int32) (p2 : Int32) (m2 : MM) : Nat → Int32 → Int32 → Option (Int32 × MM)
  | 0, _, _ => none
  | fu + 1, x3, x4 => if 100 ≤ x4 then (some (x3, m2)) else (ldq 4 p1 fun j2 => bdr (f_X4_goesAsTold (26 + 2 * j2) p2 x4 m2) fun x5 => jn1 (fun (x6 : Int32) => lt_ (x4 + 1) fun x7 => L_X4_begun_36 p1 p2 m2 fu x6 x7) fun k1 => if x5 = 0 then (k1 x3) else (lt_ (x3 + 1) fun x8 => k1 x8))
def f_X4_begun (p1 : Int32) (p2 : Int32) (μ : MM) : Option (Int32 × MM) := bdr (f_X4_isShip p2) fun x1 => bdw (f_X4_wrongLog p1 x1 μ) fun x2 m1 => if x2 = 0 then (ldq 4 p1 fun j1 => bdr (f_X4_readAhead p2 (m1 (26 + 2 * j1) 1) m1) fun m2 => L_X4_begun_36 p1 p2 m2 FU 0 0) else (some (x2, m1))
theorem nd_X4_begun : yX4_begun.cls ≠ "java/lang/invoke/MethodHandle" ∧ yX4_begun.cls ≠ "java/lang/invoke/VarHandle" ∧ (parseMethodDescriptor yX4_begun.desc).map (fun d => d.parameters.length) = some 2 := by decide +kernel
set_option maxHeartbeats 4000000 in
set_option maxRecDepth 100000 in
theorem c_X4_begun (l : Launch) (G : EN)  {p1 p2 : Int32} {μ : MM} {r : Int32} {m : MM} (h : f_X4_begun p1 p2 μ = some (r, m)) : XM l G yX4_begun cX4_begun 6 (some .int) 4 99 [.ref (G.2.1 0), .int p1, .int p2] μ (some (.int r)) m := by
  refine x_met (own := RX4) (by decide +kernel) rfl (Nat.le_of_ble_eq_true rfl) (fun Γ A H ls hg C hr hX hQ hl => ?_)
  have hl : lv_has ls 6 [(0, .ref (G.2.1 0)), (1, .int p1), (2, .int p2)] := hl
  unfold f_X4_begun at h
  refine i_aload_n C dX4_begun_0 rfl (lv_at hl 0 rfl) ?_
  refine i_iload_n C dX4_begun_1 rfl (lv_at hl 1 rfl) ?_
  refine i_iload_n C dX4_begun_2 rfl (lv_at hl 2 rfl) ?_
  obtain ⟨x1, e1, h⟩ := w_bdr h
  refine x_callSi C hX (c_X4_isShip (gl Γ) G  e1) [.int p1, .ref (G.2.1 0)] rfl hl tw2_4 tw2_5 tw1_1 tw2_6 nd_X4_isShip ⟨(Nat.le_of_ble_eq_true rfl), (Nat.le_of_ble_eq_true rfl)⟩ (Nat.le_of_ble_eq_true rfl) dX4_begun_3 (fun H locs hX => ?_)
  obtain ⟨x2, m1, e2, h⟩ := w_bdw h
  refine x_callVi C hX (fg_0_0 G) (c_X4_wrongLog (gl Γ) G  e2) [] rfl hl tw2_237 tw2_239 ts1_11 tw1_1 tw3_0 rfl nd_X4_wrongLog ⟨(Nat.le_of_ble_eq_true rfl), (Nat.le_of_ble_eq_true rfl)⟩ (Nat.le_of_ble_eq_true rfl) dX4_begun_6 (fun H locs hX => ?_)
  refine i_istore_n C [(3, .int x2), (0, .ref (G.2.1 0)), (1, .int p1), (2, .int p2)] dX4_begun_9 rfl hl (by decide) rfl (fun ls hl => ?_)
  refine i_iload_n C dX4_begun_10 rfl (lv_at hl 0 rfl) ?_
  refine i_if_eq (tgt := 16) C h dX4_begun_11 (by decide) (fun _ h => ?_) (fun _ h => ?_)
  · refine i_aload_n C dX4_begun_16 rfl (lv_at hl 1 rfl) ?_
    refine i_iload_n C dX4_begun_17 rfl (lv_at hl 3 rfl) ?_
    refine i_aload_n C dX4_begun_18 rfl (lv_at hl 1 rfl) ?_
    refine x_get C hX (fg_0_5 G) tw1_171 dX4_begun_19 ?_
    refine i_iload_n C dX4_begun_22 rfl (lv_at hl 2 rfl) ?_
    refine x_aald C hX (aq_25 G) rfl h dX4_begun_23 (fun j1 hj1 h => ?_)
    refine x_get C hX (fg_S_1 G (iS_of hj1)) tw1_156 dX4_begun_24 ?_
    obtain ⟨m2, e3, h⟩ := w_bdr h
    refine x_callVv C hX (fg_0_0 G) (c_X4_readAhead (gl Γ) G  e3) [] rfl hl tw2_154 tw2_156 ts1_5 tw1_1 tw2_157 rfl nd_X4_readAhead ⟨(Nat.le_of_ble_eq_true rfl), (Nat.le_of_ble_eq_true rfl)⟩ (Nat.le_of_ble_eq_true rfl) dX4_begun_27 (fun H locs hX => ?_)
    refine i_iconst (v := 0) C dX4_begun_30 rfl ?_
    refine i_istore C [(4, .int 0), (3, .int x2), (0, .ref (G.2.1 0)), (1, .int p1), (2, .int p2)] dX4_begun_31 hl (by decide) rfl (fun ls hl => ?_)
    refine i_iconst (v := 0) C dX4_begun_33 rfl ?_
    refine i_istore C [(5, .int 0), (4, .int 0), (3, .int x2), (0, .ref (G.2.1 0)), (1, .int p1), (2, .int p2)] dX4_begun_34 hl (by decide) rfl (fun ls hl => ?_)
    have L1 : ∀ (fu : Nat) (x3 : Int32) (x4 : Int32) (H : Heap) (locs : List Loc) (ls : Array Slot), L_X4_begun_36 p1 p2 m2 fu x3 x4 = some (r, m) → lv_has ls 6 [(0, .ref (G.2.1 0)), (1, .int p1), (2, .int p2), (4, .int x3), (5, .int x4)] → XW G A (gs Γ) H locs m2 → WX Γ H locs 36 ls [] := by
      intro fu
      induction fu with
      | zero =>
        intro x3 x4 H locs ls h
        rw [L_X4_begun_36] at h
        cases h
      | succ fu ih =>
        intro x3 x4 H locs ls h hl hX
        rw [L_X4_begun_36] at h
        refine i_iload C dX4_begun_36 (lv_at hl 4 rfl) ?_
        refine i_bipush (v := 100) C dX4_begun_38 rfl ?_
        refine i_icmp_ge (tgt := 68) C h dX4_begun_40 (by decide) (fun _ h => ?_) (fun _ h => ?_)
        · refine i_iload C dX4_begun_68 (lv_at hl 3 rfl) ?_
          exact x_iretW C hX hr hQ h dX4_begun_70
        refine i_aload_n C dX4_begun_43 rfl (lv_at hl 0 rfl) ?_
        refine i_aload_n C dX4_begun_44 rfl (lv_at hl 0 rfl) ?_
        refine x_get C hX (fg_0_5 G) tw1_171 dX4_begun_45 ?_
        refine i_iload_n C dX4_begun_48 rfl (lv_at hl 1 rfl) ?_
        refine x_aald C hX (aq_25 G) rfl h dX4_begun_49 (fun j2 hj2 h => ?_)
        refine i_iload_n C dX4_begun_50 rfl (lv_at hl 2 rfl) ?_
        refine i_iload C dX4_begun_51 (lv_at hl 4 rfl) ?_
        obtain ⟨x5, e4, h⟩ := w_bdr h
        refine x_callVi C hX (fg_0_0 G) (c_X4_goesAsTold (gl Γ) G (iS_of hj2) e4) [] rfl hl tw3_26 tw3_28 ts1_14 tw1_1 tw3_29 rfl nd_X4_goesAsTold ⟨(Nat.le_of_ble_eq_true rfl), (Nat.le_of_ble_eq_true rfl)⟩ (Nat.le_of_ble_eq_true rfl) dX4_begun_53 (fun H locs hX => ?_)
        refine w_jn1 (fun (x6 : Int32) => ∀ (H : Heap) (locs : List Loc) (ls : Array Slot), lv_has ls 6 [(0, .ref (G.2.1 0)), (1, .int p1), (2, .int p2), (4, .int x6), (5, .int x4)] → XW G A (gs Γ) H locs m2 → WX Γ H locs 62 ls []) h (fun x6 h H locs ls hl hX => ?_) (fun k1 J1 h => ?_)
        · refine i_iinc C (j := 4) (fun x7 => [(5, .int x7), (0, .ref (G.2.1 0)), (1, .int p1), (2, .int p2), (4, .int x6)]) h dX4_begun_62 hl rfl rfl (by decide) (fun _ => rfl) (fun x7 ls h hl => ?_)
          refine i_goto (tgt := 36) C dX4_begun_65 (by decide) ?_
          exact ih _ _ _ _ _ h (lv_sub hl [1, 2, 3, 4, 0] rfl) hX
        refine i_if_eq (tgt := 62) C h dX4_begun_56 (by decide) (fun _ h => ?_) (fun _ h => ?_)
        · exact J1 _ h _ _ _ (lv_sub hl [0, 1, 2, 3, 4] rfl) hX
        refine i_iinc C (j := 3) (fun x8 => [(4, .int x8), (0, .ref (G.2.1 0)), (1, .int p1), (2, .int p2), (5, .int x4)]) h dX4_begun_59 hl rfl rfl (by decide) (fun _ => rfl) (fun x8 ls h hl => ?_)
        exact J1 _ h _ _ _ (lv_sub hl [1, 2, 3, 0, 4] rfl) hX
    exact L1 FU _ _ _ _ _ h (lv_sub hl [3, 4, 5, 1, 0] rfl) hX
  refine i_iload_n C dX4_begun_14 rfl (lv_at hl 0 rfl) ?_
  exact x_iretW C hX hr hQ h dX4_begun_15
def L_X4_from_33 (p1 : Int32) (p2 : Int32) (m2 : MM) : Nat → Int32 → Option (Int32 × MM)
  | 0, _ => none
  | fu + 1, x3 => if 100 ≤ x3 then (bdw (f_X4_finding (-1000004) m2) fun x4 m3 => some (x4, m3)) else (ldq 4 p1 fun j2 => bdr (f_X4_goesAsTold (26 + 2 * j2) p2 x3 m2) fun x5 => if x5 = 0 then (lt_ (x3 + 1) fun x6 => L_X4_from_33 p1 p2 m2 fu x6) else (some (x3, m2)))
def f_X4_from (p1 : Int32) (p2 : Int32) (μ : MM) : Option (Int32 × MM) := bdr (f_X4_isShip p2) fun x1 => bdw (f_X4_wrongLog p1 x1 μ) fun x2 m1 => if x2 = 0 then (ldq 4 p1 fun j1 => bdr (f_X4_readAhead p2 (m1 (26 + 2 * j1) 1) m1) fun m2 => L_X4_from_33 p1 p2 m2 FU 0) else (some (x2, m1))
theorem nd_X4_from : yX4_from.cls ≠ "java/lang/invoke/MethodHandle" ∧ yX4_from.cls ≠ "java/lang/invoke/VarHandle" ∧ (parseMethodDescriptor yX4_from.desc).map (fun d => d.parameters.length) = some 2 := by decide +kernel
set_option maxHeartbeats 4000000 in
set_option maxRecDepth 100000 in
theorem c_X4_from (l : Launch) (G : EN)  {p1 p2 : Int32} {μ : MM} {r : Int32} {m : MM} (h : f_X4_from p1 p2 μ = some (r, m)) : XM l G yX4_from cX4_from 5 (some .int) 4 99 [.ref (G.2.1 0), .int p1, .int p2] μ (some (.int r)) m := by
  refine x_met (own := RX4) (by decide +kernel) rfl (Nat.le_of_ble_eq_true rfl) (fun Γ A H ls hg C hr hX hQ hl => ?_)
  have hl : lv_has ls 5 [(0, .ref (G.2.1 0)), (1, .int p1), (2, .int p2)] := hl
  unfold f_X4_from at h
  refine i_aload_n C dX4_from_0 rfl (lv_at hl 0 rfl) ?_
  refine i_iload_n C dX4_from_1 rfl (lv_at hl 1 rfl) ?_
  refine i_iload_n C dX4_from_2 rfl (lv_at hl 2 rfl) ?_
  obtain ⟨x1, e1, h⟩ := w_bdr h
  refine x_callSi C hX (c_X4_isShip (gl Γ) G  e1) [.int p1, .ref (G.2.1 0)] rfl hl tw2_4 tw2_5 tw1_1 tw2_6 nd_X4_isShip ⟨(Nat.le_of_ble_eq_true rfl), (Nat.le_of_ble_eq_true rfl)⟩ (Nat.le_of_ble_eq_true rfl) dX4_from_3 (fun H locs hX => ?_)
  obtain ⟨x2, m1, e2, h⟩ := w_bdw h
  refine x_callVi C hX (fg_0_0 G) (c_X4_wrongLog (gl Γ) G  e2) [] rfl hl tw2_237 tw2_239 ts1_11 tw1_1 tw3_0 rfl nd_X4_wrongLog ⟨(Nat.le_of_ble_eq_true rfl), (Nat.le_of_ble_eq_true rfl)⟩ (Nat.le_of_ble_eq_true rfl) dX4_from_6 (fun H locs hX => ?_)
  refine i_istore_n C [(3, .int x2), (0, .ref (G.2.1 0)), (1, .int p1), (2, .int p2)] dX4_from_9 rfl hl (by decide) rfl (fun ls hl => ?_)
  refine i_iload_n C dX4_from_10 rfl (lv_at hl 0 rfl) ?_
  refine i_if_eq (tgt := 16) C h dX4_from_11 (by decide) (fun _ h => ?_) (fun _ h => ?_)
  · refine i_aload_n C dX4_from_16 rfl (lv_at hl 1 rfl) ?_
    refine i_iload_n C dX4_from_17 rfl (lv_at hl 3 rfl) ?_
    refine i_aload_n C dX4_from_18 rfl (lv_at hl 1 rfl) ?_
    refine x_get C hX (fg_0_5 G) tw1_171 dX4_from_19 ?_
    refine i_iload_n C dX4_from_22 rfl (lv_at hl 2 rfl) ?_
    refine x_aald C hX (aq_25 G) rfl h dX4_from_23 (fun j1 hj1 h => ?_)
    refine x_get C hX (fg_S_1 G (iS_of hj1)) tw1_156 dX4_from_24 ?_
    obtain ⟨m2, e3, h⟩ := w_bdr h
    refine x_callVv C hX (fg_0_0 G) (c_X4_readAhead (gl Γ) G  e3) [] rfl hl tw2_154 tw2_156 ts1_5 tw1_1 tw2_157 rfl nd_X4_readAhead ⟨(Nat.le_of_ble_eq_true rfl), (Nat.le_of_ble_eq_true rfl)⟩ (Nat.le_of_ble_eq_true rfl) dX4_from_27 (fun H locs hX => ?_)
    refine i_iconst (v := 0) C dX4_from_30 rfl ?_
    refine i_istore C [(4, .int 0), (3, .int x2), (0, .ref (G.2.1 0)), (1, .int p1), (2, .int p2)] dX4_from_31 hl (by decide) rfl (fun ls hl => ?_)
    have L1 : ∀ (fu : Nat) (x3 : Int32) (H : Heap) (locs : List Loc) (ls : Array Slot), L_X4_from_33 p1 p2 m2 fu x3 = some (r, m) → lv_has ls 5 [(0, .ref (G.2.1 0)), (1, .int p1), (2, .int p2), (4, .int x3)] → XW G A (gs Γ) H locs m2 → WX Γ H locs 33 ls [] := by
      intro fu
      induction fu with
      | zero =>
        intro x3 H locs ls h
        rw [L_X4_from_33] at h
        cases h
      | succ fu ih =>
        intro x3 H locs ls h hl hX
        rw [L_X4_from_33] at h
        refine i_iload C dX4_from_33 (lv_at hl 3 rfl) ?_
        refine i_bipush (v := 100) C dX4_from_35 rfl ?_
        refine i_icmp_ge (tgt := 65) C h dX4_from_37 (by decide) (fun _ h => ?_) (fun _ h => ?_)
        · refine i_aload_n C dX4_from_65 rfl (lv_at hl 0 rfl) ?_
          refine i_ldc C tw2_126 dX4_from_66 ?_
          obtain ⟨x4, m3, e4, h⟩ := w_bdw h
          refine x_callVi C hX (fg_0_0 G) (c_X4_finding (gl Γ) G  e4) [] rfl hl tw1_205 tw1_207 ts1_0 tw1_1 tw1_208 rfl nd_X4_finding ⟨(Nat.le_of_ble_eq_true rfl), (Nat.le_of_ble_eq_true rfl)⟩ (Nat.le_of_ble_eq_true rfl) dX4_from_68 (fun H locs hX => ?_)
          exact x_iretW C hX hr hQ h dX4_from_71
        refine i_aload_n C dX4_from_40 rfl (lv_at hl 0 rfl) ?_
        refine i_aload_n C dX4_from_41 rfl (lv_at hl 0 rfl) ?_
        refine x_get C hX (fg_0_5 G) tw1_171 dX4_from_42 ?_
        refine i_iload_n C dX4_from_45 rfl (lv_at hl 1 rfl) ?_
        refine x_aald C hX (aq_25 G) rfl h dX4_from_46 (fun j2 hj2 h => ?_)
        refine i_iload_n C dX4_from_47 rfl (lv_at hl 2 rfl) ?_
        refine i_iload C dX4_from_48 (lv_at hl 3 rfl) ?_
        obtain ⟨x5, e5, h⟩ := w_bdr h
        refine x_callVi C hX (fg_0_0 G) (c_X4_goesAsTold (gl Γ) G (iS_of hj2) e5) [] rfl hl tw3_26 tw3_28 ts1_14 tw1_1 tw3_29 rfl nd_X4_goesAsTold ⟨(Nat.le_of_ble_eq_true rfl), (Nat.le_of_ble_eq_true rfl)⟩ (Nat.le_of_ble_eq_true rfl) dX4_from_50 (fun H locs hX => ?_)
        refine i_if_eq (tgt := 59) C h dX4_from_53 (by decide) (fun _ h => ?_) (fun _ h => ?_)
        · refine i_iinc C (j := 3) (fun x6 => [(4, .int x6), (0, .ref (G.2.1 0)), (1, .int p1), (2, .int p2)]) h dX4_from_59 hl rfl rfl (by decide) (fun _ => rfl) (fun x6 ls h hl => ?_)
          refine i_goto (tgt := 33) C dX4_from_62 (by decide) ?_
          exact ih _ _ _ _ h (lv_sub hl [1, 2, 3, 0] rfl) hX
        refine i_iload C dX4_from_56 (lv_at hl 3 rfl) ?_
        exact x_iretW C hX hr hQ h dX4_from_58
    exact L1 FU _ _ _ _ h (lv_sub hl [2, 3, 4, 0] rfl) hX
  refine i_iload_n C dX4_from_14 rfl (lv_at hl 0 rfl) ?_
  exact x_iretW C hX hr hQ h dX4_from_15
def f_X0_draw (μ : MM) : Option (Int32 × MM) := lt_ (wst μ 1 12 (((μ 1 12) * 1103515245) + 12345)) fun m1 => some ((ur (m1 1 12) 8), m1)
theorem nd_X0_draw : yX0_draw.cls ≠ "java/lang/invoke/MethodHandle" ∧ yX0_draw.cls ≠ "java/lang/invoke/VarHandle" ∧ (parseMethodDescriptor yX0_draw.desc).map (fun d => d.parameters.length) = some 0 := by decide +kernel
set_option maxHeartbeats 4000000 in
set_option maxRecDepth 100000 in
theorem c_X0_draw (l : Launch) (G : EN)  {μ : MM} {r : Int32} {m : MM} (h : f_X0_draw μ = some (r, m)) : XM l G yX0_draw cX0_draw 1 (some .int) 0 0 [.ref (G.2.1 1)] μ (some (.int r)) m := by
  refine x_met (own := RX0) (by decide +kernel) rfl (Nat.le_of_ble_eq_true rfl) (fun Γ A H ls hg C hr hX hQ hl => ?_)
  have hl : lv_has ls 1 [(0, .ref (G.2.1 1))] := hl
  unfold f_X0_draw at h
  refine i_aload_n C dX0_draw_0 rfl (lv_at hl 0 rfl) ?_
  refine i_aload_n C dX0_draw_1 rfl (lv_at hl 0 rfl) ?_
  refine x_get C hX (fg_1_12 G) tw1_64 dX0_draw_2 ?_
  refine i_ldc C tw3_46 dX0_draw_5 ?_
  refine i_imul C dX0_draw_7 ?_
  refine i_sipush (v := 12345) C dX0_draw_8 rfl ?_
  refine i_iadd C dX0_draw_11 ?_
  refine x_putI C hX (fp_1_12 G) h tw1_64 dX0_draw_12 (fun H locs m1 h hX => ?_)
  refine i_aload_n C dX0_draw_15 rfl (lv_at hl 0 rfl) ?_
  refine x_get C hX (fg_1_12 G) tw1_64 dX0_draw_16 ?_
  refine i_bipush (v := 8) C dX0_draw_19 rfl ?_
  refine i_iushr C dX0_draw_21 ?_
  exact x_iretW C hX hr hQ h dX0_draw_22
def L_X0_passStorm_2 : Nat → Int32 → MM → Option MM
  | 0, _, _ => none
  | fu + 1, x1, m1 => if 4 ≤ x1 then (bdr (f_X0_passWatch m1) fun m2 => some m2) else (bdr (f_X0_isLanded x1 m1) fun x2 => jn1 (fun (m3 : MM) => lt_ (x1 + 1) fun x3 => L_X0_passStorm_2 fu x3 m3) fun k1 => if x2 = 0 then (ldi m1 5 4 x1 fun x4 => bdw (f_X0_draw m1) fun x5 m4 => bdr (f_X4_beside x4 (irm x5 8)) fun x6 => sti m4 5 4 x1 x6 fun m5 => k1 m5) else (k1 m1))
def f_X0_passStorm (μ : MM) : Option MM := L_X0_passStorm_2 FU 0 μ
theorem nd_X0_passStorm : yX0_passStorm.cls ≠ "java/lang/invoke/MethodHandle" ∧ yX0_passStorm.cls ≠ "java/lang/invoke/VarHandle" ∧ (parseMethodDescriptor yX0_passStorm.desc).map (fun d => d.parameters.length) = some 0 := by decide +kernel
set_option maxHeartbeats 4000000 in
set_option maxRecDepth 100000 in
theorem c_X0_passStorm (l : Launch) (G : EN)  {μ : MM} {r : MM} (h : f_X0_passStorm μ = some r) : XM l G yX0_passStorm cX0_passStorm 2 none 5 120 [.ref (G.2.1 1)] μ none r := by
  refine x_met (own := RX0) (by decide +kernel) rfl (Nat.le_of_ble_eq_true rfl) (fun Γ A H ls hg C hr hX hQ hl => ?_)
  have hl : lv_has ls 2 [(0, .ref (G.2.1 1))] := hl
  unfold f_X0_passStorm at h
  refine i_iconst (v := 0) C dX0_passStorm_0 rfl ?_
  refine i_istore_n C [(1, .int 0), (0, .ref (G.2.1 1))] dX0_passStorm_1 rfl hl (by decide) rfl (fun ls hl => ?_)
  have L1 : ∀ (fu : Nat) (x1 : Int32) (m1 : MM) (H : Heap) (locs : List Loc) (ls : Array Slot), L_X0_passStorm_2 fu x1 m1 = some r → lv_has ls 2 [(0, .ref (G.2.1 1)), (1, .int x1)] → XW G A (gs Γ) H locs m1 → WX Γ H locs 2 ls [] := by
    intro fu
    induction fu with
    | zero =>
      intro x1 m1 H locs ls h
      rw [L_X0_passStorm_2] at h
      cases h
    | succ fu ih =>
      intro x1 m1 H locs ls h hl hX
      rw [L_X0_passStorm_2] at h
      refine i_iload_n C dX0_passStorm_2 rfl (lv_at hl 1 rfl) ?_
      refine i_iconst (v := 4) C dX0_passStorm_3 rfl ?_
      refine i_icmp_ge (tgt := 43) C h dX0_passStorm_4 (by decide) (fun _ h => ?_) (fun _ h => ?_)
      · refine i_aload_n C dX0_passStorm_43 rfl (lv_at hl 0 rfl) ?_
        obtain ⟨m2, e1, h⟩ := w_bdr h
        refine x_callVv C hX (fg_1_0 G) (c_X0_passWatch (gl Γ) G  e1) [] rfl hl tw3_47 tw2_79 tw2_80 tw1_2 tw2_81 rfl nd_X0_passWatch ⟨(Nat.le_of_ble_eq_true rfl), (Nat.le_of_ble_eq_true rfl)⟩ (Nat.le_of_ble_eq_true rfl) dX0_passStorm_44 (fun H locs hX => ?_)
        exact x_vretV C hX hr hQ h dX0_passStorm_47
      refine i_aload_n C dX0_passStorm_7 rfl (lv_at hl 0 rfl) ?_
      refine i_iload_n C dX0_passStorm_8 rfl (lv_at hl 1 rfl) ?_
      obtain ⟨x2, e2, h⟩ := w_bdr h
      refine x_callVi C hX (fg_1_0 G) (c_X0_isLanded (gl Γ) G  e2) [] rfl hl tw2_87 tw2_41 tw2_42 tw1_2 tw2_43 rfl nd_X0_isLanded ⟨(Nat.le_of_ble_eq_true rfl), (Nat.le_of_ble_eq_true rfl)⟩ (Nat.le_of_ble_eq_true rfl) dX0_passStorm_9 (fun H locs hX => ?_)
      refine w_jn1 (fun (m3 : MM) => ∀ (H : Heap) (locs : List Loc) (ls : Array Slot), lv_has ls 2 [(0, .ref (G.2.1 1)), (1, .int x1)] → XW G A (gs Γ) H locs m3 → WX Γ H locs 37 ls []) h (fun m3 h H locs ls hl hX => ?_) (fun k1 J1 h => ?_)
      · refine i_iinc C (j := 1) (fun x3 => [(1, .int x3), (0, .ref (G.2.1 1))]) h dX0_passStorm_37 hl rfl rfl (by decide) (fun _ => rfl) (fun x3 ls h hl => ?_)
        refine i_goto (tgt := 2) C dX0_passStorm_40 (by decide) ?_
        exact ih _ _ _ _ _ h (lv_sub hl [1, 0] rfl) hX
      refine i_if_ne (tgt := 37) C h dX0_passStorm_12 (by decide) (fun _ h => ?_) (fun _ h => ?_)
      · exact J1 _ h _ _ _ (lv_sub hl [0, 1] rfl) hX
      refine i_aload_n C dX0_passStorm_15 rfl (lv_at hl 0 rfl) ?_
      refine x_get C hX (fg_1_4 G) tw1_41 dX0_passStorm_16 ?_
      refine i_iload_n C dX0_passStorm_19 rfl (lv_at hl 1 rfl) ?_
      refine i_aload_n C dX0_passStorm_20 rfl (lv_at hl 0 rfl) ?_
      refine x_get C hX (fg_1_4 G) tw1_41 dX0_passStorm_21 ?_
      refine i_iload_n C dX0_passStorm_24 rfl (lv_at hl 1 rfl) ?_
      refine x_iald C hX (ai_5 G) h dX0_passStorm_25 (fun x4 h => ?_)
      refine i_aload_n C dX0_passStorm_26 rfl (lv_at hl 0 rfl) ?_
      obtain ⟨x5, m4, e3, h⟩ := w_bdw h
      refine x_callVi C hX (fg_1_0 G) (c_X0_draw (gl Γ) G  e3) [.int x4, .int x1, .ref (G.2.1 5)] rfl hl tw3_42 tw3_43 tw3_44 tw1_2 tw3_45 rfl nd_X0_draw ⟨(Nat.le_of_ble_eq_true rfl), (Nat.le_of_ble_eq_true rfl)⟩ (Nat.le_of_ble_eq_true rfl) dX0_passStorm_27 (fun H locs hX => ?_)
      refine i_bipush (v := 8) C dX0_passStorm_30 rfl ?_
      refine i_iremc C dX0_passStorm_32 (by decide) ?_
      obtain ⟨x6, e4, h⟩ := w_bdr h
      refine x_callSNi C hX (c_X4_beside (gl Γ) G  e4) [.int x1, .ref (G.2.1 5)] rfl hl hX.2.2.2.1.2.1.2.2.2.1 tw2_34 tw1_1 tw2_35 nd_X4_beside ⟨(Nat.le_of_ble_eq_true rfl), (Nat.le_of_ble_eq_true rfl)⟩ (Nat.le_of_ble_eq_true rfl) dX0_passStorm_33 (fun H locs hX => ?_)
      refine x_iast C hX (ai_5 G) h dX0_passStorm_36 (fun H locs m5 h hX => ?_)
      exact J1 _ h _ _ _ (lv_sub hl [0, 1] rfl) hX
  exact L1 FU _ _ _ _ _ h (lv_sub hl [1, 0] rfl) hX
def L_X4_storms_40 (p1 : Int32) (k1 : MM → Option (Int32 × MM)) : Nat → Int32 → MM → Option (Int32 × MM)
  | 0, _, _ => none
  | fu + 1, x4, m2 => if p1 ≤ x4 then (k1 m2) else (bdr (f_X0_passStorm m2) fun m3 => lt_ (x4 + 1) fun x5 => L_X4_storms_40 p1 k1 fu x5 m3)
def f_X4_storms (p1 : Int32) (μ : MM) : Option (Int32 × MM) := bdr (f_X4_isWithin p1 1 20) fun x1 => if x1 = 0 then (bdw (f_X4_finding (-1000001) μ) fun x7 m5 => some (x7, m5)) else (if (μ 1 11) ≤ (99999 - p1) then (jn1 (fun (m1 : MM) => bdr (f_X0_landedShips m1) fun x2 => bdr (f_J6_bitCount_0f7a4 x2) fun x3 => some (x3, m1)) fun k1 => L_X4_storms_40 p1 k1 FU 0 μ) else (bdw (f_X4_finding (-1000005) μ) fun x6 m4 => some (x6, m4)))
theorem nd_X4_storms : yX4_storms.cls ≠ "java/lang/invoke/MethodHandle" ∧ yX4_storms.cls ≠ "java/lang/invoke/VarHandle" ∧ (parseMethodDescriptor yX4_storms.desc).map (fun d => d.parameters.length) = some 1 := by decide +kernel
set_option maxHeartbeats 4000000 in
set_option maxRecDepth 100000 in
theorem c_X4_storms (l : Launch) (G : EN)  {p1 : Int32} {μ : MM} {r : Int32} {m : MM} (h : f_X4_storms p1 μ = some (r, m)) : XM l G yX4_storms cX4_storms 3 (some .int) 6 141 [.ref (G.2.1 0), .int p1] μ (some (.int r)) m := by
  refine x_met (own := RX4) (by decide +kernel) rfl (Nat.le_of_ble_eq_true rfl) (fun Γ A H ls hg C hr hX hQ hl => ?_)
  have hl : lv_has ls 3 [(0, .ref (G.2.1 0)), (1, .int p1)] := hl
  unfold f_X4_storms at h
  refine i_iload_n C dX4_storms_0 rfl (lv_at hl 1 rfl) ?_
  refine i_iconst (v := 1) C dX4_storms_1 rfl ?_
  refine i_bipush (v := 20) C dX4_storms_2 rfl ?_
  obtain ⟨x1, e1, h⟩ := w_bdr h
  refine x_callSi C hX (c_X4_isWithin (gl Γ) G  e1) [] rfl hl tw1_201 tw1_202 tw1_1 tw1_203 nd_X4_isWithin ⟨(Nat.le_of_ble_eq_true rfl), (Nat.le_of_ble_eq_true rfl)⟩ (Nat.le_of_ble_eq_true rfl) dX4_storms_4 (fun H locs hX => ?_)
  refine i_if_ne (tgt := 17) C h dX4_storms_7 (by decide) (fun _ h => ?_) (fun _ h => ?_)
  · refine i_aload_n C dX4_storms_17 rfl (lv_at hl 0 rfl) ?_
    refine x_get C hX (fg_0_0 G) tw1_166 dX4_storms_18 ?_
    refine x_get C hX (fg_1_11 G) tw1_63 dX4_storms_21 ?_
    refine i_ldc C tw2_76 dX4_storms_24 ?_
    refine i_iload_n C dX4_storms_26 rfl (lv_at hl 1 rfl) ?_
    refine i_isub C dX4_storms_27 ?_
    refine i_icmp_le (tgt := 38) C h dX4_storms_28 (by decide) (fun _ h => ?_) (fun _ h => ?_)
    · refine i_iconst (v := 0) C dX4_storms_38 rfl ?_
      refine i_istore_n C [(2, .int 0), (0, .ref (G.2.1 0)), (1, .int p1)] dX4_storms_39 rfl hl (by decide) rfl (fun ls hl => ?_)
      refine w_jn1 (fun (m1 : MM) => ∀ (H : Heap) (locs : List Loc) (ls : Array Slot), lv_has ls 3 [(0, .ref (G.2.1 0))] → XW G A (gs Γ) H locs m1 → WX Γ H locs 58 ls []) h (fun m1 h H locs ls hl hX => ?_) (fun k1 J1 h => ?_)
      · refine i_aload_n C dX4_storms_58 rfl (lv_at hl 0 rfl) ?_
        refine x_get C hX (fg_0_0 G) tw1_166 dX4_storms_59 ?_
        obtain ⟨x2, e2, h⟩ := w_bdr h
        refine x_callVi C hX (fg_1_0 G) (c_X0_landedShips (gl Γ) G  e2) [] rfl hl tw2_83 tw2_84 tw2_85 tw1_2 tw2_86 rfl nd_X0_landedShips ⟨(Nat.le_of_ble_eq_true rfl), (Nat.le_of_ble_eq_true rfl)⟩ (Nat.le_of_ble_eq_true rfl) dX4_storms_62 (fun H locs hX => ?_)
        obtain ⟨x3, e3, h⟩ := w_bdr h
        refine x_callSi C hX (c_J6_bitCount_0f7a4 (gl Γ) G  e3) [] rfl hl tw2_88 tw2_89 tw1_9 tw2_90 nd_J6_bitCount_0f7a4 ⟨(Nat.le_of_ble_eq_true rfl), (Nat.le_of_ble_eq_true rfl)⟩ (Nat.le_of_ble_eq_true rfl) dX4_storms_65 (fun H locs hX => ?_)
        exact x_iretW C hX hr hQ h dX4_storms_68
      have L1 : ∀ (fu : Nat) (x4 : Int32) (m2 : MM) (H : Heap) (locs : List Loc) (ls : Array Slot), L_X4_storms_40 p1 k1 fu x4 m2 = some (r, m) → lv_has ls 3 [(0, .ref (G.2.1 0)), (1, .int p1), (2, .int x4)] → XW G A (gs Γ) H locs m2 → WX Γ H locs 40 ls [] := by
        intro fu
        induction fu with
        | zero =>
          intro x4 m2 H locs ls h
          rw [L_X4_storms_40] at h
          cases h
        | succ fu ih =>
          intro x4 m2 H locs ls h hl hX
          rw [L_X4_storms_40] at h
          refine i_iload_n C dX4_storms_40 rfl (lv_at hl 2 rfl) ?_
          refine i_iload_n C dX4_storms_41 rfl (lv_at hl 1 rfl) ?_
          refine i_icmp_ge (tgt := 58) C h dX4_storms_42 (by decide) (fun _ h => ?_) (fun _ h => ?_)
          · exact J1 _ h _ _ _ (lv_sub hl [0] rfl) hX
          refine i_aload_n C dX4_storms_45 rfl (lv_at hl 0 rfl) ?_
          refine x_get C hX (fg_0_0 G) tw1_166 dX4_storms_46 ?_
          obtain ⟨m3, e4, h⟩ := w_bdr h
          refine x_callVv C hX (fg_1_0 G) (c_X0_passStorm (gl Γ) G  e4) [] rfl hl tw3_38 tw3_39 tw3_40 tw1_2 tw3_41 rfl nd_X0_passStorm ⟨(Nat.le_of_ble_eq_true rfl), (Nat.le_of_ble_eq_true rfl)⟩ (Nat.le_of_ble_eq_true rfl) dX4_storms_49 (fun H locs hX => ?_)
          refine i_iinc C (j := 2) (fun x5 => [(2, .int x5), (0, .ref (G.2.1 0)), (1, .int p1)]) h dX4_storms_52 hl rfl rfl (by decide) (fun _ => rfl) (fun x5 ls h hl => ?_)
          refine i_goto (tgt := 40) C dX4_storms_55 (by decide) ?_
          exact ih _ _ _ _ _ h (lv_sub hl [1, 2, 0] rfl) hX
      exact L1 FU _ _ _ _ _ h (lv_sub hl [1, 2, 0] rfl) hX
    refine i_aload_n C dX4_storms_31 rfl (lv_at hl 0 rfl) ?_
    refine i_ldc C tw2_77 dX4_storms_32 ?_
    obtain ⟨x6, m4, e5, h⟩ := w_bdw h
    refine x_callVi C hX (fg_0_0 G) (c_X4_finding (gl Γ) G  e5) [] rfl hl tw1_205 tw1_207 ts1_0 tw1_1 tw1_208 rfl nd_X4_finding ⟨(Nat.le_of_ble_eq_true rfl), (Nat.le_of_ble_eq_true rfl)⟩ (Nat.le_of_ble_eq_true rfl) dX4_storms_34 (fun H locs hX => ?_)
    exact x_iretW C hX hr hQ h dX4_storms_37
  refine i_aload_n C dX4_storms_10 rfl (lv_at hl 0 rfl) ?_
  refine i_ldc C tw1_204 dX4_storms_11 ?_
  obtain ⟨x7, m5, e6, h⟩ := w_bdw h
  refine x_callVi C hX (fg_0_0 G) (c_X4_finding (gl Γ) G  e6) [] rfl hl tw1_205 tw1_207 ts1_0 tw1_1 tw1_208 rfl nd_X4_finding ⟨(Nat.le_of_ble_eq_true rfl), (Nat.le_of_ble_eq_true rfl)⟩ (Nat.le_of_ble_eq_true rfl) dX4_storms_13 (fun H locs hX => ?_)
  exact x_iretW C hX hr hQ h dX4_storms_16
def L_X0_drivesThatLand_15 (p1 : Int32) (μ : MM) : Nat → Int32 → Int32 → Option Int32
  | 0, _, _ => none
  | fu + 1, x2, x3 => if 8 ≤ x3 then (some x2) else (ldi μ 5 4 p1 fun x4 => bdr (f_X4_beside x4 x3) fun x5 => ldi μ 8 100 x5 fun x6 => jn1 (fun (x7 : Int32) => lt_ (x3 + 1) fun x8 => L_X0_drivesThatLand_15 p1 μ fu x7 x8) fun k1 => if x6 = 0 then (k1 x2) else (lt_ (x2 + 1) fun x9 => k1 x9))
def f_X0_drivesThatLand (p1 : Int32) (μ : MM) : Option Int32 := bdr (f_X0_isLanded p1 μ) fun x1 => if x1 = 0 then (L_X0_drivesThatLand_15 p1 μ FU 0 0) else (some 8)
theorem nd_X0_drivesThatLand : yX0_drivesThatLand.cls ≠ "java/lang/invoke/MethodHandle" ∧ yX0_drivesThatLand.cls ≠ "java/lang/invoke/VarHandle" ∧ (parseMethodDescriptor yX0_drivesThatLand.desc).map (fun d => d.parameters.length) = some 1 := by decide +kernel
set_option maxHeartbeats 4000000 in
set_option maxRecDepth 100000 in
theorem c_X0_drivesThatLand (l : Launch) (G : EN)  {p1 : Int32} {μ : MM} {r : Int32} (h : f_X0_drivesThatLand p1 μ = some r) : XM l G yX0_drivesThatLand cX0_drivesThatLand 4 (some .int) 2 45 [.ref (G.2.1 1), .int p1] μ (some (.int r)) μ := by
  refine x_met (own := RX0) (by decide +kernel) rfl (Nat.le_of_ble_eq_true rfl) (fun Γ A H ls hg C hr hX hQ hl => ?_)
  have hl : lv_has ls 4 [(0, .ref (G.2.1 1)), (1, .int p1)] := hl
  unfold f_X0_drivesThatLand at h
  refine i_aload_n C dX0_drivesThatLand_0 rfl (lv_at hl 0 rfl) ?_
  refine i_iload_n C dX0_drivesThatLand_1 rfl (lv_at hl 1 rfl) ?_
  obtain ⟨x1, e1, h⟩ := w_bdr h
  refine x_callVi C hX (fg_1_0 G) (c_X0_isLanded (gl Γ) G  e1) [] rfl hl tw2_87 tw2_41 tw2_42 tw1_2 tw2_43 rfl nd_X0_isLanded ⟨(Nat.le_of_ble_eq_true rfl), (Nat.le_of_ble_eq_true rfl)⟩ (Nat.le_of_ble_eq_true rfl) dX0_drivesThatLand_2 (fun H locs hX => ?_)
  refine i_if_eq (tgt := 11) C h dX0_drivesThatLand_5 (by decide) (fun _ h => ?_) (fun _ h => ?_)
  · refine i_iconst (v := 0) C dX0_drivesThatLand_11 rfl ?_
    refine i_istore_n C [(2, .int 0), (0, .ref (G.2.1 1)), (1, .int p1)] dX0_drivesThatLand_12 rfl hl (by decide) rfl (fun ls hl => ?_)
    refine i_iconst (v := 0) C dX0_drivesThatLand_13 rfl ?_
    refine i_istore_n C [(3, .int 0), (2, .int 0), (0, .ref (G.2.1 1)), (1, .int p1)] dX0_drivesThatLand_14 rfl hl (by decide) rfl (fun ls hl => ?_)
    have L1 : ∀ (fu : Nat) (x2 : Int32) (x3 : Int32) (H : Heap) (locs : List Loc) (ls : Array Slot), L_X0_drivesThatLand_15 p1 μ fu x2 x3 = some r → lv_has ls 4 [(0, .ref (G.2.1 1)), (1, .int p1), (2, .int x2), (3, .int x3)] → XW G A (gs Γ) H locs μ → WX Γ H locs 15 ls [] := by
      intro fu
      induction fu with
      | zero =>
        intro x2 x3 H locs ls h
        rw [L_X0_drivesThatLand_15] at h
        cases h
      | succ fu ih =>
        intro x2 x3 H locs ls h hl hX
        rw [L_X0_drivesThatLand_15] at h
        refine i_iload_n C dX0_drivesThatLand_15 rfl (lv_at hl 3 rfl) ?_
        refine i_bipush (v := 8) C dX0_drivesThatLand_16 rfl ?_
        refine i_icmp_ge (tgt := 48) C h dX0_drivesThatLand_18 (by decide) (fun _ h => ?_) (fun _ h => ?_)
        · refine i_iload_n C dX0_drivesThatLand_48 rfl (lv_at hl 2 rfl) ?_
          exact x_iretR C hX hr hQ h dX0_drivesThatLand_49
        refine i_aload_n C dX0_drivesThatLand_21 rfl (lv_at hl 0 rfl) ?_
        refine x_get C hX (fg_1_7 G) tw1_50 dX0_drivesThatLand_22 ?_
        refine i_aload_n C dX0_drivesThatLand_25 rfl (lv_at hl 0 rfl) ?_
        refine x_get C hX (fg_1_4 G) tw1_41 dX0_drivesThatLand_26 ?_
        refine i_iload_n C dX0_drivesThatLand_29 rfl (lv_at hl 1 rfl) ?_
        refine x_iald C hX (ai_5 G) h dX0_drivesThatLand_30 (fun x4 h => ?_)
        refine i_iload_n C dX0_drivesThatLand_31 rfl (lv_at hl 3 rfl) ?_
        obtain ⟨x5, e2, h⟩ := w_bdr h
        refine x_callSNi C hX (c_X4_beside (gl Γ) G  e2) [.ref (G.2.1 8)] rfl hl hX.2.2.2.1.2.1.2.2.2.1 tw2_34 tw1_1 tw2_35 nd_X4_beside ⟨(Nat.le_of_ble_eq_true rfl), (Nat.le_of_ble_eq_true rfl)⟩ (Nat.le_of_ble_eq_true rfl) dX0_drivesThatLand_32 (fun H locs hX => ?_)
        refine x_zald C hX (az_8 G) h dX0_drivesThatLand_35 (fun x6 h => ?_)
        refine w_jn1 (fun (x7 : Int32) => ∀ (H : Heap) (locs : List Loc) (ls : Array Slot), lv_has ls 4 [(0, .ref (G.2.1 1)), (1, .int p1), (2, .int x7), (3, .int x3)] → XW G A (gs Γ) H locs μ → WX Γ H locs 42 ls []) h (fun x7 h H locs ls hl hX => ?_) (fun k1 J1 h => ?_)
        · refine i_iinc C (j := 3) (fun x8 => [(3, .int x8), (0, .ref (G.2.1 1)), (1, .int p1), (2, .int x7)]) h dX0_drivesThatLand_42 hl rfl rfl (by decide) (fun _ => rfl) (fun x8 ls h hl => ?_)
          refine i_goto (tgt := 15) C dX0_drivesThatLand_45 (by decide) ?_
          exact ih _ _ _ _ _ h (lv_sub hl [1, 2, 3, 0] rfl) hX
        refine i_if_eq (tgt := 42) C h dX0_drivesThatLand_36 (by decide) (fun _ h => ?_) (fun _ h => ?_)
        · exact J1 _ h _ _ _ (lv_sub hl [0, 1, 2, 3] rfl) hX
        refine i_iinc C (j := 2) (fun x9 => [(2, .int x9), (0, .ref (G.2.1 1)), (1, .int p1), (3, .int x3)]) h dX0_drivesThatLand_39 hl rfl rfl (by decide) (fun _ => rfl) (fun x9 ls h hl => ?_)
        exact J1 _ h _ _ _ (lv_sub hl [1, 2, 0, 3] rfl) hX
    exact L1 FU _ _ _ _ _ h (lv_sub hl [2, 3, 1, 0] rfl) hX
  refine i_bipush (v := 8) C dX0_drivesThatLand_8 rfl ?_
  exact x_iretR C hX hr hQ h dX0_drivesThatLand_10
def L_X4_odds_39 (k1 : Int32 → Int32 → Option (Int32 × MM)) : Nat → Int32 → Int32 → Int32 → Option (Int32 × MM)
  | 0, _, _, _ => none
  | fu + 1, x7, x8, x9 => if 3 ≤ x9 then (k1 x7 x8) else (if (irm x7 2) = 0 then (lt_ ((x7 / 2)) fun x10 => lt_ ((x8 / 2)) fun x11 => lt_ (x9 + 1) fun x12 => L_X4_odds_39 k1 fu x10 x11 x12) else (k1 x7 x8))
def f_X4_odds (p1 : Int32) (p2 : Int32) (μ : MM) : Option (Int32 × MM) := bdr (f_X4_isShip p1) fun x1 => if x1 = 0 then (bdw (f_X4_finding (-1000001) μ) fun x2 m1 => some (x2, m1)) else (bdr (f_X4_isWithin p2 0 1) fun x3 => if x3 = 0 then (bdw (f_X4_finding (-1000001) μ) fun x13 m2 => some (x13, m2)) else (bdr (f_X0_drivesThatLand p1 μ) fun x4 => jn2 (fun (x5 : Int32) (x6 : Int32) => if p2 = 0 then (some (x5, μ)) else (some (x6, μ))) fun k1 => L_X4_odds_39 k1 FU x4 8 0))
theorem nd_X4_odds : yX4_odds.cls ≠ "java/lang/invoke/MethodHandle" ∧ yX4_odds.cls ≠ "java/lang/invoke/VarHandle" ∧ (parseMethodDescriptor yX4_odds.desc).map (fun d => d.parameters.length) = some 2 := by decide +kernel
set_option maxHeartbeats 4000000 in
set_option maxRecDepth 100000 in
theorem c_X4_odds (l : Launch) (G : EN)  {p1 p2 : Int32} {μ : MM} {r : Int32} {m : MM} (h : f_X4_odds p1 p2 μ = some (r, m)) : XM l G yX4_odds cX4_odds 6 (some .int) 3 68 [.ref (G.2.1 0), .int p1, .int p2] μ (some (.int r)) m := by
  refine x_met (own := RX4) (by decide +kernel) rfl (Nat.le_of_ble_eq_true rfl) (fun Γ A H ls hg C hr hX hQ hl => ?_)
  have hl : lv_has ls 6 [(0, .ref (G.2.1 0)), (1, .int p1), (2, .int p2)] := hl
  unfold f_X4_odds at h
  refine i_iload_n C dX4_odds_0 rfl (lv_at hl 1 rfl) ?_
  obtain ⟨x1, e1, h⟩ := w_bdr h
  refine x_callSi C hX (c_X4_isShip (gl Γ) G  e1) [] rfl hl tw2_4 tw2_5 tw1_1 tw2_6 nd_X4_isShip ⟨(Nat.le_of_ble_eq_true rfl), (Nat.le_of_ble_eq_true rfl)⟩ (Nat.le_of_ble_eq_true rfl) dX4_odds_1 (fun H locs hX => ?_)
  refine i_if_eq (tgt := 16) C h dX4_odds_4 (by decide) (fun _ h => ?_) (fun _ h => ?_)
  · refine i_aload_n C dX4_odds_16 rfl (lv_at hl 0 rfl) ?_
    refine i_ldc C tw1_204 dX4_odds_17 ?_
    obtain ⟨x2, m1, e2, h⟩ := w_bdw h
    refine x_callVi C hX (fg_0_0 G) (c_X4_finding (gl Γ) G  e2) [] rfl hl tw1_205 tw1_207 ts1_0 tw1_1 tw1_208 rfl nd_X4_finding ⟨(Nat.le_of_ble_eq_true rfl), (Nat.le_of_ble_eq_true rfl)⟩ (Nat.le_of_ble_eq_true rfl) dX4_odds_19 (fun H locs hX => ?_)
    exact x_iretW C hX hr hQ h dX4_odds_22
  refine i_iload_n C dX4_odds_7 rfl (lv_at hl 2 rfl) ?_
  refine i_iconst (v := 0) C dX4_odds_8 rfl ?_
  refine i_iconst (v := 1) C dX4_odds_9 rfl ?_
  obtain ⟨x3, e3, h⟩ := w_bdr h
  refine x_callSi C hX (c_X4_isWithin (gl Γ) G  e3) [] rfl hl tw1_201 tw1_202 tw1_1 tw1_203 nd_X4_isWithin ⟨(Nat.le_of_ble_eq_true rfl), (Nat.le_of_ble_eq_true rfl)⟩ (Nat.le_of_ble_eq_true rfl) dX4_odds_10 (fun H locs hX => ?_)
  refine i_if_ne (tgt := 23) C h dX4_odds_13 (by decide) (fun _ h => ?_) (fun _ h => ?_)
  · refine i_aload_n C dX4_odds_23 rfl (lv_at hl 0 rfl) ?_
    refine x_get C hX (fg_0_0 G) tw1_166 dX4_odds_24 ?_
    refine i_iload_n C dX4_odds_27 rfl (lv_at hl 1 rfl) ?_
    obtain ⟨x4, e4, h⟩ := w_bdr h
    refine x_callVi C hX (fg_1_0 G) (c_X0_drivesThatLand (gl Γ) G  e4) [] rfl hl tw3_52 tw3_53 tw3_54 tw1_2 tw3_55 rfl nd_X0_drivesThatLand ⟨(Nat.le_of_ble_eq_true rfl), (Nat.le_of_ble_eq_true rfl)⟩ (Nat.le_of_ble_eq_true rfl) dX4_odds_28 (fun H locs hX => ?_)
    refine i_istore_n C [(3, .int x4), (0, .ref (G.2.1 0)), (1, .int p1), (2, .int p2)] dX4_odds_31 rfl hl (by decide) rfl (fun ls hl => ?_)
    refine i_bipush (v := 8) C dX4_odds_32 rfl ?_
    refine i_istore C [(4, .int 8), (3, .int x4), (0, .ref (G.2.1 0)), (1, .int p1), (2, .int p2)] dX4_odds_34 hl (by decide) rfl (fun ls hl => ?_)
    refine i_iconst (v := 0) C dX4_odds_36 rfl ?_
    refine i_istore C [(5, .int 0), (4, .int 8), (3, .int x4), (0, .ref (G.2.1 0)), (1, .int p1), (2, .int p2)] dX4_odds_37 hl (by decide) rfl (fun ls hl => ?_)
    refine w_jn2 (fun (x5 : Int32) (x6 : Int32) => ∀ (H : Heap) (locs : List Loc) (ls : Array Slot), lv_has ls 6 [(2, .int p2), (3, .int x5), (4, .int x6)] → XW G A (gs Γ) H locs μ → WX Γ H locs 67 ls []) h (fun x5 x6 h H locs ls hl hX => ?_) (fun k1 J1 h => ?_)
    · refine i_iload_n C dX4_odds_67 rfl (lv_at hl 0 rfl) ?_
      refine i_if_ne (tgt := 75) C h dX4_odds_68 (by decide) (fun _ h => ?_) (fun _ h => ?_)
      · refine i_iload C dX4_odds_75 (lv_at hl 2 rfl) ?_
        exact x_iretW C hX hr hQ h dX4_odds_77
      refine i_iload_n C dX4_odds_71 rfl (lv_at hl 1 rfl) ?_
      refine i_goto (tgt := 77) C dX4_odds_72 (by decide) ?_
      exact x_iretW C hX hr hQ h dX4_odds_77
    have L1 : ∀ (fu : Nat) (x7 : Int32) (x8 : Int32) (x9 : Int32) (H : Heap) (locs : List Loc) (ls : Array Slot), L_X4_odds_39 k1 fu x7 x8 x9 = some (r, m) → lv_has ls 6 [(2, .int p2), (3, .int x7), (4, .int x8), (5, .int x9)] → XW G A (gs Γ) H locs μ → WX Γ H locs 39 ls [] := by
      intro fu
      induction fu with
      | zero =>
        intro x7 x8 x9 H locs ls h
        rw [L_X4_odds_39] at h
        cases h
      | succ fu ih =>
        intro x7 x8 x9 H locs ls h hl hX
        rw [L_X4_odds_39] at h
        refine i_iload C dX4_odds_39 (lv_at hl 3 rfl) ?_
        refine i_iconst (v := 3) C dX4_odds_41 rfl ?_
        refine i_icmp_ge (tgt := 67) C h dX4_odds_42 (by decide) (fun _ h => ?_) (fun _ h => ?_)
        · exact J1 _ _ h _ _ _ (lv_sub hl [0, 1, 2] rfl) hX
        refine i_iload_n C dX4_odds_45 rfl (lv_at hl 1 rfl) ?_
        refine i_iconst (v := 2) C dX4_odds_46 rfl ?_
        refine i_iremc C dX4_odds_47 (by decide) ?_
        refine i_if_ne (tgt := 67) C h dX4_odds_48 (by decide) (fun _ h => ?_) (fun _ h => ?_)
        · exact J1 _ _ h _ _ _ (lv_sub hl [0, 1, 2] rfl) hX
        refine i_iload_n C dX4_odds_51 rfl (lv_at hl 1 rfl) ?_
        refine i_iconst (v := 2) C dX4_odds_52 rfl ?_
        refine i_idivc C dX4_odds_53 (by decide) ?_
        refine i_istoreL_n C (fun x10 => [(3, .int x10), (2, .int p2), (4, .int x8), (5, .int x9)]) h dX4_odds_54 rfl hl (by decide) (fun _ => rfl) (fun x10 ls h hl => ?_)
        refine i_iload C dX4_odds_55 (lv_at hl 2 rfl) ?_
        refine i_iconst (v := 2) C dX4_odds_57 rfl ?_
        refine i_idivc C dX4_odds_58 (by decide) ?_
        refine i_istoreL C (fun x11 => [(4, .int x11), (3, .int x10), (2, .int p2), (5, .int x9)]) h dX4_odds_59 hl (by decide) (fun _ => rfl) (fun x11 ls h hl => ?_)
        refine i_iinc C (j := 3) (fun x12 => [(5, .int x12), (4, .int x11), (3, .int x10), (2, .int p2)]) h dX4_odds_61 hl rfl rfl (by decide) (fun _ => rfl) (fun x12 ls h hl => ?_)
        refine i_goto (tgt := 39) C dX4_odds_64 (by decide) ?_
        exact ih _ _ _ _ _ _ h (lv_sub hl [3, 2, 1, 0] rfl) hX
    exact L1 FU _ _ _ _ _ _ h (lv_sub hl [5, 2, 1, 0] rfl) hX
  refine i_aload_n C dX4_odds_16 rfl (lv_at hl 0 rfl) ?_
  refine i_ldc C tw1_204 dX4_odds_17 ?_
  obtain ⟨x13, m2, e5, h⟩ := w_bdw h
  refine x_callVi C hX (fg_0_0 G) (c_X4_finding (gl Γ) G  e5) [] rfl hl tw1_205 tw1_207 ts1_0 tw1_1 tw1_208 rfl nd_X4_finding ⟨(Nat.le_of_ble_eq_true rfl), (Nat.le_of_ble_eq_true rfl)⟩ (Nat.le_of_ble_eq_true rfl) dX4_odds_19 (fun H locs hX => ?_)
  exact x_iretW C hX hr hQ h dX4_odds_22
def f_X4_drives (p1 : Int32) (μ : MM) : Option (Int64 × MM) := bdr (f_X4_isWithin p1 0 20) fun x1 => if x1 = 0 then (bdw (f_X4_finding (-1000001) μ) fun x2 m1 => some ((x2).toInt64, m1)) else (some ((lsl 1 (3 * p1)), μ))
theorem nd_X4_drives : yX4_drives.cls ≠ "java/lang/invoke/MethodHandle" ∧ yX4_drives.cls ≠ "java/lang/invoke/VarHandle" ∧ (parseMethodDescriptor yX4_drives.desc).map (fun d => d.parameters.length) = some 1 := by decide +kernel
set_option maxHeartbeats 4000000 in
set_option maxRecDepth 100000 in
theorem c_X4_drives (l : Launch) (G : EN)  {p1 : Int32} {μ : MM} {r : Int64} {m : MM} (h : f_X4_drives p1 μ = some (r, m)) : XM l G yX4_drives cX4_drives 2 (some .long) 1 22 [.ref (G.2.1 0), .int p1] μ (some (.long r)) m := by
  refine x_met (own := RX4) (by decide +kernel) rfl (Nat.le_of_ble_eq_true rfl) (fun Γ A H ls hg C hr hX hQ hl => ?_)
  have hl : lv_has ls 2 [(0, .ref (G.2.1 0)), (1, .int p1)] := hl
  unfold f_X4_drives at h
  refine i_iload_n C dX4_drives_0 rfl (lv_at hl 1 rfl) ?_
  refine i_iconst (v := 0) C dX4_drives_1 rfl ?_
  refine i_bipush (v := 20) C dX4_drives_2 rfl ?_
  obtain ⟨x1, e1, h⟩ := w_bdr h
  refine x_callSi C hX (c_X4_isWithin (gl Γ) G  e1) [] rfl hl tw1_201 tw1_202 tw1_1 tw1_203 nd_X4_isWithin ⟨(Nat.le_of_ble_eq_true rfl), (Nat.le_of_ble_eq_true rfl)⟩ (Nat.le_of_ble_eq_true rfl) dX4_drives_4 (fun H locs hX => ?_)
  refine i_if_ne (tgt := 18) C h dX4_drives_7 (by decide) (fun _ h => ?_) (fun _ h => ?_)
  · refine i_lconst (v := 1) C dX4_drives_18 rfl ?_
    refine i_iconst (v := 3) C dX4_drives_19 rfl ?_
    refine i_iload_n C dX4_drives_20 rfl (lv_at hl 1 rfl) ?_
    refine i_imul C dX4_drives_21 ?_
    refine i_lshl C dX4_drives_22 ?_
    exact x_lretW C hX hr hQ h dX4_drives_23
  refine i_aload_n C dX4_drives_10 rfl (lv_at hl 0 rfl) ?_
  refine i_ldc C tw1_204 dX4_drives_11 ?_
  obtain ⟨x2, m1, e2, h⟩ := w_bdw h
  refine x_callVi C hX (fg_0_0 G) (c_X4_finding (gl Γ) G  e2) [] rfl hl tw1_205 tw1_207 ts1_0 tw1_1 tw1_208 rfl nd_X4_finding ⟨(Nat.le_of_ble_eq_true rfl), (Nat.le_of_ble_eq_true rfl)⟩ (Nat.le_of_ble_eq_true rfl) dX4_drives_13 (fun H locs hX => ?_)
  refine i_i2l C dX4_drives_16 ?_
  exact x_lretW C hX hr hQ h dX4_drives_17
def f_X4_seed (p1 : Int32) (μ : MM) : Option (Int32 × MM) := lt_ ((μ 1 12)) fun x1 => lt_ (wst μ 1 12 p1) fun m1 => some (x1, m1)
theorem nd_X4_seed : yX4_seed.cls ≠ "java/lang/invoke/MethodHandle" ∧ yX4_seed.cls ≠ "java/lang/invoke/VarHandle" ∧ (parseMethodDescriptor yX4_seed.desc).map (fun d => d.parameters.length) = some 1 := by decide +kernel
set_option maxHeartbeats 4000000 in
set_option maxRecDepth 100000 in
theorem c_X4_seed (l : Launch) (G : EN)  {p1 : Int32} {μ : MM} {r : Int32} {m : MM} (h : f_X4_seed p1 μ = some (r, m)) : XM l G yX4_seed cX4_seed 3 (some .int) 0 0 [.ref (G.2.1 0), .int p1] μ (some (.int r)) m := by
  refine x_met (own := RX4) (by decide +kernel) rfl (Nat.le_of_ble_eq_true rfl) (fun Γ A H ls hg C hr hX hQ hl => ?_)
  have hl : lv_has ls 3 [(0, .ref (G.2.1 0)), (1, .int p1)] := hl
  unfold f_X4_seed at h
  refine i_aload_n C dX4_seed_0 rfl (lv_at hl 0 rfl) ?_
  refine x_get C hX (fg_0_0 G) tw1_166 dX4_seed_1 ?_
  refine x_get C hX (fg_1_12 G) tw1_65 dX4_seed_4 ?_
  refine i_istoreL_n C (fun x1 => [(2, .int x1), (0, .ref (G.2.1 0)), (1, .int p1)]) h dX4_seed_7 rfl hl (by decide) (fun _ => rfl) (fun x1 ls h hl => ?_)
  refine i_aload_n C dX4_seed_8 rfl (lv_at hl 1 rfl) ?_
  refine x_get C hX (fg_0_0 G) tw1_166 dX4_seed_9 ?_
  refine i_iload_n C dX4_seed_12 rfl (lv_at hl 2 rfl) ?_
  refine x_putI C hX (fp_1_12 G) h tw1_65 dX4_seed_13 (fun H locs m1 h hX => ?_)
  refine i_iload_n C dX4_seed_16 rfl (lv_at hl 0 rfl) ?_
  exact x_iretW C hX hr hQ h dX4_seed_17
def f_X3_add (p1 : Int32) (μ : MM) : Option MM := if 120 ≤ (μ 19 1) then (some μ) else (sti μ 20 120 (μ 19 1) p1 fun m1 => lt_ (wst m1 19 1 ((m1 19 1) + 1)) fun m2 => some m2)
theorem nd_X3_add : yX3_add.cls ≠ "java/lang/invoke/MethodHandle" ∧ yX3_add.cls ≠ "java/lang/invoke/VarHandle" ∧ (parseMethodDescriptor yX3_add.desc).map (fun d => d.parameters.length) = some 1 := by decide +kernel
set_option maxHeartbeats 4000000 in
set_option maxRecDepth 100000 in
theorem c_X3_add (l : Launch) (G : EN)  {p1 : Int32} {μ : MM} {r : MM} (h : f_X3_add p1 μ = some r) : XM l G yX3_add cX3_add 2 none 0 0 [.ref (G.2.1 19), .int p1] μ none r := by
  refine x_met (own := RX3) (by decide +kernel) rfl (Nat.le_of_ble_eq_true rfl) (fun Γ A H ls hg C hr hX hQ hl => ?_)
  have hl : lv_has ls 2 [(0, .ref (G.2.1 19)), (1, .int p1)] := hl
  unfold f_X3_add at h
  refine i_aload_n C dX3_add_0 rfl (lv_at hl 0 rfl) ?_
  refine x_get C hX (fg_19_1 G) tw1_107 dX3_add_1 ?_
  refine i_bipush (v := 120) C dX3_add_4 rfl ?_
  refine i_icmp_ge (tgt := 29) C h dX3_add_6 (by decide) (fun _ h => ?_) (fun _ h => ?_)
  · exact x_vretV C hX hr hQ h dX3_add_29
  refine i_aload_n C dX3_add_9 rfl (lv_at hl 0 rfl) ?_
  refine x_get C hX (fg_19_0 G) tw1_105 dX3_add_10 ?_
  refine i_aload_n C dX3_add_13 rfl (lv_at hl 0 rfl) ?_
  refine x_get C hX (fg_19_1 G) tw1_107 dX3_add_14 ?_
  refine i_iload_n C dX3_add_17 rfl (lv_at hl 1 rfl) ?_
  refine x_iast C hX (ai_20 G) h dX3_add_18 (fun H locs m1 h hX => ?_)
  refine i_aload_n C dX3_add_19 rfl (lv_at hl 0 rfl) ?_
  refine i_dup C dX3_add_20 rfl ?_
  refine x_get C hX (fg_19_1 G) tw1_107 dX3_add_21 ?_
  refine i_iconst (v := 1) C dX3_add_24 rfl ?_
  refine i_iadd C dX3_add_25 ?_
  refine x_putI C hX (fp_19_1 G) h tw1_107 dX3_add_26 (fun H locs m2 h hX => ?_)
  exact x_vretV C hX hr hQ h dX3_add_29
def L_X4_feed_41 (p1 : Int32) : Nat → Int32 → MM → Option (Int32 × MM)
  | 0, _, _ => none
  | fu + 1, x3, m1 => if x3 < 0 then (some ((m1 19 1), m1)) else (bdr (f_X3_add ((ur p1 (8 * x3)) &&& 255) m1) fun m2 => lt_ (x3 + (-1)) fun x4 => L_X4_feed_41 p1 fu x4 m2)
def f_X4_feed (p1 : Int32) (p2 : Int32) (μ : MM) : Option (Int32 × MM) := bdr (f_X4_isWithin p2 1 4) fun x1 => if x1 = 0 then (bdw (f_X4_finding (-1000001) μ) fun x6 m4 => some (x6, m4)) else (if (μ 19 1) ≤ (120 - p2) then (lt_ ((p2 - 1)) fun x2 => L_X4_feed_41 p1 FU x2 μ) else (bdw (f_X4_finding (-1000002) μ) fun x5 m3 => some (x5, m3)))
theorem nd_X4_feed : yX4_feed.cls ≠ "java/lang/invoke/MethodHandle" ∧ yX4_feed.cls ≠ "java/lang/invoke/VarHandle" ∧ (parseMethodDescriptor yX4_feed.desc).map (fun d => d.parameters.length) = some 2 := by decide +kernel
set_option maxHeartbeats 4000000 in
set_option maxRecDepth 100000 in
theorem c_X4_feed (l : Launch) (G : EN)  {p1 p2 : Int32} {μ : MM} {r : Int32} {m : MM} (h : f_X4_feed p1 p2 μ = some (r, m)) : XM l G yX4_feed cX4_feed 4 (some .int) 1 22 [.ref (G.2.1 0), .int p1, .int p2] μ (some (.int r)) m := by
  refine x_met (own := RX4) (by decide +kernel) rfl (Nat.le_of_ble_eq_true rfl) (fun Γ A H ls hg C hr hX hQ hl => ?_)
  have hl : lv_has ls 4 [(0, .ref (G.2.1 0)), (1, .int p1), (2, .int p2)] := hl
  unfold f_X4_feed at h
  refine i_iload_n C dX4_feed_0 rfl (lv_at hl 2 rfl) ?_
  refine i_iconst (v := 1) C dX4_feed_1 rfl ?_
  refine i_iconst (v := 4) C dX4_feed_2 rfl ?_
  obtain ⟨x1, e1, h⟩ := w_bdr h
  refine x_callSi C hX (c_X4_isWithin (gl Γ) G  e1) [] rfl hl tw1_201 tw1_202 tw1_1 tw1_203 nd_X4_isWithin ⟨(Nat.le_of_ble_eq_true rfl), (Nat.le_of_ble_eq_true rfl)⟩ (Nat.le_of_ble_eq_true rfl) dX4_feed_3 (fun H locs hX => ?_)
  refine i_if_ne (tgt := 16) C h dX4_feed_6 (by decide) (fun _ h => ?_) (fun _ h => ?_)
  · refine i_aload_n C dX4_feed_16 rfl (lv_at hl 0 rfl) ?_
    refine x_get C hX (fg_0_3 G) tw1_169 dX4_feed_17 ?_
    refine x_get C hX (fg_19_1 G) tw1_109 dX4_feed_20 ?_
    refine i_bipush (v := 120) C dX4_feed_23 rfl ?_
    refine i_iload_n C dX4_feed_25 rfl (lv_at hl 2 rfl) ?_
    refine i_isub C dX4_feed_26 ?_
    refine i_icmp_le (tgt := 37) C h dX4_feed_27 (by decide) (fun _ h => ?_) (fun _ h => ?_)
    · refine i_iload_n C dX4_feed_37 rfl (lv_at hl 2 rfl) ?_
      refine i_iconst (v := 1) C dX4_feed_38 rfl ?_
      refine i_isub C dX4_feed_39 ?_
      refine i_istoreL_n C (fun x2 => [(3, .int x2), (0, .ref (G.2.1 0)), (1, .int p1), (2, .int p2)]) h dX4_feed_40 rfl hl (by decide) (fun _ => rfl) (fun x2 ls h hl => ?_)
      have L1 : ∀ (fu : Nat) (x3 : Int32) (m1 : MM) (H : Heap) (locs : List Loc) (ls : Array Slot), L_X4_feed_41 p1 fu x3 m1 = some (r, m) → lv_has ls 4 [(0, .ref (G.2.1 0)), (1, .int p1), (3, .int x3)] → XW G A (gs Γ) H locs m1 → WX Γ H locs 41 ls [] := by
        intro fu
        induction fu with
        | zero =>
          intro x3 m1 H locs ls h
          rw [L_X4_feed_41] at h
          cases h
        | succ fu ih =>
          intro x3 m1 H locs ls h hl hX
          rw [L_X4_feed_41] at h
          refine i_iload_n C dX4_feed_41 rfl (lv_at hl 2 rfl) ?_
          refine i_if_lt (tgt := 68) C h dX4_feed_42 (by decide) (fun _ h => ?_) (fun _ h => ?_)
          · refine i_aload_n C dX4_feed_68 rfl (lv_at hl 0 rfl) ?_
            refine x_get C hX (fg_0_3 G) tw1_169 dX4_feed_69 ?_
            refine x_get C hX (fg_19_1 G) tw1_109 dX4_feed_72 ?_
            exact x_iretW C hX hr hQ h dX4_feed_75
          refine i_aload_n C dX4_feed_45 rfl (lv_at hl 0 rfl) ?_
          refine x_get C hX (fg_0_3 G) tw1_169 dX4_feed_46 ?_
          refine i_iload_n C dX4_feed_49 rfl (lv_at hl 1 rfl) ?_
          refine i_bipush (v := 8) C dX4_feed_50 rfl ?_
          refine i_iload_n C dX4_feed_52 rfl (lv_at hl 2 rfl) ?_
          refine i_imul C dX4_feed_53 ?_
          refine i_iushr C dX4_feed_54 ?_
          refine i_sipush (v := 255) C dX4_feed_55 rfl ?_
          refine i_iand C dX4_feed_58 ?_
          obtain ⟨m2, e2, h⟩ := w_bdr h
          refine x_callVv C hX (fg_19_0 G) (c_X3_add (gl Γ) G  e2) [] rfl hl tw3_68 tw3_69 tw3_70 tw1_4 tw3_71 rfl nd_X3_add ⟨(Nat.le_of_ble_eq_true rfl), (Nat.le_of_ble_eq_true rfl)⟩ (Nat.le_of_ble_eq_true rfl) dX4_feed_59 (fun H locs hX => ?_)
          refine i_iinc C (j := 2) (fun x4 => [(3, .int x4), (0, .ref (G.2.1 0)), (1, .int p1)]) h dX4_feed_62 hl rfl rfl (by decide) (fun _ => rfl) (fun x4 ls h hl => ?_)
          refine i_goto (tgt := 41) C dX4_feed_65 (by decide) ?_
          exact ih _ _ _ _ _ h (lv_sub hl [1, 2, 0] rfl) hX
      exact L1 FU _ _ _ _ _ h (lv_sub hl [1, 2, 0] rfl) hX
    refine i_aload_n C dX4_feed_30 rfl (lv_at hl 0 rfl) ?_
    refine i_ldc C tw1_209 dX4_feed_31 ?_
    obtain ⟨x5, m3, e3, h⟩ := w_bdw h
    refine x_callVi C hX (fg_0_0 G) (c_X4_finding (gl Γ) G  e3) [] rfl hl tw1_205 tw1_207 ts1_0 tw1_1 tw1_208 rfl nd_X4_finding ⟨(Nat.le_of_ble_eq_true rfl), (Nat.le_of_ble_eq_true rfl)⟩ (Nat.le_of_ble_eq_true rfl) dX4_feed_33 (fun H locs hX => ?_)
    exact x_iretW C hX hr hQ h dX4_feed_36
  refine i_aload_n C dX4_feed_9 rfl (lv_at hl 0 rfl) ?_
  refine i_ldc C tw1_204 dX4_feed_10 ?_
  obtain ⟨x6, m4, e4, h⟩ := w_bdw h
  refine x_callVi C hX (fg_0_0 G) (c_X4_finding (gl Γ) G  e4) [] rfl hl tw1_205 tw1_207 ts1_0 tw1_1 tw1_208 rfl nd_X4_finding ⟨(Nat.le_of_ble_eq_true rfl), (Nat.le_of_ble_eq_true rfl)⟩ (Nat.le_of_ble_eq_true rfl) dX4_feed_12 (fun H locs hX => ?_)
  exact x_iretW C hX hr hQ h dX4_feed_15
def f_X4_wipe (μ : MM) : Option (Int32 × MM) := lt_ ((μ 19 1)) fun x1 => lt_ (wst μ 19 1 0) fun m1 => some (x1, m1)
theorem nd_X4_wipe : yX4_wipe.cls ≠ "java/lang/invoke/MethodHandle" ∧ yX4_wipe.cls ≠ "java/lang/invoke/VarHandle" ∧ (parseMethodDescriptor yX4_wipe.desc).map (fun d => d.parameters.length) = some 0 := by decide +kernel
set_option maxHeartbeats 4000000 in
set_option maxRecDepth 100000 in
theorem c_X4_wipe (l : Launch) (G : EN)  {μ : MM} {r : Int32} {m : MM} (h : f_X4_wipe μ = some (r, m)) : XM l G yX4_wipe cX4_wipe 2 (some .int) 0 0 [.ref (G.2.1 0)] μ (some (.int r)) m := by
  refine x_met (own := RX4) (by decide +kernel) rfl (Nat.le_of_ble_eq_true rfl) (fun Γ A H ls hg C hr hX hQ hl => ?_)
  have hl : lv_has ls 2 [(0, .ref (G.2.1 0))] := hl
  unfold f_X4_wipe at h
  refine i_aload_n C dX4_wipe_0 rfl (lv_at hl 0 rfl) ?_
  refine x_get C hX (fg_0_3 G) tw1_169 dX4_wipe_1 ?_
  refine x_get C hX (fg_19_1 G) tw1_109 dX4_wipe_4 ?_
  refine i_istoreL_n C (fun x1 => [(1, .int x1), (0, .ref (G.2.1 0))]) h dX4_wipe_7 rfl hl (by decide) (fun _ => rfl) (fun x1 ls h hl => ?_)
  refine i_aload_n C dX4_wipe_8 rfl (lv_at hl 1 rfl) ?_
  refine x_get C hX (fg_0_3 G) tw1_169 dX4_wipe_9 ?_
  refine i_iconst (v := 0) C dX4_wipe_12 rfl ?_
  refine x_putI C hX (fp_19_1 G) h tw1_109 dX4_wipe_13 (fun H locs m1 h hX => ?_)
  refine i_iload_n C dX4_wipe_16 rfl (lv_at hl 0 rfl) ?_
  exact x_iretW C hX hr hQ h dX4_wipe_17
def f_X4_isSpot (p0 : Int32) : Option Int32 := bdr (f_X4_isWithin p0 0 9) fun x1 => gd (x1 = 0 ∨ x1 = 1) (some x1)
theorem nd_X4_isSpot : yX4_isSpot.cls ≠ "java/lang/invoke/MethodHandle" ∧ yX4_isSpot.cls ≠ "java/lang/invoke/VarHandle" ∧ (parseMethodDescriptor yX4_isSpot.desc).map (fun d => d.parameters.length) = some 1 := by decide +kernel
set_option maxHeartbeats 4000000 in
set_option maxRecDepth 100000 in
theorem c_X4_isSpot (l : Launch) (G : EN)  {p0 : Int32} {μ : MM} {r : Int32} (h : f_X4_isSpot p0 = some r) : XM l G yX4_isSpot cX4_isSpot 1 (some .boolean) 1 22 [.int p0] μ (some (.int r)) μ := by
  refine x_met (own := RX4) (by decide +kernel) rfl (Nat.le_of_ble_eq_true rfl) (fun Γ A H ls hg C hr hX hQ hl => ?_)
  have hl : lv_has ls 1 [(0, .int p0)] := hl
  unfold f_X4_isSpot at h
  refine i_iload_n C dX4_isSpot_0 rfl (lv_at hl 0 rfl) ?_
  refine i_iconst (v := 0) C dX4_isSpot_1 rfl ?_
  refine i_bipush (v := 9) C dX4_isSpot_2 rfl ?_
  obtain ⟨x1, e1, h⟩ := w_bdr h
  refine x_callSi C hX (c_X4_isWithin (gl Γ) G  e1) [] rfl hl tw1_201 tw1_202 tw1_1 tw1_203 nd_X4_isWithin ⟨(Nat.le_of_ble_eq_true rfl), (Nat.le_of_ble_eq_true rfl)⟩ (Nat.le_of_ble_eq_true rfl) dX4_isSpot_4 (fun H locs hX => ?_)
  exact x_zretR C hX hr hQ h dX4_isSpot_7
def f_X4_hold (p1 : Int32) (p2 : Int32) (μ : MM) : Option (Int32 × MM) := bdr (f_X4_isSpot p1) fun x1 => if x1 = 0 then (bdw (f_X4_finding (-1000001) μ) fun x2 m1 => some (x2, m1)) else (jn0 (sti μ 9 10 p1 p2 fun m2 => some (1, m2)) fun k1 => if p2 = (-1) then (k1) else (bdr (f_X4_isCat p2 μ) fun x3 => if x3 = 0 then (bdw (f_X4_finding (-1000001) μ) fun x4 m3 => some (x4, m3)) else (k1)))
theorem nd_X4_hold : yX4_hold.cls ≠ "java/lang/invoke/MethodHandle" ∧ yX4_hold.cls ≠ "java/lang/invoke/VarHandle" ∧ (parseMethodDescriptor yX4_hold.desc).map (fun d => d.parameters.length) = some 2 := by decide +kernel
set_option maxHeartbeats 4000000 in
set_option maxRecDepth 100000 in
theorem c_X4_hold (l : Launch) (G : EN)  {p1 p2 : Int32} {μ : MM} {r : Int32} {m : MM} (h : f_X4_hold p1 p2 μ = some (r, m)) : XM l G yX4_hold cX4_hold 3 (some .int) 2 43 [.ref (G.2.1 0), .int p1, .int p2] μ (some (.int r)) m := by
  refine x_met (own := RX4) (by decide +kernel) rfl (Nat.le_of_ble_eq_true rfl) (fun Γ A H ls hg C hr hX hQ hl => ?_)
  have hl : lv_has ls 3 [(0, .ref (G.2.1 0)), (1, .int p1), (2, .int p2)] := hl
  unfold f_X4_hold at h
  refine i_iload_n C dX4_hold_0 rfl (lv_at hl 1 rfl) ?_
  obtain ⟨x1, e1, h⟩ := w_bdr h
  refine x_callSi C hX (c_X4_isSpot (gl Γ) G  e1) [] rfl hl tw3_228 tw3_229 tw1_1 tw3_230 nd_X4_isSpot ⟨(Nat.le_of_ble_eq_true rfl), (Nat.le_of_ble_eq_true rfl)⟩ (Nat.le_of_ble_eq_true rfl) dX4_hold_1 (fun H locs hX => ?_)
  refine i_if_eq (tgt := 20) C h dX4_hold_4 (by decide) (fun _ h => ?_) (fun _ h => ?_)
  · refine i_aload_n C dX4_hold_20 rfl (lv_at hl 0 rfl) ?_
    refine i_ldc C tw1_204 dX4_hold_21 ?_
    obtain ⟨x2, m1, e2, h⟩ := w_bdw h
    refine x_callVi C hX (fg_0_0 G) (c_X4_finding (gl Γ) G  e2) [] rfl hl tw1_205 tw1_207 ts1_0 tw1_1 tw1_208 rfl nd_X4_finding ⟨(Nat.le_of_ble_eq_true rfl), (Nat.le_of_ble_eq_true rfl)⟩ (Nat.le_of_ble_eq_true rfl) dX4_hold_23 (fun H locs hX => ?_)
    exact x_iretW C hX hr hQ h dX4_hold_26
  refine i_iload_n C dX4_hold_7 rfl (lv_at hl 2 rfl) ?_
  refine i_iconst (v := (-1)) C dX4_hold_8 rfl ?_
  refine w_jn0 (∀ (H : Heap) (locs : List Loc) (ls : Array Slot), lv_has ls 3 [(0, .ref (G.2.1 0)), (1, .int p1), (2, .int p2)] → XW G A (gs Γ) H locs μ → WX Γ H locs 27 ls []) h (fun  h H locs ls hl hX => ?_) (fun k1 J1 h => ?_)
  · refine i_aload_n C dX4_hold_27 rfl (lv_at hl 0 rfl) ?_
    refine x_get C hX (fg_0_0 G) tw1_166 dX4_hold_28 ?_
    refine x_get C hX (fg_1_13 G) tw1_67 dX4_hold_31 ?_
    refine i_iload_n C dX4_hold_34 rfl (lv_at hl 1 rfl) ?_
    refine i_iload_n C dX4_hold_35 rfl (lv_at hl 2 rfl) ?_
    refine x_iast C hX (ai_9 G) h dX4_hold_36 (fun H locs m2 h hX => ?_)
    refine i_iconst (v := 1) C dX4_hold_37 rfl ?_
    exact x_iretW C hX hr hQ h dX4_hold_38
  refine i_icmp_eq (tgt := 27) C h dX4_hold_9 (by decide) (fun _ h => ?_) (fun _ h => ?_)
  · exact J1 h _ _ _ (lv_sub hl [0, 1, 2] rfl) hX
  refine i_aload_n C dX4_hold_12 rfl (lv_at hl 0 rfl) ?_
  refine i_iload_n C dX4_hold_13 rfl (lv_at hl 2 rfl) ?_
  obtain ⟨x3, e3, h⟩ := w_bdr h
  refine x_callVi C hX (fg_0_0 G) (c_X4_isCat (gl Γ) G  e3) [] rfl hl tw1_218 tw1_220 ts1_1 tw1_1 tw1_221 rfl nd_X4_isCat ⟨(Nat.le_of_ble_eq_true rfl), (Nat.le_of_ble_eq_true rfl)⟩ (Nat.le_of_ble_eq_true rfl) dX4_hold_14 (fun H locs hX => ?_)
  refine i_if_ne (tgt := 27) C h dX4_hold_17 (by decide) (fun _ h => ?_) (fun _ h => ?_)
  · exact J1 h _ _ _ (lv_sub hl [0, 1, 2] rfl) hX
  refine i_aload_n C dX4_hold_20 rfl (lv_at hl 0 rfl) ?_
  refine i_ldc C tw1_204 dX4_hold_21 ?_
  obtain ⟨x4, m3, e4, h⟩ := w_bdw h
  refine x_callVi C hX (fg_0_0 G) (c_X4_finding (gl Γ) G  e4) [] rfl hl tw1_205 tw1_207 ts1_0 tw1_1 tw1_208 rfl nd_X4_finding ⟨(Nat.le_of_ble_eq_true rfl), (Nat.le_of_ble_eq_true rfl)⟩ (Nat.le_of_ble_eq_true rfl) dX4_hold_23 (fun H locs hX => ?_)
  exact x_iretW C hX hr hQ h dX4_hold_26
def L_X4_isOrUnder_4 (p1 : Int32) : Nat → Int32 → Int32 → Option Int32
  | 0, _, _ => none
  | fu + 1, x1, x2 => if 7 ≤ x2 then (some 0) else (if x1 < 0 then (some 0) else (if x1 = p1 then (some 1) else (lds 2 7 x1 fun x3 => lt_ (x2 + 1) fun x4 => L_X4_isOrUnder_4 p1 fu x3 x4)))
def f_X4_isOrUnder (p0 : Int32) (p1 : Int32) : Option Int32 := L_X4_isOrUnder_4 p1 FU p0 0
theorem nd_X4_isOrUnder : yX4_isOrUnder.cls ≠ "java/lang/invoke/MethodHandle" ∧ yX4_isOrUnder.cls ≠ "java/lang/invoke/VarHandle" ∧ (parseMethodDescriptor yX4_isOrUnder.desc).map (fun d => d.parameters.length) = some 2 := by decide +kernel
set_option maxHeartbeats 4000000 in
set_option maxRecDepth 100000 in
theorem c_X4_isOrUnder (l : Launch) (G : EN)  {p0 p1 : Int32} {μ : MM} {r : Int32} (h : f_X4_isOrUnder p0 p1 = some r) : XM l G yX4_isOrUnder cX4_isOrUnder 4 (some .boolean) 0 0 [.int p0, .int p1] μ (some (.int r)) μ := by
  refine x_met (own := RX4) (by decide +kernel) rfl (Nat.le_of_ble_eq_true rfl) (fun Γ A H ls hg C hr hX hQ hl => ?_)
  have hl : lv_has ls 4 [(0, .int p0), (1, .int p1)] := hl
  unfold f_X4_isOrUnder at h
  refine i_iload_n C dX4_isOrUnder_0 rfl (lv_at hl 0 rfl) ?_
  refine i_istore_n C [(2, .int p0), (0, .int p0), (1, .int p1)] dX4_isOrUnder_1 rfl hl (by decide) rfl (fun ls hl => ?_)
  refine i_iconst (v := 0) C dX4_isOrUnder_2 rfl ?_
  refine i_istore_n C [(3, .int 0), (2, .int p0), (0, .int p0), (1, .int p1)] dX4_isOrUnder_3 rfl hl (by decide) rfl (fun ls hl => ?_)
  have L1 : ∀ (fu : Nat) (x1 : Int32) (x2 : Int32) (H : Heap) (locs : List Loc) (ls : Array Slot), L_X4_isOrUnder_4 p1 fu x1 x2 = some r → lv_has ls 4 [(1, .int p1), (2, .int x1), (3, .int x2)] → XW G A (gs Γ) H locs μ → WX Γ H locs 4 ls [] := by
    intro fu
    induction fu with
    | zero =>
      intro x1 x2 H locs ls h
      rw [L_X4_isOrUnder_4] at h
      cases h
    | succ fu ih =>
      intro x1 x2 H locs ls h hl hX
      rw [L_X4_isOrUnder_4] at h
      refine i_iload_n C dX4_isOrUnder_4 rfl (lv_at hl 2 rfl) ?_
      refine i_bipush (v := 7) C dX4_isOrUnder_5 rfl ?_
      refine i_icmp_ge (tgt := 33) C h dX4_isOrUnder_7 (by decide) (fun _ h => ?_) (fun _ h => ?_)
      · refine i_iconst (v := 0) C dX4_isOrUnder_33 rfl ?_
        exact x_zcR C hX (by decide) hr hQ h dX4_isOrUnder_34
      refine i_iload_n C dX4_isOrUnder_10 rfl (lv_at hl 1 rfl) ?_
      refine i_if_lt (tgt := 33) C h dX4_isOrUnder_11 (by decide) (fun _ h => ?_) (fun _ h => ?_)
      · refine i_iconst (v := 0) C dX4_isOrUnder_33 rfl ?_
        exact x_zcR C hX (by decide) hr hQ h dX4_isOrUnder_34
      refine i_iload_n C dX4_isOrUnder_14 rfl (lv_at hl 1 rfl) ?_
      refine i_iload_n C dX4_isOrUnder_15 rfl (lv_at hl 0 rfl) ?_
      refine i_icmp_ne (tgt := 21) C h dX4_isOrUnder_16 (by decide) (fun _ h => ?_) (fun _ h => ?_)
      · refine x_gets C hX hX.2.2.2.2.1.2.2.1.1 tw3_238 dX4_isOrUnder_21 ?_
        refine i_iload_n C dX4_isOrUnder_24 rfl (lv_at hl 1 rfl) ?_
        refine x_sald C hX hX.2.2.2.2.1.2.2.1.2 h dX4_isOrUnder_25 (fun x3 h => ?_)
        refine i_istore_n C [(2, .int x3), (1, .int p1), (3, .int x2)] dX4_isOrUnder_26 rfl hl (by decide) rfl (fun ls hl => ?_)
        refine i_iinc C (j := 2) (fun x4 => [(3, .int x4), (2, .int x3), (1, .int p1)]) h dX4_isOrUnder_27 hl rfl rfl (by decide) (fun _ => rfl) (fun x4 ls h hl => ?_)
        refine i_goto (tgt := 4) C dX4_isOrUnder_30 (by decide) ?_
        exact ih _ _ _ _ _ h (lv_sub hl [2, 1, 0] rfl) hX
      refine i_iconst (v := 1) C dX4_isOrUnder_19 rfl ?_
      exact x_zcR C hX (by decide) hr hQ h dX4_isOrUnder_20
  exact L1 FU _ _ _ _ _ h (lv_sub hl [3, 1, 0] rfl) hX
def f_X4_as (p1 : Int32) (p2 : Int32) (μ : MM) : Option (Int32 × MM) := bdr (f_X4_isSpot p1) fun x1 => if x1 = 0 then (bdw (f_X4_finding (-1000001) μ) fun x2 m1 => some (x2, m1)) else (bdr (f_X4_isKind p2) fun x3 => if x3 = 0 then (bdw (f_X4_finding (-1000001) μ) fun x10 m4 => some (x10, m4)) else (ldi μ 9 10 p1 fun x4 => bdr (f_X4_isCat x4 μ) fun x5 => if x5 = 0 then (bdw (f_X4_finding (-1000006) μ) fun x9 m3 => some (x9, m3)) else (ldi μ 2 8 x4 fun x6 => bdr (f_X4_isOrUnder x6 p2) fun x7 => if x7 = 0 then (bdw (f_X4_finding (-1000003) μ) fun x8 m2 => some (x8, m2)) else (some (x4, μ)))))
theorem nd_X4_as : yX4_as.cls ≠ "java/lang/invoke/MethodHandle" ∧ yX4_as.cls ≠ "java/lang/invoke/VarHandle" ∧ (parseMethodDescriptor yX4_as.desc).map (fun d => d.parameters.length) = some 2 := by decide +kernel
set_option maxHeartbeats 4000000 in
set_option maxRecDepth 100000 in
theorem c_X4_as (l : Launch) (G : EN)  {p1 p2 : Int32} {μ : MM} {r : Int32} {m : MM} (h : f_X4_as p1 p2 μ = some (r, m)) : XM l G yX4_as cX4_as 4 (some .int) 2 43 [.ref (G.2.1 0), .int p1, .int p2] μ (some (.int r)) m := by
  refine x_met (own := RX4) (by decide +kernel) rfl (Nat.le_of_ble_eq_true rfl) (fun Γ A H ls hg C hr hX hQ hl => ?_)
  have hl : lv_has ls 4 [(0, .ref (G.2.1 0)), (1, .int p1), (2, .int p2)] := hl
  unfold f_X4_as at h
  refine i_iload_n C dX4_as_0 rfl (lv_at hl 1 rfl) ?_
  obtain ⟨x1, e1, h⟩ := w_bdr h
  refine x_callSi C hX (c_X4_isSpot (gl Γ) G  e1) [] rfl hl tw3_228 tw3_229 tw1_1 tw3_230 nd_X4_isSpot ⟨(Nat.le_of_ble_eq_true rfl), (Nat.le_of_ble_eq_true rfl)⟩ (Nat.le_of_ble_eq_true rfl) dX4_as_1 (fun H locs hX => ?_)
  refine i_if_eq (tgt := 14) C h dX4_as_4 (by decide) (fun _ h => ?_) (fun _ h => ?_)
  · refine i_aload_n C dX4_as_14 rfl (lv_at hl 0 rfl) ?_
    refine i_ldc C tw1_204 dX4_as_15 ?_
    obtain ⟨x2, m1, e2, h⟩ := w_bdw h
    refine x_callVi C hX (fg_0_0 G) (c_X4_finding (gl Γ) G  e2) [] rfl hl tw1_205 tw1_207 ts1_0 tw1_1 tw1_208 rfl nd_X4_finding ⟨(Nat.le_of_ble_eq_true rfl), (Nat.le_of_ble_eq_true rfl)⟩ (Nat.le_of_ble_eq_true rfl) dX4_as_17 (fun H locs hX => ?_)
    exact x_iretW C hX hr hQ h dX4_as_20
  refine i_iload_n C dX4_as_7 rfl (lv_at hl 2 rfl) ?_
  obtain ⟨x3, e3, h⟩ := w_bdr h
  refine x_callSi C hX (c_X4_isKind (gl Γ) G  e3) [] rfl hl tw1_198 tw1_199 tw1_1 tw1_200 nd_X4_isKind ⟨(Nat.le_of_ble_eq_true rfl), (Nat.le_of_ble_eq_true rfl)⟩ (Nat.le_of_ble_eq_true rfl) dX4_as_8 (fun H locs hX => ?_)
  refine i_if_ne (tgt := 21) C h dX4_as_11 (by decide) (fun _ h => ?_) (fun _ h => ?_)
  · refine i_aload_n C dX4_as_21 rfl (lv_at hl 0 rfl) ?_
    refine x_get C hX (fg_0_0 G) tw1_166 dX4_as_22 ?_
    refine x_get C hX (fg_1_13 G) tw1_67 dX4_as_25 ?_
    refine i_iload_n C dX4_as_28 rfl (lv_at hl 1 rfl) ?_
    refine x_iald C hX (ai_9 G) h dX4_as_29 (fun x4 h => ?_)
    refine i_istore_n C [(3, .int x4), (0, .ref (G.2.1 0)), (1, .int p1), (2, .int p2)] dX4_as_30 rfl hl (by decide) rfl (fun ls hl => ?_)
    refine i_aload_n C dX4_as_31 rfl (lv_at hl 1 rfl) ?_
    refine i_iload_n C dX4_as_32 rfl (lv_at hl 0 rfl) ?_
    obtain ⟨x5, e4, h⟩ := w_bdr h
    refine x_callVi C hX (fg_0_0 G) (c_X4_isCat (gl Γ) G  e4) [] rfl hl tw1_218 tw1_220 ts1_1 tw1_1 tw1_221 rfl nd_X4_isCat ⟨(Nat.le_of_ble_eq_true rfl), (Nat.le_of_ble_eq_true rfl)⟩ (Nat.le_of_ble_eq_true rfl) dX4_as_33 (fun H locs hX => ?_)
    refine i_if_ne (tgt := 47) C h dX4_as_36 (by decide) (fun _ h => ?_) (fun _ h => ?_)
    · refine i_aload_n C dX4_as_47 rfl (lv_at hl 1 rfl) ?_
      refine x_get C hX (fg_0_0 G) tw1_166 dX4_as_48 ?_
      refine x_get C hX (fg_1_1 G) tw1_36 dX4_as_51 ?_
      refine i_iload_n C dX4_as_54 rfl (lv_at hl 0 rfl) ?_
      refine x_iald C hX (ai_2 G) h dX4_as_55 (fun x6 h => ?_)
      refine i_iload_n C dX4_as_56 rfl (lv_at hl 3 rfl) ?_
      obtain ⟨x7, e5, h⟩ := w_bdr h
      refine x_callSi C hX (c_X4_isOrUnder (gl Γ) G  e5) [] rfl hl tw3_235 tw3_236 tw1_1 tw3_237 nd_X4_isOrUnder ⟨(Nat.le_of_ble_eq_true rfl), (Nat.le_of_ble_eq_true rfl)⟩ (Nat.le_of_ble_eq_true rfl) dX4_as_57 (fun H locs hX => ?_)
      refine i_if_eq (tgt := 67) C h dX4_as_60 (by decide) (fun _ h => ?_) (fun _ h => ?_)
      · refine i_aload_n C dX4_as_67 rfl (lv_at hl 1 rfl) ?_
        refine i_ldcw C tw4_0 dX4_as_68 ?_
        obtain ⟨x8, m2, e6, h⟩ := w_bdw h
        refine x_callVi C hX (fg_0_0 G) (c_X4_finding (gl Γ) G  e6) [] rfl hl tw1_205 tw1_207 ts1_0 tw1_1 tw1_208 rfl nd_X4_finding ⟨(Nat.le_of_ble_eq_true rfl), (Nat.le_of_ble_eq_true rfl)⟩ (Nat.le_of_ble_eq_true rfl) dX4_as_71 (fun H locs hX => ?_)
        exact x_iretW C hX hr hQ h dX4_as_74
      refine i_iload_n C dX4_as_63 rfl (lv_at hl 0 rfl) ?_
      refine i_goto (tgt := 74) C dX4_as_64 (by decide) ?_
      exact x_iretW C hX hr hQ h dX4_as_74
    refine i_aload_n C dX4_as_39 rfl (lv_at hl 1 rfl) ?_
    refine i_ldcw C tw3_12 dX4_as_40 ?_
    obtain ⟨x9, m3, e7, h⟩ := w_bdw h
    refine x_callVi C hX (fg_0_0 G) (c_X4_finding (gl Γ) G  e7) [] rfl hl tw1_205 tw1_207 ts1_0 tw1_1 tw1_208 rfl nd_X4_finding ⟨(Nat.le_of_ble_eq_true rfl), (Nat.le_of_ble_eq_true rfl)⟩ (Nat.le_of_ble_eq_true rfl) dX4_as_43 (fun H locs hX => ?_)
    exact x_iretW C hX hr hQ h dX4_as_46
  refine i_aload_n C dX4_as_14 rfl (lv_at hl 0 rfl) ?_
  refine i_ldc C tw1_204 dX4_as_15 ?_
  obtain ⟨x10, m4, e8, h⟩ := w_bdw h
  refine x_callVi C hX (fg_0_0 G) (c_X4_finding (gl Γ) G  e8) [] rfl hl tw1_205 tw1_207 ts1_0 tw1_1 tw1_208 rfl nd_X4_finding ⟨(Nat.le_of_ble_eq_true rfl), (Nat.le_of_ble_eq_true rfl)⟩ (Nat.le_of_ble_eq_true rfl) dX4_as_17 (fun H locs hX => ?_)
  exact x_iretW C hX hr hQ h dX4_as_20
def L_J7_fill_53178_5 (ka : Nat) (na : Nat) (p1 : Int32) (x1 : Int32) : Nat → Int32 → MM → Option MM
  | 0, _, _ => none
  | fu + 1, x2, m1 => if x1 ≤ x2 then (some m1) else (sti m1 ka na x2 p1 fun m2 => lt_ (x2 + 1) fun x3 => L_J7_fill_53178_5 ka na p1 x1 fu x3 m2)
def f_J7_fill_53178 (ka : Nat) (na : Nat) (p1 : Int32) (μ : MM) : Option MM := lt_ ((Int32.ofNat na)) fun x1 => L_J7_fill_53178_5 ka na p1 x1 FU 0 μ
theorem nd_J7_fill_53178 : yJ7_fill_53178.cls ≠ "java/lang/invoke/MethodHandle" ∧ yJ7_fill_53178.cls ≠ "java/lang/invoke/VarHandle" ∧ (parseMethodDescriptor yJ7_fill_53178.desc).map (fun d => d.parameters.length) = some 2 := by decide +kernel
set_option maxHeartbeats 4000000 in
set_option maxRecDepth 100000 in
theorem c_J7_fill_53178 (l : Launch) (G : EN) {ka na : Nat} (ha : AI G ka na) {p1 : Int32} {μ : MM} {r : MM} (h : f_J7_fill_53178 ka na p1 μ = some r) : XM l G yJ7_fill_53178 cJ7_fill_53178 4 none 0 0 [.ref (G.2.1 ka), .int p1] μ none r := by
  refine x_met (own := RJ7) (by decide +kernel) rfl (Nat.le_of_ble_eq_true rfl) (fun Γ A H ls hg C hr hX hQ hl => ?_)
  have hl : lv_has ls 4 [(0, .ref (G.2.1 ka)), (1, .int p1)] := hl
  unfold f_J7_fill_53178 at h
  refine i_iconst (v := 0) C dJ7_fill_53178_0 rfl ?_
  refine i_istore_n C [(2, .int 0), (0, .ref (G.2.1 ka)), (1, .int p1)] dJ7_fill_53178_1 rfl hl (by decide) rfl (fun ls hl => ?_)
  refine i_aload_n C dJ7_fill_53178_2 rfl (lv_at hl 1 rfl) ?_
  refine x_ilen (v := (Int32.ofNat na)) C hX ha rfl dJ7_fill_53178_3 ?_
  refine i_istoreL_n C (fun x1 => [(3, .int x1), (2, .int 0), (0, .ref (G.2.1 ka)), (1, .int p1)]) h dJ7_fill_53178_4 rfl hl (by decide) (fun _ => rfl) (fun x1 ls h hl => ?_)
  have L1 : ∀ (fu : Nat) (x2 : Int32) (m1 : MM) (H : Heap) (locs : List Loc) (ls : Array Slot), L_J7_fill_53178_5 ka na p1 x1 fu x2 m1 = some r → lv_has ls 4 [(0, .ref (G.2.1 ka)), (1, .int p1), (2, .int x2), (3, .int x1)] → XW G A (gs Γ) H locs m1 → WX Γ H locs 5 ls [] := by
    intro fu
    induction fu with
    | zero =>
      intro x2 m1 H locs ls h
      rw [L_J7_fill_53178_5] at h
      cases h
    | succ fu ih =>
      intro x2 m1 H locs ls h hl hX
      rw [L_J7_fill_53178_5] at h
      refine i_iload_n C dJ7_fill_53178_5 rfl (lv_at hl 2 rfl) ?_
      refine i_iload_n C dJ7_fill_53178_6 rfl (lv_at hl 3 rfl) ?_
      refine i_icmp_ge (tgt := 20) C h dJ7_fill_53178_7 (by decide) (fun _ h => ?_) (fun _ h => ?_)
      · exact x_vretV C hX hr hQ h dJ7_fill_53178_20
      refine i_aload_n C dJ7_fill_53178_10 rfl (lv_at hl 0 rfl) ?_
      refine i_iload_n C dJ7_fill_53178_11 rfl (lv_at hl 2 rfl) ?_
      refine i_iload_n C dJ7_fill_53178_12 rfl (lv_at hl 1 rfl) ?_
      refine x_iast C hX ha h dJ7_fill_53178_13 (fun H locs m2 h hX => ?_)
      refine i_iinc C (j := 2) (fun x3 => [(2, .int x3), (0, .ref (G.2.1 ka)), (1, .int p1), (3, .int x1)]) h dJ7_fill_53178_14 hl rfl rfl (by decide) (fun _ => rfl) (fun x3 ls h hl => ?_)
      refine i_goto (tgt := 5) C dJ7_fill_53178_17 (by decide) ?_
      exact ih _ _ _ _ _ h (lv_sub hl [1, 2, 0, 3] rfl) hX
  exact L1 FU _ _ _ _ _ h (lv_sub hl [2, 3, 1, 0] rfl) hX
def f_X2_begin (kS : Nat) (p1 : Int32) (p2 : Int32) (μ : MM) : Option MM := lt_ (wst μ kS 0 p1) fun m1 => lt_ (wst m1 kS 1 p2) fun m2 => bdr (f_J7_fill_53178 (kS + 1) 40 0 m2) fun m3 => some m3
theorem nd_X2_begin : yX2_begin.cls ≠ "java/lang/invoke/MethodHandle" ∧ yX2_begin.cls ≠ "java/lang/invoke/VarHandle" ∧ (parseMethodDescriptor yX2_begin.desc).map (fun d => d.parameters.length) = some 2 := by decide +kernel
set_option maxHeartbeats 4000000 in
set_option maxRecDepth 100000 in
theorem c_X2_begin (l : Launch) (G : EN) {kS : Nat} (hS : iS kS) {p1 p2 : Int32} {μ : MM} {r : MM} (h : f_X2_begin kS p1 p2 μ = some r) : XM l G yX2_begin cX2_begin 3 none 1 23 [.ref (G.2.1 kS), .int p1, .int p2] μ none r := by
  refine x_met (own := RX2) (by decide +kernel) rfl (Nat.le_of_ble_eq_true rfl) (fun Γ A H ls hg C hr hX hQ hl => ?_)
  have hl : lv_has ls 3 [(0, .ref (G.2.1 kS)), (1, .int p1), (2, .int p2)] := hl
  unfold f_X2_begin at h
  refine i_aload_n C dX2_begin_0 rfl (lv_at hl 0 rfl) ?_
  refine i_iload_n C dX2_begin_1 rfl (lv_at hl 1 rfl) ?_
  refine x_putI C hX (fp_S_0 G hS) h tw1_153 dX2_begin_2 (fun H locs m1 h hX => ?_)
  refine i_aload_n C dX2_begin_5 rfl (lv_at hl 0 rfl) ?_
  refine i_iload_n C dX2_begin_6 rfl (lv_at hl 2 rfl) ?_
  refine x_putI C hX (fp_S_1 G hS) h tw1_155 dX2_begin_7 (fun H locs m2 h hX => ?_)
  refine i_aload_n C dX2_begin_10 rfl (lv_at hl 0 rfl) ?_
  refine x_get C hX (fg_S_2 G hS) tw1_157 dX2_begin_11 ?_
  refine i_iconst (v := 0) C dX2_begin_14 rfl ?_
  obtain ⟨m3, e1, h⟩ := w_bdr h
  refine x_callSv C hX (c_J7_fill_53178 (gl Γ) G (ai_S G hS) e1) [] rfl hl tw4_10 tw1_30 tw1_3 tw1_31 nd_J7_fill_53178 ⟨(Nat.le_of_ble_eq_true rfl), (Nat.le_of_ble_eq_true rfl)⟩ (Nat.le_of_ble_eq_true rfl) dX2_begin_15 (fun H locs hX => ?_)
  exact x_vretV C hX hr hQ h dX2_begin_18
def f_X4_sheet (p1 : Int32) (p2 : Int32) (p3 : Int32) (μ : MM) : Option (Int32 × MM) := bdr (f_X4_isSheet p1) fun x1 => if x1 = 0 then (bdw (f_X4_finding (-1000001) μ) fun x2 m1 => some (x2, m1)) else (jn0 (if 0 ≤ p3 then (if p3 ≤ 40 then (ldq 4 p1 fun j1 => jn1 (fun (x3 : Int32) => bdr (f_X2_begin (26 + 2 * j1) p2 x3 μ) fun m2 => ldq 4 p1 fun j2 => some ((m2 (26 + 2 * j2) 1), m2)) fun k1 => if p2 = 0 then (k1 0) else (k1 p3)) else (bdw (f_X4_finding (-1000001) μ) fun x4 m3 => some (x4, m3))) else (bdw (f_X4_finding (-1000007) μ) fun x5 m4 => some (x5, m4))) fun k2 => if p2 = 0 then (k2) else (if p2 = 8 then (k2) else (if p2 = 16 then (k2) else (if p2 = 32 then (k2) else (bdw (f_X4_finding (-1000001) μ) fun x6 m5 => some (x6, m5))))))
theorem nd_X4_sheet : yX4_sheet.cls ≠ "java/lang/invoke/MethodHandle" ∧ yX4_sheet.cls ≠ "java/lang/invoke/VarHandle" ∧ (parseMethodDescriptor yX4_sheet.desc).map (fun d => d.parameters.length) = some 3 := by decide +kernel
set_option maxHeartbeats 4000000 in
set_option maxRecDepth 100000 in
theorem c_X4_sheet (l : Launch) (G : EN)  {p1 p2 p3 : Int32} {μ : MM} {r : Int32} {m : MM} (h : f_X4_sheet p1 p2 p3 μ = some (r, m)) : XM l G yX4_sheet cX4_sheet 4 (some .int) 2 45 [.ref (G.2.1 0), .int p1, .int p2, .int p3] μ (some (.int r)) m := by
  refine x_met (own := RX4) (by decide +kernel) rfl (Nat.le_of_ble_eq_true rfl) (fun Γ A H ls hg C hr hX hQ hl => ?_)
  have hl : lv_has ls 4 [(0, .ref (G.2.1 0)), (1, .int p1), (2, .int p2), (3, .int p3)] := hl
  unfold f_X4_sheet at h
  refine i_iload_n C dX4_sheet_0 rfl (lv_at hl 1 rfl) ?_
  obtain ⟨x1, e1, h⟩ := w_bdr h
  refine x_callSi C hX (c_X4_isSheet (gl Γ) G  e1) [] rfl hl tw3_5 tw3_6 tw1_1 tw3_7 nd_X4_isSheet ⟨(Nat.le_of_ble_eq_true rfl), (Nat.le_of_ble_eq_true rfl)⟩ (Nat.le_of_ble_eq_true rfl) dX4_sheet_1 (fun H locs hX => ?_)
  refine i_if_eq (tgt := 29) C h dX4_sheet_4 (by decide) (fun _ h => ?_) (fun _ h => ?_)
  · refine i_aload_n C dX4_sheet_29 rfl (lv_at hl 0 rfl) ?_
    refine i_ldc C tw1_204 dX4_sheet_30 ?_
    obtain ⟨x2, m1, e2, h⟩ := w_bdw h
    refine x_callVi C hX (fg_0_0 G) (c_X4_finding (gl Γ) G  e2) [] rfl hl tw1_205 tw1_207 ts1_0 tw1_1 tw1_208 rfl nd_X4_finding ⟨(Nat.le_of_ble_eq_true rfl), (Nat.le_of_ble_eq_true rfl)⟩ (Nat.le_of_ble_eq_true rfl) dX4_sheet_32 (fun H locs hX => ?_)
    exact x_iretW C hX hr hQ h dX4_sheet_35
  refine i_iload_n C dX4_sheet_7 rfl (lv_at hl 2 rfl) ?_
  refine w_jn0 (∀ (H : Heap) (locs : List Loc) (ls : Array Slot), lv_has ls 4 [(0, .ref (G.2.1 0)), (1, .int p1), (2, .int p2), (3, .int p3)] → XW G A (gs Γ) H locs μ → WX Γ H locs 36 ls []) h (fun  h H locs ls hl hX => ?_) (fun k2 J2 h => ?_)
  · refine i_iload_n C dX4_sheet_36 rfl (lv_at hl 3 rfl) ?_
    refine i_if_ge (tgt := 48) C h dX4_sheet_37 (by decide) (fun _ h => ?_) (fun _ h => ?_)
    · refine i_iload_n C dX4_sheet_48 rfl (lv_at hl 3 rfl) ?_
      refine i_bipush (v := 40) C dX4_sheet_49 rfl ?_
      refine i_icmp_le (tgt := 61) C h dX4_sheet_51 (by decide) (fun _ h => ?_) (fun _ h => ?_)
      · refine i_aload_n C dX4_sheet_61 rfl (lv_at hl 0 rfl) ?_
        refine x_get C hX (fg_0_5 G) tw1_171 dX4_sheet_62 ?_
        refine i_iload_n C dX4_sheet_65 rfl (lv_at hl 1 rfl) ?_
        refine x_aald C hX (aq_25 G) rfl h dX4_sheet_66 (fun j1 hj1 h => ?_)
        refine i_iload_n C dX4_sheet_67 rfl (lv_at hl 2 rfl) ?_
        refine i_iload_n C dX4_sheet_68 rfl (lv_at hl 2 rfl) ?_
        refine w_jn1 (fun (x3 : Int32) => ∀ (H : Heap) (locs : List Loc) (ls : Array Slot), lv_has ls 4 [(0, .ref (G.2.1 0)), (1, .int p1)] → XW G A (gs Γ) H locs μ → WX Γ H locs 77 ls [.int x3, .int p2, .ref (G.2.1 (26 + 2 * j1))]) h (fun x3 h H locs ls hl hX => ?_) (fun k1 J1 h => ?_)
        · obtain ⟨m2, e3, h⟩ := w_bdr h
          refine x_callVv C hX (fg_S_0 G (iS_of hj1)) (c_X2_begin (gl Γ) G (iS_of hj1) e3) [] rfl hl tw4_6 tw4_7 tw4_8 tw1_6 tw4_9 rfl nd_X2_begin ⟨(Nat.le_of_ble_eq_true rfl), (Nat.le_of_ble_eq_true rfl)⟩ (Nat.le_of_ble_eq_true rfl) dX4_sheet_77 (fun H locs hX => ?_)
          refine i_aload_n C dX4_sheet_80 rfl (lv_at hl 0 rfl) ?_
          refine x_get C hX (fg_0_5 G) tw1_171 dX4_sheet_81 ?_
          refine i_iload_n C dX4_sheet_84 rfl (lv_at hl 1 rfl) ?_
          refine x_aald C hX (aq_25 G) rfl h dX4_sheet_85 (fun j2 hj2 h => ?_)
          refine x_get C hX (fg_S_1 G (iS_of hj2)) tw1_156 dX4_sheet_86 ?_
          exact x_iretW C hX hr hQ h dX4_sheet_89
        refine i_if_ne (tgt := 76) C h dX4_sheet_69 (by decide) (fun _ h => ?_) (fun _ h => ?_)
        · refine i_iload_n C dX4_sheet_76 rfl (lv_at hl 3 rfl) ?_
          exact J1 _ h _ _ _ (lv_sub hl [0, 1] rfl) hX
        refine i_iconst (v := 0) C dX4_sheet_72 rfl ?_
        refine i_goto (tgt := 77) C dX4_sheet_73 (by decide) ?_
        exact J1 _ h _ _ _ (lv_sub hl [0, 1] rfl) hX
      refine i_aload_n C dX4_sheet_54 rfl (lv_at hl 0 rfl) ?_
      refine i_ldc C tw1_204 dX4_sheet_55 ?_
      obtain ⟨x4, m3, e4, h⟩ := w_bdw h
      refine x_callVi C hX (fg_0_0 G) (c_X4_finding (gl Γ) G  e4) [] rfl hl tw1_205 tw1_207 ts1_0 tw1_1 tw1_208 rfl nd_X4_finding ⟨(Nat.le_of_ble_eq_true rfl), (Nat.le_of_ble_eq_true rfl)⟩ (Nat.le_of_ble_eq_true rfl) dX4_sheet_57 (fun H locs hX => ?_)
      exact x_iretW C hX hr hQ h dX4_sheet_60
    refine i_aload_n C dX4_sheet_40 rfl (lv_at hl 0 rfl) ?_
    refine i_ldcw C tw4_5 dX4_sheet_41 ?_
    obtain ⟨x5, m4, e5, h⟩ := w_bdw h
    refine x_callVi C hX (fg_0_0 G) (c_X4_finding (gl Γ) G  e5) [] rfl hl tw1_205 tw1_207 ts1_0 tw1_1 tw1_208 rfl nd_X4_finding ⟨(Nat.le_of_ble_eq_true rfl), (Nat.le_of_ble_eq_true rfl)⟩ (Nat.le_of_ble_eq_true rfl) dX4_sheet_44 (fun H locs hX => ?_)
    exact x_iretW C hX hr hQ h dX4_sheet_47
  refine i_if_eq (tgt := 36) C h dX4_sheet_8 (by decide) (fun _ h => ?_) (fun _ h => ?_)
  · exact J2 h _ _ _ (lv_sub hl [0, 1, 2, 3] rfl) hX
  refine i_iload_n C dX4_sheet_11 rfl (lv_at hl 2 rfl) ?_
  refine i_bipush (v := 8) C dX4_sheet_12 rfl ?_
  refine i_icmp_eq (tgt := 36) C h dX4_sheet_14 (by decide) (fun _ h => ?_) (fun _ h => ?_)
  · exact J2 h _ _ _ (lv_sub hl [0, 1, 2, 3] rfl) hX
  refine i_iload_n C dX4_sheet_17 rfl (lv_at hl 2 rfl) ?_
  refine i_bipush (v := 16) C dX4_sheet_18 rfl ?_
  refine i_icmp_eq (tgt := 36) C h dX4_sheet_20 (by decide) (fun _ h => ?_) (fun _ h => ?_)
  · exact J2 h _ _ _ (lv_sub hl [0, 1, 2, 3] rfl) hX
  refine i_iload_n C dX4_sheet_23 rfl (lv_at hl 2 rfl) ?_
  refine i_bipush (v := 32) C dX4_sheet_24 rfl ?_
  refine i_icmp_eq (tgt := 36) C h dX4_sheet_26 (by decide) (fun _ h => ?_) (fun _ h => ?_)
  · exact J2 h _ _ _ (lv_sub hl [0, 1, 2, 3] rfl) hX
  refine i_aload_n C dX4_sheet_29 rfl (lv_at hl 0 rfl) ?_
  refine i_ldc C tw1_204 dX4_sheet_30 ?_
  obtain ⟨x6, m5, e6, h⟩ := w_bdw h
  refine x_callVi C hX (fg_0_0 G) (c_X4_finding (gl Γ) G  e6) [] rfl hl tw1_205 tw1_207 ts1_0 tw1_1 tw1_208 rfl nd_X4_finding ⟨(Nat.le_of_ble_eq_true rfl), (Nat.le_of_ble_eq_true rfl)⟩ (Nat.le_of_ble_eq_true rfl) dX4_sheet_32 (fun H locs hX => ?_)
  exact x_iretW C hX hr hQ h dX4_sheet_35
def f_X2_lowest (kS : Nat) (p1 : Int32) (μ : MM) : Option Int32 := if (μ kS 0) = 8 then (some (p1.toInt8.toInt32)) else (if (μ kS 0) = 16 then (some (p1.toInt16.toInt32)) else (some p1))
theorem nd_X2_lowest : yX2_lowest.cls ≠ "java/lang/invoke/MethodHandle" ∧ yX2_lowest.cls ≠ "java/lang/invoke/VarHandle" ∧ (parseMethodDescriptor yX2_lowest.desc).map (fun d => d.parameters.length) = some 1 := by decide +kernel
set_option maxHeartbeats 4000000 in
set_option maxRecDepth 100000 in
theorem c_X2_lowest (l : Launch) (G : EN) {kS : Nat} (hS : iS kS) {p1 : Int32} {μ : MM} {r : Int32} (h : f_X2_lowest kS p1 μ = some r) : XM l G yX2_lowest cX2_lowest 2 (some .int) 0 0 [.ref (G.2.1 kS), .int p1] μ (some (.int r)) μ := by
  refine x_met (own := RX2) (by decide +kernel) rfl (Nat.le_of_ble_eq_true rfl) (fun Γ A H ls hg C hr hX hQ hl => ?_)
  have hl : lv_has ls 2 [(0, .ref (G.2.1 kS)), (1, .int p1)] := hl
  unfold f_X2_lowest at h
  refine i_aload_n C dX2_lowest_0 rfl (lv_at hl 0 rfl) ?_
  refine x_get C hX (fg_S_0 G hS) tw1_153 dX2_lowest_1 ?_
  refine i_bipush (v := 8) C dX2_lowest_4 rfl ?_
  refine i_icmp_ne (tgt := 12) C h dX2_lowest_6 (by decide) (fun _ h => ?_) (fun _ h => ?_)
  · refine i_aload_n C dX2_lowest_12 rfl (lv_at hl 0 rfl) ?_
    refine x_get C hX (fg_S_0 G hS) tw1_153 dX2_lowest_13 ?_
    refine i_bipush (v := 16) C dX2_lowest_16 rfl ?_
    refine i_icmp_ne (tgt := 26) C h dX2_lowest_18 (by decide) (fun _ h => ?_) (fun _ h => ?_)
    · refine i_iload_n C dX2_lowest_26 rfl (lv_at hl 1 rfl) ?_
      exact x_iretR C hX hr hQ h dX2_lowest_27
    refine i_iload_n C dX2_lowest_21 rfl (lv_at hl 1 rfl) ?_
    refine i_i2s C dX2_lowest_22 ?_
    refine i_goto (tgt := 27) C dX2_lowest_23 (by decide) ?_
    exact x_iretR C hX hr hQ h dX2_lowest_27
  refine i_iload_n C dX2_lowest_9 rfl (lv_at hl 1 rfl) ?_
  refine i_i2b C dX2_lowest_10 ?_
  exact x_iretR C hX hr hQ h dX2_lowest_11
def f_X4_write (p1 : Int32) (p2 : Int32) (p3 : Int32) (μ : MM) : Option (Int32 × MM) := bdw (f_X4_wrongSheet p1 μ) fun x1 m1 => if x1 = 0 then (ldq 4 p1 fun j1 => bdr (f_X4_isWithin p2 0 ((m1 (26 + 2 * j1) 1) - 1)) fun x2 => if x2 = 0 then (bdw (f_X4_finding (-1000001) m1) fun x4 m3 => some (x4, m3)) else (ldq 4 p1 fun j2 => ldq 4 p1 fun j3 => bdr (f_X2_lowest (26 + 2 * j3) p3 m1) fun x3 => sti m1 ((26 + 2 * j2) + 1) 40 p2 x3 fun m2 => some (1, m2))) else (some (x1, m1))
theorem nd_X4_write : yX4_write.cls ≠ "java/lang/invoke/MethodHandle" ∧ yX4_write.cls ≠ "java/lang/invoke/VarHandle" ∧ (parseMethodDescriptor yX4_write.desc).map (fun d => d.parameters.length) = some 3 := by decide +kernel
set_option maxHeartbeats 4000000 in
set_option maxRecDepth 100000 in
theorem c_X4_write (l : Launch) (G : EN)  {p1 p2 p3 : Int32} {μ : MM} {r : Int32} {m : MM} (h : f_X4_write p1 p2 p3 μ = some (r, m)) : XM l G yX4_write cX4_write 5 (some .int) 3 63 [.ref (G.2.1 0), .int p1, .int p2, .int p3] μ (some (.int r)) m := by
  refine x_met (own := RX4) (by decide +kernel) rfl (Nat.le_of_ble_eq_true rfl) (fun Γ A H ls hg C hr hX hQ hl => ?_)
  have hl : lv_has ls 5 [(0, .ref (G.2.1 0)), (1, .int p1), (2, .int p2), (3, .int p3)] := hl
  unfold f_X4_write at h
  refine i_aload_n C dX4_write_0 rfl (lv_at hl 0 rfl) ?_
  refine i_iload_n C dX4_write_1 rfl (lv_at hl 1 rfl) ?_
  obtain ⟨x1, m1, e1, h⟩ := w_bdw h
  refine x_callVi C hX (fg_0_0 G) (c_X4_wrongSheet (gl Γ) G  e1) [] rfl hl tw3_1 tw3_3 ts1_12 tw1_1 tw3_4 rfl nd_X4_wrongSheet ⟨(Nat.le_of_ble_eq_true rfl), (Nat.le_of_ble_eq_true rfl)⟩ (Nat.le_of_ble_eq_true rfl) dX4_write_2 (fun H locs hX => ?_)
  refine i_istore C [(4, .int x1), (0, .ref (G.2.1 0)), (1, .int p1), (2, .int p2), (3, .int p3)] dX4_write_5 hl (by decide) rfl (fun ls hl => ?_)
  refine i_iload C dX4_write_7 (lv_at hl 0 rfl) ?_
  refine i_if_eq (tgt := 15) C h dX4_write_9 (by decide) (fun _ h => ?_) (fun _ h => ?_)
  · refine i_iload_n C dX4_write_15 rfl (lv_at hl 3 rfl) ?_
    refine i_iconst (v := 0) C dX4_write_16 rfl ?_
    refine i_aload_n C dX4_write_17 rfl (lv_at hl 1 rfl) ?_
    refine x_get C hX (fg_0_5 G) tw1_171 dX4_write_18 ?_
    refine i_iload_n C dX4_write_21 rfl (lv_at hl 2 rfl) ?_
    refine x_aald C hX (aq_25 G) rfl h dX4_write_22 (fun j1 hj1 h => ?_)
    refine x_get C hX (fg_S_1 G (iS_of hj1)) tw1_156 dX4_write_23 ?_
    refine i_iconst (v := 1) C dX4_write_26 rfl ?_
    refine i_isub C dX4_write_27 ?_
    obtain ⟨x2, e2, h⟩ := w_bdr h
    refine x_callSi C hX (c_X4_isWithin (gl Γ) G  e2) [] rfl hl tw1_201 tw1_202 tw1_1 tw1_203 nd_X4_isWithin ⟨(Nat.le_of_ble_eq_true rfl), (Nat.le_of_ble_eq_true rfl)⟩ (Nat.le_of_ble_eq_true rfl) dX4_write_28 (fun H locs hX => ?_)
    refine i_if_ne (tgt := 41) C h dX4_write_31 (by decide) (fun _ h => ?_) (fun _ h => ?_)
    · refine i_aload_n C dX4_write_41 rfl (lv_at hl 1 rfl) ?_
      refine x_get C hX (fg_0_5 G) tw1_171 dX4_write_42 ?_
      refine i_iload_n C dX4_write_45 rfl (lv_at hl 2 rfl) ?_
      refine x_aald C hX (aq_25 G) rfl h dX4_write_46 (fun j2 hj2 h => ?_)
      refine x_get C hX (fg_S_2 G (iS_of hj2)) tw1_158 dX4_write_47 ?_
      refine i_iload_n C dX4_write_50 rfl (lv_at hl 3 rfl) ?_
      refine i_aload_n C dX4_write_51 rfl (lv_at hl 1 rfl) ?_
      refine x_get C hX (fg_0_5 G) tw1_171 dX4_write_52 ?_
      refine i_iload_n C dX4_write_55 rfl (lv_at hl 2 rfl) ?_
      refine x_aald C hX (aq_25 G) rfl h dX4_write_56 (fun j3 hj3 h => ?_)
      refine i_iload_n C dX4_write_57 rfl (lv_at hl 4 rfl) ?_
      obtain ⟨x3, e3, h⟩ := w_bdr h
      refine x_callVi C hX (fg_S_0 G (iS_of hj3)) (c_X2_lowest (gl Γ) G (iS_of hj3) e3) [.int p2, .ref (G.2.1 ((26 + 2 * j2) + 1))] rfl hl tw4_15 tw4_16 tw4_17 tw1_6 tw4_18 rfl nd_X2_lowest ⟨(Nat.le_of_ble_eq_true rfl), (Nat.le_of_ble_eq_true rfl)⟩ (Nat.le_of_ble_eq_true rfl) dX4_write_58 (fun H locs hX => ?_)
      refine x_iast C hX (ai_S G (iS_of hj2)) h dX4_write_61 (fun H locs m2 h hX => ?_)
      refine i_iconst (v := 1) C dX4_write_62 rfl ?_
      exact x_iretW C hX hr hQ h dX4_write_63
    refine i_aload_n C dX4_write_34 rfl (lv_at hl 1 rfl) ?_
    refine i_ldc C tw1_204 dX4_write_35 ?_
    obtain ⟨x4, m3, e4, h⟩ := w_bdw h
    refine x_callVi C hX (fg_0_0 G) (c_X4_finding (gl Γ) G  e4) [] rfl hl tw1_205 tw1_207 ts1_0 tw1_1 tw1_208 rfl nd_X4_finding ⟨(Nat.le_of_ble_eq_true rfl), (Nat.le_of_ble_eq_true rfl)⟩ (Nat.le_of_ble_eq_true rfl) dX4_write_37 (fun H locs hX => ?_)
    exact x_iretW C hX hr hQ h dX4_write_40
  refine i_iload C dX4_write_12 (lv_at hl 0 rfl) ?_
  exact x_iretW C hX hr hQ h dX4_write_14
def f_X2_has (kS : Nat) (p1 : Int32) (p2 : Int32) (μ : MM) : Option Int32 := if p1 < 0 then (some 0) else (if p2 < 0 then (some 0) else (if (μ kS 1) < p1 then (some 0) else (if ((μ kS 1) - p1) < p2 then (some 0) else (some 1))))
theorem nd_X2_has : yX2_has.cls ≠ "java/lang/invoke/MethodHandle" ∧ yX2_has.cls ≠ "java/lang/invoke/VarHandle" ∧ (parseMethodDescriptor yX2_has.desc).map (fun d => d.parameters.length) = some 2 := by decide +kernel
set_option maxHeartbeats 4000000 in
set_option maxRecDepth 100000 in
theorem c_X2_has (l : Launch) (G : EN) {kS : Nat} (hS : iS kS) {p1 p2 : Int32} {μ : MM} {r : Int32} (h : f_X2_has kS p1 p2 μ = some r) : XM l G yX2_has cX2_has 3 (some .boolean) 0 0 [.ref (G.2.1 kS), .int p1, .int p2] μ (some (.int r)) μ := by
  refine x_met (own := RX2) (by decide +kernel) rfl (Nat.le_of_ble_eq_true rfl) (fun Γ A H ls hg C hr hX hQ hl => ?_)
  have hl : lv_has ls 3 [(0, .ref (G.2.1 kS)), (1, .int p1), (2, .int p2)] := hl
  unfold f_X2_has at h
  refine i_iload_n C dX2_has_0 rfl (lv_at hl 1 rfl) ?_
  refine i_if_lt (tgt := 30) C h dX2_has_1 (by decide) (fun _ h => ?_) (fun _ h => ?_)
  · refine i_iconst (v := 0) C dX2_has_30 rfl ?_
    exact x_zcR C hX (by decide) hr hQ h dX2_has_31
  refine i_iload_n C dX2_has_4 rfl (lv_at hl 2 rfl) ?_
  refine i_if_lt (tgt := 30) C h dX2_has_5 (by decide) (fun _ h => ?_) (fun _ h => ?_)
  · refine i_iconst (v := 0) C dX2_has_30 rfl ?_
    exact x_zcR C hX (by decide) hr hQ h dX2_has_31
  refine i_iload_n C dX2_has_8 rfl (lv_at hl 1 rfl) ?_
  refine i_aload_n C dX2_has_9 rfl (lv_at hl 0 rfl) ?_
  refine x_get C hX (fg_S_1 G hS) tw1_155 dX2_has_10 ?_
  refine i_icmp_gt (tgt := 30) C h dX2_has_13 (by decide) (fun _ h => ?_) (fun _ h => ?_)
  · refine i_iconst (v := 0) C dX2_has_30 rfl ?_
    exact x_zcR C hX (by decide) hr hQ h dX2_has_31
  refine i_iload_n C dX2_has_16 rfl (lv_at hl 2 rfl) ?_
  refine i_aload_n C dX2_has_17 rfl (lv_at hl 0 rfl) ?_
  refine x_get C hX (fg_S_1 G hS) tw1_155 dX2_has_18 ?_
  refine i_iload_n C dX2_has_21 rfl (lv_at hl 1 rfl) ?_
  refine i_isub C dX2_has_22 ?_
  refine i_icmp_gt (tgt := 30) C h dX2_has_23 (by decide) (fun _ h => ?_) (fun _ h => ?_)
  · refine i_iconst (v := 0) C dX2_has_30 rfl ?_
    exact x_zcR C hX (by decide) hr hQ h dX2_has_31
  refine i_iconst (v := 1) C dX2_has_26 rfl ?_
  refine i_goto (tgt := 31) C dX2_has_27 (by decide) ?_
  exact x_zcR C hX (by decide) hr hQ h dX2_has_31
def f_X4_copy (p1 : Int32) (p2 : Int32) (p3 : Int32) (p4 : Int32) (p5 : Int32) (μ : MM) : Option (Int32 × MM) := bdr (f_X4_isSheet p1) fun x1 => if x1 = 0 then (bdw (f_X4_finding (-1000001) μ) fun x2 m1 => some (x2, m1)) else (bdr (f_X4_isSheet p3) fun x3 => if x3 = 0 then (bdw (f_X4_finding (-1000001) μ) fun x13 m8 => some (x13, m8)) else (ldq 4 p1 fun j1 => ldq 4 p3 fun j2 => bdr (f_X2_isMissing (26 + 2 * j1) μ) fun x4 => if x4 = 0 then (bdr (f_X2_isMissing (26 + 2 * j2) μ) fun x6 => if x6 = 0 then (if (μ (26 + 2 * j1) 0) = (μ (26 + 2 * j2) 0) then (bdr (f_X2_has (26 + 2 * j1) p2 p5 μ) fun x7 => if x7 = 0 then (bdw (f_X4_finding (-1000001) μ) fun x8 m3 => some (x8, m3)) else (bdr (f_X2_has (26 + 2 * j2) p4 p5 μ) fun x9 => if x9 = 0 then (bdw (f_X4_finding (-1000001) μ) fun x10 m5 => some (x10, m5)) else (acp μ ((26 + 2 * j1) + 1) 40 ((26 + 2 * j2) + 1) 40 p2 p4 p5 fun m4 => some (p5, m4)))) else (bdw (f_X4_finding (-1000003) μ) fun x11 m6 => some (x11, m6))) else (bdw (f_X4_finding (-1000006) μ) fun x12 m7 => some (x12, m7))) else (bdw (f_X4_finding (-1000006) μ) fun x5 m2 => some (x5, m2))))
theorem nd_X4_copy : yX4_copy.cls ≠ "java/lang/invoke/MethodHandle" ∧ yX4_copy.cls ≠ "java/lang/invoke/VarHandle" ∧ (parseMethodDescriptor yX4_copy.desc).map (fun d => d.parameters.length) = some 5 := by decide +kernel
set_option maxHeartbeats 4000000 in
set_option maxRecDepth 100000 in
theorem c_X4_copy (l : Launch) (G : EN)  {p1 p2 p3 p4 p5 : Int32} {μ : MM} {r : Int32} {m : MM} (h : f_X4_copy p1 p2 p3 p4 p5 μ = some (r, m)) : XM l G yX4_copy cX4_copy 8 (some .int) 2 64 [.ref (G.2.1 0), .int p1, .int p2, .int p3, .int p4, .int p5] μ (some (.int r)) m := by
  refine x_met (own := RX4) (by decide +kernel) rfl (Nat.le_of_ble_eq_true rfl) (fun Γ A H ls hg C hr hX hQ hl => ?_)
  have hl : lv_has ls 8 [(0, .ref (G.2.1 0)), (1, .int p1), (2, .int p2), (3, .int p3), (4, .int p4), (5, .int p5)] := hl
  unfold f_X4_copy at h
  refine i_iload_n C dX4_copy_0 rfl (lv_at hl 1 rfl) ?_
  obtain ⟨x1, e1, h⟩ := w_bdr h
  refine x_callSi C hX (c_X4_isSheet (gl Γ) G  e1) [] rfl hl tw3_5 tw3_6 tw1_1 tw3_7 nd_X4_isSheet ⟨(Nat.le_of_ble_eq_true rfl), (Nat.le_of_ble_eq_true rfl)⟩ (Nat.le_of_ble_eq_true rfl) dX4_copy_1 (fun H locs hX => ?_)
  refine i_if_eq (tgt := 14) C h dX4_copy_4 (by decide) (fun _ h => ?_) (fun _ h => ?_)
  · refine i_aload_n C dX4_copy_14 rfl (lv_at hl 0 rfl) ?_
    refine i_ldc C tw1_204 dX4_copy_15 ?_
    obtain ⟨x2, m1, e2, h⟩ := w_bdw h
    refine x_callVi C hX (fg_0_0 G) (c_X4_finding (gl Γ) G  e2) [] rfl hl tw1_205 tw1_207 ts1_0 tw1_1 tw1_208 rfl nd_X4_finding ⟨(Nat.le_of_ble_eq_true rfl), (Nat.le_of_ble_eq_true rfl)⟩ (Nat.le_of_ble_eq_true rfl) dX4_copy_17 (fun H locs hX => ?_)
    exact x_iretW C hX hr hQ h dX4_copy_20
  refine i_iload_n C dX4_copy_7 rfl (lv_at hl 3 rfl) ?_
  obtain ⟨x3, e3, h⟩ := w_bdr h
  refine x_callSi C hX (c_X4_isSheet (gl Γ) G  e3) [] rfl hl tw3_5 tw3_6 tw1_1 tw3_7 nd_X4_isSheet ⟨(Nat.le_of_ble_eq_true rfl), (Nat.le_of_ble_eq_true rfl)⟩ (Nat.le_of_ble_eq_true rfl) dX4_copy_8 (fun H locs hX => ?_)
  refine i_if_ne (tgt := 21) C h dX4_copy_11 (by decide) (fun _ h => ?_) (fun _ h => ?_)
  · refine i_aload_n C dX4_copy_21 rfl (lv_at hl 0 rfl) ?_
    refine x_get C hX (fg_0_5 G) tw1_171 dX4_copy_22 ?_
    refine i_iload_n C dX4_copy_25 rfl (lv_at hl 1 rfl) ?_
    refine x_aald C hX (aq_25 G) rfl h dX4_copy_26 (fun j1 hj1 h => ?_)
    refine i_astore C [(6, .ref (G.2.1 (26 + 2 * j1))), (0, .ref (G.2.1 0)), (1, .int p1), (2, .int p2), (3, .int p3), (4, .int p4), (5, .int p5)] dX4_copy_27 hl (by decide) rfl (fun ls hl => ?_)
    refine i_aload_n C dX4_copy_29 rfl (lv_at hl 1 rfl) ?_
    refine x_get C hX (fg_0_5 G) tw1_171 dX4_copy_30 ?_
    refine i_iload_n C dX4_copy_33 rfl (lv_at hl 4 rfl) ?_
    refine x_aald C hX (aq_25 G) rfl h dX4_copy_34 (fun j2 hj2 h => ?_)
    refine i_astore C [(7, .ref (G.2.1 (26 + 2 * j2))), (6, .ref (G.2.1 (26 + 2 * j1))), (0, .ref (G.2.1 0)), (1, .int p1), (2, .int p2), (3, .int p3), (4, .int p4), (5, .int p5)] dX4_copy_35 hl (by decide) rfl (fun ls hl => ?_)
    refine i_aload C dX4_copy_37 (lv_at hl 1 rfl) ?_
    obtain ⟨x4, e4, h⟩ := w_bdr h
    refine x_callVi C hX (fg_S_0 G (iS_of hj1)) (c_X2_isMissing (gl Γ) G (iS_of hj1) e4) [] rfl hl tw3_8 tw3_9 tw3_10 tw1_6 tw3_11 rfl nd_X2_isMissing ⟨(Nat.le_of_ble_eq_true rfl), (Nat.le_of_ble_eq_true rfl)⟩ (Nat.le_of_ble_eq_true rfl) dX4_copy_39 (fun H locs hX => ?_)
    refine i_if_ne (tgt := 53) C h dX4_copy_42 (by decide) (fun _ h => ?_) (fun _ h => ?_)
    · refine i_aload_n C dX4_copy_53 rfl (lv_at hl 2 rfl) ?_
      refine i_ldcw C tw3_12 dX4_copy_54 ?_
      obtain ⟨x5, m2, e5, h⟩ := w_bdw h
      refine x_callVi C hX (fg_0_0 G) (c_X4_finding (gl Γ) G  e5) [] rfl hl tw1_205 tw1_207 ts1_0 tw1_1 tw1_208 rfl nd_X4_finding ⟨(Nat.le_of_ble_eq_true rfl), (Nat.le_of_ble_eq_true rfl)⟩ (Nat.le_of_ble_eq_true rfl) dX4_copy_57 (fun H locs hX => ?_)
      exact x_iretW C hX hr hQ h dX4_copy_60
    refine i_aload C dX4_copy_45 (lv_at hl 0 rfl) ?_
    obtain ⟨x6, e6, h⟩ := w_bdr h
    refine x_callVi C hX (fg_S_0 G (iS_of hj2)) (c_X2_isMissing (gl Γ) G (iS_of hj2) e6) [] rfl hl tw3_8 tw3_9 tw3_10 tw1_6 tw3_11 rfl nd_X2_isMissing ⟨(Nat.le_of_ble_eq_true rfl), (Nat.le_of_ble_eq_true rfl)⟩ (Nat.le_of_ble_eq_true rfl) dX4_copy_47 (fun H locs hX => ?_)
    refine i_if_eq (tgt := 61) C h dX4_copy_50 (by decide) (fun _ h => ?_) (fun _ h => ?_)
    · refine i_aload C dX4_copy_61 (lv_at hl 1 rfl) ?_
      refine x_get C hX (fg_S_0 G (iS_of hj1)) tw1_154 dX4_copy_63 ?_
      refine i_aload C dX4_copy_66 (lv_at hl 0 rfl) ?_
      refine x_get C hX (fg_S_0 G (iS_of hj2)) tw1_154 dX4_copy_68 ?_
      refine i_icmp_eq (tgt := 82) C h dX4_copy_71 (by decide) (fun _ h => ?_) (fun _ h => ?_)
      · refine i_aload C dX4_copy_82 (lv_at hl 1 rfl) ?_
        refine i_iload_n C dX4_copy_84 rfl (lv_at hl 4 rfl) ?_
        refine i_iload C dX4_copy_85 (lv_at hl 7 rfl) ?_
        obtain ⟨x7, e7, h⟩ := w_bdr h
        refine x_callVi C hX (fg_S_0 G (iS_of hj1)) (c_X2_has (gl Γ) G (iS_of hj1) e7) [] rfl hl tw4_23 tw4_24 tw4_25 tw1_6 tw4_26 rfl nd_X2_has ⟨(Nat.le_of_ble_eq_true rfl), (Nat.le_of_ble_eq_true rfl)⟩ (Nat.le_of_ble_eq_true rfl) dX4_copy_87 (fun H locs hX => ?_)
        refine i_if_eq (tgt := 105) C h dX4_copy_90 (by decide) (fun _ h => ?_) (fun _ h => ?_)
        · refine i_aload_n C dX4_copy_105 rfl (lv_at hl 2 rfl) ?_
          refine i_ldc C tw1_204 dX4_copy_106 ?_
          obtain ⟨x8, m3, e8, h⟩ := w_bdw h
          refine x_callVi C hX (fg_0_0 G) (c_X4_finding (gl Γ) G  e8) [] rfl hl tw1_205 tw1_207 ts1_0 tw1_1 tw1_208 rfl nd_X4_finding ⟨(Nat.le_of_ble_eq_true rfl), (Nat.le_of_ble_eq_true rfl)⟩ (Nat.le_of_ble_eq_true rfl) dX4_copy_108 (fun H locs hX => ?_)
          exact x_iretW C hX hr hQ h dX4_copy_111
        refine i_aload C dX4_copy_93 (lv_at hl 0 rfl) ?_
        refine i_iload C dX4_copy_95 (lv_at hl 6 rfl) ?_
        refine i_iload C dX4_copy_97 (lv_at hl 7 rfl) ?_
        obtain ⟨x9, e9, h⟩ := w_bdr h
        refine x_callVi C hX (fg_S_0 G (iS_of hj2)) (c_X2_has (gl Γ) G (iS_of hj2) e9) [] rfl hl tw4_23 tw4_24 tw4_25 tw1_6 tw4_26 rfl nd_X2_has ⟨(Nat.le_of_ble_eq_true rfl), (Nat.le_of_ble_eq_true rfl)⟩ (Nat.le_of_ble_eq_true rfl) dX4_copy_99 (fun H locs hX => ?_)
        refine i_if_ne (tgt := 112) C h dX4_copy_102 (by decide) (fun _ h => ?_) (fun _ h => ?_)
        · refine i_aload C dX4_copy_112 (lv_at hl 1 rfl) ?_
          refine x_get C hX (fg_S_2 G (iS_of hj1)) tw1_158 dX4_copy_114 ?_
          refine i_iload_n C dX4_copy_117 rfl (lv_at hl 4 rfl) ?_
          refine i_aload C dX4_copy_118 (lv_at hl 0 rfl) ?_
          refine x_get C hX (fg_S_2 G (iS_of hj2)) tw1_158 dX4_copy_120 ?_
          refine i_iload C dX4_copy_123 (lv_at hl 6 rfl) ?_
          refine i_iload C dX4_copy_125 (lv_at hl 7 rfl) ?_
          refine x_acopy C hX (ai_S G (iS_of hj1)) (ai_S G (iS_of hj2)) h hl tw2_135 tw2_137 tw2_136 tw1_10 (Nat.le_of_ble_eq_true rfl) (Nat.le_of_ble_eq_true rfl) dX4_copy_127 (fun H locs m4 h hX => ?_)
          refine i_iload C dX4_copy_130 (lv_at hl 7 rfl) ?_
          exact x_iretW C hX hr hQ h dX4_copy_132
        refine i_aload_n C dX4_copy_105 rfl (lv_at hl 2 rfl) ?_
        refine i_ldc C tw1_204 dX4_copy_106 ?_
        obtain ⟨x10, m5, e10, h⟩ := w_bdw h
        refine x_callVi C hX (fg_0_0 G) (c_X4_finding (gl Γ) G  e10) [] rfl hl tw1_205 tw1_207 ts1_0 tw1_1 tw1_208 rfl nd_X4_finding ⟨(Nat.le_of_ble_eq_true rfl), (Nat.le_of_ble_eq_true rfl)⟩ (Nat.le_of_ble_eq_true rfl) dX4_copy_108 (fun H locs hX => ?_)
        exact x_iretW C hX hr hQ h dX4_copy_111
      refine i_aload_n C dX4_copy_74 rfl (lv_at hl 2 rfl) ?_
      refine i_ldcw C tw4_0 dX4_copy_75 ?_
      obtain ⟨x11, m6, e11, h⟩ := w_bdw h
      refine x_callVi C hX (fg_0_0 G) (c_X4_finding (gl Γ) G  e11) [] rfl hl tw1_205 tw1_207 ts1_0 tw1_1 tw1_208 rfl nd_X4_finding ⟨(Nat.le_of_ble_eq_true rfl), (Nat.le_of_ble_eq_true rfl)⟩ (Nat.le_of_ble_eq_true rfl) dX4_copy_78 (fun H locs hX => ?_)
      exact x_iretW C hX hr hQ h dX4_copy_81
    refine i_aload_n C dX4_copy_53 rfl (lv_at hl 2 rfl) ?_
    refine i_ldcw C tw3_12 dX4_copy_54 ?_
    obtain ⟨x12, m7, e12, h⟩ := w_bdw h
    refine x_callVi C hX (fg_0_0 G) (c_X4_finding (gl Γ) G  e12) [] rfl hl tw1_205 tw1_207 ts1_0 tw1_1 tw1_208 rfl nd_X4_finding ⟨(Nat.le_of_ble_eq_true rfl), (Nat.le_of_ble_eq_true rfl)⟩ (Nat.le_of_ble_eq_true rfl) dX4_copy_57 (fun H locs hX => ?_)
    exact x_iretW C hX hr hQ h dX4_copy_60
  refine i_aload_n C dX4_copy_14 rfl (lv_at hl 0 rfl) ?_
  refine i_ldc C tw1_204 dX4_copy_15 ?_
  obtain ⟨x13, m8, e13, h⟩ := w_bdw h
  refine x_callVi C hX (fg_0_0 G) (c_X4_finding (gl Γ) G  e13) [] rfl hl tw1_205 tw1_207 ts1_0 tw1_1 tw1_208 rfl nd_X4_finding ⟨(Nat.le_of_ble_eq_true rfl), (Nat.le_of_ble_eq_true rfl)⟩ (Nat.le_of_ble_eq_true rfl) dX4_copy_17 (fun H locs hX => ?_)
  exact x_iretW C hX hr hQ h dX4_copy_20
def L_X4_load_17 (p1 : Int32) : Nat → Int32 → Int32 → MM → Option (Int32 × MM)
  | 0, _, _, _ => none
  | fu + 1, x2, x3, m2 => ldq 4 p1 fun j1 => if (m2 (26 + 2 * j1) 1) ≤ x3 then (some (x2, m2)) else (if (m2 1 0) ≤ x3 then (some (x2, m2)) else (ldq 4 p1 fun j2 => ldi m2 ((26 + 2 * j2) + 1) 40 x3 fun x4 => bdr (f_X4_isWithin x4 0 99) fun x5 => if x5 = 0 then (some (x2, m2)) else (sti m2 3 8 x3 x4 fun m3 => lt_ (x2 + 1) fun x6 => lt_ (x3 + 1) fun x7 => L_X4_load_17 p1 fu x6 x7 m3)))
def f_X4_load (p1 : Int32) (μ : MM) : Option (Int32 × MM) := bdw (f_X4_wrongSheet p1 μ) fun x1 m1 => if x1 = 0 then (L_X4_load_17 p1 FU 0 0 m1) else (some (x1, m1))
theorem nd_X4_load : yX4_load.cls ≠ "java/lang/invoke/MethodHandle" ∧ yX4_load.cls ≠ "java/lang/invoke/VarHandle" ∧ (parseMethodDescriptor yX4_load.desc).map (fun d => d.parameters.length) = some 1 := by decide +kernel
set_option maxHeartbeats 4000000 in
set_option maxRecDepth 100000 in
theorem c_X4_load (l : Launch) (G : EN)  {p1 : Int32} {μ : MM} {r : Int32} {m : MM} (h : f_X4_load p1 μ = some (r, m)) : XM l G yX4_load cX4_load 6 (some .int) 3 63 [.ref (G.2.1 0), .int p1] μ (some (.int r)) m := by
  refine x_met (own := RX4) (by decide +kernel) rfl (Nat.le_of_ble_eq_true rfl) (fun Γ A H ls hg C hr hX hQ hl => ?_)
  have hl : lv_has ls 6 [(0, .ref (G.2.1 0)), (1, .int p1)] := hl
  unfold f_X4_load at h
  refine i_aload_n C dX4_load_0 rfl (lv_at hl 0 rfl) ?_
  refine i_iload_n C dX4_load_1 rfl (lv_at hl 1 rfl) ?_
  obtain ⟨x1, m1, e1, h⟩ := w_bdw h
  refine x_callVi C hX (fg_0_0 G) (c_X4_wrongSheet (gl Γ) G  e1) [] rfl hl tw3_1 tw3_3 ts1_12 tw1_1 tw3_4 rfl nd_X4_wrongSheet ⟨(Nat.le_of_ble_eq_true rfl), (Nat.le_of_ble_eq_true rfl)⟩ (Nat.le_of_ble_eq_true rfl) dX4_load_2 (fun H locs hX => ?_)
  refine i_istore_n C [(2, .int x1), (0, .ref (G.2.1 0)), (1, .int p1)] dX4_load_5 rfl hl (by decide) rfl (fun ls hl => ?_)
  refine i_iload_n C dX4_load_6 rfl (lv_at hl 0 rfl) ?_
  refine i_if_eq (tgt := 12) C h dX4_load_7 (by decide) (fun _ h => ?_) (fun _ h => ?_)
  · refine i_iconst (v := 0) C dX4_load_12 rfl ?_
    refine i_istore_n C [(3, .int 0), (2, .int x1), (0, .ref (G.2.1 0)), (1, .int p1)] dX4_load_13 rfl hl (by decide) rfl (fun ls hl => ?_)
    refine i_iconst (v := 0) C dX4_load_14 rfl ?_
    refine i_istore C [(4, .int 0), (3, .int 0), (2, .int x1), (0, .ref (G.2.1 0)), (1, .int p1)] dX4_load_15 hl (by decide) rfl (fun ls hl => ?_)
    have L1 : ∀ (fu : Nat) (x2 : Int32) (x3 : Int32) (m2 : MM) (H : Heap) (locs : List Loc) (ls : Array Slot), L_X4_load_17 p1 fu x2 x3 m2 = some (r, m) → lv_has ls 6 [(0, .ref (G.2.1 0)), (1, .int p1), (3, .int x2), (4, .int x3)] → XW G A (gs Γ) H locs m2 → WX Γ H locs 17 ls [] := by
      intro fu
      induction fu with
      | zero =>
        intro x2 x3 m2 H locs ls h
        rw [L_X4_load_17] at h
        cases h
      | succ fu ih =>
        intro x2 x3 m2 H locs ls h hl hX
        rw [L_X4_load_17] at h
        refine i_iload C dX4_load_17 (lv_at hl 3 rfl) ?_
        refine i_aload_n C dX4_load_19 rfl (lv_at hl 0 rfl) ?_
        refine x_get C hX (fg_0_5 G) tw1_171 dX4_load_20 ?_
        refine i_iload_n C dX4_load_23 rfl (lv_at hl 1 rfl) ?_
        refine x_aald C hX (aq_25 G) rfl h dX4_load_24 (fun j1 hj1 h => ?_)
        refine x_get C hX (fg_S_1 G (iS_of hj1)) tw1_156 dX4_load_25 ?_
        refine i_icmp_ge (tgt := 92) C h dX4_load_28 (by decide) (fun _ h => ?_) (fun _ h => ?_)
        · refine i_iload_n C dX4_load_92 rfl (lv_at hl 2 rfl) ?_
          exact x_iretW C hX hr hQ h dX4_load_93
        refine i_iload C dX4_load_31 (lv_at hl 3 rfl) ?_
        refine i_aload_n C dX4_load_33 rfl (lv_at hl 0 rfl) ?_
        refine x_get C hX (fg_0_0 G) tw1_166 dX4_load_34 ?_
        refine x_get C hX (fg_1_0 G) tw1_33 dX4_load_37 ?_
        refine i_icmp_ge (tgt := 92) C h dX4_load_40 (by decide) (fun _ h => ?_) (fun _ h => ?_)
        · refine i_iload_n C dX4_load_92 rfl (lv_at hl 2 rfl) ?_
          exact x_iretW C hX hr hQ h dX4_load_93
        refine i_aload_n C dX4_load_43 rfl (lv_at hl 0 rfl) ?_
        refine x_get C hX (fg_0_5 G) tw1_171 dX4_load_44 ?_
        refine i_iload_n C dX4_load_47 rfl (lv_at hl 1 rfl) ?_
        refine x_aald C hX (aq_25 G) rfl h dX4_load_48 (fun j2 hj2 h => ?_)
        refine x_get C hX (fg_S_2 G (iS_of hj2)) tw1_158 dX4_load_49 ?_
        refine i_iload C dX4_load_52 (lv_at hl 3 rfl) ?_
        refine x_iald C hX (ai_S G (iS_of hj2)) h dX4_load_54 (fun x4 h => ?_)
        refine i_istore C [(5, .int x4), (0, .ref (G.2.1 0)), (1, .int p1), (3, .int x2), (4, .int x3)] dX4_load_55 hl (by decide) rfl (fun ls hl => ?_)
        refine i_iload C dX4_load_57 (lv_at hl 0 rfl) ?_
        refine i_iconst (v := 0) C dX4_load_59 rfl ?_
        refine i_bipush (v := 99) C dX4_load_60 rfl ?_
        obtain ⟨x5, e2, h⟩ := w_bdr h
        refine x_callSi C hX (c_X4_isWithin (gl Γ) G  e2) [] rfl hl tw1_201 tw1_202 tw1_1 tw1_203 nd_X4_isWithin ⟨(Nat.le_of_ble_eq_true rfl), (Nat.le_of_ble_eq_true rfl)⟩ (Nat.le_of_ble_eq_true rfl) dX4_load_62 (fun H locs hX => ?_)
        refine i_if_ne (tgt := 71) C h dX4_load_65 (by decide) (fun _ h => ?_) (fun _ h => ?_)
        · refine i_aload_n C dX4_load_71 rfl (lv_at hl 1 rfl) ?_
          refine x_get C hX (fg_0_0 G) tw1_166 dX4_load_72 ?_
          refine x_get C hX (fg_1_2 G) tw1_38 dX4_load_75 ?_
          refine i_iload C dX4_load_78 (lv_at hl 4 rfl) ?_
          refine i_iload C dX4_load_80 (lv_at hl 0 rfl) ?_
          refine x_iast C hX (ai_3 G) h dX4_load_82 (fun H locs m3 h hX => ?_)
          refine i_iinc C (j := 3) (fun x6 => [(3, .int x6), (5, .int x4), (0, .ref (G.2.1 0)), (1, .int p1), (4, .int x3)]) h dX4_load_83 hl rfl rfl (by decide) (fun _ => rfl) (fun x6 ls h hl => ?_)
          refine i_iinc C (j := 4) (fun x7 => [(4, .int x7), (3, .int x6), (5, .int x4), (0, .ref (G.2.1 0)), (1, .int p1)]) h dX4_load_86 hl rfl rfl (by decide) (fun _ => rfl) (fun x7 ls h hl => ?_)
          refine i_goto (tgt := 17) C dX4_load_89 (by decide) ?_
          exact ih _ _ _ _ _ _ h (lv_sub hl [3, 4, 1, 0] rfl) hX
        refine i_goto (tgt := 92) C dX4_load_68 (by decide) ?_
        refine i_iload_n C dX4_load_92 rfl (lv_at hl 3 rfl) ?_
        exact x_iretW C hX hr hQ h dX4_load_93
    exact L1 FU _ _ _ _ _ _ h (lv_sub hl [3, 4, 1, 0] rfl) hX
  refine i_iload_n C dX4_load_10 rfl (lv_at hl 0 rfl) ?_
  exact x_iretW C hX hr hQ h dX4_load_11
def L_X4_judge_25 (p1 : Int32) (m1 : MM) : Nat → Int32 → Int32 → Option (Int32 × MM)
  | 0, _, _ => none
  | fu + 1, x3, x4 => ldq 4 p1 fun j1 => if (m1 (26 + 2 * j1) 1) ≤ x4 then (some (0, m1)) else (ldq 4 p1 fun j2 => ldi m1 ((26 + 2 * j2) + 1) 40 x4 fun x5 => if x5 = x3 then (bdr (f_X0_nextOf 0 x3 x4 m1) fun x6 => lt_ (x4 + 1) fun x7 => L_X4_judge_25 p1 m1 fu x6 x7) else (some ((1 + x4), m1)))
def f_X4_judge (p1 : Int32) (μ : MM) : Option (Int32 × MM) := bdw (f_X4_wrongSheet p1 μ) fun x1 m1 => if x1 = 0 then (ldi m1 5 4 0 fun x2 => L_X4_judge_25 p1 m1 FU x2 0) else (some (x1, m1))
theorem nd_X4_judge : yX4_judge.cls ≠ "java/lang/invoke/MethodHandle" ∧ yX4_judge.cls ≠ "java/lang/invoke/VarHandle" ∧ (parseMethodDescriptor yX4_judge.desc).map (fun d => d.parameters.length) = some 1 := by decide +kernel
set_option maxHeartbeats 4000000 in
set_option maxRecDepth 100000 in
theorem c_X4_judge (l : Launch) (G : EN)  {p1 : Int32} {μ : MM} {r : Int32} {m : MM} (h : f_X4_judge p1 μ = some (r, m)) : XM l G yX4_judge cX4_judge 5 (some .int) 4 99 [.ref (G.2.1 0), .int p1] μ (some (.int r)) m := by
  refine x_met (own := RX4) (by decide +kernel) rfl (Nat.le_of_ble_eq_true rfl) (fun Γ A H ls hg C hr hX hQ hl => ?_)
  have hl : lv_has ls 5 [(0, .ref (G.2.1 0)), (1, .int p1)] := hl
  unfold f_X4_judge at h
  refine i_aload_n C dX4_judge_0 rfl (lv_at hl 0 rfl) ?_
  refine i_iload_n C dX4_judge_1 rfl (lv_at hl 1 rfl) ?_
  obtain ⟨x1, m1, e1, h⟩ := w_bdw h
  refine x_callVi C hX (fg_0_0 G) (c_X4_wrongSheet (gl Γ) G  e1) [] rfl hl tw3_1 tw3_3 ts1_12 tw1_1 tw3_4 rfl nd_X4_wrongSheet ⟨(Nat.le_of_ble_eq_true rfl), (Nat.le_of_ble_eq_true rfl)⟩ (Nat.le_of_ble_eq_true rfl) dX4_judge_2 (fun H locs hX => ?_)
  refine i_istore_n C [(2, .int x1), (0, .ref (G.2.1 0)), (1, .int p1)] dX4_judge_5 rfl hl (by decide) rfl (fun ls hl => ?_)
  refine i_iload_n C dX4_judge_6 rfl (lv_at hl 0 rfl) ?_
  refine i_if_eq (tgt := 12) C h dX4_judge_7 (by decide) (fun _ h => ?_) (fun _ h => ?_)
  · refine i_aload_n C dX4_judge_12 rfl (lv_at hl 1 rfl) ?_
    refine x_get C hX (fg_0_0 G) tw1_166 dX4_judge_13 ?_
    refine x_get C hX (fg_1_4 G) tw1_42 dX4_judge_16 ?_
    refine i_iconst (v := 0) C dX4_judge_19 rfl ?_
    refine x_iald C hX (ai_5 G) h dX4_judge_20 (fun x2 h => ?_)
    refine i_istore_n C [(3, .int x2), (2, .int x1), (0, .ref (G.2.1 0)), (1, .int p1)] dX4_judge_21 rfl hl (by decide) rfl (fun ls hl => ?_)
    refine i_iconst (v := 0) C dX4_judge_22 rfl ?_
    refine i_istore C [(4, .int 0), (3, .int x2), (2, .int x1), (0, .ref (G.2.1 0)), (1, .int p1)] dX4_judge_23 hl (by decide) rfl (fun ls hl => ?_)
    have L1 : ∀ (fu : Nat) (x3 : Int32) (x4 : Int32) (H : Heap) (locs : List Loc) (ls : Array Slot), L_X4_judge_25 p1 m1 fu x3 x4 = some (r, m) → lv_has ls 5 [(0, .ref (G.2.1 0)), (1, .int p1), (3, .int x3), (4, .int x4)] → XW G A (gs Γ) H locs m1 → WX Γ H locs 25 ls [] := by
      intro fu
      induction fu with
      | zero =>
        intro x3 x4 H locs ls h
        rw [L_X4_judge_25] at h
        cases h
      | succ fu ih =>
        intro x3 x4 H locs ls h hl hX
        rw [L_X4_judge_25] at h
        refine i_iload C dX4_judge_25 (lv_at hl 3 rfl) ?_
        refine i_aload_n C dX4_judge_27 rfl (lv_at hl 0 rfl) ?_
        refine x_get C hX (fg_0_5 G) tw1_171 dX4_judge_28 ?_
        refine i_iload_n C dX4_judge_31 rfl (lv_at hl 1 rfl) ?_
        refine x_aald C hX (aq_25 G) rfl h dX4_judge_32 (fun j1 hj1 h => ?_)
        refine x_get C hX (fg_S_1 G (iS_of hj1)) tw1_156 dX4_judge_33 ?_
        refine i_icmp_ge (tgt := 78) C h dX4_judge_36 (by decide) (fun _ h => ?_) (fun _ h => ?_)
        · refine i_iconst (v := 0) C dX4_judge_78 rfl ?_
          exact x_iretW C hX hr hQ h dX4_judge_79
        refine i_aload_n C dX4_judge_39 rfl (lv_at hl 0 rfl) ?_
        refine x_get C hX (fg_0_5 G) tw1_171 dX4_judge_40 ?_
        refine i_iload_n C dX4_judge_43 rfl (lv_at hl 1 rfl) ?_
        refine x_aald C hX (aq_25 G) rfl h dX4_judge_44 (fun j2 hj2 h => ?_)
        refine x_get C hX (fg_S_2 G (iS_of hj2)) tw1_158 dX4_judge_45 ?_
        refine i_iload C dX4_judge_48 (lv_at hl 3 rfl) ?_
        refine x_iald C hX (ai_S G (iS_of hj2)) h dX4_judge_50 (fun x5 h => ?_)
        refine i_iload_n C dX4_judge_51 rfl (lv_at hl 2 rfl) ?_
        refine i_icmp_eq (tgt := 60) C h dX4_judge_52 (by decide) (fun _ h => ?_) (fun _ h => ?_)
        · refine i_aload_n C dX4_judge_60 rfl (lv_at hl 0 rfl) ?_
          refine x_get C hX (fg_0_0 G) tw1_166 dX4_judge_61 ?_
          refine i_iconst (v := 0) C dX4_judge_64 rfl ?_
          refine i_iload_n C dX4_judge_65 rfl (lv_at hl 2 rfl) ?_
          refine i_iload C dX4_judge_66 (lv_at hl 3 rfl) ?_
          obtain ⟨x6, e2, h⟩ := w_bdr h
          refine x_callVi C hX (fg_1_0 G) (c_X0_nextOf (gl Γ) G  e2) [] rfl hl tw2_20 tw2_21 tw2_22 tw1_2 tw2_23 rfl nd_X0_nextOf ⟨(Nat.le_of_ble_eq_true rfl), (Nat.le_of_ble_eq_true rfl)⟩ (Nat.le_of_ble_eq_true rfl) dX4_judge_68 (fun H locs hX => ?_)
          refine i_istore_n C [(3, .int x6), (0, .ref (G.2.1 0)), (1, .int p1), (4, .int x4)] dX4_judge_71 rfl hl (by decide) rfl (fun ls hl => ?_)
          refine i_iinc C (j := 3) (fun x7 => [(4, .int x7), (3, .int x6), (0, .ref (G.2.1 0)), (1, .int p1)]) h dX4_judge_72 hl rfl rfl (by decide) (fun _ => rfl) (fun x7 ls h hl => ?_)
          refine i_goto (tgt := 25) C dX4_judge_75 (by decide) ?_
          exact ih _ _ _ _ _ h (lv_sub hl [2, 3, 1, 0] rfl) hX
        refine i_iconst (v := 1) C dX4_judge_55 rfl ?_
        refine i_iload C dX4_judge_56 (lv_at hl 3 rfl) ?_
        refine i_iadd C dX4_judge_58 ?_
        exact x_iretW C hX hr hQ h dX4_judge_59
    exact L1 FU _ _ _ _ _ h (lv_sub hl [3, 4, 1, 0] rfl) hX
  refine i_iload_n C dX4_judge_10 rfl (lv_at hl 0 rfl) ?_
  exact x_iretW C hX hr hQ h dX4_judge_11
def L_X0_become_10_1_97 (k1 : MM → Option MM) : Nat → Int32 → MM → Option MM
  | 0, _, _ => none
  | fu + 1, x1, m15 => if 100 ≤ x1 then (k1 m15) else (ldi m15 8 100 x1 fun x2 => stz m15 17 100 x1 x2 fun m16 => lt_ (x1 + 1) fun x3 => L_X0_become_10_1_97 k1 fu x3 m16)
def f_X0_become_10_1 (μ : MM) : Option MM := lt_ (wst μ 10 0 (μ 1 0)) fun m1 => acp m1 2 8 11 8 0 0 8 fun m2 => acp m2 3 8 12 8 0 0 8 fun m3 => acp m3 4 8 13 8 0 0 8 fun m4 => acp m4 5 4 14 4 0 0 4 fun m5 => acp m5 6 4 15 4 0 0 4 fun m6 => acp m6 7 4 16 4 0 0 4 fun m7 => jn1 (fun (m8 : MM) => lt_ (wst m8 10 8 (m8 1 8)) fun m9 => lt_ (wst m9 10 9 (m9 1 9)) fun m10 => lt_ (wst m10 10 10 (m10 1 10)) fun m11 => lt_ (wst m11 10 11 (m11 1 11)) fun m12 => lt_ (wst m12 10 12 (m12 1 12)) fun m13 => acp m13 9 10 18 10 0 0 10 fun m14 => some m14) fun k1 => L_X0_become_10_1_97 k1 FU 0 m7
set_option maxHeartbeats 4000000 in
set_option maxRecDepth 100000 in
theorem c_X0_become_10_1 (l : Launch) (G : EN)  {μ : MM} {r : MM} (h : f_X0_become_10_1 μ = some r) : XM l G yX0_become cX0_become 3 none 1 64 [.ref (G.2.1 10), .ref (G.2.1 1)] μ none r := by
  refine x_met (own := RX0) (by decide +kernel) rfl (Nat.le_of_ble_eq_true rfl) (fun Γ A H ls hg C hr hX hQ hl => ?_)
  have hl : lv_has ls 3 [(0, .ref (G.2.1 10)), (1, .ref (G.2.1 1))] := hl
  unfold f_X0_become_10_1 at h
  refine i_aload_n C dX0_become_0 rfl (lv_at hl 0 rfl) ?_
  refine i_aload_n C dX0_become_1 rfl (lv_at hl 1 rfl) ?_
  refine x_get C hX (fg_1_0 G) tw1_32 dX0_become_2 ?_
  refine x_putI C hX (fp_10_0 G) h tw1_32 dX0_become_5 (fun H locs m1 h hX => ?_)
  refine i_aload_n C dX0_become_8 rfl (lv_at hl 1 rfl) ?_
  refine x_get C hX (fg_1_1 G) tw1_35 dX0_become_9 ?_
  refine i_iconst (v := 0) C dX0_become_12 rfl ?_
  refine i_aload_n C dX0_become_13 rfl (lv_at hl 0 rfl) ?_
  refine x_get C hX (fg_10_1 G) tw1_35 dX0_become_14 ?_
  refine i_iconst (v := 0) C dX0_become_17 rfl ?_
  refine i_bipush (v := 8) C dX0_become_18 rfl ?_
  refine x_acopy C hX (ai_2 G) (ai_11 G) h hl tw4_43 tw2_137 tw2_136 tw1_10 (Nat.le_of_ble_eq_true rfl) (Nat.le_of_ble_eq_true rfl) dX0_become_20 (fun H locs m2 h hX => ?_)
  refine i_aload_n C dX0_become_23 rfl (lv_at hl 1 rfl) ?_
  refine x_get C hX (fg_1_2 G) tw1_37 dX0_become_24 ?_
  refine i_iconst (v := 0) C dX0_become_27 rfl ?_
  refine i_aload_n C dX0_become_28 rfl (lv_at hl 0 rfl) ?_
  refine x_get C hX (fg_10_2 G) tw1_37 dX0_become_29 ?_
  refine i_iconst (v := 0) C dX0_become_32 rfl ?_
  refine i_bipush (v := 8) C dX0_become_33 rfl ?_
  refine x_acopy C hX (ai_3 G) (ai_12 G) h hl tw4_43 tw2_137 tw2_136 tw1_10 (Nat.le_of_ble_eq_true rfl) (Nat.le_of_ble_eq_true rfl) dX0_become_35 (fun H locs m3 h hX => ?_)
  refine i_aload_n C dX0_become_38 rfl (lv_at hl 1 rfl) ?_
  refine x_get C hX (fg_1_3 G) tw1_39 dX0_become_39 ?_
  refine i_iconst (v := 0) C dX0_become_42 rfl ?_
  refine i_aload_n C dX0_become_43 rfl (lv_at hl 0 rfl) ?_
  refine x_get C hX (fg_10_3 G) tw1_39 dX0_become_44 ?_
  refine i_iconst (v := 0) C dX0_become_47 rfl ?_
  refine i_bipush (v := 8) C dX0_become_48 rfl ?_
  refine x_acopy C hX (ai_4 G) (ai_13 G) h hl tw4_43 tw2_137 tw2_136 tw1_10 (Nat.le_of_ble_eq_true rfl) (Nat.le_of_ble_eq_true rfl) dX0_become_50 (fun H locs m4 h hX => ?_)
  refine i_aload_n C dX0_become_53 rfl (lv_at hl 1 rfl) ?_
  refine x_get C hX (fg_1_4 G) tw1_41 dX0_become_54 ?_
  refine i_iconst (v := 0) C dX0_become_57 rfl ?_
  refine i_aload_n C dX0_become_58 rfl (lv_at hl 0 rfl) ?_
  refine x_get C hX (fg_10_4 G) tw1_41 dX0_become_59 ?_
  refine i_iconst (v := 0) C dX0_become_62 rfl ?_
  refine i_iconst (v := 4) C dX0_become_63 rfl ?_
  refine x_acopy C hX (ai_5 G) (ai_14 G) h hl tw4_43 tw2_137 tw2_136 tw1_10 (Nat.le_of_ble_eq_true rfl) (Nat.le_of_ble_eq_true rfl) dX0_become_64 (fun H locs m5 h hX => ?_)
  refine i_aload_n C dX0_become_67 rfl (lv_at hl 1 rfl) ?_
  refine x_get C hX (fg_1_5 G) tw1_44 dX0_become_68 ?_
  refine i_iconst (v := 0) C dX0_become_71 rfl ?_
  refine i_aload_n C dX0_become_72 rfl (lv_at hl 0 rfl) ?_
  refine x_get C hX (fg_10_5 G) tw1_44 dX0_become_73 ?_
  refine i_iconst (v := 0) C dX0_become_76 rfl ?_
  refine i_iconst (v := 4) C dX0_become_77 rfl ?_
  refine x_acopy C hX (ai_6 G) (ai_15 G) h hl tw4_43 tw2_137 tw2_136 tw1_10 (Nat.le_of_ble_eq_true rfl) (Nat.le_of_ble_eq_true rfl) dX0_become_78 (fun H locs m6 h hX => ?_)
  refine i_aload_n C dX0_become_81 rfl (lv_at hl 1 rfl) ?_
  refine x_get C hX (fg_1_6 G) tw1_47 dX0_become_82 ?_
  refine i_iconst (v := 0) C dX0_become_85 rfl ?_
  refine i_aload_n C dX0_become_86 rfl (lv_at hl 0 rfl) ?_
  refine x_get C hX (fg_10_6 G) tw1_47 dX0_become_87 ?_
  refine i_iconst (v := 0) C dX0_become_90 rfl ?_
  refine i_iconst (v := 4) C dX0_become_91 rfl ?_
  refine x_acopy C hX (ai_7 G) (ai_16 G) h hl tw4_43 tw2_137 tw2_136 tw1_10 (Nat.le_of_ble_eq_true rfl) (Nat.le_of_ble_eq_true rfl) dX0_become_92 (fun H locs m7 h hX => ?_)
  refine i_iconst (v := 0) C dX0_become_95 rfl ?_
  refine i_istore_n C [(2, .int 0), (0, .ref (G.2.1 10)), (1, .ref (G.2.1 1))] dX0_become_96 rfl hl (by decide) rfl (fun ls hl => ?_)
  refine w_jn1 (fun (m8 : MM) => ∀ (H : Heap) (locs : List Loc) (ls : Array Slot), lv_has ls 3 [(0, .ref (G.2.1 10)), (1, .ref (G.2.1 1))] → XW G A (gs Γ) H locs m8 → WX Γ H locs 121 ls []) h (fun m8 h H locs ls hl hX => ?_) (fun k1 J1 h => ?_)
  · refine i_aload_n C dX0_become_121 rfl (lv_at hl 0 rfl) ?_
    refine i_aload_n C dX0_become_122 rfl (lv_at hl 1 rfl) ?_
    refine x_get C hX (fg_1_8 G) tw1_53 dX0_become_123 ?_
    refine x_putI C hX (fp_10_8 G) h tw1_53 dX0_become_126 (fun H locs m9 h hX => ?_)
    refine i_aload_n C dX0_become_129 rfl (lv_at hl 0 rfl) ?_
    refine i_aload_n C dX0_become_130 rfl (lv_at hl 1 rfl) ?_
    refine x_get C hX (fg_1_9 G) tw1_56 dX0_become_131 ?_
    refine x_putI C hX (fp_10_9 G) h tw1_56 dX0_become_134 (fun H locs m10 h hX => ?_)
    refine i_aload_n C dX0_become_137 rfl (lv_at hl 0 rfl) ?_
    refine i_aload_n C dX0_become_138 rfl (lv_at hl 1 rfl) ?_
    refine x_get C hX (fg_1_10 G) tw1_59 dX0_become_139 ?_
    refine x_putI C hX (fp_10_10 G) h tw1_59 dX0_become_142 (fun H locs m11 h hX => ?_)
    refine i_aload_n C dX0_become_145 rfl (lv_at hl 0 rfl) ?_
    refine i_aload_n C dX0_become_146 rfl (lv_at hl 1 rfl) ?_
    refine x_get C hX (fg_1_11 G) tw1_62 dX0_become_147 ?_
    refine x_putI C hX (fp_10_11 G) h tw1_62 dX0_become_150 (fun H locs m12 h hX => ?_)
    refine i_aload_n C dX0_become_153 rfl (lv_at hl 0 rfl) ?_
    refine i_aload_n C dX0_become_154 rfl (lv_at hl 1 rfl) ?_
    refine x_get C hX (fg_1_12 G) tw1_64 dX0_become_155 ?_
    refine x_putI C hX (fp_10_12 G) h tw1_64 dX0_become_158 (fun H locs m13 h hX => ?_)
    refine i_aload_n C dX0_become_161 rfl (lv_at hl 1 rfl) ?_
    refine x_get C hX (fg_1_13 G) tw1_66 dX0_become_162 ?_
    refine i_iconst (v := 0) C dX0_become_165 rfl ?_
    refine i_aload_n C dX0_become_166 rfl (lv_at hl 0 rfl) ?_
    refine x_get C hX (fg_10_13 G) tw1_66 dX0_become_167 ?_
    refine i_iconst (v := 0) C dX0_become_170 rfl ?_
    refine i_bipush (v := 10) C dX0_become_171 rfl ?_
    refine x_acopy C hX (ai_9 G) (ai_18 G) h hl tw4_43 tw2_137 tw2_136 tw1_10 (Nat.le_of_ble_eq_true rfl) (Nat.le_of_ble_eq_true rfl) dX0_become_173 (fun H locs m14 h hX => ?_)
    exact x_vretV C hX hr hQ h dX0_become_176
  have L1 : ∀ (fu : Nat) (x1 : Int32) (m15 : MM) (H : Heap) (locs : List Loc) (ls : Array Slot), L_X0_become_10_1_97 k1 fu x1 m15 = some r → lv_has ls 3 [(0, .ref (G.2.1 10)), (1, .ref (G.2.1 1)), (2, .int x1)] → XW G A (gs Γ) H locs m15 → WX Γ H locs 97 ls [] := by
    intro fu
    induction fu with
    | zero =>
      intro x1 m15 H locs ls h
      rw [L_X0_become_10_1_97] at h
      cases h
    | succ fu ih =>
      intro x1 m15 H locs ls h hl hX
      rw [L_X0_become_10_1_97] at h
      refine i_iload_n C dX0_become_97 rfl (lv_at hl 2 rfl) ?_
      refine i_bipush (v := 100) C dX0_become_98 rfl ?_
      refine i_icmp_ge (tgt := 121) C h dX0_become_100 (by decide) (fun _ h => ?_) (fun _ h => ?_)
      · exact J1 _ h _ _ _ (lv_sub hl [0, 1] rfl) hX
      refine i_aload_n C dX0_become_103 rfl (lv_at hl 0 rfl) ?_
      refine x_get C hX (fg_10_7 G) tw1_50 dX0_become_104 ?_
      refine i_iload_n C dX0_become_107 rfl (lv_at hl 2 rfl) ?_
      refine i_aload_n C dX0_become_108 rfl (lv_at hl 1 rfl) ?_
      refine x_get C hX (fg_1_7 G) tw1_50 dX0_become_109 ?_
      refine i_iload_n C dX0_become_112 rfl (lv_at hl 2 rfl) ?_
      refine x_zald C hX (az_8 G) h dX0_become_113 (fun x2 h => ?_)
      refine x_zast C hX (az_17 G) h dX0_become_114 (fun H locs m16 h hX => ?_)
      refine i_iinc C (j := 2) (fun x3 => [(2, .int x3), (0, .ref (G.2.1 10)), (1, .ref (G.2.1 1))]) h dX0_become_115 hl rfl rfl (by decide) (fun _ => rfl) (fun x3 ls h hl => ?_)
      refine i_goto (tgt := 97) C dX0_become_118 (by decide) ?_
      exact ih _ _ _ _ _ h (lv_sub hl [1, 2, 0] rfl) hX
  exact L1 FU _ _ _ _ _ h (lv_sub hl [1, 2, 0] rfl) hX
def L_X0_become_1_10_97 (k1 : MM → Option MM) : Nat → Int32 → MM → Option MM
  | 0, _, _ => none
  | fu + 1, x1, m15 => if 100 ≤ x1 then (k1 m15) else (ldi m15 17 100 x1 fun x2 => stz m15 8 100 x1 x2 fun m16 => lt_ (x1 + 1) fun x3 => L_X0_become_1_10_97 k1 fu x3 m16)
def f_X0_become_1_10 (μ : MM) : Option MM := lt_ (wst μ 1 0 (μ 10 0)) fun m1 => acp m1 11 8 2 8 0 0 8 fun m2 => acp m2 12 8 3 8 0 0 8 fun m3 => acp m3 13 8 4 8 0 0 8 fun m4 => acp m4 14 4 5 4 0 0 4 fun m5 => acp m5 15 4 6 4 0 0 4 fun m6 => acp m6 16 4 7 4 0 0 4 fun m7 => jn1 (fun (m8 : MM) => lt_ (wst m8 1 8 (m8 10 8)) fun m9 => lt_ (wst m9 1 9 (m9 10 9)) fun m10 => lt_ (wst m10 1 10 (m10 10 10)) fun m11 => lt_ (wst m11 1 11 (m11 10 11)) fun m12 => lt_ (wst m12 1 12 (m12 10 12)) fun m13 => acp m13 18 10 9 10 0 0 10 fun m14 => some m14) fun k1 => L_X0_become_1_10_97 k1 FU 0 m7
theorem nd_X0_become : yX0_become.cls ≠ "java/lang/invoke/MethodHandle" ∧ yX0_become.cls ≠ "java/lang/invoke/VarHandle" ∧ (parseMethodDescriptor yX0_become.desc).map (fun d => d.parameters.length) = some 1 := by decide +kernel
set_option maxHeartbeats 4000000 in
set_option maxRecDepth 100000 in
theorem c_X0_become_1_10 (l : Launch) (G : EN)  {μ : MM} {r : MM} (h : f_X0_become_1_10 μ = some r) : XM l G yX0_become cX0_become 3 none 1 64 [.ref (G.2.1 1), .ref (G.2.1 10)] μ none r := by
  refine x_met (own := RX0) (by decide +kernel) rfl (Nat.le_of_ble_eq_true rfl) (fun Γ A H ls hg C hr hX hQ hl => ?_)
  have hl : lv_has ls 3 [(0, .ref (G.2.1 1)), (1, .ref (G.2.1 10))] := hl
  unfold f_X0_become_1_10 at h
  refine i_aload_n C dX0_become_0 rfl (lv_at hl 0 rfl) ?_
  refine i_aload_n C dX0_become_1 rfl (lv_at hl 1 rfl) ?_
  refine x_get C hX (fg_10_0 G) tw1_32 dX0_become_2 ?_
  refine x_putI C hX (fp_1_0 G) h tw1_32 dX0_become_5 (fun H locs m1 h hX => ?_)
  refine i_aload_n C dX0_become_8 rfl (lv_at hl 1 rfl) ?_
  refine x_get C hX (fg_10_1 G) tw1_35 dX0_become_9 ?_
  refine i_iconst (v := 0) C dX0_become_12 rfl ?_
  refine i_aload_n C dX0_become_13 rfl (lv_at hl 0 rfl) ?_
  refine x_get C hX (fg_1_1 G) tw1_35 dX0_become_14 ?_
  refine i_iconst (v := 0) C dX0_become_17 rfl ?_
  refine i_bipush (v := 8) C dX0_become_18 rfl ?_
  refine x_acopy C hX (ai_11 G) (ai_2 G) h hl tw4_43 tw2_137 tw2_136 tw1_10 (Nat.le_of_ble_eq_true rfl) (Nat.le_of_ble_eq_true rfl) dX0_become_20 (fun H locs m2 h hX => ?_)
  refine i_aload_n C dX0_become_23 rfl (lv_at hl 1 rfl) ?_
  refine x_get C hX (fg_10_2 G) tw1_37 dX0_become_24 ?_
  refine i_iconst (v := 0) C dX0_become_27 rfl ?_
  refine i_aload_n C dX0_become_28 rfl (lv_at hl 0 rfl) ?_
  refine x_get C hX (fg_1_2 G) tw1_37 dX0_become_29 ?_
  refine i_iconst (v := 0) C dX0_become_32 rfl ?_
  refine i_bipush (v := 8) C dX0_become_33 rfl ?_
  refine x_acopy C hX (ai_12 G) (ai_3 G) h hl tw4_43 tw2_137 tw2_136 tw1_10 (Nat.le_of_ble_eq_true rfl) (Nat.le_of_ble_eq_true rfl) dX0_become_35 (fun H locs m3 h hX => ?_)
  refine i_aload_n C dX0_become_38 rfl (lv_at hl 1 rfl) ?_
  refine x_get C hX (fg_10_3 G) tw1_39 dX0_become_39 ?_
  refine i_iconst (v := 0) C dX0_become_42 rfl ?_
  refine i_aload_n C dX0_become_43 rfl (lv_at hl 0 rfl) ?_
  refine x_get C hX (fg_1_3 G) tw1_39 dX0_become_44 ?_
  refine i_iconst (v := 0) C dX0_become_47 rfl ?_
  refine i_bipush (v := 8) C dX0_become_48 rfl ?_
  refine x_acopy C hX (ai_13 G) (ai_4 G) h hl tw4_43 tw2_137 tw2_136 tw1_10 (Nat.le_of_ble_eq_true rfl) (Nat.le_of_ble_eq_true rfl) dX0_become_50 (fun H locs m4 h hX => ?_)
  refine i_aload_n C dX0_become_53 rfl (lv_at hl 1 rfl) ?_
  refine x_get C hX (fg_10_4 G) tw1_41 dX0_become_54 ?_
  refine i_iconst (v := 0) C dX0_become_57 rfl ?_
  refine i_aload_n C dX0_become_58 rfl (lv_at hl 0 rfl) ?_
  refine x_get C hX (fg_1_4 G) tw1_41 dX0_become_59 ?_
  refine i_iconst (v := 0) C dX0_become_62 rfl ?_
  refine i_iconst (v := 4) C dX0_become_63 rfl ?_
  refine x_acopy C hX (ai_14 G) (ai_5 G) h hl tw4_43 tw2_137 tw2_136 tw1_10 (Nat.le_of_ble_eq_true rfl) (Nat.le_of_ble_eq_true rfl) dX0_become_64 (fun H locs m5 h hX => ?_)
  refine i_aload_n C dX0_become_67 rfl (lv_at hl 1 rfl) ?_
  refine x_get C hX (fg_10_5 G) tw1_44 dX0_become_68 ?_
  refine i_iconst (v := 0) C dX0_become_71 rfl ?_
  refine i_aload_n C dX0_become_72 rfl (lv_at hl 0 rfl) ?_
  refine x_get C hX (fg_1_5 G) tw1_44 dX0_become_73 ?_
  refine i_iconst (v := 0) C dX0_become_76 rfl ?_
  refine i_iconst (v := 4) C dX0_become_77 rfl ?_
  refine x_acopy C hX (ai_15 G) (ai_6 G) h hl tw4_43 tw2_137 tw2_136 tw1_10 (Nat.le_of_ble_eq_true rfl) (Nat.le_of_ble_eq_true rfl) dX0_become_78 (fun H locs m6 h hX => ?_)
  refine i_aload_n C dX0_become_81 rfl (lv_at hl 1 rfl) ?_
  refine x_get C hX (fg_10_6 G) tw1_47 dX0_become_82 ?_
  refine i_iconst (v := 0) C dX0_become_85 rfl ?_
  refine i_aload_n C dX0_become_86 rfl (lv_at hl 0 rfl) ?_
  refine x_get C hX (fg_1_6 G) tw1_47 dX0_become_87 ?_
  refine i_iconst (v := 0) C dX0_become_90 rfl ?_
  refine i_iconst (v := 4) C dX0_become_91 rfl ?_
  refine x_acopy C hX (ai_16 G) (ai_7 G) h hl tw4_43 tw2_137 tw2_136 tw1_10 (Nat.le_of_ble_eq_true rfl) (Nat.le_of_ble_eq_true rfl) dX0_become_92 (fun H locs m7 h hX => ?_)
  refine i_iconst (v := 0) C dX0_become_95 rfl ?_
  refine i_istore_n C [(2, .int 0), (0, .ref (G.2.1 1)), (1, .ref (G.2.1 10))] dX0_become_96 rfl hl (by decide) rfl (fun ls hl => ?_)
  refine w_jn1 (fun (m8 : MM) => ∀ (H : Heap) (locs : List Loc) (ls : Array Slot), lv_has ls 3 [(0, .ref (G.2.1 1)), (1, .ref (G.2.1 10))] → XW G A (gs Γ) H locs m8 → WX Γ H locs 121 ls []) h (fun m8 h H locs ls hl hX => ?_) (fun k1 J1 h => ?_)
  · refine i_aload_n C dX0_become_121 rfl (lv_at hl 0 rfl) ?_
    refine i_aload_n C dX0_become_122 rfl (lv_at hl 1 rfl) ?_
    refine x_get C hX (fg_10_8 G) tw1_53 dX0_become_123 ?_
    refine x_putI C hX (fp_1_8 G) h tw1_53 dX0_become_126 (fun H locs m9 h hX => ?_)
    refine i_aload_n C dX0_become_129 rfl (lv_at hl 0 rfl) ?_
    refine i_aload_n C dX0_become_130 rfl (lv_at hl 1 rfl) ?_
    refine x_get C hX (fg_10_9 G) tw1_56 dX0_become_131 ?_
    refine x_putI C hX (fp_1_9 G) h tw1_56 dX0_become_134 (fun H locs m10 h hX => ?_)
    refine i_aload_n C dX0_become_137 rfl (lv_at hl 0 rfl) ?_
    refine i_aload_n C dX0_become_138 rfl (lv_at hl 1 rfl) ?_
    refine x_get C hX (fg_10_10 G) tw1_59 dX0_become_139 ?_
    refine x_putI C hX (fp_1_10 G) h tw1_59 dX0_become_142 (fun H locs m11 h hX => ?_)
    refine i_aload_n C dX0_become_145 rfl (lv_at hl 0 rfl) ?_
    refine i_aload_n C dX0_become_146 rfl (lv_at hl 1 rfl) ?_
    refine x_get C hX (fg_10_11 G) tw1_62 dX0_become_147 ?_
    refine x_putI C hX (fp_1_11 G) h tw1_62 dX0_become_150 (fun H locs m12 h hX => ?_)
    refine i_aload_n C dX0_become_153 rfl (lv_at hl 0 rfl) ?_
    refine i_aload_n C dX0_become_154 rfl (lv_at hl 1 rfl) ?_
    refine x_get C hX (fg_10_12 G) tw1_64 dX0_become_155 ?_
    refine x_putI C hX (fp_1_12 G) h tw1_64 dX0_become_158 (fun H locs m13 h hX => ?_)
    refine i_aload_n C dX0_become_161 rfl (lv_at hl 1 rfl) ?_
    refine x_get C hX (fg_10_13 G) tw1_66 dX0_become_162 ?_
    refine i_iconst (v := 0) C dX0_become_165 rfl ?_
    refine i_aload_n C dX0_become_166 rfl (lv_at hl 0 rfl) ?_
    refine x_get C hX (fg_1_13 G) tw1_66 dX0_become_167 ?_
    refine i_iconst (v := 0) C dX0_become_170 rfl ?_
    refine i_bipush (v := 10) C dX0_become_171 rfl ?_
    refine x_acopy C hX (ai_18 G) (ai_9 G) h hl tw4_43 tw2_137 tw2_136 tw1_10 (Nat.le_of_ble_eq_true rfl) (Nat.le_of_ble_eq_true rfl) dX0_become_173 (fun H locs m14 h hX => ?_)
    exact x_vretV C hX hr hQ h dX0_become_176
  have L1 : ∀ (fu : Nat) (x1 : Int32) (m15 : MM) (H : Heap) (locs : List Loc) (ls : Array Slot), L_X0_become_1_10_97 k1 fu x1 m15 = some r → lv_has ls 3 [(0, .ref (G.2.1 1)), (1, .ref (G.2.1 10)), (2, .int x1)] → XW G A (gs Γ) H locs m15 → WX Γ H locs 97 ls [] := by
    intro fu
    induction fu with
    | zero =>
      intro x1 m15 H locs ls h
      rw [L_X0_become_1_10_97] at h
      cases h
    | succ fu ih =>
      intro x1 m15 H locs ls h hl hX
      rw [L_X0_become_1_10_97] at h
      refine i_iload_n C dX0_become_97 rfl (lv_at hl 2 rfl) ?_
      refine i_bipush (v := 100) C dX0_become_98 rfl ?_
      refine i_icmp_ge (tgt := 121) C h dX0_become_100 (by decide) (fun _ h => ?_) (fun _ h => ?_)
      · exact J1 _ h _ _ _ (lv_sub hl [0, 1] rfl) hX
      refine i_aload_n C dX0_become_103 rfl (lv_at hl 0 rfl) ?_
      refine x_get C hX (fg_1_7 G) tw1_50 dX0_become_104 ?_
      refine i_iload_n C dX0_become_107 rfl (lv_at hl 2 rfl) ?_
      refine i_aload_n C dX0_become_108 rfl (lv_at hl 1 rfl) ?_
      refine x_get C hX (fg_10_7 G) tw1_50 dX0_become_109 ?_
      refine i_iload_n C dX0_become_112 rfl (lv_at hl 2 rfl) ?_
      refine x_zald C hX (az_17 G) h dX0_become_113 (fun x2 h => ?_)
      refine x_zast C hX (az_8 G) h dX0_become_114 (fun H locs m16 h hX => ?_)
      refine i_iinc C (j := 2) (fun x3 => [(2, .int x3), (0, .ref (G.2.1 1)), (1, .ref (G.2.1 10))]) h dX0_become_115 hl rfl rfl (by decide) (fun _ => rfl) (fun x3 ls h hl => ?_)
      refine i_goto (tgt := 97) C dX0_become_118 (by decide) ?_
      exact ih _ _ _ _ _ h (lv_sub hl [1, 2, 0] rfl) hX
  exact L1 FU _ _ _ _ _ h (lv_sub hl [1, 2, 0] rfl) hX
def f_X4_image (μ : MM) : Option (Int32 × MM) := bdr (f_X0_become_10_1 μ) fun m1 => gd (1 = 0 ∨ 1 = 1) (lt_ (wst m1 0 2 1) fun m2 => some (1, m2))
theorem nd_X4_image : yX4_image.cls ≠ "java/lang/invoke/MethodHandle" ∧ yX4_image.cls ≠ "java/lang/invoke/VarHandle" ∧ (parseMethodDescriptor yX4_image.desc).map (fun d => d.parameters.length) = some 0 := by decide +kernel
set_option maxHeartbeats 4000000 in
set_option maxRecDepth 100000 in
theorem c_X4_image (l : Launch) (G : EN)  {μ : MM} {r : Int32} {m : MM} (h : f_X4_image μ = some (r, m)) : XM l G yX4_image cX4_image 1 (some .int) 2 86 [.ref (G.2.1 0)] μ (some (.int r)) m := by
  refine x_met (own := RX4) (by decide +kernel) rfl (Nat.le_of_ble_eq_true rfl) (fun Γ A H ls hg C hr hX hQ hl => ?_)
  have hl : lv_has ls 1 [(0, .ref (G.2.1 0))] := hl
  unfold f_X4_image at h
  refine i_aload_n C dX4_image_0 rfl (lv_at hl 0 rfl) ?_
  refine x_get C hX (fg_0_1 G) tw1_167 dX4_image_1 ?_
  refine i_aload_n C dX4_image_4 rfl (lv_at hl 0 rfl) ?_
  refine x_get C hX (fg_0_0 G) tw1_166 dX4_image_5 ?_
  obtain ⟨m1, e1, h⟩ := w_bdr h
  refine x_callVv C hX (fg_10_0 G) (c_X0_become_10_1 (gl Γ) G  e1) [] rfl hl tw4_39 tw4_40 tw4_41 tw1_2 tw4_42 rfl nd_X0_become ⟨(Nat.le_of_ble_eq_true rfl), (Nat.le_of_ble_eq_true rfl)⟩ (Nat.le_of_ble_eq_true rfl) dX4_image_8 (fun H locs hX => ?_)
  refine i_aload_n C dX4_image_11 rfl (lv_at hl 0 rfl) ?_
  refine i_iconst (v := 1) C dX4_image_12 rfl ?_
  refine x_putZ C hX (fp_0_2 G) h tw1_168 dX4_image_13 (fun H locs m2 h hX => ?_)
  refine i_iconst (v := 1) C dX4_image_16 rfl ?_
  exact x_iretW C hX hr hQ h dX4_image_17
def f_X4_undo (μ : MM) : Option (Int32 × MM) := if (μ 0 2) = 0 then (bdw (f_X4_finding (-1000004) μ) fun x1 m2 => some (x1, m2)) else (bdr (f_X0_become_1_10 μ) fun m1 => some ((m1 1 11), m1))
theorem nd_X4_undo : yX4_undo.cls ≠ "java/lang/invoke/MethodHandle" ∧ yX4_undo.cls ≠ "java/lang/invoke/VarHandle" ∧ (parseMethodDescriptor yX4_undo.desc).map (fun d => d.parameters.length) = some 0 := by decide +kernel
set_option maxHeartbeats 4000000 in
set_option maxRecDepth 100000 in
theorem c_X4_undo (l : Launch) (G : EN)  {μ : MM} {r : Int32} {m : MM} (h : f_X4_undo μ = some (r, m)) : XM l G yX4_undo cX4_undo 1 (some .int) 2 86 [.ref (G.2.1 0)] μ (some (.int r)) m := by
  refine x_met (own := RX4) (by decide +kernel) rfl (Nat.le_of_ble_eq_true rfl) (fun Γ A H ls hg C hr hX hQ hl => ?_)
  have hl : lv_has ls 1 [(0, .ref (G.2.1 0))] := hl
  unfold f_X4_undo at h
  refine i_aload_n C dX4_undo_0 rfl (lv_at hl 0 rfl) ?_
  refine x_get C hX (fg_0_2 G) tw1_168 dX4_undo_1 ?_
  refine i_if_ne (tgt := 14) C h dX4_undo_4 (by decide) (fun _ h => ?_) (fun _ h => ?_)
  · refine i_aload_n C dX4_undo_14 rfl (lv_at hl 0 rfl) ?_
    refine x_get C hX (fg_0_0 G) tw1_166 dX4_undo_15 ?_
    refine i_aload_n C dX4_undo_18 rfl (lv_at hl 0 rfl) ?_
    refine x_get C hX (fg_0_1 G) tw1_167 dX4_undo_19 ?_
    obtain ⟨m1, e1, h⟩ := w_bdr h
    refine x_callVv C hX (fg_1_0 G) (c_X0_become_1_10 (gl Γ) G  e1) [] rfl hl tw4_39 tw4_40 tw4_41 tw1_2 tw4_42 rfl nd_X0_become ⟨(Nat.le_of_ble_eq_true rfl), (Nat.le_of_ble_eq_true rfl)⟩ (Nat.le_of_ble_eq_true rfl) dX4_undo_22 (fun H locs hX => ?_)
    refine i_aload_n C dX4_undo_25 rfl (lv_at hl 0 rfl) ?_
    refine x_get C hX (fg_0_0 G) tw1_166 dX4_undo_26 ?_
    refine x_get C hX (fg_1_11 G) tw1_63 dX4_undo_29 ?_
    exact x_iretW C hX hr hQ h dX4_undo_32
  refine i_aload_n C dX4_undo_7 rfl (lv_at hl 0 rfl) ?_
  refine i_ldc C tw2_126 dX4_undo_8 ?_
  obtain ⟨x1, m2, e2, h⟩ := w_bdw h
  refine x_callVi C hX (fg_0_0 G) (c_X4_finding (gl Γ) G  e2) [] rfl hl tw1_205 tw1_207 ts1_0 tw1_1 tw1_208 rfl nd_X4_finding ⟨(Nat.le_of_ble_eq_true rfl), (Nat.le_of_ble_eq_true rfl)⟩ (Nat.le_of_ble_eq_true rfl) dX4_undo_10 (fun H locs hX => ?_)
  exact x_iretW C hX hr hQ h dX4_undo_13
def f_X4_tear (μ : MM) : Option (Int32 × MM) := jn1 (fun (x1 : Int32) => gd (0 = 0 ∨ 0 = 1) (lt_ (wst μ 0 2 0) fun m1 => some (x1, m1))) fun k1 => if (μ 0 2) = 0 then (k1 0) else (k1 1)
theorem nd_X4_tear : yX4_tear.cls ≠ "java/lang/invoke/MethodHandle" ∧ yX4_tear.cls ≠ "java/lang/invoke/VarHandle" ∧ (parseMethodDescriptor yX4_tear.desc).map (fun d => d.parameters.length) = some 0 := by decide +kernel
set_option maxHeartbeats 4000000 in
set_option maxRecDepth 100000 in
theorem c_X4_tear (l : Launch) (G : EN)  {μ : MM} {r : Int32} {m : MM} (h : f_X4_tear μ = some (r, m)) : XM l G yX4_tear cX4_tear 2 (some .int) 0 0 [.ref (G.2.1 0)] μ (some (.int r)) m := by
  refine x_met (own := RX4) (by decide +kernel) rfl (Nat.le_of_ble_eq_true rfl) (fun Γ A H ls hg C hr hX hQ hl => ?_)
  have hl : lv_has ls 2 [(0, .ref (G.2.1 0))] := hl
  unfold f_X4_tear at h
  refine i_aload_n C dX4_tear_0 rfl (lv_at hl 0 rfl) ?_
  refine x_get C hX (fg_0_2 G) tw1_168 dX4_tear_1 ?_
  refine w_jn1 (fun (x1 : Int32) => ∀ (H : Heap) (locs : List Loc) (ls : Array Slot), lv_has ls 2 [(0, .ref (G.2.1 0))] → XW G A (gs Γ) H locs μ → WX Γ H locs 12 ls [.int x1]) h (fun x1 h H locs ls hl hX => ?_) (fun k1 J1 h => ?_)
  · refine i_istore_n C [(1, .int x1), (0, .ref (G.2.1 0))] dX4_tear_12 rfl hl (by decide) rfl (fun ls hl => ?_)
    refine i_aload_n C dX4_tear_13 rfl (lv_at hl 1 rfl) ?_
    refine i_iconst (v := 0) C dX4_tear_14 rfl ?_
    refine x_putZ C hX (fp_0_2 G) h tw1_168 dX4_tear_15 (fun H locs m1 h hX => ?_)
    refine i_iload_n C dX4_tear_18 rfl (lv_at hl 0 rfl) ?_
    exact x_iretW C hX hr hQ h dX4_tear_19
  refine i_if_eq (tgt := 11) C h dX4_tear_4 (by decide) (fun _ h => ?_) (fun _ h => ?_)
  · refine i_iconst (v := 0) C dX4_tear_11 rfl ?_
    exact J1 _ h _ _ _ (lv_sub hl [0] rfl) hX
  refine i_iconst (v := 1) C dX4_tear_7 rfl ?_
  refine i_goto (tgt := 12) C dX4_tear_8 (by decide) ?_
  exact J1 _ h _ _ _ (lv_sub hl [0] rfl) hX
def L_X0_hungerOfAll_4 (μ : MM) : Nat → Int32 → Int32 → Option Int32
  | 0, _, _ => none
  | fu + 1, x1, x2 => if (μ 1 0) ≤ x2 then (some x1) else (ldi μ 3 8 x2 fun x3 => lt_ ((x1 + x3)) fun x4 => lt_ (x2 + 1) fun x5 => L_X0_hungerOfAll_4 μ fu x4 x5)
def f_X0_hungerOfAll (μ : MM) : Option Int32 := L_X0_hungerOfAll_4 μ FU 0 0
theorem nd_X0_hungerOfAll : yX0_hungerOfAll.cls ≠ "java/lang/invoke/MethodHandle" ∧ yX0_hungerOfAll.cls ≠ "java/lang/invoke/VarHandle" ∧ (parseMethodDescriptor yX0_hungerOfAll.desc).map (fun d => d.parameters.length) = some 0 := by decide +kernel
set_option maxHeartbeats 4000000 in
set_option maxRecDepth 100000 in
theorem c_X0_hungerOfAll (l : Launch) (G : EN)  {μ : MM} {r : Int32} (h : f_X0_hungerOfAll μ = some r) : XM l G yX0_hungerOfAll cX0_hungerOfAll 3 (some .int) 0 0 [.ref (G.2.1 1)] μ (some (.int r)) μ := by
  refine x_met (own := RX0) (by decide +kernel) rfl (Nat.le_of_ble_eq_true rfl) (fun Γ A H ls hg C hr hX hQ hl => ?_)
  have hl : lv_has ls 3 [(0, .ref (G.2.1 1))] := hl
  unfold f_X0_hungerOfAll at h
  refine i_iconst (v := 0) C dX0_hungerOfAll_0 rfl ?_
  refine i_istore_n C [(1, .int 0), (0, .ref (G.2.1 1))] dX0_hungerOfAll_1 rfl hl (by decide) rfl (fun ls hl => ?_)
  refine i_iconst (v := 0) C dX0_hungerOfAll_2 rfl ?_
  refine i_istore_n C [(2, .int 0), (1, .int 0), (0, .ref (G.2.1 1))] dX0_hungerOfAll_3 rfl hl (by decide) rfl (fun ls hl => ?_)
  have L1 : ∀ (fu : Nat) (x1 : Int32) (x2 : Int32) (H : Heap) (locs : List Loc) (ls : Array Slot), L_X0_hungerOfAll_4 μ fu x1 x2 = some r → lv_has ls 3 [(0, .ref (G.2.1 1)), (1, .int x1), (2, .int x2)] → XW G A (gs Γ) H locs μ → WX Γ H locs 4 ls [] := by
    intro fu
    induction fu with
    | zero =>
      intro x1 x2 H locs ls h
      rw [L_X0_hungerOfAll_4] at h
      cases h
    | succ fu ih =>
      intro x1 x2 H locs ls h hl hX
      rw [L_X0_hungerOfAll_4] at h
      refine i_iload_n C dX0_hungerOfAll_4 rfl (lv_at hl 2 rfl) ?_
      refine i_aload_n C dX0_hungerOfAll_5 rfl (lv_at hl 0 rfl) ?_
      refine x_get C hX (fg_1_0 G) tw1_32 dX0_hungerOfAll_6 ?_
      refine i_icmp_ge (tgt := 27) C h dX0_hungerOfAll_9 (by decide) (fun _ h => ?_) (fun _ h => ?_)
      · refine i_iload_n C dX0_hungerOfAll_27 rfl (lv_at hl 1 rfl) ?_
        exact x_iretR C hX hr hQ h dX0_hungerOfAll_28
      refine i_iload_n C dX0_hungerOfAll_12 rfl (lv_at hl 1 rfl) ?_
      refine i_aload_n C dX0_hungerOfAll_13 rfl (lv_at hl 0 rfl) ?_
      refine x_get C hX (fg_1_2 G) tw1_37 dX0_hungerOfAll_14 ?_
      refine i_iload_n C dX0_hungerOfAll_17 rfl (lv_at hl 2 rfl) ?_
      refine x_iald C hX (ai_3 G) h dX0_hungerOfAll_18 (fun x3 h => ?_)
      refine i_iadd C dX0_hungerOfAll_19 ?_
      refine i_istoreL_n C (fun x4 => [(1, .int x4), (0, .ref (G.2.1 1)), (2, .int x2)]) h dX0_hungerOfAll_20 rfl hl (by decide) (fun _ => rfl) (fun x4 ls h hl => ?_)
      refine i_iinc C (j := 2) (fun x5 => [(2, .int x5), (1, .int x4), (0, .ref (G.2.1 1))]) h dX0_hungerOfAll_21 hl rfl rfl (by decide) (fun _ => rfl) (fun x5 ls h hl => ?_)
      refine i_goto (tgt := 4) C dX0_hungerOfAll_24 (by decide) ?_
      exact ih _ _ _ _ _ h (lv_sub hl [2, 1, 0] rfl) hX
  exact L1 FU _ _ _ _ _ h (lv_sub hl [2, 1, 0] rfl) hX
def L_X0_spotsHeld_4 (μ : MM) : Nat → Int32 → Int32 → Option Int32
  | 0, _, _ => none
  | fu + 1, x1, x2 => if 10 ≤ x2 then (some x1) else (ldi μ 9 10 x2 fun x3 => jn1 (fun (x4 : Int32) => lt_ (x2 + 1) fun x5 => L_X0_spotsHeld_4 μ fu x4 x5) fun k1 => if x3 < 0 then (k1 x1) else (lt_ (x1 + 1) fun x6 => k1 x6))
def f_X0_spotsHeld (μ : MM) : Option Int32 := L_X0_spotsHeld_4 μ FU 0 0
theorem nd_X0_spotsHeld : yX0_spotsHeld.cls ≠ "java/lang/invoke/MethodHandle" ∧ yX0_spotsHeld.cls ≠ "java/lang/invoke/VarHandle" ∧ (parseMethodDescriptor yX0_spotsHeld.desc).map (fun d => d.parameters.length) = some 0 := by decide +kernel
set_option maxHeartbeats 4000000 in
set_option maxRecDepth 100000 in
theorem c_X0_spotsHeld (l : Launch) (G : EN)  {μ : MM} {r : Int32} (h : f_X0_spotsHeld μ = some r) : XM l G yX0_spotsHeld cX0_spotsHeld 3 (some .int) 0 0 [.ref (G.2.1 1)] μ (some (.int r)) μ := by
  refine x_met (own := RX0) (by decide +kernel) rfl (Nat.le_of_ble_eq_true rfl) (fun Γ A H ls hg C hr hX hQ hl => ?_)
  have hl : lv_has ls 3 [(0, .ref (G.2.1 1))] := hl
  unfold f_X0_spotsHeld at h
  refine i_iconst (v := 0) C dX0_spotsHeld_0 rfl ?_
  refine i_istore_n C [(1, .int 0), (0, .ref (G.2.1 1))] dX0_spotsHeld_1 rfl hl (by decide) rfl (fun ls hl => ?_)
  refine i_iconst (v := 0) C dX0_spotsHeld_2 rfl ?_
  refine i_istore_n C [(2, .int 0), (1, .int 0), (0, .ref (G.2.1 1))] dX0_spotsHeld_3 rfl hl (by decide) rfl (fun ls hl => ?_)
  have L1 : ∀ (fu : Nat) (x1 : Int32) (x2 : Int32) (H : Heap) (locs : List Loc) (ls : Array Slot), L_X0_spotsHeld_4 μ fu x1 x2 = some r → lv_has ls 3 [(0, .ref (G.2.1 1)), (1, .int x1), (2, .int x2)] → XW G A (gs Γ) H locs μ → WX Γ H locs 4 ls [] := by
    intro fu
    induction fu with
    | zero =>
      intro x1 x2 H locs ls h
      rw [L_X0_spotsHeld_4] at h
      cases h
    | succ fu ih =>
      intro x1 x2 H locs ls h hl hX
      rw [L_X0_spotsHeld_4] at h
      refine i_iload_n C dX0_spotsHeld_4 rfl (lv_at hl 2 rfl) ?_
      refine i_bipush (v := 10) C dX0_spotsHeld_5 rfl ?_
      refine i_icmp_ge (tgt := 28) C h dX0_spotsHeld_7 (by decide) (fun _ h => ?_) (fun _ h => ?_)
      · refine i_iload_n C dX0_spotsHeld_28 rfl (lv_at hl 1 rfl) ?_
        exact x_iretR C hX hr hQ h dX0_spotsHeld_29
      refine i_aload_n C dX0_spotsHeld_10 rfl (lv_at hl 0 rfl) ?_
      refine x_get C hX (fg_1_13 G) tw1_66 dX0_spotsHeld_11 ?_
      refine i_iload_n C dX0_spotsHeld_14 rfl (lv_at hl 2 rfl) ?_
      refine x_iald C hX (ai_9 G) h dX0_spotsHeld_15 (fun x3 h => ?_)
      refine w_jn1 (fun (x4 : Int32) => ∀ (H : Heap) (locs : List Loc) (ls : Array Slot), lv_has ls 3 [(0, .ref (G.2.1 1)), (1, .int x4), (2, .int x2)] → XW G A (gs Γ) H locs μ → WX Γ H locs 22 ls []) h (fun x4 h H locs ls hl hX => ?_) (fun k1 J1 h => ?_)
      · refine i_iinc C (j := 2) (fun x5 => [(2, .int x5), (0, .ref (G.2.1 1)), (1, .int x4)]) h dX0_spotsHeld_22 hl rfl rfl (by decide) (fun _ => rfl) (fun x5 ls h hl => ?_)
        refine i_goto (tgt := 4) C dX0_spotsHeld_25 (by decide) ?_
        exact ih _ _ _ _ _ h (lv_sub hl [1, 2, 0] rfl) hX
      refine i_if_lt (tgt := 22) C h dX0_spotsHeld_16 (by decide) (fun _ h => ?_) (fun _ h => ?_)
      · exact J1 _ h _ _ _ (lv_sub hl [0, 1, 2] rfl) hX
      refine i_iinc C (j := 1) (fun x6 => [(1, .int x6), (0, .ref (G.2.1 1)), (2, .int x2)]) h dX0_spotsHeld_19 hl rfl rfl (by decide) (fun _ => rfl) (fun x6 ls h hl => ?_)
      exact J1 _ h _ _ _ (lv_sub hl [1, 0, 2] rfl) hX
  exact L1 FU _ _ _ _ _ h (lv_sub hl [2, 1, 0] rfl) hX
def f_X4_count (p1 : Int32) (μ : MM) : Option (Int32 × MM) := if p1 = 0 then (some ((μ 1 11), μ)) else if p1 = 1 then (some ((μ 1 0), μ)) else if p1 = 2 then (bdr (f_X0_islands μ) fun x1 => some (x1, μ)) else if p1 = 3 then (bdr (f_X0_landedShips μ) fun x2 => bdr (f_J6_bitCount_0f7a4 x2) fun x3 => some (x3, μ)) else if p1 = 4 then (bdr (f_X0_hungerOfAll μ) fun x4 => some (x4, μ)) else if p1 = 5 then (some ((μ 19 1), μ)) else if p1 = 6 then (some ((μ 1 12), μ)) else if p1 = 7 then (bdr (f_X0_spotsHeld μ) fun x5 => some (x5, μ)) else (bdw (f_X4_finding (-1000001) μ) fun x6 m1 => some (x6, m1))
theorem nd_X4_count : yX4_count.cls ≠ "java/lang/invoke/MethodHandle" ∧ yX4_count.cls ≠ "java/lang/invoke/VarHandle" ∧ (parseMethodDescriptor yX4_count.desc).map (fun d => d.parameters.length) = some 1 := by decide +kernel
set_option maxHeartbeats 4000000 in
set_option maxRecDepth 100000 in
theorem c_X4_count (l : Launch) (G : EN)  {p1 : Int32} {μ : MM} {r : Int32} {m : MM} (h : f_X4_count p1 μ = some (r, m)) : XM l G yX4_count cX4_count 2 (some .int) 2 43 [.ref (G.2.1 0), .int p1] μ (some (.int r)) m := by
  refine x_met (own := RX4) (by decide +kernel) rfl (Nat.le_of_ble_eq_true rfl) (fun Γ A H ls hg C hr hX hQ hl => ?_)
  have hl : lv_has ls 2 [(0, .ref (G.2.1 0)), (1, .int p1)] := hl
  unfold f_X4_count at h
  refine i_iload_n C dX4_count_0 rfl (lv_at hl 1 rfl) ?_
  refine i_case h (fun e h => ?_) (fun n1 h => ?_)
  · refine i_tabIn (tgt := 48) C e dX4_count_1 (by decide) (by decide) rfl (by decide) ?_
    refine i_aload_n C dX4_count_48 rfl (lv_at hl 0 rfl) ?_
    refine x_get C hX (fg_0_0 G) tw1_166 dX4_count_49 ?_
    refine x_get C hX (fg_1_11 G) tw1_63 dX4_count_52 ?_
    exact x_iretW C hX hr hQ h dX4_count_55
  refine i_case h (fun e h => ?_) (fun n2 h => ?_)
  · refine i_tabIn (tgt := 56) C e dX4_count_1 (by decide) (by decide) rfl (by decide) ?_
    refine i_aload_n C dX4_count_56 rfl (lv_at hl 0 rfl) ?_
    refine x_get C hX (fg_0_0 G) tw1_166 dX4_count_57 ?_
    refine x_get C hX (fg_1_0 G) tw1_33 dX4_count_60 ?_
    exact x_iretW C hX hr hQ h dX4_count_63
  refine i_case h (fun e h => ?_) (fun n3 h => ?_)
  · refine i_tabIn (tgt := 64) C e dX4_count_1 (by decide) (by decide) rfl (by decide) ?_
    refine i_aload_n C dX4_count_64 rfl (lv_at hl 0 rfl) ?_
    refine x_get C hX (fg_0_0 G) tw1_166 dX4_count_65 ?_
    obtain ⟨x1, e1, h⟩ := w_bdr h
    refine x_callVi C hX (fg_1_0 G) (c_X0_islands (gl Γ) G  e1) [] rfl hl tw2_110 tw2_111 tw2_112 tw1_2 tw2_113 rfl nd_X0_islands ⟨(Nat.le_of_ble_eq_true rfl), (Nat.le_of_ble_eq_true rfl)⟩ (Nat.le_of_ble_eq_true rfl) dX4_count_68 (fun H locs hX => ?_)
    exact x_iretW C hX hr hQ h dX4_count_71
  refine i_case h (fun e h => ?_) (fun n4 h => ?_)
  · refine i_tabIn (tgt := 72) C e dX4_count_1 (by decide) (by decide) rfl (by decide) ?_
    refine i_aload_n C dX4_count_72 rfl (lv_at hl 0 rfl) ?_
    refine x_get C hX (fg_0_0 G) tw1_166 dX4_count_73 ?_
    obtain ⟨x2, e2, h⟩ := w_bdr h
    refine x_callVi C hX (fg_1_0 G) (c_X0_landedShips (gl Γ) G  e2) [] rfl hl tw2_83 tw2_84 tw2_85 tw1_2 tw2_86 rfl nd_X0_landedShips ⟨(Nat.le_of_ble_eq_true rfl), (Nat.le_of_ble_eq_true rfl)⟩ (Nat.le_of_ble_eq_true rfl) dX4_count_76 (fun H locs hX => ?_)
    obtain ⟨x3, e3, h⟩ := w_bdr h
    refine x_callSi C hX (c_J6_bitCount_0f7a4 (gl Γ) G  e3) [] rfl hl tw2_88 tw2_89 tw1_9 tw2_90 nd_J6_bitCount_0f7a4 ⟨(Nat.le_of_ble_eq_true rfl), (Nat.le_of_ble_eq_true rfl)⟩ (Nat.le_of_ble_eq_true rfl) dX4_count_79 (fun H locs hX => ?_)
    exact x_iretW C hX hr hQ h dX4_count_82
  refine i_case h (fun e h => ?_) (fun n5 h => ?_)
  · refine i_tabIn (tgt := 83) C e dX4_count_1 (by decide) (by decide) rfl (by decide) ?_
    refine i_aload_n C dX4_count_83 rfl (lv_at hl 0 rfl) ?_
    refine x_get C hX (fg_0_0 G) tw1_166 dX4_count_84 ?_
    obtain ⟨x4, e4, h⟩ := w_bdr h
    refine x_callVi C hX (fg_1_0 G) (c_X0_hungerOfAll (gl Γ) G  e4) [] rfl hl tw4_56 tw4_57 tw4_58 tw1_2 tw4_59 rfl nd_X0_hungerOfAll ⟨(Nat.le_of_ble_eq_true rfl), (Nat.le_of_ble_eq_true rfl)⟩ (Nat.le_of_ble_eq_true rfl) dX4_count_87 (fun H locs hX => ?_)
    exact x_iretW C hX hr hQ h dX4_count_90
  refine i_case h (fun e h => ?_) (fun n6 h => ?_)
  · refine i_tabIn (tgt := 91) C e dX4_count_1 (by decide) (by decide) rfl (by decide) ?_
    refine i_aload_n C dX4_count_91 rfl (lv_at hl 0 rfl) ?_
    refine x_get C hX (fg_0_3 G) tw1_169 dX4_count_92 ?_
    refine x_get C hX (fg_19_1 G) tw1_109 dX4_count_95 ?_
    exact x_iretW C hX hr hQ h dX4_count_98
  refine i_case h (fun e h => ?_) (fun n7 h => ?_)
  · refine i_tabIn (tgt := 99) C e dX4_count_1 (by decide) (by decide) rfl (by decide) ?_
    refine i_aload_n C dX4_count_99 rfl (lv_at hl 0 rfl) ?_
    refine x_get C hX (fg_0_0 G) tw1_166 dX4_count_100 ?_
    refine x_get C hX (fg_1_12 G) tw1_65 dX4_count_103 ?_
    exact x_iretW C hX hr hQ h dX4_count_106
  refine i_case h (fun e h => ?_) (fun n8 h => ?_)
  · refine i_tabIn (tgt := 107) C e dX4_count_1 (by decide) (by decide) rfl (by decide) ?_
    refine i_aload_n C dX4_count_107 rfl (lv_at hl 0 rfl) ?_
    refine x_get C hX (fg_0_0 G) tw1_166 dX4_count_108 ?_
    obtain ⟨x5, e5, h⟩ := w_bdr h
    refine x_callVi C hX (fg_1_0 G) (c_X0_spotsHeld (gl Γ) G  e5) [] rfl hl tw4_60 tw4_61 tw4_62 tw1_2 tw4_63 rfl nd_X0_spotsHeld ⟨(Nat.le_of_ble_eq_true rfl), (Nat.le_of_ble_eq_true rfl)⟩ (Nat.le_of_ble_eq_true rfl) dX4_count_111 (fun H locs hX => ?_)
    exact x_iretW C hX hr hQ h dX4_count_114
  refine i_tabOut (tgt := 115) C (by have := ne_t (n := 0) (by decide) n1; have := ne_t (n := 1) (by decide) n2; have := ne_t (n := 2) (by decide) n3; have := ne_t (n := 3) (by decide) n4; have := ne_t (n := 4) (by decide) n5; have := ne_t (n := 5) (by decide) n6; have := ne_t (n := 6) (by decide) n7; have := ne_t (n := 7) (by decide) n8; omega) dX4_count_1 (by decide) ?_
  refine i_aload_n C dX4_count_115 rfl (lv_at hl 0 rfl) ?_
  refine i_ldc C tw1_204 dX4_count_116 ?_
  obtain ⟨x6, m1, e6, h⟩ := w_bdw h
  refine x_callVi C hX (fg_0_0 G) (c_X4_finding (gl Γ) G  e6) [] rfl hl tw1_205 tw1_207 ts1_0 tw1_1 tw1_208 rfl nd_X4_finding ⟨(Nat.le_of_ble_eq_true rfl), (Nat.le_of_ble_eq_true rfl)⟩ (Nat.le_of_ble_eq_true rfl) dX4_count_118 (fun H locs hX => ?_)
  exact x_iretW C hX hr hQ h dX4_count_121
