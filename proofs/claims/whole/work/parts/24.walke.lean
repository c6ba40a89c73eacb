def f_X5_isSo (p1 : Int32) (μ : MM) : Option (Int32 × MM) := ldi μ 46 360 p1 fun x1 => ldi μ 46 360 (p1 + 1) fun x2 => if x1 < 20 then (if x1 = 10 then (bdw (f_X5_become (16 + x2) 1 μ) fun x5 m2 => some (x5, m2)) else (ldi μ 46 360 (p1 + 2) fun x3 => bdw (f_X5_comes x1 x2 x3 μ) fun x4 m1 => some (x4, m1))) else (bdw (f_X5_become (x1 - 20) x2 μ) fun x6 m3 => some (x6, m3))
theorem nd_X5_isSo : yX5_isSo.cls ≠ "java/lang/invoke/MethodHandle" ∧ yX5_isSo.cls ≠ "java/lang/invoke/VarHandle" ∧ (parseMethodDescriptor yX5_isSo.desc).map (fun d => d.parameters.length) = some 1 := by decide +kernel
set_option maxHeartbeats 4000000 in
set_option maxRecDepth 100000 in
theorem c_X5_isSo (l : Launch) (G : EN)  {p1 : Int32} {μ : MM} {r : Int32} {m : MM} (h : f_X5_isSo p1 μ = some (r, m)) : XM l G yX5_isSo cX5_isSo 4 (some .int) 2 45 [.ref (G.2.1 37), .int p1] μ (some (.int r)) m := by
  refine x_met (own := RX5) (by decide +kernel) rfl (Nat.le_of_ble_eq_true rfl) (fun Γ A H ls hg C hr hX hQ hl => ?_)
  have hl : lv_has ls 4 [(0, .ref (G.2.1 37)), (1, .int p1)] := hl
  unfold f_X5_isSo at h
  refine i_aload_n C dX5_isSo_0 rfl (lv_at hl 0 rfl) ?_
  refine x_get C hX (fg_37_18 G) tw4_101 dX5_isSo_1 ?_
  refine i_iload_n C dX5_isSo_4 rfl (lv_at hl 1 rfl) ?_
  refine x_iald C hX (ai_46 G) h dX5_isSo_5 (fun x1 h => ?_)
  refine i_istore_n C [(2, .int x1), (0, .ref (G.2.1 37)), (1, .int p1)] dX5_isSo_6 rfl hl (by decide) rfl (fun ls hl => ?_)
  refine i_aload_n C dX5_isSo_7 rfl (lv_at hl 1 rfl) ?_
  refine x_get C hX (fg_37_18 G) tw4_101 dX5_isSo_8 ?_
  refine i_iload_n C dX5_isSo_11 rfl (lv_at hl 2 rfl) ?_
  refine i_iconst (v := 1) C dX5_isSo_12 rfl ?_
  refine i_iadd C dX5_isSo_13 ?_
  refine x_iald C hX (ai_46 G) h dX5_isSo_14 (fun x2 h => ?_)
  refine i_istore_n C [(3, .int x2), (2, .int x1), (0, .ref (G.2.1 37)), (1, .int p1)] dX5_isSo_15 rfl hl (by decide) rfl (fun ls hl => ?_)
  refine i_iload_n C dX5_isSo_16 rfl (lv_at hl 1 rfl) ?_
  refine i_bipush (v := 20) C dX5_isSo_17 rfl ?_
  refine i_icmp_lt (tgt := 34) C h dX5_isSo_19 (by decide) (fun _ h => ?_) (fun _ h => ?_)
  · refine i_iload_n C dX5_isSo_34 rfl (lv_at hl 1 rfl) ?_
    refine i_bipush (v := 10) C dX5_isSo_35 rfl ?_
    refine i_icmp_ne (tgt := 52) C h dX5_isSo_37 (by decide) (fun _ h => ?_) (fun _ h => ?_)
    · refine i_aload_n C dX5_isSo_52 rfl (lv_at hl 2 rfl) ?_
      refine i_iload_n C dX5_isSo_53 rfl (lv_at hl 1 rfl) ?_
      refine i_iload_n C dX5_isSo_54 rfl (lv_at hl 0 rfl) ?_
      refine i_aload_n C dX5_isSo_55 rfl (lv_at hl 2 rfl) ?_
      refine x_get C hX (fg_37_18 G) tw4_101 dX5_isSo_56 ?_
      refine i_iload_n C dX5_isSo_59 rfl (lv_at hl 3 rfl) ?_
      refine i_iconst (v := 2) C dX5_isSo_60 rfl ?_
      refine i_iadd C dX5_isSo_61 ?_
      refine x_iald C hX (ai_46 G) h dX5_isSo_62 (fun x3 h => ?_)
      obtain ⟨x4, m1, e1, h⟩ := w_bdw h
      refine x_callVi C hX (fg_37_0 G) (c_X5_comes (gl Γ) G  e1) [] rfl hl tw4_178 tw4_180 ts2_0 tw1_7 tw4_181 rfl nd_X5_comes ⟨(Nat.le_of_ble_eq_true rfl), (Nat.le_of_ble_eq_true rfl)⟩ (Nat.le_of_ble_eq_true rfl) dX5_isSo_63 (fun H locs hX => ?_)
      exact x_iretW C hX hr hQ h dX5_isSo_66
    refine i_aload_n C dX5_isSo_40 rfl (lv_at hl 2 rfl) ?_
    refine i_bipush (v := 16) C dX5_isSo_41 rfl ?_
    refine i_iload_n C dX5_isSo_43 rfl (lv_at hl 0 rfl) ?_
    refine i_iadd C dX5_isSo_44 ?_
    refine i_iconst (v := 1) C dX5_isSo_45 rfl ?_
    obtain ⟨x5, m2, e2, h⟩ := w_bdw h
    refine x_callVi C hX (fg_37_0 G) (c_X5_become (gl Γ) G  e2) [] rfl hl tw4_208 tw4_210 ts2_4 tw1_7 tw4_211 rfl nd_X5_become ⟨(Nat.le_of_ble_eq_true rfl), (Nat.le_of_ble_eq_true rfl)⟩ (Nat.le_of_ble_eq_true rfl) dX5_isSo_46 (fun H locs hX => ?_)
    refine i_goto (tgt := 66) C dX5_isSo_49 (by decide) ?_
    exact x_iretW C hX hr hQ h dX5_isSo_66
  refine i_aload_n C dX5_isSo_22 rfl (lv_at hl 2 rfl) ?_
  refine i_iload_n C dX5_isSo_23 rfl (lv_at hl 1 rfl) ?_
  refine i_bipush (v := 20) C dX5_isSo_24 rfl ?_
  refine i_isub C dX5_isSo_26 ?_
  refine i_iload_n C dX5_isSo_27 rfl (lv_at hl 0 rfl) ?_
  obtain ⟨x6, m3, e3, h⟩ := w_bdw h
  refine x_callVi C hX (fg_37_0 G) (c_X5_become (gl Γ) G  e3) [] rfl hl tw4_208 tw4_210 ts2_4 tw1_7 tw4_211 rfl nd_X5_become ⟨(Nat.le_of_ble_eq_true rfl), (Nat.le_of_ble_eq_true rfl)⟩ (Nat.le_of_ble_eq_true rfl) dX5_isSo_28 (fun H locs hX => ?_)
  refine i_goto (tgt := 66) C dX5_isSo_31 (by decide) ?_
  exact x_iretW C hX hr hQ h dX5_isSo_66
def f_X5_isSpot (p0 : Int32) : Option Int32 := bdr (f_X5_within p0 0 9) fun x1 => gd (x1 = 0 ∨ x1 = 1) (some x1)
theorem nd_X5_isSpot : yX5_isSpot.cls ≠ "java/lang/invoke/MethodHandle" ∧ yX5_isSpot.cls ≠ "java/lang/invoke/VarHandle" ∧ (parseMethodDescriptor yX5_isSpot.desc).map (fun d => d.parameters.length) = some 1 := by decide +kernel
set_option maxHeartbeats 4000000 in
set_option maxRecDepth 100000 in
theorem c_X5_isSpot (l : Launch) (G : EN)  {p0 : Int32} {μ : MM} {r : Int32} (h : f_X5_isSpot p0 = some r) : XM l G yX5_isSpot cX5_isSpot 1 (some .boolean) 1 22 [.int p0] μ (some (.int r)) μ := by
  refine x_met (own := RX5) (by decide +kernel) rfl (Nat.le_of_ble_eq_true rfl) (fun Γ A H ls hg C hr hX hQ hl => ?_)
  have hl : lv_has ls 1 [(0, .int p0)] := hl
  unfold f_X5_isSpot at h
  refine i_iload_n C dX5_isSpot_0 rfl (lv_at hl 0 rfl) ?_
  refine i_iconst (v := 0) C dX5_isSpot_1 rfl ?_
  refine i_bipush (v := 9) C dX5_isSpot_2 rfl ?_
  obtain ⟨x1, e1, h⟩ := w_bdr h
  refine x_callSi C hX (c_X5_within (gl Γ) G  e1) [] rfl hl tw4_169 tw4_170 tw1_7 tw4_171 nd_X5_within ⟨(Nat.le_of_ble_eq_true rfl), (Nat.le_of_ble_eq_true rfl)⟩ (Nat.le_of_ble_eq_true rfl) dX5_isSpot_4 (fun H locs hX => ?_)
  exact x_zretR C hX hr hQ h dX5_isSpot_7
def f_X5_hold (p1 : Int32) (p2 : Int32) (μ : MM) : Option (Int32 × MM) := bdr (f_X5_isSpot p1) fun x1 => if x1 = 0 then (bdw (f_X5_finding (-1000001) μ) fun x2 m1 => some (x2, m1)) else (jn0 (sti μ 38 152 (6 + p1) p2 fun m2 => some (1, m2)) fun k1 => if p2 = (-1) then (k1) else (bdr (f_X5_isCat p2 μ) fun x3 => if x3 = 0 then (bdw (f_X5_finding (-1000001) μ) fun x4 m3 => some (x4, m3)) else (k1)))
theorem nd_X5_hold : yX5_hold.cls ≠ "java/lang/invoke/MethodHandle" ∧ yX5_hold.cls ≠ "java/lang/invoke/VarHandle" ∧ (parseMethodDescriptor yX5_hold.desc).map (fun d => d.parameters.length) = some 2 := by decide +kernel
set_option maxHeartbeats 4000000 in
set_option maxRecDepth 100000 in
theorem c_X5_hold (l : Launch) (G : EN)  {p1 p2 : Int32} {μ : MM} {r : Int32} {m : MM} (h : f_X5_hold p1 p2 μ = some (r, m)) : XM l G yX5_hold cX5_hold 3 (some .int) 2 43 [.ref (G.2.1 37), .int p1, .int p2] μ (some (.int r)) m := by
  refine x_met (own := RX5) (by decide +kernel) rfl (Nat.le_of_ble_eq_true rfl) (fun Γ A H ls hg C hr hX hQ hl => ?_)
  have hl : lv_has ls 3 [(0, .ref (G.2.1 37)), (1, .int p1), (2, .int p2)] := hl
  unfold f_X5_hold at h
  refine i_iload_n C dX5_hold_0 rfl (lv_at hl 1 rfl) ?_
  obtain ⟨x1, e1, h⟩ := w_bdr h
  refine x_callSi C hX (c_X5_isSpot (gl Γ) G  e1) [] rfl hl tw6_108 tw6_109 tw1_7 tw6_110 nd_X5_isSpot ⟨(Nat.le_of_ble_eq_true rfl), (Nat.le_of_ble_eq_true rfl)⟩ (Nat.le_of_ble_eq_true rfl) dX5_hold_1 (fun H locs hX => ?_)
  refine i_if_eq (tgt := 20) C h dX5_hold_4 (by decide) (fun _ h => ?_) (fun _ h => ?_)
  · refine i_aload_n C dX5_hold_20 rfl (lv_at hl 0 rfl) ?_
    refine i_ldc C tw4_172 dX5_hold_21 ?_
    obtain ⟨x2, m1, e2, h⟩ := w_bdw h
    refine x_callVi C hX (fg_37_0 G) (c_X5_finding (gl Γ) G  e2) [] rfl hl tw4_173 tw4_175 ts1_15 tw1_7 tw4_176 rfl nd_X5_finding ⟨(Nat.le_of_ble_eq_true rfl), (Nat.le_of_ble_eq_true rfl)⟩ (Nat.le_of_ble_eq_true rfl) dX5_hold_23 (fun H locs hX => ?_)
    exact x_iretW C hX hr hQ h dX5_hold_26
  refine i_iload_n C dX5_hold_7 rfl (lv_at hl 2 rfl) ?_
  refine i_iconst (v := (-1)) C dX5_hold_8 rfl ?_
  refine w_jn0 (∀ (H : Heap) (locs : List Loc) (ls : Array Slot), lv_has ls 3 [(0, .ref (G.2.1 37)), (1, .int p1), (2, .int p2)] → XW G A (gs Γ) H locs μ → WX Γ H locs 27 ls []) h (fun  h H locs ls hl hX => ?_) (fun k1 J1 h => ?_)
  · refine i_aload_n C dX5_hold_27 rfl (lv_at hl 0 rfl) ?_
    refine x_get C hX (fg_37_0 G) tw4_83 dX5_hold_28 ?_
    refine i_bipush (v := 6) C dX5_hold_31 rfl ?_
    refine i_iload_n C dX5_hold_33 rfl (lv_at hl 1 rfl) ?_
    refine i_iadd C dX5_hold_34 ?_
    refine i_iload_n C dX5_hold_35 rfl (lv_at hl 2 rfl) ?_
    refine x_iast C hX (ai_38 G) h dX5_hold_36 (fun H locs m2 h hX => ?_)
    refine i_iconst (v := 1) C dX5_hold_37 rfl ?_
    exact x_iretW C hX hr hQ h dX5_hold_38
  refine i_icmp_eq (tgt := 27) C h dX5_hold_9 (by decide) (fun _ h => ?_) (fun _ h => ?_)
  · exact J1 h _ _ _ (lv_sub hl [0, 1, 2] rfl) hX
  refine i_aload_n C dX5_hold_12 rfl (lv_at hl 0 rfl) ?_
  refine i_iload_n C dX5_hold_13 rfl (lv_at hl 2 rfl) ?_
  obtain ⟨x3, e3, h⟩ := w_bdr h
  refine x_callVi C hX (fg_37_0 G) (c_X5_isCat (gl Γ) G  e3) [] rfl hl tw4_189 tw4_191 ts2_1 tw1_7 tw4_192 rfl nd_X5_isCat ⟨(Nat.le_of_ble_eq_true rfl), (Nat.le_of_ble_eq_true rfl)⟩ (Nat.le_of_ble_eq_true rfl) dX5_hold_14 (fun H locs hX => ?_)
  refine i_if_ne (tgt := 27) C h dX5_hold_17 (by decide) (fun _ h => ?_) (fun _ h => ?_)
  · exact J1 h _ _ _ (lv_sub hl [0, 1, 2] rfl) hX
  refine i_aload_n C dX5_hold_20 rfl (lv_at hl 0 rfl) ?_
  refine i_ldc C tw4_172 dX5_hold_21 ?_
  obtain ⟨x4, m3, e4, h⟩ := w_bdw h
  refine x_callVi C hX (fg_37_0 G) (c_X5_finding (gl Γ) G  e4) [] rfl hl tw4_173 tw4_175 ts1_15 tw1_7 tw4_176 rfl nd_X5_finding ⟨(Nat.le_of_ble_eq_true rfl), (Nat.le_of_ble_eq_true rfl)⟩ (Nat.le_of_ble_eq_true rfl) dX5_hold_23 (fun H locs hX => ?_)
  exact x_iretW C hX hr hQ h dX5_hold_26
def f_X5_as (p1 : Int32) (p2 : Int32) (μ : MM) : Option (Int32 × MM) := bdr (f_X5_isSpot p1) fun x1 => if x1 = 0 then (bdw (f_X5_finding (-1000001) μ) fun x2 m1 => some (x2, m1)) else (bdr (f_X5_isKind p2) fun x3 => if x3 = 0 then (bdw (f_X5_finding (-1000001) μ) fun x9 m4 => some (x9, m4)) else (ldi μ 38 152 (6 + p1) fun x4 => if 0 ≤ x4 then (bdr (f_X5_catIs x4 0 μ) fun x5 => bdr (f_X5_isUnder x5 p2) fun x6 => if x6 = 0 then (bdw (f_X5_finding (-1000003) μ) fun x7 m2 => some (x7, m2)) else (some (x4, μ))) else (bdw (f_X5_finding (-1000006) μ) fun x8 m3 => some (x8, m3))))
theorem nd_X5_as : yX5_as.cls ≠ "java/lang/invoke/MethodHandle" ∧ yX5_as.cls ≠ "java/lang/invoke/VarHandle" ∧ (parseMethodDescriptor yX5_as.desc).map (fun d => d.parameters.length) = some 2 := by decide +kernel
set_option maxHeartbeats 4000000 in
set_option maxRecDepth 100000 in
theorem c_X5_as (l : Launch) (G : EN)  {p1 p2 : Int32} {μ : MM} {r : Int32} {m : MM} (h : f_X5_as p1 p2 μ = some (r, m)) : XM l G yX5_as cX5_as 4 (some .int) 2 43 [.ref (G.2.1 37), .int p1, .int p2] μ (some (.int r)) m := by
  refine x_met (own := RX5) (by decide +kernel) rfl (Nat.le_of_ble_eq_true rfl) (fun Γ A H ls hg C hr hX hQ hl => ?_)
  have hl : lv_has ls 4 [(0, .ref (G.2.1 37)), (1, .int p1), (2, .int p2)] := hl
  unfold f_X5_as at h
  refine i_iload_n C dX5_as_0 rfl (lv_at hl 1 rfl) ?_
  obtain ⟨x1, e1, h⟩ := w_bdr h
  refine x_callSi C hX (c_X5_isSpot (gl Γ) G  e1) [] rfl hl tw6_108 tw6_109 tw1_7 tw6_110 nd_X5_isSpot ⟨(Nat.le_of_ble_eq_true rfl), (Nat.le_of_ble_eq_true rfl)⟩ (Nat.le_of_ble_eq_true rfl) dX5_as_1 (fun H locs hX => ?_)
  refine i_if_eq (tgt := 14) C h dX5_as_4 (by decide) (fun _ h => ?_) (fun _ h => ?_)
  · refine i_aload_n C dX5_as_14 rfl (lv_at hl 0 rfl) ?_
    refine i_ldc C tw4_172 dX5_as_15 ?_
    obtain ⟨x2, m1, e2, h⟩ := w_bdw h
    refine x_callVi C hX (fg_37_0 G) (c_X5_finding (gl Γ) G  e2) [] rfl hl tw4_173 tw4_175 ts1_15 tw1_7 tw4_176 rfl nd_X5_finding ⟨(Nat.le_of_ble_eq_true rfl), (Nat.le_of_ble_eq_true rfl)⟩ (Nat.le_of_ble_eq_true rfl) dX5_as_17 (fun H locs hX => ?_)
    exact x_iretW C hX hr hQ h dX5_as_20
  refine i_iload_n C dX5_as_7 rfl (lv_at hl 2 rfl) ?_
  obtain ⟨x3, e3, h⟩ := w_bdr h
  refine x_callSi C hX (c_X5_isKind (gl Γ) G  e3) [] rfl hl tw4_166 tw4_167 tw1_7 tw4_168 nd_X5_isKind ⟨(Nat.le_of_ble_eq_true rfl), (Nat.le_of_ble_eq_true rfl)⟩ (Nat.le_of_ble_eq_true rfl) dX5_as_8 (fun H locs hX => ?_)
  refine i_if_ne (tgt := 21) C h dX5_as_11 (by decide) (fun _ h => ?_) (fun _ h => ?_)
  · refine i_aload_n C dX5_as_21 rfl (lv_at hl 0 rfl) ?_
    refine x_get C hX (fg_37_0 G) tw4_83 dX5_as_22 ?_
    refine i_bipush (v := 6) C dX5_as_25 rfl ?_
    refine i_iload_n C dX5_as_27 rfl (lv_at hl 1 rfl) ?_
    refine i_iadd C dX5_as_28 ?_
    refine x_iald C hX (ai_38 G) h dX5_as_29 (fun x4 h => ?_)
    refine i_istore_n C [(3, .int x4), (0, .ref (G.2.1 37)), (1, .int p1), (2, .int p2)] dX5_as_30 rfl hl (by decide) rfl (fun ls hl => ?_)
    refine i_iload_n C dX5_as_31 rfl (lv_at hl 0 rfl) ?_
    refine i_if_ge (tgt := 42) C h dX5_as_32 (by decide) (fun _ h => ?_) (fun _ h => ?_)
    · refine i_aload_n C dX5_as_42 rfl (lv_at hl 1 rfl) ?_
      refine i_iload_n C dX5_as_43 rfl (lv_at hl 0 rfl) ?_
      refine i_iconst (v := 0) C dX5_as_44 rfl ?_
      obtain ⟨x5, e4, h⟩ := w_bdr h
      refine x_callVi C hX (fg_37_0 G) (c_X5_catIs (gl Γ) G  e4) [] rfl hl tw4_193 tw4_195 ts2_2 tw1_7 tw4_196 rfl nd_X5_catIs ⟨(Nat.le_of_ble_eq_true rfl), (Nat.le_of_ble_eq_true rfl)⟩ (Nat.le_of_ble_eq_true rfl) dX5_as_45 (fun H locs hX => ?_)
      refine i_iload_n C dX5_as_48 rfl (lv_at hl 3 rfl) ?_
      obtain ⟨x6, e5, h⟩ := w_bdr h
      refine x_callSi C hX (c_X5_isUnder (gl Γ) G  e5) [] rfl hl tw6_115 tw6_116 tw1_7 tw6_117 nd_X5_isUnder ⟨(Nat.le_of_ble_eq_true rfl), (Nat.le_of_ble_eq_true rfl)⟩ (Nat.le_of_ble_eq_true rfl) dX5_as_49 (fun H locs hX => ?_)
      refine i_if_eq (tgt := 59) C h dX5_as_52 (by decide) (fun _ h => ?_) (fun _ h => ?_)
      · refine i_aload_n C dX5_as_59 rfl (lv_at hl 1 rfl) ?_
        refine i_ldcw C tw6_121 dX5_as_60 ?_
        obtain ⟨x7, m2, e6, h⟩ := w_bdw h
        refine x_callVi C hX (fg_37_0 G) (c_X5_finding (gl Γ) G  e6) [] rfl hl tw4_173 tw4_175 ts1_15 tw1_7 tw4_176 rfl nd_X5_finding ⟨(Nat.le_of_ble_eq_true rfl), (Nat.le_of_ble_eq_true rfl)⟩ (Nat.le_of_ble_eq_true rfl) dX5_as_63 (fun H locs hX => ?_)
        exact x_iretW C hX hr hQ h dX5_as_66
      refine i_iload_n C dX5_as_55 rfl (lv_at hl 0 rfl) ?_
      refine i_goto (tgt := 66) C dX5_as_56 (by decide) ?_
      exact x_iretW C hX hr hQ h dX5_as_66
    refine i_aload_n C dX5_as_35 rfl (lv_at hl 1 rfl) ?_
    refine i_ldc C tw5_217 dX5_as_36 ?_
    obtain ⟨x8, m3, e7, h⟩ := w_bdw h
    refine x_callVi C hX (fg_37_0 G) (c_X5_finding (gl Γ) G  e7) [] rfl hl tw4_173 tw4_175 ts1_15 tw1_7 tw4_176 rfl nd_X5_finding ⟨(Nat.le_of_ble_eq_true rfl), (Nat.le_of_ble_eq_true rfl)⟩ (Nat.le_of_ble_eq_true rfl) dX5_as_38 (fun H locs hX => ?_)
    exact x_iretW C hX hr hQ h dX5_as_41
  refine i_aload_n C dX5_as_14 rfl (lv_at hl 0 rfl) ?_
  refine i_ldc C tw4_172 dX5_as_15 ?_
  obtain ⟨x9, m4, e8, h⟩ := w_bdw h
  refine x_callVi C hX (fg_37_0 G) (c_X5_finding (gl Γ) G  e8) [] rfl hl tw4_173 tw4_175 ts1_15 tw1_7 tw4_176 rfl nd_X5_finding ⟨(Nat.le_of_ble_eq_true rfl), (Nat.le_of_ble_eq_true rfl)⟩ (Nat.le_of_ble_eq_true rfl) dX5_as_17 (fun H locs hX => ?_)
  exact x_iretW C hX hr hQ h dX5_as_20
def f_X5_cutTo (p0 : Int32) (p1 : Int32) : Option Int32 := if p1 = 8 then (some (p0.toInt8.toInt32)) else (if p1 = 16 then (some (p0.toInt16.toInt32)) else (some p0))
theorem nd_X5_cutTo : yX5_cutTo.cls ≠ "java/lang/invoke/MethodHandle" ∧ yX5_cutTo.cls ≠ "java/lang/invoke/VarHandle" ∧ (parseMethodDescriptor yX5_cutTo.desc).map (fun d => d.parameters.length) = some 2 := by decide +kernel
set_option maxHeartbeats 4000000 in
set_option maxRecDepth 100000 in
theorem c_X5_cutTo (l : Launch) (G : EN)  {p0 p1 : Int32} {μ : MM} {r : Int32} (h : f_X5_cutTo p0 p1 = some r) : XM l G yX5_cutTo cX5_cutTo 2 (some .int) 0 0 [.int p0, .int p1] μ (some (.int r)) μ := by
  refine x_met (own := RX5) (by decide +kernel) rfl (Nat.le_of_ble_eq_true rfl) (fun Γ A H ls hg C hr hX hQ hl => ?_)
  have hl : lv_has ls 2 [(0, .int p0), (1, .int p1)] := hl
  unfold f_X5_cutTo at h
  refine i_iload_n C dX5_cutTo_0 rfl (lv_at hl 1 rfl) ?_
  refine i_bipush (v := 8) C dX5_cutTo_1 rfl ?_
  refine i_icmp_ne (tgt := 11) C h dX5_cutTo_3 (by decide) (fun _ h => ?_) (fun _ h => ?_)
  · refine i_iload_n C dX5_cutTo_11 rfl (lv_at hl 1 rfl) ?_
    refine i_bipush (v := 16) C dX5_cutTo_12 rfl ?_
    refine i_icmp_ne (tgt := 22) C h dX5_cutTo_14 (by decide) (fun _ h => ?_) (fun _ h => ?_)
    · refine i_iload_n C dX5_cutTo_22 rfl (lv_at hl 0 rfl) ?_
      exact x_iretR C hX hr hQ h dX5_cutTo_23
    refine i_iload_n C dX5_cutTo_17 rfl (lv_at hl 0 rfl) ?_
    refine i_i2s C dX5_cutTo_18 ?_
    refine i_goto (tgt := 23) C dX5_cutTo_19 (by decide) ?_
    exact x_iretR C hX hr hQ h dX5_cutTo_23
  refine i_iload_n C dX5_cutTo_6 rfl (lv_at hl 0 rfl) ?_
  refine i_i2b C dX5_cutTo_7 ?_
  refine i_goto (tgt := 23) C dX5_cutTo_8 (by decide) ?_
  exact x_iretR C hX hr hQ h dX5_cutTo_23
def L_X5_sheet_86 (p1 : Int32) (k1 : MM → Option (Int32 × MM)) : Nat → Int32 → MM → Option (Int32 × MM)
  | 0, _, _ => none
  | fu + 1, x5, m5 => if 40 ≤ x5 then (k1 m5) else (sti m5 49 160 ((40 * p1) + x5) 0 fun m6 => lt_ (x5 + 1) fun x6 => L_X5_sheet_86 p1 k1 fu x6 m6)
def f_X5_sheet (p1 : Int32) (p2 : Int32) (p3 : Int32) (μ : MM) : Option (Int32 × MM) := bdr (f_X5_isSheet p1) fun x1 => if x1 = 0 then (bdw (f_X5_finding (-1000001) μ) fun x2 m1 => some (x2, m1)) else (jn0 (if 0 ≤ p3 then (if p3 ≤ 40 then (sti μ 47 4 p1 p2 fun m2 => jn1 (fun (x3 : Int32) => sti m2 48 4 p1 x3 fun m3 => jn1 (fun (m4 : MM) => ldi m4 48 4 p1 fun x4 => some (x4, m4)) fun k1 => L_X5_sheet_86 p1 k1 FU 0 m3) fun k2 => if p2 = 0 then (k2 0) else (k2 p3)) else (bdw (f_X5_finding (-1000001) μ) fun x7 m7 => some (x7, m7))) else (bdw (f_X5_finding (-1000007) μ) fun x8 m8 => some (x8, m8))) fun k3 => if p2 = 0 then (k3) else (if p2 = 8 then (k3) else (if p2 = 16 then (k3) else (if p2 = 32 then (k3) else (bdw (f_X5_finding (-1000001) μ) fun x9 m9 => some (x9, m9))))))
theorem nd_X5_sheet : yX5_sheet.cls ≠ "java/lang/invoke/MethodHandle" ∧ yX5_sheet.cls ≠ "java/lang/invoke/VarHandle" ∧ (parseMethodDescriptor yX5_sheet.desc).map (fun d => d.parameters.length) = some 3 := by decide +kernel
set_option maxHeartbeats 4000000 in
set_option maxRecDepth 100000 in
theorem c_X5_sheet (l : Launch) (G : EN)  {p1 p2 p3 : Int32} {μ : MM} {r : Int32} {m : MM} (h : f_X5_sheet p1 p2 p3 μ = some (r, m)) : XM l G yX5_sheet cX5_sheet 5 (some .int) 2 42 [.ref (G.2.1 37), .int p1, .int p2, .int p3] μ (some (.int r)) m := by
  refine x_met (own := RX5) (by decide +kernel) rfl (Nat.le_of_ble_eq_true rfl) (fun Γ A H ls hg C hr hX hQ hl => ?_)
  have hl : lv_has ls 5 [(0, .ref (G.2.1 37)), (1, .int p1), (2, .int p2), (3, .int p3)] := hl
  unfold f_X5_sheet at h
  refine i_iload_n C dX5_sheet_0 rfl (lv_at hl 1 rfl) ?_
  obtain ⟨x1, e1, h⟩ := w_bdr h
  refine x_callSi C hX (c_X5_isSheet (gl Γ) G  e1) [] rfl hl tw5_214 tw5_215 tw1_7 tw5_216 nd_X5_isSheet ⟨(Nat.le_of_ble_eq_true rfl), (Nat.le_of_ble_eq_true rfl)⟩ (Nat.le_of_ble_eq_true rfl) dX5_sheet_1 (fun H locs hX => ?_)
  refine i_if_eq (tgt := 29) C h dX5_sheet_4 (by decide) (fun _ h => ?_) (fun _ h => ?_)
  · refine i_aload_n C dX5_sheet_29 rfl (lv_at hl 0 rfl) ?_
    refine i_ldc C tw4_172 dX5_sheet_30 ?_
    obtain ⟨x2, m1, e2, h⟩ := w_bdw h
    refine x_callVi C hX (fg_37_0 G) (c_X5_finding (gl Γ) G  e2) [] rfl hl tw4_173 tw4_175 ts1_15 tw1_7 tw4_176 rfl nd_X5_finding ⟨(Nat.le_of_ble_eq_true rfl), (Nat.le_of_ble_eq_true rfl)⟩ (Nat.le_of_ble_eq_true rfl) dX5_sheet_32 (fun H locs hX => ?_)
    exact x_iretW C hX hr hQ h dX5_sheet_35
  refine i_iload_n C dX5_sheet_7 rfl (lv_at hl 2 rfl) ?_
  refine w_jn0 (∀ (H : Heap) (locs : List Loc) (ls : Array Slot), lv_has ls 5 [(0, .ref (G.2.1 37)), (1, .int p1), (2, .int p2), (3, .int p3)] → XW G A (gs Γ) H locs μ → WX Γ H locs 36 ls []) h (fun  h H locs ls hl hX => ?_) (fun k3 J3 h => ?_)
  · refine i_iload_n C dX5_sheet_36 rfl (lv_at hl 3 rfl) ?_
    refine i_if_ge (tgt := 48) C h dX5_sheet_37 (by decide) (fun _ h => ?_) (fun _ h => ?_)
    · refine i_iload_n C dX5_sheet_48 rfl (lv_at hl 3 rfl) ?_
      refine i_bipush (v := 40) C dX5_sheet_49 rfl ?_
      refine i_icmp_le (tgt := 61) C h dX5_sheet_51 (by decide) (fun _ h => ?_) (fun _ h => ?_)
      · refine i_aload_n C dX5_sheet_61 rfl (lv_at hl 0 rfl) ?_
        refine x_get C hX (fg_37_22 G) tw4_105 dX5_sheet_62 ?_
        refine i_iload_n C dX5_sheet_65 rfl (lv_at hl 1 rfl) ?_
        refine i_iload_n C dX5_sheet_66 rfl (lv_at hl 2 rfl) ?_
        refine x_iast C hX (ai_47 G) h dX5_sheet_67 (fun H locs m2 h hX => ?_)
        refine i_aload_n C dX5_sheet_68 rfl (lv_at hl 0 rfl) ?_
        refine x_get C hX (fg_37_23 G) tw4_106 dX5_sheet_69 ?_
        refine i_iload_n C dX5_sheet_72 rfl (lv_at hl 1 rfl) ?_
        refine i_iload_n C dX5_sheet_73 rfl (lv_at hl 2 rfl) ?_
        refine w_jn1 (fun (x3 : Int32) => ∀ (H : Heap) (locs : List Loc) (ls : Array Slot), lv_has ls 5 [(0, .ref (G.2.1 37)), (1, .int p1)] → XW G A (gs Γ) H locs m2 → WX Γ H locs 82 ls [.int x3, .int p1, .ref (G.2.1 48)]) h (fun x3 h H locs ls hl hX => ?_) (fun k2 J2 h => ?_)
        · refine x_iast C hX (ai_48 G) h dX5_sheet_82 (fun H locs m3 h hX => ?_)
          refine i_iconst (v := 0) C dX5_sheet_83 rfl ?_
          refine i_istore C [(4, .int 0), (0, .ref (G.2.1 37)), (1, .int p1)] dX5_sheet_84 hl (by decide) rfl (fun ls hl => ?_)
          refine w_jn1 (fun (m4 : MM) => ∀ (H : Heap) (locs : List Loc) (ls : Array Slot), lv_has ls 5 [(0, .ref (G.2.1 37)), (1, .int p1)] → XW G A (gs Γ) H locs m4 → WX Γ H locs 112 ls []) h (fun m4 h H locs ls hl hX => ?_) (fun k1 J1 h => ?_)
          · refine i_aload_n C dX5_sheet_112 rfl (lv_at hl 0 rfl) ?_
            refine x_get C hX (fg_37_23 G) tw4_106 dX5_sheet_113 ?_
            refine i_iload_n C dX5_sheet_116 rfl (lv_at hl 1 rfl) ?_
            refine x_iald C hX (ai_48 G) h dX5_sheet_117 (fun x4 h => ?_)
            exact x_iretW C hX hr hQ h dX5_sheet_118
          have L1 : ∀ (fu : Nat) (x5 : Int32) (m5 : MM) (H : Heap) (locs : List Loc) (ls : Array Slot), L_X5_sheet_86 p1 k1 fu x5 m5 = some (r, m) → lv_has ls 5 [(0, .ref (G.2.1 37)), (1, .int p1), (4, .int x5)] → XW G A (gs Γ) H locs m5 → WX Γ H locs 86 ls [] := by
            intro fu
            induction fu with
            | zero =>
              intro x5 m5 H locs ls h
              rw [L_X5_sheet_86] at h
              cases h
            | succ fu ih =>
              intro x5 m5 H locs ls h hl hX
              rw [L_X5_sheet_86] at h
              refine i_iload C dX5_sheet_86 (lv_at hl 2 rfl) ?_
              refine i_bipush (v := 40) C dX5_sheet_88 rfl ?_
              refine i_icmp_ge (tgt := 112) C h dX5_sheet_90 (by decide) (fun _ h => ?_) (fun _ h => ?_)
              · exact J1 _ h _ _ _ (lv_sub hl [0, 1] rfl) hX
              refine i_aload_n C dX5_sheet_93 rfl (lv_at hl 0 rfl) ?_
              refine x_get C hX (fg_37_24 G) tw4_107 dX5_sheet_94 ?_
              refine i_bipush (v := 40) C dX5_sheet_97 rfl ?_
              refine i_iload_n C dX5_sheet_99 rfl (lv_at hl 1 rfl) ?_
              refine i_imul C dX5_sheet_100 ?_
              refine i_iload C dX5_sheet_101 (lv_at hl 2 rfl) ?_
              refine i_iadd C dX5_sheet_103 ?_
              refine i_iconst (v := 0) C dX5_sheet_104 rfl ?_
              refine x_iast C hX (ai_49 G) h dX5_sheet_105 (fun H locs m6 h hX => ?_)
              refine i_iinc C (j := 2) (fun x6 => [(4, .int x6), (0, .ref (G.2.1 37)), (1, .int p1)]) h dX5_sheet_106 hl rfl rfl (by decide) (fun _ => rfl) (fun x6 ls h hl => ?_)
              refine i_goto (tgt := 86) C dX5_sheet_109 (by decide) ?_
              exact ih _ _ _ _ _ h (lv_sub hl [1, 2, 0] rfl) hX
          exact L1 FU _ _ _ _ _ h (lv_sub hl [1, 2, 0] rfl) hX
        refine i_if_ne (tgt := 81) C h dX5_sheet_74 (by decide) (fun _ h => ?_) (fun _ h => ?_)
        · refine i_iload_n C dX5_sheet_81 rfl (lv_at hl 3 rfl) ?_
          exact J2 _ h _ _ _ (lv_sub hl [0, 1] rfl) hX
        refine i_iconst (v := 0) C dX5_sheet_77 rfl ?_
        refine i_goto (tgt := 82) C dX5_sheet_78 (by decide) ?_
        exact J2 _ h _ _ _ (lv_sub hl [0, 1] rfl) hX
      refine i_aload_n C dX5_sheet_54 rfl (lv_at hl 0 rfl) ?_
      refine i_ldc C tw4_172 dX5_sheet_55 ?_
      obtain ⟨x7, m7, e3, h⟩ := w_bdw h
      refine x_callVi C hX (fg_37_0 G) (c_X5_finding (gl Γ) G  e3) [] rfl hl tw4_173 tw4_175 ts1_15 tw1_7 tw4_176 rfl nd_X5_finding ⟨(Nat.le_of_ble_eq_true rfl), (Nat.le_of_ble_eq_true rfl)⟩ (Nat.le_of_ble_eq_true rfl) dX5_sheet_57 (fun H locs hX => ?_)
      exact x_iretW C hX hr hQ h dX5_sheet_60
    refine i_aload_n C dX5_sheet_40 rfl (lv_at hl 0 rfl) ?_
    refine i_ldcw C tw6_126 dX5_sheet_41 ?_
    obtain ⟨x8, m8, e4, h⟩ := w_bdw h
    refine x_callVi C hX (fg_37_0 G) (c_X5_finding (gl Γ) G  e4) [] rfl hl tw4_173 tw4_175 ts1_15 tw1_7 tw4_176 rfl nd_X5_finding ⟨(Nat.le_of_ble_eq_true rfl), (Nat.le_of_ble_eq_true rfl)⟩ (Nat.le_of_ble_eq_true rfl) dX5_sheet_44 (fun H locs hX => ?_)
    exact x_iretW C hX hr hQ h dX5_sheet_47
  refine i_if_eq (tgt := 36) C h dX5_sheet_8 (by decide) (fun _ h => ?_) (fun _ h => ?_)
  · exact J3 h _ _ _ (lv_sub hl [0, 1, 2, 3] rfl) hX
  refine i_iload_n C dX5_sheet_11 rfl (lv_at hl 2 rfl) ?_
  refine i_bipush (v := 8) C dX5_sheet_12 rfl ?_
  refine i_icmp_eq (tgt := 36) C h dX5_sheet_14 (by decide) (fun _ h => ?_) (fun _ h => ?_)
  · exact J3 h _ _ _ (lv_sub hl [0, 1, 2, 3] rfl) hX
  refine i_iload_n C dX5_sheet_17 rfl (lv_at hl 2 rfl) ?_
  refine i_bipush (v := 16) C dX5_sheet_18 rfl ?_
  refine i_icmp_eq (tgt := 36) C h dX5_sheet_20 (by decide) (fun _ h => ?_) (fun _ h => ?_)
  · exact J3 h _ _ _ (lv_sub hl [0, 1, 2, 3] rfl) hX
  refine i_iload_n C dX5_sheet_23 rfl (lv_at hl 2 rfl) ?_
  refine i_bipush (v := 32) C dX5_sheet_24 rfl ?_
  refine i_icmp_eq (tgt := 36) C h dX5_sheet_26 (by decide) (fun _ h => ?_) (fun _ h => ?_)
  · exact J3 h _ _ _ (lv_sub hl [0, 1, 2, 3] rfl) hX
  refine i_aload_n C dX5_sheet_29 rfl (lv_at hl 0 rfl) ?_
  refine i_ldc C tw4_172 dX5_sheet_30 ?_
  obtain ⟨x9, m9, e5, h⟩ := w_bdw h
  refine x_callVi C hX (fg_37_0 G) (c_X5_finding (gl Γ) G  e5) [] rfl hl tw4_173 tw4_175 ts1_15 tw1_7 tw4_176 rfl nd_X5_finding ⟨(Nat.le_of_ble_eq_true rfl), (Nat.le_of_ble_eq_true rfl)⟩ (Nat.le_of_ble_eq_true rfl) dX5_sheet_32 (fun H locs hX => ?_)
  exact x_iretW C hX hr hQ h dX5_sheet_35
def f_X5_write (p1 : Int32) (p2 : Int32) (p3 : Int32) (μ : MM) : Option (Int32 × MM) := bdr (f_X5_isSheet p1) fun x1 => if x1 = 0 then (bdw (f_X5_finding (-1000001) μ) fun x9 m4 => some (x9, m4)) else (ldi μ 47 4 p1 fun x2 => if x2 = 0 then (bdw (f_X5_finding (-1000006) μ) fun x8 m3 => some (x8, m3)) else (ldi μ 48 4 p1 fun x3 => bdr (f_X5_within p2 0 (x3 - 1)) fun x4 => if x4 = 0 then (bdw (f_X5_finding (-1000001) μ) fun x7 m2 => some (x7, m2)) else (ldi μ 47 4 p1 fun x5 => bdr (f_X5_cutTo p3 x5) fun x6 => sti μ 49 160 ((40 * p1) + p2) x6 fun m1 => some (1, m1))))
theorem nd_X5_write : yX5_write.cls ≠ "java/lang/invoke/MethodHandle" ∧ yX5_write.cls ≠ "java/lang/invoke/VarHandle" ∧ (parseMethodDescriptor yX5_write.desc).map (fun d => d.parameters.length) = some 3 := by decide +kernel
set_option maxHeartbeats 4000000 in
set_option maxRecDepth 100000 in
theorem c_X5_write (l : Launch) (G : EN)  {p1 p2 p3 : Int32} {μ : MM} {r : Int32} {m : MM} (h : f_X5_write p1 p2 p3 μ = some (r, m)) : XM l G yX5_write cX5_write 4 (some .int) 2 42 [.ref (G.2.1 37), .int p1, .int p2, .int p3] μ (some (.int r)) m := by
  refine x_met (own := RX5) (by decide +kernel) rfl (Nat.le_of_ble_eq_true rfl) (fun Γ A H ls hg C hr hX hQ hl => ?_)
  have hl : lv_has ls 4 [(0, .ref (G.2.1 37)), (1, .int p1), (2, .int p2), (3, .int p3)] := hl
  unfold f_X5_write at h
  refine i_iload_n C dX5_write_0 rfl (lv_at hl 1 rfl) ?_
  obtain ⟨x1, e1, h⟩ := w_bdr h
  refine x_callSi C hX (c_X5_isSheet (gl Γ) G  e1) [] rfl hl tw5_214 tw5_215 tw1_7 tw5_216 nd_X5_isSheet ⟨(Nat.le_of_ble_eq_true rfl), (Nat.le_of_ble_eq_true rfl)⟩ (Nat.le_of_ble_eq_true rfl) dX5_write_1 (fun H locs hX => ?_)
  refine i_if_ne (tgt := 14) C h dX5_write_4 (by decide) (fun _ h => ?_) (fun _ h => ?_)
  · refine i_aload_n C dX5_write_14 rfl (lv_at hl 0 rfl) ?_
    refine x_get C hX (fg_37_22 G) tw4_105 dX5_write_15 ?_
    refine i_iload_n C dX5_write_18 rfl (lv_at hl 1 rfl) ?_
    refine x_iald C hX (ai_47 G) h dX5_write_19 (fun x2 h => ?_)
    refine i_if_ne (tgt := 30) C h dX5_write_20 (by decide) (fun _ h => ?_) (fun _ h => ?_)
    · refine i_iload_n C dX5_write_30 rfl (lv_at hl 2 rfl) ?_
      refine i_iconst (v := 0) C dX5_write_31 rfl ?_
      refine i_aload_n C dX5_write_32 rfl (lv_at hl 0 rfl) ?_
      refine x_get C hX (fg_37_23 G) tw4_106 dX5_write_33 ?_
      refine i_iload_n C dX5_write_36 rfl (lv_at hl 1 rfl) ?_
      refine x_iald C hX (ai_48 G) h dX5_write_37 (fun x3 h => ?_)
      refine i_iconst (v := 1) C dX5_write_38 rfl ?_
      refine i_isub C dX5_write_39 ?_
      obtain ⟨x4, e2, h⟩ := w_bdr h
      refine x_callSi C hX (c_X5_within (gl Γ) G  e2) [] rfl hl tw4_169 tw4_170 tw1_7 tw4_171 nd_X5_within ⟨(Nat.le_of_ble_eq_true rfl), (Nat.le_of_ble_eq_true rfl)⟩ (Nat.le_of_ble_eq_true rfl) dX5_write_40 (fun H locs hX => ?_)
      refine i_if_ne (tgt := 53) C h dX5_write_43 (by decide) (fun _ h => ?_) (fun _ h => ?_)
      · refine i_aload_n C dX5_write_53 rfl (lv_at hl 0 rfl) ?_
        refine x_get C hX (fg_37_24 G) tw4_107 dX5_write_54 ?_
        refine i_bipush (v := 40) C dX5_write_57 rfl ?_
        refine i_iload_n C dX5_write_59 rfl (lv_at hl 1 rfl) ?_
        refine i_imul C dX5_write_60 ?_
        refine i_iload_n C dX5_write_61 rfl (lv_at hl 2 rfl) ?_
        refine i_iadd C dX5_write_62 ?_
        refine i_iload_n C dX5_write_63 rfl (lv_at hl 3 rfl) ?_
        refine i_aload_n C dX5_write_64 rfl (lv_at hl 0 rfl) ?_
        refine x_get C hX (fg_37_22 G) tw4_105 dX5_write_65 ?_
        refine i_iload_n C dX5_write_68 rfl (lv_at hl 1 rfl) ?_
        refine x_iald C hX (ai_47 G) h dX5_write_69 (fun x5 h => ?_)
        obtain ⟨x6, e3, h⟩ := w_bdr h
        refine x_callSi C hX (c_X5_cutTo (gl Γ) G  e3) [.int ((40 * p1) + p2), .ref (G.2.1 49)] rfl hl tw6_131 tw6_132 tw1_7 tw6_133 nd_X5_cutTo ⟨(Nat.le_of_ble_eq_true rfl), (Nat.le_of_ble_eq_true rfl)⟩ (Nat.le_of_ble_eq_true rfl) dX5_write_70 (fun H locs hX => ?_)
        refine x_iast C hX (ai_49 G) h dX5_write_73 (fun H locs m1 h hX => ?_)
        refine i_iconst (v := 1) C dX5_write_74 rfl ?_
        exact x_iretW C hX hr hQ h dX5_write_75
      refine i_aload_n C dX5_write_46 rfl (lv_at hl 0 rfl) ?_
      refine i_ldc C tw4_172 dX5_write_47 ?_
      obtain ⟨x7, m2, e4, h⟩ := w_bdw h
      refine x_callVi C hX (fg_37_0 G) (c_X5_finding (gl Γ) G  e4) [] rfl hl tw4_173 tw4_175 ts1_15 tw1_7 tw4_176 rfl nd_X5_finding ⟨(Nat.le_of_ble_eq_true rfl), (Nat.le_of_ble_eq_true rfl)⟩ (Nat.le_of_ble_eq_true rfl) dX5_write_49 (fun H locs hX => ?_)
      exact x_iretW C hX hr hQ h dX5_write_52
    refine i_aload_n C dX5_write_23 rfl (lv_at hl 0 rfl) ?_
    refine i_ldc C tw5_217 dX5_write_24 ?_
    obtain ⟨x8, m3, e5, h⟩ := w_bdw h
    refine x_callVi C hX (fg_37_0 G) (c_X5_finding (gl Γ) G  e5) [] rfl hl tw4_173 tw4_175 ts1_15 tw1_7 tw4_176 rfl nd_X5_finding ⟨(Nat.le_of_ble_eq_true rfl), (Nat.le_of_ble_eq_true rfl)⟩ (Nat.le_of_ble_eq_true rfl) dX5_write_26 (fun H locs hX => ?_)
    exact x_iretW C hX hr hQ h dX5_write_29
  refine i_aload_n C dX5_write_7 rfl (lv_at hl 0 rfl) ?_
  refine i_ldc C tw4_172 dX5_write_8 ?_
  obtain ⟨x9, m4, e6, h⟩ := w_bdw h
  refine x_callVi C hX (fg_37_0 G) (c_X5_finding (gl Γ) G  e6) [] rfl hl tw4_173 tw4_175 ts1_15 tw1_7 tw4_176 rfl nd_X5_finding ⟨(Nat.le_of_ble_eq_true rfl), (Nat.le_of_ble_eq_true rfl)⟩ (Nat.le_of_ble_eq_true rfl) dX5_write_10 (fun H locs hX => ?_)
  exact x_iretW C hX hr hQ h dX5_write_13
def L_X5_copy_165 (p3 : Int32) (p4 : Int32) (p5 : Int32) : Nat → Int32 → MM → Option (Int32 × MM)
  | 0, _, _ => none
  | fu + 1, x15, m8 => if p5 ≤ x15 then (some (p5, m8)) else (ldi m8 50 40 x15 fun x16 => sti m8 49 160 (((40 * p3) + p4) + x15) x16 fun m9 => lt_ (x15 + 1) fun x17 => L_X5_copy_165 p3 p4 p5 fu x17 m9)
def L_X5_copy_128 (p1 : Int32) (p2 : Int32) (p5 : Int32) (k1 : MM → Option (Int32 × MM)) : Nat → Int32 → MM → Option (Int32 × MM)
  | 0, _, _ => none
  | fu + 1, x18, m10 => if p5 ≤ x18 then (k1 m10) else (ldi m10 49 160 (((40 * p1) + p2) + x18) fun x19 => sti m10 50 40 x18 x19 fun m11 => lt_ (x18 + 1) fun x20 => L_X5_copy_128 p1 p2 p5 k1 fu x20 m11)
def f_X5_copy (p1 : Int32) (p2 : Int32) (p3 : Int32) (p4 : Int32) (p5 : Int32) (μ : MM) : Option (Int32 × MM) := bdr (f_X5_isSheet p1) fun x1 => if x1 = 0 then (bdw (f_X5_finding (-1000001) μ) fun x2 m1 => some (x2, m1)) else (bdr (f_X5_isSheet p3) fun x3 => if x3 = 0 then (bdw (f_X5_finding (-1000001) μ) fun x24 m15 => some (x24, m15)) else (ldi μ 47 4 p1 fun x4 => if x4 = 0 then (bdw (f_X5_finding (-1000006) μ) fun x5 m2 => some (x5, m2)) else (ldi μ 47 4 p3 fun x6 => if x6 = 0 then (bdw (f_X5_finding (-1000006) μ) fun x23 m14 => some (x23, m14)) else (ldi μ 47 4 p1 fun x7 => ldi μ 47 4 p3 fun x8 => if x7 = x8 then (if p2 < 0 then (bdw (f_X5_finding (-1000001) μ) fun x9 m3 => some (x9, m3)) else (if p4 < 0 then (bdw (f_X5_finding (-1000001) μ) fun x10 m4 => some (x10, m4)) else (if p5 < 0 then (bdw (f_X5_finding (-1000001) μ) fun x11 m5 => some (x11, m5)) else (ldi μ 48 4 p1 fun x12 => if 0 < (lg_cmp ((p2).toInt64 + (p5).toInt64) (x12).toInt64) then (bdw (f_X5_finding (-1000001) μ) fun x13 m6 => some (x13, m6)) else (ldi μ 48 4 p3 fun x14 => if (lg_cmp ((p4).toInt64 + (p5).toInt64) (x14).toInt64) ≤ 0 then (jn1 (fun (m7 : MM) => L_X5_copy_165 p3 p4 p5 FU 0 m7) fun k1 => L_X5_copy_128 p1 p2 p5 k1 FU 0 μ) else (bdw (f_X5_finding (-1000001) μ) fun x21 m12 => some (x21, m12))))))) else (bdw (f_X5_finding (-1000003) μ) fun x22 m13 => some (x22, m13))))))
theorem nd_X5_copy : yX5_copy.cls ≠ "java/lang/invoke/MethodHandle" ∧ yX5_copy.cls ≠ "java/lang/invoke/VarHandle" ∧ (parseMethodDescriptor yX5_copy.desc).map (fun d => d.parameters.length) = some 5 := by decide +kernel
set_option maxHeartbeats 4000000 in
set_option maxRecDepth 100000 in
theorem c_X5_copy (l : Launch) (G : EN)  {p1 p2 p3 p4 p5 : Int32} {μ : MM} {r : Int32} {m : MM} (h : f_X5_copy p1 p2 p3 p4 p5 μ = some (r, m)) : XM l G yX5_copy cX5_copy 7 (some .int) 2 42 [.ref (G.2.1 37), .int p1, .int p2, .int p3, .int p4, .int p5] μ (some (.int r)) m := by
  refine x_met (own := RX5) (by decide +kernel) rfl (Nat.le_of_ble_eq_true rfl) (fun Γ A H ls hg C hr hX hQ hl => ?_)
  have hl : lv_has ls 7 [(0, .ref (G.2.1 37)), (1, .int p1), (2, .int p2), (3, .int p3), (4, .int p4), (5, .int p5)] := hl
  unfold f_X5_copy at h
  refine i_iload_n C dX5_copy_0 rfl (lv_at hl 1 rfl) ?_
  obtain ⟨x1, e1, h⟩ := w_bdr h
  refine x_callSi C hX (c_X5_isSheet (gl Γ) G  e1) [] rfl hl tw5_214 tw5_215 tw1_7 tw5_216 nd_X5_isSheet ⟨(Nat.le_of_ble_eq_true rfl), (Nat.le_of_ble_eq_true rfl)⟩ (Nat.le_of_ble_eq_true rfl) dX5_copy_1 (fun H locs hX => ?_)
  refine i_if_eq (tgt := 14) C h dX5_copy_4 (by decide) (fun _ h => ?_) (fun _ h => ?_)
  · refine i_aload_n C dX5_copy_14 rfl (lv_at hl 0 rfl) ?_
    refine i_ldc C tw4_172 dX5_copy_15 ?_
    obtain ⟨x2, m1, e2, h⟩ := w_bdw h
    refine x_callVi C hX (fg_37_0 G) (c_X5_finding (gl Γ) G  e2) [] rfl hl tw4_173 tw4_175 ts1_15 tw1_7 tw4_176 rfl nd_X5_finding ⟨(Nat.le_of_ble_eq_true rfl), (Nat.le_of_ble_eq_true rfl)⟩ (Nat.le_of_ble_eq_true rfl) dX5_copy_17 (fun H locs hX => ?_)
    exact x_iretW C hX hr hQ h dX5_copy_20
  refine i_iload_n C dX5_copy_7 rfl (lv_at hl 3 rfl) ?_
  obtain ⟨x3, e3, h⟩ := w_bdr h
  refine x_callSi C hX (c_X5_isSheet (gl Γ) G  e3) [] rfl hl tw5_214 tw5_215 tw1_7 tw5_216 nd_X5_isSheet ⟨(Nat.le_of_ble_eq_true rfl), (Nat.le_of_ble_eq_true rfl)⟩ (Nat.le_of_ble_eq_true rfl) dX5_copy_8 (fun H locs hX => ?_)
  refine i_if_ne (tgt := 21) C h dX5_copy_11 (by decide) (fun _ h => ?_) (fun _ h => ?_)
  · refine i_aload_n C dX5_copy_21 rfl (lv_at hl 0 rfl) ?_
    refine x_get C hX (fg_37_22 G) tw4_105 dX5_copy_22 ?_
    refine i_iload_n C dX5_copy_25 rfl (lv_at hl 1 rfl) ?_
    refine x_iald C hX (ai_47 G) h dX5_copy_26 (fun x4 h => ?_)
    refine i_if_eq (tgt := 39) C h dX5_copy_27 (by decide) (fun _ h => ?_) (fun _ h => ?_)
    · refine i_aload_n C dX5_copy_39 rfl (lv_at hl 0 rfl) ?_
      refine i_ldc C tw5_217 dX5_copy_40 ?_
      obtain ⟨x5, m2, e4, h⟩ := w_bdw h
      refine x_callVi C hX (fg_37_0 G) (c_X5_finding (gl Γ) G  e4) [] rfl hl tw4_173 tw4_175 ts1_15 tw1_7 tw4_176 rfl nd_X5_finding ⟨(Nat.le_of_ble_eq_true rfl), (Nat.le_of_ble_eq_true rfl)⟩ (Nat.le_of_ble_eq_true rfl) dX5_copy_42 (fun H locs hX => ?_)
      exact x_iretW C hX hr hQ h dX5_copy_45
    refine i_aload_n C dX5_copy_30 rfl (lv_at hl 0 rfl) ?_
    refine x_get C hX (fg_37_22 G) tw4_105 dX5_copy_31 ?_
    refine i_iload_n C dX5_copy_34 rfl (lv_at hl 3 rfl) ?_
    refine x_iald C hX (ai_47 G) h dX5_copy_35 (fun x6 h => ?_)
    refine i_if_ne (tgt := 46) C h dX5_copy_36 (by decide) (fun _ h => ?_) (fun _ h => ?_)
    · refine i_aload_n C dX5_copy_46 rfl (lv_at hl 0 rfl) ?_
      refine x_get C hX (fg_37_22 G) tw4_105 dX5_copy_47 ?_
      refine i_iload_n C dX5_copy_50 rfl (lv_at hl 1 rfl) ?_
      refine x_iald C hX (ai_47 G) h dX5_copy_51 (fun x7 h => ?_)
      refine i_aload_n C dX5_copy_52 rfl (lv_at hl 0 rfl) ?_
      refine x_get C hX (fg_37_22 G) tw4_105 dX5_copy_53 ?_
      refine i_iload_n C dX5_copy_56 rfl (lv_at hl 3 rfl) ?_
      refine x_iald C hX (ai_47 G) h dX5_copy_57 (fun x8 h => ?_)
      refine i_icmp_eq (tgt := 69) C h dX5_copy_58 (by decide) (fun _ h => ?_) (fun _ h => ?_)
      · refine i_iload_n C dX5_copy_69 rfl (lv_at hl 2 rfl) ?_
        refine i_if_lt (tgt := 118) C h dX5_copy_70 (by decide) (fun _ h => ?_) (fun _ h => ?_)
        · refine i_aload_n C dX5_copy_118 rfl (lv_at hl 0 rfl) ?_
          refine i_ldc C tw4_172 dX5_copy_119 ?_
          obtain ⟨x9, m3, e5, h⟩ := w_bdw h
          refine x_callVi C hX (fg_37_0 G) (c_X5_finding (gl Γ) G  e5) [] rfl hl tw4_173 tw4_175 ts1_15 tw1_7 tw4_176 rfl nd_X5_finding ⟨(Nat.le_of_ble_eq_true rfl), (Nat.le_of_ble_eq_true rfl)⟩ (Nat.le_of_ble_eq_true rfl) dX5_copy_121 (fun H locs hX => ?_)
          exact x_iretW C hX hr hQ h dX5_copy_124
        refine i_iload C dX5_copy_73 (lv_at hl 4 rfl) ?_
        refine i_if_lt (tgt := 118) C h dX5_copy_75 (by decide) (fun _ h => ?_) (fun _ h => ?_)
        · refine i_aload_n C dX5_copy_118 rfl (lv_at hl 0 rfl) ?_
          refine i_ldc C tw4_172 dX5_copy_119 ?_
          obtain ⟨x10, m4, e6, h⟩ := w_bdw h
          refine x_callVi C hX (fg_37_0 G) (c_X5_finding (gl Γ) G  e6) [] rfl hl tw4_173 tw4_175 ts1_15 tw1_7 tw4_176 rfl nd_X5_finding ⟨(Nat.le_of_ble_eq_true rfl), (Nat.le_of_ble_eq_true rfl)⟩ (Nat.le_of_ble_eq_true rfl) dX5_copy_121 (fun H locs hX => ?_)
          exact x_iretW C hX hr hQ h dX5_copy_124
        refine i_iload C dX5_copy_78 (lv_at hl 5 rfl) ?_
        refine i_if_lt (tgt := 118) C h dX5_copy_80 (by decide) (fun _ h => ?_) (fun _ h => ?_)
        · refine i_aload_n C dX5_copy_118 rfl (lv_at hl 0 rfl) ?_
          refine i_ldc C tw4_172 dX5_copy_119 ?_
          obtain ⟨x11, m5, e7, h⟩ := w_bdw h
          refine x_callVi C hX (fg_37_0 G) (c_X5_finding (gl Γ) G  e7) [] rfl hl tw4_173 tw4_175 ts1_15 tw1_7 tw4_176 rfl nd_X5_finding ⟨(Nat.le_of_ble_eq_true rfl), (Nat.le_of_ble_eq_true rfl)⟩ (Nat.le_of_ble_eq_true rfl) dX5_copy_121 (fun H locs hX => ?_)
          exact x_iretW C hX hr hQ h dX5_copy_124
        refine i_iload_n C dX5_copy_83 rfl (lv_at hl 2 rfl) ?_
        refine i_i2l C dX5_copy_84 ?_
        refine i_iload C dX5_copy_85 (lv_at hl 5 rfl) ?_
        refine i_i2l C dX5_copy_87 ?_
        refine i_ladd C dX5_copy_88 ?_
        refine i_aload_n C dX5_copy_89 rfl (lv_at hl 0 rfl) ?_
        refine x_get C hX (fg_37_23 G) tw4_106 dX5_copy_90 ?_
        refine i_iload_n C dX5_copy_93 rfl (lv_at hl 1 rfl) ?_
        refine x_iald C hX (ai_48 G) h dX5_copy_94 (fun x12 h => ?_)
        refine i_i2l C dX5_copy_95 ?_
        refine i_lcmp C dX5_copy_96 ?_
        refine i_if_gt (tgt := 118) C h dX5_copy_97 (by decide) (fun _ h => ?_) (fun _ h => ?_)
        · refine i_aload_n C dX5_copy_118 rfl (lv_at hl 0 rfl) ?_
          refine i_ldc C tw4_172 dX5_copy_119 ?_
          obtain ⟨x13, m6, e8, h⟩ := w_bdw h
          refine x_callVi C hX (fg_37_0 G) (c_X5_finding (gl Γ) G  e8) [] rfl hl tw4_173 tw4_175 ts1_15 tw1_7 tw4_176 rfl nd_X5_finding ⟨(Nat.le_of_ble_eq_true rfl), (Nat.le_of_ble_eq_true rfl)⟩ (Nat.le_of_ble_eq_true rfl) dX5_copy_121 (fun H locs hX => ?_)
          exact x_iretW C hX hr hQ h dX5_copy_124
        refine i_iload C dX5_copy_100 (lv_at hl 4 rfl) ?_
        refine i_i2l C dX5_copy_102 ?_
        refine i_iload C dX5_copy_103 (lv_at hl 5 rfl) ?_
        refine i_i2l C dX5_copy_105 ?_
        refine i_ladd C dX5_copy_106 ?_
        refine i_aload_n C dX5_copy_107 rfl (lv_at hl 0 rfl) ?_
        refine x_get C hX (fg_37_23 G) tw4_106 dX5_copy_108 ?_
        refine i_iload_n C dX5_copy_111 rfl (lv_at hl 3 rfl) ?_
        refine x_iald C hX (ai_48 G) h dX5_copy_112 (fun x14 h => ?_)
        refine i_i2l C dX5_copy_113 ?_
        refine i_lcmp C dX5_copy_114 ?_
        refine i_if_le (tgt := 125) C h dX5_copy_115 (by decide) (fun _ h => ?_) (fun _ h => ?_)
        · refine i_iconst (v := 0) C dX5_copy_125 rfl ?_
          refine i_istore C [(6, .int 0), (0, .ref (G.2.1 37)), (1, .int p1), (2, .int p2), (3, .int p3), (4, .int p4), (5, .int p5)] dX5_copy_126 hl (by decide) rfl (fun ls hl => ?_)
          refine w_jn1 (fun (m7 : MM) => ∀ (H : Heap) (locs : List Loc) (ls : Array Slot), lv_has ls 7 [(0, .ref (G.2.1 37)), (3, .int p3), (4, .int p4), (5, .int p5)] → XW G A (gs Γ) H locs m7 → WX Γ H locs 162 ls []) h (fun m7 h H locs ls hl hX => ?_) (fun k1 J1 h => ?_)
          · refine i_iconst (v := 0) C dX5_copy_162 rfl ?_
            refine i_istore C [(6, .int 0), (0, .ref (G.2.1 37)), (3, .int p3), (4, .int p4), (5, .int p5)] dX5_copy_163 hl (by decide) rfl (fun ls hl => ?_)
            have L1 : ∀ (fu : Nat) (x15 : Int32) (m8 : MM) (H : Heap) (locs : List Loc) (ls : Array Slot), L_X5_copy_165 p3 p4 p5 fu x15 m8 = some (r, m) → lv_has ls 7 [(0, .ref (G.2.1 37)), (3, .int p3), (4, .int p4), (5, .int p5), (6, .int x15)] → XW G A (gs Γ) H locs m8 → WX Γ H locs 165 ls [] := by
              intro fu
              induction fu with
              | zero =>
                intro x15 m8 H locs ls h
                rw [L_X5_copy_165] at h
                cases h
              | succ fu ih =>
                intro x15 m8 H locs ls h hl hX
                rw [L_X5_copy_165] at h
                refine i_iload C dX5_copy_165 (lv_at hl 4 rfl) ?_
                refine i_iload C dX5_copy_167 (lv_at hl 3 rfl) ?_
                refine i_icmp_ge (tgt := 200) C h dX5_copy_169 (by decide) (fun _ h => ?_) (fun _ h => ?_)
                · refine i_iload C dX5_copy_200 (lv_at hl 3 rfl) ?_
                  exact x_iretW C hX hr hQ h dX5_copy_202
                refine i_aload_n C dX5_copy_172 rfl (lv_at hl 0 rfl) ?_
                refine x_get C hX (fg_37_24 G) tw4_107 dX5_copy_173 ?_
                refine i_bipush (v := 40) C dX5_copy_176 rfl ?_
                refine i_iload_n C dX5_copy_178 rfl (lv_at hl 1 rfl) ?_
                refine i_imul C dX5_copy_179 ?_
                refine i_iload C dX5_copy_180 (lv_at hl 2 rfl) ?_
                refine i_iadd C dX5_copy_182 ?_
                refine i_iload C dX5_copy_183 (lv_at hl 4 rfl) ?_
                refine i_iadd C dX5_copy_185 ?_
                refine i_aload_n C dX5_copy_186 rfl (lv_at hl 0 rfl) ?_
                refine x_get C hX (fg_37_25 G) tw4_108 dX5_copy_187 ?_
                refine i_iload C dX5_copy_190 (lv_at hl 4 rfl) ?_
                refine x_iald C hX (ai_50 G) h dX5_copy_192 (fun x16 h => ?_)
                refine x_iast C hX (ai_49 G) h dX5_copy_193 (fun H locs m9 h hX => ?_)
                refine i_iinc C (j := 4) (fun x17 => [(6, .int x17), (0, .ref (G.2.1 37)), (3, .int p3), (4, .int p4), (5, .int p5)]) h dX5_copy_194 hl rfl rfl (by decide) (fun _ => rfl) (fun x17 ls h hl => ?_)
                refine i_goto (tgt := 165) C dX5_copy_197 (by decide) ?_
                exact ih _ _ _ _ _ h (lv_sub hl [1, 2, 3, 4, 0] rfl) hX
            exact L1 FU _ _ _ _ _ h (lv_sub hl [1, 2, 3, 4, 0] rfl) hX
          have L2 : ∀ (fu : Nat) (x18 : Int32) (m10 : MM) (H : Heap) (locs : List Loc) (ls : Array Slot), L_X5_copy_128 p1 p2 p5 k1 fu x18 m10 = some (r, m) → lv_has ls 7 [(0, .ref (G.2.1 37)), (1, .int p1), (2, .int p2), (3, .int p3), (4, .int p4), (5, .int p5), (6, .int x18)] → XW G A (gs Γ) H locs m10 → WX Γ H locs 128 ls [] := by
            intro fu
            induction fu with
            | zero =>
              intro x18 m10 H locs ls h
              rw [L_X5_copy_128] at h
              cases h
            | succ fu ih =>
              intro x18 m10 H locs ls h hl hX
              rw [L_X5_copy_128] at h
              refine i_iload C dX5_copy_128 (lv_at hl 6 rfl) ?_
              refine i_iload C dX5_copy_130 (lv_at hl 5 rfl) ?_
              refine i_icmp_ge (tgt := 162) C h dX5_copy_132 (by decide) (fun _ h => ?_) (fun _ h => ?_)
              · exact J1 _ h _ _ _ (lv_sub hl [0, 3, 4, 5] rfl) hX
              refine i_aload_n C dX5_copy_135 rfl (lv_at hl 0 rfl) ?_
              refine x_get C hX (fg_37_25 G) tw4_108 dX5_copy_136 ?_
              refine i_iload C dX5_copy_139 (lv_at hl 6 rfl) ?_
              refine i_aload_n C dX5_copy_141 rfl (lv_at hl 0 rfl) ?_
              refine x_get C hX (fg_37_24 G) tw4_107 dX5_copy_142 ?_
              refine i_bipush (v := 40) C dX5_copy_145 rfl ?_
              refine i_iload_n C dX5_copy_147 rfl (lv_at hl 1 rfl) ?_
              refine i_imul C dX5_copy_148 ?_
              refine i_iload_n C dX5_copy_149 rfl (lv_at hl 2 rfl) ?_
              refine i_iadd C dX5_copy_150 ?_
              refine i_iload C dX5_copy_151 (lv_at hl 6 rfl) ?_
              refine i_iadd C dX5_copy_153 ?_
              refine x_iald C hX (ai_49 G) h dX5_copy_154 (fun x19 h => ?_)
              refine x_iast C hX (ai_50 G) h dX5_copy_155 (fun H locs m11 h hX => ?_)
              refine i_iinc C (j := 6) (fun x20 => [(6, .int x20), (0, .ref (G.2.1 37)), (1, .int p1), (2, .int p2), (3, .int p3), (4, .int p4), (5, .int p5)]) h dX5_copy_156 hl rfl rfl (by decide) (fun _ => rfl) (fun x20 ls h hl => ?_)
              refine i_goto (tgt := 128) C dX5_copy_159 (by decide) ?_
              exact ih _ _ _ _ _ h (lv_sub hl [1, 2, 3, 4, 5, 6, 0] rfl) hX
          exact L2 FU _ _ _ _ _ h (lv_sub hl [1, 2, 3, 4, 5, 6, 0] rfl) hX
        refine i_aload_n C dX5_copy_118 rfl (lv_at hl 0 rfl) ?_
        refine i_ldc C tw4_172 dX5_copy_119 ?_
        obtain ⟨x21, m12, e9, h⟩ := w_bdw h
        refine x_callVi C hX (fg_37_0 G) (c_X5_finding (gl Γ) G  e9) [] rfl hl tw4_173 tw4_175 ts1_15 tw1_7 tw4_176 rfl nd_X5_finding ⟨(Nat.le_of_ble_eq_true rfl), (Nat.le_of_ble_eq_true rfl)⟩ (Nat.le_of_ble_eq_true rfl) dX5_copy_121 (fun H locs hX => ?_)
        exact x_iretW C hX hr hQ h dX5_copy_124
      refine i_aload_n C dX5_copy_61 rfl (lv_at hl 0 rfl) ?_
      refine i_ldcw C tw6_121 dX5_copy_62 ?_
      obtain ⟨x22, m13, e10, h⟩ := w_bdw h
      refine x_callVi C hX (fg_37_0 G) (c_X5_finding (gl Γ) G  e10) [] rfl hl tw4_173 tw4_175 ts1_15 tw1_7 tw4_176 rfl nd_X5_finding ⟨(Nat.le_of_ble_eq_true rfl), (Nat.le_of_ble_eq_true rfl)⟩ (Nat.le_of_ble_eq_true rfl) dX5_copy_65 (fun H locs hX => ?_)
      exact x_iretW C hX hr hQ h dX5_copy_68
    refine i_aload_n C dX5_copy_39 rfl (lv_at hl 0 rfl) ?_
    refine i_ldc C tw5_217 dX5_copy_40 ?_
    obtain ⟨x23, m14, e11, h⟩ := w_bdw h
    refine x_callVi C hX (fg_37_0 G) (c_X5_finding (gl Γ) G  e11) [] rfl hl tw4_173 tw4_175 ts1_15 tw1_7 tw4_176 rfl nd_X5_finding ⟨(Nat.le_of_ble_eq_true rfl), (Nat.le_of_ble_eq_true rfl)⟩ (Nat.le_of_ble_eq_true rfl) dX5_copy_42 (fun H locs hX => ?_)
    exact x_iretW C hX hr hQ h dX5_copy_45
  refine i_aload_n C dX5_copy_14 rfl (lv_at hl 0 rfl) ?_
  refine i_ldc C tw4_172 dX5_copy_15 ?_
  obtain ⟨x24, m15, e12, h⟩ := w_bdw h
  refine x_callVi C hX (fg_37_0 G) (c_X5_finding (gl Γ) G  e12) [] rfl hl tw4_173 tw4_175 ts1_15 tw1_7 tw4_176 rfl nd_X5_finding ⟨(Nat.le_of_ble_eq_true rfl), (Nat.le_of_ble_eq_true rfl)⟩ (Nat.le_of_ble_eq_true rfl) dX5_copy_17 (fun H locs hX => ?_)
  exact x_iretW C hX hr hQ h dX5_copy_20
def L_X5_load_20 (p1 : Int32) : Nat → Int32 → MM → Option (Int32 × MM)
  | 0, _, _ => none
  | fu + 1, x2, m1 => ldi m1 48 4 p1 fun x3 => if x3 ≤ x2 then (some (x2, m1)) else (bdr (f_X5_isCat x2 m1) fun x4 => if x4 = 0 then (some (x2, m1)) else (ldi m1 49 160 ((40 * p1) + x2) fun x5 => bdr (f_X5_within x5 0 99) fun x6 => if x6 = 0 then (some (x2, m1)) else (bdr (f_X5_at x2 1) fun x7 => ldi m1 49 160 ((40 * p1) + x2) fun x8 => sti m1 38 152 x7 x8 fun m2 => lt_ (x2 + 1) fun x9 => L_X5_load_20 p1 fu x9 m2)))
def f_X5_load (p1 : Int32) (μ : MM) : Option (Int32 × MM) := bdr (f_X5_lacks p1 μ) fun x1 => if x1 = 0 then (L_X5_load_20 p1 FU 0 μ) else (bdr (f_X5_lacks p1 μ) fun x10 => bdw (f_X5_finding x10 μ) fun x11 m3 => some (x11, m3))
theorem nd_X5_load : yX5_load.cls ≠ "java/lang/invoke/MethodHandle" ∧ yX5_load.cls ≠ "java/lang/invoke/VarHandle" ∧ (parseMethodDescriptor yX5_load.desc).map (fun d => d.parameters.length) = some 1 := by decide +kernel
set_option maxHeartbeats 4000000 in
set_option maxRecDepth 100000 in
theorem c_X5_load (l : Launch) (G : EN)  {p1 : Int32} {μ : MM} {r : Int32} {m : MM} (h : f_X5_load p1 μ = some (r, m)) : XM l G yX5_load cX5_load 3 (some .int) 3 63 [.ref (G.2.1 37), .int p1] μ (some (.int r)) m := by
  refine x_met (own := RX5) (by decide +kernel) rfl (Nat.le_of_ble_eq_true rfl) (fun Γ A H ls hg C hr hX hQ hl => ?_)
  have hl : lv_has ls 3 [(0, .ref (G.2.1 37)), (1, .int p1)] := hl
  unfold f_X5_load at h
  refine i_aload_n C dX5_load_0 rfl (lv_at hl 0 rfl) ?_
  refine i_iload_n C dX5_load_1 rfl (lv_at hl 1 rfl) ?_
  obtain ⟨x1, e1, h⟩ := w_bdr h
  refine x_callVi C hX (fg_37_0 G) (c_X5_lacks (gl Γ) G  e1) [] rfl hl tw5_210 tw5_212 ts3_15 tw1_7 tw5_213 rfl nd_X5_lacks ⟨(Nat.le_of_ble_eq_true rfl), (Nat.le_of_ble_eq_true rfl)⟩ (Nat.le_of_ble_eq_true rfl) dX5_load_2 (fun H locs hX => ?_)
  refine i_if_eq (tgt := 18) C h dX5_load_5 (by decide) (fun _ h => ?_) (fun _ h => ?_)
  · refine i_iconst (v := 0) C dX5_load_18 rfl ?_
    refine i_istore_n C [(2, .int 0), (0, .ref (G.2.1 37)), (1, .int p1)] dX5_load_19 rfl hl (by decide) rfl (fun ls hl => ?_)
    have L1 : ∀ (fu : Nat) (x2 : Int32) (m1 : MM) (H : Heap) (locs : List Loc) (ls : Array Slot), L_X5_load_20 p1 fu x2 m1 = some (r, m) → lv_has ls 3 [(0, .ref (G.2.1 37)), (1, .int p1), (2, .int x2)] → XW G A (gs Γ) H locs m1 → WX Γ H locs 20 ls [] := by
      intro fu
      induction fu with
      | zero =>
        intro x2 m1 H locs ls h
        rw [L_X5_load_20] at h
        cases h
      | succ fu ih =>
        intro x2 m1 H locs ls h hl hX
        rw [L_X5_load_20] at h
        refine i_iload_n C dX5_load_20 rfl (lv_at hl 2 rfl) ?_
        refine i_aload_n C dX5_load_21 rfl (lv_at hl 0 rfl) ?_
        refine x_get C hX (fg_37_23 G) tw4_106 dX5_load_22 ?_
        refine i_iload_n C dX5_load_25 rfl (lv_at hl 1 rfl) ?_
        refine x_iald C hX (ai_48 G) h dX5_load_26 (fun x3 h => ?_)
        refine i_icmp_ge (tgt := 85) C h dX5_load_27 (by decide) (fun _ h => ?_) (fun _ h => ?_)
        · refine i_iload_n C dX5_load_85 rfl (lv_at hl 2 rfl) ?_
          exact x_iretW C hX hr hQ h dX5_load_86
        refine i_aload_n C dX5_load_30 rfl (lv_at hl 0 rfl) ?_
        refine i_iload_n C dX5_load_31 rfl (lv_at hl 2 rfl) ?_
        obtain ⟨x4, e2, h⟩ := w_bdr h
        refine x_callVi C hX (fg_37_0 G) (c_X5_isCat (gl Γ) G  e2) [] rfl hl tw4_189 tw4_191 ts2_1 tw1_7 tw4_192 rfl nd_X5_isCat ⟨(Nat.le_of_ble_eq_true rfl), (Nat.le_of_ble_eq_true rfl)⟩ (Nat.le_of_ble_eq_true rfl) dX5_load_32 (fun H locs hX => ?_)
        refine i_if_eq (tgt := 85) C h dX5_load_35 (by decide) (fun _ h => ?_) (fun _ h => ?_)
        · refine i_iload_n C dX5_load_85 rfl (lv_at hl 2 rfl) ?_
          exact x_iretW C hX hr hQ h dX5_load_86
        refine i_aload_n C dX5_load_38 rfl (lv_at hl 0 rfl) ?_
        refine x_get C hX (fg_37_24 G) tw4_107 dX5_load_39 ?_
        refine i_bipush (v := 40) C dX5_load_42 rfl ?_
        refine i_iload_n C dX5_load_44 rfl (lv_at hl 1 rfl) ?_
        refine i_imul C dX5_load_45 ?_
        refine i_iload_n C dX5_load_46 rfl (lv_at hl 2 rfl) ?_
        refine i_iadd C dX5_load_47 ?_
        refine x_iald C hX (ai_49 G) h dX5_load_48 (fun x5 h => ?_)
        refine i_iconst (v := 0) C dX5_load_49 rfl ?_
        refine i_bipush (v := 99) C dX5_load_50 rfl ?_
        obtain ⟨x6, e3, h⟩ := w_bdr h
        refine x_callSi C hX (c_X5_within (gl Γ) G  e3) [] rfl hl tw4_169 tw4_170 tw1_7 tw4_171 nd_X5_within ⟨(Nat.le_of_ble_eq_true rfl), (Nat.le_of_ble_eq_true rfl)⟩ (Nat.le_of_ble_eq_true rfl) dX5_load_52 (fun H locs hX => ?_)
        refine i_if_eq (tgt := 85) C h dX5_load_55 (by decide) (fun _ h => ?_) (fun _ h => ?_)
        · refine i_iload_n C dX5_load_85 rfl (lv_at hl 2 rfl) ?_
          exact x_iretW C hX hr hQ h dX5_load_86
        refine i_aload_n C dX5_load_58 rfl (lv_at hl 0 rfl) ?_
        refine x_get C hX (fg_37_0 G) tw4_83 dX5_load_59 ?_
        refine i_iload_n C dX5_load_62 rfl (lv_at hl 2 rfl) ?_
        refine i_iconst (v := 1) C dX5_load_63 rfl ?_
        obtain ⟨x7, e4, h⟩ := w_bdr h
        refine x_callSi C hX (c_X5_at (gl Γ) G  e4) [.ref (G.2.1 38)] rfl hl tw4_182 tw4_183 tw1_7 tw4_184 nd_X5_at ⟨(Nat.le_of_ble_eq_true rfl), (Nat.le_of_ble_eq_true rfl)⟩ (Nat.le_of_ble_eq_true rfl) dX5_load_64 (fun H locs hX => ?_)
        refine i_aload_n C dX5_load_67 rfl (lv_at hl 0 rfl) ?_
        refine x_get C hX (fg_37_24 G) tw4_107 dX5_load_68 ?_
        refine i_bipush (v := 40) C dX5_load_71 rfl ?_
        refine i_iload_n C dX5_load_73 rfl (lv_at hl 1 rfl) ?_
        refine i_imul C dX5_load_74 ?_
        refine i_iload_n C dX5_load_75 rfl (lv_at hl 2 rfl) ?_
        refine i_iadd C dX5_load_76 ?_
        refine x_iald C hX (ai_49 G) h dX5_load_77 (fun x8 h => ?_)
        refine x_iast C hX (ai_38 G) h dX5_load_78 (fun H locs m2 h hX => ?_)
        refine i_iinc C (j := 2) (fun x9 => [(2, .int x9), (0, .ref (G.2.1 37)), (1, .int p1)]) h dX5_load_79 hl rfl rfl (by decide) (fun _ => rfl) (fun x9 ls h hl => ?_)
        refine i_goto (tgt := 20) C dX5_load_82 (by decide) ?_
        exact ih _ _ _ _ _ h (lv_sub hl [1, 2, 0] rfl) hX
    exact L1 FU _ _ _ _ _ h (lv_sub hl [1, 2, 0] rfl) hX
  refine i_aload_n C dX5_load_8 rfl (lv_at hl 0 rfl) ?_
  refine i_aload_n C dX5_load_9 rfl (lv_at hl 0 rfl) ?_
  refine i_iload_n C dX5_load_10 rfl (lv_at hl 1 rfl) ?_
  obtain ⟨x10, e5, h⟩ := w_bdr h
  refine x_callVi C hX (fg_37_0 G) (c_X5_lacks (gl Γ) G  e5) [.ref (G.2.1 37)] rfl hl tw5_210 tw5_212 ts3_15 tw1_7 tw5_213 rfl nd_X5_lacks ⟨(Nat.le_of_ble_eq_true rfl), (Nat.le_of_ble_eq_true rfl)⟩ (Nat.le_of_ble_eq_true rfl) dX5_load_11 (fun H locs hX => ?_)
  obtain ⟨x11, m3, e6, h⟩ := w_bdw h
  refine x_callVi C hX (fg_37_0 G) (c_X5_finding (gl Γ) G  e6) [] rfl hl tw4_173 tw4_175 ts1_15 tw1_7 tw4_176 rfl nd_X5_finding ⟨(Nat.le_of_ble_eq_true rfl), (Nat.le_of_ble_eq_true rfl)⟩ (Nat.le_of_ble_eq_true rfl) dX5_load_14 (fun H locs hX => ?_)
  exact x_iretW C hX hr hQ h dX5_load_17
def L_X5_judge_31 (p1 : Int32) (k1 : Int32 → MM → Option (Int32 × MM)) : Nat → Int32 → MM → Option (Int32 × MM)
  | 0, _, _ => none
  | fu + 1, x6, m5 => ldi m5 48 4 p1 fun x7 => if x7 ≤ x6 then (k1 x6 m5) else (ldi m5 49 160 ((40 * p1) + x6) fun x8 => bdr (f_X5_shipIs 0 0 m5) fun x9 => if x8 = x9 then (bdr (f_X5_watch m5) fun m6 => lt_ (x6 + 1) fun x10 => L_X5_judge_31 p1 k1 fu x10 m6) else (k1 x6 m5))
def f_X5_judge (p1 : Int32) (μ : MM) : Option (Int32 × MM) := bdr (f_X5_lacks p1 μ) fun x1 => if x1 = 0 then (bdr (f_X5_copyRow 38 152 40 152 μ) fun m1 => jn2 (fun (x2 : Int32) (m2 : MM) => ldi m2 48 4 p1 fun x3 => if x2 = x3 then (bdw (f_X5_putBack 0 m2) fun x5 m4 => some (x5, m4)) else (bdw (f_X5_putBack (1 + x2) m2) fun x4 m3 => some (x4, m3))) fun k1 => L_X5_judge_31 p1 k1 FU 0 m1) else (bdr (f_X5_lacks p1 μ) fun x11 => bdw (f_X5_finding x11 μ) fun x12 m7 => some (x12, m7))
theorem nd_X5_judge : yX5_judge.cls ≠ "java/lang/invoke/MethodHandle" ∧ yX5_judge.cls ≠ "java/lang/invoke/VarHandle" ∧ (parseMethodDescriptor yX5_judge.desc).map (fun d => d.parameters.length) = some 1 := by decide +kernel
set_option maxHeartbeats 4000000 in
set_option maxRecDepth 100000 in
theorem c_X5_judge (l : Launch) (G : EN)  {p1 : Int32} {μ : MM} {r : Int32} {m : MM} (h : f_X5_judge p1 μ = some (r, m)) : XM l G yX5_judge cX5_judge 3 (some .int) 8 179 [.ref (G.2.1 37), .int p1] μ (some (.int r)) m := by
  refine x_met (own := RX5) (by decide +kernel) rfl (Nat.le_of_ble_eq_true rfl) (fun Γ A H ls hg C hr hX hQ hl => ?_)
  have hl : lv_has ls 3 [(0, .ref (G.2.1 37)), (1, .int p1)] := hl
  unfold f_X5_judge at h
  refine i_aload_n C dX5_judge_0 rfl (lv_at hl 0 rfl) ?_
  refine i_iload_n C dX5_judge_1 rfl (lv_at hl 1 rfl) ?_
  obtain ⟨x1, e1, h⟩ := w_bdr h
  refine x_callVi C hX (fg_37_0 G) (c_X5_lacks (gl Γ) G  e1) [] rfl hl tw5_210 tw5_212 ts3_15 tw1_7 tw5_213 rfl nd_X5_lacks ⟨(Nat.le_of_ble_eq_true rfl), (Nat.le_of_ble_eq_true rfl)⟩ (Nat.le_of_ble_eq_true rfl) dX5_judge_2 (fun H locs hX => ?_)
  refine i_if_eq (tgt := 18) C h dX5_judge_5 (by decide) (fun _ h => ?_) (fun _ h => ?_)
  · refine i_aload_n C dX5_judge_18 rfl (lv_at hl 0 rfl) ?_
    refine x_get C hX (fg_37_0 G) tw4_83 dX5_judge_19 ?_
    refine i_aload_n C dX5_judge_22 rfl (lv_at hl 0 rfl) ?_
    refine x_get C hX (fg_37_2 G) tw4_85 dX5_judge_23 ?_
    obtain ⟨m1, e2, h⟩ := w_bdr h
    refine x_callSv C hX (c_X5_copyRow (gl Γ) G (ai_38 G) (ai_40 G) e2) [] rfl hl tw5_89 tw5_90 tw1_7 tw5_91 nd_X5_copyRow ⟨(Nat.le_of_ble_eq_true rfl), (Nat.le_of_ble_eq_true rfl)⟩ (Nat.le_of_ble_eq_true rfl) dX5_judge_26 (fun H locs hX => ?_)
    refine i_iconst (v := 0) C dX5_judge_29 rfl ?_
    refine i_istore_n C [(2, .int 0), (0, .ref (G.2.1 37)), (1, .int p1)] dX5_judge_30 rfl hl (by decide) rfl (fun ls hl => ?_)
    refine w_jn2 (fun (x2 : Int32) (m2 : MM) => ∀ (H : Heap) (locs : List Loc) (ls : Array Slot), lv_has ls 3 [(0, .ref (G.2.1 37)), (1, .int p1), (2, .int x2)] → XW G A (gs Γ) H locs m2 → WX Γ H locs 71 ls []) h (fun x2 m2 h H locs ls hl hX => ?_) (fun k1 J1 h => ?_)
    · refine i_aload_n C dX5_judge_71 rfl (lv_at hl 0 rfl) ?_
      refine i_iload_n C dX5_judge_72 rfl (lv_at hl 2 rfl) ?_
      refine i_aload_n C dX5_judge_73 rfl (lv_at hl 0 rfl) ?_
      refine x_get C hX (fg_37_23 G) tw4_106 dX5_judge_74 ?_
      refine i_iload_n C dX5_judge_77 rfl (lv_at hl 1 rfl) ?_
      refine x_iald C hX (ai_48 G) h dX5_judge_78 (fun x3 h => ?_)
      refine i_icmp_ne (tgt := 86) C h dX5_judge_79 (by decide) (fun _ h => ?_) (fun _ h => ?_)
      · refine i_iconst (v := 1) C dX5_judge_86 rfl ?_
        refine i_iload_n C dX5_judge_87 rfl (lv_at hl 2 rfl) ?_
        refine i_iadd C dX5_judge_88 ?_
        obtain ⟨x4, m3, e3, h⟩ := w_bdw h
        refine x_callVi C hX (fg_37_0 G) (c_X5_putBack (gl Γ) G  e3) [] rfl hl tw5_92 tw5_94 ts3_4 tw1_7 tw5_95 rfl nd_X5_putBack ⟨(Nat.le_of_ble_eq_true rfl), (Nat.le_of_ble_eq_true rfl)⟩ (Nat.le_of_ble_eq_true rfl) dX5_judge_89 (fun H locs hX => ?_)
        exact x_iretW C hX hr hQ h dX5_judge_92
      refine i_iconst (v := 0) C dX5_judge_82 rfl ?_
      refine i_goto (tgt := 89) C dX5_judge_83 (by decide) ?_
      obtain ⟨x5, m4, e4, h⟩ := w_bdw h
      refine x_callVi C hX (fg_37_0 G) (c_X5_putBack (gl Γ) G  e4) [] rfl hl tw5_92 tw5_94 ts3_4 tw1_7 tw5_95 rfl nd_X5_putBack ⟨(Nat.le_of_ble_eq_true rfl), (Nat.le_of_ble_eq_true rfl)⟩ (Nat.le_of_ble_eq_true rfl) dX5_judge_89 (fun H locs hX => ?_)
      exact x_iretW C hX hr hQ h dX5_judge_92
    have L1 : ∀ (fu : Nat) (x6 : Int32) (m5 : MM) (H : Heap) (locs : List Loc) (ls : Array Slot), L_X5_judge_31 p1 k1 fu x6 m5 = some (r, m) → lv_has ls 3 [(0, .ref (G.2.1 37)), (1, .int p1), (2, .int x6)] → XW G A (gs Γ) H locs m5 → WX Γ H locs 31 ls [] := by
      intro fu
      induction fu with
      | zero =>
        intro x6 m5 H locs ls h
        rw [L_X5_judge_31] at h
        cases h
      | succ fu ih =>
        intro x6 m5 H locs ls h hl hX
        rw [L_X5_judge_31] at h
        refine i_iload_n C dX5_judge_31 rfl (lv_at hl 2 rfl) ?_
        refine i_aload_n C dX5_judge_32 rfl (lv_at hl 0 rfl) ?_
        refine x_get C hX (fg_37_23 G) tw4_106 dX5_judge_33 ?_
        refine i_iload_n C dX5_judge_36 rfl (lv_at hl 1 rfl) ?_
        refine x_iald C hX (ai_48 G) h dX5_judge_37 (fun x7 h => ?_)
        refine i_icmp_ge (tgt := 71) C h dX5_judge_38 (by decide) (fun _ h => ?_) (fun _ h => ?_)
        · exact J1 _ _ h _ _ _ (lv_sub hl [0, 1, 2] rfl) hX
        refine i_aload_n C dX5_judge_41 rfl (lv_at hl 0 rfl) ?_
        refine x_get C hX (fg_37_24 G) tw4_107 dX5_judge_42 ?_
        refine i_bipush (v := 40) C dX5_judge_45 rfl ?_
        refine i_iload_n C dX5_judge_47 rfl (lv_at hl 1 rfl) ?_
        refine i_imul C dX5_judge_48 ?_
        refine i_iload_n C dX5_judge_49 rfl (lv_at hl 2 rfl) ?_
        refine i_iadd C dX5_judge_50 ?_
        refine x_iald C hX (ai_49 G) h dX5_judge_51 (fun x8 h => ?_)
        refine i_aload_n C dX5_judge_52 rfl (lv_at hl 0 rfl) ?_
        refine i_iconst (v := 0) C dX5_judge_53 rfl ?_
        refine i_iconst (v := 0) C dX5_judge_54 rfl ?_
        obtain ⟨x9, e5, h⟩ := w_bdr h
        refine x_callVi C hX (fg_37_0 G) (c_X5_shipIs (gl Γ) G  e5) [.int x8] rfl hl tw4_223 tw4_225 ts2_6 tw1_7 tw4_226 rfl nd_X5_shipIs ⟨(Nat.le_of_ble_eq_true rfl), (Nat.le_of_ble_eq_true rfl)⟩ (Nat.le_of_ble_eq_true rfl) dX5_judge_55 (fun H locs hX => ?_)
        refine i_icmp_ne (tgt := 71) C h dX5_judge_58 (by decide) (fun _ h => ?_) (fun _ h => ?_)
        · exact J1 _ _ h _ _ _ (lv_sub hl [0, 1, 2] rfl) hX
        refine i_aload_n C dX5_judge_61 rfl (lv_at hl 0 rfl) ?_
        obtain ⟨m6, e6, h⟩ := w_bdr h
        refine x_callVv C hX (fg_37_0 G) (c_X5_watch (gl Γ) G  e6) [] rfl hl tw5_55 tw5_57 ts2_15 tw1_7 tw5_58 rfl nd_X5_watch ⟨(Nat.le_of_ble_eq_true rfl), (Nat.le_of_ble_eq_true rfl)⟩ (Nat.le_of_ble_eq_true rfl) dX5_judge_62 (fun H locs hX => ?_)
        refine i_iinc C (j := 2) (fun x10 => [(2, .int x10), (0, .ref (G.2.1 37)), (1, .int p1)]) h dX5_judge_65 hl rfl rfl (by decide) (fun _ => rfl) (fun x10 ls h hl => ?_)
        refine i_goto (tgt := 31) C dX5_judge_68 (by decide) ?_
        exact ih _ _ _ _ _ h (lv_sub hl [1, 2, 0] rfl) hX
    exact L1 FU _ _ _ _ _ h (lv_sub hl [1, 2, 0] rfl) hX
  refine i_aload_n C dX5_judge_8 rfl (lv_at hl 0 rfl) ?_
  refine i_aload_n C dX5_judge_9 rfl (lv_at hl 0 rfl) ?_
  refine i_iload_n C dX5_judge_10 rfl (lv_at hl 1 rfl) ?_
  obtain ⟨x11, e7, h⟩ := w_bdr h
  refine x_callVi C hX (fg_37_0 G) (c_X5_lacks (gl Γ) G  e7) [.ref (G.2.1 37)] rfl hl tw5_210 tw5_212 ts3_15 tw1_7 tw5_213 rfl nd_X5_lacks ⟨(Nat.le_of_ble_eq_true rfl), (Nat.le_of_ble_eq_true rfl)⟩ (Nat.le_of_ble_eq_true rfl) dX5_judge_11 (fun H locs hX => ?_)
  obtain ⟨x12, m7, e8, h⟩ := w_bdw h
  refine x_callVi C hX (fg_37_0 G) (c_X5_finding (gl Γ) G  e8) [] rfl hl tw4_173 tw4_175 ts1_15 tw1_7 tw4_176 rfl nd_X5_finding ⟨(Nat.le_of_ble_eq_true rfl), (Nat.le_of_ble_eq_true rfl)⟩ (Nat.le_of_ble_eq_true rfl) dX5_judge_14 (fun H locs hX => ?_)
  exact x_iretW C hX hr hQ h dX5_judge_17
def f_X5_image (μ : MM) : Option (Int32 × MM) := bdr (f_X5_copyRow 38 152 39 152 μ) fun m1 => gd (1 = 0 ∨ 1 = 1) (lt_ (wst m1 37 3 1) fun m2 => some (1, m2))
theorem nd_X5_image : yX5_image.cls ≠ "java/lang/invoke/MethodHandle" ∧ yX5_image.cls ≠ "java/lang/invoke/VarHandle" ∧ (parseMethodDescriptor yX5_image.desc).map (fun d => d.parameters.length) = some 0 := by decide +kernel
set_option maxHeartbeats 4000000 in
set_option maxRecDepth 100000 in
theorem c_X5_image (l : Launch) (G : EN)  {μ : MM} {r : Int32} {m : MM} (h : f_X5_image μ = some (r, m)) : XM l G yX5_image cX5_image 1 (some .int) 1 22 [.ref (G.2.1 37)] μ (some (.int r)) m := by
  refine x_met (own := RX5) (by decide +kernel) rfl (Nat.le_of_ble_eq_true rfl) (fun Γ A H ls hg C hr hX hQ hl => ?_)
  have hl : lv_has ls 1 [(0, .ref (G.2.1 37))] := hl
  unfold f_X5_image at h
  refine i_aload_n C dX5_image_0 rfl (lv_at hl 0 rfl) ?_
  refine x_get C hX (fg_37_0 G) tw4_83 dX5_image_1 ?_
  refine i_aload_n C dX5_image_4 rfl (lv_at hl 0 rfl) ?_
  refine x_get C hX (fg_37_1 G) tw4_84 dX5_image_5 ?_
  obtain ⟨m1, e1, h⟩ := w_bdr h
  refine x_callSv C hX (c_X5_copyRow (gl Γ) G (ai_38 G) (ai_39 G) e1) [] rfl hl tw5_89 tw5_90 tw1_7 tw5_91 nd_X5_copyRow ⟨(Nat.le_of_ble_eq_true rfl), (Nat.le_of_ble_eq_true rfl)⟩ (Nat.le_of_ble_eq_true rfl) dX5_image_8 (fun H locs hX => ?_)
  refine i_aload_n C dX5_image_11 rfl (lv_at hl 0 rfl) ?_
  refine i_iconst (v := 1) C dX5_image_12 rfl ?_
  refine x_putZ C hX (fp_37_3 G) h tw4_86 dX5_image_13 (fun H locs m2 h hX => ?_)
  refine i_iconst (v := 1) C dX5_image_16 rfl ?_
  exact x_iretW C hX hr hQ h dX5_image_17
def f_X5_undo (μ : MM) : Option (Int32 × MM) := if (μ 37 3) = 0 then (bdw (f_X5_finding (-1000004) μ) fun x2 m2 => some (x2, m2)) else (bdr (f_X5_copyRow 39 152 38 152 μ) fun m1 => ldi m1 38 152 0 fun x1 => some (x1, m1))
theorem nd_X5_undo : yX5_undo.cls ≠ "java/lang/invoke/MethodHandle" ∧ yX5_undo.cls ≠ "java/lang/invoke/VarHandle" ∧ (parseMethodDescriptor yX5_undo.desc).map (fun d => d.parameters.length) = some 0 := by decide +kernel
set_option maxHeartbeats 4000000 in
set_option maxRecDepth 100000 in
theorem c_X5_undo (l : Launch) (G : EN)  {μ : MM} {r : Int32} {m : MM} (h : f_X5_undo μ = some (r, m)) : XM l G yX5_undo cX5_undo 1 (some .int) 1 22 [.ref (G.2.1 37)] μ (some (.int r)) m := by
  refine x_met (own := RX5) (by decide +kernel) rfl (Nat.le_of_ble_eq_true rfl) (fun Γ A H ls hg C hr hX hQ hl => ?_)
  have hl : lv_has ls 1 [(0, .ref (G.2.1 37))] := hl
  unfold f_X5_undo at h
  refine i_aload_n C dX5_undo_0 rfl (lv_at hl 0 rfl) ?_
  refine x_get C hX (fg_37_3 G) tw4_86 dX5_undo_1 ?_
  refine i_if_ne (tgt := 14) C h dX5_undo_4 (by decide) (fun _ h => ?_) (fun _ h => ?_)
  · refine i_aload_n C dX5_undo_14 rfl (lv_at hl 0 rfl) ?_
    refine x_get C hX (fg_37_1 G) tw4_84 dX5_undo_15 ?_
    refine i_aload_n C dX5_undo_18 rfl (lv_at hl 0 rfl) ?_
    refine x_get C hX (fg_37_0 G) tw4_83 dX5_undo_19 ?_
    obtain ⟨m1, e1, h⟩ := w_bdr h
    refine x_callSv C hX (c_X5_copyRow (gl Γ) G (ai_39 G) (ai_38 G) e1) [] rfl hl tw5_89 tw5_90 tw1_7 tw5_91 nd_X5_copyRow ⟨(Nat.le_of_ble_eq_true rfl), (Nat.le_of_ble_eq_true rfl)⟩ (Nat.le_of_ble_eq_true rfl) dX5_undo_22 (fun H locs hX => ?_)
    refine i_aload_n C dX5_undo_25 rfl (lv_at hl 0 rfl) ?_
    refine x_get C hX (fg_37_0 G) tw4_83 dX5_undo_26 ?_
    refine i_iconst (v := 0) C dX5_undo_29 rfl ?_
    refine x_iald C hX (ai_38 G) h dX5_undo_30 (fun x1 h => ?_)
    exact x_iretW C hX hr hQ h dX5_undo_31
  refine i_aload_n C dX5_undo_7 rfl (lv_at hl 0 rfl) ?_
  refine i_ldc C tw5_109 dX5_undo_8 ?_
  obtain ⟨x2, m2, e2, h⟩ := w_bdw h
  refine x_callVi C hX (fg_37_0 G) (c_X5_finding (gl Γ) G  e2) [] rfl hl tw4_173 tw4_175 ts1_15 tw1_7 tw4_176 rfl nd_X5_finding ⟨(Nat.le_of_ble_eq_true rfl), (Nat.le_of_ble_eq_true rfl)⟩ (Nat.le_of_ble_eq_true rfl) dX5_undo_10 (fun H locs hX => ?_)
  exact x_iretW C hX hr hQ h dX5_undo_13
def f_X5_tear (μ : MM) : Option (Int32 × MM) := jn1 (fun (x1 : Int32) => gd (0 = 0 ∨ 0 = 1) (lt_ (wst μ 37 3 0) fun m1 => some (x1, m1))) fun k1 => if (μ 37 3) = 0 then (k1 0) else (k1 1)
theorem nd_X5_tear : yX5_tear.cls ≠ "java/lang/invoke/MethodHandle" ∧ yX5_tear.cls ≠ "java/lang/invoke/VarHandle" ∧ (parseMethodDescriptor yX5_tear.desc).map (fun d => d.parameters.length) = some 0 := by decide +kernel
set_option maxHeartbeats 4000000 in
set_option maxRecDepth 100000 in
theorem c_X5_tear (l : Launch) (G : EN)  {μ : MM} {r : Int32} {m : MM} (h : f_X5_tear μ = some (r, m)) : XM l G yX5_tear cX5_tear 2 (some .int) 0 0 [.ref (G.2.1 37)] μ (some (.int r)) m := by
  refine x_met (own := RX5) (by decide +kernel) rfl (Nat.le_of_ble_eq_true rfl) (fun Γ A H ls hg C hr hX hQ hl => ?_)
  have hl : lv_has ls 2 [(0, .ref (G.2.1 37))] := hl
  unfold f_X5_tear at h
  refine i_aload_n C dX5_tear_0 rfl (lv_at hl 0 rfl) ?_
  refine x_get C hX (fg_37_3 G) tw4_86 dX5_tear_1 ?_
  refine w_jn1 (fun (x1 : Int32) => ∀ (H : Heap) (locs : List Loc) (ls : Array Slot), lv_has ls 2 [(0, .ref (G.2.1 37))] → XW G A (gs Γ) H locs μ → WX Γ H locs 12 ls [.int x1]) h (fun x1 h H locs ls hl hX => ?_) (fun k1 J1 h => ?_)
  · refine i_istore_n C [(1, .int x1), (0, .ref (G.2.1 37))] dX5_tear_12 rfl hl (by decide) rfl (fun ls hl => ?_)
    refine i_aload_n C dX5_tear_13 rfl (lv_at hl 1 rfl) ?_
    refine i_iconst (v := 0) C dX5_tear_14 rfl ?_
    refine x_putZ C hX (fp_37_3 G) h tw4_86 dX5_tear_15 (fun H locs m1 h hX => ?_)
    refine i_iload_n C dX5_tear_18 rfl (lv_at hl 0 rfl) ?_
    exact x_iretW C hX hr hQ h dX5_tear_19
  refine i_if_eq (tgt := 11) C h dX5_tear_4 (by decide) (fun _ h => ?_) (fun _ h => ?_)
  · refine i_iconst (v := 0) C dX5_tear_11 rfl ?_
    exact J1 _ h _ _ _ (lv_sub hl [0] rfl) hX
  refine i_iconst (v := 1) C dX5_tear_7 rfl ?_
  refine i_goto (tgt := 12) C dX5_tear_8 (by decide) ?_
  exact J1 _ h _ _ _ (lv_sub hl [0] rfl) hX
def L_X5_count_77 (μ : MM) : Nat → Int32 → Int32 → Option (Int32 × MM)
  | 0, _, _ => none
  | fu + 1, x6, x7 => ldi μ 38 152 4 fun x8 => if x8 ≤ x7 then (some (x6, μ)) else (bdr (f_X5_catIs x7 1 μ) fun x9 => lt_ ((x6 + x9)) fun x10 => lt_ (x7 + 1) fun x11 => L_X5_count_77 μ fu x10 x11)
def L_X5_count_118 (μ : MM) : Nat → Int32 → Int32 → Option (Int32 × MM)
  | 0, _, _ => none
  | fu + 1, x13, x14 => if 10 ≤ x14 then (some (x13, μ)) else (ldi μ 38 152 (6 + x14) fun x15 => jn1 (fun (x16 : Int32) => lt_ ((x13 + x16)) fun x17 => lt_ (x14 + 1) fun x18 => L_X5_count_118 μ fu x17 x18) fun k1 => if 0 ≤ x15 then (k1 1) else (k1 0))
def f_X5_count (p1 : Int32) (μ : MM) : Option (Int32 × MM) := if p1 = 0 then (ldi μ 38 152 0 fun x1 => some (x1, μ)) else if p1 = 1 then (ldi μ 38 152 4 fun x2 => some (x2, μ)) else if p1 = 2 then (bdr (f_X5_islands μ) fun x3 => some (x3, μ)) else if p1 = 3 then (bdr (f_X5_landed μ) fun x4 => bdr (f_X5_bits x4) fun x5 => some (x5, μ)) else if p1 = 4 then (L_X5_count_77 μ FU 0 0) else if p1 = 5 then (some ((μ 37 11), μ)) else if p1 = 6 then (ldi μ 38 152 5 fun x12 => some (x12, μ)) else if p1 = 7 then (L_X5_count_118 μ FU 0 0) else (bdw (f_X5_finding (-1000001) μ) fun x19 m1 => some (x19, m1))
theorem nd_X5_count : yX5_count.cls ≠ "java/lang/invoke/MethodHandle" ∧ yX5_count.cls ≠ "java/lang/invoke/VarHandle" ∧ (parseMethodDescriptor yX5_count.desc).map (fun d => d.parameters.length) = some 1 := by decide +kernel
set_option maxHeartbeats 4000000 in
set_option maxRecDepth 100000 in
theorem c_X5_count (l : Launch) (G : EN)  {p1 : Int32} {μ : MM} {r : Int32} {m : MM} (h : f_X5_count p1 μ = some (r, m)) : XM l G yX5_count cX5_count 4 (some .int) 4 86 [.ref (G.2.1 37), .int p1] μ (some (.int r)) m := by
  refine x_met (own := RX5) (by decide +kernel) rfl (Nat.le_of_ble_eq_true rfl) (fun Γ A H ls hg C hr hX hQ hl => ?_)
  have hl : lv_has ls 4 [(0, .ref (G.2.1 37)), (1, .int p1)] := hl
  unfold f_X5_count at h
  refine i_iconst (v := 0) C dX5_count_0 rfl ?_
  refine i_istore_n C [(2, .int 0), (0, .ref (G.2.1 37)), (1, .int p1)] dX5_count_1 rfl hl (by decide) rfl (fun ls hl => ?_)
  refine i_iload_n C dX5_count_2 rfl (lv_at hl 2 rfl) ?_
  refine i_case h (fun e h => ?_) (fun n1 h => ?_)
  · refine i_tabIn (tgt := 48) C e dX5_count_3 (by decide) (by decide) rfl (by decide) ?_
    refine i_aload_n C dX5_count_48 rfl (lv_at hl 1 rfl) ?_
    refine x_get C hX (fg_37_0 G) tw4_83 dX5_count_49 ?_
    refine i_iconst (v := 0) C dX5_count_52 rfl ?_
    refine x_iald C hX (ai_38 G) h dX5_count_53 (fun x1 h => ?_)
    exact x_iretW C hX hr hQ h dX5_count_54
  refine i_case h (fun e h => ?_) (fun n2 h => ?_)
  · refine i_tabIn (tgt := 55) C e dX5_count_3 (by decide) (by decide) rfl (by decide) ?_
    refine i_aload_n C dX5_count_55 rfl (lv_at hl 1 rfl) ?_
    refine x_get C hX (fg_37_0 G) tw4_83 dX5_count_56 ?_
    refine i_iconst (v := 4) C dX5_count_59 rfl ?_
    refine x_iald C hX (ai_38 G) h dX5_count_60 (fun x2 h => ?_)
    exact x_iretW C hX hr hQ h dX5_count_61
  refine i_case h (fun e h => ?_) (fun n3 h => ?_)
  · refine i_tabIn (tgt := 62) C e dX5_count_3 (by decide) (by decide) rfl (by decide) ?_
    refine i_aload_n C dX5_count_62 rfl (lv_at hl 1 rfl) ?_
    obtain ⟨x3, e1, h⟩ := w_bdr h
    refine x_callVi C hX (fg_37_0 G) (c_X5_islands (gl Γ) G  e1) [] rfl hl tw5_77 tw5_79 ts3_2 tw1_7 tw5_80 rfl nd_X5_islands ⟨(Nat.le_of_ble_eq_true rfl), (Nat.le_of_ble_eq_true rfl)⟩ (Nat.le_of_ble_eq_true rfl) dX5_count_63 (fun H locs hX => ?_)
    exact x_iretW C hX hr hQ h dX5_count_66
  refine i_case h (fun e h => ?_) (fun n4 h => ?_)
  · refine i_tabIn (tgt := 67) C e dX5_count_3 (by decide) (by decide) rfl (by decide) ?_
    refine i_aload_n C dX5_count_67 rfl (lv_at hl 1 rfl) ?_
    obtain ⟨x4, e2, h⟩ := w_bdr h
    refine x_callVi C hX (fg_37_0 G) (c_X5_landed (gl Γ) G  e2) [] rfl hl tw5_60 tw5_62 ts3_0 tw1_7 tw5_63 rfl nd_X5_landed ⟨(Nat.le_of_ble_eq_true rfl), (Nat.le_of_ble_eq_true rfl)⟩ (Nat.le_of_ble_eq_true rfl) dX5_count_68 (fun H locs hX => ?_)
    obtain ⟨x5, e3, h⟩ := w_bdr h
    refine x_callSi C hX (c_X5_bits (gl Γ) G  e3) [] rfl hl tw4_234 tw4_235 tw1_7 tw4_236 nd_X5_bits ⟨(Nat.le_of_ble_eq_true rfl), (Nat.le_of_ble_eq_true rfl)⟩ (Nat.le_of_ble_eq_true rfl) dX5_count_71 (fun H locs hX => ?_)
    exact x_iretW C hX hr hQ h dX5_count_74
  refine i_case h (fun e h => ?_) (fun n5 h => ?_)
  · refine i_tabIn (tgt := 75) C e dX5_count_3 (by decide) (by decide) rfl (by decide) ?_
    refine i_iconst (v := 0) C dX5_count_75 rfl ?_
    refine i_istore_n C [(3, .int 0), (2, .int 0), (0, .ref (G.2.1 37)), (1, .int p1)] dX5_count_76 rfl hl (by decide) rfl (fun ls hl => ?_)
    have L1 : ∀ (fu : Nat) (x6 : Int32) (x7 : Int32) (H : Heap) (locs : List Loc) (ls : Array Slot), L_X5_count_77 μ fu x6 x7 = some (r, m) → lv_has ls 4 [(0, .ref (G.2.1 37)), (2, .int x6), (3, .int x7)] → XW G A (gs Γ) H locs μ → WX Γ H locs 77 ls [] := by
      intro fu
      induction fu with
      | zero =>
        intro x6 x7 H locs ls h
        rw [L_X5_count_77] at h
        cases h
      | succ fu ih =>
        intro x6 x7 H locs ls h hl hX
        rw [L_X5_count_77] at h
        refine i_iload_n C dX5_count_77 rfl (lv_at hl 2 rfl) ?_
        refine i_aload_n C dX5_count_78 rfl (lv_at hl 0 rfl) ?_
        refine x_get C hX (fg_37_0 G) tw4_83 dX5_count_79 ?_
        refine i_iconst (v := 4) C dX5_count_82 rfl ?_
        refine x_iald C hX (ai_38 G) h dX5_count_83 (fun x8 h => ?_)
        refine i_icmp_ge (tgt := 102) C h dX5_count_84 (by decide) (fun _ h => ?_) (fun _ h => ?_)
        · refine i_iload_n C dX5_count_102 rfl (lv_at hl 1 rfl) ?_
          exact x_iretW C hX hr hQ h dX5_count_103
        refine i_iload_n C dX5_count_87 rfl (lv_at hl 1 rfl) ?_
        refine i_aload_n C dX5_count_88 rfl (lv_at hl 0 rfl) ?_
        refine i_iload_n C dX5_count_89 rfl (lv_at hl 2 rfl) ?_
        refine i_iconst (v := 1) C dX5_count_90 rfl ?_
        obtain ⟨x9, e4, h⟩ := w_bdr h
        refine x_callVi C hX (fg_37_0 G) (c_X5_catIs (gl Γ) G  e4) [.int x6] rfl hl tw4_193 tw4_195 ts2_2 tw1_7 tw4_196 rfl nd_X5_catIs ⟨(Nat.le_of_ble_eq_true rfl), (Nat.le_of_ble_eq_true rfl)⟩ (Nat.le_of_ble_eq_true rfl) dX5_count_91 (fun H locs hX => ?_)
        refine i_iadd C dX5_count_94 ?_
        refine i_istoreL_n C (fun x10 => [(2, .int x10), (0, .ref (G.2.1 37)), (3, .int x7)]) h dX5_count_95 rfl hl (by decide) (fun _ => rfl) (fun x10 ls h hl => ?_)
        refine i_iinc C (j := 2) (fun x11 => [(3, .int x11), (2, .int x10), (0, .ref (G.2.1 37))]) h dX5_count_96 hl rfl rfl (by decide) (fun _ => rfl) (fun x11 ls h hl => ?_)
        refine i_goto (tgt := 77) C dX5_count_99 (by decide) ?_
        exact ih _ _ _ _ _ h (lv_sub hl [2, 1, 0] rfl) hX
    exact L1 FU _ _ _ _ _ h (lv_sub hl [2, 1, 0] rfl) hX
  refine i_case h (fun e h => ?_) (fun n6 h => ?_)
  · refine i_tabIn (tgt := 104) C e dX5_count_3 (by decide) (by decide) rfl (by decide) ?_
    refine i_aload_n C dX5_count_104 rfl (lv_at hl 1 rfl) ?_
    refine x_get C hX (fg_37_11 G) tw4_94 dX5_count_105 ?_
    exact x_iretW C hX hr hQ h dX5_count_108
  refine i_case h (fun e h => ?_) (fun n7 h => ?_)
  · refine i_tabIn (tgt := 109) C e dX5_count_3 (by decide) (by decide) rfl (by decide) ?_
    refine i_aload_n C dX5_count_109 rfl (lv_at hl 1 rfl) ?_
    refine x_get C hX (fg_37_0 G) tw4_83 dX5_count_110 ?_
    refine i_iconst (v := 5) C dX5_count_113 rfl ?_
    refine x_iald C hX (ai_38 G) h dX5_count_114 (fun x12 h => ?_)
    exact x_iretW C hX hr hQ h dX5_count_115
  refine i_case h (fun e h => ?_) (fun n8 h => ?_)
  · refine i_tabIn (tgt := 116) C e dX5_count_3 (by decide) (by decide) rfl (by decide) ?_
    refine i_iconst (v := 0) C dX5_count_116 rfl ?_
    refine i_istore_n C [(3, .int 0), (2, .int 0), (0, .ref (G.2.1 37)), (1, .int p1)] dX5_count_117 rfl hl (by decide) rfl (fun ls hl => ?_)
    have L2 : ∀ (fu : Nat) (x13 : Int32) (x14 : Int32) (H : Heap) (locs : List Loc) (ls : Array Slot), L_X5_count_118 μ fu x13 x14 = some (r, m) → lv_has ls 4 [(0, .ref (G.2.1 37)), (2, .int x13), (3, .int x14)] → XW G A (gs Γ) H locs μ → WX Γ H locs 118 ls [] := by
      intro fu
      induction fu with
      | zero =>
        intro x13 x14 H locs ls h
        rw [L_X5_count_118] at h
        cases h
      | succ fu ih =>
        intro x13 x14 H locs ls h hl hX
        rw [L_X5_count_118] at h
        refine i_iload_n C dX5_count_118 rfl (lv_at hl 2 rfl) ?_
        refine i_bipush (v := 10) C dX5_count_119 rfl ?_
        refine i_icmp_ge (tgt := 150) C h dX5_count_121 (by decide) (fun _ h => ?_) (fun _ h => ?_)
        · refine i_iload_n C dX5_count_150 rfl (lv_at hl 1 rfl) ?_
          exact x_iretW C hX hr hQ h dX5_count_151
        refine i_iload_n C dX5_count_124 rfl (lv_at hl 1 rfl) ?_
        refine i_aload_n C dX5_count_125 rfl (lv_at hl 0 rfl) ?_
        refine x_get C hX (fg_37_0 G) tw4_83 dX5_count_126 ?_
        refine i_bipush (v := 6) C dX5_count_129 rfl ?_
        refine i_iload_n C dX5_count_131 rfl (lv_at hl 2 rfl) ?_
        refine i_iadd C dX5_count_132 ?_
        refine x_iald C hX (ai_38 G) h dX5_count_133 (fun x15 h => ?_)
        refine w_jn1 (fun (x16 : Int32) => ∀ (H : Heap) (locs : List Loc) (ls : Array Slot), lv_has ls 4 [(0, .ref (G.2.1 37)), (3, .int x14)] → XW G A (gs Γ) H locs μ → WX Γ H locs 142 ls [.int x16, .int x13]) h (fun x16 h H locs ls hl hX => ?_) (fun k1 J1 h => ?_)
        · refine i_iadd C dX5_count_142 ?_
          refine i_istoreL_n C (fun x17 => [(2, .int x17), (0, .ref (G.2.1 37)), (3, .int x14)]) h dX5_count_143 rfl hl (by decide) (fun _ => rfl) (fun x17 ls h hl => ?_)
          refine i_iinc C (j := 2) (fun x18 => [(3, .int x18), (2, .int x17), (0, .ref (G.2.1 37))]) h dX5_count_144 hl rfl rfl (by decide) (fun _ => rfl) (fun x18 ls h hl => ?_)
          refine i_goto (tgt := 118) C dX5_count_147 (by decide) ?_
          exact ih _ _ _ _ _ h (lv_sub hl [2, 1, 0] rfl) hX
        refine i_if_ge (tgt := 141) C h dX5_count_134 (by decide) (fun _ h => ?_) (fun _ h => ?_)
        · refine i_iconst (v := 1) C dX5_count_141 rfl ?_
          exact J1 _ h _ _ _ (lv_sub hl [0, 2] rfl) hX
        refine i_iconst (v := 0) C dX5_count_137 rfl ?_
        refine i_goto (tgt := 142) C dX5_count_138 (by decide) ?_
        exact J1 _ h _ _ _ (lv_sub hl [0, 2] rfl) hX
    exact L2 FU _ _ _ _ _ h (lv_sub hl [2, 1, 0] rfl) hX
  refine i_tabOut (tgt := 152) C (by have := ne_t (n := 0) (by decide) n1; have := ne_t (n := 1) (by decide) n2; have := ne_t (n := 2) (by decide) n3; have := ne_t (n := 3) (by decide) n4; have := ne_t (n := 4) (by decide) n5; have := ne_t (n := 5) (by decide) n6; have := ne_t (n := 6) (by decide) n7; have := ne_t (n := 7) (by decide) n8; omega) dX5_count_3 (by decide) ?_
  refine i_aload_n C dX5_count_152 rfl (lv_at hl 1 rfl) ?_
  refine i_ldc C tw4_172 dX5_count_153 ?_
  obtain ⟨x19, m1, e5, h⟩ := w_bdw h
  refine x_callVi C hX (fg_37_0 G) (c_X5_finding (gl Γ) G  e5) [] rfl hl tw4_173 tw4_175 ts1_15 tw1_7 tw4_176 rfl nd_X5_finding ⟨(Nat.le_of_ble_eq_true rfl), (Nat.le_of_ble_eq_true rfl)⟩ (Nat.le_of_ble_eq_true rfl) dX5_count_155 (fun H locs hX => ?_)
  exact x_iretW C hX hr hQ h dX5_count_158
def f_X5_status (p1 : Int32) (μ : MM) : Option (Int32 × MM) := bdr (f_X5_within p1 (-1) 6) fun x1 => if x1 = 0 then (bdw (f_X5_finding (-1000001) μ) fun x2 m1 => some (x2, m1)) else (ldi μ 41 8 (p1 + 1) fun x3 => some (x3, μ))
theorem nd_X5_status : yX5_status.cls ≠ "java/lang/invoke/MethodHandle" ∧ yX5_status.cls ≠ "java/lang/invoke/VarHandle" ∧ (parseMethodDescriptor yX5_status.desc).map (fun d => d.parameters.length) = some 1 := by decide +kernel
set_option maxHeartbeats 4000000 in
set_option maxRecDepth 100000 in
theorem c_X5_status (l : Launch) (G : EN)  {p1 : Int32} {μ : MM} {r : Int32} {m : MM} (h : f_X5_status p1 μ = some (r, m)) : XM l G yX5_status cX5_status 2 (some .int) 1 22 [.ref (G.2.1 37), .int p1] μ (some (.int r)) m := by
  refine x_met (own := RX5) (by decide +kernel) rfl (Nat.le_of_ble_eq_true rfl) (fun Γ A H ls hg C hr hX hQ hl => ?_)
  have hl : lv_has ls 2 [(0, .ref (G.2.1 37)), (1, .int p1)] := hl
  unfold f_X5_status at h
  refine i_iload_n C dX5_status_0 rfl (lv_at hl 1 rfl) ?_
  refine i_iconst (v := (-1)) C dX5_status_1 rfl ?_
  refine i_bipush (v := 6) C dX5_status_2 rfl ?_
  obtain ⟨x1, e1, h⟩ := w_bdr h
  refine x_callSi C hX (c_X5_within (gl Γ) G  e1) [] rfl hl tw4_169 tw4_170 tw1_7 tw4_171 nd_X5_within ⟨(Nat.le_of_ble_eq_true rfl), (Nat.le_of_ble_eq_true rfl)⟩ (Nat.le_of_ble_eq_true rfl) dX5_status_4 (fun H locs hX => ?_)
  refine i_if_eq (tgt := 21) C h dX5_status_7 (by decide) (fun _ h => ?_) (fun _ h => ?_)
  · refine i_aload_n C dX5_status_21 rfl (lv_at hl 0 rfl) ?_
    refine i_ldc C tw4_172 dX5_status_22 ?_
    obtain ⟨x2, m1, e2, h⟩ := w_bdw h
    refine x_callVi C hX (fg_37_0 G) (c_X5_finding (gl Γ) G  e2) [] rfl hl tw4_173 tw4_175 ts1_15 tw1_7 tw4_176 rfl nd_X5_finding ⟨(Nat.le_of_ble_eq_true rfl), (Nat.le_of_ble_eq_true rfl)⟩ (Nat.le_of_ble_eq_true rfl) dX5_status_24 (fun H locs hX => ?_)
    exact x_iretW C hX hr hQ h dX5_status_27
  refine i_aload_n C dX5_status_10 rfl (lv_at hl 0 rfl) ?_
  refine x_get C hX (fg_37_4 G) tw4_87 dX5_status_11 ?_
  refine i_iload_n C dX5_status_14 rfl (lv_at hl 1 rfl) ?_
  refine i_iconst (v := 1) C dX5_status_15 rfl ?_
  refine i_iadd C dX5_status_16 ?_
  refine x_iald C hX (ai_41 G) h dX5_status_17 (fun x3 h => ?_)
  refine i_goto (tgt := 27) C dX5_status_18 (by decide) ?_
  exact x_iretW C hX hr hQ h dX5_status_27
def L_X3_runEnd_3 (p2 : Int32) (p3 : Int32) (μ : MM) : Nat → Int32 → Option Int32
  | 0, _ => none
  | fu + 1, x1 => if (μ 19 1) ≤ x1 then (some x1) else (ldi μ 20 120 x1 fun x2 => bdr (f_X4_isWithin x2 p2 p3) fun x3 => if x3 = 0 then (some x1) else (lt_ (x1 + 1) fun x4 => L_X3_runEnd_3 p2 p3 μ fu x4))
def f_X3_runEnd (p1 : Int32) (p2 : Int32) (p3 : Int32) (μ : MM) : Option Int32 := L_X3_runEnd_3 p2 p3 μ FU p1
theorem nd_X3_runEnd : yX3_runEnd.cls ≠ "java/lang/invoke/MethodHandle" ∧ yX3_runEnd.cls ≠ "java/lang/invoke/VarHandle" ∧ (parseMethodDescriptor yX3_runEnd.desc).map (fun d => d.parameters.length) = some 3 := by decide +kernel
set_option maxHeartbeats 4000000 in
set_option maxRecDepth 100000 in
theorem c_X3_runEnd (l : Launch) (G : EN)  {p1 p2 p3 : Int32} {μ : MM} {r : Int32} (h : f_X3_runEnd p1 p2 p3 μ = some r) : XM l G yX3_runEnd cX3_runEnd 5 (some .int) 1 22 [.ref (G.2.1 19), .int p1, .int p2, .int p3] μ (some (.int r)) μ := by
  refine x_met (own := RX3) (by decide +kernel) rfl (Nat.le_of_ble_eq_true rfl) (fun Γ A H ls hg C hr hX hQ hl => ?_)
  have hl : lv_has ls 5 [(0, .ref (G.2.1 19)), (1, .int p1), (2, .int p2), (3, .int p3)] := hl
  unfold f_X3_runEnd at h
  refine i_iload_n C dX3_runEnd_0 rfl (lv_at hl 1 rfl) ?_
  refine i_istore C [(4, .int p1), (0, .ref (G.2.1 19)), (1, .int p1), (2, .int p2), (3, .int p3)] dX3_runEnd_1 hl (by decide) rfl (fun ls hl => ?_)
  have L1 : ∀ (fu : Nat) (x1 : Int32) (H : Heap) (locs : List Loc) (ls : Array Slot), L_X3_runEnd_3 p2 p3 μ fu x1 = some r → lv_has ls 5 [(0, .ref (G.2.1 19)), (2, .int p2), (3, .int p3), (4, .int x1)] → XW G A (gs Γ) H locs μ → WX Γ H locs 3 ls [] := by
    intro fu
    induction fu with
    | zero =>
      intro x1 H locs ls h
      rw [L_X3_runEnd_3] at h
      cases h
    | succ fu ih =>
      intro x1 H locs ls h hl hX
      rw [L_X3_runEnd_3] at h
      refine i_iload C dX3_runEnd_3 (lv_at hl 3 rfl) ?_
      refine i_aload_n C dX3_runEnd_5 rfl (lv_at hl 0 rfl) ?_
      refine x_get C hX (fg_19_1 G) tw1_107 dX3_runEnd_6 ?_
      refine i_icmp_ge (tgt := 33) C h dX3_runEnd_9 (by decide) (fun _ h => ?_) (fun _ h => ?_)
      · refine i_iload C dX3_runEnd_33 (lv_at hl 3 rfl) ?_
        exact x_iretR C hX hr hQ h dX3_runEnd_35
      refine i_aload_n C dX3_runEnd_12 rfl (lv_at hl 0 rfl) ?_
      refine x_get C hX (fg_19_0 G) tw1_105 dX3_runEnd_13 ?_
      refine i_iload C dX3_runEnd_16 (lv_at hl 3 rfl) ?_
      refine x_iald C hX (ai_20 G) h dX3_runEnd_18 (fun x2 h => ?_)
      refine i_iload_n C dX3_runEnd_19 rfl (lv_at hl 1 rfl) ?_
      refine i_iload_n C dX3_runEnd_20 rfl (lv_at hl 2 rfl) ?_
      obtain ⟨x3, e1, h⟩ := w_bdr h
      refine x_callSNi C hX (c_X4_isWithin (gl Γ) G  e1) [] rfl hl hX.2.2.2.1.2.1.2.2.2.2.2.2.2 tw1_202 tw1_1 tw1_203 nd_X4_isWithin ⟨(Nat.le_of_ble_eq_true rfl), (Nat.le_of_ble_eq_true rfl)⟩ (Nat.le_of_ble_eq_true rfl) dX3_runEnd_21 (fun H locs hX => ?_)
      refine i_if_eq (tgt := 33) C h dX3_runEnd_24 (by decide) (fun _ h => ?_) (fun _ h => ?_)
      · refine i_iload C dX3_runEnd_33 (lv_at hl 3 rfl) ?_
        exact x_iretR C hX hr hQ h dX3_runEnd_35
      refine i_iinc C (j := 3) (fun x4 => [(4, .int x4), (0, .ref (G.2.1 19)), (2, .int p2), (3, .int p3)]) h dX3_runEnd_27 hl rfl rfl (by decide) (fun _ => rfl) (fun x4 ls h hl => ?_)
      refine i_goto (tgt := 3) C dX3_runEnd_30 (by decide) ?_
      exact ih _ _ _ _ h (lv_sub hl [1, 2, 3, 0] rfl) hX
  exact L1 FU _ _ _ _ h (lv_sub hl [1, 3, 4, 0] rfl) hX
def f_X1_spelled (p0 : Int32) : Option Nat := if p0 = 0 then (some 0) else if p0 = 1 then (some 1) else if p0 = 2 then (some 2) else if p0 = 3 then (some 3) else if p0 = 4 then (some 4) else if p0 = 5 then (some 5) else if p0 = 6 then (some 6) else if p0 = 7 then (some 7) else if p0 = 8 then (some 8) else if p0 = 9 then (some 9) else if p0 = 10 then (some 10) else if p0 = 11 then (some 11) else if p0 = 12 then (some 12) else if p0 = 13 then (some 13) else if p0 = 14 then (some 14) else if p0 = 15 then (some 15) else if p0 = 16 then (some 16) else (some 17)
theorem lt_X1_spelled {p0 : Int32} {r : Nat} (h : f_X1_spelled p0 = some r) : r < 18 := by
  unfold f_X1_spelled at h
  iterate 17 (refine lt_of_ite h (by decide) (fun h => ?_))
  rw [← Option.some.inj h]
  decide
theorem nd_X1_spelled : yX1_spelled.cls ≠ "java/lang/invoke/MethodHandle" ∧ yX1_spelled.cls ≠ "java/lang/invoke/VarHandle" ∧ (parseMethodDescriptor yX1_spelled.desc).map (fun d => d.parameters.length) = some 1 := by decide +kernel
set_option maxHeartbeats 4000000 in
set_option maxRecDepth 100000 in
theorem c_X1_spelled (l : Launch) (G : EN)  {p0 : Int32} {μ : MM} {r : Nat} (h : f_X1_spelled p0 = some r) : XM l G yX1_spelled cX1_spelled 1 (some (.object "java/lang/String")) 0 0 [.int p0] μ (some (.ref (G.2.1 (100 + r)))) μ := by
  refine x_met (own := RX1) (by decide +kernel) rfl (Nat.le_of_ble_eq_true rfl) (fun Γ A H ls hg C hr hX hQ hl => ?_)
  have hl : lv_has ls 1 [(0, .int p0)] := hl
  unfold f_X1_spelled at h
  refine i_iload_n C dX1_spelled_0 rfl (lv_at hl 0 rfl) ?_
  refine i_case h (fun e h => ?_) (fun n1 h => ?_)
  · refine i_tabIn (tgt := 84) C e dX1_spelled_1 (by decide) (by decide) rfl (by decide) ?_
    refine x_ldcS C hX (List.mem_of_getElem? (i := 0) rfl) dX1_spelled_84 ?_
    exact x_aretS C hX hr hQ h dX1_spelled_86
  refine i_case h (fun e h => ?_) (fun n2 h => ?_)
  · refine i_tabIn (tgt := 87) C e dX1_spelled_1 (by decide) (by decide) rfl (by decide) ?_
    refine x_ldcS C hX (List.mem_of_getElem? (i := 1) rfl) dX1_spelled_87 ?_
    exact x_aretS C hX hr hQ h dX1_spelled_89
  refine i_case h (fun e h => ?_) (fun n3 h => ?_)
  · refine i_tabIn (tgt := 90) C e dX1_spelled_1 (by decide) (by decide) rfl (by decide) ?_
    refine x_ldcS C hX (List.mem_of_getElem? (i := 2) rfl) dX1_spelled_90 ?_
    exact x_aretS C hX hr hQ h dX1_spelled_92
  refine i_case h (fun e h => ?_) (fun n4 h => ?_)
  · refine i_tabIn (tgt := 93) C e dX1_spelled_1 (by decide) (by decide) rfl (by decide) ?_
    refine x_ldcS C hX (List.mem_of_getElem? (i := 3) rfl) dX1_spelled_93 ?_
    exact x_aretS C hX hr hQ h dX1_spelled_95
  refine i_case h (fun e h => ?_) (fun n5 h => ?_)
  · refine i_tabIn (tgt := 96) C e dX1_spelled_1 (by decide) (by decide) rfl (by decide) ?_
    refine x_ldcS C hX (List.mem_of_getElem? (i := 4) rfl) dX1_spelled_96 ?_
    exact x_aretS C hX hr hQ h dX1_spelled_98
  refine i_case h (fun e h => ?_) (fun n6 h => ?_)
  · refine i_tabIn (tgt := 99) C e dX1_spelled_1 (by decide) (by decide) rfl (by decide) ?_
    refine x_ldcS C hX (List.mem_of_getElem? (i := 5) rfl) dX1_spelled_99 ?_
    exact x_aretS C hX hr hQ h dX1_spelled_101
  refine i_case h (fun e h => ?_) (fun n7 h => ?_)
  · refine i_tabIn (tgt := 102) C e dX1_spelled_1 (by decide) (by decide) rfl (by decide) ?_
    refine x_ldcS C hX (List.mem_of_getElem? (i := 6) rfl) dX1_spelled_102 ?_
    exact x_aretS C hX hr hQ h dX1_spelled_104
  refine i_case h (fun e h => ?_) (fun n8 h => ?_)
  · refine i_tabIn (tgt := 105) C e dX1_spelled_1 (by decide) (by decide) rfl (by decide) ?_
    refine x_ldcS C hX (List.mem_of_getElem? (i := 7) rfl) dX1_spelled_105 ?_
    exact x_aretS C hX hr hQ h dX1_spelled_107
  refine i_case h (fun e h => ?_) (fun n9 h => ?_)
  · refine i_tabIn (tgt := 108) C e dX1_spelled_1 (by decide) (by decide) rfl (by decide) ?_
    refine x_ldcS C hX (List.mem_of_getElem? (i := 8) rfl) dX1_spelled_108 ?_
    exact x_aretS C hX hr hQ h dX1_spelled_110
  refine i_case h (fun e h => ?_) (fun n10 h => ?_)
  · refine i_tabIn (tgt := 111) C e dX1_spelled_1 (by decide) (by decide) rfl (by decide) ?_
    refine x_ldcS C hX (List.mem_of_getElem? (i := 9) rfl) dX1_spelled_111 ?_
    exact x_aretS C hX hr hQ h dX1_spelled_113
  refine i_case h (fun e h => ?_) (fun n11 h => ?_)
  · refine i_tabIn (tgt := 114) C e dX1_spelled_1 (by decide) (by decide) rfl (by decide) ?_
    refine x_ldcS C hX (List.mem_of_getElem? (i := 10) rfl) dX1_spelled_114 ?_
    exact x_aretS C hX hr hQ h dX1_spelled_116
  refine i_case h (fun e h => ?_) (fun n12 h => ?_)
  · refine i_tabIn (tgt := 117) C e dX1_spelled_1 (by decide) (by decide) rfl (by decide) ?_
    refine x_ldcS C hX (List.mem_of_getElem? (i := 11) rfl) dX1_spelled_117 ?_
    exact x_aretS C hX hr hQ h dX1_spelled_119
  refine i_case h (fun e h => ?_) (fun n13 h => ?_)
  · refine i_tabIn (tgt := 120) C e dX1_spelled_1 (by decide) (by decide) rfl (by decide) ?_
    refine x_ldcS C hX (List.mem_of_getElem? (i := 12) rfl) dX1_spelled_120 ?_
    exact x_aretS C hX hr hQ h dX1_spelled_122
  refine i_case h (fun e h => ?_) (fun n14 h => ?_)
  · refine i_tabIn (tgt := 123) C e dX1_spelled_1 (by decide) (by decide) rfl (by decide) ?_
    refine x_ldcS C hX (List.mem_of_getElem? (i := 13) rfl) dX1_spelled_123 ?_
    exact x_aretS C hX hr hQ h dX1_spelled_125
  refine i_case h (fun e h => ?_) (fun n15 h => ?_)
  · refine i_tabIn (tgt := 126) C e dX1_spelled_1 (by decide) (by decide) rfl (by decide) ?_
    refine x_ldcS C hX (List.mem_of_getElem? (i := 14) rfl) dX1_spelled_126 ?_
    exact x_aretS C hX hr hQ h dX1_spelled_128
  refine i_case h (fun e h => ?_) (fun n16 h => ?_)
  · refine i_tabIn (tgt := 129) C e dX1_spelled_1 (by decide) (by decide) rfl (by decide) ?_
    refine x_ldcS C hX (List.mem_of_getElem? (i := 15) rfl) dX1_spelled_129 ?_
    exact x_aretS C hX hr hQ h dX1_spelled_131
  refine i_case h (fun e h => ?_) (fun n17 h => ?_)
  · refine i_tabIn (tgt := 132) C e dX1_spelled_1 (by decide) (by decide) rfl (by decide) ?_
    refine x_ldcS C hX (List.mem_of_getElem? (i := 16) rfl) dX1_spelled_132 ?_
    exact x_aretS C hX hr hQ h dX1_spelled_134
  refine i_tabOut (tgt := 135) C (by have := ne_t (n := 0) (by decide) n1; have := ne_t (n := 1) (by decide) n2; have := ne_t (n := 2) (by decide) n3; have := ne_t (n := 3) (by decide) n4; have := ne_t (n := 4) (by decide) n5; have := ne_t (n := 5) (by decide) n6; have := ne_t (n := 6) (by decide) n7; have := ne_t (n := 7) (by decide) n8; have := ne_t (n := 8) (by decide) n9; have := ne_t (n := 9) (by decide) n10; have := ne_t (n := 10) (by decide) n11; have := ne_t (n := 11) (by decide) n12; have := ne_t (n := 12) (by decide) n13; have := ne_t (n := 13) (by decide) n14; have := ne_t (n := 14) (by decide) n15; have := ne_t (n := 15) (by decide) n16; have := ne_t (n := 16) (by decide) n17; omega) dX1_spelled_1 (by decide) ?_
  refine x_ldcS C hX (List.mem_of_getElem? (i := 17) rfl) dX1_spelled_135 ?_
  exact x_aretS C hX hr hQ h dX1_spelled_137
def L_X3_isWordAt_23 (p1 : Int32) (p2 : Int32) (sI : Nat) (μ : MM) : Nat → Int32 → Option Int32
  | 0, _ => none
  | fu + 1, x1 => if p2 ≤ x1 then (some 1) else (ldi μ 20 120 x1 fun x2 => ldch sI (x1 - p1) fun x3 => if x2 = x3 then (lt_ (x1 + 1) fun x4 => L_X3_isWordAt_23 p1 p2 sI μ fu x4) else (some 0))
def f_X3_isWordAt (p1 : Int32) (p2 : Int32) (sI : Nat) (μ : MM) : Option Int32 := if (p2 - p1) = (nI (lenS.getD sI 0)) then (if p2 ≤ (μ 19 1) then (L_X3_isWordAt_23 p1 p2 sI μ FU p1) else (some 0)) else (some 0)
theorem nd_X3_isWordAt : yX3_isWordAt.cls ≠ "java/lang/invoke/MethodHandle" ∧ yX3_isWordAt.cls ≠ "java/lang/invoke/VarHandle" ∧ (parseMethodDescriptor yX3_isWordAt.desc).map (fun d => d.parameters.length) = some 3 := by decide +kernel
set_option maxHeartbeats 4000000 in
set_option maxRecDepth 100000 in
theorem c_X3_isWordAt (l : Launch) (G : EN) {sI : Nat} (hs : sI < 18) {p1 p2 : Int32} {μ : MM} {r : Int32} (h : f_X3_isWordAt p1 p2 sI μ = some r) : XM l G yX3_isWordAt cX3_isWordAt 5 (some .boolean) 4 85 [.ref (G.2.1 19), .int p1, .int p2, .ref (G.2.1 (100 + sI))] μ (some (.int r)) μ := by
  refine x_met (own := RX3) (by decide +kernel) rfl (Nat.le_of_ble_eq_true rfl) (fun Γ A H ls hg C hr hX hQ hl => ?_)
  have hl : lv_has ls 5 [(0, .ref (G.2.1 19)), (1, .int p1), (2, .int p2), (3, .ref (G.2.1 (100 + sI)))] := hl
  unfold f_X3_isWordAt at h
  refine i_iload_n C dX3_isWordAt_0 rfl (lv_at hl 2 rfl) ?_
  refine i_iload_n C dX3_isWordAt_1 rfl (lv_at hl 1 rfl) ?_
  refine i_isub C dX3_isWordAt_2 ?_
  refine i_aload_n C dX3_isWordAt_3 rfl (lv_at hl 3 rfl) ?_
  refine x_slen C hX hs [.int (p2 - p1)] hl tw3_121 ⟨(Nat.le_of_ble_eq_true rfl), (Nat.le_of_ble_eq_true rfl)⟩ (Nat.le_of_ble_eq_true rfl) dX3_isWordAt_4 (fun H locs hX => ?_)
  refine i_icmp_ne (tgt := 18) C h dX3_isWordAt_7 (by decide) (fun _ h => ?_) (fun _ h => ?_)
  · refine i_iconst (v := 0) C dX3_isWordAt_18 rfl ?_
    exact x_zcR C hX (by decide) hr hQ h dX3_isWordAt_19
  refine i_iload_n C dX3_isWordAt_10 rfl (lv_at hl 2 rfl) ?_
  refine i_aload_n C dX3_isWordAt_11 rfl (lv_at hl 0 rfl) ?_
  refine x_get C hX (fg_19_1 G) tw1_107 dX3_isWordAt_12 ?_
  refine i_icmp_le (tgt := 20) C h dX3_isWordAt_15 (by decide) (fun _ h => ?_) (fun _ h => ?_)
  · refine i_iload_n C dX3_isWordAt_20 rfl (lv_at hl 1 rfl) ?_
    refine i_istore C [(4, .int p1), (0, .ref (G.2.1 19)), (1, .int p1), (2, .int p2), (3, .ref (G.2.1 (100 + sI)))] dX3_isWordAt_21 hl (by decide) rfl (fun ls hl => ?_)
    have L1 : ∀ (fu : Nat) (x1 : Int32) (H : Heap) (locs : List Loc) (ls : Array Slot), L_X3_isWordAt_23 p1 p2 sI μ fu x1 = some r → lv_has ls 5 [(0, .ref (G.2.1 19)), (1, .int p1), (2, .int p2), (3, .ref (G.2.1 (100 + sI))), (4, .int x1)] → XW G A (gs Γ) H locs μ → WX Γ H locs 23 ls [] := by
      intro fu
      induction fu with
      | zero =>
        intro x1 H locs ls h
        rw [L_X3_isWordAt_23] at h
        cases h
      | succ fu ih =>
        intro x1 H locs ls h hl hX
        rw [L_X3_isWordAt_23] at h
        refine i_iload C dX3_isWordAt_23 (lv_at hl 4 rfl) ?_
        refine i_iload_n C dX3_isWordAt_25 rfl (lv_at hl 2 rfl) ?_
        refine i_icmp_ge (tgt := 55) C h dX3_isWordAt_26 (by decide) (fun _ h => ?_) (fun _ h => ?_)
        · refine i_iconst (v := 1) C dX3_isWordAt_55 rfl ?_
          exact x_zcR C hX (by decide) hr hQ h dX3_isWordAt_56
        refine i_aload_n C dX3_isWordAt_29 rfl (lv_at hl 0 rfl) ?_
        refine x_get C hX (fg_19_0 G) tw1_105 dX3_isWordAt_30 ?_
        refine i_iload C dX3_isWordAt_33 (lv_at hl 4 rfl) ?_
        refine x_iald C hX (ai_20 G) h dX3_isWordAt_35 (fun x2 h => ?_)
        refine i_aload_n C dX3_isWordAt_36 rfl (lv_at hl 3 rfl) ?_
        refine i_iload C dX3_isWordAt_37 (lv_at hl 4 rfl) ?_
        refine i_iload_n C dX3_isWordAt_39 rfl (lv_at hl 1 rfl) ?_
        refine i_isub C dX3_isWordAt_40 ?_
        refine x_sch C hX hs h [.int x2] hl tw3_131 ⟨(Nat.le_of_ble_eq_true rfl), (Nat.le_of_ble_eq_true rfl)⟩ (Nat.le_of_ble_eq_true rfl) dX3_isWordAt_41 (fun x3 H locs h hX => ?_)
        refine i_icmp_eq (tgt := 49) C h dX3_isWordAt_44 (by decide) (fun _ h => ?_) (fun _ h => ?_)
        · refine i_iinc C (j := 4) (fun x4 => [(4, .int x4), (0, .ref (G.2.1 19)), (1, .int p1), (2, .int p2), (3, .ref (G.2.1 (100 + sI)))]) h dX3_isWordAt_49 hl rfl rfl (by decide) (fun _ => rfl) (fun x4 ls h hl => ?_)
          refine i_goto (tgt := 23) C dX3_isWordAt_52 (by decide) ?_
          exact ih _ _ _ _ h (lv_sub hl [1, 2, 3, 4, 0] rfl) hX
        refine i_iconst (v := 0) C dX3_isWordAt_47 rfl ?_
        exact x_zcR C hX (by decide) hr hQ h dX3_isWordAt_48
    exact L1 FU _ _ _ _ h (lv_sub hl [1, 2, 3, 4, 0] rfl) hX
  refine i_iconst (v := 0) C dX3_isWordAt_18 rfl ?_
  exact x_zcR C hX (by decide) hr hQ h dX3_isWordAt_19
def L_X1_wordAt_2 (p1 : Int32) (p2 : Int32) (μ : MM) : Nat → Int32 → Option Int32
  | 0, _ => none
  | fu + 1, x1 => if 17 ≤ x1 then (some 21) else (bdr (f_X1_spelled x1) fun x2 => bdr (f_X3_isWordAt p1 p2 x2 μ) fun x3 => if x3 = 0 then (lt_ (x1 + 1) fun x4 => L_X1_wordAt_2 p1 p2 μ fu x4) else (some x1))
def f_X1_wordAt (p1 : Int32) (p2 : Int32) (μ : MM) : Option Int32 := L_X1_wordAt_2 p1 p2 μ FU 0
theorem nd_X1_wordAt : yX1_wordAt.cls ≠ "java/lang/invoke/MethodHandle" ∧ yX1_wordAt.cls ≠ "java/lang/invoke/VarHandle" ∧ (parseMethodDescriptor yX1_wordAt.desc).map (fun d => d.parameters.length) = some 3 := by decide +kernel
set_option maxHeartbeats 4000000 in
set_option maxRecDepth 100000 in
theorem c_X1_wordAt (l : Launch) (G : EN)  {p1 p2 : Int32} {μ : MM} {r : Int32} (h : f_X1_wordAt p1 p2 μ = some r) : XM l G yX1_wordAt cX1_wordAt 4 (some .int) 5 109 [.ref (G.2.1 19), .int p1, .int p2] μ (some (.int r)) μ := by
  refine x_met (own := RX1) (by decide +kernel) rfl (Nat.le_of_ble_eq_true rfl) (fun Γ A H ls hg C hr hX hQ hl => ?_)
  have hl : lv_has ls 4 [(0, .ref (G.2.1 19)), (1, .int p1), (2, .int p2)] := hl
  unfold f_X1_wordAt at h
  refine i_iconst (v := 0) C dX1_wordAt_0 rfl ?_
  refine i_istore_n C [(3, .int 0), (0, .ref (G.2.1 19)), (1, .int p1), (2, .int p2)] dX1_wordAt_1 rfl hl (by decide) rfl (fun ls hl => ?_)
  have L1 : ∀ (fu : Nat) (x1 : Int32) (H : Heap) (locs : List Loc) (ls : Array Slot), L_X1_wordAt_2 p1 p2 μ fu x1 = some r → lv_has ls 4 [(0, .ref (G.2.1 19)), (1, .int p1), (2, .int p2), (3, .int x1)] → XW G A (gs Γ) H locs μ → WX Γ H locs 2 ls [] := by
    intro fu
    induction fu with
    | zero =>
      intro x1 H locs ls h
      rw [L_X1_wordAt_2] at h
      cases h
    | succ fu ih =>
      intro x1 H locs ls h hl hX
      rw [L_X1_wordAt_2] at h
      refine i_iload_n C dX1_wordAt_2 rfl (lv_at hl 3 rfl) ?_
      refine i_bipush (v := 17) C dX1_wordAt_3 rfl ?_
      refine i_icmp_ge (tgt := 29) C h dX1_wordAt_5 (by decide) (fun _ h => ?_) (fun _ h => ?_)
      · refine i_bipush (v := 21) C dX1_wordAt_29 rfl ?_
        exact x_iretR C hX hr hQ h dX1_wordAt_31
      refine i_aload_n C dX1_wordAt_8 rfl (lv_at hl 0 rfl) ?_
      refine i_iload_n C dX1_wordAt_9 rfl (lv_at hl 1 rfl) ?_
      refine i_iload_n C dX1_wordAt_10 rfl (lv_at hl 2 rfl) ?_
      refine i_iload_n C dX1_wordAt_11 rfl (lv_at hl 3 rfl) ?_
      obtain ⟨x2, e1, h⟩ := w_bdr h
      refine x_callSa C hX (c_X1_spelled (gl Γ) G  e1) [.int p2, .int p1, .ref (G.2.1 19)] rfl hl tw3_96 tw3_97 tw1_5 tw3_98 nd_X1_spelled ⟨(Nat.le_of_ble_eq_true rfl), (Nat.le_of_ble_eq_true rfl)⟩ (Nat.le_of_ble_eq_true rfl) dX1_wordAt_12 (fun H locs hX => ?_)
      obtain ⟨x3, e2, h⟩ := w_bdr h
      refine x_callVi C hX (fg_19_0 G) (c_X3_isWordAt (gl Γ) G (lt_X1_spelled e1) e2) [] rfl hl tw3_117 tw3_118 tw3_119 tw1_4 tw3_120 rfl nd_X3_isWordAt ⟨(Nat.le_of_ble_eq_true rfl), (Nat.le_of_ble_eq_true rfl)⟩ (Nat.le_of_ble_eq_true rfl) dX1_wordAt_15 (fun H locs hX => ?_)
      refine i_if_eq (tgt := 23) C h dX1_wordAt_18 (by decide) (fun _ h => ?_) (fun _ h => ?_)
      · refine i_iinc C (j := 3) (fun x4 => [(3, .int x4), (0, .ref (G.2.1 19)), (1, .int p1), (2, .int p2)]) h dX1_wordAt_23 hl rfl rfl (by decide) (fun _ => rfl) (fun x4 ls h hl => ?_)
        refine i_goto (tgt := 2) C dX1_wordAt_26 (by decide) ?_
        exact ih _ _ _ _ h (lv_sub hl [1, 2, 3, 0] rfl) hX
      refine i_iload_n C dX1_wordAt_21 rfl (lv_at hl 3 rfl) ?_
      exact x_iretR C hX hr hQ h dX1_wordAt_22
  exact L1 FU _ _ _ _ h (lv_sub hl [1, 2, 3, 0] rfl) hX
def L_X3_numberAt_5 (p2 : Int32) (μ : MM) : Nat → Int32 → Int32 → Option Int32
  | 0, _, _ => none
  | fu + 1, x1, x2 => if p2 ≤ x2 then (some x1) else (if (μ 19 1) ≤ x2 then (some x1) else (ldi μ 20 120 x2 fun x3 => lt_ ((imin (((x1 * 10) + x3) - 48) 100000)) fun x4 => lt_ (x2 + 1) fun x5 => L_X3_numberAt_5 p2 μ fu x4 x5))
def f_X3_numberAt (p1 : Int32) (p2 : Int32) (μ : MM) : Option Int32 := L_X3_numberAt_5 p2 μ FU 0 p1
theorem nd_X3_numberAt : yX3_numberAt.cls ≠ "java/lang/invoke/MethodHandle" ∧ yX3_numberAt.cls ≠ "java/lang/invoke/VarHandle" ∧ (parseMethodDescriptor yX3_numberAt.desc).map (fun d => d.parameters.length) = some 2 := by decide +kernel
set_option maxHeartbeats 4000000 in
set_option maxRecDepth 100000 in
theorem c_X3_numberAt (l : Launch) (G : EN)  {p1 p2 : Int32} {μ : MM} {r : Int32} (h : f_X3_numberAt p1 p2 μ = some r) : XM l G yX3_numberAt cX3_numberAt 5 (some .int) 1 21 [.ref (G.2.1 19), .int p1, .int p2] μ (some (.int r)) μ := by
  refine x_met (own := RX3) (by decide +kernel) rfl (Nat.le_of_ble_eq_true rfl) (fun Γ A H ls hg C hr hX hQ hl => ?_)
  have hl : lv_has ls 5 [(0, .ref (G.2.1 19)), (1, .int p1), (2, .int p2)] := hl
  unfold f_X3_numberAt at h
  refine i_iconst (v := 0) C dX3_numberAt_0 rfl ?_
  refine i_istore_n C [(3, .int 0), (0, .ref (G.2.1 19)), (1, .int p1), (2, .int p2)] dX3_numberAt_1 rfl hl (by decide) rfl (fun ls hl => ?_)
  refine i_iload_n C dX3_numberAt_2 rfl (lv_at hl 2 rfl) ?_
  refine i_istore C [(4, .int p1), (3, .int 0), (0, .ref (G.2.1 19)), (1, .int p1), (2, .int p2)] dX3_numberAt_3 hl (by decide) rfl (fun ls hl => ?_)
  have L1 : ∀ (fu : Nat) (x1 : Int32) (x2 : Int32) (H : Heap) (locs : List Loc) (ls : Array Slot), L_X3_numberAt_5 p2 μ fu x1 x2 = some r → lv_has ls 5 [(0, .ref (G.2.1 19)), (2, .int p2), (3, .int x1), (4, .int x2)] → XW G A (gs Γ) H locs μ → WX Γ H locs 5 ls [] := by
    intro fu
    induction fu with
    | zero =>
      intro x1 x2 H locs ls h
      rw [L_X3_numberAt_5] at h
      cases h
    | succ fu ih =>
      intro x1 x2 H locs ls h hl hX
      rw [L_X3_numberAt_5] at h
      refine i_iload C dX3_numberAt_5 (lv_at hl 3 rfl) ?_
      refine i_iload_n C dX3_numberAt_7 rfl (lv_at hl 1 rfl) ?_
      refine i_icmp_ge (tgt := 47) C h dX3_numberAt_8 (by decide) (fun _ h => ?_) (fun _ h => ?_)
      · refine i_iload_n C dX3_numberAt_47 rfl (lv_at hl 2 rfl) ?_
        exact x_iretR C hX hr hQ h dX3_numberAt_48
      refine i_iload C dX3_numberAt_11 (lv_at hl 3 rfl) ?_
      refine i_aload_n C dX3_numberAt_13 rfl (lv_at hl 0 rfl) ?_
      refine x_get C hX (fg_19_1 G) tw1_107 dX3_numberAt_14 ?_
      refine i_icmp_ge (tgt := 47) C h dX3_numberAt_17 (by decide) (fun _ h => ?_) (fun _ h => ?_)
      · refine i_iload_n C dX3_numberAt_47 rfl (lv_at hl 2 rfl) ?_
        exact x_iretR C hX hr hQ h dX3_numberAt_48
      refine i_iload_n C dX3_numberAt_20 rfl (lv_at hl 2 rfl) ?_
      refine i_bipush (v := 10) C dX3_numberAt_21 rfl ?_
      refine i_imul C dX3_numberAt_23 ?_
      refine i_aload_n C dX3_numberAt_24 rfl (lv_at hl 0 rfl) ?_
      refine x_get C hX (fg_19_0 G) tw1_105 dX3_numberAt_25 ?_
      refine i_iload C dX3_numberAt_28 (lv_at hl 3 rfl) ?_
      refine x_iald C hX (ai_20 G) h dX3_numberAt_30 (fun x3 h => ?_)
      refine i_iadd C dX3_numberAt_31 ?_
      refine i_bipush (v := 48) C dX3_numberAt_32 rfl ?_
      refine i_isub C dX3_numberAt_34 ?_
      refine i_ldc C tw3_173 dX3_numberAt_35 ?_
      refine x_min C hl tw3_174 tw1_231 tw1_8 tw1_232 (Nat.le_of_ble_eq_true rfl) (Nat.le_of_ble_eq_true rfl) dX3_numberAt_37 ?_
      refine i_istoreL_n C (fun x4 => [(3, .int x4), (0, .ref (G.2.1 19)), (2, .int p2), (4, .int x2)]) h dX3_numberAt_40 rfl hl (by decide) (fun _ => rfl) (fun x4 ls h hl => ?_)
      refine i_iinc C (j := 3) (fun x5 => [(4, .int x5), (3, .int x4), (0, .ref (G.2.1 19)), (2, .int p2)]) h dX3_numberAt_41 hl rfl rfl (by decide) (fun _ => rfl) (fun x5 ls h hl => ?_)
      refine i_goto (tgt := 5) C dX3_numberAt_44 (by decide) ?_
      exact ih _ _ _ _ _ h (lv_sub hl [2, 3, 1, 0] rfl) hX
  exact L1 FU _ _ _ _ _ h (lv_sub hl [2, 4, 1, 0] rfl) hX
def f_X1_signOf (p0 : Int32) : Option Int32 := if p0 = 59 then (some 18) else (if p0 = 45 then (some 19) else (some 21))
theorem nd_X1_signOf : yX1_signOf.cls ≠ "java/lang/invoke/MethodHandle" ∧ yX1_signOf.cls ≠ "java/lang/invoke/VarHandle" ∧ (parseMethodDescriptor yX1_signOf.desc).map (fun d => d.parameters.length) = some 1 := by decide +kernel
set_option maxHeartbeats 4000000 in
set_option maxRecDepth 100000 in
theorem c_X1_signOf (l : Launch) (G : EN)  {p0 : Int32} {μ : MM} {r : Int32} (h : f_X1_signOf p0 = some r) : XM l G yX1_signOf cX1_signOf 1 (some .int) 0 0 [.int p0] μ (some (.int r)) μ := by
  refine x_met (own := RX1) (by decide +kernel) rfl (Nat.le_of_ble_eq_true rfl) (fun Γ A H ls hg C hr hX hQ hl => ?_)
  have hl : lv_has ls 1 [(0, .int p0)] := hl
  unfold f_X1_signOf at h
  refine i_iload_n C dX1_signOf_0 rfl (lv_at hl 0 rfl) ?_
  refine i_bipush (v := 59) C dX1_signOf_1 rfl ?_
  refine i_icmp_ne (tgt := 9) C h dX1_signOf_3 (by decide) (fun _ h => ?_) (fun _ h => ?_)
  · refine i_iload_n C dX1_signOf_9 rfl (lv_at hl 0 rfl) ?_
    refine i_bipush (v := 45) C dX1_signOf_10 rfl ?_
    refine i_icmp_ne (tgt := 20) C h dX1_signOf_12 (by decide) (fun _ h => ?_) (fun _ h => ?_)
    · refine i_bipush (v := 21) C dX1_signOf_20 rfl ?_
      exact x_iretR C hX hr hQ h dX1_signOf_22
    refine i_bipush (v := 19) C dX1_signOf_15 rfl ?_
    refine i_goto (tgt := 22) C dX1_signOf_17 (by decide) ?_
    exact x_iretR C hX hr hQ h dX1_signOf_22
  refine i_bipush (v := 18) C dX1_signOf_6 rfl ?_
  exact x_iretR C hX hr hQ h dX1_signOf_8
def f_X1_takeToken (p2 : Int32) (μ : MM) : Option (Int32 × MM) := sti μ 23 121 (μ 21 3) p2 fun m1 => bdr (f_X3_runEnd p2 97 122 m1) fun x1 => if x1 ≤ p2 then (bdr (f_X3_runEnd p2 48 57 m1) fun x2 => if x2 ≤ p2 then (ldi m1 20 120 p2 fun x3 => bdr (f_X1_signOf x3) fun x4 => sti m1 22 121 (m1 21 3) x4 fun m2 => some ((p2 + 1), m2)) else (sti m1 22 121 (m1 21 3) 17 fun m3 => bdr (f_X3_numberAt p2 x2 m3) fun x5 => sti m3 24 121 (m3 21 3) x5 fun m4 => some (x2, m4))) else (bdr (f_X1_wordAt p2 x1 m1) fun x6 => sti m1 22 121 (m1 21 3) x6 fun m5 => some (x1, m5))
theorem nd_X1_takeToken : yX1_takeToken.cls ≠ "java/lang/invoke/MethodHandle" ∧ yX1_takeToken.cls ≠ "java/lang/invoke/VarHandle" ∧ (parseMethodDescriptor yX1_takeToken.desc).map (fun d => d.parameters.length) = some 2 := by decide +kernel
set_option maxHeartbeats 4000000 in
set_option maxRecDepth 100000 in
theorem c_X1_takeToken (l : Launch) (G : EN)  {p2 : Int32} {μ : MM} {r : Int32} {m : MM} (h : f_X1_takeToken p2 μ = some (r, m)) : XM l G yX1_takeToken cX1_takeToken 4 (some .int) 6 132 [.ref (G.2.1 21), .ref (G.2.1 19), .int p2] μ (some (.int r)) m := by
  refine x_met (own := RX1) (by decide +kernel) rfl (Nat.le_of_ble_eq_true rfl) (fun Γ A H ls hg C hr hX hQ hl => ?_)
  have hl : lv_has ls 4 [(0, .ref (G.2.1 21)), (1, .ref (G.2.1 19)), (2, .int p2)] := hl
  unfold f_X1_takeToken at h
  refine i_aload_n C dX1_takeToken_0 rfl (lv_at hl 0 rfl) ?_
  refine x_get C hX (fg_21_1 G) tw1_122 dX1_takeToken_1 ?_
  refine i_aload_n C dX1_takeToken_4 rfl (lv_at hl 0 rfl) ?_
  refine x_get C hX (fg_21_3 G) tw1_124 dX1_takeToken_5 ?_
  refine i_iload_n C dX1_takeToken_8 rfl (lv_at hl 2 rfl) ?_
  refine x_iast C hX (ai_23 G) h dX1_takeToken_9 (fun H locs m1 h hX => ?_)
  refine i_aload_n C dX1_takeToken_10 rfl (lv_at hl 1 rfl) ?_
  refine i_iload_n C dX1_takeToken_11 rfl (lv_at hl 2 rfl) ?_
  refine i_bipush (v := 97) C dX1_takeToken_12 rfl ?_
  refine i_bipush (v := 122) C dX1_takeToken_14 rfl ?_
  obtain ⟨x1, e1, h⟩ := w_bdr h
  refine x_callVi C hX (fg_19_0 G) (c_X3_runEnd (gl Γ) G  e1) [] rfl hl tw3_88 tw3_89 tw3_90 tw1_4 tw3_91 rfl nd_X3_runEnd ⟨(Nat.le_of_ble_eq_true rfl), (Nat.le_of_ble_eq_true rfl)⟩ (Nat.le_of_ble_eq_true rfl) dX1_takeToken_16 (fun H locs hX => ?_)
  refine i_istore_n C [(3, .int x1), (0, .ref (G.2.1 21)), (1, .ref (G.2.1 19)), (2, .int p2)] dX1_takeToken_19 rfl hl (by decide) rfl (fun ls hl => ?_)
  refine i_iload_n C dX1_takeToken_20 rfl (lv_at hl 0 rfl) ?_
  refine i_iload_n C dX1_takeToken_21 rfl (lv_at hl 3 rfl) ?_
  refine i_icmp_le (tgt := 42) C h dX1_takeToken_22 (by decide) (fun _ h => ?_) (fun _ h => ?_)
  · refine i_aload_n C dX1_takeToken_42 rfl (lv_at hl 2 rfl) ?_
    refine i_iload_n C dX1_takeToken_43 rfl (lv_at hl 3 rfl) ?_
    refine i_bipush (v := 48) C dX1_takeToken_44 rfl ?_
    refine i_bipush (v := 57) C dX1_takeToken_46 rfl ?_
    obtain ⟨x2, e2, h⟩ := w_bdr h
    refine x_callVi C hX (fg_19_0 G) (c_X3_runEnd (gl Γ) G  e2) [] rfl hl tw3_88 tw3_89 tw3_90 tw1_4 tw3_91 rfl nd_X3_runEnd ⟨(Nat.le_of_ble_eq_true rfl), (Nat.le_of_ble_eq_true rfl)⟩ (Nat.le_of_ble_eq_true rfl) dX1_takeToken_48 (fun H locs hX => ?_)
    refine i_istore_n C [(3, .int x2), (0, .ref (G.2.1 21)), (1, .ref (G.2.1 19)), (2, .int p2)] dX1_takeToken_51 rfl hl (by decide) rfl (fun ls hl => ?_)
    refine i_iload_n C dX1_takeToken_52 rfl (lv_at hl 0 rfl) ?_
    refine i_iload_n C dX1_takeToken_53 rfl (lv_at hl 3 rfl) ?_
    refine i_icmp_le (tgt := 85) C h dX1_takeToken_54 (by decide) (fun _ h => ?_) (fun _ h => ?_)
    · refine i_aload_n C dX1_takeToken_85 rfl (lv_at hl 1 rfl) ?_
      refine x_get C hX (fg_21_0 G) tw1_121 dX1_takeToken_86 ?_
      refine i_aload_n C dX1_takeToken_89 rfl (lv_at hl 1 rfl) ?_
      refine x_get C hX (fg_21_3 G) tw1_124 dX1_takeToken_90 ?_
      refine i_aload_n C dX1_takeToken_93 rfl (lv_at hl 2 rfl) ?_
      refine x_get C hX (fg_19_0 G) tw1_106 dX1_takeToken_94 ?_
      refine i_iload_n C dX1_takeToken_97 rfl (lv_at hl 3 rfl) ?_
      refine x_iald C hX (ai_20 G) h dX1_takeToken_98 (fun x3 h => ?_)
      obtain ⟨x4, e3, h⟩ := w_bdr h
      refine x_callSi C hX (c_X1_signOf (gl Γ) G  e3) [.int (m1 21 3), .ref (G.2.1 22)] rfl hl tw3_175 tw3_176 tw1_5 tw3_177 nd_X1_signOf ⟨(Nat.le_of_ble_eq_true rfl), (Nat.le_of_ble_eq_true rfl)⟩ (Nat.le_of_ble_eq_true rfl) dX1_takeToken_99 (fun H locs hX => ?_)
      refine x_iast C hX (ai_22 G) h dX1_takeToken_102 (fun H locs m2 h hX => ?_)
      refine i_iload_n C dX1_takeToken_103 rfl (lv_at hl 3 rfl) ?_
      refine i_iconst (v := 1) C dX1_takeToken_104 rfl ?_
      refine i_iadd C dX1_takeToken_105 ?_
      exact x_iretW C hX hr hQ h dX1_takeToken_106
    refine i_aload_n C dX1_takeToken_57 rfl (lv_at hl 1 rfl) ?_
    refine x_get C hX (fg_21_0 G) tw1_121 dX1_takeToken_58 ?_
    refine i_aload_n C dX1_takeToken_61 rfl (lv_at hl 1 rfl) ?_
    refine x_get C hX (fg_21_3 G) tw1_124 dX1_takeToken_62 ?_
    refine i_bipush (v := 17) C dX1_takeToken_65 rfl ?_
    refine x_iast C hX (ai_22 G) h dX1_takeToken_67 (fun H locs m3 h hX => ?_)
    refine i_aload_n C dX1_takeToken_68 rfl (lv_at hl 1 rfl) ?_
    refine x_get C hX (fg_21_2 G) tw1_123 dX1_takeToken_69 ?_
    refine i_aload_n C dX1_takeToken_72 rfl (lv_at hl 1 rfl) ?_
    refine x_get C hX (fg_21_3 G) tw1_124 dX1_takeToken_73 ?_
    refine i_aload_n C dX1_takeToken_76 rfl (lv_at hl 2 rfl) ?_
    refine i_iload_n C dX1_takeToken_77 rfl (lv_at hl 3 rfl) ?_
    refine i_iload_n C dX1_takeToken_78 rfl (lv_at hl 0 rfl) ?_
    obtain ⟨x5, e4, h⟩ := w_bdr h
    refine x_callVi C hX (fg_19_0 G) (c_X3_numberAt (gl Γ) G  e4) [.int (m3 21 3), .ref (G.2.1 24)] rfl hl tw3_169 tw3_170 tw3_171 tw1_4 tw3_172 rfl nd_X3_numberAt ⟨(Nat.le_of_ble_eq_true rfl), (Nat.le_of_ble_eq_true rfl)⟩ (Nat.le_of_ble_eq_true rfl) dX1_takeToken_79 (fun H locs hX => ?_)
    refine x_iast C hX (ai_24 G) h dX1_takeToken_82 (fun H locs m4 h hX => ?_)
    refine i_iload_n C dX1_takeToken_83 rfl (lv_at hl 0 rfl) ?_
    exact x_iretW C hX hr hQ h dX1_takeToken_84
  refine i_aload_n C dX1_takeToken_25 rfl (lv_at hl 1 rfl) ?_
  refine x_get C hX (fg_21_0 G) tw1_121 dX1_takeToken_26 ?_
  refine i_aload_n C dX1_takeToken_29 rfl (lv_at hl 1 rfl) ?_
  refine x_get C hX (fg_21_3 G) tw1_124 dX1_takeToken_30 ?_
  refine i_aload_n C dX1_takeToken_33 rfl (lv_at hl 2 rfl) ?_
  refine i_iload_n C dX1_takeToken_34 rfl (lv_at hl 3 rfl) ?_
  refine i_iload_n C dX1_takeToken_35 rfl (lv_at hl 0 rfl) ?_
  obtain ⟨x6, e5, h⟩ := w_bdr h
  refine x_callSi C hX (c_X1_wordAt (gl Γ) G  e5) [.int (m1 21 3), .ref (G.2.1 22)] rfl hl tw3_93 tw3_94 tw1_5 tw3_95 nd_X1_wordAt ⟨(Nat.le_of_ble_eq_true rfl), (Nat.le_of_ble_eq_true rfl)⟩ (Nat.le_of_ble_eq_true rfl) dX1_takeToken_36 (fun H locs hX => ?_)
  refine x_iast C hX (ai_22 G) h dX1_takeToken_39 (fun H locs m5 h hX => ?_)
  refine i_iload_n C dX1_takeToken_40 rfl (lv_at hl 0 rfl) ?_
  exact x_iretW C hX hr hQ h dX1_takeToken_41
def L_X1_scan_9 (k1 : MM → Option MM) : Nat → Int32 → Int32 → MM → Option MM
  | 0, _, _, _ => none
  | fu + 1, x1, x2, m5 => if 120 ≤ x2 then (k1 m5) else (if (m5 19 1) ≤ x1 then (k1 m5) else (ldi m5 20 120 x1 fun x3 => jn2 (fun (x4 : Int32) (m6 : MM) => lt_ (x2 + 1) fun x5 => L_X1_scan_9 k1 fu x4 x5 m6) fun k2 => if x3 = 32 then (lt_ (x1 + 1) fun x7 => k2 x7 m5) else (bdw (f_X1_takeToken x1 m5) fun x6 m7 => lt_ (wst m7 21 3 ((m7 21 3) + 1)) fun m8 => k2 x6 m8)))
def f_X1_scan (μ : MM) : Option MM := lt_ (wst μ 21 3 0) fun m1 => jn1 (fun (m2 : MM) => sti m2 22 121 (m2 21 3) 20 fun m3 => sti m3 23 121 (m3 21 3) (m3 19 1) fun m4 => some m4) fun k1 => L_X1_scan_9 k1 FU 0 0 m1
theorem nd_X1_scan : yX1_scan.cls ≠ "java/lang/invoke/MethodHandle" ∧ yX1_scan.cls ≠ "java/lang/invoke/VarHandle" ∧ (parseMethodDescriptor yX1_scan.desc).map (fun d => d.parameters.length) = some 1 := by decide +kernel
set_option maxHeartbeats 4000000 in
set_option maxRecDepth 100000 in
theorem c_X1_scan (l : Launch) (G : EN)  {μ : MM} {r : MM} (h : f_X1_scan μ = some r) : XM l G yX1_scan cX1_scan 4 none 7 155 [.ref (G.2.1 21), .ref (G.2.1 19)] μ none r := by
  refine x_met (own := RX1) (by decide +kernel) rfl (Nat.le_of_ble_eq_true rfl) (fun Γ A H ls hg C hr hX hQ hl => ?_)
  have hl : lv_has ls 4 [(0, .ref (G.2.1 21)), (1, .ref (G.2.1 19))] := hl
  unfold f_X1_scan at h
  refine i_aload_n C dX1_scan_0 rfl (lv_at hl 0 rfl) ?_
  refine i_iconst (v := 0) C dX1_scan_1 rfl ?_
  refine x_putI C hX (fp_21_3 G) h tw1_124 dX1_scan_2 (fun H locs m1 h hX => ?_)
  refine i_iconst (v := 0) C dX1_scan_5 rfl ?_
  refine i_istore_n C [(2, .int 0), (0, .ref (G.2.1 21)), (1, .ref (G.2.1 19))] dX1_scan_6 rfl hl (by decide) rfl (fun ls hl => ?_)
  refine i_iconst (v := 0) C dX1_scan_7 rfl ?_
  refine i_istore_n C [(3, .int 0), (2, .int 0), (0, .ref (G.2.1 21)), (1, .ref (G.2.1 19))] dX1_scan_8 rfl hl (by decide) rfl (fun ls hl => ?_)
  refine w_jn1 (fun (m2 : MM) => ∀ (H : Heap) (locs : List Loc) (ls : Array Slot), lv_has ls 4 [(0, .ref (G.2.1 21)), (1, .ref (G.2.1 19))] → XW G A (gs Γ) H locs m2 → WX Γ H locs 63 ls []) h (fun m2 h H locs ls hl hX => ?_) (fun k1 J1 h => ?_)
  · refine i_aload_n C dX1_scan_63 rfl (lv_at hl 0 rfl) ?_
    refine x_get C hX (fg_21_0 G) tw1_121 dX1_scan_64 ?_
    refine i_aload_n C dX1_scan_67 rfl (lv_at hl 0 rfl) ?_
    refine x_get C hX (fg_21_3 G) tw1_124 dX1_scan_68 ?_
    refine i_bipush (v := 20) C dX1_scan_71 rfl ?_
    refine x_iast C hX (ai_22 G) h dX1_scan_73 (fun H locs m3 h hX => ?_)
    refine i_aload_n C dX1_scan_74 rfl (lv_at hl 0 rfl) ?_
    refine x_get C hX (fg_21_1 G) tw1_122 dX1_scan_75 ?_
    refine i_aload_n C dX1_scan_78 rfl (lv_at hl 0 rfl) ?_
    refine x_get C hX (fg_21_3 G) tw1_124 dX1_scan_79 ?_
    refine i_aload_n C dX1_scan_82 rfl (lv_at hl 1 rfl) ?_
    refine x_get C hX (fg_19_1 G) tw1_108 dX1_scan_83 ?_
    refine x_iast C hX (ai_23 G) h dX1_scan_86 (fun H locs m4 h hX => ?_)
    exact x_vretV C hX hr hQ h dX1_scan_87
  have L1 : ∀ (fu : Nat) (x1 : Int32) (x2 : Int32) (m5 : MM) (H : Heap) (locs : List Loc) (ls : Array Slot), L_X1_scan_9 k1 fu x1 x2 m5 = some r → lv_has ls 4 [(0, .ref (G.2.1 21)), (1, .ref (G.2.1 19)), (2, .int x1), (3, .int x2)] → XW G A (gs Γ) H locs m5 → WX Γ H locs 9 ls [] := by
    intro fu
    induction fu with
    | zero =>
      intro x1 x2 m5 H locs ls h
      rw [L_X1_scan_9] at h
      cases h
    | succ fu ih =>
      intro x1 x2 m5 H locs ls h hl hX
      rw [L_X1_scan_9] at h
      refine i_iload_n C dX1_scan_9 rfl (lv_at hl 3 rfl) ?_
      refine i_bipush (v := 120) C dX1_scan_10 rfl ?_
      refine i_icmp_ge (tgt := 63) C h dX1_scan_12 (by decide) (fun _ h => ?_) (fun _ h => ?_)
      · exact J1 _ h _ _ _ (lv_sub hl [0, 1] rfl) hX
      refine i_iload_n C dX1_scan_15 rfl (lv_at hl 2 rfl) ?_
      refine i_aload_n C dX1_scan_16 rfl (lv_at hl 1 rfl) ?_
      refine x_get C hX (fg_19_1 G) tw1_108 dX1_scan_17 ?_
      refine i_icmp_ge (tgt := 63) C h dX1_scan_20 (by decide) (fun _ h => ?_) (fun _ h => ?_)
      · exact J1 _ h _ _ _ (lv_sub hl [0, 1] rfl) hX
      refine i_aload_n C dX1_scan_23 rfl (lv_at hl 1 rfl) ?_
      refine x_get C hX (fg_19_0 G) tw1_106 dX1_scan_24 ?_
      refine i_iload_n C dX1_scan_27 rfl (lv_at hl 2 rfl) ?_
      refine x_iald C hX (ai_20 G) h dX1_scan_28 (fun x3 h => ?_)
      refine i_bipush (v := 32) C dX1_scan_29 rfl ?_
      refine w_jn2 (fun (x4 : Int32) (m6 : MM) => ∀ (H : Heap) (locs : List Loc) (ls : Array Slot), lv_has ls 4 [(0, .ref (G.2.1 21)), (1, .ref (G.2.1 19)), (2, .int x4), (3, .int x2)] → XW G A (gs Γ) H locs m6 → WX Γ H locs 57 ls []) h (fun x4 m6 h H locs ls hl hX => ?_) (fun k2 J2 h => ?_)
      · refine i_iinc C (j := 3) (fun x5 => [(3, .int x5), (0, .ref (G.2.1 21)), (1, .ref (G.2.1 19)), (2, .int x4)]) h dX1_scan_57 hl rfl rfl (by decide) (fun _ => rfl) (fun x5 ls h hl => ?_)
        refine i_goto (tgt := 9) C dX1_scan_60 (by decide) ?_
        exact ih _ _ _ _ _ _ h (lv_sub hl [1, 2, 3, 0] rfl) hX
      refine i_icmp_ne (tgt := 40) C h dX1_scan_31 (by decide) (fun _ h => ?_) (fun _ h => ?_)
      · refine i_aload_n C dX1_scan_40 rfl (lv_at hl 0 rfl) ?_
        refine i_aload_n C dX1_scan_41 rfl (lv_at hl 1 rfl) ?_
        refine i_iload_n C dX1_scan_42 rfl (lv_at hl 2 rfl) ?_
        obtain ⟨x6, m7, e1, h⟩ := w_bdw h
        refine x_callVi C hX (fg_21_0 G) (c_X1_takeToken (gl Γ) G  e1) [] rfl hl tw3_84 tw3_85 tw3_86 tw1_5 tw3_87 rfl nd_X1_takeToken ⟨(Nat.le_of_ble_eq_true rfl), (Nat.le_of_ble_eq_true rfl)⟩ (Nat.le_of_ble_eq_true rfl) dX1_scan_43 (fun H locs hX => ?_)
        refine i_istore_n C [(2, .int x6), (0, .ref (G.2.1 21)), (1, .ref (G.2.1 19)), (3, .int x2)] dX1_scan_46 rfl hl (by decide) rfl (fun ls hl => ?_)
        refine i_aload_n C dX1_scan_47 rfl (lv_at hl 1 rfl) ?_
        refine i_dup C dX1_scan_48 rfl ?_
        refine x_get C hX (fg_21_3 G) tw1_124 dX1_scan_49 ?_
        refine i_iconst (v := 1) C dX1_scan_52 rfl ?_
        refine i_iadd C dX1_scan_53 ?_
        refine x_putI C hX (fp_21_3 G) h tw1_124 dX1_scan_54 (fun H locs m8 h hX => ?_)
        exact J2 _ _ h _ _ _ (lv_sub hl [1, 2, 0, 3] rfl) hX
      refine i_iinc C (j := 2) (fun x7 => [(2, .int x7), (0, .ref (G.2.1 21)), (1, .ref (G.2.1 19)), (3, .int x2)]) h dX1_scan_34 hl rfl rfl (by decide) (fun _ => rfl) (fun x7 ls h hl => ?_)
      refine i_goto (tgt := 57) C dX1_scan_37 (by decide) ?_
      exact J2 _ _ h _ _ _ (lv_sub hl [1, 2, 0, 3] rfl) hX
  exact L1 FU _ _ _ _ _ _ h (lv_sub hl [2, 3, 1, 0] rfl) hX
def f_X1_advance (μ : MM) : Option MM := if (μ 21 3) ≤ (μ 21 4) then (some μ) else (lt_ (wst μ 21 4 ((μ 21 4) + 1)) fun m1 => some m1)
theorem nd_X1_advance : yX1_advance.cls ≠ "java/lang/invoke/MethodHandle" ∧ yX1_advance.cls ≠ "java/lang/invoke/VarHandle" ∧ (parseMethodDescriptor yX1_advance.desc).map (fun d => d.parameters.length) = some 0 := by decide +kernel
set_option maxHeartbeats 4000000 in
set_option maxRecDepth 100000 in
theorem c_X1_advance (l : Launch) (G : EN)  {μ : MM} {r : MM} (h : f_X1_advance μ = some r) : XM l G yX1_advance cX1_advance 1 none 0 0 [.ref (G.2.1 21)] μ none r := by
  refine x_met (own := RX1) (by decide +kernel) rfl (Nat.le_of_ble_eq_true rfl) (fun Γ A H ls hg C hr hX hQ hl => ?_)
  have hl : lv_has ls 1 [(0, .ref (G.2.1 21))] := hl
  unfold f_X1_advance at h
  refine i_aload_n C dX1_advance_0 rfl (lv_at hl 0 rfl) ?_
  refine x_get C hX (fg_21_4 G) tw1_125 dX1_advance_1 ?_
  refine i_aload_n C dX1_advance_4 rfl (lv_at hl 0 rfl) ?_
  refine x_get C hX (fg_21_3 G) tw1_124 dX1_advance_5 ?_
  refine i_icmp_ge (tgt := 21) C h dX1_advance_8 (by decide) (fun _ h => ?_) (fun _ h => ?_)
  · exact x_vretV C hX hr hQ h dX1_advance_21
  refine i_aload_n C dX1_advance_11 rfl (lv_at hl 0 rfl) ?_
  refine i_dup C dX1_advance_12 rfl ?_
  refine x_get C hX (fg_21_4 G) tw1_125 dX1_advance_13 ?_
  refine i_iconst (v := 1) C dX1_advance_16 rfl ?_
  refine i_iadd C dX1_advance_17 ?_
  refine x_putI C hX (fp_21_4 G) h tw1_125 dX1_advance_18 (fun H locs m1 h hX => ?_)
  exact x_vretV C hX hr hQ h dX1_advance_21
def f_X1_takeNumber (p1 : Int32) (μ : MM) : Option (Int32 × MM) := ldi μ 22 121 (μ 21 4) fun x1 => if x1 = 17 then (ldi μ 24 121 (μ 21 4) fun x2 => if x2 ≤ p1 then (ldi μ 24 121 (μ 21 4) fun x3 => bdr (f_X1_advance μ) fun m2 => some (x3, m2)) else (gd (1 = 0 ∨ 1 = 1) (lt_ (wst μ 21 6 1) fun m3 => some ((-1), m3)))) else (gd (1 = 0 ∨ 1 = 1) (lt_ (wst μ 21 6 1) fun m1 => some ((-1), m1)))
theorem nd_X1_takeNumber : yX1_takeNumber.cls ≠ "java/lang/invoke/MethodHandle" ∧ yX1_takeNumber.cls ≠ "java/lang/invoke/VarHandle" ∧ (parseMethodDescriptor yX1_takeNumber.desc).map (fun d => d.parameters.length) = some 1 := by decide +kernel
set_option maxHeartbeats 4000000 in
set_option maxRecDepth 100000 in
theorem c_X1_takeNumber (l : Launch) (G : EN)  {p1 : Int32} {μ : MM} {r : Int32} {m : MM} (h : f_X1_takeNumber p1 μ = some (r, m)) : XM l G yX1_takeNumber cX1_takeNumber 3 (some .int) 1 20 [.ref (G.2.1 21), .int p1] μ (some (.int r)) m := by
  refine x_met (own := RX1) (by decide +kernel) rfl (Nat.le_of_ble_eq_true rfl) (fun Γ A H ls hg C hr hX hQ hl => ?_)
  have hl : lv_has ls 3 [(0, .ref (G.2.1 21)), (1, .int p1)] := hl
  unfold f_X1_takeNumber at h
  refine i_aload_n C dX1_takeNumber_0 rfl (lv_at hl 0 rfl) ?_
  refine x_get C hX (fg_21_0 G) tw1_121 dX1_takeNumber_1 ?_
  refine i_aload_n C dX1_takeNumber_4 rfl (lv_at hl 0 rfl) ?_
  refine x_get C hX (fg_21_4 G) tw1_125 dX1_takeNumber_5 ?_
  refine x_iald C hX (ai_22 G) h dX1_takeNumber_8 (fun x1 h => ?_)
  refine i_bipush (v := 17) C dX1_takeNumber_9 rfl ?_
  refine i_icmp_ne (tgt := 27) C h dX1_takeNumber_11 (by decide) (fun _ h => ?_) (fun _ h => ?_)
  · refine i_aload_n C dX1_takeNumber_27 rfl (lv_at hl 0 rfl) ?_
    refine i_iconst (v := 1) C dX1_takeNumber_28 rfl ?_
    refine x_putZ C hX (fp_21_6 G) h tw1_127 dX1_takeNumber_29 (fun H locs m1 h hX => ?_)
    refine i_iconst (v := (-1)) C dX1_takeNumber_32 rfl ?_
    exact x_iretW C hX hr hQ h dX1_takeNumber_33
  refine i_aload_n C dX1_takeNumber_14 rfl (lv_at hl 0 rfl) ?_
  refine x_get C hX (fg_21_2 G) tw1_123 dX1_takeNumber_15 ?_
  refine i_aload_n C dX1_takeNumber_18 rfl (lv_at hl 0 rfl) ?_
  refine x_get C hX (fg_21_4 G) tw1_125 dX1_takeNumber_19 ?_
  refine x_iald C hX (ai_24 G) h dX1_takeNumber_22 (fun x2 h => ?_)
  refine i_iload_n C dX1_takeNumber_23 rfl (lv_at hl 1 rfl) ?_
  refine i_icmp_le (tgt := 34) C h dX1_takeNumber_24 (by decide) (fun _ h => ?_) (fun _ h => ?_)
  · refine i_aload_n C dX1_takeNumber_34 rfl (lv_at hl 0 rfl) ?_
    refine x_get C hX (fg_21_2 G) tw1_123 dX1_takeNumber_35 ?_
    refine i_aload_n C dX1_takeNumber_38 rfl (lv_at hl 0 rfl) ?_
    refine x_get C hX (fg_21_4 G) tw1_125 dX1_takeNumber_39 ?_
    refine x_iald C hX (ai_24 G) h dX1_takeNumber_42 (fun x3 h => ?_)
    refine i_istore_n C [(2, .int x3), (0, .ref (G.2.1 21)), (1, .int p1)] dX1_takeNumber_43 rfl hl (by decide) rfl (fun ls hl => ?_)
    refine i_aload_n C dX1_takeNumber_44 rfl (lv_at hl 1 rfl) ?_
    obtain ⟨m2, e1, h⟩ := w_bdr h
    refine x_callVv C hX (fg_21_0 G) (c_X1_advance (gl Γ) G  e1) [] rfl hl tw3_191 tw3_192 tw3_193 tw1_5 tw3_194 rfl nd_X1_advance ⟨(Nat.le_of_ble_eq_true rfl), (Nat.le_of_ble_eq_true rfl)⟩ (Nat.le_of_ble_eq_true rfl) dX1_takeNumber_45 (fun H locs hX => ?_)
    refine i_iload_n C dX1_takeNumber_48 rfl (lv_at hl 0 rfl) ?_
    exact x_iretW C hX hr hQ h dX1_takeNumber_49
  refine i_aload_n C dX1_takeNumber_27 rfl (lv_at hl 0 rfl) ?_
  refine i_iconst (v := 1) C dX1_takeNumber_28 rfl ?_
  refine x_putZ C hX (fp_21_6 G) h tw1_127 dX1_takeNumber_29 (fun H locs m3 h hX => ?_)
  refine i_iconst (v := (-1)) C dX1_takeNumber_32 rfl ?_
  exact x_iretW C hX hr hQ h dX1_takeNumber_33
def f_X1_readPart (p1 : Int32) (p2 : Int32) (μ : MM) : Option (Int32 × MM) := if (μ 21 6) = 0 then (ldi μ 22 121 (μ 21 4) fun x1 => if x1 = p1 then (bdr (f_X1_advance μ) fun m1 => bdw (f_X1_takeNumber p2 m1) fun x2 m2 => some (x2, m2)) else (some ((-1), μ))) else (some ((-1), μ))
theorem nd_X1_readPart : yX1_readPart.cls ≠ "java/lang/invoke/MethodHandle" ∧ yX1_readPart.cls ≠ "java/lang/invoke/VarHandle" ∧ (parseMethodDescriptor yX1_readPart.desc).map (fun d => d.parameters.length) = some 2 := by decide +kernel
set_option maxHeartbeats 4000000 in
set_option maxRecDepth 100000 in
theorem c_X1_readPart (l : Launch) (G : EN)  {p1 p2 : Int32} {μ : MM} {r : Int32} {m : MM} (h : f_X1_readPart p1 p2 μ = some (r, m)) : XM l G yX1_readPart cX1_readPart 3 (some .int) 2 42 [.ref (G.2.1 21), .int p1, .int p2] μ (some (.int r)) m := by
  refine x_met (own := RX1) (by decide +kernel) rfl (Nat.le_of_ble_eq_true rfl) (fun Γ A H ls hg C hr hX hQ hl => ?_)
  have hl : lv_has ls 3 [(0, .ref (G.2.1 21)), (1, .int p1), (2, .int p2)] := hl
  unfold f_X1_readPart at h
  refine i_aload_n C dX1_readPart_0 rfl (lv_at hl 0 rfl) ?_
  refine x_get C hX (fg_21_6 G) tw1_127 dX1_readPart_1 ?_
  refine i_if_ne (tgt := 20) C h dX1_readPart_4 (by decide) (fun _ h => ?_) (fun _ h => ?_)
  · refine i_iconst (v := (-1)) C dX1_readPart_20 rfl ?_
    exact x_iretW C hX hr hQ h dX1_readPart_21
  refine i_aload_n C dX1_readPart_7 rfl (lv_at hl 0 rfl) ?_
  refine x_get C hX (fg_21_0 G) tw1_121 dX1_readPart_8 ?_
  refine i_aload_n C dX1_readPart_11 rfl (lv_at hl 0 rfl) ?_
  refine x_get C hX (fg_21_4 G) tw1_125 dX1_readPart_12 ?_
  refine x_iald C hX (ai_22 G) h dX1_readPart_15 (fun x1 h => ?_)
  refine i_iload_n C dX1_readPart_16 rfl (lv_at hl 1 rfl) ?_
  refine i_icmp_eq (tgt := 22) C h dX1_readPart_17 (by decide) (fun _ h => ?_) (fun _ h => ?_)
  · refine i_aload_n C dX1_readPart_22 rfl (lv_at hl 0 rfl) ?_
    obtain ⟨m1, e1, h⟩ := w_bdr h
    refine x_callVv C hX (fg_21_0 G) (c_X1_advance (gl Γ) G  e1) [] rfl hl tw3_191 tw3_192 tw3_193 tw1_5 tw3_194 rfl nd_X1_advance ⟨(Nat.le_of_ble_eq_true rfl), (Nat.le_of_ble_eq_true rfl)⟩ (Nat.le_of_ble_eq_true rfl) dX1_readPart_23 (fun H locs hX => ?_)
    refine i_aload_n C dX1_readPart_26 rfl (lv_at hl 0 rfl) ?_
    refine i_iload_n C dX1_readPart_27 rfl (lv_at hl 2 rfl) ?_
    obtain ⟨x2, m2, e2, h⟩ := w_bdw h
    refine x_callVi C hX (fg_21_0 G) (c_X1_takeNumber (gl Γ) G  e2) [] rfl hl tw3_199 tw3_200 tw3_201 tw1_5 tw3_202 rfl nd_X1_takeNumber ⟨(Nat.le_of_ble_eq_true rfl), (Nat.le_of_ble_eq_true rfl)⟩ (Nat.le_of_ble_eq_true rfl) dX1_readPart_28 (fun H locs hX => ?_)
    exact x_iretW C hX hr hQ h dX1_readPart_31
  refine i_iconst (v := (-1)) C dX1_readPart_20 rfl ?_
  exact x_iretW C hX hr hQ h dX1_readPart_21
def f_X1_readHabit (μ : MM) : Option (Int32 × MM) := if (μ 21 6) = 0 then (ldi μ 22 121 (μ 21 4) fun x1 => if x1 = 13 then (bdr (f_X1_advance μ) fun m1 => ldi m1 22 121 (m1 21 4) fun x2 => jn1 (fun (x3 : Int32) => jn1 (fun (m2 : MM) => bdw (f_X1_takeNumber 15 m2) fun x4 m3 => if x3 = 0 then (some (x4, m3)) else (some ((-x4), m3))) fun k1 => if x3 = 0 then (k1 m1) else (bdr (f_X1_advance m1) fun m4 => k1 m4)) fun k2 => if x2 = 19 then (k2 1) else (k2 0)) else (some (0, μ))) else (some (0, μ))
theorem nd_X1_readHabit : yX1_readHabit.cls ≠ "java/lang/invoke/MethodHandle" ∧ yX1_readHabit.cls ≠ "java/lang/invoke/VarHandle" ∧ (parseMethodDescriptor yX1_readHabit.desc).map (fun d => d.parameters.length) = some 0 := by decide +kernel
set_option maxHeartbeats 4000000 in
set_option maxRecDepth 100000 in
theorem c_X1_readHabit (l : Launch) (G : EN)  {μ : MM} {r : Int32} {m : MM} (h : f_X1_readHabit μ = some (r, m)) : XM l G yX1_readHabit cX1_readHabit 3 (some .int) 2 42 [.ref (G.2.1 21)] μ (some (.int r)) m := by
  refine x_met (own := RX1) (by decide +kernel) rfl (Nat.le_of_ble_eq_true rfl) (fun Γ A H ls hg C hr hX hQ hl => ?_)
  have hl : lv_has ls 3 [(0, .ref (G.2.1 21))] := hl
  unfold f_X1_readHabit at h
  refine i_aload_n C dX1_readHabit_0 rfl (lv_at hl 0 rfl) ?_
  refine x_get C hX (fg_21_6 G) tw1_127 dX1_readHabit_1 ?_
  refine i_if_ne (tgt := 21) C h dX1_readHabit_4 (by decide) (fun _ h => ?_) (fun _ h => ?_)
  · refine i_iconst (v := 0) C dX1_readHabit_21 rfl ?_
    exact x_iretW C hX hr hQ h dX1_readHabit_22
  refine i_aload_n C dX1_readHabit_7 rfl (lv_at hl 0 rfl) ?_
  refine x_get C hX (fg_21_0 G) tw1_121 dX1_readHabit_8 ?_
  refine i_aload_n C dX1_readHabit_11 rfl (lv_at hl 0 rfl) ?_
  refine x_get C hX (fg_21_4 G) tw1_125 dX1_readHabit_12 ?_
  refine x_iald C hX (ai_22 G) h dX1_readHabit_15 (fun x1 h => ?_)
  refine i_bipush (v := 13) C dX1_readHabit_16 rfl ?_
  refine i_icmp_eq (tgt := 23) C h dX1_readHabit_18 (by decide) (fun _ h => ?_) (fun _ h => ?_)
  · refine i_aload_n C dX1_readHabit_23 rfl (lv_at hl 0 rfl) ?_
    obtain ⟨m1, e1, h⟩ := w_bdr h
    refine x_callVv C hX (fg_21_0 G) (c_X1_advance (gl Γ) G  e1) [] rfl hl tw3_191 tw3_192 tw3_193 tw1_5 tw3_194 rfl nd_X1_advance ⟨(Nat.le_of_ble_eq_true rfl), (Nat.le_of_ble_eq_true rfl)⟩ (Nat.le_of_ble_eq_true rfl) dX1_readHabit_24 (fun H locs hX => ?_)
    refine i_aload_n C dX1_readHabit_27 rfl (lv_at hl 0 rfl) ?_
    refine x_get C hX (fg_21_0 G) tw1_121 dX1_readHabit_28 ?_
    refine i_aload_n C dX1_readHabit_31 rfl (lv_at hl 0 rfl) ?_
    refine x_get C hX (fg_21_4 G) tw1_125 dX1_readHabit_32 ?_
    refine x_iald C hX (ai_22 G) h dX1_readHabit_35 (fun x2 h => ?_)
    refine i_bipush (v := 19) C dX1_readHabit_36 rfl ?_
    refine w_jn1 (fun (x3 : Int32) => ∀ (H : Heap) (locs : List Loc) (ls : Array Slot), lv_has ls 3 [(0, .ref (G.2.1 21))] → XW G A (gs Γ) H locs m1 → WX Γ H locs 46 ls [.int x3]) h (fun x3 h H locs ls hl hX => ?_) (fun k2 J2 h => ?_)
    · refine i_istore_n C [(1, .int x3), (0, .ref (G.2.1 21))] dX1_readHabit_46 rfl hl (by decide) rfl (fun ls hl => ?_)
      refine i_iload_n C dX1_readHabit_47 rfl (lv_at hl 0 rfl) ?_
      refine w_jn1 (fun (m2 : MM) => ∀ (H : Heap) (locs : List Loc) (ls : Array Slot), lv_has ls 3 [(0, .ref (G.2.1 21)), (1, .int x3)] → XW G A (gs Γ) H locs m2 → WX Γ H locs 55 ls []) h (fun m2 h H locs ls hl hX => ?_) (fun k1 J1 h => ?_)
      · refine i_aload_n C dX1_readHabit_55 rfl (lv_at hl 0 rfl) ?_
        refine i_bipush (v := 15) C dX1_readHabit_56 rfl ?_
        obtain ⟨x4, m3, e2, h⟩ := w_bdw h
        refine x_callVi C hX (fg_21_0 G) (c_X1_takeNumber (gl Γ) G  e2) [] rfl hl tw3_199 tw3_200 tw3_201 tw1_5 tw3_202 rfl nd_X1_takeNumber ⟨(Nat.le_of_ble_eq_true rfl), (Nat.le_of_ble_eq_true rfl)⟩ (Nat.le_of_ble_eq_true rfl) dX1_readHabit_58 (fun H locs hX => ?_)
        refine i_istore_n C [(2, .int x4), (0, .ref (G.2.1 21)), (1, .int x3)] dX1_readHabit_61 rfl hl (by decide) rfl (fun ls hl => ?_)
        refine i_iload_n C dX1_readHabit_62 rfl (lv_at hl 2 rfl) ?_
        refine i_if_eq (tgt := 71) C h dX1_readHabit_63 (by decide) (fun _ h => ?_) (fun _ h => ?_)
        · refine i_iload_n C dX1_readHabit_71 rfl (lv_at hl 0 rfl) ?_
          exact x_iretW C hX hr hQ h dX1_readHabit_72
        refine i_iload_n C dX1_readHabit_66 rfl (lv_at hl 0 rfl) ?_
        refine i_ineg C dX1_readHabit_67 ?_
        refine i_goto (tgt := 72) C dX1_readHabit_68 (by decide) ?_
        exact x_iretW C hX hr hQ h dX1_readHabit_72
      refine i_if_eq (tgt := 55) C h dX1_readHabit_48 (by decide) (fun _ h => ?_) (fun _ h => ?_)
      · exact J1 _ h _ _ _ (lv_sub hl [1, 0] rfl) hX
      refine i_aload_n C dX1_readHabit_51 rfl (lv_at hl 1 rfl) ?_
      obtain ⟨m4, e3, h⟩ := w_bdr h
      refine x_callVv C hX (fg_21_0 G) (c_X1_advance (gl Γ) G  e3) [] rfl hl tw3_191 tw3_192 tw3_193 tw1_5 tw3_194 rfl nd_X1_advance ⟨(Nat.le_of_ble_eq_true rfl), (Nat.le_of_ble_eq_true rfl)⟩ (Nat.le_of_ble_eq_true rfl) dX1_readHabit_52 (fun H locs hX => ?_)
      exact J1 _ h _ _ _ (lv_sub hl [1, 0] rfl) hX
    refine i_icmp_ne (tgt := 45) C h dX1_readHabit_38 (by decide) (fun _ h => ?_) (fun _ h => ?_)
    · refine i_iconst (v := 0) C dX1_readHabit_45 rfl ?_
      exact J2 _ h _ _ _ (lv_sub hl [0] rfl) hX
    refine i_iconst (v := 1) C dX1_readHabit_41 rfl ?_
    refine i_goto (tgt := 46) C dX1_readHabit_42 (by decide) ?_
    exact J2 _ h _ _ _ (lv_sub hl [0] rfl) hX
  refine i_iconst (v := 0) C dX1_readHabit_21 rfl ?_
  exact x_iretW C hX hr hQ h dX1_readHabit_22
def f_X1_readCat (p2 : Int32) (μ : MM) : Option MM := if (μ 21 7) < 8 then (bdr (f_X1_advance μ) fun m1 => bdw (f_X1_readPart 12 99 m1) fun x1 m2 => bdw (f_X1_readHabit m2) fun x2 m3 => lt_ (wst m3 21 7 ((m3 21 7) + 1)) fun m4 => if (m4 21 5) = 0 then (some m4) else (if (m4 21 6) = 0 then (if x1 = (-1) then (bdw (f_X0_addCat p2 0 x2 m4) fun x4 m6 => some m6) else (bdw (f_X0_addCat p2 x1 x2 m4) fun x3 m5 => some m5)) else (some m4))) else (gd (1 = 0 ∨ 1 = 1) (lt_ (wst μ 21 6 1) fun m7 => some m7))
theorem nd_X1_readCat : yX1_readCat.cls ≠ "java/lang/invoke/MethodHandle" ∧ yX1_readCat.cls ≠ "java/lang/invoke/VarHandle" ∧ (parseMethodDescriptor yX1_readCat.desc).map (fun d => d.parameters.length) = some 2 := by decide +kernel
set_option maxHeartbeats 4000000 in
set_option maxRecDepth 100000 in
theorem c_X1_readCat (l : Launch) (G : EN)  {p2 : Int32} {μ : MM} {r : MM} (h : f_X1_readCat p2 μ = some r) : XM l G yX1_readCat cX1_readCat 5 none 3 64 [.ref (G.2.1 21), .ref (G.2.1 1), .int p2] μ none r := by
  refine x_met (own := RX1) (by decide +kernel) rfl (Nat.le_of_ble_eq_true rfl) (fun Γ A H ls hg C hr hX hQ hl => ?_)
  have hl : lv_has ls 5 [(0, .ref (G.2.1 21)), (1, .ref (G.2.1 1)), (2, .int p2)] := hl
  unfold f_X1_readCat at h
  refine i_aload_n C dX1_readCat_0 rfl (lv_at hl 0 rfl) ?_
  refine x_get C hX (fg_21_7 G) tw1_128 dX1_readCat_1 ?_
  refine i_bipush (v := 8) C dX1_readCat_4 rfl ?_
  refine i_icmp_lt (tgt := 15) C h dX1_readCat_6 (by decide) (fun _ h => ?_) (fun _ h => ?_)
  · refine i_aload_n C dX1_readCat_15 rfl (lv_at hl 0 rfl) ?_
    obtain ⟨m1, e1, h⟩ := w_bdr h
    refine x_callVv C hX (fg_21_0 G) (c_X1_advance (gl Γ) G  e1) [] rfl hl tw3_191 tw3_192 tw3_193 tw1_5 tw3_194 rfl nd_X1_advance ⟨(Nat.le_of_ble_eq_true rfl), (Nat.le_of_ble_eq_true rfl)⟩ (Nat.le_of_ble_eq_true rfl) dX1_readCat_16 (fun H locs hX => ?_)
    refine i_aload_n C dX1_readCat_19 rfl (lv_at hl 0 rfl) ?_
    refine i_bipush (v := 12) C dX1_readCat_20 rfl ?_
    refine i_bipush (v := 99) C dX1_readCat_22 rfl ?_
    obtain ⟨x1, m2, e2, h⟩ := w_bdw h
    refine x_callVi C hX (fg_21_0 G) (c_X1_readPart (gl Γ) G  e2) [] rfl hl tw3_195 tw3_196 tw3_197 tw1_5 tw3_198 rfl nd_X1_readPart ⟨(Nat.le_of_ble_eq_true rfl), (Nat.le_of_ble_eq_true rfl)⟩ (Nat.le_of_ble_eq_true rfl) dX1_readCat_24 (fun H locs hX => ?_)
    refine i_istore_n C [(3, .int x1), (0, .ref (G.2.1 21)), (1, .ref (G.2.1 1)), (2, .int p2)] dX1_readCat_27 rfl hl (by decide) rfl (fun ls hl => ?_)
    refine i_aload_n C dX1_readCat_28 rfl (lv_at hl 1 rfl) ?_
    obtain ⟨x2, m3, e3, h⟩ := w_bdw h
    refine x_callVi C hX (fg_21_0 G) (c_X1_readHabit (gl Γ) G  e3) [] rfl hl tw3_203 tw3_204 tw3_205 tw1_5 tw3_206 rfl nd_X1_readHabit ⟨(Nat.le_of_ble_eq_true rfl), (Nat.le_of_ble_eq_true rfl)⟩ (Nat.le_of_ble_eq_true rfl) dX1_readCat_29 (fun H locs hX => ?_)
    refine i_istore C [(4, .int x2), (3, .int x1), (0, .ref (G.2.1 21)), (1, .ref (G.2.1 1)), (2, .int p2)] dX1_readCat_32 hl (by decide) rfl (fun ls hl => ?_)
    refine i_aload_n C dX1_readCat_34 rfl (lv_at hl 2 rfl) ?_
    refine i_dup C dX1_readCat_35 rfl ?_
    refine x_get C hX (fg_21_7 G) tw1_128 dX1_readCat_36 ?_
    refine i_iconst (v := 1) C dX1_readCat_39 rfl ?_
    refine i_iadd C dX1_readCat_40 ?_
    refine x_putI C hX (fp_21_7 G) h tw1_128 dX1_readCat_41 (fun H locs m4 h hX => ?_)
    refine i_aload_n C dX1_readCat_44 rfl (lv_at hl 2 rfl) ?_
    refine x_get C hX (fg_21_5 G) tw1_126 dX1_readCat_45 ?_
    refine i_if_eq (tgt := 76) C h dX1_readCat_48 (by decide) (fun _ h => ?_) (fun _ h => ?_)
    · exact x_vretV C hX hr hQ h dX1_readCat_76
    refine i_aload_n C dX1_readCat_51 rfl (lv_at hl 2 rfl) ?_
    refine x_get C hX (fg_21_6 G) tw1_127 dX1_readCat_52 ?_
    refine i_if_ne (tgt := 76) C h dX1_readCat_55 (by decide) (fun _ h => ?_) (fun _ h => ?_)
    · exact x_vretV C hX hr hQ h dX1_readCat_76
    refine i_aload_n C dX1_readCat_58 rfl (lv_at hl 3 rfl) ?_
    refine i_iload_n C dX1_readCat_59 rfl (lv_at hl 4 rfl) ?_
    refine i_iload_n C dX1_readCat_60 rfl (lv_at hl 1 rfl) ?_
    refine i_iconst (v := (-1)) C dX1_readCat_61 rfl ?_
    refine i_icmp_ne (tgt := 69) C h dX1_readCat_62 (by decide) (fun _ h => ?_) (fun _ h => ?_)
    · refine i_iload_n C dX1_readCat_69 rfl (lv_at hl 1 rfl) ?_
      refine i_iload C dX1_readCat_70 (lv_at hl 0 rfl) ?_
      obtain ⟨x3, m5, e4, h⟩ := w_bdw h
      refine x_callVi C hX (fg_1_0 G) (c_X0_addCat (gl Γ) G  e4) [] rfl hl tw3_207 tw1_211 tw1_212 tw1_2 tw1_213 rfl nd_X0_addCat ⟨(Nat.le_of_ble_eq_true rfl), (Nat.le_of_ble_eq_true rfl)⟩ (Nat.le_of_ble_eq_true rfl) dX1_readCat_72 (fun H locs hX => ?_)
      refine i_pop C dX1_readCat_75 rfl ?_
      exact x_vretV C hX hr hQ h dX1_readCat_76
    refine i_iconst (v := 0) C dX1_readCat_65 rfl ?_
    refine i_goto (tgt := 70) C dX1_readCat_66 (by decide) ?_
    refine i_iload C dX1_readCat_70 (lv_at hl 0 rfl) ?_
    obtain ⟨x4, m6, e5, h⟩ := w_bdw h
    refine x_callVi C hX (fg_1_0 G) (c_X0_addCat (gl Γ) G  e5) [] rfl hl tw3_207 tw1_211 tw1_212 tw1_2 tw1_213 rfl nd_X0_addCat ⟨(Nat.le_of_ble_eq_true rfl), (Nat.le_of_ble_eq_true rfl)⟩ (Nat.le_of_ble_eq_true rfl) dX1_readCat_72 (fun H locs hX => ?_)
    refine i_pop C dX1_readCat_75 rfl ?_
    exact x_vretV C hX hr hQ h dX1_readCat_76
  refine i_aload_n C dX1_readCat_9 rfl (lv_at hl 0 rfl) ?_
  refine i_iconst (v := 1) C dX1_readCat_10 rfl ?_
  refine x_putZ C hX (fp_21_6 G) h tw1_127 dX1_readCat_11 (fun H locs m7 h hX => ?_)
  exact x_vretV C hX hr hQ h dX1_readCat_14
def f_X1_readIsland (μ : MM) : Option MM := bdw (f_X1_readPart 7 99 μ) fun x1 m1 => if (m1 21 5) = 0 then (some m1) else (bdr (f_X4_isCell x1) fun x2 => if x2 = 0 then (some m1) else (stz m1 8 100 x1 1 fun m2 => some m2))
theorem nd_X1_readIsland : yX1_readIsland.cls ≠ "java/lang/invoke/MethodHandle" ∧ yX1_readIsland.cls ≠ "java/lang/invoke/VarHandle" ∧ (parseMethodDescriptor yX1_readIsland.desc).map (fun d => d.parameters.length) = some 1 := by decide +kernel
set_option maxHeartbeats 4000000 in
set_option maxRecDepth 100000 in
theorem c_X1_readIsland (l : Launch) (G : EN)  {μ : MM} {r : MM} (h : f_X1_readIsland μ = some r) : XM l G yX1_readIsland cX1_readIsland 3 none 3 64 [.ref (G.2.1 21), .ref (G.2.1 1)] μ none r := by
  refine x_met (own := RX1) (by decide +kernel) rfl (Nat.le_of_ble_eq_true rfl) (fun Γ A H ls hg C hr hX hQ hl => ?_)
  have hl : lv_has ls 3 [(0, .ref (G.2.1 21)), (1, .ref (G.2.1 1))] := hl
  unfold f_X1_readIsland at h
  refine i_aload_n C dX1_readIsland_0 rfl (lv_at hl 0 rfl) ?_
  refine i_bipush (v := 7) C dX1_readIsland_1 rfl ?_
  refine i_bipush (v := 99) C dX1_readIsland_3 rfl ?_
  obtain ⟨x1, m1, e1, h⟩ := w_bdw h
  refine x_callVi C hX (fg_21_0 G) (c_X1_readPart (gl Γ) G  e1) [] rfl hl tw3_195 tw3_196 tw3_197 tw1_5 tw3_198 rfl nd_X1_readPart ⟨(Nat.le_of_ble_eq_true rfl), (Nat.le_of_ble_eq_true rfl)⟩ (Nat.le_of_ble_eq_true rfl) dX1_readIsland_5 (fun H locs hX => ?_)
  refine i_istore_n C [(2, .int x1), (0, .ref (G.2.1 21)), (1, .ref (G.2.1 1))] dX1_readIsland_8 rfl hl (by decide) rfl (fun ls hl => ?_)
  refine i_aload_n C dX1_readIsland_9 rfl (lv_at hl 1 rfl) ?_
  refine x_get C hX (fg_21_5 G) tw1_126 dX1_readIsland_10 ?_
  refine i_if_eq (tgt := 30) C h dX1_readIsland_13 (by decide) (fun _ h => ?_) (fun _ h => ?_)
  · exact x_vretV C hX hr hQ h dX1_readIsland_30
  refine i_iload_n C dX1_readIsland_16 rfl (lv_at hl 0 rfl) ?_
  obtain ⟨x2, e2, h⟩ := w_bdr h
  refine x_callSNi C hX (c_X4_isCell (gl Γ) G  e2) [] rfl hl hX.2.2.2.1.2.1.2.2.2.2.2.1 tw2_49 tw1_1 tw2_50 nd_X4_isCell ⟨(Nat.le_of_ble_eq_true rfl), (Nat.le_of_ble_eq_true rfl)⟩ (Nat.le_of_ble_eq_true rfl) dX1_readIsland_17 (fun H locs hX => ?_)
  refine i_if_eq (tgt := 30) C h dX1_readIsland_20 (by decide) (fun _ h => ?_) (fun _ h => ?_)
  · exact x_vretV C hX hr hQ h dX1_readIsland_30
  refine i_aload_n C dX1_readIsland_23 rfl (lv_at hl 2 rfl) ?_
  refine x_get C hX (fg_1_7 G) tw1_52 dX1_readIsland_24 ?_
  refine i_iload_n C dX1_readIsland_27 rfl (lv_at hl 0 rfl) ?_
  refine i_iconst (v := 1) C dX1_readIsland_28 rfl ?_
  refine x_zast C hX (az_8 G) h dX1_readIsland_29 (fun H locs m2 h hX => ?_)
  exact x_vretV C hX hr hQ h dX1_readIsland_30
def f_X1_readShip (μ : MM) : Option MM := bdw (f_X1_readPart 8 3 μ) fun x1 m1 => bdw (f_X1_readPart 14 99 m1) fun x2 m2 => bdw (f_X1_readPart 15 31 m2) fun x3 m3 => bdw (f_X1_readPart 16 ((sl 1 (m3 21 7)) - 1) m3) fun x4 m4 => if (m4 21 5) = 0 then (some m4) else (if (m4 21 6) = 0 then (bdr (f_X4_isShip x1) fun x5 => if x5 = 0 then (some m4) else (jn1 (fun (x6 : Int32) => sti m4 5 4 x1 x6 fun m5 => jn1 (fun (x7 : Int32) => sti m5 6 4 x1 x7 fun m6 => if x4 = (-1) then (ldi m6 7 4 x1 fun x8 => sti m6 7 4 x1 x8 fun m8 => some m8) else (sti m6 7 4 x1 x4 fun m7 => some m7)) fun k1 => if x3 = (-1) then (ldi m5 6 4 x1 fun x9 => k1 x9) else (k1 x3)) fun k2 => if x2 = (-1) then (ldi m4 5 4 x1 fun x10 => k2 x10) else (k2 x2))) else (some m4))
theorem nd_X1_readShip : yX1_readShip.cls ≠ "java/lang/invoke/MethodHandle" ∧ yX1_readShip.cls ≠ "java/lang/invoke/VarHandle" ∧ (parseMethodDescriptor yX1_readShip.desc).map (fun d => d.parameters.length) = some 1 := by decide +kernel
set_option maxHeartbeats 4000000 in
set_option maxRecDepth 100000 in
theorem c_X1_readShip (l : Launch) (G : EN)  {μ : MM} {r : MM} (h : f_X1_readShip μ = some r) : XM l G yX1_readShip cX1_readShip 6 none 3 64 [.ref (G.2.1 21), .ref (G.2.1 1)] μ none r := by
  refine x_met (own := RX1) (by decide +kernel) rfl (Nat.le_of_ble_eq_true rfl) (fun Γ A H ls hg C hr hX hQ hl => ?_)
  have hl : lv_has ls 6 [(0, .ref (G.2.1 21)), (1, .ref (G.2.1 1))] := hl
  unfold f_X1_readShip at h
  refine i_aload_n C dX1_readShip_0 rfl (lv_at hl 0 rfl) ?_
  refine i_bipush (v := 8) C dX1_readShip_1 rfl ?_
  refine i_iconst (v := 3) C dX1_readShip_3 rfl ?_
  obtain ⟨x1, m1, e1, h⟩ := w_bdw h
  refine x_callVi C hX (fg_21_0 G) (c_X1_readPart (gl Γ) G  e1) [] rfl hl tw3_195 tw3_196 tw3_197 tw1_5 tw3_198 rfl nd_X1_readPart ⟨(Nat.le_of_ble_eq_true rfl), (Nat.le_of_ble_eq_true rfl)⟩ (Nat.le_of_ble_eq_true rfl) dX1_readShip_4 (fun H locs hX => ?_)
  refine i_istore_n C [(2, .int x1), (0, .ref (G.2.1 21)), (1, .ref (G.2.1 1))] dX1_readShip_7 rfl hl (by decide) rfl (fun ls hl => ?_)
  refine i_aload_n C dX1_readShip_8 rfl (lv_at hl 1 rfl) ?_
  refine i_bipush (v := 14) C dX1_readShip_9 rfl ?_
  refine i_bipush (v := 99) C dX1_readShip_11 rfl ?_
  obtain ⟨x2, m2, e2, h⟩ := w_bdw h
  refine x_callVi C hX (fg_21_0 G) (c_X1_readPart (gl Γ) G  e2) [] rfl hl tw3_195 tw3_196 tw3_197 tw1_5 tw3_198 rfl nd_X1_readPart ⟨(Nat.le_of_ble_eq_true rfl), (Nat.le_of_ble_eq_true rfl)⟩ (Nat.le_of_ble_eq_true rfl) dX1_readShip_13 (fun H locs hX => ?_)
  refine i_istore_n C [(3, .int x2), (2, .int x1), (0, .ref (G.2.1 21)), (1, .ref (G.2.1 1))] dX1_readShip_16 rfl hl (by decide) rfl (fun ls hl => ?_)
  refine i_aload_n C dX1_readShip_17 rfl (lv_at hl 2 rfl) ?_
  refine i_bipush (v := 15) C dX1_readShip_18 rfl ?_
  refine i_bipush (v := 31) C dX1_readShip_20 rfl ?_
  obtain ⟨x3, m3, e3, h⟩ := w_bdw h
  refine x_callVi C hX (fg_21_0 G) (c_X1_readPart (gl Γ) G  e3) [] rfl hl tw3_195 tw3_196 tw3_197 tw1_5 tw3_198 rfl nd_X1_readPart ⟨(Nat.le_of_ble_eq_true rfl), (Nat.le_of_ble_eq_true rfl)⟩ (Nat.le_of_ble_eq_true rfl) dX1_readShip_22 (fun H locs hX => ?_)
  refine i_istore C [(4, .int x3), (3, .int x2), (2, .int x1), (0, .ref (G.2.1 21)), (1, .ref (G.2.1 1))] dX1_readShip_25 hl (by decide) rfl (fun ls hl => ?_)
  refine i_aload_n C dX1_readShip_27 rfl (lv_at hl 3 rfl) ?_
  refine i_bipush (v := 16) C dX1_readShip_28 rfl ?_
  refine i_iconst (v := 1) C dX1_readShip_30 rfl ?_
  refine i_aload_n C dX1_readShip_31 rfl (lv_at hl 3 rfl) ?_
  refine x_get C hX (fg_21_7 G) tw1_128 dX1_readShip_32 ?_
  refine i_ishl C dX1_readShip_35 ?_
  refine i_iconst (v := 1) C dX1_readShip_36 rfl ?_
  refine i_isub C dX1_readShip_37 ?_
  obtain ⟨x4, m4, e4, h⟩ := w_bdw h
  refine x_callVi C hX (fg_21_0 G) (c_X1_readPart (gl Γ) G  e4) [] rfl hl tw3_195 tw3_196 tw3_197 tw1_5 tw3_198 rfl nd_X1_readPart ⟨(Nat.le_of_ble_eq_true rfl), (Nat.le_of_ble_eq_true rfl)⟩ (Nat.le_of_ble_eq_true rfl) dX1_readShip_38 (fun H locs hX => ?_)
  refine i_istore C [(5, .int x4), (4, .int x3), (3, .int x2), (2, .int x1), (0, .ref (G.2.1 21)), (1, .ref (G.2.1 1))] dX1_readShip_41 hl (by decide) rfl (fun ls hl => ?_)
  refine i_aload_n C dX1_readShip_43 rfl (lv_at hl 4 rfl) ?_
  refine x_get C hX (fg_21_5 G) tw1_126 dX1_readShip_44 ?_
  refine i_if_eq (tgt := 64) C h dX1_readShip_47 (by decide) (fun _ h => ?_) (fun _ h => ?_)
  · exact x_vretV C hX hr hQ h dX1_readShip_64
  refine i_aload_n C dX1_readShip_50 rfl (lv_at hl 4 rfl) ?_
  refine x_get C hX (fg_21_6 G) tw1_127 dX1_readShip_51 ?_
  refine i_if_ne (tgt := 64) C h dX1_readShip_54 (by decide) (fun _ h => ?_) (fun _ h => ?_)
  · exact x_vretV C hX hr hQ h dX1_readShip_64
  refine i_iload_n C dX1_readShip_57 rfl (lv_at hl 3 rfl) ?_
  obtain ⟨x5, e5, h⟩ := w_bdr h
  refine x_callSNi C hX (c_X4_isShip (gl Γ) G  e5) [] rfl hl hX.2.2.2.1.2.1.2.2.2.2.2.2.1 tw2_5 tw1_1 tw2_6 nd_X4_isShip ⟨(Nat.le_of_ble_eq_true rfl), (Nat.le_of_ble_eq_true rfl)⟩ (Nat.le_of_ble_eq_true rfl) dX1_readShip_58 (fun H locs hX => ?_)
  refine i_if_ne (tgt := 65) C h dX1_readShip_61 (by decide) (fun _ h => ?_) (fun _ h => ?_)
  · refine i_aload_n C dX1_readShip_65 rfl (lv_at hl 5 rfl) ?_
    refine x_get C hX (fg_1_4 G) tw1_43 dX1_readShip_66 ?_
    refine i_iload_n C dX1_readShip_69 rfl (lv_at hl 3 rfl) ?_
    refine i_iload_n C dX1_readShip_70 rfl (lv_at hl 2 rfl) ?_
    refine i_iconst (v := (-1)) C dX1_readShip_71 rfl ?_
    refine w_jn1 (fun (x6 : Int32) => ∀ (H : Heap) (locs : List Loc) (ls : Array Slot), lv_has ls 6 [(1, .ref (G.2.1 1)), (2, .int x1), (4, .int x3), (5, .int x4)] → XW G A (gs Γ) H locs m4 → WX Γ H locs 85 ls [.int x6, .int x1, .ref (G.2.1 5)]) h (fun x6 h H locs ls hl hX => ?_) (fun k2 J2 h => ?_)
    · refine x_iast C hX (ai_5 G) h dX1_readShip_85 (fun H locs m5 h hX => ?_)
      refine i_aload_n C dX1_readShip_86 rfl (lv_at hl 0 rfl) ?_
      refine x_get C hX (fg_1_5 G) tw1_46 dX1_readShip_87 ?_
      refine i_iload_n C dX1_readShip_90 rfl (lv_at hl 1 rfl) ?_
      refine i_iload C dX1_readShip_91 (lv_at hl 2 rfl) ?_
      refine i_iconst (v := (-1)) C dX1_readShip_93 rfl ?_
      refine w_jn1 (fun (x7 : Int32) => ∀ (H : Heap) (locs : List Loc) (ls : Array Slot), lv_has ls 6 [(1, .ref (G.2.1 1)), (2, .int x1), (5, .int x4)] → XW G A (gs Γ) H locs m5 → WX Γ H locs 108 ls [.int x7, .int x1, .ref (G.2.1 6)]) h (fun x7 h H locs ls hl hX => ?_) (fun k1 J1 h => ?_)
      · refine x_iast C hX (ai_6 G) h dX1_readShip_108 (fun H locs m6 h hX => ?_)
        refine i_aload_n C dX1_readShip_109 rfl (lv_at hl 0 rfl) ?_
        refine x_get C hX (fg_1_6 G) tw1_49 dX1_readShip_110 ?_
        refine i_iload_n C dX1_readShip_113 rfl (lv_at hl 1 rfl) ?_
        refine i_iload C dX1_readShip_114 (lv_at hl 2 rfl) ?_
        refine i_iconst (v := (-1)) C dX1_readShip_116 rfl ?_
        refine i_icmp_ne (tgt := 129) C h dX1_readShip_117 (by decide) (fun _ h => ?_) (fun _ h => ?_)
        · refine i_iload C dX1_readShip_129 (lv_at hl 2 rfl) ?_
          refine x_iast C hX (ai_7 G) h dX1_readShip_131 (fun H locs m7 h hX => ?_)
          exact x_vretV C hX hr hQ h dX1_readShip_132
        refine i_aload_n C dX1_readShip_120 rfl (lv_at hl 0 rfl) ?_
        refine x_get C hX (fg_1_6 G) tw1_49 dX1_readShip_121 ?_
        refine i_iload_n C dX1_readShip_124 rfl (lv_at hl 1 rfl) ?_
        refine x_iald C hX (ai_7 G) h dX1_readShip_125 (fun x8 h => ?_)
        refine i_goto (tgt := 131) C dX1_readShip_126 (by decide) ?_
        refine x_iast C hX (ai_7 G) h dX1_readShip_131 (fun H locs m8 h hX => ?_)
        exact x_vretV C hX hr hQ h dX1_readShip_132
      refine i_icmp_ne (tgt := 106) C h dX1_readShip_94 (by decide) (fun _ h => ?_) (fun _ h => ?_)
      · refine i_iload C dX1_readShip_106 (lv_at hl 2 rfl) ?_
        exact J1 _ h _ _ _ (lv_sub hl [0, 1, 3] rfl) hX
      refine i_aload_n C dX1_readShip_97 rfl (lv_at hl 0 rfl) ?_
      refine x_get C hX (fg_1_5 G) tw1_46 dX1_readShip_98 ?_
      refine i_iload_n C dX1_readShip_101 rfl (lv_at hl 1 rfl) ?_
      refine x_iald C hX (ai_6 G) h dX1_readShip_102 (fun x9 h => ?_)
      refine i_goto (tgt := 108) C dX1_readShip_103 (by decide) ?_
      exact J1 _ h _ _ _ (lv_sub hl [0, 1, 3] rfl) hX
    refine i_icmp_ne (tgt := 84) C h dX1_readShip_72 (by decide) (fun _ h => ?_) (fun _ h => ?_)
    · refine i_iload_n C dX1_readShip_84 rfl (lv_at hl 2 rfl) ?_
      exact J2 _ h _ _ _ (lv_sub hl [5, 3, 1, 0] rfl) hX
    refine i_aload_n C dX1_readShip_75 rfl (lv_at hl 5 rfl) ?_
    refine x_get C hX (fg_1_4 G) tw1_43 dX1_readShip_76 ?_
    refine i_iload_n C dX1_readShip_79 rfl (lv_at hl 3 rfl) ?_
    refine x_iald C hX (ai_5 G) h dX1_readShip_80 (fun x10 h => ?_)
    refine i_goto (tgt := 85) C dX1_readShip_81 (by decide) ?_
    exact J2 _ h _ _ _ (lv_sub hl [5, 3, 1, 0] rfl) hX
  exact x_vretV C hX hr hQ h dX1_readShip_64
def f_X1_readSetting (p1 : Int32) (p2 : Int32) (μ : MM) : Option (Int32 × MM) := bdr (f_X1_advance μ) fun m1 => bdw (f_X1_takeNumber p2 m1) fun x1 m2 => if (m2 21 5) = 0 then (some (p1, m2)) else (if (m2 21 6) = 0 then (some (x1, m2)) else (some (p1, m2)))
theorem nd_X1_readSetting : yX1_readSetting.cls ≠ "java/lang/invoke/MethodHandle" ∧ yX1_readSetting.cls ≠ "java/lang/invoke/VarHandle" ∧ (parseMethodDescriptor yX1_readSetting.desc).map (fun d => d.parameters.length) = some 2 := by decide +kernel
set_option maxHeartbeats 4000000 in
set_option maxRecDepth 100000 in
theorem c_X1_readSetting (l : Launch) (G : EN)  {p1 p2 : Int32} {μ : MM} {r : Int32} {m : MM} (h : f_X1_readSetting p1 p2 μ = some (r, m)) : XM l G yX1_readSetting cX1_readSetting 4 (some .int) 2 42 [.ref (G.2.1 21), .int p1, .int p2] μ (some (.int r)) m := by
  refine x_met (own := RX1) (by decide +kernel) rfl (Nat.le_of_ble_eq_true rfl) (fun Γ A H ls hg C hr hX hQ hl => ?_)
  have hl : lv_has ls 4 [(0, .ref (G.2.1 21)), (1, .int p1), (2, .int p2)] := hl
  unfold f_X1_readSetting at h
  refine i_aload_n C dX1_readSetting_0 rfl (lv_at hl 0 rfl) ?_
  obtain ⟨m1, e1, h⟩ := w_bdr h
  refine x_callVv C hX (fg_21_0 G) (c_X1_advance (gl Γ) G  e1) [] rfl hl tw3_191 tw3_192 tw3_193 tw1_5 tw3_194 rfl nd_X1_advance ⟨(Nat.le_of_ble_eq_true rfl), (Nat.le_of_ble_eq_true rfl)⟩ (Nat.le_of_ble_eq_true rfl) dX1_readSetting_1 (fun H locs hX => ?_)
  refine i_aload_n C dX1_readSetting_4 rfl (lv_at hl 0 rfl) ?_
  refine i_iload_n C dX1_readSetting_5 rfl (lv_at hl 2 rfl) ?_
  obtain ⟨x1, m2, e2, h⟩ := w_bdw h
  refine x_callVi C hX (fg_21_0 G) (c_X1_takeNumber (gl Γ) G  e2) [] rfl hl tw3_199 tw3_200 tw3_201 tw1_5 tw3_202 rfl nd_X1_takeNumber ⟨(Nat.le_of_ble_eq_true rfl), (Nat.le_of_ble_eq_true rfl)⟩ (Nat.le_of_ble_eq_true rfl) dX1_readSetting_6 (fun H locs hX => ?_)
  refine i_istore_n C [(3, .int x1), (0, .ref (G.2.1 21)), (1, .int p1), (2, .int p2)] dX1_readSetting_9 rfl hl (by decide) rfl (fun ls hl => ?_)
  refine i_aload_n C dX1_readSetting_10 rfl (lv_at hl 1 rfl) ?_
  refine x_get C hX (fg_21_5 G) tw1_126 dX1_readSetting_11 ?_
  refine i_if_eq (tgt := 28) C h dX1_readSetting_14 (by decide) (fun _ h => ?_) (fun _ h => ?_)
  · refine i_iload_n C dX1_readSetting_28 rfl (lv_at hl 2 rfl) ?_
    exact x_iretW C hX hr hQ h dX1_readSetting_29
  refine i_aload_n C dX1_readSetting_17 rfl (lv_at hl 1 rfl) ?_
  refine x_get C hX (fg_21_6 G) tw1_127 dX1_readSetting_18 ?_
  refine i_if_ne (tgt := 28) C h dX1_readSetting_21 (by decide) (fun _ h => ?_) (fun _ h => ?_)
  · refine i_iload_n C dX1_readSetting_28 rfl (lv_at hl 2 rfl) ?_
    exact x_iretW C hX hr hQ h dX1_readSetting_29
  refine i_iload_n C dX1_readSetting_24 rfl (lv_at hl 0 rfl) ?_
  refine i_goto (tgt := 29) C dX1_readSetting_25 (by decide) ?_
  exact x_iretW C hX hr hQ h dX1_readSetting_29
def f_X1_readItem (μ : MM) : Option MM := ldi μ 22 121 (μ 21 4) fun x1 => bdr (f_X4_isKind x1) fun x2 => if x2 = 0 then (if x1 = 7 then (bdr (f_X1_readIsland μ) fun m1 => some m1) else if x1 = 8 then (bdr (f_X1_readShip μ) fun m2 => some m2) else if x1 = 9 then (bdw (f_X1_readSetting (μ 1 8) 7 μ) fun x3 m3 => lt_ (wst m3 1 8 x3) fun m4 => some m4) else if x1 = 10 then (bdw (f_X1_readSetting (μ 1 9) 65535 μ) fun x4 m5 => lt_ (wst m5 1 9 x4) fun m6 => some m6) else if x1 = 11 then (bdw (f_X1_readSetting (μ 1 10) 9999 μ) fun x5 m7 => lt_ (wst m7 1 10 x5) fun m8 => some m8) else (gd (1 = 0 ∨ 1 = 1) (lt_ (wst μ 21 6 1) fun m9 => some m9))) else (bdr (f_X1_readCat x1 μ) fun m10 => some m10)
theorem nd_X1_readItem : yX1_readItem.cls ≠ "java/lang/invoke/MethodHandle" ∧ yX1_readItem.cls ≠ "java/lang/invoke/VarHandle" ∧ (parseMethodDescriptor yX1_readItem.desc).map (fun d => d.parameters.length) = some 1 := by decide +kernel
set_option maxHeartbeats 4000000 in
set_option maxRecDepth 100000 in
theorem c_X1_readItem (l : Launch) (G : EN)  {μ : MM} {r : MM} (h : f_X1_readItem μ = some r) : XM l G yX1_readItem cX1_readItem 3 none 4 89 [.ref (G.2.1 21), .ref (G.2.1 1)] μ none r := by
  refine x_met (own := RX1) (by decide +kernel) rfl (Nat.le_of_ble_eq_true rfl) (fun Γ A H ls hg C hr hX hQ hl => ?_)
  have hl : lv_has ls 3 [(0, .ref (G.2.1 21)), (1, .ref (G.2.1 1))] := hl
  unfold f_X1_readItem at h
  refine i_aload_n C dX1_readItem_0 rfl (lv_at hl 0 rfl) ?_
  refine x_get C hX (fg_21_0 G) tw1_121 dX1_readItem_1 ?_
  refine i_aload_n C dX1_readItem_4 rfl (lv_at hl 0 rfl) ?_
  refine x_get C hX (fg_21_4 G) tw1_125 dX1_readItem_5 ?_
  refine x_iald C hX (ai_22 G) h dX1_readItem_8 (fun x1 h => ?_)
  refine i_istore_n C [(2, .int x1), (0, .ref (G.2.1 21)), (1, .ref (G.2.1 1))] dX1_readItem_9 rfl hl (by decide) rfl (fun ls hl => ?_)
  refine i_iload_n C dX1_readItem_10 rfl (lv_at hl 0 rfl) ?_
  obtain ⟨x2, e1, h⟩ := w_bdr h
  refine x_callSNi C hX (c_X4_isKind (gl Γ) G  e1) [] rfl hl hX.2.2.2.1.2.1.2.2.2.2.1 tw1_199 tw1_1 tw1_200 nd_X4_isKind ⟨(Nat.le_of_ble_eq_true rfl), (Nat.le_of_ble_eq_true rfl)⟩ (Nat.le_of_ble_eq_true rfl) dX1_readItem_11 (fun H locs hX => ?_)
  refine i_if_eq (tgt := 24) C h dX1_readItem_14 (by decide) (fun _ h => ?_) (fun _ h => ?_)
  · refine i_iload_n C dX1_readItem_24 rfl (lv_at hl 0 rfl) ?_
    refine i_case h (fun e h => ?_) (fun n1 h => ?_)
    · refine i_tabIn (tgt := 60) C e dX1_readItem_25 (by decide) (by decide) rfl (by decide) ?_
      refine i_aload_n C dX1_readItem_60 rfl (lv_at hl 1 rfl) ?_
      refine i_aload_n C dX1_readItem_61 rfl (lv_at hl 2 rfl) ?_
      obtain ⟨m1, e2, h⟩ := w_bdr h
      refine x_callVv C hX (fg_21_0 G) (c_X1_readIsland (gl Γ) G  e2) [] rfl hl tw3_208 tw3_209 tw3_210 tw1_5 tw3_211 rfl nd_X1_readIsland ⟨(Nat.le_of_ble_eq_true rfl), (Nat.le_of_ble_eq_true rfl)⟩ (Nat.le_of_ble_eq_true rfl) dX1_readItem_62 (fun H locs hX => ?_)
      refine i_goto (tgt := 133) C dX1_readItem_65 (by decide) ?_
      exact x_vretV C hX hr hQ h dX1_readItem_133
    refine i_case h (fun e h => ?_) (fun n2 h => ?_)
    · refine i_tabIn (tgt := 68) C e dX1_readItem_25 (by decide) (by decide) rfl (by decide) ?_
      refine i_aload_n C dX1_readItem_68 rfl (lv_at hl 1 rfl) ?_
      refine i_aload_n C dX1_readItem_69 rfl (lv_at hl 2 rfl) ?_
      obtain ⟨m2, e3, h⟩ := w_bdr h
      refine x_callVv C hX (fg_21_0 G) (c_X1_readShip (gl Γ) G  e3) [] rfl hl tw3_213 tw3_214 tw3_215 tw1_5 tw3_216 rfl nd_X1_readShip ⟨(Nat.le_of_ble_eq_true rfl), (Nat.le_of_ble_eq_true rfl)⟩ (Nat.le_of_ble_eq_true rfl) dX1_readItem_70 (fun H locs hX => ?_)
      refine i_goto (tgt := 133) C dX1_readItem_73 (by decide) ?_
      exact x_vretV C hX hr hQ h dX1_readItem_133
    refine i_case h (fun e h => ?_) (fun n3 h => ?_)
    · refine i_tabIn (tgt := 76) C e dX1_readItem_25 (by decide) (by decide) rfl (by decide) ?_
      refine i_aload_n C dX1_readItem_76 rfl (lv_at hl 2 rfl) ?_
      refine i_aload_n C dX1_readItem_77 rfl (lv_at hl 1 rfl) ?_
      refine i_aload_n C dX1_readItem_78 rfl (lv_at hl 2 rfl) ?_
      refine x_get C hX (fg_1_8 G) tw1_55 dX1_readItem_79 ?_
      refine i_bipush (v := 7) C dX1_readItem_82 rfl ?_
      obtain ⟨x3, m3, e4, h⟩ := w_bdw h
      refine x_callVi C hX (fg_21_0 G) (c_X1_readSetting (gl Γ) G  e4) [.ref (G.2.1 1)] rfl hl tw3_218 tw3_219 tw3_220 tw1_5 tw3_221 rfl nd_X1_readSetting ⟨(Nat.le_of_ble_eq_true rfl), (Nat.le_of_ble_eq_true rfl)⟩ (Nat.le_of_ble_eq_true rfl) dX1_readItem_84 (fun H locs hX => ?_)
      refine x_putI C hX (fp_1_8 G) h tw1_55 dX1_readItem_87 (fun H locs m4 h hX => ?_)
      refine i_goto (tgt := 133) C dX1_readItem_90 (by decide) ?_
      exact x_vretV C hX hr hQ h dX1_readItem_133
    refine i_case h (fun e h => ?_) (fun n4 h => ?_)
    · refine i_tabIn (tgt := 93) C e dX1_readItem_25 (by decide) (by decide) rfl (by decide) ?_
      refine i_aload_n C dX1_readItem_93 rfl (lv_at hl 2 rfl) ?_
      refine i_aload_n C dX1_readItem_94 rfl (lv_at hl 1 rfl) ?_
      refine i_aload_n C dX1_readItem_95 rfl (lv_at hl 2 rfl) ?_
      refine x_get C hX (fg_1_9 G) tw1_58 dX1_readItem_96 ?_
      refine i_ldc C tw3_222 dX1_readItem_99 ?_
      obtain ⟨x4, m5, e5, h⟩ := w_bdw h
      refine x_callVi C hX (fg_21_0 G) (c_X1_readSetting (gl Γ) G  e5) [.ref (G.2.1 1)] rfl hl tw3_218 tw3_219 tw3_220 tw1_5 tw3_221 rfl nd_X1_readSetting ⟨(Nat.le_of_ble_eq_true rfl), (Nat.le_of_ble_eq_true rfl)⟩ (Nat.le_of_ble_eq_true rfl) dX1_readItem_101 (fun H locs hX => ?_)
      refine x_putI C hX (fp_1_9 G) h tw1_58 dX1_readItem_104 (fun H locs m6 h hX => ?_)
      refine i_goto (tgt := 133) C dX1_readItem_107 (by decide) ?_
      exact x_vretV C hX hr hQ h dX1_readItem_133
    refine i_case h (fun e h => ?_) (fun n5 h => ?_)
    · refine i_tabIn (tgt := 110) C e dX1_readItem_25 (by decide) (by decide) rfl (by decide) ?_
      refine i_aload_n C dX1_readItem_110 rfl (lv_at hl 2 rfl) ?_
      refine i_aload_n C dX1_readItem_111 rfl (lv_at hl 1 rfl) ?_
      refine i_aload_n C dX1_readItem_112 rfl (lv_at hl 2 rfl) ?_
      refine x_get C hX (fg_1_10 G) tw1_60 dX1_readItem_113 ?_
      refine i_sipush (v := 9999) C dX1_readItem_116 rfl ?_
      obtain ⟨x5, m7, e6, h⟩ := w_bdw h
      refine x_callVi C hX (fg_21_0 G) (c_X1_readSetting (gl Γ) G  e6) [.ref (G.2.1 1)] rfl hl tw3_218 tw3_219 tw3_220 tw1_5 tw3_221 rfl nd_X1_readSetting ⟨(Nat.le_of_ble_eq_true rfl), (Nat.le_of_ble_eq_true rfl)⟩ (Nat.le_of_ble_eq_true rfl) dX1_readItem_119 (fun H locs hX => ?_)
      refine x_putI C hX (fp_1_10 G) h tw1_60 dX1_readItem_122 (fun H locs m8 h hX => ?_)
      refine i_goto (tgt := 133) C dX1_readItem_125 (by decide) ?_
      exact x_vretV C hX hr hQ h dX1_readItem_133
    refine i_tabOut (tgt := 128) C (by have := ne_t (n := 7) (by decide) n1; have := ne_t (n := 8) (by decide) n2; have := ne_t (n := 9) (by decide) n3; have := ne_t (n := 10) (by decide) n4; have := ne_t (n := 11) (by decide) n5; omega) dX1_readItem_25 (by decide) ?_
    refine i_aload_n C dX1_readItem_128 rfl (lv_at hl 1 rfl) ?_
    refine i_iconst (v := 1) C dX1_readItem_129 rfl ?_
    refine x_putZ C hX (fp_21_6 G) h tw1_127 dX1_readItem_130 (fun H locs m9 h hX => ?_)
    exact x_vretV C hX hr hQ h dX1_readItem_133
  refine i_aload_n C dX1_readItem_17 rfl (lv_at hl 1 rfl) ?_
  refine i_aload_n C dX1_readItem_18 rfl (lv_at hl 2 rfl) ?_
  refine i_iload_n C dX1_readItem_19 rfl (lv_at hl 0 rfl) ?_
  obtain ⟨m10, e7, h⟩ := w_bdr h
  refine x_callVv C hX (fg_21_0 G) (c_X1_readCat (gl Γ) G  e7) [] rfl hl tw3_187 tw3_188 tw3_189 tw1_5 tw3_190 rfl nd_X1_readCat ⟨(Nat.le_of_ble_eq_true rfl), (Nat.le_of_ble_eq_true rfl)⟩ (Nat.le_of_ble_eq_true rfl) dX1_readItem_20 (fun H locs hX => ?_)
  exact x_vretV C hX hr hQ h dX1_readItem_23
def L_X1_read_25 (k1 : MM → Option (Int32 × MM)) (k2 : MM → Option (Int32 × MM)) : Nat → Int32 → MM → Option (Int32 × MM)
  | 0, _, _ => none
  | fu + 1, x2, m7 => if 120 < x2 then (k1 m7) else (bdr (f_X1_readItem m7) fun m8 => jn0 (if (m8 21 6) = 0 then (ldi m8 22 121 (m8 21 4) fun x3 => if x3 = 18 then (bdr (f_X1_advance m8) fun m9 => lt_ (x2 + 1) fun x4 => L_X1_read_25 k1 k2 fu x4 m9) else (k2 m8)) else (k1 m8)) fun k3 => if (m8 21 6) = 0 then (ldi m8 22 121 (m8 21 4) fun x5 => if x5 = 20 then (some (x2, m8)) else (k3)) else (k3))
def f_X1_read (p2 : Int32) (μ : MM) : Option (Int32 × MM) := gd (p2 = 0 ∨ p2 = 1) (lt_ (wst μ 21 5 p2) fun m1 => gd (0 = 0 ∨ 0 = 1) (lt_ (wst m1 21 6 0) fun m2 => lt_ (wst m2 21 7 (m2 1 0)) fun m3 => lt_ (wst m3 21 4 0) fun m4 => jn1 (fun (m5 : MM) => ldi m5 23 121 (m5 21 4) fun x1 => some (((-1) - x1), m5)) fun k1 => jn1 (fun (m6 : MM) => k1 m6) fun k2 => L_X1_read_25 k1 k2 FU 1 m4))
theorem nd_X1_read : yX1_read.cls ≠ "java/lang/invoke/MethodHandle" ∧ yX1_read.cls ≠ "java/lang/invoke/VarHandle" ∧ (parseMethodDescriptor yX1_read.desc).map (fun d => d.parameters.length) = some 2 := by decide +kernel
set_option maxHeartbeats 4000000 in
set_option maxRecDepth 100000 in
theorem c_X1_read (l : Launch) (G : EN)  {p2 : Int32} {μ : MM} {r : Int32} {m : MM} (h : f_X1_read p2 μ = some (r, m)) : XM l G yX1_read cX1_read 4 (some .int) 5 111 [.ref (G.2.1 21), .ref (G.2.1 1), .int p2] μ (some (.int r)) m := by
  refine x_met (own := RX1) (by decide +kernel) rfl (Nat.le_of_ble_eq_true rfl) (fun Γ A H ls hg C hr hX hQ hl => ?_)
  have hl : lv_has ls 4 [(0, .ref (G.2.1 21)), (1, .ref (G.2.1 1)), (2, .int p2)] := hl
  unfold f_X1_read at h
  refine i_aload_n C dX1_read_0 rfl (lv_at hl 0 rfl) ?_
  refine i_iload_n C dX1_read_1 rfl (lv_at hl 2 rfl) ?_
  refine x_putZ C hX (fp_21_5 G) h tw1_126 dX1_read_2 (fun H locs m1 h hX => ?_)
  refine i_aload_n C dX1_read_5 rfl (lv_at hl 0 rfl) ?_
  refine i_iconst (v := 0) C dX1_read_6 rfl ?_
  refine x_putZ C hX (fp_21_6 G) h tw1_127 dX1_read_7 (fun H locs m2 h hX => ?_)
  refine i_aload_n C dX1_read_10 rfl (lv_at hl 0 rfl) ?_
  refine i_aload_n C dX1_read_11 rfl (lv_at hl 1 rfl) ?_
  refine x_get C hX (fg_1_0 G) tw1_34 dX1_read_12 ?_
  refine x_putI C hX (fp_21_7 G) h tw1_128 dX1_read_15 (fun H locs m3 h hX => ?_)
  refine i_aload_n C dX1_read_18 rfl (lv_at hl 0 rfl) ?_
  refine i_iconst (v := 0) C dX1_read_19 rfl ?_
  refine x_putI C hX (fp_21_4 G) h tw1_125 dX1_read_20 (fun H locs m4 h hX => ?_)
  refine i_iconst (v := 1) C dX1_read_23 rfl ?_
  refine i_istore_n C [(3, .int 1), (0, .ref (G.2.1 21)), (1, .ref (G.2.1 1)), (2, .int p2)] dX1_read_24 rfl hl (by decide) rfl (fun ls hl => ?_)
  refine w_jn1 (fun (m5 : MM) => ∀ (H : Heap) (locs : List Loc) (ls : Array Slot), lv_has ls 4 [(0, .ref (G.2.1 21))] → XW G A (gs Γ) H locs m5 → WX Γ H locs 93 ls []) h (fun m5 h H locs ls hl hX => ?_) (fun k1 J1 h => ?_)
  · refine i_iconst (v := (-1)) C dX1_read_93 rfl ?_
    refine i_aload_n C dX1_read_94 rfl (lv_at hl 0 rfl) ?_
    refine x_get C hX (fg_21_1 G) tw1_122 dX1_read_95 ?_
    refine i_aload_n C dX1_read_98 rfl (lv_at hl 0 rfl) ?_
    refine x_get C hX (fg_21_4 G) tw1_125 dX1_read_99 ?_
    refine x_iald C hX (ai_23 G) h dX1_read_102 (fun x1 h => ?_)
    refine i_isub C dX1_read_103 ?_
    exact x_iretW C hX hr hQ h dX1_read_104
  refine w_jn1 (fun (m6 : MM) => ∀ (H : Heap) (locs : List Loc) (ls : Array Slot), lv_has ls 4 [(0, .ref (G.2.1 21))] → XW G A (gs Γ) H locs m6 → WX Γ H locs 80 ls []) h (fun m6 h H locs ls hl hX => ?_) (fun k2 J2 h => ?_)
  · refine i_goto (tgt := 93) C dX1_read_80 (by decide) ?_
    exact J1 _ h _ _ _ (lv_sub hl [0] rfl) hX
  have L1 : ∀ (fu : Nat) (x2 : Int32) (m7 : MM) (H : Heap) (locs : List Loc) (ls : Array Slot), L_X1_read_25 k1 k2 fu x2 m7 = some (r, m) → lv_has ls 4 [(0, .ref (G.2.1 21)), (1, .ref (G.2.1 1)), (3, .int x2)] → XW G A (gs Γ) H locs m7 → WX Γ H locs 25 ls [] := by
    intro fu
    induction fu with
    | zero =>
      intro x2 m7 H locs ls h
      rw [L_X1_read_25] at h
      cases h
    | succ fu ih =>
      intro x2 m7 H locs ls h hl hX
      rw [L_X1_read_25] at h
      refine i_iload_n C dX1_read_25 rfl (lv_at hl 2 rfl) ?_
      refine i_bipush (v := 120) C dX1_read_26 rfl ?_
      refine i_icmp_gt (tgt := 93) C h dX1_read_28 (by decide) (fun _ h => ?_) (fun _ h => ?_)
      · exact J1 _ h _ _ _ (lv_sub hl [0] rfl) hX
      refine i_aload_n C dX1_read_31 rfl (lv_at hl 0 rfl) ?_
      refine i_aload_n C dX1_read_32 rfl (lv_at hl 1 rfl) ?_
      obtain ⟨m8, e1, h⟩ := w_bdr h
      refine x_callVv C hX (fg_21_0 G) (c_X1_readItem (gl Γ) G  e1) [] rfl hl tw3_182 tw3_183 tw3_184 tw1_5 tw3_185 rfl nd_X1_readItem ⟨(Nat.le_of_ble_eq_true rfl), (Nat.le_of_ble_eq_true rfl)⟩ (Nat.le_of_ble_eq_true rfl) dX1_read_33 (fun H locs hX => ?_)
      refine i_aload_n C dX1_read_36 rfl (lv_at hl 0 rfl) ?_
      refine x_get C hX (fg_21_6 G) tw1_127 dX1_read_37 ?_
      refine w_jn0 (∀ (H : Heap) (locs : List Loc) (ls : Array Slot), lv_has ls 4 [(0, .ref (G.2.1 21)), (1, .ref (G.2.1 1)), (3, .int x2)] → XW G A (gs Γ) H locs m8 → WX Γ H locs 59 ls []) h (fun  h H locs ls hl hX => ?_) (fun k3 J3 h => ?_)
      · refine i_aload_n C dX1_read_59 rfl (lv_at hl 0 rfl) ?_
        refine x_get C hX (fg_21_6 G) tw1_127 dX1_read_60 ?_
        refine i_if_ne (tgt := 93) C h dX1_read_63 (by decide) (fun _ h => ?_) (fun _ h => ?_)
        · exact J1 _ h _ _ _ (lv_sub hl [0] rfl) hX
        refine i_aload_n C dX1_read_66 rfl (lv_at hl 0 rfl) ?_
        refine x_get C hX (fg_21_0 G) tw1_121 dX1_read_67 ?_
        refine i_aload_n C dX1_read_70 rfl (lv_at hl 0 rfl) ?_
        refine x_get C hX (fg_21_4 G) tw1_125 dX1_read_71 ?_
        refine x_iald C hX (ai_22 G) h dX1_read_74 (fun x3 h => ?_)
        refine i_bipush (v := 18) C dX1_read_75 rfl ?_
        refine i_icmp_eq (tgt := 83) C h dX1_read_77 (by decide) (fun _ h => ?_) (fun _ h => ?_)
        · refine i_aload_n C dX1_read_83 rfl (lv_at hl 0 rfl) ?_
          obtain ⟨m9, e2, h⟩ := w_bdr h
          refine x_callVv C hX (fg_21_0 G) (c_X1_advance (gl Γ) G  e2) [] rfl hl tw3_191 tw3_192 tw3_193 tw1_5 tw3_194 rfl nd_X1_advance ⟨(Nat.le_of_ble_eq_true rfl), (Nat.le_of_ble_eq_true rfl)⟩ (Nat.le_of_ble_eq_true rfl) dX1_read_84 (fun H locs hX => ?_)
          refine i_iinc C (j := 2) (fun x4 => [(3, .int x4), (0, .ref (G.2.1 21)), (1, .ref (G.2.1 1))]) h dX1_read_87 hl rfl rfl (by decide) (fun _ => rfl) (fun x4 ls h hl => ?_)
          refine i_goto (tgt := 25) C dX1_read_90 (by decide) ?_
          exact ih _ _ _ _ _ h (lv_sub hl [1, 2, 0] rfl) hX
        exact J2 _ h _ _ _ (lv_sub hl [0] rfl) hX
      refine i_if_ne (tgt := 59) C h dX1_read_40 (by decide) (fun _ h => ?_) (fun _ h => ?_)
      · exact J3 h _ _ _ (lv_sub hl [0, 1, 2] rfl) hX
      refine i_aload_n C dX1_read_43 rfl (lv_at hl 0 rfl) ?_
      refine x_get C hX (fg_21_0 G) tw1_121 dX1_read_44 ?_
      refine i_aload_n C dX1_read_47 rfl (lv_at hl 0 rfl) ?_
      refine x_get C hX (fg_21_4 G) tw1_125 dX1_read_48 ?_
      refine x_iald C hX (ai_22 G) h dX1_read_51 (fun x5 h => ?_)
      refine i_bipush (v := 20) C dX1_read_52 rfl ?_
      refine i_icmp_ne (tgt := 59) C h dX1_read_54 (by decide) (fun _ h => ?_) (fun _ h => ?_)
      · exact J3 h _ _ _ (lv_sub hl [0, 1, 2] rfl) hX
      refine i_iload_n C dX1_read_57 rfl (lv_at hl 2 rfl) ?_
      exact x_iretW C hX hr hQ h dX1_read_58
  exact L1 FU _ _ _ _ _ h (lv_sub hl [1, 2, 0] rfl) hX
def f_X4_text (μ : MM) : Option (Int32 × MM) := bdr (f_X1_scan μ) fun m1 => bdw (f_X1_read 0 m1) fun x1 m2 => jn2 (fun (x2 : Int32) (m3 : MM) => lt_ (wst m3 19 1 0) fun m4 => some (x2, m4)) fun k1 => if x1 < 0 then (k1 x1 m2) else (bdw (f_X1_read 1 m2) fun x3 m5 => k1 x3 m5)
theorem nd_X4_text : yX4_text.cls ≠ "java/lang/invoke/MethodHandle" ∧ yX4_text.cls ≠ "java/lang/invoke/VarHandle" ∧ (parseMethodDescriptor yX4_text.desc).map (fun d => d.parameters.length) = some 0 := by decide +kernel
set_option maxHeartbeats 4000000 in
set_option maxRecDepth 100000 in
theorem c_X4_text (l : Launch) (G : EN)  {μ : MM} {r : Int32} {m : MM} (h : f_X4_text μ = some (r, m)) : XM l G yX4_text cX4_text 2 (some .int) 8 178 [.ref (G.2.1 0)] μ (some (.int r)) m := by
  refine x_met (own := RX4) (by decide +kernel) rfl (Nat.le_of_ble_eq_true rfl) (fun Γ A H ls hg C hr hX hQ hl => ?_)
  have hl : lv_has ls 2 [(0, .ref (G.2.1 0))] := hl
  unfold f_X4_text at h
  refine i_aload_n C dX4_text_0 rfl (lv_at hl 0 rfl) ?_
  refine x_get C hX (fg_0_4 G) tw1_170 dX4_text_1 ?_
  refine i_aload_n C dX4_text_4 rfl (lv_at hl 0 rfl) ?_
  refine x_get C hX (fg_0_3 G) tw1_169 dX4_text_5 ?_
  obtain ⟨m1, e1, h⟩ := w_bdr h
  refine x_callVv C hX (fg_21_0 G) (c_X1_scan (gl Γ) G  e1) [] rfl hl tw3_80 tw3_81 tw3_82 tw1_5 tw3_83 rfl nd_X1_scan ⟨(Nat.le_of_ble_eq_true rfl), (Nat.le_of_ble_eq_true rfl)⟩ (Nat.le_of_ble_eq_true rfl) dX4_text_8 (fun H locs hX => ?_)
  refine i_aload_n C dX4_text_11 rfl (lv_at hl 0 rfl) ?_
  refine x_get C hX (fg_0_4 G) tw1_170 dX4_text_12 ?_
  refine i_aload_n C dX4_text_15 rfl (lv_at hl 0 rfl) ?_
  refine x_get C hX (fg_0_0 G) tw1_166 dX4_text_16 ?_
  refine i_iconst (v := 0) C dX4_text_19 rfl ?_
  obtain ⟨x1, m2, e2, h⟩ := w_bdw h
  refine x_callVi C hX (fg_21_0 G) (c_X1_read (gl Γ) G  e2) [] rfl hl tw3_178 tw3_179 tw3_180 tw1_5 tw3_181 rfl nd_X1_read ⟨(Nat.le_of_ble_eq_true rfl), (Nat.le_of_ble_eq_true rfl)⟩ (Nat.le_of_ble_eq_true rfl) dX4_text_20 (fun H locs hX => ?_)
  refine i_istore_n C [(1, .int x1), (0, .ref (G.2.1 0))] dX4_text_23 rfl hl (by decide) rfl (fun ls hl => ?_)
  refine i_iload_n C dX4_text_24 rfl (lv_at hl 0 rfl) ?_
  refine w_jn2 (fun (x2 : Int32) (m3 : MM) => ∀ (H : Heap) (locs : List Loc) (ls : Array Slot), lv_has ls 2 [(0, .ref (G.2.1 0)), (1, .int x2)] → XW G A (gs Γ) H locs m3 → WX Γ H locs 41 ls []) h (fun x2 m3 h H locs ls hl hX => ?_) (fun k1 J1 h => ?_)
  · refine i_aload_n C dX4_text_41 rfl (lv_at hl 0 rfl) ?_
    refine x_get C hX (fg_0_3 G) tw1_169 dX4_text_42 ?_
    refine i_iconst (v := 0) C dX4_text_45 rfl ?_
    refine x_putI C hX (fp_19_1 G) h tw1_109 dX4_text_46 (fun H locs m4 h hX => ?_)
    refine i_iload_n C dX4_text_49 rfl (lv_at hl 1 rfl) ?_
    exact x_iretW C hX hr hQ h dX4_text_50
  refine i_if_lt (tgt := 41) C h dX4_text_25 (by decide) (fun _ h => ?_) (fun _ h => ?_)
  · exact J1 _ _ h _ _ _ (lv_sub hl [1, 0] rfl) hX
  refine i_aload_n C dX4_text_28 rfl (lv_at hl 1 rfl) ?_
  refine x_get C hX (fg_0_4 G) tw1_170 dX4_text_29 ?_
  refine i_aload_n C dX4_text_32 rfl (lv_at hl 1 rfl) ?_
  refine x_get C hX (fg_0_0 G) tw1_166 dX4_text_33 ?_
  refine i_iconst (v := 1) C dX4_text_36 rfl ?_
  obtain ⟨x3, m5, e3, h⟩ := w_bdw h
  refine x_callVi C hX (fg_21_0 G) (c_X1_read (gl Γ) G  e3) [] rfl hl tw3_178 tw3_179 tw3_180 tw1_5 tw3_181 rfl nd_X1_read ⟨(Nat.le_of_ble_eq_true rfl), (Nat.le_of_ble_eq_true rfl)⟩ (Nat.le_of_ble_eq_true rfl) dX4_text_37 (fun H locs hX => ?_)
  refine i_istore_n C [(1, .int x3), (0, .ref (G.2.1 0))] dX4_text_40 rfl hl (by decide) rfl (fun ls hl => ?_)
  exact J1 _ _ h _ _ _ (lv_sub hl [1, 0] rfl) hX
def L_X5_text_118 (k1 : Int32 → MM → Option (Int32 × MM)) : Nat → Int32 → Int32 → MM → Option (Int32 × MM)
  | 0, _, _, _ => none
  | fu + 1, x4, x5, m12 => if (m12 37 19) ≤ x5 then (k1 x4 m12) else (bdw (f_X5_isSo (3 * x5) m12) fun x6 m13 => lt_ (x5 + 1) fun x7 => L_X5_text_118 k1 fu x6 x7 m13)
def L_X5_text_38 (k3 : MM → Option (Int32 × MM)) : Nat → MM → Option (Int32 × MM)
  | 0, _ => none
  | fu + 1, m14 => if (m14 37 16) = 0 then (if (m14 37 14) = 3 then (ldi m14 44 120 (m14 37 12) fun x8 => if x8 = 59 then (bdr (f_X5_must 1 m14) fun m15 => bdr (f_X5_readItem m15) fun m16 => L_X5_text_38 k3 fu m16) else (k3 m14)) else (k3 m14)) else (k3 m14)
def f_X5_text (μ : MM) : Option (Int32 × MM) := lt_ (wst μ 37 13 0) fun m1 => gd (0 = 0 ∨ 0 = 1) (lt_ (wst m1 37 16 0) fun m2 => lt_ (wst m2 37 19 0) fun m3 => lt_ (wst m3 37 20 0) fun m4 => ldi m4 38 152 4 fun x1 => lt_ (wst m4 37 21 x1) fun m5 => bdr (f_X5_next m5) fun m6 => bdr (f_X5_readItem m6) fun m7 => jn1 (fun (m8 : MM) => jn1 (fun (x2 : Int32) => bdr (f_X5_must x2 m8) fun m9 => lt_ (wst m9 37 11 0) fun m10 => if (m10 37 16) = 0 then (jn2 (fun (x3 : Int32) (m11 : MM) => if (-15) ≤ x3 then (some ((m11 37 20), m11)) else (some (x3, m11))) fun k1 => L_X5_text_118 k1 FU 0 0 m10) else (some (((-1) - (m10 37 12)), m10))) fun k2 => if (m8 37 14) = 0 then (k2 1) else (k2 0)) fun k3 => L_X5_text_38 k3 FU m7)
theorem nd_X5_text : yX5_text.cls ≠ "java/lang/invoke/MethodHandle" ∧ yX5_text.cls ≠ "java/lang/invoke/VarHandle" ∧ (parseMethodDescriptor yX5_text.desc).map (fun d => d.parameters.length) = some 0 := by decide +kernel
set_option maxHeartbeats 4000000 in
set_option maxRecDepth 100000 in
theorem c_X5_text (l : Launch) (G : EN)  {μ : MM} {r : Int32} {m : MM} (h : f_X5_text μ = some (r, m)) : XM l G yX5_text cX5_text 3 (some .int) 8 173 [.ref (G.2.1 37)] μ (some (.int r)) m := by
  refine x_met (own := RX5) (by decide +kernel) rfl (Nat.le_of_ble_eq_true rfl) (fun Γ A H ls hg C hr hX hQ hl => ?_)
  have hl : lv_has ls 3 [(0, .ref (G.2.1 37))] := hl
  unfold f_X5_text at h
  refine i_aload_n C dX5_text_0 rfl (lv_at hl 0 rfl) ?_
  refine i_iconst (v := 0) C dX5_text_1 rfl ?_
  refine x_putI C hX (fp_37_13 G) h tw4_96 dX5_text_2 (fun H locs m1 h hX => ?_)
  refine i_aload_n C dX5_text_5 rfl (lv_at hl 0 rfl) ?_
  refine i_iconst (v := 0) C dX5_text_6 rfl ?_
  refine x_putZ C hX (fp_37_16 G) h tw4_99 dX5_text_7 (fun H locs m2 h hX => ?_)
  refine i_aload_n C dX5_text_10 rfl (lv_at hl 0 rfl) ?_
  refine i_iconst (v := 0) C dX5_text_11 rfl ?_
  refine x_putI C hX (fp_37_19 G) h tw4_102 dX5_text_12 (fun H locs m3 h hX => ?_)
  refine i_aload_n C dX5_text_15 rfl (lv_at hl 0 rfl) ?_
  refine i_iconst (v := 0) C dX5_text_16 rfl ?_
  refine x_putI C hX (fp_37_20 G) h tw4_103 dX5_text_17 (fun H locs m4 h hX => ?_)
  refine i_aload_n C dX5_text_20 rfl (lv_at hl 0 rfl) ?_
  refine i_aload_n C dX5_text_21 rfl (lv_at hl 0 rfl) ?_
  refine x_get C hX (fg_37_0 G) tw4_83 dX5_text_22 ?_
  refine i_iconst (v := 4) C dX5_text_25 rfl ?_
  refine x_iald C hX (ai_38 G) h dX5_text_26 (fun x1 h => ?_)
  refine x_putI C hX (fp_37_21 G) h tw4_104 dX5_text_27 (fun H locs m5 h hX => ?_)
  refine i_aload_n C dX5_text_30 rfl (lv_at hl 0 rfl) ?_
  obtain ⟨m6, e1, h⟩ := w_bdr h
  refine x_callVv C hX (fg_37_0 G) (c_X5_next (gl Γ) G  e1) [] rfl hl tw6_39 tw6_41 ts4_5 tw1_7 tw6_42 rfl nd_X5_next ⟨(Nat.le_of_ble_eq_true rfl), (Nat.le_of_ble_eq_true rfl)⟩ (Nat.le_of_ble_eq_true rfl) dX5_text_31 (fun H locs hX => ?_)
  refine i_aload_n C dX5_text_34 rfl (lv_at hl 0 rfl) ?_
  obtain ⟨m7, e2, h⟩ := w_bdr h
  refine x_callVv C hX (fg_37_0 G) (c_X5_readItem (gl Γ) G  e2) [] rfl hl tw6_48 tw6_50 ts4_7 tw1_7 tw6_51 rfl nd_X5_readItem ⟨(Nat.le_of_ble_eq_true rfl), (Nat.le_of_ble_eq_true rfl)⟩ (Nat.le_of_ble_eq_true rfl) dX5_text_35 (fun H locs hX => ?_)
  refine w_jn1 (fun (m8 : MM) => ∀ (H : Heap) (locs : List Loc) (ls : Array Slot), lv_has ls 3 [(0, .ref (G.2.1 37))] → XW G A (gs Γ) H locs m8 → WX Γ H locs 79 ls []) h (fun m8 h H locs ls hl hX => ?_) (fun k3 J3 h => ?_)
  · refine i_aload_n C dX5_text_79 rfl (lv_at hl 0 rfl) ?_
    refine i_aload_n C dX5_text_80 rfl (lv_at hl 0 rfl) ?_
    refine x_get C hX (fg_37_14 G) tw4_97 dX5_text_81 ?_
    refine w_jn1 (fun (x2 : Int32) => ∀ (H : Heap) (locs : List Loc) (ls : Array Slot), lv_has ls 3 [(0, .ref (G.2.1 37))] → XW G A (gs Γ) H locs m8 → WX Γ H locs 92 ls [.int x2, .ref (G.2.1 37)]) h (fun x2 h H locs ls hl hX => ?_) (fun k2 J2 h => ?_)
    · obtain ⟨m9, e3, h⟩ := w_bdr h
      refine x_callVv C hX (fg_37_0 G) (c_X5_must (gl Γ) G  e3) [] rfl hl tw6_62 tw6_64 ts4_10 tw1_7 tw6_65 rfl nd_X5_must ⟨(Nat.le_of_ble_eq_true rfl), (Nat.le_of_ble_eq_true rfl)⟩ (Nat.le_of_ble_eq_true rfl) dX5_text_92 (fun H locs hX => ?_)
      refine i_aload_n C dX5_text_95 rfl (lv_at hl 0 rfl) ?_
      refine i_iconst (v := 0) C dX5_text_96 rfl ?_
      refine x_putI C hX (fp_37_11 G) h tw4_94 dX5_text_97 (fun H locs m10 h hX => ?_)
      refine i_aload_n C dX5_text_100 rfl (lv_at hl 0 rfl) ?_
      refine x_get C hX (fg_37_16 G) tw4_99 dX5_text_101 ?_
      refine i_if_eq (tgt := 114) C h dX5_text_104 (by decide) (fun _ h => ?_) (fun _ h => ?_)
      · refine i_iconst (v := 0) C dX5_text_114 rfl ?_
        refine i_istore_n C [(1, .int 0), (0, .ref (G.2.1 37))] dX5_text_115 rfl hl (by decide) rfl (fun ls hl => ?_)
        refine i_iconst (v := 0) C dX5_text_116 rfl ?_
        refine i_istore_n C [(2, .int 0), (1, .int 0), (0, .ref (G.2.1 37))] dX5_text_117 rfl hl (by decide) rfl (fun ls hl => ?_)
        refine w_jn2 (fun (x3 : Int32) (m11 : MM) => ∀ (H : Heap) (locs : List Loc) (ls : Array Slot), lv_has ls 3 [(0, .ref (G.2.1 37)), (1, .int x3)] → XW G A (gs Γ) H locs m11 → WX Γ H locs 140 ls []) h (fun x3 m11 h H locs ls hl hX => ?_) (fun k1 J1 h => ?_)
        · refine i_iload_n C dX5_text_140 rfl (lv_at hl 1 rfl) ?_
          refine i_bipush (v := (-15)) C dX5_text_141 rfl ?_
          refine i_icmp_ge (tgt := 150) C h dX5_text_143 (by decide) (fun _ h => ?_) (fun _ h => ?_)
          · refine i_aload_n C dX5_text_150 rfl (lv_at hl 0 rfl) ?_
            refine x_get C hX (fg_37_20 G) tw4_103 dX5_text_151 ?_
            exact x_iretW C hX hr hQ h dX5_text_154
          refine i_iload_n C dX5_text_146 rfl (lv_at hl 1 rfl) ?_
          refine i_goto (tgt := 154) C dX5_text_147 (by decide) ?_
          exact x_iretW C hX hr hQ h dX5_text_154
        have L1 : ∀ (fu : Nat) (x4 : Int32) (x5 : Int32) (m12 : MM) (H : Heap) (locs : List Loc) (ls : Array Slot), L_X5_text_118 k1 fu x4 x5 m12 = some (r, m) → lv_has ls 3 [(0, .ref (G.2.1 37)), (1, .int x4), (2, .int x5)] → XW G A (gs Γ) H locs m12 → WX Γ H locs 118 ls [] := by
          intro fu
          induction fu with
          | zero =>
            intro x4 x5 m12 H locs ls h
            rw [L_X5_text_118] at h
            cases h
          | succ fu ih =>
            intro x4 x5 m12 H locs ls h hl hX
            rw [L_X5_text_118] at h
            refine i_iload_n C dX5_text_118 rfl (lv_at hl 2 rfl) ?_
            refine i_aload_n C dX5_text_119 rfl (lv_at hl 0 rfl) ?_
            refine x_get C hX (fg_37_19 G) tw4_102 dX5_text_120 ?_
            refine i_icmp_ge (tgt := 140) C h dX5_text_123 (by decide) (fun _ h => ?_) (fun _ h => ?_)
            · exact J1 _ _ h _ _ _ (lv_sub hl [0, 1] rfl) hX
            refine i_aload_n C dX5_text_126 rfl (lv_at hl 0 rfl) ?_
            refine i_iconst (v := 3) C dX5_text_127 rfl ?_
            refine i_iload_n C dX5_text_128 rfl (lv_at hl 2 rfl) ?_
            refine i_imul C dX5_text_129 ?_
            obtain ⟨x6, m13, e4, h⟩ := w_bdw h
            refine x_callVi C hX (fg_37_0 G) (c_X5_isSo (gl Γ) G  e4) [] rfl hl tw6_100 tw6_102 ts5_1 tw1_7 tw6_103 rfl nd_X5_isSo ⟨(Nat.le_of_ble_eq_true rfl), (Nat.le_of_ble_eq_true rfl)⟩ (Nat.le_of_ble_eq_true rfl) dX5_text_130 (fun H locs hX => ?_)
            refine i_istore_n C [(1, .int x6), (0, .ref (G.2.1 37)), (2, .int x5)] dX5_text_133 rfl hl (by decide) rfl (fun ls hl => ?_)
            refine i_iinc C (j := 2) (fun x7 => [(2, .int x7), (1, .int x6), (0, .ref (G.2.1 37))]) h dX5_text_134 hl rfl rfl (by decide) (fun _ => rfl) (fun x7 ls h hl => ?_)
            refine i_goto (tgt := 118) C dX5_text_137 (by decide) ?_
            exact ih _ _ _ _ _ _ h (lv_sub hl [2, 1, 0] rfl) hX
        exact L1 FU _ _ _ _ _ _ h (lv_sub hl [2, 1, 0] rfl) hX
      refine i_iconst (v := (-1)) C dX5_text_107 rfl ?_
      refine i_aload_n C dX5_text_108 rfl (lv_at hl 0 rfl) ?_
      refine x_get C hX (fg_37_12 G) tw4_95 dX5_text_109 ?_
      refine i_isub C dX5_text_112 ?_
      exact x_iretW C hX hr hQ h dX5_text_113
    refine i_if_ne (tgt := 91) C h dX5_text_84 (by decide) (fun _ h => ?_) (fun _ h => ?_)
    · refine i_iconst (v := 0) C dX5_text_91 rfl ?_
      exact J2 _ h _ _ _ (lv_sub hl [0] rfl) hX
    refine i_iconst (v := 1) C dX5_text_87 rfl ?_
    refine i_goto (tgt := 92) C dX5_text_88 (by decide) ?_
    exact J2 _ h _ _ _ (lv_sub hl [0] rfl) hX
  have L2 : ∀ (fu : Nat) (m14 : MM) (H : Heap) (locs : List Loc) (ls : Array Slot), L_X5_text_38 k3 fu m14 = some (r, m) → lv_has ls 3 [(0, .ref (G.2.1 37))] → XW G A (gs Γ) H locs m14 → WX Γ H locs 38 ls [] := by
    intro fu
    induction fu with
    | zero =>
      intro m14 H locs ls h
      rw [L_X5_text_38] at h
      cases h
    | succ fu ih =>
      intro m14 H locs ls h hl hX
      rw [L_X5_text_38] at h
      refine i_aload_n C dX5_text_38 rfl (lv_at hl 0 rfl) ?_
      refine x_get C hX (fg_37_16 G) tw4_99 dX5_text_39 ?_
      refine i_if_ne (tgt := 79) C h dX5_text_42 (by decide) (fun _ h => ?_) (fun _ h => ?_)
      · exact J3 _ h _ _ _ (lv_sub hl [0] rfl) hX
      refine i_aload_n C dX5_text_45 rfl (lv_at hl 0 rfl) ?_
      refine x_get C hX (fg_37_14 G) tw4_97 dX5_text_46 ?_
      refine i_iconst (v := 3) C dX5_text_49 rfl ?_
      refine i_icmp_ne (tgt := 79) C h dX5_text_50 (by decide) (fun _ h => ?_) (fun _ h => ?_)
      · exact J3 _ h _ _ _ (lv_sub hl [0] rfl) hX
      refine i_aload_n C dX5_text_53 rfl (lv_at hl 0 rfl) ?_
      refine x_get C hX (fg_37_10 G) tw4_93 dX5_text_54 ?_
      refine i_aload_n C dX5_text_57 rfl (lv_at hl 0 rfl) ?_
      refine x_get C hX (fg_37_12 G) tw4_95 dX5_text_58 ?_
      refine x_iald C hX (ai_44 G) h dX5_text_61 (fun x8 h => ?_)
      refine i_bipush (v := 59) C dX5_text_62 rfl ?_
      refine i_icmp_ne (tgt := 79) C h dX5_text_64 (by decide) (fun _ h => ?_) (fun _ h => ?_)
      · exact J3 _ h _ _ _ (lv_sub hl [0] rfl) hX
      refine i_aload_n C dX5_text_67 rfl (lv_at hl 0 rfl) ?_
      refine i_iconst (v := 1) C dX5_text_68 rfl ?_
      obtain ⟨m15, e5, h⟩ := w_bdr h
      refine x_callVv C hX (fg_37_0 G) (c_X5_must (gl Γ) G  e5) [] rfl hl tw6_62 tw6_64 ts4_10 tw1_7 tw6_65 rfl nd_X5_must ⟨(Nat.le_of_ble_eq_true rfl), (Nat.le_of_ble_eq_true rfl)⟩ (Nat.le_of_ble_eq_true rfl) dX5_text_69 (fun H locs hX => ?_)
      refine i_aload_n C dX5_text_72 rfl (lv_at hl 0 rfl) ?_
      obtain ⟨m16, e6, h⟩ := w_bdr h
      refine x_callVv C hX (fg_37_0 G) (c_X5_readItem (gl Γ) G  e6) [] rfl hl tw6_48 tw6_50 ts4_7 tw1_7 tw6_51 rfl nd_X5_readItem ⟨(Nat.le_of_ble_eq_true rfl), (Nat.le_of_ble_eq_true rfl)⟩ (Nat.le_of_ble_eq_true rfl) dX5_text_73 (fun H locs hX => ?_)
      refine i_goto (tgt := 38) C dX5_text_76 (by decide) ?_
      exact ih _ _ _ _ h (lv_sub hl [0] rfl) hX
  exact L2 FU _ _ _ _ h (lv_sub hl [0] rfl) hX
