def f_X4_isWithin (p0 : Int32) (p1 : Int32) (p2 : Int32) : Option Int32 := if p0 < p1 then (some 0) else (if p2 < p0 then (some 0) else (some 1))
theorem nd_X4_isWithin : yX4_isWithin.cls ≠ "java/lang/invoke/MethodHandle" ∧ yX4_isWithin.cls ≠ "java/lang/invoke/VarHandle" ∧ (parseMethodDescriptor yX4_isWithin.desc).map (fun d => d.parameters.length) = some 3 := by decide +kernel
set_option maxHeartbeats 4000000 in
set_option maxRecDepth 100000 in
theorem c_X4_isWithin (l : Launch) (G : EN)  {p0 p1 p2 : Int32} {μ : MM} {r : Int32} (h : f_X4_isWithin p0 p1 p2 = some r) : XM l G yX4_isWithin cX4_isWithin 3 (some .boolean) 0 0 [.int p0, .int p1, .int p2] μ (some (.int r)) μ := by
  refine x_met (own := RX4) (by decide +kernel) rfl (Nat.le_of_ble_eq_true rfl) (fun Γ A H ls hg C hr hX hQ hl => ?_)
  have hl : lv_has ls 3 [(0, .int p0), (1, .int p1), (2, .int p2)] := hl
  unfold f_X4_isWithin at h
  refine i_iload_n C dX4_isWithin_0 rfl (lv_at hl 0 rfl) ?_
  refine i_iload_n C dX4_isWithin_1 rfl (lv_at hl 1 rfl) ?_
  refine i_icmp_lt (tgt := 14) C h dX4_isWithin_2 (by decide) (fun _ h => ?_) (fun _ h => ?_)
  · refine i_iconst (v := 0) C dX4_isWithin_14 rfl ?_
    exact x_zcR C hX (by decide) hr hQ h dX4_isWithin_15
  refine i_iload_n C dX4_isWithin_5 rfl (lv_at hl 0 rfl) ?_
  refine i_iload_n C dX4_isWithin_6 rfl (lv_at hl 2 rfl) ?_
  refine i_icmp_gt (tgt := 14) C h dX4_isWithin_7 (by decide) (fun _ h => ?_) (fun _ h => ?_)
  · refine i_iconst (v := 0) C dX4_isWithin_14 rfl ?_
    exact x_zcR C hX (by decide) hr hQ h dX4_isWithin_15
  refine i_iconst (v := 1) C dX4_isWithin_10 rfl ?_
  refine i_goto (tgt := 15) C dX4_isWithin_11 (by decide) ?_
  exact x_zcR C hX (by decide) hr hQ h dX4_isWithin_15
def f_X4_isKind (p0 : Int32) : Option Int32 := bdr (f_X4_isWithin p0 0 6) fun x1 => gd (x1 = 0 ∨ x1 = 1) (some x1)
theorem nd_X4_isKind : yX4_isKind.cls ≠ "java/lang/invoke/MethodHandle" ∧ yX4_isKind.cls ≠ "java/lang/invoke/VarHandle" ∧ (parseMethodDescriptor yX4_isKind.desc).map (fun d => d.parameters.length) = some 1 := by decide +kernel
set_option maxHeartbeats 4000000 in
set_option maxRecDepth 100000 in
theorem c_X4_isKind (l : Launch) (G : EN)  {p0 : Int32} {μ : MM} {r : Int32} (h : f_X4_isKind p0 = some r) : XM l G yX4_isKind cX4_isKind 1 (some .boolean) 1 22 [.int p0] μ (some (.int r)) μ := by
  refine x_met (own := RX4) (by decide +kernel) rfl (Nat.le_of_ble_eq_true rfl) (fun Γ A H ls hg C hr hX hQ hl => ?_)
  have hl : lv_has ls 1 [(0, .int p0)] := hl
  unfold f_X4_isKind at h
  refine i_iload_n C dX4_isKind_0 rfl (lv_at hl 0 rfl) ?_
  refine i_iconst (v := 0) C dX4_isKind_1 rfl ?_
  refine i_bipush (v := 6) C dX4_isKind_2 rfl ?_
  obtain ⟨x1, e1, h⟩ := w_bdr h
  refine x_callSi C hX (c_X4_isWithin (gl Γ) G  e1) [] rfl hl tw1_201 tw1_202 tw1_1 tw1_203 nd_X4_isWithin ⟨(Nat.le_of_ble_eq_true rfl), (Nat.le_of_ble_eq_true rfl)⟩ (Nat.le_of_ble_eq_true rfl) dX4_isKind_4 (fun H locs hX => ?_)
  exact x_zretR C hX hr hQ h dX4_isKind_7
def f_X4_finding (p1 : Int32) (μ : MM) : Option (Int32 × MM) := lt_ (((-1000001) - p1)) fun x1 => if x1 < 0 then (some (p1, μ)) else (if 7 ≤ x1 then (some (p1, μ)) else (ldi μ 34 7 x1 fun x2 => sti μ 34 7 x1 (x2 + 1) fun m1 => some (p1, m1)))
theorem nd_X4_finding : yX4_finding.cls ≠ "java/lang/invoke/MethodHandle" ∧ yX4_finding.cls ≠ "java/lang/invoke/VarHandle" ∧ (parseMethodDescriptor yX4_finding.desc).map (fun d => d.parameters.length) = some 1 := by decide +kernel
set_option maxHeartbeats 4000000 in
set_option maxRecDepth 100000 in
theorem c_X4_finding (l : Launch) (G : EN)  {p1 : Int32} {μ : MM} {r : Int32} {m : MM} (h : f_X4_finding p1 μ = some (r, m)) : XM l G yX4_finding cX4_finding 3 (some .int) 0 0 [.ref (G.2.1 0), .int p1] μ (some (.int r)) m := by
  refine x_met (own := RX4) (by decide +kernel) rfl (Nat.le_of_ble_eq_true rfl) (fun Γ A H ls hg C hr hX hQ hl => ?_)
  have hl : lv_has ls 3 [(0, .ref (G.2.1 0)), (1, .int p1)] := hl
  unfold f_X4_finding at h
  refine i_ldc C tw1_204 dX4_finding_0 ?_
  refine i_iload_n C dX4_finding_2 rfl (lv_at hl 1 rfl) ?_
  refine i_isub C dX4_finding_3 ?_
  refine i_istoreL_n C (fun x1 => [(2, .int x1), (0, .ref (G.2.1 0)), (1, .int p1)]) h dX4_finding_4 rfl hl (by decide) (fun _ => rfl) (fun x1 ls h hl => ?_)
  refine i_iload_n C dX4_finding_5 rfl (lv_at hl 0 rfl) ?_
  refine i_if_lt (tgt := 25) C h dX4_finding_6 (by decide) (fun _ h => ?_) (fun _ h => ?_)
  · refine i_iload_n C dX4_finding_25 rfl (lv_at hl 2 rfl) ?_
    exact x_iretW C hX hr hQ h dX4_finding_26
  refine i_iload_n C dX4_finding_9 rfl (lv_at hl 0 rfl) ?_
  refine i_bipush (v := 7) C dX4_finding_10 rfl ?_
  refine i_icmp_ge (tgt := 25) C h dX4_finding_12 (by decide) (fun _ h => ?_) (fun _ h => ?_)
  · refine i_iload_n C dX4_finding_25 rfl (lv_at hl 2 rfl) ?_
    exact x_iretW C hX hr hQ h dX4_finding_26
  refine i_aload_n C dX4_finding_15 rfl (lv_at hl 1 rfl) ?_
  refine x_get C hX (fg_0_6 G) tw1_172 dX4_finding_16 ?_
  refine i_iload_n C dX4_finding_19 rfl (lv_at hl 0 rfl) ?_
  refine i_dup2 C dX4_finding_20 rfl rfl ?_
  refine x_iald C hX (ai_34 G) h dX4_finding_21 (fun x2 h => ?_)
  refine i_iconst (v := 1) C dX4_finding_22 rfl ?_
  refine i_iadd C dX4_finding_23 ?_
  refine x_iast C hX (ai_34 G) h dX4_finding_24 (fun H locs m1 h hX => ?_)
  refine i_iload_n C dX4_finding_25 rfl (lv_at hl 2 rfl) ?_
  exact x_iretW C hX hr hQ h dX4_finding_26
def f_X0_addCat (p1 : Int32) (p2 : Int32) (p3 : Int32) (μ : MM) : Option (Int32 × MM) := if (μ 1 0) < 8 then (sti μ 2 8 (μ 1 0) p1 fun m1 => sti m1 3 8 (m1 1 0) p2 fun m2 => sti m2 4 8 (m2 1 0) p3 fun m3 => lt_ (wst m3 1 0 ((m3 1 0) + 1)) fun m4 => some (((m4 1 0) - 1), m4)) else (some ((-1), μ))
theorem nd_X0_addCat : yX0_addCat.cls ≠ "java/lang/invoke/MethodHandle" ∧ yX0_addCat.cls ≠ "java/lang/invoke/VarHandle" ∧ (parseMethodDescriptor yX0_addCat.desc).map (fun d => d.parameters.length) = some 3 := by decide +kernel
set_option maxHeartbeats 4000000 in
set_option maxRecDepth 100000 in
theorem c_X0_addCat (l : Launch) (G : EN)  {p1 p2 p3 : Int32} {μ : MM} {r : Int32} {m : MM} (h : f_X0_addCat p1 p2 p3 μ = some (r, m)) : XM l G yX0_addCat cX0_addCat 4 (some .int) 0 0 [.ref (G.2.1 1), .int p1, .int p2, .int p3] μ (some (.int r)) m := by
  refine x_met (own := RX0) (by decide +kernel) rfl (Nat.le_of_ble_eq_true rfl) (fun Γ A H ls hg C hr hX hQ hl => ?_)
  have hl : lv_has ls 4 [(0, .ref (G.2.1 1)), (1, .int p1), (2, .int p2), (3, .int p3)] := hl
  unfold f_X0_addCat at h
  refine i_aload_n C dX0_addCat_0 rfl (lv_at hl 0 rfl) ?_
  refine x_get C hX (fg_1_0 G) tw1_32 dX0_addCat_1 ?_
  refine i_bipush (v := 8) C dX0_addCat_4 rfl ?_
  refine i_icmp_lt (tgt := 11) C h dX0_addCat_6 (by decide) (fun _ h => ?_) (fun _ h => ?_)
  · refine i_aload_n C dX0_addCat_11 rfl (lv_at hl 0 rfl) ?_
    refine x_get C hX (fg_1_1 G) tw1_35 dX0_addCat_12 ?_
    refine i_aload_n C dX0_addCat_15 rfl (lv_at hl 0 rfl) ?_
    refine x_get C hX (fg_1_0 G) tw1_32 dX0_addCat_16 ?_
    refine i_iload_n C dX0_addCat_19 rfl (lv_at hl 1 rfl) ?_
    refine x_iast C hX (ai_2 G) h dX0_addCat_20 (fun H locs m1 h hX => ?_)
    refine i_aload_n C dX0_addCat_21 rfl (lv_at hl 0 rfl) ?_
    refine x_get C hX (fg_1_2 G) tw1_37 dX0_addCat_22 ?_
    refine i_aload_n C dX0_addCat_25 rfl (lv_at hl 0 rfl) ?_
    refine x_get C hX (fg_1_0 G) tw1_32 dX0_addCat_26 ?_
    refine i_iload_n C dX0_addCat_29 rfl (lv_at hl 2 rfl) ?_
    refine x_iast C hX (ai_3 G) h dX0_addCat_30 (fun H locs m2 h hX => ?_)
    refine i_aload_n C dX0_addCat_31 rfl (lv_at hl 0 rfl) ?_
    refine x_get C hX (fg_1_3 G) tw1_39 dX0_addCat_32 ?_
    refine i_aload_n C dX0_addCat_35 rfl (lv_at hl 0 rfl) ?_
    refine x_get C hX (fg_1_0 G) tw1_32 dX0_addCat_36 ?_
    refine i_iload_n C dX0_addCat_39 rfl (lv_at hl 3 rfl) ?_
    refine x_iast C hX (ai_4 G) h dX0_addCat_40 (fun H locs m3 h hX => ?_)
    refine i_aload_n C dX0_addCat_41 rfl (lv_at hl 0 rfl) ?_
    refine i_dup C dX0_addCat_42 rfl ?_
    refine x_get C hX (fg_1_0 G) tw1_32 dX0_addCat_43 ?_
    refine i_iconst (v := 1) C dX0_addCat_46 rfl ?_
    refine i_iadd C dX0_addCat_47 ?_
    refine x_putI C hX (fp_1_0 G) h tw1_32 dX0_addCat_48 (fun H locs m4 h hX => ?_)
    refine i_aload_n C dX0_addCat_51 rfl (lv_at hl 0 rfl) ?_
    refine x_get C hX (fg_1_0 G) tw1_32 dX0_addCat_52 ?_
    refine i_iconst (v := 1) C dX0_addCat_55 rfl ?_
    refine i_isub C dX0_addCat_56 ?_
    exact x_iretW C hX hr hQ h dX0_addCat_57
  refine i_iconst (v := (-1)) C dX0_addCat_9 rfl ?_
  exact x_iretW C hX hr hQ h dX0_addCat_10
def f_X4_cat (p1 : Int32) (μ : MM) : Option (Int32 × MM) := bdr (f_X4_isKind p1) fun x1 => if x1 = 0 then (bdw (f_X4_finding (-1000001) μ) fun x4 m3 => some (x4, m3)) else (if (μ 1 0) < 8 then (bdw (f_X0_addCat p1 0 0 μ) fun x2 m1 => some (x2, m1)) else (bdw (f_X4_finding (-1000002) μ) fun x3 m2 => some (x3, m2)))
theorem nd_X4_cat : yX4_cat.cls ≠ "java/lang/invoke/MethodHandle" ∧ yX4_cat.cls ≠ "java/lang/invoke/VarHandle" ∧ (parseMethodDescriptor yX4_cat.desc).map (fun d => d.parameters.length) = some 1 := by decide +kernel
set_option maxHeartbeats 4000000 in
set_option maxRecDepth 100000 in
theorem c_X4_cat (l : Launch) (G : EN)  {p1 : Int32} {μ : MM} {r : Int32} {m : MM} (h : f_X4_cat p1 μ = some (r, m)) : XM l G yX4_cat cX4_cat 2 (some .int) 2 42 [.ref (G.2.1 0), .int p1] μ (some (.int r)) m := by
  refine x_met (own := RX4) (by decide +kernel) rfl (Nat.le_of_ble_eq_true rfl) (fun Γ A H ls hg C hr hX hQ hl => ?_)
  have hl : lv_has ls 2 [(0, .ref (G.2.1 0)), (1, .int p1)] := hl
  unfold f_X4_cat at h
  refine i_iload_n C dX4_cat_0 rfl (lv_at hl 1 rfl) ?_
  obtain ⟨x1, e1, h⟩ := w_bdr h
  refine x_callSi C hX (c_X4_isKind (gl Γ) G  e1) [] rfl hl tw1_198 tw1_199 tw1_1 tw1_200 nd_X4_isKind ⟨(Nat.le_of_ble_eq_true rfl), (Nat.le_of_ble_eq_true rfl)⟩ (Nat.le_of_ble_eq_true rfl) dX4_cat_1 (fun H locs hX => ?_)
  refine i_if_ne (tgt := 14) C h dX4_cat_4 (by decide) (fun _ h => ?_) (fun _ h => ?_)
  · refine i_aload_n C dX4_cat_14 rfl (lv_at hl 0 rfl) ?_
    refine x_get C hX (fg_0_0 G) tw1_166 dX4_cat_15 ?_
    refine x_get C hX (fg_1_0 G) tw1_33 dX4_cat_18 ?_
    refine i_bipush (v := 8) C dX4_cat_21 rfl ?_
    refine i_icmp_lt (tgt := 33) C h dX4_cat_23 (by decide) (fun _ h => ?_) (fun _ h => ?_)
    · refine i_aload_n C dX4_cat_33 rfl (lv_at hl 0 rfl) ?_
      refine x_get C hX (fg_0_0 G) tw1_166 dX4_cat_34 ?_
      refine i_iload_n C dX4_cat_37 rfl (lv_at hl 1 rfl) ?_
      refine i_iconst (v := 0) C dX4_cat_38 rfl ?_
      refine i_iconst (v := 0) C dX4_cat_39 rfl ?_
      obtain ⟨x2, m1, e2, h⟩ := w_bdw h
      refine x_callVi C hX (fg_1_0 G) (c_X0_addCat (gl Γ) G  e2) [] rfl hl tw1_210 tw1_211 tw1_212 tw1_2 tw1_213 rfl nd_X0_addCat ⟨(Nat.le_of_ble_eq_true rfl), (Nat.le_of_ble_eq_true rfl)⟩ (Nat.le_of_ble_eq_true rfl) dX4_cat_40 (fun H locs hX => ?_)
      exact x_iretW C hX hr hQ h dX4_cat_43
    refine i_aload_n C dX4_cat_26 rfl (lv_at hl 0 rfl) ?_
    refine i_ldc C tw1_209 dX4_cat_27 ?_
    obtain ⟨x3, m2, e3, h⟩ := w_bdw h
    refine x_callVi C hX (fg_0_0 G) (c_X4_finding (gl Γ) G  e3) [] rfl hl tw1_205 tw1_207 ts1_0 tw1_1 tw1_208 rfl nd_X4_finding ⟨(Nat.le_of_ble_eq_true rfl), (Nat.le_of_ble_eq_true rfl)⟩ (Nat.le_of_ble_eq_true rfl) dX4_cat_29 (fun H locs hX => ?_)
    exact x_iretW C hX hr hQ h dX4_cat_32
  refine i_aload_n C dX4_cat_7 rfl (lv_at hl 0 rfl) ?_
  refine i_ldc C tw1_204 dX4_cat_8 ?_
  obtain ⟨x4, m3, e4, h⟩ := w_bdw h
  refine x_callVi C hX (fg_0_0 G) (c_X4_finding (gl Γ) G  e4) [] rfl hl tw1_205 tw1_207 ts1_0 tw1_1 tw1_208 rfl nd_X4_finding ⟨(Nat.le_of_ble_eq_true rfl), (Nat.le_of_ble_eq_true rfl)⟩ (Nat.le_of_ble_eq_true rfl) dX4_cat_10 (fun H locs hX => ?_)
  exact x_iretW C hX hr hQ h dX4_cat_13
def f_X4_isCat (p1 : Int32) (μ : MM) : Option Int32 := bdr (f_X4_isWithin p1 0 ((μ 1 0) - 1)) fun x1 => gd (x1 = 0 ∨ x1 = 1) (some x1)
theorem nd_X4_isCat : yX4_isCat.cls ≠ "java/lang/invoke/MethodHandle" ∧ yX4_isCat.cls ≠ "java/lang/invoke/VarHandle" ∧ (parseMethodDescriptor yX4_isCat.desc).map (fun d => d.parameters.length) = some 1 := by decide +kernel
set_option maxHeartbeats 4000000 in
set_option maxRecDepth 100000 in
theorem c_X4_isCat (l : Launch) (G : EN)  {p1 : Int32} {μ : MM} {r : Int32} (h : f_X4_isCat p1 μ = some r) : XM l G yX4_isCat cX4_isCat 2 (some .boolean) 1 22 [.ref (G.2.1 0), .int p1] μ (some (.int r)) μ := by
  refine x_met (own := RX4) (by decide +kernel) rfl (Nat.le_of_ble_eq_true rfl) (fun Γ A H ls hg C hr hX hQ hl => ?_)
  have hl : lv_has ls 2 [(0, .ref (G.2.1 0)), (1, .int p1)] := hl
  unfold f_X4_isCat at h
  refine i_iload_n C dX4_isCat_0 rfl (lv_at hl 1 rfl) ?_
  refine i_iconst (v := 0) C dX4_isCat_1 rfl ?_
  refine i_aload_n C dX4_isCat_2 rfl (lv_at hl 0 rfl) ?_
  refine x_get C hX (fg_0_0 G) tw1_166 dX4_isCat_3 ?_
  refine x_get C hX (fg_1_0 G) tw1_33 dX4_isCat_6 ?_
  refine i_iconst (v := 1) C dX4_isCat_9 rfl ?_
  refine i_isub C dX4_isCat_10 ?_
  obtain ⟨x1, e1, h⟩ := w_bdr h
  refine x_callSi C hX (c_X4_isWithin (gl Γ) G  e1) [] rfl hl tw1_201 tw1_202 tw1_1 tw1_203 nd_X4_isWithin ⟨(Nat.le_of_ble_eq_true rfl), (Nat.le_of_ble_eq_true rfl)⟩ (Nat.le_of_ble_eq_true rfl) dX4_isCat_11 (fun H locs hX => ?_)
  exact x_zretR C hX hr hQ h dX4_isCat_14
def f_X0_errsAs (p1 : Int32) (p2 : Int32) (p3 : Int32) (p4 : Int32) (μ : MM) : Option Int32 := ldi μ 3 8 p1 fun x1 => lt_ ((imin (x1 + p4) 99)) fun x2 => lt_ ((irm ((μ 1 11) + p4) 16)) fun x3 => lt_ ((x2 / 10)) fun x4 => lt_ ((x4 + (2 * ((sr (μ 1 9) x3) &&& 1)))) fun x5 => jn1 (fun (x6 : Int32) => lt_ (((x4 + (irm x3 5)) - 2)) fun x7 => if p2 = 1 then (some x5) else if p2 = 2 then (some x7) else if p2 = 3 then (some x6) else if p2 = 4 then (some (16 - x6)) else if p2 = 5 then (some (x4 / 2)) else if p2 = 6 then (some (x7 + 1)) else (some x4)) fun k1 => if x2 < 50 then (k1 x5) else (k1 p3)
theorem nd_X0_errsAs : yX0_errsAs.cls ≠ "java/lang/invoke/MethodHandle" ∧ yX0_errsAs.cls ≠ "java/lang/invoke/VarHandle" ∧ (parseMethodDescriptor yX0_errsAs.desc).map (fun d => d.parameters.length) = some 4 := by decide +kernel
set_option maxHeartbeats 4000000 in
set_option maxRecDepth 100000 in
theorem c_X0_errsAs (l : Launch) (G : EN)  {p1 p2 p3 p4 : Int32} {μ : MM} {r : Int32} (h : f_X0_errsAs p1 p2 p3 p4 μ = some r) : XM l G yX0_errsAs cX0_errsAs 11 (some .int) 1 21 [.ref (G.2.1 1), .int p1, .int p2, .int p3, .int p4] μ (some (.int r)) μ := by
  refine x_met (own := RX0) (by decide +kernel) rfl (Nat.le_of_ble_eq_true rfl) (fun Γ A H ls hg C hr hX hQ hl => ?_)
  have hl : lv_has ls 11 [(0, .ref (G.2.1 1)), (1, .int p1), (2, .int p2), (3, .int p3), (4, .int p4)] := hl
  unfold f_X0_errsAs at h
  refine i_aload_n C dX0_errsAs_0 rfl (lv_at hl 0 rfl) ?_
  refine x_get C hX (fg_1_2 G) tw1_37 dX0_errsAs_1 ?_
  refine i_iload_n C dX0_errsAs_4 rfl (lv_at hl 1 rfl) ?_
  refine x_iald C hX (ai_3 G) h dX0_errsAs_5 (fun x1 h => ?_)
  refine i_iload C dX0_errsAs_6 (lv_at hl 4 rfl) ?_
  refine i_iadd C dX0_errsAs_8 ?_
  refine i_bipush (v := 99) C dX0_errsAs_9 rfl ?_
  refine x_min C hl tw1_230 tw1_231 tw1_8 tw1_232 (Nat.le_of_ble_eq_true rfl) (Nat.le_of_ble_eq_true rfl) dX0_errsAs_11 ?_
  refine i_istoreL C (fun x2 => [(5, .int x2), (0, .ref (G.2.1 1)), (1, .int p1), (2, .int p2), (3, .int p3), (4, .int p4)]) h dX0_errsAs_14 hl (by decide) (fun _ => rfl) (fun x2 ls h hl => ?_)
  refine i_aload_n C dX0_errsAs_16 rfl (lv_at hl 1 rfl) ?_
  refine x_get C hX (fg_1_11 G) tw1_62 dX0_errsAs_17 ?_
  refine i_iload C dX0_errsAs_20 (lv_at hl 5 rfl) ?_
  refine i_iadd C dX0_errsAs_22 ?_
  refine i_bipush (v := 16) C dX0_errsAs_23 rfl ?_
  refine i_iremc C dX0_errsAs_25 (by decide) ?_
  refine i_istoreL C (fun x3 => [(6, .int x3), (5, .int x2), (0, .ref (G.2.1 1)), (1, .int p1), (2, .int p2), (3, .int p3), (4, .int p4)]) h dX0_errsAs_26 hl (by decide) (fun _ => rfl) (fun x3 ls h hl => ?_)
  refine i_iload C dX0_errsAs_28 (lv_at hl 1 rfl) ?_
  refine i_bipush (v := 10) C dX0_errsAs_30 rfl ?_
  refine i_idivc C dX0_errsAs_32 (by decide) ?_
  refine i_istoreL C (fun x4 => [(7, .int x4), (6, .int x3), (5, .int x2), (0, .ref (G.2.1 1)), (1, .int p1), (2, .int p2), (3, .int p3), (4, .int p4)]) h dX0_errsAs_33 hl (by decide) (fun _ => rfl) (fun x4 ls h hl => ?_)
  refine i_iload C dX0_errsAs_35 (lv_at hl 0 rfl) ?_
  refine i_iconst (v := 2) C dX0_errsAs_37 rfl ?_
  refine i_aload_n C dX0_errsAs_38 rfl (lv_at hl 3 rfl) ?_
  refine x_get C hX (fg_1_9 G) tw1_56 dX0_errsAs_39 ?_
  refine i_iload C dX0_errsAs_42 (lv_at hl 1 rfl) ?_
  refine i_ishr C dX0_errsAs_44 ?_
  refine i_iconst (v := 1) C dX0_errsAs_45 rfl ?_
  refine i_iand C dX0_errsAs_46 ?_
  refine i_imul C dX0_errsAs_47 ?_
  refine i_iadd C dX0_errsAs_48 ?_
  refine i_istoreL C (fun x5 => [(8, .int x5), (7, .int x4), (6, .int x3), (5, .int x2), (0, .ref (G.2.1 1)), (1, .int p1), (2, .int p2), (3, .int p3), (4, .int p4)]) h dX0_errsAs_49 hl (by decide) (fun _ => rfl) (fun x5 ls h hl => ?_)
  refine i_iload C dX0_errsAs_51 (lv_at hl 3 rfl) ?_
  refine i_bipush (v := 50) C dX0_errsAs_53 rfl ?_
  refine w_jn1 (fun (x6 : Int32) => ∀ (H : Heap) (locs : List Loc) (ls : Array Slot), lv_has ls 11 [(2, .int p2), (6, .int x3), (7, .int x4), (8, .int x5)] → XW G A (gs Γ) H locs μ → WX Γ H locs 64 ls [.int x6]) h (fun x6 h H locs ls hl hX => ?_) (fun k1 J1 h => ?_)
  · refine i_istore C [(9, .int x6), (2, .int p2), (6, .int x3), (7, .int x4), (8, .int x5)] dX0_errsAs_64 hl (by decide) rfl (fun ls hl => ?_)
    refine i_iload C dX0_errsAs_66 (lv_at hl 3 rfl) ?_
    refine i_iload C dX0_errsAs_68 (lv_at hl 2 rfl) ?_
    refine i_iconst (v := 5) C dX0_errsAs_70 rfl ?_
    refine i_iremc C dX0_errsAs_71 (by decide) ?_
    refine i_iadd C dX0_errsAs_72 ?_
    refine i_iconst (v := 2) C dX0_errsAs_73 rfl ?_
    refine i_isub C dX0_errsAs_74 ?_
    refine i_istoreL C (fun x7 => [(10, .int x7), (9, .int x6), (2, .int p2), (6, .int x3), (7, .int x4), (8, .int x5)]) h dX0_errsAs_75 hl (by decide) (fun _ => rfl) (fun x7 ls h hl => ?_)
    refine i_iload_n C dX0_errsAs_77 rfl (lv_at hl 2 rfl) ?_
    refine i_case h (fun e h => ?_) (fun n1 h => ?_)
    · refine i_tabIn (tgt := 116) C e dX0_errsAs_78 (by decide) (by decide) rfl (by decide) ?_
      refine i_iload C dX0_errsAs_116 (lv_at hl 5 rfl) ?_
      exact x_iretR C hX hr hQ h dX0_errsAs_118
    refine i_case h (fun e h => ?_) (fun n2 h => ?_)
    · refine i_tabIn (tgt := 119) C e dX0_errsAs_78 (by decide) (by decide) rfl (by decide) ?_
      refine i_iload C dX0_errsAs_119 (lv_at hl 0 rfl) ?_
      exact x_iretR C hX hr hQ h dX0_errsAs_121
    refine i_case h (fun e h => ?_) (fun n3 h => ?_)
    · refine i_tabIn (tgt := 122) C e dX0_errsAs_78 (by decide) (by decide) rfl (by decide) ?_
      refine i_iload C dX0_errsAs_122 (lv_at hl 1 rfl) ?_
      exact x_iretR C hX hr hQ h dX0_errsAs_124
    refine i_case h (fun e h => ?_) (fun n4 h => ?_)
    · refine i_tabIn (tgt := 125) C e dX0_errsAs_78 (by decide) (by decide) rfl (by decide) ?_
      refine i_bipush (v := 16) C dX0_errsAs_125 rfl ?_
      refine i_iload C dX0_errsAs_127 (lv_at hl 1 rfl) ?_
      refine i_isub C dX0_errsAs_129 ?_
      exact x_iretR C hX hr hQ h dX0_errsAs_130
    refine i_case h (fun e h => ?_) (fun n5 h => ?_)
    · refine i_tabIn (tgt := 131) C e dX0_errsAs_78 (by decide) (by decide) rfl (by decide) ?_
      refine i_iload C dX0_errsAs_131 (lv_at hl 4 rfl) ?_
      refine i_iconst (v := 2) C dX0_errsAs_133 rfl ?_
      refine i_idivc C dX0_errsAs_134 (by decide) ?_
      exact x_iretR C hX hr hQ h dX0_errsAs_135
    refine i_case h (fun e h => ?_) (fun n6 h => ?_)
    · refine i_tabIn (tgt := 136) C e dX0_errsAs_78 (by decide) (by decide) rfl (by decide) ?_
      refine i_iload C dX0_errsAs_136 (lv_at hl 0 rfl) ?_
      refine i_iconst (v := 1) C dX0_errsAs_138 rfl ?_
      refine i_iadd C dX0_errsAs_139 ?_
      exact x_iretR C hX hr hQ h dX0_errsAs_140
    refine i_tabOut (tgt := 141) C (by have := ne_t (n := 1) (by decide) n1; have := ne_t (n := 2) (by decide) n2; have := ne_t (n := 3) (by decide) n3; have := ne_t (n := 4) (by decide) n4; have := ne_t (n := 5) (by decide) n5; have := ne_t (n := 6) (by decide) n6; omega) dX0_errsAs_78 (by decide) ?_
    refine i_iload C dX0_errsAs_141 (lv_at hl 4 rfl) ?_
    exact x_iretR C hX hr hQ h dX0_errsAs_143
  refine i_icmp_lt (tgt := 62) C h dX0_errsAs_55 (by decide) (fun _ h => ?_) (fun _ h => ?_)
  · refine i_iload C dX0_errsAs_62 (lv_at hl 0 rfl) ?_
    exact J1 _ h _ _ _ (lv_sub hl [6, 2, 1, 0] rfl) hX
  refine i_iload_n C dX0_errsAs_58 rfl (lv_at hl 7 rfl) ?_
  refine i_goto (tgt := 64) C dX0_errsAs_59 (by decide) ?_
  exact J1 _ h _ _ _ (lv_sub hl [6, 2, 1, 0] rfl) hX
def f_X0_errs (p1 : Int32) (p2 : Int32) (μ : MM) : Option Int32 := ldi μ 2 8 p1 fun x1 => ldi μ 4 8 p1 fun x2 => bdr (f_X0_errsAs p1 x1 x2 p2 μ) fun x3 => some x3
theorem nd_X0_errs : yX0_errs.cls ≠ "java/lang/invoke/MethodHandle" ∧ yX0_errs.cls ≠ "java/lang/invoke/VarHandle" ∧ (parseMethodDescriptor yX0_errs.desc).map (fun d => d.parameters.length) = some 2 := by decide +kernel
set_option maxHeartbeats 4000000 in
set_option maxRecDepth 100000 in
theorem c_X0_errs (l : Launch) (G : EN)  {p1 p2 : Int32} {μ : MM} {r : Int32} (h : f_X0_errs p1 p2 μ = some r) : XM l G yX0_errs cX0_errs 3 (some .int) 2 51 [.ref (G.2.1 1), .int p1, .int p2] μ (some (.int r)) μ := by
  refine x_met (own := RX0) (by decide +kernel) rfl (Nat.le_of_ble_eq_true rfl) (fun Γ A H ls hg C hr hX hQ hl => ?_)
  have hl : lv_has ls 3 [(0, .ref (G.2.1 1)), (1, .int p1), (2, .int p2)] := hl
  unfold f_X0_errs at h
  refine i_aload_n C dX0_errs_0 rfl (lv_at hl 0 rfl) ?_
  refine i_iload_n C dX0_errs_1 rfl (lv_at hl 1 rfl) ?_
  refine i_aload_n C dX0_errs_2 rfl (lv_at hl 0 rfl) ?_
  refine x_get C hX (fg_1_1 G) tw1_35 dX0_errs_3 ?_
  refine i_iload_n C dX0_errs_6 rfl (lv_at hl 1 rfl) ?_
  refine x_iald C hX (ai_2 G) h dX0_errs_7 (fun x1 h => ?_)
  refine i_aload_n C dX0_errs_8 rfl (lv_at hl 0 rfl) ?_
  refine x_get C hX (fg_1_3 G) tw1_39 dX0_errs_9 ?_
  refine i_iload_n C dX0_errs_12 rfl (lv_at hl 1 rfl) ?_
  refine x_iald C hX (ai_4 G) h dX0_errs_13 (fun x2 h => ?_)
  refine i_iload_n C dX0_errs_14 rfl (lv_at hl 2 rfl) ?_
  obtain ⟨x3, e1, h⟩ := w_bdr h
  refine x_callVi C hX (fg_1_0 G) (c_X0_errsAs (gl Γ) G  e1) [] rfl hl tw1_226 tw1_227 tw1_228 tw1_2 tw1_229 rfl nd_X0_errsAs ⟨(Nat.le_of_ble_eq_true rfl), (Nat.le_of_ble_eq_true rfl)⟩ (Nat.le_of_ble_eq_true rfl) dX0_errs_15 (fun H locs hX => ?_)
  exact x_iretR C hX hr hQ h dX0_errs_18
def f_X4_of (p1 : Int32) (p2 : Int32) (μ : MM) : Option (Int32 × MM) := bdr (f_X4_isCat p1 μ) fun x1 => if x1 = 0 then (bdw (f_X4_finding (-1000001) μ) fun x7 m2 => some (x7, m2)) else (if p2 = 0 then (ldi μ 2 8 p1 fun x2 => some (x2, μ)) else if p2 = 1 then (ldi μ 3 8 p1 fun x3 => some (x3, μ)) else if p2 = 2 then (ldi μ 4 8 p1 fun x4 => some (x4, μ)) else if p2 = 3 then (bdr (f_X0_errs p1 0 μ) fun x5 => some (x5, μ)) else (bdw (f_X4_finding (-1000001) μ) fun x6 m1 => some (x6, m1)))
theorem nd_X4_of : yX4_of.cls ≠ "java/lang/invoke/MethodHandle" ∧ yX4_of.cls ≠ "java/lang/invoke/VarHandle" ∧ (parseMethodDescriptor yX4_of.desc).map (fun d => d.parameters.length) = some 2 := by decide +kernel
set_option maxHeartbeats 4000000 in
set_option maxRecDepth 100000 in
theorem c_X4_of (l : Launch) (G : EN)  {p1 p2 : Int32} {μ : MM} {r : Int32} {m : MM} (h : f_X4_of p1 p2 μ = some (r, m)) : XM l G yX4_of cX4_of 3 (some .int) 3 73 [.ref (G.2.1 0), .int p1, .int p2] μ (some (.int r)) m := by
  refine x_met (own := RX4) (by decide +kernel) rfl (Nat.le_of_ble_eq_true rfl) (fun Γ A H ls hg C hr hX hQ hl => ?_)
  have hl : lv_has ls 3 [(0, .ref (G.2.1 0)), (1, .int p1), (2, .int p2)] := hl
  unfold f_X4_of at h
  refine i_aload_n C dX4_of_0 rfl (lv_at hl 0 rfl) ?_
  refine i_iload_n C dX4_of_1 rfl (lv_at hl 1 rfl) ?_
  obtain ⟨x1, e1, h⟩ := w_bdr h
  refine x_callVi C hX (fg_0_0 G) (c_X4_isCat (gl Γ) G  e1) [] rfl hl tw1_218 tw1_220 ts1_1 tw1_1 tw1_221 rfl nd_X4_isCat ⟨(Nat.le_of_ble_eq_true rfl), (Nat.le_of_ble_eq_true rfl)⟩ (Nat.le_of_ble_eq_true rfl) dX4_of_2 (fun H locs hX => ?_)
  refine i_if_ne (tgt := 15) C h dX4_of_5 (by decide) (fun _ h => ?_) (fun _ h => ?_)
  · refine i_iload_n C dX4_of_15 rfl (lv_at hl 2 rfl) ?_
    refine i_case h (fun e h => ?_) (fun n1 h => ?_)
    · refine i_tabIn (tgt := 48) C e dX4_of_16 (by decide) (by decide) rfl (by decide) ?_
      refine i_aload_n C dX4_of_48 rfl (lv_at hl 0 rfl) ?_
      refine x_get C hX (fg_0_0 G) tw1_166 dX4_of_49 ?_
      refine x_get C hX (fg_1_1 G) tw1_36 dX4_of_52 ?_
      refine i_iload_n C dX4_of_55 rfl (lv_at hl 1 rfl) ?_
      refine x_iald C hX (ai_2 G) h dX4_of_56 (fun x2 h => ?_)
      exact x_iretW C hX hr hQ h dX4_of_57
    refine i_case h (fun e h => ?_) (fun n2 h => ?_)
    · refine i_tabIn (tgt := 58) C e dX4_of_16 (by decide) (by decide) rfl (by decide) ?_
      refine i_aload_n C dX4_of_58 rfl (lv_at hl 0 rfl) ?_
      refine x_get C hX (fg_0_0 G) tw1_166 dX4_of_59 ?_
      refine x_get C hX (fg_1_2 G) tw1_38 dX4_of_62 ?_
      refine i_iload_n C dX4_of_65 rfl (lv_at hl 1 rfl) ?_
      refine x_iald C hX (ai_3 G) h dX4_of_66 (fun x3 h => ?_)
      exact x_iretW C hX hr hQ h dX4_of_67
    refine i_case h (fun e h => ?_) (fun n3 h => ?_)
    · refine i_tabIn (tgt := 68) C e dX4_of_16 (by decide) (by decide) rfl (by decide) ?_
      refine i_aload_n C dX4_of_68 rfl (lv_at hl 0 rfl) ?_
      refine x_get C hX (fg_0_0 G) tw1_166 dX4_of_69 ?_
      refine x_get C hX (fg_1_3 G) tw1_40 dX4_of_72 ?_
      refine i_iload_n C dX4_of_75 rfl (lv_at hl 1 rfl) ?_
      refine x_iald C hX (ai_4 G) h dX4_of_76 (fun x4 h => ?_)
      exact x_iretW C hX hr hQ h dX4_of_77
    refine i_case h (fun e h => ?_) (fun n4 h => ?_)
    · refine i_tabIn (tgt := 78) C e dX4_of_16 (by decide) (by decide) rfl (by decide) ?_
      refine i_aload_n C dX4_of_78 rfl (lv_at hl 0 rfl) ?_
      refine x_get C hX (fg_0_0 G) tw1_166 dX4_of_79 ?_
      refine i_iload_n C dX4_of_82 rfl (lv_at hl 1 rfl) ?_
      refine i_iconst (v := 0) C dX4_of_83 rfl ?_
      obtain ⟨x5, e2, h⟩ := w_bdr h
      refine x_callVi C hX (fg_1_0 G) (c_X0_errs (gl Γ) G  e2) [] rfl hl tw1_222 tw1_223 tw1_224 tw1_2 tw1_225 rfl nd_X0_errs ⟨(Nat.le_of_ble_eq_true rfl), (Nat.le_of_ble_eq_true rfl)⟩ (Nat.le_of_ble_eq_true rfl) dX4_of_84 (fun H locs hX => ?_)
      exact x_iretW C hX hr hQ h dX4_of_87
    refine i_tabOut (tgt := 88) C (by have := ne_t (n := 0) (by decide) n1; have := ne_t (n := 1) (by decide) n2; have := ne_t (n := 2) (by decide) n3; have := ne_t (n := 3) (by decide) n4; omega) dX4_of_16 (by decide) ?_
    refine i_aload_n C dX4_of_88 rfl (lv_at hl 0 rfl) ?_
    refine i_ldc C tw1_204 dX4_of_89 ?_
    obtain ⟨x6, m1, e3, h⟩ := w_bdw h
    refine x_callVi C hX (fg_0_0 G) (c_X4_finding (gl Γ) G  e3) [] rfl hl tw1_205 tw1_207 ts1_0 tw1_1 tw1_208 rfl nd_X4_finding ⟨(Nat.le_of_ble_eq_true rfl), (Nat.le_of_ble_eq_true rfl)⟩ (Nat.le_of_ble_eq_true rfl) dX4_of_91 (fun H locs hX => ?_)
    exact x_iretW C hX hr hQ h dX4_of_94
  refine i_aload_n C dX4_of_8 rfl (lv_at hl 0 rfl) ?_
  refine i_ldc C tw1_204 dX4_of_9 ?_
  obtain ⟨x7, m2, e4, h⟩ := w_bdw h
  refine x_callVi C hX (fg_0_0 G) (c_X4_finding (gl Γ) G  e4) [] rfl hl tw1_205 tw1_207 ts1_0 tw1_1 tw1_208 rfl nd_X4_finding ⟨(Nat.le_of_ble_eq_true rfl), (Nat.le_of_ble_eq_true rfl)⟩ (Nat.le_of_ble_eq_true rfl) dX4_of_11 (fun H locs hX => ?_)
  exact x_iretW C hX hr hQ h dX4_of_14
def f_X4_put (ka : Nat) (na : Nat) (p1 : Int32) (p2 : Int32) (μ : MM) : Option (Int32 × MM) := ldi μ ka na p1 fun x1 => sti μ ka na p1 p2 fun m1 => some (x1, m1)
theorem nd_X4_put : yX4_put.cls ≠ "java/lang/invoke/MethodHandle" ∧ yX4_put.cls ≠ "java/lang/invoke/VarHandle" ∧ (parseMethodDescriptor yX4_put.desc).map (fun d => d.parameters.length) = some 3 := by decide +kernel
set_option maxHeartbeats 4000000 in
set_option maxRecDepth 100000 in
theorem c_X4_put (l : Launch) (G : EN) {ka na : Nat} (ha : AI G ka na) {p1 p2 : Int32} {μ : MM} {r : Int32} {m : MM} (h : f_X4_put ka na p1 p2 μ = some (r, m)) : XM l G yX4_put cX4_put 4 (some .int) 0 0 [.ref (G.2.1 ka), .int p1, .int p2] μ (some (.int r)) m := by
  refine x_met (own := RX4) (by decide +kernel) rfl (Nat.le_of_ble_eq_true rfl) (fun Γ A H ls hg C hr hX hQ hl => ?_)
  have hl : lv_has ls 4 [(0, .ref (G.2.1 ka)), (1, .int p1), (2, .int p2)] := hl
  unfold f_X4_put at h
  refine i_aload_n C dX4_put_0 rfl (lv_at hl 0 rfl) ?_
  refine i_iload_n C dX4_put_1 rfl (lv_at hl 1 rfl) ?_
  refine x_iald C hX ha h dX4_put_2 (fun x1 h => ?_)
  refine i_istore_n C [(3, .int x1), (0, .ref (G.2.1 ka)), (1, .int p1), (2, .int p2)] dX4_put_3 rfl hl (by decide) rfl (fun ls hl => ?_)
  refine i_aload_n C dX4_put_4 rfl (lv_at hl 1 rfl) ?_
  refine i_iload_n C dX4_put_5 rfl (lv_at hl 2 rfl) ?_
  refine i_iload_n C dX4_put_6 rfl (lv_at hl 3 rfl) ?_
  refine x_iast C hX ha h dX4_put_7 (fun H locs m1 h hX => ?_)
  refine i_iload_n C dX4_put_8 rfl (lv_at hl 0 rfl) ?_
  exact x_iretW C hX hr hQ h dX4_put_9
def f_X4_change (p1 : Int32) (p2 : Int32) (p3 : Int32) (μ : MM) : Option (Int32 × MM) := bdr (f_X4_isCat p1 μ) fun x1 => if x1 = 0 then (bdw (f_X4_finding (-1000001) μ) fun x10 m6 => some (x10, m6)) else (jn0 (jn0 (if p2 = 2 then (bdr (f_X4_isWithin p3 (-15) 15) fun x3 => if x3 = 0 then (bdw (f_X4_finding (-1000001) μ) fun x4 m2 => some (x4, m2)) else (bdw (f_X4_put 4 8 p1 p3 μ) fun x5 m3 => some (x5, m3))) else (bdw (f_X4_finding (-1000001) μ) fun x2 m1 => some (x2, m1))) fun k1 => if p2 = 1 then (bdr (f_X4_isWithin p3 0 99) fun x6 => if x6 = 0 then (k1) else (bdw (f_X4_put 3 8 p1 p3 μ) fun x7 m4 => some (x7, m4))) else (k1)) fun k2 => if p2 = 0 then (bdr (f_X4_isKind p3) fun x8 => if x8 = 0 then (k2) else (bdw (f_X4_put 2 8 p1 p3 μ) fun x9 m5 => some (x9, m5))) else (k2))
theorem nd_X4_change : yX4_change.cls ≠ "java/lang/invoke/MethodHandle" ∧ yX4_change.cls ≠ "java/lang/invoke/VarHandle" ∧ (parseMethodDescriptor yX4_change.desc).map (fun d => d.parameters.length) = some 3 := by decide +kernel
set_option maxHeartbeats 4000000 in
set_option maxRecDepth 100000 in
theorem c_X4_change (l : Launch) (G : EN)  {p1 p2 p3 : Int32} {μ : MM} {r : Int32} {m : MM} (h : f_X4_change p1 p2 p3 μ = some (r, m)) : XM l G yX4_change cX4_change 4 (some .int) 2 43 [.ref (G.2.1 0), .int p1, .int p2, .int p3] μ (some (.int r)) m := by
  refine x_met (own := RX4) (by decide +kernel) rfl (Nat.le_of_ble_eq_true rfl) (fun Γ A H ls hg C hr hX hQ hl => ?_)
  have hl : lv_has ls 4 [(0, .ref (G.2.1 0)), (1, .int p1), (2, .int p2), (3, .int p3)] := hl
  unfold f_X4_change at h
  refine i_aload_n C dX4_change_0 rfl (lv_at hl 0 rfl) ?_
  refine i_iload_n C dX4_change_1 rfl (lv_at hl 1 rfl) ?_
  obtain ⟨x1, e1, h⟩ := w_bdr h
  refine x_callVi C hX (fg_0_0 G) (c_X4_isCat (gl Γ) G  e1) [] rfl hl tw1_218 tw1_220 ts1_1 tw1_1 tw1_221 rfl nd_X4_isCat ⟨(Nat.le_of_ble_eq_true rfl), (Nat.le_of_ble_eq_true rfl)⟩ (Nat.le_of_ble_eq_true rfl) dX4_change_2 (fun H locs hX => ?_)
  refine i_if_ne (tgt := 15) C h dX4_change_5 (by decide) (fun _ h => ?_) (fun _ h => ?_)
  · refine i_iload_n C dX4_change_15 rfl (lv_at hl 2 rfl) ?_
    refine w_jn0 (∀ (H : Heap) (locs : List Loc) (ls : Array Slot), lv_has ls 4 [(0, .ref (G.2.1 0)), (1, .int p1), (2, .int p2), (3, .int p3)] → XW G A (gs Γ) H locs μ → WX Γ H locs 39 ls []) h (fun  h H locs ls hl hX => ?_) (fun k2 J2 h => ?_)
    · refine i_iload_n C dX4_change_39 rfl (lv_at hl 2 rfl) ?_
      refine i_iconst (v := 1) C dX4_change_40 rfl ?_
      refine w_jn0 (∀ (H : Heap) (locs : List Loc) (ls : Array Slot), lv_has ls 4 [(0, .ref (G.2.1 0)), (1, .int p1), (2, .int p2), (3, .int p3)] → XW G A (gs Γ) H locs μ → WX Γ H locs 67 ls []) h (fun  h H locs ls hl hX => ?_) (fun k1 J1 h => ?_)
      · refine i_iload_n C dX4_change_67 rfl (lv_at hl 2 rfl) ?_
        refine i_iconst (v := 2) C dX4_change_68 rfl ?_
        refine i_icmp_ne (tgt := 96) C h dX4_change_69 (by decide) (fun _ h => ?_) (fun _ h => ?_)
        · refine i_aload_n C dX4_change_96 rfl (lv_at hl 0 rfl) ?_
          refine i_ldc C tw1_204 dX4_change_97 ?_
          obtain ⟨x2, m1, e2, h⟩ := w_bdw h
          refine x_callVi C hX (fg_0_0 G) (c_X4_finding (gl Γ) G  e2) [] rfl hl tw1_205 tw1_207 ts1_0 tw1_1 tw1_208 rfl nd_X4_finding ⟨(Nat.le_of_ble_eq_true rfl), (Nat.le_of_ble_eq_true rfl)⟩ (Nat.le_of_ble_eq_true rfl) dX4_change_99 (fun H locs hX => ?_)
          exact x_iretW C hX hr hQ h dX4_change_102
        refine i_iload_n C dX4_change_72 rfl (lv_at hl 3 rfl) ?_
        refine i_bipush (v := (-15)) C dX4_change_73 rfl ?_
        refine i_bipush (v := 15) C dX4_change_75 rfl ?_
        obtain ⟨x3, e3, h⟩ := w_bdr h
        refine x_callSi C hX (c_X4_isWithin (gl Γ) G  e3) [] rfl hl tw1_201 tw1_202 tw1_1 tw1_203 nd_X4_isWithin ⟨(Nat.le_of_ble_eq_true rfl), (Nat.le_of_ble_eq_true rfl)⟩ (Nat.le_of_ble_eq_true rfl) dX4_change_77 (fun H locs hX => ?_)
        refine i_if_eq (tgt := 96) C h dX4_change_80 (by decide) (fun _ h => ?_) (fun _ h => ?_)
        · refine i_aload_n C dX4_change_96 rfl (lv_at hl 0 rfl) ?_
          refine i_ldc C tw1_204 dX4_change_97 ?_
          obtain ⟨x4, m2, e4, h⟩ := w_bdw h
          refine x_callVi C hX (fg_0_0 G) (c_X4_finding (gl Γ) G  e4) [] rfl hl tw1_205 tw1_207 ts1_0 tw1_1 tw1_208 rfl nd_X4_finding ⟨(Nat.le_of_ble_eq_true rfl), (Nat.le_of_ble_eq_true rfl)⟩ (Nat.le_of_ble_eq_true rfl) dX4_change_99 (fun H locs hX => ?_)
          exact x_iretW C hX hr hQ h dX4_change_102
        refine i_aload_n C dX4_change_83 rfl (lv_at hl 0 rfl) ?_
        refine x_get C hX (fg_0_0 G) tw1_166 dX4_change_84 ?_
        refine x_get C hX (fg_1_3 G) tw1_40 dX4_change_87 ?_
        refine i_iload_n C dX4_change_90 rfl (lv_at hl 1 rfl) ?_
        refine i_iload_n C dX4_change_91 rfl (lv_at hl 3 rfl) ?_
        obtain ⟨x5, m3, e5, h⟩ := w_bdw h
        refine x_callSi C hX (c_X4_put (gl Γ) G (ai_4 G) e5) [] rfl hl tw1_237 tw1_238 tw1_1 tw1_239 nd_X4_put ⟨(Nat.le_of_ble_eq_true rfl), (Nat.le_of_ble_eq_true rfl)⟩ (Nat.le_of_ble_eq_true rfl) dX4_change_92 (fun H locs hX => ?_)
        exact x_iretW C hX hr hQ h dX4_change_95
      refine i_icmp_ne (tgt := 67) C h dX4_change_41 (by decide) (fun _ h => ?_) (fun _ h => ?_)
      · exact J1 h _ _ _ (lv_sub hl [0, 1, 2, 3] rfl) hX
      refine i_iload_n C dX4_change_44 rfl (lv_at hl 3 rfl) ?_
      refine i_iconst (v := 0) C dX4_change_45 rfl ?_
      refine i_bipush (v := 99) C dX4_change_46 rfl ?_
      obtain ⟨x6, e6, h⟩ := w_bdr h
      refine x_callSi C hX (c_X4_isWithin (gl Γ) G  e6) [] rfl hl tw1_201 tw1_202 tw1_1 tw1_203 nd_X4_isWithin ⟨(Nat.le_of_ble_eq_true rfl), (Nat.le_of_ble_eq_true rfl)⟩ (Nat.le_of_ble_eq_true rfl) dX4_change_48 (fun H locs hX => ?_)
      refine i_if_eq (tgt := 67) C h dX4_change_51 (by decide) (fun _ h => ?_) (fun _ h => ?_)
      · exact J1 h _ _ _ (lv_sub hl [0, 1, 2, 3] rfl) hX
      refine i_aload_n C dX4_change_54 rfl (lv_at hl 0 rfl) ?_
      refine x_get C hX (fg_0_0 G) tw1_166 dX4_change_55 ?_
      refine x_get C hX (fg_1_2 G) tw1_38 dX4_change_58 ?_
      refine i_iload_n C dX4_change_61 rfl (lv_at hl 1 rfl) ?_
      refine i_iload_n C dX4_change_62 rfl (lv_at hl 3 rfl) ?_
      obtain ⟨x7, m4, e7, h⟩ := w_bdw h
      refine x_callSi C hX (c_X4_put (gl Γ) G (ai_3 G) e7) [] rfl hl tw1_237 tw1_238 tw1_1 tw1_239 nd_X4_put ⟨(Nat.le_of_ble_eq_true rfl), (Nat.le_of_ble_eq_true rfl)⟩ (Nat.le_of_ble_eq_true rfl) dX4_change_63 (fun H locs hX => ?_)
      exact x_iretW C hX hr hQ h dX4_change_66
    refine i_if_ne (tgt := 39) C h dX4_change_16 (by decide) (fun _ h => ?_) (fun _ h => ?_)
    · exact J2 h _ _ _ (lv_sub hl [0, 1, 2, 3] rfl) hX
    refine i_iload_n C dX4_change_19 rfl (lv_at hl 3 rfl) ?_
    obtain ⟨x8, e8, h⟩ := w_bdr h
    refine x_callSi C hX (c_X4_isKind (gl Γ) G  e8) [] rfl hl tw1_198 tw1_199 tw1_1 tw1_200 nd_X4_isKind ⟨(Nat.le_of_ble_eq_true rfl), (Nat.le_of_ble_eq_true rfl)⟩ (Nat.le_of_ble_eq_true rfl) dX4_change_20 (fun H locs hX => ?_)
    refine i_if_eq (tgt := 39) C h dX4_change_23 (by decide) (fun _ h => ?_) (fun _ h => ?_)
    · exact J2 h _ _ _ (lv_sub hl [0, 1, 2, 3] rfl) hX
    refine i_aload_n C dX4_change_26 rfl (lv_at hl 0 rfl) ?_
    refine x_get C hX (fg_0_0 G) tw1_166 dX4_change_27 ?_
    refine x_get C hX (fg_1_1 G) tw1_36 dX4_change_30 ?_
    refine i_iload_n C dX4_change_33 rfl (lv_at hl 1 rfl) ?_
    refine i_iload_n C dX4_change_34 rfl (lv_at hl 3 rfl) ?_
    obtain ⟨x9, m5, e9, h⟩ := w_bdw h
    refine x_callSi C hX (c_X4_put (gl Γ) G (ai_2 G) e9) [] rfl hl tw1_237 tw1_238 tw1_1 tw1_239 nd_X4_put ⟨(Nat.le_of_ble_eq_true rfl), (Nat.le_of_ble_eq_true rfl)⟩ (Nat.le_of_ble_eq_true rfl) dX4_change_35 (fun H locs hX => ?_)
    exact x_iretW C hX hr hQ h dX4_change_38
  refine i_aload_n C dX4_change_8 rfl (lv_at hl 0 rfl) ?_
  refine i_ldc C tw1_204 dX4_change_9 ?_
  obtain ⟨x10, m6, e10, h⟩ := w_bdw h
  refine x_callVi C hX (fg_0_0 G) (c_X4_finding (gl Γ) G  e10) [] rfl hl tw1_205 tw1_207 ts1_0 tw1_1 tw1_208 rfl nd_X4_finding ⟨(Nat.le_of_ble_eq_true rfl), (Nat.le_of_ble_eq_true rfl)⟩ (Nat.le_of_ble_eq_true rfl) dX4_change_11 (fun H locs hX => ?_)
  exact x_iretW C hX hr hQ h dX4_change_14
def f_X4_isShip (p0 : Int32) : Option Int32 := bdr (f_X4_isWithin p0 0 3) fun x1 => gd (x1 = 0 ∨ x1 = 1) (some x1)
theorem nd_X4_isShip : yX4_isShip.cls ≠ "java/lang/invoke/MethodHandle" ∧ yX4_isShip.cls ≠ "java/lang/invoke/VarHandle" ∧ (parseMethodDescriptor yX4_isShip.desc).map (fun d => d.parameters.length) = some 1 := by decide +kernel
set_option maxHeartbeats 4000000 in
set_option maxRecDepth 100000 in
theorem c_X4_isShip (l : Launch) (G : EN)  {p0 : Int32} {μ : MM} {r : Int32} (h : f_X4_isShip p0 = some r) : XM l G yX4_isShip cX4_isShip 1 (some .boolean) 1 22 [.int p0] μ (some (.int r)) μ := by
  refine x_met (own := RX4) (by decide +kernel) rfl (Nat.le_of_ble_eq_true rfl) (fun Γ A H ls hg C hr hX hQ hl => ?_)
  have hl : lv_has ls 1 [(0, .int p0)] := hl
  unfold f_X4_isShip at h
  refine i_iload_n C dX4_isShip_0 rfl (lv_at hl 0 rfl) ?_
  refine i_iconst (v := 0) C dX4_isShip_1 rfl ?_
  refine i_iconst (v := 3) C dX4_isShip_2 rfl ?_
  obtain ⟨x1, e1, h⟩ := w_bdr h
  refine x_callSi C hX (c_X4_isWithin (gl Γ) G  e1) [] rfl hl tw1_201 tw1_202 tw1_1 tw1_203 nd_X4_isWithin ⟨(Nat.le_of_ble_eq_true rfl), (Nat.le_of_ble_eq_true rfl)⟩ (Nat.le_of_ble_eq_true rfl) dX4_isShip_3 (fun H locs hX => ?_)
  exact x_zretR C hX hr hQ h dX4_isShip_6
def f_X4_isIn (p0 : Int32) (p1 : Int32) : Option Int32 := if ((sr p0 p1) &&& 1) = 1 then (some 1) else (some 0)
theorem nd_X4_isIn : yX4_isIn.cls ≠ "java/lang/invoke/MethodHandle" ∧ yX4_isIn.cls ≠ "java/lang/invoke/VarHandle" ∧ (parseMethodDescriptor yX4_isIn.desc).map (fun d => d.parameters.length) = some 2 := by decide +kernel
set_option maxHeartbeats 4000000 in
set_option maxRecDepth 100000 in
theorem c_X4_isIn (l : Launch) (G : EN)  {p0 p1 : Int32} {μ : MM} {r : Int32} (h : f_X4_isIn p0 p1 = some r) : XM l G yX4_isIn cX4_isIn 2 (some .boolean) 0 0 [.int p0, .int p1] μ (some (.int r)) μ := by
  refine x_met (own := RX4) (by decide +kernel) rfl (Nat.le_of_ble_eq_true rfl) (fun Γ A H ls hg C hr hX hQ hl => ?_)
  have hl : lv_has ls 2 [(0, .int p0), (1, .int p1)] := hl
  unfold f_X4_isIn at h
  refine i_iload_n C dX4_isIn_0 rfl (lv_at hl 0 rfl) ?_
  refine i_iload_n C dX4_isIn_1 rfl (lv_at hl 1 rfl) ?_
  refine i_ishr C dX4_isIn_2 ?_
  refine i_iconst (v := 1) C dX4_isIn_3 rfl ?_
  refine i_iand C dX4_isIn_4 ?_
  refine i_iconst (v := 1) C dX4_isIn_5 rfl ?_
  refine i_icmp_ne (tgt := 13) C h dX4_isIn_6 (by decide) (fun _ h => ?_) (fun _ h => ?_)
  · refine i_iconst (v := 0) C dX4_isIn_13 rfl ?_
    exact x_zcR C hX (by decide) hr hQ h dX4_isIn_14
  refine i_iconst (v := 1) C dX4_isIn_9 rfl ?_
  refine i_goto (tgt := 14) C dX4_isIn_10 (by decide) ?_
  exact x_zcR C hX (by decide) hr hQ h dX4_isIn_14
def L_X0_meanOf_8 (p1 : Int32) (p2 : Int32) (μ : MM) (k1 : Int32 → Int32 → Option Int32) : Nat → Int32 → Int32 → Int32 → Option Int32
  | 0, _, _, _ => none
  | fu + 1, x3, x4, x5 => if (μ 1 0) ≤ x5 then (k1 x3 x4) else (bdr (f_X4_isIn p1 x5) fun x6 => jn2 (fun (x7 : Int32) (x8 : Int32) => lt_ (x5 + 1) fun x9 => L_X0_meanOf_8 p1 p2 μ k1 fu x7 x8 x9) fun k2 => if x6 = 0 then (k2 x3 x4) else (ldi μ 2 8 x5 fun x10 => ldi μ 4 8 x5 fun x11 => bdr (f_X0_errsAs x5 x10 x11 p2 μ) fun x12 => lt_ ((x3 + x12)) fun x13 => lt_ (x4 + 1) fun x14 => k2 x13 x14))
def f_X0_meanOf (p1 : Int32) (p2 : Int32) (μ : MM) : Option Int32 := jn2 (fun (x1 : Int32) (x2 : Int32) => if x2 = 0 then (some 0) else (gd (¬ x2 = 0) (some (x1 / x2)))) fun k1 => L_X0_meanOf_8 p1 p2 μ k1 FU 0 0 0
theorem nd_X0_meanOf : yX0_meanOf.cls ≠ "java/lang/invoke/MethodHandle" ∧ yX0_meanOf.cls ≠ "java/lang/invoke/VarHandle" ∧ (parseMethodDescriptor yX0_meanOf.desc).map (fun d => d.parameters.length) = some 2 := by decide +kernel
set_option maxHeartbeats 4000000 in
set_option maxRecDepth 100000 in
theorem c_X0_meanOf (l : Launch) (G : EN)  {p1 p2 : Int32} {μ : MM} {r : Int32} (h : f_X0_meanOf p1 p2 μ = some r) : XM l G yX0_meanOf cX0_meanOf 6 (some .int) 2 51 [.ref (G.2.1 1), .int p1, .int p2] μ (some (.int r)) μ := by
  refine x_met (own := RX0) (by decide +kernel) rfl (Nat.le_of_ble_eq_true rfl) (fun Γ A H ls hg C hr hX hQ hl => ?_)
  have hl : lv_has ls 6 [(0, .ref (G.2.1 1)), (1, .int p1), (2, .int p2)] := hl
  unfold f_X0_meanOf at h
  refine i_iconst (v := 0) C dX0_meanOf_0 rfl ?_
  refine i_istore_n C [(3, .int 0), (0, .ref (G.2.1 1)), (1, .int p1), (2, .int p2)] dX0_meanOf_1 rfl hl (by decide) rfl (fun ls hl => ?_)
  refine i_iconst (v := 0) C dX0_meanOf_2 rfl ?_
  refine i_istore C [(4, .int 0), (3, .int 0), (0, .ref (G.2.1 1)), (1, .int p1), (2, .int p2)] dX0_meanOf_3 hl (by decide) rfl (fun ls hl => ?_)
  refine i_iconst (v := 0) C dX0_meanOf_5 rfl ?_
  refine i_istore C [(5, .int 0), (4, .int 0), (3, .int 0), (0, .ref (G.2.1 1)), (1, .int p1), (2, .int p2)] dX0_meanOf_6 hl (by decide) rfl (fun ls hl => ?_)
  refine w_jn2 (fun (x1 : Int32) (x2 : Int32) => ∀ (H : Heap) (locs : List Loc) (ls : Array Slot), lv_has ls 6 [(3, .int x1), (4, .int x2)] → XW G A (gs Γ) H locs μ → WX Γ H locs 59 ls []) h (fun x1 x2 h H locs ls hl hX => ?_) (fun k1 J1 h => ?_)
  · refine i_iload C dX0_meanOf_59 (lv_at hl 1 rfl) ?_
    refine i_if_ne (tgt := 68) C h dX0_meanOf_61 (by decide) (fun _ h => ?_) (fun _ h => ?_)
    · refine i_iload_n C dX0_meanOf_68 rfl (lv_at hl 0 rfl) ?_
      refine i_iload C dX0_meanOf_69 (lv_at hl 1 rfl) ?_
      refine i_idiv C h dX0_meanOf_71 (fun h => ?_)
      exact x_iretR C hX hr hQ h dX0_meanOf_72
    refine i_iconst (v := 0) C dX0_meanOf_64 rfl ?_
    refine i_goto (tgt := 72) C dX0_meanOf_65 (by decide) ?_
    exact x_iretR C hX hr hQ h dX0_meanOf_72
  have L1 : ∀ (fu : Nat) (x3 : Int32) (x4 : Int32) (x5 : Int32) (H : Heap) (locs : List Loc) (ls : Array Slot), L_X0_meanOf_8 p1 p2 μ k1 fu x3 x4 x5 = some r → lv_has ls 6 [(0, .ref (G.2.1 1)), (1, .int p1), (2, .int p2), (3, .int x3), (4, .int x4), (5, .int x5)] → XW G A (gs Γ) H locs μ → WX Γ H locs 8 ls [] := by
    intro fu
    induction fu with
    | zero =>
      intro x3 x4 x5 H locs ls h
      rw [L_X0_meanOf_8] at h
      cases h
    | succ fu ih =>
      intro x3 x4 x5 H locs ls h hl hX
      rw [L_X0_meanOf_8] at h
      refine i_iload C dX0_meanOf_8 (lv_at hl 5 rfl) ?_
      refine i_aload_n C dX0_meanOf_10 rfl (lv_at hl 0 rfl) ?_
      refine x_get C hX (fg_1_0 G) tw1_32 dX0_meanOf_11 ?_
      refine i_icmp_ge (tgt := 59) C h dX0_meanOf_14 (by decide) (fun _ h => ?_) (fun _ h => ?_)
      · exact J1 _ _ h _ _ _ (lv_sub hl [3, 4] rfl) hX
      refine i_iload_n C dX0_meanOf_17 rfl (lv_at hl 1 rfl) ?_
      refine i_iload C dX0_meanOf_18 (lv_at hl 5 rfl) ?_
      obtain ⟨x6, e1, h⟩ := w_bdr h
      refine x_callSNi C hX (c_X4_isIn (gl Γ) G  e1) [] rfl hl hX.2.2.2.1.2.1.1 tw2_12 tw1_1 tw2_13 nd_X4_isIn ⟨(Nat.le_of_ble_eq_true rfl), (Nat.le_of_ble_eq_true rfl)⟩ (Nat.le_of_ble_eq_true rfl) dX0_meanOf_20 (fun H locs hX => ?_)
      refine w_jn2 (fun (x7 : Int32) (x8 : Int32) => ∀ (H : Heap) (locs : List Loc) (ls : Array Slot), lv_has ls 6 [(0, .ref (G.2.1 1)), (1, .int p1), (2, .int p2), (3, .int x7), (4, .int x8), (5, .int x5)] → XW G A (gs Γ) H locs μ → WX Γ H locs 53 ls []) h (fun x7 x8 h H locs ls hl hX => ?_) (fun k2 J2 h => ?_)
      · refine i_iinc C (j := 5) (fun x9 => [(5, .int x9), (0, .ref (G.2.1 1)), (1, .int p1), (2, .int p2), (3, .int x7), (4, .int x8)]) h dX0_meanOf_53 hl rfl rfl (by decide) (fun _ => rfl) (fun x9 ls h hl => ?_)
        refine i_goto (tgt := 8) C dX0_meanOf_56 (by decide) ?_
        exact ih _ _ _ _ _ _ h (lv_sub hl [1, 2, 3, 4, 5, 0] rfl) hX
      refine i_if_eq (tgt := 53) C h dX0_meanOf_23 (by decide) (fun _ h => ?_) (fun _ h => ?_)
      · exact J2 _ _ h _ _ _ (lv_sub hl [0, 1, 2, 3, 4, 5] rfl) hX
      refine i_iload_n C dX0_meanOf_26 rfl (lv_at hl 3 rfl) ?_
      refine i_aload_n C dX0_meanOf_27 rfl (lv_at hl 0 rfl) ?_
      refine i_iload C dX0_meanOf_28 (lv_at hl 5 rfl) ?_
      refine i_aload_n C dX0_meanOf_30 rfl (lv_at hl 0 rfl) ?_
      refine x_get C hX (fg_1_1 G) tw1_35 dX0_meanOf_31 ?_
      refine i_iload C dX0_meanOf_34 (lv_at hl 5 rfl) ?_
      refine x_iald C hX (ai_2 G) h dX0_meanOf_36 (fun x10 h => ?_)
      refine i_aload_n C dX0_meanOf_37 rfl (lv_at hl 0 rfl) ?_
      refine x_get C hX (fg_1_3 G) tw1_39 dX0_meanOf_38 ?_
      refine i_iload C dX0_meanOf_41 (lv_at hl 5 rfl) ?_
      refine x_iald C hX (ai_4 G) h dX0_meanOf_43 (fun x11 h => ?_)
      refine i_iload_n C dX0_meanOf_44 rfl (lv_at hl 2 rfl) ?_
      obtain ⟨x12, e2, h⟩ := w_bdr h
      refine x_callVi C hX (fg_1_0 G) (c_X0_errsAs (gl Γ) G  e2) [.int x3] rfl hl tw1_226 tw1_227 tw1_228 tw1_2 tw1_229 rfl nd_X0_errsAs ⟨(Nat.le_of_ble_eq_true rfl), (Nat.le_of_ble_eq_true rfl)⟩ (Nat.le_of_ble_eq_true rfl) dX0_meanOf_45 (fun H locs hX => ?_)
      refine i_iadd C dX0_meanOf_48 ?_
      refine i_istoreL_n C (fun x13 => [(3, .int x13), (0, .ref (G.2.1 1)), (1, .int p1), (2, .int p2), (4, .int x4), (5, .int x5)]) h dX0_meanOf_49 rfl hl (by decide) (fun _ => rfl) (fun x13 ls h hl => ?_)
      refine i_iinc C (j := 4) (fun x14 => [(4, .int x14), (3, .int x13), (0, .ref (G.2.1 1)), (1, .int p1), (2, .int p2), (5, .int x5)]) h dX0_meanOf_50 hl rfl rfl (by decide) (fun _ => rfl) (fun x14 ls h hl => ?_)
      exact J2 _ _ h _ _ _ (lv_sub hl [2, 3, 4, 1, 0, 5] rfl) hX
  exact L1 FU _ _ _ _ _ _ h (lv_sub hl [3, 4, 5, 2, 1, 0] rfl) hX
def f_J9_floorMod_7cf53 (p0 : Int32) (p1 : Int32) : Option Int32 := gd (¬ p1 = 0) (lt_ ((irm p0 p1)) fun x1 => if 0 ≤ (p0 ^^^ p1) then (some x1) else (if x1 = 0 then (some x1) else (some (x1 + p1))))
theorem nd_J9_floorMod_7cf53 : yJ9_floorMod_7cf53.cls ≠ "java/lang/invoke/MethodHandle" ∧ yJ9_floorMod_7cf53.cls ≠ "java/lang/invoke/VarHandle" ∧ (parseMethodDescriptor yJ9_floorMod_7cf53.desc).map (fun d => d.parameters.length) = some 2 := by decide +kernel
set_option maxHeartbeats 4000000 in
set_option maxRecDepth 100000 in
theorem c_J9_floorMod_7cf53 (l : Launch) (G : EN)  {p0 p1 : Int32} {μ : MM} {r : Int32} (h : f_J9_floorMod_7cf53 p0 p1 = some r) : XM l G yJ9_floorMod_7cf53 cJ9_floorMod_7cf53 3 (some .int) 0 0 [.int p0, .int p1] μ (some (.int r)) μ := by
  refine x_met (own := RJ9) (by decide +kernel) rfl (Nat.le_of_ble_eq_true rfl) (fun Γ A H ls hg C hr hX hQ hl => ?_)
  have hl : lv_has ls 3 [(0, .int p0), (1, .int p1)] := hl
  unfold f_J9_floorMod_7cf53 at h
  refine i_iload_n C dJ9_floorMod_7cf53_0 rfl (lv_at hl 0 rfl) ?_
  refine i_iload_n C dJ9_floorMod_7cf53_1 rfl (lv_at hl 1 rfl) ?_
  refine i_irem C h dJ9_floorMod_7cf53_2 (fun h => ?_)
  refine i_istoreL_n C (fun x1 => [(2, .int x1), (0, .int p0), (1, .int p1)]) h dJ9_floorMod_7cf53_3 rfl hl (by decide) (fun _ => rfl) (fun x1 ls h hl => ?_)
  refine i_iload_n C dJ9_floorMod_7cf53_4 rfl (lv_at hl 1 rfl) ?_
  refine i_iload_n C dJ9_floorMod_7cf53_5 rfl (lv_at hl 2 rfl) ?_
  refine i_ixor C dJ9_floorMod_7cf53_6 ?_
  refine i_if_ge (tgt := 18) C h dJ9_floorMod_7cf53_7 (by decide) (fun _ h => ?_) (fun _ h => ?_)
  · refine i_iload_n C dJ9_floorMod_7cf53_18 rfl (lv_at hl 0 rfl) ?_
    exact x_iretR C hX hr hQ h dJ9_floorMod_7cf53_19
  refine i_iload_n C dJ9_floorMod_7cf53_10 rfl (lv_at hl 0 rfl) ?_
  refine i_if_eq (tgt := 18) C h dJ9_floorMod_7cf53_11 (by decide) (fun _ h => ?_) (fun _ h => ?_)
  · refine i_iload_n C dJ9_floorMod_7cf53_18 rfl (lv_at hl 0 rfl) ?_
    exact x_iretR C hX hr hQ h dJ9_floorMod_7cf53_19
  refine i_iload_n C dJ9_floorMod_7cf53_14 rfl (lv_at hl 0 rfl) ?_
  refine i_iload_n C dJ9_floorMod_7cf53_15 rfl (lv_at hl 2 rfl) ?_
  refine i_iadd C dJ9_floorMod_7cf53_16 ?_
  exact x_iretR C hX hr hQ h dJ9_floorMod_7cf53_17
def f_X4_course (p0 : Int32) (p1 : Int32) : Option Int32 := bdr (f_J9_floorMod_7cf53 (p0 + p1) 32) fun x1 => some x1
theorem nd_X4_course : yX4_course.cls ≠ "java/lang/invoke/MethodHandle" ∧ yX4_course.cls ≠ "java/lang/invoke/VarHandle" ∧ (parseMethodDescriptor yX4_course.desc).map (fun d => d.parameters.length) = some 2 := by decide +kernel
set_option maxHeartbeats 4000000 in
set_option maxRecDepth 100000 in
theorem c_X4_course (l : Launch) (G : EN)  {p0 p1 : Int32} {μ : MM} {r : Int32} (h : f_X4_course p0 p1 = some r) : XM l G yX4_course cX4_course 2 (some .int) 1 22 [.int p0, .int p1] μ (some (.int r)) μ := by
  refine x_met (own := RX4) (by decide +kernel) rfl (Nat.le_of_ble_eq_true rfl) (fun Γ A H ls hg C hr hX hQ hl => ?_)
  have hl : lv_has ls 2 [(0, .int p0), (1, .int p1)] := hl
  unfold f_X4_course at h
  refine i_iload_n C dX4_course_0 rfl (lv_at hl 0 rfl) ?_
  refine i_iload_n C dX4_course_1 rfl (lv_at hl 1 rfl) ?_
  refine i_iadd C dX4_course_2 ?_
  refine i_bipush (v := 32) C dX4_course_3 rfl ?_
  obtain ⟨x1, e1, h⟩ := w_bdr h
  refine x_callSi C hX (c_J9_floorMod_7cf53 (gl Γ) G  e1) [] rfl hl tw2_17 tw2_18 tw1_8 tw2_19 nd_J9_floorMod_7cf53 ⟨(Nat.le_of_ble_eq_true rfl), (Nat.le_of_ble_eq_true rfl)⟩ (Nat.le_of_ble_eq_true rfl) dX4_course_5 (fun H locs hX => ?_)
  exact x_iretR C hX hr hQ h dX4_course_8
def f_X4_heading (p0 : Int32) : Option Int32 := some (irm ((p0 + 2) / 4) 8)
theorem nd_X4_heading : yX4_heading.cls ≠ "java/lang/invoke/MethodHandle" ∧ yX4_heading.cls ≠ "java/lang/invoke/VarHandle" ∧ (parseMethodDescriptor yX4_heading.desc).map (fun d => d.parameters.length) = some 1 := by decide +kernel
set_option maxHeartbeats 4000000 in
set_option maxRecDepth 100000 in
theorem c_X4_heading (l : Launch) (G : EN)  {p0 : Int32} {μ : MM} {r : Int32} (h : f_X4_heading p0 = some r) : XM l G yX4_heading cX4_heading 1 (some .int) 0 0 [.int p0] μ (some (.int r)) μ := by
  refine x_met (own := RX4) (by decide +kernel) rfl (Nat.le_of_ble_eq_true rfl) (fun Γ A H ls hg C hr hX hQ hl => ?_)
  have hl : lv_has ls 1 [(0, .int p0)] := hl
  unfold f_X4_heading at h
  refine i_iload_n C dX4_heading_0 rfl (lv_at hl 0 rfl) ?_
  refine i_iconst (v := 2) C dX4_heading_1 rfl ?_
  refine i_iadd C dX4_heading_2 ?_
  refine i_iconst (v := 4) C dX4_heading_3 rfl ?_
  refine i_idivc C dX4_heading_4 (by decide) ?_
  refine i_bipush (v := 8) C dX4_heading_5 rfl ?_
  refine i_iremc C dX4_heading_7 (by decide) ?_
  exact x_iretR C hX hr hQ h dX4_heading_8
def f_X4_beside (p0 : Int32) (p1 : Int32) : Option Int32 := lds 0 8 p1 fun x1 => lt_ (((p0 / 10) + x1)) fun x2 => lds 1 8 p1 fun x3 => lt_ (((irm p0 10) + x3)) fun x4 => bdr (f_X4_isWithin x2 0 9) fun x5 => if x5 = 0 then (some p0) else (bdr (f_X4_isWithin x4 0 9) fun x6 => if x6 = 0 then (some p0) else (some ((x2 * 10) + x4)))
theorem nd_X4_beside : yX4_beside.cls ≠ "java/lang/invoke/MethodHandle" ∧ yX4_beside.cls ≠ "java/lang/invoke/VarHandle" ∧ (parseMethodDescriptor yX4_beside.desc).map (fun d => d.parameters.length) = some 2 := by decide +kernel
set_option maxHeartbeats 4000000 in
set_option maxRecDepth 100000 in
theorem c_X4_beside (l : Launch) (G : EN)  {p0 p1 : Int32} {μ : MM} {r : Int32} (h : f_X4_beside p0 p1 = some r) : XM l G yX4_beside cX4_beside 4 (some .int) 1 22 [.int p0, .int p1] μ (some (.int r)) μ := by
  refine x_met (own := RX4) (by decide +kernel) rfl (Nat.le_of_ble_eq_true rfl) (fun Γ A H ls hg C hr hX hQ hl => ?_)
  have hl : lv_has ls 4 [(0, .int p0), (1, .int p1)] := hl
  unfold f_X4_beside at h
  refine i_iload_n C dX4_beside_0 rfl (lv_at hl 0 rfl) ?_
  refine i_bipush (v := 10) C dX4_beside_1 rfl ?_
  refine i_idivc C dX4_beside_3 (by decide) ?_
  refine x_gets C hX hX.2.2.2.2.1.1.1 tw2_36 dX4_beside_4 ?_
  refine i_iload_n C dX4_beside_7 rfl (lv_at hl 1 rfl) ?_
  refine x_sald C hX hX.2.2.2.2.1.1.2 h dX4_beside_8 (fun x1 h => ?_)
  refine i_iadd C dX4_beside_9 ?_
  refine i_istoreL_n C (fun x2 => [(2, .int x2), (0, .int p0), (1, .int p1)]) h dX4_beside_10 rfl hl (by decide) (fun _ => rfl) (fun x2 ls h hl => ?_)
  refine i_iload_n C dX4_beside_11 rfl (lv_at hl 1 rfl) ?_
  refine i_bipush (v := 10) C dX4_beside_12 rfl ?_
  refine i_iremc C dX4_beside_14 (by decide) ?_
  refine x_gets C hX hX.2.2.2.2.1.2.1.1 tw2_38 dX4_beside_15 ?_
  refine i_iload_n C dX4_beside_18 rfl (lv_at hl 2 rfl) ?_
  refine x_sald C hX hX.2.2.2.2.1.2.1.2 h dX4_beside_19 (fun x3 h => ?_)
  refine i_iadd C dX4_beside_20 ?_
  refine i_istoreL_n C (fun x4 => [(3, .int x4), (2, .int x2), (0, .int p0), (1, .int p1)]) h dX4_beside_21 rfl hl (by decide) (fun _ => rfl) (fun x4 ls h hl => ?_)
  refine i_iload_n C dX4_beside_22 rfl (lv_at hl 1 rfl) ?_
  refine i_iconst (v := 0) C dX4_beside_23 rfl ?_
  refine i_bipush (v := 9) C dX4_beside_24 rfl ?_
  obtain ⟨x5, e1, h⟩ := w_bdr h
  refine x_callSi C hX (c_X4_isWithin (gl Γ) G  e1) [] rfl hl tw1_201 tw1_202 tw1_1 tw1_203 nd_X4_isWithin ⟨(Nat.le_of_ble_eq_true rfl), (Nat.le_of_ble_eq_true rfl)⟩ (Nat.le_of_ble_eq_true rfl) dX4_beside_26 (fun H locs hX => ?_)
  refine i_if_eq (tgt := 42) C h dX4_beside_29 (by decide) (fun _ h => ?_) (fun _ h => ?_)
  · refine i_iload_n C dX4_beside_42 rfl (lv_at hl 2 rfl) ?_
    exact x_iretR C hX hr hQ h dX4_beside_43
  refine i_iload_n C dX4_beside_32 rfl (lv_at hl 0 rfl) ?_
  refine i_iconst (v := 0) C dX4_beside_33 rfl ?_
  refine i_bipush (v := 9) C dX4_beside_34 rfl ?_
  obtain ⟨x6, e2, h⟩ := w_bdr h
  refine x_callSi C hX (c_X4_isWithin (gl Γ) G  e2) [] rfl hl tw1_201 tw1_202 tw1_1 tw1_203 nd_X4_isWithin ⟨(Nat.le_of_ble_eq_true rfl), (Nat.le_of_ble_eq_true rfl)⟩ (Nat.le_of_ble_eq_true rfl) dX4_beside_36 (fun H locs hX => ?_)
  refine i_if_ne (tgt := 44) C h dX4_beside_39 (by decide) (fun _ h => ?_) (fun _ h => ?_)
  · refine i_iload_n C dX4_beside_44 rfl (lv_at hl 1 rfl) ?_
    refine i_bipush (v := 10) C dX4_beside_45 rfl ?_
    refine i_imul C dX4_beside_47 ?_
    refine i_iload_n C dX4_beside_48 rfl (lv_at hl 0 rfl) ?_
    refine i_iadd C dX4_beside_49 ?_
    exact x_iretR C hX hr hQ h dX4_beside_50
  refine i_iload_n C dX4_beside_42 rfl (lv_at hl 2 rfl) ?_
  exact x_iretR C hX hr hQ h dX4_beside_43
def f_X0_nextBy (p1 : Int32) (p2 : Int32) (p3 : Int32) (μ : MM) : Option Int32 := bdr (f_X4_heading p2) fun x1 => ldi μ 8 100 p1 fun x2 => if x2 = 0 then (if x1 = p3 then (some p1) else (bdr (f_X4_beside p1 x1) fun x3 => some x3)) else (some p1)
theorem nd_X0_nextBy : yX0_nextBy.cls ≠ "java/lang/invoke/MethodHandle" ∧ yX0_nextBy.cls ≠ "java/lang/invoke/VarHandle" ∧ (parseMethodDescriptor yX0_nextBy.desc).map (fun d => d.parameters.length) = some 3 := by decide +kernel
set_option maxHeartbeats 4000000 in
set_option maxRecDepth 100000 in
theorem c_X0_nextBy (l : Launch) (G : EN)  {p1 p2 p3 : Int32} {μ : MM} {r : Int32} (h : f_X0_nextBy p1 p2 p3 μ = some r) : XM l G yX0_nextBy cX0_nextBy 5 (some .int) 2 45 [.ref (G.2.1 1), .int p1, .int p2, .int p3] μ (some (.int r)) μ := by
  refine x_met (own := RX0) (by decide +kernel) rfl (Nat.le_of_ble_eq_true rfl) (fun Γ A H ls hg C hr hX hQ hl => ?_)
  have hl : lv_has ls 5 [(0, .ref (G.2.1 1)), (1, .int p1), (2, .int p2), (3, .int p3)] := hl
  unfold f_X0_nextBy at h
  refine i_iload_n C dX0_nextBy_0 rfl (lv_at hl 2 rfl) ?_
  obtain ⟨x1, e1, h⟩ := w_bdr h
  refine x_callSNi C hX (c_X4_heading (gl Γ) G  e1) [] rfl hl hX.2.2.2.1.2.1.2.2.1 tw2_31 tw1_1 tw2_32 nd_X4_heading ⟨(Nat.le_of_ble_eq_true rfl), (Nat.le_of_ble_eq_true rfl)⟩ (Nat.le_of_ble_eq_true rfl) dX0_nextBy_1 (fun H locs hX => ?_)
  refine i_istore C [(4, .int x1), (0, .ref (G.2.1 1)), (1, .int p1), (2, .int p2), (3, .int p3)] dX0_nextBy_4 hl (by decide) rfl (fun ls hl => ?_)
  refine i_aload_n C dX0_nextBy_6 rfl (lv_at hl 1 rfl) ?_
  refine x_get C hX (fg_1_7 G) tw1_50 dX0_nextBy_7 ?_
  refine i_iload_n C dX0_nextBy_10 rfl (lv_at hl 2 rfl) ?_
  refine x_zald C hX (az_8 G) h dX0_nextBy_11 (fun x2 h => ?_)
  refine i_if_ne (tgt := 21) C h dX0_nextBy_12 (by decide) (fun _ h => ?_) (fun _ h => ?_)
  · refine i_iload_n C dX0_nextBy_21 rfl (lv_at hl 2 rfl) ?_
    exact x_iretR C hX hr hQ h dX0_nextBy_22
  refine i_iload C dX0_nextBy_15 (lv_at hl 0 rfl) ?_
  refine i_iload_n C dX0_nextBy_17 rfl (lv_at hl 4 rfl) ?_
  refine i_icmp_ne (tgt := 23) C h dX0_nextBy_18 (by decide) (fun _ h => ?_) (fun _ h => ?_)
  · refine i_iload_n C dX0_nextBy_23 rfl (lv_at hl 2 rfl) ?_
    refine i_iload C dX0_nextBy_24 (lv_at hl 0 rfl) ?_
    obtain ⟨x3, e2, h⟩ := w_bdr h
    refine x_callSNi C hX (c_X4_beside (gl Γ) G  e2) [] rfl hl hX.2.2.2.1.2.1.2.2.2.1 tw2_34 tw1_1 tw2_35 nd_X4_beside ⟨(Nat.le_of_ble_eq_true rfl), (Nat.le_of_ble_eq_true rfl)⟩ (Nat.le_of_ble_eq_true rfl) dX0_nextBy_26 (fun H locs hX => ?_)
    exact x_iretR C hX hr hQ h dX0_nextBy_29
  refine i_iload_n C dX0_nextBy_21 rfl (lv_at hl 2 rfl) ?_
  exact x_iretR C hX hr hQ h dX0_nextBy_22
def f_X0_nextOf (p1 : Int32) (p2 : Int32) (p3 : Int32) (μ : MM) : Option Int32 := ldi μ 6 4 p1 fun x1 => ldi μ 7 4 p1 fun x2 => bdr (f_X0_meanOf x2 p3 μ) fun x3 => bdr (f_X4_course x1 x3) fun x4 => bdr (f_X0_nextBy p2 x4 (μ 1 8) μ) fun x5 => some x5
theorem nd_X0_nextOf : yX0_nextOf.cls ≠ "java/lang/invoke/MethodHandle" ∧ yX0_nextOf.cls ≠ "java/lang/invoke/VarHandle" ∧ (parseMethodDescriptor yX0_nextOf.desc).map (fun d => d.parameters.length) = some 3 := by decide +kernel
set_option maxHeartbeats 4000000 in
set_option maxRecDepth 100000 in
theorem c_X0_nextOf (l : Launch) (G : EN)  {p1 p2 p3 : Int32} {μ : MM} {r : Int32} (h : f_X0_nextOf p1 p2 p3 μ = some r) : XM l G yX0_nextOf cX0_nextOf 4 (some .int) 3 76 [.ref (G.2.1 1), .int p1, .int p2, .int p3] μ (some (.int r)) μ := by
  refine x_met (own := RX0) (by decide +kernel) rfl (Nat.le_of_ble_eq_true rfl) (fun Γ A H ls hg C hr hX hQ hl => ?_)
  have hl : lv_has ls 4 [(0, .ref (G.2.1 1)), (1, .int p1), (2, .int p2), (3, .int p3)] := hl
  unfold f_X0_nextOf at h
  refine i_aload_n C dX0_nextOf_0 rfl (lv_at hl 0 rfl) ?_
  refine i_iload_n C dX0_nextOf_1 rfl (lv_at hl 2 rfl) ?_
  refine i_aload_n C dX0_nextOf_2 rfl (lv_at hl 0 rfl) ?_
  refine x_get C hX (fg_1_5 G) tw1_44 dX0_nextOf_3 ?_
  refine i_iload_n C dX0_nextOf_6 rfl (lv_at hl 1 rfl) ?_
  refine x_iald C hX (ai_6 G) h dX0_nextOf_7 (fun x1 h => ?_)
  refine i_aload_n C dX0_nextOf_8 rfl (lv_at hl 0 rfl) ?_
  refine i_aload_n C dX0_nextOf_9 rfl (lv_at hl 0 rfl) ?_
  refine x_get C hX (fg_1_6 G) tw1_47 dX0_nextOf_10 ?_
  refine i_iload_n C dX0_nextOf_13 rfl (lv_at hl 1 rfl) ?_
  refine x_iald C hX (ai_7 G) h dX0_nextOf_14 (fun x2 h => ?_)
  refine i_iload_n C dX0_nextOf_15 rfl (lv_at hl 3 rfl) ?_
  obtain ⟨x3, e1, h⟩ := w_bdr h
  refine x_callVi C hX (fg_1_0 G) (c_X0_meanOf (gl Γ) G  e1) [.int x1, .int p2, .ref (G.2.1 1)] rfl hl tw2_24 tw2_8 tw2_9 tw1_2 tw2_10 rfl nd_X0_meanOf ⟨(Nat.le_of_ble_eq_true rfl), (Nat.le_of_ble_eq_true rfl)⟩ (Nat.le_of_ble_eq_true rfl) dX0_nextOf_16 (fun H locs hX => ?_)
  obtain ⟨x4, e2, h⟩ := w_bdr h
  refine x_callSNi C hX (c_X4_course (gl Γ) G  e2) [.int p2, .ref (G.2.1 1)] rfl hl hX.2.2.2.1.2.1.2.1 tw2_15 tw1_1 tw2_16 nd_X4_course ⟨(Nat.le_of_ble_eq_true rfl), (Nat.le_of_ble_eq_true rfl)⟩ (Nat.le_of_ble_eq_true rfl) dX0_nextOf_19 (fun H locs hX => ?_)
  refine i_aload_n C dX0_nextOf_22 rfl (lv_at hl 0 rfl) ?_
  refine x_get C hX (fg_1_8 G) tw1_53 dX0_nextOf_23 ?_
  obtain ⟨x5, e3, h⟩ := w_bdr h
  refine x_callVi C hX (fg_1_0 G) (c_X0_nextBy (gl Γ) G  e3) [] rfl hl tw2_26 tw2_27 tw2_28 tw1_2 tw2_29 rfl nd_X0_nextBy ⟨(Nat.le_of_ble_eq_true rfl), (Nat.le_of_ble_eq_true rfl)⟩ (Nat.le_of_ble_eq_true rfl) dX0_nextOf_26 (fun H locs hX => ?_)
  exact x_iretR C hX hr hQ h dX0_nextOf_29
def f_X0_isLanded (p1 : Int32) (μ : MM) : Option Int32 := ldi μ 5 4 p1 fun x1 => ldi μ 8 100 x1 fun x2 => gd (x2 = 0 ∨ x2 = 1) (some x2)
theorem nd_X0_isLanded : yX0_isLanded.cls ≠ "java/lang/invoke/MethodHandle" ∧ yX0_isLanded.cls ≠ "java/lang/invoke/VarHandle" ∧ (parseMethodDescriptor yX0_isLanded.desc).map (fun d => d.parameters.length) = some 1 := by decide +kernel
set_option maxHeartbeats 4000000 in
set_option maxRecDepth 100000 in
theorem c_X0_isLanded (l : Launch) (G : EN)  {p1 : Int32} {μ : MM} {r : Int32} (h : f_X0_isLanded p1 μ = some r) : XM l G yX0_isLanded cX0_isLanded 2 (some .boolean) 0 0 [.ref (G.2.1 1), .int p1] μ (some (.int r)) μ := by
  refine x_met (own := RX0) (by decide +kernel) rfl (Nat.le_of_ble_eq_true rfl) (fun Γ A H ls hg C hr hX hQ hl => ?_)
  have hl : lv_has ls 2 [(0, .ref (G.2.1 1)), (1, .int p1)] := hl
  unfold f_X0_isLanded at h
  refine i_aload_n C dX0_isLanded_0 rfl (lv_at hl 0 rfl) ?_
  refine x_get C hX (fg_1_7 G) tw1_50 dX0_isLanded_1 ?_
  refine i_aload_n C dX0_isLanded_4 rfl (lv_at hl 0 rfl) ?_
  refine x_get C hX (fg_1_4 G) tw1_41 dX0_isLanded_5 ?_
  refine i_iload_n C dX0_isLanded_8 rfl (lv_at hl 1 rfl) ?_
  refine x_iald C hX (ai_5 G) h dX0_isLanded_9 (fun x1 h => ?_)
  refine x_zald C hX (az_8 G) h dX0_isLanded_10 (fun x2 h => ?_)
  exact x_zretR C hX hr hQ h dX0_isLanded_11
def f_X4_ship (p1 : Int32) (p2 : Int32) (μ : MM) : Option (Int32 × MM) := bdr (f_X4_isShip p1) fun x1 => if x1 = 0 then (bdw (f_X4_finding (-1000001) μ) fun x15 m2 => some (x15, m2)) else (if p2 = 0 then (ldi μ 5 4 p1 fun x2 => some (x2, μ)) else if p2 = 1 then (ldi μ 6 4 p1 fun x3 => some (x3, μ)) else if p2 = 2 then (ldi μ 7 4 p1 fun x4 => some (x4, μ)) else if p2 = 3 then (ldi μ 7 4 p1 fun x5 => bdr (f_X0_meanOf x5 0 μ) fun x6 => some (x6, μ)) else if p2 = 4 then (ldi μ 6 4 p1 fun x7 => ldi μ 7 4 p1 fun x8 => bdr (f_X0_meanOf x8 0 μ) fun x9 => bdr (f_X4_course x7 x9) fun x10 => some (x10, μ)) else if p2 = 5 then (ldi μ 5 4 p1 fun x11 => bdr (f_X0_nextOf p1 x11 0 μ) fun x12 => some (x12, μ)) else if p2 = 6 then (bdr (f_X0_isLanded p1 μ) fun x13 => if x13 = 0 then (some (0, μ)) else (some (1, μ))) else (bdw (f_X4_finding (-1000001) μ) fun x14 m1 => some (x14, m1)))
theorem nd_X4_ship : yX4_ship.cls ≠ "java/lang/invoke/MethodHandle" ∧ yX4_ship.cls ≠ "java/lang/invoke/VarHandle" ∧ (parseMethodDescriptor yX4_ship.desc).map (fun d => d.parameters.length) = some 2 := by decide +kernel
set_option maxHeartbeats 4000000 in
set_option maxRecDepth 100000 in
theorem c_X4_ship (l : Launch) (G : EN)  {p1 p2 : Int32} {μ : MM} {r : Int32} {m : MM} (h : f_X4_ship p1 p2 μ = some (r, m)) : XM l G yX4_ship cX4_ship 3 (some .int) 4 99 [.ref (G.2.1 0), .int p1, .int p2] μ (some (.int r)) m := by
  refine x_met (own := RX4) (by decide +kernel) rfl (Nat.le_of_ble_eq_true rfl) (fun Γ A H ls hg C hr hX hQ hl => ?_)
  have hl : lv_has ls 3 [(0, .ref (G.2.1 0)), (1, .int p1), (2, .int p2)] := hl
  unfold f_X4_ship at h
  refine i_iload_n C dX4_ship_0 rfl (lv_at hl 1 rfl) ?_
  obtain ⟨x1, e1, h⟩ := w_bdr h
  refine x_callSi C hX (c_X4_isShip (gl Γ) G  e1) [] rfl hl tw2_4 tw2_5 tw1_1 tw2_6 nd_X4_isShip ⟨(Nat.le_of_ble_eq_true rfl), (Nat.le_of_ble_eq_true rfl)⟩ (Nat.le_of_ble_eq_true rfl) dX4_ship_1 (fun H locs hX => ?_)
  refine i_if_ne (tgt := 14) C h dX4_ship_4 (by decide) (fun _ h => ?_) (fun _ h => ?_)
  · refine i_iload_n C dX4_ship_14 rfl (lv_at hl 2 rfl) ?_
    refine i_case h (fun e h => ?_) (fun n1 h => ?_)
    · refine i_tabIn (tgt := 56) C e dX4_ship_15 (by decide) (by decide) rfl (by decide) ?_
      refine i_aload_n C dX4_ship_56 rfl (lv_at hl 0 rfl) ?_
      refine x_get C hX (fg_0_0 G) tw1_166 dX4_ship_57 ?_
      refine x_get C hX (fg_1_4 G) tw1_42 dX4_ship_60 ?_
      refine i_iload_n C dX4_ship_63 rfl (lv_at hl 1 rfl) ?_
      refine x_iald C hX (ai_5 G) h dX4_ship_64 (fun x2 h => ?_)
      exact x_iretW C hX hr hQ h dX4_ship_65
    refine i_case h (fun e h => ?_) (fun n2 h => ?_)
    · refine i_tabIn (tgt := 66) C e dX4_ship_15 (by decide) (by decide) rfl (by decide) ?_
      refine i_aload_n C dX4_ship_66 rfl (lv_at hl 0 rfl) ?_
      refine x_get C hX (fg_0_0 G) tw1_166 dX4_ship_67 ?_
      refine x_get C hX (fg_1_5 G) tw1_45 dX4_ship_70 ?_
      refine i_iload_n C dX4_ship_73 rfl (lv_at hl 1 rfl) ?_
      refine x_iald C hX (ai_6 G) h dX4_ship_74 (fun x3 h => ?_)
      exact x_iretW C hX hr hQ h dX4_ship_75
    refine i_case h (fun e h => ?_) (fun n3 h => ?_)
    · refine i_tabIn (tgt := 76) C e dX4_ship_15 (by decide) (by decide) rfl (by decide) ?_
      refine i_aload_n C dX4_ship_76 rfl (lv_at hl 0 rfl) ?_
      refine x_get C hX (fg_0_0 G) tw1_166 dX4_ship_77 ?_
      refine x_get C hX (fg_1_6 G) tw1_48 dX4_ship_80 ?_
      refine i_iload_n C dX4_ship_83 rfl (lv_at hl 1 rfl) ?_
      refine x_iald C hX (ai_7 G) h dX4_ship_84 (fun x4 h => ?_)
      exact x_iretW C hX hr hQ h dX4_ship_85
    refine i_case h (fun e h => ?_) (fun n4 h => ?_)
    · refine i_tabIn (tgt := 86) C e dX4_ship_15 (by decide) (by decide) rfl (by decide) ?_
      refine i_aload_n C dX4_ship_86 rfl (lv_at hl 0 rfl) ?_
      refine x_get C hX (fg_0_0 G) tw1_166 dX4_ship_87 ?_
      refine i_aload_n C dX4_ship_90 rfl (lv_at hl 0 rfl) ?_
      refine x_get C hX (fg_0_0 G) tw1_166 dX4_ship_91 ?_
      refine x_get C hX (fg_1_6 G) tw1_48 dX4_ship_94 ?_
      refine i_iload_n C dX4_ship_97 rfl (lv_at hl 1 rfl) ?_
      refine x_iald C hX (ai_7 G) h dX4_ship_98 (fun x5 h => ?_)
      refine i_iconst (v := 0) C dX4_ship_99 rfl ?_
      obtain ⟨x6, e2, h⟩ := w_bdr h
      refine x_callVi C hX (fg_1_0 G) (c_X0_meanOf (gl Γ) G  e2) [] rfl hl tw2_7 tw2_8 tw2_9 tw1_2 tw2_10 rfl nd_X0_meanOf ⟨(Nat.le_of_ble_eq_true rfl), (Nat.le_of_ble_eq_true rfl)⟩ (Nat.le_of_ble_eq_true rfl) dX4_ship_100 (fun H locs hX => ?_)
      exact x_iretW C hX hr hQ h dX4_ship_103
    refine i_case h (fun e h => ?_) (fun n5 h => ?_)
    · refine i_tabIn (tgt := 104) C e dX4_ship_15 (by decide) (by decide) rfl (by decide) ?_
      refine i_aload_n C dX4_ship_104 rfl (lv_at hl 0 rfl) ?_
      refine x_get C hX (fg_0_0 G) tw1_166 dX4_ship_105 ?_
      refine x_get C hX (fg_1_5 G) tw1_45 dX4_ship_108 ?_
      refine i_iload_n C dX4_ship_111 rfl (lv_at hl 1 rfl) ?_
      refine x_iald C hX (ai_6 G) h dX4_ship_112 (fun x7 h => ?_)
      refine i_aload_n C dX4_ship_113 rfl (lv_at hl 0 rfl) ?_
      refine x_get C hX (fg_0_0 G) tw1_166 dX4_ship_114 ?_
      refine i_aload_n C dX4_ship_117 rfl (lv_at hl 0 rfl) ?_
      refine x_get C hX (fg_0_0 G) tw1_166 dX4_ship_118 ?_
      refine x_get C hX (fg_1_6 G) tw1_48 dX4_ship_121 ?_
      refine i_iload_n C dX4_ship_124 rfl (lv_at hl 1 rfl) ?_
      refine x_iald C hX (ai_7 G) h dX4_ship_125 (fun x8 h => ?_)
      refine i_iconst (v := 0) C dX4_ship_126 rfl ?_
      obtain ⟨x9, e3, h⟩ := w_bdr h
      refine x_callVi C hX (fg_1_0 G) (c_X0_meanOf (gl Γ) G  e3) [.int x7] rfl hl tw2_7 tw2_8 tw2_9 tw1_2 tw2_10 rfl nd_X0_meanOf ⟨(Nat.le_of_ble_eq_true rfl), (Nat.le_of_ble_eq_true rfl)⟩ (Nat.le_of_ble_eq_true rfl) dX4_ship_127 (fun H locs hX => ?_)
      obtain ⟨x10, e4, h⟩ := w_bdr h
      refine x_callSi C hX (c_X4_course (gl Γ) G  e4) [] rfl hl tw2_14 tw2_15 tw1_1 tw2_16 nd_X4_course ⟨(Nat.le_of_ble_eq_true rfl), (Nat.le_of_ble_eq_true rfl)⟩ (Nat.le_of_ble_eq_true rfl) dX4_ship_130 (fun H locs hX => ?_)
      exact x_iretW C hX hr hQ h dX4_ship_133
    refine i_case h (fun e h => ?_) (fun n6 h => ?_)
    · refine i_tabIn (tgt := 134) C e dX4_ship_15 (by decide) (by decide) rfl (by decide) ?_
      refine i_aload_n C dX4_ship_134 rfl (lv_at hl 0 rfl) ?_
      refine x_get C hX (fg_0_0 G) tw1_166 dX4_ship_135 ?_
      refine i_iload_n C dX4_ship_138 rfl (lv_at hl 1 rfl) ?_
      refine i_aload_n C dX4_ship_139 rfl (lv_at hl 0 rfl) ?_
      refine x_get C hX (fg_0_0 G) tw1_166 dX4_ship_140 ?_
      refine x_get C hX (fg_1_4 G) tw1_42 dX4_ship_143 ?_
      refine i_iload_n C dX4_ship_146 rfl (lv_at hl 1 rfl) ?_
      refine x_iald C hX (ai_5 G) h dX4_ship_147 (fun x11 h => ?_)
      refine i_iconst (v := 0) C dX4_ship_148 rfl ?_
      obtain ⟨x12, e5, h⟩ := w_bdr h
      refine x_callVi C hX (fg_1_0 G) (c_X0_nextOf (gl Γ) G  e5) [] rfl hl tw2_20 tw2_21 tw2_22 tw1_2 tw2_23 rfl nd_X0_nextOf ⟨(Nat.le_of_ble_eq_true rfl), (Nat.le_of_ble_eq_true rfl)⟩ (Nat.le_of_ble_eq_true rfl) dX4_ship_149 (fun H locs hX => ?_)
      exact x_iretW C hX hr hQ h dX4_ship_152
    refine i_case h (fun e h => ?_) (fun n7 h => ?_)
    · refine i_tabIn (tgt := 153) C e dX4_ship_15 (by decide) (by decide) rfl (by decide) ?_
      refine i_aload_n C dX4_ship_153 rfl (lv_at hl 0 rfl) ?_
      refine x_get C hX (fg_0_0 G) tw1_166 dX4_ship_154 ?_
      refine i_iload_n C dX4_ship_157 rfl (lv_at hl 1 rfl) ?_
      obtain ⟨x13, e6, h⟩ := w_bdr h
      refine x_callVi C hX (fg_1_0 G) (c_X0_isLanded (gl Γ) G  e6) [] rfl hl tw2_40 tw2_41 tw2_42 tw1_2 tw2_43 rfl nd_X0_isLanded ⟨(Nat.le_of_ble_eq_true rfl), (Nat.le_of_ble_eq_true rfl)⟩ (Nat.le_of_ble_eq_true rfl) dX4_ship_158 (fun H locs hX => ?_)
      refine i_if_eq (tgt := 168) C h dX4_ship_161 (by decide) (fun _ h => ?_) (fun _ h => ?_)
      · refine i_iconst (v := 0) C dX4_ship_168 rfl ?_
        exact x_iretW C hX hr hQ h dX4_ship_169
      refine i_iconst (v := 1) C dX4_ship_164 rfl ?_
      refine i_goto (tgt := 169) C dX4_ship_165 (by decide) ?_
      exact x_iretW C hX hr hQ h dX4_ship_169
    refine i_tabOut (tgt := 170) C (by have := ne_t (n := 0) (by decide) n1; have := ne_t (n := 1) (by decide) n2; have := ne_t (n := 2) (by decide) n3; have := ne_t (n := 3) (by decide) n4; have := ne_t (n := 4) (by decide) n5; have := ne_t (n := 5) (by decide) n6; have := ne_t (n := 6) (by decide) n7; omega) dX4_ship_15 (by decide) ?_
    refine i_aload_n C dX4_ship_170 rfl (lv_at hl 0 rfl) ?_
    refine i_ldc C tw1_204 dX4_ship_171 ?_
    obtain ⟨x14, m1, e7, h⟩ := w_bdw h
    refine x_callVi C hX (fg_0_0 G) (c_X4_finding (gl Γ) G  e7) [] rfl hl tw1_205 tw1_207 ts1_0 tw1_1 tw1_208 rfl nd_X4_finding ⟨(Nat.le_of_ble_eq_true rfl), (Nat.le_of_ble_eq_true rfl)⟩ (Nat.le_of_ble_eq_true rfl) dX4_ship_173 (fun H locs hX => ?_)
    exact x_iretW C hX hr hQ h dX4_ship_176
  refine i_aload_n C dX4_ship_7 rfl (lv_at hl 0 rfl) ?_
  refine i_ldc C tw1_204 dX4_ship_8 ?_
  obtain ⟨x15, m2, e8, h⟩ := w_bdw h
  refine x_callVi C hX (fg_0_0 G) (c_X4_finding (gl Γ) G  e8) [] rfl hl tw1_205 tw1_207 ts1_0 tw1_1 tw1_208 rfl nd_X4_finding ⟨(Nat.le_of_ble_eq_true rfl), (Nat.le_of_ble_eq_true rfl)⟩ (Nat.le_of_ble_eq_true rfl) dX4_ship_10 (fun H locs hX => ?_)
  exact x_iretW C hX hr hQ h dX4_ship_13
def f_X4_isCell (p0 : Int32) : Option Int32 := bdr (f_X4_isWithin p0 0 99) fun x1 => gd (x1 = 0 ∨ x1 = 1) (some x1)
theorem nd_X4_isCell : yX4_isCell.cls ≠ "java/lang/invoke/MethodHandle" ∧ yX4_isCell.cls ≠ "java/lang/invoke/VarHandle" ∧ (parseMethodDescriptor yX4_isCell.desc).map (fun d => d.parameters.length) = some 1 := by decide +kernel
set_option maxHeartbeats 4000000 in
set_option maxRecDepth 100000 in
theorem c_X4_isCell (l : Launch) (G : EN)  {p0 : Int32} {μ : MM} {r : Int32} (h : f_X4_isCell p0 = some r) : XM l G yX4_isCell cX4_isCell 1 (some .boolean) 1 22 [.int p0] μ (some (.int r)) μ := by
  refine x_met (own := RX4) (by decide +kernel) rfl (Nat.le_of_ble_eq_true rfl) (fun Γ A H ls hg C hr hX hQ hl => ?_)
  have hl : lv_has ls 1 [(0, .int p0)] := hl
  unfold f_X4_isCell at h
  refine i_iload_n C dX4_isCell_0 rfl (lv_at hl 0 rfl) ?_
  refine i_iconst (v := 0) C dX4_isCell_1 rfl ?_
  refine i_bipush (v := 99) C dX4_isCell_2 rfl ?_
  obtain ⟨x1, e1, h⟩ := w_bdr h
  refine x_callSi C hX (c_X4_isWithin (gl Γ) G  e1) [] rfl hl tw1_201 tw1_202 tw1_1 tw1_203 nd_X4_isWithin ⟨(Nat.le_of_ble_eq_true rfl), (Nat.le_of_ble_eq_true rfl)⟩ (Nat.le_of_ble_eq_true rfl) dX4_isCell_4 (fun H locs hX => ?_)
  exact x_zretR C hX hr hQ h dX4_isCell_7
def f_X4_isSetOfCats (p1 : Int32) (μ : MM) : Option Int32 := bdr (f_X4_isWithin p1 0 ((sl 1 (μ 1 0)) - 1)) fun x1 => gd (x1 = 0 ∨ x1 = 1) (some x1)
theorem nd_X4_isSetOfCats : yX4_isSetOfCats.cls ≠ "java/lang/invoke/MethodHandle" ∧ yX4_isSetOfCats.cls ≠ "java/lang/invoke/VarHandle" ∧ (parseMethodDescriptor yX4_isSetOfCats.desc).map (fun d => d.parameters.length) = some 1 := by decide +kernel
set_option maxHeartbeats 4000000 in
set_option maxRecDepth 100000 in
theorem c_X4_isSetOfCats (l : Launch) (G : EN)  {p1 : Int32} {μ : MM} {r : Int32} (h : f_X4_isSetOfCats p1 μ = some r) : XM l G yX4_isSetOfCats cX4_isSetOfCats 2 (some .boolean) 1 22 [.ref (G.2.1 0), .int p1] μ (some (.int r)) μ := by
  refine x_met (own := RX4) (by decide +kernel) rfl (Nat.le_of_ble_eq_true rfl) (fun Γ A H ls hg C hr hX hQ hl => ?_)
  have hl : lv_has ls 2 [(0, .ref (G.2.1 0)), (1, .int p1)] := hl
  unfold f_X4_isSetOfCats at h
  refine i_iload_n C dX4_isSetOfCats_0 rfl (lv_at hl 1 rfl) ?_
  refine i_iconst (v := 0) C dX4_isSetOfCats_1 rfl ?_
  refine i_iconst (v := 1) C dX4_isSetOfCats_2 rfl ?_
  refine i_aload_n C dX4_isSetOfCats_3 rfl (lv_at hl 0 rfl) ?_
  refine x_get C hX (fg_0_0 G) tw1_166 dX4_isSetOfCats_4 ?_
  refine x_get C hX (fg_1_0 G) tw1_33 dX4_isSetOfCats_7 ?_
  refine i_ishl C dX4_isSetOfCats_10 ?_
  refine i_iconst (v := 1) C dX4_isSetOfCats_11 rfl ?_
  refine i_isub C dX4_isSetOfCats_12 ?_
  obtain ⟨x1, e1, h⟩ := w_bdr h
  refine x_callSi C hX (c_X4_isWithin (gl Γ) G  e1) [] rfl hl tw1_201 tw1_202 tw1_1 tw1_203 nd_X4_isWithin ⟨(Nat.le_of_ble_eq_true rfl), (Nat.le_of_ble_eq_true rfl)⟩ (Nat.le_of_ble_eq_true rfl) dX4_isSetOfCats_13 (fun H locs hX => ?_)
  exact x_zretR C hX hr hQ h dX4_isSetOfCats_16
def f_X4_steer (p1 : Int32) (p2 : Int32) (p3 : Int32) (μ : MM) : Option (Int32 × MM) := bdr (f_X4_isShip p1) fun x1 => if x1 = 0 then (bdw (f_X4_finding (-1000001) μ) fun x10 m6 => some (x10, m6)) else (jn0 (jn0 (if p2 = 2 then (bdr (f_X4_isSetOfCats p3 μ) fun x3 => if x3 = 0 then (bdw (f_X4_finding (-1000001) μ) fun x4 m2 => some (x4, m2)) else (bdw (f_X4_put 7 4 p1 p3 μ) fun x5 m3 => some (x5, m3))) else (bdw (f_X4_finding (-1000001) μ) fun x2 m1 => some (x2, m1))) fun k1 => if p2 = 1 then (bdr (f_X4_isWithin p3 0 31) fun x6 => if x6 = 0 then (k1) else (bdw (f_X4_put 6 4 p1 p3 μ) fun x7 m4 => some (x7, m4))) else (k1)) fun k2 => if p2 = 0 then (bdr (f_X4_isCell p3) fun x8 => if x8 = 0 then (k2) else (bdw (f_X4_put 5 4 p1 p3 μ) fun x9 m5 => some (x9, m5))) else (k2))
theorem nd_X4_steer : yX4_steer.cls ≠ "java/lang/invoke/MethodHandle" ∧ yX4_steer.cls ≠ "java/lang/invoke/VarHandle" ∧ (parseMethodDescriptor yX4_steer.desc).map (fun d => d.parameters.length) = some 3 := by decide +kernel
set_option maxHeartbeats 4000000 in
set_option maxRecDepth 100000 in
theorem c_X4_steer (l : Launch) (G : EN)  {p1 p2 p3 : Int32} {μ : MM} {r : Int32} {m : MM} (h : f_X4_steer p1 p2 p3 μ = some (r, m)) : XM l G yX4_steer cX4_steer 4 (some .int) 2 43 [.ref (G.2.1 0), .int p1, .int p2, .int p3] μ (some (.int r)) m := by
  refine x_met (own := RX4) (by decide +kernel) rfl (Nat.le_of_ble_eq_true rfl) (fun Γ A H ls hg C hr hX hQ hl => ?_)
  have hl : lv_has ls 4 [(0, .ref (G.2.1 0)), (1, .int p1), (2, .int p2), (3, .int p3)] := hl
  unfold f_X4_steer at h
  refine i_iload_n C dX4_steer_0 rfl (lv_at hl 1 rfl) ?_
  obtain ⟨x1, e1, h⟩ := w_bdr h
  refine x_callSi C hX (c_X4_isShip (gl Γ) G  e1) [] rfl hl tw2_4 tw2_5 tw1_1 tw2_6 nd_X4_isShip ⟨(Nat.le_of_ble_eq_true rfl), (Nat.le_of_ble_eq_true rfl)⟩ (Nat.le_of_ble_eq_true rfl) dX4_steer_1 (fun H locs hX => ?_)
  refine i_if_ne (tgt := 14) C h dX4_steer_4 (by decide) (fun _ h => ?_) (fun _ h => ?_)
  · refine i_iload_n C dX4_steer_14 rfl (lv_at hl 2 rfl) ?_
    refine w_jn0 (∀ (H : Heap) (locs : List Loc) (ls : Array Slot), lv_has ls 4 [(0, .ref (G.2.1 0)), (1, .int p1), (2, .int p2), (3, .int p3)] → XW G A (gs Γ) H locs μ → WX Γ H locs 38 ls []) h (fun  h H locs ls hl hX => ?_) (fun k2 J2 h => ?_)
    · refine i_iload_n C dX4_steer_38 rfl (lv_at hl 2 rfl) ?_
      refine i_iconst (v := 1) C dX4_steer_39 rfl ?_
      refine w_jn0 (∀ (H : Heap) (locs : List Loc) (ls : Array Slot), lv_has ls 4 [(0, .ref (G.2.1 0)), (1, .int p1), (2, .int p2), (3, .int p3)] → XW G A (gs Γ) H locs μ → WX Γ H locs 66 ls []) h (fun  h H locs ls hl hX => ?_) (fun k1 J1 h => ?_)
      · refine i_iload_n C dX4_steer_66 rfl (lv_at hl 2 rfl) ?_
        refine i_iconst (v := 2) C dX4_steer_67 rfl ?_
        refine i_icmp_ne (tgt := 92) C h dX4_steer_68 (by decide) (fun _ h => ?_) (fun _ h => ?_)
        · refine i_aload_n C dX4_steer_92 rfl (lv_at hl 0 rfl) ?_
          refine i_ldc C tw1_204 dX4_steer_93 ?_
          obtain ⟨x2, m1, e2, h⟩ := w_bdw h
          refine x_callVi C hX (fg_0_0 G) (c_X4_finding (gl Γ) G  e2) [] rfl hl tw1_205 tw1_207 ts1_0 tw1_1 tw1_208 rfl nd_X4_finding ⟨(Nat.le_of_ble_eq_true rfl), (Nat.le_of_ble_eq_true rfl)⟩ (Nat.le_of_ble_eq_true rfl) dX4_steer_95 (fun H locs hX => ?_)
          exact x_iretW C hX hr hQ h dX4_steer_98
        refine i_aload_n C dX4_steer_71 rfl (lv_at hl 0 rfl) ?_
        refine i_iload_n C dX4_steer_72 rfl (lv_at hl 3 rfl) ?_
        obtain ⟨x3, e3, h⟩ := w_bdr h
        refine x_callVi C hX (fg_0_0 G) (c_X4_isSetOfCats (gl Γ) G  e3) [] rfl hl tw2_51 tw2_53 ts1_2 tw1_1 tw2_54 rfl nd_X4_isSetOfCats ⟨(Nat.le_of_ble_eq_true rfl), (Nat.le_of_ble_eq_true rfl)⟩ (Nat.le_of_ble_eq_true rfl) dX4_steer_73 (fun H locs hX => ?_)
        refine i_if_eq (tgt := 92) C h dX4_steer_76 (by decide) (fun _ h => ?_) (fun _ h => ?_)
        · refine i_aload_n C dX4_steer_92 rfl (lv_at hl 0 rfl) ?_
          refine i_ldc C tw1_204 dX4_steer_93 ?_
          obtain ⟨x4, m2, e4, h⟩ := w_bdw h
          refine x_callVi C hX (fg_0_0 G) (c_X4_finding (gl Γ) G  e4) [] rfl hl tw1_205 tw1_207 ts1_0 tw1_1 tw1_208 rfl nd_X4_finding ⟨(Nat.le_of_ble_eq_true rfl), (Nat.le_of_ble_eq_true rfl)⟩ (Nat.le_of_ble_eq_true rfl) dX4_steer_95 (fun H locs hX => ?_)
          exact x_iretW C hX hr hQ h dX4_steer_98
        refine i_aload_n C dX4_steer_79 rfl (lv_at hl 0 rfl) ?_
        refine x_get C hX (fg_0_0 G) tw1_166 dX4_steer_80 ?_
        refine x_get C hX (fg_1_6 G) tw1_48 dX4_steer_83 ?_
        refine i_iload_n C dX4_steer_86 rfl (lv_at hl 1 rfl) ?_
        refine i_iload_n C dX4_steer_87 rfl (lv_at hl 3 rfl) ?_
        obtain ⟨x5, m3, e5, h⟩ := w_bdw h
        refine x_callSi C hX (c_X4_put (gl Γ) G (ai_7 G) e5) [] rfl hl tw1_237 tw1_238 tw1_1 tw1_239 nd_X4_put ⟨(Nat.le_of_ble_eq_true rfl), (Nat.le_of_ble_eq_true rfl)⟩ (Nat.le_of_ble_eq_true rfl) dX4_steer_88 (fun H locs hX => ?_)
        exact x_iretW C hX hr hQ h dX4_steer_91
      refine i_icmp_ne (tgt := 66) C h dX4_steer_40 (by decide) (fun _ h => ?_) (fun _ h => ?_)
      · exact J1 h _ _ _ (lv_sub hl [0, 1, 2, 3] rfl) hX
      refine i_iload_n C dX4_steer_43 rfl (lv_at hl 3 rfl) ?_
      refine i_iconst (v := 0) C dX4_steer_44 rfl ?_
      refine i_bipush (v := 31) C dX4_steer_45 rfl ?_
      obtain ⟨x6, e6, h⟩ := w_bdr h
      refine x_callSi C hX (c_X4_isWithin (gl Γ) G  e6) [] rfl hl tw1_201 tw1_202 tw1_1 tw1_203 nd_X4_isWithin ⟨(Nat.le_of_ble_eq_true rfl), (Nat.le_of_ble_eq_true rfl)⟩ (Nat.le_of_ble_eq_true rfl) dX4_steer_47 (fun H locs hX => ?_)
      refine i_if_eq (tgt := 66) C h dX4_steer_50 (by decide) (fun _ h => ?_) (fun _ h => ?_)
      · exact J1 h _ _ _ (lv_sub hl [0, 1, 2, 3] rfl) hX
      refine i_aload_n C dX4_steer_53 rfl (lv_at hl 0 rfl) ?_
      refine x_get C hX (fg_0_0 G) tw1_166 dX4_steer_54 ?_
      refine x_get C hX (fg_1_5 G) tw1_45 dX4_steer_57 ?_
      refine i_iload_n C dX4_steer_60 rfl (lv_at hl 1 rfl) ?_
      refine i_iload_n C dX4_steer_61 rfl (lv_at hl 3 rfl) ?_
      obtain ⟨x7, m4, e7, h⟩ := w_bdw h
      refine x_callSi C hX (c_X4_put (gl Γ) G (ai_6 G) e7) [] rfl hl tw1_237 tw1_238 tw1_1 tw1_239 nd_X4_put ⟨(Nat.le_of_ble_eq_true rfl), (Nat.le_of_ble_eq_true rfl)⟩ (Nat.le_of_ble_eq_true rfl) dX4_steer_62 (fun H locs hX => ?_)
      exact x_iretW C hX hr hQ h dX4_steer_65
    refine i_if_ne (tgt := 38) C h dX4_steer_15 (by decide) (fun _ h => ?_) (fun _ h => ?_)
    · exact J2 h _ _ _ (lv_sub hl [0, 1, 2, 3] rfl) hX
    refine i_iload_n C dX4_steer_18 rfl (lv_at hl 3 rfl) ?_
    obtain ⟨x8, e8, h⟩ := w_bdr h
    refine x_callSi C hX (c_X4_isCell (gl Γ) G  e8) [] rfl hl tw2_48 tw2_49 tw1_1 tw2_50 nd_X4_isCell ⟨(Nat.le_of_ble_eq_true rfl), (Nat.le_of_ble_eq_true rfl)⟩ (Nat.le_of_ble_eq_true rfl) dX4_steer_19 (fun H locs hX => ?_)
    refine i_if_eq (tgt := 38) C h dX4_steer_22 (by decide) (fun _ h => ?_) (fun _ h => ?_)
    · exact J2 h _ _ _ (lv_sub hl [0, 1, 2, 3] rfl) hX
    refine i_aload_n C dX4_steer_25 rfl (lv_at hl 0 rfl) ?_
    refine x_get C hX (fg_0_0 G) tw1_166 dX4_steer_26 ?_
    refine x_get C hX (fg_1_4 G) tw1_42 dX4_steer_29 ?_
    refine i_iload_n C dX4_steer_32 rfl (lv_at hl 1 rfl) ?_
    refine i_iload_n C dX4_steer_33 rfl (lv_at hl 3 rfl) ?_
    obtain ⟨x9, m5, e9, h⟩ := w_bdw h
    refine x_callSi C hX (c_X4_put (gl Γ) G (ai_5 G) e9) [] rfl hl tw1_237 tw1_238 tw1_1 tw1_239 nd_X4_put ⟨(Nat.le_of_ble_eq_true rfl), (Nat.le_of_ble_eq_true rfl)⟩ (Nat.le_of_ble_eq_true rfl) dX4_steer_34 (fun H locs hX => ?_)
    exact x_iretW C hX hr hQ h dX4_steer_37
  refine i_aload_n C dX4_steer_7 rfl (lv_at hl 0 rfl) ?_
  refine i_ldc C tw1_204 dX4_steer_8 ?_
  obtain ⟨x10, m6, e10, h⟩ := w_bdw h
  refine x_callVi C hX (fg_0_0 G) (c_X4_finding (gl Γ) G  e10) [] rfl hl tw1_205 tw1_207 ts1_0 tw1_1 tw1_208 rfl nd_X4_finding ⟨(Nat.le_of_ble_eq_true rfl), (Nat.le_of_ble_eq_true rfl)⟩ (Nat.le_of_ble_eq_true rfl) dX4_steer_10 (fun H locs hX => ?_)
  exact x_iretW C hX hr hQ h dX4_steer_13
def f_X4_island (p1 : Int32) (p2 : Int32) (μ : MM) : Option (Int32 × MM) := bdr (f_X4_isCell p1) fun x1 => if x1 = 0 then (bdw (f_X4_finding (-1000001) μ) fun x2 m1 => some (x2, m1)) else (bdr (f_X4_isWithin p2 0 1) fun x3 => if x3 = 0 then (bdw (f_X4_finding (-1000001) μ) fun x7 m3 => some (x7, m3)) else (ldi μ 8 100 p1 fun x4 => jn1 (fun (x5 : Int32) => stz μ 8 100 p1 x5 fun m2 => jn1 (fun (x6 : Int32) => if x4 = x6 then (some (0, m2)) else (some (1, m2))) fun k1 => if p2 = 1 then (k1 1) else (k1 0)) fun k2 => if p2 = 1 then (k2 1) else (k2 0)))
theorem nd_X4_island : yX4_island.cls ≠ "java/lang/invoke/MethodHandle" ∧ yX4_island.cls ≠ "java/lang/invoke/VarHandle" ∧ (parseMethodDescriptor yX4_island.desc).map (fun d => d.parameters.length) = some 2 := by decide +kernel
set_option maxHeartbeats 4000000 in
set_option maxRecDepth 100000 in
theorem c_X4_island (l : Launch) (G : EN)  {p1 p2 : Int32} {μ : MM} {r : Int32} {m : MM} (h : f_X4_island p1 p2 μ = some (r, m)) : XM l G yX4_island cX4_island 4 (some .int) 2 42 [.ref (G.2.1 0), .int p1, .int p2] μ (some (.int r)) m := by
  refine x_met (own := RX4) (by decide +kernel) rfl (Nat.le_of_ble_eq_true rfl) (fun Γ A H ls hg C hr hX hQ hl => ?_)
  have hl : lv_has ls 4 [(0, .ref (G.2.1 0)), (1, .int p1), (2, .int p2)] := hl
  unfold f_X4_island at h
  refine i_iload_n C dX4_island_0 rfl (lv_at hl 1 rfl) ?_
  obtain ⟨x1, e1, h⟩ := w_bdr h
  refine x_callSi C hX (c_X4_isCell (gl Γ) G  e1) [] rfl hl tw2_48 tw2_49 tw1_1 tw2_50 nd_X4_isCell ⟨(Nat.le_of_ble_eq_true rfl), (Nat.le_of_ble_eq_true rfl)⟩ (Nat.le_of_ble_eq_true rfl) dX4_island_1 (fun H locs hX => ?_)
  refine i_if_eq (tgt := 16) C h dX4_island_4 (by decide) (fun _ h => ?_) (fun _ h => ?_)
  · refine i_aload_n C dX4_island_16 rfl (lv_at hl 0 rfl) ?_
    refine i_ldc C tw1_204 dX4_island_17 ?_
    obtain ⟨x2, m1, e2, h⟩ := w_bdw h
    refine x_callVi C hX (fg_0_0 G) (c_X4_finding (gl Γ) G  e2) [] rfl hl tw1_205 tw1_207 ts1_0 tw1_1 tw1_208 rfl nd_X4_finding ⟨(Nat.le_of_ble_eq_true rfl), (Nat.le_of_ble_eq_true rfl)⟩ (Nat.le_of_ble_eq_true rfl) dX4_island_19 (fun H locs hX => ?_)
    exact x_iretW C hX hr hQ h dX4_island_22
  refine i_iload_n C dX4_island_7 rfl (lv_at hl 2 rfl) ?_
  refine i_iconst (v := 0) C dX4_island_8 rfl ?_
  refine i_iconst (v := 1) C dX4_island_9 rfl ?_
  obtain ⟨x3, e3, h⟩ := w_bdr h
  refine x_callSi C hX (c_X4_isWithin (gl Γ) G  e3) [] rfl hl tw1_201 tw1_202 tw1_1 tw1_203 nd_X4_isWithin ⟨(Nat.le_of_ble_eq_true rfl), (Nat.le_of_ble_eq_true rfl)⟩ (Nat.le_of_ble_eq_true rfl) dX4_island_10 (fun H locs hX => ?_)
  refine i_if_ne (tgt := 23) C h dX4_island_13 (by decide) (fun _ h => ?_) (fun _ h => ?_)
  · refine i_aload_n C dX4_island_23 rfl (lv_at hl 0 rfl) ?_
    refine x_get C hX (fg_0_0 G) tw1_166 dX4_island_24 ?_
    refine x_get C hX (fg_1_7 G) tw1_51 dX4_island_27 ?_
    refine i_iload_n C dX4_island_30 rfl (lv_at hl 1 rfl) ?_
    refine x_zald C hX (az_8 G) h dX4_island_31 (fun x4 h => ?_)
    refine i_istore_n C [(3, .int x4), (0, .ref (G.2.1 0)), (1, .int p1), (2, .int p2)] dX4_island_32 rfl hl (by decide) rfl (fun ls hl => ?_)
    refine i_aload_n C dX4_island_33 rfl (lv_at hl 1 rfl) ?_
    refine x_get C hX (fg_0_0 G) tw1_166 dX4_island_34 ?_
    refine x_get C hX (fg_1_7 G) tw1_51 dX4_island_37 ?_
    refine i_iload_n C dX4_island_40 rfl (lv_at hl 2 rfl) ?_
    refine i_iload_n C dX4_island_41 rfl (lv_at hl 3 rfl) ?_
    refine i_iconst (v := 1) C dX4_island_42 rfl ?_
    refine w_jn1 (fun (x5 : Int32) => ∀ (H : Heap) (locs : List Loc) (ls : Array Slot), lv_has ls 4 [(2, .int p2), (3, .int x4)] → XW G A (gs Γ) H locs μ → WX Γ H locs 51 ls [.int x5, .int p1, .ref (G.2.1 8)]) h (fun x5 h H locs ls hl hX => ?_) (fun k2 J2 h => ?_)
    · refine x_zast C hX (az_8 G) h dX4_island_51 (fun H locs m2 h hX => ?_)
      refine i_iload_n C dX4_island_52 rfl (lv_at hl 1 rfl) ?_
      refine i_iload_n C dX4_island_53 rfl (lv_at hl 0 rfl) ?_
      refine i_iconst (v := 1) C dX4_island_54 rfl ?_
      refine w_jn1 (fun (x6 : Int32) => ∀ (H : Heap) (locs : List Loc) (ls : Array Slot), lv_has ls 4 [] → XW G A (gs Γ) H locs m2 → WX Γ H locs 63 ls [.int x6, .int x4]) h (fun x6 h H locs ls hl hX => ?_) (fun k1 J1 h => ?_)
      · refine i_icmp_ne (tgt := 70) C h dX4_island_63 (by decide) (fun _ h => ?_) (fun _ h => ?_)
        · refine i_iconst (v := 1) C dX4_island_70 rfl ?_
          exact x_iretW C hX hr hQ h dX4_island_71
        refine i_iconst (v := 0) C dX4_island_66 rfl ?_
        refine i_goto (tgt := 71) C dX4_island_67 (by decide) ?_
        exact x_iretW C hX hr hQ h dX4_island_71
      refine i_icmp_ne (tgt := 62) C h dX4_island_55 (by decide) (fun _ h => ?_) (fun _ h => ?_)
      · refine i_iconst (v := 0) C dX4_island_62 rfl ?_
        exact J1 _ h _ _ _ (lv_sub hl [] rfl) hX
      refine i_iconst (v := 1) C dX4_island_58 rfl ?_
      refine i_goto (tgt := 63) C dX4_island_59 (by decide) ?_
      exact J1 _ h _ _ _ (lv_sub hl [] rfl) hX
    refine i_icmp_ne (tgt := 50) C h dX4_island_43 (by decide) (fun _ h => ?_) (fun _ h => ?_)
    · refine i_iconst (v := 0) C dX4_island_50 rfl ?_
      exact J2 _ h _ _ _ (lv_sub hl [3, 0] rfl) hX
    refine i_iconst (v := 1) C dX4_island_46 rfl ?_
    refine i_goto (tgt := 51) C dX4_island_47 (by decide) ?_
    exact J2 _ h _ _ _ (lv_sub hl [3, 0] rfl) hX
  refine i_aload_n C dX4_island_16 rfl (lv_at hl 0 rfl) ?_
  refine i_ldc C tw1_204 dX4_island_17 ?_
  obtain ⟨x7, m3, e4, h⟩ := w_bdw h
  refine x_callVi C hX (fg_0_0 G) (c_X4_finding (gl Γ) G  e4) [] rfl hl tw1_205 tw1_207 ts1_0 tw1_1 tw1_208 rfl nd_X4_finding ⟨(Nat.le_of_ble_eq_true rfl), (Nat.le_of_ble_eq_true rfl)⟩ (Nat.le_of_ble_eq_true rfl) dX4_island_19 (fun H locs hX => ?_)
  exact x_iretW C hX hr hQ h dX4_island_22
def f_X4_wind (p1 : Int32) (μ : MM) : Option (Int32 × MM) := bdr (f_X4_isWithin p1 0 7) fun x1 => if x1 = 0 then (bdw (f_X4_finding (-1000001) μ) fun x3 m2 => some (x3, m2)) else (lt_ ((μ 1 8)) fun x2 => lt_ (wst μ 1 8 p1) fun m1 => some (x2, m1))
theorem nd_X4_wind : yX4_wind.cls ≠ "java/lang/invoke/MethodHandle" ∧ yX4_wind.cls ≠ "java/lang/invoke/VarHandle" ∧ (parseMethodDescriptor yX4_wind.desc).map (fun d => d.parameters.length) = some 1 := by decide +kernel
set_option maxHeartbeats 4000000 in
set_option maxRecDepth 100000 in
theorem c_X4_wind (l : Launch) (G : EN)  {p1 : Int32} {μ : MM} {r : Int32} {m : MM} (h : f_X4_wind p1 μ = some (r, m)) : XM l G yX4_wind cX4_wind 3 (some .int) 1 22 [.ref (G.2.1 0), .int p1] μ (some (.int r)) m := by
  refine x_met (own := RX4) (by decide +kernel) rfl (Nat.le_of_ble_eq_true rfl) (fun Γ A H ls hg C hr hX hQ hl => ?_)
  have hl : lv_has ls 3 [(0, .ref (G.2.1 0)), (1, .int p1)] := hl
  unfold f_X4_wind at h
  refine i_iload_n C dX4_wind_0 rfl (lv_at hl 1 rfl) ?_
  refine i_iconst (v := 0) C dX4_wind_1 rfl ?_
  refine i_bipush (v := 7) C dX4_wind_2 rfl ?_
  obtain ⟨x1, e1, h⟩ := w_bdr h
  refine x_callSi C hX (c_X4_isWithin (gl Γ) G  e1) [] rfl hl tw1_201 tw1_202 tw1_1 tw1_203 nd_X4_isWithin ⟨(Nat.le_of_ble_eq_true rfl), (Nat.le_of_ble_eq_true rfl)⟩ (Nat.le_of_ble_eq_true rfl) dX4_wind_4 (fun H locs hX => ?_)
  refine i_if_ne (tgt := 17) C h dX4_wind_7 (by decide) (fun _ h => ?_) (fun _ h => ?_)
  · refine i_aload_n C dX4_wind_17 rfl (lv_at hl 0 rfl) ?_
    refine x_get C hX (fg_0_0 G) tw1_166 dX4_wind_18 ?_
    refine x_get C hX (fg_1_8 G) tw1_54 dX4_wind_21 ?_
    refine i_istoreL_n C (fun x2 => [(2, .int x2), (0, .ref (G.2.1 0)), (1, .int p1)]) h dX4_wind_24 rfl hl (by decide) (fun _ => rfl) (fun x2 ls h hl => ?_)
    refine i_aload_n C dX4_wind_25 rfl (lv_at hl 1 rfl) ?_
    refine x_get C hX (fg_0_0 G) tw1_166 dX4_wind_26 ?_
    refine i_iload_n C dX4_wind_29 rfl (lv_at hl 2 rfl) ?_
    refine x_putI C hX (fp_1_8 G) h tw1_54 dX4_wind_30 (fun H locs m1 h hX => ?_)
    refine i_iload_n C dX4_wind_33 rfl (lv_at hl 0 rfl) ?_
    exact x_iretW C hX hr hQ h dX4_wind_34
  refine i_aload_n C dX4_wind_10 rfl (lv_at hl 0 rfl) ?_
  refine i_ldc C tw1_204 dX4_wind_11 ?_
  obtain ⟨x3, m2, e2, h⟩ := w_bdw h
  refine x_callVi C hX (fg_0_0 G) (c_X4_finding (gl Γ) G  e2) [] rfl hl tw1_205 tw1_207 ts1_0 tw1_1 tw1_208 rfl nd_X4_finding ⟨(Nat.le_of_ble_eq_true rfl), (Nat.le_of_ble_eq_true rfl)⟩ (Nat.le_of_ble_eq_true rfl) dX4_wind_13 (fun H locs hX => ?_)
  exact x_iretW C hX hr hQ h dX4_wind_16
def f_X4_fish (p1 : Int32) (μ : MM) : Option (Int32 × MM) := bdr (f_X4_isWithin p1 0 65535) fun x1 => if x1 = 0 then (bdw (f_X4_finding (-1000001) μ) fun x3 m2 => some (x3, m2)) else (lt_ ((μ 1 9)) fun x2 => lt_ (wst μ 1 9 p1) fun m1 => some (x2, m1))
theorem nd_X4_fish : yX4_fish.cls ≠ "java/lang/invoke/MethodHandle" ∧ yX4_fish.cls ≠ "java/lang/invoke/VarHandle" ∧ (parseMethodDescriptor yX4_fish.desc).map (fun d => d.parameters.length) = some 1 := by decide +kernel
set_option maxHeartbeats 4000000 in
set_option maxRecDepth 100000 in
theorem c_X4_fish (l : Launch) (G : EN)  {p1 : Int32} {μ : MM} {r : Int32} {m : MM} (h : f_X4_fish p1 μ = some (r, m)) : XM l G yX4_fish cX4_fish 3 (some .int) 1 22 [.ref (G.2.1 0), .int p1] μ (some (.int r)) m := by
  refine x_met (own := RX4) (by decide +kernel) rfl (Nat.le_of_ble_eq_true rfl) (fun Γ A H ls hg C hr hX hQ hl => ?_)
  have hl : lv_has ls 3 [(0, .ref (G.2.1 0)), (1, .int p1)] := hl
  unfold f_X4_fish at h
  refine i_iload_n C dX4_fish_0 rfl (lv_at hl 1 rfl) ?_
  refine i_iconst (v := 0) C dX4_fish_1 rfl ?_
  refine i_ldc C tw2_67 dX4_fish_2 ?_
  obtain ⟨x1, e1, h⟩ := w_bdr h
  refine x_callSi C hX (c_X4_isWithin (gl Γ) G  e1) [] rfl hl tw1_201 tw1_202 tw1_1 tw1_203 nd_X4_isWithin ⟨(Nat.le_of_ble_eq_true rfl), (Nat.le_of_ble_eq_true rfl)⟩ (Nat.le_of_ble_eq_true rfl) dX4_fish_4 (fun H locs hX => ?_)
  refine i_if_ne (tgt := 17) C h dX4_fish_7 (by decide) (fun _ h => ?_) (fun _ h => ?_)
  · refine i_aload_n C dX4_fish_17 rfl (lv_at hl 0 rfl) ?_
    refine x_get C hX (fg_0_0 G) tw1_166 dX4_fish_18 ?_
    refine x_get C hX (fg_1_9 G) tw1_57 dX4_fish_21 ?_
    refine i_istoreL_n C (fun x2 => [(2, .int x2), (0, .ref (G.2.1 0)), (1, .int p1)]) h dX4_fish_24 rfl hl (by decide) (fun _ => rfl) (fun x2 ls h hl => ?_)
    refine i_aload_n C dX4_fish_25 rfl (lv_at hl 1 rfl) ?_
    refine x_get C hX (fg_0_0 G) tw1_166 dX4_fish_26 ?_
    refine i_iload_n C dX4_fish_29 rfl (lv_at hl 2 rfl) ?_
    refine x_putI C hX (fp_1_9 G) h tw1_57 dX4_fish_30 (fun H locs m1 h hX => ?_)
    refine i_iload_n C dX4_fish_33 rfl (lv_at hl 0 rfl) ?_
    exact x_iretW C hX hr hQ h dX4_fish_34
  refine i_aload_n C dX4_fish_10 rfl (lv_at hl 0 rfl) ?_
  refine i_ldc C tw1_204 dX4_fish_11 ?_
  obtain ⟨x3, m2, e2, h⟩ := w_bdw h
  refine x_callVi C hX (fg_0_0 G) (c_X4_finding (gl Γ) G  e2) [] rfl hl tw1_205 tw1_207 ts1_0 tw1_1 tw1_208 rfl nd_X4_finding ⟨(Nat.le_of_ble_eq_true rfl), (Nat.le_of_ble_eq_true rfl)⟩ (Nat.le_of_ble_eq_true rfl) dX4_fish_13 (fun H locs hX => ?_)
  exact x_iretW C hX hr hQ h dX4_fish_16
def f_X4_store (p1 : Int32) (μ : MM) : Option (Int32 × MM) := bdr (f_X4_isWithin p1 0 9999) fun x1 => if x1 = 0 then (bdw (f_X4_finding (-1000001) μ) fun x3 m2 => some (x3, m2)) else (lt_ ((μ 1 10)) fun x2 => lt_ (wst μ 1 10 p1) fun m1 => some (x2, m1))
theorem nd_X4_store : yX4_store.cls ≠ "java/lang/invoke/MethodHandle" ∧ yX4_store.cls ≠ "java/lang/invoke/VarHandle" ∧ (parseMethodDescriptor yX4_store.desc).map (fun d => d.parameters.length) = some 1 := by decide +kernel
set_option maxHeartbeats 4000000 in
set_option maxRecDepth 100000 in
theorem c_X4_store (l : Launch) (G : EN)  {p1 : Int32} {μ : MM} {r : Int32} {m : MM} (h : f_X4_store p1 μ = some (r, m)) : XM l G yX4_store cX4_store 3 (some .int) 1 22 [.ref (G.2.1 0), .int p1] μ (some (.int r)) m := by
  refine x_met (own := RX4) (by decide +kernel) rfl (Nat.le_of_ble_eq_true rfl) (fun Γ A H ls hg C hr hX hQ hl => ?_)
  have hl : lv_has ls 3 [(0, .ref (G.2.1 0)), (1, .int p1)] := hl
  unfold f_X4_store at h
  refine i_iload_n C dX4_store_0 rfl (lv_at hl 1 rfl) ?_
  refine i_iconst (v := 0) C dX4_store_1 rfl ?_
  refine i_sipush (v := 9999) C dX4_store_2 rfl ?_
  obtain ⟨x1, e1, h⟩ := w_bdr h
  refine x_callSi C hX (c_X4_isWithin (gl Γ) G  e1) [] rfl hl tw1_201 tw1_202 tw1_1 tw1_203 nd_X4_isWithin ⟨(Nat.le_of_ble_eq_true rfl), (Nat.le_of_ble_eq_true rfl)⟩ (Nat.le_of_ble_eq_true rfl) dX4_store_5 (fun H locs hX => ?_)
  refine i_if_ne (tgt := 18) C h dX4_store_8 (by decide) (fun _ h => ?_) (fun _ h => ?_)
  · refine i_aload_n C dX4_store_18 rfl (lv_at hl 0 rfl) ?_
    refine x_get C hX (fg_0_0 G) tw1_166 dX4_store_19 ?_
    refine x_get C hX (fg_1_10 G) tw1_61 dX4_store_22 ?_
    refine i_istoreL_n C (fun x2 => [(2, .int x2), (0, .ref (G.2.1 0)), (1, .int p1)]) h dX4_store_25 rfl hl (by decide) (fun _ => rfl) (fun x2 ls h hl => ?_)
    refine i_aload_n C dX4_store_26 rfl (lv_at hl 1 rfl) ?_
    refine x_get C hX (fg_0_0 G) tw1_166 dX4_store_27 ?_
    refine i_iload_n C dX4_store_30 rfl (lv_at hl 2 rfl) ?_
    refine x_putI C hX (fp_1_10 G) h tw1_61 dX4_store_31 (fun H locs m1 h hX => ?_)
    refine i_iload_n C dX4_store_34 rfl (lv_at hl 0 rfl) ?_
    exact x_iretW C hX hr hQ h dX4_store_35
  refine i_aload_n C dX4_store_11 rfl (lv_at hl 0 rfl) ?_
  refine i_ldc C tw1_204 dX4_store_12 ?_
  obtain ⟨x3, m2, e2, h⟩ := w_bdw h
  refine x_callVi C hX (fg_0_0 G) (c_X4_finding (gl Γ) G  e2) [] rfl hl tw1_205 tw1_207 ts1_0 tw1_1 tw1_208 rfl nd_X4_finding ⟨(Nat.le_of_ble_eq_true rfl), (Nat.le_of_ble_eq_true rfl)⟩ (Nat.le_of_ble_eq_true rfl) dX4_store_14 (fun H locs hX => ?_)
  exact x_iretW C hX hr hQ h dX4_store_17
def L_X0_passWatch_33 (k1 : MM → Option MM) : Nat → Int32 → MM → Option MM
  | 0, _, _ => none
  | fu + 1, x1, m4 => if (m4 1 0) ≤ x1 then (k1 m4) else (ldi m4 3 8 x1 fun x2 => sti m4 3 8 x1 (imin (x2 + 1) 99) fun m5 => lt_ (x1 + 1) fun x3 => L_X0_passWatch_33 k1 fu x3 m5)
def L_X0_passWatch_2 (k2 : MM → Option MM) : Nat → Int32 → MM → Option MM
  | 0, _, _ => none
  | fu + 1, x4, m6 => if 4 ≤ x4 then (k2 m6) else (ldi m6 5 4 x4 fun x5 => bdr (f_X0_nextOf x4 x5 0 m6) fun x6 => sti m6 5 4 x4 x6 fun m7 => lt_ (x4 + 1) fun x7 => L_X0_passWatch_2 k2 fu x7 m7)
def f_X0_passWatch (μ : MM) : Option MM := jn1 (fun (m1 : MM) => jn1 (fun (m2 : MM) => lt_ (wst m2 1 11 ((m2 1 11) + 1)) fun m3 => some m3) fun k1 => L_X0_passWatch_33 k1 FU 0 m1) fun k2 => L_X0_passWatch_2 k2 FU 0 μ
theorem nd_X0_passWatch : yX0_passWatch.cls ≠ "java/lang/invoke/MethodHandle" ∧ yX0_passWatch.cls ≠ "java/lang/invoke/VarHandle" ∧ (parseMethodDescriptor yX0_passWatch.desc).map (fun d => d.parameters.length) = some 0 := by decide +kernel
set_option maxHeartbeats 4000000 in
set_option maxRecDepth 100000 in
theorem c_X0_passWatch (l : Launch) (G : EN)  {μ : MM} {r : MM} (h : f_X0_passWatch μ = some r) : XM l G yX0_passWatch cX0_passWatch 2 none 4 99 [.ref (G.2.1 1)] μ none r := by
  refine x_met (own := RX0) (by decide +kernel) rfl (Nat.le_of_ble_eq_true rfl) (fun Γ A H ls hg C hr hX hQ hl => ?_)
  have hl : lv_has ls 2 [(0, .ref (G.2.1 1))] := hl
  unfold f_X0_passWatch at h
  refine i_iconst (v := 0) C dX0_passWatch_0 rfl ?_
  refine i_istore_n C [(1, .int 0), (0, .ref (G.2.1 1))] dX0_passWatch_1 rfl hl (by decide) rfl (fun ls hl => ?_)
  refine w_jn1 (fun (m1 : MM) => ∀ (H : Heap) (locs : List Loc) (ls : Array Slot), lv_has ls 2 [(0, .ref (G.2.1 1))] → XW G A (gs Γ) H locs m1 → WX Γ H locs 31 ls []) h (fun m1 h H locs ls hl hX => ?_) (fun k2 J2 h => ?_)
  · refine i_iconst (v := 0) C dX0_passWatch_31 rfl ?_
    refine i_istore_n C [(1, .int 0), (0, .ref (G.2.1 1))] dX0_passWatch_32 rfl hl (by decide) rfl (fun ls hl => ?_)
    refine w_jn1 (fun (m2 : MM) => ∀ (H : Heap) (locs : List Loc) (ls : Array Slot), lv_has ls 2 [(0, .ref (G.2.1 1))] → XW G A (gs Γ) H locs m2 → WX Γ H locs 66 ls []) h (fun m2 h H locs ls hl hX => ?_) (fun k1 J1 h => ?_)
    · refine i_aload_n C dX0_passWatch_66 rfl (lv_at hl 0 rfl) ?_
      refine i_dup C dX0_passWatch_67 rfl ?_
      refine x_get C hX (fg_1_11 G) tw1_62 dX0_passWatch_68 ?_
      refine i_iconst (v := 1) C dX0_passWatch_71 rfl ?_
      refine i_iadd C dX0_passWatch_72 ?_
      refine x_putI C hX (fp_1_11 G) h tw1_62 dX0_passWatch_73 (fun H locs m3 h hX => ?_)
      exact x_vretV C hX hr hQ h dX0_passWatch_76
    have L1 : ∀ (fu : Nat) (x1 : Int32) (m4 : MM) (H : Heap) (locs : List Loc) (ls : Array Slot), L_X0_passWatch_33 k1 fu x1 m4 = some r → lv_has ls 2 [(0, .ref (G.2.1 1)), (1, .int x1)] → XW G A (gs Γ) H locs m4 → WX Γ H locs 33 ls [] := by
      intro fu
      induction fu with
      | zero =>
        intro x1 m4 H locs ls h
        rw [L_X0_passWatch_33] at h
        cases h
      | succ fu ih =>
        intro x1 m4 H locs ls h hl hX
        rw [L_X0_passWatch_33] at h
        refine i_iload_n C dX0_passWatch_33 rfl (lv_at hl 1 rfl) ?_
        refine i_aload_n C dX0_passWatch_34 rfl (lv_at hl 0 rfl) ?_
        refine x_get C hX (fg_1_0 G) tw1_32 dX0_passWatch_35 ?_
        refine i_icmp_ge (tgt := 66) C h dX0_passWatch_38 (by decide) (fun _ h => ?_) (fun _ h => ?_)
        · exact J1 _ h _ _ _ (lv_sub hl [0] rfl) hX
        refine i_aload_n C dX0_passWatch_41 rfl (lv_at hl 0 rfl) ?_
        refine x_get C hX (fg_1_2 G) tw1_37 dX0_passWatch_42 ?_
        refine i_iload_n C dX0_passWatch_45 rfl (lv_at hl 1 rfl) ?_
        refine i_aload_n C dX0_passWatch_46 rfl (lv_at hl 0 rfl) ?_
        refine x_get C hX (fg_1_2 G) tw1_37 dX0_passWatch_47 ?_
        refine i_iload_n C dX0_passWatch_50 rfl (lv_at hl 1 rfl) ?_
        refine x_iald C hX (ai_3 G) h dX0_passWatch_51 (fun x2 h => ?_)
        refine i_iconst (v := 1) C dX0_passWatch_52 rfl ?_
        refine i_iadd C dX0_passWatch_53 ?_
        refine i_bipush (v := 99) C dX0_passWatch_54 rfl ?_
        refine x_min C hl tw1_230 tw1_231 tw1_8 tw1_232 (Nat.le_of_ble_eq_true rfl) (Nat.le_of_ble_eq_true rfl) dX0_passWatch_56 ?_
        refine x_iast C hX (ai_3 G) h dX0_passWatch_59 (fun H locs m5 h hX => ?_)
        refine i_iinc C (j := 1) (fun x3 => [(1, .int x3), (0, .ref (G.2.1 1))]) h dX0_passWatch_60 hl rfl rfl (by decide) (fun _ => rfl) (fun x3 ls h hl => ?_)
        refine i_goto (tgt := 33) C dX0_passWatch_63 (by decide) ?_
        exact ih _ _ _ _ _ h (lv_sub hl [1, 0] rfl) hX
    exact L1 FU _ _ _ _ _ h (lv_sub hl [1, 0] rfl) hX
  have L2 : ∀ (fu : Nat) (x4 : Int32) (m6 : MM) (H : Heap) (locs : List Loc) (ls : Array Slot), L_X0_passWatch_2 k2 fu x4 m6 = some r → lv_has ls 2 [(0, .ref (G.2.1 1)), (1, .int x4)] → XW G A (gs Γ) H locs m6 → WX Γ H locs 2 ls [] := by
    intro fu
    induction fu with
    | zero =>
      intro x4 m6 H locs ls h
      rw [L_X0_passWatch_2] at h
      cases h
    | succ fu ih =>
      intro x4 m6 H locs ls h hl hX
      rw [L_X0_passWatch_2] at h
      refine i_iload_n C dX0_passWatch_2 rfl (lv_at hl 1 rfl) ?_
      refine i_iconst (v := 4) C dX0_passWatch_3 rfl ?_
      refine i_icmp_ge (tgt := 31) C h dX0_passWatch_4 (by decide) (fun _ h => ?_) (fun _ h => ?_)
      · exact J2 _ h _ _ _ (lv_sub hl [0] rfl) hX
      refine i_aload_n C dX0_passWatch_7 rfl (lv_at hl 0 rfl) ?_
      refine x_get C hX (fg_1_4 G) tw1_41 dX0_passWatch_8 ?_
      refine i_iload_n C dX0_passWatch_11 rfl (lv_at hl 1 rfl) ?_
      refine i_aload_n C dX0_passWatch_12 rfl (lv_at hl 0 rfl) ?_
      refine i_iload_n C dX0_passWatch_13 rfl (lv_at hl 1 rfl) ?_
      refine i_aload_n C dX0_passWatch_14 rfl (lv_at hl 0 rfl) ?_
      refine x_get C hX (fg_1_4 G) tw1_41 dX0_passWatch_15 ?_
      refine i_iload_n C dX0_passWatch_18 rfl (lv_at hl 1 rfl) ?_
      refine x_iald C hX (ai_5 G) h dX0_passWatch_19 (fun x5 h => ?_)
      refine i_iconst (v := 0) C dX0_passWatch_20 rfl ?_
      obtain ⟨x6, e1, h⟩ := w_bdr h
      refine x_callVi C hX (fg_1_0 G) (c_X0_nextOf (gl Γ) G  e1) [.int x4, .ref (G.2.1 5)] rfl hl tw2_82 tw2_21 tw2_22 tw1_2 tw2_23 rfl nd_X0_nextOf ⟨(Nat.le_of_ble_eq_true rfl), (Nat.le_of_ble_eq_true rfl)⟩ (Nat.le_of_ble_eq_true rfl) dX0_passWatch_21 (fun H locs hX => ?_)
      refine x_iast C hX (ai_5 G) h dX0_passWatch_24 (fun H locs m7 h hX => ?_)
      refine i_iinc C (j := 1) (fun x7 => [(1, .int x7), (0, .ref (G.2.1 1))]) h dX0_passWatch_25 hl rfl rfl (by decide) (fun _ => rfl) (fun x7 ls h hl => ?_)
      refine i_goto (tgt := 2) C dX0_passWatch_28 (by decide) ?_
      exact ih _ _ _ _ _ h (lv_sub hl [1, 0] rfl) hX
  exact L2 FU _ _ _ _ _ h (lv_sub hl [1, 0] rfl) hX
def L_X0_landedShips_4 (μ : MM) : Nat → Int32 → Int32 → Option Int32
  | 0, _, _ => none
  | fu + 1, x1, x2 => if 4 ≤ x2 then (some x1) else (bdr (f_X0_isLanded x2 μ) fun x3 => jn1 (fun (x4 : Int32) => lt_ (x2 + 1) fun x5 => L_X0_landedShips_4 μ fu x4 x5) fun k1 => if x3 = 0 then (k1 x1) else (lt_ ((x1 ||| (sl 1 x2))) fun x6 => k1 x6))
def f_X0_landedShips (μ : MM) : Option Int32 := L_X0_landedShips_4 μ FU 0 0
theorem nd_X0_landedShips : yX0_landedShips.cls ≠ "java/lang/invoke/MethodHandle" ∧ yX0_landedShips.cls ≠ "java/lang/invoke/VarHandle" ∧ (parseMethodDescriptor yX0_landedShips.desc).map (fun d => d.parameters.length) = some 0 := by decide +kernel
set_option maxHeartbeats 4000000 in
set_option maxRecDepth 100000 in
theorem c_X0_landedShips (l : Launch) (G : EN)  {μ : MM} {r : Int32} (h : f_X0_landedShips μ = some r) : XM l G yX0_landedShips cX0_landedShips 3 (some .int) 1 21 [.ref (G.2.1 1)] μ (some (.int r)) μ := by
  refine x_met (own := RX0) (by decide +kernel) rfl (Nat.le_of_ble_eq_true rfl) (fun Γ A H ls hg C hr hX hQ hl => ?_)
  have hl : lv_has ls 3 [(0, .ref (G.2.1 1))] := hl
  unfold f_X0_landedShips at h
  refine i_iconst (v := 0) C dX0_landedShips_0 rfl ?_
  refine i_istore_n C [(1, .int 0), (0, .ref (G.2.1 1))] dX0_landedShips_1 rfl hl (by decide) rfl (fun ls hl => ?_)
  refine i_iconst (v := 0) C dX0_landedShips_2 rfl ?_
  refine i_istore_n C [(2, .int 0), (1, .int 0), (0, .ref (G.2.1 1))] dX0_landedShips_3 rfl hl (by decide) rfl (fun ls hl => ?_)
  have L1 : ∀ (fu : Nat) (x1 : Int32) (x2 : Int32) (H : Heap) (locs : List Loc) (ls : Array Slot), L_X0_landedShips_4 μ fu x1 x2 = some r → lv_has ls 3 [(0, .ref (G.2.1 1)), (1, .int x1), (2, .int x2)] → XW G A (gs Γ) H locs μ → WX Γ H locs 4 ls [] := by
    intro fu
    induction fu with
    | zero =>
      intro x1 x2 H locs ls h
      rw [L_X0_landedShips_4] at h
      cases h
    | succ fu ih =>
      intro x1 x2 H locs ls h hl hX
      rw [L_X0_landedShips_4] at h
      refine i_iload_n C dX0_landedShips_4 rfl (lv_at hl 2 rfl) ?_
      refine i_iconst (v := 4) C dX0_landedShips_5 rfl ?_
      refine i_icmp_ge (tgt := 29) C h dX0_landedShips_6 (by decide) (fun _ h => ?_) (fun _ h => ?_)
      · refine i_iload_n C dX0_landedShips_29 rfl (lv_at hl 1 rfl) ?_
        exact x_iretR C hX hr hQ h dX0_landedShips_30
      refine i_aload_n C dX0_landedShips_9 rfl (lv_at hl 0 rfl) ?_
      refine i_iload_n C dX0_landedShips_10 rfl (lv_at hl 2 rfl) ?_
      obtain ⟨x3, e1, h⟩ := w_bdr h
      refine x_callVi C hX (fg_1_0 G) (c_X0_isLanded (gl Γ) G  e1) [] rfl hl tw2_87 tw2_41 tw2_42 tw1_2 tw2_43 rfl nd_X0_isLanded ⟨(Nat.le_of_ble_eq_true rfl), (Nat.le_of_ble_eq_true rfl)⟩ (Nat.le_of_ble_eq_true rfl) dX0_landedShips_11 (fun H locs hX => ?_)
      refine w_jn1 (fun (x4 : Int32) => ∀ (H : Heap) (locs : List Loc) (ls : Array Slot), lv_has ls 3 [(0, .ref (G.2.1 1)), (1, .int x4), (2, .int x2)] → XW G A (gs Γ) H locs μ → WX Γ H locs 23 ls []) h (fun x4 h H locs ls hl hX => ?_) (fun k1 J1 h => ?_)
      · refine i_iinc C (j := 2) (fun x5 => [(2, .int x5), (0, .ref (G.2.1 1)), (1, .int x4)]) h dX0_landedShips_23 hl rfl rfl (by decide) (fun _ => rfl) (fun x5 ls h hl => ?_)
        refine i_goto (tgt := 4) C dX0_landedShips_26 (by decide) ?_
        exact ih _ _ _ _ _ h (lv_sub hl [1, 2, 0] rfl) hX
      refine i_if_eq (tgt := 23) C h dX0_landedShips_14 (by decide) (fun _ h => ?_) (fun _ h => ?_)
      · exact J1 _ h _ _ _ (lv_sub hl [0, 1, 2] rfl) hX
      refine i_iload_n C dX0_landedShips_17 rfl (lv_at hl 1 rfl) ?_
      refine i_iconst (v := 1) C dX0_landedShips_18 rfl ?_
      refine i_iload_n C dX0_landedShips_19 rfl (lv_at hl 2 rfl) ?_
      refine i_ishl C dX0_landedShips_20 ?_
      refine i_ior C dX0_landedShips_21 ?_
      refine i_istoreL_n C (fun x6 => [(1, .int x6), (0, .ref (G.2.1 1)), (2, .int x2)]) h dX0_landedShips_22 rfl hl (by decide) (fun _ => rfl) (fun x6 ls h hl => ?_)
      exact J1 _ h _ _ _ (lv_sub hl [1, 0, 2] rfl) hX
  exact L1 FU _ _ _ _ _ h (lv_sub hl [2, 1, 0] rfl) hX
def f_J6_bitCount_0f7a4 (p0 : Int32) : Option Int32 := lt_ ((p0 - ((ur p0 1) &&& 1431655765))) fun x1 => lt_ (((x1 &&& 858993459) + ((ur x1 2) &&& 858993459))) fun x2 => lt_ (((x2 + (ur x2 4)) &&& 252645135)) fun x3 => lt_ ((x3 + (ur x3 8))) fun x4 => lt_ ((x4 + (ur x4 16))) fun x5 => some (x5 &&& 63)
theorem nd_J6_bitCount_0f7a4 : yJ6_bitCount_0f7a4.cls ≠ "java/lang/invoke/MethodHandle" ∧ yJ6_bitCount_0f7a4.cls ≠ "java/lang/invoke/VarHandle" ∧ (parseMethodDescriptor yJ6_bitCount_0f7a4.desc).map (fun d => d.parameters.length) = some 1 := by decide +kernel
set_option maxHeartbeats 4000000 in
set_option maxRecDepth 100000 in
theorem c_J6_bitCount_0f7a4 (l : Launch) (G : EN)  {p0 : Int32} {μ : MM} {r : Int32} (h : f_J6_bitCount_0f7a4 p0 = some r) : XM l G yJ6_bitCount_0f7a4 cJ6_bitCount_0f7a4 1 (some .int) 0 0 [.int p0] μ (some (.int r)) μ := by
  refine x_met (own := RJ6) (by decide +kernel) rfl (Nat.le_of_ble_eq_true rfl) (fun Γ A H ls hg C hr hX hQ hl => ?_)
  have hl : lv_has ls 1 [(0, .int p0)] := hl
  unfold f_J6_bitCount_0f7a4 at h
  refine i_iload_n C dJ6_bitCount_0f7a4_0 rfl (lv_at hl 0 rfl) ?_
  refine i_iload_n C dJ6_bitCount_0f7a4_1 rfl (lv_at hl 0 rfl) ?_
  refine i_iconst (v := 1) C dJ6_bitCount_0f7a4_2 rfl ?_
  refine i_iushr C dJ6_bitCount_0f7a4_3 ?_
  refine i_ldcw C tw2_91 dJ6_bitCount_0f7a4_4 ?_
  refine i_iand C dJ6_bitCount_0f7a4_7 ?_
  refine i_isub C dJ6_bitCount_0f7a4_8 ?_
  refine i_istoreL_n C (fun x1 => [(0, .int x1)]) h dJ6_bitCount_0f7a4_9 rfl hl (by decide) (fun _ => rfl) (fun x1 ls h hl => ?_)
  refine i_iload_n C dJ6_bitCount_0f7a4_10 rfl (lv_at hl 0 rfl) ?_
  refine i_ldcw C tw2_92 dJ6_bitCount_0f7a4_11 ?_
  refine i_iand C dJ6_bitCount_0f7a4_14 ?_
  refine i_iload_n C dJ6_bitCount_0f7a4_15 rfl (lv_at hl 0 rfl) ?_
  refine i_iconst (v := 2) C dJ6_bitCount_0f7a4_16 rfl ?_
  refine i_iushr C dJ6_bitCount_0f7a4_17 ?_
  refine i_ldcw C tw2_92 dJ6_bitCount_0f7a4_18 ?_
  refine i_iand C dJ6_bitCount_0f7a4_21 ?_
  refine i_iadd C dJ6_bitCount_0f7a4_22 ?_
  refine i_istoreL_n C (fun x2 => [(0, .int x2)]) h dJ6_bitCount_0f7a4_23 rfl hl (by decide) (fun _ => rfl) (fun x2 ls h hl => ?_)
  refine i_iload_n C dJ6_bitCount_0f7a4_24 rfl (lv_at hl 0 rfl) ?_
  refine i_iload_n C dJ6_bitCount_0f7a4_25 rfl (lv_at hl 0 rfl) ?_
  refine i_iconst (v := 4) C dJ6_bitCount_0f7a4_26 rfl ?_
  refine i_iushr C dJ6_bitCount_0f7a4_27 ?_
  refine i_iadd C dJ6_bitCount_0f7a4_28 ?_
  refine i_ldcw C tw2_93 dJ6_bitCount_0f7a4_29 ?_
  refine i_iand C dJ6_bitCount_0f7a4_32 ?_
  refine i_istoreL_n C (fun x3 => [(0, .int x3)]) h dJ6_bitCount_0f7a4_33 rfl hl (by decide) (fun _ => rfl) (fun x3 ls h hl => ?_)
  refine i_iload_n C dJ6_bitCount_0f7a4_34 rfl (lv_at hl 0 rfl) ?_
  refine i_iload_n C dJ6_bitCount_0f7a4_35 rfl (lv_at hl 0 rfl) ?_
  refine i_bipush (v := 8) C dJ6_bitCount_0f7a4_36 rfl ?_
  refine i_iushr C dJ6_bitCount_0f7a4_38 ?_
  refine i_iadd C dJ6_bitCount_0f7a4_39 ?_
  refine i_istoreL_n C (fun x4 => [(0, .int x4)]) h dJ6_bitCount_0f7a4_40 rfl hl (by decide) (fun _ => rfl) (fun x4 ls h hl => ?_)
  refine i_iload_n C dJ6_bitCount_0f7a4_41 rfl (lv_at hl 0 rfl) ?_
  refine i_iload_n C dJ6_bitCount_0f7a4_42 rfl (lv_at hl 0 rfl) ?_
  refine i_bipush (v := 16) C dJ6_bitCount_0f7a4_43 rfl ?_
  refine i_iushr C dJ6_bitCount_0f7a4_45 ?_
  refine i_iadd C dJ6_bitCount_0f7a4_46 ?_
  refine i_istoreL_n C (fun x5 => [(0, .int x5)]) h dJ6_bitCount_0f7a4_47 rfl hl (by decide) (fun _ => rfl) (fun x5 ls h hl => ?_)
  refine i_iload_n C dJ6_bitCount_0f7a4_48 rfl (lv_at hl 0 rfl) ?_
  refine i_bipush (v := 63) C dJ6_bitCount_0f7a4_49 rfl ?_
  refine i_iand C dJ6_bitCount_0f7a4_51 ?_
  exact x_iretR C hX hr hQ h dJ6_bitCount_0f7a4_52
def L_X4_go_40 (p1 : Int32) (k1 : MM → Option (Int32 × MM)) : Nat → Int32 → MM → Option (Int32 × MM)
  | 0, _, _ => none
  | fu + 1, x4, m2 => if p1 ≤ x4 then (k1 m2) else (bdr (f_X0_passWatch m2) fun m3 => lt_ (x4 + 1) fun x5 => L_X4_go_40 p1 k1 fu x5 m3)
def f_X4_go (p1 : Int32) (μ : MM) : Option (Int32 × MM) := bdr (f_X4_isWithin p1 1 60) fun x1 => if x1 = 0 then (bdw (f_X4_finding (-1000001) μ) fun x7 m5 => some (x7, m5)) else (if (μ 1 11) ≤ (99999 - p1) then (jn1 (fun (m1 : MM) => bdr (f_X0_landedShips m1) fun x2 => bdr (f_J6_bitCount_0f7a4 x2) fun x3 => some (x3, m1)) fun k1 => L_X4_go_40 p1 k1 FU 0 μ) else (bdw (f_X4_finding (-1000005) μ) fun x6 m4 => some (x6, m4)))
theorem nd_X4_go : yX4_go.cls ≠ "java/lang/invoke/MethodHandle" ∧ yX4_go.cls ≠ "java/lang/invoke/VarHandle" ∧ (parseMethodDescriptor yX4_go.desc).map (fun d => d.parameters.length) = some 1 := by decide +kernel
set_option maxHeartbeats 4000000 in
set_option maxRecDepth 100000 in
theorem c_X4_go (l : Launch) (G : EN)  {p1 : Int32} {μ : MM} {r : Int32} {m : MM} (h : f_X4_go p1 μ = some (r, m)) : XM l G yX4_go cX4_go 3 (some .int) 5 120 [.ref (G.2.1 0), .int p1] μ (some (.int r)) m := by
  refine x_met (own := RX4) (by decide +kernel) rfl (Nat.le_of_ble_eq_true rfl) (fun Γ A H ls hg C hr hX hQ hl => ?_)
  have hl : lv_has ls 3 [(0, .ref (G.2.1 0)), (1, .int p1)] := hl
  unfold f_X4_go at h
  refine i_iload_n C dX4_go_0 rfl (lv_at hl 1 rfl) ?_
  refine i_iconst (v := 1) C dX4_go_1 rfl ?_
  refine i_bipush (v := 60) C dX4_go_2 rfl ?_
  obtain ⟨x1, e1, h⟩ := w_bdr h
  refine x_callSi C hX (c_X4_isWithin (gl Γ) G  e1) [] rfl hl tw1_201 tw1_202 tw1_1 tw1_203 nd_X4_isWithin ⟨(Nat.le_of_ble_eq_true rfl), (Nat.le_of_ble_eq_true rfl)⟩ (Nat.le_of_ble_eq_true rfl) dX4_go_4 (fun H locs hX => ?_)
  refine i_if_ne (tgt := 17) C h dX4_go_7 (by decide) (fun _ h => ?_) (fun _ h => ?_)
  · refine i_aload_n C dX4_go_17 rfl (lv_at hl 0 rfl) ?_
    refine x_get C hX (fg_0_0 G) tw1_166 dX4_go_18 ?_
    refine x_get C hX (fg_1_11 G) tw1_63 dX4_go_21 ?_
    refine i_ldc C tw2_76 dX4_go_24 ?_
    refine i_iload_n C dX4_go_26 rfl (lv_at hl 1 rfl) ?_
    refine i_isub C dX4_go_27 ?_
    refine i_icmp_le (tgt := 38) C h dX4_go_28 (by decide) (fun _ h => ?_) (fun _ h => ?_)
    · refine i_iconst (v := 0) C dX4_go_38 rfl ?_
      refine i_istore_n C [(2, .int 0), (0, .ref (G.2.1 0)), (1, .int p1)] dX4_go_39 rfl hl (by decide) rfl (fun ls hl => ?_)
      refine w_jn1 (fun (m1 : MM) => ∀ (H : Heap) (locs : List Loc) (ls : Array Slot), lv_has ls 3 [(0, .ref (G.2.1 0))] → XW G A (gs Γ) H locs m1 → WX Γ H locs 58 ls []) h (fun m1 h H locs ls hl hX => ?_) (fun k1 J1 h => ?_)
      · refine i_aload_n C dX4_go_58 rfl (lv_at hl 0 rfl) ?_
        refine x_get C hX (fg_0_0 G) tw1_166 dX4_go_59 ?_
        obtain ⟨x2, e2, h⟩ := w_bdr h
        refine x_callVi C hX (fg_1_0 G) (c_X0_landedShips (gl Γ) G  e2) [] rfl hl tw2_83 tw2_84 tw2_85 tw1_2 tw2_86 rfl nd_X0_landedShips ⟨(Nat.le_of_ble_eq_true rfl), (Nat.le_of_ble_eq_true rfl)⟩ (Nat.le_of_ble_eq_true rfl) dX4_go_62 (fun H locs hX => ?_)
        obtain ⟨x3, e3, h⟩ := w_bdr h
        refine x_callSi C hX (c_J6_bitCount_0f7a4 (gl Γ) G  e3) [] rfl hl tw2_88 tw2_89 tw1_9 tw2_90 nd_J6_bitCount_0f7a4 ⟨(Nat.le_of_ble_eq_true rfl), (Nat.le_of_ble_eq_true rfl)⟩ (Nat.le_of_ble_eq_true rfl) dX4_go_65 (fun H locs hX => ?_)
        exact x_iretW C hX hr hQ h dX4_go_68
      have L1 : ∀ (fu : Nat) (x4 : Int32) (m2 : MM) (H : Heap) (locs : List Loc) (ls : Array Slot), L_X4_go_40 p1 k1 fu x4 m2 = some (r, m) → lv_has ls 3 [(0, .ref (G.2.1 0)), (1, .int p1), (2, .int x4)] → XW G A (gs Γ) H locs m2 → WX Γ H locs 40 ls [] := by
        intro fu
        induction fu with
        | zero =>
          intro x4 m2 H locs ls h
          rw [L_X4_go_40] at h
          cases h
        | succ fu ih =>
          intro x4 m2 H locs ls h hl hX
          rw [L_X4_go_40] at h
          refine i_iload_n C dX4_go_40 rfl (lv_at hl 2 rfl) ?_
          refine i_iload_n C dX4_go_41 rfl (lv_at hl 1 rfl) ?_
          refine i_icmp_ge (tgt := 58) C h dX4_go_42 (by decide) (fun _ h => ?_) (fun _ h => ?_)
          · exact J1 _ h _ _ _ (lv_sub hl [0] rfl) hX
          refine i_aload_n C dX4_go_45 rfl (lv_at hl 0 rfl) ?_
          refine x_get C hX (fg_0_0 G) tw1_166 dX4_go_46 ?_
          obtain ⟨m3, e4, h⟩ := w_bdr h
          refine x_callVv C hX (fg_1_0 G) (c_X0_passWatch (gl Γ) G  e4) [] rfl hl tw2_78 tw2_79 tw2_80 tw1_2 tw2_81 rfl nd_X0_passWatch ⟨(Nat.le_of_ble_eq_true rfl), (Nat.le_of_ble_eq_true rfl)⟩ (Nat.le_of_ble_eq_true rfl) dX4_go_49 (fun H locs hX => ?_)
          refine i_iinc C (j := 2) (fun x5 => [(2, .int x5), (0, .ref (G.2.1 0)), (1, .int p1)]) h dX4_go_52 hl rfl rfl (by decide) (fun _ => rfl) (fun x5 ls h hl => ?_)
          refine i_goto (tgt := 40) C dX4_go_55 (by decide) ?_
          exact ih _ _ _ _ _ h (lv_sub hl [1, 2, 0] rfl) hX
      exact L1 FU _ _ _ _ _ h (lv_sub hl [1, 2, 0] rfl) hX
    refine i_aload_n C dX4_go_31 rfl (lv_at hl 0 rfl) ?_
    refine i_ldc C tw2_77 dX4_go_32 ?_
    obtain ⟨x6, m4, e5, h⟩ := w_bdw h
    refine x_callVi C hX (fg_0_0 G) (c_X4_finding (gl Γ) G  e5) [] rfl hl tw1_205 tw1_207 ts1_0 tw1_1 tw1_208 rfl nd_X4_finding ⟨(Nat.le_of_ble_eq_true rfl), (Nat.le_of_ble_eq_true rfl)⟩ (Nat.le_of_ble_eq_true rfl) dX4_go_34 (fun H locs hX => ?_)
    exact x_iretW C hX hr hQ h dX4_go_37
  refine i_aload_n C dX4_go_10 rfl (lv_at hl 0 rfl) ?_
  refine i_ldc C tw1_204 dX4_go_11 ?_
  obtain ⟨x7, m5, e6, h⟩ := w_bdw h
  refine x_callVi C hX (fg_0_0 G) (c_X4_finding (gl Γ) G  e6) [] rfl hl tw1_205 tw1_207 ts1_0 tw1_1 tw1_208 rfl nd_X4_finding ⟨(Nat.le_of_ble_eq_true rfl), (Nat.le_of_ble_eq_true rfl)⟩ (Nat.le_of_ble_eq_true rfl) dX4_go_13 (fun H locs hX => ?_)
  exact x_iretW C hX hr hQ h dX4_go_16
def L_X4_feeds_40 (p1 : Int32) (k1 : MM → Option (Int32 × MM)) : Nat → Int32 → MM → Option (Int32 × MM)
  | 0, _, _ => none
  | fu + 1, x3, m3 => if (m3 1 0) ≤ x3 then (k1 m3) else (bdr (f_X4_isIn p1 x3) fun x4 => jn1 (fun (m4 : MM) => lt_ (x3 + 1) fun x5 => L_X4_feeds_40 p1 k1 fu x5 m4) fun k2 => if x4 = 0 then (k2 m3) else (sti m3 3 8 x3 0 fun m5 => k2 m5))
def f_X4_feeds (p1 : Int32) (μ : MM) : Option (Int32 × MM) := bdr (f_X4_isSetOfCats p1 μ) fun x1 => if x1 = 0 then (bdw (f_X4_finding (-1000001) μ) fun x7 m7 => some (x7, m7)) else (bdr (f_J6_bitCount_0f7a4 p1) fun x2 => if x2 ≤ (μ 1 10) then (jn1 (fun (m1 : MM) => lt_ (wst m1 1 10 ((m1 1 10) - x2)) fun m2 => some ((m2 1 10), m2)) fun k1 => L_X4_feeds_40 p1 k1 FU 0 μ) else (bdw (f_X4_finding (-1000005) μ) fun x6 m6 => some (x6, m6)))
theorem nd_X4_feeds : yX4_feeds.cls ≠ "java/lang/invoke/MethodHandle" ∧ yX4_feeds.cls ≠ "java/lang/invoke/VarHandle" ∧ (parseMethodDescriptor yX4_feeds.desc).map (fun d => d.parameters.length) = some 1 := by decide +kernel
set_option maxHeartbeats 4000000 in
set_option maxRecDepth 100000 in
theorem c_X4_feeds (l : Launch) (G : EN)  {p1 : Int32} {μ : MM} {r : Int32} {m : MM} (h : f_X4_feeds p1 μ = some (r, m)) : XM l G yX4_feeds cX4_feeds 4 (some .int) 2 43 [.ref (G.2.1 0), .int p1] μ (some (.int r)) m := by
  refine x_met (own := RX4) (by decide +kernel) rfl (Nat.le_of_ble_eq_true rfl) (fun Γ A H ls hg C hr hX hQ hl => ?_)
  have hl : lv_has ls 4 [(0, .ref (G.2.1 0)), (1, .int p1)] := hl
  unfold f_X4_feeds at h
  refine i_aload_n C dX4_feeds_0 rfl (lv_at hl 0 rfl) ?_
  refine i_iload_n C dX4_feeds_1 rfl (lv_at hl 1 rfl) ?_
  obtain ⟨x1, e1, h⟩ := w_bdr h
  refine x_callVi C hX (fg_0_0 G) (c_X4_isSetOfCats (gl Γ) G  e1) [] rfl hl tw2_51 tw2_53 ts1_2 tw1_1 tw2_54 rfl nd_X4_isSetOfCats ⟨(Nat.le_of_ble_eq_true rfl), (Nat.le_of_ble_eq_true rfl)⟩ (Nat.le_of_ble_eq_true rfl) dX4_feeds_2 (fun H locs hX => ?_)
  refine i_if_ne (tgt := 15) C h dX4_feeds_5 (by decide) (fun _ h => ?_) (fun _ h => ?_)
  · refine i_iload_n C dX4_feeds_15 rfl (lv_at hl 1 rfl) ?_
    obtain ⟨x2, e2, h⟩ := w_bdr h
    refine x_callSi C hX (c_J6_bitCount_0f7a4 (gl Γ) G  e2) [] rfl hl tw2_88 tw2_89 tw1_9 tw2_90 nd_J6_bitCount_0f7a4 ⟨(Nat.le_of_ble_eq_true rfl), (Nat.le_of_ble_eq_true rfl)⟩ (Nat.le_of_ble_eq_true rfl) dX4_feeds_16 (fun H locs hX => ?_)
    refine i_istore_n C [(2, .int x2), (0, .ref (G.2.1 0)), (1, .int p1)] dX4_feeds_19 rfl hl (by decide) rfl (fun ls hl => ?_)
    refine i_aload_n C dX4_feeds_20 rfl (lv_at hl 1 rfl) ?_
    refine x_get C hX (fg_0_0 G) tw1_166 dX4_feeds_21 ?_
    refine x_get C hX (fg_1_10 G) tw1_61 dX4_feeds_24 ?_
    refine i_iload_n C dX4_feeds_27 rfl (lv_at hl 0 rfl) ?_
    refine i_icmp_ge (tgt := 38) C h dX4_feeds_28 (by decide) (fun _ h => ?_) (fun _ h => ?_)
    · refine i_iconst (v := 0) C dX4_feeds_38 rfl ?_
      refine i_istore_n C [(3, .int 0), (2, .int x2), (0, .ref (G.2.1 0)), (1, .int p1)] dX4_feeds_39 rfl hl (by decide) rfl (fun ls hl => ?_)
      refine w_jn1 (fun (m1 : MM) => ∀ (H : Heap) (locs : List Loc) (ls : Array Slot), lv_has ls 4 [(0, .ref (G.2.1 0)), (2, .int x2)] → XW G A (gs Γ) H locs m1 → WX Γ H locs 75 ls []) h (fun m1 h H locs ls hl hX => ?_) (fun k1 J1 h => ?_)
      · refine i_aload_n C dX4_feeds_75 rfl (lv_at hl 0 rfl) ?_
        refine x_get C hX (fg_0_0 G) tw1_166 dX4_feeds_76 ?_
        refine i_dup C dX4_feeds_79 rfl ?_
        refine x_get C hX (fg_1_10 G) tw1_61 dX4_feeds_80 ?_
        refine i_iload_n C dX4_feeds_83 rfl (lv_at hl 1 rfl) ?_
        refine i_isub C dX4_feeds_84 ?_
        refine x_putI C hX (fp_1_10 G) h tw1_61 dX4_feeds_85 (fun H locs m2 h hX => ?_)
        refine i_aload_n C dX4_feeds_88 rfl (lv_at hl 0 rfl) ?_
        refine x_get C hX (fg_0_0 G) tw1_166 dX4_feeds_89 ?_
        refine x_get C hX (fg_1_10 G) tw1_61 dX4_feeds_92 ?_
        exact x_iretW C hX hr hQ h dX4_feeds_95
      have L1 : ∀ (fu : Nat) (x3 : Int32) (m3 : MM) (H : Heap) (locs : List Loc) (ls : Array Slot), L_X4_feeds_40 p1 k1 fu x3 m3 = some (r, m) → lv_has ls 4 [(0, .ref (G.2.1 0)), (1, .int p1), (2, .int x2), (3, .int x3)] → XW G A (gs Γ) H locs m3 → WX Γ H locs 40 ls [] := by
        intro fu
        induction fu with
        | zero =>
          intro x3 m3 H locs ls h
          rw [L_X4_feeds_40] at h
          cases h
        | succ fu ih =>
          intro x3 m3 H locs ls h hl hX
          rw [L_X4_feeds_40] at h
          refine i_iload_n C dX4_feeds_40 rfl (lv_at hl 3 rfl) ?_
          refine i_aload_n C dX4_feeds_41 rfl (lv_at hl 0 rfl) ?_
          refine x_get C hX (fg_0_0 G) tw1_166 dX4_feeds_42 ?_
          refine x_get C hX (fg_1_0 G) tw1_33 dX4_feeds_45 ?_
          refine i_icmp_ge (tgt := 75) C h dX4_feeds_48 (by decide) (fun _ h => ?_) (fun _ h => ?_)
          · exact J1 _ h _ _ _ (lv_sub hl [0, 2] rfl) hX
          refine i_iload_n C dX4_feeds_51 rfl (lv_at hl 1 rfl) ?_
          refine i_iload_n C dX4_feeds_52 rfl (lv_at hl 3 rfl) ?_
          obtain ⟨x4, e3, h⟩ := w_bdr h
          refine x_callSi C hX (c_X4_isIn (gl Γ) G  e3) [] rfl hl tw2_98 tw2_12 tw1_1 tw2_13 nd_X4_isIn ⟨(Nat.le_of_ble_eq_true rfl), (Nat.le_of_ble_eq_true rfl)⟩ (Nat.le_of_ble_eq_true rfl) dX4_feeds_53 (fun H locs hX => ?_)
          refine w_jn1 (fun (m4 : MM) => ∀ (H : Heap) (locs : List Loc) (ls : Array Slot), lv_has ls 4 [(0, .ref (G.2.1 0)), (1, .int p1), (2, .int x2), (3, .int x3)] → XW G A (gs Γ) H locs m4 → WX Γ H locs 69 ls []) h (fun m4 h H locs ls hl hX => ?_) (fun k2 J2 h => ?_)
          · refine i_iinc C (j := 3) (fun x5 => [(3, .int x5), (0, .ref (G.2.1 0)), (1, .int p1), (2, .int x2)]) h dX4_feeds_69 hl rfl rfl (by decide) (fun _ => rfl) (fun x5 ls h hl => ?_)
            refine i_goto (tgt := 40) C dX4_feeds_72 (by decide) ?_
            exact ih _ _ _ _ _ h (lv_sub hl [1, 2, 3, 0] rfl) hX
          refine i_if_eq (tgt := 69) C h dX4_feeds_56 (by decide) (fun _ h => ?_) (fun _ h => ?_)
          · exact J2 _ h _ _ _ (lv_sub hl [0, 1, 2, 3] rfl) hX
          refine i_aload_n C dX4_feeds_59 rfl (lv_at hl 0 rfl) ?_
          refine x_get C hX (fg_0_0 G) tw1_166 dX4_feeds_60 ?_
          refine x_get C hX (fg_1_2 G) tw1_38 dX4_feeds_63 ?_
          refine i_iload_n C dX4_feeds_66 rfl (lv_at hl 3 rfl) ?_
          refine i_iconst (v := 0) C dX4_feeds_67 rfl ?_
          refine x_iast C hX (ai_3 G) h dX4_feeds_68 (fun H locs m5 h hX => ?_)
          exact J2 _ h _ _ _ (lv_sub hl [0, 1, 2, 3] rfl) hX
      exact L1 FU _ _ _ _ _ h (lv_sub hl [2, 3, 1, 0] rfl) hX
    refine i_aload_n C dX4_feeds_31 rfl (lv_at hl 1 rfl) ?_
    refine i_ldc C tw2_77 dX4_feeds_32 ?_
    obtain ⟨x6, m6, e4, h⟩ := w_bdw h
    refine x_callVi C hX (fg_0_0 G) (c_X4_finding (gl Γ) G  e4) [] rfl hl tw1_205 tw1_207 ts1_0 tw1_1 tw1_208 rfl nd_X4_finding ⟨(Nat.le_of_ble_eq_true rfl), (Nat.le_of_ble_eq_true rfl)⟩ (Nat.le_of_ble_eq_true rfl) dX4_feeds_34 (fun H locs hX => ?_)
    exact x_iretW C hX hr hQ h dX4_feeds_37
  refine i_aload_n C dX4_feeds_8 rfl (lv_at hl 0 rfl) ?_
  refine i_ldc C tw1_204 dX4_feeds_9 ?_
  obtain ⟨x7, m7, e5, h⟩ := w_bdw h
  refine x_callVi C hX (fg_0_0 G) (c_X4_finding (gl Γ) G  e5) [] rfl hl tw1_205 tw1_207 ts1_0 tw1_1 tw1_208 rfl nd_X4_finding ⟨(Nat.le_of_ble_eq_true rfl), (Nat.le_of_ble_eq_true rfl)⟩ (Nat.le_of_ble_eq_true rfl) dX4_feeds_11 (fun H locs hX => ?_)
  exact x_iretW C hX hr hQ h dX4_feeds_14
def L_X0_greatestHunger_4 (μ : MM) : Nat → Int32 → Int32 → Option Int32
  | 0, _, _ => none
  | fu + 1, x1, x2 => if (μ 1 0) ≤ x2 then (some x1) else (ldi μ 3 8 x2 fun x3 => lt_ ((imax x1 x3)) fun x4 => lt_ (x2 + 1) fun x5 => L_X0_greatestHunger_4 μ fu x4 x5)
def f_X0_greatestHunger (μ : MM) : Option Int32 := L_X0_greatestHunger_4 μ FU 0 0
theorem nd_X0_greatestHunger : yX0_greatestHunger.cls ≠ "java/lang/invoke/MethodHandle" ∧ yX0_greatestHunger.cls ≠ "java/lang/invoke/VarHandle" ∧ (parseMethodDescriptor yX0_greatestHunger.desc).map (fun d => d.parameters.length) = some 0 := by decide +kernel
set_option maxHeartbeats 4000000 in
set_option maxRecDepth 100000 in
theorem c_X0_greatestHunger (l : Launch) (G : EN)  {μ : MM} {r : Int32} (h : f_X0_greatestHunger μ = some r) : XM l G yX0_greatestHunger cX0_greatestHunger 3 (some .int) 1 21 [.ref (G.2.1 1)] μ (some (.int r)) μ := by
  refine x_met (own := RX0) (by decide +kernel) rfl (Nat.le_of_ble_eq_true rfl) (fun Γ A H ls hg C hr hX hQ hl => ?_)
  have hl : lv_has ls 3 [(0, .ref (G.2.1 1))] := hl
  unfold f_X0_greatestHunger at h
  refine i_iconst (v := 0) C dX0_greatestHunger_0 rfl ?_
  refine i_istore_n C [(1, .int 0), (0, .ref (G.2.1 1))] dX0_greatestHunger_1 rfl hl (by decide) rfl (fun ls hl => ?_)
  refine i_iconst (v := 0) C dX0_greatestHunger_2 rfl ?_
  refine i_istore_n C [(2, .int 0), (1, .int 0), (0, .ref (G.2.1 1))] dX0_greatestHunger_3 rfl hl (by decide) rfl (fun ls hl => ?_)
  have L1 : ∀ (fu : Nat) (x1 : Int32) (x2 : Int32) (H : Heap) (locs : List Loc) (ls : Array Slot), L_X0_greatestHunger_4 μ fu x1 x2 = some r → lv_has ls 3 [(0, .ref (G.2.1 1)), (1, .int x1), (2, .int x2)] → XW G A (gs Γ) H locs μ → WX Γ H locs 4 ls [] := by
    intro fu
    induction fu with
    | zero =>
      intro x1 x2 H locs ls h
      rw [L_X0_greatestHunger_4] at h
      cases h
    | succ fu ih =>
      intro x1 x2 H locs ls h hl hX
      rw [L_X0_greatestHunger_4] at h
      refine i_iload_n C dX0_greatestHunger_4 rfl (lv_at hl 2 rfl) ?_
      refine i_aload_n C dX0_greatestHunger_5 rfl (lv_at hl 0 rfl) ?_
      refine x_get C hX (fg_1_0 G) tw1_32 dX0_greatestHunger_6 ?_
      refine i_icmp_ge (tgt := 29) C h dX0_greatestHunger_9 (by decide) (fun _ h => ?_) (fun _ h => ?_)
      · refine i_iload_n C dX0_greatestHunger_29 rfl (lv_at hl 1 rfl) ?_
        exact x_iretR C hX hr hQ h dX0_greatestHunger_30
      refine i_iload_n C dX0_greatestHunger_12 rfl (lv_at hl 1 rfl) ?_
      refine i_aload_n C dX0_greatestHunger_13 rfl (lv_at hl 0 rfl) ?_
      refine x_get C hX (fg_1_2 G) tw1_37 dX0_greatestHunger_14 ?_
      refine i_iload_n C dX0_greatestHunger_17 rfl (lv_at hl 2 rfl) ?_
      refine x_iald C hX (ai_3 G) h dX0_greatestHunger_18 (fun x3 h => ?_)
      refine x_max C hl tw2_107 tw2_108 tw1_8 tw2_109 (Nat.le_of_ble_eq_true rfl) (Nat.le_of_ble_eq_true rfl) dX0_greatestHunger_19 ?_
      refine i_istoreL_n C (fun x4 => [(1, .int x4), (0, .ref (G.2.1 1)), (2, .int x2)]) h dX0_greatestHunger_22 rfl hl (by decide) (fun _ => rfl) (fun x4 ls h hl => ?_)
      refine i_iinc C (j := 2) (fun x5 => [(2, .int x5), (1, .int x4), (0, .ref (G.2.1 1))]) h dX0_greatestHunger_23 hl rfl rfl (by decide) (fun _ => rfl) (fun x5 ls h hl => ?_)
      refine i_goto (tgt := 4) C dX0_greatestHunger_26 (by decide) ?_
      exact ih _ _ _ _ _ h (lv_sub hl [2, 1, 0] rfl) hX
  exact L1 FU _ _ _ _ _ h (lv_sub hl [2, 1, 0] rfl) hX
def L_X0_islands_4 (μ : MM) : Nat → Int32 → Int32 → Option Int32
  | 0, _, _ => none
  | fu + 1, x1, x2 => if 100 ≤ x2 then (some x1) else (ldi μ 8 100 x2 fun x3 => jn1 (fun (x4 : Int32) => lt_ (x2 + 1) fun x5 => L_X0_islands_4 μ fu x4 x5) fun k1 => if x3 = 0 then (k1 x1) else (lt_ (x1 + 1) fun x6 => k1 x6))
def f_X0_islands (μ : MM) : Option Int32 := L_X0_islands_4 μ FU 0 0
theorem nd_X0_islands : yX0_islands.cls ≠ "java/lang/invoke/MethodHandle" ∧ yX0_islands.cls ≠ "java/lang/invoke/VarHandle" ∧ (parseMethodDescriptor yX0_islands.desc).map (fun d => d.parameters.length) = some 0 := by decide +kernel
set_option maxHeartbeats 4000000 in
set_option maxRecDepth 100000 in
theorem c_X0_islands (l : Launch) (G : EN)  {μ : MM} {r : Int32} (h : f_X0_islands μ = some r) : XM l G yX0_islands cX0_islands 3 (some .int) 0 0 [.ref (G.2.1 1)] μ (some (.int r)) μ := by
  refine x_met (own := RX0) (by decide +kernel) rfl (Nat.le_of_ble_eq_true rfl) (fun Γ A H ls hg C hr hX hQ hl => ?_)
  have hl : lv_has ls 3 [(0, .ref (G.2.1 1))] := hl
  unfold f_X0_islands at h
  refine i_iconst (v := 0) C dX0_islands_0 rfl ?_
  refine i_istore_n C [(1, .int 0), (0, .ref (G.2.1 1))] dX0_islands_1 rfl hl (by decide) rfl (fun ls hl => ?_)
  refine i_iconst (v := 0) C dX0_islands_2 rfl ?_
  refine i_istore_n C [(2, .int 0), (1, .int 0), (0, .ref (G.2.1 1))] dX0_islands_3 rfl hl (by decide) rfl (fun ls hl => ?_)
  have L1 : ∀ (fu : Nat) (x1 : Int32) (x2 : Int32) (H : Heap) (locs : List Loc) (ls : Array Slot), L_X0_islands_4 μ fu x1 x2 = some r → lv_has ls 3 [(0, .ref (G.2.1 1)), (1, .int x1), (2, .int x2)] → XW G A (gs Γ) H locs μ → WX Γ H locs 4 ls [] := by
    intro fu
    induction fu with
    | zero =>
      intro x1 x2 H locs ls h
      rw [L_X0_islands_4] at h
      cases h
    | succ fu ih =>
      intro x1 x2 H locs ls h hl hX
      rw [L_X0_islands_4] at h
      refine i_iload_n C dX0_islands_4 rfl (lv_at hl 2 rfl) ?_
      refine i_bipush (v := 100) C dX0_islands_5 rfl ?_
      refine i_icmp_ge (tgt := 28) C h dX0_islands_7 (by decide) (fun _ h => ?_) (fun _ h => ?_)
      · refine i_iload_n C dX0_islands_28 rfl (lv_at hl 1 rfl) ?_
        exact x_iretR C hX hr hQ h dX0_islands_29
      refine i_aload_n C dX0_islands_10 rfl (lv_at hl 0 rfl) ?_
      refine x_get C hX (fg_1_7 G) tw1_50 dX0_islands_11 ?_
      refine i_iload_n C dX0_islands_14 rfl (lv_at hl 2 rfl) ?_
      refine x_zald C hX (az_8 G) h dX0_islands_15 (fun x3 h => ?_)
      refine w_jn1 (fun (x4 : Int32) => ∀ (H : Heap) (locs : List Loc) (ls : Array Slot), lv_has ls 3 [(0, .ref (G.2.1 1)), (1, .int x4), (2, .int x2)] → XW G A (gs Γ) H locs μ → WX Γ H locs 22 ls []) h (fun x4 h H locs ls hl hX => ?_) (fun k1 J1 h => ?_)
      · refine i_iinc C (j := 2) (fun x5 => [(2, .int x5), (0, .ref (G.2.1 1)), (1, .int x4)]) h dX0_islands_22 hl rfl rfl (by decide) (fun _ => rfl) (fun x5 ls h hl => ?_)
        refine i_goto (tgt := 4) C dX0_islands_25 (by decide) ?_
        exact ih _ _ _ _ _ h (lv_sub hl [1, 2, 0] rfl) hX
      refine i_if_eq (tgt := 22) C h dX0_islands_16 (by decide) (fun _ h => ?_) (fun _ h => ?_)
      · exact J1 _ h _ _ _ (lv_sub hl [0, 1, 2] rfl) hX
      refine i_iinc C (j := 1) (fun x6 => [(1, .int x6), (0, .ref (G.2.1 1)), (2, .int x2)]) h dX0_islands_19 hl rfl rfl (by decide) (fun _ => rfl) (fun x6 ls h hl => ?_)
      exact J1 _ h _ _ _ (lv_sub hl [1, 0, 2] rfl) hX
  exact L1 FU _ _ _ _ _ h (lv_sub hl [2, 1, 0] rfl) hX
def f_X4_now (p1 : Int32) (μ : MM) : Option (Int32 × MM) := if p1 = 0 then (some ((μ 1 11), μ)) else if p1 = 1 then (some ((μ 1 10), μ)) else if p1 = 2 then (some ((μ 1 8), μ)) else if p1 = 3 then (bdr (f_X0_landedShips μ) fun x1 => some (x1, μ)) else if p1 = 4 then (bdr (f_X0_greatestHunger μ) fun x2 => some (x2, μ)) else if p1 = 5 then (bdr (f_X0_islands μ) fun x3 => some (x3, μ)) else (bdw (f_X4_finding (-1000001) μ) fun x4 m1 => some (x4, m1))
theorem nd_X4_now : yX4_now.cls ≠ "java/lang/invoke/MethodHandle" ∧ yX4_now.cls ≠ "java/lang/invoke/VarHandle" ∧ (parseMethodDescriptor yX4_now.desc).map (fun d => d.parameters.length) = some 1 := by decide +kernel
set_option maxHeartbeats 4000000 in
set_option maxRecDepth 100000 in
theorem c_X4_now (l : Launch) (G : EN)  {p1 : Int32} {μ : MM} {r : Int32} {m : MM} (h : f_X4_now p1 μ = some (r, m)) : XM l G yX4_now cX4_now 2 (some .int) 2 43 [.ref (G.2.1 0), .int p1] μ (some (.int r)) m := by
  refine x_met (own := RX4) (by decide +kernel) rfl (Nat.le_of_ble_eq_true rfl) (fun Γ A H ls hg C hr hX hQ hl => ?_)
  have hl : lv_has ls 2 [(0, .ref (G.2.1 0)), (1, .int p1)] := hl
  unfold f_X4_now at h
  refine i_iload_n C dX4_now_0 rfl (lv_at hl 1 rfl) ?_
  refine i_case h (fun e h => ?_) (fun n1 h => ?_)
  · refine i_tabIn (tgt := 40) C e dX4_now_1 (by decide) (by decide) rfl (by decide) ?_
    refine i_aload_n C dX4_now_40 rfl (lv_at hl 0 rfl) ?_
    refine x_get C hX (fg_0_0 G) tw1_166 dX4_now_41 ?_
    refine x_get C hX (fg_1_11 G) tw1_63 dX4_now_44 ?_
    exact x_iretW C hX hr hQ h dX4_now_47
  refine i_case h (fun e h => ?_) (fun n2 h => ?_)
  · refine i_tabIn (tgt := 48) C e dX4_now_1 (by decide) (by decide) rfl (by decide) ?_
    refine i_aload_n C dX4_now_48 rfl (lv_at hl 0 rfl) ?_
    refine x_get C hX (fg_0_0 G) tw1_166 dX4_now_49 ?_
    refine x_get C hX (fg_1_10 G) tw1_61 dX4_now_52 ?_
    exact x_iretW C hX hr hQ h dX4_now_55
  refine i_case h (fun e h => ?_) (fun n3 h => ?_)
  · refine i_tabIn (tgt := 56) C e dX4_now_1 (by decide) (by decide) rfl (by decide) ?_
    refine i_aload_n C dX4_now_56 rfl (lv_at hl 0 rfl) ?_
    refine x_get C hX (fg_0_0 G) tw1_166 dX4_now_57 ?_
    refine x_get C hX (fg_1_8 G) tw1_54 dX4_now_60 ?_
    exact x_iretW C hX hr hQ h dX4_now_63
  refine i_case h (fun e h => ?_) (fun n4 h => ?_)
  · refine i_tabIn (tgt := 64) C e dX4_now_1 (by decide) (by decide) rfl (by decide) ?_
    refine i_aload_n C dX4_now_64 rfl (lv_at hl 0 rfl) ?_
    refine x_get C hX (fg_0_0 G) tw1_166 dX4_now_65 ?_
    obtain ⟨x1, e1, h⟩ := w_bdr h
    refine x_callVi C hX (fg_1_0 G) (c_X0_landedShips (gl Γ) G  e1) [] rfl hl tw2_83 tw2_84 tw2_85 tw1_2 tw2_86 rfl nd_X0_landedShips ⟨(Nat.le_of_ble_eq_true rfl), (Nat.le_of_ble_eq_true rfl)⟩ (Nat.le_of_ble_eq_true rfl) dX4_now_68 (fun H locs hX => ?_)
    exact x_iretW C hX hr hQ h dX4_now_71
  refine i_case h (fun e h => ?_) (fun n5 h => ?_)
  · refine i_tabIn (tgt := 72) C e dX4_now_1 (by decide) (by decide) rfl (by decide) ?_
    refine i_aload_n C dX4_now_72 rfl (lv_at hl 0 rfl) ?_
    refine x_get C hX (fg_0_0 G) tw1_166 dX4_now_73 ?_
    obtain ⟨x2, e2, h⟩ := w_bdr h
    refine x_callVi C hX (fg_1_0 G) (c_X0_greatestHunger (gl Γ) G  e2) [] rfl hl tw2_103 tw2_104 tw2_105 tw1_2 tw2_106 rfl nd_X0_greatestHunger ⟨(Nat.le_of_ble_eq_true rfl), (Nat.le_of_ble_eq_true rfl)⟩ (Nat.le_of_ble_eq_true rfl) dX4_now_76 (fun H locs hX => ?_)
    exact x_iretW C hX hr hQ h dX4_now_79
  refine i_case h (fun e h => ?_) (fun n6 h => ?_)
  · refine i_tabIn (tgt := 80) C e dX4_now_1 (by decide) (by decide) rfl (by decide) ?_
    refine i_aload_n C dX4_now_80 rfl (lv_at hl 0 rfl) ?_
    refine x_get C hX (fg_0_0 G) tw1_166 dX4_now_81 ?_
    obtain ⟨x3, e3, h⟩ := w_bdr h
    refine x_callVi C hX (fg_1_0 G) (c_X0_islands (gl Γ) G  e3) [] rfl hl tw2_110 tw2_111 tw2_112 tw1_2 tw2_113 rfl nd_X0_islands ⟨(Nat.le_of_ble_eq_true rfl), (Nat.le_of_ble_eq_true rfl)⟩ (Nat.le_of_ble_eq_true rfl) dX4_now_84 (fun H locs hX => ?_)
    exact x_iretW C hX hr hQ h dX4_now_87
  refine i_tabOut (tgt := 88) C (by have := ne_t (n := 0) (by decide) n1; have := ne_t (n := 1) (by decide) n2; have := ne_t (n := 2) (by decide) n3; have := ne_t (n := 3) (by decide) n4; have := ne_t (n := 4) (by decide) n5; have := ne_t (n := 5) (by decide) n6; omega) dX4_now_1 (by decide) ?_
  refine i_aload_n C dX4_now_88 rfl (lv_at hl 0 rfl) ?_
  refine i_ldc C tw1_204 dX4_now_89 ?_
  obtain ⟨x4, m1, e4, h⟩ := w_bdw h
  refine x_callVi C hX (fg_0_0 G) (c_X4_finding (gl Γ) G  e4) [] rfl hl tw1_205 tw1_207 ts1_0 tw1_1 tw1_208 rfl nd_X4_finding ⟨(Nat.le_of_ble_eq_true rfl), (Nat.le_of_ble_eq_true rfl)⟩ (Nat.le_of_ble_eq_true rfl) dX4_now_91 (fun H locs hX => ?_)
  exact x_iretW C hX hr hQ h dX4_now_94
def L_X0_cellBehind_10 (p1 : Int32) (p2 : Int32) (μ : MM) : Nat → Int32 → Int32 → Option Int32
  | 0, _, _ => none
  | fu + 1, x2, x3 => if p2 ≤ x3 then (some x2) else (bdr (f_X0_nextOf p1 x2 x3 μ) fun x4 => lt_ (x3 + 1) fun x5 => L_X0_cellBehind_10 p1 p2 μ fu x4 x5)
def f_X0_cellBehind (p1 : Int32) (p2 : Int32) (μ : MM) : Option Int32 := ldi μ 5 4 p1 fun x1 => L_X0_cellBehind_10 p1 p2 μ FU x1 0
theorem nd_X0_cellBehind : yX0_cellBehind.cls ≠ "java/lang/invoke/MethodHandle" ∧ yX0_cellBehind.cls ≠ "java/lang/invoke/VarHandle" ∧ (parseMethodDescriptor yX0_cellBehind.desc).map (fun d => d.parameters.length) = some 2 := by decide +kernel
set_option maxHeartbeats 4000000 in
set_option maxRecDepth 100000 in
theorem c_X0_cellBehind (l : Launch) (G : EN)  {p1 p2 : Int32} {μ : MM} {r : Int32} (h : f_X0_cellBehind p1 p2 μ = some r) : XM l G yX0_cellBehind cX0_cellBehind 5 (some .int) 4 99 [.ref (G.2.1 1), .int p1, .int p2] μ (some (.int r)) μ := by
  refine x_met (own := RX0) (by decide +kernel) rfl (Nat.le_of_ble_eq_true rfl) (fun Γ A H ls hg C hr hX hQ hl => ?_)
  have hl : lv_has ls 5 [(0, .ref (G.2.1 1)), (1, .int p1), (2, .int p2)] := hl
  unfold f_X0_cellBehind at h
  refine i_aload_n C dX0_cellBehind_0 rfl (lv_at hl 0 rfl) ?_
  refine x_get C hX (fg_1_4 G) tw1_41 dX0_cellBehind_1 ?_
  refine i_iload_n C dX0_cellBehind_4 rfl (lv_at hl 1 rfl) ?_
  refine x_iald C hX (ai_5 G) h dX0_cellBehind_5 (fun x1 h => ?_)
  refine i_istore_n C [(3, .int x1), (0, .ref (G.2.1 1)), (1, .int p1), (2, .int p2)] dX0_cellBehind_6 rfl hl (by decide) rfl (fun ls hl => ?_)
  refine i_iconst (v := 0) C dX0_cellBehind_7 rfl ?_
  refine i_istore C [(4, .int 0), (3, .int x1), (0, .ref (G.2.1 1)), (1, .int p1), (2, .int p2)] dX0_cellBehind_8 hl (by decide) rfl (fun ls hl => ?_)
  have L1 : ∀ (fu : Nat) (x2 : Int32) (x3 : Int32) (H : Heap) (locs : List Loc) (ls : Array Slot), L_X0_cellBehind_10 p1 p2 μ fu x2 x3 = some r → lv_has ls 5 [(0, .ref (G.2.1 1)), (1, .int p1), (2, .int p2), (3, .int x2), (4, .int x3)] → XW G A (gs Γ) H locs μ → WX Γ H locs 10 ls [] := by
    intro fu
    induction fu with
    | zero =>
      intro x2 x3 H locs ls h
      rw [L_X0_cellBehind_10] at h
      cases h
    | succ fu ih =>
      intro x2 x3 H locs ls h hl hX
      rw [L_X0_cellBehind_10] at h
      refine i_iload C dX0_cellBehind_10 (lv_at hl 4 rfl) ?_
      refine i_iload_n C dX0_cellBehind_12 rfl (lv_at hl 2 rfl) ?_
      refine i_icmp_ge (tgt := 31) C h dX0_cellBehind_13 (by decide) (fun _ h => ?_) (fun _ h => ?_)
      · refine i_iload_n C dX0_cellBehind_31 rfl (lv_at hl 3 rfl) ?_
        exact x_iretR C hX hr hQ h dX0_cellBehind_32
      refine i_aload_n C dX0_cellBehind_16 rfl (lv_at hl 0 rfl) ?_
      refine i_iload_n C dX0_cellBehind_17 rfl (lv_at hl 1 rfl) ?_
      refine i_iload_n C dX0_cellBehind_18 rfl (lv_at hl 3 rfl) ?_
      refine i_iload C dX0_cellBehind_19 (lv_at hl 4 rfl) ?_
      obtain ⟨x4, e1, h⟩ := w_bdr h
      refine x_callVi C hX (fg_1_0 G) (c_X0_nextOf (gl Γ) G  e1) [] rfl hl tw2_82 tw2_21 tw2_22 tw1_2 tw2_23 rfl nd_X0_nextOf ⟨(Nat.le_of_ble_eq_true rfl), (Nat.le_of_ble_eq_true rfl)⟩ (Nat.le_of_ble_eq_true rfl) dX0_cellBehind_21 (fun H locs hX => ?_)
      refine i_istore_n C [(3, .int x4), (0, .ref (G.2.1 1)), (1, .int p1), (2, .int p2), (4, .int x3)] dX0_cellBehind_24 rfl hl (by decide) rfl (fun ls hl => ?_)
      refine i_iinc C (j := 4) (fun x5 => [(4, .int x5), (3, .int x4), (0, .ref (G.2.1 1)), (1, .int p1), (2, .int p2)]) h dX0_cellBehind_25 hl rfl rfl (by decide) (fun _ => rfl) (fun x5 ls h hl => ?_)
      refine i_goto (tgt := 10) C dX0_cellBehind_28 (by decide) ?_
      exact ih _ _ _ _ _ h (lv_sub hl [2, 3, 4, 1, 0] rfl) hX
  exact L1 FU _ _ _ _ _ h (lv_sub hl [2, 3, 4, 1, 0] rfl) hX
def f_X4_ahead (p1 : Int32) (p2 : Int32) (μ : MM) : Option (Int32 × MM) := bdr (f_X4_isShip p1) fun x1 => if x1 = 0 then (bdw (f_X4_finding (-1000001) μ) fun x2 m1 => some (x2, m1)) else (bdr (f_X4_isWithin p2 0 200) fun x3 => if x3 = 0 then (bdw (f_X4_finding (-1000001) μ) fun x5 m2 => some (x5, m2)) else (bdr (f_X0_cellBehind p1 p2 μ) fun x4 => some (x4, μ)))
theorem nd_X4_ahead : yX4_ahead.cls ≠ "java/lang/invoke/MethodHandle" ∧ yX4_ahead.cls ≠ "java/lang/invoke/VarHandle" ∧ (parseMethodDescriptor yX4_ahead.desc).map (fun d => d.parameters.length) = some 2 := by decide +kernel
set_option maxHeartbeats 4000000 in
set_option maxRecDepth 100000 in
theorem c_X4_ahead (l : Launch) (G : EN)  {p1 p2 : Int32} {μ : MM} {r : Int32} {m : MM} (h : f_X4_ahead p1 p2 μ = some (r, m)) : XM l G yX4_ahead cX4_ahead 3 (some .int) 5 123 [.ref (G.2.1 0), .int p1, .int p2] μ (some (.int r)) m := by
  refine x_met (own := RX4) (by decide +kernel) rfl (Nat.le_of_ble_eq_true rfl) (fun Γ A H ls hg C hr hX hQ hl => ?_)
  have hl : lv_has ls 3 [(0, .ref (G.2.1 0)), (1, .int p1), (2, .int p2)] := hl
  unfold f_X4_ahead at h
  refine i_iload_n C dX4_ahead_0 rfl (lv_at hl 1 rfl) ?_
  obtain ⟨x1, e1, h⟩ := w_bdr h
  refine x_callSi C hX (c_X4_isShip (gl Γ) G  e1) [] rfl hl tw2_4 tw2_5 tw1_1 tw2_6 nd_X4_isShip ⟨(Nat.le_of_ble_eq_true rfl), (Nat.le_of_ble_eq_true rfl)⟩ (Nat.le_of_ble_eq_true rfl) dX4_ahead_1 (fun H locs hX => ?_)
  refine i_if_eq (tgt := 18) C h dX4_ahead_4 (by decide) (fun _ h => ?_) (fun _ h => ?_)
  · refine i_aload_n C dX4_ahead_18 rfl (lv_at hl 0 rfl) ?_
    refine i_ldc C tw1_204 dX4_ahead_19 ?_
    obtain ⟨x2, m1, e2, h⟩ := w_bdw h
    refine x_callVi C hX (fg_0_0 G) (c_X4_finding (gl Γ) G  e2) [] rfl hl tw1_205 tw1_207 ts1_0 tw1_1 tw1_208 rfl nd_X4_finding ⟨(Nat.le_of_ble_eq_true rfl), (Nat.le_of_ble_eq_true rfl)⟩ (Nat.le_of_ble_eq_true rfl) dX4_ahead_21 (fun H locs hX => ?_)
    exact x_iretW C hX hr hQ h dX4_ahead_24
  refine i_iload_n C dX4_ahead_7 rfl (lv_at hl 2 rfl) ?_
  refine i_iconst (v := 0) C dX4_ahead_8 rfl ?_
  refine i_sipush (v := 200) C dX4_ahead_9 rfl ?_
  obtain ⟨x3, e3, h⟩ := w_bdr h
  refine x_callSi C hX (c_X4_isWithin (gl Γ) G  e3) [] rfl hl tw1_201 tw1_202 tw1_1 tw1_203 nd_X4_isWithin ⟨(Nat.le_of_ble_eq_true rfl), (Nat.le_of_ble_eq_true rfl)⟩ (Nat.le_of_ble_eq_true rfl) dX4_ahead_12 (fun H locs hX => ?_)
  refine i_if_ne (tgt := 25) C h dX4_ahead_15 (by decide) (fun _ h => ?_) (fun _ h => ?_)
  · refine i_aload_n C dX4_ahead_25 rfl (lv_at hl 0 rfl) ?_
    refine x_get C hX (fg_0_0 G) tw1_166 dX4_ahead_26 ?_
    refine i_iload_n C dX4_ahead_29 rfl (lv_at hl 1 rfl) ?_
    refine i_iload_n C dX4_ahead_30 rfl (lv_at hl 2 rfl) ?_
    obtain ⟨x4, e4, h⟩ := w_bdr h
    refine x_callVi C hX (fg_1_0 G) (c_X0_cellBehind (gl Γ) G  e4) [] rfl hl tw2_118 tw2_119 tw2_120 tw1_2 tw2_121 rfl nd_X0_cellBehind ⟨(Nat.le_of_ble_eq_true rfl), (Nat.le_of_ble_eq_true rfl)⟩ (Nat.le_of_ble_eq_true rfl) dX4_ahead_31 (fun H locs hX => ?_)
    exact x_iretW C hX hr hQ h dX4_ahead_34
  refine i_aload_n C dX4_ahead_18 rfl (lv_at hl 0 rfl) ?_
  refine i_ldc C tw1_204 dX4_ahead_19 ?_
  obtain ⟨x5, m2, e5, h⟩ := w_bdw h
  refine x_callVi C hX (fg_0_0 G) (c_X4_finding (gl Γ) G  e5) [] rfl hl tw1_205 tw1_207 ts1_0 tw1_1 tw1_208 rfl nd_X4_finding ⟨(Nat.le_of_ble_eq_true rfl), (Nat.le_of_ble_eq_true rfl)⟩ (Nat.le_of_ble_eq_true rfl) dX4_ahead_21 (fun H locs hX => ?_)
  exact x_iretW C hX hr hQ h dX4_ahead_24
def L_X4_lands_26 (p1 : Int32) (μ : MM) : Nat → Int32 → Int32 → Option (Int32 × MM)
  | 0, _, _ => none
  | fu + 1, x3, x4 => if 200 < x4 then (bdw (f_X4_finding (-1000004) μ) fun x5 m1 => some (x5, m1)) else (ldi μ 8 100 x3 fun x6 => if x6 = 0 then (bdr (f_X0_nextOf p1 x3 x4 μ) fun x7 => lt_ (x4 + 1) fun x8 => L_X4_lands_26 p1 μ fu x7 x8) else (some (x4, μ)))
def f_X4_lands (p1 : Int32) (μ : MM) : Option (Int32 × MM) := bdr (f_X4_isShip p1) fun x1 => if x1 = 0 then (bdw (f_X4_finding (-1000001) μ) fun x9 m2 => some (x9, m2)) else (ldi μ 5 4 p1 fun x2 => L_X4_lands_26 p1 μ FU x2 0)
theorem nd_X4_lands : yX4_lands.cls ≠ "java/lang/invoke/MethodHandle" ∧ yX4_lands.cls ≠ "java/lang/invoke/VarHandle" ∧ (parseMethodDescriptor yX4_lands.desc).map (fun d => d.parameters.length) = some 1 := by decide +kernel
set_option maxHeartbeats 4000000 in
set_option maxRecDepth 100000 in
theorem c_X4_lands (l : Launch) (G : EN)  {p1 : Int32} {μ : MM} {r : Int32} {m : MM} (h : f_X4_lands p1 μ = some (r, m)) : XM l G yX4_lands cX4_lands 4 (some .int) 4 99 [.ref (G.2.1 0), .int p1] μ (some (.int r)) m := by
  refine x_met (own := RX4) (by decide +kernel) rfl (Nat.le_of_ble_eq_true rfl) (fun Γ A H ls hg C hr hX hQ hl => ?_)
  have hl : lv_has ls 4 [(0, .ref (G.2.1 0)), (1, .int p1)] := hl
  unfold f_X4_lands at h
  refine i_iload_n C dX4_lands_0 rfl (lv_at hl 1 rfl) ?_
  obtain ⟨x1, e1, h⟩ := w_bdr h
  refine x_callSi C hX (c_X4_isShip (gl Γ) G  e1) [] rfl hl tw2_4 tw2_5 tw1_1 tw2_6 nd_X4_isShip ⟨(Nat.le_of_ble_eq_true rfl), (Nat.le_of_ble_eq_true rfl)⟩ (Nat.le_of_ble_eq_true rfl) dX4_lands_1 (fun H locs hX => ?_)
  refine i_if_ne (tgt := 14) C h dX4_lands_4 (by decide) (fun _ h => ?_) (fun _ h => ?_)
  · refine i_aload_n C dX4_lands_14 rfl (lv_at hl 0 rfl) ?_
    refine x_get C hX (fg_0_0 G) tw1_166 dX4_lands_15 ?_
    refine x_get C hX (fg_1_4 G) tw1_42 dX4_lands_18 ?_
    refine i_iload_n C dX4_lands_21 rfl (lv_at hl 1 rfl) ?_
    refine x_iald C hX (ai_5 G) h dX4_lands_22 (fun x2 h => ?_)
    refine i_istore_n C [(2, .int x2), (0, .ref (G.2.1 0)), (1, .int p1)] dX4_lands_23 rfl hl (by decide) rfl (fun ls hl => ?_)
    refine i_iconst (v := 0) C dX4_lands_24 rfl ?_
    refine i_istore_n C [(3, .int 0), (2, .int x2), (0, .ref (G.2.1 0)), (1, .int p1)] dX4_lands_25 rfl hl (by decide) rfl (fun ls hl => ?_)
    have L1 : ∀ (fu : Nat) (x3 : Int32) (x4 : Int32) (H : Heap) (locs : List Loc) (ls : Array Slot), L_X4_lands_26 p1 μ fu x3 x4 = some (r, m) → lv_has ls 4 [(0, .ref (G.2.1 0)), (1, .int p1), (2, .int x3), (3, .int x4)] → XW G A (gs Γ) H locs μ → WX Γ H locs 26 ls [] := by
      intro fu
      induction fu with
      | zero =>
        intro x3 x4 H locs ls h
        rw [L_X4_lands_26] at h
        cases h
      | succ fu ih =>
        intro x3 x4 H locs ls h hl hX
        rw [L_X4_lands_26] at h
        refine i_iload_n C dX4_lands_26 rfl (lv_at hl 3 rfl) ?_
        refine i_sipush (v := 200) C dX4_lands_27 rfl ?_
        refine i_icmp_gt (tgt := 64) C h dX4_lands_30 (by decide) (fun _ h => ?_) (fun _ h => ?_)
        · refine i_aload_n C dX4_lands_64 rfl (lv_at hl 0 rfl) ?_
          refine i_ldc C tw2_126 dX4_lands_65 ?_
          obtain ⟨x5, m1, e2, h⟩ := w_bdw h
          refine x_callVi C hX (fg_0_0 G) (c_X4_finding (gl Γ) G  e2) [] rfl hl tw1_205 tw1_207 ts1_0 tw1_1 tw1_208 rfl nd_X4_finding ⟨(Nat.le_of_ble_eq_true rfl), (Nat.le_of_ble_eq_true rfl)⟩ (Nat.le_of_ble_eq_true rfl) dX4_lands_67 (fun H locs hX => ?_)
          exact x_iretW C hX hr hQ h dX4_lands_70
        refine i_aload_n C dX4_lands_33 rfl (lv_at hl 0 rfl) ?_
        refine x_get C hX (fg_0_0 G) tw1_166 dX4_lands_34 ?_
        refine x_get C hX (fg_1_7 G) tw1_51 dX4_lands_37 ?_
        refine i_iload_n C dX4_lands_40 rfl (lv_at hl 2 rfl) ?_
        refine x_zald C hX (az_8 G) h dX4_lands_41 (fun x6 h => ?_)
        refine i_if_eq (tgt := 47) C h dX4_lands_42 (by decide) (fun _ h => ?_) (fun _ h => ?_)
        · refine i_aload_n C dX4_lands_47 rfl (lv_at hl 0 rfl) ?_
          refine x_get C hX (fg_0_0 G) tw1_166 dX4_lands_48 ?_
          refine i_iload_n C dX4_lands_51 rfl (lv_at hl 1 rfl) ?_
          refine i_iload_n C dX4_lands_52 rfl (lv_at hl 2 rfl) ?_
          refine i_iload_n C dX4_lands_53 rfl (lv_at hl 3 rfl) ?_
          obtain ⟨x7, e3, h⟩ := w_bdr h
          refine x_callVi C hX (fg_1_0 G) (c_X0_nextOf (gl Γ) G  e3) [] rfl hl tw2_20 tw2_21 tw2_22 tw1_2 tw2_23 rfl nd_X0_nextOf ⟨(Nat.le_of_ble_eq_true rfl), (Nat.le_of_ble_eq_true rfl)⟩ (Nat.le_of_ble_eq_true rfl) dX4_lands_54 (fun H locs hX => ?_)
          refine i_istore_n C [(2, .int x7), (0, .ref (G.2.1 0)), (1, .int p1), (3, .int x4)] dX4_lands_57 rfl hl (by decide) rfl (fun ls hl => ?_)
          refine i_iinc C (j := 3) (fun x8 => [(3, .int x8), (2, .int x7), (0, .ref (G.2.1 0)), (1, .int p1)]) h dX4_lands_58 hl rfl rfl (by decide) (fun _ => rfl) (fun x8 ls h hl => ?_)
          refine i_goto (tgt := 26) C dX4_lands_61 (by decide) ?_
          exact ih _ _ _ _ _ h (lv_sub hl [2, 3, 1, 0] rfl) hX
        refine i_iload_n C dX4_lands_45 rfl (lv_at hl 3 rfl) ?_
        exact x_iretW C hX hr hQ h dX4_lands_46
    exact L1 FU _ _ _ _ _ h (lv_sub hl [2, 3, 1, 0] rfl) hX
  refine i_aload_n C dX4_lands_7 rfl (lv_at hl 0 rfl) ?_
  refine i_ldc C tw1_204 dX4_lands_8 ?_
  obtain ⟨x9, m2, e4, h⟩ := w_bdw h
  refine x_callVi C hX (fg_0_0 G) (c_X4_finding (gl Γ) G  e4) [] rfl hl tw1_205 tw1_207 ts1_0 tw1_1 tw1_208 rfl nd_X4_finding ⟨(Nat.le_of_ble_eq_true rfl), (Nat.le_of_ble_eq_true rfl)⟩ (Nat.le_of_ble_eq_true rfl) dX4_lands_10 (fun H locs hX => ?_)
  exact x_iretW C hX hr hQ h dX4_lands_13
def L_X4_meets_50 (p1 : Int32) (p2 : Int32) (μ : MM) : Nat → Int32 → Int32 → Int32 → Option (Int32 × MM)
  | 0, _, _, _ => none
  | fu + 1, x7, x8, x9 => if 200 < x9 then (bdw (f_X4_finding (-1000004) μ) fun x10 m3 => some (x10, m3)) else (if x7 = x8 then (some (x9, μ)) else (bdr (f_X0_nextOf p1 x7 x9 μ) fun x11 => bdr (f_X0_nextOf p2 x8 x9 μ) fun x12 => lt_ (x9 + 1) fun x13 => L_X4_meets_50 p1 p2 μ fu x11 x12 x13))
def f_X4_meets (p1 : Int32) (p2 : Int32) (μ : MM) : Option (Int32 × MM) := bdr (f_X4_isShip p1) fun x1 => if x1 = 0 then (bdw (f_X4_finding (-1000001) μ) fun x2 m1 => some (x2, m1)) else (bdr (f_X4_isShip p2) fun x3 => if x3 = 0 then (bdw (f_X4_finding (-1000001) μ) fun x4 m2 => some (x4, m2)) else (if p1 = p2 then (bdw (f_X4_finding (-1000001) μ) fun x14 m4 => some (x14, m4)) else (ldi μ 5 4 p1 fun x5 => ldi μ 5 4 p2 fun x6 => L_X4_meets_50 p1 p2 μ FU x5 x6 0)))
theorem nd_X4_meets : yX4_meets.cls ≠ "java/lang/invoke/MethodHandle" ∧ yX4_meets.cls ≠ "java/lang/invoke/VarHandle" ∧ (parseMethodDescriptor yX4_meets.desc).map (fun d => d.parameters.length) = some 2 := by decide +kernel
set_option maxHeartbeats 4000000 in
set_option maxRecDepth 100000 in
theorem c_X4_meets (l : Launch) (G : EN)  {p1 p2 : Int32} {μ : MM} {r : Int32} {m : MM} (h : f_X4_meets p1 p2 μ = some (r, m)) : XM l G yX4_meets cX4_meets 6 (some .int) 4 99 [.ref (G.2.1 0), .int p1, .int p2] μ (some (.int r)) m := by
  refine x_met (own := RX4) (by decide +kernel) rfl (Nat.le_of_ble_eq_true rfl) (fun Γ A H ls hg C hr hX hQ hl => ?_)
  have hl : lv_has ls 6 [(0, .ref (G.2.1 0)), (1, .int p1), (2, .int p2)] := hl
  unfold f_X4_meets at h
  refine i_iload_n C dX4_meets_0 rfl (lv_at hl 1 rfl) ?_
  obtain ⟨x1, e1, h⟩ := w_bdr h
  refine x_callSi C hX (c_X4_isShip (gl Γ) G  e1) [] rfl hl tw2_4 tw2_5 tw1_1 tw2_6 nd_X4_isShip ⟨(Nat.le_of_ble_eq_true rfl), (Nat.le_of_ble_eq_true rfl)⟩ (Nat.le_of_ble_eq_true rfl) dX4_meets_1 (fun H locs hX => ?_)
  refine i_if_eq (tgt := 19) C h dX4_meets_4 (by decide) (fun _ h => ?_) (fun _ h => ?_)
  · refine i_aload_n C dX4_meets_19 rfl (lv_at hl 0 rfl) ?_
    refine i_ldc C tw1_204 dX4_meets_20 ?_
    obtain ⟨x2, m1, e2, h⟩ := w_bdw h
    refine x_callVi C hX (fg_0_0 G) (c_X4_finding (gl Γ) G  e2) [] rfl hl tw1_205 tw1_207 ts1_0 tw1_1 tw1_208 rfl nd_X4_finding ⟨(Nat.le_of_ble_eq_true rfl), (Nat.le_of_ble_eq_true rfl)⟩ (Nat.le_of_ble_eq_true rfl) dX4_meets_22 (fun H locs hX => ?_)
    exact x_iretW C hX hr hQ h dX4_meets_25
  refine i_iload_n C dX4_meets_7 rfl (lv_at hl 2 rfl) ?_
  obtain ⟨x3, e3, h⟩ := w_bdr h
  refine x_callSi C hX (c_X4_isShip (gl Γ) G  e3) [] rfl hl tw2_4 tw2_5 tw1_1 tw2_6 nd_X4_isShip ⟨(Nat.le_of_ble_eq_true rfl), (Nat.le_of_ble_eq_true rfl)⟩ (Nat.le_of_ble_eq_true rfl) dX4_meets_8 (fun H locs hX => ?_)
  refine i_if_eq (tgt := 19) C h dX4_meets_11 (by decide) (fun _ h => ?_) (fun _ h => ?_)
  · refine i_aload_n C dX4_meets_19 rfl (lv_at hl 0 rfl) ?_
    refine i_ldc C tw1_204 dX4_meets_20 ?_
    obtain ⟨x4, m2, e4, h⟩ := w_bdw h
    refine x_callVi C hX (fg_0_0 G) (c_X4_finding (gl Γ) G  e4) [] rfl hl tw1_205 tw1_207 ts1_0 tw1_1 tw1_208 rfl nd_X4_finding ⟨(Nat.le_of_ble_eq_true rfl), (Nat.le_of_ble_eq_true rfl)⟩ (Nat.le_of_ble_eq_true rfl) dX4_meets_22 (fun H locs hX => ?_)
    exact x_iretW C hX hr hQ h dX4_meets_25
  refine i_iload_n C dX4_meets_14 rfl (lv_at hl 1 rfl) ?_
  refine i_iload_n C dX4_meets_15 rfl (lv_at hl 2 rfl) ?_
  refine i_icmp_ne (tgt := 26) C h dX4_meets_16 (by decide) (fun _ h => ?_) (fun _ h => ?_)
  · refine i_aload_n C dX4_meets_26 rfl (lv_at hl 0 rfl) ?_
    refine x_get C hX (fg_0_0 G) tw1_166 dX4_meets_27 ?_
    refine x_get C hX (fg_1_4 G) tw1_42 dX4_meets_30 ?_
    refine i_iload_n C dX4_meets_33 rfl (lv_at hl 1 rfl) ?_
    refine x_iald C hX (ai_5 G) h dX4_meets_34 (fun x5 h => ?_)
    refine i_istore_n C [(3, .int x5), (0, .ref (G.2.1 0)), (1, .int p1), (2, .int p2)] dX4_meets_35 rfl hl (by decide) rfl (fun ls hl => ?_)
    refine i_aload_n C dX4_meets_36 rfl (lv_at hl 1 rfl) ?_
    refine x_get C hX (fg_0_0 G) tw1_166 dX4_meets_37 ?_
    refine x_get C hX (fg_1_4 G) tw1_42 dX4_meets_40 ?_
    refine i_iload_n C dX4_meets_43 rfl (lv_at hl 3 rfl) ?_
    refine x_iald C hX (ai_5 G) h dX4_meets_44 (fun x6 h => ?_)
    refine i_istore C [(4, .int x6), (3, .int x5), (0, .ref (G.2.1 0)), (1, .int p1), (2, .int p2)] dX4_meets_45 hl (by decide) rfl (fun ls hl => ?_)
    refine i_iconst (v := 0) C dX4_meets_47 rfl ?_
    refine i_istore C [(5, .int 0), (4, .int x6), (3, .int x5), (0, .ref (G.2.1 0)), (1, .int p1), (2, .int p2)] dX4_meets_48 hl (by decide) rfl (fun ls hl => ?_)
    have L1 : ∀ (fu : Nat) (x7 : Int32) (x8 : Int32) (x9 : Int32) (H : Heap) (locs : List Loc) (ls : Array Slot), L_X4_meets_50 p1 p2 μ fu x7 x8 x9 = some (r, m) → lv_has ls 6 [(0, .ref (G.2.1 0)), (1, .int p1), (2, .int p2), (3, .int x7), (4, .int x8), (5, .int x9)] → XW G A (gs Γ) H locs μ → WX Γ H locs 50 ls [] := by
      intro fu
      induction fu with
      | zero =>
        intro x7 x8 x9 H locs ls h
        rw [L_X4_meets_50] at h
        cases h
      | succ fu ih =>
        intro x7 x8 x9 H locs ls h hl hX
        rw [L_X4_meets_50] at h
        refine i_iload C dX4_meets_50 (lv_at hl 5 rfl) ?_
        refine i_sipush (v := 200) C dX4_meets_52 rfl ?_
        refine i_icmp_gt (tgt := 99) C h dX4_meets_55 (by decide) (fun _ h => ?_) (fun _ h => ?_)
        · refine i_aload_n C dX4_meets_99 rfl (lv_at hl 0 rfl) ?_
          refine i_ldc C tw2_126 dX4_meets_100 ?_
          obtain ⟨x10, m3, e5, h⟩ := w_bdw h
          refine x_callVi C hX (fg_0_0 G) (c_X4_finding (gl Γ) G  e5) [] rfl hl tw1_205 tw1_207 ts1_0 tw1_1 tw1_208 rfl nd_X4_finding ⟨(Nat.le_of_ble_eq_true rfl), (Nat.le_of_ble_eq_true rfl)⟩ (Nat.le_of_ble_eq_true rfl) dX4_meets_102 (fun H locs hX => ?_)
          exact x_iretW C hX hr hQ h dX4_meets_105
        refine i_iload_n C dX4_meets_58 rfl (lv_at hl 3 rfl) ?_
        refine i_iload C dX4_meets_59 (lv_at hl 4 rfl) ?_
        refine i_icmp_ne (tgt := 67) C h dX4_meets_61 (by decide) (fun _ h => ?_) (fun _ h => ?_)
        · refine i_aload_n C dX4_meets_67 rfl (lv_at hl 0 rfl) ?_
          refine x_get C hX (fg_0_0 G) tw1_166 dX4_meets_68 ?_
          refine i_iload_n C dX4_meets_71 rfl (lv_at hl 1 rfl) ?_
          refine i_iload_n C dX4_meets_72 rfl (lv_at hl 3 rfl) ?_
          refine i_iload C dX4_meets_73 (lv_at hl 5 rfl) ?_
          obtain ⟨x11, e6, h⟩ := w_bdr h
          refine x_callVi C hX (fg_1_0 G) (c_X0_nextOf (gl Γ) G  e6) [] rfl hl tw2_20 tw2_21 tw2_22 tw1_2 tw2_23 rfl nd_X0_nextOf ⟨(Nat.le_of_ble_eq_true rfl), (Nat.le_of_ble_eq_true rfl)⟩ (Nat.le_of_ble_eq_true rfl) dX4_meets_75 (fun H locs hX => ?_)
          refine i_istore_n C [(3, .int x11), (0, .ref (G.2.1 0)), (1, .int p1), (2, .int p2), (4, .int x8), (5, .int x9)] dX4_meets_78 rfl hl (by decide) rfl (fun ls hl => ?_)
          refine i_aload_n C dX4_meets_79 rfl (lv_at hl 1 rfl) ?_
          refine x_get C hX (fg_0_0 G) tw1_166 dX4_meets_80 ?_
          refine i_iload_n C dX4_meets_83 rfl (lv_at hl 3 rfl) ?_
          refine i_iload C dX4_meets_84 (lv_at hl 4 rfl) ?_
          refine i_iload C dX4_meets_86 (lv_at hl 5 rfl) ?_
          obtain ⟨x12, e7, h⟩ := w_bdr h
          refine x_callVi C hX (fg_1_0 G) (c_X0_nextOf (gl Γ) G  e7) [] rfl hl tw2_20 tw2_21 tw2_22 tw1_2 tw2_23 rfl nd_X0_nextOf ⟨(Nat.le_of_ble_eq_true rfl), (Nat.le_of_ble_eq_true rfl)⟩ (Nat.le_of_ble_eq_true rfl) dX4_meets_88 (fun H locs hX => ?_)
          refine i_istore C [(4, .int x12), (3, .int x11), (0, .ref (G.2.1 0)), (1, .int p1), (2, .int p2), (5, .int x9)] dX4_meets_91 hl (by decide) rfl (fun ls hl => ?_)
          refine i_iinc C (j := 5) (fun x13 => [(5, .int x13), (4, .int x12), (3, .int x11), (0, .ref (G.2.1 0)), (1, .int p1), (2, .int p2)]) h dX4_meets_93 hl rfl rfl (by decide) (fun _ => rfl) (fun x13 ls h hl => ?_)
          refine i_goto (tgt := 50) C dX4_meets_96 (by decide) ?_
          exact ih _ _ _ _ _ _ h (lv_sub hl [3, 4, 5, 2, 1, 0] rfl) hX
        refine i_iload C dX4_meets_64 (lv_at hl 5 rfl) ?_
        exact x_iretW C hX hr hQ h dX4_meets_66
    exact L1 FU _ _ _ _ _ _ h (lv_sub hl [3, 4, 5, 2, 1, 0] rfl) hX
  refine i_aload_n C dX4_meets_19 rfl (lv_at hl 0 rfl) ?_
  refine i_ldc C tw1_204 dX4_meets_20 ?_
  obtain ⟨x14, m4, e8, h⟩ := w_bdw h
  refine x_callVi C hX (fg_0_0 G) (c_X4_finding (gl Γ) G  e8) [] rfl hl tw1_205 tw1_207 ts1_0 tw1_1 tw1_208 rfl nd_X4_finding ⟨(Nat.le_of_ble_eq_true rfl), (Nat.le_of_ble_eq_true rfl)⟩ (Nat.le_of_ble_eq_true rfl) dX4_meets_22 (fun H locs hX => ?_)
  exact x_iretW C hX hr hQ h dX4_meets_25
def L_X4_movesPlaces_4 (p1 : Int32) : Nat → Int32 → Int32 → MM → Option (Int32 × MM)
  | 0, _, _, _ => none
  | fu + 1, x1, x2, m1 => if 4 ≤ x2 then (gd (x1 = 0 ∨ x1 = 1) (some (x1, m1))) else (ldi m1 36 4 x2 fun x3 => bdr (f_X0_nextOf x2 x3 p1 m1) fun x4 => ldi m1 36 4 x2 fun x5 => jn1 (fun (x6 : Int32) => sti m1 36 4 x2 x4 fun m2 => lt_ (x2 + 1) fun x7 => L_X4_movesPlaces_4 p1 fu x6 x7 m2) fun k1 => if x4 = x5 then (k1 x1) else (k1 1))
def f_X4_movesPlaces (p1 : Int32) (μ : MM) : Option (Int32 × MM) := L_X4_movesPlaces_4 p1 FU 0 0 μ
theorem nd_X4_movesPlaces : yX4_movesPlaces.cls ≠ "java/lang/invoke/MethodHandle" ∧ yX4_movesPlaces.cls ≠ "java/lang/invoke/VarHandle" ∧ (parseMethodDescriptor yX4_movesPlaces.desc).map (fun d => d.parameters.length) = some 1 := by decide +kernel
set_option maxHeartbeats 4000000 in
set_option maxRecDepth 100000 in
theorem c_X4_movesPlaces (l : Launch) (G : EN)  {p1 : Int32} {μ : MM} {r : Int32} {m : MM} (h : f_X4_movesPlaces p1 μ = some (r, m)) : XM l G yX4_movesPlaces cX4_movesPlaces 5 (some .boolean) 4 99 [.ref (G.2.1 0), .int p1] μ (some (.int r)) m := by
  refine x_met (own := RX4) (by decide +kernel) rfl (Nat.le_of_ble_eq_true rfl) (fun Γ A H ls hg C hr hX hQ hl => ?_)
  have hl : lv_has ls 5 [(0, .ref (G.2.1 0)), (1, .int p1)] := hl
  unfold f_X4_movesPlaces at h
  refine i_iconst (v := 0) C dX4_movesPlaces_0 rfl ?_
  refine i_istore_n C [(2, .int 0), (0, .ref (G.2.1 0)), (1, .int p1)] dX4_movesPlaces_1 rfl hl (by decide) rfl (fun ls hl => ?_)
  refine i_iconst (v := 0) C dX4_movesPlaces_2 rfl ?_
  refine i_istore_n C [(3, .int 0), (2, .int 0), (0, .ref (G.2.1 0)), (1, .int p1)] dX4_movesPlaces_3 rfl hl (by decide) rfl (fun ls hl => ?_)
  have L1 : ∀ (fu : Nat) (x1 : Int32) (x2 : Int32) (m1 : MM) (H : Heap) (locs : List Loc) (ls : Array Slot), L_X4_movesPlaces_4 p1 fu x1 x2 m1 = some (r, m) → lv_has ls 5 [(0, .ref (G.2.1 0)), (1, .int p1), (2, .int x1), (3, .int x2)] → XW G A (gs Γ) H locs m1 → WX Γ H locs 4 ls [] := by
    intro fu
    induction fu with
    | zero =>
      intro x1 x2 m1 H locs ls h
      rw [L_X4_movesPlaces_4] at h
      cases h
    | succ fu ih =>
      intro x1 x2 m1 H locs ls h hl hX
      rw [L_X4_movesPlaces_4] at h
      refine i_iload_n C dX4_movesPlaces_4 rfl (lv_at hl 3 rfl) ?_
      refine i_iconst (v := 4) C dX4_movesPlaces_5 rfl ?_
      refine i_icmp_ge (tgt := 53) C h dX4_movesPlaces_6 (by decide) (fun _ h => ?_) (fun _ h => ?_)
      · refine i_iload_n C dX4_movesPlaces_53 rfl (lv_at hl 2 rfl) ?_
        exact x_zretW C hX hr hQ h dX4_movesPlaces_54
      refine i_aload_n C dX4_movesPlaces_9 rfl (lv_at hl 0 rfl) ?_
      refine x_get C hX (fg_0_0 G) tw1_166 dX4_movesPlaces_10 ?_
      refine i_iload_n C dX4_movesPlaces_13 rfl (lv_at hl 3 rfl) ?_
      refine i_aload_n C dX4_movesPlaces_14 rfl (lv_at hl 0 rfl) ?_
      refine x_get C hX (fg_0_8 G) tw1_174 dX4_movesPlaces_15 ?_
      refine i_iload_n C dX4_movesPlaces_18 rfl (lv_at hl 3 rfl) ?_
      refine x_iald C hX (ai_36 G) h dX4_movesPlaces_19 (fun x3 h => ?_)
      refine i_iload_n C dX4_movesPlaces_20 rfl (lv_at hl 1 rfl) ?_
      obtain ⟨x4, e1, h⟩ := w_bdr h
      refine x_callVi C hX (fg_1_0 G) (c_X0_nextOf (gl Γ) G  e1) [] rfl hl tw2_20 tw2_21 tw2_22 tw1_2 tw2_23 rfl nd_X0_nextOf ⟨(Nat.le_of_ble_eq_true rfl), (Nat.le_of_ble_eq_true rfl)⟩ (Nat.le_of_ble_eq_true rfl) dX4_movesPlaces_21 (fun H locs hX => ?_)
      refine i_istore C [(4, .int x4), (0, .ref (G.2.1 0)), (1, .int p1), (2, .int x1), (3, .int x2)] dX4_movesPlaces_24 hl (by decide) rfl (fun ls hl => ?_)
      refine i_iload C dX4_movesPlaces_26 (lv_at hl 0 rfl) ?_
      refine i_aload_n C dX4_movesPlaces_28 rfl (lv_at hl 1 rfl) ?_
      refine x_get C hX (fg_0_8 G) tw1_174 dX4_movesPlaces_29 ?_
      refine i_iload_n C dX4_movesPlaces_32 rfl (lv_at hl 4 rfl) ?_
      refine x_iald C hX (ai_36 G) h dX4_movesPlaces_33 (fun x5 h => ?_)
      refine w_jn1 (fun (x6 : Int32) => ∀ (H : Heap) (locs : List Loc) (ls : Array Slot), lv_has ls 5 [(0, .ref (G.2.1 0)), (1, .int p1), (2, .int x6), (3, .int x2), (4, .int x4)] → XW G A (gs Γ) H locs m1 → WX Γ H locs 39 ls []) h (fun x6 h H locs ls hl hX => ?_) (fun k1 J1 h => ?_)
      · refine i_aload_n C dX4_movesPlaces_39 rfl (lv_at hl 0 rfl) ?_
        refine x_get C hX (fg_0_8 G) tw1_174 dX4_movesPlaces_40 ?_
        refine i_iload_n C dX4_movesPlaces_43 rfl (lv_at hl 3 rfl) ?_
        refine i_iload C dX4_movesPlaces_44 (lv_at hl 4 rfl) ?_
        refine x_iast C hX (ai_36 G) h dX4_movesPlaces_46 (fun H locs m2 h hX => ?_)
        refine i_iinc C (j := 3) (fun x7 => [(3, .int x7), (0, .ref (G.2.1 0)), (1, .int p1), (2, .int x6), (4, .int x4)]) h dX4_movesPlaces_47 hl rfl rfl (by decide) (fun _ => rfl) (fun x7 ls h hl => ?_)
        refine i_goto (tgt := 4) C dX4_movesPlaces_50 (by decide) ?_
        exact ih _ _ _ _ _ _ h (lv_sub hl [1, 2, 3, 0] rfl) hX
      refine i_icmp_eq (tgt := 39) C h dX4_movesPlaces_34 (by decide) (fun _ h => ?_) (fun _ h => ?_)
      · exact J1 _ h _ _ _ (lv_sub hl [1, 2, 3, 4, 0] rfl) hX
      refine i_iconst (v := 1) C dX4_movesPlaces_37 rfl ?_
      refine i_istore_n C [(2, .int 1), (4, .int x4), (0, .ref (G.2.1 0)), (1, .int p1), (3, .int x2)] dX4_movesPlaces_38 rfl hl (by decide) rfl (fun ls hl => ?_)
      exact J1 _ h _ _ _ (lv_sub hl [2, 3, 0, 4, 1] rfl) hX
  exact L1 FU _ _ _ _ _ _ h (lv_sub hl [2, 3, 1, 0] rfl) hX
def L_X4_still_19 : Nat → Int32 → MM → Option (Int32 × MM)
  | 0, _, _ => none
  | fu + 1, x1, m2 => if 60 < x1 then (bdw (f_X4_finding (-1000004) m2) fun x2 m3 => some (x2, m3)) else (bdw (f_X4_movesPlaces x1 m2) fun x3 m4 => if x3 = 0 then (some (x1, m4)) else (lt_ (x1 + 1) fun x4 => L_X4_still_19 fu x4 m4))
def f_X4_still (μ : MM) : Option (Int32 × MM) := acp μ 5 4 36 4 0 0 4 fun m1 => L_X4_still_19 FU 0 m1
theorem nd_X4_still : yX4_still.cls ≠ "java/lang/invoke/MethodHandle" ∧ yX4_still.cls ≠ "java/lang/invoke/VarHandle" ∧ (parseMethodDescriptor yX4_still.desc).map (fun d => d.parameters.length) = some 0 := by decide +kernel
set_option maxHeartbeats 4000000 in
set_option maxRecDepth 100000 in
theorem c_X4_still (l : Launch) (G : EN)  {μ : MM} {r : Int32} {m : MM} (h : f_X4_still μ = some (r, m)) : XM l G yX4_still cX4_still 2 (some .int) 5 123 [.ref (G.2.1 0)] μ (some (.int r)) m := by
  refine x_met (own := RX4) (by decide +kernel) rfl (Nat.le_of_ble_eq_true rfl) (fun Γ A H ls hg C hr hX hQ hl => ?_)
  have hl : lv_has ls 2 [(0, .ref (G.2.1 0))] := hl
  unfold f_X4_still at h
  refine i_aload_n C dX4_still_0 rfl (lv_at hl 0 rfl) ?_
  refine x_get C hX (fg_0_0 G) tw1_166 dX4_still_1 ?_
  refine x_get C hX (fg_1_4 G) tw1_42 dX4_still_4 ?_
  refine i_iconst (v := 0) C dX4_still_7 rfl ?_
  refine i_aload_n C dX4_still_8 rfl (lv_at hl 0 rfl) ?_
  refine x_get C hX (fg_0_8 G) tw1_174 dX4_still_9 ?_
  refine i_iconst (v := 0) C dX4_still_12 rfl ?_
  refine i_iconst (v := 4) C dX4_still_13 rfl ?_
  refine x_acopy C hX (ai_5 G) (ai_36 G) h hl tw2_135 tw2_137 tw2_136 tw1_10 (Nat.le_of_ble_eq_true rfl) (Nat.le_of_ble_eq_true rfl) dX4_still_14 (fun H locs m1 h hX => ?_)
  refine i_iconst (v := 0) C dX4_still_17 rfl ?_
  refine i_istore_n C [(1, .int 0), (0, .ref (G.2.1 0))] dX4_still_18 rfl hl (by decide) rfl (fun ls hl => ?_)
  have L1 : ∀ (fu : Nat) (x1 : Int32) (m2 : MM) (H : Heap) (locs : List Loc) (ls : Array Slot), L_X4_still_19 fu x1 m2 = some (r, m) → lv_has ls 2 [(0, .ref (G.2.1 0)), (1, .int x1)] → XW G A (gs Γ) H locs m2 → WX Γ H locs 19 ls [] := by
    intro fu
    induction fu with
    | zero =>
      intro x1 m2 H locs ls h
      rw [L_X4_still_19] at h
      cases h
    | succ fu ih =>
      intro x1 m2 H locs ls h hl hX
      rw [L_X4_still_19] at h
      refine i_iload_n C dX4_still_19 rfl (lv_at hl 1 rfl) ?_
      refine i_bipush (v := 60) C dX4_still_20 rfl ?_
      refine i_icmp_gt (tgt := 41) C h dX4_still_22 (by decide) (fun _ h => ?_) (fun _ h => ?_)
      · refine i_aload_n C dX4_still_41 rfl (lv_at hl 0 rfl) ?_
        refine i_ldc C tw2_126 dX4_still_42 ?_
        obtain ⟨x2, m3, e1, h⟩ := w_bdw h
        refine x_callVi C hX (fg_0_0 G) (c_X4_finding (gl Γ) G  e1) [] rfl hl tw1_205 tw1_207 ts1_0 tw1_1 tw1_208 rfl nd_X4_finding ⟨(Nat.le_of_ble_eq_true rfl), (Nat.le_of_ble_eq_true rfl)⟩ (Nat.le_of_ble_eq_true rfl) dX4_still_44 (fun H locs hX => ?_)
        exact x_iretW C hX hr hQ h dX4_still_47
      refine i_aload_n C dX4_still_25 rfl (lv_at hl 0 rfl) ?_
      refine i_iload_n C dX4_still_26 rfl (lv_at hl 1 rfl) ?_
      obtain ⟨x3, m4, e2, h⟩ := w_bdw h
      refine x_callVi C hX (fg_0_0 G) (c_X4_movesPlaces (gl Γ) G  e2) [] rfl hl tw2_138 tw2_140 ts1_3 tw1_1 tw2_141 rfl nd_X4_movesPlaces ⟨(Nat.le_of_ble_eq_true rfl), (Nat.le_of_ble_eq_true rfl)⟩ (Nat.le_of_ble_eq_true rfl) dX4_still_27 (fun H locs hX => ?_)
      refine i_if_ne (tgt := 35) C h dX4_still_30 (by decide) (fun _ h => ?_) (fun _ h => ?_)
      · refine i_iinc C (j := 1) (fun x4 => [(1, .int x4), (0, .ref (G.2.1 0))]) h dX4_still_35 hl rfl rfl (by decide) (fun _ => rfl) (fun x4 ls h hl => ?_)
        refine i_goto (tgt := 19) C dX4_still_38 (by decide) ?_
        exact ih _ _ _ _ _ h (lv_sub hl [1, 0] rfl) hX
      refine i_iload_n C dX4_still_33 rfl (lv_at hl 1 rfl) ?_
      exact x_iretW C hX hr hQ h dX4_still_34
  exact L1 FU _ _ _ _ _ h (lv_sub hl [1, 0] rfl) hX
def f_X4_sits (p1 : Int32) (p2 : Int32) (μ : MM) : Option (Int32 × MM) := bdr (f_X4_isCat p1 μ) fun x1 => if x1 = 0 then (bdw (f_X4_finding (-1000001) μ) fun x2 m1 => some (x2, m1)) else (bdr (f_X4_isWithin p2 0 200) fun x3 => if x3 = 0 then (bdw (f_X4_finding (-1000001) μ) fun x5 m2 => some (x5, m2)) else (bdr (f_X0_errs p1 p2 μ) fun x4 => some (x4, μ)))
theorem nd_X4_sits : yX4_sits.cls ≠ "java/lang/invoke/MethodHandle" ∧ yX4_sits.cls ≠ "java/lang/invoke/VarHandle" ∧ (parseMethodDescriptor yX4_sits.desc).map (fun d => d.parameters.length) = some 2 := by decide +kernel
set_option maxHeartbeats 4000000 in
set_option maxRecDepth 100000 in
theorem c_X4_sits (l : Launch) (G : EN)  {p1 p2 : Int32} {μ : MM} {r : Int32} {m : MM} (h : f_X4_sits p1 p2 μ = some (r, m)) : XM l G yX4_sits cX4_sits 3 (some .int) 3 73 [.ref (G.2.1 0), .int p1, .int p2] μ (some (.int r)) m := by
  refine x_met (own := RX4) (by decide +kernel) rfl (Nat.le_of_ble_eq_true rfl) (fun Γ A H ls hg C hr hX hQ hl => ?_)
  have hl : lv_has ls 3 [(0, .ref (G.2.1 0)), (1, .int p1), (2, .int p2)] := hl
  unfold f_X4_sits at h
  refine i_aload_n C dX4_sits_0 rfl (lv_at hl 0 rfl) ?_
  refine i_iload_n C dX4_sits_1 rfl (lv_at hl 1 rfl) ?_
  obtain ⟨x1, e1, h⟩ := w_bdr h
  refine x_callVi C hX (fg_0_0 G) (c_X4_isCat (gl Γ) G  e1) [] rfl hl tw1_218 tw1_220 ts1_1 tw1_1 tw1_221 rfl nd_X4_isCat ⟨(Nat.le_of_ble_eq_true rfl), (Nat.le_of_ble_eq_true rfl)⟩ (Nat.le_of_ble_eq_true rfl) dX4_sits_2 (fun H locs hX => ?_)
  refine i_if_eq (tgt := 19) C h dX4_sits_5 (by decide) (fun _ h => ?_) (fun _ h => ?_)
  · refine i_aload_n C dX4_sits_19 rfl (lv_at hl 0 rfl) ?_
    refine i_ldc C tw1_204 dX4_sits_20 ?_
    obtain ⟨x2, m1, e2, h⟩ := w_bdw h
    refine x_callVi C hX (fg_0_0 G) (c_X4_finding (gl Γ) G  e2) [] rfl hl tw1_205 tw1_207 ts1_0 tw1_1 tw1_208 rfl nd_X4_finding ⟨(Nat.le_of_ble_eq_true rfl), (Nat.le_of_ble_eq_true rfl)⟩ (Nat.le_of_ble_eq_true rfl) dX4_sits_22 (fun H locs hX => ?_)
    exact x_iretW C hX hr hQ h dX4_sits_25
  refine i_iload_n C dX4_sits_8 rfl (lv_at hl 2 rfl) ?_
  refine i_iconst (v := 0) C dX4_sits_9 rfl ?_
  refine i_sipush (v := 200) C dX4_sits_10 rfl ?_
  obtain ⟨x3, e3, h⟩ := w_bdr h
  refine x_callSi C hX (c_X4_isWithin (gl Γ) G  e3) [] rfl hl tw1_201 tw1_202 tw1_1 tw1_203 nd_X4_isWithin ⟨(Nat.le_of_ble_eq_true rfl), (Nat.le_of_ble_eq_true rfl)⟩ (Nat.le_of_ble_eq_true rfl) dX4_sits_13 (fun H locs hX => ?_)
  refine i_if_ne (tgt := 26) C h dX4_sits_16 (by decide) (fun _ h => ?_) (fun _ h => ?_)
  · refine i_aload_n C dX4_sits_26 rfl (lv_at hl 0 rfl) ?_
    refine x_get C hX (fg_0_0 G) tw1_166 dX4_sits_27 ?_
    refine i_iload_n C dX4_sits_30 rfl (lv_at hl 1 rfl) ?_
    refine i_iload_n C dX4_sits_31 rfl (lv_at hl 2 rfl) ?_
    obtain ⟨x4, e4, h⟩ := w_bdr h
    refine x_callVi C hX (fg_1_0 G) (c_X0_errs (gl Γ) G  e4) [] rfl hl tw1_222 tw1_223 tw1_224 tw1_2 tw1_225 rfl nd_X0_errs ⟨(Nat.le_of_ble_eq_true rfl), (Nat.le_of_ble_eq_true rfl)⟩ (Nat.le_of_ble_eq_true rfl) dX4_sits_32 (fun H locs hX => ?_)
    exact x_iretW C hX hr hQ h dX4_sits_35
  refine i_aload_n C dX4_sits_19 rfl (lv_at hl 0 rfl) ?_
  refine i_ldc C tw1_204 dX4_sits_20 ?_
  obtain ⟨x5, m2, e5, h⟩ := w_bdw h
  refine x_callVi C hX (fg_0_0 G) (c_X4_finding (gl Γ) G  e5) [] rfl hl tw1_205 tw1_207 ts1_0 tw1_1 tw1_208 rfl nd_X4_finding ⟨(Nat.le_of_ble_eq_true rfl), (Nat.le_of_ble_eq_true rfl)⟩ (Nat.le_of_ble_eq_true rfl) dX4_sits_22 (fun H locs hX => ?_)
  exact x_iretW C hX hr hQ h dX4_sits_25
def L_X4_readAhead_2 (p1 : Int32) (p2 : Int32) : Nat → Int32 → MM → Option MM
  | 0, _, _ => none
  | fu + 1, x1, m1 => if p2 ≤ x1 then (some m1) else (if 60 ≤ x1 then (some m1) else (ldi m1 7 4 p1 fun x2 => bdr (f_X0_meanOf x2 x1 m1) fun x3 => sti m1 35 60 x1 x3 fun m2 => lt_ (x1 + 1) fun x4 => L_X4_readAhead_2 p1 p2 fu x4 m2))
def f_X4_readAhead (p1 : Int32) (p2 : Int32) (μ : MM) : Option MM := L_X4_readAhead_2 p1 p2 FU 0 μ
theorem nd_X4_readAhead : yX4_readAhead.cls ≠ "java/lang/invoke/MethodHandle" ∧ yX4_readAhead.cls ≠ "java/lang/invoke/VarHandle" ∧ (parseMethodDescriptor yX4_readAhead.desc).map (fun d => d.parameters.length) = some 2 := by decide +kernel
set_option maxHeartbeats 4000000 in
set_option maxRecDepth 100000 in
theorem c_X4_readAhead (l : Launch) (G : EN)  {p1 p2 : Int32} {μ : MM} {r : MM} (h : f_X4_readAhead p1 p2 μ = some r) : XM l G yX4_readAhead cX4_readAhead 4 none 3 76 [.ref (G.2.1 0), .int p1, .int p2] μ none r := by
  refine x_met (own := RX4) (by decide +kernel) rfl (Nat.le_of_ble_eq_true rfl) (fun Γ A H ls hg C hr hX hQ hl => ?_)
  have hl : lv_has ls 4 [(0, .ref (G.2.1 0)), (1, .int p1), (2, .int p2)] := hl
  unfold f_X4_readAhead at h
  refine i_iconst (v := 0) C dX4_readAhead_0 rfl ?_
  refine i_istore_n C [(3, .int 0), (0, .ref (G.2.1 0)), (1, .int p1), (2, .int p2)] dX4_readAhead_1 rfl hl (by decide) rfl (fun ls hl => ?_)
  have L1 : ∀ (fu : Nat) (x1 : Int32) (m1 : MM) (H : Heap) (locs : List Loc) (ls : Array Slot), L_X4_readAhead_2 p1 p2 fu x1 m1 = some r → lv_has ls 4 [(0, .ref (G.2.1 0)), (1, .int p1), (2, .int p2), (3, .int x1)] → XW G A (gs Γ) H locs m1 → WX Γ H locs 2 ls [] := by
    intro fu
    induction fu with
    | zero =>
      intro x1 m1 H locs ls h
      rw [L_X4_readAhead_2] at h
      cases h
    | succ fu ih =>
      intro x1 m1 H locs ls h hl hX
      rw [L_X4_readAhead_2] at h
      refine i_iload_n C dX4_readAhead_2 rfl (lv_at hl 3 rfl) ?_
      refine i_iload_n C dX4_readAhead_3 rfl (lv_at hl 2 rfl) ?_
      refine i_icmp_ge (tgt := 45) C h dX4_readAhead_4 (by decide) (fun _ h => ?_) (fun _ h => ?_)
      · exact x_vretV C hX hr hQ h dX4_readAhead_45
      refine i_iload_n C dX4_readAhead_7 rfl (lv_at hl 3 rfl) ?_
      refine i_aload_n C dX4_readAhead_8 rfl (lv_at hl 0 rfl) ?_
      refine x_get C hX (fg_0_7 G) tw1_173 dX4_readAhead_9 ?_
      refine x_ilen (v := 60) C hX (ai_35 G) rfl dX4_readAhead_12 ?_
      refine i_icmp_ge (tgt := 45) C h dX4_readAhead_13 (by decide) (fun _ h => ?_) (fun _ h => ?_)
      · exact x_vretV C hX hr hQ h dX4_readAhead_45
      refine i_aload_n C dX4_readAhead_16 rfl (lv_at hl 0 rfl) ?_
      refine x_get C hX (fg_0_7 G) tw1_173 dX4_readAhead_17 ?_
      refine i_iload_n C dX4_readAhead_20 rfl (lv_at hl 3 rfl) ?_
      refine i_aload_n C dX4_readAhead_21 rfl (lv_at hl 0 rfl) ?_
      refine x_get C hX (fg_0_0 G) tw1_166 dX4_readAhead_22 ?_
      refine i_aload_n C dX4_readAhead_25 rfl (lv_at hl 0 rfl) ?_
      refine x_get C hX (fg_0_0 G) tw1_166 dX4_readAhead_26 ?_
      refine x_get C hX (fg_1_6 G) tw1_48 dX4_readAhead_29 ?_
      refine i_iload_n C dX4_readAhead_32 rfl (lv_at hl 1 rfl) ?_
      refine x_iald C hX (ai_7 G) h dX4_readAhead_33 (fun x2 h => ?_)
      refine i_iload_n C dX4_readAhead_34 rfl (lv_at hl 3 rfl) ?_
      obtain ⟨x3, e1, h⟩ := w_bdr h
      refine x_callVi C hX (fg_1_0 G) (c_X0_meanOf (gl Γ) G  e1) [.int x1, .ref (G.2.1 35)] rfl hl tw2_7 tw2_8 tw2_9 tw1_2 tw2_10 rfl nd_X0_meanOf ⟨(Nat.le_of_ble_eq_true rfl), (Nat.le_of_ble_eq_true rfl)⟩ (Nat.le_of_ble_eq_true rfl) dX4_readAhead_35 (fun H locs hX => ?_)
      refine x_iast C hX (ai_35 G) h dX4_readAhead_38 (fun H locs m2 h hX => ?_)
      refine i_iinc C (j := 3) (fun x4 => [(3, .int x4), (0, .ref (G.2.1 0)), (1, .int p1), (2, .int p2)]) h dX4_readAhead_39 hl rfl rfl (by decide) (fun _ => rfl) (fun x4 ls h hl => ?_)
      refine i_goto (tgt := 2) C dX4_readAhead_42 (by decide) ?_
      exact ih _ _ _ _ _ h (lv_sub hl [1, 2, 3, 0] rfl) hX
  exact L1 FU _ _ _ _ _ h (lv_sub hl [1, 2, 3, 0] rfl) hX
def L_X4_landsBehind_14 (p2 : Int32) (p3 : Int32) (μ : MM) (k1 : Int32 → Option Int32) : Nat → Int32 → Int32 → Option Int32
  | 0, _, _ => none
  | fu + 1, x4, x5 => if 60 ≤ x5 then (k1 x4) else (ldi μ 8 100 x4 fun x6 => if x6 = 0 then (ldi μ 35 60 x5 fun x7 => bdr (f_X4_course p2 x7) fun x8 => bdr (f_X0_nextBy x4 x8 p3 μ) fun x9 => lt_ (x5 + 1) fun x10 => L_X4_landsBehind_14 p2 p3 μ k1 fu x9 x10) else (some x5))
def f_X4_landsBehind (p1 : Int32) (p2 : Int32) (p3 : Int32) (μ : MM) : Option Int32 := ldi μ 5 4 p1 fun x1 => jn1 (fun (x2 : Int32) => ldi μ 8 100 x2 fun x3 => if x3 = 0 then (some (-1)) else (some 60)) fun k1 => L_X4_landsBehind_14 p2 p3 μ k1 FU x1 0
theorem nd_X4_landsBehind : yX4_landsBehind.cls ≠ "java/lang/invoke/MethodHandle" ∧ yX4_landsBehind.cls ≠ "java/lang/invoke/VarHandle" ∧ (parseMethodDescriptor yX4_landsBehind.desc).map (fun d => d.parameters.length) = some 3 := by decide +kernel
set_option maxHeartbeats 4000000 in
set_option maxRecDepth 100000 in
theorem c_X4_landsBehind (l : Launch) (G : EN)  {p1 p2 p3 : Int32} {μ : MM} {r : Int32} (h : f_X4_landsBehind p1 p2 p3 μ = some r) : XM l G yX4_landsBehind cX4_landsBehind 6 (some .int) 3 69 [.ref (G.2.1 0), .int p1, .int p2, .int p3] μ (some (.int r)) μ := by
  refine x_met (own := RX4) (by decide +kernel) rfl (Nat.le_of_ble_eq_true rfl) (fun Γ A H ls hg C hr hX hQ hl => ?_)
  have hl : lv_has ls 6 [(0, .ref (G.2.1 0)), (1, .int p1), (2, .int p2), (3, .int p3)] := hl
  unfold f_X4_landsBehind at h
  refine i_aload_n C dX4_landsBehind_0 rfl (lv_at hl 0 rfl) ?_
  refine x_get C hX (fg_0_0 G) tw1_166 dX4_landsBehind_1 ?_
  refine x_get C hX (fg_1_4 G) tw1_42 dX4_landsBehind_4 ?_
  refine i_iload_n C dX4_landsBehind_7 rfl (lv_at hl 1 rfl) ?_
  refine x_iald C hX (ai_5 G) h dX4_landsBehind_8 (fun x1 h => ?_)
  refine i_istore C [(4, .int x1), (0, .ref (G.2.1 0)), (1, .int p1), (2, .int p2), (3, .int p3)] dX4_landsBehind_9 hl (by decide) rfl (fun ls hl => ?_)
  refine i_iconst (v := 0) C dX4_landsBehind_11 rfl ?_
  refine i_istore C [(5, .int 0), (4, .int x1), (0, .ref (G.2.1 0)), (1, .int p1), (2, .int p2), (3, .int p3)] dX4_landsBehind_12 hl (by decide) rfl (fun ls hl => ?_)
  refine w_jn1 (fun (x2 : Int32) => ∀ (H : Heap) (locs : List Loc) (ls : Array Slot), lv_has ls 6 [(0, .ref (G.2.1 0)), (4, .int x2)] → XW G A (gs Γ) H locs μ → WX Γ H locs 66 ls []) h (fun x2 h H locs ls hl hX => ?_) (fun k1 J1 h => ?_)
  · refine i_aload_n C dX4_landsBehind_66 rfl (lv_at hl 0 rfl) ?_
    refine x_get C hX (fg_0_0 G) tw1_166 dX4_landsBehind_67 ?_
    refine x_get C hX (fg_1_7 G) tw1_51 dX4_landsBehind_70 ?_
    refine i_iload C dX4_landsBehind_73 (lv_at hl 1 rfl) ?_
    refine x_zald C hX (az_8 G) h dX4_landsBehind_75 (fun x3 h => ?_)
    refine i_if_eq (tgt := 84) C h dX4_landsBehind_76 (by decide) (fun _ h => ?_) (fun _ h => ?_)
    · refine i_iconst (v := (-1)) C dX4_landsBehind_84 rfl ?_
      exact x_iretR C hX hr hQ h dX4_landsBehind_85
    refine i_bipush (v := 60) C dX4_landsBehind_79 rfl ?_
    refine i_goto (tgt := 85) C dX4_landsBehind_81 (by decide) ?_
    exact x_iretR C hX hr hQ h dX4_landsBehind_85
  have L1 : ∀ (fu : Nat) (x4 : Int32) (x5 : Int32) (H : Heap) (locs : List Loc) (ls : Array Slot), L_X4_landsBehind_14 p2 p3 μ k1 fu x4 x5 = some r → lv_has ls 6 [(0, .ref (G.2.1 0)), (2, .int p2), (3, .int p3), (4, .int x4), (5, .int x5)] → XW G A (gs Γ) H locs μ → WX Γ H locs 14 ls [] := by
    intro fu
    induction fu with
    | zero =>
      intro x4 x5 H locs ls h
      rw [L_X4_landsBehind_14] at h
      cases h
    | succ fu ih =>
      intro x4 x5 H locs ls h hl hX
      rw [L_X4_landsBehind_14] at h
      refine i_iload C dX4_landsBehind_14 (lv_at hl 4 rfl) ?_
      refine i_bipush (v := 60) C dX4_landsBehind_16 rfl ?_
      refine i_icmp_ge (tgt := 66) C h dX4_landsBehind_18 (by decide) (fun _ h => ?_) (fun _ h => ?_)
      · exact J1 _ h _ _ _ (lv_sub hl [0, 3] rfl) hX
      refine i_aload_n C dX4_landsBehind_21 rfl (lv_at hl 0 rfl) ?_
      refine x_get C hX (fg_0_0 G) tw1_166 dX4_landsBehind_22 ?_
      refine x_get C hX (fg_1_7 G) tw1_51 dX4_landsBehind_25 ?_
      refine i_iload C dX4_landsBehind_28 (lv_at hl 3 rfl) ?_
      refine x_zald C hX (az_8 G) h dX4_landsBehind_30 (fun x6 h => ?_)
      refine i_if_eq (tgt := 37) C h dX4_landsBehind_31 (by decide) (fun _ h => ?_) (fun _ h => ?_)
      · refine i_aload_n C dX4_landsBehind_37 rfl (lv_at hl 0 rfl) ?_
        refine x_get C hX (fg_0_0 G) tw1_166 dX4_landsBehind_38 ?_
        refine i_iload C dX4_landsBehind_41 (lv_at hl 3 rfl) ?_
        refine i_iload_n C dX4_landsBehind_43 rfl (lv_at hl 1 rfl) ?_
        refine i_aload_n C dX4_landsBehind_44 rfl (lv_at hl 0 rfl) ?_
        refine x_get C hX (fg_0_7 G) tw1_173 dX4_landsBehind_45 ?_
        refine i_iload C dX4_landsBehind_48 (lv_at hl 4 rfl) ?_
        refine x_iald C hX (ai_35 G) h dX4_landsBehind_50 (fun x7 h => ?_)
        obtain ⟨x8, e1, h⟩ := w_bdr h
        refine x_callSi C hX (c_X4_course (gl Γ) G  e1) [.int x4, .ref (G.2.1 1)] rfl hl tw2_14 tw2_15 tw1_1 tw2_16 nd_X4_course ⟨(Nat.le_of_ble_eq_true rfl), (Nat.le_of_ble_eq_true rfl)⟩ (Nat.le_of_ble_eq_true rfl) dX4_landsBehind_51 (fun H locs hX => ?_)
        refine i_iload_n C dX4_landsBehind_54 rfl (lv_at hl 2 rfl) ?_
        obtain ⟨x9, e2, h⟩ := w_bdr h
        refine x_callVi C hX (fg_1_0 G) (c_X0_nextBy (gl Γ) G  e2) [] rfl hl tw2_162 tw2_27 tw2_28 tw1_2 tw2_29 rfl nd_X0_nextBy ⟨(Nat.le_of_ble_eq_true rfl), (Nat.le_of_ble_eq_true rfl)⟩ (Nat.le_of_ble_eq_true rfl) dX4_landsBehind_55 (fun H locs hX => ?_)
        refine i_istore C [(4, .int x9), (0, .ref (G.2.1 0)), (2, .int p2), (3, .int p3), (5, .int x5)] dX4_landsBehind_58 hl (by decide) rfl (fun ls hl => ?_)
        refine i_iinc C (j := 4) (fun x10 => [(5, .int x10), (4, .int x9), (0, .ref (G.2.1 0)), (2, .int p2), (3, .int p3)]) h dX4_landsBehind_60 hl rfl rfl (by decide) (fun _ => rfl) (fun x10 ls h hl => ?_)
        refine i_goto (tgt := 14) C dX4_landsBehind_63 (by decide) ?_
        exact ih _ _ _ _ _ h (lv_sub hl [2, 3, 4, 1, 0] rfl) hX
      refine i_iload C dX4_landsBehind_34 (lv_at hl 4 rfl) ?_
      exact x_iretR C hX hr hQ h dX4_landsBehind_36
  exact L1 FU _ _ _ _ _ h (lv_sub hl [2, 4, 5, 1, 0] rfl) hX
def L_X4_quickestOrder_15 (p1 : Int32) (m1 : MM) : Nat → Int32 → Int32 → Int32 → Option (Int32 × MM)
  | 0, _, _, _ => none
  | fu + 1, x1, x2, x3 => if 32 ≤ x3 then (some (x1, m1)) else (bdr (f_X4_landsBehind p1 x3 (m1 1 8) m1) fun x4 => jn2 (fun (x5 : Int32) (x6 : Int32) => lt_ (x3 + 1) fun x7 => L_X4_quickestOrder_15 p1 m1 fu x5 x6 x7) fun k1 => if x4 < 0 then (k1 x1 x2) else (if x2 ≤ x4 then (k1 x1 x2) else (k1 x3 x4)))
def f_X4_quickestOrder (p1 : Int32) (μ : MM) : Option (Int32 × MM) := bdr (f_X4_readAhead p1 60 μ) fun m1 => L_X4_quickestOrder_15 p1 m1 FU (-1) 61 0
theorem nd_X4_quickestOrder : yX4_quickestOrder.cls ≠ "java/lang/invoke/MethodHandle" ∧ yX4_quickestOrder.cls ≠ "java/lang/invoke/VarHandle" ∧ (parseMethodDescriptor yX4_quickestOrder.desc).map (fun d => d.parameters.length) = some 1 := by decide +kernel
set_option maxHeartbeats 4000000 in
set_option maxRecDepth 100000 in
theorem c_X4_quickestOrder (l : Launch) (G : EN)  {p1 : Int32} {μ : MM} {r : Int32} {m : MM} (h : f_X4_quickestOrder p1 μ = some (r, m)) : XM l G yX4_quickestOrder cX4_quickestOrder 6 (some .int) 4 99 [.ref (G.2.1 0), .int p1] μ (some (.int r)) m := by
  refine x_met (own := RX4) (by decide +kernel) rfl (Nat.le_of_ble_eq_true rfl) (fun Γ A H ls hg C hr hX hQ hl => ?_)
  have hl : lv_has ls 6 [(0, .ref (G.2.1 0)), (1, .int p1)] := hl
  unfold f_X4_quickestOrder at h
  refine i_aload_n C dX4_quickestOrder_0 rfl (lv_at hl 0 rfl) ?_
  refine i_iload_n C dX4_quickestOrder_1 rfl (lv_at hl 1 rfl) ?_
  refine i_bipush (v := 60) C dX4_quickestOrder_2 rfl ?_
  obtain ⟨m1, e1, h⟩ := w_bdr h
  refine x_callVv C hX (fg_0_0 G) (c_X4_readAhead (gl Γ) G  e1) [] rfl hl tw2_154 tw2_156 ts1_5 tw1_1 tw2_157 rfl nd_X4_readAhead ⟨(Nat.le_of_ble_eq_true rfl), (Nat.le_of_ble_eq_true rfl)⟩ (Nat.le_of_ble_eq_true rfl) dX4_quickestOrder_4 (fun H locs hX => ?_)
  refine i_iconst (v := (-1)) C dX4_quickestOrder_7 rfl ?_
  refine i_istore_n C [(2, .int (-1)), (0, .ref (G.2.1 0)), (1, .int p1)] dX4_quickestOrder_8 rfl hl (by decide) rfl (fun ls hl => ?_)
  refine i_bipush (v := 61) C dX4_quickestOrder_9 rfl ?_
  refine i_istore_n C [(3, .int 61), (2, .int (-1)), (0, .ref (G.2.1 0)), (1, .int p1)] dX4_quickestOrder_11 rfl hl (by decide) rfl (fun ls hl => ?_)
  refine i_iconst (v := 0) C dX4_quickestOrder_12 rfl ?_
  refine i_istore C [(4, .int 0), (3, .int 61), (2, .int (-1)), (0, .ref (G.2.1 0)), (1, .int p1)] dX4_quickestOrder_13 hl (by decide) rfl (fun ls hl => ?_)
  have L1 : ∀ (fu : Nat) (x1 : Int32) (x2 : Int32) (x3 : Int32) (H : Heap) (locs : List Loc) (ls : Array Slot), L_X4_quickestOrder_15 p1 m1 fu x1 x2 x3 = some (r, m) → lv_has ls 6 [(0, .ref (G.2.1 0)), (1, .int p1), (2, .int x1), (3, .int x2), (4, .int x3)] → XW G A (gs Γ) H locs m1 → WX Γ H locs 15 ls [] := by
    intro fu
    induction fu with
    | zero =>
      intro x1 x2 x3 H locs ls h
      rw [L_X4_quickestOrder_15] at h
      cases h
    | succ fu ih =>
      intro x1 x2 x3 H locs ls h hl hX
      rw [L_X4_quickestOrder_15] at h
      refine i_iload C dX4_quickestOrder_15 (lv_at hl 4 rfl) ?_
      refine i_bipush (v := 32) C dX4_quickestOrder_17 rfl ?_
      refine i_icmp_ge (tgt := 61) C h dX4_quickestOrder_19 (by decide) (fun _ h => ?_) (fun _ h => ?_)
      · refine i_iload_n C dX4_quickestOrder_61 rfl (lv_at hl 2 rfl) ?_
        exact x_iretW C hX hr hQ h dX4_quickestOrder_62
      refine i_aload_n C dX4_quickestOrder_22 rfl (lv_at hl 0 rfl) ?_
      refine i_iload_n C dX4_quickestOrder_23 rfl (lv_at hl 1 rfl) ?_
      refine i_iload C dX4_quickestOrder_24 (lv_at hl 4 rfl) ?_
      refine i_aload_n C dX4_quickestOrder_26 rfl (lv_at hl 0 rfl) ?_
      refine x_get C hX (fg_0_0 G) tw1_166 dX4_quickestOrder_27 ?_
      refine x_get C hX (fg_1_8 G) tw1_54 dX4_quickestOrder_30 ?_
      obtain ⟨x4, e2, h⟩ := w_bdr h
      refine x_callVi C hX (fg_0_0 G) (c_X4_landsBehind (gl Γ) G  e2) [] rfl hl tw2_158 tw2_160 ts1_6 tw1_1 tw2_161 rfl nd_X4_landsBehind ⟨(Nat.le_of_ble_eq_true rfl), (Nat.le_of_ble_eq_true rfl)⟩ (Nat.le_of_ble_eq_true rfl) dX4_quickestOrder_33 (fun H locs hX => ?_)
      refine i_istore C [(5, .int x4), (0, .ref (G.2.1 0)), (1, .int p1), (2, .int x1), (3, .int x2), (4, .int x3)] dX4_quickestOrder_36 hl (by decide) rfl (fun ls hl => ?_)
      refine i_iload C dX4_quickestOrder_38 (lv_at hl 0 rfl) ?_
      refine w_jn2 (fun (x5 : Int32) (x6 : Int32) => ∀ (H : Heap) (locs : List Loc) (ls : Array Slot), lv_has ls 6 [(0, .ref (G.2.1 0)), (1, .int p1), (2, .int x5), (3, .int x6), (4, .int x3)] → XW G A (gs Γ) H locs m1 → WX Γ H locs 55 ls []) h (fun x5 x6 h H locs ls hl hX => ?_) (fun k1 J1 h => ?_)
      · refine i_iinc C (j := 4) (fun x7 => [(4, .int x7), (0, .ref (G.2.1 0)), (1, .int p1), (2, .int x5), (3, .int x6)]) h dX4_quickestOrder_55 hl rfl rfl (by decide) (fun _ => rfl) (fun x7 ls h hl => ?_)
        refine i_goto (tgt := 15) C dX4_quickestOrder_58 (by decide) ?_
        exact ih _ _ _ _ _ _ h (lv_sub hl [1, 2, 3, 4, 0] rfl) hX
      refine i_if_lt (tgt := 55) C h dX4_quickestOrder_40 (by decide) (fun _ h => ?_) (fun _ h => ?_)
      · exact J1 _ _ h _ _ _ (lv_sub hl [1, 2, 3, 4, 5] rfl) hX
      refine i_iload C dX4_quickestOrder_43 (lv_at hl 0 rfl) ?_
      refine i_iload_n C dX4_quickestOrder_45 rfl (lv_at hl 4 rfl) ?_
      refine i_icmp_ge (tgt := 55) C h dX4_quickestOrder_46 (by decide) (fun _ h => ?_) (fun _ h => ?_)
      · exact J1 _ _ h _ _ _ (lv_sub hl [1, 2, 3, 4, 5] rfl) hX
      refine i_iload C dX4_quickestOrder_49 (lv_at hl 0 rfl) ?_
      refine i_istore_n C [(3, .int x4), (5, .int x4), (0, .ref (G.2.1 0)), (1, .int p1), (2, .int x1), (4, .int x3)] dX4_quickestOrder_51 rfl hl (by decide) rfl (fun ls hl => ?_)
      refine i_iload C dX4_quickestOrder_52 (lv_at hl 5 rfl) ?_
      refine i_istore_n C [(2, .int x3), (3, .int x4), (5, .int x4), (0, .ref (G.2.1 0)), (1, .int p1), (4, .int x3)] dX4_quickestOrder_54 rfl hl (by decide) rfl (fun ls hl => ?_)
      exact J1 _ _ h _ _ _ (lv_sub hl [3, 4, 0, 1, 5] rfl) hX
  exact L1 FU _ _ _ _ _ _ h (lv_sub hl [3, 4, 2, 1, 0] rfl) hX
def f_X4_order (p1 : Int32) (μ : MM) : Option (Int32 × MM) := bdr (f_X4_isShip p1) fun x1 => if x1 = 0 then (bdw (f_X4_finding (-1000001) μ) fun x4 m3 => some (x4, m3)) else (bdw (f_X4_quickestOrder p1 μ) fun x2 m1 => if 0 ≤ x2 then (some (x2, m1)) else (bdw (f_X4_finding (-1000004) m1) fun x3 m2 => some (x3, m2)))
theorem nd_X4_order : yX4_order.cls ≠ "java/lang/invoke/MethodHandle" ∧ yX4_order.cls ≠ "java/lang/invoke/VarHandle" ∧ (parseMethodDescriptor yX4_order.desc).map (fun d => d.parameters.length) = some 1 := by decide +kernel
set_option maxHeartbeats 4000000 in
set_option maxRecDepth 100000 in
theorem c_X4_order (l : Launch) (G : EN)  {p1 : Int32} {μ : MM} {r : Int32} {m : MM} (h : f_X4_order p1 μ = some (r, m)) : XM l G yX4_order cX4_order 3 (some .int) 5 124 [.ref (G.2.1 0), .int p1] μ (some (.int r)) m := by
  refine x_met (own := RX4) (by decide +kernel) rfl (Nat.le_of_ble_eq_true rfl) (fun Γ A H ls hg C hr hX hQ hl => ?_)
  have hl : lv_has ls 3 [(0, .ref (G.2.1 0)), (1, .int p1)] := hl
  unfold f_X4_order at h
  refine i_iload_n C dX4_order_0 rfl (lv_at hl 1 rfl) ?_
  obtain ⟨x1, e1, h⟩ := w_bdr h
  refine x_callSi C hX (c_X4_isShip (gl Γ) G  e1) [] rfl hl tw2_4 tw2_5 tw1_1 tw2_6 nd_X4_isShip ⟨(Nat.le_of_ble_eq_true rfl), (Nat.le_of_ble_eq_true rfl)⟩ (Nat.le_of_ble_eq_true rfl) dX4_order_1 (fun H locs hX => ?_)
  refine i_if_ne (tgt := 14) C h dX4_order_4 (by decide) (fun _ h => ?_) (fun _ h => ?_)
  · refine i_aload_n C dX4_order_14 rfl (lv_at hl 0 rfl) ?_
    refine i_iload_n C dX4_order_15 rfl (lv_at hl 1 rfl) ?_
    obtain ⟨x2, m1, e2, h⟩ := w_bdw h
    refine x_callVi C hX (fg_0_0 G) (c_X4_quickestOrder (gl Γ) G  e2) [] rfl hl tw2_150 tw2_152 ts1_4 tw1_1 tw2_153 rfl nd_X4_quickestOrder ⟨(Nat.le_of_ble_eq_true rfl), (Nat.le_of_ble_eq_true rfl)⟩ (Nat.le_of_ble_eq_true rfl) dX4_order_16 (fun H locs hX => ?_)
    refine i_istore_n C [(2, .int x2), (0, .ref (G.2.1 0)), (1, .int p1)] dX4_order_19 rfl hl (by decide) rfl (fun ls hl => ?_)
    refine i_iload_n C dX4_order_20 rfl (lv_at hl 0 rfl) ?_
    refine i_if_ge (tgt := 33) C h dX4_order_21 (by decide) (fun _ h => ?_) (fun _ h => ?_)
    · refine i_iload_n C dX4_order_33 rfl (lv_at hl 0 rfl) ?_
      exact x_iretW C hX hr hQ h dX4_order_34
    refine i_aload_n C dX4_order_24 rfl (lv_at hl 1 rfl) ?_
    refine i_ldc C tw2_126 dX4_order_25 ?_
    obtain ⟨x3, m2, e3, h⟩ := w_bdw h
    refine x_callVi C hX (fg_0_0 G) (c_X4_finding (gl Γ) G  e3) [] rfl hl tw1_205 tw1_207 ts1_0 tw1_1 tw1_208 rfl nd_X4_finding ⟨(Nat.le_of_ble_eq_true rfl), (Nat.le_of_ble_eq_true rfl)⟩ (Nat.le_of_ble_eq_true rfl) dX4_order_27 (fun H locs hX => ?_)
    refine i_goto (tgt := 34) C dX4_order_30 (by decide) ?_
    exact x_iretW C hX hr hQ h dX4_order_34
  refine i_aload_n C dX4_order_7 rfl (lv_at hl 0 rfl) ?_
  refine i_ldc C tw1_204 dX4_order_8 ?_
  obtain ⟨x4, m3, e4, h⟩ := w_bdw h
  refine x_callVi C hX (fg_0_0 G) (c_X4_finding (gl Γ) G  e4) [] rfl hl tw1_205 tw1_207 ts1_0 tw1_1 tw1_208 rfl nd_X4_finding ⟨(Nat.le_of_ble_eq_true rfl), (Nat.le_of_ble_eq_true rfl)⟩ (Nat.le_of_ble_eq_true rfl) dX4_order_10 (fun H locs hX => ?_)
  exact x_iretW C hX hr hQ h dX4_order_13
def f_X4_soonest (p1 : Int32) (μ : MM) : Option (Int32 × MM) := bdr (f_X4_isShip p1) fun x1 => if x1 = 0 then (bdw (f_X4_finding (-1000001) μ) fun x5 m3 => some (x5, m3)) else (bdw (f_X4_quickestOrder p1 μ) fun x2 m1 => if 0 ≤ x2 then (bdr (f_X4_landsBehind p1 x2 (m1 1 8) m1) fun x3 => some (x3, m1)) else (bdw (f_X4_finding (-1000004) m1) fun x4 m2 => some (x4, m2)))
theorem nd_X4_soonest : yX4_soonest.cls ≠ "java/lang/invoke/MethodHandle" ∧ yX4_soonest.cls ≠ "java/lang/invoke/VarHandle" ∧ (parseMethodDescriptor yX4_soonest.desc).map (fun d => d.parameters.length) = some 1 := by decide +kernel
set_option maxHeartbeats 4000000 in
set_option maxRecDepth 100000 in
theorem c_X4_soonest (l : Launch) (G : EN)  {p1 : Int32} {μ : MM} {r : Int32} {m : MM} (h : f_X4_soonest p1 μ = some (r, m)) : XM l G yX4_soonest cX4_soonest 3 (some .int) 5 124 [.ref (G.2.1 0), .int p1] μ (some (.int r)) m := by
  refine x_met (own := RX4) (by decide +kernel) rfl (Nat.le_of_ble_eq_true rfl) (fun Γ A H ls hg C hr hX hQ hl => ?_)
  have hl : lv_has ls 3 [(0, .ref (G.2.1 0)), (1, .int p1)] := hl
  unfold f_X4_soonest at h
  refine i_iload_n C dX4_soonest_0 rfl (lv_at hl 1 rfl) ?_
  obtain ⟨x1, e1, h⟩ := w_bdr h
  refine x_callSi C hX (c_X4_isShip (gl Γ) G  e1) [] rfl hl tw2_4 tw2_5 tw1_1 tw2_6 nd_X4_isShip ⟨(Nat.le_of_ble_eq_true rfl), (Nat.le_of_ble_eq_true rfl)⟩ (Nat.le_of_ble_eq_true rfl) dX4_soonest_1 (fun H locs hX => ?_)
  refine i_if_ne (tgt := 14) C h dX4_soonest_4 (by decide) (fun _ h => ?_) (fun _ h => ?_)
  · refine i_aload_n C dX4_soonest_14 rfl (lv_at hl 0 rfl) ?_
    refine i_iload_n C dX4_soonest_15 rfl (lv_at hl 1 rfl) ?_
    obtain ⟨x2, m1, e2, h⟩ := w_bdw h
    refine x_callVi C hX (fg_0_0 G) (c_X4_quickestOrder (gl Γ) G  e2) [] rfl hl tw2_150 tw2_152 ts1_4 tw1_1 tw2_153 rfl nd_X4_quickestOrder ⟨(Nat.le_of_ble_eq_true rfl), (Nat.le_of_ble_eq_true rfl)⟩ (Nat.le_of_ble_eq_true rfl) dX4_soonest_16 (fun H locs hX => ?_)
    refine i_istore_n C [(2, .int x2), (0, .ref (G.2.1 0)), (1, .int p1)] dX4_soonest_19 rfl hl (by decide) rfl (fun ls hl => ?_)
    refine i_iload_n C dX4_soonest_20 rfl (lv_at hl 0 rfl) ?_
    refine i_if_ge (tgt := 33) C h dX4_soonest_21 (by decide) (fun _ h => ?_) (fun _ h => ?_)
    · refine i_aload_n C dX4_soonest_33 rfl (lv_at hl 1 rfl) ?_
      refine i_iload_n C dX4_soonest_34 rfl (lv_at hl 2 rfl) ?_
      refine i_iload_n C dX4_soonest_35 rfl (lv_at hl 0 rfl) ?_
      refine i_aload_n C dX4_soonest_36 rfl (lv_at hl 1 rfl) ?_
      refine x_get C hX (fg_0_0 G) tw1_166 dX4_soonest_37 ?_
      refine x_get C hX (fg_1_8 G) tw1_54 dX4_soonest_40 ?_
      obtain ⟨x3, e3, h⟩ := w_bdr h
      refine x_callVi C hX (fg_0_0 G) (c_X4_landsBehind (gl Γ) G  e3) [] rfl hl tw2_158 tw2_160 ts1_6 tw1_1 tw2_161 rfl nd_X4_landsBehind ⟨(Nat.le_of_ble_eq_true rfl), (Nat.le_of_ble_eq_true rfl)⟩ (Nat.le_of_ble_eq_true rfl) dX4_soonest_43 (fun H locs hX => ?_)
      exact x_iretW C hX hr hQ h dX4_soonest_46
    refine i_aload_n C dX4_soonest_24 rfl (lv_at hl 1 rfl) ?_
    refine i_ldc C tw2_126 dX4_soonest_25 ?_
    obtain ⟨x4, m2, e4, h⟩ := w_bdw h
    refine x_callVi C hX (fg_0_0 G) (c_X4_finding (gl Γ) G  e4) [] rfl hl tw1_205 tw1_207 ts1_0 tw1_1 tw1_208 rfl nd_X4_finding ⟨(Nat.le_of_ble_eq_true rfl), (Nat.le_of_ble_eq_true rfl)⟩ (Nat.le_of_ble_eq_true rfl) dX4_soonest_27 (fun H locs hX => ?_)
    refine i_goto (tgt := 46) C dX4_soonest_30 (by decide) ?_
    exact x_iretW C hX hr hQ h dX4_soonest_46
  refine i_aload_n C dX4_soonest_7 rfl (lv_at hl 0 rfl) ?_
  refine i_ldc C tw1_204 dX4_soonest_8 ?_
  obtain ⟨x5, m3, e5, h⟩ := w_bdw h
  refine x_callVi C hX (fg_0_0 G) (c_X4_finding (gl Γ) G  e5) [] rfl hl tw1_205 tw1_207 ts1_0 tw1_1 tw1_208 rfl nd_X4_finding ⟨(Nat.le_of_ble_eq_true rfl), (Nat.le_of_ble_eq_true rfl)⟩ (Nat.le_of_ble_eq_true rfl) dX4_soonest_10 (fun H locs hX => ?_)
  exact x_iretW C hX hr hQ h dX4_soonest_13
def L_X4_endsAt_13 (p2 : Int32) (μ : MM) : Nat → Int32 → Int32 → Option Int32
  | 0, _, _ => none
  | fu + 1, x2, x3 => if 60 ≤ x3 then (some x2) else (ldi μ 35 60 x3 fun x4 => bdr (f_X4_course p2 x4) fun x5 => bdr (f_X0_nextBy x2 x5 (μ 1 8) μ) fun x6 => lt_ (x3 + 1) fun x7 => L_X4_endsAt_13 p2 μ fu x6 x7)
def f_X4_endsAt (p1 : Int32) (p2 : Int32) (μ : MM) : Option Int32 := ldi μ 5 4 p1 fun x1 => L_X4_endsAt_13 p2 μ FU x1 0
theorem nd_X4_endsAt : yX4_endsAt.cls ≠ "java/lang/invoke/MethodHandle" ∧ yX4_endsAt.cls ≠ "java/lang/invoke/VarHandle" ∧ (parseMethodDescriptor yX4_endsAt.desc).map (fun d => d.parameters.length) = some 2 := by decide +kernel
set_option maxHeartbeats 4000000 in
set_option maxRecDepth 100000 in
theorem c_X4_endsAt (l : Launch) (G : EN)  {p1 p2 : Int32} {μ : MM} {r : Int32} (h : f_X4_endsAt p1 p2 μ = some r) : XM l G yX4_endsAt cX4_endsAt 5 (some .int) 3 69 [.ref (G.2.1 0), .int p1, .int p2] μ (some (.int r)) μ := by
  refine x_met (own := RX4) (by decide +kernel) rfl (Nat.le_of_ble_eq_true rfl) (fun Γ A H ls hg C hr hX hQ hl => ?_)
  have hl : lv_has ls 5 [(0, .ref (G.2.1 0)), (1, .int p1), (2, .int p2)] := hl
  unfold f_X4_endsAt at h
  refine i_aload_n C dX4_endsAt_0 rfl (lv_at hl 0 rfl) ?_
  refine x_get C hX (fg_0_0 G) tw1_166 dX4_endsAt_1 ?_
  refine x_get C hX (fg_1_4 G) tw1_42 dX4_endsAt_4 ?_
  refine i_iload_n C dX4_endsAt_7 rfl (lv_at hl 1 rfl) ?_
  refine x_iald C hX (ai_5 G) h dX4_endsAt_8 (fun x1 h => ?_)
  refine i_istore_n C [(3, .int x1), (0, .ref (G.2.1 0)), (1, .int p1), (2, .int p2)] dX4_endsAt_9 rfl hl (by decide) rfl (fun ls hl => ?_)
  refine i_iconst (v := 0) C dX4_endsAt_10 rfl ?_
  refine i_istore C [(4, .int 0), (3, .int x1), (0, .ref (G.2.1 0)), (1, .int p1), (2, .int p2)] dX4_endsAt_11 hl (by decide) rfl (fun ls hl => ?_)
  have L1 : ∀ (fu : Nat) (x2 : Int32) (x3 : Int32) (H : Heap) (locs : List Loc) (ls : Array Slot), L_X4_endsAt_13 p2 μ fu x2 x3 = some r → lv_has ls 5 [(0, .ref (G.2.1 0)), (2, .int p2), (3, .int x2), (4, .int x3)] → XW G A (gs Γ) H locs μ → WX Γ H locs 13 ls [] := by
    intro fu
    induction fu with
    | zero =>
      intro x2 x3 H locs ls h
      rw [L_X4_endsAt_13] at h
      cases h
    | succ fu ih =>
      intro x2 x3 H locs ls h hl hX
      rw [L_X4_endsAt_13] at h
      refine i_iload C dX4_endsAt_13 (lv_at hl 3 rfl) ?_
      refine i_bipush (v := 60) C dX4_endsAt_15 rfl ?_
      refine i_icmp_ge (tgt := 53) C h dX4_endsAt_17 (by decide) (fun _ h => ?_) (fun _ h => ?_)
      · refine i_iload_n C dX4_endsAt_53 rfl (lv_at hl 2 rfl) ?_
        exact x_iretR C hX hr hQ h dX4_endsAt_54
      refine i_aload_n C dX4_endsAt_20 rfl (lv_at hl 0 rfl) ?_
      refine x_get C hX (fg_0_0 G) tw1_166 dX4_endsAt_21 ?_
      refine i_iload_n C dX4_endsAt_24 rfl (lv_at hl 2 rfl) ?_
      refine i_iload_n C dX4_endsAt_25 rfl (lv_at hl 1 rfl) ?_
      refine i_aload_n C dX4_endsAt_26 rfl (lv_at hl 0 rfl) ?_
      refine x_get C hX (fg_0_7 G) tw1_173 dX4_endsAt_27 ?_
      refine i_iload C dX4_endsAt_30 (lv_at hl 3 rfl) ?_
      refine x_iald C hX (ai_35 G) h dX4_endsAt_32 (fun x4 h => ?_)
      obtain ⟨x5, e1, h⟩ := w_bdr h
      refine x_callSi C hX (c_X4_course (gl Γ) G  e1) [.int x2, .ref (G.2.1 1)] rfl hl tw2_14 tw2_15 tw1_1 tw2_16 nd_X4_course ⟨(Nat.le_of_ble_eq_true rfl), (Nat.le_of_ble_eq_true rfl)⟩ (Nat.le_of_ble_eq_true rfl) dX4_endsAt_33 (fun H locs hX => ?_)
      refine i_aload_n C dX4_endsAt_36 rfl (lv_at hl 0 rfl) ?_
      refine x_get C hX (fg_0_0 G) tw1_166 dX4_endsAt_37 ?_
      refine x_get C hX (fg_1_8 G) tw1_54 dX4_endsAt_40 ?_
      obtain ⟨x6, e2, h⟩ := w_bdr h
      refine x_callVi C hX (fg_1_0 G) (c_X0_nextBy (gl Γ) G  e2) [] rfl hl tw2_162 tw2_27 tw2_28 tw1_2 tw2_29 rfl nd_X0_nextBy ⟨(Nat.le_of_ble_eq_true rfl), (Nat.le_of_ble_eq_true rfl)⟩ (Nat.le_of_ble_eq_true rfl) dX4_endsAt_43 (fun H locs hX => ?_)
      refine i_istore_n C [(3, .int x6), (0, .ref (G.2.1 0)), (2, .int p2), (4, .int x3)] dX4_endsAt_46 rfl hl (by decide) rfl (fun ls hl => ?_)
      refine i_iinc C (j := 3) (fun x7 => [(4, .int x7), (3, .int x6), (0, .ref (G.2.1 0)), (2, .int p2)]) h dX4_endsAt_47 hl rfl rfl (by decide) (fun _ => rfl) (fun x7 ls h hl => ?_)
      refine i_goto (tgt := 13) C dX4_endsAt_50 (by decide) ?_
      exact ih _ _ _ _ _ h (lv_sub hl [2, 3, 1, 0] rfl) hX
  exact L1 FU _ _ _ _ _ h (lv_sub hl [2, 4, 1, 0] rfl) hX
def L_X4_orders_54 (p1 : Int32) (p2 : Int32) (m2 : MM) : Nat → Int64 → Int32 → Option (Int64 × MM)
  | 0, _, _ => none
  | fu + 1, x5, x6 => if 32 ≤ x6 then (some (x5, m2)) else (bdr (f_X4_endsAt p1 x6 m2) fun x7 => jn1 (fun (x8 : Int64) => lt_ (x6 + 1) fun x9 => L_X4_orders_54 p1 p2 m2 fu x8 x9) fun k1 => if x7 = p2 then (lt_ ((x5 ||| (lsl 1 x6))) fun x10 => k1 x10) else (k1 x5))
def f_X4_orders (p1 : Int32) (p2 : Int32) (μ : MM) : Option (Int64 × MM) := bdr (f_X4_isShip p1) fun x1 => if x1 = 0 then (bdw (f_X4_finding (-1000001) μ) fun x2 m1 => some ((x2).toInt64, m1)) else (bdr (f_X4_isCell p2) fun x3 => if x3 = 0 then (bdw (f_X4_finding (-1000001) μ) fun x12 m4 => some ((x12).toInt64, m4)) else (ldi μ 8 100 p2 fun x4 => if x4 = 0 then (bdw (f_X4_finding (-1000005) μ) fun x11 m3 => some ((x11).toInt64, m3)) else (bdr (f_X4_readAhead p1 60 μ) fun m2 => L_X4_orders_54 p1 p2 m2 FU 0 0)))
theorem nd_X4_orders : yX4_orders.cls ≠ "java/lang/invoke/MethodHandle" ∧ yX4_orders.cls ≠ "java/lang/invoke/VarHandle" ∧ (parseMethodDescriptor yX4_orders.desc).map (fun d => d.parameters.length) = some 2 := by decide +kernel
set_option maxHeartbeats 4000000 in
set_option maxRecDepth 100000 in
theorem c_X4_orders (l : Launch) (G : EN)  {p1 p2 : Int32} {μ : MM} {r : Int64} {m : MM} (h : f_X4_orders p1 p2 μ = some (r, m)) : XM l G yX4_orders cX4_orders 6 (some .long) 4 99 [.ref (G.2.1 0), .int p1, .int p2] μ (some (.long r)) m := by
  refine x_met (own := RX4) (by decide +kernel) rfl (Nat.le_of_ble_eq_true rfl) (fun Γ A H ls hg C hr hX hQ hl => ?_)
  have hl : lv_has ls 6 [(0, .ref (G.2.1 0)), (1, .int p1), (2, .int p2)] := hl
  unfold f_X4_orders at h
  refine i_iload_n C dX4_orders_0 rfl (lv_at hl 1 rfl) ?_
  obtain ⟨x1, e1, h⟩ := w_bdr h
  refine x_callSi C hX (c_X4_isShip (gl Γ) G  e1) [] rfl hl tw2_4 tw2_5 tw1_1 tw2_6 nd_X4_isShip ⟨(Nat.le_of_ble_eq_true rfl), (Nat.le_of_ble_eq_true rfl)⟩ (Nat.le_of_ble_eq_true rfl) dX4_orders_1 (fun H locs hX => ?_)
  refine i_if_eq (tgt := 14) C h dX4_orders_4 (by decide) (fun _ h => ?_) (fun _ h => ?_)
  · refine i_aload_n C dX4_orders_14 rfl (lv_at hl 0 rfl) ?_
    refine i_ldc C tw1_204 dX4_orders_15 ?_
    obtain ⟨x2, m1, e2, h⟩ := w_bdw h
    refine x_callVi C hX (fg_0_0 G) (c_X4_finding (gl Γ) G  e2) [] rfl hl tw1_205 tw1_207 ts1_0 tw1_1 tw1_208 rfl nd_X4_finding ⟨(Nat.le_of_ble_eq_true rfl), (Nat.le_of_ble_eq_true rfl)⟩ (Nat.le_of_ble_eq_true rfl) dX4_orders_17 (fun H locs hX => ?_)
    refine i_i2l C dX4_orders_20 ?_
    exact x_lretW C hX hr hQ h dX4_orders_21
  refine i_iload_n C dX4_orders_7 rfl (lv_at hl 2 rfl) ?_
  obtain ⟨x3, e3, h⟩ := w_bdr h
  refine x_callSi C hX (c_X4_isCell (gl Γ) G  e3) [] rfl hl tw2_48 tw2_49 tw1_1 tw2_50 nd_X4_isCell ⟨(Nat.le_of_ble_eq_true rfl), (Nat.le_of_ble_eq_true rfl)⟩ (Nat.le_of_ble_eq_true rfl) dX4_orders_8 (fun H locs hX => ?_)
  refine i_if_ne (tgt := 22) C h dX4_orders_11 (by decide) (fun _ h => ?_) (fun _ h => ?_)
  · refine i_aload_n C dX4_orders_22 rfl (lv_at hl 0 rfl) ?_
    refine x_get C hX (fg_0_0 G) tw1_166 dX4_orders_23 ?_
    refine x_get C hX (fg_1_7 G) tw1_51 dX4_orders_26 ?_
    refine i_iload_n C dX4_orders_29 rfl (lv_at hl 2 rfl) ?_
    refine x_zald C hX (az_8 G) h dX4_orders_30 (fun x4 h => ?_)
    refine i_if_ne (tgt := 42) C h dX4_orders_31 (by decide) (fun _ h => ?_) (fun _ h => ?_)
    · refine i_aload_n C dX4_orders_42 rfl (lv_at hl 0 rfl) ?_
      refine i_iload_n C dX4_orders_43 rfl (lv_at hl 1 rfl) ?_
      refine i_bipush (v := 60) C dX4_orders_44 rfl ?_
      obtain ⟨m2, e4, h⟩ := w_bdr h
      refine x_callVv C hX (fg_0_0 G) (c_X4_readAhead (gl Γ) G  e4) [] rfl hl tw2_154 tw2_156 ts1_5 tw1_1 tw2_157 rfl nd_X4_readAhead ⟨(Nat.le_of_ble_eq_true rfl), (Nat.le_of_ble_eq_true rfl)⟩ (Nat.le_of_ble_eq_true rfl) dX4_orders_46 (fun H locs hX => ?_)
      refine i_lconst (v := 0) C dX4_orders_49 rfl ?_
      refine i_lstore_n C [(3, .long 0), (0, .ref (G.2.1 0)), (1, .int p1), (2, .int p2)] dX4_orders_50 rfl hl (by decide) rfl (fun ls hl => ?_)
      refine i_iconst (v := 0) C dX4_orders_51 rfl ?_
      refine i_istore C [(5, .int 0), (3, .long 0), (0, .ref (G.2.1 0)), (1, .int p1), (2, .int p2)] dX4_orders_52 hl (by decide) rfl (fun ls hl => ?_)
      have L1 : ∀ (fu : Nat) (x5 : Int64) (x6 : Int32) (H : Heap) (locs : List Loc) (ls : Array Slot), L_X4_orders_54 p1 p2 m2 fu x5 x6 = some (r, m) → lv_has ls 6 [(0, .ref (G.2.1 0)), (1, .int p1), (2, .int p2), (3, .long x5), (5, .int x6)] → XW G A (gs Γ) H locs m2 → WX Γ H locs 54 ls [] := by
        intro fu
        induction fu with
        | zero =>
          intro x5 x6 H locs ls h
          rw [L_X4_orders_54] at h
          cases h
        | succ fu ih =>
          intro x5 x6 H locs ls h hl hX
          rw [L_X4_orders_54] at h
          refine i_iload C dX4_orders_54 (lv_at hl 4 rfl) ?_
          refine i_bipush (v := 32) C dX4_orders_56 rfl ?_
          refine i_icmp_ge (tgt := 85) C h dX4_orders_58 (by decide) (fun _ h => ?_) (fun _ h => ?_)
          · refine i_lload_n C dX4_orders_85 rfl (lv_at hl 3 rfl) ?_
            exact x_lretW C hX hr hQ h dX4_orders_86
          refine i_aload_n C dX4_orders_61 rfl (lv_at hl 0 rfl) ?_
          refine i_iload_n C dX4_orders_62 rfl (lv_at hl 1 rfl) ?_
          refine i_iload C dX4_orders_63 (lv_at hl 4 rfl) ?_
          obtain ⟨x7, e5, h⟩ := w_bdr h
          refine x_callVi C hX (fg_0_0 G) (c_X4_endsAt (gl Γ) G  e5) [] rfl hl tw2_171 tw2_173 ts1_7 tw1_1 tw2_174 rfl nd_X4_endsAt ⟨(Nat.le_of_ble_eq_true rfl), (Nat.le_of_ble_eq_true rfl)⟩ (Nat.le_of_ble_eq_true rfl) dX4_orders_65 (fun H locs hX => ?_)
          refine i_iload_n C dX4_orders_68 rfl (lv_at hl 2 rfl) ?_
          refine w_jn1 (fun (x8 : Int64) => ∀ (H : Heap) (locs : List Loc) (ls : Array Slot), lv_has ls 6 [(0, .ref (G.2.1 0)), (1, .int p1), (2, .int p2), (3, .long x8), (5, .int x6)] → XW G A (gs Γ) H locs m2 → WX Γ H locs 79 ls []) h (fun x8 h H locs ls hl hX => ?_) (fun k1 J1 h => ?_)
          · refine i_iinc C (j := 4) (fun x9 => [(5, .int x9), (0, .ref (G.2.1 0)), (1, .int p1), (2, .int p2), (3, .long x8)]) h dX4_orders_79 hl rfl rfl (by decide) (fun _ => rfl) (fun x9 ls h hl => ?_)
            refine i_goto (tgt := 54) C dX4_orders_82 (by decide) ?_
            exact ih _ _ _ _ _ h (lv_sub hl [1, 2, 3, 4, 0] rfl) hX
          refine i_icmp_ne (tgt := 79) C h dX4_orders_69 (by decide) (fun _ h => ?_) (fun _ h => ?_)
          · exact J1 _ h _ _ _ (lv_sub hl [0, 1, 2, 3, 4] rfl) hX
          refine i_lload_n C dX4_orders_72 rfl (lv_at hl 3 rfl) ?_
          refine i_lconst (v := 1) C dX4_orders_73 rfl ?_
          refine i_iload C dX4_orders_74 (lv_at hl 4 rfl) ?_
          refine i_lshl C dX4_orders_76 ?_
          refine i_lor C dX4_orders_77 ?_
          refine i_lstoreL_n C (fun x10 => [(3, .long x10), (0, .ref (G.2.1 0)), (1, .int p1), (2, .int p2), (5, .int x6)]) h dX4_orders_78 rfl hl (by decide) (fun _ => rfl) (fun x10 ls h hl => ?_)
          exact J1 _ h _ _ _ (lv_sub hl [1, 2, 3, 0, 4] rfl) hX
      exact L1 FU _ _ _ _ _ h (lv_sub hl [2, 3, 4, 1, 0] rfl) hX
    refine i_aload_n C dX4_orders_34 rfl (lv_at hl 0 rfl) ?_
    refine i_ldc C tw2_77 dX4_orders_35 ?_
    obtain ⟨x11, m3, e6, h⟩ := w_bdw h
    refine x_callVi C hX (fg_0_0 G) (c_X4_finding (gl Γ) G  e6) [] rfl hl tw1_205 tw1_207 ts1_0 tw1_1 tw1_208 rfl nd_X4_finding ⟨(Nat.le_of_ble_eq_true rfl), (Nat.le_of_ble_eq_true rfl)⟩ (Nat.le_of_ble_eq_true rfl) dX4_orders_37 (fun H locs hX => ?_)
    refine i_i2l C dX4_orders_40 ?_
    exact x_lretW C hX hr hQ h dX4_orders_41
  refine i_aload_n C dX4_orders_14 rfl (lv_at hl 0 rfl) ?_
  refine i_ldc C tw1_204 dX4_orders_15 ?_
  obtain ⟨x12, m4, e7, h⟩ := w_bdw h
  refine x_callVi C hX (fg_0_0 G) (c_X4_finding (gl Γ) G  e7) [] rfl hl tw1_205 tw1_207 ts1_0 tw1_1 tw1_208 rfl nd_X4_finding ⟨(Nat.le_of_ble_eq_true rfl), (Nat.le_of_ble_eq_true rfl)⟩ (Nat.le_of_ble_eq_true rfl) dX4_orders_17 (fun H locs hX => ?_)
  refine i_i2l C dX4_orders_20 ?_
  exact x_lretW C hX hr hQ h dX4_orders_21
def L_X4_windsThatLand_5 (p1 : Int32) (p2 : Int32) (μ : MM) : Nat → Int32 → Int32 → Option Int32
  | 0, _, _ => none
  | fu + 1, x1, x2 => if 8 ≤ x2 then (some x1) else (bdr (f_X4_landsBehind p1 p2 x2 μ) fun x3 => jn1 (fun (x4 : Int32) => lt_ (x2 + 1) fun x5 => L_X4_windsThatLand_5 p1 p2 μ fu x4 x5) fun k1 => if x3 < 0 then (k1 x1) else (lt_ (x1 + 1) fun x6 => k1 x6))
def f_X4_windsThatLand (p1 : Int32) (p2 : Int32) (μ : MM) : Option Int32 := L_X4_windsThatLand_5 p1 p2 μ FU 0 0
theorem nd_X4_windsThatLand : yX4_windsThatLand.cls ≠ "java/lang/invoke/MethodHandle" ∧ yX4_windsThatLand.cls ≠ "java/lang/invoke/VarHandle" ∧ (parseMethodDescriptor yX4_windsThatLand.desc).map (fun d => d.parameters.length) = some 2 := by decide +kernel
set_option maxHeartbeats 4000000 in
set_option maxRecDepth 100000 in
theorem c_X4_windsThatLand (l : Launch) (G : EN)  {p1 p2 : Int32} {μ : MM} {r : Int32} (h : f_X4_windsThatLand p1 p2 μ = some r) : XM l G yX4_windsThatLand cX4_windsThatLand 5 (some .int) 4 94 [.ref (G.2.1 0), .int p1, .int p2] μ (some (.int r)) μ := by
  refine x_met (own := RX4) (by decide +kernel) rfl (Nat.le_of_ble_eq_true rfl) (fun Γ A H ls hg C hr hX hQ hl => ?_)
  have hl : lv_has ls 5 [(0, .ref (G.2.1 0)), (1, .int p1), (2, .int p2)] := hl
  unfold f_X4_windsThatLand at h
  refine i_iconst (v := 0) C dX4_windsThatLand_0 rfl ?_
  refine i_istore_n C [(3, .int 0), (0, .ref (G.2.1 0)), (1, .int p1), (2, .int p2)] dX4_windsThatLand_1 rfl hl (by decide) rfl (fun ls hl => ?_)
  refine i_iconst (v := 0) C dX4_windsThatLand_2 rfl ?_
  refine i_istore C [(4, .int 0), (3, .int 0), (0, .ref (G.2.1 0)), (1, .int p1), (2, .int p2)] dX4_windsThatLand_3 hl (by decide) rfl (fun ls hl => ?_)
  have L1 : ∀ (fu : Nat) (x1 : Int32) (x2 : Int32) (H : Heap) (locs : List Loc) (ls : Array Slot), L_X4_windsThatLand_5 p1 p2 μ fu x1 x2 = some r → lv_has ls 5 [(0, .ref (G.2.1 0)), (1, .int p1), (2, .int p2), (3, .int x1), (4, .int x2)] → XW G A (gs Γ) H locs μ → WX Γ H locs 5 ls [] := by
    intro fu
    induction fu with
    | zero =>
      intro x1 x2 H locs ls h
      rw [L_X4_windsThatLand_5] at h
      cases h
    | succ fu ih =>
      intro x1 x2 H locs ls h hl hX
      rw [L_X4_windsThatLand_5] at h
      refine i_iload C dX4_windsThatLand_5 (lv_at hl 4 rfl) ?_
      refine i_bipush (v := 8) C dX4_windsThatLand_7 rfl ?_
      refine i_icmp_ge (tgt := 32) C h dX4_windsThatLand_9 (by decide) (fun _ h => ?_) (fun _ h => ?_)
      · refine i_iload_n C dX4_windsThatLand_32 rfl (lv_at hl 3 rfl) ?_
        exact x_iretR C hX hr hQ h dX4_windsThatLand_33
      refine i_aload_n C dX4_windsThatLand_12 rfl (lv_at hl 0 rfl) ?_
      refine i_iload_n C dX4_windsThatLand_13 rfl (lv_at hl 1 rfl) ?_
      refine i_iload_n C dX4_windsThatLand_14 rfl (lv_at hl 2 rfl) ?_
      refine i_iload C dX4_windsThatLand_15 (lv_at hl 4 rfl) ?_
      obtain ⟨x3, e1, h⟩ := w_bdr h
      refine x_callVi C hX (fg_0_0 G) (c_X4_landsBehind (gl Γ) G  e1) [] rfl hl tw2_158 tw2_160 ts1_6 tw1_1 tw2_161 rfl nd_X4_landsBehind ⟨(Nat.le_of_ble_eq_true rfl), (Nat.le_of_ble_eq_true rfl)⟩ (Nat.le_of_ble_eq_true rfl) dX4_windsThatLand_17 (fun H locs hX => ?_)
      refine w_jn1 (fun (x4 : Int32) => ∀ (H : Heap) (locs : List Loc) (ls : Array Slot), lv_has ls 5 [(0, .ref (G.2.1 0)), (1, .int p1), (2, .int p2), (3, .int x4), (4, .int x2)] → XW G A (gs Γ) H locs μ → WX Γ H locs 26 ls []) h (fun x4 h H locs ls hl hX => ?_) (fun k1 J1 h => ?_)
      · refine i_iinc C (j := 4) (fun x5 => [(4, .int x5), (0, .ref (G.2.1 0)), (1, .int p1), (2, .int p2), (3, .int x4)]) h dX4_windsThatLand_26 hl rfl rfl (by decide) (fun _ => rfl) (fun x5 ls h hl => ?_)
        refine i_goto (tgt := 5) C dX4_windsThatLand_29 (by decide) ?_
        exact ih _ _ _ _ _ h (lv_sub hl [1, 2, 3, 4, 0] rfl) hX
      refine i_if_lt (tgt := 26) C h dX4_windsThatLand_20 (by decide) (fun _ h => ?_) (fun _ h => ?_)
      · exact J1 _ h _ _ _ (lv_sub hl [0, 1, 2, 3, 4] rfl) hX
      refine i_iinc C (j := 3) (fun x6 => [(3, .int x6), (0, .ref (G.2.1 0)), (1, .int p1), (2, .int p2), (4, .int x2)]) h dX4_windsThatLand_23 hl rfl rfl (by decide) (fun _ => rfl) (fun x6 ls h hl => ?_)
      exact J1 _ h _ _ _ (lv_sub hl [1, 2, 3, 0, 4] rfl) hX
  exact L1 FU _ _ _ _ _ h (lv_sub hl [2, 3, 4, 1, 0] rfl) hX
def L_X4_surestOrder_14 (p1 : Int32) (m1 : MM) : Nat → Int32 → Int32 → Int32 → Option (Int32 × MM)
  | 0, _, _, _ => none
  | fu + 1, x1, x2, x3 => if 32 ≤ x3 then (some (x1, m1)) else (bdr (f_X4_windsThatLand p1 x3 m1) fun x4 => jn2 (fun (x5 : Int32) (x6 : Int32) => lt_ (x3 + 1) fun x7 => L_X4_surestOrder_14 p1 m1 fu x5 x6 x7) fun k1 => if x4 ≤ x2 then (k1 x1 x2) else (k1 x3 x4))
def f_X4_surestOrder (p1 : Int32) (μ : MM) : Option (Int32 × MM) := bdr (f_X4_readAhead p1 60 μ) fun m1 => L_X4_surestOrder_14 p1 m1 FU 0 (-1) 0
theorem nd_X4_surestOrder : yX4_surestOrder.cls ≠ "java/lang/invoke/MethodHandle" ∧ yX4_surestOrder.cls ≠ "java/lang/invoke/VarHandle" ∧ (parseMethodDescriptor yX4_surestOrder.desc).map (fun d => d.parameters.length) = some 1 := by decide +kernel
set_option maxHeartbeats 4000000 in
set_option maxRecDepth 100000 in
theorem c_X4_surestOrder (l : Launch) (G : EN)  {p1 : Int32} {μ : MM} {r : Int32} {m : MM} (h : f_X4_surestOrder p1 μ = some (r, m)) : XM l G yX4_surestOrder cX4_surestOrder 6 (some .int) 5 118 [.ref (G.2.1 0), .int p1] μ (some (.int r)) m := by
  refine x_met (own := RX4) (by decide +kernel) rfl (Nat.le_of_ble_eq_true rfl) (fun Γ A H ls hg C hr hX hQ hl => ?_)
  have hl : lv_has ls 6 [(0, .ref (G.2.1 0)), (1, .int p1)] := hl
  unfold f_X4_surestOrder at h
  refine i_aload_n C dX4_surestOrder_0 rfl (lv_at hl 0 rfl) ?_
  refine i_iload_n C dX4_surestOrder_1 rfl (lv_at hl 1 rfl) ?_
  refine i_bipush (v := 60) C dX4_surestOrder_2 rfl ?_
  obtain ⟨m1, e1, h⟩ := w_bdr h
  refine x_callVv C hX (fg_0_0 G) (c_X4_readAhead (gl Γ) G  e1) [] rfl hl tw2_154 tw2_156 ts1_5 tw1_1 tw2_157 rfl nd_X4_readAhead ⟨(Nat.le_of_ble_eq_true rfl), (Nat.le_of_ble_eq_true rfl)⟩ (Nat.le_of_ble_eq_true rfl) dX4_surestOrder_4 (fun H locs hX => ?_)
  refine i_iconst (v := 0) C dX4_surestOrder_7 rfl ?_
  refine i_istore_n C [(2, .int 0), (0, .ref (G.2.1 0)), (1, .int p1)] dX4_surestOrder_8 rfl hl (by decide) rfl (fun ls hl => ?_)
  refine i_iconst (v := (-1)) C dX4_surestOrder_9 rfl ?_
  refine i_istore_n C [(3, .int (-1)), (2, .int 0), (0, .ref (G.2.1 0)), (1, .int p1)] dX4_surestOrder_10 rfl hl (by decide) rfl (fun ls hl => ?_)
  refine i_iconst (v := 0) C dX4_surestOrder_11 rfl ?_
  refine i_istore C [(4, .int 0), (3, .int (-1)), (2, .int 0), (0, .ref (G.2.1 0)), (1, .int p1)] dX4_surestOrder_12 hl (by decide) rfl (fun ls hl => ?_)
  have L1 : ∀ (fu : Nat) (x1 : Int32) (x2 : Int32) (x3 : Int32) (H : Heap) (locs : List Loc) (ls : Array Slot), L_X4_surestOrder_14 p1 m1 fu x1 x2 x3 = some (r, m) → lv_has ls 6 [(0, .ref (G.2.1 0)), (1, .int p1), (2, .int x1), (3, .int x2), (4, .int x3)] → XW G A (gs Γ) H locs m1 → WX Γ H locs 14 ls [] := by
    intro fu
    induction fu with
    | zero =>
      intro x1 x2 x3 H locs ls h
      rw [L_X4_surestOrder_14] at h
      cases h
    | succ fu ih =>
      intro x1 x2 x3 H locs ls h hl hX
      rw [L_X4_surestOrder_14] at h
      refine i_iload C dX4_surestOrder_14 (lv_at hl 4 rfl) ?_
      refine i_bipush (v := 32) C dX4_surestOrder_16 rfl ?_
      refine i_icmp_ge (tgt := 48) C h dX4_surestOrder_18 (by decide) (fun _ h => ?_) (fun _ h => ?_)
      · refine i_iload_n C dX4_surestOrder_48 rfl (lv_at hl 2 rfl) ?_
        exact x_iretW C hX hr hQ h dX4_surestOrder_49
      refine i_aload_n C dX4_surestOrder_21 rfl (lv_at hl 0 rfl) ?_
      refine i_iload_n C dX4_surestOrder_22 rfl (lv_at hl 1 rfl) ?_
      refine i_iload C dX4_surestOrder_23 (lv_at hl 4 rfl) ?_
      obtain ⟨x4, e2, h⟩ := w_bdr h
      refine x_callVi C hX (fg_0_0 G) (c_X4_windsThatLand (gl Γ) G  e2) [] rfl hl tw2_183 tw2_185 ts1_9 tw1_1 tw2_186 rfl nd_X4_windsThatLand ⟨(Nat.le_of_ble_eq_true rfl), (Nat.le_of_ble_eq_true rfl)⟩ (Nat.le_of_ble_eq_true rfl) dX4_surestOrder_25 (fun H locs hX => ?_)
      refine i_istore C [(5, .int x4), (0, .ref (G.2.1 0)), (1, .int p1), (2, .int x1), (3, .int x2), (4, .int x3)] dX4_surestOrder_28 hl (by decide) rfl (fun ls hl => ?_)
      refine i_iload C dX4_surestOrder_30 (lv_at hl 0 rfl) ?_
      refine i_iload_n C dX4_surestOrder_32 rfl (lv_at hl 4 rfl) ?_
      refine w_jn2 (fun (x5 : Int32) (x6 : Int32) => ∀ (H : Heap) (locs : List Loc) (ls : Array Slot), lv_has ls 6 [(0, .ref (G.2.1 0)), (1, .int p1), (2, .int x5), (3, .int x6), (4, .int x3)] → XW G A (gs Γ) H locs m1 → WX Γ H locs 42 ls []) h (fun x5 x6 h H locs ls hl hX => ?_) (fun k1 J1 h => ?_)
      · refine i_iinc C (j := 4) (fun x7 => [(4, .int x7), (0, .ref (G.2.1 0)), (1, .int p1), (2, .int x5), (3, .int x6)]) h dX4_surestOrder_42 hl rfl rfl (by decide) (fun _ => rfl) (fun x7 ls h hl => ?_)
        refine i_goto (tgt := 14) C dX4_surestOrder_45 (by decide) ?_
        exact ih _ _ _ _ _ _ h (lv_sub hl [1, 2, 3, 4, 0] rfl) hX
      refine i_icmp_le (tgt := 42) C h dX4_surestOrder_33 (by decide) (fun _ h => ?_) (fun _ h => ?_)
      · exact J1 _ _ h _ _ _ (lv_sub hl [1, 2, 3, 4, 5] rfl) hX
      refine i_iload C dX4_surestOrder_36 (lv_at hl 0 rfl) ?_
      refine i_istore_n C [(3, .int x4), (5, .int x4), (0, .ref (G.2.1 0)), (1, .int p1), (2, .int x1), (4, .int x3)] dX4_surestOrder_38 rfl hl (by decide) rfl (fun ls hl => ?_)
      refine i_iload C dX4_surestOrder_39 (lv_at hl 5 rfl) ?_
      refine i_istore_n C [(2, .int x3), (3, .int x4), (5, .int x4), (0, .ref (G.2.1 0)), (1, .int p1), (4, .int x3)] dX4_surestOrder_41 rfl hl (by decide) rfl (fun ls hl => ?_)
      exact J1 _ _ h _ _ _ (lv_sub hl [3, 4, 0, 1, 5] rfl) hX
  exact L1 FU _ _ _ _ _ _ h (lv_sub hl [3, 4, 2, 1, 0] rfl) hX
def f_X4_surest (p1 : Int32) (μ : MM) : Option (Int32 × MM) := bdr (f_X4_isShip p1) fun x1 => if x1 = 0 then (bdw (f_X4_finding (-1000001) μ) fun x3 m2 => some (x3, m2)) else (bdw (f_X4_surestOrder p1 μ) fun x2 m1 => some (x2, m1))
theorem nd_X4_surest : yX4_surest.cls ≠ "java/lang/invoke/MethodHandle" ∧ yX4_surest.cls ≠ "java/lang/invoke/VarHandle" ∧ (parseMethodDescriptor yX4_surest.desc).map (fun d => d.parameters.length) = some 1 := by decide +kernel
set_option maxHeartbeats 4000000 in
set_option maxRecDepth 100000 in
theorem c_X4_surest (l : Launch) (G : EN)  {p1 : Int32} {μ : MM} {r : Int32} {m : MM} (h : f_X4_surest p1 μ = some (r, m)) : XM l G yX4_surest cX4_surest 2 (some .int) 6 143 [.ref (G.2.1 0), .int p1] μ (some (.int r)) m := by
  refine x_met (own := RX4) (by decide +kernel) rfl (Nat.le_of_ble_eq_true rfl) (fun Γ A H ls hg C hr hX hQ hl => ?_)
  have hl : lv_has ls 2 [(0, .ref (G.2.1 0)), (1, .int p1)] := hl
  unfold f_X4_surest at h
  refine i_iload_n C dX4_surest_0 rfl (lv_at hl 1 rfl) ?_
  obtain ⟨x1, e1, h⟩ := w_bdr h
  refine x_callSi C hX (c_X4_isShip (gl Γ) G  e1) [] rfl hl tw2_4 tw2_5 tw1_1 tw2_6 nd_X4_isShip ⟨(Nat.le_of_ble_eq_true rfl), (Nat.le_of_ble_eq_true rfl)⟩ (Nat.le_of_ble_eq_true rfl) dX4_surest_1 (fun H locs hX => ?_)
  refine i_if_ne (tgt := 14) C h dX4_surest_4 (by decide) (fun _ h => ?_) (fun _ h => ?_)
  · refine i_aload_n C dX4_surest_14 rfl (lv_at hl 0 rfl) ?_
    refine i_iload_n C dX4_surest_15 rfl (lv_at hl 1 rfl) ?_
    obtain ⟨x2, m1, e2, h⟩ := w_bdw h
    refine x_callVi C hX (fg_0_0 G) (c_X4_surestOrder (gl Γ) G  e2) [] rfl hl tw2_179 tw2_181 ts1_8 tw1_1 tw2_182 rfl nd_X4_surestOrder ⟨(Nat.le_of_ble_eq_true rfl), (Nat.le_of_ble_eq_true rfl)⟩ (Nat.le_of_ble_eq_true rfl) dX4_surest_16 (fun H locs hX => ?_)
    exact x_iretW C hX hr hQ h dX4_surest_19
  refine i_aload_n C dX4_surest_7 rfl (lv_at hl 0 rfl) ?_
  refine i_ldc C tw1_204 dX4_surest_8 ?_
  obtain ⟨x3, m2, e3, h⟩ := w_bdw h
  refine x_callVi C hX (fg_0_0 G) (c_X4_finding (gl Γ) G  e3) [] rfl hl tw1_205 tw1_207 ts1_0 tw1_1 tw1_208 rfl nd_X4_finding ⟨(Nat.le_of_ble_eq_true rfl), (Nat.le_of_ble_eq_true rfl)⟩ (Nat.le_of_ble_eq_true rfl) dX4_surest_10 (fun H locs hX => ?_)
  exact x_iretW C hX hr hQ h dX4_surest_13
def f_X4_winds (p1 : Int32) (μ : MM) : Option (Int32 × MM) := bdr (f_X4_isShip p1) fun x1 => if x1 = 0 then (bdw (f_X4_finding (-1000001) μ) fun x4 m2 => some (x4, m2)) else (bdw (f_X4_surestOrder p1 μ) fun x2 m1 => bdr (f_X4_windsThatLand p1 x2 m1) fun x3 => some (x3, m1))
theorem nd_X4_winds : yX4_winds.cls ≠ "java/lang/invoke/MethodHandle" ∧ yX4_winds.cls ≠ "java/lang/invoke/VarHandle" ∧ (parseMethodDescriptor yX4_winds.desc).map (fun d => d.parameters.length) = some 1 := by decide +kernel
set_option maxHeartbeats 4000000 in
set_option maxRecDepth 100000 in
theorem c_X4_winds (l : Launch) (G : EN)  {p1 : Int32} {μ : MM} {r : Int32} {m : MM} (h : f_X4_winds p1 μ = some (r, m)) : XM l G yX4_winds cX4_winds 2 (some .int) 6 143 [.ref (G.2.1 0), .int p1] μ (some (.int r)) m := by
  refine x_met (own := RX4) (by decide +kernel) rfl (Nat.le_of_ble_eq_true rfl) (fun Γ A H ls hg C hr hX hQ hl => ?_)
  have hl : lv_has ls 2 [(0, .ref (G.2.1 0)), (1, .int p1)] := hl
  unfold f_X4_winds at h
  refine i_iload_n C dX4_winds_0 rfl (lv_at hl 1 rfl) ?_
  obtain ⟨x1, e1, h⟩ := w_bdr h
  refine x_callSi C hX (c_X4_isShip (gl Γ) G  e1) [] rfl hl tw2_4 tw2_5 tw1_1 tw2_6 nd_X4_isShip ⟨(Nat.le_of_ble_eq_true rfl), (Nat.le_of_ble_eq_true rfl)⟩ (Nat.le_of_ble_eq_true rfl) dX4_winds_1 (fun H locs hX => ?_)
  refine i_if_ne (tgt := 14) C h dX4_winds_4 (by decide) (fun _ h => ?_) (fun _ h => ?_)
  · refine i_aload_n C dX4_winds_14 rfl (lv_at hl 0 rfl) ?_
    refine i_iload_n C dX4_winds_15 rfl (lv_at hl 1 rfl) ?_
    refine i_aload_n C dX4_winds_16 rfl (lv_at hl 0 rfl) ?_
    refine i_iload_n C dX4_winds_17 rfl (lv_at hl 1 rfl) ?_
    obtain ⟨x2, m1, e2, h⟩ := w_bdw h
    refine x_callVi C hX (fg_0_0 G) (c_X4_surestOrder (gl Γ) G  e2) [.int p1, .ref (G.2.1 0)] rfl hl tw2_179 tw2_181 ts1_8 tw1_1 tw2_182 rfl nd_X4_surestOrder ⟨(Nat.le_of_ble_eq_true rfl), (Nat.le_of_ble_eq_true rfl)⟩ (Nat.le_of_ble_eq_true rfl) dX4_winds_18 (fun H locs hX => ?_)
    obtain ⟨x3, e3, h⟩ := w_bdr h
    refine x_callVi C hX (fg_0_0 G) (c_X4_windsThatLand (gl Γ) G  e3) [] rfl hl tw2_183 tw2_185 ts1_9 tw1_1 tw2_186 rfl nd_X4_windsThatLand ⟨(Nat.le_of_ble_eq_true rfl), (Nat.le_of_ble_eq_true rfl)⟩ (Nat.le_of_ble_eq_true rfl) dX4_winds_21 (fun H locs hX => ?_)
    exact x_iretW C hX hr hQ h dX4_winds_24
  refine i_aload_n C dX4_winds_7 rfl (lv_at hl 0 rfl) ?_
  refine i_ldc C tw1_204 dX4_winds_8 ?_
  obtain ⟨x4, m2, e4, h⟩ := w_bdw h
  refine x_callVi C hX (fg_0_0 G) (c_X4_finding (gl Γ) G  e4) [] rfl hl tw1_205 tw1_207 ts1_0 tw1_1 tw1_208 rfl nd_X4_finding ⟨(Nat.le_of_ble_eq_true rfl), (Nat.le_of_ble_eq_true rfl)⟩ (Nat.le_of_ble_eq_true rfl) dX4_winds_10 (fun H locs hX => ?_)
  exact x_iretW C hX hr hQ h dX4_winds_13
def L_X4_windFor_29 (p1 : Int32) (m1 : MM) (k1 : Int32 → Option (Int32 × MM)) : Nat → Int32 → Int32 → Int32 → Option (Int32 × MM)
  | 0, _, _, _ => none
  | fu + 1, x4, x5, x6 => if 8 ≤ x6 then (k1 x4) else (ldi m1 6 4 p1 fun x7 => bdr (f_X4_landsBehind p1 x7 x6 m1) fun x8 => jn2 (fun (x9 : Int32) (x10 : Int32) => lt_ (x6 + 1) fun x11 => L_X4_windFor_29 p1 m1 k1 fu x9 x10 x11) fun k2 => if x8 < 0 then (k2 x4 x5) else (if x5 ≤ x8 then (k2 x4 x5) else (k2 x6 x8)))
def f_X4_windFor (p1 : Int32) (μ : MM) : Option (Int32 × MM) := bdr (f_X4_isShip p1) fun x1 => if x1 = 0 then (bdw (f_X4_finding (-1000001) μ) fun x12 m3 => some (x12, m3)) else (bdr (f_X4_readAhead p1 60 μ) fun m1 => jn1 (fun (x2 : Int32) => if 0 ≤ x2 then (some (x2, m1)) else (bdw (f_X4_finding (-1000004) m1) fun x3 m2 => some (x3, m2))) fun k1 => L_X4_windFor_29 p1 m1 k1 FU (-1) 61 0)
theorem nd_X4_windFor : yX4_windFor.cls ≠ "java/lang/invoke/MethodHandle" ∧ yX4_windFor.cls ≠ "java/lang/invoke/VarHandle" ∧ (parseMethodDescriptor yX4_windFor.desc).map (fun d => d.parameters.length) = some 1 := by decide +kernel
set_option maxHeartbeats 4000000 in
set_option maxRecDepth 100000 in
theorem c_X4_windFor (l : Launch) (G : EN)  {p1 : Int32} {μ : MM} {r : Int32} {m : MM} (h : f_X4_windFor p1 μ = some (r, m)) : XM l G yX4_windFor cX4_windFor 6 (some .int) 4 99 [.ref (G.2.1 0), .int p1] μ (some (.int r)) m := by
  refine x_met (own := RX4) (by decide +kernel) rfl (Nat.le_of_ble_eq_true rfl) (fun Γ A H ls hg C hr hX hQ hl => ?_)
  have hl : lv_has ls 6 [(0, .ref (G.2.1 0)), (1, .int p1)] := hl
  unfold f_X4_windFor at h
  refine i_iload_n C dX4_windFor_0 rfl (lv_at hl 1 rfl) ?_
  obtain ⟨x1, e1, h⟩ := w_bdr h
  refine x_callSi C hX (c_X4_isShip (gl Γ) G  e1) [] rfl hl tw2_4 tw2_5 tw1_1 tw2_6 nd_X4_isShip ⟨(Nat.le_of_ble_eq_true rfl), (Nat.le_of_ble_eq_true rfl)⟩ (Nat.le_of_ble_eq_true rfl) dX4_windFor_1 (fun H locs hX => ?_)
  refine i_if_ne (tgt := 14) C h dX4_windFor_4 (by decide) (fun _ h => ?_) (fun _ h => ?_)
  · refine i_aload_n C dX4_windFor_14 rfl (lv_at hl 0 rfl) ?_
    refine i_iload_n C dX4_windFor_15 rfl (lv_at hl 1 rfl) ?_
    refine i_bipush (v := 60) C dX4_windFor_16 rfl ?_
    obtain ⟨m1, e2, h⟩ := w_bdr h
    refine x_callVv C hX (fg_0_0 G) (c_X4_readAhead (gl Γ) G  e2) [] rfl hl tw2_154 tw2_156 ts1_5 tw1_1 tw2_157 rfl nd_X4_readAhead ⟨(Nat.le_of_ble_eq_true rfl), (Nat.le_of_ble_eq_true rfl)⟩ (Nat.le_of_ble_eq_true rfl) dX4_windFor_18 (fun H locs hX => ?_)
    refine i_iconst (v := (-1)) C dX4_windFor_21 rfl ?_
    refine i_istore_n C [(2, .int (-1)), (0, .ref (G.2.1 0)), (1, .int p1)] dX4_windFor_22 rfl hl (by decide) rfl (fun ls hl => ?_)
    refine i_bipush (v := 61) C dX4_windFor_23 rfl ?_
    refine i_istore_n C [(3, .int 61), (2, .int (-1)), (0, .ref (G.2.1 0)), (1, .int p1)] dX4_windFor_25 rfl hl (by decide) rfl (fun ls hl => ?_)
    refine i_iconst (v := 0) C dX4_windFor_26 rfl ?_
    refine i_istore C [(4, .int 0), (3, .int 61), (2, .int (-1)), (0, .ref (G.2.1 0)), (1, .int p1)] dX4_windFor_27 hl (by decide) rfl (fun ls hl => ?_)
    refine w_jn1 (fun (x2 : Int32) => ∀ (H : Heap) (locs : List Loc) (ls : Array Slot), lv_has ls 6 [(0, .ref (G.2.1 0)), (2, .int x2)] → XW G A (gs Γ) H locs m1 → WX Γ H locs 77 ls []) h (fun x2 h H locs ls hl hX => ?_) (fun k1 J1 h => ?_)
    · refine i_iload_n C dX4_windFor_77 rfl (lv_at hl 1 rfl) ?_
      refine i_if_ge (tgt := 90) C h dX4_windFor_78 (by decide) (fun _ h => ?_) (fun _ h => ?_)
      · refine i_iload_n C dX4_windFor_90 rfl (lv_at hl 1 rfl) ?_
        exact x_iretW C hX hr hQ h dX4_windFor_91
      refine i_aload_n C dX4_windFor_81 rfl (lv_at hl 0 rfl) ?_
      refine i_ldc C tw2_126 dX4_windFor_82 ?_
      obtain ⟨x3, m2, e3, h⟩ := w_bdw h
      refine x_callVi C hX (fg_0_0 G) (c_X4_finding (gl Γ) G  e3) [] rfl hl tw1_205 tw1_207 ts1_0 tw1_1 tw1_208 rfl nd_X4_finding ⟨(Nat.le_of_ble_eq_true rfl), (Nat.le_of_ble_eq_true rfl)⟩ (Nat.le_of_ble_eq_true rfl) dX4_windFor_84 (fun H locs hX => ?_)
      refine i_goto (tgt := 91) C dX4_windFor_87 (by decide) ?_
      exact x_iretW C hX hr hQ h dX4_windFor_91
    have L1 : ∀ (fu : Nat) (x4 : Int32) (x5 : Int32) (x6 : Int32) (H : Heap) (locs : List Loc) (ls : Array Slot), L_X4_windFor_29 p1 m1 k1 fu x4 x5 x6 = some (r, m) → lv_has ls 6 [(0, .ref (G.2.1 0)), (1, .int p1), (2, .int x4), (3, .int x5), (4, .int x6)] → XW G A (gs Γ) H locs m1 → WX Γ H locs 29 ls [] := by
      intro fu
      induction fu with
      | zero =>
        intro x4 x5 x6 H locs ls h
        rw [L_X4_windFor_29] at h
        cases h
      | succ fu ih =>
        intro x4 x5 x6 H locs ls h hl hX
        rw [L_X4_windFor_29] at h
        refine i_iload C dX4_windFor_29 (lv_at hl 4 rfl) ?_
        refine i_bipush (v := 8) C dX4_windFor_31 rfl ?_
        refine i_icmp_ge (tgt := 77) C h dX4_windFor_33 (by decide) (fun _ h => ?_) (fun _ h => ?_)
        · exact J1 _ h _ _ _ (lv_sub hl [0, 2] rfl) hX
        refine i_aload_n C dX4_windFor_36 rfl (lv_at hl 0 rfl) ?_
        refine i_iload_n C dX4_windFor_37 rfl (lv_at hl 1 rfl) ?_
        refine i_aload_n C dX4_windFor_38 rfl (lv_at hl 0 rfl) ?_
        refine x_get C hX (fg_0_0 G) tw1_166 dX4_windFor_39 ?_
        refine x_get C hX (fg_1_5 G) tw1_45 dX4_windFor_42 ?_
        refine i_iload_n C dX4_windFor_45 rfl (lv_at hl 1 rfl) ?_
        refine x_iald C hX (ai_6 G) h dX4_windFor_46 (fun x7 h => ?_)
        refine i_iload C dX4_windFor_47 (lv_at hl 4 rfl) ?_
        obtain ⟨x8, e4, h⟩ := w_bdr h
        refine x_callVi C hX (fg_0_0 G) (c_X4_landsBehind (gl Γ) G  e4) [] rfl hl tw2_158 tw2_160 ts1_6 tw1_1 tw2_161 rfl nd_X4_landsBehind ⟨(Nat.le_of_ble_eq_true rfl), (Nat.le_of_ble_eq_true rfl)⟩ (Nat.le_of_ble_eq_true rfl) dX4_windFor_49 (fun H locs hX => ?_)
        refine i_istore C [(5, .int x8), (0, .ref (G.2.1 0)), (1, .int p1), (2, .int x4), (3, .int x5), (4, .int x6)] dX4_windFor_52 hl (by decide) rfl (fun ls hl => ?_)
        refine i_iload C dX4_windFor_54 (lv_at hl 0 rfl) ?_
        refine w_jn2 (fun (x9 : Int32) (x10 : Int32) => ∀ (H : Heap) (locs : List Loc) (ls : Array Slot), lv_has ls 6 [(0, .ref (G.2.1 0)), (1, .int p1), (2, .int x9), (3, .int x10), (4, .int x6)] → XW G A (gs Γ) H locs m1 → WX Γ H locs 71 ls []) h (fun x9 x10 h H locs ls hl hX => ?_) (fun k2 J2 h => ?_)
        · refine i_iinc C (j := 4) (fun x11 => [(4, .int x11), (0, .ref (G.2.1 0)), (1, .int p1), (2, .int x9), (3, .int x10)]) h dX4_windFor_71 hl rfl rfl (by decide) (fun _ => rfl) (fun x11 ls h hl => ?_)
          refine i_goto (tgt := 29) C dX4_windFor_74 (by decide) ?_
          exact ih _ _ _ _ _ _ h (lv_sub hl [1, 2, 3, 4, 0] rfl) hX
        refine i_if_lt (tgt := 71) C h dX4_windFor_56 (by decide) (fun _ h => ?_) (fun _ h => ?_)
        · exact J2 _ _ h _ _ _ (lv_sub hl [1, 2, 3, 4, 5] rfl) hX
        refine i_iload C dX4_windFor_59 (lv_at hl 0 rfl) ?_
        refine i_iload_n C dX4_windFor_61 rfl (lv_at hl 4 rfl) ?_
        refine i_icmp_ge (tgt := 71) C h dX4_windFor_62 (by decide) (fun _ h => ?_) (fun _ h => ?_)
        · exact J2 _ _ h _ _ _ (lv_sub hl [1, 2, 3, 4, 5] rfl) hX
        refine i_iload C dX4_windFor_65 (lv_at hl 0 rfl) ?_
        refine i_istore_n C [(3, .int x8), (5, .int x8), (0, .ref (G.2.1 0)), (1, .int p1), (2, .int x4), (4, .int x6)] dX4_windFor_67 rfl hl (by decide) rfl (fun ls hl => ?_)
        refine i_iload C dX4_windFor_68 (lv_at hl 5 rfl) ?_
        refine i_istore_n C [(2, .int x6), (3, .int x8), (5, .int x8), (0, .ref (G.2.1 0)), (1, .int p1), (4, .int x6)] dX4_windFor_70 rfl hl (by decide) rfl (fun ls hl => ?_)
        exact J2 _ _ h _ _ _ (lv_sub hl [3, 4, 0, 1, 5] rfl) hX
    exact L1 FU _ _ _ _ _ _ h (lv_sub hl [3, 4, 2, 1, 0] rfl) hX
  refine i_aload_n C dX4_windFor_7 rfl (lv_at hl 0 rfl) ?_
  refine i_ldc C tw1_204 dX4_windFor_8 ?_
  obtain ⟨x12, m3, e5, h⟩ := w_bdw h
  refine x_callVi C hX (fg_0_0 G) (c_X4_finding (gl Γ) G  e5) [] rfl hl tw1_205 tw1_207 ts1_0 tw1_1 tw1_208 rfl nd_X4_finding ⟨(Nat.le_of_ble_eq_true rfl), (Nat.le_of_ble_eq_true rfl)⟩ (Nat.le_of_ble_eq_true rfl) dX4_windFor_10 (fun H locs hX => ?_)
  exact x_iretW C hX hr hQ h dX4_windFor_13
