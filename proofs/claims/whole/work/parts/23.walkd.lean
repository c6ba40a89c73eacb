def L_X5_findSurest_50 (p1 : Int32) (k3 : Int32 → MM → Option (Int32 × MM)) : Nat → Int32 → Int32 → MM → Option (Int32 × MM)
  | 0, _, _, _ => none
  | fu + 1, x11, x12, m9 => if 8 ≤ x12 then (k3 x11 m9) else (sti m9 38 152 2 x12 fun m10 => bdw (f_X5_landsIn p1 60 m10) fun x13 m11 => jn1 (fun (x14 : Int32) => lt_ ((x11 + x14)) fun x15 => lt_ (x12 + 1) fun x16 => L_X5_findSurest_50 p1 k3 fu x15 x16 m11) fun k4 => if x13 = 1000000 then (k4 0) else (k4 1))
def L_X5_findSurest_25 (p1 : Int32) (k1 : Int32 → MM → Option (Int32 × MM)) : Nat → Int32 → Int32 → MM → Option (Int32 × MM)
  | 0, _, _, _ => none
  | fu + 1, x5, x6, m5 => if 32 ≤ x6 then (k1 x5 m5) else (bdr (f_X5_atShip p1 1) fun x7 => sti m5 38 152 x7 x6 fun m6 => jn2 (fun (x8 : Int32) (m7 : MM) => jn1 (fun (x9 : Int32) => lt_ (wst m7 37 8 (imax (m7 37 8) x8)) fun m8 => lt_ (x6 + 1) fun x10 => L_X5_findSurest_25 p1 k1 fu x9 x10 m8) fun k2 => if x8 ≤ (m7 37 8) then (k2 x5) else (k2 x6)) fun k3 => L_X5_findSurest_50 p1 k3 FU 0 0 m6)
def f_X5_findSurest (p1 : Int32) (μ : MM) : Option (Int32 × MM) := bdr (f_X5_shipIs p1 1 μ) fun x1 => ldi μ 38 152 2 fun x2 => lt_ (wst μ 37 8 (-1)) fun m1 => jn2 (fun (x3 : Int32) (m2 : MM) => sti m2 38 152 2 x2 fun m3 => bdr (f_X5_atShip p1 1) fun x4 => sti m3 38 152 x4 x1 fun m4 => some (x3, m4)) fun k1 => L_X5_findSurest_25 p1 k1 FU (-1) 0 m1
theorem nd_X5_findSurest : yX5_findSurest.cls ≠ "java/lang/invoke/MethodHandle" ∧ yX5_findSurest.cls ≠ "java/lang/invoke/VarHandle" ∧ (parseMethodDescriptor yX5_findSurest.desc).map (fun d => d.parameters.length) = some 1 := by decide +kernel
set_option maxHeartbeats 4000000 in
set_option maxRecDepth 100000 in
theorem c_X5_findSurest (l : Launch) (G : EN)  {p1 : Int32} {μ : MM} {r : Int32} {m : MM} (h : f_X5_findSurest p1 μ = some (r, m)) : XM l G yX5_findSurest cX5_findSurest 8 (some .int) 9 202 [.ref (G.2.1 37), .int p1] μ (some (.int r)) m := by
  refine x_met (own := RX5) (by decide +kernel) rfl (Nat.le_of_ble_eq_true rfl) (fun Γ A H ls hg C hr hX hQ hl => ?_)
  have hl : lv_has ls 8 [(0, .ref (G.2.1 37)), (1, .int p1)] := hl
  unfold f_X5_findSurest at h
  refine i_aload_n C dX5_findSurest_0 rfl (lv_at hl 0 rfl) ?_
  refine i_iload_n C dX5_findSurest_1 rfl (lv_at hl 1 rfl) ?_
  refine i_iconst (v := 1) C dX5_findSurest_2 rfl ?_
  obtain ⟨x1, e1, h⟩ := w_bdr h
  refine x_callVi C hX (fg_37_0 G) (c_X5_shipIs (gl Γ) G  e1) [] rfl hl tw4_223 tw4_225 ts2_6 tw1_7 tw4_226 rfl nd_X5_shipIs ⟨(Nat.le_of_ble_eq_true rfl), (Nat.le_of_ble_eq_true rfl)⟩ (Nat.le_of_ble_eq_true rfl) dX5_findSurest_3 (fun H locs hX => ?_)
  refine i_istore_n C [(2, .int x1), (0, .ref (G.2.1 37)), (1, .int p1)] dX5_findSurest_6 rfl hl (by decide) rfl (fun ls hl => ?_)
  refine i_aload_n C dX5_findSurest_7 rfl (lv_at hl 1 rfl) ?_
  refine x_get C hX (fg_37_0 G) tw4_83 dX5_findSurest_8 ?_
  refine i_iconst (v := 2) C dX5_findSurest_11 rfl ?_
  refine x_iald C hX (ai_38 G) h dX5_findSurest_12 (fun x2 h => ?_)
  refine i_istore_n C [(3, .int x2), (2, .int x1), (0, .ref (G.2.1 37)), (1, .int p1)] dX5_findSurest_13 rfl hl (by decide) rfl (fun ls hl => ?_)
  refine i_iconst (v := (-1)) C dX5_findSurest_14 rfl ?_
  refine i_istore C [(4, .int (-1)), (3, .int x2), (2, .int x1), (0, .ref (G.2.1 37)), (1, .int p1)] dX5_findSurest_15 hl (by decide) rfl (fun ls hl => ?_)
  refine i_aload_n C dX5_findSurest_17 rfl (lv_at hl 3 rfl) ?_
  refine i_iconst (v := (-1)) C dX5_findSurest_18 rfl ?_
  refine x_putI C hX (fp_37_8 G) h tw4_91 dX5_findSurest_19 (fun H locs m1 h hX => ?_)
  refine i_iconst (v := 0) C dX5_findSurest_22 rfl ?_
  refine i_istore C [(5, .int 0), (4, .int (-1)), (3, .int x2), (2, .int x1), (0, .ref (G.2.1 37)), (1, .int p1)] dX5_findSurest_23 hl (by decide) rfl (fun ls hl => ?_)
  refine w_jn2 (fun (x3 : Int32) (m2 : MM) => ∀ (H : Heap) (locs : List Loc) (ls : Array Slot), lv_has ls 8 [(0, .ref (G.2.1 37)), (1, .int p1), (2, .int x1), (3, .int x2), (4, .int x3)] → XW G A (gs Γ) H locs m2 → WX Γ H locs 130 ls []) h (fun x3 m2 h H locs ls hl hX => ?_) (fun k1 J1 h => ?_)
  · refine i_aload_n C dX5_findSurest_130 rfl (lv_at hl 0 rfl) ?_
    refine x_get C hX (fg_37_0 G) tw4_83 dX5_findSurest_131 ?_
    refine i_iconst (v := 2) C dX5_findSurest_134 rfl ?_
    refine i_iload_n C dX5_findSurest_135 rfl (lv_at hl 3 rfl) ?_
    refine x_iast C hX (ai_38 G) h dX5_findSurest_136 (fun H locs m3 h hX => ?_)
    refine i_aload_n C dX5_findSurest_137 rfl (lv_at hl 0 rfl) ?_
    refine x_get C hX (fg_37_0 G) tw4_83 dX5_findSurest_138 ?_
    refine i_iload_n C dX5_findSurest_141 rfl (lv_at hl 1 rfl) ?_
    refine i_iconst (v := 1) C dX5_findSurest_142 rfl ?_
    obtain ⟨x4, e2, h⟩ := w_bdr h
    refine x_callSi C hX (c_X5_atShip (gl Γ) G  e2) [.ref (G.2.1 38)] rfl hl tw4_227 tw4_228 tw1_7 tw4_229 nd_X5_atShip ⟨(Nat.le_of_ble_eq_true rfl), (Nat.le_of_ble_eq_true rfl)⟩ (Nat.le_of_ble_eq_true rfl) dX5_findSurest_143 (fun H locs hX => ?_)
    refine i_iload_n C dX5_findSurest_146 rfl (lv_at hl 2 rfl) ?_
    refine x_iast C hX (ai_38 G) h dX5_findSurest_147 (fun H locs m4 h hX => ?_)
    refine i_iload C dX5_findSurest_148 (lv_at hl 4 rfl) ?_
    exact x_iretW C hX hr hQ h dX5_findSurest_150
  have L2 : ∀ (fu : Nat) (x5 : Int32) (x6 : Int32) (m5 : MM) (H : Heap) (locs : List Loc) (ls : Array Slot), L_X5_findSurest_25 p1 k1 fu x5 x6 m5 = some (r, m) → lv_has ls 8 [(0, .ref (G.2.1 37)), (1, .int p1), (2, .int x1), (3, .int x2), (4, .int x5), (5, .int x6)] → XW G A (gs Γ) H locs m5 → WX Γ H locs 25 ls [] := by
    intro fu
    induction fu with
    | zero =>
      intro x5 x6 m5 H locs ls h
      rw [L_X5_findSurest_25] at h
      cases h
    | succ fu ih =>
      intro x5 x6 m5 H locs ls h hl hX
      rw [L_X5_findSurest_25] at h
      refine i_iload C dX5_findSurest_25 (lv_at hl 5 rfl) ?_
      refine i_bipush (v := 32) C dX5_findSurest_27 rfl ?_
      refine i_icmp_ge (tgt := 130) C h dX5_findSurest_29 (by decide) (fun _ h => ?_) (fun _ h => ?_)
      · exact J1 _ _ h _ _ _ (lv_sub hl [0, 1, 2, 3, 4] rfl) hX
      refine i_aload_n C dX5_findSurest_32 rfl (lv_at hl 0 rfl) ?_
      refine x_get C hX (fg_37_0 G) tw4_83 dX5_findSurest_33 ?_
      refine i_iload_n C dX5_findSurest_36 rfl (lv_at hl 1 rfl) ?_
      refine i_iconst (v := 1) C dX5_findSurest_37 rfl ?_
      obtain ⟨x7, e3, h⟩ := w_bdr h
      refine x_callSi C hX (c_X5_atShip (gl Γ) G  e3) [.ref (G.2.1 38)] rfl hl tw4_227 tw4_228 tw1_7 tw4_229 nd_X5_atShip ⟨(Nat.le_of_ble_eq_true rfl), (Nat.le_of_ble_eq_true rfl)⟩ (Nat.le_of_ble_eq_true rfl) dX5_findSurest_38 (fun H locs hX => ?_)
      refine i_iload C dX5_findSurest_41 (lv_at hl 5 rfl) ?_
      refine x_iast C hX (ai_38 G) h dX5_findSurest_43 (fun H locs m6 h hX => ?_)
      refine i_iconst (v := 0) C dX5_findSurest_44 rfl ?_
      refine i_istore C [(6, .int 0), (0, .ref (G.2.1 37)), (1, .int p1), (2, .int x1), (3, .int x2), (4, .int x5), (5, .int x6)] dX5_findSurest_45 hl (by decide) rfl (fun ls hl => ?_)
      refine i_iconst (v := 0) C dX5_findSurest_47 rfl ?_
      refine i_istore C [(7, .int 0), (6, .int 0), (0, .ref (G.2.1 37)), (1, .int p1), (2, .int x1), (3, .int x2), (4, .int x5), (5, .int x6)] dX5_findSurest_48 hl (by decide) rfl (fun ls hl => ?_)
      refine w_jn2 (fun (x8 : Int32) (m7 : MM) => ∀ (H : Heap) (locs : List Loc) (ls : Array Slot), lv_has ls 8 [(0, .ref (G.2.1 37)), (1, .int p1), (2, .int x1), (3, .int x2), (4, .int x5), (5, .int x6), (6, .int x8)] → XW G A (gs Γ) H locs m7 → WX Γ H locs 93 ls []) h (fun x8 m7 h H locs ls hl hX => ?_) (fun k3 J3 h => ?_)
      · refine i_iload C dX5_findSurest_93 (lv_at hl 6 rfl) ?_
        refine i_aload_n C dX5_findSurest_95 rfl (lv_at hl 0 rfl) ?_
        refine x_get C hX (fg_37_8 G) tw4_91 dX5_findSurest_96 ?_
        refine w_jn1 (fun (x9 : Int32) => ∀ (H : Heap) (locs : List Loc) (ls : Array Slot), lv_has ls 8 [(0, .ref (G.2.1 37)), (1, .int p1), (2, .int x1), (3, .int x2), (5, .int x6), (6, .int x8)] → XW G A (gs Γ) H locs m7 → WX Γ H locs 109 ls [.int x9]) h (fun x9 h H locs ls hl hX => ?_) (fun k2 J2 h => ?_)
        · refine i_istore C [(4, .int x9), (0, .ref (G.2.1 37)), (1, .int p1), (2, .int x1), (3, .int x2), (5, .int x6), (6, .int x8)] dX5_findSurest_109 hl (by decide) rfl (fun ls hl => ?_)
          refine i_aload_n C dX5_findSurest_111 rfl (lv_at hl 1 rfl) ?_
          refine i_aload_n C dX5_findSurest_112 rfl (lv_at hl 1 rfl) ?_
          refine x_get C hX (fg_37_8 G) tw4_91 dX5_findSurest_113 ?_
          refine i_iload C dX5_findSurest_116 (lv_at hl 6 rfl) ?_
          refine x_max C hl tw5_76 tw2_108 tw1_8 tw2_109 (Nat.le_of_ble_eq_true rfl) (Nat.le_of_ble_eq_true rfl) dX5_findSurest_118 ?_
          refine x_putI C hX (fp_37_8 G) h tw4_91 dX5_findSurest_121 (fun H locs m8 h hX => ?_)
          refine i_iinc C (j := 5) (fun x10 => [(5, .int x10), (4, .int x9), (0, .ref (G.2.1 37)), (1, .int p1), (2, .int x1), (3, .int x2), (6, .int x8)]) h dX5_findSurest_124 hl rfl rfl (by decide) (fun _ => rfl) (fun x10 ls h hl => ?_)
          refine i_goto (tgt := 25) C dX5_findSurest_127 (by decide) ?_
          exact ih _ _ _ _ _ _ h (lv_sub hl [2, 3, 4, 5, 1, 0] rfl) hX
        refine i_icmp_le (tgt := 107) C h dX5_findSurest_99 (by decide) (fun _ h => ?_) (fun _ h => ?_)
        · refine i_iload C dX5_findSurest_107 (lv_at hl 4 rfl) ?_
          exact J2 _ h _ _ _ (lv_sub hl [0, 1, 2, 3, 5, 6] rfl) hX
        refine i_iload C dX5_findSurest_102 (lv_at hl 5 rfl) ?_
        refine i_goto (tgt := 109) C dX5_findSurest_104 (by decide) ?_
        exact J2 _ h _ _ _ (lv_sub hl [0, 1, 2, 3, 5, 6] rfl) hX
      have L1 : ∀ (fu : Nat) (x11 : Int32) (x12 : Int32) (m9 : MM) (H : Heap) (locs : List Loc) (ls : Array Slot), L_X5_findSurest_50 p1 k3 fu x11 x12 m9 = some (r, m) → lv_has ls 8 [(0, .ref (G.2.1 37)), (1, .int p1), (2, .int x1), (3, .int x2), (4, .int x5), (5, .int x6), (6, .int x11), (7, .int x12)] → XW G A (gs Γ) H locs m9 → WX Γ H locs 50 ls [] := by
        intro fu
        induction fu with
        | zero =>
          intro x11 x12 m9 H locs ls h
          rw [L_X5_findSurest_50] at h
          cases h
        | succ fu ih =>
          intro x11 x12 m9 H locs ls h hl hX
          rw [L_X5_findSurest_50] at h
          refine i_iload C dX5_findSurest_50 (lv_at hl 7 rfl) ?_
          refine i_bipush (v := 8) C dX5_findSurest_52 rfl ?_
          refine i_icmp_ge (tgt := 93) C h dX5_findSurest_54 (by decide) (fun _ h => ?_) (fun _ h => ?_)
          · exact J3 _ _ h _ _ _ (lv_sub hl [0, 1, 2, 3, 4, 5, 6] rfl) hX
          refine i_aload_n C dX5_findSurest_57 rfl (lv_at hl 0 rfl) ?_
          refine x_get C hX (fg_37_0 G) tw4_83 dX5_findSurest_58 ?_
          refine i_iconst (v := 2) C dX5_findSurest_61 rfl ?_
          refine i_iload C dX5_findSurest_62 (lv_at hl 7 rfl) ?_
          refine x_iast C hX (ai_38 G) h dX5_findSurest_64 (fun H locs m10 h hX => ?_)
          refine i_iload C dX5_findSurest_65 (lv_at hl 6 rfl) ?_
          refine i_aload_n C dX5_findSurest_67 rfl (lv_at hl 0 rfl) ?_
          refine i_iload_n C dX5_findSurest_68 rfl (lv_at hl 1 rfl) ?_
          refine i_bipush (v := 60) C dX5_findSurest_69 rfl ?_
          obtain ⟨x13, m11, e4, h⟩ := w_bdw h
          refine x_callVi C hX (fg_37_0 G) (c_X5_landsIn (gl Γ) G  e4) [.int x11] rfl hl tw5_100 tw5_102 ts3_5 tw1_7 tw5_103 rfl nd_X5_landsIn ⟨(Nat.le_of_ble_eq_true rfl), (Nat.le_of_ble_eq_true rfl)⟩ (Nat.le_of_ble_eq_true rfl) dX5_findSurest_71 (fun H locs hX => ?_)
          refine i_ldc C tw5_104 dX5_findSurest_74 ?_
          refine w_jn1 (fun (x14 : Int32) => ∀ (H : Heap) (locs : List Loc) (ls : Array Slot), lv_has ls 8 [(0, .ref (G.2.1 37)), (1, .int p1), (2, .int x1), (3, .int x2), (4, .int x5), (5, .int x6), (7, .int x12)] → XW G A (gs Γ) H locs m11 → WX Γ H locs 84 ls [.int x14, .int x11]) h (fun x14 h H locs ls hl hX => ?_) (fun k4 J4 h => ?_)
          · refine i_iadd C dX5_findSurest_84 ?_
            refine i_istoreL C (fun x15 => [(6, .int x15), (0, .ref (G.2.1 37)), (1, .int p1), (2, .int x1), (3, .int x2), (4, .int x5), (5, .int x6), (7, .int x12)]) h dX5_findSurest_85 hl (by decide) (fun _ => rfl) (fun x15 ls h hl => ?_)
            refine i_iinc C (j := 7) (fun x16 => [(7, .int x16), (6, .int x15), (0, .ref (G.2.1 37)), (1, .int p1), (2, .int x1), (3, .int x2), (4, .int x5), (5, .int x6)]) h dX5_findSurest_87 hl rfl rfl (by decide) (fun _ => rfl) (fun x16 ls h hl => ?_)
            refine i_goto (tgt := 50) C dX5_findSurest_90 (by decide) ?_
            exact ih _ _ _ _ _ _ h (lv_sub hl [2, 3, 4, 5, 6, 7, 1, 0] rfl) hX
          refine i_icmp_ne (tgt := 83) C h dX5_findSurest_76 (by decide) (fun _ h => ?_) (fun _ h => ?_)
          · refine i_iconst (v := 1) C dX5_findSurest_83 rfl ?_
            exact J4 _ h _ _ _ (lv_sub hl [0, 1, 2, 3, 4, 5, 7] rfl) hX
          refine i_iconst (v := 0) C dX5_findSurest_79 rfl ?_
          refine i_goto (tgt := 84) C dX5_findSurest_80 (by decide) ?_
          exact J4 _ h _ _ _ (lv_sub hl [0, 1, 2, 3, 4, 5, 7] rfl) hX
      exact L1 FU _ _ _ _ _ _ h (lv_sub hl [2, 3, 4, 5, 6, 7, 1, 0] rfl) hX
  exact L2 FU _ _ _ _ _ _ h (lv_sub hl [4, 5, 3, 2, 1, 0] rfl) hX
def f_X5_surest (p1 : Int32) (μ : MM) : Option (Int32 × MM) := bdr (f_X5_isShip p1) fun x1 => if x1 = 0 then (bdw (f_X5_finding (-1000001) μ) fun x2 m1 => some (x2, m1)) else (bdw (f_X5_findSurest p1 μ) fun x3 m2 => some (x3, m2))
theorem nd_X5_surest : yX5_surest.cls ≠ "java/lang/invoke/MethodHandle" ∧ yX5_surest.cls ≠ "java/lang/invoke/VarHandle" ∧ (parseMethodDescriptor yX5_surest.desc).map (fun d => d.parameters.length) = some 1 := by decide +kernel
set_option maxHeartbeats 4000000 in
set_option maxRecDepth 100000 in
theorem c_X5_surest (l : Launch) (G : EN)  {p1 : Int32} {μ : MM} {r : Int32} {m : MM} (h : f_X5_surest p1 μ = some (r, m)) : XM l G yX5_surest cX5_surest 2 (some .int) 10 229 [.ref (G.2.1 37), .int p1] μ (some (.int r)) m := by
  refine x_met (own := RX5) (by decide +kernel) rfl (Nat.le_of_ble_eq_true rfl) (fun Γ A H ls hg C hr hX hQ hl => ?_)
  have hl : lv_has ls 2 [(0, .ref (G.2.1 37)), (1, .int p1)] := hl
  unfold f_X5_surest at h
  refine i_iload_n C dX5_surest_0 rfl (lv_at hl 1 rfl) ?_
  obtain ⟨x1, e1, h⟩ := w_bdr h
  refine x_callSi C hX (c_X5_isShip (gl Γ) G  e1) [] rfl hl tw4_216 tw4_217 tw1_7 tw4_218 nd_X5_isShip ⟨(Nat.le_of_ble_eq_true rfl), (Nat.le_of_ble_eq_true rfl)⟩ (Nat.le_of_ble_eq_true rfl) dX5_surest_1 (fun H locs hX => ?_)
  refine i_if_eq (tgt := 15) C h dX5_surest_4 (by decide) (fun _ h => ?_) (fun _ h => ?_)
  · refine i_aload_n C dX5_surest_15 rfl (lv_at hl 0 rfl) ?_
    refine i_ldc C tw4_172 dX5_surest_16 ?_
    obtain ⟨x2, m1, e2, h⟩ := w_bdw h
    refine x_callVi C hX (fg_37_0 G) (c_X5_finding (gl Γ) G  e2) [] rfl hl tw4_173 tw4_175 ts1_15 tw1_7 tw4_176 rfl nd_X5_finding ⟨(Nat.le_of_ble_eq_true rfl), (Nat.le_of_ble_eq_true rfl)⟩ (Nat.le_of_ble_eq_true rfl) dX5_surest_18 (fun H locs hX => ?_)
    exact x_iretW C hX hr hQ h dX5_surest_21
  refine i_aload_n C dX5_surest_7 rfl (lv_at hl 0 rfl) ?_
  refine i_iload_n C dX5_surest_8 rfl (lv_at hl 1 rfl) ?_
  obtain ⟨x3, m2, e3, h⟩ := w_bdw h
  refine x_callVi C hX (fg_37_0 G) (c_X5_findSurest (gl Γ) G  e3) [] rfl hl tw5_158 tw5_160 ts3_12 tw1_7 tw5_161 rfl nd_X5_findSurest ⟨(Nat.le_of_ble_eq_true rfl), (Nat.le_of_ble_eq_true rfl)⟩ (Nat.le_of_ble_eq_true rfl) dX5_surest_9 (fun H locs hX => ?_)
  refine i_goto (tgt := 21) C dX5_surest_12 (by decide) ?_
  exact x_iretW C hX hr hQ h dX5_surest_21
def f_X5_winds (p1 : Int32) (μ : MM) : Option (Int32 × MM) := bdr (f_X5_isShip p1) fun x1 => if x1 = 0 then (bdw (f_X5_finding (-1000001) μ) fun x3 m2 => some (x3, m2)) else (bdw (f_X5_findSurest p1 μ) fun x2 m1 => if 0 ≤ x2 then (some ((m1 37 8), m1)) else (some (0, m1)))
theorem nd_X5_winds : yX5_winds.cls ≠ "java/lang/invoke/MethodHandle" ∧ yX5_winds.cls ≠ "java/lang/invoke/VarHandle" ∧ (parseMethodDescriptor yX5_winds.desc).map (fun d => d.parameters.length) = some 1 := by decide +kernel
set_option maxHeartbeats 4000000 in
set_option maxRecDepth 100000 in
theorem c_X5_winds (l : Launch) (G : EN)  {p1 : Int32} {μ : MM} {r : Int32} {m : MM} (h : f_X5_winds p1 μ = some (r, m)) : XM l G yX5_winds cX5_winds 2 (some .int) 10 229 [.ref (G.2.1 37), .int p1] μ (some (.int r)) m := by
  refine x_met (own := RX5) (by decide +kernel) rfl (Nat.le_of_ble_eq_true rfl) (fun Γ A H ls hg C hr hX hQ hl => ?_)
  have hl : lv_has ls 2 [(0, .ref (G.2.1 37)), (1, .int p1)] := hl
  unfold f_X5_winds at h
  refine i_iload_n C dX5_winds_0 rfl (lv_at hl 1 rfl) ?_
  obtain ⟨x1, e1, h⟩ := w_bdr h
  refine x_callSi C hX (c_X5_isShip (gl Γ) G  e1) [] rfl hl tw4_216 tw4_217 tw1_7 tw4_218 nd_X5_isShip ⟨(Nat.le_of_ble_eq_true rfl), (Nat.le_of_ble_eq_true rfl)⟩ (Nat.le_of_ble_eq_true rfl) dX5_winds_1 (fun H locs hX => ?_)
  refine i_if_ne (tgt := 14) C h dX5_winds_4 (by decide) (fun _ h => ?_) (fun _ h => ?_)
  · refine i_aload_n C dX5_winds_14 rfl (lv_at hl 0 rfl) ?_
    refine i_iload_n C dX5_winds_15 rfl (lv_at hl 1 rfl) ?_
    obtain ⟨x2, m1, e2, h⟩ := w_bdw h
    refine x_callVi C hX (fg_37_0 G) (c_X5_findSurest (gl Γ) G  e2) [] rfl hl tw5_158 tw5_160 ts3_12 tw1_7 tw5_161 rfl nd_X5_findSurest ⟨(Nat.le_of_ble_eq_true rfl), (Nat.le_of_ble_eq_true rfl)⟩ (Nat.le_of_ble_eq_true rfl) dX5_winds_16 (fun H locs hX => ?_)
    refine i_if_ge (tgt := 26) C h dX5_winds_19 (by decide) (fun _ h => ?_) (fun _ h => ?_)
    · refine i_aload_n C dX5_winds_26 rfl (lv_at hl 0 rfl) ?_
      refine x_get C hX (fg_37_8 G) tw4_91 dX5_winds_27 ?_
      exact x_iretW C hX hr hQ h dX5_winds_30
    refine i_iconst (v := 0) C dX5_winds_22 rfl ?_
    refine i_goto (tgt := 30) C dX5_winds_23 (by decide) ?_
    exact x_iretW C hX hr hQ h dX5_winds_30
  refine i_aload_n C dX5_winds_7 rfl (lv_at hl 0 rfl) ?_
  refine i_ldc C tw4_172 dX5_winds_8 ?_
  obtain ⟨x3, m2, e3, h⟩ := w_bdw h
  refine x_callVi C hX (fg_37_0 G) (c_X5_finding (gl Γ) G  e3) [] rfl hl tw4_173 tw4_175 ts1_15 tw1_7 tw4_176 rfl nd_X5_finding ⟨(Nat.le_of_ble_eq_true rfl), (Nat.le_of_ble_eq_true rfl)⟩ (Nat.le_of_ble_eq_true rfl) dX5_winds_10 (fun H locs hX => ?_)
  exact x_iretW C hX hr hQ h dX5_winds_13
def f_X5_windFor (p1 : Int32) (μ : MM) : Option (Int32 × MM) := bdr (f_X5_isShip p1) fun x1 => if x1 = 0 then (bdw (f_X5_finding (-1000001) μ) fun x2 m1 => some (x2, m1)) else (bdw (f_X5_soonestWith 2 8 p1 μ) fun x3 m2 => bdw (f_X5_orNone x3 m2) fun x4 m3 => some (x4, m3))
theorem nd_X5_windFor : yX5_windFor.cls ≠ "java/lang/invoke/MethodHandle" ∧ yX5_windFor.cls ≠ "java/lang/invoke/VarHandle" ∧ (parseMethodDescriptor yX5_windFor.desc).map (fun d => d.parameters.length) = some 1 := by decide +kernel
set_option maxHeartbeats 4000000 in
set_option maxRecDepth 100000 in
theorem c_X5_windFor (l : Launch) (G : EN)  {p1 : Int32} {μ : MM} {r : Int32} {m : MM} (h : f_X5_windFor p1 μ = some (r, m)) : XM l G yX5_windFor cX5_windFor 2 (some .int) 10 229 [.ref (G.2.1 37), .int p1] μ (some (.int r)) m := by
  refine x_met (own := RX5) (by decide +kernel) rfl (Nat.le_of_ble_eq_true rfl) (fun Γ A H ls hg C hr hX hQ hl => ?_)
  have hl : lv_has ls 2 [(0, .ref (G.2.1 37)), (1, .int p1)] := hl
  unfold f_X5_windFor at h
  refine i_iload_n C dX5_windFor_0 rfl (lv_at hl 1 rfl) ?_
  obtain ⟨x1, e1, h⟩ := w_bdr h
  refine x_callSi C hX (c_X5_isShip (gl Γ) G  e1) [] rfl hl tw4_216 tw4_217 tw1_7 tw4_218 nd_X5_isShip ⟨(Nat.le_of_ble_eq_true rfl), (Nat.le_of_ble_eq_true rfl)⟩ (Nat.le_of_ble_eq_true rfl) dX5_windFor_1 (fun H locs hX => ?_)
  refine i_if_eq (tgt := 22) C h dX5_windFor_4 (by decide) (fun _ h => ?_) (fun _ h => ?_)
  · refine i_aload_n C dX5_windFor_22 rfl (lv_at hl 0 rfl) ?_
    refine i_ldc C tw4_172 dX5_windFor_23 ?_
    obtain ⟨x2, m1, e2, h⟩ := w_bdw h
    refine x_callVi C hX (fg_37_0 G) (c_X5_finding (gl Γ) G  e2) [] rfl hl tw4_173 tw4_175 ts1_15 tw1_7 tw4_176 rfl nd_X5_finding ⟨(Nat.le_of_ble_eq_true rfl), (Nat.le_of_ble_eq_true rfl)⟩ (Nat.le_of_ble_eq_true rfl) dX5_windFor_25 (fun H locs hX => ?_)
    exact x_iretW C hX hr hQ h dX5_windFor_28
  refine i_aload_n C dX5_windFor_7 rfl (lv_at hl 0 rfl) ?_
  refine i_aload_n C dX5_windFor_8 rfl (lv_at hl 0 rfl) ?_
  refine i_iconst (v := 2) C dX5_windFor_9 rfl ?_
  refine i_bipush (v := 8) C dX5_windFor_10 rfl ?_
  refine i_iload_n C dX5_windFor_12 rfl (lv_at hl 1 rfl) ?_
  obtain ⟨x3, m2, e3, h⟩ := w_bdw h
  refine x_callVi C hX (fg_37_0 G) (c_X5_soonestWith (gl Γ) G  e3) [.ref (G.2.1 37)] rfl hl tw5_138 tw5_140 ts3_10 tw1_7 tw5_141 rfl nd_X5_soonestWith ⟨(Nat.le_of_ble_eq_true rfl), (Nat.le_of_ble_eq_true rfl)⟩ (Nat.le_of_ble_eq_true rfl) dX5_windFor_13 (fun H locs hX => ?_)
  obtain ⟨x4, m3, e4, h⟩ := w_bdw h
  refine x_callVi C hX (fg_37_0 G) (c_X5_orNone (gl Γ) G  e4) [] rfl hl tw5_142 tw5_144 ts3_11 tw1_7 tw5_145 rfl nd_X5_orNone ⟨(Nat.le_of_ble_eq_true rfl), (Nat.le_of_ble_eq_true rfl)⟩ (Nat.le_of_ble_eq_true rfl) dX5_windFor_16 (fun H locs hX => ?_)
  refine i_goto (tgt := 28) C dX5_windFor_19 (by decide) ?_
  exact x_iretW C hX hr hQ h dX5_windFor_28
def L_X5_findCrew_4 (p1 : Int32) (μ : MM) : Nat → Int32 → Int32 → Option Int32
  | 0, _, _ => none
  | fu + 1, x1, x2 => ldi μ 38 152 4 fun x3 => if (sl 1 x3) ≤ x2 then (some x1) else (jn1 (fun (x4 : Int32) => bdr (f_X5_bits x2) fun x5 => jn1 (fun (x6 : Int32) => lt_ (x2 + 1) fun x7 => L_X5_findCrew_4 p1 μ fu x6 x7) fun k1 => jn0 (k1 x1) fun k2 => if x5 = p1 then (if x4 = 0 then (k2) else (k1 x2)) else (k2)) fun k3 => jn0 (k3 1) fun k4 => if x1 < 0 then (k4) else (bdr (f_X5_meanOf x2 μ) fun x8 => bdr (f_X5_meanOf x1 μ) fun x9 => if (iabs x9) ≤ (iabs x8) then (k3 0) else (k4)))
def f_X5_findCrew (p1 : Int32) (μ : MM) : Option Int32 := L_X5_findCrew_4 p1 μ FU (-1) 0
theorem nd_X5_findCrew : yX5_findCrew.cls ≠ "java/lang/invoke/MethodHandle" ∧ yX5_findCrew.cls ≠ "java/lang/invoke/VarHandle" ∧ (parseMethodDescriptor yX5_findCrew.desc).map (fun d => d.parameters.length) = some 1 := by decide +kernel
set_option maxHeartbeats 4000000 in
set_option maxRecDepth 100000 in
theorem c_X5_findCrew (l : Launch) (G : EN)  {p1 : Int32} {μ : MM} {r : Int32} (h : f_X5_findCrew p1 μ = some r) : XM l G yX5_findCrew cX5_findCrew 5 (some .int) 4 92 [.ref (G.2.1 37), .int p1] μ (some (.int r)) μ := by
  refine x_met (own := RX5) (by decide +kernel) rfl (Nat.le_of_ble_eq_true rfl) (fun Γ A H ls hg C hr hX hQ hl => ?_)
  have hl : lv_has ls 5 [(0, .ref (G.2.1 37)), (1, .int p1)] := hl
  unfold f_X5_findCrew at h
  refine i_iconst (v := (-1)) C dX5_findCrew_0 rfl ?_
  refine i_istore_n C [(2, .int (-1)), (0, .ref (G.2.1 37)), (1, .int p1)] dX5_findCrew_1 rfl hl (by decide) rfl (fun ls hl => ?_)
  refine i_iconst (v := 0) C dX5_findCrew_2 rfl ?_
  refine i_istore_n C [(3, .int 0), (2, .int (-1)), (0, .ref (G.2.1 37)), (1, .int p1)] dX5_findCrew_3 rfl hl (by decide) rfl (fun ls hl => ?_)
  have L1 : ∀ (fu : Nat) (x1 : Int32) (x2 : Int32) (H : Heap) (locs : List Loc) (ls : Array Slot), L_X5_findCrew_4 p1 μ fu x1 x2 = some r → lv_has ls 5 [(0, .ref (G.2.1 37)), (1, .int p1), (2, .int x1), (3, .int x2)] → XW G A (gs Γ) H locs μ → WX Γ H locs 4 ls [] := by
    intro fu
    induction fu with
    | zero =>
      intro x1 x2 H locs ls h
      rw [L_X5_findCrew_4] at h
      cases h
    | succ fu ih =>
      intro x1 x2 H locs ls h hl hX
      rw [L_X5_findCrew_4] at h
      refine i_iload_n C dX5_findCrew_4 rfl (lv_at hl 3 rfl) ?_
      refine i_iconst (v := 1) C dX5_findCrew_5 rfl ?_
      refine i_aload_n C dX5_findCrew_6 rfl (lv_at hl 0 rfl) ?_
      refine x_get C hX (fg_37_0 G) tw4_83 dX5_findCrew_7 ?_
      refine i_iconst (v := 4) C dX5_findCrew_10 rfl ?_
      refine x_iald C hX (ai_38 G) h dX5_findCrew_11 (fun x3 h => ?_)
      refine i_ishl C dX5_findCrew_12 ?_
      refine i_icmp_ge (tgt := 71) C h dX5_findCrew_13 (by decide) (fun _ h => ?_) (fun _ h => ?_)
      · refine i_iload_n C dX5_findCrew_71 rfl (lv_at hl 2 rfl) ?_
        exact x_iretR C hX hr hQ h dX5_findCrew_72
      refine i_iload_n C dX5_findCrew_16 rfl (lv_at hl 2 rfl) ?_
      refine w_jn1 (fun (x4 : Int32) => ∀ (H : Heap) (locs : List Loc) (ls : Array Slot), lv_has ls 5 [(0, .ref (G.2.1 37)), (1, .int p1), (2, .int x1), (3, .int x2)] → XW G A (gs Γ) H locs μ → WX Γ H locs 44 ls [.int x4]) h (fun x4 h H locs ls hl hX => ?_) (fun k3 J3 h => ?_)
      · refine i_istore C [(4, .int x4), (0, .ref (G.2.1 37)), (1, .int p1), (2, .int x1), (3, .int x2)] dX5_findCrew_44 hl (by decide) rfl (fun ls hl => ?_)
        refine i_iload_n C dX5_findCrew_46 rfl (lv_at hl 4 rfl) ?_
        obtain ⟨x5, e1, h⟩ := w_bdr h
        refine x_callSi C hX (c_X5_bits (gl Γ) G  e1) [] rfl hl tw4_234 tw4_235 tw1_7 tw4_236 nd_X5_bits ⟨(Nat.le_of_ble_eq_true rfl), (Nat.le_of_ble_eq_true rfl)⟩ (Nat.le_of_ble_eq_true rfl) dX5_findCrew_47 (fun H locs hX => ?_)
        refine i_iload_n C dX5_findCrew_50 rfl (lv_at hl 2 rfl) ?_
        refine w_jn1 (fun (x6 : Int32) => ∀ (H : Heap) (locs : List Loc) (ls : Array Slot), lv_has ls 5 [(0, .ref (G.2.1 37)), (1, .int p1), (3, .int x2)] → XW G A (gs Γ) H locs μ → WX Γ H locs 64 ls [.int x6]) h (fun x6 h H locs ls hl hX => ?_) (fun k1 J1 h => ?_)
        · refine i_istore_n C [(2, .int x6), (0, .ref (G.2.1 37)), (1, .int p1), (3, .int x2)] dX5_findCrew_64 rfl hl (by decide) rfl (fun ls hl => ?_)
          refine i_iinc C (j := 3) (fun x7 => [(3, .int x7), (2, .int x6), (0, .ref (G.2.1 37)), (1, .int p1)]) h dX5_findCrew_65 hl rfl rfl (by decide) (fun _ => rfl) (fun x7 ls h hl => ?_)
          refine i_goto (tgt := 4) C dX5_findCrew_68 (by decide) ?_
          exact ih _ _ _ _ _ h (lv_sub hl [2, 3, 1, 0] rfl) hX
        refine w_jn0 (∀ (H : Heap) (locs : List Loc) (ls : Array Slot), lv_has ls 5 [(0, .ref (G.2.1 37)), (1, .int p1), (2, .int x1), (3, .int x2)] → XW G A (gs Γ) H locs μ → WX Γ H locs 63 ls []) h (fun  h H locs ls hl hX => ?_) (fun k2 J2 h => ?_)
        · refine i_iload_n C dX5_findCrew_63 rfl (lv_at hl 2 rfl) ?_
          exact J1 _ h _ _ _ (lv_sub hl [0, 1, 3] rfl) hX
        refine i_icmp_ne (tgt := 63) C h dX5_findCrew_51 (by decide) (fun _ h => ?_) (fun _ h => ?_)
        · exact J2 h _ _ _ (lv_sub hl [1, 2, 3, 4] rfl) hX
        refine i_iload C dX5_findCrew_54 (lv_at hl 0 rfl) ?_
        refine i_if_eq (tgt := 63) C h dX5_findCrew_56 (by decide) (fun _ h => ?_) (fun _ h => ?_)
        · exact J2 h _ _ _ (lv_sub hl [1, 2, 3, 4] rfl) hX
        refine i_iload_n C dX5_findCrew_59 rfl (lv_at hl 4 rfl) ?_
        refine i_goto (tgt := 64) C dX5_findCrew_60 (by decide) ?_
        exact J1 _ h _ _ _ (lv_sub hl [1, 2, 4] rfl) hX
      refine w_jn0 (∀ (H : Heap) (locs : List Loc) (ls : Array Slot), lv_has ls 5 [(0, .ref (G.2.1 37)), (1, .int p1), (2, .int x1), (3, .int x2)] → XW G A (gs Γ) H locs μ → WX Γ H locs 39 ls []) h (fun  h H locs ls hl hX => ?_) (fun k4 J4 h => ?_)
      · refine i_iconst (v := 1) C dX5_findCrew_39 rfl ?_
        refine i_goto (tgt := 44) C dX5_findCrew_40 (by decide) ?_
        exact J3 _ h _ _ _ (lv_sub hl [0, 1, 2, 3] rfl) hX
      refine i_if_lt (tgt := 39) C h dX5_findCrew_17 (by decide) (fun _ h => ?_) (fun _ h => ?_)
      · exact J4 h _ _ _ (lv_sub hl [0, 1, 2, 3] rfl) hX
      refine i_aload_n C dX5_findCrew_20 rfl (lv_at hl 0 rfl) ?_
      refine i_iload_n C dX5_findCrew_21 rfl (lv_at hl 3 rfl) ?_
      obtain ⟨x8, e2, h⟩ := w_bdr h
      refine x_callVi C hX (fg_37_0 G) (c_X5_meanOf (gl Γ) G  e2) [] rfl hl tw4_230 tw4_232 ts2_7 tw1_7 tw4_233 rfl nd_X5_meanOf ⟨(Nat.le_of_ble_eq_true rfl), (Nat.le_of_ble_eq_true rfl)⟩ (Nat.le_of_ble_eq_true rfl) dX5_findCrew_22 (fun H locs hX => ?_)
      refine x_abs C hl tw5_178 tw2_204 tw1_8 tw2_205 (Nat.le_of_ble_eq_true rfl) (Nat.le_of_ble_eq_true rfl) dX5_findCrew_25 ?_
      refine i_aload_n C dX5_findCrew_28 rfl (lv_at hl 0 rfl) ?_
      refine i_iload_n C dX5_findCrew_29 rfl (lv_at hl 2 rfl) ?_
      obtain ⟨x9, e3, h⟩ := w_bdr h
      refine x_callVi C hX (fg_37_0 G) (c_X5_meanOf (gl Γ) G  e3) [.int (iabs x8)] rfl hl tw4_230 tw4_232 ts2_7 tw1_7 tw4_233 rfl nd_X5_meanOf ⟨(Nat.le_of_ble_eq_true rfl), (Nat.le_of_ble_eq_true rfl)⟩ (Nat.le_of_ble_eq_true rfl) dX5_findCrew_30 (fun H locs hX => ?_)
      refine x_abs C hl tw5_178 tw2_204 tw1_8 tw2_205 (Nat.le_of_ble_eq_true rfl) (Nat.le_of_ble_eq_true rfl) dX5_findCrew_33 ?_
      refine i_icmp_ge (tgt := 43) C h dX5_findCrew_36 (by decide) (fun _ h => ?_) (fun _ h => ?_)
      · refine i_iconst (v := 0) C dX5_findCrew_43 rfl ?_
        exact J3 _ h _ _ _ (lv_sub hl [0, 1, 2, 3] rfl) hX
      exact J4 h _ _ _ (lv_sub hl [0, 1, 2, 3] rfl) hX
  exact L1 FU _ _ _ _ _ h (lv_sub hl [2, 3, 1, 0] rfl) hX
def f_X5_crew (p1 : Int32) (μ : MM) : Option (Int32 × MM) := bdr (f_X5_within p1 1 8) fun x1 => if x1 = 0 then (bdw (f_X5_finding (-1000001) μ) fun x2 m1 => some (x2, m1)) else (bdr (f_X5_findCrew p1 μ) fun x3 => bdw (f_X5_orNone x3 μ) fun x4 m2 => some (x4, m2))
theorem nd_X5_crew : yX5_crew.cls ≠ "java/lang/invoke/MethodHandle" ∧ yX5_crew.cls ≠ "java/lang/invoke/VarHandle" ∧ (parseMethodDescriptor yX5_crew.desc).map (fun d => d.parameters.length) = some 1 := by decide +kernel
set_option maxHeartbeats 4000000 in
set_option maxRecDepth 100000 in
theorem c_X5_crew (l : Launch) (G : EN)  {p1 : Int32} {μ : MM} {r : Int32} {m : MM} (h : f_X5_crew p1 μ = some (r, m)) : XM l G yX5_crew cX5_crew 2 (some .int) 5 116 [.ref (G.2.1 37), .int p1] μ (some (.int r)) m := by
  refine x_met (own := RX5) (by decide +kernel) rfl (Nat.le_of_ble_eq_true rfl) (fun Γ A H ls hg C hr hX hQ hl => ?_)
  have hl : lv_has ls 2 [(0, .ref (G.2.1 37)), (1, .int p1)] := hl
  unfold f_X5_crew at h
  refine i_iload_n C dX5_crew_0 rfl (lv_at hl 1 rfl) ?_
  refine i_iconst (v := 1) C dX5_crew_1 rfl ?_
  refine i_bipush (v := 8) C dX5_crew_2 rfl ?_
  obtain ⟨x1, e1, h⟩ := w_bdr h
  refine x_callSi C hX (c_X5_within (gl Γ) G  e1) [] rfl hl tw4_169 tw4_170 tw1_7 tw4_171 nd_X5_within ⟨(Nat.le_of_ble_eq_true rfl), (Nat.le_of_ble_eq_true rfl)⟩ (Nat.le_of_ble_eq_true rfl) dX5_crew_4 (fun H locs hX => ?_)
  refine i_if_eq (tgt := 22) C h dX5_crew_7 (by decide) (fun _ h => ?_) (fun _ h => ?_)
  · refine i_aload_n C dX5_crew_22 rfl (lv_at hl 0 rfl) ?_
    refine i_ldc C tw4_172 dX5_crew_23 ?_
    obtain ⟨x2, m1, e2, h⟩ := w_bdw h
    refine x_callVi C hX (fg_37_0 G) (c_X5_finding (gl Γ) G  e2) [] rfl hl tw4_173 tw4_175 ts1_15 tw1_7 tw4_176 rfl nd_X5_finding ⟨(Nat.le_of_ble_eq_true rfl), (Nat.le_of_ble_eq_true rfl)⟩ (Nat.le_of_ble_eq_true rfl) dX5_crew_25 (fun H locs hX => ?_)
    exact x_iretW C hX hr hQ h dX5_crew_28
  refine i_aload_n C dX5_crew_10 rfl (lv_at hl 0 rfl) ?_
  refine i_aload_n C dX5_crew_11 rfl (lv_at hl 0 rfl) ?_
  refine i_iload_n C dX5_crew_12 rfl (lv_at hl 1 rfl) ?_
  obtain ⟨x3, e3, h⟩ := w_bdr h
  refine x_callVi C hX (fg_37_0 G) (c_X5_findCrew (gl Γ) G  e3) [.ref (G.2.1 37)] rfl hl tw5_174 tw5_176 ts3_13 tw1_7 tw5_177 rfl nd_X5_findCrew ⟨(Nat.le_of_ble_eq_true rfl), (Nat.le_of_ble_eq_true rfl)⟩ (Nat.le_of_ble_eq_true rfl) dX5_crew_13 (fun H locs hX => ?_)
  obtain ⟨x4, m2, e4, h⟩ := w_bdw h
  refine x_callVi C hX (fg_37_0 G) (c_X5_orNone (gl Γ) G  e4) [] rfl hl tw5_142 tw5_144 ts3_11 tw1_7 tw5_145 rfl nd_X5_orNone ⟨(Nat.le_of_ble_eq_true rfl), (Nat.le_of_ble_eq_true rfl)⟩ (Nat.le_of_ble_eq_true rfl) dX5_crew_16 (fun H locs hX => ?_)
  refine i_goto (tgt := 28) C dX5_crew_19 (by decide) ?_
  exact x_iretW C hX hr hQ h dX5_crew_28
def f_X5_mean (p1 : Int32) (μ : MM) : Option (Int32 × MM) := bdr (f_X5_within p1 1 8) fun x1 => if x1 = 0 then (bdw (f_X5_finding (-1000001) μ) fun x5 m2 => some (x5, m2)) else (bdr (f_X5_findCrew p1 μ) fun x2 => if 0 ≤ x2 then (bdr (f_X5_meanOf x2 μ) fun x3 => some (x3, μ)) else (bdw (f_X5_finding (-1000004) μ) fun x4 m1 => some (x4, m1)))
theorem nd_X5_mean : yX5_mean.cls ≠ "java/lang/invoke/MethodHandle" ∧ yX5_mean.cls ≠ "java/lang/invoke/VarHandle" ∧ (parseMethodDescriptor yX5_mean.desc).map (fun d => d.parameters.length) = some 1 := by decide +kernel
set_option maxHeartbeats 4000000 in
set_option maxRecDepth 100000 in
theorem c_X5_mean (l : Launch) (G : EN)  {p1 : Int32} {μ : MM} {r : Int32} {m : MM} (h : f_X5_mean p1 μ = some (r, m)) : XM l G yX5_mean cX5_mean 3 (some .int) 5 116 [.ref (G.2.1 37), .int p1] μ (some (.int r)) m := by
  refine x_met (own := RX5) (by decide +kernel) rfl (Nat.le_of_ble_eq_true rfl) (fun Γ A H ls hg C hr hX hQ hl => ?_)
  have hl : lv_has ls 3 [(0, .ref (G.2.1 37)), (1, .int p1)] := hl
  unfold f_X5_mean at h
  refine i_iload_n C dX5_mean_0 rfl (lv_at hl 1 rfl) ?_
  refine i_iconst (v := 1) C dX5_mean_1 rfl ?_
  refine i_bipush (v := 8) C dX5_mean_2 rfl ?_
  obtain ⟨x1, e1, h⟩ := w_bdr h
  refine x_callSi C hX (c_X5_within (gl Γ) G  e1) [] rfl hl tw4_169 tw4_170 tw1_7 tw4_171 nd_X5_within ⟨(Nat.le_of_ble_eq_true rfl), (Nat.le_of_ble_eq_true rfl)⟩ (Nat.le_of_ble_eq_true rfl) dX5_mean_4 (fun H locs hX => ?_)
  refine i_if_ne (tgt := 17) C h dX5_mean_7 (by decide) (fun _ h => ?_) (fun _ h => ?_)
  · refine i_aload_n C dX5_mean_17 rfl (lv_at hl 0 rfl) ?_
    refine i_iload_n C dX5_mean_18 rfl (lv_at hl 1 rfl) ?_
    obtain ⟨x2, e2, h⟩ := w_bdr h
    refine x_callVi C hX (fg_37_0 G) (c_X5_findCrew (gl Γ) G  e2) [] rfl hl tw5_174 tw5_176 ts3_13 tw1_7 tw5_177 rfl nd_X5_findCrew ⟨(Nat.le_of_ble_eq_true rfl), (Nat.le_of_ble_eq_true rfl)⟩ (Nat.le_of_ble_eq_true rfl) dX5_mean_19 (fun H locs hX => ?_)
    refine i_istore_n C [(2, .int x2), (0, .ref (G.2.1 37)), (1, .int p1)] dX5_mean_22 rfl hl (by decide) rfl (fun ls hl => ?_)
    refine i_iload_n C dX5_mean_23 rfl (lv_at hl 0 rfl) ?_
    refine i_if_ge (tgt := 36) C h dX5_mean_24 (by decide) (fun _ h => ?_) (fun _ h => ?_)
    · refine i_aload_n C dX5_mean_36 rfl (lv_at hl 1 rfl) ?_
      refine i_iload_n C dX5_mean_37 rfl (lv_at hl 0 rfl) ?_
      obtain ⟨x3, e3, h⟩ := w_bdr h
      refine x_callVi C hX (fg_37_0 G) (c_X5_meanOf (gl Γ) G  e3) [] rfl hl tw4_230 tw4_232 ts2_7 tw1_7 tw4_233 rfl nd_X5_meanOf ⟨(Nat.le_of_ble_eq_true rfl), (Nat.le_of_ble_eq_true rfl)⟩ (Nat.le_of_ble_eq_true rfl) dX5_mean_38 (fun H locs hX => ?_)
      exact x_iretW C hX hr hQ h dX5_mean_41
    refine i_aload_n C dX5_mean_27 rfl (lv_at hl 1 rfl) ?_
    refine i_ldc C tw5_109 dX5_mean_28 ?_
    obtain ⟨x4, m1, e4, h⟩ := w_bdw h
    refine x_callVi C hX (fg_37_0 G) (c_X5_finding (gl Γ) G  e4) [] rfl hl tw4_173 tw4_175 ts1_15 tw1_7 tw4_176 rfl nd_X5_finding ⟨(Nat.le_of_ble_eq_true rfl), (Nat.le_of_ble_eq_true rfl)⟩ (Nat.le_of_ble_eq_true rfl) dX5_mean_30 (fun H locs hX => ?_)
    refine i_goto (tgt := 41) C dX5_mean_33 (by decide) ?_
    exact x_iretW C hX hr hQ h dX5_mean_41
  refine i_aload_n C dX5_mean_10 rfl (lv_at hl 0 rfl) ?_
  refine i_ldc C tw4_172 dX5_mean_11 ?_
  obtain ⟨x5, m2, e5, h⟩ := w_bdw h
  refine x_callVi C hX (fg_37_0 G) (c_X5_finding (gl Γ) G  e5) [] rfl hl tw4_173 tw4_175 ts1_15 tw1_7 tw4_176 rfl nd_X5_finding ⟨(Nat.le_of_ble_eq_true rfl), (Nat.le_of_ble_eq_true rfl)⟩ (Nat.le_of_ble_eq_true rfl) dX5_mean_13 (fun H locs hX => ?_)
  exact x_iretW C hX hr hQ h dX5_mean_16
def L_X5_better_30 (μ : MM) (x2 : Int32) : Nat → Int32 → Int32 → Int32 → Option (Int32 × MM)
  | 0, _, _, _ => none
  | fu + 1, x3, x4, x5 => ldi μ 38 152 4 fun x6 => if x6 ≤ x5 then (bdw (f_X5_orNone x3 μ) fun x7 m1 => some (x7, m1)) else (bdr (f_X5_meanOf (x2 ^^^ (sl 1 x5)) μ) fun x8 => lt_ ((iabs x8)) fun x9 => jn1 (fun (x10 : Int32) => lt_ ((imin x4 x9)) fun x11 => lt_ (x5 + 1) fun x12 => L_X5_better_30 μ x2 fu x10 x11 x12) fun k1 => if x4 ≤ x9 then (k1 x3) else (k1 x5))
def f_X5_better (p1 : Int32) (μ : MM) : Option (Int32 × MM) := bdr (f_X5_isShip p1) fun x1 => if x1 = 0 then (bdw (f_X5_finding (-1000001) μ) fun x13 m2 => some (x13, m2)) else (bdr (f_X5_shipIs p1 2 μ) fun x2 => L_X5_better_30 μ x2 FU (-1) 1000000 0)
theorem nd_X5_better : yX5_better.cls ≠ "java/lang/invoke/MethodHandle" ∧ yX5_better.cls ≠ "java/lang/invoke/VarHandle" ∧ (parseMethodDescriptor yX5_better.desc).map (fun d => d.parameters.length) = some 1 := by decide +kernel
set_option maxHeartbeats 4000000 in
set_option maxRecDepth 100000 in
theorem c_X5_better (l : Launch) (G : EN)  {p1 : Int32} {μ : MM} {r : Int32} {m : MM} (h : f_X5_better p1 μ = some (r, m)) : XM l G yX5_better cX5_better 7 (some .int) 4 92 [.ref (G.2.1 37), .int p1] μ (some (.int r)) m := by
  refine x_met (own := RX5) (by decide +kernel) rfl (Nat.le_of_ble_eq_true rfl) (fun Γ A H ls hg C hr hX hQ hl => ?_)
  have hl : lv_has ls 7 [(0, .ref (G.2.1 37)), (1, .int p1)] := hl
  unfold f_X5_better at h
  refine i_iload_n C dX5_better_0 rfl (lv_at hl 1 rfl) ?_
  obtain ⟨x1, e1, h⟩ := w_bdr h
  refine x_callSi C hX (c_X5_isShip (gl Γ) G  e1) [] rfl hl tw4_216 tw4_217 tw1_7 tw4_218 nd_X5_isShip ⟨(Nat.le_of_ble_eq_true rfl), (Nat.le_of_ble_eq_true rfl)⟩ (Nat.le_of_ble_eq_true rfl) dX5_better_1 (fun H locs hX => ?_)
  refine i_if_ne (tgt := 14) C h dX5_better_4 (by decide) (fun _ h => ?_) (fun _ h => ?_)
  · refine i_aload_n C dX5_better_14 rfl (lv_at hl 0 rfl) ?_
    refine i_iload_n C dX5_better_15 rfl (lv_at hl 1 rfl) ?_
    refine i_iconst (v := 2) C dX5_better_16 rfl ?_
    obtain ⟨x2, e2, h⟩ := w_bdr h
    refine x_callVi C hX (fg_37_0 G) (c_X5_shipIs (gl Γ) G  e2) [] rfl hl tw4_223 tw4_225 ts2_6 tw1_7 tw4_226 rfl nd_X5_shipIs ⟨(Nat.le_of_ble_eq_true rfl), (Nat.le_of_ble_eq_true rfl)⟩ (Nat.le_of_ble_eq_true rfl) dX5_better_17 (fun H locs hX => ?_)
    refine i_istore_n C [(2, .int x2), (0, .ref (G.2.1 37)), (1, .int p1)] dX5_better_20 rfl hl (by decide) rfl (fun ls hl => ?_)
    refine i_iconst (v := (-1)) C dX5_better_21 rfl ?_
    refine i_istore_n C [(3, .int (-1)), (2, .int x2), (0, .ref (G.2.1 37)), (1, .int p1)] dX5_better_22 rfl hl (by decide) rfl (fun ls hl => ?_)
    refine i_ldc C tw5_104 dX5_better_23 ?_
    refine i_istore C [(4, .int 1000000), (3, .int (-1)), (2, .int x2), (0, .ref (G.2.1 37)), (1, .int p1)] dX5_better_25 hl (by decide) rfl (fun ls hl => ?_)
    refine i_iconst (v := 0) C dX5_better_27 rfl ?_
    refine i_istore C [(5, .int 0), (4, .int 1000000), (3, .int (-1)), (2, .int x2), (0, .ref (G.2.1 37)), (1, .int p1)] dX5_better_28 hl (by decide) rfl (fun ls hl => ?_)
    have L1 : ∀ (fu : Nat) (x3 : Int32) (x4 : Int32) (x5 : Int32) (H : Heap) (locs : List Loc) (ls : Array Slot), L_X5_better_30 μ x2 fu x3 x4 x5 = some (r, m) → lv_has ls 7 [(0, .ref (G.2.1 37)), (2, .int x2), (3, .int x3), (4, .int x4), (5, .int x5)] → XW G A (gs Γ) H locs μ → WX Γ H locs 30 ls [] := by
      intro fu
      induction fu with
      | zero =>
        intro x3 x4 x5 H locs ls h
        rw [L_X5_better_30] at h
        cases h
      | succ fu ih =>
        intro x3 x4 x5 H locs ls h hl hX
        rw [L_X5_better_30] at h
        refine i_iload C dX5_better_30 (lv_at hl 4 rfl) ?_
        refine i_aload_n C dX5_better_32 rfl (lv_at hl 0 rfl) ?_
        refine x_get C hX (fg_37_0 G) tw4_83 dX5_better_33 ?_
        refine i_iconst (v := 4) C dX5_better_36 rfl ?_
        refine x_iald C hX (ai_38 G) h dX5_better_37 (fun x6 h => ?_)
        refine i_icmp_ge (tgt := 85) C h dX5_better_38 (by decide) (fun _ h => ?_) (fun _ h => ?_)
        · refine i_aload_n C dX5_better_85 rfl (lv_at hl 0 rfl) ?_
          refine i_iload_n C dX5_better_86 rfl (lv_at hl 2 rfl) ?_
          obtain ⟨x7, m1, e3, h⟩ := w_bdw h
          refine x_callVi C hX (fg_37_0 G) (c_X5_orNone (gl Γ) G  e3) [] rfl hl tw5_142 tw5_144 ts3_11 tw1_7 tw5_145 rfl nd_X5_orNone ⟨(Nat.le_of_ble_eq_true rfl), (Nat.le_of_ble_eq_true rfl)⟩ (Nat.le_of_ble_eq_true rfl) dX5_better_87 (fun H locs hX => ?_)
          exact x_iretW C hX hr hQ h dX5_better_90
        refine i_aload_n C dX5_better_41 rfl (lv_at hl 0 rfl) ?_
        refine i_iload_n C dX5_better_42 rfl (lv_at hl 1 rfl) ?_
        refine i_iconst (v := 1) C dX5_better_43 rfl ?_
        refine i_iload C dX5_better_44 (lv_at hl 4 rfl) ?_
        refine i_ishl C dX5_better_46 ?_
        refine i_ixor C dX5_better_47 ?_
        obtain ⟨x8, e4, h⟩ := w_bdr h
        refine x_callVi C hX (fg_37_0 G) (c_X5_meanOf (gl Γ) G  e4) [] rfl hl tw4_230 tw4_232 ts2_7 tw1_7 tw4_233 rfl nd_X5_meanOf ⟨(Nat.le_of_ble_eq_true rfl), (Nat.le_of_ble_eq_true rfl)⟩ (Nat.le_of_ble_eq_true rfl) dX5_better_48 (fun H locs hX => ?_)
        refine x_abs C hl tw5_178 tw2_204 tw1_8 tw2_205 (Nat.le_of_ble_eq_true rfl) (Nat.le_of_ble_eq_true rfl) dX5_better_51 ?_
        refine i_istoreL C (fun x9 => [(6, .int x9), (0, .ref (G.2.1 37)), (2, .int x2), (3, .int x3), (4, .int x4), (5, .int x5)]) h dX5_better_54 hl (by decide) (fun _ => rfl) (fun x9 ls h hl => ?_)
        refine i_iload C dX5_better_56 (lv_at hl 0 rfl) ?_
        refine i_iload C dX5_better_58 (lv_at hl 4 rfl) ?_
        refine w_jn1 (fun (x10 : Int32) => ∀ (H : Heap) (locs : List Loc) (ls : Array Slot), lv_has ls 7 [(0, .ref (G.2.1 37)), (2, .int x2), (4, .int x4), (5, .int x5), (6, .int x9)] → XW G A (gs Γ) H locs μ → WX Γ H locs 69 ls [.int x10]) h (fun x10 h H locs ls hl hX => ?_) (fun k1 J1 h => ?_)
        · refine i_istore_n C [(3, .int x10), (0, .ref (G.2.1 37)), (2, .int x2), (4, .int x4), (5, .int x5), (6, .int x9)] dX5_better_69 rfl hl (by decide) rfl (fun ls hl => ?_)
          refine i_iload C dX5_better_70 (lv_at hl 3 rfl) ?_
          refine i_iload C dX5_better_72 (lv_at hl 5 rfl) ?_
          refine x_min C hl tw5_59 tw1_231 tw1_8 tw1_232 (Nat.le_of_ble_eq_true rfl) (Nat.le_of_ble_eq_true rfl) dX5_better_74 ?_
          refine i_istoreL C (fun x11 => [(4, .int x11), (3, .int x10), (0, .ref (G.2.1 37)), (2, .int x2), (5, .int x5), (6, .int x9)]) h dX5_better_77 hl (by decide) (fun _ => rfl) (fun x11 ls h hl => ?_)
          refine i_iinc C (j := 4) (fun x12 => [(5, .int x12), (4, .int x11), (3, .int x10), (0, .ref (G.2.1 37)), (2, .int x2), (6, .int x9)]) h dX5_better_79 hl rfl rfl (by decide) (fun _ => rfl) (fun x12 ls h hl => ?_)
          refine i_goto (tgt := 30) C dX5_better_82 (by decide) ?_
          exact ih _ _ _ _ _ _ h (lv_sub hl [3, 4, 2, 1, 0] rfl) hX
        refine i_icmp_ge (tgt := 68) C h dX5_better_60 (by decide) (fun _ h => ?_) (fun _ h => ?_)
        · refine i_iload_n C dX5_better_68 rfl (lv_at hl 3 rfl) ?_
          exact J1 _ h _ _ _ (lv_sub hl [1, 2, 4, 5, 0] rfl) hX
        refine i_iload C dX5_better_63 (lv_at hl 5 rfl) ?_
        refine i_goto (tgt := 69) C dX5_better_65 (by decide) ?_
        exact J1 _ h _ _ _ (lv_sub hl [1, 2, 4, 5, 0] rfl) hX
    exact L1 FU _ _ _ _ _ _ h (lv_sub hl [4, 3, 2, 1, 0] rfl) hX
  refine i_aload_n C dX5_better_7 rfl (lv_at hl 0 rfl) ?_
  refine i_ldc C tw4_172 dX5_better_8 ?_
  obtain ⟨x13, m2, e5, h⟩ := w_bdw h
  refine x_callVi C hX (fg_37_0 G) (c_X5_finding (gl Γ) G  e5) [] rfl hl tw4_173 tw4_175 ts1_15 tw1_7 tw4_176 rfl nd_X5_finding ⟨(Nat.le_of_ble_eq_true rfl), (Nat.le_of_ble_eq_true rfl)⟩ (Nat.le_of_ble_eq_true rfl) dX5_better_10 (fun H locs hX => ?_)
  exact x_iretW C hX hr hQ h dX5_better_13
def f_X5_apart (p0 : Int32) (p1 : Int32) : Option Int32 := some ((iabs ((p0 / 10) - (p1 / 10))) + (iabs ((irm p0 10) - (irm p1 10))))
theorem nd_X5_apart : yX5_apart.cls ≠ "java/lang/invoke/MethodHandle" ∧ yX5_apart.cls ≠ "java/lang/invoke/VarHandle" ∧ (parseMethodDescriptor yX5_apart.desc).map (fun d => d.parameters.length) = some 2 := by decide +kernel
set_option maxHeartbeats 4000000 in
set_option maxRecDepth 100000 in
theorem c_X5_apart (l : Launch) (G : EN)  {p0 p1 : Int32} {μ : MM} {r : Int32} (h : f_X5_apart p0 p1 = some r) : XM l G yX5_apart cX5_apart 2 (some .int) 1 21 [.int p0, .int p1] μ (some (.int r)) μ := by
  refine x_met (own := RX5) (by decide +kernel) rfl (Nat.le_of_ble_eq_true rfl) (fun Γ A H ls hg C hr hX hQ hl => ?_)
  have hl : lv_has ls 2 [(0, .int p0), (1, .int p1)] := hl
  unfold f_X5_apart at h
  refine i_iload_n C dX5_apart_0 rfl (lv_at hl 0 rfl) ?_
  refine i_bipush (v := 10) C dX5_apart_1 rfl ?_
  refine i_idivc C dX5_apart_3 (by decide) ?_
  refine i_iload_n C dX5_apart_4 rfl (lv_at hl 1 rfl) ?_
  refine i_bipush (v := 10) C dX5_apart_5 rfl ?_
  refine i_idivc C dX5_apart_7 (by decide) ?_
  refine i_isub C dX5_apart_8 ?_
  refine x_abs C hl tw5_178 tw2_204 tw1_8 tw2_205 (Nat.le_of_ble_eq_true rfl) (Nat.le_of_ble_eq_true rfl) dX5_apart_9 ?_
  refine i_iload_n C dX5_apart_12 rfl (lv_at hl 0 rfl) ?_
  refine i_bipush (v := 10) C dX5_apart_13 rfl ?_
  refine i_iremc C dX5_apart_15 (by decide) ?_
  refine i_iload_n C dX5_apart_16 rfl (lv_at hl 1 rfl) ?_
  refine i_bipush (v := 10) C dX5_apart_17 rfl ?_
  refine i_iremc C dX5_apart_19 (by decide) ?_
  refine i_isub C dX5_apart_20 ?_
  refine x_abs C hl tw5_178 tw2_204 tw1_8 tw2_205 (Nat.le_of_ble_eq_true rfl) (Nat.le_of_ble_eq_true rfl) dX5_apart_21 ?_
  refine i_iadd C dX5_apart_24 ?_
  exact x_iretR C hX hr hQ h dX5_apart_25
def L_X5_spy_77 (p1 : Int32) (p2 : Int32) (p3 : Int32) (x8 : Int32) (k1 : Int32 → MM → Option (Int32 × MM)) : Nat → Int32 → Int32 → Int32 → MM → Option (Int32 × MM)
  | 0, _, _, _, _ => none
  | fu + 1, x12, x13, x14, m6 => if 6 < x14 then (k1 x12 m6) else (bdr (f_X5_at p2 0) fun x15 => sti m6 38 152 x15 x14 fun m7 => bdw (f_X5_aheadOf p1 p3 m7) fun x16 m8 => bdr (f_X5_apart x8 x16) fun x17 => jn1 (fun (x18 : Int32) => lt_ ((imax x13 x17)) fun x19 => lt_ (x14 + 1) fun x20 => L_X5_spy_77 p1 p2 p3 x8 k1 fu x18 x19 x20 m8) fun k2 => if x17 ≤ x13 then (k2 x12) else (k2 x14))
def f_X5_spy (p1 : Int32) (p2 : Int32) (p3 : Int32) (μ : MM) : Option (Int32 × MM) := bdr (f_X5_isShip p1) fun x1 => if x1 = 0 then (bdw (f_X5_finding (-1000001) μ) fun x2 m1 => some (x2, m1)) else (bdr (f_X5_isCat p2 μ) fun x3 => if x3 = 0 then (bdw (f_X5_finding (-1000001) μ) fun x4 m2 => some (x4, m2)) else (bdr (f_X5_within p3 0 40) fun x5 => if x5 = 0 then (bdw (f_X5_finding (-1000001) μ) fun x22 m10 => some (x22, m10)) else (bdr (f_X5_shipIs p1 2 μ) fun x6 => bdr (f_X5_has x6 p2) fun x7 => if x7 = 0 then (bdw (f_X5_finding (-1000005) μ) fun x21 m9 => some (x21, m9)) else (bdw (f_X5_aheadOf p1 p3 μ) fun x8 m3 => bdr (f_X5_catIs p2 0 m3) fun x9 => jn2 (fun (x10 : Int32) (m4 : MM) => bdr (f_X5_at p2 0) fun x11 => sti m4 38 152 x11 x9 fun m5 => some (x10, m5)) fun k1 => L_X5_spy_77 p1 p2 p3 x8 k1 FU (-1) (-1) 0 m3))))
theorem nd_X5_spy : yX5_spy.cls ≠ "java/lang/invoke/MethodHandle" ∧ yX5_spy.cls ≠ "java/lang/invoke/VarHandle" ∧ (parseMethodDescriptor yX5_spy.desc).map (fun d => d.parameters.length) = some 3 := by decide +kernel
set_option maxHeartbeats 4000000 in
set_option maxRecDepth 100000 in
theorem c_X5_spy (l : Launch) (G : EN)  {p1 p2 p3 : Int32} {μ : MM} {r : Int32} {m : MM} (h : f_X5_spy p1 p2 p3 μ = some (r, m)) : XM l G yX5_spy cX5_spy 10 (some .int) 10 223 [.ref (G.2.1 37), .int p1, .int p2, .int p3] μ (some (.int r)) m := by
  refine x_met (own := RX5) (by decide +kernel) rfl (Nat.le_of_ble_eq_true rfl) (fun Γ A H ls hg C hr hX hQ hl => ?_)
  have hl : lv_has ls 10 [(0, .ref (G.2.1 37)), (1, .int p1), (2, .int p2), (3, .int p3)] := hl
  unfold f_X5_spy at h
  refine i_iload_n C dX5_spy_0 rfl (lv_at hl 1 rfl) ?_
  obtain ⟨x1, e1, h⟩ := w_bdr h
  refine x_callSi C hX (c_X5_isShip (gl Γ) G  e1) [] rfl hl tw4_216 tw4_217 tw1_7 tw4_218 nd_X5_isShip ⟨(Nat.le_of_ble_eq_true rfl), (Nat.le_of_ble_eq_true rfl)⟩ (Nat.le_of_ble_eq_true rfl) dX5_spy_1 (fun H locs hX => ?_)
  refine i_if_eq (tgt := 25) C h dX5_spy_4 (by decide) (fun _ h => ?_) (fun _ h => ?_)
  · refine i_aload_n C dX5_spy_25 rfl (lv_at hl 0 rfl) ?_
    refine i_ldc C tw4_172 dX5_spy_26 ?_
    obtain ⟨x2, m1, e2, h⟩ := w_bdw h
    refine x_callVi C hX (fg_37_0 G) (c_X5_finding (gl Γ) G  e2) [] rfl hl tw4_173 tw4_175 ts1_15 tw1_7 tw4_176 rfl nd_X5_finding ⟨(Nat.le_of_ble_eq_true rfl), (Nat.le_of_ble_eq_true rfl)⟩ (Nat.le_of_ble_eq_true rfl) dX5_spy_28 (fun H locs hX => ?_)
    exact x_iretW C hX hr hQ h dX5_spy_31
  refine i_aload_n C dX5_spy_7 rfl (lv_at hl 0 rfl) ?_
  refine i_iload_n C dX5_spy_8 rfl (lv_at hl 2 rfl) ?_
  obtain ⟨x3, e3, h⟩ := w_bdr h
  refine x_callVi C hX (fg_37_0 G) (c_X5_isCat (gl Γ) G  e3) [] rfl hl tw4_189 tw4_191 ts2_1 tw1_7 tw4_192 rfl nd_X5_isCat ⟨(Nat.le_of_ble_eq_true rfl), (Nat.le_of_ble_eq_true rfl)⟩ (Nat.le_of_ble_eq_true rfl) dX5_spy_9 (fun H locs hX => ?_)
  refine i_if_eq (tgt := 25) C h dX5_spy_12 (by decide) (fun _ h => ?_) (fun _ h => ?_)
  · refine i_aload_n C dX5_spy_25 rfl (lv_at hl 0 rfl) ?_
    refine i_ldc C tw4_172 dX5_spy_26 ?_
    obtain ⟨x4, m2, e4, h⟩ := w_bdw h
    refine x_callVi C hX (fg_37_0 G) (c_X5_finding (gl Γ) G  e4) [] rfl hl tw4_173 tw4_175 ts1_15 tw1_7 tw4_176 rfl nd_X5_finding ⟨(Nat.le_of_ble_eq_true rfl), (Nat.le_of_ble_eq_true rfl)⟩ (Nat.le_of_ble_eq_true rfl) dX5_spy_28 (fun H locs hX => ?_)
    exact x_iretW C hX hr hQ h dX5_spy_31
  refine i_iload_n C dX5_spy_15 rfl (lv_at hl 3 rfl) ?_
  refine i_iconst (v := 0) C dX5_spy_16 rfl ?_
  refine i_bipush (v := 40) C dX5_spy_17 rfl ?_
  obtain ⟨x5, e5, h⟩ := w_bdr h
  refine x_callSi C hX (c_X5_within (gl Γ) G  e5) [] rfl hl tw4_169 tw4_170 tw1_7 tw4_171 nd_X5_within ⟨(Nat.le_of_ble_eq_true rfl), (Nat.le_of_ble_eq_true rfl)⟩ (Nat.le_of_ble_eq_true rfl) dX5_spy_19 (fun H locs hX => ?_)
  refine i_if_ne (tgt := 32) C h dX5_spy_22 (by decide) (fun _ h => ?_) (fun _ h => ?_)
  · refine i_aload_n C dX5_spy_32 rfl (lv_at hl 0 rfl) ?_
    refine i_iload_n C dX5_spy_33 rfl (lv_at hl 1 rfl) ?_
    refine i_iconst (v := 2) C dX5_spy_34 rfl ?_
    obtain ⟨x6, e6, h⟩ := w_bdr h
    refine x_callVi C hX (fg_37_0 G) (c_X5_shipIs (gl Γ) G  e6) [] rfl hl tw4_223 tw4_225 ts2_6 tw1_7 tw4_226 rfl nd_X5_shipIs ⟨(Nat.le_of_ble_eq_true rfl), (Nat.le_of_ble_eq_true rfl)⟩ (Nat.le_of_ble_eq_true rfl) dX5_spy_35 (fun H locs hX => ?_)
    refine i_iload_n C dX5_spy_38 rfl (lv_at hl 2 rfl) ?_
    obtain ⟨x7, e7, h⟩ := w_bdr h
    refine x_callSi C hX (c_X5_has (gl Γ) G  e7) [] rfl hl tw4_201 tw4_202 tw1_7 tw4_203 nd_X5_has ⟨(Nat.le_of_ble_eq_true rfl), (Nat.le_of_ble_eq_true rfl)⟩ (Nat.le_of_ble_eq_true rfl) dX5_spy_39 (fun H locs hX => ?_)
    refine i_if_ne (tgt := 52) C h dX5_spy_42 (by decide) (fun _ h => ?_) (fun _ h => ?_)
    · refine i_aload_n C dX5_spy_52 rfl (lv_at hl 0 rfl) ?_
      refine i_iload_n C dX5_spy_53 rfl (lv_at hl 1 rfl) ?_
      refine i_iload_n C dX5_spy_54 rfl (lv_at hl 3 rfl) ?_
      obtain ⟨x8, m3, e8, h⟩ := w_bdw h
      refine x_callVi C hX (fg_37_0 G) (c_X5_aheadOf (gl Γ) G  e8) [] rfl hl tw5_85 tw5_87 ts3_3 tw1_7 tw5_88 rfl nd_X5_aheadOf ⟨(Nat.le_of_ble_eq_true rfl), (Nat.le_of_ble_eq_true rfl)⟩ (Nat.le_of_ble_eq_true rfl) dX5_spy_55 (fun H locs hX => ?_)
      refine i_istore C [(4, .int x8), (0, .ref (G.2.1 37)), (1, .int p1), (2, .int p2), (3, .int p3)] dX5_spy_58 hl (by decide) rfl (fun ls hl => ?_)
      refine i_aload_n C dX5_spy_60 rfl (lv_at hl 1 rfl) ?_
      refine i_iload_n C dX5_spy_61 rfl (lv_at hl 3 rfl) ?_
      refine i_iconst (v := 0) C dX5_spy_62 rfl ?_
      obtain ⟨x9, e9, h⟩ := w_bdr h
      refine x_callVi C hX (fg_37_0 G) (c_X5_catIs (gl Γ) G  e9) [] rfl hl tw4_193 tw4_195 ts2_2 tw1_7 tw4_196 rfl nd_X5_catIs ⟨(Nat.le_of_ble_eq_true rfl), (Nat.le_of_ble_eq_true rfl)⟩ (Nat.le_of_ble_eq_true rfl) dX5_spy_63 (fun H locs hX => ?_)
      refine i_istore C [(5, .int x9), (4, .int x8), (0, .ref (G.2.1 37)), (1, .int p1), (2, .int p2), (3, .int p3)] dX5_spy_66 hl (by decide) rfl (fun ls hl => ?_)
      refine i_iconst (v := (-1)) C dX5_spy_68 rfl ?_
      refine i_istore C [(6, .int (-1)), (5, .int x9), (4, .int x8), (0, .ref (G.2.1 37)), (1, .int p1), (2, .int p2), (3, .int p3)] dX5_spy_69 hl (by decide) rfl (fun ls hl => ?_)
      refine i_iconst (v := (-1)) C dX5_spy_71 rfl ?_
      refine i_istore C [(7, .int (-1)), (6, .int (-1)), (5, .int x9), (4, .int x8), (0, .ref (G.2.1 37)), (1, .int p1), (2, .int p2), (3, .int p3)] dX5_spy_72 hl (by decide) rfl (fun ls hl => ?_)
      refine i_iconst (v := 0) C dX5_spy_74 rfl ?_
      refine i_istore C [(8, .int 0), (7, .int (-1)), (6, .int (-1)), (5, .int x9), (4, .int x8), (0, .ref (G.2.1 37)), (1, .int p1), (2, .int p2), (3, .int p3)] dX5_spy_75 hl (by decide) rfl (fun ls hl => ?_)
      refine w_jn2 (fun (x10 : Int32) (m4 : MM) => ∀ (H : Heap) (locs : List Loc) (ls : Array Slot), lv_has ls 10 [(0, .ref (G.2.1 37)), (2, .int p2), (5, .int x9), (6, .int x10)] → XW G A (gs Γ) H locs m4 → WX Γ H locs 140 ls []) h (fun x10 m4 h H locs ls hl hX => ?_) (fun k1 J1 h => ?_)
      · refine i_aload_n C dX5_spy_140 rfl (lv_at hl 0 rfl) ?_
        refine x_get C hX (fg_37_0 G) tw4_83 dX5_spy_141 ?_
        refine i_iload_n C dX5_spy_144 rfl (lv_at hl 1 rfl) ?_
        refine i_iconst (v := 0) C dX5_spy_145 rfl ?_
        obtain ⟨x11, e10, h⟩ := w_bdr h
        refine x_callSi C hX (c_X5_at (gl Γ) G  e10) [.ref (G.2.1 38)] rfl hl tw4_182 tw4_183 tw1_7 tw4_184 nd_X5_at ⟨(Nat.le_of_ble_eq_true rfl), (Nat.le_of_ble_eq_true rfl)⟩ (Nat.le_of_ble_eq_true rfl) dX5_spy_146 (fun H locs hX => ?_)
        refine i_iload C dX5_spy_149 (lv_at hl 2 rfl) ?_
        refine x_iast C hX (ai_38 G) h dX5_spy_151 (fun H locs m5 h hX => ?_)
        refine i_iload C dX5_spy_152 (lv_at hl 3 rfl) ?_
        exact x_iretW C hX hr hQ h dX5_spy_154
      have L1 : ∀ (fu : Nat) (x12 : Int32) (x13 : Int32) (x14 : Int32) (m6 : MM) (H : Heap) (locs : List Loc) (ls : Array Slot), L_X5_spy_77 p1 p2 p3 x8 k1 fu x12 x13 x14 m6 = some (r, m) → lv_has ls 10 [(0, .ref (G.2.1 37)), (1, .int p1), (2, .int p2), (3, .int p3), (4, .int x8), (5, .int x9), (6, .int x12), (7, .int x13), (8, .int x14)] → XW G A (gs Γ) H locs m6 → WX Γ H locs 77 ls [] := by
        intro fu
        induction fu with
        | zero =>
          intro x12 x13 x14 m6 H locs ls h
          rw [L_X5_spy_77] at h
          cases h
        | succ fu ih =>
          intro x12 x13 x14 m6 H locs ls h hl hX
          rw [L_X5_spy_77] at h
          refine i_iload C dX5_spy_77 (lv_at hl 8 rfl) ?_
          refine i_bipush (v := 6) C dX5_spy_79 rfl ?_
          refine i_icmp_gt (tgt := 140) C h dX5_spy_81 (by decide) (fun _ h => ?_) (fun _ h => ?_)
          · exact J1 _ _ h _ _ _ (lv_sub hl [0, 2, 5, 6] rfl) hX
          refine i_aload_n C dX5_spy_84 rfl (lv_at hl 0 rfl) ?_
          refine x_get C hX (fg_37_0 G) tw4_83 dX5_spy_85 ?_
          refine i_iload_n C dX5_spy_88 rfl (lv_at hl 2 rfl) ?_
          refine i_iconst (v := 0) C dX5_spy_89 rfl ?_
          obtain ⟨x15, e11, h⟩ := w_bdr h
          refine x_callSi C hX (c_X5_at (gl Γ) G  e11) [.ref (G.2.1 38)] rfl hl tw4_182 tw4_183 tw1_7 tw4_184 nd_X5_at ⟨(Nat.le_of_ble_eq_true rfl), (Nat.le_of_ble_eq_true rfl)⟩ (Nat.le_of_ble_eq_true rfl) dX5_spy_90 (fun H locs hX => ?_)
          refine i_iload C dX5_spy_93 (lv_at hl 8 rfl) ?_
          refine x_iast C hX (ai_38 G) h dX5_spy_95 (fun H locs m7 h hX => ?_)
          refine i_iload C dX5_spy_96 (lv_at hl 4 rfl) ?_
          refine i_aload_n C dX5_spy_98 rfl (lv_at hl 0 rfl) ?_
          refine i_iload_n C dX5_spy_99 rfl (lv_at hl 1 rfl) ?_
          refine i_iload_n C dX5_spy_100 rfl (lv_at hl 3 rfl) ?_
          obtain ⟨x16, m8, e12, h⟩ := w_bdw h
          refine x_callVi C hX (fg_37_0 G) (c_X5_aheadOf (gl Γ) G  e12) [.int x8] rfl hl tw5_85 tw5_87 ts3_3 tw1_7 tw5_88 rfl nd_X5_aheadOf ⟨(Nat.le_of_ble_eq_true rfl), (Nat.le_of_ble_eq_true rfl)⟩ (Nat.le_of_ble_eq_true rfl) dX5_spy_101 (fun H locs hX => ?_)
          obtain ⟨x17, e13, h⟩ := w_bdr h
          refine x_callSi C hX (c_X5_apart (gl Γ) G  e13) [] rfl hl tw5_191 tw5_192 tw1_7 tw5_193 nd_X5_apart ⟨(Nat.le_of_ble_eq_true rfl), (Nat.le_of_ble_eq_true rfl)⟩ (Nat.le_of_ble_eq_true rfl) dX5_spy_104 (fun H locs hX => ?_)
          refine i_istore C [(9, .int x17), (0, .ref (G.2.1 37)), (1, .int p1), (2, .int p2), (3, .int p3), (4, .int x8), (5, .int x9), (6, .int x12), (7, .int x13), (8, .int x14)] dX5_spy_107 hl (by decide) rfl (fun ls hl => ?_)
          refine i_iload C dX5_spy_109 (lv_at hl 0 rfl) ?_
          refine i_iload C dX5_spy_111 (lv_at hl 8 rfl) ?_
          refine w_jn1 (fun (x18 : Int32) => ∀ (H : Heap) (locs : List Loc) (ls : Array Slot), lv_has ls 10 [(0, .ref (G.2.1 37)), (1, .int p1), (2, .int p2), (3, .int p3), (4, .int x8), (5, .int x9), (7, .int x13), (8, .int x14), (9, .int x17)] → XW G A (gs Γ) H locs m8 → WX Γ H locs 123 ls [.int x18]) h (fun x18 h H locs ls hl hX => ?_) (fun k2 J2 h => ?_)
          · refine i_istore C [(6, .int x18), (0, .ref (G.2.1 37)), (1, .int p1), (2, .int p2), (3, .int p3), (4, .int x8), (5, .int x9), (7, .int x13), (8, .int x14), (9, .int x17)] dX5_spy_123 hl (by decide) rfl (fun ls hl => ?_)
            refine i_iload C dX5_spy_125 (lv_at hl 7 rfl) ?_
            refine i_iload C dX5_spy_127 (lv_at hl 9 rfl) ?_
            refine x_max C hl tw5_76 tw2_108 tw1_8 tw2_109 (Nat.le_of_ble_eq_true rfl) (Nat.le_of_ble_eq_true rfl) dX5_spy_129 ?_
            refine i_istoreL C (fun x19 => [(7, .int x19), (6, .int x18), (0, .ref (G.2.1 37)), (1, .int p1), (2, .int p2), (3, .int p3), (4, .int x8), (5, .int x9), (8, .int x14), (9, .int x17)]) h dX5_spy_132 hl (by decide) (fun _ => rfl) (fun x19 ls h hl => ?_)
            refine i_iinc C (j := 8) (fun x20 => [(8, .int x20), (7, .int x19), (6, .int x18), (0, .ref (G.2.1 37)), (1, .int p1), (2, .int p2), (3, .int p3), (4, .int x8), (5, .int x9), (9, .int x17)]) h dX5_spy_134 hl rfl rfl (by decide) (fun _ => rfl) (fun x20 ls h hl => ?_)
            refine i_goto (tgt := 77) C dX5_spy_137 (by decide) ?_
            exact ih _ _ _ _ _ _ _ h (lv_sub hl [3, 4, 5, 6, 7, 8, 2, 1, 0] rfl) hX
          refine i_icmp_le (tgt := 121) C h dX5_spy_113 (by decide) (fun _ h => ?_) (fun _ h => ?_)
          · refine i_iload C dX5_spy_121 (lv_at hl 7 rfl) ?_
            exact J2 _ h _ _ _ (lv_sub hl [1, 2, 3, 4, 5, 6, 8, 9, 0] rfl) hX
          refine i_iload C dX5_spy_116 (lv_at hl 9 rfl) ?_
          refine i_goto (tgt := 123) C dX5_spy_118 (by decide) ?_
          exact J2 _ h _ _ _ (lv_sub hl [1, 2, 3, 4, 5, 6, 8, 9, 0] rfl) hX
      exact L1 FU _ _ _ _ _ _ _ h (lv_sub hl [5, 6, 7, 8, 4, 3, 2, 1, 0] rfl) hX
    refine i_aload_n C dX5_spy_45 rfl (lv_at hl 0 rfl) ?_
    refine i_ldc C tw5_50 dX5_spy_46 ?_
    obtain ⟨x21, m9, e14, h⟩ := w_bdw h
    refine x_callVi C hX (fg_37_0 G) (c_X5_finding (gl Γ) G  e14) [] rfl hl tw4_173 tw4_175 ts1_15 tw1_7 tw4_176 rfl nd_X5_finding ⟨(Nat.le_of_ble_eq_true rfl), (Nat.le_of_ble_eq_true rfl)⟩ (Nat.le_of_ble_eq_true rfl) dX5_spy_48 (fun H locs hX => ?_)
    exact x_iretW C hX hr hQ h dX5_spy_51
  refine i_aload_n C dX5_spy_25 rfl (lv_at hl 0 rfl) ?_
  refine i_ldc C tw4_172 dX5_spy_26 ?_
  obtain ⟨x22, m10, e15, h⟩ := w_bdw h
  refine x_callVi C hX (fg_37_0 G) (c_X5_finding (gl Γ) G  e15) [] rfl hl tw4_173 tw4_175 ts1_15 tw1_7 tw4_176 rfl nd_X5_finding ⟨(Nat.le_of_ble_eq_true rfl), (Nat.le_of_ble_eq_true rfl)⟩ (Nat.le_of_ble_eq_true rfl) dX5_spy_28 (fun H locs hX => ?_)
  exact x_iretW C hX hr hQ h dX5_spy_31
def L_X5_usedIn_25 (p2 : Int32) (k1 : Int32 → MM → Option (Int32 × MM)) : Nat → Int32 → Int32 → MM → Option (Int32 × MM)
  | 0, _, _, _ => none
  | fu + 1, x6, x7, m6 => ldi m6 38 152 4 fun x8 => if x8 ≤ x7 then (k1 x6 m6) else (bdr (f_X5_catIs x7 1 m6) fun x9 => jn2 (fun (x10 : Int32) (m7 : MM) => lt_ (x7 + 1) fun x11 => L_X5_usedIn_25 p2 k1 fu x10 x11 m7) fun k2 => if x9 < p2 then (k2 x6 m6) else (bdr (f_X5_at x7 1) fun x12 => sti m6 38 152 x12 0 fun m8 => lt_ (x6 + 1) fun x13 => k2 x13 m8))
def L_X5_usedIn_16 (p1 : Int32) (p2 : Int32) : Nat → Int32 → Int32 → MM → Option (Int32 × MM)
  | 0, _, _, _ => none
  | fu + 1, x1, x2, m2 => if p1 ≤ x2 then (bdw (f_X5_putBack x1 m2) fun x3 m3 => some (x3, m3)) else (jn2 (fun (x4 : Int32) (m4 : MM) => bdr (f_X5_watch m4) fun m5 => lt_ (x2 + 1) fun x5 => L_X5_usedIn_16 p1 p2 fu x4 x5 m5) fun k1 => L_X5_usedIn_25 p2 k1 FU x1 0 m2)
def f_X5_usedIn (p1 : Int32) (p2 : Int32) (μ : MM) : Option (Int32 × MM) := bdr (f_X5_copyRow 38 152 40 152 μ) fun m1 => L_X5_usedIn_16 p1 p2 FU 0 0 m1
theorem nd_X5_usedIn : yX5_usedIn.cls ≠ "java/lang/invoke/MethodHandle" ∧ yX5_usedIn.cls ≠ "java/lang/invoke/VarHandle" ∧ (parseMethodDescriptor yX5_usedIn.desc).map (fun d => d.parameters.length) = some 2 := by decide +kernel
set_option maxHeartbeats 4000000 in
set_option maxRecDepth 100000 in
theorem c_X5_usedIn (l : Launch) (G : EN)  {p1 p2 : Int32} {μ : MM} {r : Int32} {m : MM} (h : f_X5_usedIn p1 p2 μ = some (r, m)) : XM l G yX5_usedIn cX5_usedIn 6 (some .int) 8 179 [.ref (G.2.1 37), .int p1, .int p2] μ (some (.int r)) m := by
  refine x_met (own := RX5) (by decide +kernel) rfl (Nat.le_of_ble_eq_true rfl) (fun Γ A H ls hg C hr hX hQ hl => ?_)
  have hl : lv_has ls 6 [(0, .ref (G.2.1 37)), (1, .int p1), (2, .int p2)] := hl
  unfold f_X5_usedIn at h
  refine i_aload_n C dX5_usedIn_0 rfl (lv_at hl 0 rfl) ?_
  refine x_get C hX (fg_37_0 G) tw4_83 dX5_usedIn_1 ?_
  refine i_aload_n C dX5_usedIn_4 rfl (lv_at hl 0 rfl) ?_
  refine x_get C hX (fg_37_2 G) tw4_85 dX5_usedIn_5 ?_
  obtain ⟨m1, e1, h⟩ := w_bdr h
  refine x_callSv C hX (c_X5_copyRow (gl Γ) G (ai_38 G) (ai_40 G) e1) [] rfl hl tw5_89 tw5_90 tw1_7 tw5_91 nd_X5_copyRow ⟨(Nat.le_of_ble_eq_true rfl), (Nat.le_of_ble_eq_true rfl)⟩ (Nat.le_of_ble_eq_true rfl) dX5_usedIn_8 (fun H locs hX => ?_)
  refine i_iconst (v := 0) C dX5_usedIn_11 rfl ?_
  refine i_istore_n C [(3, .int 0), (0, .ref (G.2.1 37)), (1, .int p1), (2, .int p2)] dX5_usedIn_12 rfl hl (by decide) rfl (fun ls hl => ?_)
  refine i_iconst (v := 0) C dX5_usedIn_13 rfl ?_
  refine i_istore C [(4, .int 0), (3, .int 0), (0, .ref (G.2.1 37)), (1, .int p1), (2, .int p2)] dX5_usedIn_14 hl (by decide) rfl (fun ls hl => ?_)
  have L2 : ∀ (fu : Nat) (x1 : Int32) (x2 : Int32) (m2 : MM) (H : Heap) (locs : List Loc) (ls : Array Slot), L_X5_usedIn_16 p1 p2 fu x1 x2 m2 = some (r, m) → lv_has ls 6 [(0, .ref (G.2.1 37)), (1, .int p1), (2, .int p2), (3, .int x1), (4, .int x2)] → XW G A (gs Γ) H locs m2 → WX Γ H locs 16 ls [] := by
    intro fu
    induction fu with
    | zero =>
      intro x1 x2 m2 H locs ls h
      rw [L_X5_usedIn_16] at h
      cases h
    | succ fu ih =>
      intro x1 x2 m2 H locs ls h hl hX
      rw [L_X5_usedIn_16] at h
      refine i_iload C dX5_usedIn_16 (lv_at hl 4 rfl) ?_
      refine i_iload_n C dX5_usedIn_18 rfl (lv_at hl 1 rfl) ?_
      refine i_icmp_ge (tgt := 78) C h dX5_usedIn_19 (by decide) (fun _ h => ?_) (fun _ h => ?_)
      · refine i_aload_n C dX5_usedIn_78 rfl (lv_at hl 0 rfl) ?_
        refine i_iload_n C dX5_usedIn_79 rfl (lv_at hl 3 rfl) ?_
        obtain ⟨x3, m3, e2, h⟩ := w_bdw h
        refine x_callVi C hX (fg_37_0 G) (c_X5_putBack (gl Γ) G  e2) [] rfl hl tw5_92 tw5_94 ts3_4 tw1_7 tw5_95 rfl nd_X5_putBack ⟨(Nat.le_of_ble_eq_true rfl), (Nat.le_of_ble_eq_true rfl)⟩ (Nat.le_of_ble_eq_true rfl) dX5_usedIn_80 (fun H locs hX => ?_)
        exact x_iretW C hX hr hQ h dX5_usedIn_83
      refine i_iconst (v := 0) C dX5_usedIn_22 rfl ?_
      refine i_istore C [(5, .int 0), (0, .ref (G.2.1 37)), (1, .int p1), (2, .int p2), (3, .int x1), (4, .int x2)] dX5_usedIn_23 hl (by decide) rfl (fun ls hl => ?_)
      refine w_jn2 (fun (x4 : Int32) (m4 : MM) => ∀ (H : Heap) (locs : List Loc) (ls : Array Slot), lv_has ls 6 [(0, .ref (G.2.1 37)), (1, .int p1), (2, .int p2), (3, .int x4), (4, .int x2)] → XW G A (gs Γ) H locs m4 → WX Γ H locs 68 ls []) h (fun x4 m4 h H locs ls hl hX => ?_) (fun k1 J1 h => ?_)
      · refine i_aload_n C dX5_usedIn_68 rfl (lv_at hl 0 rfl) ?_
        obtain ⟨m5, e3, h⟩ := w_bdr h
        refine x_callVv C hX (fg_37_0 G) (c_X5_watch (gl Γ) G  e3) [] rfl hl tw5_55 tw5_57 ts2_15 tw1_7 tw5_58 rfl nd_X5_watch ⟨(Nat.le_of_ble_eq_true rfl), (Nat.le_of_ble_eq_true rfl)⟩ (Nat.le_of_ble_eq_true rfl) dX5_usedIn_69 (fun H locs hX => ?_)
        refine i_iinc C (j := 4) (fun x5 => [(4, .int x5), (0, .ref (G.2.1 37)), (1, .int p1), (2, .int p2), (3, .int x4)]) h dX5_usedIn_72 hl rfl rfl (by decide) (fun _ => rfl) (fun x5 ls h hl => ?_)
        refine i_goto (tgt := 16) C dX5_usedIn_75 (by decide) ?_
        exact ih _ _ _ _ _ _ h (lv_sub hl [1, 2, 3, 4, 0] rfl) hX
      have L1 : ∀ (fu : Nat) (x6 : Int32) (x7 : Int32) (m6 : MM) (H : Heap) (locs : List Loc) (ls : Array Slot), L_X5_usedIn_25 p2 k1 fu x6 x7 m6 = some (r, m) → lv_has ls 6 [(0, .ref (G.2.1 37)), (1, .int p1), (2, .int p2), (3, .int x6), (4, .int x2), (5, .int x7)] → XW G A (gs Γ) H locs m6 → WX Γ H locs 25 ls [] := by
        intro fu
        induction fu with
        | zero =>
          intro x6 x7 m6 H locs ls h
          rw [L_X5_usedIn_25] at h
          cases h
        | succ fu ih =>
          intro x6 x7 m6 H locs ls h hl hX
          rw [L_X5_usedIn_25] at h
          refine i_iload C dX5_usedIn_25 (lv_at hl 5 rfl) ?_
          refine i_aload_n C dX5_usedIn_27 rfl (lv_at hl 0 rfl) ?_
          refine x_get C hX (fg_37_0 G) tw4_83 dX5_usedIn_28 ?_
          refine i_iconst (v := 4) C dX5_usedIn_31 rfl ?_
          refine x_iald C hX (ai_38 G) h dX5_usedIn_32 (fun x8 h => ?_)
          refine i_icmp_ge (tgt := 68) C h dX5_usedIn_33 (by decide) (fun _ h => ?_) (fun _ h => ?_)
          · exact J1 _ _ h _ _ _ (lv_sub hl [0, 1, 2, 3, 4] rfl) hX
          refine i_aload_n C dX5_usedIn_36 rfl (lv_at hl 0 rfl) ?_
          refine i_iload C dX5_usedIn_37 (lv_at hl 5 rfl) ?_
          refine i_iconst (v := 1) C dX5_usedIn_39 rfl ?_
          obtain ⟨x9, e4, h⟩ := w_bdr h
          refine x_callVi C hX (fg_37_0 G) (c_X5_catIs (gl Γ) G  e4) [] rfl hl tw4_193 tw4_195 ts2_2 tw1_7 tw4_196 rfl nd_X5_catIs ⟨(Nat.le_of_ble_eq_true rfl), (Nat.le_of_ble_eq_true rfl)⟩ (Nat.le_of_ble_eq_true rfl) dX5_usedIn_40 (fun H locs hX => ?_)
          refine i_iload_n C dX5_usedIn_43 rfl (lv_at hl 2 rfl) ?_
          refine w_jn2 (fun (x10 : Int32) (m7 : MM) => ∀ (H : Heap) (locs : List Loc) (ls : Array Slot), lv_has ls 6 [(0, .ref (G.2.1 37)), (1, .int p1), (2, .int p2), (3, .int x10), (4, .int x2), (5, .int x7)] → XW G A (gs Γ) H locs m7 → WX Γ H locs 62 ls []) h (fun x10 m7 h H locs ls hl hX => ?_) (fun k2 J2 h => ?_)
          · refine i_iinc C (j := 5) (fun x11 => [(5, .int x11), (0, .ref (G.2.1 37)), (1, .int p1), (2, .int p2), (3, .int x10), (4, .int x2)]) h dX5_usedIn_62 hl rfl rfl (by decide) (fun _ => rfl) (fun x11 ls h hl => ?_)
            refine i_goto (tgt := 25) C dX5_usedIn_65 (by decide) ?_
            exact ih _ _ _ _ _ _ h (lv_sub hl [1, 2, 3, 4, 5, 0] rfl) hX
          refine i_icmp_lt (tgt := 62) C h dX5_usedIn_44 (by decide) (fun _ h => ?_) (fun _ h => ?_)
          · exact J2 _ _ h _ _ _ (lv_sub hl [0, 1, 2, 3, 4, 5] rfl) hX
          refine i_aload_n C dX5_usedIn_47 rfl (lv_at hl 0 rfl) ?_
          refine x_get C hX (fg_37_0 G) tw4_83 dX5_usedIn_48 ?_
          refine i_iload C dX5_usedIn_51 (lv_at hl 5 rfl) ?_
          refine i_iconst (v := 1) C dX5_usedIn_53 rfl ?_
          obtain ⟨x12, e5, h⟩ := w_bdr h
          refine x_callSi C hX (c_X5_at (gl Γ) G  e5) [.ref (G.2.1 38)] rfl hl tw4_182 tw4_183 tw1_7 tw4_184 nd_X5_at ⟨(Nat.le_of_ble_eq_true rfl), (Nat.le_of_ble_eq_true rfl)⟩ (Nat.le_of_ble_eq_true rfl) dX5_usedIn_54 (fun H locs hX => ?_)
          refine i_iconst (v := 0) C dX5_usedIn_57 rfl ?_
          refine x_iast C hX (ai_38 G) h dX5_usedIn_58 (fun H locs m8 h hX => ?_)
          refine i_iinc C (j := 3) (fun x13 => [(3, .int x13), (0, .ref (G.2.1 37)), (1, .int p1), (2, .int p2), (4, .int x2), (5, .int x7)]) h dX5_usedIn_59 hl rfl rfl (by decide) (fun _ => rfl) (fun x13 ls h hl => ?_)
          exact J2 _ _ h _ _ _ (lv_sub hl [1, 2, 3, 0, 4, 5] rfl) hX
      exact L1 FU _ _ _ _ _ _ h (lv_sub hl [1, 2, 3, 4, 5, 0] rfl) hX
  exact L2 FU _ _ _ _ _ _ h (lv_sub hl [2, 3, 4, 1, 0] rfl) hX
def f_X5_uses (p1 : Int32) (p2 : Int32) (μ : MM) : Option (Int32 × MM) := bdr (f_X5_within p1 0 200) fun x1 => if x1 = 0 then (bdw (f_X5_finding (-1000001) μ) fun x2 m1 => some (x2, m1)) else (bdr (f_X5_within p2 1 99) fun x3 => if x3 = 0 then (bdw (f_X5_finding (-1000001) μ) fun x4 m2 => some (x4, m2)) else (bdw (f_X5_usedIn p1 p2 μ) fun x5 m3 => some (x5, m3)))
theorem nd_X5_uses : yX5_uses.cls ≠ "java/lang/invoke/MethodHandle" ∧ yX5_uses.cls ≠ "java/lang/invoke/VarHandle" ∧ (parseMethodDescriptor yX5_uses.desc).map (fun d => d.parameters.length) = some 2 := by decide +kernel
set_option maxHeartbeats 4000000 in
set_option maxRecDepth 100000 in
theorem c_X5_uses (l : Launch) (G : EN)  {p1 p2 : Int32} {μ : MM} {r : Int32} {m : MM} (h : f_X5_uses p1 p2 μ = some (r, m)) : XM l G yX5_uses cX5_uses 3 (some .int) 9 204 [.ref (G.2.1 37), .int p1, .int p2] μ (some (.int r)) m := by
  refine x_met (own := RX5) (by decide +kernel) rfl (Nat.le_of_ble_eq_true rfl) (fun Γ A H ls hg C hr hX hQ hl => ?_)
  have hl : lv_has ls 3 [(0, .ref (G.2.1 37)), (1, .int p1), (2, .int p2)] := hl
  unfold f_X5_uses at h
  refine i_iload_n C dX5_uses_0 rfl (lv_at hl 1 rfl) ?_
  refine i_iconst (v := 0) C dX5_uses_1 rfl ?_
  refine i_sipush (v := 200) C dX5_uses_2 rfl ?_
  obtain ⟨x1, e1, h⟩ := w_bdr h
  refine x_callSi C hX (c_X5_within (gl Γ) G  e1) [] rfl hl tw4_169 tw4_170 tw1_7 tw4_171 nd_X5_within ⟨(Nat.le_of_ble_eq_true rfl), (Nat.le_of_ble_eq_true rfl)⟩ (Nat.le_of_ble_eq_true rfl) dX5_uses_5 (fun H locs hX => ?_)
  refine i_if_eq (tgt := 30) C h dX5_uses_8 (by decide) (fun _ h => ?_) (fun _ h => ?_)
  · refine i_aload_n C dX5_uses_30 rfl (lv_at hl 0 rfl) ?_
    refine i_ldc C tw4_172 dX5_uses_31 ?_
    obtain ⟨x2, m1, e2, h⟩ := w_bdw h
    refine x_callVi C hX (fg_37_0 G) (c_X5_finding (gl Γ) G  e2) [] rfl hl tw4_173 tw4_175 ts1_15 tw1_7 tw4_176 rfl nd_X5_finding ⟨(Nat.le_of_ble_eq_true rfl), (Nat.le_of_ble_eq_true rfl)⟩ (Nat.le_of_ble_eq_true rfl) dX5_uses_33 (fun H locs hX => ?_)
    exact x_iretW C hX hr hQ h dX5_uses_36
  refine i_iload_n C dX5_uses_11 rfl (lv_at hl 2 rfl) ?_
  refine i_iconst (v := 1) C dX5_uses_12 rfl ?_
  refine i_bipush (v := 99) C dX5_uses_13 rfl ?_
  obtain ⟨x3, e3, h⟩ := w_bdr h
  refine x_callSi C hX (c_X5_within (gl Γ) G  e3) [] rfl hl tw4_169 tw4_170 tw1_7 tw4_171 nd_X5_within ⟨(Nat.le_of_ble_eq_true rfl), (Nat.le_of_ble_eq_true rfl)⟩ (Nat.le_of_ble_eq_true rfl) dX5_uses_15 (fun H locs hX => ?_)
  refine i_if_eq (tgt := 30) C h dX5_uses_18 (by decide) (fun _ h => ?_) (fun _ h => ?_)
  · refine i_aload_n C dX5_uses_30 rfl (lv_at hl 0 rfl) ?_
    refine i_ldc C tw4_172 dX5_uses_31 ?_
    obtain ⟨x4, m2, e4, h⟩ := w_bdw h
    refine x_callVi C hX (fg_37_0 G) (c_X5_finding (gl Γ) G  e4) [] rfl hl tw4_173 tw4_175 ts1_15 tw1_7 tw4_176 rfl nd_X5_finding ⟨(Nat.le_of_ble_eq_true rfl), (Nat.le_of_ble_eq_true rfl)⟩ (Nat.le_of_ble_eq_true rfl) dX5_uses_33 (fun H locs hX => ?_)
    exact x_iretW C hX hr hQ h dX5_uses_36
  refine i_aload_n C dX5_uses_21 rfl (lv_at hl 0 rfl) ?_
  refine i_iload_n C dX5_uses_22 rfl (lv_at hl 1 rfl) ?_
  refine i_iload_n C dX5_uses_23 rfl (lv_at hl 2 rfl) ?_
  obtain ⟨x5, m3, e5, h⟩ := w_bdw h
  refine x_callVi C hX (fg_37_0 G) (c_X5_usedIn (gl Γ) G  e5) [] rfl hl tw5_198 tw5_200 ts3_14 tw1_7 tw5_201 rfl nd_X5_usedIn ⟨(Nat.le_of_ble_eq_true rfl), (Nat.le_of_ble_eq_true rfl)⟩ (Nat.le_of_ble_eq_true rfl) dX5_uses_24 (fun H locs hX => ?_)
  refine i_goto (tgt := 36) C dX5_uses_27 (by decide) ?_
  exact x_iretW C hX hr hQ h dX5_uses_36
def L_X5_hunger_20 (p1 : Int32) (k1 : Int32 → MM → Option (Int32 × MM)) : Nat → Int32 → MM → Option (Int32 × MM)
  | 0, _, _ => none
  | fu + 1, x4, m3 => if 99 < x4 then (k1 x4 m3) else (bdw (f_X5_usedIn p1 x4 m3) fun x5 m4 => ldi m4 38 152 1 fun x6 => if x5 ≤ x6 then (k1 x4 m4) else (lt_ (x4 + 1) fun x7 => L_X5_hunger_20 p1 k1 fu x7 m4))
def f_X5_hunger (p1 : Int32) (μ : MM) : Option (Int32 × MM) := bdr (f_X5_within p1 0 200) fun x1 => if x1 = 0 then (bdw (f_X5_finding (-1000001) μ) fun x8 m5 => some (x8, m5)) else (jn2 (fun (x2 : Int32) (m1 : MM) => if x2 ≤ 99 then (some (x2, m1)) else (bdw (f_X5_finding (-1000004) m1) fun x3 m2 => some (x3, m2))) fun k1 => L_X5_hunger_20 p1 k1 FU 1 μ)
theorem nd_X5_hunger : yX5_hunger.cls ≠ "java/lang/invoke/MethodHandle" ∧ yX5_hunger.cls ≠ "java/lang/invoke/VarHandle" ∧ (parseMethodDescriptor yX5_hunger.desc).map (fun d => d.parameters.length) = some 1 := by decide +kernel
set_option maxHeartbeats 4000000 in
set_option maxRecDepth 100000 in
theorem c_X5_hunger (l : Launch) (G : EN)  {p1 : Int32} {μ : MM} {r : Int32} {m : MM} (h : f_X5_hunger p1 μ = some (r, m)) : XM l G yX5_hunger cX5_hunger 3 (some .int) 9 204 [.ref (G.2.1 37), .int p1] μ (some (.int r)) m := by
  refine x_met (own := RX5) (by decide +kernel) rfl (Nat.le_of_ble_eq_true rfl) (fun Γ A H ls hg C hr hX hQ hl => ?_)
  have hl : lv_has ls 3 [(0, .ref (G.2.1 37)), (1, .int p1)] := hl
  unfold f_X5_hunger at h
  refine i_iload_n C dX5_hunger_0 rfl (lv_at hl 1 rfl) ?_
  refine i_iconst (v := 0) C dX5_hunger_1 rfl ?_
  refine i_sipush (v := 200) C dX5_hunger_2 rfl ?_
  obtain ⟨x1, e1, h⟩ := w_bdr h
  refine x_callSi C hX (c_X5_within (gl Γ) G  e1) [] rfl hl tw4_169 tw4_170 tw1_7 tw4_171 nd_X5_within ⟨(Nat.le_of_ble_eq_true rfl), (Nat.le_of_ble_eq_true rfl)⟩ (Nat.le_of_ble_eq_true rfl) dX5_hunger_5 (fun H locs hX => ?_)
  refine i_if_ne (tgt := 18) C h dX5_hunger_8 (by decide) (fun _ h => ?_) (fun _ h => ?_)
  · refine i_iconst (v := 1) C dX5_hunger_18 rfl ?_
    refine i_istore_n C [(2, .int 1), (0, .ref (G.2.1 37)), (1, .int p1)] dX5_hunger_19 rfl hl (by decide) rfl (fun ls hl => ?_)
    refine w_jn2 (fun (x2 : Int32) (m1 : MM) => ∀ (H : Heap) (locs : List Loc) (ls : Array Slot), lv_has ls 3 [(0, .ref (G.2.1 37)), (2, .int x2)] → XW G A (gs Γ) H locs m1 → WX Γ H locs 47 ls []) h (fun x2 m1 h H locs ls hl hX => ?_) (fun k1 J1 h => ?_)
    · refine i_iload_n C dX5_hunger_47 rfl (lv_at hl 1 rfl) ?_
      refine i_bipush (v := 99) C dX5_hunger_48 rfl ?_
      refine i_icmp_le (tgt := 62) C h dX5_hunger_50 (by decide) (fun _ h => ?_) (fun _ h => ?_)
      · refine i_iload_n C dX5_hunger_62 rfl (lv_at hl 1 rfl) ?_
        exact x_iretW C hX hr hQ h dX5_hunger_63
      refine i_aload_n C dX5_hunger_53 rfl (lv_at hl 0 rfl) ?_
      refine i_ldc C tw5_109 dX5_hunger_54 ?_
      obtain ⟨x3, m2, e2, h⟩ := w_bdw h
      refine x_callVi C hX (fg_37_0 G) (c_X5_finding (gl Γ) G  e2) [] rfl hl tw4_173 tw4_175 ts1_15 tw1_7 tw4_176 rfl nd_X5_finding ⟨(Nat.le_of_ble_eq_true rfl), (Nat.le_of_ble_eq_true rfl)⟩ (Nat.le_of_ble_eq_true rfl) dX5_hunger_56 (fun H locs hX => ?_)
      refine i_goto (tgt := 63) C dX5_hunger_59 (by decide) ?_
      exact x_iretW C hX hr hQ h dX5_hunger_63
    have L1 : ∀ (fu : Nat) (x4 : Int32) (m3 : MM) (H : Heap) (locs : List Loc) (ls : Array Slot), L_X5_hunger_20 p1 k1 fu x4 m3 = some (r, m) → lv_has ls 3 [(0, .ref (G.2.1 37)), (1, .int p1), (2, .int x4)] → XW G A (gs Γ) H locs m3 → WX Γ H locs 20 ls [] := by
      intro fu
      induction fu with
      | zero =>
        intro x4 m3 H locs ls h
        rw [L_X5_hunger_20] at h
        cases h
      | succ fu ih =>
        intro x4 m3 H locs ls h hl hX
        rw [L_X5_hunger_20] at h
        refine i_iload_n C dX5_hunger_20 rfl (lv_at hl 2 rfl) ?_
        refine i_bipush (v := 99) C dX5_hunger_21 rfl ?_
        refine i_icmp_gt (tgt := 47) C h dX5_hunger_23 (by decide) (fun _ h => ?_) (fun _ h => ?_)
        · exact J1 _ _ h _ _ _ (lv_sub hl [0, 2] rfl) hX
        refine i_aload_n C dX5_hunger_26 rfl (lv_at hl 0 rfl) ?_
        refine i_iload_n C dX5_hunger_27 rfl (lv_at hl 1 rfl) ?_
        refine i_iload_n C dX5_hunger_28 rfl (lv_at hl 2 rfl) ?_
        obtain ⟨x5, m4, e3, h⟩ := w_bdw h
        refine x_callVi C hX (fg_37_0 G) (c_X5_usedIn (gl Γ) G  e3) [] rfl hl tw5_198 tw5_200 ts3_14 tw1_7 tw5_201 rfl nd_X5_usedIn ⟨(Nat.le_of_ble_eq_true rfl), (Nat.le_of_ble_eq_true rfl)⟩ (Nat.le_of_ble_eq_true rfl) dX5_hunger_29 (fun H locs hX => ?_)
        refine i_aload_n C dX5_hunger_32 rfl (lv_at hl 0 rfl) ?_
        refine x_get C hX (fg_37_0 G) tw4_83 dX5_hunger_33 ?_
        refine i_iconst (v := 1) C dX5_hunger_36 rfl ?_
        refine x_iald C hX (ai_38 G) h dX5_hunger_37 (fun x6 h => ?_)
        refine i_icmp_le (tgt := 47) C h dX5_hunger_38 (by decide) (fun _ h => ?_) (fun _ h => ?_)
        · exact J1 _ _ h _ _ _ (lv_sub hl [0, 2] rfl) hX
        refine i_iinc C (j := 2) (fun x7 => [(2, .int x7), (0, .ref (G.2.1 37)), (1, .int p1)]) h dX5_hunger_41 hl rfl rfl (by decide) (fun _ => rfl) (fun x7 ls h hl => ?_)
        refine i_goto (tgt := 20) C dX5_hunger_44 (by decide) ?_
        exact ih _ _ _ _ _ h (lv_sub hl [1, 2, 0] rfl) hX
    exact L1 FU _ _ _ _ _ h (lv_sub hl [1, 2, 0] rfl) hX
  refine i_aload_n C dX5_hunger_11 rfl (lv_at hl 0 rfl) ?_
  refine i_ldc C tw4_172 dX5_hunger_12 ?_
  obtain ⟨x8, m5, e4, h⟩ := w_bdw h
  refine x_callVi C hX (fg_37_0 G) (c_X5_finding (gl Γ) G  e4) [] rfl hl tw4_173 tw4_175 ts1_15 tw1_7 tw4_176 rfl nd_X5_finding ⟨(Nat.le_of_ble_eq_true rfl), (Nat.le_of_ble_eq_true rfl)⟩ (Nat.le_of_ble_eq_true rfl) dX5_hunger_14 (fun H locs hX => ?_)
  exact x_iretW C hX hr hQ h dX5_hunger_17
def L_X5_satSo_16 (p1 : Int32) (p2 : Int32) (k1 : Int32 → MM → Option (Int32 × MM)) : Nat → Int32 → Int32 → MM → Option (Int32 × MM)
  | 0, _, _, _ => none
  | fu + 1, x2, x3, m4 => ldi m4 48 4 p1 fun x4 => if x4 ≤ x3 then (k1 x2 m4) else (if x2 = 0 then (k1 x2 m4) else (bdr (f_X5_errs p2 m4) fun x5 => ldi m4 49 160 ((40 * p1) + x3) fun x6 => jn1 (fun (x7 : Int32) => bdr (f_X5_watch m4) fun m5 => lt_ (x3 + 1) fun x8 => L_X5_satSo_16 p1 p2 k1 fu x7 x8 m5) fun k2 => if x5 = x6 then (k2 1) else (k2 0)))
def f_X5_satSo (p1 : Int32) (p2 : Int32) (μ : MM) : Option (Int32 × MM) := bdr (f_X5_copyRow 38 152 40 152 μ) fun m1 => jn2 (fun (x1 : Int32) (m2 : MM) => bdr (f_X5_copyRow 40 152 38 152 m2) fun m3 => gd (x1 = 0 ∨ x1 = 1) (some (x1, m3))) fun k1 => L_X5_satSo_16 p1 p2 k1 FU 1 0 m1
theorem nd_X5_satSo : yX5_satSo.cls ≠ "java/lang/invoke/MethodHandle" ∧ yX5_satSo.cls ≠ "java/lang/invoke/VarHandle" ∧ (parseMethodDescriptor yX5_satSo.desc).map (fun d => d.parameters.length) = some 2 := by decide +kernel
set_option maxHeartbeats 4000000 in
set_option maxRecDepth 100000 in
theorem c_X5_satSo (l : Launch) (G : EN)  {p1 p2 : Int32} {μ : MM} {r : Int32} {m : MM} (h : f_X5_satSo p1 p2 μ = some (r, m)) : XM l G yX5_satSo cX5_satSo 5 (some .boolean) 8 179 [.ref (G.2.1 37), .int p1, .int p2] μ (some (.int r)) m := by
  refine x_met (own := RX5) (by decide +kernel) rfl (Nat.le_of_ble_eq_true rfl) (fun Γ A H ls hg C hr hX hQ hl => ?_)
  have hl : lv_has ls 5 [(0, .ref (G.2.1 37)), (1, .int p1), (2, .int p2)] := hl
  unfold f_X5_satSo at h
  refine i_aload_n C dX5_satSo_0 rfl (lv_at hl 0 rfl) ?_
  refine x_get C hX (fg_37_0 G) tw4_83 dX5_satSo_1 ?_
  refine i_aload_n C dX5_satSo_4 rfl (lv_at hl 0 rfl) ?_
  refine x_get C hX (fg_37_2 G) tw4_85 dX5_satSo_5 ?_
  obtain ⟨m1, e1, h⟩ := w_bdr h
  refine x_callSv C hX (c_X5_copyRow (gl Γ) G (ai_38 G) (ai_40 G) e1) [] rfl hl tw5_89 tw5_90 tw1_7 tw5_91 nd_X5_copyRow ⟨(Nat.le_of_ble_eq_true rfl), (Nat.le_of_ble_eq_true rfl)⟩ (Nat.le_of_ble_eq_true rfl) dX5_satSo_8 (fun H locs hX => ?_)
  refine i_iconst (v := 1) C dX5_satSo_11 rfl ?_
  refine i_istore_n C [(3, .int 1), (0, .ref (G.2.1 37)), (1, .int p1), (2, .int p2)] dX5_satSo_12 rfl hl (by decide) rfl (fun ls hl => ?_)
  refine i_iconst (v := 0) C dX5_satSo_13 rfl ?_
  refine i_istore C [(4, .int 0), (3, .int 1), (0, .ref (G.2.1 37)), (1, .int p1), (2, .int p2)] dX5_satSo_14 hl (by decide) rfl (fun ls hl => ?_)
  refine w_jn2 (fun (x1 : Int32) (m2 : MM) => ∀ (H : Heap) (locs : List Loc) (ls : Array Slot), lv_has ls 5 [(0, .ref (G.2.1 37)), (3, .int x1)] → XW G A (gs Γ) H locs m2 → WX Γ H locs 67 ls []) h (fun x1 m2 h H locs ls hl hX => ?_) (fun k1 J1 h => ?_)
  · refine i_aload_n C dX5_satSo_67 rfl (lv_at hl 0 rfl) ?_
    refine x_get C hX (fg_37_2 G) tw4_85 dX5_satSo_68 ?_
    refine i_aload_n C dX5_satSo_71 rfl (lv_at hl 0 rfl) ?_
    refine x_get C hX (fg_37_0 G) tw4_83 dX5_satSo_72 ?_
    obtain ⟨m3, e2, h⟩ := w_bdr h
    refine x_callSv C hX (c_X5_copyRow (gl Γ) G (ai_40 G) (ai_38 G) e2) [] rfl hl tw5_89 tw5_90 tw1_7 tw5_91 nd_X5_copyRow ⟨(Nat.le_of_ble_eq_true rfl), (Nat.le_of_ble_eq_true rfl)⟩ (Nat.le_of_ble_eq_true rfl) dX5_satSo_75 (fun H locs hX => ?_)
    refine i_iload_n C dX5_satSo_78 rfl (lv_at hl 1 rfl) ?_
    exact x_zretW C hX hr hQ h dX5_satSo_79
  have L1 : ∀ (fu : Nat) (x2 : Int32) (x3 : Int32) (m4 : MM) (H : Heap) (locs : List Loc) (ls : Array Slot), L_X5_satSo_16 p1 p2 k1 fu x2 x3 m4 = some (r, m) → lv_has ls 5 [(0, .ref (G.2.1 37)), (1, .int p1), (2, .int p2), (3, .int x2), (4, .int x3)] → XW G A (gs Γ) H locs m4 → WX Γ H locs 16 ls [] := by
    intro fu
    induction fu with
    | zero =>
      intro x2 x3 m4 H locs ls h
      rw [L_X5_satSo_16] at h
      cases h
    | succ fu ih =>
      intro x2 x3 m4 H locs ls h hl hX
      rw [L_X5_satSo_16] at h
      refine i_iload C dX5_satSo_16 (lv_at hl 4 rfl) ?_
      refine i_aload_n C dX5_satSo_18 rfl (lv_at hl 0 rfl) ?_
      refine x_get C hX (fg_37_23 G) tw4_106 dX5_satSo_19 ?_
      refine i_iload_n C dX5_satSo_22 rfl (lv_at hl 1 rfl) ?_
      refine x_iald C hX (ai_48 G) h dX5_satSo_23 (fun x4 h => ?_)
      refine i_icmp_ge (tgt := 67) C h dX5_satSo_24 (by decide) (fun _ h => ?_) (fun _ h => ?_)
      · exact J1 _ _ h _ _ _ (lv_sub hl [0, 3] rfl) hX
      refine i_iload_n C dX5_satSo_27 rfl (lv_at hl 3 rfl) ?_
      refine i_if_eq (tgt := 67) C h dX5_satSo_28 (by decide) (fun _ h => ?_) (fun _ h => ?_)
      · exact J1 _ _ h _ _ _ (lv_sub hl [0, 3] rfl) hX
      refine i_aload_n C dX5_satSo_31 rfl (lv_at hl 0 rfl) ?_
      refine i_iload_n C dX5_satSo_32 rfl (lv_at hl 2 rfl) ?_
      obtain ⟨x5, e3, h⟩ := w_bdr h
      refine x_callVi C hX (fg_37_0 G) (c_X5_errs (gl Γ) G  e3) [] rfl hl tw4_197 tw4_199 ts2_3 tw1_7 tw4_200 rfl nd_X5_errs ⟨(Nat.le_of_ble_eq_true rfl), (Nat.le_of_ble_eq_true rfl)⟩ (Nat.le_of_ble_eq_true rfl) dX5_satSo_33 (fun H locs hX => ?_)
      refine i_aload_n C dX5_satSo_36 rfl (lv_at hl 0 rfl) ?_
      refine x_get C hX (fg_37_24 G) tw4_107 dX5_satSo_37 ?_
      refine i_bipush (v := 40) C dX5_satSo_40 rfl ?_
      refine i_iload_n C dX5_satSo_42 rfl (lv_at hl 1 rfl) ?_
      refine i_imul C dX5_satSo_43 ?_
      refine i_iload C dX5_satSo_44 (lv_at hl 4 rfl) ?_
      refine i_iadd C dX5_satSo_46 ?_
      refine x_iald C hX (ai_49 G) h dX5_satSo_47 (fun x6 h => ?_)
      refine w_jn1 (fun (x7 : Int32) => ∀ (H : Heap) (locs : List Loc) (ls : Array Slot), lv_has ls 5 [(0, .ref (G.2.1 37)), (1, .int p1), (2, .int p2), (4, .int x3)] → XW G A (gs Γ) H locs m4 → WX Γ H locs 56 ls [.int x7]) h (fun x7 h H locs ls hl hX => ?_) (fun k2 J2 h => ?_)
      · refine i_istore_n C [(3, .int x7), (0, .ref (G.2.1 37)), (1, .int p1), (2, .int p2), (4, .int x3)] dX5_satSo_56 rfl hl (by decide) rfl (fun ls hl => ?_)
        refine i_aload_n C dX5_satSo_57 rfl (lv_at hl 1 rfl) ?_
        obtain ⟨m5, e4, h⟩ := w_bdr h
        refine x_callVv C hX (fg_37_0 G) (c_X5_watch (gl Γ) G  e4) [] rfl hl tw5_55 tw5_57 ts2_15 tw1_7 tw5_58 rfl nd_X5_watch ⟨(Nat.le_of_ble_eq_true rfl), (Nat.le_of_ble_eq_true rfl)⟩ (Nat.le_of_ble_eq_true rfl) dX5_satSo_58 (fun H locs hX => ?_)
        refine i_iinc C (j := 4) (fun x8 => [(4, .int x8), (3, .int x7), (0, .ref (G.2.1 37)), (1, .int p1), (2, .int p2)]) h dX5_satSo_61 hl rfl rfl (by decide) (fun _ => rfl) (fun x8 ls h hl => ?_)
        refine i_goto (tgt := 16) C dX5_satSo_64 (by decide) ?_
        exact ih _ _ _ _ _ _ h (lv_sub hl [2, 3, 4, 1, 0] rfl) hX
      refine i_icmp_ne (tgt := 55) C h dX5_satSo_48 (by decide) (fun _ h => ?_) (fun _ h => ?_)
      · refine i_iconst (v := 0) C dX5_satSo_55 rfl ?_
        exact J2 _ h _ _ _ (lv_sub hl [0, 1, 2, 4] rfl) hX
      refine i_iconst (v := 1) C dX5_satSo_51 rfl ?_
      refine i_goto (tgt := 56) C dX5_satSo_52 (by decide) ?_
      exact J2 _ h _ _ _ (lv_sub hl [0, 1, 2, 4] rfl) hX
  exact L1 FU _ _ _ _ _ _ h (lv_sub hl [2, 3, 4, 1, 0] rfl) hX
def L_X5_fitting_15 (p1 : Int32) (p2 : Int32) (p3 : Int32) (p4 : Int32) (p5 : Int32) (k1 : Int64 → MM → Option (Int64 × MM)) : Nat → Int64 → Int32 → MM → Option (Int64 × MM)
  | 0, _, _, _ => none
  | fu + 1, x4, x5, m3 => if p5 < x5 then (k1 x4 m3) else (bdr (f_X5_at p2 p3) fun x6 => sti m3 38 152 x6 x5 fun m4 => bdw (f_X5_satSo p1 p2 m4) fun x7 m5 => jn1 (fun (x8 : Int64) => lt_ ((x4 ||| x8)) fun x9 => lt_ (x5 + 1) fun x10 => L_X5_fitting_15 p1 p2 p3 p4 p5 k1 fu x9 x10 m5) fun k2 => if x7 = 0 then (k2 0) else (k2 (lsl 1 (x5 - p4))))
def f_X5_fitting (p1 : Int32) (p2 : Int32) (p3 : Int32) (p4 : Int32) (p5 : Int32) (μ : MM) : Option (Int64 × MM) := bdr (f_X5_catIs p2 p3 μ) fun x1 => jn2 (fun (x2 : Int64) (m1 : MM) => bdr (f_X5_at p2 p3) fun x3 => sti m1 38 152 x3 x1 fun m2 => some (x2, m2)) fun k1 => L_X5_fitting_15 p1 p2 p3 p4 p5 k1 FU 0 p4 μ
theorem nd_X5_fitting : yX5_fitting.cls ≠ "java/lang/invoke/MethodHandle" ∧ yX5_fitting.cls ≠ "java/lang/invoke/VarHandle" ∧ (parseMethodDescriptor yX5_fitting.desc).map (fun d => d.parameters.length) = some 5 := by decide +kernel
set_option maxHeartbeats 4000000 in
set_option maxRecDepth 100000 in
theorem c_X5_fitting (l : Launch) (G : EN)  {p1 p2 p3 p4 p5 : Int32} {μ : MM} {r : Int64} {m : MM} (h : f_X5_fitting p1 p2 p3 p4 p5 μ = some (r, m)) : XM l G yX5_fitting cX5_fitting 10 (some .long) 9 203 [.ref (G.2.1 37), .int p1, .int p2, .int p3, .int p4, .int p5] μ (some (.long r)) m := by
  refine x_met (own := RX5) (by decide +kernel) rfl (Nat.le_of_ble_eq_true rfl) (fun Γ A H ls hg C hr hX hQ hl => ?_)
  have hl : lv_has ls 10 [(0, .ref (G.2.1 37)), (1, .int p1), (2, .int p2), (3, .int p3), (4, .int p4), (5, .int p5)] := hl
  unfold f_X5_fitting at h
  refine i_aload_n C dX5_fitting_0 rfl (lv_at hl 0 rfl) ?_
  refine i_iload_n C dX5_fitting_1 rfl (lv_at hl 2 rfl) ?_
  refine i_iload_n C dX5_fitting_2 rfl (lv_at hl 3 rfl) ?_
  obtain ⟨x1, e1, h⟩ := w_bdr h
  refine x_callVi C hX (fg_37_0 G) (c_X5_catIs (gl Γ) G  e1) [] rfl hl tw4_193 tw4_195 ts2_2 tw1_7 tw4_196 rfl nd_X5_catIs ⟨(Nat.le_of_ble_eq_true rfl), (Nat.le_of_ble_eq_true rfl)⟩ (Nat.le_of_ble_eq_true rfl) dX5_fitting_3 (fun H locs hX => ?_)
  refine i_istore C [(6, .int x1), (0, .ref (G.2.1 37)), (1, .int p1), (2, .int p2), (3, .int p3), (4, .int p4), (5, .int p5)] dX5_fitting_6 hl (by decide) rfl (fun ls hl => ?_)
  refine i_lconst (v := 0) C dX5_fitting_8 rfl ?_
  refine i_lstore C [(7, .long 0), (6, .int x1), (0, .ref (G.2.1 37)), (1, .int p1), (2, .int p2), (3, .int p3), (4, .int p4), (5, .int p5)] dX5_fitting_9 hl (by decide) rfl (fun ls hl => ?_)
  refine i_iload C dX5_fitting_11 (lv_at hl 6 rfl) ?_
  refine i_istore C [(9, .int p4), (7, .long 0), (6, .int x1), (0, .ref (G.2.1 37)), (1, .int p1), (2, .int p2), (3, .int p3), (4, .int p4), (5, .int p5)] dX5_fitting_13 hl (by decide) rfl (fun ls hl => ?_)
  refine w_jn2 (fun (x2 : Int64) (m1 : MM) => ∀ (H : Heap) (locs : List Loc) (ls : Array Slot), lv_has ls 10 [(0, .ref (G.2.1 37)), (2, .int p2), (3, .int p3), (6, .int x1), (7, .long x2)] → XW G A (gs Γ) H locs m1 → WX Γ H locs 65 ls []) h (fun x2 m1 h H locs ls hl hX => ?_) (fun k1 J1 h => ?_)
  · refine i_aload_n C dX5_fitting_65 rfl (lv_at hl 0 rfl) ?_
    refine x_get C hX (fg_37_0 G) tw4_83 dX5_fitting_66 ?_
    refine i_iload_n C dX5_fitting_69 rfl (lv_at hl 1 rfl) ?_
    refine i_iload_n C dX5_fitting_70 rfl (lv_at hl 2 rfl) ?_
    obtain ⟨x3, e2, h⟩ := w_bdr h
    refine x_callSi C hX (c_X5_at (gl Γ) G  e2) [.ref (G.2.1 38)] rfl hl tw4_182 tw4_183 tw1_7 tw4_184 nd_X5_at ⟨(Nat.le_of_ble_eq_true rfl), (Nat.le_of_ble_eq_true rfl)⟩ (Nat.le_of_ble_eq_true rfl) dX5_fitting_71 (fun H locs hX => ?_)
    refine i_iload C dX5_fitting_74 (lv_at hl 3 rfl) ?_
    refine x_iast C hX (ai_38 G) h dX5_fitting_76 (fun H locs m2 h hX => ?_)
    refine i_lload C dX5_fitting_77 (lv_at hl 4 rfl) ?_
    exact x_lretW C hX hr hQ h dX5_fitting_79
  have L1 : ∀ (fu : Nat) (x4 : Int64) (x5 : Int32) (m3 : MM) (H : Heap) (locs : List Loc) (ls : Array Slot), L_X5_fitting_15 p1 p2 p3 p4 p5 k1 fu x4 x5 m3 = some (r, m) → lv_has ls 10 [(0, .ref (G.2.1 37)), (1, .int p1), (2, .int p2), (3, .int p3), (4, .int p4), (5, .int p5), (6, .int x1), (7, .long x4), (9, .int x5)] → XW G A (gs Γ) H locs m3 → WX Γ H locs 15 ls [] := by
    intro fu
    induction fu with
    | zero =>
      intro x4 x5 m3 H locs ls h
      rw [L_X5_fitting_15] at h
      cases h
    | succ fu ih =>
      intro x4 x5 m3 H locs ls h hl hX
      rw [L_X5_fitting_15] at h
      refine i_iload C dX5_fitting_15 (lv_at hl 8 rfl) ?_
      refine i_iload C dX5_fitting_17 (lv_at hl 5 rfl) ?_
      refine i_icmp_gt (tgt := 65) C h dX5_fitting_19 (by decide) (fun _ h => ?_) (fun _ h => ?_)
      · exact J1 _ _ h _ _ _ (lv_sub hl [0, 2, 3, 6, 7] rfl) hX
      refine i_aload_n C dX5_fitting_22 rfl (lv_at hl 0 rfl) ?_
      refine x_get C hX (fg_37_0 G) tw4_83 dX5_fitting_23 ?_
      refine i_iload_n C dX5_fitting_26 rfl (lv_at hl 2 rfl) ?_
      refine i_iload_n C dX5_fitting_27 rfl (lv_at hl 3 rfl) ?_
      obtain ⟨x6, e3, h⟩ := w_bdr h
      refine x_callSi C hX (c_X5_at (gl Γ) G  e3) [.ref (G.2.1 38)] rfl hl tw4_182 tw4_183 tw1_7 tw4_184 nd_X5_at ⟨(Nat.le_of_ble_eq_true rfl), (Nat.le_of_ble_eq_true rfl)⟩ (Nat.le_of_ble_eq_true rfl) dX5_fitting_28 (fun H locs hX => ?_)
      refine i_iload C dX5_fitting_31 (lv_at hl 8 rfl) ?_
      refine x_iast C hX (ai_38 G) h dX5_fitting_33 (fun H locs m4 h hX => ?_)
      refine i_lload C dX5_fitting_34 (lv_at hl 7 rfl) ?_
      refine i_aload_n C dX5_fitting_36 rfl (lv_at hl 0 rfl) ?_
      refine i_iload_n C dX5_fitting_37 rfl (lv_at hl 1 rfl) ?_
      refine i_iload_n C dX5_fitting_38 rfl (lv_at hl 2 rfl) ?_
      obtain ⟨x7, m5, e4, h⟩ := w_bdw h
      refine x_callVi C hX (fg_37_0 G) (c_X5_satSo (gl Γ) G  e4) [.long x4] rfl hl tw5_222 tw5_224 ts4_1 tw1_7 tw5_225 rfl nd_X5_satSo ⟨(Nat.le_of_ble_eq_true rfl), (Nat.le_of_ble_eq_true rfl)⟩ (Nat.le_of_ble_eq_true rfl) dX5_fitting_39 (fun H locs hX => ?_)
      refine w_jn1 (fun (x8 : Int64) => ∀ (H : Heap) (locs : List Loc) (ls : Array Slot), lv_has ls 10 [(0, .ref (G.2.1 37)), (1, .int p1), (2, .int p2), (3, .int p3), (4, .int p4), (5, .int p5), (6, .int x1), (9, .int x5)] → XW G A (gs Γ) H locs m5 → WX Γ H locs 56 ls [.long x8, .long x4]) h (fun x8 h H locs ls hl hX => ?_) (fun k2 J2 h => ?_)
      · refine i_lor C dX5_fitting_56 ?_
        refine i_lstoreL C (fun x9 => [(7, .long x9), (0, .ref (G.2.1 37)), (1, .int p1), (2, .int p2), (3, .int p3), (4, .int p4), (5, .int p5), (6, .int x1), (9, .int x5)]) h dX5_fitting_57 hl (by decide) (fun _ => rfl) (fun x9 ls h hl => ?_)
        refine i_iinc C (j := 8) (fun x10 => [(9, .int x10), (7, .long x9), (0, .ref (G.2.1 37)), (1, .int p1), (2, .int p2), (3, .int p3), (4, .int p4), (5, .int p5), (6, .int x1)]) h dX5_fitting_59 hl rfl rfl (by decide) (fun _ => rfl) (fun x10 ls h hl => ?_)
        refine i_goto (tgt := 15) C dX5_fitting_62 (by decide) ?_
        exact ih _ _ _ _ _ _ h (lv_sub hl [2, 3, 4, 5, 6, 7, 8, 1, 0] rfl) hX
      refine i_if_eq (tgt := 55) C h dX5_fitting_42 (by decide) (fun _ h => ?_) (fun _ h => ?_)
      · refine i_lconst (v := 0) C dX5_fitting_55 rfl ?_
        exact J2 _ h _ _ _ (lv_sub hl [0, 1, 2, 3, 4, 5, 6, 8] rfl) hX
      refine i_lconst (v := 1) C dX5_fitting_45 rfl ?_
      refine i_iload C dX5_fitting_46 (lv_at hl 8 rfl) ?_
      refine i_iload C dX5_fitting_48 (lv_at hl 4 rfl) ?_
      refine i_isub C dX5_fitting_50 ?_
      refine i_lshl C dX5_fitting_51 ?_
      refine i_goto (tgt := 56) C dX5_fitting_52 (by decide) ?_
      exact J2 _ h _ _ _ (lv_sub hl [0, 1, 2, 3, 4, 5, 6, 8] rfl) hX
  exact L1 FU _ _ _ _ _ _ h (lv_sub hl [3, 4, 5, 6, 7, 8, 2, 1, 0] rfl) hX
def f_X5_isSheet (p0 : Int32) : Option Int32 := bdr (f_X5_within p0 0 3) fun x1 => gd (x1 = 0 ∨ x1 = 1) (some x1)
theorem nd_X5_isSheet : yX5_isSheet.cls ≠ "java/lang/invoke/MethodHandle" ∧ yX5_isSheet.cls ≠ "java/lang/invoke/VarHandle" ∧ (parseMethodDescriptor yX5_isSheet.desc).map (fun d => d.parameters.length) = some 1 := by decide +kernel
set_option maxHeartbeats 4000000 in
set_option maxRecDepth 100000 in
theorem c_X5_isSheet (l : Launch) (G : EN)  {p0 : Int32} {μ : MM} {r : Int32} (h : f_X5_isSheet p0 = some r) : XM l G yX5_isSheet cX5_isSheet 1 (some .boolean) 1 22 [.int p0] μ (some (.int r)) μ := by
  refine x_met (own := RX5) (by decide +kernel) rfl (Nat.le_of_ble_eq_true rfl) (fun Γ A H ls hg C hr hX hQ hl => ?_)
  have hl : lv_has ls 1 [(0, .int p0)] := hl
  unfold f_X5_isSheet at h
  refine i_iload_n C dX5_isSheet_0 rfl (lv_at hl 0 rfl) ?_
  refine i_iconst (v := 0) C dX5_isSheet_1 rfl ?_
  refine i_iconst (v := 3) C dX5_isSheet_2 rfl ?_
  obtain ⟨x1, e1, h⟩ := w_bdr h
  refine x_callSi C hX (c_X5_within (gl Γ) G  e1) [] rfl hl tw4_169 tw4_170 tw1_7 tw4_171 nd_X5_within ⟨(Nat.le_of_ble_eq_true rfl), (Nat.le_of_ble_eq_true rfl)⟩ (Nat.le_of_ble_eq_true rfl) dX5_isSheet_3 (fun H locs hX => ?_)
  exact x_zretR C hX hr hQ h dX5_isSheet_6
def f_X5_lacks (p1 : Int32) (μ : MM) : Option Int32 := bdr (f_X5_isSheet p1) fun x1 => if x1 = 0 then (some (-1000001)) else (ldi μ 47 4 p1 fun x2 => if x2 = 0 then (some (-1000006)) else (some 0))
theorem nd_X5_lacks : yX5_lacks.cls ≠ "java/lang/invoke/MethodHandle" ∧ yX5_lacks.cls ≠ "java/lang/invoke/VarHandle" ∧ (parseMethodDescriptor yX5_lacks.desc).map (fun d => d.parameters.length) = some 1 := by decide +kernel
set_option maxHeartbeats 4000000 in
set_option maxRecDepth 100000 in
theorem c_X5_lacks (l : Launch) (G : EN)  {p1 : Int32} {μ : MM} {r : Int32} (h : f_X5_lacks p1 μ = some r) : XM l G yX5_lacks cX5_lacks 2 (some .int) 2 42 [.ref (G.2.1 37), .int p1] μ (some (.int r)) μ := by
  refine x_met (own := RX5) (by decide +kernel) rfl (Nat.le_of_ble_eq_true rfl) (fun Γ A H ls hg C hr hX hQ hl => ?_)
  have hl : lv_has ls 2 [(0, .ref (G.2.1 37)), (1, .int p1)] := hl
  unfold f_X5_lacks at h
  refine i_iload_n C dX5_lacks_0 rfl (lv_at hl 1 rfl) ?_
  obtain ⟨x1, e1, h⟩ := w_bdr h
  refine x_callSi C hX (c_X5_isSheet (gl Γ) G  e1) [] rfl hl tw5_214 tw5_215 tw1_7 tw5_216 nd_X5_isSheet ⟨(Nat.le_of_ble_eq_true rfl), (Nat.le_of_ble_eq_true rfl)⟩ (Nat.le_of_ble_eq_true rfl) dX5_lacks_1 (fun H locs hX => ?_)
  refine i_if_ne (tgt := 12) C h dX5_lacks_4 (by decide) (fun _ h => ?_) (fun _ h => ?_)
  · refine i_aload_n C dX5_lacks_12 rfl (lv_at hl 0 rfl) ?_
    refine x_get C hX (fg_37_22 G) tw4_105 dX5_lacks_13 ?_
    refine i_iload_n C dX5_lacks_16 rfl (lv_at hl 1 rfl) ?_
    refine x_iald C hX (ai_47 G) h dX5_lacks_17 (fun x2 h => ?_)
    refine i_if_ne (tgt := 26) C h dX5_lacks_18 (by decide) (fun _ h => ?_) (fun _ h => ?_)
    · refine i_iconst (v := 0) C dX5_lacks_26 rfl ?_
      exact x_iretR C hX hr hQ h dX5_lacks_27
    refine i_ldc C tw5_217 dX5_lacks_21 ?_
    refine i_goto (tgt := 27) C dX5_lacks_23 (by decide) ?_
    exact x_iretR C hX hr hQ h dX5_lacks_27
  refine i_ldc C tw4_172 dX5_lacks_7 ?_
  refine i_goto (tgt := 27) C dX5_lacks_9 (by decide) ?_
  exact x_iretR C hX hr hQ h dX5_lacks_27
def f_X5_kinds (p1 : Int32) (p2 : Int32) (μ : MM) : Option (Int32 × MM) := bdr (f_X5_lacks p1 μ) fun x1 => if x1 = 0 then (bdr (f_X5_isCat p2 μ) fun x2 => if x2 = 0 then (bdw (f_X5_finding (-1000001) μ) fun x3 m1 => some (x3, m1)) else (bdw (f_X5_fitting p1 p2 0 0 6 μ) fun x4 m2 => some ((x4).toInt32, m2))) else (bdr (f_X5_lacks p1 μ) fun x5 => bdw (f_X5_finding x5 μ) fun x6 m3 => some (x6, m3))
theorem nd_X5_kinds : yX5_kinds.cls ≠ "java/lang/invoke/MethodHandle" ∧ yX5_kinds.cls ≠ "java/lang/invoke/VarHandle" ∧ (parseMethodDescriptor yX5_kinds.desc).map (fun d => d.parameters.length) = some 2 := by decide +kernel
set_option maxHeartbeats 4000000 in
set_option maxRecDepth 100000 in
theorem c_X5_kinds (l : Launch) (G : EN)  {p1 p2 : Int32} {μ : MM} {r : Int32} {m : MM} (h : f_X5_kinds p1 p2 μ = some (r, m)) : XM l G yX5_kinds cX5_kinds 3 (some .int) 10 232 [.ref (G.2.1 37), .int p1, .int p2] μ (some (.int r)) m := by
  refine x_met (own := RX5) (by decide +kernel) rfl (Nat.le_of_ble_eq_true rfl) (fun Γ A H ls hg C hr hX hQ hl => ?_)
  have hl : lv_has ls 3 [(0, .ref (G.2.1 37)), (1, .int p1), (2, .int p2)] := hl
  unfold f_X5_kinds at h
  refine i_aload_n C dX5_kinds_0 rfl (lv_at hl 0 rfl) ?_
  refine i_iload_n C dX5_kinds_1 rfl (lv_at hl 1 rfl) ?_
  obtain ⟨x1, e1, h⟩ := w_bdr h
  refine x_callVi C hX (fg_37_0 G) (c_X5_lacks (gl Γ) G  e1) [] rfl hl tw5_210 tw5_212 ts3_15 tw1_7 tw5_213 rfl nd_X5_lacks ⟨(Nat.le_of_ble_eq_true rfl), (Nat.le_of_ble_eq_true rfl)⟩ (Nat.le_of_ble_eq_true rfl) dX5_kinds_2 (fun H locs hX => ?_)
  refine i_if_eq (tgt := 18) C h dX5_kinds_5 (by decide) (fun _ h => ?_) (fun _ h => ?_)
  · refine i_aload_n C dX5_kinds_18 rfl (lv_at hl 0 rfl) ?_
    refine i_iload_n C dX5_kinds_19 rfl (lv_at hl 2 rfl) ?_
    obtain ⟨x2, e2, h⟩ := w_bdr h
    refine x_callVi C hX (fg_37_0 G) (c_X5_isCat (gl Γ) G  e2) [] rfl hl tw4_189 tw4_191 ts2_1 tw1_7 tw4_192 rfl nd_X5_isCat ⟨(Nat.le_of_ble_eq_true rfl), (Nat.le_of_ble_eq_true rfl)⟩ (Nat.le_of_ble_eq_true rfl) dX5_kinds_20 (fun H locs hX => ?_)
    refine i_if_eq (tgt := 40) C h dX5_kinds_23 (by decide) (fun _ h => ?_) (fun _ h => ?_)
    · refine i_aload_n C dX5_kinds_40 rfl (lv_at hl 0 rfl) ?_
      refine i_ldc C tw4_172 dX5_kinds_41 ?_
      obtain ⟨x3, m1, e3, h⟩ := w_bdw h
      refine x_callVi C hX (fg_37_0 G) (c_X5_finding (gl Γ) G  e3) [] rfl hl tw4_173 tw4_175 ts1_15 tw1_7 tw4_176 rfl nd_X5_finding ⟨(Nat.le_of_ble_eq_true rfl), (Nat.le_of_ble_eq_true rfl)⟩ (Nat.le_of_ble_eq_true rfl) dX5_kinds_43 (fun H locs hX => ?_)
      exact x_iretW C hX hr hQ h dX5_kinds_46
    refine i_aload_n C dX5_kinds_26 rfl (lv_at hl 0 rfl) ?_
    refine i_iload_n C dX5_kinds_27 rfl (lv_at hl 1 rfl) ?_
    refine i_iload_n C dX5_kinds_28 rfl (lv_at hl 2 rfl) ?_
    refine i_iconst (v := 0) C dX5_kinds_29 rfl ?_
    refine i_iconst (v := 0) C dX5_kinds_30 rfl ?_
    refine i_bipush (v := 6) C dX5_kinds_31 rfl ?_
    obtain ⟨x4, m2, e4, h⟩ := w_bdw h
    refine x_callVl C hX (fg_37_0 G) (c_X5_fitting (gl Γ) G  e4) [] rfl hl tw5_218 tw5_220 ts4_0 tw1_7 tw5_221 rfl nd_X5_fitting ⟨(Nat.le_of_ble_eq_true rfl), (Nat.le_of_ble_eq_true rfl)⟩ (Nat.le_of_ble_eq_true rfl) dX5_kinds_33 (fun H locs hX => ?_)
    refine i_l2i C dX5_kinds_36 ?_
    refine i_goto (tgt := 46) C dX5_kinds_37 (by decide) ?_
    exact x_iretW C hX hr hQ h dX5_kinds_46
  refine i_aload_n C dX5_kinds_8 rfl (lv_at hl 0 rfl) ?_
  refine i_aload_n C dX5_kinds_9 rfl (lv_at hl 0 rfl) ?_
  refine i_iload_n C dX5_kinds_10 rfl (lv_at hl 1 rfl) ?_
  obtain ⟨x5, e5, h⟩ := w_bdr h
  refine x_callVi C hX (fg_37_0 G) (c_X5_lacks (gl Γ) G  e5) [.ref (G.2.1 37)] rfl hl tw5_210 tw5_212 ts3_15 tw1_7 tw5_213 rfl nd_X5_lacks ⟨(Nat.le_of_ble_eq_true rfl), (Nat.le_of_ble_eq_true rfl)⟩ (Nat.le_of_ble_eq_true rfl) dX5_kinds_11 (fun H locs hX => ?_)
  obtain ⟨x6, m3, e6, h⟩ := w_bdw h
  refine x_callVi C hX (fg_37_0 G) (c_X5_finding (gl Γ) G  e6) [] rfl hl tw4_173 tw4_175 ts1_15 tw1_7 tw4_176 rfl nd_X5_finding ⟨(Nat.le_of_ble_eq_true rfl), (Nat.le_of_ble_eq_true rfl)⟩ (Nat.le_of_ble_eq_true rfl) dX5_kinds_14 (fun H locs hX => ?_)
  exact x_iretW C hX hr hQ h dX5_kinds_17
def L_X5_habits_48 (m1 : MM) : Nat → Int32 → Int64 → Option (Int32 × MM)
  | 0, _, _ => none
  | fu + 1, x4, x5 => if (lg_cmp x5 0) = 0 then (some (x4, m1)) else (lt_ ((x4 + ((x5 &&& 1)).toInt32)) fun x6 => lt_ ((lsr x5 1)) fun x7 => L_X5_habits_48 m1 fu x6 x7)
def f_X5_habits (p1 : Int32) (p2 : Int32) (μ : MM) : Option (Int32 × MM) := bdr (f_X5_lacks p1 μ) fun x1 => if x1 = 0 then (bdr (f_X5_isCat p2 μ) fun x2 => if x2 = 0 then (bdw (f_X5_finding (-1000001) μ) fun x8 m2 => some (x8, m2)) else (bdw (f_X5_fitting p1 p2 2 (-15) 15 μ) fun x3 m1 => L_X5_habits_48 m1 FU 0 x3)) else (bdr (f_X5_lacks p1 μ) fun x9 => bdw (f_X5_finding x9 μ) fun x10 m3 => some (x10, m3))
theorem nd_X5_habits : yX5_habits.cls ≠ "java/lang/invoke/MethodHandle" ∧ yX5_habits.cls ≠ "java/lang/invoke/VarHandle" ∧ (parseMethodDescriptor yX5_habits.desc).map (fun d => d.parameters.length) = some 2 := by decide +kernel
set_option maxHeartbeats 4000000 in
set_option maxRecDepth 100000 in
theorem c_X5_habits (l : Launch) (G : EN)  {p1 p2 : Int32} {μ : MM} {r : Int32} {m : MM} (h : f_X5_habits p1 p2 μ = some (r, m)) : XM l G yX5_habits cX5_habits 6 (some .int) 10 232 [.ref (G.2.1 37), .int p1, .int p2] μ (some (.int r)) m := by
  refine x_met (own := RX5) (by decide +kernel) rfl (Nat.le_of_ble_eq_true rfl) (fun Γ A H ls hg C hr hX hQ hl => ?_)
  have hl : lv_has ls 6 [(0, .ref (G.2.1 37)), (1, .int p1), (2, .int p2)] := hl
  unfold f_X5_habits at h
  refine i_aload_n C dX5_habits_0 rfl (lv_at hl 0 rfl) ?_
  refine i_iload_n C dX5_habits_1 rfl (lv_at hl 1 rfl) ?_
  obtain ⟨x1, e1, h⟩ := w_bdr h
  refine x_callVi C hX (fg_37_0 G) (c_X5_lacks (gl Γ) G  e1) [] rfl hl tw5_210 tw5_212 ts3_15 tw1_7 tw5_213 rfl nd_X5_lacks ⟨(Nat.le_of_ble_eq_true rfl), (Nat.le_of_ble_eq_true rfl)⟩ (Nat.le_of_ble_eq_true rfl) dX5_habits_2 (fun H locs hX => ?_)
  refine i_if_eq (tgt := 18) C h dX5_habits_5 (by decide) (fun _ h => ?_) (fun _ h => ?_)
  · refine i_aload_n C dX5_habits_18 rfl (lv_at hl 0 rfl) ?_
    refine i_iload_n C dX5_habits_19 rfl (lv_at hl 2 rfl) ?_
    obtain ⟨x2, e2, h⟩ := w_bdr h
    refine x_callVi C hX (fg_37_0 G) (c_X5_isCat (gl Γ) G  e2) [] rfl hl tw4_189 tw4_191 ts2_1 tw1_7 tw4_192 rfl nd_X5_isCat ⟨(Nat.le_of_ble_eq_true rfl), (Nat.le_of_ble_eq_true rfl)⟩ (Nat.le_of_ble_eq_true rfl) dX5_habits_20 (fun H locs hX => ?_)
    refine i_if_ne (tgt := 33) C h dX5_habits_23 (by decide) (fun _ h => ?_) (fun _ h => ?_)
    · refine i_iconst (v := 0) C dX5_habits_33 rfl ?_
      refine i_istore_n C [(3, .int 0), (0, .ref (G.2.1 37)), (1, .int p1), (2, .int p2)] dX5_habits_34 rfl hl (by decide) rfl (fun ls hl => ?_)
      refine i_aload_n C dX5_habits_35 rfl (lv_at hl 1 rfl) ?_
      refine i_iload_n C dX5_habits_36 rfl (lv_at hl 2 rfl) ?_
      refine i_iload_n C dX5_habits_37 rfl (lv_at hl 3 rfl) ?_
      refine i_iconst (v := 2) C dX5_habits_38 rfl ?_
      refine i_bipush (v := (-15)) C dX5_habits_39 rfl ?_
      refine i_bipush (v := 15) C dX5_habits_41 rfl ?_
      obtain ⟨x3, m1, e3, h⟩ := w_bdw h
      refine x_callVl C hX (fg_37_0 G) (c_X5_fitting (gl Γ) G  e3) [] rfl hl tw5_218 tw5_220 ts4_0 tw1_7 tw5_221 rfl nd_X5_fitting ⟨(Nat.le_of_ble_eq_true rfl), (Nat.le_of_ble_eq_true rfl)⟩ (Nat.le_of_ble_eq_true rfl) dX5_habits_43 (fun H locs hX => ?_)
      refine i_lstore C [(4, .long x3), (3, .int 0), (0, .ref (G.2.1 37)), (1, .int p1), (2, .int p2)] dX5_habits_46 hl (by decide) rfl (fun ls hl => ?_)
      have L1 : ∀ (fu : Nat) (x4 : Int32) (x5 : Int64) (H : Heap) (locs : List Loc) (ls : Array Slot), L_X5_habits_48 m1 fu x4 x5 = some (r, m) → lv_has ls 6 [(3, .int x4), (4, .long x5)] → XW G A (gs Γ) H locs m1 → WX Γ H locs 48 ls [] := by
        intro fu
        induction fu with
        | zero =>
          intro x4 x5 H locs ls h
          rw [L_X5_habits_48] at h
          cases h
        | succ fu ih =>
          intro x4 x5 H locs ls h hl hX
          rw [L_X5_habits_48] at h
          refine i_lload C dX5_habits_48 (lv_at hl 1 rfl) ?_
          refine i_lconst (v := 0) C dX5_habits_50 rfl ?_
          refine i_lcmp C dX5_habits_51 ?_
          refine i_if_eq (tgt := 72) C h dX5_habits_52 (by decide) (fun _ h => ?_) (fun _ h => ?_)
          · refine i_iload_n C dX5_habits_72 rfl (lv_at hl 0 rfl) ?_
            exact x_iretW C hX hr hQ h dX5_habits_73
          refine i_iload_n C dX5_habits_55 rfl (lv_at hl 0 rfl) ?_
          refine i_lload C dX5_habits_56 (lv_at hl 1 rfl) ?_
          refine i_lconst (v := 1) C dX5_habits_58 rfl ?_
          refine i_land C dX5_habits_59 ?_
          refine i_l2i C dX5_habits_60 ?_
          refine i_iadd C dX5_habits_61 ?_
          refine i_istoreL_n C (fun x6 => [(3, .int x6), (4, .long x5)]) h dX5_habits_62 rfl hl (by decide) (fun _ => rfl) (fun x6 ls h hl => ?_)
          refine i_lload C dX5_habits_63 (lv_at hl 1 rfl) ?_
          refine i_iconst (v := 1) C dX5_habits_65 rfl ?_
          refine i_lshr C dX5_habits_66 ?_
          refine i_lstoreL C (fun x7 => [(4, .long x7), (3, .int x6)]) h dX5_habits_67 hl (by decide) (fun _ => rfl) (fun x7 ls h hl => ?_)
          refine i_goto (tgt := 48) C dX5_habits_69 (by decide) ?_
          exact ih _ _ _ _ _ h (lv_sub hl [1, 0] rfl) hX
      exact L1 FU _ _ _ _ _ h (lv_sub hl [1, 0] rfl) hX
    refine i_aload_n C dX5_habits_26 rfl (lv_at hl 0 rfl) ?_
    refine i_ldc C tw4_172 dX5_habits_27 ?_
    obtain ⟨x8, m2, e4, h⟩ := w_bdw h
    refine x_callVi C hX (fg_37_0 G) (c_X5_finding (gl Γ) G  e4) [] rfl hl tw4_173 tw4_175 ts1_15 tw1_7 tw4_176 rfl nd_X5_finding ⟨(Nat.le_of_ble_eq_true rfl), (Nat.le_of_ble_eq_true rfl)⟩ (Nat.le_of_ble_eq_true rfl) dX5_habits_29 (fun H locs hX => ?_)
    exact x_iretW C hX hr hQ h dX5_habits_32
  refine i_aload_n C dX5_habits_8 rfl (lv_at hl 0 rfl) ?_
  refine i_aload_n C dX5_habits_9 rfl (lv_at hl 0 rfl) ?_
  refine i_iload_n C dX5_habits_10 rfl (lv_at hl 1 rfl) ?_
  obtain ⟨x9, e5, h⟩ := w_bdr h
  refine x_callVi C hX (fg_37_0 G) (c_X5_lacks (gl Γ) G  e5) [.ref (G.2.1 37)] rfl hl tw5_210 tw5_212 ts3_15 tw1_7 tw5_213 rfl nd_X5_lacks ⟨(Nat.le_of_ble_eq_true rfl), (Nat.le_of_ble_eq_true rfl)⟩ (Nat.le_of_ble_eq_true rfl) dX5_habits_11 (fun H locs hX => ?_)
  obtain ⟨x10, m3, e6, h⟩ := w_bdw h
  refine x_callVi C hX (fg_37_0 G) (c_X5_finding (gl Γ) G  e6) [] rfl hl tw4_173 tw4_175 ts1_15 tw1_7 tw4_176 rfl nd_X5_finding ⟨(Nat.le_of_ble_eq_true rfl), (Nat.le_of_ble_eq_true rfl)⟩ (Nat.le_of_ble_eq_true rfl) dX5_habits_14 (fun H locs hX => ?_)
  exact x_iretW C hX hr hQ h dX5_habits_17
def L_X5_wentSo_16 (p1 : Int32) (p2 : Int32) (k1 : Int32 → MM → Option (Int32 × MM)) : Nat → Int32 → Int32 → MM → Option (Int32 × MM)
  | 0, _, _, _ => none
  | fu + 1, x2, x3, m4 => ldi m4 48 4 p1 fun x4 => if x4 ≤ x3 then (k1 x2 m4) else (if x2 = 0 then (k1 x2 m4) else (ldi m4 49 160 ((40 * p1) + x3) fun x5 => jn1 (fun (x6 : Int32) => bdr (f_X5_watch m4) fun m5 => lt_ (x3 + 1) fun x7 => L_X5_wentSo_16 p1 p2 k1 fu x6 x7 m5) fun k2 => jn0 (k2 1) fun k3 => if x5 = (-1) then (k3) else (bdr (f_X5_shipIs p2 0 m4) fun x8 => if x5 = (x8 / 10) then (k3) else (k2 0))))
def f_X5_wentSo (p1 : Int32) (p2 : Int32) (μ : MM) : Option (Int32 × MM) := bdr (f_X5_copyRow 38 152 40 152 μ) fun m1 => jn2 (fun (x1 : Int32) (m2 : MM) => bdr (f_X5_copyRow 40 152 38 152 m2) fun m3 => gd (x1 = 0 ∨ x1 = 1) (some (x1, m3))) fun k1 => L_X5_wentSo_16 p1 p2 k1 FU 1 0 m1
theorem nd_X5_wentSo : yX5_wentSo.cls ≠ "java/lang/invoke/MethodHandle" ∧ yX5_wentSo.cls ≠ "java/lang/invoke/VarHandle" ∧ (parseMethodDescriptor yX5_wentSo.desc).map (fun d => d.parameters.length) = some 2 := by decide +kernel
set_option maxHeartbeats 4000000 in
set_option maxRecDepth 100000 in
theorem c_X5_wentSo (l : Launch) (G : EN)  {p1 p2 : Int32} {μ : MM} {r : Int32} {m : MM} (h : f_X5_wentSo p1 p2 μ = some (r, m)) : XM l G yX5_wentSo cX5_wentSo 6 (some .boolean) 8 179 [.ref (G.2.1 37), .int p1, .int p2] μ (some (.int r)) m := by
  refine x_met (own := RX5) (by decide +kernel) rfl (Nat.le_of_ble_eq_true rfl) (fun Γ A H ls hg C hr hX hQ hl => ?_)
  have hl : lv_has ls 6 [(0, .ref (G.2.1 37)), (1, .int p1), (2, .int p2)] := hl
  unfold f_X5_wentSo at h
  refine i_aload_n C dX5_wentSo_0 rfl (lv_at hl 0 rfl) ?_
  refine x_get C hX (fg_37_0 G) tw4_83 dX5_wentSo_1 ?_
  refine i_aload_n C dX5_wentSo_4 rfl (lv_at hl 0 rfl) ?_
  refine x_get C hX (fg_37_2 G) tw4_85 dX5_wentSo_5 ?_
  obtain ⟨m1, e1, h⟩ := w_bdr h
  refine x_callSv C hX (c_X5_copyRow (gl Γ) G (ai_38 G) (ai_40 G) e1) [] rfl hl tw5_89 tw5_90 tw1_7 tw5_91 nd_X5_copyRow ⟨(Nat.le_of_ble_eq_true rfl), (Nat.le_of_ble_eq_true rfl)⟩ (Nat.le_of_ble_eq_true rfl) dX5_wentSo_8 (fun H locs hX => ?_)
  refine i_iconst (v := 1) C dX5_wentSo_11 rfl ?_
  refine i_istore_n C [(3, .int 1), (0, .ref (G.2.1 37)), (1, .int p1), (2, .int p2)] dX5_wentSo_12 rfl hl (by decide) rfl (fun ls hl => ?_)
  refine i_iconst (v := 0) C dX5_wentSo_13 rfl ?_
  refine i_istore C [(4, .int 0), (3, .int 1), (0, .ref (G.2.1 37)), (1, .int p1), (2, .int p2)] dX5_wentSo_14 hl (by decide) rfl (fun ls hl => ?_)
  refine w_jn2 (fun (x1 : Int32) (m2 : MM) => ∀ (H : Heap) (locs : List Loc) (ls : Array Slot), lv_has ls 6 [(0, .ref (G.2.1 37)), (3, .int x1)] → XW G A (gs Γ) H locs m2 → WX Γ H locs 81 ls []) h (fun x1 m2 h H locs ls hl hX => ?_) (fun k1 J1 h => ?_)
  · refine i_aload_n C dX5_wentSo_81 rfl (lv_at hl 0 rfl) ?_
    refine x_get C hX (fg_37_2 G) tw4_85 dX5_wentSo_82 ?_
    refine i_aload_n C dX5_wentSo_85 rfl (lv_at hl 0 rfl) ?_
    refine x_get C hX (fg_37_0 G) tw4_83 dX5_wentSo_86 ?_
    obtain ⟨m3, e2, h⟩ := w_bdr h
    refine x_callSv C hX (c_X5_copyRow (gl Γ) G (ai_40 G) (ai_38 G) e2) [] rfl hl tw5_89 tw5_90 tw1_7 tw5_91 nd_X5_copyRow ⟨(Nat.le_of_ble_eq_true rfl), (Nat.le_of_ble_eq_true rfl)⟩ (Nat.le_of_ble_eq_true rfl) dX5_wentSo_89 (fun H locs hX => ?_)
    refine i_iload_n C dX5_wentSo_92 rfl (lv_at hl 1 rfl) ?_
    exact x_zretW C hX hr hQ h dX5_wentSo_93
  have L1 : ∀ (fu : Nat) (x2 : Int32) (x3 : Int32) (m4 : MM) (H : Heap) (locs : List Loc) (ls : Array Slot), L_X5_wentSo_16 p1 p2 k1 fu x2 x3 m4 = some (r, m) → lv_has ls 6 [(0, .ref (G.2.1 37)), (1, .int p1), (2, .int p2), (3, .int x2), (4, .int x3)] → XW G A (gs Γ) H locs m4 → WX Γ H locs 16 ls [] := by
    intro fu
    induction fu with
    | zero =>
      intro x2 x3 m4 H locs ls h
      rw [L_X5_wentSo_16] at h
      cases h
    | succ fu ih =>
      intro x2 x3 m4 H locs ls h hl hX
      rw [L_X5_wentSo_16] at h
      refine i_iload C dX5_wentSo_16 (lv_at hl 4 rfl) ?_
      refine i_aload_n C dX5_wentSo_18 rfl (lv_at hl 0 rfl) ?_
      refine x_get C hX (fg_37_23 G) tw4_106 dX5_wentSo_19 ?_
      refine i_iload_n C dX5_wentSo_22 rfl (lv_at hl 1 rfl) ?_
      refine x_iald C hX (ai_48 G) h dX5_wentSo_23 (fun x4 h => ?_)
      refine i_icmp_ge (tgt := 81) C h dX5_wentSo_24 (by decide) (fun _ h => ?_) (fun _ h => ?_)
      · exact J1 _ _ h _ _ _ (lv_sub hl [0, 3] rfl) hX
      refine i_iload_n C dX5_wentSo_27 rfl (lv_at hl 3 rfl) ?_
      refine i_if_eq (tgt := 81) C h dX5_wentSo_28 (by decide) (fun _ h => ?_) (fun _ h => ?_)
      · exact J1 _ _ h _ _ _ (lv_sub hl [0, 3] rfl) hX
      refine i_aload_n C dX5_wentSo_31 rfl (lv_at hl 0 rfl) ?_
      refine x_get C hX (fg_37_24 G) tw4_107 dX5_wentSo_32 ?_
      refine i_bipush (v := 40) C dX5_wentSo_35 rfl ?_
      refine i_iload_n C dX5_wentSo_37 rfl (lv_at hl 1 rfl) ?_
      refine i_imul C dX5_wentSo_38 ?_
      refine i_iload C dX5_wentSo_39 (lv_at hl 4 rfl) ?_
      refine i_iadd C dX5_wentSo_41 ?_
      refine x_iald C hX (ai_49 G) h dX5_wentSo_42 (fun x5 h => ?_)
      refine i_istore C [(5, .int x5), (0, .ref (G.2.1 37)), (1, .int p1), (2, .int p2), (3, .int x2), (4, .int x3)] dX5_wentSo_43 hl (by decide) rfl (fun ls hl => ?_)
      refine i_iload C dX5_wentSo_45 (lv_at hl 0 rfl) ?_
      refine i_iconst (v := (-1)) C dX5_wentSo_47 rfl ?_
      refine w_jn1 (fun (x6 : Int32) => ∀ (H : Heap) (locs : List Loc) (ls : Array Slot), lv_has ls 6 [(0, .ref (G.2.1 37)), (1, .int p1), (2, .int p2), (4, .int x3)] → XW G A (gs Γ) H locs m4 → WX Γ H locs 70 ls [.int x6]) h (fun x6 h H locs ls hl hX => ?_) (fun k2 J2 h => ?_)
      · refine i_istore_n C [(3, .int x6), (0, .ref (G.2.1 37)), (1, .int p1), (2, .int p2), (4, .int x3)] dX5_wentSo_70 rfl hl (by decide) rfl (fun ls hl => ?_)
        refine i_aload_n C dX5_wentSo_71 rfl (lv_at hl 1 rfl) ?_
        obtain ⟨m5, e3, h⟩ := w_bdr h
        refine x_callVv C hX (fg_37_0 G) (c_X5_watch (gl Γ) G  e3) [] rfl hl tw5_55 tw5_57 ts2_15 tw1_7 tw5_58 rfl nd_X5_watch ⟨(Nat.le_of_ble_eq_true rfl), (Nat.le_of_ble_eq_true rfl)⟩ (Nat.le_of_ble_eq_true rfl) dX5_wentSo_72 (fun H locs hX => ?_)
        refine i_iinc C (j := 4) (fun x7 => [(4, .int x7), (3, .int x6), (0, .ref (G.2.1 37)), (1, .int p1), (2, .int p2)]) h dX5_wentSo_75 hl rfl rfl (by decide) (fun _ => rfl) (fun x7 ls h hl => ?_)
        refine i_goto (tgt := 16) C dX5_wentSo_78 (by decide) ?_
        exact ih _ _ _ _ _ _ h (lv_sub hl [2, 3, 4, 1, 0] rfl) hX
      refine w_jn0 (∀ (H : Heap) (locs : List Loc) (ls : Array Slot), lv_has ls 6 [(0, .ref (G.2.1 37)), (1, .int p1), (2, .int p2), (4, .int x3)] → XW G A (gs Γ) H locs m4 → WX Γ H locs 65 ls []) h (fun  h H locs ls hl hX => ?_) (fun k3 J3 h => ?_)
      · refine i_iconst (v := 1) C dX5_wentSo_65 rfl ?_
        refine i_goto (tgt := 70) C dX5_wentSo_66 (by decide) ?_
        exact J2 _ h _ _ _ (lv_sub hl [0, 1, 2, 3] rfl) hX
      refine i_icmp_eq (tgt := 65) C h dX5_wentSo_48 (by decide) (fun _ h => ?_) (fun _ h => ?_)
      · exact J3 h _ _ _ (lv_sub hl [1, 2, 3, 5] rfl) hX
      refine i_iload C dX5_wentSo_51 (lv_at hl 0 rfl) ?_
      refine i_aload_n C dX5_wentSo_53 rfl (lv_at hl 1 rfl) ?_
      refine i_iload_n C dX5_wentSo_54 rfl (lv_at hl 3 rfl) ?_
      refine i_iconst (v := 0) C dX5_wentSo_55 rfl ?_
      obtain ⟨x8, e4, h⟩ := w_bdr h
      refine x_callVi C hX (fg_37_0 G) (c_X5_shipIs (gl Γ) G  e4) [.int x5] rfl hl tw4_223 tw4_225 ts2_6 tw1_7 tw4_226 rfl nd_X5_shipIs ⟨(Nat.le_of_ble_eq_true rfl), (Nat.le_of_ble_eq_true rfl)⟩ (Nat.le_of_ble_eq_true rfl) dX5_wentSo_56 (fun H locs hX => ?_)
      refine i_bipush (v := 10) C dX5_wentSo_59 rfl ?_
      refine i_idivc C dX5_wentSo_61 (by decide) ?_
      refine i_icmp_ne (tgt := 69) C h dX5_wentSo_62 (by decide) (fun _ h => ?_) (fun _ h => ?_)
      · refine i_iconst (v := 0) C dX5_wentSo_69 rfl ?_
        exact J2 _ h _ _ _ (lv_sub hl [1, 2, 3, 5] rfl) hX
      exact J3 h _ _ _ (lv_sub hl [1, 2, 3, 5] rfl) hX
  exact L1 FU _ _ _ _ _ _ h (lv_sub hl [2, 3, 4, 1, 0] rfl) hX
def L_X5_findBegun_18 (p1 : Int32) (p2 : Int32) (k1 : Int32 → MM → Option (Int32 × MM)) : Nat → Int32 → Int32 → MM → Option (Int32 × MM)
  | 0, _, _, _ => none
  | fu + 1, x4, x5, m4 => if 100 ≤ x5 then (k1 x4 m4) else (bdr (f_X5_atShip p2 0) fun x6 => sti m4 38 152 x6 x5 fun m5 => bdw (f_X5_wentSo p1 p2 m5) fun x7 m6 => jn1 (fun (x8 : Int32) => jn1 (fun (x9 : Int32) => lt_ (wst m6 37 9 ((m6 37 9) + x9)) fun m7 => lt_ (x5 + 1) fun x10 => L_X5_findBegun_18 p1 p2 k1 fu x8 x10 m7) fun k2 => if x7 = 0 then (k2 0) else (k2 1)) fun k3 => jn0 (k3 x4) fun k4 => if x7 = 0 then (k4) else (if 0 ≤ x4 then (k4) else (k3 x5)))
def f_X5_findBegun (p1 : Int32) (p2 : Int32) (μ : MM) : Option (Int32 × MM) := bdr (f_X5_shipIs p2 0 μ) fun x1 => lt_ (wst μ 37 9 0) fun m1 => jn2 (fun (x2 : Int32) (m2 : MM) => bdr (f_X5_atShip p2 0) fun x3 => sti m2 38 152 x3 x1 fun m3 => some (x2, m3)) fun k1 => L_X5_findBegun_18 p1 p2 k1 FU (-1) 0 m1
theorem nd_X5_findBegun : yX5_findBegun.cls ≠ "java/lang/invoke/MethodHandle" ∧ yX5_findBegun.cls ≠ "java/lang/invoke/VarHandle" ∧ (parseMethodDescriptor yX5_findBegun.desc).map (fun d => d.parameters.length) = some 2 := by decide +kernel
set_option maxHeartbeats 4000000 in
set_option maxRecDepth 100000 in
theorem c_X5_findBegun (l : Launch) (G : EN)  {p1 p2 : Int32} {μ : MM} {r : Int32} {m : MM} (h : f_X5_findBegun p1 p2 μ = some (r, m)) : XM l G yX5_findBegun cX5_findBegun 7 (some .int) 9 204 [.ref (G.2.1 37), .int p1, .int p2] μ (some (.int r)) m := by
  refine x_met (own := RX5) (by decide +kernel) rfl (Nat.le_of_ble_eq_true rfl) (fun Γ A H ls hg C hr hX hQ hl => ?_)
  have hl : lv_has ls 7 [(0, .ref (G.2.1 37)), (1, .int p1), (2, .int p2)] := hl
  unfold f_X5_findBegun at h
  refine i_aload_n C dX5_findBegun_0 rfl (lv_at hl 0 rfl) ?_
  refine i_iload_n C dX5_findBegun_1 rfl (lv_at hl 2 rfl) ?_
  refine i_iconst (v := 0) C dX5_findBegun_2 rfl ?_
  obtain ⟨x1, e1, h⟩ := w_bdr h
  refine x_callVi C hX (fg_37_0 G) (c_X5_shipIs (gl Γ) G  e1) [] rfl hl tw4_223 tw4_225 ts2_6 tw1_7 tw4_226 rfl nd_X5_shipIs ⟨(Nat.le_of_ble_eq_true rfl), (Nat.le_of_ble_eq_true rfl)⟩ (Nat.le_of_ble_eq_true rfl) dX5_findBegun_3 (fun H locs hX => ?_)
  refine i_istore_n C [(3, .int x1), (0, .ref (G.2.1 37)), (1, .int p1), (2, .int p2)] dX5_findBegun_6 rfl hl (by decide) rfl (fun ls hl => ?_)
  refine i_iconst (v := (-1)) C dX5_findBegun_7 rfl ?_
  refine i_istore C [(4, .int (-1)), (3, .int x1), (0, .ref (G.2.1 37)), (1, .int p1), (2, .int p2)] dX5_findBegun_8 hl (by decide) rfl (fun ls hl => ?_)
  refine i_aload_n C dX5_findBegun_10 rfl (lv_at hl 2 rfl) ?_
  refine i_iconst (v := 0) C dX5_findBegun_11 rfl ?_
  refine x_putI C hX (fp_37_9 G) h tw4_92 dX5_findBegun_12 (fun H locs m1 h hX => ?_)
  refine i_iconst (v := 0) C dX5_findBegun_15 rfl ?_
  refine i_istore C [(5, .int 0), (4, .int (-1)), (3, .int x1), (0, .ref (G.2.1 37)), (1, .int p1), (2, .int p2)] dX5_findBegun_16 hl (by decide) rfl (fun ls hl => ?_)
  refine w_jn2 (fun (x2 : Int32) (m2 : MM) => ∀ (H : Heap) (locs : List Loc) (ls : Array Slot), lv_has ls 7 [(0, .ref (G.2.1 37)), (2, .int p2), (3, .int x1), (4, .int x2)] → XW G A (gs Γ) H locs m2 → WX Γ H locs 89 ls []) h (fun x2 m2 h H locs ls hl hX => ?_) (fun k1 J1 h => ?_)
  · refine i_aload_n C dX5_findBegun_89 rfl (lv_at hl 0 rfl) ?_
    refine x_get C hX (fg_37_0 G) tw4_83 dX5_findBegun_90 ?_
    refine i_iload_n C dX5_findBegun_93 rfl (lv_at hl 1 rfl) ?_
    refine i_iconst (v := 0) C dX5_findBegun_94 rfl ?_
    obtain ⟨x3, e2, h⟩ := w_bdr h
    refine x_callSi C hX (c_X5_atShip (gl Γ) G  e2) [.ref (G.2.1 38)] rfl hl tw4_227 tw4_228 tw1_7 tw4_229 nd_X5_atShip ⟨(Nat.le_of_ble_eq_true rfl), (Nat.le_of_ble_eq_true rfl)⟩ (Nat.le_of_ble_eq_true rfl) dX5_findBegun_95 (fun H locs hX => ?_)
    refine i_iload_n C dX5_findBegun_98 rfl (lv_at hl 2 rfl) ?_
    refine x_iast C hX (ai_38 G) h dX5_findBegun_99 (fun H locs m3 h hX => ?_)
    refine i_iload C dX5_findBegun_100 (lv_at hl 3 rfl) ?_
    exact x_iretW C hX hr hQ h dX5_findBegun_102
  have L1 : ∀ (fu : Nat) (x4 : Int32) (x5 : Int32) (m4 : MM) (H : Heap) (locs : List Loc) (ls : Array Slot), L_X5_findBegun_18 p1 p2 k1 fu x4 x5 m4 = some (r, m) → lv_has ls 7 [(0, .ref (G.2.1 37)), (1, .int p1), (2, .int p2), (3, .int x1), (4, .int x4), (5, .int x5)] → XW G A (gs Γ) H locs m4 → WX Γ H locs 18 ls [] := by
    intro fu
    induction fu with
    | zero =>
      intro x4 x5 m4 H locs ls h
      rw [L_X5_findBegun_18] at h
      cases h
    | succ fu ih =>
      intro x4 x5 m4 H locs ls h hl hX
      rw [L_X5_findBegun_18] at h
      refine i_iload C dX5_findBegun_18 (lv_at hl 5 rfl) ?_
      refine i_bipush (v := 100) C dX5_findBegun_20 rfl ?_
      refine i_icmp_ge (tgt := 89) C h dX5_findBegun_22 (by decide) (fun _ h => ?_) (fun _ h => ?_)
      · exact J1 _ _ h _ _ _ (lv_sub hl [0, 2, 3, 4] rfl) hX
      refine i_aload_n C dX5_findBegun_25 rfl (lv_at hl 0 rfl) ?_
      refine x_get C hX (fg_37_0 G) tw4_83 dX5_findBegun_26 ?_
      refine i_iload_n C dX5_findBegun_29 rfl (lv_at hl 2 rfl) ?_
      refine i_iconst (v := 0) C dX5_findBegun_30 rfl ?_
      obtain ⟨x6, e3, h⟩ := w_bdr h
      refine x_callSi C hX (c_X5_atShip (gl Γ) G  e3) [.ref (G.2.1 38)] rfl hl tw4_227 tw4_228 tw1_7 tw4_229 nd_X5_atShip ⟨(Nat.le_of_ble_eq_true rfl), (Nat.le_of_ble_eq_true rfl)⟩ (Nat.le_of_ble_eq_true rfl) dX5_findBegun_31 (fun H locs hX => ?_)
      refine i_iload C dX5_findBegun_34 (lv_at hl 5 rfl) ?_
      refine x_iast C hX (ai_38 G) h dX5_findBegun_36 (fun H locs m5 h hX => ?_)
      refine i_aload_n C dX5_findBegun_37 rfl (lv_at hl 0 rfl) ?_
      refine i_iload_n C dX5_findBegun_38 rfl (lv_at hl 1 rfl) ?_
      refine i_iload_n C dX5_findBegun_39 rfl (lv_at hl 2 rfl) ?_
      obtain ⟨x7, m6, e4, h⟩ := w_bdw h
      refine x_callVi C hX (fg_37_0 G) (c_X5_wentSo (gl Γ) G  e4) [] rfl hl tw5_238 tw6_0 ts4_3 tw1_7 tw6_1 rfl nd_X5_wentSo ⟨(Nat.le_of_ble_eq_true rfl), (Nat.le_of_ble_eq_true rfl)⟩ (Nat.le_of_ble_eq_true rfl) dX5_findBegun_40 (fun H locs hX => ?_)
      refine i_istore C [(6, .int x7), (0, .ref (G.2.1 37)), (1, .int p1), (2, .int p2), (3, .int x1), (4, .int x4), (5, .int x5)] dX5_findBegun_43 hl (by decide) rfl (fun ls hl => ?_)
      refine i_iload C dX5_findBegun_45 (lv_at hl 0 rfl) ?_
      refine w_jn1 (fun (x8 : Int32) => ∀ (H : Heap) (locs : List Loc) (ls : Array Slot), lv_has ls 7 [(0, .ref (G.2.1 37)), (1, .int p1), (2, .int p2), (3, .int x1), (5, .int x5), (6, .int x7)] → XW G A (gs Γ) H locs m6 → WX Γ H locs 62 ls [.int x8]) h (fun x8 h H locs ls hl hX => ?_) (fun k3 J3 h => ?_)
      · refine i_istore C [(4, .int x8), (0, .ref (G.2.1 37)), (1, .int p1), (2, .int p2), (3, .int x1), (5, .int x5), (6, .int x7)] dX5_findBegun_62 hl (by decide) rfl (fun ls hl => ?_)
        refine i_aload_n C dX5_findBegun_64 rfl (lv_at hl 1 rfl) ?_
        refine i_dup C dX5_findBegun_65 rfl ?_
        refine x_get C hX (fg_37_9 G) tw4_92 dX5_findBegun_66 ?_
        refine i_iload C dX5_findBegun_69 (lv_at hl 6 rfl) ?_
        refine w_jn1 (fun (x9 : Int32) => ∀ (H : Heap) (locs : List Loc) (ls : Array Slot), lv_has ls 7 [(0, .ref (G.2.1 37)), (1, .int p1), (2, .int p2), (3, .int x1), (4, .int x8), (5, .int x5)] → XW G A (gs Γ) H locs m6 → WX Γ H locs 79 ls [.int x9, .int (m6 37 9), .ref (G.2.1 37)]) h (fun x9 h H locs ls hl hX => ?_) (fun k2 J2 h => ?_)
        · refine i_iadd C dX5_findBegun_79 ?_
          refine x_putI C hX (fp_37_9 G) h tw4_92 dX5_findBegun_80 (fun H locs m7 h hX => ?_)
          refine i_iinc C (j := 5) (fun x10 => [(5, .int x10), (0, .ref (G.2.1 37)), (1, .int p1), (2, .int p2), (3, .int x1), (4, .int x8)]) h dX5_findBegun_83 hl rfl rfl (by decide) (fun _ => rfl) (fun x10 ls h hl => ?_)
          refine i_goto (tgt := 18) C dX5_findBegun_86 (by decide) ?_
          exact ih _ _ _ _ _ _ h (lv_sub hl [1, 2, 3, 4, 5, 0] rfl) hX
        refine i_if_eq (tgt := 78) C h dX5_findBegun_71 (by decide) (fun _ h => ?_) (fun _ h => ?_)
        · refine i_iconst (v := 0) C dX5_findBegun_78 rfl ?_
          exact J2 _ h _ _ _ (lv_sub hl [1, 2, 3, 4, 0, 5] rfl) hX
        refine i_iconst (v := 1) C dX5_findBegun_74 rfl ?_
        refine i_goto (tgt := 79) C dX5_findBegun_75 (by decide) ?_
        exact J2 _ h _ _ _ (lv_sub hl [1, 2, 3, 4, 0, 5] rfl) hX
      refine w_jn0 (∀ (H : Heap) (locs : List Loc) (ls : Array Slot), lv_has ls 7 [(0, .ref (G.2.1 37)), (1, .int p1), (2, .int p2), (3, .int x1), (4, .int x4), (5, .int x5), (6, .int x7)] → XW G A (gs Γ) H locs m6 → WX Γ H locs 60 ls []) h (fun  h H locs ls hl hX => ?_) (fun k4 J4 h => ?_)
      · refine i_iload C dX5_findBegun_60 (lv_at hl 4 rfl) ?_
        exact J3 _ h _ _ _ (lv_sub hl [0, 1, 2, 3, 5, 6] rfl) hX
      refine i_if_eq (tgt := 60) C h dX5_findBegun_47 (by decide) (fun _ h => ?_) (fun _ h => ?_)
      · exact J4 h _ _ _ (lv_sub hl [1, 2, 3, 4, 5, 6, 0] rfl) hX
      refine i_iload C dX5_findBegun_50 (lv_at hl 5 rfl) ?_
      refine i_if_ge (tgt := 60) C h dX5_findBegun_52 (by decide) (fun _ h => ?_) (fun _ h => ?_)
      · exact J4 h _ _ _ (lv_sub hl [1, 2, 3, 4, 5, 6, 0] rfl) hX
      refine i_iload C dX5_findBegun_55 (lv_at hl 6 rfl) ?_
      refine i_goto (tgt := 62) C dX5_findBegun_57 (by decide) ?_
      exact J3 _ h _ _ _ (lv_sub hl [1, 2, 3, 4, 6, 0] rfl) hX
  exact L1 FU _ _ _ _ _ _ h (lv_sub hl [3, 4, 5, 2, 1, 0] rfl) hX
def f_X5_begun (p1 : Int32) (p2 : Int32) (μ : MM) : Option (Int32 × MM) := bdr (f_X5_lacks p1 μ) fun x1 => if x1 = 0 then (bdr (f_X5_isShip p2) fun x2 => if x2 = 0 then (bdw (f_X5_finding (-1000001) μ) fun x4 m2 => some (x4, m2)) else (bdw (f_X5_findBegun p1 p2 μ) fun x3 m1 => if 0 ≤ x3 then (some ((m1 37 9), m1)) else (some (0, m1)))) else (bdr (f_X5_lacks p1 μ) fun x5 => bdw (f_X5_finding x5 μ) fun x6 m3 => some (x6, m3))
theorem nd_X5_begun : yX5_begun.cls ≠ "java/lang/invoke/MethodHandle" ∧ yX5_begun.cls ≠ "java/lang/invoke/VarHandle" ∧ (parseMethodDescriptor yX5_begun.desc).map (fun d => d.parameters.length) = some 2 := by decide +kernel
set_option maxHeartbeats 4000000 in
set_option maxRecDepth 100000 in
theorem c_X5_begun (l : Launch) (G : EN)  {p1 p2 : Int32} {μ : MM} {r : Int32} {m : MM} (h : f_X5_begun p1 p2 μ = some (r, m)) : XM l G yX5_begun cX5_begun 3 (some .int) 10 230 [.ref (G.2.1 37), .int p1, .int p2] μ (some (.int r)) m := by
  refine x_met (own := RX5) (by decide +kernel) rfl (Nat.le_of_ble_eq_true rfl) (fun Γ A H ls hg C hr hX hQ hl => ?_)
  have hl : lv_has ls 3 [(0, .ref (G.2.1 37)), (1, .int p1), (2, .int p2)] := hl
  unfold f_X5_begun at h
  refine i_aload_n C dX5_begun_0 rfl (lv_at hl 0 rfl) ?_
  refine i_iload_n C dX5_begun_1 rfl (lv_at hl 1 rfl) ?_
  obtain ⟨x1, e1, h⟩ := w_bdr h
  refine x_callVi C hX (fg_37_0 G) (c_X5_lacks (gl Γ) G  e1) [] rfl hl tw5_210 tw5_212 ts3_15 tw1_7 tw5_213 rfl nd_X5_lacks ⟨(Nat.le_of_ble_eq_true rfl), (Nat.le_of_ble_eq_true rfl)⟩ (Nat.le_of_ble_eq_true rfl) dX5_begun_2 (fun H locs hX => ?_)
  refine i_if_eq (tgt := 18) C h dX5_begun_5 (by decide) (fun _ h => ?_) (fun _ h => ?_)
  · refine i_iload_n C dX5_begun_18 rfl (lv_at hl 2 rfl) ?_
    obtain ⟨x2, e2, h⟩ := w_bdr h
    refine x_callSi C hX (c_X5_isShip (gl Γ) G  e2) [] rfl hl tw4_216 tw4_217 tw1_7 tw4_218 nd_X5_isShip ⟨(Nat.le_of_ble_eq_true rfl), (Nat.le_of_ble_eq_true rfl)⟩ (Nat.le_of_ble_eq_true rfl) dX5_begun_19 (fun H locs hX => ?_)
    refine i_if_ne (tgt := 32) C h dX5_begun_22 (by decide) (fun _ h => ?_) (fun _ h => ?_)
    · refine i_aload_n C dX5_begun_32 rfl (lv_at hl 0 rfl) ?_
      refine i_iload_n C dX5_begun_33 rfl (lv_at hl 1 rfl) ?_
      refine i_iload_n C dX5_begun_34 rfl (lv_at hl 2 rfl) ?_
      obtain ⟨x3, m1, e3, h⟩ := w_bdw h
      refine x_callVi C hX (fg_37_0 G) (c_X5_findBegun (gl Γ) G  e3) [] rfl hl tw5_234 tw5_236 ts4_2 tw1_7 tw5_237 rfl nd_X5_findBegun ⟨(Nat.le_of_ble_eq_true rfl), (Nat.le_of_ble_eq_true rfl)⟩ (Nat.le_of_ble_eq_true rfl) dX5_begun_35 (fun H locs hX => ?_)
      refine i_if_ge (tgt := 45) C h dX5_begun_38 (by decide) (fun _ h => ?_) (fun _ h => ?_)
      · refine i_aload_n C dX5_begun_45 rfl (lv_at hl 0 rfl) ?_
        refine x_get C hX (fg_37_9 G) tw4_92 dX5_begun_46 ?_
        exact x_iretW C hX hr hQ h dX5_begun_49
      refine i_iconst (v := 0) C dX5_begun_41 rfl ?_
      refine i_goto (tgt := 49) C dX5_begun_42 (by decide) ?_
      exact x_iretW C hX hr hQ h dX5_begun_49
    refine i_aload_n C dX5_begun_25 rfl (lv_at hl 0 rfl) ?_
    refine i_ldc C tw4_172 dX5_begun_26 ?_
    obtain ⟨x4, m2, e4, h⟩ := w_bdw h
    refine x_callVi C hX (fg_37_0 G) (c_X5_finding (gl Γ) G  e4) [] rfl hl tw4_173 tw4_175 ts1_15 tw1_7 tw4_176 rfl nd_X5_finding ⟨(Nat.le_of_ble_eq_true rfl), (Nat.le_of_ble_eq_true rfl)⟩ (Nat.le_of_ble_eq_true rfl) dX5_begun_28 (fun H locs hX => ?_)
    exact x_iretW C hX hr hQ h dX5_begun_31
  refine i_aload_n C dX5_begun_8 rfl (lv_at hl 0 rfl) ?_
  refine i_aload_n C dX5_begun_9 rfl (lv_at hl 0 rfl) ?_
  refine i_iload_n C dX5_begun_10 rfl (lv_at hl 1 rfl) ?_
  obtain ⟨x5, e5, h⟩ := w_bdr h
  refine x_callVi C hX (fg_37_0 G) (c_X5_lacks (gl Γ) G  e5) [.ref (G.2.1 37)] rfl hl tw5_210 tw5_212 ts3_15 tw1_7 tw5_213 rfl nd_X5_lacks ⟨(Nat.le_of_ble_eq_true rfl), (Nat.le_of_ble_eq_true rfl)⟩ (Nat.le_of_ble_eq_true rfl) dX5_begun_11 (fun H locs hX => ?_)
  obtain ⟨x6, m3, e6, h⟩ := w_bdw h
  refine x_callVi C hX (fg_37_0 G) (c_X5_finding (gl Γ) G  e6) [] rfl hl tw4_173 tw4_175 ts1_15 tw1_7 tw4_176 rfl nd_X5_finding ⟨(Nat.le_of_ble_eq_true rfl), (Nat.le_of_ble_eq_true rfl)⟩ (Nat.le_of_ble_eq_true rfl) dX5_begun_14 (fun H locs hX => ?_)
  exact x_iretW C hX hr hQ h dX5_begun_17
def f_X5_from (p1 : Int32) (p2 : Int32) (μ : MM) : Option (Int32 × MM) := bdr (f_X5_lacks p1 μ) fun x1 => if x1 = 0 then (bdr (f_X5_isShip p2) fun x2 => if x2 = 0 then (bdw (f_X5_finding (-1000001) μ) fun x3 m1 => some (x3, m1)) else (bdw (f_X5_findBegun p1 p2 μ) fun x4 m2 => bdw (f_X5_orNone x4 m2) fun x5 m3 => some (x5, m3))) else (bdr (f_X5_lacks p1 μ) fun x6 => bdw (f_X5_finding x6 μ) fun x7 m4 => some (x7, m4))
theorem nd_X5_from : yX5_from.cls ≠ "java/lang/invoke/MethodHandle" ∧ yX5_from.cls ≠ "java/lang/invoke/VarHandle" ∧ (parseMethodDescriptor yX5_from.desc).map (fun d => d.parameters.length) = some 2 := by decide +kernel
set_option maxHeartbeats 4000000 in
set_option maxRecDepth 100000 in
theorem c_X5_from (l : Launch) (G : EN)  {p1 p2 : Int32} {μ : MM} {r : Int32} {m : MM} (h : f_X5_from p1 p2 μ = some (r, m)) : XM l G yX5_from cX5_from 3 (some .int) 10 230 [.ref (G.2.1 37), .int p1, .int p2] μ (some (.int r)) m := by
  refine x_met (own := RX5) (by decide +kernel) rfl (Nat.le_of_ble_eq_true rfl) (fun Γ A H ls hg C hr hX hQ hl => ?_)
  have hl : lv_has ls 3 [(0, .ref (G.2.1 37)), (1, .int p1), (2, .int p2)] := hl
  unfold f_X5_from at h
  refine i_aload_n C dX5_from_0 rfl (lv_at hl 0 rfl) ?_
  refine i_iload_n C dX5_from_1 rfl (lv_at hl 1 rfl) ?_
  obtain ⟨x1, e1, h⟩ := w_bdr h
  refine x_callVi C hX (fg_37_0 G) (c_X5_lacks (gl Γ) G  e1) [] rfl hl tw5_210 tw5_212 ts3_15 tw1_7 tw5_213 rfl nd_X5_lacks ⟨(Nat.le_of_ble_eq_true rfl), (Nat.le_of_ble_eq_true rfl)⟩ (Nat.le_of_ble_eq_true rfl) dX5_from_2 (fun H locs hX => ?_)
  refine i_if_eq (tgt := 18) C h dX5_from_5 (by decide) (fun _ h => ?_) (fun _ h => ?_)
  · refine i_iload_n C dX5_from_18 rfl (lv_at hl 2 rfl) ?_
    obtain ⟨x2, e2, h⟩ := w_bdr h
    refine x_callSi C hX (c_X5_isShip (gl Γ) G  e2) [] rfl hl tw4_216 tw4_217 tw1_7 tw4_218 nd_X5_isShip ⟨(Nat.le_of_ble_eq_true rfl), (Nat.le_of_ble_eq_true rfl)⟩ (Nat.le_of_ble_eq_true rfl) dX5_from_19 (fun H locs hX => ?_)
    refine i_if_eq (tgt := 38) C h dX5_from_22 (by decide) (fun _ h => ?_) (fun _ h => ?_)
    · refine i_aload_n C dX5_from_38 rfl (lv_at hl 0 rfl) ?_
      refine i_ldc C tw4_172 dX5_from_39 ?_
      obtain ⟨x3, m1, e3, h⟩ := w_bdw h
      refine x_callVi C hX (fg_37_0 G) (c_X5_finding (gl Γ) G  e3) [] rfl hl tw4_173 tw4_175 ts1_15 tw1_7 tw4_176 rfl nd_X5_finding ⟨(Nat.le_of_ble_eq_true rfl), (Nat.le_of_ble_eq_true rfl)⟩ (Nat.le_of_ble_eq_true rfl) dX5_from_41 (fun H locs hX => ?_)
      exact x_iretW C hX hr hQ h dX5_from_44
    refine i_aload_n C dX5_from_25 rfl (lv_at hl 0 rfl) ?_
    refine i_aload_n C dX5_from_26 rfl (lv_at hl 0 rfl) ?_
    refine i_iload_n C dX5_from_27 rfl (lv_at hl 1 rfl) ?_
    refine i_iload_n C dX5_from_28 rfl (lv_at hl 2 rfl) ?_
    obtain ⟨x4, m2, e4, h⟩ := w_bdw h
    refine x_callVi C hX (fg_37_0 G) (c_X5_findBegun (gl Γ) G  e4) [.ref (G.2.1 37)] rfl hl tw5_234 tw5_236 ts4_2 tw1_7 tw5_237 rfl nd_X5_findBegun ⟨(Nat.le_of_ble_eq_true rfl), (Nat.le_of_ble_eq_true rfl)⟩ (Nat.le_of_ble_eq_true rfl) dX5_from_29 (fun H locs hX => ?_)
    obtain ⟨x5, m3, e5, h⟩ := w_bdw h
    refine x_callVi C hX (fg_37_0 G) (c_X5_orNone (gl Γ) G  e5) [] rfl hl tw5_142 tw5_144 ts3_11 tw1_7 tw5_145 rfl nd_X5_orNone ⟨(Nat.le_of_ble_eq_true rfl), (Nat.le_of_ble_eq_true rfl)⟩ (Nat.le_of_ble_eq_true rfl) dX5_from_32 (fun H locs hX => ?_)
    refine i_goto (tgt := 44) C dX5_from_35 (by decide) ?_
    exact x_iretW C hX hr hQ h dX5_from_44
  refine i_aload_n C dX5_from_8 rfl (lv_at hl 0 rfl) ?_
  refine i_aload_n C dX5_from_9 rfl (lv_at hl 0 rfl) ?_
  refine i_iload_n C dX5_from_10 rfl (lv_at hl 1 rfl) ?_
  obtain ⟨x6, e6, h⟩ := w_bdr h
  refine x_callVi C hX (fg_37_0 G) (c_X5_lacks (gl Γ) G  e6) [.ref (G.2.1 37)] rfl hl tw5_210 tw5_212 ts3_15 tw1_7 tw5_213 rfl nd_X5_lacks ⟨(Nat.le_of_ble_eq_true rfl), (Nat.le_of_ble_eq_true rfl)⟩ (Nat.le_of_ble_eq_true rfl) dX5_from_11 (fun H locs hX => ?_)
  obtain ⟨x7, m4, e7, h⟩ := w_bdw h
  refine x_callVi C hX (fg_37_0 G) (c_X5_finding (gl Γ) G  e7) [] rfl hl tw4_173 tw4_175 ts1_15 tw1_7 tw4_176 rfl nd_X5_finding ⟨(Nat.le_of_ble_eq_true rfl), (Nat.le_of_ble_eq_true rfl)⟩ (Nat.le_of_ble_eq_true rfl) dX5_from_14 (fun H locs hX => ?_)
  exact x_iretW C hX hr hQ h dX5_from_17
def f_X5_drawn (p1 : Int32) (μ : MM) : Option (Int32 × MM) := ldi μ 38 152 5 fun x1 => sti μ 38 152 5 ((x1 * 1103515245) + 12345) fun m1 => ldi m1 38 152 5 fun x2 => gd (¬ p1 = 0) (some ((irm (ur x2 8) p1), m1))
theorem nd_X5_drawn : yX5_drawn.cls ≠ "java/lang/invoke/MethodHandle" ∧ yX5_drawn.cls ≠ "java/lang/invoke/VarHandle" ∧ (parseMethodDescriptor yX5_drawn.desc).map (fun d => d.parameters.length) = some 1 := by decide +kernel
set_option maxHeartbeats 4000000 in
set_option maxRecDepth 100000 in
theorem c_X5_drawn (l : Launch) (G : EN)  {p1 : Int32} {μ : MM} {r : Int32} {m : MM} (h : f_X5_drawn p1 μ = some (r, m)) : XM l G yX5_drawn cX5_drawn 2 (some .int) 0 0 [.ref (G.2.1 37), .int p1] μ (some (.int r)) m := by
  refine x_met (own := RX5) (by decide +kernel) rfl (Nat.le_of_ble_eq_true rfl) (fun Γ A H ls hg C hr hX hQ hl => ?_)
  have hl : lv_has ls 2 [(0, .ref (G.2.1 37)), (1, .int p1)] := hl
  unfold f_X5_drawn at h
  refine i_aload_n C dX5_drawn_0 rfl (lv_at hl 0 rfl) ?_
  refine x_get C hX (fg_37_0 G) tw4_83 dX5_drawn_1 ?_
  refine i_iconst (v := 5) C dX5_drawn_4 rfl ?_
  refine i_aload_n C dX5_drawn_5 rfl (lv_at hl 0 rfl) ?_
  refine x_get C hX (fg_37_0 G) tw4_83 dX5_drawn_6 ?_
  refine i_iconst (v := 5) C dX5_drawn_9 rfl ?_
  refine x_iald C hX (ai_38 G) h dX5_drawn_10 (fun x1 h => ?_)
  refine i_ldc C tw6_14 dX5_drawn_11 ?_
  refine i_imul C dX5_drawn_13 ?_
  refine i_sipush (v := 12345) C dX5_drawn_14 rfl ?_
  refine i_iadd C dX5_drawn_17 ?_
  refine x_iast C hX (ai_38 G) h dX5_drawn_18 (fun H locs m1 h hX => ?_)
  refine i_aload_n C dX5_drawn_19 rfl (lv_at hl 0 rfl) ?_
  refine x_get C hX (fg_37_0 G) tw4_83 dX5_drawn_20 ?_
  refine i_iconst (v := 5) C dX5_drawn_23 rfl ?_
  refine x_iald C hX (ai_38 G) h dX5_drawn_24 (fun x2 h => ?_)
  refine i_bipush (v := 8) C dX5_drawn_25 rfl ?_
  refine i_iushr C dX5_drawn_27 ?_
  refine i_iload_n C dX5_drawn_28 rfl (lv_at hl 1 rfl) ?_
  refine i_irem C h dX5_drawn_29 (fun h => ?_)
  exact x_iretW C hX hr hQ h dX5_drawn_30
def L_X5_storms_46 (k1 : MM → Option (Int32 × MM)) : Nat → Int32 → MM → Option (Int32 × MM)
  | 0, _, _ => none
  | fu + 1, x7, m4 => if 4 ≤ x7 then (k1 m4) else (bdr (f_X5_isLanded x7 m4) fun x8 => jn1 (fun (m5 : MM) => lt_ (x7 + 1) fun x9 => L_X5_storms_46 k1 fu x9 m5) fun k2 => if x8 = 0 then (bdr (f_X5_atShip x7 0) fun x10 => bdr (f_X5_shipIs x7 0 m4) fun x11 => bdw (f_X5_drawn 8 m4) fun x12 m6 => bdr (f_X5_beside x11 x12 m6) fun x13 => sti m6 38 152 x10 x13 fun m7 => k2 m7) else (k2 m4))
def L_X5_storms_39 (p1 : Int32) : Nat → Int32 → MM → Option (Int32 × MM)
  | 0, _, _ => none
  | fu + 1, x3, m1 => if p1 ≤ x3 then (bdr (f_X5_landed m1) fun x4 => bdr (f_X5_bits x4) fun x5 => some (x5, m1)) else (jn1 (fun (m2 : MM) => bdr (f_X5_watch m2) fun m3 => lt_ (x3 + 1) fun x6 => L_X5_storms_39 p1 fu x6 m3) fun k1 => L_X5_storms_46 k1 FU 0 m1)
def f_X5_storms (p1 : Int32) (μ : MM) : Option (Int32 × MM) := bdr (f_X5_within p1 1 20) fun x1 => if x1 = 0 then (bdw (f_X5_finding (-1000001) μ) fun x15 m9 => some (x15, m9)) else (ldi μ 38 152 0 fun x2 => if (x2 + p1) ≤ 99999 then (L_X5_storms_39 p1 FU 0 μ) else (bdw (f_X5_finding (-1000005) μ) fun x14 m8 => some (x14, m8)))
theorem nd_X5_storms : yX5_storms.cls ≠ "java/lang/invoke/MethodHandle" ∧ yX5_storms.cls ≠ "java/lang/invoke/VarHandle" ∧ (parseMethodDescriptor yX5_storms.desc).map (fun d => d.parameters.length) = some 1 := by decide +kernel
set_option maxHeartbeats 4000000 in
set_option maxRecDepth 100000 in
theorem c_X5_storms (l : Launch) (G : EN)  {p1 : Int32} {μ : MM} {r : Int32} {m : MM} (h : f_X5_storms p1 μ = some (r, m)) : XM l G yX5_storms cX5_storms 4 (some .int) 8 179 [.ref (G.2.1 37), .int p1] μ (some (.int r)) m := by
  refine x_met (own := RX5) (by decide +kernel) rfl (Nat.le_of_ble_eq_true rfl) (fun Γ A H ls hg C hr hX hQ hl => ?_)
  have hl : lv_has ls 4 [(0, .ref (G.2.1 37)), (1, .int p1)] := hl
  unfold f_X5_storms at h
  refine i_iload_n C dX5_storms_0 rfl (lv_at hl 1 rfl) ?_
  refine i_iconst (v := 1) C dX5_storms_1 rfl ?_
  refine i_bipush (v := 20) C dX5_storms_2 rfl ?_
  obtain ⟨x1, e1, h⟩ := w_bdr h
  refine x_callSi C hX (c_X5_within (gl Γ) G  e1) [] rfl hl tw4_169 tw4_170 tw1_7 tw4_171 nd_X5_within ⟨(Nat.le_of_ble_eq_true rfl), (Nat.le_of_ble_eq_true rfl)⟩ (Nat.le_of_ble_eq_true rfl) dX5_storms_4 (fun H locs hX => ?_)
  refine i_if_ne (tgt := 17) C h dX5_storms_7 (by decide) (fun _ h => ?_) (fun _ h => ?_)
  · refine i_aload_n C dX5_storms_17 rfl (lv_at hl 0 rfl) ?_
    refine x_get C hX (fg_37_0 G) tw4_83 dX5_storms_18 ?_
    refine i_iconst (v := 0) C dX5_storms_21 rfl ?_
    refine x_iald C hX (ai_38 G) h dX5_storms_22 (fun x2 h => ?_)
    refine i_iload_n C dX5_storms_23 rfl (lv_at hl 1 rfl) ?_
    refine i_iadd C dX5_storms_24 ?_
    refine i_ldc C tw5_49 dX5_storms_25 ?_
    refine i_icmp_le (tgt := 37) C h dX5_storms_27 (by decide) (fun _ h => ?_) (fun _ h => ?_)
    · refine i_iconst (v := 0) C dX5_storms_37 rfl ?_
      refine i_istore_n C [(2, .int 0), (0, .ref (G.2.1 37)), (1, .int p1)] dX5_storms_38 rfl hl (by decide) rfl (fun ls hl => ?_)
      have L2 : ∀ (fu : Nat) (x3 : Int32) (m1 : MM) (H : Heap) (locs : List Loc) (ls : Array Slot), L_X5_storms_39 p1 fu x3 m1 = some (r, m) → lv_has ls 4 [(0, .ref (G.2.1 37)), (1, .int p1), (2, .int x3)] → XW G A (gs Γ) H locs m1 → WX Γ H locs 39 ls [] := by
        intro fu
        induction fu with
        | zero =>
          intro x3 m1 H locs ls h
          rw [L_X5_storms_39] at h
          cases h
        | succ fu ih =>
          intro x3 m1 H locs ls h hl hX
          rw [L_X5_storms_39] at h
          refine i_iload_n C dX5_storms_39 rfl (lv_at hl 2 rfl) ?_
          refine i_iload_n C dX5_storms_40 rfl (lv_at hl 1 rfl) ?_
          refine i_icmp_ge (tgt := 101) C h dX5_storms_41 (by decide) (fun _ h => ?_) (fun _ h => ?_)
          · refine i_aload_n C dX5_storms_101 rfl (lv_at hl 0 rfl) ?_
            obtain ⟨x4, e2, h⟩ := w_bdr h
            refine x_callVi C hX (fg_37_0 G) (c_X5_landed (gl Γ) G  e2) [] rfl hl tw5_60 tw5_62 ts3_0 tw1_7 tw5_63 rfl nd_X5_landed ⟨(Nat.le_of_ble_eq_true rfl), (Nat.le_of_ble_eq_true rfl)⟩ (Nat.le_of_ble_eq_true rfl) dX5_storms_102 (fun H locs hX => ?_)
            obtain ⟨x5, e3, h⟩ := w_bdr h
            refine x_callSi C hX (c_X5_bits (gl Γ) G  e3) [] rfl hl tw4_234 tw4_235 tw1_7 tw4_236 nd_X5_bits ⟨(Nat.le_of_ble_eq_true rfl), (Nat.le_of_ble_eq_true rfl)⟩ (Nat.le_of_ble_eq_true rfl) dX5_storms_105 (fun H locs hX => ?_)
            exact x_iretW C hX hr hQ h dX5_storms_108
          refine i_iconst (v := 0) C dX5_storms_44 rfl ?_
          refine i_istore_n C [(3, .int 0), (0, .ref (G.2.1 37)), (1, .int p1), (2, .int x3)] dX5_storms_45 rfl hl (by decide) rfl (fun ls hl => ?_)
          refine w_jn1 (fun (m2 : MM) => ∀ (H : Heap) (locs : List Loc) (ls : Array Slot), lv_has ls 4 [(0, .ref (G.2.1 37)), (1, .int p1), (2, .int x3)] → XW G A (gs Γ) H locs m2 → WX Γ H locs 91 ls []) h (fun m2 h H locs ls hl hX => ?_) (fun k1 J1 h => ?_)
          · refine i_aload_n C dX5_storms_91 rfl (lv_at hl 0 rfl) ?_
            obtain ⟨m3, e4, h⟩ := w_bdr h
            refine x_callVv C hX (fg_37_0 G) (c_X5_watch (gl Γ) G  e4) [] rfl hl tw5_55 tw5_57 ts2_15 tw1_7 tw5_58 rfl nd_X5_watch ⟨(Nat.le_of_ble_eq_true rfl), (Nat.le_of_ble_eq_true rfl)⟩ (Nat.le_of_ble_eq_true rfl) dX5_storms_92 (fun H locs hX => ?_)
            refine i_iinc C (j := 2) (fun x6 => [(2, .int x6), (0, .ref (G.2.1 37)), (1, .int p1)]) h dX5_storms_95 hl rfl rfl (by decide) (fun _ => rfl) (fun x6 ls h hl => ?_)
            refine i_goto (tgt := 39) C dX5_storms_98 (by decide) ?_
            exact ih _ _ _ _ _ h (lv_sub hl [1, 2, 0] rfl) hX
          have L1 : ∀ (fu : Nat) (x7 : Int32) (m4 : MM) (H : Heap) (locs : List Loc) (ls : Array Slot), L_X5_storms_46 k1 fu x7 m4 = some (r, m) → lv_has ls 4 [(0, .ref (G.2.1 37)), (1, .int p1), (2, .int x3), (3, .int x7)] → XW G A (gs Γ) H locs m4 → WX Γ H locs 46 ls [] := by
            intro fu
            induction fu with
            | zero =>
              intro x7 m4 H locs ls h
              rw [L_X5_storms_46] at h
              cases h
            | succ fu ih =>
              intro x7 m4 H locs ls h hl hX
              rw [L_X5_storms_46] at h
              refine i_iload_n C dX5_storms_46 rfl (lv_at hl 3 rfl) ?_
              refine i_iconst (v := 4) C dX5_storms_47 rfl ?_
              refine i_icmp_ge (tgt := 91) C h dX5_storms_48 (by decide) (fun _ h => ?_) (fun _ h => ?_)
              · exact J1 _ h _ _ _ (lv_sub hl [0, 1, 2] rfl) hX
              refine i_aload_n C dX5_storms_51 rfl (lv_at hl 0 rfl) ?_
              refine i_iload_n C dX5_storms_52 rfl (lv_at hl 3 rfl) ?_
              obtain ⟨x8, e5, h⟩ := w_bdr h
              refine x_callVi C hX (fg_37_0 G) (c_X5_isLanded (gl Γ) G  e5) [] rfl hl tw5_5 tw5_7 ts2_10 tw1_7 tw5_8 rfl nd_X5_isLanded ⟨(Nat.le_of_ble_eq_true rfl), (Nat.le_of_ble_eq_true rfl)⟩ (Nat.le_of_ble_eq_true rfl) dX5_storms_53 (fun H locs hX => ?_)
              refine w_jn1 (fun (m5 : MM) => ∀ (H : Heap) (locs : List Loc) (ls : Array Slot), lv_has ls 4 [(0, .ref (G.2.1 37)), (1, .int p1), (2, .int x3), (3, .int x7)] → XW G A (gs Γ) H locs m5 → WX Γ H locs 85 ls []) h (fun m5 h H locs ls hl hX => ?_) (fun k2 J2 h => ?_)
              · refine i_iinc C (j := 3) (fun x9 => [(3, .int x9), (0, .ref (G.2.1 37)), (1, .int p1), (2, .int x3)]) h dX5_storms_85 hl rfl rfl (by decide) (fun _ => rfl) (fun x9 ls h hl => ?_)
                refine i_goto (tgt := 46) C dX5_storms_88 (by decide) ?_
                exact ih _ _ _ _ _ h (lv_sub hl [1, 2, 3, 0] rfl) hX
              refine i_if_ne (tgt := 85) C h dX5_storms_56 (by decide) (fun _ h => ?_) (fun _ h => ?_)
              · exact J2 _ h _ _ _ (lv_sub hl [0, 1, 2, 3] rfl) hX
              refine i_aload_n C dX5_storms_59 rfl (lv_at hl 0 rfl) ?_
              refine x_get C hX (fg_37_0 G) tw4_83 dX5_storms_60 ?_
              refine i_iload_n C dX5_storms_63 rfl (lv_at hl 3 rfl) ?_
              refine i_iconst (v := 0) C dX5_storms_64 rfl ?_
              obtain ⟨x10, e6, h⟩ := w_bdr h
              refine x_callSi C hX (c_X5_atShip (gl Γ) G  e6) [.ref (G.2.1 38)] rfl hl tw4_227 tw4_228 tw1_7 tw4_229 nd_X5_atShip ⟨(Nat.le_of_ble_eq_true rfl), (Nat.le_of_ble_eq_true rfl)⟩ (Nat.le_of_ble_eq_true rfl) dX5_storms_65 (fun H locs hX => ?_)
              refine i_aload_n C dX5_storms_68 rfl (lv_at hl 0 rfl) ?_
              refine i_aload_n C dX5_storms_69 rfl (lv_at hl 0 rfl) ?_
              refine i_iload_n C dX5_storms_70 rfl (lv_at hl 3 rfl) ?_
              refine i_iconst (v := 0) C dX5_storms_71 rfl ?_
              obtain ⟨x11, e7, h⟩ := w_bdr h
              refine x_callVi C hX (fg_37_0 G) (c_X5_shipIs (gl Γ) G  e7) [.ref (G.2.1 37), .int x10, .ref (G.2.1 38)] rfl hl tw4_223 tw4_225 ts2_6 tw1_7 tw4_226 rfl nd_X5_shipIs ⟨(Nat.le_of_ble_eq_true rfl), (Nat.le_of_ble_eq_true rfl)⟩ (Nat.le_of_ble_eq_true rfl) dX5_storms_72 (fun H locs hX => ?_)
              refine i_aload_n C dX5_storms_75 rfl (lv_at hl 0 rfl) ?_
              refine i_bipush (v := 8) C dX5_storms_76 rfl ?_
              obtain ⟨x12, m6, e8, h⟩ := w_bdw h
              refine x_callVi C hX (fg_37_0 G) (c_X5_drawn (gl Γ) G  e8) [.int x11, .ref (G.2.1 37), .int x10, .ref (G.2.1 38)] rfl hl tw6_10 tw6_12 ts4_4 tw1_7 tw6_13 rfl nd_X5_drawn ⟨(Nat.le_of_ble_eq_true rfl), (Nat.le_of_ble_eq_true rfl)⟩ (Nat.le_of_ble_eq_true rfl) dX5_storms_78 (fun H locs hX => ?_)
              obtain ⟨x13, e9, h⟩ := w_bdr h
              refine x_callVi C hX (fg_37_0 G) (c_X5_beside (gl Γ) G  e9) [.int x10, .ref (G.2.1 38)] rfl hl tw5_13 tw5_15 ts2_12 tw1_7 tw5_16 rfl nd_X5_beside ⟨(Nat.le_of_ble_eq_true rfl), (Nat.le_of_ble_eq_true rfl)⟩ (Nat.le_of_ble_eq_true rfl) dX5_storms_81 (fun H locs hX => ?_)
              refine x_iast C hX (ai_38 G) h dX5_storms_84 (fun H locs m7 h hX => ?_)
              exact J2 _ h _ _ _ (lv_sub hl [0, 1, 2, 3] rfl) hX
          exact L1 FU _ _ _ _ _ h (lv_sub hl [1, 2, 3, 0] rfl) hX
      exact L2 FU _ _ _ _ _ h (lv_sub hl [1, 2, 0] rfl) hX
    refine i_aload_n C dX5_storms_30 rfl (lv_at hl 0 rfl) ?_
    refine i_ldc C tw5_50 dX5_storms_31 ?_
    obtain ⟨x14, m8, e10, h⟩ := w_bdw h
    refine x_callVi C hX (fg_37_0 G) (c_X5_finding (gl Γ) G  e10) [] rfl hl tw4_173 tw4_175 ts1_15 tw1_7 tw4_176 rfl nd_X5_finding ⟨(Nat.le_of_ble_eq_true rfl), (Nat.le_of_ble_eq_true rfl)⟩ (Nat.le_of_ble_eq_true rfl) dX5_storms_33 (fun H locs hX => ?_)
    exact x_iretW C hX hr hQ h dX5_storms_36
  refine i_aload_n C dX5_storms_10 rfl (lv_at hl 0 rfl) ?_
  refine i_ldc C tw4_172 dX5_storms_11 ?_
  obtain ⟨x15, m9, e11, h⟩ := w_bdw h
  refine x_callVi C hX (fg_37_0 G) (c_X5_finding (gl Γ) G  e11) [] rfl hl tw4_173 tw4_175 ts1_15 tw1_7 tw4_176 rfl nd_X5_finding ⟨(Nat.le_of_ble_eq_true rfl), (Nat.le_of_ble_eq_true rfl)⟩ (Nat.le_of_ble_eq_true rfl) dX5_storms_13 (fun H locs hX => ?_)
  exact x_iretW C hX hr hQ h dX5_storms_16
def L_X5_odds_80 (k1 : Int32 → Int32 → Option (Int32 × MM)) : Nat → Int32 → Int32 → Option (Int32 × MM)
  | 0, _, _ => none
  | fu + 1, x7, x8 => if x8 ≤ 1 then (k1 x7 x8) else (if (irm x7 2) = 0 then (lt_ ((x7 / 2)) fun x9 => lt_ ((x8 / 2)) fun x10 => L_X5_odds_80 k1 fu x9 x10) else (k1 x7 x8))
def L_X5_odds_28 (p1 : Int32) (μ : MM) (k2 : Int32 → Option (Int32 × MM)) : Nat → Int32 → Int32 → Option (Int32 × MM)
  | 0, _, _ => none
  | fu + 1, x11, x12 => if 8 ≤ x12 then (k2 x11) else (bdr (f_X5_isLanded p1 μ) fun x13 => jn1 (fun (x14 : Int32) => lt_ ((x11 + x14)) fun x15 => lt_ (x12 + 1) fun x16 => L_X5_odds_28 p1 μ k2 fu x15 x16) fun k3 => jn0 (k3 1) fun k4 => if x13 = 0 then (bdr (f_X5_shipIs p1 0 μ) fun x17 => bdr (f_X5_beside x17 x12 μ) fun x18 => bdr (f_X5_isIsland x18 μ) fun x19 => if x19 = 0 then (k3 0) else (k4)) else (k4))
def f_X5_odds (p1 : Int32) (p2 : Int32) (μ : MM) : Option (Int32 × MM) := bdr (f_X5_isShip p1) fun x1 => if x1 = 0 then (bdw (f_X5_finding (-1000001) μ) fun x2 m1 => some (x2, m1)) else (bdr (f_X5_within p2 0 1) fun x3 => if x3 = 0 then (bdw (f_X5_finding (-1000001) μ) fun x20 m2 => some (x20, m2)) else (jn1 (fun (x4 : Int32) => jn2 (fun (x5 : Int32) (x6 : Int32) => if p2 = 0 then (some (x5, μ)) else (some (x6, μ))) fun k1 => L_X5_odds_80 k1 FU x4 8) fun k2 => L_X5_odds_28 p1 μ k2 FU 0 0))
theorem nd_X5_odds : yX5_odds.cls ≠ "java/lang/invoke/MethodHandle" ∧ yX5_odds.cls ≠ "java/lang/invoke/VarHandle" ∧ (parseMethodDescriptor yX5_odds.desc).map (fun d => d.parameters.length) = some 2 := by decide +kernel
set_option maxHeartbeats 4000000 in
set_option maxRecDepth 100000 in
theorem c_X5_odds (l : Launch) (G : EN)  {p1 p2 : Int32} {μ : MM} {r : Int32} {m : MM} (h : f_X5_odds p1 p2 μ = some (r, m)) : XM l G yX5_odds cX5_odds 5 (some .int) 3 64 [.ref (G.2.1 37), .int p1, .int p2] μ (some (.int r)) m := by
  refine x_met (own := RX5) (by decide +kernel) rfl (Nat.le_of_ble_eq_true rfl) (fun Γ A H ls hg C hr hX hQ hl => ?_)
  have hl : lv_has ls 5 [(0, .ref (G.2.1 37)), (1, .int p1), (2, .int p2)] := hl
  unfold f_X5_odds at h
  refine i_iload_n C dX5_odds_0 rfl (lv_at hl 1 rfl) ?_
  obtain ⟨x1, e1, h⟩ := w_bdr h
  refine x_callSi C hX (c_X5_isShip (gl Γ) G  e1) [] rfl hl tw4_216 tw4_217 tw1_7 tw4_218 nd_X5_isShip ⟨(Nat.le_of_ble_eq_true rfl), (Nat.le_of_ble_eq_true rfl)⟩ (Nat.le_of_ble_eq_true rfl) dX5_odds_1 (fun H locs hX => ?_)
  refine i_if_eq (tgt := 16) C h dX5_odds_4 (by decide) (fun _ h => ?_) (fun _ h => ?_)
  · refine i_aload_n C dX5_odds_16 rfl (lv_at hl 0 rfl) ?_
    refine i_ldc C tw4_172 dX5_odds_17 ?_
    obtain ⟨x2, m1, e2, h⟩ := w_bdw h
    refine x_callVi C hX (fg_37_0 G) (c_X5_finding (gl Γ) G  e2) [] rfl hl tw4_173 tw4_175 ts1_15 tw1_7 tw4_176 rfl nd_X5_finding ⟨(Nat.le_of_ble_eq_true rfl), (Nat.le_of_ble_eq_true rfl)⟩ (Nat.le_of_ble_eq_true rfl) dX5_odds_19 (fun H locs hX => ?_)
    exact x_iretW C hX hr hQ h dX5_odds_22
  refine i_iload_n C dX5_odds_7 rfl (lv_at hl 2 rfl) ?_
  refine i_iconst (v := 0) C dX5_odds_8 rfl ?_
  refine i_iconst (v := 1) C dX5_odds_9 rfl ?_
  obtain ⟨x3, e3, h⟩ := w_bdr h
  refine x_callSi C hX (c_X5_within (gl Γ) G  e3) [] rfl hl tw4_169 tw4_170 tw1_7 tw4_171 nd_X5_within ⟨(Nat.le_of_ble_eq_true rfl), (Nat.le_of_ble_eq_true rfl)⟩ (Nat.le_of_ble_eq_true rfl) dX5_odds_10 (fun H locs hX => ?_)
  refine i_if_ne (tgt := 23) C h dX5_odds_13 (by decide) (fun _ h => ?_) (fun _ h => ?_)
  · refine i_iconst (v := 0) C dX5_odds_23 rfl ?_
    refine i_istore_n C [(3, .int 0), (0, .ref (G.2.1 37)), (1, .int p1), (2, .int p2)] dX5_odds_24 rfl hl (by decide) rfl (fun ls hl => ?_)
    refine i_iconst (v := 0) C dX5_odds_25 rfl ?_
    refine i_istore C [(4, .int 0), (3, .int 0), (0, .ref (G.2.1 37)), (1, .int p1), (2, .int p2)] dX5_odds_26 hl (by decide) rfl (fun ls hl => ?_)
    refine w_jn1 (fun (x4 : Int32) => ∀ (H : Heap) (locs : List Loc) (ls : Array Slot), lv_has ls 5 [(2, .int p2), (3, .int x4)] → XW G A (gs Γ) H locs μ → WX Γ H locs 76 ls []) h (fun x4 h H locs ls hl hX => ?_) (fun k2 J2 h => ?_)
    · refine i_bipush (v := 8) C dX5_odds_76 rfl ?_
      refine i_istore C [(4, .int 8), (2, .int p2), (3, .int x4)] dX5_odds_78 hl (by decide) rfl (fun ls hl => ?_)
      refine w_jn2 (fun (x5 : Int32) (x6 : Int32) => ∀ (H : Heap) (locs : List Loc) (ls : Array Slot), lv_has ls 5 [(2, .int p2), (3, .int x5), (4, .int x6)] → XW G A (gs Γ) H locs μ → WX Γ H locs 105 ls []) h (fun x5 x6 h H locs ls hl hX => ?_) (fun k1 J1 h => ?_)
      · refine i_iload_n C dX5_odds_105 rfl (lv_at hl 0 rfl) ?_
        refine i_if_ne (tgt := 113) C h dX5_odds_106 (by decide) (fun _ h => ?_) (fun _ h => ?_)
        · refine i_iload C dX5_odds_113 (lv_at hl 2 rfl) ?_
          exact x_iretW C hX hr hQ h dX5_odds_115
        refine i_iload_n C dX5_odds_109 rfl (lv_at hl 1 rfl) ?_
        refine i_goto (tgt := 115) C dX5_odds_110 (by decide) ?_
        exact x_iretW C hX hr hQ h dX5_odds_115
      have L1 : ∀ (fu : Nat) (x7 : Int32) (x8 : Int32) (H : Heap) (locs : List Loc) (ls : Array Slot), L_X5_odds_80 k1 fu x7 x8 = some (r, m) → lv_has ls 5 [(2, .int p2), (3, .int x7), (4, .int x8)] → XW G A (gs Γ) H locs μ → WX Γ H locs 80 ls [] := by
        intro fu
        induction fu with
        | zero =>
          intro x7 x8 H locs ls h
          rw [L_X5_odds_80] at h
          cases h
        | succ fu ih =>
          intro x7 x8 H locs ls h hl hX
          rw [L_X5_odds_80] at h
          refine i_iload C dX5_odds_80 (lv_at hl 2 rfl) ?_
          refine i_iconst (v := 1) C dX5_odds_82 rfl ?_
          refine i_icmp_le (tgt := 105) C h dX5_odds_83 (by decide) (fun _ h => ?_) (fun _ h => ?_)
          · exact J1 _ _ h _ _ _ (lv_sub hl [0, 1, 2] rfl) hX
          refine i_iload_n C dX5_odds_86 rfl (lv_at hl 1 rfl) ?_
          refine i_iconst (v := 2) C dX5_odds_87 rfl ?_
          refine i_iremc C dX5_odds_88 (by decide) ?_
          refine i_if_ne (tgt := 105) C h dX5_odds_89 (by decide) (fun _ h => ?_) (fun _ h => ?_)
          · exact J1 _ _ h _ _ _ (lv_sub hl [0, 1, 2] rfl) hX
          refine i_iload_n C dX5_odds_92 rfl (lv_at hl 1 rfl) ?_
          refine i_iconst (v := 2) C dX5_odds_93 rfl ?_
          refine i_idivc C dX5_odds_94 (by decide) ?_
          refine i_istoreL_n C (fun x9 => [(3, .int x9), (2, .int p2), (4, .int x8)]) h dX5_odds_95 rfl hl (by decide) (fun _ => rfl) (fun x9 ls h hl => ?_)
          refine i_iload C dX5_odds_96 (lv_at hl 2 rfl) ?_
          refine i_iconst (v := 2) C dX5_odds_98 rfl ?_
          refine i_idivc C dX5_odds_99 (by decide) ?_
          refine i_istoreL C (fun x10 => [(4, .int x10), (3, .int x9), (2, .int p2)]) h dX5_odds_100 hl (by decide) (fun _ => rfl) (fun x10 ls h hl => ?_)
          refine i_goto (tgt := 80) C dX5_odds_102 (by decide) ?_
          exact ih _ _ _ _ _ h (lv_sub hl [2, 1, 0] rfl) hX
      exact L1 FU _ _ _ _ _ h (lv_sub hl [1, 2, 0] rfl) hX
    have L2 : ∀ (fu : Nat) (x11 : Int32) (x12 : Int32) (H : Heap) (locs : List Loc) (ls : Array Slot), L_X5_odds_28 p1 μ k2 fu x11 x12 = some (r, m) → lv_has ls 5 [(0, .ref (G.2.1 37)), (1, .int p1), (2, .int p2), (3, .int x11), (4, .int x12)] → XW G A (gs Γ) H locs μ → WX Γ H locs 28 ls [] := by
      intro fu
      induction fu with
      | zero =>
        intro x11 x12 H locs ls h
        rw [L_X5_odds_28] at h
        cases h
      | succ fu ih =>
        intro x11 x12 H locs ls h hl hX
        rw [L_X5_odds_28] at h
        refine i_iload C dX5_odds_28 (lv_at hl 4 rfl) ?_
        refine i_bipush (v := 8) C dX5_odds_30 rfl ?_
        refine i_icmp_ge (tgt := 76) C h dX5_odds_32 (by decide) (fun _ h => ?_) (fun _ h => ?_)
        · exact J2 _ h _ _ _ (lv_sub hl [2, 3] rfl) hX
        refine i_iload_n C dX5_odds_35 rfl (lv_at hl 3 rfl) ?_
        refine i_aload_n C dX5_odds_36 rfl (lv_at hl 0 rfl) ?_
        refine i_iload_n C dX5_odds_37 rfl (lv_at hl 1 rfl) ?_
        obtain ⟨x13, e4, h⟩ := w_bdr h
        refine x_callVi C hX (fg_37_0 G) (c_X5_isLanded (gl Γ) G  e4) [.int x11] rfl hl tw5_5 tw5_7 ts2_10 tw1_7 tw5_8 rfl nd_X5_isLanded ⟨(Nat.le_of_ble_eq_true rfl), (Nat.le_of_ble_eq_true rfl)⟩ (Nat.le_of_ble_eq_true rfl) dX5_odds_38 (fun H locs hX => ?_)
        refine w_jn1 (fun (x14 : Int32) => ∀ (H : Heap) (locs : List Loc) (ls : Array Slot), lv_has ls 5 [(0, .ref (G.2.1 37)), (1, .int p1), (2, .int p2), (4, .int x12)] → XW G A (gs Γ) H locs μ → WX Γ H locs 68 ls [.int x14, .int x11]) h (fun x14 h H locs ls hl hX => ?_) (fun k3 J3 h => ?_)
        · refine i_iadd C dX5_odds_68 ?_
          refine i_istoreL_n C (fun x15 => [(3, .int x15), (0, .ref (G.2.1 37)), (1, .int p1), (2, .int p2), (4, .int x12)]) h dX5_odds_69 rfl hl (by decide) (fun _ => rfl) (fun x15 ls h hl => ?_)
          refine i_iinc C (j := 4) (fun x16 => [(4, .int x16), (3, .int x15), (0, .ref (G.2.1 37)), (1, .int p1), (2, .int p2)]) h dX5_odds_70 hl rfl rfl (by decide) (fun _ => rfl) (fun x16 ls h hl => ?_)
          refine i_goto (tgt := 28) C dX5_odds_73 (by decide) ?_
          exact ih _ _ _ _ _ h (lv_sub hl [2, 3, 4, 1, 0] rfl) hX
        refine w_jn0 (∀ (H : Heap) (locs : List Loc) (ls : Array Slot), lv_has ls 5 [(0, .ref (G.2.1 37)), (1, .int p1), (2, .int p2), (4, .int x12)] → XW G A (gs Γ) H locs μ → WX Γ H locs 63 ls [.int x11]) h (fun  h H locs ls hl hX => ?_) (fun k4 J4 h => ?_)
        · refine i_iconst (v := 1) C dX5_odds_63 rfl ?_
          refine i_goto (tgt := 68) C dX5_odds_64 (by decide) ?_
          exact J3 _ h _ _ _ (lv_sub hl [0, 1, 2, 3] rfl) hX
        refine i_if_ne (tgt := 63) C h dX5_odds_41 (by decide) (fun _ h => ?_) (fun _ h => ?_)
        · exact J4 h _ _ _ (lv_sub hl [0, 1, 2, 4] rfl) hX
        refine i_aload_n C dX5_odds_44 rfl (lv_at hl 0 rfl) ?_
        refine i_aload_n C dX5_odds_45 rfl (lv_at hl 0 rfl) ?_
        refine i_aload_n C dX5_odds_46 rfl (lv_at hl 0 rfl) ?_
        refine i_iload_n C dX5_odds_47 rfl (lv_at hl 1 rfl) ?_
        refine i_iconst (v := 0) C dX5_odds_48 rfl ?_
        obtain ⟨x17, e5, h⟩ := w_bdr h
        refine x_callVi C hX (fg_37_0 G) (c_X5_shipIs (gl Γ) G  e5) [.ref (G.2.1 37), .ref (G.2.1 37), .int x11] rfl hl tw4_223 tw4_225 ts2_6 tw1_7 tw4_226 rfl nd_X5_shipIs ⟨(Nat.le_of_ble_eq_true rfl), (Nat.le_of_ble_eq_true rfl)⟩ (Nat.le_of_ble_eq_true rfl) dX5_odds_49 (fun H locs hX => ?_)
        refine i_iload C dX5_odds_52 (lv_at hl 4 rfl) ?_
        obtain ⟨x18, e6, h⟩ := w_bdr h
        refine x_callVi C hX (fg_37_0 G) (c_X5_beside (gl Γ) G  e6) [.ref (G.2.1 37), .int x11] rfl hl tw5_13 tw5_15 ts2_12 tw1_7 tw5_16 rfl nd_X5_beside ⟨(Nat.le_of_ble_eq_true rfl), (Nat.le_of_ble_eq_true rfl)⟩ (Nat.le_of_ble_eq_true rfl) dX5_odds_54 (fun H locs hX => ?_)
        obtain ⟨x19, e7, h⟩ := w_bdr h
        refine x_callVi C hX (fg_37_0 G) (c_X5_isIsland (gl Γ) G  e7) [.int x11] rfl hl tw5_9 tw5_11 ts2_11 tw1_7 tw5_12 rfl nd_X5_isIsland ⟨(Nat.le_of_ble_eq_true rfl), (Nat.le_of_ble_eq_true rfl)⟩ (Nat.le_of_ble_eq_true rfl) dX5_odds_57 (fun H locs hX => ?_)
        refine i_if_eq (tgt := 67) C h dX5_odds_60 (by decide) (fun _ h => ?_) (fun _ h => ?_)
        · refine i_iconst (v := 0) C dX5_odds_67 rfl ?_
          exact J3 _ h _ _ _ (lv_sub hl [0, 1, 2, 4] rfl) hX
        exact J4 h _ _ _ (lv_sub hl [0, 1, 2, 4] rfl) hX
    exact L2 FU _ _ _ _ _ h (lv_sub hl [2, 3, 4, 1, 0] rfl) hX
  refine i_aload_n C dX5_odds_16 rfl (lv_at hl 0 rfl) ?_
  refine i_ldc C tw4_172 dX5_odds_17 ?_
  obtain ⟨x20, m2, e8, h⟩ := w_bdw h
  refine x_callVi C hX (fg_37_0 G) (c_X5_finding (gl Γ) G  e8) [] rfl hl tw4_173 tw4_175 ts1_15 tw1_7 tw4_176 rfl nd_X5_finding ⟨(Nat.le_of_ble_eq_true rfl), (Nat.le_of_ble_eq_true rfl)⟩ (Nat.le_of_ble_eq_true rfl) dX5_odds_19 (fun H locs hX => ?_)
  exact x_iretW C hX hr hQ h dX5_odds_22
def f_X5_drives (p1 : Int32) (μ : MM) : Option (Int64 × MM) := bdr (f_X5_within p1 0 20) fun x1 => if x1 = 0 then (bdw (f_X5_finding (-1000001) μ) fun x2 m1 => some ((x2).toInt64, m1)) else (some ((lsl 1 (3 * p1)), μ))
theorem nd_X5_drives : yX5_drives.cls ≠ "java/lang/invoke/MethodHandle" ∧ yX5_drives.cls ≠ "java/lang/invoke/VarHandle" ∧ (parseMethodDescriptor yX5_drives.desc).map (fun d => d.parameters.length) = some 1 := by decide +kernel
set_option maxHeartbeats 4000000 in
set_option maxRecDepth 100000 in
theorem c_X5_drives (l : Launch) (G : EN)  {p1 : Int32} {μ : MM} {r : Int64} {m : MM} (h : f_X5_drives p1 μ = some (r, m)) : XM l G yX5_drives cX5_drives 2 (some .long) 1 22 [.ref (G.2.1 37), .int p1] μ (some (.long r)) m := by
  refine x_met (own := RX5) (by decide +kernel) rfl (Nat.le_of_ble_eq_true rfl) (fun Γ A H ls hg C hr hX hQ hl => ?_)
  have hl : lv_has ls 2 [(0, .ref (G.2.1 37)), (1, .int p1)] := hl
  unfold f_X5_drives at h
  refine i_iload_n C dX5_drives_0 rfl (lv_at hl 1 rfl) ?_
  refine i_iconst (v := 0) C dX5_drives_1 rfl ?_
  refine i_bipush (v := 20) C dX5_drives_2 rfl ?_
  obtain ⟨x1, e1, h⟩ := w_bdr h
  refine x_callSi C hX (c_X5_within (gl Γ) G  e1) [] rfl hl tw4_169 tw4_170 tw1_7 tw4_171 nd_X5_within ⟨(Nat.le_of_ble_eq_true rfl), (Nat.le_of_ble_eq_true rfl)⟩ (Nat.le_of_ble_eq_true rfl) dX5_drives_4 (fun H locs hX => ?_)
  refine i_if_eq (tgt := 18) C h dX5_drives_7 (by decide) (fun _ h => ?_) (fun _ h => ?_)
  · refine i_aload_n C dX5_drives_18 rfl (lv_at hl 0 rfl) ?_
    refine i_ldc C tw4_172 dX5_drives_19 ?_
    obtain ⟨x2, m1, e2, h⟩ := w_bdw h
    refine x_callVi C hX (fg_37_0 G) (c_X5_finding (gl Γ) G  e2) [] rfl hl tw4_173 tw4_175 ts1_15 tw1_7 tw4_176 rfl nd_X5_finding ⟨(Nat.le_of_ble_eq_true rfl), (Nat.le_of_ble_eq_true rfl)⟩ (Nat.le_of_ble_eq_true rfl) dX5_drives_21 (fun H locs hX => ?_)
    refine i_i2l C dX5_drives_24 ?_
    exact x_lretW C hX hr hQ h dX5_drives_25
  refine i_lconst (v := 1) C dX5_drives_10 rfl ?_
  refine i_iconst (v := 3) C dX5_drives_11 rfl ?_
  refine i_iload_n C dX5_drives_12 rfl (lv_at hl 1 rfl) ?_
  refine i_imul C dX5_drives_13 ?_
  refine i_lshl C dX5_drives_14 ?_
  refine i_goto (tgt := 25) C dX5_drives_15 (by decide) ?_
  exact x_lretW C hX hr hQ h dX5_drives_25
def f_X5_seed (p1 : Int32) (μ : MM) : Option (Int32 × MM) := bdw (f_X5_become 5 p1 μ) fun x1 m1 => some (x1, m1)
theorem nd_X5_seed : yX5_seed.cls ≠ "java/lang/invoke/MethodHandle" ∧ yX5_seed.cls ≠ "java/lang/invoke/VarHandle" ∧ (parseMethodDescriptor yX5_seed.desc).map (fun d => d.parameters.length) = some 1 := by decide +kernel
set_option maxHeartbeats 4000000 in
set_option maxRecDepth 100000 in
theorem c_X5_seed (l : Launch) (G : EN)  {p1 : Int32} {μ : MM} {r : Int32} {m : MM} (h : f_X5_seed p1 μ = some (r, m)) : XM l G yX5_seed cX5_seed 2 (some .int) 1 23 [.ref (G.2.1 37), .int p1] μ (some (.int r)) m := by
  refine x_met (own := RX5) (by decide +kernel) rfl (Nat.le_of_ble_eq_true rfl) (fun Γ A H ls hg C hr hX hQ hl => ?_)
  have hl : lv_has ls 2 [(0, .ref (G.2.1 37)), (1, .int p1)] := hl
  unfold f_X5_seed at h
  refine i_aload_n C dX5_seed_0 rfl (lv_at hl 0 rfl) ?_
  refine i_iconst (v := 5) C dX5_seed_1 rfl ?_
  refine i_iload_n C dX5_seed_2 rfl (lv_at hl 1 rfl) ?_
  obtain ⟨x1, m1, e1, h⟩ := w_bdw h
  refine x_callVi C hX (fg_37_0 G) (c_X5_become (gl Γ) G  e1) [] rfl hl tw4_208 tw4_210 ts2_4 tw1_7 tw4_211 rfl nd_X5_become ⟨(Nat.le_of_ble_eq_true rfl), (Nat.le_of_ble_eq_true rfl)⟩ (Nat.le_of_ble_eq_true rfl) dX5_seed_3 (fun H locs hX => ?_)
  exact x_iretW C hX hr hQ h dX5_seed_6
def L_X5_feed_38 (p1 : Int32) : Nat → Int32 → MM → Option (Int32 × MM)
  | 0, _, _ => none
  | fu + 1, x3, m1 => if x3 < 0 then (some ((m1 37 11), m1)) else (sti m1 44 120 (m1 37 11) ((sr p1 (8 * x3)) &&& 255) fun m2 => lt_ (wst m2 37 11 ((m2 37 11) + 1)) fun m3 => lt_ (x3 + (-1)) fun x4 => L_X5_feed_38 p1 fu x4 m3)
def f_X5_feed (p1 : Int32) (p2 : Int32) (μ : MM) : Option (Int32 × MM) := bdr (f_X5_within p2 1 4) fun x1 => if x1 = 0 then (bdw (f_X5_finding (-1000001) μ) fun x6 m5 => some (x6, m5)) else (if ((μ 37 11) + p2) ≤ 120 then (lt_ ((p2 - 1)) fun x2 => L_X5_feed_38 p1 FU x2 μ) else (bdw (f_X5_finding (-1000002) μ) fun x5 m4 => some (x5, m4)))
theorem nd_X5_feed : yX5_feed.cls ≠ "java/lang/invoke/MethodHandle" ∧ yX5_feed.cls ≠ "java/lang/invoke/VarHandle" ∧ (parseMethodDescriptor yX5_feed.desc).map (fun d => d.parameters.length) = some 2 := by decide +kernel
set_option maxHeartbeats 4000000 in
set_option maxRecDepth 100000 in
theorem c_X5_feed (l : Launch) (G : EN)  {p1 p2 : Int32} {μ : MM} {r : Int32} {m : MM} (h : f_X5_feed p1 p2 μ = some (r, m)) : XM l G yX5_feed cX5_feed 4 (some .int) 1 22 [.ref (G.2.1 37), .int p1, .int p2] μ (some (.int r)) m := by
  refine x_met (own := RX5) (by decide +kernel) rfl (Nat.le_of_ble_eq_true rfl) (fun Γ A H ls hg C hr hX hQ hl => ?_)
  have hl : lv_has ls 4 [(0, .ref (G.2.1 37)), (1, .int p1), (2, .int p2)] := hl
  unfold f_X5_feed at h
  refine i_iload_n C dX5_feed_0 rfl (lv_at hl 2 rfl) ?_
  refine i_iconst (v := 1) C dX5_feed_1 rfl ?_
  refine i_iconst (v := 4) C dX5_feed_2 rfl ?_
  obtain ⟨x1, e1, h⟩ := w_bdr h
  refine x_callSi C hX (c_X5_within (gl Γ) G  e1) [] rfl hl tw4_169 tw4_170 tw1_7 tw4_171 nd_X5_within ⟨(Nat.le_of_ble_eq_true rfl), (Nat.le_of_ble_eq_true rfl)⟩ (Nat.le_of_ble_eq_true rfl) dX5_feed_3 (fun H locs hX => ?_)
  refine i_if_ne (tgt := 16) C h dX5_feed_6 (by decide) (fun _ h => ?_) (fun _ h => ?_)
  · refine i_aload_n C dX5_feed_16 rfl (lv_at hl 0 rfl) ?_
    refine x_get C hX (fg_37_11 G) tw4_94 dX5_feed_17 ?_
    refine i_iload_n C dX5_feed_20 rfl (lv_at hl 2 rfl) ?_
    refine i_iadd C dX5_feed_21 ?_
    refine i_bipush (v := 120) C dX5_feed_22 rfl ?_
    refine i_icmp_le (tgt := 34) C h dX5_feed_24 (by decide) (fun _ h => ?_) (fun _ h => ?_)
    · refine i_iload_n C dX5_feed_34 rfl (lv_at hl 2 rfl) ?_
      refine i_iconst (v := 1) C dX5_feed_35 rfl ?_
      refine i_isub C dX5_feed_36 ?_
      refine i_istoreL_n C (fun x2 => [(3, .int x2), (0, .ref (G.2.1 37)), (1, .int p1), (2, .int p2)]) h dX5_feed_37 rfl hl (by decide) (fun _ => rfl) (fun x2 ls h hl => ?_)
      have L1 : ∀ (fu : Nat) (x3 : Int32) (m1 : MM) (H : Heap) (locs : List Loc) (ls : Array Slot), L_X5_feed_38 p1 fu x3 m1 = some (r, m) → lv_has ls 4 [(0, .ref (G.2.1 37)), (1, .int p1), (3, .int x3)] → XW G A (gs Γ) H locs m1 → WX Γ H locs 38 ls [] := by
        intro fu
        induction fu with
        | zero =>
          intro x3 m1 H locs ls h
          rw [L_X5_feed_38] at h
          cases h
        | succ fu ih =>
          intro x3 m1 H locs ls h hl hX
          rw [L_X5_feed_38] at h
          refine i_iload_n C dX5_feed_38 rfl (lv_at hl 2 rfl) ?_
          refine i_if_lt (tgt := 77) C h dX5_feed_39 (by decide) (fun _ h => ?_) (fun _ h => ?_)
          · refine i_aload_n C dX5_feed_77 rfl (lv_at hl 0 rfl) ?_
            refine x_get C hX (fg_37_11 G) tw4_94 dX5_feed_78 ?_
            exact x_iretW C hX hr hQ h dX5_feed_81
          refine i_aload_n C dX5_feed_42 rfl (lv_at hl 0 rfl) ?_
          refine x_get C hX (fg_37_10 G) tw4_93 dX5_feed_43 ?_
          refine i_aload_n C dX5_feed_46 rfl (lv_at hl 0 rfl) ?_
          refine x_get C hX (fg_37_11 G) tw4_94 dX5_feed_47 ?_
          refine i_iload_n C dX5_feed_50 rfl (lv_at hl 1 rfl) ?_
          refine i_bipush (v := 8) C dX5_feed_51 rfl ?_
          refine i_iload_n C dX5_feed_53 rfl (lv_at hl 2 rfl) ?_
          refine i_imul C dX5_feed_54 ?_
          refine i_ishr C dX5_feed_55 ?_
          refine i_sipush (v := 255) C dX5_feed_56 rfl ?_
          refine i_iand C dX5_feed_59 ?_
          refine x_iast C hX (ai_44 G) h dX5_feed_60 (fun H locs m2 h hX => ?_)
          refine i_aload_n C dX5_feed_61 rfl (lv_at hl 0 rfl) ?_
          refine i_dup C dX5_feed_62 rfl ?_
          refine x_get C hX (fg_37_11 G) tw4_94 dX5_feed_63 ?_
          refine i_iconst (v := 1) C dX5_feed_66 rfl ?_
          refine i_iadd C dX5_feed_67 ?_
          refine x_putI C hX (fp_37_11 G) h tw4_94 dX5_feed_68 (fun H locs m3 h hX => ?_)
          refine i_iinc C (j := 2) (fun x4 => [(3, .int x4), (0, .ref (G.2.1 37)), (1, .int p1)]) h dX5_feed_71 hl rfl rfl (by decide) (fun _ => rfl) (fun x4 ls h hl => ?_)
          refine i_goto (tgt := 38) C dX5_feed_74 (by decide) ?_
          exact ih _ _ _ _ _ h (lv_sub hl [1, 2, 0] rfl) hX
      exact L1 FU _ _ _ _ _ h (lv_sub hl [1, 2, 0] rfl) hX
    refine i_aload_n C dX5_feed_27 rfl (lv_at hl 0 rfl) ?_
    refine i_ldc C tw4_177 dX5_feed_28 ?_
    obtain ⟨x5, m4, e2, h⟩ := w_bdw h
    refine x_callVi C hX (fg_37_0 G) (c_X5_finding (gl Γ) G  e2) [] rfl hl tw4_173 tw4_175 ts1_15 tw1_7 tw4_176 rfl nd_X5_finding ⟨(Nat.le_of_ble_eq_true rfl), (Nat.le_of_ble_eq_true rfl)⟩ (Nat.le_of_ble_eq_true rfl) dX5_feed_30 (fun H locs hX => ?_)
    exact x_iretW C hX hr hQ h dX5_feed_33
  refine i_aload_n C dX5_feed_9 rfl (lv_at hl 0 rfl) ?_
  refine i_ldc C tw4_172 dX5_feed_10 ?_
  obtain ⟨x6, m5, e3, h⟩ := w_bdw h
  refine x_callVi C hX (fg_37_0 G) (c_X5_finding (gl Γ) G  e3) [] rfl hl tw4_173 tw4_175 ts1_15 tw1_7 tw4_176 rfl nd_X5_finding ⟨(Nat.le_of_ble_eq_true rfl), (Nat.le_of_ble_eq_true rfl)⟩ (Nat.le_of_ble_eq_true rfl) dX5_feed_12 (fun H locs hX => ?_)
  exact x_iretW C hX hr hQ h dX5_feed_15
def f_X5_wipe (μ : MM) : Option (Int32 × MM) := lt_ ((μ 37 11)) fun x1 => lt_ (wst μ 37 11 0) fun m1 => some (x1, m1)
theorem nd_X5_wipe : yX5_wipe.cls ≠ "java/lang/invoke/MethodHandle" ∧ yX5_wipe.cls ≠ "java/lang/invoke/VarHandle" ∧ (parseMethodDescriptor yX5_wipe.desc).map (fun d => d.parameters.length) = some 0 := by decide +kernel
set_option maxHeartbeats 4000000 in
set_option maxRecDepth 100000 in
theorem c_X5_wipe (l : Launch) (G : EN)  {μ : MM} {r : Int32} {m : MM} (h : f_X5_wipe μ = some (r, m)) : XM l G yX5_wipe cX5_wipe 2 (some .int) 0 0 [.ref (G.2.1 37)] μ (some (.int r)) m := by
  refine x_met (own := RX5) (by decide +kernel) rfl (Nat.le_of_ble_eq_true rfl) (fun Γ A H ls hg C hr hX hQ hl => ?_)
  have hl : lv_has ls 2 [(0, .ref (G.2.1 37))] := hl
  unfold f_X5_wipe at h
  refine i_aload_n C dX5_wipe_0 rfl (lv_at hl 0 rfl) ?_
  refine x_get C hX (fg_37_11 G) tw4_94 dX5_wipe_1 ?_
  refine i_istoreL_n C (fun x1 => [(1, .int x1), (0, .ref (G.2.1 37))]) h dX5_wipe_4 rfl hl (by decide) (fun _ => rfl) (fun x1 ls h hl => ?_)
  refine i_aload_n C dX5_wipe_5 rfl (lv_at hl 1 rfl) ?_
  refine i_iconst (v := 0) C dX5_wipe_6 rfl ?_
  refine x_putI C hX (fp_37_11 G) h tw4_94 dX5_wipe_7 (fun H locs m1 h hX => ?_)
  refine i_iload_n C dX5_wipe_10 rfl (lv_at hl 0 rfl) ?_
  exact x_iretW C hX hr hQ h dX5_wipe_11
def f_X5_byteAt (p1 : Int32) (μ : MM) : Option Int32 := if (μ 37 11) ≤ p1 then (some (-1)) else (ldi μ 44 120 p1 fun x1 => some x1)
theorem nd_X5_byteAt : yX5_byteAt.cls ≠ "java/lang/invoke/MethodHandle" ∧ yX5_byteAt.cls ≠ "java/lang/invoke/VarHandle" ∧ (parseMethodDescriptor yX5_byteAt.desc).map (fun d => d.parameters.length) = some 1 := by decide +kernel
set_option maxHeartbeats 4000000 in
set_option maxRecDepth 100000 in
theorem c_X5_byteAt (l : Launch) (G : EN)  {p1 : Int32} {μ : MM} {r : Int32} (h : f_X5_byteAt p1 μ = some r) : XM l G yX5_byteAt cX5_byteAt 2 (some .int) 0 0 [.ref (G.2.1 37), .int p1] μ (some (.int r)) μ := by
  refine x_met (own := RX5) (by decide +kernel) rfl (Nat.le_of_ble_eq_true rfl) (fun Γ A H ls hg C hr hX hQ hl => ?_)
  have hl : lv_has ls 2 [(0, .ref (G.2.1 37)), (1, .int p1)] := hl
  unfold f_X5_byteAt at h
  refine i_iload_n C dX5_byteAt_0 rfl (lv_at hl 1 rfl) ?_
  refine i_aload_n C dX5_byteAt_1 rfl (lv_at hl 0 rfl) ?_
  refine x_get C hX (fg_37_11 G) tw4_94 dX5_byteAt_2 ?_
  refine i_icmp_ge (tgt := 17) C h dX5_byteAt_5 (by decide) (fun _ h => ?_) (fun _ h => ?_)
  · refine i_iconst (v := (-1)) C dX5_byteAt_17 rfl ?_
    exact x_iretR C hX hr hQ h dX5_byteAt_18
  refine i_aload_n C dX5_byteAt_8 rfl (lv_at hl 0 rfl) ?_
  refine x_get C hX (fg_37_10 G) tw4_93 dX5_byteAt_9 ?_
  refine i_iload_n C dX5_byteAt_12 rfl (lv_at hl 1 rfl) ?_
  refine x_iald C hX (ai_44 G) h dX5_byteAt_13 (fun x1 h => ?_)
  refine i_goto (tgt := 18) C dX5_byteAt_14 (by decide) ?_
  exact x_iretR C hX hr hQ h dX5_byteAt_18
def L_X5_next_131 : Nat → MM → Option MM
  | 0, _ => none
  | fu + 1, m8 => bdr (f_X5_byteAt (m8 37 13) m8) fun x4 => bdr (f_X5_within x4 48 57) fun x5 => if x5 = 0 then (some m8) else (bdr (f_X5_byteAt (m8 37 13) m8) fun x6 => lt_ (wst m8 37 15 (imin 100000 (((10 * (m8 37 15)) + x6) - 48))) fun m9 => lt_ (wst m9 37 13 ((m9 37 13) + 1)) fun m10 => L_X5_next_131 fu m10)
def L_X5_next_84 : Nat → MM → Option MM
  | 0, _ => none
  | fu + 1, m12 => bdr (f_X5_byteAt (m12 37 13) m12) fun x7 => bdr (f_X5_within x7 97 122) fun x8 => if x8 = 0 then (some m12) else (lt_ (wst m12 37 13 ((m12 37 13) + 1)) fun m13 => L_X5_next_84 fu m13)
def L_X5_next_8 (k1 : MM → Option MM) : Nat → MM → Option MM
  | 0, _ => none
  | fu + 1, m15 => bdr (f_X5_byteAt (m15 37 12) m15) fun x9 => if x9 = 32 then (lt_ (wst m15 37 12 ((m15 37 12) + 1)) fun m16 => L_X5_next_8 k1 fu m16) else (k1 m15)
def f_X5_next (μ : MM) : Option MM := lt_ (wst μ 37 12 (μ 37 13)) fun m1 => jn1 (fun (m2 : MM) => bdr (f_X5_byteAt (m2 37 12) m2) fun x1 => lt_ (wst m2 37 13 (m2 37 12)) fun m3 => lt_ (wst m3 37 15 0) fun m4 => if 0 ≤ x1 then (bdr (f_X5_within x1 97 122) fun x2 => if x2 = 0 then (bdr (f_X5_within x1 48 57) fun x3 => if x3 = 0 then (lt_ (wst m4 37 14 3) fun m5 => lt_ (wst m5 37 13 ((m5 37 13) + 1)) fun m6 => some m6) else (lt_ (wst m4 37 14 2) fun m7 => L_X5_next_131 FU m7)) else (lt_ (wst m4 37 14 1) fun m11 => L_X5_next_84 FU m11)) else (lt_ (wst m4 37 14 0) fun m14 => some m14)) fun k1 => L_X5_next_8 k1 FU m1
theorem nd_X5_next : yX5_next.cls ≠ "java/lang/invoke/MethodHandle" ∧ yX5_next.cls ≠ "java/lang/invoke/VarHandle" ∧ (parseMethodDescriptor yX5_next.desc).map (fun d => d.parameters.length) = some 0 := by decide +kernel
set_option maxHeartbeats 4000000 in
set_option maxRecDepth 100000 in
theorem c_X5_next (l : Launch) (G : EN)  {μ : MM} {r : MM} (h : f_X5_next μ = some r) : XM l G yX5_next cX5_next 2 none 1 22 [.ref (G.2.1 37)] μ none r := by
  refine x_met (own := RX5) (by decide +kernel) rfl (Nat.le_of_ble_eq_true rfl) (fun Γ A H ls hg C hr hX hQ hl => ?_)
  have hl : lv_has ls 2 [(0, .ref (G.2.1 37))] := hl
  unfold f_X5_next at h
  refine i_aload_n C dX5_next_0 rfl (lv_at hl 0 rfl) ?_
  refine i_aload_n C dX5_next_1 rfl (lv_at hl 0 rfl) ?_
  refine x_get C hX (fg_37_13 G) tw4_96 dX5_next_2 ?_
  refine x_putI C hX (fp_37_12 G) h tw4_95 dX5_next_5 (fun H locs m1 h hX => ?_)
  refine w_jn1 (fun (m2 : MM) => ∀ (H : Heap) (locs : List Loc) (ls : Array Slot), lv_has ls 2 [(0, .ref (G.2.1 37))] → XW G A (gs Γ) H locs m2 → WX Γ H locs 34 ls []) h (fun m2 h H locs ls hl hX => ?_) (fun k1 J1 h => ?_)
  · refine i_aload_n C dX5_next_34 rfl (lv_at hl 0 rfl) ?_
    refine i_aload_n C dX5_next_35 rfl (lv_at hl 0 rfl) ?_
    refine x_get C hX (fg_37_12 G) tw4_95 dX5_next_36 ?_
    obtain ⟨x1, e1, h⟩ := w_bdr h
    refine x_callVi C hX (fg_37_0 G) (c_X5_byteAt (gl Γ) G  e1) [] rfl hl tw6_43 tw6_45 ts4_6 tw1_7 tw6_46 rfl nd_X5_byteAt ⟨(Nat.le_of_ble_eq_true rfl), (Nat.le_of_ble_eq_true rfl)⟩ (Nat.le_of_ble_eq_true rfl) dX5_next_39 (fun H locs hX => ?_)
    refine i_istore_n C [(1, .int x1), (0, .ref (G.2.1 37))] dX5_next_42 rfl hl (by decide) rfl (fun ls hl => ?_)
    refine i_aload_n C dX5_next_43 rfl (lv_at hl 1 rfl) ?_
    refine i_aload_n C dX5_next_44 rfl (lv_at hl 1 rfl) ?_
    refine x_get C hX (fg_37_12 G) tw4_95 dX5_next_45 ?_
    refine x_putI C hX (fp_37_13 G) h tw4_96 dX5_next_48 (fun H locs m3 h hX => ?_)
    refine i_aload_n C dX5_next_51 rfl (lv_at hl 1 rfl) ?_
    refine i_iconst (v := 0) C dX5_next_52 rfl ?_
    refine x_putI C hX (fp_37_15 G) h tw4_98 dX5_next_53 (fun H locs m4 h hX => ?_)
    refine i_iload_n C dX5_next_56 rfl (lv_at hl 0 rfl) ?_
    refine i_if_ge (tgt := 68) C h dX5_next_57 (by decide) (fun _ h => ?_) (fun _ h => ?_)
    · refine i_iload_n C dX5_next_68 rfl (lv_at hl 0 rfl) ?_
      refine i_bipush (v := 97) C dX5_next_69 rfl ?_
      refine i_bipush (v := 122) C dX5_next_71 rfl ?_
      obtain ⟨x2, e2, h⟩ := w_bdr h
      refine x_callSi C hX (c_X5_within (gl Γ) G  e2) [] rfl hl tw4_169 tw4_170 tw1_7 tw4_171 nd_X5_within ⟨(Nat.le_of_ble_eq_true rfl), (Nat.le_of_ble_eq_true rfl)⟩ (Nat.le_of_ble_eq_true rfl) dX5_next_73 (fun H locs hX => ?_)
      refine i_if_eq (tgt := 115) C h dX5_next_76 (by decide) (fun _ h => ?_) (fun _ h => ?_)
      · refine i_iload_n C dX5_next_115 rfl (lv_at hl 0 rfl) ?_
        refine i_bipush (v := 48) C dX5_next_116 rfl ?_
        refine i_bipush (v := 57) C dX5_next_118 rfl ?_
        obtain ⟨x3, e3, h⟩ := w_bdr h
        refine x_callSi C hX (c_X5_within (gl Γ) G  e3) [] rfl hl tw4_169 tw4_170 tw1_7 tw4_171 nd_X5_within ⟨(Nat.le_of_ble_eq_true rfl), (Nat.le_of_ble_eq_true rfl)⟩ (Nat.le_of_ble_eq_true rfl) dX5_next_120 (fun H locs hX => ?_)
        refine i_if_eq (tgt := 191) C h dX5_next_123 (by decide) (fun _ h => ?_) (fun _ h => ?_)
        · refine i_aload_n C dX5_next_191 rfl (lv_at hl 1 rfl) ?_
          refine i_iconst (v := 3) C dX5_next_192 rfl ?_
          refine x_putI C hX (fp_37_14 G) h tw4_97 dX5_next_193 (fun H locs m5 h hX => ?_)
          refine i_aload_n C dX5_next_196 rfl (lv_at hl 1 rfl) ?_
          refine i_dup C dX5_next_197 rfl ?_
          refine x_get C hX (fg_37_13 G) tw4_96 dX5_next_198 ?_
          refine i_iconst (v := 1) C dX5_next_201 rfl ?_
          refine i_iadd C dX5_next_202 ?_
          refine x_putI C hX (fp_37_13 G) h tw4_96 dX5_next_203 (fun H locs m6 h hX => ?_)
          exact x_vretV C hX hr hQ h dX5_next_206
        refine i_aload_n C dX5_next_126 rfl (lv_at hl 1 rfl) ?_
        refine i_iconst (v := 2) C dX5_next_127 rfl ?_
        refine x_putI C hX (fp_37_14 G) h tw4_97 dX5_next_128 (fun H locs m7 h hX => ?_)
        have L1 : ∀ (fu : Nat) (m8 : MM) (H : Heap) (locs : List Loc) (ls : Array Slot), L_X5_next_131 fu m8 = some r → lv_has ls 2 [(0, .ref (G.2.1 37))] → XW G A (gs Γ) H locs m8 → WX Γ H locs 131 ls [] := by
          intro fu
          induction fu with
          | zero =>
            intro m8 H locs ls h
            rw [L_X5_next_131] at h
            cases h
          | succ fu ih =>
            intro m8 H locs ls h hl hX
            rw [L_X5_next_131] at h
            refine i_aload_n C dX5_next_131 rfl (lv_at hl 0 rfl) ?_
            refine i_aload_n C dX5_next_132 rfl (lv_at hl 0 rfl) ?_
            refine x_get C hX (fg_37_13 G) tw4_96 dX5_next_133 ?_
            obtain ⟨x4, e4, h⟩ := w_bdr h
            refine x_callVi C hX (fg_37_0 G) (c_X5_byteAt (gl Γ) G  e4) [] rfl hl tw6_43 tw6_45 ts4_6 tw1_7 tw6_46 rfl nd_X5_byteAt ⟨(Nat.le_of_ble_eq_true rfl), (Nat.le_of_ble_eq_true rfl)⟩ (Nat.le_of_ble_eq_true rfl) dX5_next_136 (fun H locs hX => ?_)
            refine i_bipush (v := 48) C dX5_next_139 rfl ?_
            refine i_bipush (v := 57) C dX5_next_141 rfl ?_
            obtain ⟨x5, e5, h⟩ := w_bdr h
            refine x_callSi C hX (c_X5_within (gl Γ) G  e5) [] rfl hl tw4_169 tw4_170 tw1_7 tw4_171 nd_X5_within ⟨(Nat.le_of_ble_eq_true rfl), (Nat.le_of_ble_eq_true rfl)⟩ (Nat.le_of_ble_eq_true rfl) dX5_next_143 (fun H locs hX => ?_)
            refine i_if_eq (tgt := 206) C h dX5_next_146 (by decide) (fun _ h => ?_) (fun _ h => ?_)
            · exact x_vretV C hX hr hQ h dX5_next_206
            refine i_aload_n C dX5_next_149 rfl (lv_at hl 0 rfl) ?_
            refine i_ldcw C tw6_47 dX5_next_150 ?_
            refine i_bipush (v := 10) C dX5_next_153 rfl ?_
            refine i_aload_n C dX5_next_155 rfl (lv_at hl 0 rfl) ?_
            refine x_get C hX (fg_37_15 G) tw4_98 dX5_next_156 ?_
            refine i_imul C dX5_next_159 ?_
            refine i_aload_n C dX5_next_160 rfl (lv_at hl 0 rfl) ?_
            refine i_aload_n C dX5_next_161 rfl (lv_at hl 0 rfl) ?_
            refine x_get C hX (fg_37_13 G) tw4_96 dX5_next_162 ?_
            obtain ⟨x6, e6, h⟩ := w_bdr h
            refine x_callVi C hX (fg_37_0 G) (c_X5_byteAt (gl Γ) G  e6) [.int (10 * (m8 37 15)), .int 100000, .ref (G.2.1 37)] rfl hl tw6_43 tw6_45 ts4_6 tw1_7 tw6_46 rfl nd_X5_byteAt ⟨(Nat.le_of_ble_eq_true rfl), (Nat.le_of_ble_eq_true rfl)⟩ (Nat.le_of_ble_eq_true rfl) dX5_next_165 (fun H locs hX => ?_)
            refine i_iadd C dX5_next_168 ?_
            refine i_bipush (v := 48) C dX5_next_169 rfl ?_
            refine i_isub C dX5_next_171 ?_
            refine x_min C hl tw5_59 tw1_231 tw1_8 tw1_232 (Nat.le_of_ble_eq_true rfl) (Nat.le_of_ble_eq_true rfl) dX5_next_172 ?_
            refine x_putI C hX (fp_37_15 G) h tw4_98 dX5_next_175 (fun H locs m9 h hX => ?_)
            refine i_aload_n C dX5_next_178 rfl (lv_at hl 0 rfl) ?_
            refine i_dup C dX5_next_179 rfl ?_
            refine x_get C hX (fg_37_13 G) tw4_96 dX5_next_180 ?_
            refine i_iconst (v := 1) C dX5_next_183 rfl ?_
            refine i_iadd C dX5_next_184 ?_
            refine x_putI C hX (fp_37_13 G) h tw4_96 dX5_next_185 (fun H locs m10 h hX => ?_)
            refine i_goto (tgt := 131) C dX5_next_188 (by decide) ?_
            exact ih _ _ _ _ h (lv_sub hl [0] rfl) hX
        exact L1 FU _ _ _ _ h (lv_sub hl [1] rfl) hX
      refine i_aload_n C dX5_next_79 rfl (lv_at hl 1 rfl) ?_
      refine i_iconst (v := 1) C dX5_next_80 rfl ?_
      refine x_putI C hX (fp_37_14 G) h tw4_97 dX5_next_81 (fun H locs m11 h hX => ?_)
      have L2 : ∀ (fu : Nat) (m12 : MM) (H : Heap) (locs : List Loc) (ls : Array Slot), L_X5_next_84 fu m12 = some r → lv_has ls 2 [(0, .ref (G.2.1 37))] → XW G A (gs Γ) H locs m12 → WX Γ H locs 84 ls [] := by
        intro fu
        induction fu with
        | zero =>
          intro m12 H locs ls h
          rw [L_X5_next_84] at h
          cases h
        | succ fu ih =>
          intro m12 H locs ls h hl hX
          rw [L_X5_next_84] at h
          refine i_aload_n C dX5_next_84 rfl (lv_at hl 0 rfl) ?_
          refine i_aload_n C dX5_next_85 rfl (lv_at hl 0 rfl) ?_
          refine x_get C hX (fg_37_13 G) tw4_96 dX5_next_86 ?_
          obtain ⟨x7, e7, h⟩ := w_bdr h
          refine x_callVi C hX (fg_37_0 G) (c_X5_byteAt (gl Γ) G  e7) [] rfl hl tw6_43 tw6_45 ts4_6 tw1_7 tw6_46 rfl nd_X5_byteAt ⟨(Nat.le_of_ble_eq_true rfl), (Nat.le_of_ble_eq_true rfl)⟩ (Nat.le_of_ble_eq_true rfl) dX5_next_89 (fun H locs hX => ?_)
          refine i_bipush (v := 97) C dX5_next_92 rfl ?_
          refine i_bipush (v := 122) C dX5_next_94 rfl ?_
          obtain ⟨x8, e8, h⟩ := w_bdr h
          refine x_callSi C hX (c_X5_within (gl Γ) G  e8) [] rfl hl tw4_169 tw4_170 tw1_7 tw4_171 nd_X5_within ⟨(Nat.le_of_ble_eq_true rfl), (Nat.le_of_ble_eq_true rfl)⟩ (Nat.le_of_ble_eq_true rfl) dX5_next_96 (fun H locs hX => ?_)
          refine i_if_eq (tgt := 206) C h dX5_next_99 (by decide) (fun _ h => ?_) (fun _ h => ?_)
          · exact x_vretV C hX hr hQ h dX5_next_206
          refine i_aload_n C dX5_next_102 rfl (lv_at hl 0 rfl) ?_
          refine i_dup C dX5_next_103 rfl ?_
          refine x_get C hX (fg_37_13 G) tw4_96 dX5_next_104 ?_
          refine i_iconst (v := 1) C dX5_next_107 rfl ?_
          refine i_iadd C dX5_next_108 ?_
          refine x_putI C hX (fp_37_13 G) h tw4_96 dX5_next_109 (fun H locs m13 h hX => ?_)
          refine i_goto (tgt := 84) C dX5_next_112 (by decide) ?_
          exact ih _ _ _ _ h (lv_sub hl [0] rfl) hX
      exact L2 FU _ _ _ _ h (lv_sub hl [1] rfl) hX
    refine i_aload_n C dX5_next_60 rfl (lv_at hl 1 rfl) ?_
    refine i_iconst (v := 0) C dX5_next_61 rfl ?_
    refine x_putI C hX (fp_37_14 G) h tw4_97 dX5_next_62 (fun H locs m14 h hX => ?_)
    refine i_goto (tgt := 206) C dX5_next_65 (by decide) ?_
    exact x_vretV C hX hr hQ h dX5_next_206
  have L3 : ∀ (fu : Nat) (m15 : MM) (H : Heap) (locs : List Loc) (ls : Array Slot), L_X5_next_8 k1 fu m15 = some r → lv_has ls 2 [(0, .ref (G.2.1 37))] → XW G A (gs Γ) H locs m15 → WX Γ H locs 8 ls [] := by
    intro fu
    induction fu with
    | zero =>
      intro m15 H locs ls h
      rw [L_X5_next_8] at h
      cases h
    | succ fu ih =>
      intro m15 H locs ls h hl hX
      rw [L_X5_next_8] at h
      refine i_aload_n C dX5_next_8 rfl (lv_at hl 0 rfl) ?_
      refine i_aload_n C dX5_next_9 rfl (lv_at hl 0 rfl) ?_
      refine x_get C hX (fg_37_12 G) tw4_95 dX5_next_10 ?_
      obtain ⟨x9, e9, h⟩ := w_bdr h
      refine x_callVi C hX (fg_37_0 G) (c_X5_byteAt (gl Γ) G  e9) [] rfl hl tw6_43 tw6_45 ts4_6 tw1_7 tw6_46 rfl nd_X5_byteAt ⟨(Nat.le_of_ble_eq_true rfl), (Nat.le_of_ble_eq_true rfl)⟩ (Nat.le_of_ble_eq_true rfl) dX5_next_13 (fun H locs hX => ?_)
      refine i_bipush (v := 32) C dX5_next_16 rfl ?_
      refine i_icmp_ne (tgt := 34) C h dX5_next_18 (by decide) (fun _ h => ?_) (fun _ h => ?_)
      · exact J1 _ h _ _ _ (lv_sub hl [0] rfl) hX
      refine i_aload_n C dX5_next_21 rfl (lv_at hl 0 rfl) ?_
      refine i_dup C dX5_next_22 rfl ?_
      refine x_get C hX (fg_37_12 G) tw4_95 dX5_next_23 ?_
      refine i_iconst (v := 1) C dX5_next_26 rfl ?_
      refine i_iadd C dX5_next_27 ?_
      refine x_putI C hX (fp_37_12 G) h tw4_95 dX5_next_28 (fun H locs m16 h hX => ?_)
      refine i_goto (tgt := 8) C dX5_next_31 (by decide) ?_
      exact ih _ _ _ _ h (lv_sub hl [0] rfl) hX
  exact L3 FU _ _ _ _ h (lv_sub hl [0] rfl) hX
def L_X5_isWord_32 (sI : Nat) (μ : MM) : Nat → Int32 → Int32 → Option Int32
  | 0, _, _ => none
  | fu + 1, x2, x3 => if (nI (lenS.getD sI 0)) ≤ x3 then (gd (x2 = 0 ∨ x2 = 1) (some x2)) else (if x2 = 0 then (gd (x2 = 0 ∨ x2 = 1) (some x2)) else (ldi μ 44 120 ((μ 37 12) + x3) fun x4 => ldch sI x3 fun x5 => jn1 (fun (x6 : Int32) => lt_ (x3 + 1) fun x7 => L_X5_isWord_32 sI μ fu x6 x7) fun k1 => if x4 = x5 then (k1 1) else (k1 0)))
def f_X5_isWord (sI : Nat) (μ : MM) : Option Int32 := jn1 (fun (x1 : Int32) => L_X5_isWord_32 sI μ FU x1 0) fun k2 => jn0 (k2 0) fun k3 => if (μ 37 14) = 1 then (if ((μ 37 13) - (μ 37 12)) = (nI (lenS.getD sI 0)) then (k2 1) else (k3)) else (k3)
theorem nd_X5_isWord : yX5_isWord.cls ≠ "java/lang/invoke/MethodHandle" ∧ yX5_isWord.cls ≠ "java/lang/invoke/VarHandle" ∧ (parseMethodDescriptor yX5_isWord.desc).map (fun d => d.parameters.length) = some 1 := by decide +kernel
set_option maxHeartbeats 4000000 in
set_option maxRecDepth 100000 in
theorem c_X5_isWord (l : Launch) (G : EN) {sI : Nat} (hs : sI < 18) {μ : MM} {r : Int32} (h : f_X5_isWord sI μ = some r) : XM l G yX5_isWord cX5_isWord 4 (some .boolean) 4 85 [.ref (G.2.1 37), .ref (G.2.1 (100 + sI))] μ (some (.int r)) μ := by
  refine x_met (own := RX5) (by decide +kernel) rfl (Nat.le_of_ble_eq_true rfl) (fun Γ A H ls hg C hr hX hQ hl => ?_)
  have hl : lv_has ls 4 [(0, .ref (G.2.1 37)), (1, .ref (G.2.1 (100 + sI)))] := hl
  unfold f_X5_isWord at h
  refine i_aload_n C dX5_isWord_0 rfl (lv_at hl 0 rfl) ?_
  refine x_get C hX (fg_37_14 G) tw4_97 dX5_isWord_1 ?_
  refine i_iconst (v := 1) C dX5_isWord_4 rfl ?_
  refine w_jn1 (fun (x1 : Int32) => ∀ (H : Heap) (locs : List Loc) (ls : Array Slot), lv_has ls 4 [(0, .ref (G.2.1 37)), (1, .ref (G.2.1 (100 + sI)))] → XW G A (gs Γ) H locs μ → WX Γ H locs 29 ls [.int x1]) h (fun x1 h H locs ls hl hX => ?_) (fun k2 J2 h => ?_)
  · refine i_istore_n C [(2, .int x1), (0, .ref (G.2.1 37)), (1, .ref (G.2.1 (100 + sI)))] dX5_isWord_29 rfl hl (by decide) rfl (fun ls hl => ?_)
    refine i_iconst (v := 0) C dX5_isWord_30 rfl ?_
    refine i_istore_n C [(3, .int 0), (2, .int x1), (0, .ref (G.2.1 37)), (1, .ref (G.2.1 (100 + sI)))] dX5_isWord_31 rfl hl (by decide) rfl (fun ls hl => ?_)
    have L1 : ∀ (fu : Nat) (x2 : Int32) (x3 : Int32) (H : Heap) (locs : List Loc) (ls : Array Slot), L_X5_isWord_32 sI μ fu x2 x3 = some r → lv_has ls 4 [(0, .ref (G.2.1 37)), (1, .ref (G.2.1 (100 + sI))), (2, .int x2), (3, .int x3)] → XW G A (gs Γ) H locs μ → WX Γ H locs 32 ls [] := by
      intro fu
      induction fu with
      | zero =>
        intro x2 x3 H locs ls h
        rw [L_X5_isWord_32] at h
        cases h
      | succ fu ih =>
        intro x2 x3 H locs ls h hl hX
        rw [L_X5_isWord_32] at h
        refine i_iload_n C dX5_isWord_32 rfl (lv_at hl 3 rfl) ?_
        refine i_aload_n C dX5_isWord_33 rfl (lv_at hl 1 rfl) ?_
        refine x_slen C hX hs [.int x3] hl tw6_60 ⟨(Nat.le_of_ble_eq_true rfl), (Nat.le_of_ble_eq_true rfl)⟩ (Nat.le_of_ble_eq_true rfl) dX5_isWord_34 (fun H locs hX => ?_)
        refine i_icmp_ge (tgt := 75) C h dX5_isWord_37 (by decide) (fun _ h => ?_) (fun _ h => ?_)
        · refine i_iload_n C dX5_isWord_75 rfl (lv_at hl 2 rfl) ?_
          exact x_zretR C hX hr hQ h dX5_isWord_76
        refine i_iload_n C dX5_isWord_40 rfl (lv_at hl 2 rfl) ?_
        refine i_if_eq (tgt := 75) C h dX5_isWord_41 (by decide) (fun _ h => ?_) (fun _ h => ?_)
        · refine i_iload_n C dX5_isWord_75 rfl (lv_at hl 2 rfl) ?_
          exact x_zretR C hX hr hQ h dX5_isWord_76
        refine i_aload_n C dX5_isWord_44 rfl (lv_at hl 0 rfl) ?_
        refine x_get C hX (fg_37_10 G) tw4_93 dX5_isWord_45 ?_
        refine i_aload_n C dX5_isWord_48 rfl (lv_at hl 0 rfl) ?_
        refine x_get C hX (fg_37_12 G) tw4_95 dX5_isWord_49 ?_
        refine i_iload_n C dX5_isWord_52 rfl (lv_at hl 3 rfl) ?_
        refine i_iadd C dX5_isWord_53 ?_
        refine x_iald C hX (ai_44 G) h dX5_isWord_54 (fun x4 h => ?_)
        refine i_aload_n C dX5_isWord_55 rfl (lv_at hl 1 rfl) ?_
        refine i_iload_n C dX5_isWord_56 rfl (lv_at hl 3 rfl) ?_
        refine x_sch C hX hs h [.int x4] hl tw6_61 ⟨(Nat.le_of_ble_eq_true rfl), (Nat.le_of_ble_eq_true rfl)⟩ (Nat.le_of_ble_eq_true rfl) dX5_isWord_57 (fun x5 H locs h hX => ?_)
        refine w_jn1 (fun (x6 : Int32) => ∀ (H : Heap) (locs : List Loc) (ls : Array Slot), lv_has ls 4 [(0, .ref (G.2.1 37)), (1, .ref (G.2.1 (100 + sI))), (3, .int x3)] → XW G A (gs Γ) H locs μ → WX Γ H locs 68 ls [.int x6]) h (fun x6 h H locs ls hl hX => ?_) (fun k1 J1 h => ?_)
        · refine i_istore_n C [(2, .int x6), (0, .ref (G.2.1 37)), (1, .ref (G.2.1 (100 + sI))), (3, .int x3)] dX5_isWord_68 rfl hl (by decide) rfl (fun ls hl => ?_)
          refine i_iinc C (j := 3) (fun x7 => [(3, .int x7), (2, .int x6), (0, .ref (G.2.1 37)), (1, .ref (G.2.1 (100 + sI)))]) h dX5_isWord_69 hl rfl rfl (by decide) (fun _ => rfl) (fun x7 ls h hl => ?_)
          refine i_goto (tgt := 32) C dX5_isWord_72 (by decide) ?_
          exact ih _ _ _ _ _ h (lv_sub hl [2, 3, 1, 0] rfl) hX
        refine i_icmp_ne (tgt := 67) C h dX5_isWord_60 (by decide) (fun _ h => ?_) (fun _ h => ?_)
        · refine i_iconst (v := 0) C dX5_isWord_67 rfl ?_
          exact J1 _ h _ _ _ (lv_sub hl [0, 1, 3] rfl) hX
        refine i_iconst (v := 1) C dX5_isWord_63 rfl ?_
        refine i_goto (tgt := 68) C dX5_isWord_64 (by decide) ?_
        exact J1 _ h _ _ _ (lv_sub hl [0, 1, 3] rfl) hX
    exact L1 FU _ _ _ _ _ h (lv_sub hl [2, 3, 1, 0] rfl) hX
  refine w_jn0 (∀ (H : Heap) (locs : List Loc) (ls : Array Slot), lv_has ls 4 [(0, .ref (G.2.1 37)), (1, .ref (G.2.1 (100 + sI)))] → XW G A (gs Γ) H locs μ → WX Γ H locs 28 ls []) h (fun  h H locs ls hl hX => ?_) (fun k3 J3 h => ?_)
  · refine i_iconst (v := 0) C dX5_isWord_28 rfl ?_
    exact J2 _ h _ _ _ (lv_sub hl [0, 1] rfl) hX
  refine i_icmp_ne (tgt := 28) C h dX5_isWord_5 (by decide) (fun _ h => ?_) (fun _ h => ?_)
  · exact J3 h _ _ _ (lv_sub hl [0, 1] rfl) hX
  refine i_aload_n C dX5_isWord_8 rfl (lv_at hl 0 rfl) ?_
  refine x_get C hX (fg_37_13 G) tw4_96 dX5_isWord_9 ?_
  refine i_aload_n C dX5_isWord_12 rfl (lv_at hl 0 rfl) ?_
  refine x_get C hX (fg_37_12 G) tw4_95 dX5_isWord_13 ?_
  refine i_isub C dX5_isWord_16 ?_
  refine i_aload_n C dX5_isWord_17 rfl (lv_at hl 1 rfl) ?_
  refine x_slen C hX hs [.int ((μ 37 13) - (μ 37 12))] hl tw6_60 ⟨(Nat.le_of_ble_eq_true rfl), (Nat.le_of_ble_eq_true rfl)⟩ (Nat.le_of_ble_eq_true rfl) dX5_isWord_18 (fun H locs hX => ?_)
  refine i_icmp_ne (tgt := 28) C h dX5_isWord_21 (by decide) (fun _ h => ?_) (fun _ h => ?_)
  · exact J3 h _ _ _ (lv_sub hl [0, 1] rfl) hX
  refine i_iconst (v := 1) C dX5_isWord_24 rfl ?_
  refine i_goto (tgt := 29) C dX5_isWord_25 (by decide) ?_
  exact J2 _ h _ _ _ (lv_sub hl [0, 1] rfl) hX
def f_X5_must (p1 : Int32) (μ : MM) : Option MM := jn1 (fun (x1 : Int32) => gd (x1 = 0 ∨ x1 = 1) (lt_ (wst μ 37 16 x1) fun m1 => if (m1 37 16) = 0 then (bdr (f_X5_next m1) fun m2 => some m2) else (some m1))) fun k1 => jn0 (k1 1) fun k2 => if (μ 37 16) = 0 then (if p1 = 0 then (k2) else (k1 0)) else (k2)
theorem nd_X5_must : yX5_must.cls ≠ "java/lang/invoke/MethodHandle" ∧ yX5_must.cls ≠ "java/lang/invoke/VarHandle" ∧ (parseMethodDescriptor yX5_must.desc).map (fun d => d.parameters.length) = some 1 := by decide +kernel
set_option maxHeartbeats 4000000 in
set_option maxRecDepth 100000 in
theorem c_X5_must (l : Launch) (G : EN)  {p1 : Int32} {μ : MM} {r : MM} (h : f_X5_must p1 μ = some r) : XM l G yX5_must cX5_must 2 none 2 43 [.ref (G.2.1 37), .int p1] μ none r := by
  refine x_met (own := RX5) (by decide +kernel) rfl (Nat.le_of_ble_eq_true rfl) (fun Γ A H ls hg C hr hX hQ hl => ?_)
  have hl : lv_has ls 2 [(0, .ref (G.2.1 37)), (1, .int p1)] := hl
  unfold f_X5_must at h
  refine i_aload_n C dX5_must_0 rfl (lv_at hl 0 rfl) ?_
  refine i_aload_n C dX5_must_1 rfl (lv_at hl 0 rfl) ?_
  refine x_get C hX (fg_37_16 G) tw4_99 dX5_must_2 ?_
  refine w_jn1 (fun (x1 : Int32) => ∀ (H : Heap) (locs : List Loc) (ls : Array Slot), lv_has ls 2 [(0, .ref (G.2.1 37))] → XW G A (gs Γ) H locs μ → WX Γ H locs 17 ls [.int x1, .ref (G.2.1 37)]) h (fun x1 h H locs ls hl hX => ?_) (fun k1 J1 h => ?_)
  · refine x_putZ C hX (fp_37_16 G) h tw4_99 dX5_must_17 (fun H locs m1 h hX => ?_)
    refine i_aload_n C dX5_must_20 rfl (lv_at hl 0 rfl) ?_
    refine x_get C hX (fg_37_16 G) tw4_99 dX5_must_21 ?_
    refine i_if_ne (tgt := 31) C h dX5_must_24 (by decide) (fun _ h => ?_) (fun _ h => ?_)
    · exact x_vretV C hX hr hQ h dX5_must_31
    refine i_aload_n C dX5_must_27 rfl (lv_at hl 0 rfl) ?_
    obtain ⟨m2, e1, h⟩ := w_bdr h
    refine x_callVv C hX (fg_37_0 G) (c_X5_next (gl Γ) G  e1) [] rfl hl tw6_39 tw6_41 ts4_5 tw1_7 tw6_42 rfl nd_X5_next ⟨(Nat.le_of_ble_eq_true rfl), (Nat.le_of_ble_eq_true rfl)⟩ (Nat.le_of_ble_eq_true rfl) dX5_must_28 (fun H locs hX => ?_)
    exact x_vretV C hX hr hQ h dX5_must_31
  refine w_jn0 (∀ (H : Heap) (locs : List Loc) (ls : Array Slot), lv_has ls 2 [(0, .ref (G.2.1 37))] → XW G A (gs Γ) H locs μ → WX Γ H locs 12 ls [.ref (G.2.1 37)]) h (fun  h H locs ls hl hX => ?_) (fun k2 J2 h => ?_)
  · refine i_iconst (v := 1) C dX5_must_12 rfl ?_
    refine i_goto (tgt := 17) C dX5_must_13 (by decide) ?_
    exact J1 _ h _ _ _ (lv_sub hl [0] rfl) hX
  refine i_if_ne (tgt := 12) C h dX5_must_5 (by decide) (fun _ h => ?_) (fun _ h => ?_)
  · exact J2 h _ _ _ (lv_sub hl [0] rfl) hX
  refine i_iload_n C dX5_must_8 rfl (lv_at hl 1 rfl) ?_
  refine i_if_ne (tgt := 16) C h dX5_must_9 (by decide) (fun _ h => ?_) (fun _ h => ?_)
  · refine i_iconst (v := 0) C dX5_must_16 rfl ?_
    exact J1 _ h _ _ _ (lv_sub hl [0] rfl) hX
  exact J2 h _ _ _ (lv_sub hl [0] rfl) hX
def f_X5_number (p1 : Int32) (p2 : Int32) (μ : MM) : Option (Int32 × MM) := lt_ ((μ 37 15)) fun x1 => if (μ 37 14) = 2 then (bdr (f_X5_within x1 p1 p2) fun x2 => if x2 = 0 then (bdr (f_X5_must 0 μ) fun m2 => some (x1, m2)) else (bdr (f_X5_must 1 μ) fun m3 => some (x1, m3))) else (bdr (f_X5_must 0 μ) fun m1 => some (x1, m1))
theorem nd_X5_number : yX5_number.cls ≠ "java/lang/invoke/MethodHandle" ∧ yX5_number.cls ≠ "java/lang/invoke/VarHandle" ∧ (parseMethodDescriptor yX5_number.desc).map (fun d => d.parameters.length) = some 2 := by decide +kernel
set_option maxHeartbeats 4000000 in
set_option maxRecDepth 100000 in
theorem c_X5_number (l : Launch) (G : EN)  {p1 p2 : Int32} {μ : MM} {r : Int32} {m : MM} (h : f_X5_number p1 p2 μ = some (r, m)) : XM l G yX5_number cX5_number 4 (some .int) 3 64 [.ref (G.2.1 37), .int p1, .int p2] μ (some (.int r)) m := by
  refine x_met (own := RX5) (by decide +kernel) rfl (Nat.le_of_ble_eq_true rfl) (fun Γ A H ls hg C hr hX hQ hl => ?_)
  have hl : lv_has ls 4 [(0, .ref (G.2.1 37)), (1, .int p1), (2, .int p2)] := hl
  unfold f_X5_number at h
  refine i_aload_n C dX5_number_0 rfl (lv_at hl 0 rfl) ?_
  refine x_get C hX (fg_37_15 G) tw4_98 dX5_number_1 ?_
  refine i_istoreL_n C (fun x1 => [(3, .int x1), (0, .ref (G.2.1 37)), (1, .int p1), (2, .int p2)]) h dX5_number_4 rfl hl (by decide) (fun _ => rfl) (fun x1 ls h hl => ?_)
  refine i_aload_n C dX5_number_5 rfl (lv_at hl 1 rfl) ?_
  refine i_aload_n C dX5_number_6 rfl (lv_at hl 1 rfl) ?_
  refine x_get C hX (fg_37_14 G) tw4_97 dX5_number_7 ?_
  refine i_iconst (v := 2) C dX5_number_10 rfl ?_
  refine i_icmp_ne (tgt := 27) C h dX5_number_11 (by decide) (fun _ h => ?_) (fun _ h => ?_)
  · refine i_iconst (v := 0) C dX5_number_27 rfl ?_
    obtain ⟨m1, e1, h⟩ := w_bdr h
    refine x_callVv C hX (fg_37_0 G) (c_X5_must (gl Γ) G  e1) [] rfl hl tw6_62 tw6_64 ts4_10 tw1_7 tw6_65 rfl nd_X5_must ⟨(Nat.le_of_ble_eq_true rfl), (Nat.le_of_ble_eq_true rfl)⟩ (Nat.le_of_ble_eq_true rfl) dX5_number_28 (fun H locs hX => ?_)
    refine i_iload_n C dX5_number_31 rfl (lv_at hl 0 rfl) ?_
    exact x_iretW C hX hr hQ h dX5_number_32
  refine i_iload_n C dX5_number_14 rfl (lv_at hl 0 rfl) ?_
  refine i_iload_n C dX5_number_15 rfl (lv_at hl 2 rfl) ?_
  refine i_iload_n C dX5_number_16 rfl (lv_at hl 3 rfl) ?_
  obtain ⟨x2, e2, h⟩ := w_bdr h
  refine x_callSi C hX (c_X5_within (gl Γ) G  e2) [.ref (G.2.1 37)] rfl hl tw4_169 tw4_170 tw1_7 tw4_171 nd_X5_within ⟨(Nat.le_of_ble_eq_true rfl), (Nat.le_of_ble_eq_true rfl)⟩ (Nat.le_of_ble_eq_true rfl) dX5_number_17 (fun H locs hX => ?_)
  refine i_if_eq (tgt := 27) C h dX5_number_20 (by decide) (fun _ h => ?_) (fun _ h => ?_)
  · refine i_iconst (v := 0) C dX5_number_27 rfl ?_
    obtain ⟨m2, e3, h⟩ := w_bdr h
    refine x_callVv C hX (fg_37_0 G) (c_X5_must (gl Γ) G  e3) [] rfl hl tw6_62 tw6_64 ts4_10 tw1_7 tw6_65 rfl nd_X5_must ⟨(Nat.le_of_ble_eq_true rfl), (Nat.le_of_ble_eq_true rfl)⟩ (Nat.le_of_ble_eq_true rfl) dX5_number_28 (fun H locs hX => ?_)
    refine i_iload_n C dX5_number_31 rfl (lv_at hl 0 rfl) ?_
    exact x_iretW C hX hr hQ h dX5_number_32
  refine i_iconst (v := 1) C dX5_number_23 rfl ?_
  refine i_goto (tgt := 28) C dX5_number_24 (by decide) ?_
  obtain ⟨m3, e4, h⟩ := w_bdr h
  refine x_callVv C hX (fg_37_0 G) (c_X5_must (gl Γ) G  e4) [] rfl hl tw6_62 tw6_64 ts4_10 tw1_7 tw6_65 rfl nd_X5_must ⟨(Nat.le_of_ble_eq_true rfl), (Nat.le_of_ble_eq_true rfl)⟩ (Nat.le_of_ble_eq_true rfl) dX5_number_28 (fun H locs hX => ?_)
  refine i_iload_n C dX5_number_31 rfl (lv_at hl 0 rfl) ?_
  exact x_iretW C hX hr hQ h dX5_number_32
def f_X5_item (p1 : Int32) (p2 : Int32) (p3 : Int32) (μ : MM) : Option MM := lt_ ((3 * (μ 37 19))) fun x1 => sti μ 46 360 x1 p1 fun m1 => sti m1 46 360 (x1 + 1) p2 fun m2 => sti m2 46 360 (x1 + 2) p3 fun m3 => lt_ (wst m3 37 19 ((m3 37 19) + 1)) fun m4 => some m4
theorem nd_X5_item : yX5_item.cls ≠ "java/lang/invoke/MethodHandle" ∧ yX5_item.cls ≠ "java/lang/invoke/VarHandle" ∧ (parseMethodDescriptor yX5_item.desc).map (fun d => d.parameters.length) = some 3 := by decide +kernel
set_option maxHeartbeats 4000000 in
set_option maxRecDepth 100000 in
theorem c_X5_item (l : Launch) (G : EN)  {p1 p2 p3 : Int32} {μ : MM} {r : MM} (h : f_X5_item p1 p2 p3 μ = some r) : XM l G yX5_item cX5_item 5 none 0 0 [.ref (G.2.1 37), .int p1, .int p2, .int p3] μ none r := by
  refine x_met (own := RX5) (by decide +kernel) rfl (Nat.le_of_ble_eq_true rfl) (fun Γ A H ls hg C hr hX hQ hl => ?_)
  have hl : lv_has ls 5 [(0, .ref (G.2.1 37)), (1, .int p1), (2, .int p2), (3, .int p3)] := hl
  unfold f_X5_item at h
  refine i_iconst (v := 3) C dX5_item_0 rfl ?_
  refine i_aload_n C dX5_item_1 rfl (lv_at hl 0 rfl) ?_
  refine x_get C hX (fg_37_19 G) tw4_102 dX5_item_2 ?_
  refine i_imul C dX5_item_5 ?_
  refine i_istoreL C (fun x1 => [(4, .int x1), (0, .ref (G.2.1 37)), (1, .int p1), (2, .int p2), (3, .int p3)]) h dX5_item_6 hl (by decide) (fun _ => rfl) (fun x1 ls h hl => ?_)
  refine i_aload_n C dX5_item_8 rfl (lv_at hl 1 rfl) ?_
  refine x_get C hX (fg_37_18 G) tw4_101 dX5_item_9 ?_
  refine i_iload C dX5_item_12 (lv_at hl 0 rfl) ?_
  refine i_iload_n C dX5_item_14 rfl (lv_at hl 2 rfl) ?_
  refine x_iast C hX (ai_46 G) h dX5_item_15 (fun H locs m1 h hX => ?_)
  refine i_aload_n C dX5_item_16 rfl (lv_at hl 1 rfl) ?_
  refine x_get C hX (fg_37_18 G) tw4_101 dX5_item_17 ?_
  refine i_iload C dX5_item_20 (lv_at hl 0 rfl) ?_
  refine i_iconst (v := 1) C dX5_item_22 rfl ?_
  refine i_iadd C dX5_item_23 ?_
  refine i_iload_n C dX5_item_24 rfl (lv_at hl 3 rfl) ?_
  refine x_iast C hX (ai_46 G) h dX5_item_25 (fun H locs m2 h hX => ?_)
  refine i_aload_n C dX5_item_26 rfl (lv_at hl 1 rfl) ?_
  refine x_get C hX (fg_37_18 G) tw4_101 dX5_item_27 ?_
  refine i_iload C dX5_item_30 (lv_at hl 0 rfl) ?_
  refine i_iconst (v := 2) C dX5_item_32 rfl ?_
  refine i_iadd C dX5_item_33 ?_
  refine i_iload_n C dX5_item_34 rfl (lv_at hl 4 rfl) ?_
  refine x_iast C hX (ai_46 G) h dX5_item_35 (fun H locs m3 h hX => ?_)
  refine i_aload_n C dX5_item_36 rfl (lv_at hl 1 rfl) ?_
  refine i_dup C dX5_item_37 rfl ?_
  refine x_get C hX (fg_37_19 G) tw4_102 dX5_item_38 ?_
  refine i_iconst (v := 1) C dX5_item_41 rfl ?_
  refine i_iadd C dX5_item_42 ?_
  refine x_putI C hX (fp_37_19 G) h tw4_102 dX5_item_43 (fun H locs m4 h hX => ?_)
  exact x_vretV C hX hr hQ h dX5_item_46
def L_X5_kindTold_4 (μ : MM) : Nat → Int32 → Int32 → Option Int32
  | 0, _, _ => none
  | fu + 1, x1, x2 => if 7 ≤ x2 then (some x1) else (ldq 7 x2 fun j1 => bdr (f_X5_isWord (1 * j1) μ) fun x3 => jn1 (fun (x4 : Int32) => lt_ (x2 + 1) fun x5 => L_X5_kindTold_4 μ fu x4 x5) fun k1 => if x3 = 0 then (k1 x1) else (k1 x2))
def f_X5_kindTold (μ : MM) : Option Int32 := L_X5_kindTold_4 μ FU (-1) 0
theorem nd_X5_kindTold : yX5_kindTold.cls ≠ "java/lang/invoke/MethodHandle" ∧ yX5_kindTold.cls ≠ "java/lang/invoke/VarHandle" ∧ (parseMethodDescriptor yX5_kindTold.desc).map (fun d => d.parameters.length) = some 0 := by decide +kernel
set_option maxHeartbeats 4000000 in
set_option maxRecDepth 100000 in
theorem c_X5_kindTold (l : Launch) (G : EN)  {μ : MM} {r : Int32} (h : f_X5_kindTold μ = some r) : XM l G yX5_kindTold cX5_kindTold 3 (some .int) 5 108 [.ref (G.2.1 37)] μ (some (.int r)) μ := by
  refine x_met (own := RX5) (by decide +kernel) rfl (Nat.le_of_ble_eq_true rfl) (fun Γ A H ls hg C hr hX hQ hl => ?_)
  have hl : lv_has ls 3 [(0, .ref (G.2.1 37))] := hl
  unfold f_X5_kindTold at h
  refine i_iconst (v := (-1)) C dX5_kindTold_0 rfl ?_
  refine i_istore_n C [(1, .int (-1)), (0, .ref (G.2.1 37))] dX5_kindTold_1 rfl hl (by decide) rfl (fun ls hl => ?_)
  refine i_iconst (v := 0) C dX5_kindTold_2 rfl ?_
  refine i_istore_n C [(2, .int 0), (1, .int (-1)), (0, .ref (G.2.1 37))] dX5_kindTold_3 rfl hl (by decide) rfl (fun ls hl => ?_)
  have L1 : ∀ (fu : Nat) (x1 : Int32) (x2 : Int32) (H : Heap) (locs : List Loc) (ls : Array Slot), L_X5_kindTold_4 μ fu x1 x2 = some r → lv_has ls 3 [(0, .ref (G.2.1 37)), (1, .int x1), (2, .int x2)] → XW G A (gs Γ) H locs μ → WX Γ H locs 4 ls [] := by
    intro fu
    induction fu with
    | zero =>
      intro x1 x2 H locs ls h
      rw [L_X5_kindTold_4] at h
      cases h
    | succ fu ih =>
      intro x1 x2 H locs ls h hl hX
      rw [L_X5_kindTold_4] at h
      refine i_iload_n C dX5_kindTold_4 rfl (lv_at hl 2 rfl) ?_
      refine i_aload_n C dX5_kindTold_5 rfl (lv_at hl 0 rfl) ?_
      refine x_get C hX (fg_37_17 G) tw4_100 dX5_kindTold_6 ?_
      refine x_qlen (v := 7) C hX (aq_45 G) rfl rfl dX5_kindTold_9 ?_
      refine i_icmp_ge (tgt := 38) C h dX5_kindTold_10 (by decide) (fun _ h => ?_) (fun _ h => ?_)
      · refine i_iload_n C dX5_kindTold_38 rfl (lv_at hl 1 rfl) ?_
        exact x_iretR C hX hr hQ h dX5_kindTold_39
      refine i_aload_n C dX5_kindTold_13 rfl (lv_at hl 0 rfl) ?_
      refine i_aload_n C dX5_kindTold_14 rfl (lv_at hl 0 rfl) ?_
      refine x_get C hX (fg_37_17 G) tw4_100 dX5_kindTold_15 ?_
      refine i_iload_n C dX5_kindTold_18 rfl (lv_at hl 2 rfl) ?_
      refine x_aald C hX (aq_45 G) rfl h dX5_kindTold_19 (fun j1 hj1 h => ?_)
      obtain ⟨x3, e1, h⟩ := w_bdr h
      refine x_callVi C hX (fg_37_0 G) (c_X5_isWord (gl Γ) G (by omega) e1) [] rfl hl tw6_56 tw6_58 ts4_9 tw1_7 tw6_59 rfl nd_X5_isWord ⟨(Nat.le_of_ble_eq_true rfl), (Nat.le_of_ble_eq_true rfl)⟩ (Nat.le_of_ble_eq_true rfl) dX5_kindTold_20 (fun H locs hX => ?_)
      refine w_jn1 (fun (x4 : Int32) => ∀ (H : Heap) (locs : List Loc) (ls : Array Slot), lv_has ls 3 [(0, .ref (G.2.1 37)), (2, .int x2)] → XW G A (gs Γ) H locs μ → WX Γ H locs 31 ls [.int x4]) h (fun x4 h H locs ls hl hX => ?_) (fun k1 J1 h => ?_)
      · refine i_istore_n C [(1, .int x4), (0, .ref (G.2.1 37)), (2, .int x2)] dX5_kindTold_31 rfl hl (by decide) rfl (fun ls hl => ?_)
        refine i_iinc C (j := 2) (fun x5 => [(2, .int x5), (1, .int x4), (0, .ref (G.2.1 37))]) h dX5_kindTold_32 hl rfl rfl (by decide) (fun _ => rfl) (fun x5 ls h hl => ?_)
        refine i_goto (tgt := 4) C dX5_kindTold_35 (by decide) ?_
        exact ih _ _ _ _ _ h (lv_sub hl [2, 1, 0] rfl) hX
      refine i_if_eq (tgt := 30) C h dX5_kindTold_23 (by decide) (fun _ h => ?_) (fun _ h => ?_)
      · refine i_iload_n C dX5_kindTold_30 rfl (lv_at hl 1 rfl) ?_
        exact J1 _ h _ _ _ (lv_sub hl [0, 2] rfl) hX
      refine i_iload_n C dX5_kindTold_26 rfl (lv_at hl 2 rfl) ?_
      refine i_goto (tgt := 31) C dX5_kindTold_27 (by decide) ?_
      exact J1 _ h _ _ _ (lv_sub hl [0, 2] rfl) hX
  exact L1 FU _ _ _ _ _ h (lv_sub hl [2, 1, 0] rfl) hX
def f_X5_isNext (sI : Nat) (μ : MM) : Option (Int32 × MM) := jn1 (fun (x1 : Int32) => if x1 = 0 then (gd (x1 = 0 ∨ x1 = 1) (some (x1, μ))) else (bdr (f_X5_must 1 μ) fun m1 => gd (x1 = 0 ∨ x1 = 1) (some (x1, m1)))) fun k1 => jn0 (k1 0) fun k2 => if (μ 37 16) = 0 then (bdr (f_X5_isWord sI μ) fun x2 => if x2 = 0 then (k2) else (k1 1)) else (k2)
theorem nd_X5_isNext : yX5_isNext.cls ≠ "java/lang/invoke/MethodHandle" ∧ yX5_isNext.cls ≠ "java/lang/invoke/VarHandle" ∧ (parseMethodDescriptor yX5_isNext.desc).map (fun d => d.parameters.length) = some 1 := by decide +kernel
set_option maxHeartbeats 4000000 in
set_option maxRecDepth 100000 in
theorem c_X5_isNext (l : Launch) (G : EN) {sI : Nat} (hs : sI < 18) {μ : MM} {r : Int32} {m : MM} (h : f_X5_isNext sI μ = some (r, m)) : XM l G yX5_isNext cX5_isNext 3 (some .boolean) 5 108 [.ref (G.2.1 37), .ref (G.2.1 (100 + sI))] μ (some (.int r)) m := by
  refine x_met (own := RX5) (by decide +kernel) rfl (Nat.le_of_ble_eq_true rfl) (fun Γ A H ls hg C hr hX hQ hl => ?_)
  have hl : lv_has ls 3 [(0, .ref (G.2.1 37)), (1, .ref (G.2.1 (100 + sI)))] := hl
  unfold f_X5_isNext at h
  refine i_aload_n C dX5_isNext_0 rfl (lv_at hl 0 rfl) ?_
  refine x_get C hX (fg_37_16 G) tw4_99 dX5_isNext_1 ?_
  refine w_jn1 (fun (x1 : Int32) => ∀ (H : Heap) (locs : List Loc) (ls : Array Slot), lv_has ls 3 [(0, .ref (G.2.1 37))] → XW G A (gs Γ) H locs μ → WX Γ H locs 20 ls [.int x1]) h (fun x1 h H locs ls hl hX => ?_) (fun k1 J1 h => ?_)
  · refine i_istore_n C [(2, .int x1), (0, .ref (G.2.1 37))] dX5_isNext_20 rfl hl (by decide) rfl (fun ls hl => ?_)
    refine i_iload_n C dX5_isNext_21 rfl (lv_at hl 0 rfl) ?_
    refine i_if_eq (tgt := 30) C h dX5_isNext_22 (by decide) (fun _ h => ?_) (fun _ h => ?_)
    · refine i_iload_n C dX5_isNext_30 rfl (lv_at hl 0 rfl) ?_
      exact x_zretW C hX hr hQ h dX5_isNext_31
    refine i_aload_n C dX5_isNext_25 rfl (lv_at hl 1 rfl) ?_
    refine i_iconst (v := 1) C dX5_isNext_26 rfl ?_
    obtain ⟨m1, e1, h⟩ := w_bdr h
    refine x_callVv C hX (fg_37_0 G) (c_X5_must (gl Γ) G  e1) [] rfl hl tw6_62 tw6_64 ts4_10 tw1_7 tw6_65 rfl nd_X5_must ⟨(Nat.le_of_ble_eq_true rfl), (Nat.le_of_ble_eq_true rfl)⟩ (Nat.le_of_ble_eq_true rfl) dX5_isNext_27 (fun H locs hX => ?_)
    refine i_iload_n C dX5_isNext_30 rfl (lv_at hl 0 rfl) ?_
    exact x_zretW C hX hr hQ h dX5_isNext_31
  refine w_jn0 (∀ (H : Heap) (locs : List Loc) (ls : Array Slot), lv_has ls 3 [(0, .ref (G.2.1 37))] → XW G A (gs Γ) H locs μ → WX Γ H locs 19 ls []) h (fun  h H locs ls hl hX => ?_) (fun k2 J2 h => ?_)
  · refine i_iconst (v := 0) C dX5_isNext_19 rfl ?_
    exact J1 _ h _ _ _ (lv_sub hl [0] rfl) hX
  refine i_if_ne (tgt := 19) C h dX5_isNext_4 (by decide) (fun _ h => ?_) (fun _ h => ?_)
  · exact J2 h _ _ _ (lv_sub hl [0] rfl) hX
  refine i_aload_n C dX5_isNext_7 rfl (lv_at hl 0 rfl) ?_
  refine i_aload_n C dX5_isNext_8 rfl (lv_at hl 1 rfl) ?_
  obtain ⟨x2, e2, h⟩ := w_bdr h
  refine x_callVi C hX (fg_37_0 G) (c_X5_isWord (gl Γ) G hs e2) [] rfl hl tw6_56 tw6_58 ts4_9 tw1_7 tw6_59 rfl nd_X5_isWord ⟨(Nat.le_of_ble_eq_true rfl), (Nat.le_of_ble_eq_true rfl)⟩ (Nat.le_of_ble_eq_true rfl) dX5_isNext_9 (fun H locs hX => ?_)
  refine i_if_eq (tgt := 19) C h dX5_isNext_12 (by decide) (fun _ h => ?_) (fun _ h => ?_)
  · exact J2 h _ _ _ (lv_sub hl [0] rfl) hX
  refine i_iconst (v := 1) C dX5_isNext_15 rfl ?_
  refine i_goto (tgt := 20) C dX5_isNext_16 (by decide) ?_
  exact J1 _ h _ _ _ (lv_sub hl [0] rfl) hX
def f_X5_isMinus (μ : MM) : Option (Int32 × MM) := jn1 (fun (x1 : Int32) => if x1 = 0 then (gd (x1 = 0 ∨ x1 = 1) (some (x1, μ))) else (bdr (f_X5_must 1 μ) fun m1 => gd (x1 = 0 ∨ x1 = 1) (some (x1, m1)))) fun k1 => jn0 (k1 0) fun k2 => if (μ 37 16) = 0 then (if (μ 37 14) = 3 then (ldi μ 44 120 (μ 37 12) fun x2 => if x2 = 45 then (k1 1) else (k2)) else (k2)) else (k2)
theorem nd_X5_isMinus : yX5_isMinus.cls ≠ "java/lang/invoke/MethodHandle" ∧ yX5_isMinus.cls ≠ "java/lang/invoke/VarHandle" ∧ (parseMethodDescriptor yX5_isMinus.desc).map (fun d => d.parameters.length) = some 0 := by decide +kernel
set_option maxHeartbeats 4000000 in
set_option maxRecDepth 100000 in
theorem c_X5_isMinus (l : Launch) (G : EN)  {μ : MM} {r : Int32} {m : MM} (h : f_X5_isMinus μ = some (r, m)) : XM l G yX5_isMinus cX5_isMinus 2 (some .boolean) 3 64 [.ref (G.2.1 37)] μ (some (.int r)) m := by
  refine x_met (own := RX5) (by decide +kernel) rfl (Nat.le_of_ble_eq_true rfl) (fun Γ A H ls hg C hr hX hQ hl => ?_)
  have hl : lv_has ls 2 [(0, .ref (G.2.1 37))] := hl
  unfold f_X5_isMinus at h
  refine i_aload_n C dX5_isMinus_0 rfl (lv_at hl 0 rfl) ?_
  refine x_get C hX (fg_37_16 G) tw4_99 dX5_isMinus_1 ?_
  refine w_jn1 (fun (x1 : Int32) => ∀ (H : Heap) (locs : List Loc) (ls : Array Slot), lv_has ls 2 [(0, .ref (G.2.1 37))] → XW G A (gs Γ) H locs μ → WX Γ H locs 34 ls [.int x1]) h (fun x1 h H locs ls hl hX => ?_) (fun k1 J1 h => ?_)
  · refine i_istore_n C [(1, .int x1), (0, .ref (G.2.1 37))] dX5_isMinus_34 rfl hl (by decide) rfl (fun ls hl => ?_)
    refine i_iload_n C dX5_isMinus_35 rfl (lv_at hl 0 rfl) ?_
    refine i_if_eq (tgt := 44) C h dX5_isMinus_36 (by decide) (fun _ h => ?_) (fun _ h => ?_)
    · refine i_iload_n C dX5_isMinus_44 rfl (lv_at hl 0 rfl) ?_
      exact x_zretW C hX hr hQ h dX5_isMinus_45
    refine i_aload_n C dX5_isMinus_39 rfl (lv_at hl 1 rfl) ?_
    refine i_iconst (v := 1) C dX5_isMinus_40 rfl ?_
    obtain ⟨m1, e1, h⟩ := w_bdr h
    refine x_callVv C hX (fg_37_0 G) (c_X5_must (gl Γ) G  e1) [] rfl hl tw6_62 tw6_64 ts4_10 tw1_7 tw6_65 rfl nd_X5_must ⟨(Nat.le_of_ble_eq_true rfl), (Nat.le_of_ble_eq_true rfl)⟩ (Nat.le_of_ble_eq_true rfl) dX5_isMinus_41 (fun H locs hX => ?_)
    refine i_iload_n C dX5_isMinus_44 rfl (lv_at hl 0 rfl) ?_
    exact x_zretW C hX hr hQ h dX5_isMinus_45
  refine w_jn0 (∀ (H : Heap) (locs : List Loc) (ls : Array Slot), lv_has ls 2 [(0, .ref (G.2.1 37))] → XW G A (gs Γ) H locs μ → WX Γ H locs 33 ls []) h (fun  h H locs ls hl hX => ?_) (fun k2 J2 h => ?_)
  · refine i_iconst (v := 0) C dX5_isMinus_33 rfl ?_
    exact J1 _ h _ _ _ (lv_sub hl [0] rfl) hX
  refine i_if_ne (tgt := 33) C h dX5_isMinus_4 (by decide) (fun _ h => ?_) (fun _ h => ?_)
  · exact J2 h _ _ _ (lv_sub hl [0] rfl) hX
  refine i_aload_n C dX5_isMinus_7 rfl (lv_at hl 0 rfl) ?_
  refine x_get C hX (fg_37_14 G) tw4_97 dX5_isMinus_8 ?_
  refine i_iconst (v := 3) C dX5_isMinus_11 rfl ?_
  refine i_icmp_ne (tgt := 33) C h dX5_isMinus_12 (by decide) (fun _ h => ?_) (fun _ h => ?_)
  · exact J2 h _ _ _ (lv_sub hl [0] rfl) hX
  refine i_aload_n C dX5_isMinus_15 rfl (lv_at hl 0 rfl) ?_
  refine x_get C hX (fg_37_10 G) tw4_93 dX5_isMinus_16 ?_
  refine i_aload_n C dX5_isMinus_19 rfl (lv_at hl 0 rfl) ?_
  refine x_get C hX (fg_37_12 G) tw4_95 dX5_isMinus_20 ?_
  refine x_iald C hX (ai_44 G) h dX5_isMinus_23 (fun x2 h => ?_)
  refine i_bipush (v := 45) C dX5_isMinus_24 rfl ?_
  refine i_icmp_ne (tgt := 33) C h dX5_isMinus_26 (by decide) (fun _ h => ?_) (fun _ h => ?_)
  · exact J2 h _ _ _ (lv_sub hl [0] rfl) hX
  refine i_iconst (v := 1) C dX5_isMinus_29 rfl ?_
  refine i_goto (tgt := 34) C dX5_isMinus_30 (by decide) ?_
  exact J1 _ h _ _ _ (lv_sub hl [0] rfl) hX
def f_X5_habitTold (μ : MM) : Option (Int32 × MM) := bdw (f_X5_isNext 13 μ) fun x1 m1 => if x1 = 0 then (some (0, m1)) else (bdw (f_X5_isMinus m1) fun x2 m2 => if x2 = 0 then (bdw (f_X5_number 0 15 m2) fun x3 m3 => some (x3, m3)) else (bdw (f_X5_number 0 15 m2) fun x4 m4 => some ((-x4), m4)))
theorem nd_X5_habitTold : yX5_habitTold.cls ≠ "java/lang/invoke/MethodHandle" ∧ yX5_habitTold.cls ≠ "java/lang/invoke/VarHandle" ∧ (parseMethodDescriptor yX5_habitTold.desc).map (fun d => d.parameters.length) = some 0 := by decide +kernel
set_option maxHeartbeats 4000000 in
set_option maxRecDepth 100000 in
theorem c_X5_habitTold (l : Launch) (G : EN)  {μ : MM} {r : Int32} {m : MM} (h : f_X5_habitTold μ = some (r, m)) : XM l G yX5_habitTold cX5_habitTold 1 (some .int) 6 130 [.ref (G.2.1 37)] μ (some (.int r)) m := by
  refine x_met (own := RX5) (by decide +kernel) rfl (Nat.le_of_ble_eq_true rfl) (fun Γ A H ls hg C hr hX hQ hl => ?_)
  have hl : lv_has ls 1 [(0, .ref (G.2.1 37))] := hl
  unfold f_X5_habitTold at h
  refine i_aload_n C dX5_habitTold_0 rfl (lv_at hl 0 rfl) ?_
  refine x_ldcwS C hX (List.mem_of_getElem? (i := 31) rfl) dX5_habitTold_1 ?_
  obtain ⟨x1, m1, e1, h⟩ := w_bdw h
  refine x_callVi C hX (fg_37_0 G) (c_X5_isNext (gl Γ) G (by decide) e1) [] rfl hl tw6_67 tw6_69 ts4_11 tw1_7 tw6_70 rfl nd_X5_isNext ⟨(Nat.le_of_ble_eq_true rfl), (Nat.le_of_ble_eq_true rfl)⟩ (Nat.le_of_ble_eq_true rfl) dX5_habitTold_4 (fun H locs hX => ?_)
  refine i_if_ne (tgt := 12) C h dX5_habitTold_7 (by decide) (fun _ h => ?_) (fun _ h => ?_)
  · refine i_aload_n C dX5_habitTold_12 rfl (lv_at hl 0 rfl) ?_
    obtain ⟨x2, m2, e2, h⟩ := w_bdw h
    refine x_callVi C hX (fg_37_0 G) (c_X5_isMinus (gl Γ) G  e2) [] rfl hl tw6_80 tw6_82 ts4_14 tw1_7 tw6_83 rfl nd_X5_isMinus ⟨(Nat.le_of_ble_eq_true rfl), (Nat.le_of_ble_eq_true rfl)⟩ (Nat.le_of_ble_eq_true rfl) dX5_habitTold_13 (fun H locs hX => ?_)
    refine i_if_eq (tgt := 30) C h dX5_habitTold_16 (by decide) (fun _ h => ?_) (fun _ h => ?_)
    · refine i_aload_n C dX5_habitTold_30 rfl (lv_at hl 0 rfl) ?_
      refine i_iconst (v := 0) C dX5_habitTold_31 rfl ?_
      refine i_bipush (v := 15) C dX5_habitTold_32 rfl ?_
      obtain ⟨x3, m3, e3, h⟩ := w_bdw h
      refine x_callVi C hX (fg_37_0 G) (c_X5_number (gl Γ) G  e3) [] rfl hl tw6_71 tw6_73 ts4_12 tw1_7 tw6_74 rfl nd_X5_number ⟨(Nat.le_of_ble_eq_true rfl), (Nat.le_of_ble_eq_true rfl)⟩ (Nat.le_of_ble_eq_true rfl) dX5_habitTold_34 (fun H locs hX => ?_)
      exact x_iretW C hX hr hQ h dX5_habitTold_37
    refine i_aload_n C dX5_habitTold_19 rfl (lv_at hl 0 rfl) ?_
    refine i_iconst (v := 0) C dX5_habitTold_20 rfl ?_
    refine i_bipush (v := 15) C dX5_habitTold_21 rfl ?_
    obtain ⟨x4, m4, e4, h⟩ := w_bdw h
    refine x_callVi C hX (fg_37_0 G) (c_X5_number (gl Γ) G  e4) [] rfl hl tw6_71 tw6_73 ts4_12 tw1_7 tw6_74 rfl nd_X5_number ⟨(Nat.le_of_ble_eq_true rfl), (Nat.le_of_ble_eq_true rfl)⟩ (Nat.le_of_ble_eq_true rfl) dX5_habitTold_23 (fun H locs hX => ?_)
    refine i_ineg C dX5_habitTold_26 ?_
    refine i_goto (tgt := 37) C dX5_habitTold_27 (by decide) ?_
    exact x_iretW C hX hr hQ h dX5_habitTold_37
  refine i_iconst (v := 0) C dX5_habitTold_10 rfl ?_
  exact x_iretW C hX hr hQ h dX5_habitTold_11
def f_X5_shipTold (μ : MM) : Option MM := bdw (f_X5_number 0 3 μ) fun x1 m1 => bdw (f_X5_isNext 14 m1) fun x2 m2 => jn1 (fun (m3 : MM) => bdw (f_X5_isNext 15 m3) fun x3 m4 => jn1 (fun (m5 : MM) => bdw (f_X5_isNext 16 m5) fun x4 m6 => if x4 = 0 then (some m6) else (bdr (f_X5_atShip x1 2) fun x5 => bdw (f_X5_number 0 ((sl 1 (m6 37 21)) - 1) m6) fun x6 m7 => bdr (f_X5_item (20 + x5) x6 0 m7) fun m8 => some m8)) fun k1 => if x3 = 0 then (k1 m4) else (bdr (f_X5_atShip x1 1) fun x7 => bdw (f_X5_number 0 31 m4) fun x8 m9 => bdr (f_X5_item (20 + x7) x8 0 m9) fun m10 => k1 m10)) fun k2 => if x2 = 0 then (k2 m2) else (bdr (f_X5_atShip x1 0) fun x9 => bdw (f_X5_number 0 99 m2) fun x10 m11 => bdr (f_X5_item (20 + x9) x10 0 m11) fun m12 => k2 m12)
theorem nd_X5_shipTold : yX5_shipTold.cls ≠ "java/lang/invoke/MethodHandle" ∧ yX5_shipTold.cls ≠ "java/lang/invoke/VarHandle" ∧ (parseMethodDescriptor yX5_shipTold.desc).map (fun d => d.parameters.length) = some 0 := by decide +kernel
set_option maxHeartbeats 4000000 in
set_option maxRecDepth 100000 in
theorem c_X5_shipTold (l : Launch) (G : EN)  {μ : MM} {r : MM} (h : f_X5_shipTold μ = some r) : XM l G yX5_shipTold cX5_shipTold 2 none 6 130 [.ref (G.2.1 37)] μ none r := by
  refine x_met (own := RX5) (by decide +kernel) rfl (Nat.le_of_ble_eq_true rfl) (fun Γ A H ls hg C hr hX hQ hl => ?_)
  have hl : lv_has ls 2 [(0, .ref (G.2.1 37))] := hl
  unfold f_X5_shipTold at h
  refine i_aload_n C dX5_shipTold_0 rfl (lv_at hl 0 rfl) ?_
  refine i_iconst (v := 0) C dX5_shipTold_1 rfl ?_
  refine i_iconst (v := 3) C dX5_shipTold_2 rfl ?_
  obtain ⟨x1, m1, e1, h⟩ := w_bdw h
  refine x_callVi C hX (fg_37_0 G) (c_X5_number (gl Γ) G  e1) [] rfl hl tw6_71 tw6_73 ts4_12 tw1_7 tw6_74 rfl nd_X5_number ⟨(Nat.le_of_ble_eq_true rfl), (Nat.le_of_ble_eq_true rfl)⟩ (Nat.le_of_ble_eq_true rfl) dX5_shipTold_3 (fun H locs hX => ?_)
  refine i_istore_n C [(1, .int x1), (0, .ref (G.2.1 37))] dX5_shipTold_6 rfl hl (by decide) rfl (fun ls hl => ?_)
  refine i_aload_n C dX5_shipTold_7 rfl (lv_at hl 1 rfl) ?_
  refine x_ldcwS C hX (List.mem_of_getElem? (i := 32) rfl) dX5_shipTold_8 ?_
  obtain ⟨x2, m2, e2, h⟩ := w_bdw h
  refine x_callVi C hX (fg_37_0 G) (c_X5_isNext (gl Γ) G (by decide) e2) [] rfl hl tw6_67 tw6_69 ts4_11 tw1_7 tw6_70 rfl nd_X5_isNext ⟨(Nat.le_of_ble_eq_true rfl), (Nat.le_of_ble_eq_true rfl)⟩ (Nat.le_of_ble_eq_true rfl) dX5_shipTold_11 (fun H locs hX => ?_)
  refine w_jn1 (fun (m3 : MM) => ∀ (H : Heap) (locs : List Loc) (ls : Array Slot), lv_has ls 2 [(0, .ref (G.2.1 37)), (1, .int x1)] → XW G A (gs Γ) H locs m3 → WX Γ H locs 37 ls []) h (fun m3 h H locs ls hl hX => ?_) (fun k2 J2 h => ?_)
  · refine i_aload_n C dX5_shipTold_37 rfl (lv_at hl 0 rfl) ?_
    refine x_ldcwS C hX (List.mem_of_getElem? (i := 33) rfl) dX5_shipTold_38 ?_
    obtain ⟨x3, m4, e3, h⟩ := w_bdw h
    refine x_callVi C hX (fg_37_0 G) (c_X5_isNext (gl Γ) G (by decide) e3) [] rfl hl tw6_67 tw6_69 ts4_11 tw1_7 tw6_70 rfl nd_X5_isNext ⟨(Nat.le_of_ble_eq_true rfl), (Nat.le_of_ble_eq_true rfl)⟩ (Nat.le_of_ble_eq_true rfl) dX5_shipTold_41 (fun H locs hX => ?_)
    refine w_jn1 (fun (m5 : MM) => ∀ (H : Heap) (locs : List Loc) (ls : Array Slot), lv_has ls 2 [(0, .ref (G.2.1 37)), (1, .int x1)] → XW G A (gs Γ) H locs m5 → WX Γ H locs 67 ls []) h (fun m5 h H locs ls hl hX => ?_) (fun k1 J1 h => ?_)
    · refine i_aload_n C dX5_shipTold_67 rfl (lv_at hl 0 rfl) ?_
      refine x_ldcwS C hX (List.mem_of_getElem? (i := 34) rfl) dX5_shipTold_68 ?_
      obtain ⟨x4, m6, e4, h⟩ := w_bdw h
      refine x_callVi C hX (fg_37_0 G) (c_X5_isNext (gl Γ) G (by decide) e4) [] rfl hl tw6_67 tw6_69 ts4_11 tw1_7 tw6_70 rfl nd_X5_isNext ⟨(Nat.le_of_ble_eq_true rfl), (Nat.le_of_ble_eq_true rfl)⟩ (Nat.le_of_ble_eq_true rfl) dX5_shipTold_71 (fun H locs hX => ?_)
      refine i_if_eq (tgt := 103) C h dX5_shipTold_74 (by decide) (fun _ h => ?_) (fun _ h => ?_)
      · exact x_vretV C hX hr hQ h dX5_shipTold_103
      refine i_aload_n C dX5_shipTold_77 rfl (lv_at hl 0 rfl) ?_
      refine i_bipush (v := 20) C dX5_shipTold_78 rfl ?_
      refine i_iload_n C dX5_shipTold_80 rfl (lv_at hl 1 rfl) ?_
      refine i_iconst (v := 2) C dX5_shipTold_81 rfl ?_
      obtain ⟨x5, e5, h⟩ := w_bdr h
      refine x_callSi C hX (c_X5_atShip (gl Γ) G  e5) [.int 20, .ref (G.2.1 37)] rfl hl tw4_227 tw4_228 tw1_7 tw4_229 nd_X5_atShip ⟨(Nat.le_of_ble_eq_true rfl), (Nat.le_of_ble_eq_true rfl)⟩ (Nat.le_of_ble_eq_true rfl) dX5_shipTold_82 (fun H locs hX => ?_)
      refine i_iadd C dX5_shipTold_85 ?_
      refine i_aload_n C dX5_shipTold_86 rfl (lv_at hl 0 rfl) ?_
      refine i_iconst (v := 0) C dX5_shipTold_87 rfl ?_
      refine i_iconst (v := 1) C dX5_shipTold_88 rfl ?_
      refine i_aload_n C dX5_shipTold_89 rfl (lv_at hl 0 rfl) ?_
      refine x_get C hX (fg_37_21 G) tw4_104 dX5_shipTold_90 ?_
      refine i_ishl C dX5_shipTold_93 ?_
      refine i_iconst (v := 1) C dX5_shipTold_94 rfl ?_
      refine i_isub C dX5_shipTold_95 ?_
      obtain ⟨x6, m7, e6, h⟩ := w_bdw h
      refine x_callVi C hX (fg_37_0 G) (c_X5_number (gl Γ) G  e6) [.int (20 + x5), .ref (G.2.1 37)] rfl hl tw6_71 tw6_73 ts4_12 tw1_7 tw6_74 rfl nd_X5_number ⟨(Nat.le_of_ble_eq_true rfl), (Nat.le_of_ble_eq_true rfl)⟩ (Nat.le_of_ble_eq_true rfl) dX5_shipTold_96 (fun H locs hX => ?_)
      refine i_iconst (v := 0) C dX5_shipTold_99 rfl ?_
      obtain ⟨m8, e7, h⟩ := w_bdr h
      refine x_callVv C hX (fg_37_0 G) (c_X5_item (gl Γ) G  e7) [] rfl hl tw6_84 tw6_86 ts4_15 tw1_7 tw6_87 rfl nd_X5_item ⟨(Nat.le_of_ble_eq_true rfl), (Nat.le_of_ble_eq_true rfl)⟩ (Nat.le_of_ble_eq_true rfl) dX5_shipTold_100 (fun H locs hX => ?_)
      exact x_vretV C hX hr hQ h dX5_shipTold_103
    refine i_if_eq (tgt := 67) C h dX5_shipTold_44 (by decide) (fun _ h => ?_) (fun _ h => ?_)
    · exact J1 _ h _ _ _ (lv_sub hl [0, 1] rfl) hX
    refine i_aload_n C dX5_shipTold_47 rfl (lv_at hl 0 rfl) ?_
    refine i_bipush (v := 20) C dX5_shipTold_48 rfl ?_
    refine i_iload_n C dX5_shipTold_50 rfl (lv_at hl 1 rfl) ?_
    refine i_iconst (v := 1) C dX5_shipTold_51 rfl ?_
    obtain ⟨x7, e8, h⟩ := w_bdr h
    refine x_callSi C hX (c_X5_atShip (gl Γ) G  e8) [.int 20, .ref (G.2.1 37)] rfl hl tw4_227 tw4_228 tw1_7 tw4_229 nd_X5_atShip ⟨(Nat.le_of_ble_eq_true rfl), (Nat.le_of_ble_eq_true rfl)⟩ (Nat.le_of_ble_eq_true rfl) dX5_shipTold_52 (fun H locs hX => ?_)
    refine i_iadd C dX5_shipTold_55 ?_
    refine i_aload_n C dX5_shipTold_56 rfl (lv_at hl 0 rfl) ?_
    refine i_iconst (v := 0) C dX5_shipTold_57 rfl ?_
    refine i_bipush (v := 31) C dX5_shipTold_58 rfl ?_
    obtain ⟨x8, m9, e9, h⟩ := w_bdw h
    refine x_callVi C hX (fg_37_0 G) (c_X5_number (gl Γ) G  e9) [.int (20 + x7), .ref (G.2.1 37)] rfl hl tw6_71 tw6_73 ts4_12 tw1_7 tw6_74 rfl nd_X5_number ⟨(Nat.le_of_ble_eq_true rfl), (Nat.le_of_ble_eq_true rfl)⟩ (Nat.le_of_ble_eq_true rfl) dX5_shipTold_60 (fun H locs hX => ?_)
    refine i_iconst (v := 0) C dX5_shipTold_63 rfl ?_
    obtain ⟨m10, e10, h⟩ := w_bdr h
    refine x_callVv C hX (fg_37_0 G) (c_X5_item (gl Γ) G  e10) [] rfl hl tw6_84 tw6_86 ts4_15 tw1_7 tw6_87 rfl nd_X5_item ⟨(Nat.le_of_ble_eq_true rfl), (Nat.le_of_ble_eq_true rfl)⟩ (Nat.le_of_ble_eq_true rfl) dX5_shipTold_64 (fun H locs hX => ?_)
    exact J1 _ h _ _ _ (lv_sub hl [0, 1] rfl) hX
  refine i_if_eq (tgt := 37) C h dX5_shipTold_14 (by decide) (fun _ h => ?_) (fun _ h => ?_)
  · exact J2 _ h _ _ _ (lv_sub hl [1, 0] rfl) hX
  refine i_aload_n C dX5_shipTold_17 rfl (lv_at hl 1 rfl) ?_
  refine i_bipush (v := 20) C dX5_shipTold_18 rfl ?_
  refine i_iload_n C dX5_shipTold_20 rfl (lv_at hl 0 rfl) ?_
  refine i_iconst (v := 0) C dX5_shipTold_21 rfl ?_
  obtain ⟨x9, e11, h⟩ := w_bdr h
  refine x_callSi C hX (c_X5_atShip (gl Γ) G  e11) [.int 20, .ref (G.2.1 37)] rfl hl tw4_227 tw4_228 tw1_7 tw4_229 nd_X5_atShip ⟨(Nat.le_of_ble_eq_true rfl), (Nat.le_of_ble_eq_true rfl)⟩ (Nat.le_of_ble_eq_true rfl) dX5_shipTold_22 (fun H locs hX => ?_)
  refine i_iadd C dX5_shipTold_25 ?_
  refine i_aload_n C dX5_shipTold_26 rfl (lv_at hl 1 rfl) ?_
  refine i_iconst (v := 0) C dX5_shipTold_27 rfl ?_
  refine i_bipush (v := 99) C dX5_shipTold_28 rfl ?_
  obtain ⟨x10, m11, e12, h⟩ := w_bdw h
  refine x_callVi C hX (fg_37_0 G) (c_X5_number (gl Γ) G  e12) [.int (20 + x9), .ref (G.2.1 37)] rfl hl tw6_71 tw6_73 ts4_12 tw1_7 tw6_74 rfl nd_X5_number ⟨(Nat.le_of_ble_eq_true rfl), (Nat.le_of_ble_eq_true rfl)⟩ (Nat.le_of_ble_eq_true rfl) dX5_shipTold_30 (fun H locs hX => ?_)
  refine i_iconst (v := 0) C dX5_shipTold_33 rfl ?_
  obtain ⟨m12, e13, h⟩ := w_bdr h
  refine x_callVv C hX (fg_37_0 G) (c_X5_item (gl Γ) G  e13) [] rfl hl tw6_84 tw6_86 ts4_15 tw1_7 tw6_87 rfl nd_X5_item ⟨(Nat.le_of_ble_eq_true rfl), (Nat.le_of_ble_eq_true rfl)⟩ (Nat.le_of_ble_eq_true rfl) dX5_shipTold_34 (fun H locs hX => ?_)
  exact J2 _ h _ _ _ (lv_sub hl [1, 0] rfl) hX
def f_X5_readItem (μ : MM) : Option MM := bdr (f_X5_kindTold μ) fun x1 => lt_ (wst μ 37 20 ((μ 37 20) + 1)) fun m1 => if x1 < 0 then (bdw (f_X5_isNext 7 m1) fun x2 m2 => if x2 = 0 then (bdw (f_X5_isNext 8 m2) fun x3 m3 => if x3 = 0 then (bdw (f_X5_isNext 9 m3) fun x4 m4 => if x4 = 0 then (bdw (f_X5_isNext 10 m4) fun x5 m5 => if x5 = 0 then (bdr (f_X5_isWord 11 m5) fun x6 => bdr (f_X5_must x6 m5) fun m6 => bdw (f_X5_number 0 9999 m6) fun x7 m7 => bdr (f_X5_item 21 x7 0 m7) fun m8 => some m8) else (bdw (f_X5_number 0 65535 m5) fun x8 m9 => bdr (f_X5_item 23 x8 0 m9) fun m10 => some m10)) else (bdw (f_X5_number 0 7 m4) fun x9 m11 => bdr (f_X5_item 22 x9 0 m11) fun m12 => some m12)) else (bdr (f_X5_shipTold m3) fun m13 => some m13)) else (bdw (f_X5_number 0 99 m2) fun x10 m14 => bdr (f_X5_item 10 x10 0 m14) fun m15 => some m15)) else (jn1 (fun (x11 : Int32) => bdr (f_X5_must x11 m1) fun m16 => lt_ (wst m16 37 21 ((m16 37 21) + 1)) fun m17 => bdw (f_X5_isNext 12 m17) fun x12 m18 => jn2 (fun (x13 : Int32) (m19 : MM) => bdw (f_X5_habitTold m19) fun x14 m20 => bdr (f_X5_item x1 x13 x14 m20) fun m21 => some m21) fun k1 => if x12 = 0 then (k1 0 m18) else (bdw (f_X5_number 0 99 m18) fun x15 m22 => k1 x15 m22)) fun k2 => if 8 ≤ (m1 37 21) then (k2 0) else (k2 1))
theorem nd_X5_readItem : yX5_readItem.cls ≠ "java/lang/invoke/MethodHandle" ∧ yX5_readItem.cls ≠ "java/lang/invoke/VarHandle" ∧ (parseMethodDescriptor yX5_readItem.desc).map (fun d => d.parameters.length) = some 0 := by decide +kernel
set_option maxHeartbeats 4000000 in
set_option maxRecDepth 100000 in
theorem c_X5_readItem (l : Launch) (G : EN)  {μ : MM} {r : MM} (h : f_X5_readItem μ = some r) : XM l G yX5_readItem cX5_readItem 3 none 7 151 [.ref (G.2.1 37)] μ none r := by
  refine x_met (own := RX5) (by decide +kernel) rfl (Nat.le_of_ble_eq_true rfl) (fun Γ A H ls hg C hr hX hQ hl => ?_)
  have hl : lv_has ls 3 [(0, .ref (G.2.1 37))] := hl
  unfold f_X5_readItem at h
  refine i_aload_n C dX5_readItem_0 rfl (lv_at hl 0 rfl) ?_
  obtain ⟨x1, e1, h⟩ := w_bdr h
  refine x_callVi C hX (fg_37_0 G) (c_X5_kindTold (gl Γ) G  e1) [] rfl hl tw6_52 tw6_54 ts4_8 tw1_7 tw6_55 rfl nd_X5_kindTold ⟨(Nat.le_of_ble_eq_true rfl), (Nat.le_of_ble_eq_true rfl)⟩ (Nat.le_of_ble_eq_true rfl) dX5_readItem_1 (fun H locs hX => ?_)
  refine i_istore_n C [(1, .int x1), (0, .ref (G.2.1 37))] dX5_readItem_4 rfl hl (by decide) rfl (fun ls hl => ?_)
  refine i_aload_n C dX5_readItem_5 rfl (lv_at hl 1 rfl) ?_
  refine i_dup C dX5_readItem_6 rfl ?_
  refine x_get C hX (fg_37_20 G) tw4_103 dX5_readItem_7 ?_
  refine i_iconst (v := 1) C dX5_readItem_10 rfl ?_
  refine i_iadd C dX5_readItem_11 ?_
  refine x_putI C hX (fp_37_20 G) h tw4_103 dX5_readItem_12 (fun H locs m1 h hX => ?_)
  refine i_iload_n C dX5_readItem_15 rfl (lv_at hl 0 rfl) ?_
  refine i_if_lt (tgt := 82) C h dX5_readItem_16 (by decide) (fun _ h => ?_) (fun _ h => ?_)
  · refine i_aload_n C dX5_readItem_82 rfl (lv_at hl 1 rfl) ?_
    refine x_ldcwS C hX (List.mem_of_getElem? (i := 25) rfl) dX5_readItem_83 ?_
    obtain ⟨x2, m2, e2, h⟩ := w_bdw h
    refine x_callVi C hX (fg_37_0 G) (c_X5_isNext (gl Γ) G (by decide) e2) [] rfl hl tw6_67 tw6_69 ts4_11 tw1_7 tw6_70 rfl nd_X5_isNext ⟨(Nat.le_of_ble_eq_true rfl), (Nat.le_of_ble_eq_true rfl)⟩ (Nat.le_of_ble_eq_true rfl) dX5_readItem_86 (fun H locs hX => ?_)
    refine i_if_eq (tgt := 109) C h dX5_readItem_89 (by decide) (fun _ h => ?_) (fun _ h => ?_)
    · refine i_aload_n C dX5_readItem_109 rfl (lv_at hl 1 rfl) ?_
      refine x_ldcwS C hX (List.mem_of_getElem? (i := 26) rfl) dX5_readItem_110 ?_
      obtain ⟨x3, m3, e3, h⟩ := w_bdw h
      refine x_callVi C hX (fg_37_0 G) (c_X5_isNext (gl Γ) G (by decide) e3) [] rfl hl tw6_67 tw6_69 ts4_11 tw1_7 tw6_70 rfl nd_X5_isNext ⟨(Nat.le_of_ble_eq_true rfl), (Nat.le_of_ble_eq_true rfl)⟩ (Nat.le_of_ble_eq_true rfl) dX5_readItem_113 (fun H locs hX => ?_)
      refine i_if_eq (tgt := 126) C h dX5_readItem_116 (by decide) (fun _ h => ?_) (fun _ h => ?_)
      · refine i_aload_n C dX5_readItem_126 rfl (lv_at hl 1 rfl) ?_
        refine x_ldcwS C hX (List.mem_of_getElem? (i := 27) rfl) dX5_readItem_127 ?_
        obtain ⟨x4, m4, e4, h⟩ := w_bdw h
        refine x_callVi C hX (fg_37_0 G) (c_X5_isNext (gl Γ) G (by decide) e4) [] rfl hl tw6_67 tw6_69 ts4_11 tw1_7 tw6_70 rfl nd_X5_isNext ⟨(Nat.le_of_ble_eq_true rfl), (Nat.le_of_ble_eq_true rfl)⟩ (Nat.le_of_ble_eq_true rfl) dX5_readItem_130 (fun H locs hX => ?_)
        refine i_if_eq (tgt := 153) C h dX5_readItem_133 (by decide) (fun _ h => ?_) (fun _ h => ?_)
        · refine i_aload_n C dX5_readItem_153 rfl (lv_at hl 1 rfl) ?_
          refine x_ldcwS C hX (List.mem_of_getElem? (i := 28) rfl) dX5_readItem_154 ?_
          obtain ⟨x5, m5, e5, h⟩ := w_bdw h
          refine x_callVi C hX (fg_37_0 G) (c_X5_isNext (gl Γ) G (by decide) e5) [] rfl hl tw6_67 tw6_69 ts4_11 tw1_7 tw6_70 rfl nd_X5_isNext ⟨(Nat.le_of_ble_eq_true rfl), (Nat.le_of_ble_eq_true rfl)⟩ (Nat.le_of_ble_eq_true rfl) dX5_readItem_157 (fun H locs hX => ?_)
          refine i_if_eq (tgt := 180) C h dX5_readItem_160 (by decide) (fun _ h => ?_) (fun _ h => ?_)
          · refine i_aload_n C dX5_readItem_180 rfl (lv_at hl 1 rfl) ?_
            refine i_aload_n C dX5_readItem_181 rfl (lv_at hl 1 rfl) ?_
            refine x_ldcwS C hX (List.mem_of_getElem? (i := 29) rfl) dX5_readItem_182 ?_
            obtain ⟨x6, e6, h⟩ := w_bdr h
            refine x_callVi C hX (fg_37_0 G) (c_X5_isWord (gl Γ) G (by decide) e6) [.ref (G.2.1 37)] rfl hl tw6_56 tw6_58 ts4_9 tw1_7 tw6_59 rfl nd_X5_isWord ⟨(Nat.le_of_ble_eq_true rfl), (Nat.le_of_ble_eq_true rfl)⟩ (Nat.le_of_ble_eq_true rfl) dX5_readItem_185 (fun H locs hX => ?_)
            obtain ⟨m6, e7, h⟩ := w_bdr h
            refine x_callVv C hX (fg_37_0 G) (c_X5_must (gl Γ) G  e7) [] rfl hl tw6_62 tw6_64 ts4_10 tw1_7 tw6_65 rfl nd_X5_must ⟨(Nat.le_of_ble_eq_true rfl), (Nat.le_of_ble_eq_true rfl)⟩ (Nat.le_of_ble_eq_true rfl) dX5_readItem_188 (fun H locs hX => ?_)
            refine i_aload_n C dX5_readItem_191 rfl (lv_at hl 1 rfl) ?_
            refine i_bipush (v := 21) C dX5_readItem_192 rfl ?_
            refine i_aload_n C dX5_readItem_194 rfl (lv_at hl 1 rfl) ?_
            refine i_iconst (v := 0) C dX5_readItem_195 rfl ?_
            refine i_sipush (v := 9999) C dX5_readItem_196 rfl ?_
            obtain ⟨x7, m7, e8, h⟩ := w_bdw h
            refine x_callVi C hX (fg_37_0 G) (c_X5_number (gl Γ) G  e8) [.int 21, .ref (G.2.1 37)] rfl hl tw6_71 tw6_73 ts4_12 tw1_7 tw6_74 rfl nd_X5_number ⟨(Nat.le_of_ble_eq_true rfl), (Nat.le_of_ble_eq_true rfl)⟩ (Nat.le_of_ble_eq_true rfl) dX5_readItem_199 (fun H locs hX => ?_)
            refine i_iconst (v := 0) C dX5_readItem_202 rfl ?_
            obtain ⟨m8, e9, h⟩ := w_bdr h
            refine x_callVv C hX (fg_37_0 G) (c_X5_item (gl Γ) G  e9) [] rfl hl tw6_84 tw6_86 ts4_15 tw1_7 tw6_87 rfl nd_X5_item ⟨(Nat.le_of_ble_eq_true rfl), (Nat.le_of_ble_eq_true rfl)⟩ (Nat.le_of_ble_eq_true rfl) dX5_readItem_203 (fun H locs hX => ?_)
            exact x_vretV C hX hr hQ h dX5_readItem_206
          refine i_aload_n C dX5_readItem_163 rfl (lv_at hl 1 rfl) ?_
          refine i_bipush (v := 23) C dX5_readItem_164 rfl ?_
          refine i_aload_n C dX5_readItem_166 rfl (lv_at hl 1 rfl) ?_
          refine i_iconst (v := 0) C dX5_readItem_167 rfl ?_
          refine i_ldc C tw5_40 dX5_readItem_168 ?_
          obtain ⟨x8, m9, e10, h⟩ := w_bdw h
          refine x_callVi C hX (fg_37_0 G) (c_X5_number (gl Γ) G  e10) [.int 23, .ref (G.2.1 37)] rfl hl tw6_71 tw6_73 ts4_12 tw1_7 tw6_74 rfl nd_X5_number ⟨(Nat.le_of_ble_eq_true rfl), (Nat.le_of_ble_eq_true rfl)⟩ (Nat.le_of_ble_eq_true rfl) dX5_readItem_170 (fun H locs hX => ?_)
          refine i_iconst (v := 0) C dX5_readItem_173 rfl ?_
          obtain ⟨m10, e11, h⟩ := w_bdr h
          refine x_callVv C hX (fg_37_0 G) (c_X5_item (gl Γ) G  e11) [] rfl hl tw6_84 tw6_86 ts4_15 tw1_7 tw6_87 rfl nd_X5_item ⟨(Nat.le_of_ble_eq_true rfl), (Nat.le_of_ble_eq_true rfl)⟩ (Nat.le_of_ble_eq_true rfl) dX5_readItem_174 (fun H locs hX => ?_)
          refine i_goto (tgt := 206) C dX5_readItem_177 (by decide) ?_
          exact x_vretV C hX hr hQ h dX5_readItem_206
        refine i_aload_n C dX5_readItem_136 rfl (lv_at hl 1 rfl) ?_
        refine i_bipush (v := 22) C dX5_readItem_137 rfl ?_
        refine i_aload_n C dX5_readItem_139 rfl (lv_at hl 1 rfl) ?_
        refine i_iconst (v := 0) C dX5_readItem_140 rfl ?_
        refine i_bipush (v := 7) C dX5_readItem_141 rfl ?_
        obtain ⟨x9, m11, e12, h⟩ := w_bdw h
        refine x_callVi C hX (fg_37_0 G) (c_X5_number (gl Γ) G  e12) [.int 22, .ref (G.2.1 37)] rfl hl tw6_71 tw6_73 ts4_12 tw1_7 tw6_74 rfl nd_X5_number ⟨(Nat.le_of_ble_eq_true rfl), (Nat.le_of_ble_eq_true rfl)⟩ (Nat.le_of_ble_eq_true rfl) dX5_readItem_143 (fun H locs hX => ?_)
        refine i_iconst (v := 0) C dX5_readItem_146 rfl ?_
        obtain ⟨m12, e13, h⟩ := w_bdr h
        refine x_callVv C hX (fg_37_0 G) (c_X5_item (gl Γ) G  e13) [] rfl hl tw6_84 tw6_86 ts4_15 tw1_7 tw6_87 rfl nd_X5_item ⟨(Nat.le_of_ble_eq_true rfl), (Nat.le_of_ble_eq_true rfl)⟩ (Nat.le_of_ble_eq_true rfl) dX5_readItem_147 (fun H locs hX => ?_)
        refine i_goto (tgt := 206) C dX5_readItem_150 (by decide) ?_
        exact x_vretV C hX hr hQ h dX5_readItem_206
      refine i_aload_n C dX5_readItem_119 rfl (lv_at hl 1 rfl) ?_
      obtain ⟨m13, e14, h⟩ := w_bdr h
      refine x_callVv C hX (fg_37_0 G) (c_X5_shipTold (gl Γ) G  e14) [] rfl hl tw6_90 tw6_92 ts5_0 tw1_7 tw6_93 rfl nd_X5_shipTold ⟨(Nat.le_of_ble_eq_true rfl), (Nat.le_of_ble_eq_true rfl)⟩ (Nat.le_of_ble_eq_true rfl) dX5_readItem_120 (fun H locs hX => ?_)
      refine i_goto (tgt := 206) C dX5_readItem_123 (by decide) ?_
      exact x_vretV C hX hr hQ h dX5_readItem_206
    refine i_aload_n C dX5_readItem_92 rfl (lv_at hl 1 rfl) ?_
    refine i_bipush (v := 10) C dX5_readItem_93 rfl ?_
    refine i_aload_n C dX5_readItem_95 rfl (lv_at hl 1 rfl) ?_
    refine i_iconst (v := 0) C dX5_readItem_96 rfl ?_
    refine i_bipush (v := 99) C dX5_readItem_97 rfl ?_
    obtain ⟨x10, m14, e15, h⟩ := w_bdw h
    refine x_callVi C hX (fg_37_0 G) (c_X5_number (gl Γ) G  e15) [.int 10, .ref (G.2.1 37)] rfl hl tw6_71 tw6_73 ts4_12 tw1_7 tw6_74 rfl nd_X5_number ⟨(Nat.le_of_ble_eq_true rfl), (Nat.le_of_ble_eq_true rfl)⟩ (Nat.le_of_ble_eq_true rfl) dX5_readItem_99 (fun H locs hX => ?_)
    refine i_iconst (v := 0) C dX5_readItem_102 rfl ?_
    obtain ⟨m15, e16, h⟩ := w_bdr h
    refine x_callVv C hX (fg_37_0 G) (c_X5_item (gl Γ) G  e16) [] rfl hl tw6_84 tw6_86 ts4_15 tw1_7 tw6_87 rfl nd_X5_item ⟨(Nat.le_of_ble_eq_true rfl), (Nat.le_of_ble_eq_true rfl)⟩ (Nat.le_of_ble_eq_true rfl) dX5_readItem_103 (fun H locs hX => ?_)
    refine i_goto (tgt := 206) C dX5_readItem_106 (by decide) ?_
    exact x_vretV C hX hr hQ h dX5_readItem_206
  refine i_aload_n C dX5_readItem_19 rfl (lv_at hl 1 rfl) ?_
  refine i_aload_n C dX5_readItem_20 rfl (lv_at hl 1 rfl) ?_
  refine x_get C hX (fg_37_21 G) tw4_104 dX5_readItem_21 ?_
  refine i_bipush (v := 8) C dX5_readItem_24 rfl ?_
  refine w_jn1 (fun (x11 : Int32) => ∀ (H : Heap) (locs : List Loc) (ls : Array Slot), lv_has ls 3 [(0, .ref (G.2.1 37)), (1, .int x1)] → XW G A (gs Γ) H locs m1 → WX Γ H locs 34 ls [.int x11, .ref (G.2.1 37)]) h (fun x11 h H locs ls hl hX => ?_) (fun k2 J2 h => ?_)
  · obtain ⟨m16, e17, h⟩ := w_bdr h
    refine x_callVv C hX (fg_37_0 G) (c_X5_must (gl Γ) G  e17) [] rfl hl tw6_62 tw6_64 ts4_10 tw1_7 tw6_65 rfl nd_X5_must ⟨(Nat.le_of_ble_eq_true rfl), (Nat.le_of_ble_eq_true rfl)⟩ (Nat.le_of_ble_eq_true rfl) dX5_readItem_34 (fun H locs hX => ?_)
    refine i_aload_n C dX5_readItem_37 rfl (lv_at hl 0 rfl) ?_
    refine i_dup C dX5_readItem_38 rfl ?_
    refine x_get C hX (fg_37_21 G) tw4_104 dX5_readItem_39 ?_
    refine i_iconst (v := 1) C dX5_readItem_42 rfl ?_
    refine i_iadd C dX5_readItem_43 ?_
    refine x_putI C hX (fp_37_21 G) h tw4_104 dX5_readItem_44 (fun H locs m17 h hX => ?_)
    refine i_aload_n C dX5_readItem_47 rfl (lv_at hl 0 rfl) ?_
    refine x_ldcwS C hX (List.mem_of_getElem? (i := 30) rfl) dX5_readItem_48 ?_
    obtain ⟨x12, m18, e18, h⟩ := w_bdw h
    refine x_callVi C hX (fg_37_0 G) (c_X5_isNext (gl Γ) G (by decide) e18) [] rfl hl tw6_67 tw6_69 ts4_11 tw1_7 tw6_70 rfl nd_X5_isNext ⟨(Nat.le_of_ble_eq_true rfl), (Nat.le_of_ble_eq_true rfl)⟩ (Nat.le_of_ble_eq_true rfl) dX5_readItem_51 (fun H locs hX => ?_)
    refine w_jn2 (fun (x13 : Int32) (m19 : MM) => ∀ (H : Heap) (locs : List Loc) (ls : Array Slot), lv_has ls 3 [(0, .ref (G.2.1 37)), (1, .int x1)] → XW G A (gs Γ) H locs m19 → WX Γ H locs 68 ls [.int x13]) h (fun x13 m19 h H locs ls hl hX => ?_) (fun k1 J1 h => ?_)
    · refine i_istore_n C [(2, .int x13), (0, .ref (G.2.1 37)), (1, .int x1)] dX5_readItem_68 rfl hl (by decide) rfl (fun ls hl => ?_)
      refine i_aload_n C dX5_readItem_69 rfl (lv_at hl 1 rfl) ?_
      refine i_iload_n C dX5_readItem_70 rfl (lv_at hl 2 rfl) ?_
      refine i_iload_n C dX5_readItem_71 rfl (lv_at hl 0 rfl) ?_
      refine i_aload_n C dX5_readItem_72 rfl (lv_at hl 1 rfl) ?_
      obtain ⟨x14, m20, e19, h⟩ := w_bdw h
      refine x_callVi C hX (fg_37_0 G) (c_X5_habitTold (gl Γ) G  e19) [.int x13, .int x1, .ref (G.2.1 37)] rfl hl tw6_75 tw6_77 ts4_13 tw1_7 tw6_78 rfl nd_X5_habitTold ⟨(Nat.le_of_ble_eq_true rfl), (Nat.le_of_ble_eq_true rfl)⟩ (Nat.le_of_ble_eq_true rfl) dX5_readItem_73 (fun H locs hX => ?_)
      obtain ⟨m21, e20, h⟩ := w_bdr h
      refine x_callVv C hX (fg_37_0 G) (c_X5_item (gl Γ) G  e20) [] rfl hl tw6_84 tw6_86 ts4_15 tw1_7 tw6_87 rfl nd_X5_item ⟨(Nat.le_of_ble_eq_true rfl), (Nat.le_of_ble_eq_true rfl)⟩ (Nat.le_of_ble_eq_true rfl) dX5_readItem_76 (fun H locs hX => ?_)
      refine i_goto (tgt := 206) C dX5_readItem_79 (by decide) ?_
      exact x_vretV C hX hr hQ h dX5_readItem_206
    refine i_if_eq (tgt := 67) C h dX5_readItem_54 (by decide) (fun _ h => ?_) (fun _ h => ?_)
    · refine i_iconst (v := 0) C dX5_readItem_67 rfl ?_
      exact J1 _ _ h _ _ _ (lv_sub hl [0, 1] rfl) hX
    refine i_aload_n C dX5_readItem_57 rfl (lv_at hl 0 rfl) ?_
    refine i_iconst (v := 0) C dX5_readItem_58 rfl ?_
    refine i_bipush (v := 99) C dX5_readItem_59 rfl ?_
    obtain ⟨x15, m22, e21, h⟩ := w_bdw h
    refine x_callVi C hX (fg_37_0 G) (c_X5_number (gl Γ) G  e21) [] rfl hl tw6_71 tw6_73 ts4_12 tw1_7 tw6_74 rfl nd_X5_number ⟨(Nat.le_of_ble_eq_true rfl), (Nat.le_of_ble_eq_true rfl)⟩ (Nat.le_of_ble_eq_true rfl) dX5_readItem_61 (fun H locs hX => ?_)
    refine i_goto (tgt := 68) C dX5_readItem_64 (by decide) ?_
    exact J1 _ _ h _ _ _ (lv_sub hl [0, 1] rfl) hX
  refine i_icmp_ge (tgt := 33) C h dX5_readItem_26 (by decide) (fun _ h => ?_) (fun _ h => ?_)
  · refine i_iconst (v := 0) C dX5_readItem_33 rfl ?_
    exact J2 _ h _ _ _ (lv_sub hl [1, 0] rfl) hX
  refine i_iconst (v := 1) C dX5_readItem_29 rfl ?_
  refine i_goto (tgt := 34) C dX5_readItem_30 (by decide) ?_
  exact J2 _ h _ _ _ (lv_sub hl [1, 0] rfl) hX
