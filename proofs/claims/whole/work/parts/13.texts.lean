/-! ===== texts: the String constants, length() and charAt() ===== -/
def chS (i j : Nat) : Int32 := (bytS.getD i []).getD j 0
def ldch {β : Type} (i : Nat) (k : Int32) (f : Int32 → Option β) : Option β := if inb k (lenS.getD i 0) then f (chS i k.toNatClampNeg) else none
theorem lt_of_ite {c : Prop} [Decidable c] {n r : Nat} {Y : Option Nat} (h : (if c then some n else Y) = some r) (hn : n < 18) (k : Y = some r → r < 18) : r < 18 := by
  by_cases q : c
  · rw [if_pos q] at h
    rw [← Option.some.inj h]
    exact hn
  · rw [if_neg q] at h
    exact k h
theorem ss_recv {s : State} {H : Heap} {locs : List Loc} {A : Nat → Prop} {N : Nat} {len : List Nat} {byt : List (List Int32)} {adK adV : Nat → Nat} {i : Nat} (hE : SS N len byt adK adV A s s.heap) (hi : i < N) (hS : va_S A s.heap H locs) : ∃ cell : Cell, H[adK i]? = some cell ∧ cell.vm.isStatics = false ∧ s.vm.findClass "java/lang/String" = some cell.cls := by
  obtain ⟨cell, h1, h2, h3, h4⟩ := (hE i hi).1
  exact ⟨cell, (hS.2.1 _ (Array.getElem?_eq_some_iff.mp h1).1 h4).trans h1, h2, h3⟩
section XS
variable {Γ : Ctx} {H : Heap} {locs : List Loc} {pc : Nat} {ls : Array Slot} {rest : List Value} {cc : ByteArray} {nL : Nat} {own : String} {fr lo : Nat} {G : EN} {A : Nat → Prop} {μ : MM} {β : Type} {out : β}
theorem ldcwString {p : Program} {l : Launch} {e : Env} {R : Room} {s : State} {m : MethodId} {args : Array Value} {below : List Frame} {meth : Method} {c : Code} {T : State} {locs : List Loc} {cells slots : Nat}
    (X : Stand p l e R s m args below meth c T locs cells slots) (hexec : p.tables.exec = Jvm.exec) {own text : String} {index : Nat} {a : Addr} (hown : s.vm.findClass own = some m.cls)
    (hconst : (Cond.stringRef own index text).before args s = true) (hev : (Term.string own index).eval args s none [] s = some (.ref a)) {g : JFrame} (hg : g.method = m) (hdg : decode c.code g.pc = .ok (.ldc_w index, 3)) :
    ∀ target, Steps p.tables e below (T.setTop { g with pc := g.pc + 3, stack := .ref a :: g.stack }) target → Steps p.tables e below (T.setTop g) target := by
  obtain ⟨k, cf, i, a', hk, hcf, hcp, -, hr, hev'⟩ := Cond.stringRef_spec hown hconst
  cases hev.symm.trans hev'
  obtain ⟨k', hk', he⟩ := X.warmed.alike.2.2 _ _ hk
  have hr' : k'.resolved[index]? = some (some (.string a)) := by
    rcases X.warmed.entry hk hk' index with h | ⟨h, -⟩
    · rw [h]; exact hr
    · rw [hr] at h; cases h
  intro target hrest
  subst hg
  jvm_step X.here [hexec, hdg, ldc_w.wp_string (e := e) (s := T) (f := g) X.here.top hk' (by rw [he]; exact hcf) hcp hr']
  exact hrest
theorem x_ldcS (C : Cx Γ cc nL own fr lo) (hX : XW G A (gs Γ) H locs μ) {index i : Nat} {tx : String} (hm : (own, index, tx, i) ∈ strL) (hd : decode cc pc = .ok (.ldc index, 2)) (kk : WX Γ H locs (pc + 2) ls (.ref (G.2.1 (100 + i)) :: rest)) : WX Γ H locs pc ls rest := va_ldcS C.1.1 C.1.2.1 C.1.2.2.2.1 (hX.2.2.2.1.2.2 _ hm) hd kk
theorem x_ldcwS (C : Cx Γ cc nL own fr lo) (hX : XW G A (gs Γ) H locs μ) {index i : Nat} {tx : String} (hm : (own, index, tx, i) ∈ strL) (hd : decode cc pc = .ok (.ldc_w index, 3)) (kk : WX Γ H locs (pc + 3) ls (.ref (G.2.1 (100 + i)) :: rest)) : WX Γ H locs pc ls rest := by
  intro T hT X
  obtain ⟨t, a1, b1⟩ := kk T hT X
  have hZ := hX.2.2.2.1.2.2 _ hm
  exact ⟨t, ldcwString X C.1.1 C.1.2.2.2.1 (text := tx) (a := G.2.1 (100 + i)) hZ.1 hZ.2 (g := F0 (gm Γ) pc ls rest) rfl (by rw [C.1.2.1]; exact hd) t a1, b1⟩
theorem x_getsV (C : Cx Γ cc nL own fr lo) (hX : XW G A (gs Γ) H locs μ) {Cn n d : String} {v : Value} {index : Nat} (hZ : va_Z Cn n d v A (gs Γ) (gs Γ).heap) (hw : Cond.fieldLink own index Cn n d ∈ TT) (hd : decode cc pc = .ok (.getstatic index, 3)) (kk : WX Γ H locs (pc + 3) ls (v :: rest)) : WX Γ H locs pc ls rest := va_gets C.1.1 C.1.2.1 hZ hX.2.2.1 C.1.2.2.2.1 (C.w hw) (fun _ q => q) hd kk
theorem x_getO (C : Cx Γ cc nL own fr lo) (hX : XW G A (gs Γ) H locs μ) {o n d : String} {v : Value} {index q : Nat} (hE : va_OF o n d v q A (gs Γ) (gs Γ).heap) (hw : Cond.fieldLink own index o n d ∈ TT) (hd : decode cc pc = .ok (.getfield index, 3)) (kk : WX Γ H locs (pc + 3) ls (v :: rest)) : WX Γ H locs pc ls (.ref q :: rest) := vk_getf C.1.1 C.1.2.1 hE hX.2.2.1 C.1.2.2.2.1 (C.w hw) (fun _ q => q) hd kk
theorem x_nret (C : Cx Γ cc nL own fr lo) (hX : XW G A (gs Γ) H locs μ) {x : Int32} {ty : FieldType} (hn : narrow ty (.int x) = .int x) (hr : (gt Γ).sig.returnType = some ty) (hQ : RT Γ G A (some (.int x)) μ) (hd : decode cc pc = .ok (.ireturn, 1)) : WX Γ H locs pc ls [.int x] := by
  have e := x_end (cells := 0) (slots := 0) hX hQ
  unfold WX
  rw [hQ.1]
  exact W.zret C.1.1 C.1.2.1 hr hn e.1 e.2 hd C.2.1
theorem x_callR (C : Cx Γ cc nL own fr lo) (hX : XW G A (gs Γ) H locs μ) {b idx maxL fr2 lo2 : Nat} {Cn : String} {y : MethodName} {bytes : ByteArray} {ret : Option FieldType} {As st : List Value} {lv : List (Nat × Value)} {r : Int32} {μ2 : MM} (hrv : ∃ cell : Cell, H[b]? = some cell ∧ cell.vm.isStatics = false ∧ (gs Γ).vm.findClass Cn = some cell.cls) (hM : XM (gl Γ) G y bytes maxL ret fr2 lo2 (.ref b :: As) μ (some (.int r)) μ2) (rest : List Value) (hst : st = As.reverse ++ .ref b :: rest) (hl : lv_has ls nL lv) (w1 : Cond.methodLink own idx y ∈ TT) (w2 : Cond.instanceMethod y ∈ TT) (w3 : Cond.selects Cn y y ∈ TT) (w4 : Cond.initialized Cn ∈ TT) (w5 : Cond.code y bytes maxL ret ∈ TT) (hyc : y.cls = Cn) (hdm : y.cls ≠ "java/lang/invoke/MethodHandle" ∧ y.cls ≠ "java/lang/invoke/VarHandle" ∧ (parseMethodDescriptor y.desc).map (fun d => d.parameters.length) = some As.length) (hR : fr2 + 1 ≤ fr ∧ 8 + (maxL + 11) + lo2 ≤ lo) (hro : (rest.map fun v => v.category).sum ≤ 8) (hd : decode cc pc = .ok (.invokevirtual idx, 3)) (kk : ∀ (H1 : Heap) (locs1 : List Loc), XW G A (gs Γ) H1 locs1 μ2 → WX Γ H1 locs1 (pc + 3) ls (.int r :: rest)) : WX Γ H locs pc ls st :=
  x_run (va_runV (As := As) (rest := rest) C.1 (hM H.size) (cwV As.length C.1.2.2.2.2 (gV w1 w2 w3 w4 w5) rfl rfl rfl ⟨hyc, hdm⟩ (by rw [C.2.2.1, C.2.2.2]; exact hR)) ⟨XM.blind G μ _ _, hrv, fun U hU hW => ⟨rfl, by rw [hU], hX.pre hU hW⟩⟩ rfl rfl hl.1 hst (lv_room hro) hd ⟨Nat.zero_le _, Nat.zero_le _⟩) hX kk
theorem nd_J0_coder : yJ0_coder_7d493.cls ≠ "java/lang/invoke/MethodHandle" ∧ yJ0_coder_7d493.cls ≠ "java/lang/invoke/VarHandle" ∧ (parseMethodDescriptor yJ0_coder_7d493.desc).map (fun d => d.parameters.length) = some 0 := by decide +kernel
theorem nd_J0_isLatin1 : yJ0_isLatin1_aae02.cls ≠ "java/lang/invoke/MethodHandle" ∧ yJ0_isLatin1_aae02.cls ≠ "java/lang/invoke/VarHandle" ∧ (parseMethodDescriptor yJ0_isLatin1_aae02.desc).map (fun d => d.parameters.length) = some 0 := by decide +kernel
theorem nd_J0_length : yJ0_length_8abf5.cls ≠ "java/lang/invoke/MethodHandle" ∧ yJ0_length_8abf5.cls ≠ "java/lang/invoke/VarHandle" ∧ (parseMethodDescriptor yJ0_length_8abf5.desc).map (fun d => d.parameters.length) = some 0 := by decide +kernel
theorem nd_J0_charAt : yJ0_charAt_5068e.cls ≠ "java/lang/invoke/MethodHandle" ∧ yJ0_charAt_5068e.cls ≠ "java/lang/invoke/VarHandle" ∧ (parseMethodDescriptor yJ0_charAt_5068e.desc).map (fun d => d.parameters.length) = some 1 := by decide +kernel
theorem nd_J1_charAt : yJ1_charAt_3b067.cls ≠ "java/lang/invoke/MethodHandle" ∧ yJ1_charAt_3b067.cls ≠ "java/lang/invoke/VarHandle" ∧ (parseMethodDescriptor yJ1_charAt_3b067.desc).map (fun d => d.parameters.length) = some 2 := by decide +kernel
theorem nd_J0_checkIndex : yJ0_checkIndex_df160.cls ≠ "java/lang/invoke/MethodHandle" ∧ yJ0_checkIndex_df160.cls ≠ "java/lang/invoke/VarHandle" ∧ (parseMethodDescriptor yJ0_checkIndex_df160.desc).map (fun d => d.parameters.length) = some 2 := by decide +kernel
theorem nd_J3_checkIndex : yJ3_checkIndex_8e157.cls ≠ "java/lang/invoke/MethodHandle" ∧ yJ3_checkIndex_8e157.cls ≠ "java/lang/invoke/VarHandle" ∧ (parseMethodDescriptor yJ3_checkIndex_8e157.desc).map (fun d => d.parameters.length) = some 3 := by decide +kernel
set_option maxHeartbeats 4000000 in
theorem c_J0_coder (l : Launch) (G : EN) {i : Nat} (hi : i < 18) {μ : MM} : XM l G yJ0_coder_7d493 cJ0_coder_7d493 1 (some .byte) 0 0 [.ref (G.2.1 (100 + i))] μ (some (.int 0)) μ := by
  refine x_met (own := RJ0) (by decide +kernel) rfl (Nat.le_of_ble_eq_true rfl) (fun Γ A H ls hg C hr hX hQ hl => ?_)
  have hl : lv_has ls 1 [(0, .ref (G.2.1 (100 + i)))] := hl
  refine x_getsV C hX hX.2.2.2.2.1.2.2.2.1 tw3_129 dJ0_coder_7d493_0 ?_
  refine lv_if_eq (tgt := 13) C.1.1 C.1.2.1 dJ0_coder_7d493_3 (by decide) (fun q => absurd q (by decide)) (fun _ => ?_)
  show WX Γ H [] 6 ls []
  refine i_aload_n C dJ0_coder_7d493_6 rfl (lv_at hl 0 rfl) ?_
  refine x_getO C hX (hX.2.2.2.2.1.2.2.2.2.1 i hi).2.1 tw6_167 dJ0_coder_7d493_7 ?_
  refine i_goto (tgt := 14) C dJ0_coder_7d493_10 (by decide) ?_
  exact x_nret C hX rfl hr hQ dJ0_coder_7d493_14
set_option maxHeartbeats 4000000 in
theorem c_J0_isLatin1 (l : Launch) (G : EN) {i : Nat} (hi : i < 18) {μ : MM} : XM l G yJ0_isLatin1_aae02 cJ0_isLatin1_aae02 1 (some .boolean) 0 0 [.ref (G.2.1 (100 + i))] μ (some (.int 1)) μ := by
  refine x_met (own := RJ0) (by decide +kernel) rfl (Nat.le_of_ble_eq_true rfl) (fun Γ A H ls hg C hr hX hQ hl => ?_)
  have hl : lv_has ls 1 [(0, .ref (G.2.1 (100 + i)))] := hl
  refine x_getsV C hX hX.2.2.2.2.1.2.2.2.1 tw3_129 dJ0_isLatin1_aae02_0 ?_
  refine lv_if_eq (tgt := 17) C.1.1 C.1.2.1 dJ0_isLatin1_aae02_3 (by decide) (fun q => absurd q (by decide)) (fun _ => ?_)
  show WX Γ H [] 6 ls []
  refine i_aload_n C dJ0_isLatin1_aae02_6 rfl (lv_at hl 0 rfl) ?_
  refine x_getO C hX (hX.2.2.2.2.1.2.2.2.2.1 i hi).2.1 tw6_167 dJ0_isLatin1_aae02_7 ?_
  refine lv_if_ne (tgt := 17) C.1.1 C.1.2.1 dJ0_isLatin1_aae02_10 (by decide) (fun q => absurd rfl q) (fun _ => ?_)
  show WX Γ H [] 13 ls []
  refine i_iconst (v := 1) C dJ0_isLatin1_aae02_13 rfl ?_
  refine i_goto (tgt := 18) C dJ0_isLatin1_aae02_14 (by decide) ?_
  exact x_nret C hX rfl hr hQ dJ0_isLatin1_aae02_18
set_option maxHeartbeats 4000000 in
theorem c_J0_length (l : Launch) (G : EN) {i : Nat} (hi : i < 18) {μ : MM} : XM l G yJ0_length_8abf5 cJ0_length_8abf5 1 (some .int) 1 20 [.ref (G.2.1 (100 + i))] μ (some (.int (nI (lenS.getD i 0)))) μ := by
  refine x_met (own := RJ0) (by decide +kernel) rfl (Nat.le_of_ble_eq_true rfl) (fun Γ A H ls hg C hr hX hQ hl => ?_)
  have hl : lv_has ls 1 [(0, .ref (G.2.1 (100 + i)))] := hl
  refine i_aload_n C dJ0_length_8abf5_0 rfl (lv_at hl 0 rfl) ?_
  refine x_getO C hX (hX.2.2.2.2.1.2.2.2.2.1 i hi).2.2.1 tw6_166 dJ0_length_8abf5_1 ?_
  refine va_tlen C.1.1 C.1.2.1 (hX.2.2.2.2.1.2.2.2.2.1 i hi).2.2.2 hX.2.2.1 (v := nI (lenS.getD i 0)) rfl dJ0_length_8abf5_4 ?_
  show WX Γ H [] 5 ls [.int (nI (lenS.getD i 0))]
  refine i_aload_n C dJ0_length_8abf5_5 rfl (lv_at hl 0 rfl) ?_
  refine x_callR C hX (ss_recv hX.2.2.2.2.1.2.2.2.2.1 hi hX.2.2.1) (c_J0_coder (gl Γ) G hi) [.int (nI (lenS.getD i 0))] rfl hl tw3_125 tw3_126 tw3_127 tw1_11 tw3_128 rfl nd_J0_coder ⟨(Nat.le_of_ble_eq_true rfl), (Nat.le_of_ble_eq_true rfl)⟩ (Nat.le_of_ble_eq_true rfl) dJ0_length_8abf5_6 (fun H locs hX => ?_)
  refine i_ishr C dJ0_length_8abf5_9 ?_
  have e : sr (nI (lenS.getD i 0)) 0 = nI (lenS.getD i 0) := sb_shr0 _
  rw [e]
  exact x_iret C hX hr hQ dJ0_length_8abf5_10
set_option maxHeartbeats 4000000 in
theorem c_J3_checkIndex (l : Launch) (G : EN) {k n : Int32} {v : Value} (hv : v.category = 1) (h0 : ¬ k < 0) (h1 : k < n) {μ : MM} : XM l G yJ3_checkIndex_8e157 cJ3_checkIndex_8e157 3 (some .int) 0 0 [.int k, .int n, v] μ (some (.int k)) μ := by
  have hlen : (lg_sl [Value.int k, Value.int n, v]).length ≤ 3 := by
    simp [lg_sl, hv]
    exact Nat.le_of_ble_eq_true rfl
  refine x_met (own := RJ3) (by decide +kernel) rfl hlen (fun Γ A H ls hg C hr hX hQ hl => ?_)
  have hl : lv_has ls 3 [(0, .int k), (1, .int n), (2, v)] := hl
  refine i_iload_n C dJ3_checkIndex_8e157_0 rfl (lv_at hl 0 rfl) ?_
  refine lv_if_lt (tgt := 9) C.1.1 C.1.2.1 dJ3_checkIndex_8e157_1 (by decide) (fun q => absurd q h0) (fun _ => ?_)
  show WX Γ H [] 4 ls []
  refine i_iload_n C dJ3_checkIndex_8e157_4 rfl (lv_at hl 0 rfl) ?_
  refine i_iload_n C dJ3_checkIndex_8e157_5 rfl (lv_at hl 1 rfl) ?_
  refine lv_icmp_lt (tgt := 16) C.1.1 C.1.2.1 dJ3_checkIndex_8e157_6 (by decide) (fun _ => ?_) (fun q => absurd h1 q)
  show WX Γ H [] 16 ls []
  refine i_iload_n C dJ3_checkIndex_8e157_16 rfl (lv_at hl 0 rfl) ?_
  exact x_iret C hX hr hQ dJ3_checkIndex_8e157_17
set_option maxHeartbeats 4000000 in
theorem c_J0_checkIndex (l : Launch) (G : EN) {k n : Int32} (h0 : ¬ k < 0) (h1 : k < n) {μ : MM} : XM l G yJ0_checkIndex_df160 cJ0_checkIndex_df160 2 none 1 22 [.int k, .int n] μ none μ := by
  refine x_met (own := RJ0) (by decide +kernel) rfl (Nat.le_of_ble_eq_true rfl) (fun Γ A H ls hg C hr hX hQ hl => ?_)
  have hl : lv_has ls 2 [(0, .int k), (1, .int n)] := hl
  refine i_iload_n C dJ0_checkIndex_df160_0 rfl (lv_at hl 0 rfl) ?_
  refine i_iload_n C dJ0_checkIndex_df160_1 rfl (lv_at hl 1 rfl) ?_
  rcases hX.2.2.2.2.1.2.2.2.2.2 with hz | ⟨t, hz⟩
  · refine x_getsV C hX hz tw3_145 dJ0_checkIndex_df160_2 ?_
    refine x_callSi C hX (c_J3_checkIndex (gl Γ) G (v := .null) rfl h0 h1) [] rfl hl tw3_147 tw3_148 tw1_13 tw3_149 nd_J3_checkIndex ⟨(Nat.le_of_ble_eq_true rfl), (Nat.le_of_ble_eq_true rfl)⟩ (Nat.le_of_ble_eq_true rfl) dJ0_checkIndex_df160_5 (fun H locs hX => ?_)
    refine i_pop C dJ0_checkIndex_df160_8 rfl ?_
    exact x_vretV C hX hr hQ rfl dJ0_checkIndex_df160_9
  · refine x_getsV C hX hz tw3_145 dJ0_checkIndex_df160_2 ?_
    refine x_callSi C hX (c_J3_checkIndex (gl Γ) G (v := .ref t) rfl h0 h1) [] rfl hl tw3_147 tw3_148 tw1_13 tw3_149 nd_J3_checkIndex ⟨(Nat.le_of_ble_eq_true rfl), (Nat.le_of_ble_eq_true rfl)⟩ (Nat.le_of_ble_eq_true rfl) dJ0_checkIndex_df160_5 (fun H locs hX => ?_)
    refine i_pop C dJ0_checkIndex_df160_8 rfl ?_
    exact x_vretV C hX hr hQ rfl dJ0_checkIndex_df160_9
theorem chS_fit : ∀ i, i < 18 → lenS.getD i 0 < 8 ∧ ∀ j, j < 8 → (((chS i j) &&& 255).toUInt32 % 65536).toInt32 = chS i j ∧ narrow .char (.int (chS i j)) = .int (chS i j) := by decide +kernel
theorem inb_lt {k : Int32} {n : Nat} (h : inb k n) (hn : n < 2 ^ 31) : ¬ k < 0 ∧ k < nI n ∧ k.toNatClampNeg < n := by
  have h0 : ¬ k < 0 := fun q => h (Or.inl q)
  have h1 : k.toNatClampNeg < n := Nat.not_le.mp fun q => h (Or.inr q)
  obtain ⟨j, hj, rfl⟩ := nI_of h0
  rw [nI_clamp hj] at h1
  exact ⟨h0, nI_lt h1 hn, by rw [nI_clamp hj]; exact h1⟩
set_option maxHeartbeats 4000000 in
theorem c_J1_charAt (l : Launch) (G : EN) {i : Nat} (hi : i < 18) {k : Int32} (hk : inb k (lenS.getD i 0)) {μ : MM} : XM l G yJ1_charAt_3b067 cJ1_charAt_3b067 2 (some .char) 2 43 [.ref (G.2.1 (200 + i)), .int k] μ (some (.int (chS i k.toNatClampNeg))) μ := by
  obtain ⟨hL, hf⟩ := chS_fit i hi
  obtain ⟨h0, h1, h2⟩ := inb_lt hk (by omega)
  refine x_met (own := RJ1) (by decide +kernel) rfl (Nat.le_of_ble_eq_true rfl) (fun Γ A H ls hg C hr hX hQ hl => ?_)
  have hl : lv_has ls 2 [(0, .ref (G.2.1 (200 + i))), (1, .int k)] := hl
  refine i_iload_n C dJ1_charAt_3b067_0 rfl (lv_at hl 1 rfl) ?_
  refine i_aload_n C dJ1_charAt_3b067_1 rfl (lv_at hl 0 rfl) ?_
  refine va_tlen C.1.1 C.1.2.1 (hX.2.2.2.2.1.2.2.2.2.1 i hi).2.2.2 hX.2.2.1 (v := nI (lenS.getD i 0)) rfl dJ1_charAt_3b067_2 ?_
  show WX Γ H [] 3 ls [.int (nI (lenS.getD i 0)), .int k]
  refine x_callSv C hX (c_J0_checkIndex (gl Γ) G h0 h1) [] rfl hl tw3_142 tw3_143 tw1_11 tw3_144 nd_J0_checkIndex ⟨(Nat.le_of_ble_eq_true rfl), (Nat.le_of_ble_eq_true rfl)⟩ (Nat.le_of_ble_eq_true rfl) dJ1_charAt_3b067_3 (fun H locs hX => ?_)
  refine i_aload_n C dJ1_charAt_3b067_6 rfl (lv_at hl 0 rfl) ?_
  refine i_iload_n C dJ1_charAt_3b067_7 rfl (lv_at hl 1 rfl) ?_
  refine va_tb C.1.1 C.1.2.1 (hX.2.2.2.2.1.2.2.2.2.1 i hi).2.2.2 hX.2.2.1 hk (v := .int (chS i k.toNatClampNeg)) rfl dJ1_charAt_3b067_8 ?_
  show WX Γ H locs 9 ls [.int (chS i k.toNatClampNeg)]
  refine i_sipush (v := 255) C dJ1_charAt_3b067_9 rfl ?_
  refine i_iand C dJ1_charAt_3b067_12 ?_
  refine lv_i2c C.1.1 C.1.2.1 dJ1_charAt_3b067_13 (v := chS i k.toNatClampNeg) (hf _ (by omega)).1 ?_
  exact x_nret C hX (hf _ (by omega)).2 hr hQ dJ1_charAt_3b067_14
set_option maxHeartbeats 4000000 in
theorem c_J0_charAt (l : Launch) (G : EN) {i : Nat} (hi : i < 18) {k : Int32} (hk : inb k (lenS.getD i 0)) {μ : MM} : XM l G yJ0_charAt_5068e cJ0_charAt_5068e 2 (some .char) 3 64 [.ref (G.2.1 (100 + i)), .int k] μ (some (.int (chS i k.toNatClampNeg))) μ := by
  obtain ⟨hL, hf⟩ := chS_fit i hi
  obtain ⟨h0, h1, h2⟩ := inb_lt hk (by omega)
  refine x_met (own := RJ0) (by decide +kernel) rfl (Nat.le_of_ble_eq_true rfl) (fun Γ A H ls hg C hr hX hQ hl => ?_)
  have hl : lv_has ls 2 [(0, .ref (G.2.1 (100 + i))), (1, .int k)] := hl
  refine i_aload_n C dJ0_charAt_5068e_0 rfl (lv_at hl 0 rfl) ?_
  refine x_callR C hX (ss_recv hX.2.2.2.2.1.2.2.2.2.1 hi hX.2.2.1) (c_J0_isLatin1 (gl Γ) G hi) [] rfl hl tw3_135 tw3_136 tw3_137 tw1_11 tw3_138 rfl nd_J0_isLatin1 ⟨(Nat.le_of_ble_eq_true rfl), (Nat.le_of_ble_eq_true rfl)⟩ (Nat.le_of_ble_eq_true rfl) dJ0_charAt_5068e_1 (fun H locs hX => ?_)
  refine lv_if_eq (tgt := 16) C.1.1 C.1.2.1 dJ0_charAt_5068e_4 (by decide) (fun q => absurd q (by decide)) (fun _ => ?_)
  show WX Γ H locs 7 ls []
  refine i_aload_n C dJ0_charAt_5068e_7 rfl (lv_at hl 0 rfl) ?_
  refine x_getO C hX (hX.2.2.2.2.1.2.2.2.2.1 i hi).2.2.1 tw6_166 dJ0_charAt_5068e_8 ?_
  refine i_iload_n C dJ0_charAt_5068e_11 rfl (lv_at hl 1 rfl) ?_
  refine x_callSi C hX (c_J1_charAt (gl Γ) G hi hk) [] rfl hl tw3_139 tw3_140 tw1_12 tw3_141 nd_J1_charAt ⟨(Nat.le_of_ble_eq_true rfl), (Nat.le_of_ble_eq_true rfl)⟩ (Nat.le_of_ble_eq_true rfl) dJ0_charAt_5068e_12 (fun H locs hX => ?_)
  exact x_nret C hX (hf _ (by omega)).2 hr hQ dJ0_charAt_5068e_15
theorem x_slen (C : Cx Γ cc nL own fr lo) (hX : XW G A (gs Γ) H locs μ) {i idx : Nat} {lv : List (Nat × Value)} (hi : i < 18) (rest : List Value) (hl : lv_has ls nL lv) (w1 : Cond.methodLink own idx yJ0_length_8abf5 ∈ TT) (hR : 1 + 1 ≤ fr ∧ 8 + (1 + 11) + 20 ≤ lo) (hro : (rest.map fun v => v.category).sum ≤ 8) (hd : decode cc pc = .ok (.invokevirtual idx, 3)) (kk : ∀ (H1 : Heap) (locs1 : List Loc), XW G A (gs Γ) H1 locs1 μ → WX Γ H1 locs1 (pc + 3) ls (.int (nI (lenS.getD i 0)) :: rest)) : WX Γ H locs pc ls (.ref (G.2.1 (100 + i)) :: rest) :=
  x_callR C hX (ss_recv hX.2.2.2.2.1.2.2.2.2.1 hi hX.2.2.1) (c_J0_length (gl Γ) G hi) rest rfl hl w1 tw3_122 tw3_123 tw1_11 tw3_124 rfl nd_J0_length hR hro hd kk
theorem x_sch (C : Cx Γ cc nL own fr lo) (hX : XW G A (gs Γ) H locs μ) {i idx : Nat} {k : Int32} {f : Int32 → Option β} {lv : List (Nat × Value)} (hi : i < 18) (h : ldch i k f = some out) (rest : List Value) (hl : lv_has ls nL lv) (w1 : Cond.methodLink own idx yJ0_charAt_5068e ∈ TT) (hR : 3 + 1 ≤ fr ∧ 8 + (2 + 11) + 64 ≤ lo) (hro : (rest.map fun v => v.category).sum ≤ 8) (hd : decode cc pc = .ok (.invokevirtual idx, 3)) (kk : ∀ (x : Int32) (H1 : Heap) (locs1 : List Loc), f x = some out → XW G A (gs Γ) H1 locs1 μ → WX Γ H1 locs1 (pc + 3) ls (.int x :: rest)) : WX Γ H locs pc ls (.int k :: .ref (G.2.1 (100 + i)) :: rest) := by
  unfold ldch at h
  by_cases q : inb k (lenS.getD i 0)
  · rw [if_pos q] at h
    exact x_callR C hX (ss_recv hX.2.2.2.2.1.2.2.2.2.1 hi hX.2.2.1) (c_J0_charAt (gl Γ) G hi q) rest rfl hl w1 tw3_132 tw3_133 tw1_11 tw3_134 rfl nd_J0_charAt hR hro hd (fun H1 locs1 hX => kk _ H1 locs1 h hX)
  · rw [if_neg q] at h
    cases h
theorem x_aretS (C : Cx Γ cc nL own fr lo) (hX : XW G A (gs Γ) H locs μ) {x r : Nat} {n : String} (hr : (gt Γ).sig.returnType = some (.object n)) (hQ : RT Γ G A (some (.ref (G.2.1 (100 + r)))) μ) (h : some x = some r) (hd : decode cc pc = .ok (.areturn, 1)) : WX Γ H locs pc ls [.ref (G.2.1 (100 + x))] := by
  obtain rfl := Option.some.inj h
  have e := x_end (cells := 0) (slots := 0) hX hQ
  unfold WX
  rw [hQ.1]
  exact W.aret C.1.1 C.1.2.1 hr (Or.inl ⟨n, rfl⟩) (Or.inr ⟨_, rfl⟩) e.1 e.2 hd C.2.1
end XS
