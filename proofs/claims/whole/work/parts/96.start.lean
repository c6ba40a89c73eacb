theorem ltb_1 {w : Cond} (h : w ∈ tables_1_1) : w ∈ lw_tbl := List.mem_append_right _ (show w ∈ tables_1 from List.mem_append_left _ h)
theorem ltb_2 {w : Cond} (h : w ∈ tables_1_2) : w ∈ lw_tbl := List.mem_append_right _ (show w ∈ tables_1 from List.mem_append_right _ (List.mem_append_left _ h))
theorem ltb_3 {w : Cond} (h : w ∈ tables_1_3) : w ∈ lw_tbl := List.mem_append_right _ (show w ∈ tables_1 from List.mem_append_right _ (List.mem_append_right _ (List.mem_append_left _ h)))
theorem ltb_4 {w : Cond} (h : w ∈ tables_1_4) : w ∈ lw_tbl := List.mem_append_right _ (show w ∈ tables_1 from List.mem_append_right _ (List.mem_append_right _ (List.mem_append_right _ (List.mem_append_left _ h))))
theorem ltb_5 {w : Cond} (h : w ∈ tables_1_5) : w ∈ lw_tbl := List.mem_append_right _ (show w ∈ tables_1 from List.mem_append_right _ (List.mem_append_right _ (List.mem_append_right _ (List.mem_append_right _ (List.mem_append_left _ h)))))
theorem ltb_6 {w : Cond} (h : w ∈ tables_1_6) : w ∈ lw_tbl := List.mem_append_right _ (show w ∈ tables_1 from List.mem_append_right _ (List.mem_append_right _ (List.mem_append_right _ (List.mem_append_right _ (List.mem_append_right _ (h))))))
abbrev A0 (s : State) : Nat → Prop := fun q => s.heap.size ≤ q
theorem A0_n (s : State) : ∀ a : Nat, a < s.heap.size → ¬ A0 s a := fun a h => Nat.not_le.mpr h
abbrev FA (s : State) (b : Nat) : Prop := ∀ c ∈ flatC (Jvm.Cond.and given_1 narrow_1), c.before #[Value.ref b] s = true
abbrev TA (s : State) (b : Nat) : Prop := ∀ w ∈ lw_tbl, w.before #[Value.ref b] s = true
def StrAt (s : State) (b i : Nat) (q : Nat × Nat) : Prop := (Term.string "NavyOfCats$Reader" (61 + 2 * i)).eval #[Value.ref b] s none [] s = some (.ref q.1) ∧ va_O "java/lang/String" q.1 (A0 s) s s.heap ∧ va_OF "java/lang/String" "coder" "B" (.int 0) q.1 (A0 s) s s.heap ∧ va_OF "java/lang/String" "value" "[B" (.ref q.2) q.1 (A0 s) s s.heap ∧ va_T .byte q.2 (lenS.getD i 0) (fun j => .int ((bytS.getD i []).getD j 0)) (A0 s) s s.heap
theorem st_one {s : State} {b i : Nat} (hN : lenS.getD i 0 < 2 ^ 31) (hex : (Cond.exactly (.string "NavyOfCats$Reader" (61 + 2 * i)) "java/lang/String").before #[Value.ref b] s = true) (hco : (Cond.eq (.field (.string "NavyOfCats$Reader" (61 + 2 * i)) "java/lang/String" "coder" "B") (.int 0)).before #[Value.ref b] s = true) (har : (Cond.arrayOf (.field (.string "NavyOfCats$Reader" (61 + 2 * i)) "java/lang/String" "value" "[B") .byte).before #[Value.ref b] s = true) (hle : (Cond.eq (.length (.field (.string "NavyOfCats$Reader" (61 + 2 * i)) "java/lang/String" "value" "[B")) (.int (Int32.ofNat (lenS.getD i 0)))).before #[Value.ref b] s = true) (hel : ∀ j : Nat, j < lenS.getD i 0 → (Cond.eq (.elem (.field (.string "NavyOfCats$Reader" (61 + 2 * i)) "java/lang/String" "value" "[B") (.int (Int32.ofNat j))) (.int ((bytS.getD i []).getD j 0))).before #[Value.ref b] s = true) : ∃ q, StrAt s b i q := by
  obtain ⟨a, c, cA, kA, q1, q2, q3, q4, q5, q6, -⟩ := Cond.exactly_spec (args := #[Value.ref b]) (first := s) (o := none) (s := s) (idx := []) (t := .string "NavyOfCats$Reader" (61 + 2 * i)) (cls := "java/lang/String") hex
  obtain ⟨t, ht, hT⟩ := va_Tof (f := fun j => .int ((bytS.getD i []).getD j 0)) (A := A0 s) hN har (va_eqt hle) (fun j hj => va_eqt (hel j hj)) (A0_n s)
  exact ⟨(a, t), q1, ⟨cA, q3, q5, by rw [q6]; exact q2, A0_n s a (Array.getElem?_eq_some_iff.mp q3).1⟩, vk_OFof q1 (va_eqt hco) (A0_n s), vk_OFof q1 ht (A0_n s), hT⟩
theorem st_s0 {s : State} {b : Nat} (h : FA s b) : ∃ q, StrAt s b 0 q :=
  st_one (by decide) (h _ (List.mem_of_getElem? (i := 41) rfl)) (h _ (List.mem_of_getElem? (i := 42) rfl)) (h _ (List.mem_of_getElem? (i := 43) rfl)) (h _ (List.mem_of_getElem? (i := 44) rfl)) (fun j hj => by
    have hj : j < 3 := hj
    rcases (by omega : j = 0 ∨ j = 1 ∨ j = 2) with rfl | rfl | rfl
    · exact (h _ (List.mem_of_getElem? (i := 45) rfl))
    · exact (h _ (List.mem_of_getElem? (i := 46) rfl))
    · exact (h _ (List.mem_of_getElem? (i := 47) rfl)))
theorem st_s1 {s : State} {b : Nat} (h : FA s b) : ∃ q, StrAt s b 1 q :=
  st_one (by decide) (h _ (List.mem_of_getElem? (i := 48) rfl)) (h _ (List.mem_of_getElem? (i := 49) rfl)) (h _ (List.mem_of_getElem? (i := 50) rfl)) (h _ (List.mem_of_getElem? (i := 51) rfl)) (fun j hj => by
    have hj : j < 3 := hj
    rcases (by omega : j = 0 ∨ j = 1 ∨ j = 2) with rfl | rfl | rfl
    · exact (h _ (List.mem_of_getElem? (i := 52) rfl))
    · exact (h _ (List.mem_of_getElem? (i := 53) rfl))
    · exact (h _ (List.mem_of_getElem? (i := 54) rfl)))
theorem st_s2 {s : State} {b : Nat} (h : FA s b) : ∃ q, StrAt s b 2 q :=
  st_one (by decide) (h _ (List.mem_of_getElem? (i := 55) rfl)) (h _ (List.mem_of_getElem? (i := 56) rfl)) (h _ (List.mem_of_getElem? (i := 57) rfl)) (h _ (List.mem_of_getElem? (i := 58) rfl)) (fun j hj => by
    have hj : j < 6 := hj
    rcases (by omega : j = 0 ∨ j = 1 ∨ j = 2 ∨ j = 3 ∨ j = 4 ∨ j = 5) with rfl | rfl | rfl | rfl | rfl | rfl
    · exact (h _ (List.mem_of_getElem? (i := 59) rfl))
    · exact (h _ (List.mem_of_getElem? (i := 60) rfl))
    · exact (h _ (List.mem_of_getElem? (i := 61) rfl))
    · exact (h _ (List.mem_of_getElem? (i := 62) rfl))
    · exact (h _ (List.mem_of_getElem? (i := 63) rfl))
    · exact (h _ (List.mem_of_getElem? (i := 64) rfl)))
theorem st_s3 {s : State} {b : Nat} (h : FA s b) : ∃ q, StrAt s b 3 q :=
  st_one (by decide) (h _ (List.mem_of_getElem? (i := 65) rfl)) (h _ (List.mem_of_getElem? (i := 66) rfl)) (h _ (List.mem_of_getElem? (i := 67) rfl)) (h _ (List.mem_of_getElem? (i := 68) rfl)) (fun j hj => by
    have hj : j < 3 := hj
    rcases (by omega : j = 0 ∨ j = 1 ∨ j = 2) with rfl | rfl | rfl
    · exact (h _ (List.mem_of_getElem? (i := 69) rfl))
    · exact (h _ (List.mem_of_getElem? (i := 70) rfl))
    · exact (h _ (List.mem_of_getElem? (i := 71) rfl)))
theorem st_s4 {s : State} {b : Nat} (h : FA s b) : ∃ q, StrAt s b 4 q :=
  st_one (by decide) (h _ (List.mem_of_getElem? (i := 72) rfl)) (h _ (List.mem_of_getElem? (i := 73) rfl)) (h _ (List.mem_of_getElem? (i := 74) rfl)) (h _ (List.mem_of_getElem? (i := 75) rfl)) (fun j hj => by
    have hj : j < 5 := hj
    rcases (by omega : j = 0 ∨ j = 1 ∨ j = 2 ∨ j = 3 ∨ j = 4) with rfl | rfl | rfl | rfl | rfl
    · exact (h _ (List.mem_of_getElem? (i := 76) rfl))
    · exact (h _ (List.mem_of_getElem? (i := 77) rfl))
    · exact (h _ (List.mem_of_getElem? (i := 78) rfl))
    · exact (h _ (List.mem_of_getElem? (i := 79) rfl))
    · exact (h _ (List.mem_of_getElem? (i := 80) rfl)))
theorem st_s5 {s : State} {b : Nat} (h : FA s b) : ∃ q, StrAt s b 5 q :=
  st_one (by decide) (h _ (List.mem_of_getElem? (i := 81) rfl)) (h _ (List.mem_of_getElem? (i := 82) rfl)) (h _ (List.mem_of_getElem? (i := 83) rfl)) (h _ (List.mem_of_getElem? (i := 84) rfl)) (fun j hj => by
    have hj : j < 5 := hj
    rcases (by omega : j = 0 ∨ j = 1 ∨ j = 2 ∨ j = 3 ∨ j = 4) with rfl | rfl | rfl | rfl | rfl
    · exact (h _ (List.mem_of_getElem? (i := 85) rfl))
    · exact (h _ (List.mem_of_getElem? (i := 86) rfl))
    · exact (h _ (List.mem_of_getElem? (i := 87) rfl))
    · exact (h _ (List.mem_of_getElem? (i := 88) rfl))
    · exact (h _ (List.mem_of_getElem? (i := 89) rfl)))
theorem st_s6 {s : State} {b : Nat} (h : FA s b) : ∃ q, StrAt s b 6 q :=
  st_one (by decide) (h _ (List.mem_of_getElem? (i := 90) rfl)) (h _ (List.mem_of_getElem? (i := 91) rfl)) (h _ (List.mem_of_getElem? (i := 92) rfl)) (h _ (List.mem_of_getElem? (i := 93) rfl)) (fun j hj => by
    have hj : j < 5 := hj
    rcases (by omega : j = 0 ∨ j = 1 ∨ j = 2 ∨ j = 3 ∨ j = 4) with rfl | rfl | rfl | rfl | rfl
    · exact (h _ (List.mem_of_getElem? (i := 94) rfl))
    · exact (h _ (List.mem_of_getElem? (i := 95) rfl))
    · exact (h _ (List.mem_of_getElem? (i := 96) rfl))
    · exact (h _ (List.mem_of_getElem? (i := 97) rfl))
    · exact (h _ (List.mem_of_getElem? (i := 98) rfl)))
theorem st_s7 {s : State} {b : Nat} (h : FA s b) : ∃ q, StrAt s b 7 q :=
  st_one (by decide) (h _ (List.mem_of_getElem? (i := 99) rfl)) (h _ (List.mem_of_getElem? (i := 100) rfl)) (h _ (List.mem_of_getElem? (i := 101) rfl)) (h _ (List.mem_of_getElem? (i := 102) rfl)) (fun j hj => by
    have hj : j < 6 := hj
    rcases (by omega : j = 0 ∨ j = 1 ∨ j = 2 ∨ j = 3 ∨ j = 4 ∨ j = 5) with rfl | rfl | rfl | rfl | rfl | rfl
    · exact (h _ (List.mem_of_getElem? (i := 103) rfl))
    · exact (h _ (List.mem_of_getElem? (i := 104) rfl))
    · exact (h _ (List.mem_of_getElem? (i := 105) rfl))
    · exact (h _ (List.mem_of_getElem? (i := 106) rfl))
    · exact (h _ (List.mem_of_getElem? (i := 107) rfl))
    · exact (h _ (List.mem_of_getElem? (i := 108) rfl)))
theorem st_s8 {s : State} {b : Nat} (h : FA s b) : ∃ q, StrAt s b 8 q :=
  st_one (by decide) (h _ (List.mem_of_getElem? (i := 109) rfl)) (h _ (List.mem_of_getElem? (i := 110) rfl)) (h _ (List.mem_of_getElem? (i := 111) rfl)) (h _ (List.mem_of_getElem? (i := 112) rfl)) (fun j hj => by
    have hj : j < 4 := hj
    rcases (by omega : j = 0 ∨ j = 1 ∨ j = 2 ∨ j = 3) with rfl | rfl | rfl | rfl
    · exact (h _ (List.mem_of_getElem? (i := 113) rfl))
    · exact (h _ (List.mem_of_getElem? (i := 114) rfl))
    · exact (h _ (List.mem_of_getElem? (i := 115) rfl))
    · exact (h _ (List.mem_of_getElem? (i := 116) rfl)))
theorem st_s9 {s : State} {b : Nat} (h : FA s b) : ∃ q, StrAt s b 9 q :=
  st_one (by decide) (h _ (List.mem_of_getElem? (i := 117) rfl)) (h _ (List.mem_of_getElem? (i := 118) rfl)) (h _ (List.mem_of_getElem? (i := 119) rfl)) (h _ (List.mem_of_getElem? (i := 120) rfl)) (fun j hj => by
    have hj : j < 4 := hj
    rcases (by omega : j = 0 ∨ j = 1 ∨ j = 2 ∨ j = 3) with rfl | rfl | rfl | rfl
    · exact (h _ (List.mem_of_getElem? (i := 121) rfl))
    · exact (h _ (List.mem_of_getElem? (i := 122) rfl))
    · exact (h _ (List.mem_of_getElem? (i := 123) rfl))
    · exact (h _ (List.mem_of_getElem? (i := 124) rfl)))
theorem st_s10 {s : State} {b : Nat} (h : FA s b) : ∃ q, StrAt s b 10 q :=
  st_one (by decide) (h _ (List.mem_of_getElem? (i := 125) rfl)) (h _ (List.mem_of_getElem? (i := 126) rfl)) (h _ (List.mem_of_getElem? (i := 127) rfl)) (h _ (List.mem_of_getElem? (i := 128) rfl)) (fun j hj => by
    have hj : j < 4 := hj
    rcases (by omega : j = 0 ∨ j = 1 ∨ j = 2 ∨ j = 3) with rfl | rfl | rfl | rfl
    · exact (h _ (List.mem_of_getElem? (i := 129) rfl))
    · exact (h _ (List.mem_of_getElem? (i := 130) rfl))
    · exact (h _ (List.mem_of_getElem? (i := 131) rfl))
    · exact (h _ (List.mem_of_getElem? (i := 132) rfl)))
theorem st_s11 {s : State} {b : Nat} (h : FA s b) : ∃ q, StrAt s b 11 q :=
  st_one (by decide) (h _ (List.mem_of_getElem? (i := 133) rfl)) (h _ (List.mem_of_getElem? (i := 134) rfl)) (h _ (List.mem_of_getElem? (i := 135) rfl)) (h _ (List.mem_of_getElem? (i := 136) rfl)) (fun j hj => by
    have hj : j < 5 := hj
    rcases (by omega : j = 0 ∨ j = 1 ∨ j = 2 ∨ j = 3 ∨ j = 4) with rfl | rfl | rfl | rfl | rfl
    · exact (h _ (List.mem_of_getElem? (i := 137) rfl))
    · exact (h _ (List.mem_of_getElem? (i := 138) rfl))
    · exact (h _ (List.mem_of_getElem? (i := 139) rfl))
    · exact (h _ (List.mem_of_getElem? (i := 140) rfl))
    · exact (h _ (List.mem_of_getElem? (i := 141) rfl)))
theorem st_s12 {s : State} {b : Nat} (h : FA s b) : ∃ q, StrAt s b 12 q :=
  st_one (by decide) (h _ (List.mem_of_getElem? (i := 142) rfl)) (h _ (List.mem_of_getElem? (i := 143) rfl)) (h _ (List.mem_of_getElem? (i := 144) rfl)) (h _ (List.mem_of_getElem? (i := 145) rfl)) (fun j hj => by
    have hj : j < 6 := hj
    rcases (by omega : j = 0 ∨ j = 1 ∨ j = 2 ∨ j = 3 ∨ j = 4 ∨ j = 5) with rfl | rfl | rfl | rfl | rfl | rfl
    · exact (h _ (List.mem_of_getElem? (i := 146) rfl))
    · exact (h _ (List.mem_of_getElem? (i := 147) rfl))
    · exact (h _ (List.mem_of_getElem? (i := 148) rfl))
    · exact (h _ (List.mem_of_getElem? (i := 149) rfl))
    · exact (h _ (List.mem_of_getElem? (i := 150) rfl))
    · exact (h _ (List.mem_of_getElem? (i := 151) rfl)))
theorem st_s13 {s : State} {b : Nat} (h : FA s b) : ∃ q, StrAt s b 13 q :=
  st_one (by decide) (h _ (List.mem_of_getElem? (i := 152) rfl)) (h _ (List.mem_of_getElem? (i := 153) rfl)) (h _ (List.mem_of_getElem? (i := 154) rfl)) (h _ (List.mem_of_getElem? (i := 155) rfl)) (fun j hj => by
    have hj : j < 5 := hj
    rcases (by omega : j = 0 ∨ j = 1 ∨ j = 2 ∨ j = 3 ∨ j = 4) with rfl | rfl | rfl | rfl | rfl
    · exact (h _ (List.mem_of_getElem? (i := 156) rfl))
    · exact (h _ (List.mem_of_getElem? (i := 157) rfl))
    · exact (h _ (List.mem_of_getElem? (i := 158) rfl))
    · exact (h _ (List.mem_of_getElem? (i := 159) rfl))
    · exact (h _ (List.mem_of_getElem? (i := 160) rfl)))
theorem st_s14 {s : State} {b : Nat} (h : FA s b) : ∃ q, StrAt s b 14 q :=
  st_one (by decide) (h _ (List.mem_of_getElem? (i := 161) rfl)) (h _ (List.mem_of_getElem? (i := 162) rfl)) (h _ (List.mem_of_getElem? (i := 163) rfl)) (h _ (List.mem_of_getElem? (i := 164) rfl)) (fun j hj => by
    have hj : j < 2 := hj
    rcases (by omega : j = 0 ∨ j = 1) with rfl | rfl
    · exact (h _ (List.mem_of_getElem? (i := 165) rfl))
    · exact (h _ (List.mem_of_getElem? (i := 166) rfl)))
theorem st_s15 {s : State} {b : Nat} (h : FA s b) : ∃ q, StrAt s b 15 q :=
  st_one (by decide) (h _ (List.mem_of_getElem? (i := 167) rfl)) (h _ (List.mem_of_getElem? (i := 168) rfl)) (h _ (List.mem_of_getElem? (i := 169) rfl)) (h _ (List.mem_of_getElem? (i := 170) rfl)) (fun j hj => by
    have hj : j < 5 := hj
    rcases (by omega : j = 0 ∨ j = 1 ∨ j = 2 ∨ j = 3 ∨ j = 4) with rfl | rfl | rfl | rfl | rfl
    · exact (h _ (List.mem_of_getElem? (i := 171) rfl))
    · exact (h _ (List.mem_of_getElem? (i := 172) rfl))
    · exact (h _ (List.mem_of_getElem? (i := 173) rfl))
    · exact (h _ (List.mem_of_getElem? (i := 174) rfl))
    · exact (h _ (List.mem_of_getElem? (i := 175) rfl)))
theorem st_s16 {s : State} {b : Nat} (h : FA s b) : ∃ q, StrAt s b 16 q :=
  st_one (by decide) (h _ (List.mem_of_getElem? (i := 176) rfl)) (h _ (List.mem_of_getElem? (i := 177) rfl)) (h _ (List.mem_of_getElem? (i := 178) rfl)) (h _ (List.mem_of_getElem? (i := 179) rfl)) (fun j hj => by
    have hj : j < 6 := hj
    rcases (by omega : j = 0 ∨ j = 1 ∨ j = 2 ∨ j = 3 ∨ j = 4 ∨ j = 5) with rfl | rfl | rfl | rfl | rfl | rfl
    · exact (h _ (List.mem_of_getElem? (i := 180) rfl))
    · exact (h _ (List.mem_of_getElem? (i := 181) rfl))
    · exact (h _ (List.mem_of_getElem? (i := 182) rfl))
    · exact (h _ (List.mem_of_getElem? (i := 183) rfl))
    · exact (h _ (List.mem_of_getElem? (i := 184) rfl))
    · exact (h _ (List.mem_of_getElem? (i := 185) rfl)))
theorem st_s17 {s : State} {b : Nat} (h : FA s b) : ∃ q, StrAt s b 17 q :=
  st_one (by decide) (h _ (List.mem_of_getElem? (i := 186) rfl)) (h _ (List.mem_of_getElem? (i := 187) rfl)) (h _ (List.mem_of_getElem? (i := 188) rfl)) (h _ (List.mem_of_getElem? (i := 189) rfl)) (fun j hj => absurd hj (Nat.not_lt_zero j))
theorem st_str {s : State} {b : Nat} (h : FA s b) : ∃ ad : Nat → Nat × Nat, ∀ i, i < 18 → StrAt s b i (ad i) := by
  obtain ⟨q0, e0⟩ := st_s0 h
  obtain ⟨q1, e1⟩ := st_s1 h
  obtain ⟨q2, e2⟩ := st_s2 h
  obtain ⟨q3, e3⟩ := st_s3 h
  obtain ⟨q4, e4⟩ := st_s4 h
  obtain ⟨q5, e5⟩ := st_s5 h
  obtain ⟨q6, e6⟩ := st_s6 h
  obtain ⟨q7, e7⟩ := st_s7 h
  obtain ⟨q8, e8⟩ := st_s8 h
  obtain ⟨q9, e9⟩ := st_s9 h
  obtain ⟨q10, e10⟩ := st_s10 h
  obtain ⟨q11, e11⟩ := st_s11 h
  obtain ⟨q12, e12⟩ := st_s12 h
  obtain ⟨q13, e13⟩ := st_s13 h
  obtain ⟨q14, e14⟩ := st_s14 h
  obtain ⟨q15, e15⟩ := st_s15 h
  obtain ⟨q16, e16⟩ := st_s16 h
  obtain ⟨q17, e17⟩ := st_s17 h
  refine ⟨fun i => match i with | 0 => q0 | 1 => q1 | 2 => q2 | 3 => q3 | 4 => q4 | 5 => q5 | 6 => q6 | 7 => q7 | 8 => q8 | 9 => q9 | 10 => q10 | 11 => q11 | 12 => q12 | 13 => q13 | 14 => q14 | 15 => q15 | 16 => q16 | _ => q17, fun i hi => ?_⟩
  rcases (by omega : i = 0 ∨ i = 1 ∨ i = 2 ∨ i = 3 ∨ i = 4 ∨ i = 5 ∨ i = 6 ∨ i = 7 ∨ i = 8 ∨ i = 9 ∨ i = 10 ∨ i = 11 ∨ i = 12 ∨ i = 13 ∨ i = 14 ∨ i = 15 ∨ i = 16 ∨ i = 17) with rfl | rfl | rfl | rfl | rfl | rfl | rfl | rfl | rfl | rfl | rfl | rfl | rfl | rfl | rfl | rfl | rfl | rfl
  · exact e0
  · exact e1
  · exact e2
  · exact e3
  · exact e4
  · exact e5
  · exact e6
  · exact e7
  · exact e8
  · exact e9
  · exact e10
  · exact e11
  · exact e12
  · exact e13
  · exact e14
  · exact e15
  · exact e16
  · exact e17
theorem st_t0 {s : State} {b : Nat} (g : TA s b) (h : FA s b) : ∃ t : Nat, va_Z "NavyOfCats" "ROWS_ON" "[I" (.ref t) (A0 s) s s.heap ∧ va_T .int t 8 (fun j => .int (tS 0 j)) (A0 s) s s.heap := by
  obtain ⟨t, ht, hT⟩ := va_Tof (tm := .static "NavyOfCats" "ROWS_ON" "[I") (N := 8) (f := fun j => .int (tS 0 j)) (A := A0 s) (by decide) (h _ (List.mem_of_getElem? (i := 5) rfl)) (va_eqt (h _ (List.mem_of_getElem? (i := 6) rfl))) (fun j hj => by
    rcases (by omega : j = 0 ∨ j = 1 ∨ j = 2 ∨ j = 3 ∨ j = 4 ∨ j = 5 ∨ j = 6 ∨ j = 7) with rfl | rfl | rfl | rfl | rfl | rfl | rfl | rfl
    · exact va_eqt (z := -1) (h _ (List.mem_of_getElem? (i := 7) rfl))
    · exact va_eqt (z := -1) (h _ (List.mem_of_getElem? (i := 8) rfl))
    · exact va_eqt (z := 0) (h _ (List.mem_of_getElem? (i := 9) rfl))
    · exact va_eqt (z := 1) (h _ (List.mem_of_getElem? (i := 10) rfl))
    · exact va_eqt (z := 1) (h _ (List.mem_of_getElem? (i := 11) rfl))
    · exact va_eqt (z := 1) (h _ (List.mem_of_getElem? (i := 12) rfl))
    · exact va_eqt (z := 0) (h _ (List.mem_of_getElem? (i := 13) rfl))
    · exact va_eqt (z := -1) (h _ (List.mem_of_getElem? (i := 14) rfl))) (A0_n s)
  exact ⟨t, va_Zof (g _ (ltb_2 (List.mem_of_getElem? (i := 37) rfl))) (g _ (TT_in _ tw1_1).1) ht (A0_n s), hT⟩
theorem st_t1 {s : State} {b : Nat} (g : TA s b) (h : FA s b) : ∃ t : Nat, va_Z "NavyOfCats" "COLUMNS_ON" "[I" (.ref t) (A0 s) s s.heap ∧ va_T .int t 8 (fun j => .int (tS 1 j)) (A0 s) s s.heap := by
  obtain ⟨t, ht, hT⟩ := va_Tof (tm := .static "NavyOfCats" "COLUMNS_ON" "[I") (N := 8) (f := fun j => .int (tS 1 j)) (A := A0 s) (by decide) (h _ (List.mem_of_getElem? (i := 16) rfl)) (va_eqt (h _ (List.mem_of_getElem? (i := 17) rfl))) (fun j hj => by
    rcases (by omega : j = 0 ∨ j = 1 ∨ j = 2 ∨ j = 3 ∨ j = 4 ∨ j = 5 ∨ j = 6 ∨ j = 7) with rfl | rfl | rfl | rfl | rfl | rfl | rfl | rfl
    · exact va_eqt (z := 0) (h _ (List.mem_of_getElem? (i := 18) rfl))
    · exact va_eqt (z := 1) (h _ (List.mem_of_getElem? (i := 19) rfl))
    · exact va_eqt (z := 1) (h _ (List.mem_of_getElem? (i := 20) rfl))
    · exact va_eqt (z := 1) (h _ (List.mem_of_getElem? (i := 21) rfl))
    · exact va_eqt (z := 0) (h _ (List.mem_of_getElem? (i := 22) rfl))
    · exact va_eqt (z := -1) (h _ (List.mem_of_getElem? (i := 23) rfl))
    · exact va_eqt (z := -1) (h _ (List.mem_of_getElem? (i := 24) rfl))
    · exact va_eqt (z := -1) (h _ (List.mem_of_getElem? (i := 25) rfl))) (A0_n s)
  exact ⟨t, va_Zof (g _ (ltb_2 (List.mem_of_getElem? (i := 39) rfl))) (g _ (TT_in _ tw1_1).1) ht (A0_n s), hT⟩
theorem st_t2 {s : State} {b : Nat} (g : TA s b) (h : FA s b) : ∃ t : Nat, va_Z "NavyOfCats" "KIND_ABOVE" "[I" (.ref t) (A0 s) s s.heap ∧ va_T .int t 7 (fun j => .int (tS 2 j)) (A0 s) s s.heap := by
  obtain ⟨t, ht, hT⟩ := va_Tof (tm := .static "NavyOfCats" "KIND_ABOVE" "[I") (N := 7) (f := fun j => .int (tS 2 j)) (A := A0 s) (by decide) (h _ (List.mem_of_getElem? (i := 32) rfl)) (va_eqt (h _ (List.mem_of_getElem? (i := 33) rfl))) (fun j hj => by
    rcases (by omega : j = 0 ∨ j = 1 ∨ j = 2 ∨ j = 3 ∨ j = 4 ∨ j = 5 ∨ j = 6) with rfl | rfl | rfl | rfl | rfl | rfl | rfl
    · exact va_eqt (z := -1) (h _ (List.mem_of_getElem? (i := 34) rfl))
    · exact va_eqt (z := 0) (h _ (List.mem_of_getElem? (i := 35) rfl))
    · exact va_eqt (z := 0) (h _ (List.mem_of_getElem? (i := 36) rfl))
    · exact va_eqt (z := 1) (h _ (List.mem_of_getElem? (i := 37) rfl))
    · exact va_eqt (z := 3) (h _ (List.mem_of_getElem? (i := 38) rfl))
    · exact va_eqt (z := 0) (h _ (List.mem_of_getElem? (i := 39) rfl))
    · exact va_eqt (z := 2) (h _ (List.mem_of_getElem? (i := 40) rfl))) (A0_n s)
  exact ⟨t, va_Zof (g _ (ltb_3 (List.mem_of_getElem? (i := 239) rfl))) (g _ (TT_in _ tw1_1).1) ht (A0_n s), hT⟩
theorem st_c {s : State} {b : Nat} (g : TA s b) (h : FA s b) : va_Z "java/lang/String" "COMPACT_STRINGS" "Z" (.int 1) (A0 s) s s.heap ∧ va_Zq "jdk/internal/util/Preconditions" "SIOOBE_FORMATTER" "Ljava/util/function/BiFunction;" (A0 s) s s.heap := ⟨va_Zof (g _ (ltb_3 (List.mem_of_getElem? (i := 130) rfl))) (g _ (ltb_1 (List.mem_of_getElem? (i := 11) rfl))) (va_eqt (h _ (List.mem_of_getElem? (i := 26) rfl))) (A0_n s), va_Zqof (g _ (ltb_3 (List.mem_of_getElem? (i := 146) rfl))) (g _ (ltb_1 (List.mem_of_getElem? (i := 13) rfl))) (h _ (List.mem_of_getElem? (i := 27) rfl)) (A0_n s)⟩
theorem st_n {s : State} {b : Nat} (g : TA s b) : NW s := ⟨va_Nw.of rfl (g _ (ltb_2 (List.mem_of_getElem? (i := 11) rfl))), va_Nw.of rfl (g _ (ltb_2 (List.mem_of_getElem? (i := 25) rfl))), va_Nw.of rfl (g _ (ltb_2 (List.mem_of_getElem? (i := 30) rfl))), va_Nw.of rfl (g _ (ltb_2 (List.mem_of_getElem? (i := 33) rfl))), va_Nw.of rfl (g _ (ltb_3 (List.mem_of_getElem? (i := 186) rfl))), va_Nw.of rfl (g _ (ltb_3 (List.mem_of_getElem? (i := 212) rfl))), va_Nw.of rfl (g _ (ltb_3 (List.mem_of_getElem? (i := 217) rfl))), va_Nw.of rfl (g _ (ltb_3 (List.mem_of_getElem? (i := 92) rfl)))⟩
theorem st_e4 {s : State} {b : Nat} (g : TA s b) : E4 s := ⟨va_Nw.of rfl (g _ (ltb_1 (List.mem_of_getElem? (i := 101) rfl))), va_Nw.of rfl (g _ (ltb_1 (List.mem_of_getElem? (i := 117) rfl))), va_Nw.of rfl (g _ (ltb_1 (List.mem_of_getElem? (i := 149) rfl))), va_AO.of (g _ (ltb_1 (List.mem_of_getElem? (i := 147) rfl)))⟩
theorem st_ao {s : State} {b : Nat} (g : TA s b) : va_AO "java/lang/String" s := va_AO.of (g _ (ltb_4 (List.mem_of_getElem? (i := 75) rfl)))
theorem st_rw {s : State} {b : Nat} {ad : Nat → Nat × Nat} (g : TA s b) (h : FA s b) (e : ∀ i, i < 18 → StrAt s b i (ad i)) : ∀ q ∈ strL, vk_R q.1 q.2.1 q.2.2.1 (ad q.2.2.2).1 s := by
  unfold strL
  refine List.forall_mem_cons.mpr ⟨vk_R.of (g _ (ltb_3 (List.mem_of_getElem? (i := 99) rfl))) (e 0 (by decide)).1, ?_⟩
  refine List.forall_mem_cons.mpr ⟨vk_R.of (g _ (ltb_3 (List.mem_of_getElem? (i := 100) rfl))) (e 1 (by decide)).1, ?_⟩
  refine List.forall_mem_cons.mpr ⟨vk_R.of (g _ (ltb_3 (List.mem_of_getElem? (i := 101) rfl))) (e 2 (by decide)).1, ?_⟩
  refine List.forall_mem_cons.mpr ⟨vk_R.of (g _ (ltb_3 (List.mem_of_getElem? (i := 102) rfl))) (e 3 (by decide)).1, ?_⟩
  refine List.forall_mem_cons.mpr ⟨vk_R.of (g _ (ltb_3 (List.mem_of_getElem? (i := 103) rfl))) (e 4 (by decide)).1, ?_⟩
  refine List.forall_mem_cons.mpr ⟨vk_R.of (g _ (ltb_3 (List.mem_of_getElem? (i := 104) rfl))) (e 5 (by decide)).1, ?_⟩
  refine List.forall_mem_cons.mpr ⟨vk_R.of (g _ (ltb_3 (List.mem_of_getElem? (i := 105) rfl))) (e 6 (by decide)).1, ?_⟩
  refine List.forall_mem_cons.mpr ⟨vk_R.of (g _ (ltb_3 (List.mem_of_getElem? (i := 106) rfl))) (e 7 (by decide)).1, ?_⟩
  refine List.forall_mem_cons.mpr ⟨vk_R.of (g _ (ltb_3 (List.mem_of_getElem? (i := 107) rfl))) (e 8 (by decide)).1, ?_⟩
  refine List.forall_mem_cons.mpr ⟨vk_R.of (g _ (ltb_3 (List.mem_of_getElem? (i := 108) rfl))) (e 9 (by decide)).1, ?_⟩
  refine List.forall_mem_cons.mpr ⟨vk_R.of (g _ (ltb_3 (List.mem_of_getElem? (i := 109) rfl))) (e 10 (by decide)).1, ?_⟩
  refine List.forall_mem_cons.mpr ⟨vk_R.of (g _ (ltb_3 (List.mem_of_getElem? (i := 110) rfl))) (e 11 (by decide)).1, ?_⟩
  refine List.forall_mem_cons.mpr ⟨vk_R.of (g _ (ltb_3 (List.mem_of_getElem? (i := 111) rfl))) (e 12 (by decide)).1, ?_⟩
  refine List.forall_mem_cons.mpr ⟨vk_R.of (g _ (ltb_3 (List.mem_of_getElem? (i := 112) rfl))) (e 13 (by decide)).1, ?_⟩
  refine List.forall_mem_cons.mpr ⟨vk_R.of (g _ (ltb_3 (List.mem_of_getElem? (i := 113) rfl))) (e 14 (by decide)).1, ?_⟩
  refine List.forall_mem_cons.mpr ⟨vk_R.of (g _ (ltb_3 (List.mem_of_getElem? (i := 114) rfl))) (e 15 (by decide)).1, ?_⟩
  refine List.forall_mem_cons.mpr ⟨vk_R.of (g _ (ltb_3 (List.mem_of_getElem? (i := 115) rfl))) (e 16 (by decide)).1, ?_⟩
  refine List.forall_mem_cons.mpr ⟨vk_R.of (g _ (ltb_3 (List.mem_of_getElem? (i := 116) rfl))) (e 17 (by decide)).1, ?_⟩
  refine List.forall_mem_cons.mpr ⟨vk_R.of (g _ (ltb_4 (List.mem_of_getElem? (i := 76) rfl))) (va_eqR (h _ (List.mem_of_getElem? (i := 197) rfl)) (e 0 (by decide)).1), ?_⟩
  refine List.forall_mem_cons.mpr ⟨vk_R.of (g _ (ltb_4 (List.mem_of_getElem? (i := 77) rfl))) (va_eqR (h _ (List.mem_of_getElem? (i := 205) rfl)) (e 1 (by decide)).1), ?_⟩
  refine List.forall_mem_cons.mpr ⟨vk_R.of (g _ (ltb_4 (List.mem_of_getElem? (i := 78) rfl))) (va_eqR (h _ (List.mem_of_getElem? (i := 216) rfl)) (e 2 (by decide)).1), ?_⟩
  refine List.forall_mem_cons.mpr ⟨vk_R.of (g _ (ltb_4 (List.mem_of_getElem? (i := 79) rfl))) (va_eqR (h _ (List.mem_of_getElem? (i := 224) rfl)) (e 3 (by decide)).1), ?_⟩
  refine List.forall_mem_cons.mpr ⟨vk_R.of (g _ (ltb_4 (List.mem_of_getElem? (i := 80) rfl))) (va_eqR (h _ (List.mem_of_getElem? (i := 234) rfl)) (e 4 (by decide)).1), ?_⟩
  refine List.forall_mem_cons.mpr ⟨vk_R.of (g _ (ltb_4 (List.mem_of_getElem? (i := 81) rfl))) (va_eqR (h _ (List.mem_of_getElem? (i := 244) rfl)) (e 5 (by decide)).1), ?_⟩
  refine List.forall_mem_cons.mpr ⟨vk_R.of (g _ (ltb_4 (List.mem_of_getElem? (i := 82) rfl))) (va_eqR (h _ (List.mem_of_getElem? (i := 254) rfl)) (e 6 (by decide)).1), ?_⟩
  refine List.forall_mem_cons.mpr ⟨vk_R.of (g _ (ltb_6 (List.mem_of_getElem? (i := 88) rfl))) (va_eqR (h _ (List.mem_of_getElem? (i := 286) rfl)) (e 7 (by decide)).1), ?_⟩
  refine List.forall_mem_cons.mpr ⟨vk_R.of (g _ (ltb_6 (List.mem_of_getElem? (i := 89) rfl))) (va_eqR (h _ (List.mem_of_getElem? (i := 295) rfl)) (e 8 (by decide)).1), ?_⟩
  refine List.forall_mem_cons.mpr ⟨vk_R.of (g _ (ltb_6 (List.mem_of_getElem? (i := 97) rfl))) (va_eqR (h _ (List.mem_of_getElem? (i := 332) rfl)) (e 9 (by decide)).1), ?_⟩
  refine List.forall_mem_cons.mpr ⟨vk_R.of (g _ (ltb_6 (List.mem_of_getElem? (i := 98) rfl))) (va_eqR (h _ (List.mem_of_getElem? (i := 341) rfl)) (e 10 (by decide)).1), ?_⟩
  refine List.forall_mem_cons.mpr ⟨vk_R.of (g _ (ltb_6 (List.mem_of_getElem? (i := 99) rfl))) (va_eqR (h _ (List.mem_of_getElem? (i := 351) rfl)) (e 11 (by decide)).1), ?_⟩
  refine List.forall_mem_cons.mpr ⟨vk_R.of (g _ (ltb_6 (List.mem_of_getElem? (i := 66) rfl))) (va_eqR (h _ (List.mem_of_getElem? (i := 265) rfl)) (e 12 (by decide)).1), ?_⟩
  refine List.forall_mem_cons.mpr ⟨vk_R.of (g _ (ltb_6 (List.mem_of_getElem? (i := 79) rfl))) (va_eqR (h _ (List.mem_of_getElem? (i := 275) rfl)) (e 13 (by decide)).1), ?_⟩
  refine List.forall_mem_cons.mpr ⟨vk_R.of (g _ (ltb_6 (List.mem_of_getElem? (i := 94) rfl))) (va_eqR (h _ (List.mem_of_getElem? (i := 302) rfl)) (e 14 (by decide)).1), ?_⟩
  refine List.forall_mem_cons.mpr ⟨vk_R.of (g _ (ltb_6 (List.mem_of_getElem? (i := 95) rfl))) (va_eqR (h _ (List.mem_of_getElem? (i := 312) rfl)) (e 15 (by decide)).1), ?_⟩
  refine List.forall_mem_cons.mpr ⟨vk_R.of (g _ (ltb_6 (List.mem_of_getElem? (i := 96) rfl))) (va_eqR (h _ (List.mem_of_getElem? (i := 323) rfl)) (e 16 (by decide)).1), ?_⟩
  exact fun _ z => absurd z List.not_mem_nil
