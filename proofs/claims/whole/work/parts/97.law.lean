def R_law : String := "NavyOfCatsLaw"
def lw_P (b : Addr) (xs : List Int32) (args : Array Value) (s : State) : Prop := args = #[.ref b] ∧ s.IntsAt b xs ∧ xs.length ≤ 3072 ∧ (Jvm.Cond.and given_1 narrow_1).before args s = true
def lw_Q (_ : Array Value) (s : State) (o : Outcome) (t : State) : Prop := o = .returned (some (.int 1)) ∧ Framed s o t [] 600000 7302250
def lw_Z (below : List Frame) (a : Array Value) (s : State) : State → Prop := fun t => ∃ o, t.status = .running ∧ Ended t below o ∧ lw_Q a s o t
/-- the law's own end, with 1 on the stack, nothing written that was there before, its room as the claim has it -/
theorem lw_ret {p : Program} {l : Launch} {e : Env} {s : State} {m : MethodId} {below : List Frame} {meth : Method} {c : Code} {b : Nat} (hx : p.tables.exec = Jvm.exec) (hb : c.code = code) (hr : meth.sig.returnType = ret) (hlocks : meth.locks = false) {pc : Nat} {H : Heap} {ls : Array Slot} (hdg : decode code pc = .ok (.ireturn, 1)) : W p l e room_1 s m #[Value.ref b] below meth c H [] 600000 7302250 (lw_Z below #[Value.ref b] s) (F0 m pc ls [.int 1]) := by
  intro T hT X
  obtain ⟨fs, hret, hrun, hended, hW, hframe⟩ := X.leave (v := some (.int 1)) (hlocks := hlocks) (fun h => by rw [hr] at h; cases h)
  have hmeth' : T.vm.method? m = some meth := X.method'
  refine ⟨T.setFrames fs, ?_, .returned (some (.int 1)), hrun, hended, rfl, ⟨_, rfl⟩, hW, hframe⟩
  jvm_step X.here [X.here.top, hx, hb, hdg, hmeth', hr, ret, narrow_b1]
  (try refine ⟨rfl, ?_⟩); (try refine ⟨rfl, ?_⟩)
  first | (intro acts; rw [hret _ acts rfl rfl rfl]) | rw [hret _ _ rfl rfl rfl]
  exact Steps.refl _
/-- what holds at the law's entry: the machine, the code, the tables' words (any of lw_tbl by 'hts w (by decide +kernel)'), the script of L ints xs at the cell b, what the Statement gives of the start (any of its parts by flat_of_before) -/
def lw_At (p : Program) (s : State) (m : MethodId) (meth : Method) (c : Code) (b L : Nat) (xs : Nat → Int32) : Prop :=
  p.tables.exec = Jvm.exec ∧ c.code = code ∧ meth.sig.returnType = ret ∧ c.maxLocals = 4 ∧ s.vm.findClass R_law = some m.cls ∧ (∀ w ∈ lw_tbl, w.before #[Value.ref b] s = true) ∧ va_X b L xs s s.heap ∧ b < s.heap.size ∧ meth.locks = false ∧ (Jvm.Cond.and given_1 narrow_1).before #[Value.ref b] s = true
theorem l_run {p : Program} {l : Launch} {e : Env} {R : Room} {s : State} {m : MethodId} {args : Array Value} {below : List Frame} {meth : Method} {c : Code} {H : Heap} {locs : List Loc} {ck sk : Nat} {Q : State → Prop} {pc : Nat} {ls : Array Slot} {rest : List Value} {G : EN} {A : Nat → Prop} {μ : MM} {v : Option Value} {μ2 : MM} {st : List Value} {a : Array Value} (hr : va_Run p l e R s m args below meth c H locs ck sk 0 0 (F0 m pc ls st) rest (XQ G H.size v μ2 a) (AA G H.size)) (hX : XW G A s H locs μ)
    (kk : ∀ (H1 : Heap) (locs1 : List Loc), XW G A s H1 locs1 μ2 → W p l e R s m args below meth c H1 locs1 ck sk Q (F0 m (pc + 3) ls (v.toList ++ rest))) : W p l e R s m args below meth c H locs ck sk Q (F0 m pc ls st) := by
  intro T hT X
  obtain ⟨v0, st₀, t, T', L, h0, X', hL, e1, e2, ⟨hv, hp, hz, hk⟩, st1⟩ := hr T hT X
  cases hv
  rw [h0] at hz hk
  obtain ⟨t2, a1, b1⟩ := kk T'.heap (locs ++ L) ⟨by rw [e1]; exact hp, wA_D μ2 hX.2.1, ⟨Nat.le_trans hX.2.2.1.1 (by rw [e1]; exact hz), fun q h1 h2 => by rw [e1, hk q (Nat.lt_of_lt_of_le h1 hX.2.2.1.1) (fun z => h2 (hX.free q z))]; exact hX.2.2.1.2.1 q h1 h2, fun q hq => by
      rcases List.mem_append.mp hq with h | h
      · exact hX.2.2.1.2.2 q h
      · exact hX.free _ (hL q h)⟩, hX.2.2.2⟩ T' rfl X'
  exact ⟨t2, st1 t2 a1, b1⟩
theorem l_call {p : Program} {l : Launch} {e : Env} {R : Room} {s : State} {m : MethodId} {args : Array Value} {below : List Frame} {meth : Method} {c : Code} {H : Heap} {locs : List Loc} {ck sk : Nat} {Q : State → Prop} {cc : ByteArray} {nL : Nat} {own : String} {pc : Nat} {ls : Array Slot} {G : EN} {A : Nat → Prop} {μ : MM} (C : CallFix p m c cc nL s args TT own) (hX : XW G A s H locs μ) {k ci N i idx maxL fr2 lo2 : Nat} {T : u_T} {vv : (Nat → Int32) → Value} {Cn : String} {y : MethodName} {bytes : ByteArray} {ret : Option FieldType} {As st : List Value} {lv : List (Nat × Value)} {v : Option Value} {μ2 : MM} (F : FG G k ci i Cn T N vv) (hM : XM l G y bytes maxL ret fr2 lo2 (.ref (G.2.1 k) :: As) μ v μ2) (rest : List Value) (hst : st = As.reverse ++ .ref (G.2.1 k) :: rest) (hl : lv_has ls nL lv) (w1 : Cond.methodLink own idx y ∈ TT) (w2 : Cond.instanceMethod y ∈ TT) (w3 : Cond.selects Cn y y ∈ TT) (w4 : Cond.initialized Cn ∈ TT) (w5 : Cond.code y bytes maxL ret ∈ TT) (hyc : y.cls = Cn) (hdm : y.cls ≠ "java/lang/invoke/MethodHandle" ∧ y.cls ≠ "java/lang/invoke/VarHandle" ∧ (parseMethodDescriptor y.desc).map (fun d => d.parameters.length) = some As.length) (hR : fr2 + 1 ≤ R.frames ∧ 8 + (maxL + 11) + lo2 ≤ R.locals) (hro : (rest.map fun v => v.category).sum ≤ 8) (hd : decode cc pc = .ok (.invokevirtual idx, 3)) (hck : ck ≤ R.cells ∧ sk ≤ R.slots) (kk : ∀ (H1 : Heap) (locs1 : List Loc), XW G A s H1 locs1 μ2 → W p l e R s m args below meth c H1 locs1 ck sk Q (F0 m (pc + 3) ls (v.toList ++ rest))) : W p l e R s m args below meth c H locs ck sk Q (F0 m pc ls st) := by
  obtain ⟨h1, h2, h3, h4, h5, fl, h6⟩ := F
  exact l_run (va_runV (As := As) (rest := rest) C (hM H.size) (cwV As.length C.2.2.2.2 (gV w1 w2 w3 w4 w5) rfl rfl rfl ⟨hyc, hdm⟩ hR) ⟨XM.blind G μ _ _, va_recv (q0 := k) hX.2.2.2.1.1 hX.1 h2 ((wA_get G μ h1).trans (congrArg some (h6 (μ k)).1)), fun U hU hW => ⟨rfl, by rw [hU], hX.pre hU hW⟩⟩ rfl rfl hl.1 hst (lv_room hro) hd ⟨hck.1, hck.2⟩) hX kk
/-- the law's frame: its fixed parts -/
abbrev LX : Type := Program × Launch × Env × State × MethodId × List Frame × Method × Code × Nat × Nat × (Nat → Int32) × EN
def LW (Λ : LX) (H : Heap) (locs : List Loc) (pc : Nat) (ls : Array Slot) (st : List Value) : Prop := W Λ.1 Λ.2.1 Λ.2.2.1 room_1 Λ.2.2.2.1 Λ.2.2.2.2.1 #[Value.ref Λ.2.2.2.2.2.2.2.2.1] Λ.2.2.2.2.2.1 Λ.2.2.2.2.2.2.1 Λ.2.2.2.2.2.2.2.1 H locs 600000 7302250 (lw_Z Λ.2.2.2.2.2.1 #[Value.ref Λ.2.2.2.2.2.2.2.2.1] Λ.2.2.2.1) (F0 Λ.2.2.2.2.1 pc ls st)
/-- what holds all along -/
def LC (Λ : LX) : Prop := lw_At Λ.1 Λ.2.2.2.1 Λ.2.2.2.2.1 Λ.2.2.2.2.2.2.1 Λ.2.2.2.2.2.2.2.1 Λ.2.2.2.2.2.2.2.2.1 Λ.2.2.2.2.2.2.2.2.2.1 Λ.2.2.2.2.2.2.2.2.2.2.1 ∧ Λ.2.2.2.2.2.2.2.2.2.1 ≤ 3072
abbrev ΛG (Λ : LX) : EN := Λ.2.2.2.2.2.2.2.2.2.2.2
abbrev Λs (Λ : LX) : State := Λ.2.2.2.1
abbrev Λb (Λ : LX) : Nat := Λ.2.2.2.2.2.2.2.2.1
abbrev ΛL (Λ : LX) : Nat := Λ.2.2.2.2.2.2.2.2.2.1
abbrev Λx (Λ : LX) : Nat → Int32 := Λ.2.2.2.2.2.2.2.2.2.2.1
abbrev LSs (Λ : LX) (j : Nat) : List (Nat × Value) := [(3, .int (nI j)), (2, .ref ((ΛG Λ).2.1 37)), (1, .ref ((ΛG Λ).2.1 0)), (0, .ref (Λb Λ))]
theorem lc_fix {Λ : LX} (h : LC Λ) : CallFix Λ.1 Λ.2.2.2.2.1 Λ.2.2.2.2.2.2.2.1 cL_law 4 (Λs Λ) #[Value.ref (Λb Λ)] TT R_law := ⟨h.1.1, h.1.2.1, h.1.2.2.2.1, h.1.2.2.2.2.1, fun w hw => h.1.2.2.2.2.2.1 w (TT_in w hw).1⟩
