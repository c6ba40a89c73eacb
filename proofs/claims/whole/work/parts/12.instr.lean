/-! ===== instructions ===== -/
def irm (x y : Int32) : Int32 := x - x / y * y
def sl (x y : Int32) : Int32 := x <<< (y &&& 31)
def sr (x y : Int32) : Int32 := x >>> (y &&& 31)
def ur (x y : Int32) : Int32 := (x.toUInt32 >>> (y.toUInt32 &&& Int32.toUInt32 31)).toInt32
def lsl (x : Int64) (y : Int32) : Int64 := x <<< (y.toInt64 &&& 63)
def lsr (x : Int64) (y : Int32) : Int64 := x >>> (y.toInt64 &&& 63)
section XR
variable {Γ : Ctx} {H : Heap} {locs : List Loc} {pc : Nat} {ls : Array Slot} {rest : List Value} {cc : ByteArray} {nL : Nat} {own : String} {fr lo : Nat} {G : EN} {A : Nat → Prop} {μ : MM} {β : Type} {out : β}
theorem i_let {x : Int32} {f : Int32 → Option β} (h : lt_ x f = some out) (k : ∀ y : Int32, f y = some out → WX Γ H locs pc ls (.int y :: rest)) : WX Γ H locs pc ls (.int x :: rest) := k x h
theorem i_letl {x : Int64} {f : Int64 → Option β} (h : lt_ x f = some out) (k : ∀ y : Int64, f y = some out → WX Γ H locs pc ls (.long y :: rest)) : WX Γ H locs pc ls (.long x :: rest) := k x h
theorem i_iconst (C : Cx Γ cc nL own fr lo) {n : Int} {v : Int32} (hd : decode cc pc = .ok (.iconst n, 1)) (hv : Int32.ofInt n = v) (k : WX Γ H locs (pc + 1) ls (.int v :: rest)) : WX Γ H locs pc ls rest := lv_iconst C.1.1 C.1.2.1 hd hv k
theorem i_bipush (C : Cx Γ cc nL own fr lo) {n : Int} {v : Int32} (hd : decode cc pc = .ok (.bipush n, 2)) (hv : (Int8.ofInt n).toInt32 = v) (k : WX Γ H locs (pc + 2) ls (.int v :: rest)) : WX Γ H locs pc ls rest := lv_bipush C.1.1 C.1.2.1 hd hv k
theorem i_sipush (C : Cx Γ cc nL own fr lo) {n : Int} {v : Int32} (hd : decode cc pc = .ok (.sipush n, 3)) (hv : (Int16.ofInt n).toInt32 = v) (k : WX Γ H locs (pc + 3) ls (.int v :: rest)) : WX Γ H locs pc ls rest := lv_sipush C.1.1 C.1.2.1 hd hv k
theorem i_lconst (C : Cx Γ cc nL own fr lo) {n : Fin 2} {v : Int64} (hd : decode cc pc = .ok (.lconst n, 1)) (hv : Int64.ofNat (n : Nat) = v) (k : WX Γ H locs (pc + 1) ls (.long v :: rest)) : WX Γ H locs pc ls rest := lv_lconst C.1.1 C.1.2.1 hd hv k
theorem i_ldc (C : Cx Γ cc nL own fr lo) {index : Nat} {v : Int32} (hw : Cond.constant own index v ∈ TT) (hd : decode cc pc = .ok (.ldc index, 2)) (k : WX Γ H locs (pc + 2) ls (.int v :: rest)) : WX Γ H locs pc ls rest := lv_ldc C.1.1 C.1.2.1 C.1.2.2.2.1 (C.w hw) hd k
theorem i_ldcw (C : Cx Γ cc nL own fr lo) {index : Nat} {v : Int32} (hw : Cond.constant own index v ∈ TT) (hd : decode cc pc = .ok (.ldc_w index, 3)) (k : WX Γ H locs (pc + 3) ls (.int v :: rest)) : WX Γ H locs pc ls rest := lv_ldcw C.1.1 C.1.2.1 C.1.2.2.2.1 (C.w hw) hd k
theorem i_iload_n (C : Cx Γ cc nL own fr lo) {q : Fin 4} {i : Nat} {x : Int32} (hd : decode cc pc = .ok (.iload_n q, 1)) (hi : (q : Nat) = i) (hl : ls[i]? = some (.val (.int x))) (k : WX Γ H locs (pc + 1) ls (.int x :: rest)) : WX Γ H locs pc ls rest := lv_iload_n C.1.1 C.1.2.1 hd hi hl k
theorem i_iload (C : Cx Γ cc nL own fr lo) {i : Nat} {x : Int32} (hd : decode cc pc = .ok (.iload i, 2)) (hl : ls[i]? = some (.val (.int x))) (k : WX Γ H locs (pc + 2) ls (.int x :: rest)) : WX Γ H locs pc ls rest := lv_iload C.1.1 C.1.2.1 hd hl k
theorem i_lload_n (C : Cx Γ cc nL own fr lo) {q : Fin 4} {i : Nat} {x : Int64} (hd : decode cc pc = .ok (.lload_n q, 1)) (hi : (q : Nat) = i) (hl : ls[i]? = some (.val (.long x))) (k : WX Γ H locs (pc + 1) ls (.long x :: rest)) : WX Γ H locs pc ls rest := lv_lload_n C.1.1 C.1.2.1 hd hi hl k
theorem i_lload (C : Cx Γ cc nL own fr lo) {i : Nat} {x : Int64} (hd : decode cc pc = .ok (.lload i, 2)) (hl : ls[i]? = some (.val (.long x))) (k : WX Γ H locs (pc + 2) ls (.long x :: rest)) : WX Γ H locs pc ls rest := lv_lload C.1.1 C.1.2.1 hd hl k
theorem i_aload_n (C : Cx Γ cc nL own fr lo) {q : Fin 4} {i : Nat} {x : Nat} (hd : decode cc pc = .ok (.aload_n q, 1)) (hi : (q : Nat) = i) (hl : ls[i]? = some (.val (.ref x))) (k : WX Γ H locs (pc + 1) ls (.ref x :: rest)) : WX Γ H locs pc ls rest := lv_aload_n C.1.1 C.1.2.1 hd hi hl k
theorem i_aload (C : Cx Γ cc nL own fr lo) {i : Nat} {x : Nat} (hd : decode cc pc = .ok (.aload i, 2)) (hl : ls[i]? = some (.val (.ref x))) (k : WX Γ H locs (pc + 2) ls (.ref x :: rest)) : WX Γ H locs pc ls rest := lv_aload C.1.1 C.1.2.1 hd hl k
theorem i_istore_n (C : Cx Γ cc nL own fr lo) {q : Fin 4} {i : Nat} {x : Int32} {lv : List (Nat × Value)} (lv2 : List (Nat × Value)) (hd : decode cc pc = .ok (.istore_n q, 1)) (hi : (q : Nat) = i) (h : lv_has ls nL lv) (hn : i < nL) (hl : (i, Value.int x) :: lv.filter (fun q => !(q.1 == i) && !(q.1 + 1 == i && q.2.category == 2)) = lv2) (k : ∀ ls2 : Array Slot, lv_has ls2 nL lv2 → WX Γ H locs (pc + 1) ls2 rest) : WX Γ H locs pc ls (.int x :: rest) := lv_istore_n C.1.1 C.1.2.1 hd hi h hn hl k
theorem i_istoreL_n (C : Cx Γ cc nL own fr lo) {q : Fin 4} {i : Nat} {x : Int32} {f : Int32 → Option β} {lv : List (Nat × Value)} (lv2 : Int32 → List (Nat × Value)) (hh : lt_ x f = some out) (hd : decode cc pc = .ok (.istore_n q, 1)) (hi : (q : Nat) = i) (h : lv_has ls nL lv) (hn : i < nL) (hl : ∀ y, (i, Value.int y) :: lv.filter (fun q => !(q.1 == i) && !(q.1 + 1 == i && q.2.category == 2)) = lv2 y) (k : ∀ (y : Int32) (ls2 : Array Slot), f y = some out → lv_has ls2 nL (lv2 y) → WX Γ H locs (pc + 1) ls2 rest) : WX Γ H locs pc ls (.int x :: rest) := lv_istore_n C.1.1 C.1.2.1 hd hi h hn (hl x) (fun ls2 q => k x ls2 hh q)
theorem i_istore (C : Cx Γ cc nL own fr lo) {i : Nat} {x : Int32} {lv : List (Nat × Value)} (lv2 : List (Nat × Value)) (hd : decode cc pc = .ok (.istore i, 2)) (h : lv_has ls nL lv) (hn : i < nL) (hl : (i, Value.int x) :: lv.filter (fun q => !(q.1 == i) && !(q.1 + 1 == i && q.2.category == 2)) = lv2) (k : ∀ ls2 : Array Slot, lv_has ls2 nL lv2 → WX Γ H locs (pc + 2) ls2 rest) : WX Γ H locs pc ls (.int x :: rest) := lv_istore C.1.1 C.1.2.1 hd h hn hl k
theorem i_istoreL (C : Cx Γ cc nL own fr lo) {i : Nat} {x : Int32} {f : Int32 → Option β} {lv : List (Nat × Value)} (lv2 : Int32 → List (Nat × Value)) (hh : lt_ x f = some out) (hd : decode cc pc = .ok (.istore i, 2)) (h : lv_has ls nL lv) (hn : i < nL) (hl : ∀ y, (i, Value.int y) :: lv.filter (fun q => !(q.1 == i) && !(q.1 + 1 == i && q.2.category == 2)) = lv2 y) (k : ∀ (y : Int32) (ls2 : Array Slot), f y = some out → lv_has ls2 nL (lv2 y) → WX Γ H locs (pc + 2) ls2 rest) : WX Γ H locs pc ls (.int x :: rest) := lv_istore C.1.1 C.1.2.1 hd h hn (hl x) (fun ls2 q => k x ls2 hh q)
theorem i_lstore_n (C : Cx Γ cc nL own fr lo) {q : Fin 4} {i : Nat} {x : Int64} {lv : List (Nat × Value)} (lv2 : List (Nat × Value)) (hd : decode cc pc = .ok (.lstore_n q, 1)) (hi : (q : Nat) = i) (h : lv_has ls nL lv) (hn : i + 1 < nL) (hl : (i, Value.long x) :: lv.filter (fun q => !(q.1 == i) && (!(q.1 == i + 1) && !(q.1 + 1 == i && q.2.category == 2))) = lv2) (k : ∀ ls2 : Array Slot, lv_has ls2 nL lv2 → WX Γ H locs (pc + 1) ls2 rest) : WX Γ H locs pc ls (.long x :: rest) := lv_lstore_n C.1.1 C.1.2.1 hd hi h hn hl k
theorem i_lstoreL_n (C : Cx Γ cc nL own fr lo) {q : Fin 4} {i : Nat} {x : Int64} {f : Int64 → Option β} {lv : List (Nat × Value)} (lv2 : Int64 → List (Nat × Value)) (hh : lt_ x f = some out) (hd : decode cc pc = .ok (.lstore_n q, 1)) (hi : (q : Nat) = i) (h : lv_has ls nL lv) (hn : i + 1 < nL) (hl : ∀ y, (i, Value.long y) :: lv.filter (fun q => !(q.1 == i) && (!(q.1 == i + 1) && !(q.1 + 1 == i && q.2.category == 2))) = lv2 y) (k : ∀ (y : Int64) (ls2 : Array Slot), f y = some out → lv_has ls2 nL (lv2 y) → WX Γ H locs (pc + 1) ls2 rest) : WX Γ H locs pc ls (.long x :: rest) := lv_lstore_n C.1.1 C.1.2.1 hd hi h hn (hl x) (fun ls2 q => k x ls2 hh q)
theorem i_lstore (C : Cx Γ cc nL own fr lo) {i : Nat} {x : Int64} {lv : List (Nat × Value)} (lv2 : List (Nat × Value)) (hd : decode cc pc = .ok (.lstore i, 2)) (h : lv_has ls nL lv) (hn : i + 1 < nL) (hl : (i, Value.long x) :: lv.filter (fun q => !(q.1 == i) && (!(q.1 == i + 1) && !(q.1 + 1 == i && q.2.category == 2))) = lv2) (k : ∀ ls2 : Array Slot, lv_has ls2 nL lv2 → WX Γ H locs (pc + 2) ls2 rest) : WX Γ H locs pc ls (.long x :: rest) := lv_lstore C.1.1 C.1.2.1 hd h hn hl k
theorem i_lstoreL (C : Cx Γ cc nL own fr lo) {i : Nat} {x : Int64} {f : Int64 → Option β} {lv : List (Nat × Value)} (lv2 : Int64 → List (Nat × Value)) (hh : lt_ x f = some out) (hd : decode cc pc = .ok (.lstore i, 2)) (h : lv_has ls nL lv) (hn : i + 1 < nL) (hl : ∀ y, (i, Value.long y) :: lv.filter (fun q => !(q.1 == i) && (!(q.1 == i + 1) && !(q.1 + 1 == i && q.2.category == 2))) = lv2 y) (k : ∀ (y : Int64) (ls2 : Array Slot), f y = some out → lv_has ls2 nL (lv2 y) → WX Γ H locs (pc + 2) ls2 rest) : WX Γ H locs pc ls (.long x :: rest) := lv_lstore C.1.1 C.1.2.1 hd h hn (hl x) (fun ls2 q => k x ls2 hh q)
theorem i_astore_n (C : Cx Γ cc nL own fr lo) {q : Fin 4} {i : Nat} {x : Nat} {lv : List (Nat × Value)} (lv2 : List (Nat × Value)) (hd : decode cc pc = .ok (.astore_n q, 1)) (hi : (q : Nat) = i) (h : lv_has ls nL lv) (hn : i < nL) (hl : (i, Value.ref x) :: lv.filter (fun q => !(q.1 == i) && !(q.1 + 1 == i && q.2.category == 2)) = lv2) (k : ∀ ls2 : Array Slot, lv_has ls2 nL lv2 → WX Γ H locs (pc + 1) ls2 rest) : WX Γ H locs pc ls (.ref x :: rest) := lv_astore_n C.1.1 C.1.2.1 hd hi h hn hl k
theorem i_astore (C : Cx Γ cc nL own fr lo) {i : Nat} {x : Nat} {lv : List (Nat × Value)} (lv2 : List (Nat × Value)) (hd : decode cc pc = .ok (.astore i, 2)) (h : lv_has ls nL lv) (hn : i < nL) (hl : (i, Value.ref x) :: lv.filter (fun q => !(q.1 == i) && !(q.1 + 1 == i && q.2.category == 2)) = lv2) (k : ∀ ls2 : Array Slot, lv_has ls2 nL lv2 → WX Γ H locs (pc + 2) ls2 rest) : WX Γ H locs pc ls (.ref x :: rest) := lv_astore C.1.1 C.1.2.1 hd h hn hl k
theorem i_iinc (C : Cx Γ cc nL own fr lo) {i j : Nat} {n : Int} {x d : Int32} {f : Int32 → Option β} {lv : List (Nat × Value)} (lv2 : Int32 → List (Nat × Value)) (hh : lt_ (x + d) f = some out) (hd : decode cc pc = .ok (.iinc i n, 3)) (h : lv_has ls nL lv) (hk : lv[j]? = some (i, .int x)) (hv : Int32.ofInt n = d) (hn : i < nL) (hl : ∀ y, (i, Value.int y) :: lv.filter (fun q => !(q.1 == i) && !(q.1 + 1 == i && q.2.category == 2)) = lv2 y) (k : ∀ (y : Int32) (ls2 : Array Slot), f y = some out → lv_has ls2 nL (lv2 y) → WX Γ H locs (pc + 3) ls2 rest) : WX Γ H locs pc ls rest := lv_iinc C.1.1 C.1.2.1 hd h hk (by rw [hv]) hn (hl _) (fun ls2 q => k _ ls2 hh q)
theorem i_iadd (C : Cx Γ cc nL own fr lo) {x y : Int32} (hd : decode cc pc = .ok (.iadd, 1)) (k : WX Γ H locs (pc + 1) ls (.int (x + y) :: rest)) : WX Γ H locs pc ls (.int y :: .int x :: rest) := lv_iadd C.1.1 C.1.2.1 hd k
theorem i_isub (C : Cx Γ cc nL own fr lo) {x y : Int32} (hd : decode cc pc = .ok (.isub, 1)) (k : WX Γ H locs (pc + 1) ls (.int (x - y) :: rest)) : WX Γ H locs pc ls (.int y :: .int x :: rest) := lv_isub C.1.1 C.1.2.1 hd k
theorem i_imul (C : Cx Γ cc nL own fr lo) {x y : Int32} (hd : decode cc pc = .ok (.imul, 1)) (k : WX Γ H locs (pc + 1) ls (.int (x * y) :: rest)) : WX Γ H locs pc ls (.int y :: .int x :: rest) := lv_imul C.1.1 C.1.2.1 hd k
theorem i_iand (C : Cx Γ cc nL own fr lo) {x y : Int32} (hd : decode cc pc = .ok (.iand, 1)) (k : WX Γ H locs (pc + 1) ls (.int (x &&& y) :: rest)) : WX Γ H locs pc ls (.int y :: .int x :: rest) := lv_iand C.1.1 C.1.2.1 hd k
theorem i_ior (C : Cx Γ cc nL own fr lo) {x y : Int32} (hd : decode cc pc = .ok (.ior, 1)) (k : WX Γ H locs (pc + 1) ls (.int (x ||| y) :: rest)) : WX Γ H locs pc ls (.int y :: .int x :: rest) := lv_ior C.1.1 C.1.2.1 hd k
theorem i_ixor (C : Cx Γ cc nL own fr lo) {x y : Int32} (hd : decode cc pc = .ok (.ixor, 1)) (k : WX Γ H locs (pc + 1) ls (.int (x ^^^ y) :: rest)) : WX Γ H locs pc ls (.int y :: .int x :: rest) := lv_ixor C.1.1 C.1.2.1 hd k
theorem i_ishl (C : Cx Γ cc nL own fr lo) {x y : Int32} (hd : decode cc pc = .ok (.ishl, 1)) (k : WX Γ H locs (pc + 1) ls (.int (sl x y) :: rest)) : WX Γ H locs pc ls (.int y :: .int x :: rest) := lv_ishl C.1.1 C.1.2.1 hd k
theorem i_ishr (C : Cx Γ cc nL own fr lo) {x y : Int32} (hd : decode cc pc = .ok (.ishr, 1)) (k : WX Γ H locs (pc + 1) ls (.int (sr x y) :: rest)) : WX Γ H locs pc ls (.int y :: .int x :: rest) := lv_ishr C.1.1 C.1.2.1 hd k
theorem i_iushr (C : Cx Γ cc nL own fr lo) {x y : Int32} (hd : decode cc pc = .ok (.iushr, 1)) (k : WX Γ H locs (pc + 1) ls (.int (ur x y) :: rest)) : WX Γ H locs pc ls (.int y :: .int x :: rest) := lv_iushr C.1.1 C.1.2.1 hd rfl k
theorem i_ineg (C : Cx Γ cc nL own fr lo) {x : Int32} (hd : decode cc pc = .ok (.ineg, 1)) (k : WX Γ H locs (pc + 1) ls (.int (-x) :: rest)) : WX Γ H locs pc ls (.int x :: rest) := lv_ineg C.1.1 C.1.2.1 hd k
theorem i_idivc (C : Cx Γ cc nL own fr lo) {x y : Int32} (hd : decode cc pc = .ok (.idiv, 1)) (hne : ¬ y = 0) (k : WX Γ H locs (pc + 1) ls (.int (x / y) :: rest)) : WX Γ H locs pc ls (.int y :: .int x :: rest) := lv_idiv C.1.1 C.1.2.1 hd hne k
theorem i_iremc (C : Cx Γ cc nL own fr lo) {x y : Int32} (hd : decode cc pc = .ok (.irem, 1)) (hne : ¬ y = 0) (k : WX Γ H locs (pc + 1) ls (.int (irm x y) :: rest)) : WX Γ H locs pc ls (.int y :: .int x :: rest) := lv_irem C.1.1 C.1.2.1 hd hne k
theorem w_gd {c : Prop} [Decidable c] {X : Option β} (h : gd c X = some out) : c ∧ X = some out := by
  unfold gd at h
  by_cases hc : c
  · rw [if_pos hc] at h; exact ⟨hc, h⟩
  · rw [if_neg hc] at h; cases h
theorem i_idiv (C : Cx Γ cc nL own fr lo) {x y : Int32} {X : Option β} (h : gd (¬ y = 0) X = some out) (hd : decode cc pc = .ok (.idiv, 1)) (k : X = some out → WX Γ H locs (pc + 1) ls (.int (x / y) :: rest)) : WX Γ H locs pc ls (.int y :: .int x :: rest) := i_idivc C hd (w_gd h).1 (k (w_gd h).2)
theorem i_irem (C : Cx Γ cc nL own fr lo) {x y : Int32} {X : Option β} (h : gd (¬ y = 0) X = some out) (hd : decode cc pc = .ok (.irem, 1)) (k : X = some out → WX Γ H locs (pc + 1) ls (.int (irm x y) :: rest)) : WX Γ H locs pc ls (.int y :: .int x :: rest) := i_iremc C hd (w_gd h).1 (k (w_gd h).2)
theorem i_i2b (C : Cx Γ cc nL own fr lo) {x : Int32} (hd : decode cc pc = .ok (.i2b, 1)) (k : WX Γ H locs (pc + 1) ls (.int x.toInt8.toInt32 :: rest)) : WX Γ H locs pc ls (.int x :: rest) := lv_i2b C.1.1 C.1.2.1 hd rfl k
theorem i_i2s (C : Cx Γ cc nL own fr lo) {x : Int32} (hd : decode cc pc = .ok (.i2s, 1)) (k : WX Γ H locs (pc + 1) ls (.int x.toInt16.toInt32 :: rest)) : WX Γ H locs pc ls (.int x :: rest) := lv_i2s C.1.1 C.1.2.1 hd rfl k
theorem i_i2l (C : Cx Γ cc nL own fr lo) {x : Int32} (hd : decode cc pc = .ok (.i2l, 1)) (k : WX Γ H locs (pc + 1) ls (.long x.toInt64 :: rest)) : WX Γ H locs pc ls (.int x :: rest) := lv_i2l C.1.1 C.1.2.1 hd rfl k
theorem i_l2i (C : Cx Γ cc nL own fr lo) {x : Int64} (hd : decode cc pc = .ok (.l2i, 1)) (k : WX Γ H locs (pc + 1) ls (.int x.toInt32 :: rest)) : WX Γ H locs pc ls (.long x :: rest) := lv_l2i C.1.1 C.1.2.1 hd rfl k
theorem i_ladd (C : Cx Γ cc nL own fr lo) {x y : Int64} (hd : decode cc pc = .ok (.ladd, 1)) (k : WX Γ H locs (pc + 1) ls (.long (x + y) :: rest)) : WX Γ H locs pc ls (.long y :: .long x :: rest) := lv_ladd C.1.1 C.1.2.1 hd k
theorem i_lor (C : Cx Γ cc nL own fr lo) {x y : Int64} (hd : decode cc pc = .ok (.lor, 1)) (k : WX Γ H locs (pc + 1) ls (.long (x ||| y) :: rest)) : WX Γ H locs pc ls (.long y :: .long x :: rest) := lv_lor C.1.1 C.1.2.1 hd k
theorem i_land (C : Cx Γ cc nL own fr lo) {x y : Int64} (hd : decode cc pc = .ok (.land, 1)) (k : WX Γ H locs (pc + 1) ls (.long (x &&& y) :: rest)) : WX Γ H locs pc ls (.long y :: .long x :: rest) := lv_land C.1.1 C.1.2.1 hd k
theorem i_lshl (C : Cx Γ cc nL own fr lo) {x : Int64} {y : Int32} (hd : decode cc pc = .ok (.lshl, 1)) (k : WX Γ H locs (pc + 1) ls (.long (lsl x y) :: rest)) : WX Γ H locs pc ls (.int y :: .long x :: rest) := lv_lshl C.1.1 C.1.2.1 hd rfl k
theorem i_lshr (C : Cx Γ cc nL own fr lo) {x : Int64} {y : Int32} (hd : decode cc pc = .ok (.lshr, 1)) (k : WX Γ H locs (pc + 1) ls (.long (lsr x y) :: rest)) : WX Γ H locs pc ls (.int y :: .long x :: rest) := lv_lshr C.1.1 C.1.2.1 hd rfl k
theorem i_lcmp (C : Cx Γ cc nL own fr lo) {x y : Int64} (hd : decode cc pc = .ok (.lcmp, 1)) (k : WX Γ H locs (pc + 1) ls (.int (lg_cmp x y) :: rest)) : WX Γ H locs pc ls (.long y :: .long x :: rest) := W.lcmp C.1.1 C.1.2.1 hd k
theorem i_dup (C : Cx Γ cc nL own fr lo) {va : Value} (hd : decode cc pc = .ok (.dup, 1)) (ha : va.category = 1) (k : WX Γ H locs (pc + 1) ls (va :: va :: rest)) : WX Γ H locs pc ls (va :: rest) := lv_dup C.1.1 C.1.2.1 hd ha k
theorem i_dup2 (C : Cx Γ cc nL own fr lo) {va vb : Value} (hd : decode cc pc = .ok (.dup2, 1)) (ha : va.category = 1) (hb : vb.category = 1) (k : WX Γ H locs (pc + 1) ls (va :: vb :: va :: vb :: rest)) : WX Γ H locs pc ls (va :: vb :: rest) := lv_dup2_11 C.1.1 C.1.2.1 hd ha hb k
theorem i_pop (C : Cx Γ cc nL own fr lo) {va : Value} (hd : decode cc pc = .ok (.pop, 1)) (ha : va.category = 1) (k : WX Γ H locs (pc + 1) ls rest) : WX Γ H locs pc ls (va :: rest) := lv_pop C.1.1 C.1.2.1 hd ha k
theorem i_goto (C : Cx Γ cc nL own fr lo) {off : Int} {tgt : Nat} (hd : decode cc pc = .ok (.goto off, 3)) (ht : (pc : Int) + off = (tgt : Int)) (k : WX Γ H locs tgt ls rest) : WX Γ H locs pc ls rest := lv_goto C.1.1 C.1.2.1 hd ht k
theorem i_icmp_eq (C : Cx Γ cc nL own fr lo) {x y : Int32} {off : Int} {tgt : Nat} {X Y : Option β} (h : (if x = y then X else Y) = some out) (hd : decode cc pc = .ok (.if_icmp .eq off, 3)) (ht : (pc : Int) + off = (tgt : Int)) (kt : x = y → X = some out → WX Γ H locs tgt ls rest) (kf : ¬ x = y → Y = some out → WX Γ H locs (pc + 3) ls rest) : WX Γ H locs pc ls (.int y :: .int x :: rest) := lv_icmp_eq C.1.1 C.1.2.1 hd ht (fun q => kt q (by rw [← h, if_pos q])) (fun q => kf q (by rw [← h, if_neg q]))
theorem i_if_eq (C : Cx Γ cc nL own fr lo) {x : Int32} {off : Int} {tgt : Nat} {X Y : Option β} (h : (if x = 0 then X else Y) = some out) (hd : decode cc pc = .ok (.ifCond .eq off, 3)) (ht : (pc : Int) + off = (tgt : Int)) (kt : x = 0 → X = some out → WX Γ H locs tgt ls rest) (kf : ¬ x = 0 → Y = some out → WX Γ H locs (pc + 3) ls rest) : WX Γ H locs pc ls (.int x :: rest) := lv_if_eq C.1.1 C.1.2.1 hd ht (fun q => kt q (by rw [← h, if_pos q])) (fun q => kf q (by rw [← h, if_neg q]))
theorem i_icmp_ne (C : Cx Γ cc nL own fr lo) {x y : Int32} {off : Int} {tgt : Nat} {X Y : Option β} (h : (if x = y then X else Y) = some out) (hd : decode cc pc = .ok (.if_icmp .ne off, 3)) (ht : (pc : Int) + off = (tgt : Int)) (kt : ¬ x = y → Y = some out → WX Γ H locs tgt ls rest) (kf : x = y → X = some out → WX Γ H locs (pc + 3) ls rest) : WX Γ H locs pc ls (.int y :: .int x :: rest) := lv_icmp_ne C.1.1 C.1.2.1 hd ht (fun q => kt q (by rw [← h, if_neg q])) (fun q => kf q (by rw [← h, if_pos q]))
theorem i_if_ne (C : Cx Γ cc nL own fr lo) {x : Int32} {off : Int} {tgt : Nat} {X Y : Option β} (h : (if x = 0 then X else Y) = some out) (hd : decode cc pc = .ok (.ifCond .ne off, 3)) (ht : (pc : Int) + off = (tgt : Int)) (kt : ¬ x = 0 → Y = some out → WX Γ H locs tgt ls rest) (kf : x = 0 → X = some out → WX Γ H locs (pc + 3) ls rest) : WX Γ H locs pc ls (.int x :: rest) := lv_if_ne C.1.1 C.1.2.1 hd ht (fun q => kt q (by rw [← h, if_neg q])) (fun q => kf q (by rw [← h, if_pos q]))
theorem i_icmp_lt (C : Cx Γ cc nL own fr lo) {x y : Int32} {off : Int} {tgt : Nat} {X Y : Option β} (h : (if x < y then X else Y) = some out) (hd : decode cc pc = .ok (.if_icmp .lt off, 3)) (ht : (pc : Int) + off = (tgt : Int)) (kt : x < y → X = some out → WX Γ H locs tgt ls rest) (kf : ¬ x < y → Y = some out → WX Γ H locs (pc + 3) ls rest) : WX Γ H locs pc ls (.int y :: .int x :: rest) := lv_icmp_lt C.1.1 C.1.2.1 hd ht (fun q => kt q (by rw [← h, if_pos q])) (fun q => kf q (by rw [← h, if_neg q]))
theorem i_if_lt (C : Cx Γ cc nL own fr lo) {x : Int32} {off : Int} {tgt : Nat} {X Y : Option β} (h : (if x < 0 then X else Y) = some out) (hd : decode cc pc = .ok (.ifCond .lt off, 3)) (ht : (pc : Int) + off = (tgt : Int)) (kt : x < 0 → X = some out → WX Γ H locs tgt ls rest) (kf : ¬ x < 0 → Y = some out → WX Γ H locs (pc + 3) ls rest) : WX Γ H locs pc ls (.int x :: rest) := lv_if_lt C.1.1 C.1.2.1 hd ht (fun q => kt q (by rw [← h, if_pos q])) (fun q => kf q (by rw [← h, if_neg q]))
theorem i_icmp_ge (C : Cx Γ cc nL own fr lo) {x y : Int32} {off : Int} {tgt : Nat} {X Y : Option β} (h : (if y ≤ x then X else Y) = some out) (hd : decode cc pc = .ok (.if_icmp .ge off, 3)) (ht : (pc : Int) + off = (tgt : Int)) (kt : y ≤ x → X = some out → WX Γ H locs tgt ls rest) (kf : ¬ y ≤ x → Y = some out → WX Γ H locs (pc + 3) ls rest) : WX Γ H locs pc ls (.int y :: .int x :: rest) := lv_icmp_ge C.1.1 C.1.2.1 hd ht (fun q => kt q (by rw [← h, if_pos q])) (fun q => kf q (by rw [← h, if_neg q]))
theorem i_if_ge (C : Cx Γ cc nL own fr lo) {x : Int32} {off : Int} {tgt : Nat} {X Y : Option β} (h : (if 0 ≤ x then X else Y) = some out) (hd : decode cc pc = .ok (.ifCond .ge off, 3)) (ht : (pc : Int) + off = (tgt : Int)) (kt : 0 ≤ x → X = some out → WX Γ H locs tgt ls rest) (kf : ¬ 0 ≤ x → Y = some out → WX Γ H locs (pc + 3) ls rest) : WX Γ H locs pc ls (.int x :: rest) := lv_if_ge C.1.1 C.1.2.1 hd ht (fun q => kt q (by rw [← h, if_pos q])) (fun q => kf q (by rw [← h, if_neg q]))
theorem i_icmp_gt (C : Cx Γ cc nL own fr lo) {x y : Int32} {off : Int} {tgt : Nat} {X Y : Option β} (h : (if y < x then X else Y) = some out) (hd : decode cc pc = .ok (.if_icmp .gt off, 3)) (ht : (pc : Int) + off = (tgt : Int)) (kt : y < x → X = some out → WX Γ H locs tgt ls rest) (kf : ¬ y < x → Y = some out → WX Γ H locs (pc + 3) ls rest) : WX Γ H locs pc ls (.int y :: .int x :: rest) := lv_icmp_gt C.1.1 C.1.2.1 hd ht (fun q => kt q (by rw [← h, if_pos q])) (fun q => kf q (by rw [← h, if_neg q]))
theorem i_if_gt (C : Cx Γ cc nL own fr lo) {x : Int32} {off : Int} {tgt : Nat} {X Y : Option β} (h : (if 0 < x then X else Y) = some out) (hd : decode cc pc = .ok (.ifCond .gt off, 3)) (ht : (pc : Int) + off = (tgt : Int)) (kt : 0 < x → X = some out → WX Γ H locs tgt ls rest) (kf : ¬ 0 < x → Y = some out → WX Γ H locs (pc + 3) ls rest) : WX Γ H locs pc ls (.int x :: rest) := lv_if_gt C.1.1 C.1.2.1 hd ht (fun q => kt q (by rw [← h, if_pos q])) (fun q => kf q (by rw [← h, if_neg q]))
theorem i_icmp_le (C : Cx Γ cc nL own fr lo) {x y : Int32} {off : Int} {tgt : Nat} {X Y : Option β} (h : (if x ≤ y then X else Y) = some out) (hd : decode cc pc = .ok (.if_icmp .le off, 3)) (ht : (pc : Int) + off = (tgt : Int)) (kt : x ≤ y → X = some out → WX Γ H locs tgt ls rest) (kf : ¬ x ≤ y → Y = some out → WX Γ H locs (pc + 3) ls rest) : WX Γ H locs pc ls (.int y :: .int x :: rest) := lv_icmp_le C.1.1 C.1.2.1 hd ht (fun q => kt q (by rw [← h, if_pos q])) (fun q => kf q (by rw [← h, if_neg q]))
theorem i_if_le (C : Cx Γ cc nL own fr lo) {x : Int32} {off : Int} {tgt : Nat} {X Y : Option β} (h : (if x ≤ 0 then X else Y) = some out) (hd : decode cc pc = .ok (.ifCond .le off, 3)) (ht : (pc : Int) + off = (tgt : Int)) (kt : x ≤ 0 → X = some out → WX Γ H locs tgt ls rest) (kf : ¬ x ≤ 0 → Y = some out → WX Γ H locs (pc + 3) ls rest) : WX Γ H locs pc ls (.int x :: rest) := lv_if_le C.1.1 C.1.2.1 hd ht (fun q => kt q (by rw [← h, if_pos q])) (fun q => kf q (by rw [← h, if_neg q]))
theorem i_case {x c : Int32} {X Y : Option β} {P : Prop} (h : (if x = c then X else Y) = some out) (kt : x = c → X = some out → P) (kf : ¬ x = c → Y = some out → P) : P := by
  by_cases q : x = c
  · exact kt q (by rw [← h, if_pos q])
  · exact kf q (by rw [← h, if_neg q])
theorem ne_t {x c : Int32} {n : Int} (hn : c.toInt = n) (h : ¬ x = c) : x.toInt ≠ n := fun e => h (Int32.toInt_inj.mp (e.trans hn.symm))
theorem i_tabIn (C : Cx Γ cc nL own fr lo) {dflt lo1 hi1 : Int} {offs : Array Int} {len : Nat} {x c : Int32} {off : Int} {tgt : Nat} (e : x = c) (hd : decode cc pc = .ok (.tableswitch dflt lo1 hi1 offs, len)) (h1 : ¬ c.toInt < lo1) (h2 : ¬ hi1 < c.toInt) (ho : offs[(c.toInt - lo1).toNat]? = some off) (ht : (pc : Int) + off = (tgt : Int)) (k : WX Γ H locs tgt ls rest) : WX Γ H locs pc ls (.int x :: rest) := by
  subst e
  exact lv_tableIn C.1.1 C.1.2.1 hd h1 h2 ho ht k
theorem i_tabOut (C : Cx Γ cc nL own fr lo) {dflt lo1 hi1 : Int} {offs : Array Int} {len : Nat} {x : Int32} {tgt : Nat} (h : x.toInt < lo1 ∨ hi1 < x.toInt) (hd : decode cc pc = .ok (.tableswitch dflt lo1 hi1 offs, len)) (ht : (pc : Int) + dflt = (tgt : Int)) (k : WX Γ H locs tgt ls rest) : WX Γ H locs pc ls (.int x :: rest) := lv_tableOut C.1.1 C.1.2.1 hd h ht k
/-! ===== fields and arrays ===== -/
theorem x_get (C : Cx Γ cc nL own fr lo) (hX : XW G A (gs Γ) H locs μ) {k ci i N index : Nat} {Cn : String} {T : u_T} {v : (Nat → Int32) → Value} (F : FG G k ci i Cn T N v) (hw : Cond.fieldLink own index Cn (T i).2.1 (T i).2.2.1 ∈ TT) (hd : decode cc pc = .ok (.getfield index, 3)) (kk : WX Γ H locs (pc + 3) ls (v (μ k) :: rest)) : WX Γ H locs pc ls (.ref (G.2.1 k) :: rest) := by
  obtain ⟨h1, h2, h3, h4, h5, fl, h6⟩ := F
  exact va_get C.1.1 C.1.2.1 C.1.2.2.2.2 h3 C.1.2.2.2.1 hX.2.2.2.1.1 hX.1 k ((wA_get G μ h1).trans (congrArg some (h6 (μ k)).1)) h2 i h4 (C.w hw) (fun _ q => by rw [h5] at q; exact q) (h6 (μ k)).2 hd kk
theorem x_put0 (C : Cx Γ cc nL own fr lo) (hX : XW G A (gs Γ) H locs μ) {k ci i N index : Nat} {Cn : String} {T : u_T} {ty0 : Nat → FieldType} {ty : FieldType} {v : Int32} (F : FP G k ci i Cn T N ty0 ty) (hn : narrow ty (.int v) = .int v) (hf : fits ty (.int v) = true) (hw : Cond.fieldLink own index Cn (T i).2.1 (T i).2.2.1 ∈ TT) (hd : decode cc pc = .ok (.putfield index, 3)) (kk : ∀ (H1 : Heap) (locs1 : List Loc), XW G A (gs Γ) H1 locs1 (wst μ k i v) → WX Γ H1 locs1 (pc + 3) ls rest) : WX Γ H locs pc ls (.int v :: .ref (G.2.1 k) :: rest) := by
  obtain ⟨h1, h2, h3, h4, h5, h6, h7, h8, h9, fl, h10⟩ := F
  refine va_put C.1.1 C.1.2.1 C.1.2.2.2.2 h3 ty0 h7 h8 C.1.2.2.2.1 hX.2.2.2.1.1 hX.1 hX.2.1 hX.2.2.1 k ((wA_get G μ h1).trans (congrArg some (h10 (μ k)).1)) h2 i h4 (C.w hw) (fun _ q => by rw [h5] at q; exact q) h6 h9 hn hf (h10 (μ k)).2.1 hd (fun H1 locs1 p1 d1 s1 => ?_)
  have e : (wA G μ).set k (G.2.1 k, .inr (ci, (fl (μ k)).set i (.int v))) = wA G (wst μ k i v) := by
    rw [(h10 (μ k)).2.2 v, ← (h10 (upd (μ k) i v)).1, wA_set G μ h1]
  rw [e] at p1 d1
  exact kk H1 locs1 ⟨p1, d1, s1, hX.2.2.2⟩
theorem x_putI (C : Cx Γ cc nL own fr lo) (hX : XW G A (gs Γ) H locs μ) {k ci i N index : Nat} {Cn : String} {T : u_T} {ty0 : Nat → FieldType} {v : Int32} {f : MM → Option β} (F : FP G k ci i Cn T N ty0 .int) (h : lt_ (wst μ k i v) f = some out) (hw : Cond.fieldLink own index Cn (T i).2.1 (T i).2.2.1 ∈ TT) (hd : decode cc pc = .ok (.putfield index, 3)) (kk : ∀ (H1 : Heap) (locs1 : List Loc) (μ1 : MM), f μ1 = some out → XW G A (gs Γ) H1 locs1 μ1 → WX Γ H1 locs1 (pc + 3) ls rest) : WX Γ H locs pc ls (.int v :: .ref (G.2.1 k) :: rest) := x_put0 C hX F rfl rfl hw hd (fun H1 locs1 q => kk H1 locs1 _ h q)
theorem bool_nar {v : Int32} (h : v = 0 ∨ v = 1) : narrow .boolean (.int v) = .int v ∧ fits .boolean (.int v) = true := by
  rcases h with rfl | rfl <;> exact ⟨rfl, rfl⟩
theorem x_putZ (C : Cx Γ cc nL own fr lo) (hX : XW G A (gs Γ) H locs μ) {k ci i N index : Nat} {Cn : String} {T : u_T} {ty0 : Nat → FieldType} {v : Int32} {f : MM → Option β} (F : FP G k ci i Cn T N ty0 .boolean) (h : gd (v = 0 ∨ v = 1) (lt_ (wst μ k i v) f) = some out) (hw : Cond.fieldLink own index Cn (T i).2.1 (T i).2.2.1 ∈ TT) (hd : decode cc pc = .ok (.putfield index, 3)) (kk : ∀ (H1 : Heap) (locs1 : List Loc) (μ1 : MM), f μ1 = some out → XW G A (gs Γ) H1 locs1 μ1 → WX Γ H1 locs1 (pc + 3) ls rest) : WX Γ H locs pc ls (.int v :: .ref (G.2.1 k) :: rest) := x_put0 C hX F (bool_nar (w_gd h).1).1 (bool_nar (w_gd h).1).2 hw hd (fun H1 locs1 q => kk H1 locs1 _ (w_gd h).2 q)
theorem x_iald (C : Cx Γ cc nL own fr lo) (hX : XW G A (gs Γ) H locs μ) {k n : Nat} {i : Int32} {f : Int32 → Option β} (F : AI G k n) (h : ldi μ k n i f = some out) (hd : decode cc pc = .ok (.iaload, 1)) (kk : ∀ x : Int32, f x = some out → WX Γ H locs (pc + 1) ls (.int x :: rest)) : WX Γ H locs pc ls (.int i :: .ref (G.2.1 k) :: rest) := by
  unfold ldi at h
  by_cases q : inb i n
  · rw [if_pos q] at h
    exact va_iald C.1.1 C.1.2.1 hX.2.2.2.1.1 hX.1 k 0 ((wA_get G μ F.1).trans (congrArg some (F.2 (μ k)))) rfl q hd (kk _ h)
  · rw [if_neg q] at h
    cases h
theorem x_zald (C : Cx Γ cc nL own fr lo) (hX : XW G A (gs Γ) H locs μ) {k n : Nat} {i : Int32} {f : Int32 → Option β} (F : AZ G k n) (h : ldi μ k n i f = some out) (hd : decode cc pc = .ok (.baload, 1)) (kk : ∀ x : Int32, f x = some out → WX Γ H locs (pc + 1) ls (.int x :: rest)) : WX Γ H locs pc ls (.int i :: .ref (G.2.1 k) :: rest) := by
  unfold ldi at h
  by_cases q : inb i n
  · rw [if_pos q] at h
    exact va_zald C.1.1 C.1.2.1 hX.2.2.2.1.1 hX.1 k 1 ((wA_get G μ F.1).trans (congrArg some (F.2 (μ k)))) rfl q hd (kk _ h)
  · rw [if_neg q] at h
    cases h
theorem x_iast (C : Cx Γ cc nL own fr lo) (hX : XW G A (gs Γ) H locs μ) {k n : Nat} {i x : Int32} {f : MM → Option β} (F : AI G k n) (h : sti μ k n i x f = some out) (hd : decode cc pc = .ok (.iastore, 1)) (kk : ∀ (H1 : Heap) (locs1 : List Loc) (μ1 : MM), f μ1 = some out → XW G A (gs Γ) H1 locs1 μ1 → WX Γ H1 locs1 (pc + 1) ls rest) : WX Γ H locs pc ls (.int x :: .int i :: .ref (G.2.1 k) :: rest) := by
  unfold sti at h
  by_cases q : inb i n
  · rw [if_pos q] at h
    refine va_iast C.1.1 C.1.2.1 hX.2.2.2.1.1 hX.1 hX.2.1 hX.2.2.1 k 0 ((wA_get G μ F.1).trans (congrArg some (F.2 (μ k)))) rfl q hd (fun H1 locs1 p1 d1 s1 => ?_)
    rw [← F.2, wA_set G μ F.1] at p1 d1
    exact kk H1 locs1 _ h ⟨p1, d1, s1, hX.2.2.2⟩
  · rw [if_neg q] at h
    cases h
theorem x_zast (C : Cx Γ cc nL own fr lo) (hX : XW G A (gs Γ) H locs μ) {k n : Nat} {i x : Int32} {f : MM → Option β} (F : AZ G k n) (h : stz μ k n i x f = some out) (hd : decode cc pc = .ok (.bastore, 1)) (kk : ∀ (H1 : Heap) (locs1 : List Loc) (μ1 : MM), f μ1 = some out → XW G A (gs Γ) H1 locs1 μ1 → WX Γ H1 locs1 (pc + 1) ls rest) : WX Γ H locs pc ls (.int x :: .int i :: .ref (G.2.1 k) :: rest) := by
  unfold stz at h
  by_cases q : inb i n
  · rw [if_pos q] at h
    refine va_zast C.1.1 C.1.2.1 hX.2.2.2.1.1 hX.1 hX.2.1 hX.2.2.1 k 1 ((wA_get G μ F.1).trans (congrArg some (F.2 (μ k)))) rfl q hd (fun H1 locs1 p1 d1 s1 => ?_)
    rw [← F.2, wA_set G μ F.1] at p1 d1
    exact kk H1 locs1 _ h ⟨p1, d1, s1, hX.2.2.2⟩
  · rw [if_neg q] at h
    cases h
theorem x_aald (C : Cx Γ cc nL own fr lo) (hX : XW G A (gs Γ) H locs μ) {k n t b d : Nat} {i : Int32} {tn : String} {f : Nat → Option β} (F : AQ G k n t b d) (ht : (tyL G)[t]? = some (G.2.2.1 t, .object tn)) (h : ldq n i f = some out) (hd : decode cc pc = .ok (.aaload, 1)) (kk : ∀ j : Nat, j < n → f j = some out → WX Γ H locs (pc + 1) ls (.ref (G.2.1 (b + d * j)) :: rest)) : WX Γ H locs pc ls (.int i :: .ref (G.2.1 k) :: rest) := by
  unfold ldq at h
  by_cases q : inb i n
  · rw [if_pos q] at h
    exact va_aldq C.1.1 C.1.2.1 hX.2.2.2.1.1 hX.1 k t ((wA_get G μ F.1).trans (congrArg some (F.2 (μ k)))) ht q hd (kk _ (Nat.not_le.mp fun z => q (Or.inr z)) h)
  · rw [if_neg q] at h
    cases h
theorem x_ilen (C : Cx Γ cc nL own fr lo) (hX : XW G A (gs Γ) H locs μ) {k n : Nat} {v : Int32} (F : AI G k n) (hv : Int32.ofNat n = v) (hd : decode cc pc = .ok (.arraylength, 1)) (kk : WX Γ H locs (pc + 1) ls (.int v :: rest)) : WX Γ H locs pc ls (.ref (G.2.1 k) :: rest) := va_alen C.1.1 C.1.2.1 hX.2.2.2.1.1 hX.1 k 0 ((wA_get G μ F.1).trans (congrArg some (F.2 (μ k)))) (ty := .int) rfl hv hd kk
theorem x_qlen (C : Cx Γ cc nL own fr lo) (hX : XW G A (gs Γ) H locs μ) {k n t b d : Nat} {v : Int32} {tn : String} (F : AQ G k n t b d) (ht : (tyL G)[t]? = some (G.2.2.1 t, .object tn)) (hv : Int32.ofNat n = v) (hd : decode cc pc = .ok (.arraylength, 1)) (kk : WX Γ H locs (pc + 1) ls (.int v :: rest)) : WX Γ H locs pc ls (.ref (G.2.1 k) :: rest) := va_alen C.1.1 C.1.2.1 hX.2.2.2.1.1 hX.1 k t ((wA_get G μ F.1).trans (congrArg some (F.2 (μ k)))) ht hv hd kk
theorem x_gets (C : Cx Γ cc nL own fr lo) (hX : XW G A (gs Γ) H locs μ) {n d : String} {t index : Nat} (hZ : va_Z "NavyOfCats" n d (.ref (G.2.2.2 t)) A (gs Γ) (gs Γ).heap) (hw : Cond.fieldLink own index "NavyOfCats" n d ∈ TT) (hd : decode cc pc = .ok (.getstatic index, 3)) (kk : WX Γ H locs (pc + 3) ls (.ref (G.2.2.2 t) :: rest)) : WX Γ H locs pc ls rest := va_gets C.1.1 C.1.2.1 hZ hX.2.2.1 C.1.2.2.2.1 (C.w hw) (fun _ q => q) hd kk
theorem x_sald (C : Cx Γ cc nL own fr lo) (hX : XW G A (gs Γ) H locs μ) {t n : Nat} {i : Int32} {f : Int32 → Option β} (hT : va_T .int (G.2.2.2 t) n (fun j => .int (tS t j)) A (gs Γ) (gs Γ).heap) (h : lds t n i f = some out) (hd : decode cc pc = .ok (.iaload, 1)) (kk : ∀ x : Int32, f x = some out → WX Γ H locs (pc + 1) ls (.int x :: rest)) : WX Γ H locs pc ls (.int i :: .ref (G.2.2.2 t) :: rest) := by
  unfold lds at h
  by_cases q : inb i n
  · rw [if_pos q] at h
    exact va_ti C.1.1 C.1.2.1 hT hX.2.2.1 q rfl hd (kk _ h)
  · rw [if_neg q] at h
    cases h
/-! ===== ends ===== -/
theorem x_end {cells slots : Nat} {v : Option Value} (hX : XW G A (gs Γ) H locs μ) (hQ : RT Γ G A v μ) : (∀ t : State, t.heap = H → (gs Γ).WarmedH t.vm → XQ G (gs Γ).heap.size v μ (ga Γ) (gs Γ) (.returned v) t) ∧ ∀ q ∈ locs, AA G (gs Γ).heap.size q.base := by
  obtain ⟨hq, rfl⟩ := hQ
  exact ⟨fun t ht hW => ⟨rfl, by rw [ht]; exact hX.1, hX.2.2.1.F ht⟩, hX.2.2.1.2.2⟩
theorem x_iret (C : Cx Γ cc nL own fr lo) (hX : XW G A (gs Γ) H locs μ) {x : Int32} (hr : (gt Γ).sig.returnType = some .int) (hQ : RT Γ G A (some (.int x)) μ) (hd : decode cc pc = .ok (.ireturn, 1)) : WX Γ H locs pc ls [.int x] := by
  have e := x_end (cells := 0) (slots := 0) hX hQ
  unfold WX
  rw [hQ.1]
  exact W.iret C.1.1 C.1.2.1 hr e.1 e.2 hd C.2.1
theorem x_iretR (C : Cx Γ cc nL own fr lo) (hX : XW G A (gs Γ) H locs μ) {x r : Int32} (hr : (gt Γ).sig.returnType = some .int) (hQ : RT Γ G A (some (.int r)) μ) (h : some x = some r) (hd : decode cc pc = .ok (.ireturn, 1)) : WX Γ H locs pc ls [.int x] := x_iret C hX hr (by rw [Option.some.inj h]; exact hQ) hd
theorem x_iretW (C : Cx Γ cc nL own fr lo) (hX : XW G A (gs Γ) H locs μ) {x : Int32} {r : Int32 × MM} (hr : (gt Γ).sig.returnType = some .int) (hQ : RT Γ G A (some (.int r.1)) r.2) (h : some (x, μ) = some r) (hd : decode cc pc = .ok (.ireturn, 1)) : WX Γ H locs pc ls [.int x] := by
  obtain rfl := Option.some.inj h
  exact x_iret C hX hr hQ hd
theorem x_lret (C : Cx Γ cc nL own fr lo) (hX : XW G A (gs Γ) H locs μ) {x : Int64} (hr : (gt Γ).sig.returnType = some .long) (hQ : RT Γ G A (some (.long x)) μ) (hd : decode cc pc = .ok (.lreturn, 1)) : WX Γ H locs pc ls [.long x] := by
  have e := x_end (cells := 0) (slots := 0) hX hQ
  unfold WX
  rw [hQ.1]
  exact W.lret C.1.1 C.1.2.1 hr e.1 e.2 hd C.2.1
theorem x_lretR (C : Cx Γ cc nL own fr lo) (hX : XW G A (gs Γ) H locs μ) {x r : Int64} (hr : (gt Γ).sig.returnType = some .long) (hQ : RT Γ G A (some (.long r)) μ) (h : some x = some r) (hd : decode cc pc = .ok (.lreturn, 1)) : WX Γ H locs pc ls [.long x] := x_lret C hX hr (by rw [Option.some.inj h]; exact hQ) hd
theorem x_lretW (C : Cx Γ cc nL own fr lo) (hX : XW G A (gs Γ) H locs μ) {x : Int64} {r : Int64 × MM} (hr : (gt Γ).sig.returnType = some .long) (hQ : RT Γ G A (some (.long r.1)) r.2) (h : some (x, μ) = some r) (hd : decode cc pc = .ok (.lreturn, 1)) : WX Γ H locs pc ls [.long x] := by
  obtain rfl := Option.some.inj h
  exact x_lret C hX hr hQ hd
theorem x_vretV (C : Cx Γ cc nL own fr lo) (hX : XW G A (gs Γ) H locs μ) {r : MM} (hr : (gt Γ).sig.returnType = none) (hQ : RT Γ G A none r) (h : some μ = some r) (hd : decode cc pc = .ok (.return_, 1)) : WX Γ H locs pc ls [] := by
  obtain rfl := Option.some.inj h
  have e := x_end (cells := 0) (slots := 0) hX hQ
  unfold WX
  rw [hQ.1]
  exact W.vret C.1.1 C.1.2.1 hr e.1 e.2 hd C.2.1
theorem x_zret (C : Cx Γ cc nL own fr lo) (hX : XW G A (gs Γ) H locs μ) {x : Int32} (hb : x = 0 ∨ x = 1) (hr : (gt Γ).sig.returnType = some .boolean) (hQ : RT Γ G A (some (.int x)) μ) (hd : decode cc pc = .ok (.ireturn, 1)) : WX Γ H locs pc ls [.int x] := by
  have e := x_end (cells := 0) (slots := 0) hX hQ
  unfold WX
  rw [hQ.1]
  exact W.zret C.1.1 C.1.2.1 hr (bool_nar hb).1 e.1 e.2 hd C.2.1
theorem x_zretR (C : Cx Γ cc nL own fr lo) (hX : XW G A (gs Γ) H locs μ) {x r : Int32} (hr : (gt Γ).sig.returnType = some .boolean) (hQ : RT Γ G A (some (.int r)) μ) (h : gd (x = 0 ∨ x = 1) (some x) = some r) (hd : decode cc pc = .ok (.ireturn, 1)) : WX Γ H locs pc ls [.int x] := x_zret C hX (w_gd h).1 hr (by rw [Option.some.inj (w_gd h).2]; exact hQ) hd
theorem x_zretW (C : Cx Γ cc nL own fr lo) (hX : XW G A (gs Γ) H locs μ) {x : Int32} {r : Int32 × MM} (hr : (gt Γ).sig.returnType = some .boolean) (hQ : RT Γ G A (some (.int r.1)) r.2) (h : gd (x = 0 ∨ x = 1) (some (x, μ)) = some r) (hd : decode cc pc = .ok (.ireturn, 1)) : WX Γ H locs pc ls [.int x] := by
  obtain ⟨hb, h⟩ := w_gd h
  obtain rfl := Option.some.inj h
  exact x_zret C hX hb hr hQ hd
theorem x_aretR (C : Cx Γ cc nL own fr lo) (hX : XW G A (gs Γ) H locs μ) {x r : Nat} {n : String} (hr : (gt Γ).sig.returnType = some (.object n)) (hQ : RT Γ G A (some (.ref (G.2.1 r))) μ) (h : some x = some r) (hd : decode cc pc = .ok (.areturn, 1)) : WX Γ H locs pc ls [.ref (G.2.1 x)] := by
  obtain rfl := Option.some.inj h
  have e := x_end (cells := 0) (slots := 0) hX hQ
  unfold WX
  rw [hQ.1]
  exact W.aret C.1.1 C.1.2.1 hr (Or.inl ⟨n, rfl⟩) (Or.inr ⟨_, rfl⟩) e.1 e.2 hd C.2.1
/-! ===== calls ===== -/
theorem x_run {v : Option Value} {μ2 : MM} {st : List Value} {a : Array Value} (hr : va_Run (gp Γ) (gl Γ) (ge Γ) (gR Γ) (gs Γ) (gm Γ) (ga Γ) (gb Γ) (gt Γ) (gc Γ) H locs 0 0 0 0 (F0 (gm Γ) pc ls st) rest (XQ G H.size v μ2 a) (AA G H.size)) (hX : XW G A (gs Γ) H locs μ)
    (kk : ∀ (H1 : Heap) (locs1 : List Loc), XW G A (gs Γ) H1 locs1 μ2 → WX Γ H1 locs1 (pc + 3) ls (v.toList ++ rest)) : WX Γ H locs pc ls st := by
  intro T hT X
  obtain ⟨v0, st₀, t, T', L, h0, X', hL, e1, e2, ⟨hv, hp, hz, hk⟩, st1⟩ := hr T hT X
  cases hv
  rw [h0] at hz hk
  obtain ⟨t2, a1, b1⟩ := kk T'.heap (locs ++ L) ⟨by rw [e1]; exact hp, wA_D μ2 hX.2.1, ⟨Nat.le_trans hX.2.2.1.1 (by rw [e1]; exact hz), fun q h1 h2 => by rw [e1, hk q (Nat.lt_of_lt_of_le h1 hX.2.2.1.1) (fun z => h2 (hX.free q z))]; exact hX.2.2.1.2.1 q h1 h2, fun q hq => by
      rcases List.mem_append.mp hq with h | h
      · exact hX.2.2.1.2.2 q h
      · exact hX.free _ (hL q h)⟩, hX.2.2.2⟩ T' rfl X'
  exact ⟨t2, st1 t2 a1, b1⟩
theorem gV {own2 Cn : String} {idx maxL : Nat} {y : MethodName} {bytes : ByteArray} {ret : Option FieldType} (w1 : Cond.methodLink own2 idx y ∈ TT) (w2 : Cond.instanceMethod y ∈ TT) (w3 : Cond.selects Cn y y ∈ TT) (w4 : Cond.initialized Cn ∈ TT) (w5 : Cond.code y bytes maxL ret ∈ TT) : GoodIn TT (wsV own2 idx Cn y (Cond.code y bytes maxL ret :: TT)) := by
  intro w hw
  rcases List.mem_append.mp hw with h | h
  · simp only [List.mem_cons, List.not_mem_nil, or_false] at h
    rcases h with rfl | rfl | rfl | rfl
    · exact TT_self _ w1
    · exact TT_self _ w2
    · exact TT_self _ w3
    · exact TT_self _ w4
  · exact TT_cons w5 w h
theorem x_callV (C : Cx Γ cc nL own fr lo) (hX : XW G A (gs Γ) H locs μ) {k ci N i idx maxL fr2 lo2 : Nat} {T : u_T} {vv : (Nat → Int32) → Value} {Cn : String} {y : MethodName} {bytes : ByteArray} {ret : Option FieldType} {As st : List Value} {lv : List (Nat × Value)} {v : Option Value} {μ2 : MM} (F : FG G k ci i Cn T N vv) (hM : XM (gl Γ) G y bytes maxL ret fr2 lo2 (.ref (G.2.1 k) :: As) μ v μ2) (rest : List Value) (hst : st = As.reverse ++ .ref (G.2.1 k) :: rest) (hl : lv_has ls nL lv) (w1 : Cond.methodLink own idx y ∈ TT) (w2 : Cond.instanceMethod y ∈ TT) (w3 : Cond.selects Cn y y ∈ TT) (w4 : Cond.initialized Cn ∈ TT) (w5 : Cond.code y bytes maxL ret ∈ TT) (hyc : y.cls = Cn) (hdm : y.cls ≠ "java/lang/invoke/MethodHandle" ∧ y.cls ≠ "java/lang/invoke/VarHandle" ∧ (parseMethodDescriptor y.desc).map (fun d => d.parameters.length) = some As.length) (hR : fr2 + 1 ≤ fr ∧ 8 + (maxL + 11) + lo2 ≤ lo) (hro : (rest.map fun v => v.category).sum ≤ 8) (hd : decode cc pc = .ok (.invokevirtual idx, 3)) (kk : ∀ (H1 : Heap) (locs1 : List Loc), XW G A (gs Γ) H1 locs1 μ2 → WX Γ H1 locs1 (pc + 3) ls (v.toList ++ rest)) : WX Γ H locs pc ls st := by
  obtain ⟨h1, h2, h3, h4, h5, fl, h6⟩ := F
  exact x_run (va_runV (As := As) (rest := rest) C.1 (hM H.size) (cwV As.length C.1.2.2.2.2 (gV w1 w2 w3 w4 w5) rfl rfl rfl ⟨hyc, hdm⟩ (by rw [C.2.2.1, C.2.2.2]; exact hR)) ⟨XM.blind G μ _ _, va_recv (q0 := k) hX.2.2.2.1.1 hX.1 h2 ((wA_get G μ h1).trans (congrArg some (h6 (μ k)).1)), fun U hU hW => ⟨rfl, by rw [hU], hX.pre hU hW⟩⟩ rfl rfl hl.1 hst (lv_room hro) hd ⟨Nat.zero_le _, Nat.zero_le _⟩) hX kk
theorem x_callS (C : Cx Γ cc nL own fr lo) (hX : XW G A (gs Γ) H locs μ) {idx maxL fr2 lo2 : Nat} {y : MethodName} {bytes : ByteArray} {ret : Option FieldType} {As st : List Value} {lv : List (Nat × Value)} {v : Option Value} {μ2 : MM} (hM : XM (gl Γ) G y bytes maxL ret fr2 lo2 As μ v μ2) (rest : List Value) (hst : st = As.reverse ++ rest) (hl : lv_has ls nL lv) (w1 : Cond.methodLink own idx y ∈ TT) (w2 : Cond.static y ∈ TT) (w4 : Cond.initialized y.cls ∈ TT) (w5 : Cond.code y bytes maxL ret ∈ TT) (hdm : y.cls ≠ "java/lang/invoke/MethodHandle" ∧ y.cls ≠ "java/lang/invoke/VarHandle" ∧ (parseMethodDescriptor y.desc).map (fun d => d.parameters.length) = some As.length) (hR : fr2 + 1 ≤ fr ∧ 8 + (maxL + 11) + lo2 ≤ lo) (hro : (rest.map fun v => v.category).sum ≤ 8) (hd : decode cc pc = .ok (.invokestatic idx, 3)) (kk : ∀ (H1 : Heap) (locs1 : List Loc), XW G A (gs Γ) H1 locs1 μ2 → WX Γ H1 locs1 (pc + 3) ls (v.toList ++ rest)) : WX Γ H locs pc ls st := x_run (va_runS (As := As) (rest := rest) C.1 (hM H.size) ⟨callB_of As.length C.1.2.2.2.2 (TT_cons w5) rfl rfl rfl (C.w w4) (C.w w1) hdm (by rw [C.2.2.1, C.2.2.2]; exact hR), C.w w2⟩ ⟨XM.blind G μ _ _, fun U hU hW => ⟨rfl, by rw [hU], hX.pre hU hW⟩⟩ rfl rfl hl.1 hst (lv_room hro) hd ⟨Nat.zero_le _, Nat.zero_le _⟩) hX kk
theorem x_callSN (C : Cx Γ cc nL own fr lo) (hX : XW G A (gs Γ) H locs μ) {idx maxL fr2 lo2 : Nat} {host : String} {y : MethodName} {bytes : ByteArray} {ret : Option FieldType} {As st : List Value} {lv : List (Nat × Value)} {v : Option Value} {μ2 : MM} (hM : XM (gl Γ) G y bytes maxL ret fr2 lo2 As μ v μ2) (rest : List Value) (hst : st = As.reverse ++ rest) (hl : lv_has ls nL lv) (w1 : va_Nw (.methodLinkNest own idx y host) (gs Γ)) (w2 : Cond.static y ∈ TT) (w4 : Cond.initialized y.cls ∈ TT) (w5 : Cond.code y bytes maxL ret ∈ TT) (hdm : y.cls ≠ "java/lang/invoke/MethodHandle" ∧ y.cls ≠ "java/lang/invoke/VarHandle" ∧ (parseMethodDescriptor y.desc).map (fun d => d.parameters.length) = some As.length) (hR : fr2 + 1 ≤ fr ∧ 8 + (maxL + 11) + lo2 ≤ lo) (hro : (rest.map fun v => v.category).sum ≤ 8) (hd : decode cc pc = .ok (.invokestatic idx, 3)) (kk : ∀ (H1 : Heap) (locs1 : List Loc), XW G A (gs Γ) H1 locs1 μ2 → WX Γ H1 locs1 (pc + 3) ls (v.toList ++ rest)) : WX Γ H locs pc ls st := x_run (va_runSN (As := As) (rest := rest) C.1 (hM H.size) ⟨va_cnB As.length C.1.2.2.2.2 (TT_cons w5) rfl rfl rfl w1 (C.w w4) hdm (by rw [C.2.2.1, C.2.2.2]; exact hR), C.w w2, trivial⟩ ⟨XM.blind G μ _ _, fun U hU hW => ⟨rfl, by rw [hU], hX.pre hU hW⟩⟩ rfl rfl hl.1 hst (lv_room hro) hd ⟨Nat.zero_le _, Nat.zero_le _⟩) hX kk
theorem w_bdr {α : Type} {x : Option α} {f : α → Option β} (h : bdr x f = some out) : ∃ r, x = some r ∧ f r = some out := by
  cases x with
  | none => cases h
  | some r => exact ⟨r, rfl, h⟩
theorem w_bdw {α : Type} {x : Option (α × MM)} {f : α → MM → Option β} (h : bdw x f = some out) : ∃ r, x = some r ∧ f r.1 r.2 = some out := by
  cases x with
  | none => cases h
  | some r => exact ⟨r, rfl, h⟩
theorem x_min (C : Cx Γ cc nL own fr lo) {idx : Nat} {lv : List (Nat × Value)} {x y : Int32} (hl : lv_has ls nL lv) (w1 : Cond.methodLink own idx Lib.Math.min.name ∈ TT) (w2 : Cond.static Lib.Math.min.name ∈ TT) (w4 : Cond.initialized "java/lang/Math" ∈ TT) (w5 : Cond.code Lib.Math.min.name Lib.Math.min.code 2 (some .int) ∈ TT) (hf : 1 ≤ fr) (hro : (rest.map fun v => v.category).sum + 13 ≤ lo) (hd : decode cc pc = .ok (.invokestatic idx, 3)) (kk : WX Γ H locs (pc + 3) ls (.int (imin x y) :: rest)) : WX Γ H locs pc ls (.int y :: .int x :: rest) := va_mmin C.1.1 C.1.2.1 (C.1.2.2.1.trans hl.1.symm) C.1.2.2.2.1 (C.w w1) (C.w w2) (C.w w4) (C.w w5) (by rw [C.2.2.1]; exact hf) (by rw [C.2.2.2]; exact hro) (Nat.zero_le _) (Nat.zero_le _) hd kk
theorem x_max (C : Cx Γ cc nL own fr lo) {idx : Nat} {lv : List (Nat × Value)} {x y : Int32} (hl : lv_has ls nL lv) (w1 : Cond.methodLink own idx Lib.Math.max.name ∈ TT) (w2 : Cond.static Lib.Math.max.name ∈ TT) (w4 : Cond.initialized "java/lang/Math" ∈ TT) (w5 : Cond.code Lib.Math.max.name Lib.Math.max.code 2 (some .int) ∈ TT) (hf : 1 ≤ fr) (hro : (rest.map fun v => v.category).sum + 13 ≤ lo) (hd : decode cc pc = .ok (.invokestatic idx, 3)) (kk : WX Γ H locs (pc + 3) ls (.int (imax x y) :: rest)) : WX Γ H locs pc ls (.int y :: .int x :: rest) := va_mmax C.1.1 C.1.2.1 (C.1.2.2.1.trans hl.1.symm) C.1.2.2.2.1 (C.w w1) (C.w w2) (C.w w4) (C.w w5) (by rw [C.2.2.1]; exact hf) (by rw [C.2.2.2]; exact hro) (Nat.zero_le _) (Nat.zero_le _) hd kk
theorem x_abs (C : Cx Γ cc nL own fr lo) {idx : Nat} {lv : List (Nat × Value)} {x : Int32} (hl : lv_has ls nL lv) (w1 : Cond.methodLink own idx Lib.Math.abs.name ∈ TT) (w2 : Cond.static Lib.Math.abs.name ∈ TT) (w4 : Cond.initialized "java/lang/Math" ∈ TT) (w5 : Cond.code Lib.Math.abs.name Lib.Math.abs.code 1 (some .int) ∈ TT) (hf : 1 ≤ fr) (hro : (rest.map fun v => v.category).sum + 13 ≤ lo) (hd : decode cc pc = .ok (.invokestatic idx, 3)) (kk : WX Γ H locs (pc + 3) ls (.int (iabs x) :: rest)) : WX Γ H locs pc ls (.int x :: rest) := va_mabs C.1.1 C.1.2.1 (C.1.2.2.1.trans hl.1.symm) C.1.2.2.2.1 (C.w w1) (C.w w2) (C.w w4) (C.w w5) (by rw [C.2.2.1]; exact hf) (by rw [C.2.2.2]; exact hro) (Nat.zero_le _) (Nat.zero_le _) hd kk
theorem x_acopy (C : Cx Γ cc nL own fr lo) (hX : XW G A (gs Γ) H locs μ) {idx k n k2 n2 : Nat} {sp dp len : Int32} {lv : List (Nat × Value)} {f : MM → Option β} (F : AI G k n) (F2 : AI G k2 n2) (h : acp μ k n k2 n2 sp dp len f = some out) (hl : lv_has ls nL lv) (w1 : Cond.methodLink own idx arraycopyName ∈ TT) (w2 : Cond.native arraycopyName ∈ TT) (w3 : Cond.static arraycopyName ∈ TT) (w4 : Cond.initialized "java/lang/System" ∈ TT) (hf : 1 ≤ fr) (hro : (rest.map fun v => v.category).sum + (nativeFrameWords "java/lang/System" "arraycopy" 5 + 11) ≤ lo) (hd : decode cc pc = .ok (.invokestatic idx, 3)) (kk : ∀ (H1 : Heap) (locs1 : List Loc) (μ1 : MM), f μ1 = some out → XW G A (gs Γ) H1 locs1 μ1 → WX Γ H1 locs1 (pc + 3) ls rest) : WX Γ H locs pc ls (.int len :: .int dp :: .ref (G.2.1 k2) :: .int sp :: .ref (G.2.1 k) :: rest) := by
  unfold acp at h
  split at h
  case isTrue q =>
    refine va_copyi C.1.1 C.1.2.1 (C.1.2.2.1.trans hl.1.symm) C.1.2.2.2.1 (C.w w1) (C.w w2) (C.w w3) (C.w w4) hX.2.2.2.1.1 hX.1 hX.2.1 hX.2.2.1 k k2 0 0 (ty := .int) ((wA_get G μ F.1).trans (congrArg some (F.2 (μ k)))) ((wA_get G μ F2.1).trans (congrArg some (F2.2 (μ k2)))) rfl rfl rfl q.1 q.2.1 q.2.2.1 q.2.2.2.1 q.2.2.2.2 (fun _ _ => rfl) (by rw [C.2.2.1]; exact hf) (by rw [C.2.2.2]; exact hro) hd (fun H1 locs1 p1 d1 s1 => ?_)
    rw [← F2.2, wA_set G μ F2.1] at p1 d1
    exact kk H1 locs1 _ h ⟨p1, d1, s1, hX.2.2.2⟩
  case isFalse q => cases h
end XR
