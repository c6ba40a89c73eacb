theorem E4.warm {s U : State} (hW : s.WarmedH U.vm) (h : E4 s) : E4 U := ⟨va_Nw.warmM hW h.1, va_Nw.warmM hW h.2.1, va_Nw.warmM hW h.2.2.1, va_AO.moved hW.alike h.2.2.2⟩
theorem E4.same {u U : State} (ha : u.vm.Alike U.vm) (hv : u.vm = U.vm) (h : E4 u) : E4 U := ⟨va_Nw.same rfl hv h.1, va_Nw.same rfl hv h.2.1, va_Nw.same rfl hv h.2.2.1, va_AO.moved ha h.2.2.2⟩
theorem E5.warm {G : EN} {A : Nat → Prop} {s U : State} {H : Heap} (hW : s.WarmedH U.vm) (h : E5 G A s H) : E5 G A U H := ⟨fun q hq => vk_R.warm hW (h.1 q hq), va_AO.moved hW.alike h.2.1, fun i hi => va_O.moved hW.alike (h.2.2 i hi)⟩
theorem E5.same {G : EN} {A : Nat → Prop} {u U : State} {H : Heap} (ha : u.vm.Alike U.vm) (hv : u.vm = U.vm) (h : E5 G A u H) : E5 G A U H := ⟨fun q hq => vk_R.same hv.symm (h.1 q hq), va_AO.moved ha h.2.1, fun i hi => va_O.moved ha (h.2.2 i hi)⟩
theorem E5.kept {G : EN} {A B : Nat → Prop} {s : State} {H H1 : Heap} (hq : ∀ a : Nat, a < H.size → ¬ A a → H1[a]? = H[a]?) (hAB : ∀ q, B q → A q) (h : E5 G A s H) : E5 G B s H1 := ⟨h.1, h.2.1, fun i hi => ((h.2.2 i hi).kept hq).narrow hAB⟩
theorem arrV_c {c : ClassId} {n : Nat} {f g : Nat → Value} (h : ∀ j, j < n → f j = g j) : arrV c n f = arrV c n g := by
  unfold arrV
  congr 1
  congr 1
  funext j
  exact h j.val j.isLt
theorem st_K {s : State} {b : Nat} (g : TA s b) : ∃ (D : va_G) (cA : Nat → ClassId), va_K D vwCl [(cA 0, .int), (cA 1, .boolean), (cA 2, .object "NavyOfCats$Sheet"), (cA 3, .object "java/lang/String")] s := by
  have hts : ∀ w ∈ TT, w.before #[Value.ref b] s = true := fun w hw => g w (TT_in w hw).1
  obtain ⟨c0, i0, k0⟩ := u_known (C := RX0) (T := TX0) (N := 14) (n := 14) hts inTX0 (hts _ tw1_24)
  obtain ⟨c1, i1, k1⟩ := u_known (C := RX1) (T := TX1) (N := 8) (n := 8) hts inTX1 (hts _ tw1_116)
  obtain ⟨c2, i2, k2⟩ := u_known (C := RX2) (T := TX2) (N := 3) (n := 3) hts inTX2 (hts _ tw1_148)
  obtain ⟨c3, i3, k3⟩ := u_known (C := RX3) (T := TX3) (N := 2) (n := 2) hts inTX3 (hts _ tw1_100)
  obtain ⟨c4, i4, k4⟩ := u_known (C := RX4) (T := TX4) (N := 9) (n := 9) hts inTX4 (hts _ tw1_16)
  obtain ⟨c5, i5, k5⟩ := u_known (C := RX5) (T := TX5) (N := 26) (n := 26) hts inTX5 (hts _ tw4_69)
  obtain ⟨a0, q0, p0, f0, h0, t0⟩ := Cond.arrayClass_spec (args := #[Value.ref b]) (first := s) (o := none) (s := s) (idx := []) (hts _ tw1_97)
  obtain ⟨a1, q1, p1, f1, h1, t1⟩ := Cond.arrayClass_spec (args := #[Value.ref b]) (first := s) (o := none) (s := s) (idx := []) (hts _ tw1_98)
  obtain ⟨p2, a2, q2, f2, x2, h2, t2, n2⟩ := Cond.arrayOver_spec (args := #[]) (first := s) (o := none) (s := s) (idx := []) (st_e4 g).2.2.2
  obtain ⟨p3, a3, q3, f3, x3, h3, t3, n3⟩ := Cond.arrayOver_spec (args := #[]) (first := s) (o := none) (s := s) (idx := []) (st_ao g)
  refine ⟨(fun k => match k with | 0 => c0 | 1 => c1 | 2 => c2 | 3 => c3 | 4 => c4 | _ => c5, fun k => match k with | 0 => i0 | 1 => i1 | 2 => i2 | 3 => i3 | 4 => i4 | _ => i5), fun k => match k with | 0 => a0 | 1 => a1 | 2 => a2 | _ => a3, fun k q hq => ?_, fun k q hq => ?_⟩
  · match k, hq with
    | 0, hq => cases hq; exact k0
    | 1, hq => cases hq; exact k1
    | 2, hq => cases hq; exact k2
    | 3, hq => cases hq; exact k3
    | 4, hq => cases hq; exact k4
    | 5, hq => cases hq; exact k5
    | k + 6, hq => simp [vwCl] at hq
  · match k, hq with
    | 0, hq => cases hq; exact ⟨fun n z => ⟨(fun k h => by cases h), q0, h0, p0, t0⟩, f0⟩
    | 1, hq => cases hq; exact ⟨fun n z => ⟨(fun k h => by cases h), q1, h1, p1, t1⟩, f1⟩
    | 2, hq => cases hq; exact ⟨fun n z => ⟨(fun k h => by cases h), q2, h2, p2, t2⟩, q2, p2, h2, t2, f2, n2⟩
    | 3, hq => cases hq; exact ⟨fun n z => ⟨(fun k h => by cases h), q3, h3, p3, t3⟩, q3, p3, h3, t3, f3, n3⟩
    | k + 4, hq => simp at hq
/-- the first memory -/
def μ0 : MM := fun k => match k with
  | 1 => fun i => match i with | 10 => 100 | 12 => 1 | _ => 0
  | 9 => (fun j => if j < 10 then (-1) else (fun _ => 0 : Nat → Int32) j)
  | 10 => fun i => match i with | 10 => 100 | 12 => 1 | _ => 0
  | 18 => (fun j => if j < 10 then (-1) else (fun _ => 0 : Nat → Int32) j)
  | 38 => (upd ((upd ((upd ((upd ((upd ((upd ((upd ((upd ((upd ((upd ((upd ((upd (fun _ => 0) 1 100)) 5 1)) 6 (-1))) 7 (-1))) 8 (-1))) 9 (-1))) 10 (-1))) 11 (-1))) 12 (-1))) 13 (-1))) 14 (-1))) 15 (-1))
  | 42 => (upd ((upd ((upd ((upd ((upd ((upd ((upd ((upd (fun _ => 0) 0 (-1))) 1 (-1))) 2 0)) 3 1)) 4 1)) 5 1)) 6 0)) 7 (-1))
  | 43 => (upd ((upd ((upd ((upd ((upd ((upd ((upd ((upd (fun _ => 0) 0 0)) 1 1)) 2 1)) 3 1)) 4 0)) 5 (-1))) 6 (-1))) 7 (-1))
  | _ => fun _ => 0
/-- the addresses -/
def adr (x0 y0 : Nat) (u w : Nat → Nat) (kv : Nat → Nat × Nat) : Nat → Nat := fun k => if k < 51 then (match k with | 0 => x0 | 1 => u 0 | 2 => u 12 | 3 => u 13 | 4 => u 14 | 5 => u 15 | 6 => u 16 | 7 => u 17 | 8 => u 18 | 9 => u 19 | 10 => u 1 | 11 => u 20 | 12 => u 21 | 13 => u 22 | 14 => u 23 | 15 => u 24 | 16 => u 25 | 17 => u 26 | 18 => u 27 | 19 => u 2 | 20 => u 28 | 21 => u 3 | 22 => u 29 | 23 => u 30 | 24 => u 31 | 25 => u 4 | 26 => u 8 | 27 => u 32 | 28 => u 9 | 29 => u 33 | 30 => u 10 | 31 => u 34 | 32 => u 11 | 33 => u 35 | 34 => u 5 | 35 => u 6 | 36 => u 7 | 37 => y0 | 38 => w 0 | 39 => w 1 | 40 => w 2 | 41 => w 3 | 42 => w 4 | 43 => w 5 | 44 => w 6 | 45 => w 7 | 46 => w 8 | 47 => w 9 | 48 => w 10 | 49 => w 11 | _ => w 12) else if k < 200 then (kv (k - 100)).1 else (kv (k - 200)).2
def wPL (G : EN) (x0 y0 : Nat) (u w : Nat → Nat) : va_W := [(x0, .inr (4, [.ref (u 0), .ref (u 1), .int 0, .ref (u 2), .ref (u 3), .ref (u 4), .ref (u 5), .ref (u 6), .ref (u 7)])), (u 0, .inr (0, [.int 0, .ref (u 12), .ref (u 13), .ref (u 14), .ref (u 15), .ref (u 16), .ref (u 17), .ref (u 18), .int 0, .int 0, .int 100, .int 0, .int 1, .ref (u 19)])), (u 12, .inl (G.2.2.1 0, 8, .inl fun _ => 0)), (u 13, .inl (G.2.2.1 0, 8, .inl fun _ => 0)), (u 14, .inl (G.2.2.1 0, 8, .inl fun _ => 0)), (u 15, .inl (G.2.2.1 0, 4, .inl fun _ => 0)), (u 16, .inl (G.2.2.1 0, 4, .inl fun _ => 0)), (u 17, .inl (G.2.2.1 0, 4, .inl fun _ => 0)), (u 18, .inl (G.2.2.1 1, 100, .inl fun _ => 0)), (u 19, .inl (G.2.2.1 0, 10, .inl (fun j => if j < 10 then (-1) else (fun _ => 0 : Nat → Int32) j))), (u 1, .inr (0, [.int 0, .ref (u 20), .ref (u 21), .ref (u 22), .ref (u 23), .ref (u 24), .ref (u 25), .ref (u 26), .int 0, .int 0, .int 100, .int 0, .int 1, .ref (u 27)])), (u 20, .inl (G.2.2.1 0, 8, .inl fun _ => 0)), (u 21, .inl (G.2.2.1 0, 8, .inl fun _ => 0)), (u 22, .inl (G.2.2.1 0, 8, .inl fun _ => 0)), (u 23, .inl (G.2.2.1 0, 4, .inl fun _ => 0)), (u 24, .inl (G.2.2.1 0, 4, .inl fun _ => 0)), (u 25, .inl (G.2.2.1 0, 4, .inl fun _ => 0)), (u 26, .inl (G.2.2.1 1, 100, .inl fun _ => 0)), (u 27, .inl (G.2.2.1 0, 10, .inl (fun j => if j < 10 then (-1) else (fun _ => 0 : Nat → Int32) j))), (u 2, .inr (3, [.ref (u 28), .int 0])), (u 28, .inl (G.2.2.1 0, 120, .inl fun _ => 0)), (u 3, .inr (1, [.ref (u 29), .ref (u 30), .ref (u 31), .int 0, .int 0, .int 0, .int 0, .int 0])), (u 29, .inl (G.2.2.1 0, 121, .inl fun _ => 0)), (u 30, .inl (G.2.2.1 0, 121, .inl fun _ => 0)), (u 31, .inl (G.2.2.1 0, 121, .inl fun _ => 0)), (u 4, .inl (G.2.2.1 2, 4, .inr (.inr (.inr (.inr (va_up (va_up (va_up (va_up (fun _ => none) 0 (some ((u 8)))) 1 (some ((u 9)))) 2 (some ((u 10)))) 3 (some ((u 11))))))))), (u 8, .inr (2, [.int 0, .int 0, .ref (u 32)])), (u 32, .inl (G.2.2.1 0, 40, .inl fun _ => 0)), (u 9, .inr (2, [.int 0, .int 0, .ref (u 33)])), (u 33, .inl (G.2.2.1 0, 40, .inl fun _ => 0)), (u 10, .inr (2, [.int 0, .int 0, .ref (u 34)])), (u 34, .inl (G.2.2.1 0, 40, .inl fun _ => 0)), (u 11, .inr (2, [.int 0, .int 0, .ref (u 35)])), (u 35, .inl (G.2.2.1 0, 40, .inl fun _ => 0)), (u 5, .inl (G.2.2.1 0, 7, .inl fun _ => 0)), (u 6, .inl (G.2.2.1 0, 60, .inl fun _ => 0)), (u 7, .inl (G.2.2.1 0, 4, .inl fun _ => 0)), (y0, .inr (5, [.ref (w 0), .ref (w 1), .ref (w 2), .int 0, .ref (w 3), .ref (w 4), .ref (w 5), .int 0, .int 0, .int 0, .ref (w 6), .int 0, .int 0, .int 0, .int 0, .int 0, .int 0, .ref (w 7), .ref (w 8), .int 0, .int 0, .int 0, .ref (w 9), .ref (w 10), .ref (w 11), .ref (w 12)])), (w 0, .inl (G.2.2.1 0, 152, .inl (upd ((upd ((upd ((upd ((upd ((upd ((upd ((upd ((upd ((upd ((upd ((upd (fun _ => 0) 1 100)) 5 1)) 6 (-1))) 7 (-1))) 8 (-1))) 9 (-1))) 10 (-1))) 11 (-1))) 12 (-1))) 13 (-1))) 14 (-1))) 15 (-1)))), (w 1, .inl (G.2.2.1 0, 152, .inl fun _ => 0)), (w 2, .inl (G.2.2.1 0, 152, .inl fun _ => 0)), (w 3, .inl (G.2.2.1 0, 8, .inl fun _ => 0)), (w 4, .inl (G.2.2.1 0, 8, .inl (upd ((upd ((upd ((upd ((upd ((upd ((upd ((upd (fun _ => 0) 0 (-1))) 1 (-1))) 2 0)) 3 1)) 4 1)) 5 1)) 6 0)) 7 (-1)))), (w 5, .inl (G.2.2.1 0, 8, .inl (upd ((upd ((upd ((upd ((upd ((upd ((upd ((upd (fun _ => 0) 0 0)) 1 1)) 2 1)) 3 1)) 4 0)) 5 (-1))) 6 (-1))) 7 (-1)))), (w 6, .inl (G.2.2.1 0, 120, .inl fun _ => 0)), (w 7, .inl (G.2.2.1 3, 7, .inr (.inr (.inr (.inr (va_up (va_up (va_up (va_up (va_up (va_up (va_up (fun _ => none) 0 (some ((G.2.1 (100 + 0))))) 1 (some ((G.2.1 (100 + 1))))) 2 (some ((G.2.1 (100 + 2))))) 3 (some ((G.2.1 (100 + 3))))) 4 (some ((G.2.1 (100 + 4))))) 5 (some ((G.2.1 (100 + 5))))) 6 (some ((G.2.1 (100 + 6)))))))))), (w 8, .inl (G.2.2.1 0, 360, .inl fun _ => 0)), (w 9, .inl (G.2.2.1 0, 4, .inl fun _ => 0)), (w 10, .inl (G.2.2.1 0, 4, .inl fun _ => 0)), (w 11, .inl (G.2.2.1 0, 160, .inl fun _ => 0)), (w 12, .inl (G.2.2.1 0, 40, .inl fun _ => 0))]
theorem wPL_k (G : EN) (x0 y0 : Nat) (u w : Nat → Nat) (kv : Nat → Nat × Nat) {k : Nat} (hk : k < 51) : ∃ x, (wPL G x0 y0 u w)[k]? = some x ∧ x.1 = adr x0 y0 u w kv k := by
  rcases (by omega : k = 0 ∨ k = 1 ∨ k = 2 ∨ k = 3 ∨ k = 4 ∨ k = 5 ∨ k = 6 ∨ k = 7 ∨ k = 8 ∨ k = 9 ∨ k = 10 ∨ k = 11 ∨ k = 12 ∨ k = 13 ∨ k = 14 ∨ k = 15 ∨ k = 16 ∨ k = 17 ∨ k = 18 ∨ k = 19 ∨ k = 20 ∨ k = 21 ∨ k = 22 ∨ k = 23 ∨ k = 24 ∨ k = 25 ∨ k = 26 ∨ k = 27 ∨ k = 28 ∨ k = 29 ∨ k = 30 ∨ k = 31 ∨ k = 32 ∨ k = 33 ∨ k = 34 ∨ k = 35 ∨ k = 36 ∨ k = 37 ∨ k = 38 ∨ k = 39 ∨ k = 40 ∨ k = 41 ∨ k = 42 ∨ k = 43 ∨ k = 44 ∨ k = 45 ∨ k = 46 ∨ k = 47 ∨ k = 48 ∨ k = 49 ∨ k = 50) with rfl | rfl | rfl | rfl | rfl | rfl | rfl | rfl | rfl | rfl | rfl | rfl | rfl | rfl | rfl | rfl | rfl | rfl | rfl | rfl | rfl | rfl | rfl | rfl | rfl | rfl | rfl | rfl | rfl | rfl | rfl | rfl | rfl | rfl | rfl | rfl | rfl | rfl | rfl | rfl | rfl | rfl | rfl | rfl | rfl | rfl | rfl | rfl | rfl | rfl | rfl <;> exact ⟨_, rfl, rfl⟩
set_option maxHeartbeats 4000000 in
theorem wPL_P {D : va_G} {cA : Nat → ClassId} {sd : Nat → Nat} {ad0 : Nat → Nat} {x0 y0 : Nat} {u w : Nat → Nat} {kv : Nat → Nat × Nat} {H : Heap} (hs : ∀ i, i < 18 → ad0 (100 + i) = (kv i).1) (h : va_P D vwCl (wPL (D, ad0, cA, sd) x0 y0 u w) H) : va_P D vwCl (wA (D, adr x0 y0 u w kv, cA, sd) μ0) H := by
  intro k q hk
  obtain ⟨h1, rfl⟩ := wA_inv hk
  rcases (by omega : k = 0 ∨ k = 1 ∨ k = 2 ∨ k = 3 ∨ k = 4 ∨ k = 5 ∨ k = 6 ∨ k = 7 ∨ k = 8 ∨ k = 9 ∨ k = 10 ∨ k = 11 ∨ k = 12 ∨ k = 13 ∨ k = 14 ∨ k = 15 ∨ k = 16 ∨ k = 17 ∨ k = 18 ∨ k = 19 ∨ k = 20 ∨ k = 21 ∨ k = 22 ∨ k = 23 ∨ k = 24 ∨ k = 25 ∨ k = 26 ∨ k = 27 ∨ k = 28 ∨ k = 29 ∨ k = 30 ∨ k = 31 ∨ k = 32 ∨ k = 33 ∨ k = 34 ∨ k = 35 ∨ k = 36 ∨ k = 37 ∨ k = 38 ∨ k = 39 ∨ k = 40 ∨ k = 41 ∨ k = 42 ∨ k = 43 ∨ k = 44 ∨ k = 45 ∨ k = 46 ∨ k = 47 ∨ k = 48 ∨ k = 49 ∨ k = 50) with rfl | rfl | rfl | rfl | rfl | rfl | rfl | rfl | rfl | rfl | rfl | rfl | rfl | rfl | rfl | rfl | rfl | rfl | rfl | rfl | rfl | rfl | rfl | rfl | rfl | rfl | rfl | rfl | rfl | rfl | rfl | rfl | rfl | rfl | rfl | rfl | rfl | rfl | rfl | rfl | rfl | rfl | rfl | rfl | rfl | rfl | rfl | rfl | rfl | rfl | rfl
  · exact h 0 _ rfl
  · exact h 1 _ rfl
  · exact h 2 _ rfl
  · exact h 3 _ rfl
  · exact h 4 _ rfl
  · exact h 5 _ rfl
  · exact h 6 _ rfl
  · exact h 7 _ rfl
  · exact h 8 _ rfl
  · exact h 9 _ rfl
  · exact h 10 _ rfl
  · exact h 11 _ rfl
  · exact h 12 _ rfl
  · exact h 13 _ rfl
  · exact h 14 _ rfl
  · exact h 15 _ rfl
  · exact h 16 _ rfl
  · exact h 17 _ rfl
  · exact h 18 _ rfl
  · exact h 19 _ rfl
  · exact h 20 _ rfl
  · exact h 21 _ rfl
  · exact h 22 _ rfl
  · exact h 23 _ rfl
  · exact h 24 _ rfl
  · have e := h 25 _ rfl
    show H[_]? = some (vp_cell _ _)
    refine (show H[_]? = some (vp_cell _ _) from e).trans (congrArg some ?_)
    rw [vp_cell_q, vp_cell_q]
    refine arrV_c (fun j hj => ?_)
    rcases (by omega : j = 0 ∨ j = 1 ∨ j = 2 ∨ j = 3) with rfl | rfl | rfl | rfl <;> rfl
  · exact h 26 _ rfl
  · exact h 27 _ rfl
  · exact h 28 _ rfl
  · exact h 29 _ rfl
  · exact h 30 _ rfl
  · exact h 31 _ rfl
  · exact h 32 _ rfl
  · exact h 33 _ rfl
  · exact h 34 _ rfl
  · exact h 35 _ rfl
  · exact h 36 _ rfl
  · exact h 37 _ rfl
  · exact h 38 _ rfl
  · exact h 39 _ rfl
  · exact h 40 _ rfl
  · exact h 41 _ rfl
  · exact h 42 _ rfl
  · exact h 43 _ rfl
  · exact h 44 _ rfl
  · have e := h 45 _ rfl
    show H[_]? = some (vp_cell _ _)
    refine (show H[_]? = some (vp_cell _ _) from e).trans (congrArg some ?_)
    rw [vp_cell_q, vp_cell_q]
    refine arrV_c (fun j hj => ?_)
    have e7 : ∀ i, i < 7 → ad0 (100 + i) = adr x0 y0 u w kv (100 + i) := fun i hi => by
      rw [hs i (by omega)]
      unfold adr
      rw [if_neg (by omega), if_pos (by omega), Nat.add_sub_cancel_left]
    rcases (by omega : j = 0 ∨ j = 1 ∨ j = 2 ∨ j = 3 ∨ j = 4 ∨ j = 5 ∨ j = 6) with rfl | rfl | rfl | rfl | rfl | rfl | rfl
    · exact congrArg (fun a => va_rf (some a)) (e7 0 (by decide))
    · exact congrArg (fun a => va_rf (some a)) (e7 1 (by decide))
    · exact congrArg (fun a => va_rf (some a)) (e7 2 (by decide))
    · exact congrArg (fun a => va_rf (some a)) (e7 3 (by decide))
    · exact congrArg (fun a => va_rf (some a)) (e7 4 (by decide))
    · exact congrArg (fun a => va_rf (some a)) (e7 5 (by decide))
    · exact congrArg (fun a => va_rf (some a)) (e7 6 (by decide))
  · exact h 46 _ rfl
  · exact h 47 _ rfl
  · exact h 48 _ rfl
  · exact h 49 _ rfl
  · exact h 50 _ rfl
theorem wPL_D {A : Nat → Prop} {G : EN} {x0 y0 : Nat} {u w : Nat → Nat} {kv : Nat → Nat × Nat} {D : va_G} {cA : Nat → ClassId} {sd : Nat → Nat} (h : va_D A (wPL G x0 y0 u w)) : va_D A (wA (D, adr x0 y0 u w kv, cA, sd) μ0) := by
  refine ⟨fun i j p q hi hj e => ?_, fun k q hk => ?_⟩
  · obtain ⟨h1, rfl⟩ := wA_inv hi
    obtain ⟨h2, rfl⟩ := wA_inv hj
    rw [celA, celA] at e
    obtain ⟨a, a1, a2⟩ := wPL_k G x0 y0 u w kv h1
    obtain ⟨b, b1, b2⟩ := wPL_k G x0 y0 u w kv h2
    exact h.1 i j a b a1 b1 (a2.trans (e.trans b2.symm))
  · obtain ⟨h1, rfl⟩ := wA_inv hk
    obtain ⟨a, a1, a2⟩ := wPL_k G x0 y0 u w kv h1
    rw [celA]
    have := h.2 k a a1
    rw [a2] at this
    exact this
set_option maxRecDepth 100000 in
theorem rel_0 : Rel μ0 := by
  have z38 : ∀ i, i ≠ 1 → i ≠ 5 → ¬ (6 ≤ i ∧ i ≤ 15) → μ0 38 i = 0 := fun i h1 h5 h6 => by
    show (upd ((upd ((upd ((upd ((upd ((upd ((upd ((upd ((upd ((upd ((upd ((upd (fun _ => 0) 1 100)) 5 1)) 6 (-1))) 7 (-1))) 8 (-1))) 9 (-1))) 10 (-1))) 11 (-1))) 12 (-1))) 13 (-1))) 14 (-1))) 15 (-1)) i = 0
    repeat rw [upd_o (by omega)]
  refine ⟨?_, ⟨0, by decide, fun i hi => ?_⟩, ⟨rfl, Or.inl rfl⟩, ⟨fun i hi => rfl, by decide⟩, ⟨0, by decide, rfl, rfl, fun i hi => absurd hi (Nat.not_lt_zero i)⟩, fun j hj => ?_, ?_⟩
  · have : ∀ i, i < 152 → μ0 (1 + cl i) (ps i) = μ0 38 i := by decide +kernel
    exact this
  · by_cases h1 : i = 1
    · subst h1
      exact ⟨100, by decide, rfl⟩
    by_cases h5 : i = 5
    · subst h5
      exact trivial
    by_cases h6 : 6 ≤ i ∧ i ≤ 15
    · have e : ∀ i, i < 16 → 6 ≤ i → μ0 38 i = -1 := by decide
      unfold ok
      repeat rw [if_neg (by omega)]
      rw [if_pos (by omega)]
      exact Or.inl (e i (by omega) h6.1)
    rw [z38 i h1 h5 h6]
    unfold ok
    by_cases a0 : i = 0
    · rw [if_pos a0]
      exact ⟨0, by decide, rfl⟩
    rw [if_neg a0, if_neg h1]
    by_cases a2 : i = 2
    · rw [if_pos a2]
      exact ⟨0, by decide, rfl⟩
    rw [if_neg a2]
    by_cases a3 : i = 3
    · rw [if_pos a3]
      exact ⟨0, by decide, rfl⟩
    rw [if_neg a3]
    by_cases a4 : i = 4
    · rw [if_pos a4]
      rfl
    rw [if_neg a4, if_neg h5, if_neg (by omega)]
    by_cases a5 : i < 116
    · rw [if_pos a5]
      exact Or.inl rfl
    rw [if_neg a5]
    by_cases a6 : i < 128
    · rw [if_pos a6]
      by_cases b1 : (i - 116) % 3 = 0
      · rw [if_pos b1]
        exact ⟨0, by decide, rfl⟩
      rw [if_neg b1]
      by_cases b2 : (i - 116) % 3 = 1
      · rw [if_pos b2]
        exact ⟨0, by decide, rfl⟩
      rw [if_neg b2]
      exact ⟨0, by decide, rfl⟩
    rw [if_neg a6]
    by_cases b1 : (i - 128) % 3 = 0
    · rw [if_pos b1]
      exact ⟨0, by decide, rfl⟩
    rw [if_neg b1]
    by_cases b2 : (i - 128) % 3 = 1
    · rw [if_pos b2]
      exact ⟨0, by decide, rfl⟩
    rw [if_neg b2]
    exact ⟨by decide, by decide⟩
  · rcases (by omega : j = 0 ∨ j = 1 ∨ j = 2 ∨ j = 3) with rfl | rfl | rfl | rfl <;> exact ⟨rfl, rfl, fun i hi => rfl, ⟨0, by decide, rfl⟩, Or.inl rfl⟩
  · have : ∀ j, j < 8 → μ0 42 j = tS 0 j ∧ μ0 43 j = tS 1 j := by decide +kernel
    exact this
