set_option maxHeartbeats 4000000 in
set_option maxRecDepth 100000 in
theorem n_fill (l : Launch) (G : EN) (h0 sz N : Nat) (hN : N < 2 ^ 31) (f : Nat → Int32) (v : Int32) : Met l yJ7_fill_53178 (Cond.code yJ7_fill_53178 cJ7_fill_53178 4 none :: TT) ({ frames := 0, cells := 0, slots := 0, locals := 0 }) (va_Pc [.ref h0, .int v] (fun U => U.heap.size = sz ∧ va_P G.1 vwCl [(h0, .inl (G.2.2.1 0, N, .inl f))] U.heap ∧ va_K G.1 vwCl (tyL G) U ∧ va_D (fun _ => True) [(h0, .inl (G.2.2.1 0, N, .inl f))])) (va_Qv (fun _ : Unit => True) (fun _ t => va_P G.1 vwCl [(h0, .inl (G.2.2.1 0, N, .inl (fun j => if j < N then v else f j)))] t.heap ∧ va_K G.1 vwCl (tyL G) t ∧ va_D (va_A [(h0, .inl (G.2.2.1 0, N, .inl f))] sz) [(h0, .inl (G.2.2.1 0, N, .inl (fun j => if j < N then v else f j)))]) (va_A [(h0, .inl (G.2.2.1 0, N, .inl f))] sz)) 0 0 (va_A [(h0, .inl (G.2.2.1 0, N, .inl f))] sz) := by
  refine Met.ofW (cc := cJ7_fill_53178) (maxL := 4) (ret := none) (by decide) rfl ?_
  intro p e s m args below meth c s₁ B hml hv
  obtain ⟨rfl, hsz, hP, hK, hD0⟩ := hv
  have hx := B.exec
  have hb := B.bytes
  have hr := B.returns
  subst hsz
  have hD := hD0.self (sz := s.heap.size)
  generalize hAe : va_A [(h0, .inl (G.2.2.1 0, N, .inl f))] s.heap.size = A at hD ⊢
  have hS : va_S A s.heap s.heap [] := va_S.rf
  have hl := lv_entry ([.ref h0, .int v]) (n := 4) (Nat.le_of_ble_eq_true rfl)
  rw [lg_entry_eq]
  generalize (lg_sl ([.ref h0, .int v]) ++ List.replicate (4 - (lg_sl ([.ref h0, .int v])).length) Slot.unset).toArray = ls at hl ⊢
  have hl : lv_has ls 4 [(0, .ref h0), (1, .int v)] := hl
  refine lv_iconst (v := 0) hx hb dJ7_fill_53178_0 (by decide) ?_
  refine lv_istore_n hx hb dJ7_fill_53178_1 rfl hl (by decide) (lv' := [(2, .int 0), (0, .ref h0), (1, .int v)]) rfl (fun ls hl => ?_)
  refine lv_aload_n hx hb dJ7_fill_53178_2 rfl (lv_at hl 1 rfl) ?_
  refine va_alen hx hb hK hP 0 0 rfl rfl (v := nI N) rfl dJ7_fill_53178_3 ?_
  refine lv_istore_n hx hb dJ7_fill_53178_4 rfl hl (by decide) (lv' := [(3, .int (nI N)), (2, .int (nI 0)), (0, .ref h0), (1, .int v)]) rfl (fun ls hl => ?_)
  have Lp : ∀ (d i : Nat) (H : Heap) (locs : List Loc) (ls : Array Slot) (g : Nat → Int32), i + d = N → lv_has ls 4 [(3, .int (nI N)), (2, .int (nI i)), (0, .ref h0), (1, .int v)] → va_P G.1 vwCl [(h0, .inl (G.2.2.1 0, N, .inl g))] H → va_D A [(h0, .inl (G.2.2.1 0, N, .inl g))] → va_S A s.heap H locs → g = (fun j => if j < i then v else f j) → W p l e (headSpec (Cond.code yJ7_fill_53178 cJ7_fill_53178 4 none :: TT) { frames := 0, cells := 0, slots := 0, locals := 0 }).room s m #[Value.ref h0, Value.int v] below meth c H locs 0 0 (MQ below (va_Qv (fun _ : Unit => True) (fun _ t => va_P G.1 vwCl [(h0, .inl (G.2.2.1 0, N, .inl (fun j => if j < N then v else f j)))] t.heap ∧ va_K G.1 vwCl (tyL G) t ∧ va_D A [(h0, .inl (G.2.2.1 0, N, .inl (fun j => if j < N then v else f j)))]) A) #[Value.ref h0, Value.int v] s 0 0 A) (F0 m 5 ls []) := by
    intro d
    induction d with
    | zero =>
      intro i H locs ls g hi hl hP hD hS hg
      have e : i = N := by omega
      subst e
      refine lv_iload_n hx hb dJ7_fill_53178_5 rfl (lv_at hl 1 rfl) ?_
      refine lv_iload_n hx hb dJ7_fill_53178_6 rfl (lv_at hl 0 rfl) ?_
      refine lv_icmp_ge (tgt := 20) hx hb dJ7_fill_53178_7 (by decide) (fun _ => ?_) (fun h => absurd (Int32.le_refl _) h)
      rw [hg] at hP hD
      exact W.vret hx hb hr (fun t ht hW => ⟨⟨(), rfl, trivial, by rw [ht]; exact hP, va_K.moved hW.alike hK, hD⟩, hS.F ht⟩) hS.2.2 dJ7_fill_53178_20
    | succ d ih =>
      intro i H locs ls g hi hl hP hD hS hg
      refine lv_iload_n hx hb dJ7_fill_53178_5 rfl (lv_at hl 1 rfl) ?_
      refine lv_iload_n hx hb dJ7_fill_53178_6 rfl (lv_at hl 0 rfl) ?_
      refine lv_icmp_ge (tgt := 20) hx hb dJ7_fill_53178_7 (by decide) (fun h => absurd h (nI_ge (by omega) hN)) (fun _ => ?_)
      refine lv_aload_n hx hb dJ7_fill_53178_10 rfl (lv_at hl 2 rfl) ?_
      refine lv_iload_n hx hb dJ7_fill_53178_11 rfl (lv_at hl 1 rfl) ?_
      refine lv_iload_n hx hb dJ7_fill_53178_12 rfl (lv_at hl 3 rfl) ?_
      refine va_iast hx hb hK hP hD hS 0 0 rfl rfl (inb_n (by omega) hN) dJ7_fill_53178_13 (fun H locs hP hD hS => ?_)
      refine lv_iinc (v := nI (i + 1)) hx hb dJ7_fill_53178_14 hl (k := 1) rfl (by rw [← nI_1]; rfl) (by decide) (lv' := [(2, .int (nI (i + 1))), (3, .int (nI N)), (0, .ref h0), (1, .int v)]) rfl (fun ls hl => ?_)
      refine lv_goto (tgt := 5) hx hb dJ7_fill_53178_17 (by decide) ?_
      refine ih (i + 1) H locs ls _ (by omega) (lv_sub hl [1, 0, 2, 3] rfl) hP hD hS ?_
      rw [nI_clamp (by omega), hg]
      funext j
      by_cases y : j = i
      · subst y
        rw [upd_at, if_pos (by omega)]
      · rw [upd_o y]
        by_cases z : j < i
        · rw [if_pos z, if_pos (by omega)]
        · rw [if_neg z, if_neg (by omega)]
  exact Lp N 0 _ _ ls f (by omega) hl hP hD hS (by funext j; rw [if_neg (by omega)])
