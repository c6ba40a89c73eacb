theorem and_63 (x : Int32) : ∃ k : Nat, k < 64 ∧ x &&& 63 = nI k := by
  refine ⟨(x.toBitVec &&& 63#32).toNat, ?_, Int32.toBitVec_inj.mp ?_⟩
  · rw [BitVec.toNat_and]
    exact Nat.lt_of_le_of_lt Nat.and_le_right (by decide)
  · rw [Int32.toBitVec_and]
    show x.toBitVec &&& 63#32 = BitVec.ofNat 32 (x.toBitVec &&& 63#32).toNat
    rw [BitVec.ofNat_toNat, BitVec.setWidth_eq]
set_option maxHeartbeats 4000000 in
set_option maxRecDepth 100000 in
theorem law_loop {Λ : LX} (h : LC Λ) : ∀ (d j : Nat) (μ : MM) (H : Heap) (locs : List Loc) (ls : Array Slot), ΛL Λ - j < d → j ≤ ΛL Λ → Rel μ → XW (ΛG Λ) (A0 (Λs Λ)) (Λs Λ) H locs μ → lv_has ls 4 (LSs Λ j) → LW Λ H locs 18 ls [] := by
  have hx := h.1.1
  have hb := h.1.2.1
  have hr := h.1.2.2.1
  have hlocks := h.1.2.2.2.2.2.2.2.2.1
  have hL : ΛL Λ ≤ 3072 := h.2
  intro d
  induction d with
  | zero =>
    intro j μ H locs ls hd
    omega
  | succ d ih =>
    intro j μ H locs ls hd hj hR hX hl
    refine lv_iload_n hx hb dL_law_18 rfl (lv_at hl 0 rfl) ?_
    refine lv_aload_n hx hb dL_law_19 rfl (lv_at hl 3 rfl) ?_
    refine va_slen hx hb h.1.2.2.2.2.2.2.1 h.1.2.2.2.2.2.2.2.1 (A0_n _ _ h.1.2.2.2.2.2.2.2.1) hX.2.2.1 dL_law_20 ?_
    refine lv_bipush (v := 6) hx hb dL_law_21 (by decide) ?_
    refine lv_isub hx hb dL_law_23 ?_
    refine lv_icmp_gt (tgt := 1700) hx hb dL_law_24 (by decide) (fun _ => ?_) (fun hn => ?_)
    · refine lv_iconst (v := 1) hx hb dL_law_1700 (by decide) ?_
      refine va_forget (fun q hq => hX.2.2.1.2.2 q hq) ?_
      exact lw_ret hx hb hr hlocks dL_law_1701
    · have hj6 : j + 6 ≤ ΛL Λ := by
        have e6 : (nI (ΛL Λ) - 6).toInt = (ΛL Λ : Int) - 6 := by
          have t6 : (6 : Int32).toInt = 6 := by decide
          rw [fb_subI (by rw [nI_toInt (by omega), t6]; omega) (by rw [nI_toInt (by omega), t6]; omega), nI_toInt (by omega), t6]
        have hn2 : ¬ (nI (ΛL Λ) - 6) < nI j := hn
        rw [fa_lt', e6, nI_toInt (by omega)] at hn2
        omega
      refine lv_aload_n hx hb dL_law_27 rfl (lv_at hl 3 rfl) ?_
      refine lv_iload_n hx hb dL_law_28 rfl (lv_at hl 0 rfl) ?_
      refine va_sld hx hb h.1.2.2.2.2.2.2.1 h.1.2.2.2.2.2.2.2.1 (A0_n _ _ h.1.2.2.2.2.2.2.2.1) hX.2.2.1 (inb_n (show j < ΛL Λ by omega) (show ΛL Λ < 2 ^ 31 by omega)) dL_law_29 ?_
      refine lv_bipush (v := 63) hx hb dL_law_30 (by decide) ?_
      refine lv_iand hx hb dL_law_32 ?_
      rw [nI_clamp (by omega)]
      obtain ⟨k, hk, ek⟩ := and_63 (Λx Λ j)
      have K : ∀ (μ2 : MM) (H : Heap) (locs : List Loc), Rel μ2 → XW (ΛG Λ) (A0 (Λs Λ)) (Λs Λ) H locs μ2 → LW Λ H locs 1694 ls [] := fun μ2 H locs hR hX => by
        refine lv_iinc (v := nI (j + 6)) hx hb dL_law_1694 hl (k := 0) rfl (by rw [← nI_add]; rfl) (by decide) (lv' := LSs Λ (j + 6)) rfl (fun ls hl => ?_)
        refine lv_goto (tgt := 18) hx hb dL_law_1697 (by decide) ?_
        exact ih (j + 6) μ2 H locs ls (by omega) hj6 hR hX hl
      rw [ek]
      by_cases q : 51 < k
      · exact lv_tableOut (tgt := 1694) hx hb dL_law_33 (Or.inr (by rw [nI_toInt (by omega)]; omega)) (by decide) (K μ H locs hR hX)
      · rcases (by omega : k = 0 ∨ k = 1 ∨ k = 2 ∨ k = 3 ∨ k = 4 ∨ k = 5 ∨ k = 6 ∨ k = 7 ∨ k = 8 ∨ k = 9 ∨ k = 10 ∨ k = 11 ∨ k = 12 ∨ k = 13 ∨ k = 14 ∨ k = 15 ∨ k = 16 ∨ k = 17 ∨ k = 18 ∨ k = 19 ∨ k = 20 ∨ k = 21 ∨ k = 22 ∨ k = 23 ∨ k = 24 ∨ k = 25 ∨ k = 26 ∨ k = 27 ∨ k = 28 ∨ k = 29 ∨ k = 30 ∨ k = 31 ∨ k = 32 ∨ k = 33 ∨ k = 34 ∨ k = 35 ∨ k = 36 ∨ k = 37 ∨ k = 38 ∨ k = 39 ∨ k = 40 ∨ k = 41 ∨ k = 42 ∨ k = 43 ∨ k = 44 ∨ k = 45 ∨ k = 46 ∨ k = 47 ∨ k = 48 ∨ k = 49 ∨ k = 50 ∨ k = 51) with rfl | rfl | rfl | rfl | rfl | rfl | rfl | rfl | rfl | rfl | rfl | rfl | rfl | rfl | rfl | rfl | rfl | rfl | rfl | rfl | rfl | rfl | rfl | rfl | rfl | rfl | rfl | rfl | rfl | rfl | rfl | rfl | rfl | rfl | rfl | rfl | rfl | rfl | rfl | rfl | rfl | rfl | rfl | rfl | rfl | rfl | rfl | rfl | rfl | rfl | rfl | rfl
        · exact lv_tableIn (tgt := 256) hx hb dL_law_33 (by decide) (by decide) rfl (by decide) (law_0 h hj6 hR hX hl K)
        · exact lv_tableIn (tgt := 279) hx hb dL_law_33 (by decide) (by decide) rfl (by decide) (law_1 h hj6 hR hX hl K)
        · exact lv_tableIn (tgt := 312) hx hb dL_law_33 (by decide) (by decide) rfl (by decide) (law_2 h hj6 hR hX hl K)
        · exact lv_tableIn (tgt := 355) hx hb dL_law_33 (by decide) (by decide) rfl (by decide) (law_3 h hj6 hR hX hl K)
        · exact lv_tableIn (tgt := 388) hx hb dL_law_33 (by decide) (by decide) rfl (by decide) (law_4 h hj6 hR hX hl K)
        · exact lv_tableIn (tgt := 431) hx hb dL_law_33 (by decide) (by decide) rfl (by decide) (law_5 h hj6 hR hX hl K)
        · exact lv_tableIn (tgt := 464) hx hb dL_law_33 (by decide) (by decide) rfl (by decide) (law_6 h hj6 hR hX hl K)
        · exact lv_tableIn (tgt := 487) hx hb dL_law_33 (by decide) (by decide) rfl (by decide) (law_7 h hj6 hR hX hl K)
        · exact lv_tableIn (tgt := 510) hx hb dL_law_33 (by decide) (by decide) rfl (by decide) (law_8 h hj6 hR hX hl K)
        · exact lv_tableIn (tgt := 533) hx hb dL_law_33 (by decide) (by decide) rfl (by decide) (law_9 h hj6 hR hX hl K)
        · exact lv_tableIn (tgt := 556) hx hb dL_law_33 (by decide) (by decide) rfl (by decide) (law_10 h hj6 hR hX hl K)
        · exact lv_tableIn (tgt := 579) hx hb dL_law_33 (by decide) (by decide) rfl (by decide) (law_11 h hj6 hR hX hl K)
        · exact lv_tableIn (tgt := 602) hx hb dL_law_33 (by decide) (by decide) rfl (by decide) (law_12 h hj6 hR hX hl K)
        · exact lv_tableIn (tgt := 635) hx hb dL_law_33 (by decide) (by decide) rfl (by decide) (law_13 h hj6 hR hX hl K)
        · exact lv_tableIn (tgt := 658) hx hb dL_law_33 (by decide) (by decide) rfl (by decide) (law_14 h hj6 hR hX hl K)
        · exact lv_tableIn (tgt := 691) hx hb dL_law_33 (by decide) (by decide) rfl (by decide) (law_15 h hj6 hR hX hl K)
        · exact lv_tableIn (tgt := 704) hx hb dL_law_33 (by decide) (by decide) rfl (by decide) (law_16 h hj6 hR hX hl K)
        · exact lv_tableIn (tgt := 737) hx hb dL_law_33 (by decide) (by decide) rfl (by decide) (law_17 h hj6 hR hX hl K)
        · exact lv_tableIn (tgt := 760) hx hb dL_law_33 (by decide) (by decide) rfl (by decide) (law_18 h hj6 hR hX hl K)
        · exact lv_tableIn (tgt := 783) hx hb dL_law_33 (by decide) (by decide) rfl (by decide) (law_19 h hj6 hR hX hl K)
        · exact lv_tableIn (tgt := 817) hx hb dL_law_33 (by decide) (by decide) rfl (by decide) (law_20 h hj6 hR hX hl K)
        · exact lv_tableIn (tgt := 840) hx hb dL_law_33 (by decide) (by decide) rfl (by decide) (law_21 h hj6 hR hX hl K)
        · exact lv_tableIn (tgt := 863) hx hb dL_law_33 (by decide) (by decide) rfl (by decide) (law_22 h hj6 hR hX hl K)
        · exact lv_tableIn (tgt := 886) hx hb dL_law_33 (by decide) (by decide) rfl (by decide) (law_23 h hj6 hR hX hl K)
        · exact lv_tableIn (tgt := 909) hx hb dL_law_33 (by decide) (by decide) rfl (by decide) (law_24 h hj6 hR hX hl K)
        · exact lv_tableIn (tgt := 932) hx hb dL_law_33 (by decide) (by decide) rfl (by decide) (law_25 h hj6 hR hX hl K)
        · exact lv_tableIn (tgt := 955) hx hb dL_law_33 (by decide) (by decide) rfl (by decide) (law_26 h hj6 hR hX hl K)
        · exact lv_tableIn (tgt := 998) hx hb dL_law_33 (by decide) (by decide) rfl (by decide) (law_27 h hj6 hR hX hl K)
        · exact lv_tableIn (tgt := 1031) hx hb dL_law_33 (by decide) (by decide) rfl (by decide) (law_28 h hj6 hR hX hl K)
        · exact lv_tableIn (tgt := 1054) hx hb dL_law_33 (by decide) (by decide) rfl (by decide) (law_29 h hj6 hR hX hl K)
        · exact lv_tableIn (tgt := 1087) hx hb dL_law_33 (by decide) (by decide) rfl (by decide) (law_30 h hj6 hR hX hl K)
        · exact lv_tableIn (tgt := 1120) hx hb dL_law_33 (by decide) (by decide) rfl (by decide) (law_31 h hj6 hR hX hl K)
        · exact lv_tableIn (tgt := 1153) hx hb dL_law_33 (by decide) (by decide) rfl (by decide) (law_32 h hj6 hR hX hl K)
        · exact lv_tableIn (tgt := 1186) hx hb dL_law_33 (by decide) (by decide) rfl (by decide) (law_33 h hj6 hR hX hl K)
        · exact lv_tableIn (tgt := 1209) hx hb dL_law_33 (by decide) (by decide) rfl (by decide) (law_34 h hj6 hR hX hl K)
        · exact lv_tableIn (tgt := 1242) hx hb dL_law_33 (by decide) (by decide) rfl (by decide) (law_35 h hj6 hR hX hl K)
        · exact lv_tableIn (tgt := 1266) hx hb dL_law_33 (by decide) (by decide) rfl (by decide) (law_36 h hj6 hR hX hl K)
        · exact lv_tableIn (tgt := 1289) hx hb dL_law_33 (by decide) (by decide) rfl (by decide) (law_37 h hj6 hR hX hl K)
        · exact lv_tableIn (tgt := 1322) hx hb dL_law_33 (by decide) (by decide) rfl (by decide) (law_38 h hj6 hR hX hl K)
        · exact lv_tableIn (tgt := 1335) hx hb dL_law_33 (by decide) (by decide) rfl (by decide) (law_39 h hj6 hR hX hl K)
        · exact lv_tableIn (tgt := 1348) hx hb dL_law_33 (by decide) (by decide) rfl (by decide) (law_40 h hj6 hR hX hl K)
        · exact lv_tableIn (tgt := 1381) hx hb dL_law_33 (by decide) (by decide) rfl (by decide) (law_41 h hj6 hR hX hl K)
        · exact lv_tableIn (tgt := 1414) hx hb dL_law_33 (by decide) (by decide) rfl (by decide) (law_42 h hj6 hR hX hl K)
        · exact lv_tableIn (tgt := 1457) hx hb dL_law_33 (by decide) (by decide) rfl (by decide) (law_43 h hj6 hR hX hl K)
        · exact lv_tableIn (tgt := 1500) hx hb dL_law_33 (by decide) (by decide) rfl (by decide) (law_44 h hj6 hR hX hl K)
        · exact lv_tableIn (tgt := 1563) hx hb dL_law_33 (by decide) (by decide) rfl (by decide) (law_45 h hj6 hR hX hl K)
        · exact lv_tableIn (tgt := 1586) hx hb dL_law_33 (by decide) (by decide) rfl (by decide) (law_46 h hj6 hR hX hl K)
        · exact lv_tableIn (tgt := 1609) hx hb dL_law_33 (by decide) (by decide) rfl (by decide) (law_47 h hj6 hR hX hl K)
        · exact lv_tableIn (tgt := 1622) hx hb dL_law_33 (by decide) (by decide) rfl (by decide) (law_48 h hj6 hR hX hl K)
        · exact lv_tableIn (tgt := 1635) hx hb dL_law_33 (by decide) (by decide) rfl (by decide) (law_49 h hj6 hR hX hl K)
        · exact lv_tableIn (tgt := 1648) hx hb dL_law_33 (by decide) (by decide) rfl (by decide) (law_50 h hj6 hR hX hl K)
        · exact lv_tableIn (tgt := 1671) hx hb dL_law_33 (by decide) (by decide) rfl (by decide) (law_51 h hj6 hR hX hl K)
set_option maxHeartbeats 8000000 in
set_option maxRecDepth 100000 in
/-- from the entry, for every script of at most 3072 ints, the law comes to its end with true -/
theorem whole_start {p : Program} {e : Env} {s : State} {m : MethodId} {below : List Frame} {meth : Method} {c : Code} (l : Launch) (hflags : l.flags = flags0) {b L : Nat} {xs : Nat → Int32} (hL : L ≤ 3072) (C0 : lw_At p s m meth c b L xs) : W p l e room_1 s m #[Value.ref b] below meth c s.heap [] 0 0 (lw_Z below #[Value.ref b] s) (entryFrame m ([Value.ref b] : List Value).toArray 4) := by
  obtain ⟨hx, hb, hr, hml, hown, hT, hXs, hbl, hlocks, hgv⟩ := id C0
  have hF : FA s b := flat_of_before _ hgv
  have hts : ∀ w ∈ TT, w.before #[Value.ref b] s = true := fun w hw => hT w (TT_in w hw).1
  obtain ⟨D, cA, hK⟩ := st_K hT
  obtain ⟨kv, hkv⟩ := st_str hF
  obtain ⟨t0, z0, v0⟩ := st_t0 hT hF
  obtain ⟨t1, z1, v1⟩ := st_t1 hT hF
  obtain ⟨t2, z2, v2⟩ := st_t2 hT hF
  have hrw := st_rw hT hF hkv
  generalize hsd : (fun k => match k with | 0 => t0 | 1 => t1 | _ => t2 : Nat → Nat) = sd
  generalize had : (fun k => (kv (k - 100)).1 : Nat → Nat) = ad0
  have had0 : ∀ i, ad0 (100 + i) = (kv i).1 := fun i => by
    rw [← had]
    show (kv (100 + i - 100)).1 = _
    rw [Nat.add_sub_cancel_left]
  have hK : va_K ((D, ad0, cA, sd) : EN).1 vwCl (tyL (D, ad0, cA, sd)) s := hK
  have hA : ∀ q : Nat, s.heap.size ≤ q → A0 s q := fun _ h => h
  have hS : va_S (A0 s) s.heap s.heap [] := va_S.rf
  have hP : va_P D vwCl [] s.heap := fun k q h => by simp at h
  have hD : va_D (A0 s) [] := ⟨fun i j p q h => by simp at h, fun k q h => by simp at h⟩
  have hl := lv_entry ([.ref b]) (n := 4) (Nat.le_of_ble_eq_true rfl)
  rw [lg_entry_eq]
  generalize (lg_sl ([.ref b]) ++ List.replicate (4 - (lg_sl ([.ref b])).length) Slot.unset).toArray = ls at hl ⊢
  have hl : lv_has ls 4 [(0, .ref b)] := hl
  refine va_new (D := D) (ci := 4) (fs := [.null, .null, .int 0, .null, .null, .null, .null, .null, .null]) (C := RX4) (T := TX4) (N := 9) hx hb hts inTX4 tyX4 tyX4_ok hown (hts _ tw1_15) (hts _ tw1_16) (hts _ tw1_1) hK hP hD hS hA rfl (fun j hj => by rcases (by omega : j = 0 ∨ j = 1 ∨ j = 2 ∨ j = 3 ∨ j = 4 ∨ j = 5 ∨ j = 6 ∨ j = 7 ∨ j = 8) with rfl | rfl | rfl | rfl | rfl | rfl | rfl | rfl | rfl <;> rfl) (Nat.le_of_ble_eq_true rfl) (Nat.le_of_ble_eq_true rfl) dL_law_0 (fun x0 H hP hD hS => ?_)
  have hP : va_P D vwCl [(x0, .inr (4, [.null, .null, .int 0, .null, .null, .null, .null, .null, .null]))] H := hP
  have hD : va_D (A0 s) [(x0, .inr (4, [.null, .null, .int 0, .null, .null, .null, .null, .null, .null]))] := hD
  refine lv_dup hx hb dL_law_3 rfl ?_
  have hFc := va_free (wc := [(x0, .inr (4, [.null, .null, .int 0, .null, .null, .null, .null, .null, .null]))]) hD hS hA [0] rfl
  refine va_callv (va_runI (As := []) (rest := [.ref x0]) ⟨hx, hb, hml, hown, hts⟩ (n_X4_init l (D, ad0, cA, sd) x0 H.size) ⟨callB_of 0 hts (TT_cons tw1_19) rfl rfl rfl (hts _ tw1_1) (hts _ tw1_17) (by decide +kernel) ⟨Nat.le_of_ble_eq_true rfl, Nat.le_of_ble_eq_true rfl⟩, rfl, hts _ tw1_18⟩ ⟨fun a U g mk q => by obtain ⟨q0, q1, qP, qK, qD, qE⟩ := q; exact ⟨q0, q1, qP, va_K.moved (u := U) (U := U.calling g mk a) (Vm.Alike.refl U.vm) qK, qD, E4.same (u := U) (U := U.calling g mk a) (Vm.Alike.refl U.vm) rfl qE⟩, fun U hU hW => ⟨rfl, by rw [hU], by rw [hU]; exact hP, va_K.moved hW.alike hK, hD.weaken (fun _ _ _ _ => trivial), (st_e4 hT).warm hW⟩⟩ rfl rfl hl.1 rfl (lv_room (Nat.le_of_ble_eq_true rfl)) dL_law_4 ⟨Nat.le_of_ble_eq_true rfl, Nat.le_of_ble_eq_true rfl⟩) hS (fun q _ h => hFc q h) hFc (fun u t H1 locs ht hvm hw hB hz1 hk1 hS => ?_)
  obtain ⟨hP1, hK1, hD1⟩ := hB
  rw [ht] at hP1
  obtain ⟨hP, hD⟩ := va_join (wr := []) (w1 := wX4 (D, ad0, cA, sd) x0 u) hP hD [0] [] rfl rfl (by decide) (by decide) hk1 hFc hP1 hD1
  generalize H1 = H at hP hS ⊢
  have hP : va_P D vwCl (wX4 (D, ad0, cA, sd) x0 u) H := hP
  have hD : va_D (A0 s) (wX4 (D, ad0, cA, sd) x0 u) := hD
  refine lv_astore_n (lv' := [(1, .ref x0), (0, .ref b)]) hx hb dL_law_7 rfl hl (by decide) rfl (fun ls hl => ?_)
  refine va_new (D := D) (ci := 5) (fs := [.null, .null, .null, .int 0, .null, .null, .null, .int 0, .int 0, .int 0, .null, .int 0, .int 0, .int 0, .int 0, .int 0, .int 0, .null, .null, .int 0, .int 0, .int 0, .null, .null, .null, .null]) (C := RX5) (T := TX5) (N := 26) hx hb hts inTX5 tyX5 tyX5_ok hown (hts _ tw4_68) (hts _ tw4_69) (hts _ tw1_7) hK hP hD hS hA rfl (fun j hj => by rcases (by omega : j = 0 ∨ j = 1 ∨ j = 2 ∨ j = 3 ∨ j = 4 ∨ j = 5 ∨ j = 6 ∨ j = 7 ∨ j = 8 ∨ j = 9 ∨ j = 10 ∨ j = 11 ∨ j = 12 ∨ j = 13 ∨ j = 14 ∨ j = 15 ∨ j = 16 ∨ j = 17 ∨ j = 18 ∨ j = 19 ∨ j = 20 ∨ j = 21 ∨ j = 22 ∨ j = 23 ∨ j = 24 ∨ j = 25) with rfl | rfl | rfl | rfl | rfl | rfl | rfl | rfl | rfl | rfl | rfl | rfl | rfl | rfl | rfl | rfl | rfl | rfl | rfl | rfl | rfl | rfl | rfl | rfl | rfl | rfl <;> rfl) (Nat.le_of_ble_eq_true rfl) (Nat.le_of_ble_eq_true rfl) dL_law_8 (fun y0 H hP hD hS => ?_)
  refine lv_dup hx hb dL_law_11 rfl ?_
  have hPc := hP.sub (ws' := [(y0, .inr (5, [.null, .null, .null, .int 0, .null, .null, .null, .int 0, .int 0, .int 0, .null, .int 0, .int 0, .int 0, .int 0, .int 0, .int 0, .null, .null, .int 0, .int 0, .int 0, .null, .null, .null, .null]))]) [37] rfl
  have hDc := hD.sub (ws' := [(y0, .inr (5, [.null, .null, .null, .int 0, .null, .null, .null, .int 0, .int 0, .int 0, .null, .int 0, .int 0, .int 0, .int 0, .int 0, .int 0, .null, .null, .int 0, .int 0, .int 0, .null, .null, .null, .null]))]) [37] (by decide) rfl
  have hFc := va_free (wc := [(y0, .inr (5, [.null, .null, .null, .int 0, .null, .null, .null, .int 0, .int 0, .int 0, .null, .int 0, .int 0, .int 0, .int 0, .int 0, .int 0, .null, .null, .int 0, .int 0, .int 0, .null, .null, .null, .null]))]) hD hS hA [37] rfl
  have hE : E5 (D, ad0, cA, sd) (A0 s) s s.heap := ⟨fun q hq => by
    show vk_R q.1 q.2.1 q.2.2.1 (ad0 (100 + q.2.2.2)) s
    rw [had0]
    exact hrw q hq, st_ao hT, fun i hi => by
    show va_O "java/lang/String" (ad0 (100 + i)) (A0 s) s s.heap
    rw [had0]
    exact (hkv i (by omega)).2.1⟩
  refine va_callv (va_runI (As := []) (rest := [.ref y0]) ⟨hx, hb, hml, hown, hts⟩ (n_X5_init l (D, ad0, cA, sd) y0 H.size) ⟨callB_of 0 hts (TT_cons tw4_72) rfl rfl rfl (hts _ tw1_7) (hts _ tw4_70) (by decide +kernel) ⟨Nat.le_of_ble_eq_true rfl, Nat.le_of_ble_eq_true rfl⟩, rfl, hts _ tw4_71⟩ ⟨fun a U g mk q => by obtain ⟨q0, q1, qP, qK, qD, qE⟩ := q; exact ⟨q0, q1, qP, va_K.moved (u := U) (U := U.calling g mk a) (Vm.Alike.refl U.vm) qK, qD, E5.same (u := U) (U := U.calling g mk a) (Vm.Alike.refl U.vm) rfl qE⟩, fun U hU hW => ⟨rfl, by rw [hU], by rw [hU]; exact hPc, va_K.moved hW.alike hK, hDc.weaken (fun _ _ _ _ => trivial), by rw [hU]; exact (hE.kept hS.2.1 hFc).warm hW⟩⟩ rfl rfl hl.1 rfl (lv_room (Nat.le_of_ble_eq_true rfl)) dL_law_12 ⟨Nat.le_of_ble_eq_true rfl, Nat.le_of_ble_eq_true rfl⟩) hS (fun q _ h => hFc q h) hFc (fun w t H1 locs ht hvm hw hB hz1 hk1 hS => ?_)
  obtain ⟨hP1, hK1, hD1⟩ := hB
  rw [ht] at hP1
  obtain ⟨hP, hD⟩ := va_join (wr := wX4 (D, ad0, cA, sd) x0 u) (w1 := wX5 (D, ad0, cA, sd) y0 w) hP hD [37] [0, 1, 2, 3, 4, 5, 6, 7, 8, 9, 10, 11, 12, 13, 14, 15, 16, 17, 18, 19, 20, 21, 22, 23, 24, 25, 26, 27, 28, 29, 30, 31, 32, 33, 34, 35, 36] rfl rfl (by decide) (by decide) hk1 hFc hP1 hD1
  generalize H1 = H at hP hS ⊢
  have hP2 := wPL_P (kv := kv) (fun i hi => had0 i) (hP.sub (ws' := wPL (D, ad0, cA, sd) x0 y0 u w) [0, 1, 2, 3, 4, 5, 6, 7, 8, 9, 10, 11, 12, 13, 14, 15, 16, 17, 18, 19, 20, 21, 22, 23, 24, 25, 29, 30, 31, 32, 33, 34, 35, 36, 26, 27, 28, 37, 38, 39, 40, 41, 42, 43, 44, 45, 46, 47, 48, 49, 50] rfl)
  have hD2 := wPL_D (kv := kv) (D := D) (cA := cA) (sd := sd) (hD.sub (ws' := wPL (D, ad0, cA, sd) x0 y0 u w) [0, 1, 2, 3, 4, 5, 6, 7, 8, 9, 10, 11, 12, 13, 14, 15, 16, 17, 18, 19, 20, 21, 22, 23, 24, 25, 29, 30, 31, 32, 33, 34, 35, 36, 26, 27, 28, 37, 38, 39, 40, 41, 42, 43, 44, 45, 46, 47, 48, 49, 50] (by decide) rfl)
  refine W.widen (k := 600000) (n := 7302250) (Nat.le_of_ble_eq_true rfl) (Nat.le_of_ble_eq_true rfl) ?_
  refine lv_astore_n (lv' := [(2, .ref y0), (1, .ref x0), (0, .ref b)]) hx hb dL_law_15 rfl hl (by decide) rfl (fun ls hl => ?_)
  refine lv_iconst (v := 0) hx hb dL_law_16 (by decide) ?_
  refine lv_istore_n (lv' := [(3, .int (nI 0)), (2, .ref y0), (1, .ref x0), (0, .ref b)]) hx hb dL_law_17 rfl hl (by decide) rfl (fun ls hl => ?_)
  have a1 : ∀ i, i < 18 → adr x0 y0 u w kv (100 + i) = (kv i).1 := fun i hi => by
    unfold adr
    rw [if_neg (by omega), if_pos (by omega), Nat.add_sub_cancel_left]
  have a2 : ∀ i, i < 18 → adr x0 y0 u w kv (200 + i) = (kv i).2 := fun i hi => by
    unfold adr
    rw [if_neg (by omega), if_neg (by omega), Nat.add_sub_cancel_left]
  have s18 : ∀ q ∈ strL, q.2.2.2 < 18 := by decide
  have hKW : KW (D, adr x0 y0 u w kv, cA, sd) s := ⟨hK, st_n hT, fun q hq => by
    show vk_R q.1 q.2.1 q.2.2.1 (adr x0 y0 u w kv (100 + q.2.2.2)) s
    rw [a1 _ (s18 q hq)]
    exact hrw q hq⟩
  have hZW : ZW (D, adr x0 y0 u w kv, cA, sd) (A0 s) s s.heap := by
    rw [← hsd]
    refine ⟨⟨z0, v0⟩, ⟨z1, v1⟩, ⟨z2, v2⟩, (st_c hT hF).1, fun i hi => ?_, (st_c hT hF).2⟩
    show va_O "java/lang/String" (adr x0 y0 u w kv (100 + i)) (A0 s) s s.heap ∧ va_OF "java/lang/String" "coder" "B" (.int 0) (adr x0 y0 u w kv (100 + i)) (A0 s) s s.heap ∧ va_OF "java/lang/String" "value" "[B" (.ref (adr x0 y0 u w kv (200 + i))) (adr x0 y0 u w kv (100 + i)) (A0 s) s s.heap ∧ va_T .byte (adr x0 y0 u w kv (200 + i)) (lenS.getD i 0) (fun j => .int ((bytS.getD i []).getD j 0)) (A0 s) s s.heap
    rw [a1 i hi, a2 i hi]
    exact (hkv i hi).2
  exact law_loop (Λ := (p, l, e, s, m, below, meth, c, b, L, xs, (D, adr x0 y0 u w kv, cA, sd))) ⟨C0, hL⟩ (L + 1) 0 μ0 H _ ls (show L - 0 < L + 1 by omega) (Nat.zero_le _) rel_0 ⟨hP2, hD2, hS, hKW, hZW, hA⟩ hl
set_option maxHeartbeats 4000000 in
theorem lw_walk (l : Launch) (hflags : l.flags = flags0) (b : Addr) (xs : List Int32) : MetFree l x (headSpec (Jvm.Cond.code x code maxLocals ret :: tables_1) room_1) (lw_P b xs) (fun _ _ _ _ _ => True) lw_Q := by
  refine MetFree.of_bodyS (code := code) (maxLocals := maxLocals) (ret := ret) (by decide) ?_ ?_
  · intro args s m h hn
    obtain ⟨meth, c, h1, h2, h3, h4, h5, h6, -, -⟩ := Cond.code_spec hn (atoms_spec (ws := Jvm.Cond.code x code maxLocals ret :: tables_1) h _ List.mem_cons_self)
    exact ⟨meth, c, h1, h2, h3, h4, h5, h6⟩
  · intro p e s m args below meth c s₁ B hml0 hP _
    obtain ⟨rfl, hx, hbd, hgv⟩ := hP
    obtain ⟨scr, harrAt, hlist, hof, hsmall⟩ := hx
    obtain ⟨hcb, hkn, -, -⟩ := State.arrayAt?_spec harrAt
    have hown : s.vm.findClass R_law = some m.cls := findClass_of_methodNamed B.named
    have hts0 : ∀ c ∈ (Jvm.Cond.code x code maxLocals ret :: tables_1), c.before #[Value.ref b] s = true := atoms_spec (ws := Jvm.Cond.code x code maxLocals ret :: tables_1) B.pre
    have hts : ∀ w ∈ lw_tbl, w.before #[Value.ref b] s = true := k2_hts_sels lw_privs (fun w hw => hts0 w (List.mem_cons_of_mem _ hw)) lw_privs_ok
    have hml : c.maxLocals = 4 := B.maxLocals_eq (hts0 _ List.mem_cons_self)
    have X₀ : Stand p l e room_1 s m #[Value.ref b] below meth c s₁ [] 0 0 := Stand.of_body B
    have hh0 : s₁.heap = s.heap := by rw [B.state]; rfl
    have hsz : scr.slots.size = xs.length := by rw [← Array.length_toList, hlist, List.length_map]
    have hval : ∀ j : Nat, j < xs.length → scr.slots[j]? = some (.int (xs.getD j 0)) := fun j hj => by
      rw [← Array.getElem?_toList, hlist]
      simp [hj]
    have hbl : b < s.heap.size := (Array.getElem?_eq_some_iff.mp hcb).1
    have hX : va_X b xs.length (fun j => xs.getD j 0) s s.heap := ⟨scr, hcb, hof, hkn, hsz, hval⟩
    have K : W p l e room_1 s m #[Value.ref b] below meth c s₁.heap [] 0 0 (lw_Z below #[Value.ref b] s) (entryFrame m ([Value.ref b] : List Value).toArray 4) := by
      rw [hh0]
      exact whole_start l hflags hbd ⟨B.exec, B.bytes, B.returns, hml, hown, hts, hX, hbl, B.notSynchronized, hgv⟩
    obtain ⟨t, a1, o, b1, b2, b3⟩ := K s₁ rfl X₀
    exact ⟨t, o, a1, b1, b2, b3⟩
theorem lw_pre_spec {args : Array Value} {s : State} (h : (Jvm.Cond.and given_1 narrow_1).before args s = true) (hr : rest_1_c.before args s = true) : ∃ (b : Addr) (xs : List Int32), lw_P b xs args s := by
  have hs := flat_of_before _ h
  have hq := flat_of_before _ hr
  have hc : (Cond.count 1).before args s = true := hs _ (by decide +kernel)
  have harr : (Cond.arrayOf (.arg 0) .int).before args s = true := hs _ (by decide +kernel)
  have hle : (Cond.le (.length (.arg 0)) (.int 3072)).before args s = true := hs _ (by decide +kernel)
  have hlen : (Cond.isInt (.length (.arg 0))).before args s = true := hq _ (by decide +kernel)
  have hall : (Cond.all (.arg 0) (.isInt (.elem (.arg 0) (.index 0)))).before args s = true := hq _ (by decide +kernel)
  obtain ⟨b, xs, hb, hx⟩ := State.ints_of_pre rfl harr hlen hall
  have hsm : xs.length < 2 ^ 31 := hx.choose_spec.2.2.2
  have hev : (Term.length (.arg 0)).eval args s none [] s = some (.int xs.length.toInt32) := hx.length_eval hb
  have hv := Cond.le_ints hev (show (Term.int 3072).eval args s none [] s = some (.int 3072) from rfl)
  have hd : xs.length.toInt32 ≤ 3072 := by
    simpa [Cond.before, Cond.holds, hv] using hle
  have hN : xs.length ≤ 3072 := (Int32.ofNat_le_ofNat hsm (by decide)).mp (show Int32.ofNat xs.length ≤ Int32.ofNat 3072 from hd)
  exact ⟨b, xs, Cond.one_arg hc (show args[0]? = some (.ref b) from hb), hx, hN, h⟩
theorem lw_comes (l : Launch) (hflags : l.flags = flags0) : Comes l x (Jvm.Cond.code x code maxLocals ret :: tables_1) room_1 (fun tb e args s => Calls_1 tb e args s ∧ rest_1 tb e args s ∧ Pre_1 tb e args s)
    (fun _ _ args s o t => lw_Q args s o t) := by
  intro p e ha hc hk s m args below hf hfit hheap happ hpre
  obtain ⟨b, xs, hP⟩ := lw_pre_spec hpre.2.2 hpre.2.1
  obtain ⟨k, o, h1, h2, h3, hQ⟩ := lw_walk l hflags b xs p e ha hc hk s m args below hf ((Spec.applies_iff_loose hf).mp happ).1 hP trivial
  exact ⟨k, o, h1, h2, h3, hQ⟩
theorem lw_frame {s t : State} {o : Outcome} {args : Array Value} (h : Framed s o t [] 600000 7302250) :
    Framed s o t (fieldLocs frame_1_writes args s ++ arrayLocs frame_1_arrays args s ++ staticLocs frame_1_statics s) 600000 7302250 := h
theorem lw_limb (L : Cond) (hL : ∀ (args : Array Value) (s t : State), L.after args s (.returned (some (.int 1))) t = true) :
    ArmFor flags0 classFile x code maxLocals ret World_1 tables_1 room_1 Calls_1 rest_1 Pre_1
      (fun tb e a s o t => postC L tb e a s o t ∧ Framed s o t (fieldLocs frame_1_writes a s ++ arrayLocs frame_1_arrays a s ++ staticLocs frame_1_statics s) 600000 7302250) := by
  intro l hflags _ _ p e ha hc hk s m args below hf hfit hheap happ hpre
  obtain ⟨k, o, h1, h2, h3, rfl, hF⟩ := lw_comes l hflags p e ha hc hk s m args below hf hfit hheap happ hpre
  exact ⟨k, _, h1, h2, h3, hL args s _, lw_frame hF⟩
theorem i_vc : Claimed_1_1 ∧ Claimed_1_2 := ⟨lw_limb limb_1_1 (fun args s t => by simp [limb_1_1, Cond.after, Cond.holds, Cond.value]), lw_limb limb_1_2 (fun args s t => Cond.after_iff.mpr (by
  first | (rw [show limb_1_2 = Cond.eq .result (.int 1) from rfl, Cond.eq_ints (x := 1) (y := 1) rfl rfl]; simp; done) | (simp [limb_1_2, Cond.value, Term.eval]; done)))⟩
