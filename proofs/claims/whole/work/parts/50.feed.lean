theorem byte_b (x : BitVec 32) (s : Nat) (hs : s ≤ 24) : (x >>> s) &&& 255#32 = (x.sshiftRight s) &&& 255#32 := by
  apply BitVec.eq_of_getLsbD_eq
  intro i hi
  rw [BitVec.getLsbD_and, BitVec.getLsbD_and, BitVec.getLsbD_ushiftRight, BitVec.getLsbD_sshiftRight]
  by_cases q : i < 8
  · rw [if_pos (by omega)]
    simp [show ¬ 32 ≤ i by omega]
  · have e : (255#32).getLsbD i = false := by
      apply BitVec.getLsbD_of_ge (x := 255#8) |> fun _ => ?_
      rcases (by omega : i = 8 ∨ 8 < i) with r | r
      · subst r
        rfl
      · have : ∀ j, j < 32 → 8 ≤ j → (255#32).getLsbD j = false := by decide
        exact this i hi (by omega)
    rw [e, Bool.and_false, Bool.and_false]
theorem byte_s (p : Int32) {j : Nat} (hj : j < 4) : ur p (8 * nI j) &&& 255 = sr p (8 * nI j) &&& 255 := by
  apply Int32.toBitVec_inj.mp
  unfold ur sr
  rcases (by omega : j = 0 ∨ j = 1 ∨ j = 2 ∨ j = 3) with rfl | rfl | rfl | rfl
  · exact byte_b p.toBitVec 0 (by omega)
  · exact byte_b p.toBitVec 8 (by omega)
  · exact byte_b p.toBitVec 16 (by omega)
  · exact byte_b p.toBitVec 24 (by omega)
