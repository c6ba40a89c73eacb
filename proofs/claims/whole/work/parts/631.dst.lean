def dst (a b : Nat) : Nat := ((f_X4_distance (nI a) (nI b)).getD 0).toNatClampNeg
theorem dst_s : ∀ a, a < 100 → ∀ b, b < 100 → f_X4_distance (nI a) (nI b) = some (nI (dst a b)) ∧ dst a b ≤ 18 := by decide +kernel
theorem apart_s {a b : Nat} (ha : a < 100) (hb : b < 100) : f_X5_apart (nI a) (nI b) = some (nI (dst a b)) := (show f_X5_apart (nI a) (nI b) = f_X4_distance (nI a) (nI b) from rfl).trans (dst_s a ha b hb).1
