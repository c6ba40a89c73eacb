/-! ===== sets as longs ===== -/
def T (b : Nat → Bool) : Nat → Nat
  | 0 => 0
  | i + 1 => if b i then T b i + 2 ^ i else T b i
theorem T_lt (b : Nat → Bool) : ∀ k, T b k < 2 ^ k
  | 0 => Nat.zero_lt_one
  | k + 1 => by
    have := T_lt b k
    rw [Nat.pow_succ]
    unfold T
    split <;> omega
theorem or_nat (a b : Nat) : Int64.ofNat a ||| Int64.ofNat b = Int64.ofNat (a ||| b) := by
  apply Int64.toBitVec_inj.mp
  rw [Int64.toBitVec_or, Int64.toBitVec_ofNat', Int64.toBitVec_ofNat', Int64.toBitVec_ofNat']
  apply BitVec.eq_of_toNat_eq
  simp [BitVec.toNat_ofNat, Nat.or_mod_two_pow]
theorem or_pow {t i : Nat} (h : t < 2 ^ i) : t ||| 2 ^ i = t + 2 ^ i := by
  have := Nat.two_pow_add_eq_or_of_lt h 1
  rw [Nat.mul_one] at this
  rw [Nat.or_comm, ← this, Nat.add_comm]
theorem lsl_n : ∀ i, i < 31 → lsl 1 (nI i) = Int64.ofNat (2 ^ i) := by decide
theorem S64_T {b : Nat → Bool} : ∀ {k : Nat}, k ≤ 31 → S64 b k = Int64.ofNat (T b k)
  | 0, _ => rfl
  | k + 1, h => by
    unfold S64 T
    rw [S64_T (k := k) (by omega), lsl_n k (by omega)]
    by_cases q : b k = true
    · rw [if_pos q, if_pos q, or_nat, or_pow (T_lt b k)]
    · rw [if_neg q, if_neg q]
theorem i64_0 {N : Nat} (h : N < 2 ^ 31) : Int64.ofNat N = 0 ↔ N = 0 := by
  constructor
  · intro e
    have := congrArg Int64.toInt e
    rw [Int64.toInt_ofNat_of_lt (by omega)] at this
    have z : (0 : Int64).toInt = 0 := by decide
    omega
  · rintro rfl
    rfl
theorem i64_and {N : Nat} (h : N < 2 ^ 31) : ((Int64.ofNat N &&& 1)).toInt32 = nI (N % 2) := by
  have e : Int64.ofNat N &&& 1 = Int64.ofNat (N % 2) := by
    apply Int64.toBitVec_inj.mp
    rw [Int64.toBitVec_and, Int64.toBitVec_ofNat', Int64.toBitVec_ofNat', ← Nat.and_one_is_mod]
    apply BitVec.eq_of_toNat_eq
    rw [BitVec.toNat_and, BitVec.toNat_ofNat, BitVec.toNat_ofNat, Nat.and_mod_two_pow]
    rfl
  rw [e]
  rcases (by omega : N % 2 = 0 ∨ N % 2 = 1) with z | z <;> rw [z] <;> decide
theorem i64_shr {N : Nat} (h : N < 2 ^ 31) : lsr (Int64.ofNat N) 1 = Int64.ofNat (N / 2) := by
  unfold lsr
  rw [show ((1 : Int32).toInt64 &&& 63) = (1 : Int64) from by decide]
  apply Int64.toInt_inj.mp
  rw [Int64.toInt_ofNat_of_lt (by omega), ← Int64.toInt_toBitVec, Int64.toBitVec_shiftRight]
  rw [show (BitVec.smod (1 : Int64).toBitVec 64) = 1#64 from by decide]
  show (BitVec.sshiftRight (Int64.ofNat N).toBitVec (1#64).toNat).toInt = _
  rw [BitVec.toInt_sshiftRight, Int64.toInt_toBitVec, Int64.toInt_ofNat_of_lt (by omega)]
  show ((N : Int) >>> (1 : Nat)) = _
  rw [Int.shiftRight_eq_div_pow]
  omega
theorem T_succ (b : Nat → Bool) : ∀ k, T b (k + 1) = (if b 0 then 1 else 0) + 2 * T (fun i => b (i + 1)) k
  | 0 => by
    show (if b 0 then 0 + 2 ^ 0 else 0) = _
    unfold T
    split <;> rfl
  | k + 1 => by
    have ih := T_succ b k
    have e1 : T b (k + 1 + 1) = if b (k + 1) then T b (k + 1) + 2 ^ (k + 1) else T b (k + 1) := rfl
    have e2 : T (fun i => b (i + 1)) (k + 1) = if b (k + 1) then T (fun i => b (i + 1)) k + 2 ^ k else T (fun i => b (i + 1)) k := rfl
    rw [e1, e2, ih, Nat.pow_succ]
    split <;> omega
theorem cnt_succ (b : Nat → Bool) : ∀ k, cnt b (k + 1) = (if b 0 then 1 else 0) + cnt (fun i => b (i + 1)) k
  | 0 => by
    show (if b 0 then 0 + 1 else 0) = _
    unfold cnt
    split <;> rfl
  | k + 1 => by
    have ih := cnt_succ b k
    have e1 : cnt b (k + 1 + 1) = if b (k + 1) then cnt b (k + 1) + 1 else cnt b (k + 1) := rfl
    have e2 : cnt (fun i => b (i + 1)) (k + 1) = if b (k + 1) then cnt (fun i => b (i + 1)) k + 1 else cnt (fun i => b (i + 1)) k := rfl
    rw [e1, e2, ih]
    split <;> omega
theorem T_0 {b : Nat → Bool} : ∀ {k : Nat}, T b k = 0 → cnt b k = 0
  | 0, _ => rfl
  | k + 1, h => by
    have hp : 0 < 2 ^ k := Nat.pow_pos (by decide)
    unfold T at h
    unfold cnt
    by_cases q : b k = true
    · rw [if_pos q] at h
      omega
    · rw [if_neg q] at h ⊢
      exact T_0 h
theorem bitsLoop (m : MM) : ∀ (k : Nat) (b : Nat → Bool) (a fu : Nat), k ≤ 31 → k < fu → L_X5_habits_48 m fu (nI a) (Int64.ofNat (T b k)) = some (nI (a + cnt b k), m)
  | 0, b, a, fu, hk, hf => by
    obtain ⟨f, rfl⟩ : ∃ f, fu = f + 1 := ⟨fu - 1, by omega⟩
    rw [L_X5_habits_48, if_pos ((lg_cmp_eq (Int64.ofNat (T b 0)) 0).mpr rfl)]
    rfl
  | k + 1, b, a, fu, hk, hf => by
    obtain ⟨f, rfl⟩ : ∃ f, fu = f + 1 := ⟨fu - 1, by omega⟩
    have hl := T_lt b (k + 1)
    have hl2 : T b (k + 1) < 2 ^ 31 := Nat.lt_of_lt_of_le hl (Nat.pow_le_pow_right (by decide) hk)
    by_cases q : T b (k + 1) = 0
    · rw [L_X5_habits_48, if_pos ((lg_cmp_eq _ _).mpr ((i64_0 hl2).mpr q)), T_0 q, Nat.add_zero]
    · rw [L_X5_habits_48, if_neg (fun e => q ((i64_0 hl2).mp ((lg_cmp_eq _ _).mp e))), lt_s_, lt_s_, i64_and hl2, i64_shr hl2, nI_add]
      have e := T_succ b k
      have ec := cnt_succ b k
      have e1 : T b (k + 1) % 2 = if b 0 then 1 else 0 := by
        rw [e]
        split <;> omega
      have e2 : T b (k + 1) / 2 = T (fun i => b (i + 1)) k := by
        rw [e]
        split <;> omega
      rw [e1, e2, bitsLoop m k (fun i => b (i + 1)) _ f (by omega) (by omega), ec, Nat.add_assoc]
theorem S_32 {b : Nat → Bool} : ∀ {k : Nat}, k ≤ 7 → (S64 b k).toInt32 = S32 b k
  | 0, _ => rfl
  | k + 1, h => by
    have e : (lsl 1 (nI k)).toInt32 = sl 1 (nI k) := by
      rcases (by omega : k = 0 ∨ k = 1 ∨ k = 2 ∨ k = 3 ∨ k = 4 ∨ k = 5 ∨ k = 6) with rfl | rfl | rfl | rfl | rfl | rfl | rfl <;> decide
    unfold S64 S32
    rw [← S_32 (k := k) (by omega), ← e]
    by_cases q : b k = true
    · rw [if_pos q, if_pos q, Int64.toInt32_or]
    · rw [if_neg q, if_neg q]
