/-! ===== plain rows on what the functions are written with ===== -/
theorem bdr_s {α β : Type} (r : α) (f : α → Option β) : bdr (some r) f = f r := by
  have h : bdr (some r) f = f r := rfl
  exact h
theorem bdw_s {α β : Type} (r : α) (m : MM) (f : α → MM → Option β) : bdw (some (r, m)) f = f r m := by
  have h : bdw (some (r, m)) f = f r m := rfl
  exact h
theorem lt_s_ {α β : Type} (x : α) (f : α → Option β) : lt_ x f = f x := by
  have h : lt_ x f = f x := rfl
  exact h
theorem gd_t {β : Type} {c : Prop} [Decidable c] (h : c) (X : Option β) : gd c X = X := if_pos h
theorem jn0_s {β : Type} (r : Option β) (b : Option β → Option β) : jn0 r b = b r := by
  have h : jn0 r b = b r := rfl
  exact h
theorem jn1_s {a1 β : Type} (r : a1 → Option β) (b : (a1 → Option β) → Option β) : jn1 r b = b r := by
  have h : jn1 r b = b r := rfl
  exact h
theorem jn2_s {a1 a2 β : Type} (r : a1 → a2 → Option β) (b : (a1 → a2 → Option β) → Option β) : jn2 r b = b r := by
  have h : jn2 r b = b r := rfl
  exact h
theorem jn3_s {a1 a2 a3 β : Type} (r : a1 → a2 → a3 → Option β) (b : (a1 → a2 → a3 → Option β) → Option β) : jn3 r b = b r := by
  have h : jn3 r b = b r := rfl
  exact h
theorem jn4_s {a1 a2 a3 a4 β : Type} (r : a1 → a2 → a3 → a4 → Option β) (b : (a1 → a2 → a3 → a4 → Option β) → Option β) : jn4 r b = b r := by
  have h : jn4 r b = b r := rfl
  exact h
theorem inb_n {j n : Nat} (h : j < n) (hn : n < 2 ^ 31) : inb (nI j) n := nI_in h hn
theorem ldi_n {β : Type} {μ : MM} {k n j : Nat} {f : Int32 → Option β} (h : j < n) (hn : n < 2 ^ 31) : ldi μ k n (nI j) f = f (μ k j) := by
  unfold ldi
  rw [if_pos (inb_n h hn), nI_clamp (Nat.lt_trans h hn)]
theorem sti_n {β : Type} {μ : MM} {k n j : Nat} {x : Int32} {f : MM → Option β} (h : j < n) (hn : n < 2 ^ 31) : sti μ k n (nI j) x f = f (wst μ k j x) := by
  unfold sti
  rw [if_pos (inb_n h hn), nI_clamp (Nat.lt_trans h hn)]
theorem stz_n {β : Type} {μ : MM} {k n j : Nat} {x : Int32} {f : MM → Option β} (h : j < n) (hn : n < 2 ^ 31) : stz μ k n (nI j) x f = f (wst μ k j (vp_nar .boolean x)) := by
  unfold stz
  rw [if_pos (inb_n h hn), nI_clamp (Nat.lt_trans h hn)]
theorem ldq_n {β : Type} {n j : Nat} {f : Nat → Option β} (h : j < n) (hn : n < 2 ^ 31) : ldq n (nI j) f = f j := by
  unfold ldq
  rw [if_pos (inb_n h hn), nI_clamp (Nat.lt_trans h hn)]
/-- a literal place -/
theorem ldi_c {β : Type} {μ : MM} {k n : Nat} {i : Int32} (j : Nat) {f : Int32 → Option β} (h : inb i n ∧ i.toNatClampNeg = j) : ldi μ k n i f = f (μ k j) := by
  unfold ldi
  rw [if_pos h.1, h.2]
theorem sti_c {β : Type} {μ : MM} {k n : Nat} {i x : Int32} (j : Nat) {f : MM → Option β} (h : inb i n ∧ i.toNatClampNeg = j) : sti μ k n i x f = f (wst μ k j x) := by
  unfold sti
  rw [if_pos h.1, h.2]
theorem wst_at (μ : MM) (k i : Nat) (v : Int32) : wst μ k i v k = upd (μ k) i v := wsr_same _ _ _
theorem wst_o {μ : MM} {k q i : Nat} {v : Int32} (h : q ≠ k) : wst μ k i v q = μ q := wsr_ne h
theorem upd_at (f : Nat → Int32) (k : Nat) (x : Int32) : upd f k x k = x := if_pos rfl
theorem upd_o {f : Nat → Int32} {k j : Nat} {x : Int32} (h : j ≠ k) : upd f k x j = f j := if_neg h
/-! within -/
def wi (p a b : Int32) : Int32 := if p < a ∨ b < p then 0 else 1
theorem isWithin_s (p a b : Int32) : f_X4_isWithin p a b = some (wi p a b) := by
  unfold f_X4_isWithin wi
  by_cases h : p < a
  · rw [if_pos h, if_pos (Or.inl h)]
  · rw [if_neg h]
    by_cases h2 : b < p
    · rw [if_pos h2, if_pos (Or.inr h2)]
    · rw [if_neg h2, if_neg (fun q => q.elim h h2)]
theorem within_s (p a b : Int32) : f_X5_within p a b = some (wi p a b) := isWithin_s p a b
theorem wi_b (p a b : Int32) : wi p a b = 0 ∨ wi p a b = 1 := by
  unfold wi
  split
  · exact Or.inl rfl
  · exact Or.inr rfl
theorem wi_0 {p a b : Int32} : wi p a b = 0 ↔ (p < a ∨ b < p) := by
  unfold wi
  split
  · rename_i h; exact ⟨fun _ => h, fun _ => rfl⟩
  · rename_i h; exact ⟨fun q => absurd q (by decide), fun q => absurd q h⟩
/-- a number that isn't outside 0 to N is one of them -/
theorem wi_n {p b : Int32} {N : Nat} (hb : b.toInt = N) (h : ¬ wi p 0 b = 0) : ∃ n : Nat, n ≤ N ∧ p = nI n := by
  rw [wi_0] at h
  exact nI_of2 hb (fun q => h (Or.inl q)) (Int32.not_lt.mp (fun q => h (Or.inr q)))
theorem wi_y {p b : Int32} {n N : Nat} (hb : b = nI N) (hN : N < 2 ^ 31) (h : n ≤ N) (hp : p = nI n) : ¬ wi p 0 b = 0 := by
  rw [wi_0, hb, hp]
  rintro (q | q)
  · exact nI_pos (by omega) q
  · exact nI_nlt h hN q
/-! ===== the relation between the class and the reference ===== -/
def bn (x : Int32) (N : Nat) : Prop := ∃ n : Nat, n ≤ N ∧ x = nI n
/-- where the class holds number i of the row: the cell (from the Navy's own on), the place -/
def cl (i : Nat) : Nat := if i < 6 then 0 else if i < 16 then 8 else if i < 116 then 7 else if i < 128 then 4 + (i - 116) % 3 else 1 + (i - 128) % 3
def ps (i : Nat) : Nat := if i = 0 then 11 else if i = 1 then 10 else if i = 2 then 8 else if i = 3 then 9 else if i = 4 then 0 else if i = 5 then 12 else if i < 16 then i - 6 else if i < 116 then i - 16 else if i < 128 then (i - 116) / 3 else (i - 128) / 3
/-- the Navy in cell b is the row g -/
def RN (μ : MM) (b : Nat) (g : Nat → Int32) : Prop := ∀ i, i < 152 → μ (b + cl i) (ps i) = g i
/-- what number i of a row may be; n CATS -/
def ok (n i : Nat) (x : Int32) : Prop :=
  if i = 0 then bn x 99999 else if i = 1 then bn x 9999 else if i = 2 then bn x 7 else if i = 3 then bn x 65535 else if i = 4 then x = nI n else if i = 5 then True
  else if i < 16 then (x = -1 ∨ ∃ c : Nat, c < n ∧ x = nI c) else if i < 116 then (x = 0 ∨ x = 1)
  else if i < 128 then (if (i - 116) % 3 = 0 then bn x 99 else if (i - 116) % 3 = 1 then bn x 31 else bn x (2 ^ n - 1))
  else (if (i - 128) % 3 = 0 then bn x 6 else if (i - 128) % 3 = 1 then bn x 99 else (-15 ≤ x.toInt ∧ x.toInt ≤ 15))
def VN (g : Nat → Int32) (n : Nat) : Prop := n ≤ 8 ∧ ∀ i, i < 152 → ok n i (g i)
theorem cl_le (i : Nat) : cl i ≤ 8 := by
  unfold cl
  split
  · omega
  · split
    · omega
    · split
      · omega
      · split <;> omega
theorem cp_inj : ∀ i, i < 152 → ∀ j, j < 152 → cl i = cl j → ps i = ps j → i = j := by decide +kernel
theorem cl_k (c : Nat) : cl (128 + 3 * c) = 1 ∧ ps (128 + 3 * c) = c ∧ cl (128 + 3 * c + 1) = 2 ∧ ps (128 + 3 * c + 1) = c ∧ cl (128 + 3 * c + 2) = 3 ∧ ps (128 + 3 * c + 2) = c := by
  refine ⟨?_, ?_, ?_, ?_, ?_, ?_⟩ <;> simp only [cl, ps] <;> (repeat rw [if_neg (by omega)]) <;> omega
theorem cl_s {s : Nat} (h : s < 4) : cl (116 + 3 * s) = 4 ∧ ps (116 + 3 * s) = s ∧ cl (116 + 3 * s + 1) = 5 ∧ ps (116 + 3 * s + 1) = s ∧ cl (116 + 3 * s + 2) = 6 ∧ ps (116 + 3 * s + 2) = s := by
  rcases (by omega : s = 0 ∨ s = 1 ∨ s = 2 ∨ s = 3) with rfl | rfl | rfl | rfl <;> decide
theorem cl_i {c : Nat} (h : c < 100) : cl (16 + c) = 7 ∧ ps (16 + c) = c := by
  constructor <;> simp only [cl, ps] <;> (repeat rw [if_neg (by omega)]) <;> (rw [if_pos (by omega)]) <;> omega
theorem cl_p {k : Nat} (h : k < 10) : cl (6 + k) = 8 ∧ ps (6 + k) = k := by
  constructor <;> simp only [cl, ps] <;> (repeat rw [if_neg (by omega)]) <;> (rw [if_pos (by omega)]) <;> omega
theorem RN.cat {μ : MM} {b : Nat} {g : Nat → Int32} (h : RN μ b g) {c : Nat} (hc : c < 8) : μ (b + 1) c = g (128 + 3 * c) ∧ μ (b + 2) c = g (128 + 3 * c + 1) ∧ μ (b + 3) c = g (128 + 3 * c + 2) := by
  obtain ⟨a1, a2, a3, a4, a5, a6⟩ := cl_k c
  have h1 := h (128 + 3 * c) (by omega)
  have h2 := h (128 + 3 * c + 1) (by omega)
  have h3 := h (128 + 3 * c + 2) (by omega)
  rw [a1, a2] at h1
  rw [a3, a4] at h2
  rw [a5, a6] at h3
  exact ⟨h1, h2, h3⟩
theorem RN.ship {μ : MM} {b : Nat} {g : Nat → Int32} (h : RN μ b g) {s : Nat} (hs : s < 4) : μ (b + 4) s = g (116 + 3 * s) ∧ μ (b + 5) s = g (116 + 3 * s + 1) ∧ μ (b + 6) s = g (116 + 3 * s + 2) := by
  obtain ⟨a1, a2, a3, a4, a5, a6⟩ := cl_s hs
  have h1 := h (116 + 3 * s) (by omega)
  have h2 := h (116 + 3 * s + 1) (by omega)
  have h3 := h (116 + 3 * s + 2) (by omega)
  rw [a1, a2] at h1
  rw [a3, a4] at h2
  rw [a5, a6] at h3
  exact ⟨h1, h2, h3⟩
theorem RN.isl {μ : MM} {b : Nat} {g : Nat → Int32} (h : RN μ b g) {c : Nat} (hc : c < 100) : μ (b + 7) c = g (16 + c) := by
  have h1 := h (16 + c) (by omega)
  rw [(cl_i hc).1, (cl_i hc).2] at h1
  exact h1
theorem RN.spot {μ : MM} {b : Nat} {g : Nat → Int32} (h : RN μ b g) {k : Nat} (hk : k < 10) : μ (b + 8) k = g (6 + k) := by
  have h1 := h (6 + k) (by omega)
  rw [(cl_p hk).1, (cl_p hk).2] at h1
  exact h1
theorem RN.num {μ : MM} {b : Nat} {g : Nat → Int32} (h : RN μ b g) : μ b 0 = g 4 ∧ μ b 8 = g 2 ∧ μ b 9 = g 3 ∧ μ b 10 = g 1 ∧ μ b 11 = g 0 ∧ μ b 12 = g 5 := ⟨h 4 (by decide), h 2 (by decide), h 3 (by decide), h 1 (by decide), h 0 (by decide), h 5 (by decide)⟩
theorem VN.cats {g : Nat → Int32} {n : Nat} (h : VN g n) : g 4 = nI n := h.2 4 (by decide)
theorem VN.cat {g : Nat → Int32} {n : Nat} (h : VN g n) {c : Nat} (hc : c < 8) : bn (g (128 + 3 * c)) 6 ∧ bn (g (128 + 3 * c + 1)) 99 ∧ -15 ≤ (g (128 + 3 * c + 2)).toInt ∧ (g (128 + 3 * c + 2)).toInt ≤ 15 := by
  have h1 := h.2 (128 + 3 * c) (by omega)
  have h2 := h.2 (128 + 3 * c + 1) (by omega)
  have h3 := h.2 (128 + 3 * c + 2) (by omega)
  unfold ok at h1 h2 h3
  repeat rw [if_neg (by omega)] at h1
  rw [if_pos (by omega)] at h1
  repeat rw [if_neg (by omega)] at h2
  rw [if_pos (by omega)] at h2
  repeat rw [if_neg (by omega)] at h3
  exact ⟨h1, h2, h3⟩
theorem VN.ship {g : Nat → Int32} {n : Nat} (h : VN g n) {s : Nat} (hs : s < 4) : bn (g (116 + 3 * s)) 99 ∧ bn (g (116 + 3 * s + 1)) 31 ∧ bn (g (116 + 3 * s + 2)) (2 ^ n - 1) := by
  have h1 := h.2 (116 + 3 * s) (by omega)
  have h2 := h.2 (116 + 3 * s + 1) (by omega)
  have h3 := h.2 (116 + 3 * s + 2) (by omega)
  rcases (by omega : s = 0 ∨ s = 1 ∨ s = 2 ∨ s = 3) with rfl | rfl | rfl | rfl <;> exact ⟨h1, h2, h3⟩
theorem VN.isl {g : Nat → Int32} {n : Nat} (h : VN g n) {c : Nat} (hc : c < 100) : g (16 + c) = 0 ∨ g (16 + c) = 1 := by
  have h1 := h.2 (16 + c) (by omega)
  unfold ok at h1
  repeat rw [if_neg (by omega)] at h1
  rw [if_pos (by omega)] at h1
  exact h1
theorem VN.spot {g : Nat → Int32} {n : Nat} (h : VN g n) {k : Nat} (hk : k < 10) : g (6 + k) = -1 ∨ ∃ c : Nat, c < n ∧ g (6 + k) = nI c := by
  have h1 := h.2 (6 + k) (by omega)
  unfold ok at h1
  repeat rw [if_neg (by omega)] at h1
  rw [if_pos (by omega)] at h1
  exact h1
theorem VN.num {g : Nat → Int32} {n : Nat} (h : VN g n) : bn (g 0) 99999 ∧ bn (g 1) 9999 ∧ bn (g 2) 7 ∧ bn (g 3) 65535 := ⟨h.2 0 (by decide), h.2 1 (by decide), h.2 2 (by decide), h.2 3 (by decide)⟩
/-- findings counted -/
def RF (μ : MM) : Prop := (∀ i, i < 7 → μ 34 i = μ 41 (i + 1)) ∧ μ 41 0 = μ 41 1 + μ 41 2 + μ 41 3 + μ 41 4 + μ 41 5 + μ 41 6 + μ 41 7
/-- the tape -/
def RP (μ : MM) : Prop := ∃ n : Nat, n ≤ 120 ∧ μ 19 1 = nI n ∧ μ 37 11 = nI n ∧ ∀ i, i < n → μ 20 i = μ 44 i ∧ bn (μ 44 i) 255
/-- the sheets -/
def RS (μ : MM) : Prop := ∀ j, j < 4 → μ (26 + 2 * j) 0 = μ 47 j ∧ μ (26 + 2 * j) 1 = μ 48 j ∧ (∀ i, i < 40 → μ (27 + 2 * j) i = μ 49 (40 * j + i)) ∧ bn (μ 48 j) 40 ∧ (μ 47 j = 0 ∨ μ 47 j = 8 ∨ μ 47 j = 16 ∨ μ 47 j = 32)
/-- what is kept -/
def RK (μ : MM) : Prop := μ 0 2 = μ 37 3 ∧ ((μ 37 3 = 0) ∨ (μ 37 3 = 1 ∧ RN μ 10 (μ 39) ∧ ∃ n, VN (μ 39) n))
/-- the reference's own tables -/
def RC (μ : MM) : Prop := ∀ j, j < 8 → μ 42 j = tS 0 j ∧ μ 43 j = tS 1 j
def Rel (μ : MM) : Prop := RN μ 1 (μ 38) ∧ (∃ n, VN (μ 38) n) ∧ RK μ ∧ RF μ ∧ RP μ ∧ RS μ ∧ RC μ
/-- one call, of the class and of the reference -/
def Two {α : Type} (fx fm : MM → Option (α × MM)) : Prop := ∀ μ, Rel μ → ∃ r μ1 μ2, fx μ = some (r, μ1) ∧ fm μ1 = some (r, μ2) ∧ Rel μ2
