/-- a memory: what number each cell holds in each place -/
abbrev MM : Type := Nat → Nat → Int32
def wsr (μ : MM) (k : Nat) (f : Nat → Int32) : MM := fun q => if q = k then f else μ q
abbrev wst (μ : MM) (k i : Nat) (v : Int32) : MM := wsr μ k (upd (μ k) i v)
theorem wsr_same (μ : MM) (k : Nat) (f : Nat → Int32) : wsr μ k f k = f := if_pos rfl
theorem wsr_ne {μ : MM} {k q : Nat} {f : Nat → Int32} (h : q ≠ k) : wsr μ k f q = μ q := if_neg h
/-- the classes' numbers, the cells' addresses, the array classes, the statics' addresses -/
abbrev EN : Type := va_G × (Nat → Nat) × (Nat → ClassId) × (Nat → Nat)
abbrev tyL (G : EN) : List (ClassId × FieldType) := [(G.2.2.1 0, .int), (G.2.2.1 1, .boolean), (G.2.2.1 2, .object "NavyOfCats$Sheet"), (G.2.2.1 3, .object "java/lang/String")]
/-- what cell k is, if it holds the numbers f -/
def cel (G : EN) (k : Nat) (f : Nat → Int32) : Nat × va_E := match k with
  | 0 => (G.2.1 0, .inr (4, [.ref (G.2.1 1), .ref (G.2.1 10), .int (f 2), .ref (G.2.1 19), .ref (G.2.1 21), .ref (G.2.1 25), .ref (G.2.1 34), .ref (G.2.1 35), .ref (G.2.1 36)]))
  | 1 => (G.2.1 1, .inr (0, [.int (f 0), .ref (G.2.1 2), .ref (G.2.1 3), .ref (G.2.1 4), .ref (G.2.1 5), .ref (G.2.1 6), .ref (G.2.1 7), .ref (G.2.1 8), .int (f 8), .int (f 9), .int (f 10), .int (f 11), .int (f 12), .ref (G.2.1 9)]))
  | 2 => (G.2.1 2, .inl (G.2.2.1 0, 8, .inl f))
  | 3 => (G.2.1 3, .inl (G.2.2.1 0, 8, .inl f))
  | 4 => (G.2.1 4, .inl (G.2.2.1 0, 8, .inl f))
  | 5 => (G.2.1 5, .inl (G.2.2.1 0, 4, .inl f))
  | 6 => (G.2.1 6, .inl (G.2.2.1 0, 4, .inl f))
  | 7 => (G.2.1 7, .inl (G.2.2.1 0, 4, .inl f))
  | 8 => (G.2.1 8, .inl (G.2.2.1 1, 100, .inl f))
  | 9 => (G.2.1 9, .inl (G.2.2.1 0, 10, .inl f))
  | 10 => (G.2.1 10, .inr (0, [.int (f 0), .ref (G.2.1 11), .ref (G.2.1 12), .ref (G.2.1 13), .ref (G.2.1 14), .ref (G.2.1 15), .ref (G.2.1 16), .ref (G.2.1 17), .int (f 8), .int (f 9), .int (f 10), .int (f 11), .int (f 12), .ref (G.2.1 18)]))
  | 11 => (G.2.1 11, .inl (G.2.2.1 0, 8, .inl f))
  | 12 => (G.2.1 12, .inl (G.2.2.1 0, 8, .inl f))
  | 13 => (G.2.1 13, .inl (G.2.2.1 0, 8, .inl f))
  | 14 => (G.2.1 14, .inl (G.2.2.1 0, 4, .inl f))
  | 15 => (G.2.1 15, .inl (G.2.2.1 0, 4, .inl f))
  | 16 => (G.2.1 16, .inl (G.2.2.1 0, 4, .inl f))
  | 17 => (G.2.1 17, .inl (G.2.2.1 1, 100, .inl f))
  | 18 => (G.2.1 18, .inl (G.2.2.1 0, 10, .inl f))
  | 19 => (G.2.1 19, .inr (3, [.ref (G.2.1 20), .int (f 1)]))
  | 20 => (G.2.1 20, .inl (G.2.2.1 0, 120, .inl f))
  | 21 => (G.2.1 21, .inr (1, [.ref (G.2.1 22), .ref (G.2.1 23), .ref (G.2.1 24), .int (f 3), .int (f 4), .int (f 5), .int (f 6), .int (f 7)]))
  | 22 => (G.2.1 22, .inl (G.2.2.1 0, 121, .inl f))
  | 23 => (G.2.1 23, .inl (G.2.2.1 0, 121, .inl f))
  | 24 => (G.2.1 24, .inl (G.2.2.1 0, 121, .inl f))
  | 25 => (G.2.1 25, .inl (G.2.2.1 2, 4, .inr (.inr (.inr (.inr (fun j => some (G.2.1 (26 + 2 * j))))))))
  | 26 => (G.2.1 26, .inr (2, [.int (f 0), .int (f 1), .ref (G.2.1 27)]))
  | 27 => (G.2.1 27, .inl (G.2.2.1 0, 40, .inl f))
  | 28 => (G.2.1 28, .inr (2, [.int (f 0), .int (f 1), .ref (G.2.1 29)]))
  | 29 => (G.2.1 29, .inl (G.2.2.1 0, 40, .inl f))
  | 30 => (G.2.1 30, .inr (2, [.int (f 0), .int (f 1), .ref (G.2.1 31)]))
  | 31 => (G.2.1 31, .inl (G.2.2.1 0, 40, .inl f))
  | 32 => (G.2.1 32, .inr (2, [.int (f 0), .int (f 1), .ref (G.2.1 33)]))
  | 33 => (G.2.1 33, .inl (G.2.2.1 0, 40, .inl f))
  | 34 => (G.2.1 34, .inl (G.2.2.1 0, 7, .inl f))
  | 35 => (G.2.1 35, .inl (G.2.2.1 0, 60, .inl f))
  | 36 => (G.2.1 36, .inl (G.2.2.1 0, 4, .inl f))
  | 37 => (G.2.1 37, .inr (5, [.ref (G.2.1 38), .ref (G.2.1 39), .ref (G.2.1 40), .int (f 3), .ref (G.2.1 41), .ref (G.2.1 42), .ref (G.2.1 43), .int (f 7), .int (f 8), .int (f 9), .ref (G.2.1 44), .int (f 11), .int (f 12), .int (f 13), .int (f 14), .int (f 15), .int (f 16), .ref (G.2.1 45), .ref (G.2.1 46), .int (f 19), .int (f 20), .int (f 21), .ref (G.2.1 47), .ref (G.2.1 48), .ref (G.2.1 49), .ref (G.2.1 50)]))
  | 38 => (G.2.1 38, .inl (G.2.2.1 0, 152, .inl f))
  | 39 => (G.2.1 39, .inl (G.2.2.1 0, 152, .inl f))
  | 40 => (G.2.1 40, .inl (G.2.2.1 0, 152, .inl f))
  | 41 => (G.2.1 41, .inl (G.2.2.1 0, 8, .inl f))
  | 42 => (G.2.1 42, .inl (G.2.2.1 0, 8, .inl f))
  | 43 => (G.2.1 43, .inl (G.2.2.1 0, 8, .inl f))
  | 44 => (G.2.1 44, .inl (G.2.2.1 0, 120, .inl f))
  | 45 => (G.2.1 45, .inl (G.2.2.1 3, 7, .inr (.inr (.inr (.inr (fun j => some (G.2.1 (100 + j))))))))
  | 46 => (G.2.1 46, .inl (G.2.2.1 0, 360, .inl f))
  | 47 => (G.2.1 47, .inl (G.2.2.1 0, 4, .inl f))
  | 48 => (G.2.1 48, .inl (G.2.2.1 0, 4, .inl f))
  | 49 => (G.2.1 49, .inl (G.2.2.1 0, 160, .inl f))
  | 50 => (G.2.1 50, .inl (G.2.2.1 0, 40, .inl f))
  | k => (G.2.1 k, .inr (0, []))
theorem cel_0 (G : EN) (f : Nat → Int32) : cel G 0 f = (G.2.1 0, .inr (4, [.ref (G.2.1 1), .ref (G.2.1 10), .int (f 2), .ref (G.2.1 19), .ref (G.2.1 21), .ref (G.2.1 25), .ref (G.2.1 34), .ref (G.2.1 35), .ref (G.2.1 36)])) := rfl
theorem cel_1 (G : EN) (f : Nat → Int32) : cel G 1 f = (G.2.1 1, .inr (0, [.int (f 0), .ref (G.2.1 2), .ref (G.2.1 3), .ref (G.2.1 4), .ref (G.2.1 5), .ref (G.2.1 6), .ref (G.2.1 7), .ref (G.2.1 8), .int (f 8), .int (f 9), .int (f 10), .int (f 11), .int (f 12), .ref (G.2.1 9)])) := rfl
theorem cel_2 (G : EN) (f : Nat → Int32) : cel G 2 f = (G.2.1 2, .inl (G.2.2.1 0, 8, .inl f)) := rfl
theorem cel_3 (G : EN) (f : Nat → Int32) : cel G 3 f = (G.2.1 3, .inl (G.2.2.1 0, 8, .inl f)) := rfl
theorem cel_4 (G : EN) (f : Nat → Int32) : cel G 4 f = (G.2.1 4, .inl (G.2.2.1 0, 8, .inl f)) := rfl
theorem cel_5 (G : EN) (f : Nat → Int32) : cel G 5 f = (G.2.1 5, .inl (G.2.2.1 0, 4, .inl f)) := rfl
theorem cel_6 (G : EN) (f : Nat → Int32) : cel G 6 f = (G.2.1 6, .inl (G.2.2.1 0, 4, .inl f)) := rfl
theorem cel_7 (G : EN) (f : Nat → Int32) : cel G 7 f = (G.2.1 7, .inl (G.2.2.1 0, 4, .inl f)) := rfl
theorem cel_8 (G : EN) (f : Nat → Int32) : cel G 8 f = (G.2.1 8, .inl (G.2.2.1 1, 100, .inl f)) := rfl
theorem cel_9 (G : EN) (f : Nat → Int32) : cel G 9 f = (G.2.1 9, .inl (G.2.2.1 0, 10, .inl f)) := rfl
theorem cel_10 (G : EN) (f : Nat → Int32) : cel G 10 f = (G.2.1 10, .inr (0, [.int (f 0), .ref (G.2.1 11), .ref (G.2.1 12), .ref (G.2.1 13), .ref (G.2.1 14), .ref (G.2.1 15), .ref (G.2.1 16), .ref (G.2.1 17), .int (f 8), .int (f 9), .int (f 10), .int (f 11), .int (f 12), .ref (G.2.1 18)])) := rfl
theorem cel_11 (G : EN) (f : Nat → Int32) : cel G 11 f = (G.2.1 11, .inl (G.2.2.1 0, 8, .inl f)) := rfl
theorem cel_12 (G : EN) (f : Nat → Int32) : cel G 12 f = (G.2.1 12, .inl (G.2.2.1 0, 8, .inl f)) := rfl
theorem cel_13 (G : EN) (f : Nat → Int32) : cel G 13 f = (G.2.1 13, .inl (G.2.2.1 0, 8, .inl f)) := rfl
theorem cel_14 (G : EN) (f : Nat → Int32) : cel G 14 f = (G.2.1 14, .inl (G.2.2.1 0, 4, .inl f)) := rfl
theorem cel_15 (G : EN) (f : Nat → Int32) : cel G 15 f = (G.2.1 15, .inl (G.2.2.1 0, 4, .inl f)) := rfl
theorem cel_16 (G : EN) (f : Nat → Int32) : cel G 16 f = (G.2.1 16, .inl (G.2.2.1 0, 4, .inl f)) := rfl
theorem cel_17 (G : EN) (f : Nat → Int32) : cel G 17 f = (G.2.1 17, .inl (G.2.2.1 1, 100, .inl f)) := rfl
theorem cel_18 (G : EN) (f : Nat → Int32) : cel G 18 f = (G.2.1 18, .inl (G.2.2.1 0, 10, .inl f)) := rfl
theorem cel_19 (G : EN) (f : Nat → Int32) : cel G 19 f = (G.2.1 19, .inr (3, [.ref (G.2.1 20), .int (f 1)])) := rfl
theorem cel_20 (G : EN) (f : Nat → Int32) : cel G 20 f = (G.2.1 20, .inl (G.2.2.1 0, 120, .inl f)) := rfl
theorem cel_21 (G : EN) (f : Nat → Int32) : cel G 21 f = (G.2.1 21, .inr (1, [.ref (G.2.1 22), .ref (G.2.1 23), .ref (G.2.1 24), .int (f 3), .int (f 4), .int (f 5), .int (f 6), .int (f 7)])) := rfl
theorem cel_22 (G : EN) (f : Nat → Int32) : cel G 22 f = (G.2.1 22, .inl (G.2.2.1 0, 121, .inl f)) := rfl
theorem cel_23 (G : EN) (f : Nat → Int32) : cel G 23 f = (G.2.1 23, .inl (G.2.2.1 0, 121, .inl f)) := rfl
theorem cel_24 (G : EN) (f : Nat → Int32) : cel G 24 f = (G.2.1 24, .inl (G.2.2.1 0, 121, .inl f)) := rfl
theorem cel_25 (G : EN) (f : Nat → Int32) : cel G 25 f = (G.2.1 25, .inl (G.2.2.1 2, 4, .inr (.inr (.inr (.inr (fun j => some (G.2.1 (26 + 2 * j)))))))) := rfl
theorem cel_26 (G : EN) (f : Nat → Int32) : cel G 26 f = (G.2.1 26, .inr (2, [.int (f 0), .int (f 1), .ref (G.2.1 27)])) := rfl
theorem cel_27 (G : EN) (f : Nat → Int32) : cel G 27 f = (G.2.1 27, .inl (G.2.2.1 0, 40, .inl f)) := rfl
theorem cel_28 (G : EN) (f : Nat → Int32) : cel G 28 f = (G.2.1 28, .inr (2, [.int (f 0), .int (f 1), .ref (G.2.1 29)])) := rfl
theorem cel_29 (G : EN) (f : Nat → Int32) : cel G 29 f = (G.2.1 29, .inl (G.2.2.1 0, 40, .inl f)) := rfl
theorem cel_30 (G : EN) (f : Nat → Int32) : cel G 30 f = (G.2.1 30, .inr (2, [.int (f 0), .int (f 1), .ref (G.2.1 31)])) := rfl
theorem cel_31 (G : EN) (f : Nat → Int32) : cel G 31 f = (G.2.1 31, .inl (G.2.2.1 0, 40, .inl f)) := rfl
theorem cel_32 (G : EN) (f : Nat → Int32) : cel G 32 f = (G.2.1 32, .inr (2, [.int (f 0), .int (f 1), .ref (G.2.1 33)])) := rfl
theorem cel_33 (G : EN) (f : Nat → Int32) : cel G 33 f = (G.2.1 33, .inl (G.2.2.1 0, 40, .inl f)) := rfl
theorem cel_34 (G : EN) (f : Nat → Int32) : cel G 34 f = (G.2.1 34, .inl (G.2.2.1 0, 7, .inl f)) := rfl
theorem cel_35 (G : EN) (f : Nat → Int32) : cel G 35 f = (G.2.1 35, .inl (G.2.2.1 0, 60, .inl f)) := rfl
theorem cel_36 (G : EN) (f : Nat → Int32) : cel G 36 f = (G.2.1 36, .inl (G.2.2.1 0, 4, .inl f)) := rfl
theorem cel_37 (G : EN) (f : Nat → Int32) : cel G 37 f = (G.2.1 37, .inr (5, [.ref (G.2.1 38), .ref (G.2.1 39), .ref (G.2.1 40), .int (f 3), .ref (G.2.1 41), .ref (G.2.1 42), .ref (G.2.1 43), .int (f 7), .int (f 8), .int (f 9), .ref (G.2.1 44), .int (f 11), .int (f 12), .int (f 13), .int (f 14), .int (f 15), .int (f 16), .ref (G.2.1 45), .ref (G.2.1 46), .int (f 19), .int (f 20), .int (f 21), .ref (G.2.1 47), .ref (G.2.1 48), .ref (G.2.1 49), .ref (G.2.1 50)])) := rfl
theorem cel_38 (G : EN) (f : Nat → Int32) : cel G 38 f = (G.2.1 38, .inl (G.2.2.1 0, 152, .inl f)) := rfl
theorem cel_39 (G : EN) (f : Nat → Int32) : cel G 39 f = (G.2.1 39, .inl (G.2.2.1 0, 152, .inl f)) := rfl
theorem cel_40 (G : EN) (f : Nat → Int32) : cel G 40 f = (G.2.1 40, .inl (G.2.2.1 0, 152, .inl f)) := rfl
theorem cel_41 (G : EN) (f : Nat → Int32) : cel G 41 f = (G.2.1 41, .inl (G.2.2.1 0, 8, .inl f)) := rfl
theorem cel_42 (G : EN) (f : Nat → Int32) : cel G 42 f = (G.2.1 42, .inl (G.2.2.1 0, 8, .inl f)) := rfl
theorem cel_43 (G : EN) (f : Nat → Int32) : cel G 43 f = (G.2.1 43, .inl (G.2.2.1 0, 8, .inl f)) := rfl
theorem cel_44 (G : EN) (f : Nat → Int32) : cel G 44 f = (G.2.1 44, .inl (G.2.2.1 0, 120, .inl f)) := rfl
theorem cel_45 (G : EN) (f : Nat → Int32) : cel G 45 f = (G.2.1 45, .inl (G.2.2.1 3, 7, .inr (.inr (.inr (.inr (fun j => some (G.2.1 (100 + j)))))))) := rfl
theorem cel_46 (G : EN) (f : Nat → Int32) : cel G 46 f = (G.2.1 46, .inl (G.2.2.1 0, 360, .inl f)) := rfl
theorem cel_47 (G : EN) (f : Nat → Int32) : cel G 47 f = (G.2.1 47, .inl (G.2.2.1 0, 4, .inl f)) := rfl
theorem cel_48 (G : EN) (f : Nat → Int32) : cel G 48 f = (G.2.1 48, .inl (G.2.2.1 0, 4, .inl f)) := rfl
theorem cel_49 (G : EN) (f : Nat → Int32) : cel G 49 f = (G.2.1 49, .inl (G.2.2.1 0, 160, .inl f)) := rfl
theorem cel_50 (G : EN) (f : Nat → Int32) : cel G 50 f = (G.2.1 50, .inl (G.2.2.1 0, 40, .inl f)) := rfl
theorem celA (G : EN) (k : Nat) (f : Nat → Int32) : (cel G k f).1 = G.2.1 k := by
  unfold cel
  split <;> rfl
def wA (G : EN) (μ : MM) : va_W := (List.range 51).map (fun k => cel G k (μ k))
theorem wA_get (G : EN) (μ : MM) {k : Nat} (h : k < 51) : (wA G μ)[k]? = some (cel G k (μ k)) := by
  simp [wA, h]
theorem wA_inv {G : EN} {μ : MM} {k : Nat} {q : Nat × va_E} (h : (wA G μ)[k]? = some q) : k < 51 ∧ q = cel G k (μ k) := by
  simp only [wA, List.getElem?_map, Option.map_eq_some_iff] at h
  obtain ⟨j, h1, h2⟩ := h
  have hl : k < 51 := by
    have := (List.getElem?_eq_some_iff.mp h1).1
    simpa using this
  rw [List.getElem?_range hl] at h1
  cases h1
  exact ⟨hl, h2.symm⟩
theorem wA_set (G : EN) (μ : MM) {k : Nat} (h : k < 51) (f : Nat → Int32) : (wA G μ).set k (cel G k f) = wA G (wsr μ k f) := by
  apply List.ext_getElem?
  intro j
  rw [List.getElem?_set]
  by_cases hj : k = j
  · subst hj
    have hl : k < (wA G μ).length := by simpa [wA] using h
    rw [if_pos rfl, if_pos hl, wA_get G _ h, wsr_same]
  · rw [if_neg hj]
    by_cases h5 : j < 51
    · rw [wA_get G _ h5, wA_get G _ h5, wsr_ne (fun e => hj e.symm)]
    · rw [List.getElem?_eq_none (by simp [wA]; omega), List.getElem?_eq_none (by simp [wA]; omega)]
theorem wA_D {G : EN} {A : Nat → Prop} {μ : MM} (μ' : MM) (h : va_D A (wA G μ)) : va_D A (wA G μ') := by
  refine ⟨fun i j p q hi hj e => ?_, fun k q hk => ?_⟩
  · obtain ⟨h1, rfl⟩ := wA_inv hi
    obtain ⟨h2, rfl⟩ := wA_inv hj
    refine h.1 i j _ _ (wA_get G μ h1) (wA_get G μ h2) ?_
    rw [celA, celA]
    rw [celA, celA] at e
    exact e
  · obtain ⟨h1, rfl⟩ := wA_inv hk
    have := h.2 k _ (wA_get G μ h1)
    rw [celA] at this ⊢
    exact this
/-- the cells' addresses, and all that come from sz on -/
def AA (G : EN) (sz : Nat) : Nat → Prop := fun q => (∃ k, k < 51 ∧ q = G.2.1 k) ∨ sz ≤ q
/-- field i of the object in cell k is read: it holds v of the numbers there -/
def FG (G : EN) (k ci i : Nat) (C : String) (T : u_T) (N : Nat) (v : (Nat → Int32) → Value) : Prop :=
  k < 51 ∧ vwCl[ci]? = some (C, T, N) ∧ (∀ w ∈ u_ws C T N, w ∈ TT) ∧ i < N ∧ (T i).1 = C ∧ ∃ fl : (Nat → Int32) → List Value, ∀ f, cel G k f = (G.2.1 k, .inr (ci, fl f)) ∧ (fl f)[i]? = some (v f)
/-- field i, a number, of the object in cell k is written -/
def FP (G : EN) (k ci i : Nat) (C : String) (T : u_T) (N : Nat) (ty0 : Nat → FieldType) (ty : FieldType) : Prop :=
  k < 51 ∧ vwCl[ci]? = some (C, T, N) ∧ (∀ w ∈ u_ws C T N, w ∈ TT) ∧ i < N ∧ (T i).1 = C ∧ (T i).2.2.2 = false ∧ (∀ k, k < N → parseFieldDescriptor (T k).2.2.1 = some (ty0 k)) ∧ (∀ a, a < N → ∀ b, b < N → a ≠ b → (T a).2.1 ≠ (T b).2.1) ∧ parseFieldDescriptor (T i).2.2.1 = some ty ∧
    ∃ fl : (Nat → Int32) → List Value, ∀ f, cel G k f = (G.2.1 k, .inr (ci, fl f)) ∧ i < (fl f).length ∧ ∀ v, (fl f).set i (.int v) = fl (upd f i v)
/-- cell k is an array of n ints -/
def AI (G : EN) (k n : Nat) : Prop := k < 51 ∧ ∀ f, cel G k f = (G.2.1 k, .inl (G.2.2.1 0, n, .inl f))
/-- cell k is an array of n booleans -/
def AZ (G : EN) (k n : Nat) : Prop := k < 51 ∧ ∀ f, cel G k f = (G.2.1 k, .inl (G.2.2.1 1, n, .inl f))
/-- cell k is an array of n references: place j holds the address of cell (b + d * j) -/
def AQ (G : EN) (k n t b d : Nat) : Prop := k < 51 ∧ ∀ f, cel G k f = (G.2.1 k, .inl (G.2.2.1 t, n, .inr (.inr (.inr (.inr (fun j => some (G.2.1 (b + d * j))))))))
theorem fg_0_0 (G : EN) : FG G 0 4 0 RX4 TX4 9 (fun f => .ref (G.2.1 1)) := ⟨by decide, rfl, inTX4, by decide, rfl, fun f => [.ref (G.2.1 1), .ref (G.2.1 10), .int (f 2), .ref (G.2.1 19), .ref (G.2.1 21), .ref (G.2.1 25), .ref (G.2.1 34), .ref (G.2.1 35), .ref (G.2.1 36)], fun f => ⟨rfl, rfl⟩⟩
theorem fg_0_1 (G : EN) : FG G 0 4 1 RX4 TX4 9 (fun f => .ref (G.2.1 10)) := ⟨by decide, rfl, inTX4, by decide, rfl, fun f => [.ref (G.2.1 1), .ref (G.2.1 10), .int (f 2), .ref (G.2.1 19), .ref (G.2.1 21), .ref (G.2.1 25), .ref (G.2.1 34), .ref (G.2.1 35), .ref (G.2.1 36)], fun f => ⟨rfl, rfl⟩⟩
theorem fg_0_2 (G : EN) : FG G 0 4 2 RX4 TX4 9 (fun f => .int (f 2)) := ⟨by decide, rfl, inTX4, by decide, rfl, fun f => [.ref (G.2.1 1), .ref (G.2.1 10), .int (f 2), .ref (G.2.1 19), .ref (G.2.1 21), .ref (G.2.1 25), .ref (G.2.1 34), .ref (G.2.1 35), .ref (G.2.1 36)], fun f => ⟨rfl, rfl⟩⟩
theorem fp_0_2 (G : EN) : FP G 0 4 2 RX4 TX4 9 tyX4 .boolean := ⟨by decide, rfl, inTX4, by decide, rfl, rfl, tyX4_ok, nmX4, by decide +kernel, fun f => [.ref (G.2.1 1), .ref (G.2.1 10), .int (f 2), .ref (G.2.1 19), .ref (G.2.1 21), .ref (G.2.1 25), .ref (G.2.1 34), .ref (G.2.1 35), .ref (G.2.1 36)], fun f => ⟨rfl, Nat.le_of_ble_eq_true rfl, fun v => by simp [upd]⟩⟩
theorem fg_0_3 (G : EN) : FG G 0 4 3 RX4 TX4 9 (fun f => .ref (G.2.1 19)) := ⟨by decide, rfl, inTX4, by decide, rfl, fun f => [.ref (G.2.1 1), .ref (G.2.1 10), .int (f 2), .ref (G.2.1 19), .ref (G.2.1 21), .ref (G.2.1 25), .ref (G.2.1 34), .ref (G.2.1 35), .ref (G.2.1 36)], fun f => ⟨rfl, rfl⟩⟩
theorem fg_0_4 (G : EN) : FG G 0 4 4 RX4 TX4 9 (fun f => .ref (G.2.1 21)) := ⟨by decide, rfl, inTX4, by decide, rfl, fun f => [.ref (G.2.1 1), .ref (G.2.1 10), .int (f 2), .ref (G.2.1 19), .ref (G.2.1 21), .ref (G.2.1 25), .ref (G.2.1 34), .ref (G.2.1 35), .ref (G.2.1 36)], fun f => ⟨rfl, rfl⟩⟩
theorem fg_0_5 (G : EN) : FG G 0 4 5 RX4 TX4 9 (fun f => .ref (G.2.1 25)) := ⟨by decide, rfl, inTX4, by decide, rfl, fun f => [.ref (G.2.1 1), .ref (G.2.1 10), .int (f 2), .ref (G.2.1 19), .ref (G.2.1 21), .ref (G.2.1 25), .ref (G.2.1 34), .ref (G.2.1 35), .ref (G.2.1 36)], fun f => ⟨rfl, rfl⟩⟩
theorem fg_0_6 (G : EN) : FG G 0 4 6 RX4 TX4 9 (fun f => .ref (G.2.1 34)) := ⟨by decide, rfl, inTX4, by decide, rfl, fun f => [.ref (G.2.1 1), .ref (G.2.1 10), .int (f 2), .ref (G.2.1 19), .ref (G.2.1 21), .ref (G.2.1 25), .ref (G.2.1 34), .ref (G.2.1 35), .ref (G.2.1 36)], fun f => ⟨rfl, rfl⟩⟩
theorem fg_0_7 (G : EN) : FG G 0 4 7 RX4 TX4 9 (fun f => .ref (G.2.1 35)) := ⟨by decide, rfl, inTX4, by decide, rfl, fun f => [.ref (G.2.1 1), .ref (G.2.1 10), .int (f 2), .ref (G.2.1 19), .ref (G.2.1 21), .ref (G.2.1 25), .ref (G.2.1 34), .ref (G.2.1 35), .ref (G.2.1 36)], fun f => ⟨rfl, rfl⟩⟩
theorem fg_0_8 (G : EN) : FG G 0 4 8 RX4 TX4 9 (fun f => .ref (G.2.1 36)) := ⟨by decide, rfl, inTX4, by decide, rfl, fun f => [.ref (G.2.1 1), .ref (G.2.1 10), .int (f 2), .ref (G.2.1 19), .ref (G.2.1 21), .ref (G.2.1 25), .ref (G.2.1 34), .ref (G.2.1 35), .ref (G.2.1 36)], fun f => ⟨rfl, rfl⟩⟩
theorem fg_1_0 (G : EN) : FG G 1 0 0 RX0 TX0 14 (fun f => .int (f 0)) := ⟨by decide, rfl, inTX0, by decide, rfl, fun f => [.int (f 0), .ref (G.2.1 2), .ref (G.2.1 3), .ref (G.2.1 4), .ref (G.2.1 5), .ref (G.2.1 6), .ref (G.2.1 7), .ref (G.2.1 8), .int (f 8), .int (f 9), .int (f 10), .int (f 11), .int (f 12), .ref (G.2.1 9)], fun f => ⟨rfl, rfl⟩⟩
theorem fp_1_0 (G : EN) : FP G 1 0 0 RX0 TX0 14 tyX0 .int := ⟨by decide, rfl, inTX0, by decide, rfl, rfl, tyX0_ok, nmX0, by decide +kernel, fun f => [.int (f 0), .ref (G.2.1 2), .ref (G.2.1 3), .ref (G.2.1 4), .ref (G.2.1 5), .ref (G.2.1 6), .ref (G.2.1 7), .ref (G.2.1 8), .int (f 8), .int (f 9), .int (f 10), .int (f 11), .int (f 12), .ref (G.2.1 9)], fun f => ⟨rfl, Nat.le_of_ble_eq_true rfl, fun v => by simp [upd]⟩⟩
theorem fg_1_1 (G : EN) : FG G 1 0 1 RX0 TX0 14 (fun f => .ref (G.2.1 2)) := ⟨by decide, rfl, inTX0, by decide, rfl, fun f => [.int (f 0), .ref (G.2.1 2), .ref (G.2.1 3), .ref (G.2.1 4), .ref (G.2.1 5), .ref (G.2.1 6), .ref (G.2.1 7), .ref (G.2.1 8), .int (f 8), .int (f 9), .int (f 10), .int (f 11), .int (f 12), .ref (G.2.1 9)], fun f => ⟨rfl, rfl⟩⟩
theorem fg_1_2 (G : EN) : FG G 1 0 2 RX0 TX0 14 (fun f => .ref (G.2.1 3)) := ⟨by decide, rfl, inTX0, by decide, rfl, fun f => [.int (f 0), .ref (G.2.1 2), .ref (G.2.1 3), .ref (G.2.1 4), .ref (G.2.1 5), .ref (G.2.1 6), .ref (G.2.1 7), .ref (G.2.1 8), .int (f 8), .int (f 9), .int (f 10), .int (f 11), .int (f 12), .ref (G.2.1 9)], fun f => ⟨rfl, rfl⟩⟩
theorem fg_1_3 (G : EN) : FG G 1 0 3 RX0 TX0 14 (fun f => .ref (G.2.1 4)) := ⟨by decide, rfl, inTX0, by decide, rfl, fun f => [.int (f 0), .ref (G.2.1 2), .ref (G.2.1 3), .ref (G.2.1 4), .ref (G.2.1 5), .ref (G.2.1 6), .ref (G.2.1 7), .ref (G.2.1 8), .int (f 8), .int (f 9), .int (f 10), .int (f 11), .int (f 12), .ref (G.2.1 9)], fun f => ⟨rfl, rfl⟩⟩
theorem fg_1_4 (G : EN) : FG G 1 0 4 RX0 TX0 14 (fun f => .ref (G.2.1 5)) := ⟨by decide, rfl, inTX0, by decide, rfl, fun f => [.int (f 0), .ref (G.2.1 2), .ref (G.2.1 3), .ref (G.2.1 4), .ref (G.2.1 5), .ref (G.2.1 6), .ref (G.2.1 7), .ref (G.2.1 8), .int (f 8), .int (f 9), .int (f 10), .int (f 11), .int (f 12), .ref (G.2.1 9)], fun f => ⟨rfl, rfl⟩⟩
theorem fg_1_5 (G : EN) : FG G 1 0 5 RX0 TX0 14 (fun f => .ref (G.2.1 6)) := ⟨by decide, rfl, inTX0, by decide, rfl, fun f => [.int (f 0), .ref (G.2.1 2), .ref (G.2.1 3), .ref (G.2.1 4), .ref (G.2.1 5), .ref (G.2.1 6), .ref (G.2.1 7), .ref (G.2.1 8), .int (f 8), .int (f 9), .int (f 10), .int (f 11), .int (f 12), .ref (G.2.1 9)], fun f => ⟨rfl, rfl⟩⟩
theorem fg_1_6 (G : EN) : FG G 1 0 6 RX0 TX0 14 (fun f => .ref (G.2.1 7)) := ⟨by decide, rfl, inTX0, by decide, rfl, fun f => [.int (f 0), .ref (G.2.1 2), .ref (G.2.1 3), .ref (G.2.1 4), .ref (G.2.1 5), .ref (G.2.1 6), .ref (G.2.1 7), .ref (G.2.1 8), .int (f 8), .int (f 9), .int (f 10), .int (f 11), .int (f 12), .ref (G.2.1 9)], fun f => ⟨rfl, rfl⟩⟩
theorem fg_1_7 (G : EN) : FG G 1 0 7 RX0 TX0 14 (fun f => .ref (G.2.1 8)) := ⟨by decide, rfl, inTX0, by decide, rfl, fun f => [.int (f 0), .ref (G.2.1 2), .ref (G.2.1 3), .ref (G.2.1 4), .ref (G.2.1 5), .ref (G.2.1 6), .ref (G.2.1 7), .ref (G.2.1 8), .int (f 8), .int (f 9), .int (f 10), .int (f 11), .int (f 12), .ref (G.2.1 9)], fun f => ⟨rfl, rfl⟩⟩
theorem fg_1_8 (G : EN) : FG G 1 0 8 RX0 TX0 14 (fun f => .int (f 8)) := ⟨by decide, rfl, inTX0, by decide, rfl, fun f => [.int (f 0), .ref (G.2.1 2), .ref (G.2.1 3), .ref (G.2.1 4), .ref (G.2.1 5), .ref (G.2.1 6), .ref (G.2.1 7), .ref (G.2.1 8), .int (f 8), .int (f 9), .int (f 10), .int (f 11), .int (f 12), .ref (G.2.1 9)], fun f => ⟨rfl, rfl⟩⟩
theorem fp_1_8 (G : EN) : FP G 1 0 8 RX0 TX0 14 tyX0 .int := ⟨by decide, rfl, inTX0, by decide, rfl, rfl, tyX0_ok, nmX0, by decide +kernel, fun f => [.int (f 0), .ref (G.2.1 2), .ref (G.2.1 3), .ref (G.2.1 4), .ref (G.2.1 5), .ref (G.2.1 6), .ref (G.2.1 7), .ref (G.2.1 8), .int (f 8), .int (f 9), .int (f 10), .int (f 11), .int (f 12), .ref (G.2.1 9)], fun f => ⟨rfl, Nat.le_of_ble_eq_true rfl, fun v => by simp [upd]⟩⟩
theorem fg_1_9 (G : EN) : FG G 1 0 9 RX0 TX0 14 (fun f => .int (f 9)) := ⟨by decide, rfl, inTX0, by decide, rfl, fun f => [.int (f 0), .ref (G.2.1 2), .ref (G.2.1 3), .ref (G.2.1 4), .ref (G.2.1 5), .ref (G.2.1 6), .ref (G.2.1 7), .ref (G.2.1 8), .int (f 8), .int (f 9), .int (f 10), .int (f 11), .int (f 12), .ref (G.2.1 9)], fun f => ⟨rfl, rfl⟩⟩
theorem fp_1_9 (G : EN) : FP G 1 0 9 RX0 TX0 14 tyX0 .int := ⟨by decide, rfl, inTX0, by decide, rfl, rfl, tyX0_ok, nmX0, by decide +kernel, fun f => [.int (f 0), .ref (G.2.1 2), .ref (G.2.1 3), .ref (G.2.1 4), .ref (G.2.1 5), .ref (G.2.1 6), .ref (G.2.1 7), .ref (G.2.1 8), .int (f 8), .int (f 9), .int (f 10), .int (f 11), .int (f 12), .ref (G.2.1 9)], fun f => ⟨rfl, Nat.le_of_ble_eq_true rfl, fun v => by simp [upd]⟩⟩
theorem fg_1_10 (G : EN) : FG G 1 0 10 RX0 TX0 14 (fun f => .int (f 10)) := ⟨by decide, rfl, inTX0, by decide, rfl, fun f => [.int (f 0), .ref (G.2.1 2), .ref (G.2.1 3), .ref (G.2.1 4), .ref (G.2.1 5), .ref (G.2.1 6), .ref (G.2.1 7), .ref (G.2.1 8), .int (f 8), .int (f 9), .int (f 10), .int (f 11), .int (f 12), .ref (G.2.1 9)], fun f => ⟨rfl, rfl⟩⟩
theorem fp_1_10 (G : EN) : FP G 1 0 10 RX0 TX0 14 tyX0 .int := ⟨by decide, rfl, inTX0, by decide, rfl, rfl, tyX0_ok, nmX0, by decide +kernel, fun f => [.int (f 0), .ref (G.2.1 2), .ref (G.2.1 3), .ref (G.2.1 4), .ref (G.2.1 5), .ref (G.2.1 6), .ref (G.2.1 7), .ref (G.2.1 8), .int (f 8), .int (f 9), .int (f 10), .int (f 11), .int (f 12), .ref (G.2.1 9)], fun f => ⟨rfl, Nat.le_of_ble_eq_true rfl, fun v => by simp [upd]⟩⟩
theorem fg_1_11 (G : EN) : FG G 1 0 11 RX0 TX0 14 (fun f => .int (f 11)) := ⟨by decide, rfl, inTX0, by decide, rfl, fun f => [.int (f 0), .ref (G.2.1 2), .ref (G.2.1 3), .ref (G.2.1 4), .ref (G.2.1 5), .ref (G.2.1 6), .ref (G.2.1 7), .ref (G.2.1 8), .int (f 8), .int (f 9), .int (f 10), .int (f 11), .int (f 12), .ref (G.2.1 9)], fun f => ⟨rfl, rfl⟩⟩
theorem fp_1_11 (G : EN) : FP G 1 0 11 RX0 TX0 14 tyX0 .int := ⟨by decide, rfl, inTX0, by decide, rfl, rfl, tyX0_ok, nmX0, by decide +kernel, fun f => [.int (f 0), .ref (G.2.1 2), .ref (G.2.1 3), .ref (G.2.1 4), .ref (G.2.1 5), .ref (G.2.1 6), .ref (G.2.1 7), .ref (G.2.1 8), .int (f 8), .int (f 9), .int (f 10), .int (f 11), .int (f 12), .ref (G.2.1 9)], fun f => ⟨rfl, Nat.le_of_ble_eq_true rfl, fun v => by simp [upd]⟩⟩
theorem fg_1_12 (G : EN) : FG G 1 0 12 RX0 TX0 14 (fun f => .int (f 12)) := ⟨by decide, rfl, inTX0, by decide, rfl, fun f => [.int (f 0), .ref (G.2.1 2), .ref (G.2.1 3), .ref (G.2.1 4), .ref (G.2.1 5), .ref (G.2.1 6), .ref (G.2.1 7), .ref (G.2.1 8), .int (f 8), .int (f 9), .int (f 10), .int (f 11), .int (f 12), .ref (G.2.1 9)], fun f => ⟨rfl, rfl⟩⟩
theorem fp_1_12 (G : EN) : FP G 1 0 12 RX0 TX0 14 tyX0 .int := ⟨by decide, rfl, inTX0, by decide, rfl, rfl, tyX0_ok, nmX0, by decide +kernel, fun f => [.int (f 0), .ref (G.2.1 2), .ref (G.2.1 3), .ref (G.2.1 4), .ref (G.2.1 5), .ref (G.2.1 6), .ref (G.2.1 7), .ref (G.2.1 8), .int (f 8), .int (f 9), .int (f 10), .int (f 11), .int (f 12), .ref (G.2.1 9)], fun f => ⟨rfl, Nat.le_of_ble_eq_true rfl, fun v => by simp [upd]⟩⟩
theorem fg_1_13 (G : EN) : FG G 1 0 13 RX0 TX0 14 (fun f => .ref (G.2.1 9)) := ⟨by decide, rfl, inTX0, by decide, rfl, fun f => [.int (f 0), .ref (G.2.1 2), .ref (G.2.1 3), .ref (G.2.1 4), .ref (G.2.1 5), .ref (G.2.1 6), .ref (G.2.1 7), .ref (G.2.1 8), .int (f 8), .int (f 9), .int (f 10), .int (f 11), .int (f 12), .ref (G.2.1 9)], fun f => ⟨rfl, rfl⟩⟩
theorem ai_2 (G : EN) : AI G 2 8 := ⟨by decide, fun _ => rfl⟩
theorem ai_3 (G : EN) : AI G 3 8 := ⟨by decide, fun _ => rfl⟩
theorem ai_4 (G : EN) : AI G 4 8 := ⟨by decide, fun _ => rfl⟩
theorem ai_5 (G : EN) : AI G 5 4 := ⟨by decide, fun _ => rfl⟩
theorem ai_6 (G : EN) : AI G 6 4 := ⟨by decide, fun _ => rfl⟩
theorem ai_7 (G : EN) : AI G 7 4 := ⟨by decide, fun _ => rfl⟩
theorem az_8 (G : EN) : AZ G 8 100 := ⟨by decide, fun _ => rfl⟩
theorem ai_9 (G : EN) : AI G 9 10 := ⟨by decide, fun _ => rfl⟩
theorem fg_10_0 (G : EN) : FG G 10 0 0 RX0 TX0 14 (fun f => .int (f 0)) := ⟨by decide, rfl, inTX0, by decide, rfl, fun f => [.int (f 0), .ref (G.2.1 11), .ref (G.2.1 12), .ref (G.2.1 13), .ref (G.2.1 14), .ref (G.2.1 15), .ref (G.2.1 16), .ref (G.2.1 17), .int (f 8), .int (f 9), .int (f 10), .int (f 11), .int (f 12), .ref (G.2.1 18)], fun f => ⟨rfl, rfl⟩⟩
theorem fp_10_0 (G : EN) : FP G 10 0 0 RX0 TX0 14 tyX0 .int := ⟨by decide, rfl, inTX0, by decide, rfl, rfl, tyX0_ok, nmX0, by decide +kernel, fun f => [.int (f 0), .ref (G.2.1 11), .ref (G.2.1 12), .ref (G.2.1 13), .ref (G.2.1 14), .ref (G.2.1 15), .ref (G.2.1 16), .ref (G.2.1 17), .int (f 8), .int (f 9), .int (f 10), .int (f 11), .int (f 12), .ref (G.2.1 18)], fun f => ⟨rfl, Nat.le_of_ble_eq_true rfl, fun v => by simp [upd]⟩⟩
theorem fg_10_1 (G : EN) : FG G 10 0 1 RX0 TX0 14 (fun f => .ref (G.2.1 11)) := ⟨by decide, rfl, inTX0, by decide, rfl, fun f => [.int (f 0), .ref (G.2.1 11), .ref (G.2.1 12), .ref (G.2.1 13), .ref (G.2.1 14), .ref (G.2.1 15), .ref (G.2.1 16), .ref (G.2.1 17), .int (f 8), .int (f 9), .int (f 10), .int (f 11), .int (f 12), .ref (G.2.1 18)], fun f => ⟨rfl, rfl⟩⟩
theorem fg_10_2 (G : EN) : FG G 10 0 2 RX0 TX0 14 (fun f => .ref (G.2.1 12)) := ⟨by decide, rfl, inTX0, by decide, rfl, fun f => [.int (f 0), .ref (G.2.1 11), .ref (G.2.1 12), .ref (G.2.1 13), .ref (G.2.1 14), .ref (G.2.1 15), .ref (G.2.1 16), .ref (G.2.1 17), .int (f 8), .int (f 9), .int (f 10), .int (f 11), .int (f 12), .ref (G.2.1 18)], fun f => ⟨rfl, rfl⟩⟩
theorem fg_10_3 (G : EN) : FG G 10 0 3 RX0 TX0 14 (fun f => .ref (G.2.1 13)) := ⟨by decide, rfl, inTX0, by decide, rfl, fun f => [.int (f 0), .ref (G.2.1 11), .ref (G.2.1 12), .ref (G.2.1 13), .ref (G.2.1 14), .ref (G.2.1 15), .ref (G.2.1 16), .ref (G.2.1 17), .int (f 8), .int (f 9), .int (f 10), .int (f 11), .int (f 12), .ref (G.2.1 18)], fun f => ⟨rfl, rfl⟩⟩
theorem fg_10_4 (G : EN) : FG G 10 0 4 RX0 TX0 14 (fun f => .ref (G.2.1 14)) := ⟨by decide, rfl, inTX0, by decide, rfl, fun f => [.int (f 0), .ref (G.2.1 11), .ref (G.2.1 12), .ref (G.2.1 13), .ref (G.2.1 14), .ref (G.2.1 15), .ref (G.2.1 16), .ref (G.2.1 17), .int (f 8), .int (f 9), .int (f 10), .int (f 11), .int (f 12), .ref (G.2.1 18)], fun f => ⟨rfl, rfl⟩⟩
theorem fg_10_5 (G : EN) : FG G 10 0 5 RX0 TX0 14 (fun f => .ref (G.2.1 15)) := ⟨by decide, rfl, inTX0, by decide, rfl, fun f => [.int (f 0), .ref (G.2.1 11), .ref (G.2.1 12), .ref (G.2.1 13), .ref (G.2.1 14), .ref (G.2.1 15), .ref (G.2.1 16), .ref (G.2.1 17), .int (f 8), .int (f 9), .int (f 10), .int (f 11), .int (f 12), .ref (G.2.1 18)], fun f => ⟨rfl, rfl⟩⟩
theorem fg_10_6 (G : EN) : FG G 10 0 6 RX0 TX0 14 (fun f => .ref (G.2.1 16)) := ⟨by decide, rfl, inTX0, by decide, rfl, fun f => [.int (f 0), .ref (G.2.1 11), .ref (G.2.1 12), .ref (G.2.1 13), .ref (G.2.1 14), .ref (G.2.1 15), .ref (G.2.1 16), .ref (G.2.1 17), .int (f 8), .int (f 9), .int (f 10), .int (f 11), .int (f 12), .ref (G.2.1 18)], fun f => ⟨rfl, rfl⟩⟩
theorem fg_10_7 (G : EN) : FG G 10 0 7 RX0 TX0 14 (fun f => .ref (G.2.1 17)) := ⟨by decide, rfl, inTX0, by decide, rfl, fun f => [.int (f 0), .ref (G.2.1 11), .ref (G.2.1 12), .ref (G.2.1 13), .ref (G.2.1 14), .ref (G.2.1 15), .ref (G.2.1 16), .ref (G.2.1 17), .int (f 8), .int (f 9), .int (f 10), .int (f 11), .int (f 12), .ref (G.2.1 18)], fun f => ⟨rfl, rfl⟩⟩
theorem fg_10_8 (G : EN) : FG G 10 0 8 RX0 TX0 14 (fun f => .int (f 8)) := ⟨by decide, rfl, inTX0, by decide, rfl, fun f => [.int (f 0), .ref (G.2.1 11), .ref (G.2.1 12), .ref (G.2.1 13), .ref (G.2.1 14), .ref (G.2.1 15), .ref (G.2.1 16), .ref (G.2.1 17), .int (f 8), .int (f 9), .int (f 10), .int (f 11), .int (f 12), .ref (G.2.1 18)], fun f => ⟨rfl, rfl⟩⟩
theorem fp_10_8 (G : EN) : FP G 10 0 8 RX0 TX0 14 tyX0 .int := ⟨by decide, rfl, inTX0, by decide, rfl, rfl, tyX0_ok, nmX0, by decide +kernel, fun f => [.int (f 0), .ref (G.2.1 11), .ref (G.2.1 12), .ref (G.2.1 13), .ref (G.2.1 14), .ref (G.2.1 15), .ref (G.2.1 16), .ref (G.2.1 17), .int (f 8), .int (f 9), .int (f 10), .int (f 11), .int (f 12), .ref (G.2.1 18)], fun f => ⟨rfl, Nat.le_of_ble_eq_true rfl, fun v => by simp [upd]⟩⟩
theorem fg_10_9 (G : EN) : FG G 10 0 9 RX0 TX0 14 (fun f => .int (f 9)) := ⟨by decide, rfl, inTX0, by decide, rfl, fun f => [.int (f 0), .ref (G.2.1 11), .ref (G.2.1 12), .ref (G.2.1 13), .ref (G.2.1 14), .ref (G.2.1 15), .ref (G.2.1 16), .ref (G.2.1 17), .int (f 8), .int (f 9), .int (f 10), .int (f 11), .int (f 12), .ref (G.2.1 18)], fun f => ⟨rfl, rfl⟩⟩
theorem fp_10_9 (G : EN) : FP G 10 0 9 RX0 TX0 14 tyX0 .int := ⟨by decide, rfl, inTX0, by decide, rfl, rfl, tyX0_ok, nmX0, by decide +kernel, fun f => [.int (f 0), .ref (G.2.1 11), .ref (G.2.1 12), .ref (G.2.1 13), .ref (G.2.1 14), .ref (G.2.1 15), .ref (G.2.1 16), .ref (G.2.1 17), .int (f 8), .int (f 9), .int (f 10), .int (f 11), .int (f 12), .ref (G.2.1 18)], fun f => ⟨rfl, Nat.le_of_ble_eq_true rfl, fun v => by simp [upd]⟩⟩
theorem fg_10_10 (G : EN) : FG G 10 0 10 RX0 TX0 14 (fun f => .int (f 10)) := ⟨by decide, rfl, inTX0, by decide, rfl, fun f => [.int (f 0), .ref (G.2.1 11), .ref (G.2.1 12), .ref (G.2.1 13), .ref (G.2.1 14), .ref (G.2.1 15), .ref (G.2.1 16), .ref (G.2.1 17), .int (f 8), .int (f 9), .int (f 10), .int (f 11), .int (f 12), .ref (G.2.1 18)], fun f => ⟨rfl, rfl⟩⟩
theorem fp_10_10 (G : EN) : FP G 10 0 10 RX0 TX0 14 tyX0 .int := ⟨by decide, rfl, inTX0, by decide, rfl, rfl, tyX0_ok, nmX0, by decide +kernel, fun f => [.int (f 0), .ref (G.2.1 11), .ref (G.2.1 12), .ref (G.2.1 13), .ref (G.2.1 14), .ref (G.2.1 15), .ref (G.2.1 16), .ref (G.2.1 17), .int (f 8), .int (f 9), .int (f 10), .int (f 11), .int (f 12), .ref (G.2.1 18)], fun f => ⟨rfl, Nat.le_of_ble_eq_true rfl, fun v => by simp [upd]⟩⟩
theorem fg_10_11 (G : EN) : FG G 10 0 11 RX0 TX0 14 (fun f => .int (f 11)) := ⟨by decide, rfl, inTX0, by decide, rfl, fun f => [.int (f 0), .ref (G.2.1 11), .ref (G.2.1 12), .ref (G.2.1 13), .ref (G.2.1 14), .ref (G.2.1 15), .ref (G.2.1 16), .ref (G.2.1 17), .int (f 8), .int (f 9), .int (f 10), .int (f 11), .int (f 12), .ref (G.2.1 18)], fun f => ⟨rfl, rfl⟩⟩
theorem fp_10_11 (G : EN) : FP G 10 0 11 RX0 TX0 14 tyX0 .int := ⟨by decide, rfl, inTX0, by decide, rfl, rfl, tyX0_ok, nmX0, by decide +kernel, fun f => [.int (f 0), .ref (G.2.1 11), .ref (G.2.1 12), .ref (G.2.1 13), .ref (G.2.1 14), .ref (G.2.1 15), .ref (G.2.1 16), .ref (G.2.1 17), .int (f 8), .int (f 9), .int (f 10), .int (f 11), .int (f 12), .ref (G.2.1 18)], fun f => ⟨rfl, Nat.le_of_ble_eq_true rfl, fun v => by simp [upd]⟩⟩
theorem fg_10_12 (G : EN) : FG G 10 0 12 RX0 TX0 14 (fun f => .int (f 12)) := ⟨by decide, rfl, inTX0, by decide, rfl, fun f => [.int (f 0), .ref (G.2.1 11), .ref (G.2.1 12), .ref (G.2.1 13), .ref (G.2.1 14), .ref (G.2.1 15), .ref (G.2.1 16), .ref (G.2.1 17), .int (f 8), .int (f 9), .int (f 10), .int (f 11), .int (f 12), .ref (G.2.1 18)], fun f => ⟨rfl, rfl⟩⟩
theorem fp_10_12 (G : EN) : FP G 10 0 12 RX0 TX0 14 tyX0 .int := ⟨by decide, rfl, inTX0, by decide, rfl, rfl, tyX0_ok, nmX0, by decide +kernel, fun f => [.int (f 0), .ref (G.2.1 11), .ref (G.2.1 12), .ref (G.2.1 13), .ref (G.2.1 14), .ref (G.2.1 15), .ref (G.2.1 16), .ref (G.2.1 17), .int (f 8), .int (f 9), .int (f 10), .int (f 11), .int (f 12), .ref (G.2.1 18)], fun f => ⟨rfl, Nat.le_of_ble_eq_true rfl, fun v => by simp [upd]⟩⟩
theorem fg_10_13 (G : EN) : FG G 10 0 13 RX0 TX0 14 (fun f => .ref (G.2.1 18)) := ⟨by decide, rfl, inTX0, by decide, rfl, fun f => [.int (f 0), .ref (G.2.1 11), .ref (G.2.1 12), .ref (G.2.1 13), .ref (G.2.1 14), .ref (G.2.1 15), .ref (G.2.1 16), .ref (G.2.1 17), .int (f 8), .int (f 9), .int (f 10), .int (f 11), .int (f 12), .ref (G.2.1 18)], fun f => ⟨rfl, rfl⟩⟩
theorem ai_11 (G : EN) : AI G 11 8 := ⟨by decide, fun _ => rfl⟩
theorem ai_12 (G : EN) : AI G 12 8 := ⟨by decide, fun _ => rfl⟩
theorem ai_13 (G : EN) : AI G 13 8 := ⟨by decide, fun _ => rfl⟩
theorem ai_14 (G : EN) : AI G 14 4 := ⟨by decide, fun _ => rfl⟩
theorem ai_15 (G : EN) : AI G 15 4 := ⟨by decide, fun _ => rfl⟩
theorem ai_16 (G : EN) : AI G 16 4 := ⟨by decide, fun _ => rfl⟩
theorem az_17 (G : EN) : AZ G 17 100 := ⟨by decide, fun _ => rfl⟩
theorem ai_18 (G : EN) : AI G 18 10 := ⟨by decide, fun _ => rfl⟩
theorem fg_19_0 (G : EN) : FG G 19 3 0 RX3 TX3 2 (fun f => .ref (G.2.1 20)) := ⟨by decide, rfl, inTX3, by decide, rfl, fun f => [.ref (G.2.1 20), .int (f 1)], fun f => ⟨rfl, rfl⟩⟩
theorem fg_19_1 (G : EN) : FG G 19 3 1 RX3 TX3 2 (fun f => .int (f 1)) := ⟨by decide, rfl, inTX3, by decide, rfl, fun f => [.ref (G.2.1 20), .int (f 1)], fun f => ⟨rfl, rfl⟩⟩
theorem fp_19_1 (G : EN) : FP G 19 3 1 RX3 TX3 2 tyX3 .int := ⟨by decide, rfl, inTX3, by decide, rfl, rfl, tyX3_ok, nmX3, by decide +kernel, fun f => [.ref (G.2.1 20), .int (f 1)], fun f => ⟨rfl, Nat.le_of_ble_eq_true rfl, fun v => by simp [upd]⟩⟩
theorem ai_20 (G : EN) : AI G 20 120 := ⟨by decide, fun _ => rfl⟩
theorem fg_21_0 (G : EN) : FG G 21 1 0 RX1 TX1 8 (fun f => .ref (G.2.1 22)) := ⟨by decide, rfl, inTX1, by decide, rfl, fun f => [.ref (G.2.1 22), .ref (G.2.1 23), .ref (G.2.1 24), .int (f 3), .int (f 4), .int (f 5), .int (f 6), .int (f 7)], fun f => ⟨rfl, rfl⟩⟩
theorem fg_21_1 (G : EN) : FG G 21 1 1 RX1 TX1 8 (fun f => .ref (G.2.1 23)) := ⟨by decide, rfl, inTX1, by decide, rfl, fun f => [.ref (G.2.1 22), .ref (G.2.1 23), .ref (G.2.1 24), .int (f 3), .int (f 4), .int (f 5), .int (f 6), .int (f 7)], fun f => ⟨rfl, rfl⟩⟩
theorem fg_21_2 (G : EN) : FG G 21 1 2 RX1 TX1 8 (fun f => .ref (G.2.1 24)) := ⟨by decide, rfl, inTX1, by decide, rfl, fun f => [.ref (G.2.1 22), .ref (G.2.1 23), .ref (G.2.1 24), .int (f 3), .int (f 4), .int (f 5), .int (f 6), .int (f 7)], fun f => ⟨rfl, rfl⟩⟩
theorem fg_21_3 (G : EN) : FG G 21 1 3 RX1 TX1 8 (fun f => .int (f 3)) := ⟨by decide, rfl, inTX1, by decide, rfl, fun f => [.ref (G.2.1 22), .ref (G.2.1 23), .ref (G.2.1 24), .int (f 3), .int (f 4), .int (f 5), .int (f 6), .int (f 7)], fun f => ⟨rfl, rfl⟩⟩
theorem fp_21_3 (G : EN) : FP G 21 1 3 RX1 TX1 8 tyX1 .int := ⟨by decide, rfl, inTX1, by decide, rfl, rfl, tyX1_ok, nmX1, by decide +kernel, fun f => [.ref (G.2.1 22), .ref (G.2.1 23), .ref (G.2.1 24), .int (f 3), .int (f 4), .int (f 5), .int (f 6), .int (f 7)], fun f => ⟨rfl, Nat.le_of_ble_eq_true rfl, fun v => by simp [upd]⟩⟩
theorem fg_21_4 (G : EN) : FG G 21 1 4 RX1 TX1 8 (fun f => .int (f 4)) := ⟨by decide, rfl, inTX1, by decide, rfl, fun f => [.ref (G.2.1 22), .ref (G.2.1 23), .ref (G.2.1 24), .int (f 3), .int (f 4), .int (f 5), .int (f 6), .int (f 7)], fun f => ⟨rfl, rfl⟩⟩
theorem fp_21_4 (G : EN) : FP G 21 1 4 RX1 TX1 8 tyX1 .int := ⟨by decide, rfl, inTX1, by decide, rfl, rfl, tyX1_ok, nmX1, by decide +kernel, fun f => [.ref (G.2.1 22), .ref (G.2.1 23), .ref (G.2.1 24), .int (f 3), .int (f 4), .int (f 5), .int (f 6), .int (f 7)], fun f => ⟨rfl, Nat.le_of_ble_eq_true rfl, fun v => by simp [upd]⟩⟩
theorem fg_21_5 (G : EN) : FG G 21 1 5 RX1 TX1 8 (fun f => .int (f 5)) := ⟨by decide, rfl, inTX1, by decide, rfl, fun f => [.ref (G.2.1 22), .ref (G.2.1 23), .ref (G.2.1 24), .int (f 3), .int (f 4), .int (f 5), .int (f 6), .int (f 7)], fun f => ⟨rfl, rfl⟩⟩
theorem fp_21_5 (G : EN) : FP G 21 1 5 RX1 TX1 8 tyX1 .boolean := ⟨by decide, rfl, inTX1, by decide, rfl, rfl, tyX1_ok, nmX1, by decide +kernel, fun f => [.ref (G.2.1 22), .ref (G.2.1 23), .ref (G.2.1 24), .int (f 3), .int (f 4), .int (f 5), .int (f 6), .int (f 7)], fun f => ⟨rfl, Nat.le_of_ble_eq_true rfl, fun v => by simp [upd]⟩⟩
theorem fg_21_6 (G : EN) : FG G 21 1 6 RX1 TX1 8 (fun f => .int (f 6)) := ⟨by decide, rfl, inTX1, by decide, rfl, fun f => [.ref (G.2.1 22), .ref (G.2.1 23), .ref (G.2.1 24), .int (f 3), .int (f 4), .int (f 5), .int (f 6), .int (f 7)], fun f => ⟨rfl, rfl⟩⟩
theorem fp_21_6 (G : EN) : FP G 21 1 6 RX1 TX1 8 tyX1 .boolean := ⟨by decide, rfl, inTX1, by decide, rfl, rfl, tyX1_ok, nmX1, by decide +kernel, fun f => [.ref (G.2.1 22), .ref (G.2.1 23), .ref (G.2.1 24), .int (f 3), .int (f 4), .int (f 5), .int (f 6), .int (f 7)], fun f => ⟨rfl, Nat.le_of_ble_eq_true rfl, fun v => by simp [upd]⟩⟩
theorem fg_21_7 (G : EN) : FG G 21 1 7 RX1 TX1 8 (fun f => .int (f 7)) := ⟨by decide, rfl, inTX1, by decide, rfl, fun f => [.ref (G.2.1 22), .ref (G.2.1 23), .ref (G.2.1 24), .int (f 3), .int (f 4), .int (f 5), .int (f 6), .int (f 7)], fun f => ⟨rfl, rfl⟩⟩
theorem fp_21_7 (G : EN) : FP G 21 1 7 RX1 TX1 8 tyX1 .int := ⟨by decide, rfl, inTX1, by decide, rfl, rfl, tyX1_ok, nmX1, by decide +kernel, fun f => [.ref (G.2.1 22), .ref (G.2.1 23), .ref (G.2.1 24), .int (f 3), .int (f 4), .int (f 5), .int (f 6), .int (f 7)], fun f => ⟨rfl, Nat.le_of_ble_eq_true rfl, fun v => by simp [upd]⟩⟩
theorem ai_22 (G : EN) : AI G 22 121 := ⟨by decide, fun _ => rfl⟩
theorem ai_23 (G : EN) : AI G 23 121 := ⟨by decide, fun _ => rfl⟩
theorem ai_24 (G : EN) : AI G 24 121 := ⟨by decide, fun _ => rfl⟩
theorem aq_25 (G : EN) : AQ G 25 4 2 26 2 := ⟨by decide, fun _ => rfl⟩
theorem fg_26_0 (G : EN) : FG G 26 2 0 RX2 TX2 3 (fun f => .int (f 0)) := ⟨by decide, rfl, inTX2, by decide, rfl, fun f => [.int (f 0), .int (f 1), .ref (G.2.1 27)], fun f => ⟨rfl, rfl⟩⟩
theorem fp_26_0 (G : EN) : FP G 26 2 0 RX2 TX2 3 tyX2 .int := ⟨by decide, rfl, inTX2, by decide, rfl, rfl, tyX2_ok, nmX2, by decide +kernel, fun f => [.int (f 0), .int (f 1), .ref (G.2.1 27)], fun f => ⟨rfl, Nat.le_of_ble_eq_true rfl, fun v => by simp [upd]⟩⟩
theorem fg_26_1 (G : EN) : FG G 26 2 1 RX2 TX2 3 (fun f => .int (f 1)) := ⟨by decide, rfl, inTX2, by decide, rfl, fun f => [.int (f 0), .int (f 1), .ref (G.2.1 27)], fun f => ⟨rfl, rfl⟩⟩
theorem fp_26_1 (G : EN) : FP G 26 2 1 RX2 TX2 3 tyX2 .int := ⟨by decide, rfl, inTX2, by decide, rfl, rfl, tyX2_ok, nmX2, by decide +kernel, fun f => [.int (f 0), .int (f 1), .ref (G.2.1 27)], fun f => ⟨rfl, Nat.le_of_ble_eq_true rfl, fun v => by simp [upd]⟩⟩
theorem fg_26_2 (G : EN) : FG G 26 2 2 RX2 TX2 3 (fun f => .ref (G.2.1 27)) := ⟨by decide, rfl, inTX2, by decide, rfl, fun f => [.int (f 0), .int (f 1), .ref (G.2.1 27)], fun f => ⟨rfl, rfl⟩⟩
theorem ai_27 (G : EN) : AI G 27 40 := ⟨by decide, fun _ => rfl⟩
theorem fg_28_0 (G : EN) : FG G 28 2 0 RX2 TX2 3 (fun f => .int (f 0)) := ⟨by decide, rfl, inTX2, by decide, rfl, fun f => [.int (f 0), .int (f 1), .ref (G.2.1 29)], fun f => ⟨rfl, rfl⟩⟩
theorem fp_28_0 (G : EN) : FP G 28 2 0 RX2 TX2 3 tyX2 .int := ⟨by decide, rfl, inTX2, by decide, rfl, rfl, tyX2_ok, nmX2, by decide +kernel, fun f => [.int (f 0), .int (f 1), .ref (G.2.1 29)], fun f => ⟨rfl, Nat.le_of_ble_eq_true rfl, fun v => by simp [upd]⟩⟩
theorem fg_28_1 (G : EN) : FG G 28 2 1 RX2 TX2 3 (fun f => .int (f 1)) := ⟨by decide, rfl, inTX2, by decide, rfl, fun f => [.int (f 0), .int (f 1), .ref (G.2.1 29)], fun f => ⟨rfl, rfl⟩⟩
theorem fp_28_1 (G : EN) : FP G 28 2 1 RX2 TX2 3 tyX2 .int := ⟨by decide, rfl, inTX2, by decide, rfl, rfl, tyX2_ok, nmX2, by decide +kernel, fun f => [.int (f 0), .int (f 1), .ref (G.2.1 29)], fun f => ⟨rfl, Nat.le_of_ble_eq_true rfl, fun v => by simp [upd]⟩⟩
theorem fg_28_2 (G : EN) : FG G 28 2 2 RX2 TX2 3 (fun f => .ref (G.2.1 29)) := ⟨by decide, rfl, inTX2, by decide, rfl, fun f => [.int (f 0), .int (f 1), .ref (G.2.1 29)], fun f => ⟨rfl, rfl⟩⟩
theorem ai_29 (G : EN) : AI G 29 40 := ⟨by decide, fun _ => rfl⟩
theorem fg_30_0 (G : EN) : FG G 30 2 0 RX2 TX2 3 (fun f => .int (f 0)) := ⟨by decide, rfl, inTX2, by decide, rfl, fun f => [.int (f 0), .int (f 1), .ref (G.2.1 31)], fun f => ⟨rfl, rfl⟩⟩
theorem fp_30_0 (G : EN) : FP G 30 2 0 RX2 TX2 3 tyX2 .int := ⟨by decide, rfl, inTX2, by decide, rfl, rfl, tyX2_ok, nmX2, by decide +kernel, fun f => [.int (f 0), .int (f 1), .ref (G.2.1 31)], fun f => ⟨rfl, Nat.le_of_ble_eq_true rfl, fun v => by simp [upd]⟩⟩
theorem fg_30_1 (G : EN) : FG G 30 2 1 RX2 TX2 3 (fun f => .int (f 1)) := ⟨by decide, rfl, inTX2, by decide, rfl, fun f => [.int (f 0), .int (f 1), .ref (G.2.1 31)], fun f => ⟨rfl, rfl⟩⟩
theorem fp_30_1 (G : EN) : FP G 30 2 1 RX2 TX2 3 tyX2 .int := ⟨by decide, rfl, inTX2, by decide, rfl, rfl, tyX2_ok, nmX2, by decide +kernel, fun f => [.int (f 0), .int (f 1), .ref (G.2.1 31)], fun f => ⟨rfl, Nat.le_of_ble_eq_true rfl, fun v => by simp [upd]⟩⟩
theorem fg_30_2 (G : EN) : FG G 30 2 2 RX2 TX2 3 (fun f => .ref (G.2.1 31)) := ⟨by decide, rfl, inTX2, by decide, rfl, fun f => [.int (f 0), .int (f 1), .ref (G.2.1 31)], fun f => ⟨rfl, rfl⟩⟩
theorem ai_31 (G : EN) : AI G 31 40 := ⟨by decide, fun _ => rfl⟩
theorem fg_32_0 (G : EN) : FG G 32 2 0 RX2 TX2 3 (fun f => .int (f 0)) := ⟨by decide, rfl, inTX2, by decide, rfl, fun f => [.int (f 0), .int (f 1), .ref (G.2.1 33)], fun f => ⟨rfl, rfl⟩⟩
theorem fp_32_0 (G : EN) : FP G 32 2 0 RX2 TX2 3 tyX2 .int := ⟨by decide, rfl, inTX2, by decide, rfl, rfl, tyX2_ok, nmX2, by decide +kernel, fun f => [.int (f 0), .int (f 1), .ref (G.2.1 33)], fun f => ⟨rfl, Nat.le_of_ble_eq_true rfl, fun v => by simp [upd]⟩⟩
theorem fg_32_1 (G : EN) : FG G 32 2 1 RX2 TX2 3 (fun f => .int (f 1)) := ⟨by decide, rfl, inTX2, by decide, rfl, fun f => [.int (f 0), .int (f 1), .ref (G.2.1 33)], fun f => ⟨rfl, rfl⟩⟩
theorem fp_32_1 (G : EN) : FP G 32 2 1 RX2 TX2 3 tyX2 .int := ⟨by decide, rfl, inTX2, by decide, rfl, rfl, tyX2_ok, nmX2, by decide +kernel, fun f => [.int (f 0), .int (f 1), .ref (G.2.1 33)], fun f => ⟨rfl, Nat.le_of_ble_eq_true rfl, fun v => by simp [upd]⟩⟩
theorem fg_32_2 (G : EN) : FG G 32 2 2 RX2 TX2 3 (fun f => .ref (G.2.1 33)) := ⟨by decide, rfl, inTX2, by decide, rfl, fun f => [.int (f 0), .int (f 1), .ref (G.2.1 33)], fun f => ⟨rfl, rfl⟩⟩
theorem ai_33 (G : EN) : AI G 33 40 := ⟨by decide, fun _ => rfl⟩
theorem ai_34 (G : EN) : AI G 34 7 := ⟨by decide, fun _ => rfl⟩
theorem ai_35 (G : EN) : AI G 35 60 := ⟨by decide, fun _ => rfl⟩
theorem ai_36 (G : EN) : AI G 36 4 := ⟨by decide, fun _ => rfl⟩
theorem fg_37_0 (G : EN) : FG G 37 5 0 RX5 TX5 26 (fun f => .ref (G.2.1 38)) := ⟨by decide, rfl, inTX5, by decide, rfl, fun f => [.ref (G.2.1 38), .ref (G.2.1 39), .ref (G.2.1 40), .int (f 3), .ref (G.2.1 41), .ref (G.2.1 42), .ref (G.2.1 43), .int (f 7), .int (f 8), .int (f 9), .ref (G.2.1 44), .int (f 11), .int (f 12), .int (f 13), .int (f 14), .int (f 15), .int (f 16), .ref (G.2.1 45), .ref (G.2.1 46), .int (f 19), .int (f 20), .int (f 21), .ref (G.2.1 47), .ref (G.2.1 48), .ref (G.2.1 49), .ref (G.2.1 50)], fun f => ⟨rfl, rfl⟩⟩
theorem fg_37_1 (G : EN) : FG G 37 5 1 RX5 TX5 26 (fun f => .ref (G.2.1 39)) := ⟨by decide, rfl, inTX5, by decide, rfl, fun f => [.ref (G.2.1 38), .ref (G.2.1 39), .ref (G.2.1 40), .int (f 3), .ref (G.2.1 41), .ref (G.2.1 42), .ref (G.2.1 43), .int (f 7), .int (f 8), .int (f 9), .ref (G.2.1 44), .int (f 11), .int (f 12), .int (f 13), .int (f 14), .int (f 15), .int (f 16), .ref (G.2.1 45), .ref (G.2.1 46), .int (f 19), .int (f 20), .int (f 21), .ref (G.2.1 47), .ref (G.2.1 48), .ref (G.2.1 49), .ref (G.2.1 50)], fun f => ⟨rfl, rfl⟩⟩
theorem fg_37_2 (G : EN) : FG G 37 5 2 RX5 TX5 26 (fun f => .ref (G.2.1 40)) := ⟨by decide, rfl, inTX5, by decide, rfl, fun f => [.ref (G.2.1 38), .ref (G.2.1 39), .ref (G.2.1 40), .int (f 3), .ref (G.2.1 41), .ref (G.2.1 42), .ref (G.2.1 43), .int (f 7), .int (f 8), .int (f 9), .ref (G.2.1 44), .int (f 11), .int (f 12), .int (f 13), .int (f 14), .int (f 15), .int (f 16), .ref (G.2.1 45), .ref (G.2.1 46), .int (f 19), .int (f 20), .int (f 21), .ref (G.2.1 47), .ref (G.2.1 48), .ref (G.2.1 49), .ref (G.2.1 50)], fun f => ⟨rfl, rfl⟩⟩
theorem fg_37_3 (G : EN) : FG G 37 5 3 RX5 TX5 26 (fun f => .int (f 3)) := ⟨by decide, rfl, inTX5, by decide, rfl, fun f => [.ref (G.2.1 38), .ref (G.2.1 39), .ref (G.2.1 40), .int (f 3), .ref (G.2.1 41), .ref (G.2.1 42), .ref (G.2.1 43), .int (f 7), .int (f 8), .int (f 9), .ref (G.2.1 44), .int (f 11), .int (f 12), .int (f 13), .int (f 14), .int (f 15), .int (f 16), .ref (G.2.1 45), .ref (G.2.1 46), .int (f 19), .int (f 20), .int (f 21), .ref (G.2.1 47), .ref (G.2.1 48), .ref (G.2.1 49), .ref (G.2.1 50)], fun f => ⟨rfl, rfl⟩⟩
theorem fp_37_3 (G : EN) : FP G 37 5 3 RX5 TX5 26 tyX5 .boolean := ⟨by decide, rfl, inTX5, by decide, rfl, rfl, tyX5_ok, nmX5, by decide +kernel, fun f => [.ref (G.2.1 38), .ref (G.2.1 39), .ref (G.2.1 40), .int (f 3), .ref (G.2.1 41), .ref (G.2.1 42), .ref (G.2.1 43), .int (f 7), .int (f 8), .int (f 9), .ref (G.2.1 44), .int (f 11), .int (f 12), .int (f 13), .int (f 14), .int (f 15), .int (f 16), .ref (G.2.1 45), .ref (G.2.1 46), .int (f 19), .int (f 20), .int (f 21), .ref (G.2.1 47), .ref (G.2.1 48), .ref (G.2.1 49), .ref (G.2.1 50)], fun f => ⟨rfl, Nat.le_of_ble_eq_true rfl, fun v => by simp [upd]⟩⟩
theorem fg_37_4 (G : EN) : FG G 37 5 4 RX5 TX5 26 (fun f => .ref (G.2.1 41)) := ⟨by decide, rfl, inTX5, by decide, rfl, fun f => [.ref (G.2.1 38), .ref (G.2.1 39), .ref (G.2.1 40), .int (f 3), .ref (G.2.1 41), .ref (G.2.1 42), .ref (G.2.1 43), .int (f 7), .int (f 8), .int (f 9), .ref (G.2.1 44), .int (f 11), .int (f 12), .int (f 13), .int (f 14), .int (f 15), .int (f 16), .ref (G.2.1 45), .ref (G.2.1 46), .int (f 19), .int (f 20), .int (f 21), .ref (G.2.1 47), .ref (G.2.1 48), .ref (G.2.1 49), .ref (G.2.1 50)], fun f => ⟨rfl, rfl⟩⟩
theorem fg_37_5 (G : EN) : FG G 37 5 5 RX5 TX5 26 (fun f => .ref (G.2.1 42)) := ⟨by decide, rfl, inTX5, by decide, rfl, fun f => [.ref (G.2.1 38), .ref (G.2.1 39), .ref (G.2.1 40), .int (f 3), .ref (G.2.1 41), .ref (G.2.1 42), .ref (G.2.1 43), .int (f 7), .int (f 8), .int (f 9), .ref (G.2.1 44), .int (f 11), .int (f 12), .int (f 13), .int (f 14), .int (f 15), .int (f 16), .ref (G.2.1 45), .ref (G.2.1 46), .int (f 19), .int (f 20), .int (f 21), .ref (G.2.1 47), .ref (G.2.1 48), .ref (G.2.1 49), .ref (G.2.1 50)], fun f => ⟨rfl, rfl⟩⟩
theorem fg_37_6 (G : EN) : FG G 37 5 6 RX5 TX5 26 (fun f => .ref (G.2.1 43)) := ⟨by decide, rfl, inTX5, by decide, rfl, fun f => [.ref (G.2.1 38), .ref (G.2.1 39), .ref (G.2.1 40), .int (f 3), .ref (G.2.1 41), .ref (G.2.1 42), .ref (G.2.1 43), .int (f 7), .int (f 8), .int (f 9), .ref (G.2.1 44), .int (f 11), .int (f 12), .int (f 13), .int (f 14), .int (f 15), .int (f 16), .ref (G.2.1 45), .ref (G.2.1 46), .int (f 19), .int (f 20), .int (f 21), .ref (G.2.1 47), .ref (G.2.1 48), .ref (G.2.1 49), .ref (G.2.1 50)], fun f => ⟨rfl, rfl⟩⟩
theorem fg_37_7 (G : EN) : FG G 37 5 7 RX5 TX5 26 (fun f => .int (f 7)) := ⟨by decide, rfl, inTX5, by decide, rfl, fun f => [.ref (G.2.1 38), .ref (G.2.1 39), .ref (G.2.1 40), .int (f 3), .ref (G.2.1 41), .ref (G.2.1 42), .ref (G.2.1 43), .int (f 7), .int (f 8), .int (f 9), .ref (G.2.1 44), .int (f 11), .int (f 12), .int (f 13), .int (f 14), .int (f 15), .int (f 16), .ref (G.2.1 45), .ref (G.2.1 46), .int (f 19), .int (f 20), .int (f 21), .ref (G.2.1 47), .ref (G.2.1 48), .ref (G.2.1 49), .ref (G.2.1 50)], fun f => ⟨rfl, rfl⟩⟩
theorem fp_37_7 (G : EN) : FP G 37 5 7 RX5 TX5 26 tyX5 .int := ⟨by decide, rfl, inTX5, by decide, rfl, rfl, tyX5_ok, nmX5, by decide +kernel, fun f => [.ref (G.2.1 38), .ref (G.2.1 39), .ref (G.2.1 40), .int (f 3), .ref (G.2.1 41), .ref (G.2.1 42), .ref (G.2.1 43), .int (f 7), .int (f 8), .int (f 9), .ref (G.2.1 44), .int (f 11), .int (f 12), .int (f 13), .int (f 14), .int (f 15), .int (f 16), .ref (G.2.1 45), .ref (G.2.1 46), .int (f 19), .int (f 20), .int (f 21), .ref (G.2.1 47), .ref (G.2.1 48), .ref (G.2.1 49), .ref (G.2.1 50)], fun f => ⟨rfl, Nat.le_of_ble_eq_true rfl, fun v => by simp [upd]⟩⟩
theorem fg_37_8 (G : EN) : FG G 37 5 8 RX5 TX5 26 (fun f => .int (f 8)) := ⟨by decide, rfl, inTX5, by decide, rfl, fun f => [.ref (G.2.1 38), .ref (G.2.1 39), .ref (G.2.1 40), .int (f 3), .ref (G.2.1 41), .ref (G.2.1 42), .ref (G.2.1 43), .int (f 7), .int (f 8), .int (f 9), .ref (G.2.1 44), .int (f 11), .int (f 12), .int (f 13), .int (f 14), .int (f 15), .int (f 16), .ref (G.2.1 45), .ref (G.2.1 46), .int (f 19), .int (f 20), .int (f 21), .ref (G.2.1 47), .ref (G.2.1 48), .ref (G.2.1 49), .ref (G.2.1 50)], fun f => ⟨rfl, rfl⟩⟩
theorem fp_37_8 (G : EN) : FP G 37 5 8 RX5 TX5 26 tyX5 .int := ⟨by decide, rfl, inTX5, by decide, rfl, rfl, tyX5_ok, nmX5, by decide +kernel, fun f => [.ref (G.2.1 38), .ref (G.2.1 39), .ref (G.2.1 40), .int (f 3), .ref (G.2.1 41), .ref (G.2.1 42), .ref (G.2.1 43), .int (f 7), .int (f 8), .int (f 9), .ref (G.2.1 44), .int (f 11), .int (f 12), .int (f 13), .int (f 14), .int (f 15), .int (f 16), .ref (G.2.1 45), .ref (G.2.1 46), .int (f 19), .int (f 20), .int (f 21), .ref (G.2.1 47), .ref (G.2.1 48), .ref (G.2.1 49), .ref (G.2.1 50)], fun f => ⟨rfl, Nat.le_of_ble_eq_true rfl, fun v => by simp [upd]⟩⟩
theorem fg_37_9 (G : EN) : FG G 37 5 9 RX5 TX5 26 (fun f => .int (f 9)) := ⟨by decide, rfl, inTX5, by decide, rfl, fun f => [.ref (G.2.1 38), .ref (G.2.1 39), .ref (G.2.1 40), .int (f 3), .ref (G.2.1 41), .ref (G.2.1 42), .ref (G.2.1 43), .int (f 7), .int (f 8), .int (f 9), .ref (G.2.1 44), .int (f 11), .int (f 12), .int (f 13), .int (f 14), .int (f 15), .int (f 16), .ref (G.2.1 45), .ref (G.2.1 46), .int (f 19), .int (f 20), .int (f 21), .ref (G.2.1 47), .ref (G.2.1 48), .ref (G.2.1 49), .ref (G.2.1 50)], fun f => ⟨rfl, rfl⟩⟩
theorem fp_37_9 (G : EN) : FP G 37 5 9 RX5 TX5 26 tyX5 .int := ⟨by decide, rfl, inTX5, by decide, rfl, rfl, tyX5_ok, nmX5, by decide +kernel, fun f => [.ref (G.2.1 38), .ref (G.2.1 39), .ref (G.2.1 40), .int (f 3), .ref (G.2.1 41), .ref (G.2.1 42), .ref (G.2.1 43), .int (f 7), .int (f 8), .int (f 9), .ref (G.2.1 44), .int (f 11), .int (f 12), .int (f 13), .int (f 14), .int (f 15), .int (f 16), .ref (G.2.1 45), .ref (G.2.1 46), .int (f 19), .int (f 20), .int (f 21), .ref (G.2.1 47), .ref (G.2.1 48), .ref (G.2.1 49), .ref (G.2.1 50)], fun f => ⟨rfl, Nat.le_of_ble_eq_true rfl, fun v => by simp [upd]⟩⟩
theorem fg_37_10 (G : EN) : FG G 37 5 10 RX5 TX5 26 (fun f => .ref (G.2.1 44)) := ⟨by decide, rfl, inTX5, by decide, rfl, fun f => [.ref (G.2.1 38), .ref (G.2.1 39), .ref (G.2.1 40), .int (f 3), .ref (G.2.1 41), .ref (G.2.1 42), .ref (G.2.1 43), .int (f 7), .int (f 8), .int (f 9), .ref (G.2.1 44), .int (f 11), .int (f 12), .int (f 13), .int (f 14), .int (f 15), .int (f 16), .ref (G.2.1 45), .ref (G.2.1 46), .int (f 19), .int (f 20), .int (f 21), .ref (G.2.1 47), .ref (G.2.1 48), .ref (G.2.1 49), .ref (G.2.1 50)], fun f => ⟨rfl, rfl⟩⟩
theorem fg_37_11 (G : EN) : FG G 37 5 11 RX5 TX5 26 (fun f => .int (f 11)) := ⟨by decide, rfl, inTX5, by decide, rfl, fun f => [.ref (G.2.1 38), .ref (G.2.1 39), .ref (G.2.1 40), .int (f 3), .ref (G.2.1 41), .ref (G.2.1 42), .ref (G.2.1 43), .int (f 7), .int (f 8), .int (f 9), .ref (G.2.1 44), .int (f 11), .int (f 12), .int (f 13), .int (f 14), .int (f 15), .int (f 16), .ref (G.2.1 45), .ref (G.2.1 46), .int (f 19), .int (f 20), .int (f 21), .ref (G.2.1 47), .ref (G.2.1 48), .ref (G.2.1 49), .ref (G.2.1 50)], fun f => ⟨rfl, rfl⟩⟩
theorem fp_37_11 (G : EN) : FP G 37 5 11 RX5 TX5 26 tyX5 .int := ⟨by decide, rfl, inTX5, by decide, rfl, rfl, tyX5_ok, nmX5, by decide +kernel, fun f => [.ref (G.2.1 38), .ref (G.2.1 39), .ref (G.2.1 40), .int (f 3), .ref (G.2.1 41), .ref (G.2.1 42), .ref (G.2.1 43), .int (f 7), .int (f 8), .int (f 9), .ref (G.2.1 44), .int (f 11), .int (f 12), .int (f 13), .int (f 14), .int (f 15), .int (f 16), .ref (G.2.1 45), .ref (G.2.1 46), .int (f 19), .int (f 20), .int (f 21), .ref (G.2.1 47), .ref (G.2.1 48), .ref (G.2.1 49), .ref (G.2.1 50)], fun f => ⟨rfl, Nat.le_of_ble_eq_true rfl, fun v => by simp [upd]⟩⟩
theorem fg_37_12 (G : EN) : FG G 37 5 12 RX5 TX5 26 (fun f => .int (f 12)) := ⟨by decide, rfl, inTX5, by decide, rfl, fun f => [.ref (G.2.1 38), .ref (G.2.1 39), .ref (G.2.1 40), .int (f 3), .ref (G.2.1 41), .ref (G.2.1 42), .ref (G.2.1 43), .int (f 7), .int (f 8), .int (f 9), .ref (G.2.1 44), .int (f 11), .int (f 12), .int (f 13), .int (f 14), .int (f 15), .int (f 16), .ref (G.2.1 45), .ref (G.2.1 46), .int (f 19), .int (f 20), .int (f 21), .ref (G.2.1 47), .ref (G.2.1 48), .ref (G.2.1 49), .ref (G.2.1 50)], fun f => ⟨rfl, rfl⟩⟩
theorem fp_37_12 (G : EN) : FP G 37 5 12 RX5 TX5 26 tyX5 .int := ⟨by decide, rfl, inTX5, by decide, rfl, rfl, tyX5_ok, nmX5, by decide +kernel, fun f => [.ref (G.2.1 38), .ref (G.2.1 39), .ref (G.2.1 40), .int (f 3), .ref (G.2.1 41), .ref (G.2.1 42), .ref (G.2.1 43), .int (f 7), .int (f 8), .int (f 9), .ref (G.2.1 44), .int (f 11), .int (f 12), .int (f 13), .int (f 14), .int (f 15), .int (f 16), .ref (G.2.1 45), .ref (G.2.1 46), .int (f 19), .int (f 20), .int (f 21), .ref (G.2.1 47), .ref (G.2.1 48), .ref (G.2.1 49), .ref (G.2.1 50)], fun f => ⟨rfl, Nat.le_of_ble_eq_true rfl, fun v => by simp [upd]⟩⟩
theorem fg_37_13 (G : EN) : FG G 37 5 13 RX5 TX5 26 (fun f => .int (f 13)) := ⟨by decide, rfl, inTX5, by decide, rfl, fun f => [.ref (G.2.1 38), .ref (G.2.1 39), .ref (G.2.1 40), .int (f 3), .ref (G.2.1 41), .ref (G.2.1 42), .ref (G.2.1 43), .int (f 7), .int (f 8), .int (f 9), .ref (G.2.1 44), .int (f 11), .int (f 12), .int (f 13), .int (f 14), .int (f 15), .int (f 16), .ref (G.2.1 45), .ref (G.2.1 46), .int (f 19), .int (f 20), .int (f 21), .ref (G.2.1 47), .ref (G.2.1 48), .ref (G.2.1 49), .ref (G.2.1 50)], fun f => ⟨rfl, rfl⟩⟩
theorem fp_37_13 (G : EN) : FP G 37 5 13 RX5 TX5 26 tyX5 .int := ⟨by decide, rfl, inTX5, by decide, rfl, rfl, tyX5_ok, nmX5, by decide +kernel, fun f => [.ref (G.2.1 38), .ref (G.2.1 39), .ref (G.2.1 40), .int (f 3), .ref (G.2.1 41), .ref (G.2.1 42), .ref (G.2.1 43), .int (f 7), .int (f 8), .int (f 9), .ref (G.2.1 44), .int (f 11), .int (f 12), .int (f 13), .int (f 14), .int (f 15), .int (f 16), .ref (G.2.1 45), .ref (G.2.1 46), .int (f 19), .int (f 20), .int (f 21), .ref (G.2.1 47), .ref (G.2.1 48), .ref (G.2.1 49), .ref (G.2.1 50)], fun f => ⟨rfl, Nat.le_of_ble_eq_true rfl, fun v => by simp [upd]⟩⟩
theorem fg_37_14 (G : EN) : FG G 37 5 14 RX5 TX5 26 (fun f => .int (f 14)) := ⟨by decide, rfl, inTX5, by decide, rfl, fun f => [.ref (G.2.1 38), .ref (G.2.1 39), .ref (G.2.1 40), .int (f 3), .ref (G.2.1 41), .ref (G.2.1 42), .ref (G.2.1 43), .int (f 7), .int (f 8), .int (f 9), .ref (G.2.1 44), .int (f 11), .int (f 12), .int (f 13), .int (f 14), .int (f 15), .int (f 16), .ref (G.2.1 45), .ref (G.2.1 46), .int (f 19), .int (f 20), .int (f 21), .ref (G.2.1 47), .ref (G.2.1 48), .ref (G.2.1 49), .ref (G.2.1 50)], fun f => ⟨rfl, rfl⟩⟩
theorem fp_37_14 (G : EN) : FP G 37 5 14 RX5 TX5 26 tyX5 .int := ⟨by decide, rfl, inTX5, by decide, rfl, rfl, tyX5_ok, nmX5, by decide +kernel, fun f => [.ref (G.2.1 38), .ref (G.2.1 39), .ref (G.2.1 40), .int (f 3), .ref (G.2.1 41), .ref (G.2.1 42), .ref (G.2.1 43), .int (f 7), .int (f 8), .int (f 9), .ref (G.2.1 44), .int (f 11), .int (f 12), .int (f 13), .int (f 14), .int (f 15), .int (f 16), .ref (G.2.1 45), .ref (G.2.1 46), .int (f 19), .int (f 20), .int (f 21), .ref (G.2.1 47), .ref (G.2.1 48), .ref (G.2.1 49), .ref (G.2.1 50)], fun f => ⟨rfl, Nat.le_of_ble_eq_true rfl, fun v => by simp [upd]⟩⟩
theorem fg_37_15 (G : EN) : FG G 37 5 15 RX5 TX5 26 (fun f => .int (f 15)) := ⟨by decide, rfl, inTX5, by decide, rfl, fun f => [.ref (G.2.1 38), .ref (G.2.1 39), .ref (G.2.1 40), .int (f 3), .ref (G.2.1 41), .ref (G.2.1 42), .ref (G.2.1 43), .int (f 7), .int (f 8), .int (f 9), .ref (G.2.1 44), .int (f 11), .int (f 12), .int (f 13), .int (f 14), .int (f 15), .int (f 16), .ref (G.2.1 45), .ref (G.2.1 46), .int (f 19), .int (f 20), .int (f 21), .ref (G.2.1 47), .ref (G.2.1 48), .ref (G.2.1 49), .ref (G.2.1 50)], fun f => ⟨rfl, rfl⟩⟩
theorem fp_37_15 (G : EN) : FP G 37 5 15 RX5 TX5 26 tyX5 .int := ⟨by decide, rfl, inTX5, by decide, rfl, rfl, tyX5_ok, nmX5, by decide +kernel, fun f => [.ref (G.2.1 38), .ref (G.2.1 39), .ref (G.2.1 40), .int (f 3), .ref (G.2.1 41), .ref (G.2.1 42), .ref (G.2.1 43), .int (f 7), .int (f 8), .int (f 9), .ref (G.2.1 44), .int (f 11), .int (f 12), .int (f 13), .int (f 14), .int (f 15), .int (f 16), .ref (G.2.1 45), .ref (G.2.1 46), .int (f 19), .int (f 20), .int (f 21), .ref (G.2.1 47), .ref (G.2.1 48), .ref (G.2.1 49), .ref (G.2.1 50)], fun f => ⟨rfl, Nat.le_of_ble_eq_true rfl, fun v => by simp [upd]⟩⟩
theorem fg_37_16 (G : EN) : FG G 37 5 16 RX5 TX5 26 (fun f => .int (f 16)) := ⟨by decide, rfl, inTX5, by decide, rfl, fun f => [.ref (G.2.1 38), .ref (G.2.1 39), .ref (G.2.1 40), .int (f 3), .ref (G.2.1 41), .ref (G.2.1 42), .ref (G.2.1 43), .int (f 7), .int (f 8), .int (f 9), .ref (G.2.1 44), .int (f 11), .int (f 12), .int (f 13), .int (f 14), .int (f 15), .int (f 16), .ref (G.2.1 45), .ref (G.2.1 46), .int (f 19), .int (f 20), .int (f 21), .ref (G.2.1 47), .ref (G.2.1 48), .ref (G.2.1 49), .ref (G.2.1 50)], fun f => ⟨rfl, rfl⟩⟩
theorem fp_37_16 (G : EN) : FP G 37 5 16 RX5 TX5 26 tyX5 .boolean := ⟨by decide, rfl, inTX5, by decide, rfl, rfl, tyX5_ok, nmX5, by decide +kernel, fun f => [.ref (G.2.1 38), .ref (G.2.1 39), .ref (G.2.1 40), .int (f 3), .ref (G.2.1 41), .ref (G.2.1 42), .ref (G.2.1 43), .int (f 7), .int (f 8), .int (f 9), .ref (G.2.1 44), .int (f 11), .int (f 12), .int (f 13), .int (f 14), .int (f 15), .int (f 16), .ref (G.2.1 45), .ref (G.2.1 46), .int (f 19), .int (f 20), .int (f 21), .ref (G.2.1 47), .ref (G.2.1 48), .ref (G.2.1 49), .ref (G.2.1 50)], fun f => ⟨rfl, Nat.le_of_ble_eq_true rfl, fun v => by simp [upd]⟩⟩
theorem fg_37_17 (G : EN) : FG G 37 5 17 RX5 TX5 26 (fun f => .ref (G.2.1 45)) := ⟨by decide, rfl, inTX5, by decide, rfl, fun f => [.ref (G.2.1 38), .ref (G.2.1 39), .ref (G.2.1 40), .int (f 3), .ref (G.2.1 41), .ref (G.2.1 42), .ref (G.2.1 43), .int (f 7), .int (f 8), .int (f 9), .ref (G.2.1 44), .int (f 11), .int (f 12), .int (f 13), .int (f 14), .int (f 15), .int (f 16), .ref (G.2.1 45), .ref (G.2.1 46), .int (f 19), .int (f 20), .int (f 21), .ref (G.2.1 47), .ref (G.2.1 48), .ref (G.2.1 49), .ref (G.2.1 50)], fun f => ⟨rfl, rfl⟩⟩
theorem fg_37_18 (G : EN) : FG G 37 5 18 RX5 TX5 26 (fun f => .ref (G.2.1 46)) := ⟨by decide, rfl, inTX5, by decide, rfl, fun f => [.ref (G.2.1 38), .ref (G.2.1 39), .ref (G.2.1 40), .int (f 3), .ref (G.2.1 41), .ref (G.2.1 42), .ref (G.2.1 43), .int (f 7), .int (f 8), .int (f 9), .ref (G.2.1 44), .int (f 11), .int (f 12), .int (f 13), .int (f 14), .int (f 15), .int (f 16), .ref (G.2.1 45), .ref (G.2.1 46), .int (f 19), .int (f 20), .int (f 21), .ref (G.2.1 47), .ref (G.2.1 48), .ref (G.2.1 49), .ref (G.2.1 50)], fun f => ⟨rfl, rfl⟩⟩
theorem fg_37_19 (G : EN) : FG G 37 5 19 RX5 TX5 26 (fun f => .int (f 19)) := ⟨by decide, rfl, inTX5, by decide, rfl, fun f => [.ref (G.2.1 38), .ref (G.2.1 39), .ref (G.2.1 40), .int (f 3), .ref (G.2.1 41), .ref (G.2.1 42), .ref (G.2.1 43), .int (f 7), .int (f 8), .int (f 9), .ref (G.2.1 44), .int (f 11), .int (f 12), .int (f 13), .int (f 14), .int (f 15), .int (f 16), .ref (G.2.1 45), .ref (G.2.1 46), .int (f 19), .int (f 20), .int (f 21), .ref (G.2.1 47), .ref (G.2.1 48), .ref (G.2.1 49), .ref (G.2.1 50)], fun f => ⟨rfl, rfl⟩⟩
theorem fp_37_19 (G : EN) : FP G 37 5 19 RX5 TX5 26 tyX5 .int := ⟨by decide, rfl, inTX5, by decide, rfl, rfl, tyX5_ok, nmX5, by decide +kernel, fun f => [.ref (G.2.1 38), .ref (G.2.1 39), .ref (G.2.1 40), .int (f 3), .ref (G.2.1 41), .ref (G.2.1 42), .ref (G.2.1 43), .int (f 7), .int (f 8), .int (f 9), .ref (G.2.1 44), .int (f 11), .int (f 12), .int (f 13), .int (f 14), .int (f 15), .int (f 16), .ref (G.2.1 45), .ref (G.2.1 46), .int (f 19), .int (f 20), .int (f 21), .ref (G.2.1 47), .ref (G.2.1 48), .ref (G.2.1 49), .ref (G.2.1 50)], fun f => ⟨rfl, Nat.le_of_ble_eq_true rfl, fun v => by simp [upd]⟩⟩
theorem fg_37_20 (G : EN) : FG G 37 5 20 RX5 TX5 26 (fun f => .int (f 20)) := ⟨by decide, rfl, inTX5, by decide, rfl, fun f => [.ref (G.2.1 38), .ref (G.2.1 39), .ref (G.2.1 40), .int (f 3), .ref (G.2.1 41), .ref (G.2.1 42), .ref (G.2.1 43), .int (f 7), .int (f 8), .int (f 9), .ref (G.2.1 44), .int (f 11), .int (f 12), .int (f 13), .int (f 14), .int (f 15), .int (f 16), .ref (G.2.1 45), .ref (G.2.1 46), .int (f 19), .int (f 20), .int (f 21), .ref (G.2.1 47), .ref (G.2.1 48), .ref (G.2.1 49), .ref (G.2.1 50)], fun f => ⟨rfl, rfl⟩⟩
theorem fp_37_20 (G : EN) : FP G 37 5 20 RX5 TX5 26 tyX5 .int := ⟨by decide, rfl, inTX5, by decide, rfl, rfl, tyX5_ok, nmX5, by decide +kernel, fun f => [.ref (G.2.1 38), .ref (G.2.1 39), .ref (G.2.1 40), .int (f 3), .ref (G.2.1 41), .ref (G.2.1 42), .ref (G.2.1 43), .int (f 7), .int (f 8), .int (f 9), .ref (G.2.1 44), .int (f 11), .int (f 12), .int (f 13), .int (f 14), .int (f 15), .int (f 16), .ref (G.2.1 45), .ref (G.2.1 46), .int (f 19), .int (f 20), .int (f 21), .ref (G.2.1 47), .ref (G.2.1 48), .ref (G.2.1 49), .ref (G.2.1 50)], fun f => ⟨rfl, Nat.le_of_ble_eq_true rfl, fun v => by simp [upd]⟩⟩
theorem fg_37_21 (G : EN) : FG G 37 5 21 RX5 TX5 26 (fun f => .int (f 21)) := ⟨by decide, rfl, inTX5, by decide, rfl, fun f => [.ref (G.2.1 38), .ref (G.2.1 39), .ref (G.2.1 40), .int (f 3), .ref (G.2.1 41), .ref (G.2.1 42), .ref (G.2.1 43), .int (f 7), .int (f 8), .int (f 9), .ref (G.2.1 44), .int (f 11), .int (f 12), .int (f 13), .int (f 14), .int (f 15), .int (f 16), .ref (G.2.1 45), .ref (G.2.1 46), .int (f 19), .int (f 20), .int (f 21), .ref (G.2.1 47), .ref (G.2.1 48), .ref (G.2.1 49), .ref (G.2.1 50)], fun f => ⟨rfl, rfl⟩⟩
theorem fp_37_21 (G : EN) : FP G 37 5 21 RX5 TX5 26 tyX5 .int := ⟨by decide, rfl, inTX5, by decide, rfl, rfl, tyX5_ok, nmX5, by decide +kernel, fun f => [.ref (G.2.1 38), .ref (G.2.1 39), .ref (G.2.1 40), .int (f 3), .ref (G.2.1 41), .ref (G.2.1 42), .ref (G.2.1 43), .int (f 7), .int (f 8), .int (f 9), .ref (G.2.1 44), .int (f 11), .int (f 12), .int (f 13), .int (f 14), .int (f 15), .int (f 16), .ref (G.2.1 45), .ref (G.2.1 46), .int (f 19), .int (f 20), .int (f 21), .ref (G.2.1 47), .ref (G.2.1 48), .ref (G.2.1 49), .ref (G.2.1 50)], fun f => ⟨rfl, Nat.le_of_ble_eq_true rfl, fun v => by simp [upd]⟩⟩
theorem fg_37_22 (G : EN) : FG G 37 5 22 RX5 TX5 26 (fun f => .ref (G.2.1 47)) := ⟨by decide, rfl, inTX5, by decide, rfl, fun f => [.ref (G.2.1 38), .ref (G.2.1 39), .ref (G.2.1 40), .int (f 3), .ref (G.2.1 41), .ref (G.2.1 42), .ref (G.2.1 43), .int (f 7), .int (f 8), .int (f 9), .ref (G.2.1 44), .int (f 11), .int (f 12), .int (f 13), .int (f 14), .int (f 15), .int (f 16), .ref (G.2.1 45), .ref (G.2.1 46), .int (f 19), .int (f 20), .int (f 21), .ref (G.2.1 47), .ref (G.2.1 48), .ref (G.2.1 49), .ref (G.2.1 50)], fun f => ⟨rfl, rfl⟩⟩
theorem fg_37_23 (G : EN) : FG G 37 5 23 RX5 TX5 26 (fun f => .ref (G.2.1 48)) := ⟨by decide, rfl, inTX5, by decide, rfl, fun f => [.ref (G.2.1 38), .ref (G.2.1 39), .ref (G.2.1 40), .int (f 3), .ref (G.2.1 41), .ref (G.2.1 42), .ref (G.2.1 43), .int (f 7), .int (f 8), .int (f 9), .ref (G.2.1 44), .int (f 11), .int (f 12), .int (f 13), .int (f 14), .int (f 15), .int (f 16), .ref (G.2.1 45), .ref (G.2.1 46), .int (f 19), .int (f 20), .int (f 21), .ref (G.2.1 47), .ref (G.2.1 48), .ref (G.2.1 49), .ref (G.2.1 50)], fun f => ⟨rfl, rfl⟩⟩
theorem fg_37_24 (G : EN) : FG G 37 5 24 RX5 TX5 26 (fun f => .ref (G.2.1 49)) := ⟨by decide, rfl, inTX5, by decide, rfl, fun f => [.ref (G.2.1 38), .ref (G.2.1 39), .ref (G.2.1 40), .int (f 3), .ref (G.2.1 41), .ref (G.2.1 42), .ref (G.2.1 43), .int (f 7), .int (f 8), .int (f 9), .ref (G.2.1 44), .int (f 11), .int (f 12), .int (f 13), .int (f 14), .int (f 15), .int (f 16), .ref (G.2.1 45), .ref (G.2.1 46), .int (f 19), .int (f 20), .int (f 21), .ref (G.2.1 47), .ref (G.2.1 48), .ref (G.2.1 49), .ref (G.2.1 50)], fun f => ⟨rfl, rfl⟩⟩
theorem fg_37_25 (G : EN) : FG G 37 5 25 RX5 TX5 26 (fun f => .ref (G.2.1 50)) := ⟨by decide, rfl, inTX5, by decide, rfl, fun f => [.ref (G.2.1 38), .ref (G.2.1 39), .ref (G.2.1 40), .int (f 3), .ref (G.2.1 41), .ref (G.2.1 42), .ref (G.2.1 43), .int (f 7), .int (f 8), .int (f 9), .ref (G.2.1 44), .int (f 11), .int (f 12), .int (f 13), .int (f 14), .int (f 15), .int (f 16), .ref (G.2.1 45), .ref (G.2.1 46), .int (f 19), .int (f 20), .int (f 21), .ref (G.2.1 47), .ref (G.2.1 48), .ref (G.2.1 49), .ref (G.2.1 50)], fun f => ⟨rfl, rfl⟩⟩
theorem ai_38 (G : EN) : AI G 38 152 := ⟨by decide, fun _ => rfl⟩
theorem ai_39 (G : EN) : AI G 39 152 := ⟨by decide, fun _ => rfl⟩
theorem ai_40 (G : EN) : AI G 40 152 := ⟨by decide, fun _ => rfl⟩
theorem ai_41 (G : EN) : AI G 41 8 := ⟨by decide, fun _ => rfl⟩
theorem ai_42 (G : EN) : AI G 42 8 := ⟨by decide, fun _ => rfl⟩
theorem ai_43 (G : EN) : AI G 43 8 := ⟨by decide, fun _ => rfl⟩
theorem ai_44 (G : EN) : AI G 44 120 := ⟨by decide, fun _ => rfl⟩
theorem aq_45 (G : EN) : AQ G 45 7 3 100 1 := ⟨by decide, fun f => by rw [cel_45]; simp⟩
theorem ai_46 (G : EN) : AI G 46 360 := ⟨by decide, fun _ => rfl⟩
theorem ai_47 (G : EN) : AI G 47 4 := ⟨by decide, fun _ => rfl⟩
theorem ai_48 (G : EN) : AI G 48 4 := ⟨by decide, fun _ => rfl⟩
theorem ai_49 (G : EN) : AI G 49 160 := ⟨by decide, fun _ => rfl⟩
theorem ai_50 (G : EN) : AI G 50 40 := ⟨by decide, fun _ => rfl⟩
/-- cell k is one of the four sheets -/
def iS (k : Nat) : Prop := k = 26 ∨ k = 28 ∨ k = 30 ∨ k = 32
theorem iS_of {j : Nat} (h : j < 4) : iS (26 + 2 * j) := by unfold iS; omega
theorem ai_S (G : EN) {k : Nat} (h : iS k) : AI G (k + 1) 40 := by
  rcases h with rfl | rfl | rfl | rfl
  · exact ai_27 G
  · exact ai_29 G
  · exact ai_31 G
  · exact ai_33 G
theorem fg_S_0 (G : EN) {k : Nat} (h : iS k) : FG G k 2 0 RX2 TX2 3 (fun f => .int (f 0)) := by
  rcases h with rfl | rfl | rfl | rfl
  · exact fg_26_0 G
  · exact fg_28_0 G
  · exact fg_30_0 G
  · exact fg_32_0 G
theorem fg_S_1 (G : EN) {k : Nat} (h : iS k) : FG G k 2 1 RX2 TX2 3 (fun f => .int (f 1)) := by
  rcases h with rfl | rfl | rfl | rfl
  · exact fg_26_1 G
  · exact fg_28_1 G
  · exact fg_30_1 G
  · exact fg_32_1 G
theorem fg_S_2 (G : EN) {k : Nat} (h : iS k) : FG G k 2 2 RX2 TX2 3 (fun _ => .ref (G.2.1 (k + 1))) := by
  rcases h with rfl | rfl | rfl | rfl
  · exact fg_26_2 G
  · exact fg_28_2 G
  · exact fg_30_2 G
  · exact fg_32_2 G
theorem fp_S_0 (G : EN) {k : Nat} (h : iS k) : FP G k 2 0 RX2 TX2 3 tyX2 .int := by
  rcases h with rfl | rfl | rfl | rfl
  · exact fp_26_0 G
  · exact fp_28_0 G
  · exact fp_30_0 G
  · exact fp_32_0 G
theorem fp_S_1 (G : EN) {k : Nat} (h : iS k) : FP G k 2 1 RX2 TX2 3 tyX2 .int := by
  rcases h with rfl | rfl | rfl | rfl
  · exact fp_26_1 G
  · exact fp_28_1 G
  · exact fp_30_1 G
  · exact fp_32_1 G
