/-! ===== feeding at a hunger ===== -/
def hu (h a : Nat) : Nat → Nat
  | 0 => a
  | k + 1 => min ((if h ≤ hu h a k then 0 else hu h a k) + 1) 99
def fc (h a : Nat) : Nat → Nat
  | 0 => 0
  | k + 1 => fc h a k + if h ≤ hu h a k then 1 else 0
def sumN (f : Nat → Nat) : Nat → Nat
  | 0 => 0
  | c + 1 => sumN f c + f c
theorem hu_le {h a : Nat} (ha : a ≤ 99) : ∀ k, hu h a k ≤ 99
  | 0 => ha
  | k + 1 => by
    show min _ 99 ≤ 99
    omega
theorem dm_succ {t h : Nat} (h0 : 0 < h) : (t % h + 1 = h → (t + 1) % h = 0 ∧ (t + 1) / h = t / h + 1) ∧ (¬ t % h + 1 = h → (t + 1) % h = t % h + 1 ∧ (t + 1) / h = t / h) := by
  have e := Nat.div_add_mod t h
  have l := Nat.mod_lt t h0
  refine ⟨fun q => ?_, fun q => ?_⟩
  · have e2 : t + 1 = h * (t / h + 1) := by rw [Nat.mul_add, Nat.mul_one]; omega
    rw [e2, Nat.mul_mod_right, Nat.mul_div_cancel_left _ h0]
    exact ⟨rfl, rfl⟩
  · have e2 : t + 1 = h * (t / h) + (t % h + 1) := by omega
    have e3 : (h * (t / h) + (t % h + 1)) % h = t % h + 1 := by rw [Nat.mul_add_mod, Nat.mod_eq_of_lt (by omega)]
    have e4 : (h * (t / h) + (t % h + 1)) / h = t / h := by rw [Nat.mul_add_div h0, Nat.div_eq_of_lt (show t % h + 1 < h by omega), Nat.add_zero]
    exact ⟨by rw [e2]; exact e3, by rw [e2]; exact e4⟩
theorem fc_s {h a : Nat} (h1 : 1 ≤ h) (h99 : h ≤ 99) (ha : a ≤ 99) : ∀ k, (k ≤ h - a → hu h a k = a + k ∧ fc h a k = 0) ∧ (∀ t, k = h - a + 1 + t → hu h a k = 1 + t % h ∧ fc h a k = 1 + t / h)
  | 0 => ⟨fun _ => ⟨rfl, rfl⟩, fun t e => by omega⟩
  | k + 1 => by
    obtain ⟨i1, i2⟩ := fc_s h1 h99 ha k
    have eh : hu h a (k + 1) = min ((if h ≤ hu h a k then 0 else hu h a k) + 1) 99 := rfl
    have ef : fc h a (k + 1) = fc h a k + if h ≤ hu h a k then 1 else 0 := rfl
    refine ⟨fun q => ?_, fun t e => ?_⟩
    · obtain ⟨j1, j2⟩ := i1 (by omega)
      rw [eh, ef, j1, j2, if_neg (by omega), if_neg (by omega)]
      omega
    · cases t with
      | zero =>
        obtain ⟨j1, j2⟩ := i1 (by omega)
        rw [eh, ef, j1, j2, if_pos (by omega), if_pos (by omega), Nat.zero_mod, Nat.zero_div]
        omega
      | succ t =>
        obtain ⟨j1, j2⟩ := i2 t (by omega)
        obtain ⟨d1, d2⟩ := dm_succ (t := t) (h := h) (by omega)
        have l := Nat.mod_lt t (show 0 < h by omega)
        rw [eh, ef, j1, j2]
        by_cases q : t % h + 1 = h
        · obtain ⟨k1, k2⟩ := d1 q
          rw [k1, k2, if_pos (by omega), if_pos (by omega)]
          omega
        · obtain ⟨k1, k2⟩ := d2 q
          rw [k1, k2, if_neg (by omega), if_neg (by omega)]
          omega
theorem fc_cl {h a N : Nat} (h1 : 1 ≤ h) (h99 : h ≤ 99) (ha : a ≤ 99) : fc h a N = if N ≤ h - a then 0 else 1 + (N - 1 - (h - a)) / h := by
  obtain ⟨i1, i2⟩ := fc_s h1 h99 ha N
  by_cases q : N ≤ h - a
  · rw [if_pos q, (i1 q).2]
  · rw [if_neg q, (i2 (N - 1 - (h - a)) (by omega)).2]
theorem fc_le (h a : Nat) : ∀ N, fc h a N ≤ N
  | 0 => Nat.le_refl 0
  | N + 1 => by
    have := fc_le h a N
    show fc h a N + (if h ≤ hu h a N then 1 else 0) ≤ N + 1
    split <;> omega
theorem sumN_le {f : Nat → Nat} {B : Nat} : ∀ {n : Nat}, (∀ c, c < n → f c ≤ B) → sumN f n ≤ n * B
  | 0, _ => Nat.zero_le _
  | n + 1, h => by
    have := sumN_le (n := n) (fun c hc => h c (by omega))
    have := h n (by omega)
    show sumN f n + f n ≤ (n + 1) * B
    rw [Nat.add_mul, Nat.one_mul]
    omega
theorem sumN_add (f d : Nat → Nat) : ∀ n, sumN (fun c => f c + d c) n = sumN f n + sumN d n
  | 0 => rfl
  | n + 1 => by
    show sumN (fun c => f c + d c) n + (f n + d n) = sumN f n + f n + (sumN d n + d n)
    rw [sumN_add f d n]
    omega
def hg (g : Nat → Int32) (c : Nat) : Nat := (g (128 + 3 * c + 1)).toNatClampNeg
theorem hg_s {g : Nat → Int32} {n c : Nat} (hV : VW g n) (hc : c < 8) : g (128 + 3 * c + 1) = nI (hg g c) ∧ hg g c ≤ 99 := by
  obtain ⟨a, ha, e⟩ := (hV.cat hc).2.1
  unfold hg
  rw [e, nI_clamp (by omega)]
  exact ⟨rfl, ha⟩
/-- what all use in N WATCHES -/
def us (g : Nat → Int32) (n h N : Nat) : Nat := sumN (fun c => fc h (hg g c) N) n
theorem us_le {g : Nat → Int32} {n h N : Nat} (hn : n ≤ 8) : us g n h N ≤ 8 * N := by
  have h1 := sumN_le (f := fun c => fc h (hg g c) N) (B := N) (n := n) (fun c _ => fc_le _ _ _)
  have h2 := Nat.mul_le_mul_right N hn
  unfold us
  omega
theorem sumN_cong {f f' : Nat → Nat} : ∀ {n : Nat}, (∀ c, c < n → f c = f' c) → sumN f n = sumN f' n
  | 0, _ => rfl
  | n + 1, h => by
    show sumN f n + f n = sumN f' n + f' n
    rw [sumN_cong (fun c hc => h c (by omega)), h n (by omega)]
theorem us_cong {g g' : Nat → Int32} {n h N : Nat} (hn : n ≤ 8) (e : ∀ i, i < 152 → g' i = g i) : us g' n h N = us g n h N := by
  unfold us
  refine sumN_cong (fun c hc => ?_)
  have : hg g' c = hg g c := by
    unfold hg
    rw [e (128 + 3 * c + 1) (by omega)]
  rw [this]
theorem xFed {μ : MM} {g : Nat → Int32} {n N h : Nat} (hR : RN μ 1 g) (hV : VW g n) (hN : N ≤ 200) (h1 : 1 ≤ h) (h99 : h ≤ 99) : f_X0_fedIn (nI N) (nI h) μ = some (nI (us g n h N)) := by
  have hn := hV.le
  have x10 : μ 1 0 = nI n := by rw [(hR.num).1, hV.cats]
  have H : ∀ (d i fu : Nat), i + d = n → d < fu → L_X0_fedIn_12 (nI N) (nI h) μ fu (nI (sumN (fun c => fc h (hg g c) N) i)) (nI i) = some (nI (us g n h N)) := by
    intro d
    induction d with
    | zero =>
      intro i fu hi hf
      obtain ⟨f, rfl⟩ : ∃ f, fu = f + 1 := ⟨fu - 1, by omega⟩
      have e : i = n := by omega
      subst e
      rw [L_X0_fedIn_12, x10, if_pos (Int32.le_refl _)]
      rfl
    | succ d ih =>
      intro i fu hi hf
      obtain ⟨f, rfl⟩ : ∃ f, fu = f + 1 := ⟨fu - 1, by omega⟩
      obtain ⟨ea, ha⟩ := hg_s hV (show i < 8 by omega)
      have em : imax (nI h - nI (hg g i)) 0 = nI (h - hg g i) := by
        unfold imax
        have t : (nI h - nI (hg g i)).toInt = (h : Int) - (hg g i : Int) := by
          rw [fb_subI (by rw [nI_toInt (by omega), nI_toInt (by omega)]; omega) (by rw [nI_toInt (by omega), nI_toInt (by omega)]; omega), nI_toInt (by omega), nI_toInt (by omega)]
        have t0 : (0 : Int32).toInt = 0 := by decide
        apply Int32.toInt_inj.mp
        by_cases q : nI h - nI (hg g i) < 0
        · rw [if_pos q, t0, nI_toInt (by omega)]
          rw [fa_lt', t, t0] at q
          omega
        · rw [if_neg q, t, nI_toInt (by omega)]
          rw [fa_lt', t, t0] at q
          omega
      rw [L_X0_fedIn_12, x10, if_neg (nI_ge (by omega) (by omega)), ldi_n (show i < 8 by omega) (by decide), (hR.cat1 (show i < 8 by omega)).2.1, ea]
      simp only [lt_s_, jn1_s, nI_1, em]
      rw [gd_t (show ¬ nI h = 0 from fun z => by
        have := (nI_eq (a := h) (b := 0) (by omega) (by decide)).mp z
        omega)]
      rw [← ih (i + 1) f (by omega) (by omega)]
      show _ = L_X0_fedIn_12 (nI N) (nI h) μ f (nI (sumN (fun c => fc h (hg g c) N) i + fc h (hg g i) N)) (nI (i + 1))
      rw [fc_cl h1 h99 ha]
      by_cases q : N ≤ h - hg g i
      · rw [if_pos ((le_nn (by omega) (by omega)).mpr q), if_pos q]
        rfl
      · rw [if_neg (fun z => q ((le_nn (by omega) (by omega)).mp z)), if_neg q]
        have e1 : nI N - 1 - nI (h - hg g i) = nI (N - 1 - (h - hg g i)) := by
          apply Int32.toInt_inj.mp
          have t1 : (1 : Int32).toInt = 1 := by decide
          have t2 : (nI N - 1).toInt = (N : Int) - 1 := by
            rw [fb_subI (by rw [nI_toInt (by omega), t1]; omega) (by rw [nI_toInt (by omega), t1]; omega), nI_toInt (by omega), t1]
          rw [fb_subI (by rw [t2, nI_toInt (by omega)]; omega) (by rw [t2, nI_toInt (by omega)]; omega), t2, nI_toInt (by omega), nI_toInt (by omega)]
          omega
        rw [e1, pk_div (by omega) (by omega) (by omega), show (1 : Int32) = nI 1 from rfl, nI_add, nI_add]
  unfold f_X0_fedIn
  rw [if_pos (show (1 : Int32) ≤ nI h from (le_nn (a := 1) (by decide) (by omega)).mpr h1)]
  exact H n 0 FU (by omega) (show n < 4096 by omega)
