/-! ===== texts: runs of bytes ===== -/
def inr (b : Nat → Int32) (L : Nat) (lo hi : Int32) (k : Nat) : Bool := decide (k < L) && decide (¬ wi (b k) lo hi = 0)
def iSp (b : Nat → Int32) (L : Nat) (k : Nat) : Bool := decide (k < L) && decide (b k = 32)
def re (q : Nat → Bool) (k : Nat) : Nat → Nat
  | 0 => k
  | f + 1 => if q k then re q (k + 1) f else k
def run (q : Nat → Bool) (k : Nat) : Nat := re q k 121
/-- nothing beyond L -/
def Bd (q : Nat → Bool) (L : Nat) : Prop := ∀ j, L ≤ j → q j = false
theorem Bd_inr (b : Nat → Int32) (L : Nat) (lo hi : Int32) : Bd (inr b L lo hi) L := fun j h => by
  unfold inr
  rw [decide_eq_false (by omega), Bool.false_and]
theorem Bd_iSp (b : Nat → Int32) (L : Nat) : Bd (iSp b L) L := fun j h => by
  unfold iSp
  rw [decide_eq_false (by omega), Bool.false_and]
theorem inr_s {b : Nat → Int32} {L k : Nat} {lo hi : Int32} (h : k < L) : inr b L lo hi k = decide (¬ wi (b k) lo hi = 0) := by
  unfold inr
  rw [decide_eq_true h, Bool.true_and]
theorem iSp_s {b : Nat → Int32} {L k : Nat} (h : k < L) : iSp b L k = decide (b k = 32) := by
  unfold iSp
  rw [decide_eq_true h, Bool.true_and]
theorem Bd.lt {q : Nat → Bool} {L k : Nat} (h : Bd q L) (e : q k = true) : k < L := by
  by_cases z : k < L
  · exact z
  · rw [h k (by omega)] at e
    cases e
theorem re_f {q : Nat → Bool} {k : Nat} (h : q k = false) : ∀ f, re q k f = k
  | 0 => rfl
  | f + 1 => by
    show (if q k then re q (k + 1) f else k) = k
    rw [h]
    rfl
theorem re_more {q : Nat → Bool} {L : Nat} (hq : Bd q L) : ∀ (f k : Nat), L ≤ k + f → re q k f = re q k (f + 1)
  | 0, k, h => (re_f (hq k (by omega)) 1).symm
  | f + 1, k, h => by
    show (if q k then re q (k + 1) f else k) = (if q k then re q (k + 1) (f + 1) else k)
    rw [re_more hq f (k + 1) (by omega)]
theorem run_t {q : Nat → Bool} {L k : Nat} (hq : Bd q L) (hL : L ≤ 120) (h : q k = true) : run q k = run q (k + 1) := by
  show (if q k then re q (k + 1) 120 else k) = re q (k + 1) 121
  rw [h, ← re_more hq 120 (k + 1) (by omega)]
  rfl
theorem run_f {q : Nat → Bool} {k : Nat} (h : q k = false) : run q k = k := re_f h 121
/-- what holds of a run, from its end backwards -/
theorem run_s {q : Nat → Bool} {L : Nat} (hq : Bd q L) (hL : L ≤ 120) : ∀ (d k : Nat), k + d = L → k ≤ run q k ∧ run q k ≤ L ∧ q (run q k) = false ∧ ∀ j, k ≤ j → j < run q k → q j = true
  | 0, k, h => by
    have e := run_f (hq k (by omega))
    rw [e]
    exact ⟨Nat.le_refl _, by omega, hq k (by omega), fun j a b => by omega⟩
  | d + 1, k, h => by
    cases e : q k with
    | true =>
      obtain ⟨h1, h2, h3, h4⟩ := run_s hq hL d (k + 1) (by omega)
      rw [run_t hq hL e]
      refine ⟨by omega, h2, h3, fun j a b => ?_⟩
      by_cases y : j = k
      · rw [y]; exact e
      · exact h4 j (by omega) b
    | false =>
      rw [run_f e]
      exact ⟨Nat.le_refl _, by omega, e, fun j a b => by omega⟩
theorem run_ok {q : Nat → Bool} {L k : Nat} (hq : Bd q L) (hL : L ≤ 120) (hk : k ≤ L) : k ≤ run q k ∧ run q k ≤ L ∧ q (run q k) = false ∧ ∀ j, k ≤ j → j < run q k → q j = true := run_s hq hL (L - k) k (by omega)
theorem run_lt {q : Nat → Bool} {L k : Nat} (hq : Bd q L) (hL : L ≤ 120) (h : q k = true) : k < run q k := by
  have := hq.lt h
  rw [run_t hq hL h]
  exact (run_ok hq hL (show k + 1 ≤ L by omega)).1
/-! ===== tokens ===== -/
def Lt (b : Nat → Int32) (L : Nat) : Nat → Bool := inr b L 97 122
def Dg (b : Nat → Int32) (L : Nat) : Nat → Bool := inr b L 48 57
def enT (b : Nat → Int32) (L p : Nat) : Nat := if Lt b L p then run (Lt b L) p else if Dg b L p then run (Dg b L) p else p + 1
def skT (b : Nat → Int32) (L k : Nat) : Nat := run (iSp b L) k
def bg (b : Nat → Int32) (L : Nat) : Nat → Nat
  | 0 => skT b L 0
  | t + 1 => if bg b L t < L then skT b L (enT b L (bg b L t)) else bg b L t
theorem enT_s {b : Nat → Int32} {L p : Nat} (hL : L ≤ 120) (hp : p < L) : p < enT b L p ∧ enT b L p ≤ L := by
  unfold enT
  cases e : Lt b L p with
  | true =>
    rw [if_pos rfl]
    exact ⟨run_lt (Bd_inr b L 97 122) hL e, (run_ok (Bd_inr b L 97 122) hL (Nat.le_of_lt hp)).2.1⟩
  | false =>
    rw [if_neg (by decide)]
    cases e2 : Dg b L p with
    | true =>
      rw [if_pos rfl]
      exact ⟨run_lt (Bd_inr b L 48 57) hL e2, (run_ok (Bd_inr b L 48 57) hL (Nat.le_of_lt hp)).2.1⟩
    | false =>
      rw [if_neg (by decide)]
      omega
theorem skT_s {b : Nat → Int32} {L k : Nat} (hL : L ≤ 120) (hk : k ≤ L) : k ≤ skT b L k ∧ skT b L k ≤ L ∧ iSp b L (skT b L k) = false :=
  ⟨(run_ok (Bd_iSp b L) hL hk).1, (run_ok (Bd_iSp b L) hL hk).2.1, (run_ok (Bd_iSp b L) hL hk).2.2.1⟩
theorem bg_le {b : Nat → Int32} {L : Nat} (hL : L ≤ 120) : ∀ t, bg b L t ≤ L ∧ iSp b L (bg b L t) = false
  | 0 => ⟨(skT_s hL (Nat.zero_le L)).2.1, (skT_s hL (Nat.zero_le L)).2.2⟩
  | t + 1 => by
    have ih := bg_le (b := b) hL t
    unfold bg
    by_cases q : bg b L t < L
    · rw [if_pos q]
      have := enT_s (b := b) hL q
      exact ⟨(skT_s hL this.2).2.1, (skT_s hL this.2).2.2⟩
    · rw [if_neg q]
      exact ih
theorem bg_lt {b : Nat → Int32} {L t : Nat} (hL : L ≤ 120) (h : bg b L t < L) : bg b L t < bg b L (t + 1) := by
  show _ < (if bg b L t < L then skT b L (enT b L (bg b L t)) else bg b L t)
  rw [if_pos h]
  have h1 := enT_s (b := b) hL h
  have h2 := skT_s (b := b) hL h1.2
  omega
def mtc (b : Nat → Int32) (p w : Nat) : Bool := al (fun i => decide (b (p + i) = chS w i)) 0 (lenS.getD w 0)
/-- whether the bytes from p to e are word w -/
def wm (b : Nat → Int32) (p e w : Nat) : Bool := decide (e = p + lenS.getD w 0) && mtc b p w
def wcd (b : Nat → Int32) (p e : Nat) : Int32 := match fd (wm b p e) 0 17 with
  | some w => nI w
  | none => 21
def sg (x : Int32) : Int32 := if x = 59 then 18 else if x = 45 then 19 else 21
def tk (b : Nat → Int32) (L t : Nat) : Int32 := if bg b L t < L then (if Lt b L (bg b L t) then wcd b (bg b L t) (enT b L (bg b L t)) else if Dg b L (bg b L t) then 17 else sg (b (bg b L t))) else 20
def vl (b : Nat → Int32) (k : Nat) : Nat → Int32 → Int32
  | 0, a => a
  | d + 1, a => vl b (k + 1) d (imin (a * 10 + b k - 48) 100000)
def nv (b : Nat → Int32) (L t : Nat) : Int32 := vl b (bg b L t) (enT b L (bg b L t) - bg b L t) 0
/-- the last one: the end -/
def isT (b : Nat → Int32) (L T : Nat) : Prop := bg b L T = L ∧ ∀ t, t < T → bg b L t < L
theorem bg_T {b : Nat → Int32} {L T : Nat} (h : isT b L T) : ∀ t, T ≤ t → bg b L t = L := by
  intro t ht
  obtain ⟨d, rfl⟩ : ∃ d, t = T + d := ⟨t - T, by omega⟩
  induction d with
  | zero => exact h.1
  | succ d ih =>
    show (if bg b L (T + d) < L then skT b L (enT b L (bg b L (T + d))) else bg b L (T + d)) = L
    rw [ih (by omega), if_neg (by omega)]
theorem T_le {b : Nat → Int32} {L T : Nat} (hL : L ≤ 120) (h : isT b L T) : ∀ t, t ≤ T → t ≤ bg b L t
  | 0, _ => Nat.zero_le _
  | t + 1, ht => by
    have := T_le hL h t (by omega)
    have := bg_lt hL (h.2 t (by omega))
    omega
theorem T_120 {b : Nat → Int32} {L T : Nat} (hL : L ≤ 120) (h : isT b L T) : T ≤ L := by
  have := T_le hL h T (Nat.le_refl _)
  rw [h.1] at this
  exact this
/-! ===== the class: runs, words, numbers ===== -/
/-- the class' tape -/
def XT (b : Nat → Int32) (L : Nat) (m : MM) : Prop := m 19 1 = nI L ∧ ∀ i, i < L → m 20 i = b i
theorem xRun {b : Nat → Int32} {L : Nat} {m : MM} (hL : L ≤ 120) (h : XT b L m) (lo hi : Int32) : ∀ (d k fu : Nat), k + d = L → d < fu → L_X3_runEnd_3 lo hi m fu (nI k) = some (nI (run (inr b L lo hi) k)) := by
  intro d
  induction d with
  | zero =>
    intro k fu hk hf
    obtain ⟨f, rfl⟩ : ∃ f, fu = f + 1 := ⟨fu - 1, by omega⟩
    have e : k = L := by omega
    subst e
    rw [L_X3_runEnd_3, h.1, if_pos (Int32.le_refl _), run_f (Bd_inr b k lo hi k (Nat.le_refl _))]
  | succ d ih =>
    intro k fu hk hf
    obtain ⟨f, rfl⟩ : ∃ f, fu = f + 1 := ⟨fu - 1, by omega⟩
    rw [L_X3_runEnd_3, h.1, if_neg (nI_ge (by omega) (by omega)), ldi_n (show k < 120 by omega) (by decide), h.2 k (by omega), isWithin_s, bdr_s]
    by_cases q : wi (b k) lo hi = 0
    · rw [if_pos q, run_f (by rw [inr_s (by omega), decide_eq_false (fun z => z q)])]
    · rw [if_neg q, lt_s_, nI_1, ih (k + 1) f (by omega) (by omega), run_t (k := k) (Bd_inr b L lo hi) hL (by rw [inr_s (by omega), decide_eq_true q])]
theorem xNum {b : Nat → Int32} {L e : Nat} {m : MM} (hL : L ≤ 120) (h : XT b L m) (he : e ≤ L) : ∀ (d k fu : Nat) (a : Int32), k + d = e → d < fu → L_X3_numberAt_5 (nI e) m fu a (nI k) = some (vl b k d a) := by
  intro d
  induction d with
  | zero =>
    intro k fu a hk hf
    obtain ⟨f, rfl⟩ : ∃ f, fu = f + 1 := ⟨fu - 1, by omega⟩
    have e : k = e := by omega
    subst e
    rw [L_X3_numberAt_5, if_pos (Int32.le_refl _)]
    rfl
  | succ d ih =>
    intro k fu a hk hf
    obtain ⟨f, rfl⟩ : ∃ f, fu = f + 1 := ⟨fu - 1, by omega⟩
    rw [L_X3_numberAt_5, if_neg (nI_ge (by omega) (by omega)), h.1, if_neg (nI_ge (by omega) (by omega)), ldi_n (show k < 120 by omega) (by decide), h.2 k (by omega), lt_s_, lt_s_, nI_1, ih (k + 1) f _ (by omega) (by omega)]
    rfl
theorem ldch_n {β : Type} {w k : Nat} (h : k < lenS.getD w 0) (hl : lenS.getD w 0 < 2 ^ 31) {f : Int32 → Option β} : ldch w (nI k) f = f (chS w k) := by
  unfold ldch
  rw [if_pos (inb_n h hl), nI_clamp (by omega)]
theorem lenS_le : ∀ w, w < 18 → lenS.getD w 0 ≤ 6 := by decide
theorem xWordLoop {b : Nat → Int32} {L p w : Nat} {m : MM} (hw : w < 18) (hL : L ≤ 120) (h : XT b L m) (hp : p + lenS.getD w 0 ≤ L) : ∀ (d i fu : Nat), i + d = lenS.getD w 0 → d < fu → L_X3_isWordAt_23 (nI p) (nI (p + lenS.getD w 0)) w m fu (nI (p + i)) = some (b01 (al (fun i => decide (b (p + i) = chS w i)) i d)) := by
  have hl := lenS_le w hw
  intro d
  induction d with
  | zero =>
    intro i fu hi hf
    obtain ⟨f, rfl⟩ : ∃ f, fu = f + 1 := ⟨fu - 1, by omega⟩
    rw [L_X3_isWordAt_23, show i = lenS.getD w 0 by omega, if_pos (Int32.le_refl _)]
    rfl
  | succ d ih =>
    intro i fu hi hf
    obtain ⟨f, rfl⟩ : ∃ f, fu = f + 1 := ⟨fu - 1, by omega⟩
    have es : nI (p + i) - nI p = nI i := by rw [Nat.add_comm, ← nI_add, Int32.add_sub_cancel]
    rw [L_X3_isWordAt_23, if_neg (nI_ge (by omega) (by omega)), ldi_n (show p + i < 120 by omega) (by decide), h.2 _ (by omega), es, ldch_n (by omega) (by omega), lt_s_, nI_1, show p + i + 1 = p + (i + 1) by omega, ih (i + 1) f (by omega) (by omega)]
    show _ = some (b01 (decide (b (p + i) = chS w i) && al (fun i => decide (b (p + i) = chS w i)) (i + 1) d))
    by_cases q : b (p + i) = chS w i
    · rw [if_pos q, decide_eq_true q, Bool.true_and]
    · rw [if_neg q, decide_eq_false q, Bool.false_and]
      rfl
theorem xWordAt {b : Nat → Int32} {L p e w : Nat} {m : MM} (hw : w < 18) (hL : L ≤ 120) (h : XT b L m) (hp : p ≤ e) (he : e ≤ L) : f_X3_isWordAt (nI p) (nI e) w m = some (b01 (wm b p e w)) := by
  have hl := lenS_le w hw
  unfold f_X3_isWordAt wm
  have es : nI e - nI p = nI (e - p) := pk_sub hp
  rw [es, h.1]
  by_cases q : e = p + lenS.getD w 0
  · rw [if_pos (by rw [q, Nat.add_sub_cancel_left]), if_pos ((le_nn (by omega) (by omega)).mpr he), decide_eq_true q, Bool.true_and]
    subst q
    have := xWordLoop hw hL h he (lenS.getD w 0) 0 FU (by omega) (show lenS.getD w 0 < 4096 by omega)
    rw [Nat.add_zero] at this
    exact this
  · rw [if_neg (fun z => by
      have := (nI_eq (by omega) (by omega)).mp z
      omega), decide_eq_false q, Bool.false_and]
    rfl
theorem spell : ∀ w, w < 17 → f_X1_spelled (nI w) = some w := by decide
theorem xWord {b : Nat → Int32} {L p e : Nat} {m : MM} (hL : L ≤ 120) (h : XT b L m) (hp : p ≤ e) (he : e ≤ L) : f_X1_wordAt (nI p) (nI e) m = some (wcd b p e) := by
  have H : ∀ (d i fu : Nat), i + d = 17 → d < fu → L_X1_wordAt_2 (nI p) (nI e) m fu (nI i) = some (match fd (wm b p e) i d with | some w => nI w | none => 21) := by
    intro d
    induction d with
    | zero =>
      intro i fu hi hf
      obtain ⟨f, rfl⟩ : ∃ f, fu = f + 1 := ⟨fu - 1, by omega⟩
      have e : i = 17 := by omega
      subst e
      rw [L_X1_wordAt_2, if_pos (show (17 : Int32) ≤ nI 17 by decide)]
      rfl
    | succ d ih =>
      intro i fu hi hf
      obtain ⟨f, rfl⟩ : ∃ f, fu = f + 1 := ⟨fu - 1, by omega⟩
      rw [L_X1_wordAt_2, if_neg (ge_n (z := 17) (N := 17) rfl (by decide) (by omega)), spell i (by omega), bdr_s, xWordAt (by omega) hL h hp he, bdr_s, fd]
      cases eb : wm b p e i with
      | true => rw [if_neg (show ¬ b01 true = 0 by decide), if_pos rfl]
      | false =>
        rw [if_pos (show b01 false = 0 by decide), if_neg (by decide), lt_s_, nI_1]
        exact ih (i + 1) f (by omega) (by omega)
  exact H 17 0 FU (by omega) (by decide)
