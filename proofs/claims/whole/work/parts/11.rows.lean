/-! ===== how what a method does is written: numbers, guards, calls, joins ===== -/
/-- the fuel of every loop -/
def FU : Nat := 4096
abbrev inb (i : Int32) (n : Nat) : Prop := ¬ (i < 0 ∨ n ≤ i.toNatClampNeg)
def lt_ {α β : Type} (x : α) (f : α → Option β) : Option β := f x
def gd {β : Type} (c : Prop) [Decidable c] (x : Option β) : Option β := if c then x else none
def ldi {β : Type} (μ : MM) (k n : Nat) (i : Int32) (f : Int32 → Option β) : Option β := if inb i n then f (μ k i.toNatClampNeg) else none
def ldq {β : Type} (n : Nat) (i : Int32) (f : Nat → Option β) : Option β := if inb i n then f i.toNatClampNeg else none
def sti {β : Type} (μ : MM) (k n : Nat) (i x : Int32) (f : MM → Option β) : Option β := if inb i n then f (wst μ k i.toNatClampNeg x) else none
def stz {β : Type} (μ : MM) (k n : Nat) (i x : Int32) (f : MM → Option β) : Option β := if inb i n then f (wst μ k i.toNatClampNeg (vp_nar .boolean x)) else none
def bdr {α β : Type} (x : Option α) (f : α → Option β) : Option β := match x with
  | some r => f r
  | none => none
def bdw {α β : Type} (x : Option (α × MM)) (f : α → MM → Option β) : Option β := match x with
  | some r => f r.1 r.2
  | none => none
def imin (x y : Int32) : Int32 := if y < x then y else x
def imax (x y : Int32) : Int32 := if x < y then y else x
def iabs (x : Int32) : Int32 := if 0 ≤ x then x else 0 - x
def tS (t j : Nat) : Int32 := ((([[-1, -1, 0, 1, 1, 1, 0, -1], [0, 1, 1, 1, 0, -1, -1, -1], [-1, 0, 0, 1, 3, 0, 2]] : List (List Int32)).getD t []).getD j 0)
def lds {β : Type} (t n : Nat) (i : Int32) (f : Int32 → Option β) : Option β := if inb i n then f (tS t i.toNatClampNeg) else none
def acp {β : Type} (μ : MM) (k n k' n' : Nat) (sp dp len : Int32) (f : MM → Option β) : Option β :=
  if ¬ sp < 0 ∧ ¬ dp < 0 ∧ ¬ len < 0 ∧ sp.toNatClampNeg + len.toNatClampNeg ≤ n ∧ dp.toNatClampNeg + len.toNatClampNeg ≤ n' then f (wsr μ k' (va_cpy (μ k) (μ k') sp.toNatClampNeg dp.toNatClampNeg len.toNatClampNeg)) else none
def jn0 {β : Type} (rest : Option β) (body : Option β → Option β) : Option β := body rest
def jn1 {a1 β : Type} (rest : a1 → Option β) (body : (a1 → Option β) → Option β) : Option β := body rest
def jn2 {a1 a2 β : Type} (rest : a1 → a2 → Option β) (body : (a1 → a2 → Option β) → Option β) : Option β := body rest
def jn3 {a1 a2 a3 β : Type} (rest : a1 → a2 → a3 → Option β) (body : (a1 → a2 → a3 → Option β) → Option β) : Option β := body rest
def jn4 {a1 a2 a3 a4 β : Type} (rest : a1 → a2 → a3 → a4 → Option β) (body : (a1 → a2 → a3 → a4 → Option β) → Option β) : Option β := body rest
def jn5 {a1 a2 a3 a4 a5 β : Type} (rest : a1 → a2 → a3 → a4 → a5 → Option β) (body : (a1 → a2 → a3 → a4 → a5 → Option β) → Option β) : Option β := body rest
def jn6 {a1 a2 a3 a4 a5 a6 β : Type} (rest : a1 → a2 → a3 → a4 → a5 → a6 → Option β) (body : (a1 → a2 → a3 → a4 → a5 → a6 → Option β) → Option β) : Option β := body rest
theorem w_jn0 {β : Type} {out : β} {rest body} {P : Prop} (Wj : Prop) (h : jn0 rest body = some out) (kJ : rest = some out → Wj) (kB : ∀ k : Option β, (k = some out → Wj) → body k = some out → P) : P := kB rest kJ h
theorem w_jn1 {a1 β : Type} {out : β} {rest body} {P : Prop} (Wj : a1 → Prop) (h : jn1 rest body = some out) (kJ : ∀ x1, rest x1 = some out → Wj x1) (kB : ∀ k : a1 → Option β, (∀ x1, k x1 = some out → Wj x1) → body k = some out → P) : P := kB rest kJ h
theorem w_jn2 {a1 a2 β : Type} {out : β} {rest body} {P : Prop} (Wj : a1 → a2 → Prop) (h : jn2 rest body = some out) (kJ : ∀ x1 x2, rest x1 x2 = some out → Wj x1 x2) (kB : ∀ k : a1 → a2 → Option β, (∀ x1 x2, k x1 x2 = some out → Wj x1 x2) → body k = some out → P) : P := kB rest kJ h
theorem w_jn3 {a1 a2 a3 β : Type} {out : β} {rest body} {P : Prop} (Wj : a1 → a2 → a3 → Prop) (h : jn3 rest body = some out) (kJ : ∀ x1 x2 x3, rest x1 x2 x3 = some out → Wj x1 x2 x3) (kB : ∀ k : a1 → a2 → a3 → Option β, (∀ x1 x2 x3, k x1 x2 x3 = some out → Wj x1 x2 x3) → body k = some out → P) : P := kB rest kJ h
theorem w_jn4 {a1 a2 a3 a4 β : Type} {out : β} {rest body} {P : Prop} (Wj : a1 → a2 → a3 → a4 → Prop) (h : jn4 rest body = some out) (kJ : ∀ x1 x2 x3 x4, rest x1 x2 x3 x4 = some out → Wj x1 x2 x3 x4) (kB : ∀ k : a1 → a2 → a3 → a4 → Option β, (∀ x1 x2 x3 x4, k x1 x2 x3 x4 = some out → Wj x1 x2 x3 x4) → body k = some out → P) : P := kB rest kJ h
theorem w_jn5 {a1 a2 a3 a4 a5 β : Type} {out : β} {rest body} {P : Prop} (Wj : a1 → a2 → a3 → a4 → a5 → Prop) (h : jn5 rest body = some out) (kJ : ∀ x1 x2 x3 x4 x5, rest x1 x2 x3 x4 x5 = some out → Wj x1 x2 x3 x4 x5) (kB : ∀ k : a1 → a2 → a3 → a4 → a5 → Option β, (∀ x1 x2 x3 x4 x5, k x1 x2 x3 x4 x5 = some out → Wj x1 x2 x3 x4 x5) → body k = some out → P) : P := kB rest kJ h
theorem w_jn6 {a1 a2 a3 a4 a5 a6 β : Type} {out : β} {rest body} {P : Prop} (Wj : a1 → a2 → a3 → a4 → a5 → a6 → Prop) (h : jn6 rest body = some out) (kJ : ∀ x1 x2 x3 x4 x5 x6, rest x1 x2 x3 x4 x5 x6 = some out → Wj x1 x2 x3 x4 x5 x6) (kB : ∀ k : a1 → a2 → a3 → a4 → a5 → a6 → Option β, (∀ x1 x2 x3 x4 x5 x6, k x1 x2 x3 x4 x5 x6 = some out → Wj x1 x2 x3 x4 x5 x6) → body k = some out → P) : P := kB rest kJ h
/-! ===== what the methods stand on beside the world: links among nest mates, texts, static tables ===== -/
def NW (U : State) : Prop := va_Nw (.methodLinkNest RX0 78 yX4_isIn RX4) U ∧ va_Nw (.methodLinkNest RX0 85 yX4_course RX4) U ∧ va_Nw (.methodLinkNest RX0 92 yX4_heading RX4) U ∧ va_Nw (.methodLinkNest RX0 96 yX4_beside RX4) U ∧ va_Nw (.methodLinkNest RX1 120 yX4_isKind RX4) U ∧ va_Nw (.methodLinkNest RX1 161 yX4_isCell RX4) U ∧ va_Nw (.methodLinkNest RX1 168 yX4_isShip RX4) U ∧ va_Nw (.methodLinkNest RX3 19 yX4_isWithin RX4) U
/-- the String constants: class, entry, text, its number -/
def strL : List (String × Nat × String × Nat) := [("NavyOfCats$Reader", 61, "cat", 0), ("NavyOfCats$Reader", 63, "tom", 1), ("NavyOfCats$Reader", 65, "kitten", 2), ("NavyOfCats$Reader", 67, "old", 3), ("NavyOfCats$Reader", 69, "prize", 4), ("NavyOfCats$Reader", 71, "blind", 5), ("NavyOfCats$Reader", 73, "black", 6), ("NavyOfCats$Reader", 75, "island", 7), ("NavyOfCats$Reader", 77, "ship", 8), ("NavyOfCats$Reader", 79, "wind", 9), ("NavyOfCats$Reader", 81, "fish", 10), ("NavyOfCats$Reader", 83, "store", 11), ("NavyOfCats$Reader", 85, "hunger", 12), ("NavyOfCats$Reader", 87, "habit", 13), ("NavyOfCats$Reader", 89, "at", 14), ("NavyOfCats$Reader", 91, "order", 15), ("NavyOfCats$Reader", 93, "aboard", 16), ("NavyOfCats$Reader", 95, "", 17),
  ("NavyOfCatsModel", 33, "cat", 0), ("NavyOfCatsModel", 35, "tom", 1), ("NavyOfCatsModel", 37, "kitten", 2), ("NavyOfCatsModel", 39, "old", 3), ("NavyOfCatsModel", 41, "prize", 4), ("NavyOfCatsModel", 43, "blind", 5), ("NavyOfCatsModel", 45, "black", 6), ("NavyOfCatsModel", 335, "island", 7), ("NavyOfCatsModel", 337, "ship", 8), ("NavyOfCatsModel", 342, "wind", 9), ("NavyOfCatsModel", 344, "fish", 10), ("NavyOfCatsModel", 346, "store", 11), ("NavyOfCatsModel", 330, "hunger", 12), ("NavyOfCatsModel", 301, "habit", 13), ("NavyOfCatsModel", 312, "at", 14), ("NavyOfCatsModel", 317, "order", 15), ("NavyOfCatsModel", 319, "aboard", 16)]
/-- their bytes -/
def bytS : List (List Int32) := [[99, 97, 116], [116, 111, 109], [107, 105, 116, 116, 101, 110], [111, 108, 100], [112, 114, 105, 122, 101], [98, 108, 105, 110, 100], [98, 108, 97, 99, 107], [105, 115, 108, 97, 110, 100], [115, 104, 105, 112], [119, 105, 110, 100], [102, 105, 115, 104], [115, 116, 111, 114, 101], [104, 117, 110, 103, 101, 114], [104, 97, 98, 105, 116], [97, 116], [111, 114, 100, 101, 114], [97, 98, 111, 97, 114, 100], []]
def lenS : List Nat := [3, 3, 6, 3, 5, 5, 5, 6, 4, 4, 4, 5, 6, 5, 2, 5, 6, 0]
/-- the String constants and their bytes, by their numbers -/
def SS (N : Nat) (len : List Nat) (byt : List (List Int32)) (adK adV : Nat → Nat) (A : Nat → Prop) (U : State) (H : Heap) : Prop :=
  ∀ i : Nat, i < N → va_O "java/lang/String" (adK i) A U H ∧ va_OF "java/lang/String" "coder" "B" (.int 0) (adK i) A U H ∧ va_OF "java/lang/String" "value" "[B" (.ref (adV i)) (adK i) A U H ∧ va_T .byte (adV i) (len.getD i 0) (fun j => .int ((byt.getD i []).getD j 0)) A U H
theorem SS.moved {N : Nat} {len : List Nat} {byt : List (List Int32)} {adK adV : Nat → Nat} {A : Nat → Prop} {u U : State} {H : Heap} (hvm : u.vm.Alike U.vm) (h : SS N len byt adK adV A u H) : SS N len byt adK adV A U H :=
  fun i hi => ⟨va_O.moved hvm (h i hi).1, va_OF.moved hvm (h i hi).2.1, va_OF.moved hvm (h i hi).2.2.1, va_T.moved hvm (h i hi).2.2.2⟩
theorem SS.kept {N : Nat} {len : List Nat} {byt : List (List Int32)} {adK adV : Nat → Nat} {A : Nat → Prop} {U : State} {H H1 : Heap} (h : SS N len byt adK adV A U H) (hq : ∀ a : Nat, a < H.size → ¬ A a → H1[a]? = H[a]?) : SS N len byt adK adV A U H1 :=
  fun i hi => ⟨(h i hi).1.kept hq, (h i hi).2.1.kept hq, (h i hi).2.2.1.kept hq, (h i hi).2.2.2.kept hq⟩
theorem SS.narrow {N : Nat} {len : List Nat} {byt : List (List Int32)} {adK adV : Nat → Nat} {A B : Nat → Prop} {U : State} {H : Heap} (h : SS N len byt adK adV A U H) (hAB : ∀ q, B q → A q) : SS N len byt adK adV B U H :=
  fun i hi => ⟨(h i hi).1.narrow hAB, (h i hi).2.1.narrow hAB, (h i hi).2.2.1.narrow hAB, (h i hi).2.2.2.narrow hAB⟩
def RW (G : EN) (U : State) : Prop := ∀ q ∈ strL, vk_R q.1 q.2.1 q.2.2.1 (G.2.1 (100 + q.2.2.2)) U
def KW (G : EN) (U : State) : Prop := va_K G.1 vwCl (tyL G) U ∧ NW U ∧ RW G U
def ZW (G : EN) (A : Nat → Prop) (U : State) (H : Heap) : Prop :=
  (va_Z "NavyOfCats" "ROWS_ON" "[I" (.ref (G.2.2.2 0)) A U H ∧ va_T .int (G.2.2.2 0) 8 (fun j => .int (tS 0 j)) A U H) ∧
  (va_Z "NavyOfCats" "COLUMNS_ON" "[I" (.ref (G.2.2.2 1)) A U H ∧ va_T .int (G.2.2.2 1) 8 (fun j => .int (tS 1 j)) A U H) ∧
  (va_Z "NavyOfCats" "KIND_ABOVE" "[I" (.ref (G.2.2.2 2)) A U H ∧ va_T .int (G.2.2.2 2) 7 (fun j => .int (tS 2 j)) A U H) ∧
  va_Z "java/lang/String" "COMPACT_STRINGS" "Z" (.int 1) A U H ∧ SS 18 lenS bytS (fun i => G.2.1 (100 + i)) (fun i => G.2.1 (200 + i)) A U H ∧ va_Zq "jdk/internal/util/Preconditions" "SIOOBE_FORMATTER" "Ljava/util/function/BiFunction;" A U H
theorem NW.warm {s U : State} (hW : s.WarmedH U.vm) (h : NW s) : NW U := ⟨va_Nw.warmM hW h.1, va_Nw.warmM hW h.2.1, va_Nw.warmM hW h.2.2.1, va_Nw.warmM hW h.2.2.2.1, va_Nw.warmM hW h.2.2.2.2.1, va_Nw.warmM hW h.2.2.2.2.2.1, va_Nw.warmM hW h.2.2.2.2.2.2.1, va_Nw.warmM hW h.2.2.2.2.2.2.2⟩
theorem NW.same {u U : State} (hv : u.vm = U.vm) (h : NW u) : NW U := ⟨va_Nw.same rfl hv h.1, va_Nw.same rfl hv h.2.1, va_Nw.same rfl hv h.2.2.1, va_Nw.same rfl hv h.2.2.2.1, va_Nw.same rfl hv h.2.2.2.2.1, va_Nw.same rfl hv h.2.2.2.2.2.1, va_Nw.same rfl hv h.2.2.2.2.2.2.1, va_Nw.same rfl hv h.2.2.2.2.2.2.2⟩
theorem KW.warm {G : EN} {s U : State} (hW : s.WarmedH U.vm) (h : KW G s) : KW G U := ⟨va_K.moved hW.alike h.1, h.2.1.warm hW, fun q hq => vk_R.warm hW (h.2.2 q hq)⟩
theorem KW.same {G : EN} {u U : State} (ha : u.vm.Alike U.vm) (hv : u.vm = U.vm) (h : KW G u) : KW G U := ⟨va_K.moved ha h.1, h.2.1.same hv, fun q hq => vk_R.same hv.symm (h.2.2 q hq)⟩
theorem ZW.moved {G : EN} {A : Nat → Prop} {u U : State} {H : Heap} (hv : u.vm.Alike U.vm) (h : ZW G A u H) : ZW G A U H := ⟨⟨va_Z.moved hv h.1.1, va_T.moved hv h.1.2⟩, ⟨va_Z.moved hv h.2.1.1, va_T.moved hv h.2.1.2⟩, ⟨va_Z.moved hv h.2.2.1.1, va_T.moved hv h.2.2.1.2⟩, va_Z.moved hv h.2.2.2.1, SS.moved hv h.2.2.2.2.1, va_Zq.moved hv h.2.2.2.2.2⟩
theorem ZW.kept {G : EN} {A : Nat → Prop} {U : State} {H H1 : Heap} (hq : ∀ a : Nat, a < H.size → ¬ A a → H1[a]? = H[a]?) (h : ZW G A U H) : ZW G A U H1 := ⟨⟨va_Z.kept h.1.1 hq, va_T.kept h.1.2 hq⟩, ⟨va_Z.kept h.2.1.1 hq, va_T.kept h.2.1.2 hq⟩, ⟨va_Z.kept h.2.2.1.1 hq, va_T.kept h.2.2.1.2 hq⟩, va_Z.kept h.2.2.2.1 hq, SS.kept h.2.2.2.2.1 hq, va_Zq.kept h.2.2.2.2.2 hq⟩
theorem ZW.narrow {G : EN} {A B : Nat → Prop} {U : State} {H : Heap} (hq : ∀ q, B q → A q) (h : ZW G A U H) : ZW G B U H := ⟨⟨va_Z.narrow h.1.1 hq, va_T.narrow h.1.2 hq⟩, ⟨va_Z.narrow h.2.1.1 hq, va_T.narrow h.2.1.2 hq⟩, ⟨va_Z.narrow h.2.2.1.1 hq, va_T.narrow h.2.2.1.2 hq⟩, va_Z.narrow h.2.2.2.1 hq, SS.narrow h.2.2.2.2.1 hq, va_Zq.narrow h.2.2.2.2.2 hq⟩
/-- a method's start -/
def XPre (G : EN) (μ : MM) (U : State) : Prop := va_P G.1 vwCl (wA G μ) U.heap ∧ va_D (fun _ => True) (wA G μ) ∧ KW G U ∧ ZW G (AA G U.heap.size) U U.heap
/-- within a method -/
def XW (G : EN) (A : Nat → Prop) (s : State) (H : Heap) (locs : List Loc) (μ : MM) : Prop :=
  va_P G.1 vwCl (wA G μ) H ∧ va_D A (wA G μ) ∧ va_S A s.heap H locs ∧ KW G s ∧ ZW G A s s.heap ∧ ∀ q : Nat, s.heap.size ≤ q → A q
theorem XW.free {G : EN} {A : Nat → Prop} {s : State} {H : Heap} {locs : List Loc} {μ : MM} (h : XW G A s H locs μ) : ∀ q, AA G H.size q → A q := fun q hq => by
  rcases hq with ⟨k, hk, rfl⟩ | hq
  · have := h.2.1.2 k _ (wA_get G μ hk)
    rwa [celA] at this
  · exact h.2.2.2.2.2 q (Nat.le_trans h.2.2.1.1 hq)
theorem XW.pre {G : EN} {A : Nat → Prop} {s : State} {H : Heap} {locs : List Loc} {μ : MM} (h : XW G A s H locs μ) {U : State} (hU : U.heap = H) (hW : s.WarmedH U.vm) : XPre G μ U := by
  refine ⟨by rw [hU]; exact h.1, h.2.1.weaken (fun _ _ _ _ => trivial), h.2.2.2.1.warm hW, ?_⟩
  rw [hU]
  exact ((h.2.2.2.2.1.moved hW.alike).kept h.2.2.1.2.1).narrow h.free
/-- what a method's end is: the answer v, the memory μ -/
def XQ (G : EN) (sz : Nat) (v : Option Value) (μ : MM) : Array Value → State → Outcome → State → Prop := fun _ st oc t => oc = .returned v ∧ va_P G.1 vwCl (wA G μ) t.heap ∧ va_F (AA G sz) st t
/-- a method's contract: from the memory μ it comes to its end with v and the memory μ' -/
def XM (l : Launch) (G : EN) (y : MethodName) (cc : ByteArray) (n : Nat) (ret : Option FieldType) (fr lo : Nat) (av : List Value) (μ : MM) (v : Option Value) (μ' : MM) : Prop :=
  ∀ sz : Nat, Met l y (Cond.code y cc n ret :: TT) { frames := fr, cells := 0, slots := 0, locals := lo } (va_Pc av (fun U => U.heap.size = sz ∧ XPre G μ U)) (XQ G sz v μ') 0 0 (AA G sz)
theorem XM.blind (G : EN) (μ : MM) (av : List Value) (sz : Nat) : FrameBlind (va_Pc av (fun U => U.heap.size = sz ∧ XPre G μ U)) := fun a U g mk h => ⟨h.1, h.2.1, h.2.2.1, h.2.2.2.1, KW.same (u := U) (U := U.calling g mk a) (Vm.Alike.refl U.vm) rfl h.2.2.2.2.1, ZW.moved (u := U) (U := U.calling g mk a) (Vm.Alike.refl U.vm) h.2.2.2.2.2⟩
/-! ===== the machine within a method, its fixed parts in one ===== -/
abbrev Ctx : Type := Program × Launch × Env × Room × State × MethodId × Array Value × List Frame × Method × Code × (State → Prop)
abbrev gp (Γ : Ctx) : Program := Γ.1
abbrev gl (Γ : Ctx) : Launch := Γ.2.1
abbrev ge (Γ : Ctx) : Env := Γ.2.2.1
abbrev gR (Γ : Ctx) : Room := Γ.2.2.2.1
abbrev gs (Γ : Ctx) : State := Γ.2.2.2.2.1
abbrev gm (Γ : Ctx) : MethodId := Γ.2.2.2.2.2.1
abbrev ga (Γ : Ctx) : Array Value := Γ.2.2.2.2.2.2.1
abbrev gb (Γ : Ctx) : List Frame := Γ.2.2.2.2.2.2.2.1
abbrev gt (Γ : Ctx) : Method := Γ.2.2.2.2.2.2.2.2.1
abbrev gc (Γ : Ctx) : Code := Γ.2.2.2.2.2.2.2.2.2.1
abbrev gq (Γ : Ctx) : State → Prop := Γ.2.2.2.2.2.2.2.2.2.2
def WX (Γ : Ctx) (H : Heap) (locs : List Loc) (pc : Nat) (ls : Array Slot) (st : List Value) : Prop := W (gp Γ) (gl Γ) (ge Γ) (gR Γ) (gs Γ) (gm Γ) (ga Γ) (gb Γ) (gt Γ) (gc Γ) H locs 0 0 (gq Γ) (F0 (gm Γ) pc ls st)
def Cx (Γ : Ctx) (cc : ByteArray) (nL : Nat) (own : String) (fr lo : Nat) : Prop := CallFix (gp Γ) (gm Γ) (gc Γ) cc nL (gs Γ) (ga Γ) TT own ∧ (gt Γ).locks = false ∧ (gR Γ).frames = fr ∧ (gR Γ).locals = lo
/-- where a method of this contract must come to -/
def RT (Γ : Ctx) (G : EN) (A : Nat → Prop) (v : Option Value) (μ' : MM) : Prop := gq Γ = MQ (gb Γ) (XQ G (gs Γ).heap.size v μ') (ga Γ) (gs Γ) 0 0 (AA G (gs Γ).heap.size) ∧ A = AA G (gs Γ).heap.size
theorem Cx.w {Γ : Ctx} {cc : ByteArray} {nL : Nat} {own : String} {fr lo : Nat} (C : Cx Γ cc nL own fr lo) {w : Cond} (h : w ∈ TT) : w.before (ga Γ) (gs Γ) = true := C.1.2.2.2.2 w h
set_option maxHeartbeats 4000000 in
theorem x_met {l : Launch} {G : EN} {y : MethodName} {cc : ByteArray} {n : Nat} {ret : Option FieldType} {fr lo : Nat} {av : List Value} {μ : MM} {v : Option Value} {μ' : MM} {own : String} (hy : plainFor y = true) (ho : y.cls = own) (hlen : (lg_sl av).length ≤ n)
    (body : ∀ (Γ : Ctx) (A : Nat → Prop) (H : Heap) (ls : Array Slot), gl Γ = l → Cx Γ cc n own fr lo → (gt Γ).sig.returnType = ret → XW G A (gs Γ) H [] μ → RT Γ G A v μ' → lv_has ls n (lv_args 0 av) → WX Γ H [] 0 ls []) : XM l G y cc n ret fr lo av μ v μ' := by
  intro sz
  refine va_MetF (cc := cc) (maxL := n) (ret := ret) hy rfl ?_
  intro p e s m args below meth c s₁ B hml hv
  obtain ⟨rfl, hsz, hP, hD, hK, hZ⟩ := hv
  subst hsz
  have hts := atoms_spec (ws := Cond.code y cc n ret :: TT) B.pre
  have hown : s.vm.findClass own = some m.cls := by rw [← ho]; exact findClass_of_methodNamed B.named
  rw [lg_entry_eq]
  have hD2 : va_D (AA G s.heap.size) (wA G μ) := ⟨hD.1, fun k q hk => by
    obtain ⟨h1, rfl⟩ := wA_inv hk
    exact Or.inl ⟨k, h1, celA G k _⟩⟩
  exact body (p, l, e, _, s, m, _, below, meth, c, _) (AA G s.heap.size) s.heap _ rfl ⟨⟨B.exec, B.bytes, hml, hown, fun w hw => hts w (List.mem_cons_of_mem _ hw)⟩, B.notSynchronized, rfl, rfl⟩ B.returns ⟨hP, hD2, va_S.rf, hK, hZ, fun q h => Or.inr h⟩ ⟨rfl, rfl⟩ (lv_entry av hlen)
