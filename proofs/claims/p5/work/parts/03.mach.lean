noncomputable section
-- ===== THE MACHINE AS A FUNCTION: bytecode, row by row, is tied to a pure function over a world of numbered cells =====
/-- a cell: an array (its kind, its elements) or an object (its number in vwCl, its fields); references are numbers of cells -/
abbrev sC : Type := (Nat × List Value) ⊕ (Nat × List Value)
abbrev sW : Type := List sC
/-- locals, stack, cells, how many cells and slots have come -/
abbrev sS : Type := List (Nat × Value) × List Value × sW × Nat × Nat
abbrev sR : Type := Option Value × sW × Nat × Nat
abbrev sK : Type := Nat → sS → Option sR
abbrev sA : Type := sK → sS → Option sR
/-- lists by their recursors: what the kernel runs fast -/
def xg {α : Type} (l : List α) : Nat → Option α := List.rec (motive := fun _ => Nat → Option α) (fun _ => none) (fun a _ ih i => Nat.rec (motive := fun _ => Option α) (some a) (fun j _ => ih j) i) l
def xs {α : Type} (l : List α) : Nat → α → List α := List.rec (motive := fun _ => Nat → α → List α) (fun _ _ => []) (fun a t ih i v => Nat.rec (motive := fun _ => List α) (v :: t) (fun j _ => a :: ih j v) i) l
def xa {α : Type} (p : α → Bool) (l : List α) : Bool := List.rec (motive := fun _ => Bool) true (fun a _ ih => match p a with
  | true => ih
  | false => false) l
def xl {α : Type} (l : List α) : Nat := List.rec (motive := fun _ => Nat) 0 (fun _ _ ih => Nat.add ih 1) l
theorem xg_eq {α : Type} (l : List α) : ∀ i, xg l i = l[i]? := by
  induction l with
  | nil => intro i; exact (List.getElem?_nil).symm
  | cons a t ih =>
    intro i
    cases i with
    | zero => rfl
    | succ j => exact (ih j).trans (by simp)
theorem xs_eq {α : Type} (l : List α) : ∀ i v, xs l i v = l.set i v := by
  induction l with
  | nil => intro i v; rfl
  | cons a t ih =>
    intro i v
    cases i with
    | zero => rfl
    | succ j => exact congrArg (List.cons a) (ih j v)
theorem xa_eq {α : Type} (p : α → Bool) (l : List α) : xa p l = l.all p := by
  induction l with
  | nil => rfl
  | cons a t ih =>
    show (match p a with
      | true => xa p t
      | false => false) = _
    rw [List.all_cons, ih]
    cases p a <;> rfl
theorem xl_eq {α : Type} (l : List α) : xl l = l.length := by
  induction l with
  | nil => rfl
  | cons a t ih => exact congrArg (· + 1) ih
/-- a place in an array: not below 0, as a number -/
def ixN (i : Int32) : Nat := i.toBitVec.toNat
theorem ixN_ok {i : Int32} (h : ixN i < 2147483648) : ¬ i < 0 ∧ i.toNatClampNeg = ixN i := by
  have e : i.toInt = (ixN i : Int) := by
    show i.toBitVec.toInt = _
    rw [BitVec.toInt_eq_toNat_of_lt (by unfold ixN at h; omega)]
    rfl
  constructor
  · rw [Int32.lt_iff_toInt_lt, e, show (0 : Int32).toInt = 0 from rfl]
    omega
  · show i.toInt.toNat = _
    rw [e]
    exact Int.toNat_natCast _
theorem ixN_in {α : Type} {i : Int32} {vs : List α} {v : α} (h : ixN i < 2147483648) (hv : xg vs (ixN i) = some v) : vp_in i vs.length ∧ i.toNatClampNeg < vs.length ∧ vs[i.toNatClampNeg]? = some v := by
  obtain ⟨h1, h2⟩ := ixN_ok h
  rw [xg_eq] at hv
  have h3 := (List.getElem?_eq_some_iff.mp hv).1
  rw [h2]
  refine ⟨?_, h3, hv⟩
  intro z
  rcases z with z | z
  · exact h1 z
  · rw [h2] at z
    omega
/-- comparisons by numbers -/
def sN (x : Int32) : Nat := Nat.mod (Nat.add x.toBitVec.toNat 2147483648) 4294967296
theorem sN_eq (x : Int32) : sN x = (x.toBitVec.toNat + 2147483648) % 4294967296 := rfl
theorem sN_int (x : Int32) : (sN x : Int) = x.toInt + 2147483648 := by
  have h : x.toInt = x.toBitVec.toInt := rfl
  have hb := x.toBitVec.isLt
  rw [h, BitVec.toInt_eq_toNat_cond, sN_eq]
  split <;> omega
def b_eq (x y : Int32) : Bool := Nat.beq (ixN x) (ixN y)
def b_ne (x y : Int32) : Bool := match Nat.beq (ixN x) (ixN y) with
  | true => false
  | false => true
def b_lt (x y : Int32) : Bool := Nat.blt (sN x) (sN y)
def b_ge (x y : Int32) : Bool := Nat.ble (sN y) (sN x)
def b_gt (x y : Int32) : Bool := Nat.blt (sN y) (sN x)
def b_le (x y : Int32) : Bool := Nat.ble (sN x) (sN y)
theorem ixN_inj {x y : Int32} (h : ixN x = ixN y) : x = y := by
  apply Int32.toBitVec_inj.mp
  exact BitVec.eq_of_toNat_eq h
theorem b_eq_d (x y : Int32) : b_eq x y = decide (x = y) := by
  rw [Bool.eq_iff_iff, decide_eq_true_eq]
  show Nat.beq _ _ = true ↔ _
  rw [Nat.beq_eq]
  exact ⟨ixN_inj, fun h => by rw [h]⟩
theorem b_ne_d (x y : Int32) : b_ne x y = decide (¬ x = y) := by
  have h := b_eq_d x y
  unfold b_eq at h
  unfold b_ne
  rw [h]
  by_cases e : x = y <;> simp [e]
theorem b_lt_d (x y : Int32) : b_lt x y = decide (x < y) := by
  rw [Bool.eq_iff_iff, decide_eq_true_eq, Int32.lt_iff_toInt_lt]
  show Nat.blt _ _ = true ↔ _
  rw [Nat.blt_eq]
  have h1 := sN_int x
  have h2 := sN_int y
  omega
theorem b_ge_d (x y : Int32) : b_ge x y = decide (y ≤ x) := by
  rw [Bool.eq_iff_iff, decide_eq_true_eq, Int32.le_iff_toInt_le]
  show Nat.ble _ _ = true ↔ _
  rw [Nat.ble_eq]
  have h1 := sN_int x
  have h2 := sN_int y
  omega
theorem b_gt_d (x y : Int32) : b_gt x y = decide (y < x) := b_lt_d y x
theorem b_le_d (x y : Int32) : b_le x y = decide (x ≤ y) := b_ge_d y x
/-- array kinds: 0 byte, 1 int, 2 long, 3 boolean, 4 Plan, 5 Sentence, 6 State -/
abbrev mT (cy : Nat → ClassId) : List (ClassId × FieldType) := [(cy 0, .byte), (cy 1, .int), (cy 2, .long), (cy 3, .boolean), (cy 4, .object RX6), (cy 5, .object RX7), (cy 6, .object RX8)]
/-- an int that isn't known: '.float u' stands for it -/
def vi (ρ : Nat → Nat) (u : UInt32) : Int32 := Int32.ofNat (ρ (2000000 + u.toNat))
def dv (ρ : Nat → Nat) (v : Value) : Value := match v with
  | .ref k => .ref (ρ k)
  | .float u => .int (vi ρ u)
  | v => v
/-- what is known of ints that aren't known: which comparison, which one, with what: so or not; and the script -/
abbrev sKn : Type := (Nat → UInt32 → Int32 → Option Bool) × List Value
def bsem (t : Nat) (x y : Int32) : Bool := match t with
  | 0 => b_eq x y
  | 1 => b_ne x y
  | 2 => b_lt x y
  | 3 => b_ge x y
  | 4 => b_gt x y
  | 5 => b_le x y
  | 10 => b_eq y x
  | 11 => b_ne y x
  | 12 => b_lt y x
  | 13 => b_ge y x
  | 14 => b_gt y x
  | 15 => b_le y x
  | _ => false
/-- ints that are made of such ints: which operation (0: >>>, 1: &), of which one, with what: the number of what it gives -/
def kd (t : Nat) (u : UInt32) (y : Int32) : Option UInt32 := match t with
  | 0 => match Nat.blt u.toNat 90, Nat.blt y.toUInt32.toNat 32 with
    | true, true => some (UInt32.ofNat (100 + 100 * u.toNat + y.toUInt32.toNat))
    | _, _ => none
  | _ => match Nat.blt u.toNat 10000 with
    | true => match Nat.beq y.toUInt32.toNat 255 with
      | true => some (UInt32.ofNat (10000 + u.toNat))
      | false => match Nat.beq y.toUInt32.toNat 63 with
        | true => some (UInt32.ofNat (20000 + u.toNat))
        | false => none
    | false => none
def osem (t : Nat) (x y : Int32) : Int32 := match t with
  | 0 => (x.toUInt32 >>> (y.toUInt32 &&& Int32.toUInt32 31)).toInt32
  | _ => x &&& y
def kdOk (ρ : Nat → Nat) : Prop := ∀ (t : Nat) (u : UInt32) (y : Int32) (u' : UInt32), kd t u y = some u' → vi ρ u' = osem t (vi ρ u) y
def knOk (kn : sKn) (ρ : Nat → Nat) : Prop := (∀ (t : Nat) (u : UInt32) (y : Int32) (b : Bool), kn.1 t u y = some b → bsem t (vi ρ u) y = b) ∧ kdOk ρ
def di (ρ : Nat → Nat) (v : Value) : Int32 := match v with
  | .int x => x
  | .float u => vi ρ u
  | _ => 0
def dl (v : Value) : Int64 := match v with
  | .long x => x
  | _ => 0
def dr (ρ : Nat → Nat) (v : Value) : Option Nat := match v with
  | .ref k => some (ρ k)
  | _ => none
def dA (ρ : Nat → Nat) (cy : Nat → ClassId) (t : Nat) (vs : List Value) : ClassId × vp_A := (cy t, vs.length, match t with
  | 2 => .inr (.inl (fun j => dl (vs.getD j .null)))
  | 0 => .inl (fun j => di ρ (vs.getD j .null))
  | 1 => .inl (fun j => di ρ (vs.getD j .null))
  | 3 => .inl (fun j => di ρ (vs.getD j .null))
  | _ => .inr (.inr (.inr (.inr (fun j => dr ρ (vs.getD j .null))))))
def dE (ρ : Nat → Nat) (cy : Nat → ClassId) (x : sC) : va_E := match x with
  | .inl a => .inl (dA ρ cy a.1 a.2)
  | .inr o => .inr (o.1, o.2.map (dv ρ))
def dW (ρ : Nat → Nat) (cy : Nat → ClassId) (w : sW) : va_W := w.mapIdx (fun k x => (ρ k, dE ρ cy x))
def dL (ρ : Nat → Nat) (lv : List (Nat × Value)) : List (Nat × Value) := lv.map (fun q => (q.1, dv ρ q.2))
theorem dv_cat (ρ : Nat → Nat) (v : Value) : (dv ρ v).category = v.category := by cases v <;> rfl
theorem dW_get {ρ : Nat → Nat} {cy : Nat → ClassId} {w : sW} {k : Nat} {x : sC} (h : w[k]? = some x) : (dW ρ cy w)[k]? = some (ρ k, dE ρ cy x) := by
  simp [dW, h]
theorem dW_set {ρ : Nat → Nat} {cy : Nat → ClassId} {w : sW} {k : Nat} {x : sC} : dW ρ cy (w.set k x) = (dW ρ cy w).set k (ρ k, dE ρ cy x) := by
  simp [dW, List.mapIdx_set]
/-- two namings of the cells agree on the first n, and on the statics' arrays (numbers from 1000000 on) -/
def ag (n : Nat) (ρ ρ0 : Nat → Nat) : Prop := ∀ k, (k < n ∨ 1000000 ≤ k) → ρ k = ρ0 k
/-- what the static arrays hold -/
def stV (h : Nat) : List Int32 := match h with
  | 1000000 => [0, 11, 15, 15, 14, 15, 15, 15, 7, 15, 15, 15, 15, 15, 15, 15]
  | 1000001 => [7, 3, 5, 1, 6, 2, 4, 0]
  | _ => []
/-- the statics: what they hold, and that nobody writes them -/
def sE (kn : sKn) (ρ : Nat → Nat) (A : Nat → Prop) (U : State) (H : Heap) : Prop := ∃ xs : Nat → Int32, va_X (ρ 1000010) kn.2.length xs U H ∧ ρ 1000010 < H.size ∧ ¬ A (ρ 1000010) ∧ ∀ (j : Nat) (v : Value), kn.2[j]? = some v → dv ρ v = .int (xs j)
/-- the text of the WORDS that are no NAMES -/
def keyT : String := "rows    signer  forger  heir    lovers  plank   load    keeps   signs   breaks  holds   dies    burns   crosses day     or      and     not     dead    forged  loves   follows on      earnest planks  miles   number  "
def keyB : List Int32 := [114, 111, 119, 115, 32, 32, 32, 32, 115, 105, 103, 110, 101, 114, 32, 32, 102, 111, 114, 103, 101, 114, 32, 32, 104, 101, 105, 114, 32, 32, 32, 32, 108, 111, 118, 101, 114, 115, 32, 32, 112, 108, 97, 110, 107, 32, 32, 32, 108, 111, 97, 100, 32, 32, 32, 32, 107, 101, 101, 112, 115, 32, 32, 32, 115, 105, 103, 110, 115, 32, 32, 32, 98, 114, 101, 97, 107, 115, 32, 32, 104, 111, 108, 100, 115, 32, 32, 32, 100, 105, 101, 115, 32, 32, 32, 32, 98, 117, 114, 110, 115, 32, 32, 32, 99, 114, 111, 115, 115, 101, 115, 32, 100, 97, 121, 32, 32, 32, 32, 32, 111, 114, 32, 32, 32, 32, 32, 32, 97, 110, 100, 32, 32, 32, 32, 32, 110, 111, 116, 32, 32, 32, 32, 32, 100, 101, 97, 100, 32, 32, 32, 32, 102, 111, 114, 103, 101, 100, 32, 32, 108, 111, 118, 101, 115, 32, 32, 32, 102, 111, 108, 108, 111, 119, 115, 32, 111, 110, 32, 32, 32, 32, 32, 32, 101, 97, 114, 110, 101, 115, 116, 32, 112, 108, 97, 110, 107, 115, 32, 32, 109, 105, 108, 101, 115, 32, 32, 32, 110, 117, 109, 98, 101, 114, 32, 32]
/-- SIOOBE_FORMATTER may be null: then that is known under a number that says nothing else -/
def siV (kn : sKn) : Value := match kn.1 77 0 0 with
  | some false => .null
  | _ => .ref 1000006
theorem siV_or (kn : sKn) : siV kn = .null ∨ siV kn = .ref 1000006 := by
  unfold siV
  split
  · exact Or.inl rfl
  · exact Or.inr rfl
theorem siV_ag {ρ ρ' : Nat → Nat} (kn : sKn) (h : ρ' 1000006 = ρ 1000006) : dv ρ' (siV kn) = dv ρ (siV kn) := by
  rcases siV_or kn with e | e
  · rw [e]
    rfl
  · rw [e]
    show Value.ref (ρ' 1000006) = Value.ref (ρ 1000006)
    rw [h]
def mE (kn : sKn) (ρ : Nat → Nat) (A : Nat → Prop) (U : State) (H : Heap) : Prop :=
  va_Z "SignedBridge" "OPEN" "[I" (.ref (ρ 1000000)) A U H ∧ va_T .int (ρ 1000000) 16 (fun j => .int ((stV 1000000).getD j 0)) A U H ∧ va_Z "SignedBridge$Cut" "SETS" "[I" (.ref (ρ 1000001)) A U H ∧ va_T .int (ρ 1000001) 8 (fun j => .int ((stV 1000001).getD j 0)) A U H ∧ va_Z "java/lang/String" "COMPACT_STRINGS" "Z" (.int 1) A U H ∧ sE kn ρ A U H ∧ vx_Zq Bundle.tN "UNASSIGNED_STACK" Bundle.steD A U H ∧ vx_Zq Bundle.tN "SUPPRESSED_SENTINEL" Bundle.listD A U H ∧ vk_S 1 [3] [[103, 97, 112]] (fun _ => ρ 1000002) (fun _ => ρ 1000003) A U H ∧ vk_S 1 [216] [keyB] (fun _ => ρ 1000004) (fun _ => ρ 1000005) A U H ∧ va_Z "jdk/internal/util/Preconditions" "SIOOBE_FORMATTER" "Ljava/util/function/BiFunction;" (dv ρ (siV kn)) A U H
/-- nest mates' links: private constructors, the private table -/
def nestM : List (Nat × MethodName) := [(9, yX9_init), (18, yX2_init), (39, yX7_init), (49, yX1_init), (56, yX10_init), (70, yX3_init), (77, yX5_init), (84, yX4_init)]
def nestF : List (String × Nat) := [(RX10, 75), (RX0, 104), (RX3, 87), (RX5, 105)]
def nseD : List MethodName := [⟨"java/lang/RuntimeException", "<init>", "()V"⟩, ⟨"java/lang/Exception", "<init>", "()V"⟩, ⟨"java/lang/Throwable", "<init>", "()V"⟩]
def privS : List MethodName := [yJ5_ensureCapacityInternal_d00df, yJ5_putStringAt_47b60, yJ5_inflateIfNeededFor_a7421]
def mN (a b : Nat) (U : State) : Prop := (∀ q ∈ nestM, va_Nw (.methodLinkNest RX11 q.1 q.2 "SignedBridge") U) ∧ (∀ q ∈ nestF, va_Nw (.fieldLinkNest q.1 q.2 "SignedBridge" "OPEN" "[I" "SignedBridge") U) ∧ va_Nw (.castable "java/util/NoSuchElementException" "java/util/NoSuchElementException") U ∧ (∀ q ∈ nseD, va_Nw (.declares q) U) ∧ (∀ q ∈ privS, va_Nw (.selects RJ4 q q) U) ∧ vk_R "SignedBridge" 350 "gap" a U ∧ vk_R "SignedBridge$Tokens" 70 keyT b U
theorem mN_warm {a b : Nat} {s U : State} (hW : s.WarmedH U.vm) (h : mN a b s) : mN a b U := ⟨fun q hq => (h.1 q hq).warmM hW, fun q hq => (h.2.1 q hq).warmF hW, h.2.2.1.warmC hW, fun q hq => (h.2.2.2.1 q hq).warmD hW, fun q hq => word_at hW (Or.inl rfl) (h.2.2.2.2.1 q hq), h.2.2.2.2.2.1.warm hW, h.2.2.2.2.2.2.warm hW⟩
theorem mN_same {a b : Nat} {u U : State} (hv : u.vm = U.vm) (h : mN a b u) : mN a b U := ⟨fun q hq => (h.1 q hq).same rfl hv, fun q hq => (h.2.1 q hq).same rfl hv, h.2.2.1.same rfl hv, fun q hq => (h.2.2.2.1 q hq).same rfl hv, fun q hq => (h.2.2.2.2.1 q hq).same rfl hv, h.2.2.2.2.2.1.same hv.symm, h.2.2.2.2.2.2.same hv.symm⟩
def mK (kn : sKn) (dC : Nat → ClassId) (dI : Nat → Nat → Nat) (cy : Nat → ClassId) (ρ : Nat → Nat) (A : Nat → Prop) (U : State) (H : Heap) : Prop := va_K (dC, dI) vwCl (mT cy) U ∧ ((va_AO RX6 U ∧ va_AO RX7 U ∧ va_AO RX8 U) ∧ mN (ρ 1000002) (ρ 1000004) U ∧ knOk kn ρ) ∧ mE kn ρ A U H
theorem vi_ag {ρ ρ' : Nat → Nat} (hρ : ∀ k, 1000000 ≤ k → ρ' k = ρ k) (u : UInt32) : vi ρ' u = vi ρ u := by
  unfold vi
  rw [hρ _ (by omega)]
theorem dv_ags {ρ ρ' : Nat → Nat} (hρ : ∀ k, 1000000 ≤ k → ρ' k = ρ k) {v : Value} {x : Int32} (h : dv ρ v = .int x) : dv ρ' v = .int x := by
  cases v with
  | int y => exact h
  | float u =>
    have h : Value.int (vi ρ u) = .int x := h
    show Value.int (vi ρ' u) = .int x
    rw [vi_ag hρ]
    exact h
  | ref k => cases h
  | long y => cases h
  | double y => cases h
  | null => cases h
  | retAddr y => cases h
theorem sE_move {kn : sKn} {ρ ρ' : Nat → Nat} {A A1 : Nat → Prop} {s U : State} {H0 H : Heap} (h : sE kn ρ A s H0) (hvm : s.vm.Alike U.vm) (hA : ∀ q, A1 q → A q) (hH : ∀ q : Nat, q < H0.size → ¬ A q → H[q]? = H0[q]?) (hρ : ∀ k, 1000000 ≤ k → ρ' k = ρ k) : sE kn ρ' A1 U H := by
  obtain ⟨xs, ⟨scr, h1, h2, h3⟩, h4, h5, h6⟩ := h
  have e1 : H[ρ 1000010]? = some scr := by rw [hH _ h4 h5]; exact h1
  refine ⟨xs, ?_, ?_, ?_, fun j v hv => dv_ags hρ (h6 j v hv)⟩
  · rw [hρ 1000010 (by decide)]
    exact ⟨scr, e1, State.isArrayOf_alike hvm h2, h3⟩
  · rw [hρ 1000010 (by decide)]
    exact (Array.getElem?_eq_some_iff.mp e1).1
  · rw [hρ 1000010 (by decide)]
    exact fun z => h5 (hA _ z)
theorem mE_move {kn : sKn} {ρ ρ' : Nat → Nat} {A A1 : Nat → Prop} {s U : State} {H0 H : Heap} (h : mE kn ρ A s H0) (hvm : s.vm.Alike U.vm) (hA : ∀ q, A1 q → A q) (hH : ∀ q : Nat, q < H0.size → ¬ A q → H[q]? = H0[q]?) (hρ : ∀ k, 1000000 ≤ k → ρ' k = ρ k) : mE kn ρ' A1 U H := by
  obtain ⟨h1, h2, h3, h4, h5, h6, h7, h8, h9, h10, h11⟩ := h
  unfold mE
  rw [hρ 1000000 (by decide), hρ 1000001 (by decide), hρ 1000002 (by decide), hρ 1000003 (by decide), hρ 1000004 (by decide), hρ 1000005 (by decide), siV_ag kn (hρ 1000006 (by decide))]
  exact ⟨((h1.moved hvm).kept hH).narrow hA, ((h2.moved hvm).kept hH).narrow hA, ((h3.moved hvm).kept hH).narrow hA, ((h4.moved hvm).kept hH).narrow hA, ((h5.moved hvm).kept hH).narrow hA, sE_move h6 hvm hA hH hρ, ((h7.moved hvm).kept hH).narrow hA, ((h8.moved hvm).kept hH).narrow hA, ((h9.moved hvm).kept hH).narrow hA, ((h10.moved hvm).kept hH).narrow hA, ((h11.moved hvm).kept hH).narrow hA⟩
theorem mK_move {kn : sKn} {dC : Nat → ClassId} {dI : Nat → Nat → Nat} {cy : Nat → ClassId} {ρ ρ' : Nat → Nat} {A A1 : Nat → Prop} {s U : State} {H0 H : Heap} (h : mK kn dC dI cy ρ A s H0) (hvm : s.vm.Alike U.vm) (hN : mN (ρ 1000002) (ρ 1000004) s → mN (ρ 1000002) (ρ 1000004) U) (hA : ∀ q, A1 q → A q) (hH : ∀ q : Nat, q < H0.size → ¬ A q → H[q]? = H0[q]?) (hρ : ∀ k, 1000000 ≤ k → ρ' k = ρ k) : mK kn dC dI cy ρ' A1 U H :=
  ⟨va_K.moved hvm h.1, ⟨⟨h.2.1.1.1.moved hvm, h.2.1.1.2.1.moved hvm, h.2.1.1.2.2.moved hvm⟩, by rw [hρ 1000002 (by decide), hρ 1000004 (by decide)]; exact hN h.2.1.2.1, ⟨fun t u y b hb => by rw [vi_ag hρ]; exact h.2.1.2.2.1 t u y b hb, fun t u y u' hb => by rw [vi_ag hρ, vi_ag hρ]; exact h.2.1.2.2.2 t u y u' hb⟩⟩, mE_move h.2.2 hvm hA hH hρ⟩
/-- what is known of the frame, and of the method that it runs -/
def mX (kn : sKn) (p : Program) (l : Launch) (e : Env) (R : Room) (s : State) (m : MethodId) (args : Array Value) (below : List Frame) (meth : Method) (c : Code) (dC : Nat → ClassId) (dI : Nat → Nat → Nat) (cy : Nat → ClassId) (A : Nat → Prop) (ρ0 : Nat → Nat) (n0 : Nat) (Qc : Array Value → State → Outcome → State → Prop) (Q : State → Prop) (cc : ByteArray) (own : String) (nL : Nat) (Ts : List Cond) (D : Nat) (ret : Option FieldType) (ini : Bool) (r : sR) : Prop :=
  CallFix p m c cc nL s args Ts own ∧ meth.sig.returnType = ret ∧ meth.locks = false ∧ mK kn dC dI cy ρ0 A s s.heap ∧ (∀ q, s.heap.size ≤ q → A q) ∧ (r.2.2.1 ≤ R.cells ∧ r.2.2.2 ≤ R.slots) ∧ (D ≤ R.frames ∧ 40 * D ≤ R.locals) ∧ (ini = true → meth.name = "<init>") ∧
  ((ret = none ∨ r.1 ≠ none) → ∀ (ρ : Nat → Nat) (H : Heap) (locs : List Loc) (t : State), ag n0 ρ ρ0 → n0 ≤ r.2.1.length → va_P (dC, dI) vwCl (dW ρ cy r.2.1) H → va_D A (dW ρ cy r.2.1) → va_S A s.heap H locs → t.heap = H → s.WarmedH t.vm → Qc args s (.returned (r.1.map (dv ρ))) t) ∧
  ((∀ t : State, MQ below Qc args s r.2.2.1 r.2.2.2 A t → Q t) ∧ l.stackTraces = false) ∧
  (ret ≠ none → r.1 = none → l.stackTraces = false ∧ c.exceptionTable.toList = [] ∧ ∃ (Q' : Array Value → State → Outcome → State → Prop) (XC : String → State → State → Prop), Q = vx_MQ below Q' XC args s r.2.2.1 r.2.2.2 A ∧ ∀ (ρ : Nat → Nat) (H : Heap) (locs : List Loc) (t : State), ag n0 ρ ρ0 → n0 ≤ r.2.1.length → va_P (dC, dI) vwCl (dW ρ cy r.2.1) H → va_D A (dW ρ cy r.2.1) → va_S A s.heap H locs → s.vm.Alike t.vm → H.size ≤ t.heap.size → (∀ q : Nat, q < H.size → t.heap[q]? = H[q]?) → XC "java/util/NoSuchElementException" s t)
/-- from here the machine comes to its end, as the function says -/
def mG (p : Program) (l : Launch) (e : Env) (R : Room) (s : State) (m : MethodId) (args : Array Value) (below : List Frame) (meth : Method) (c : Code) (dC : Nat → ClassId) (dI : Nat → Nat → Nat) (cy : Nat → ClassId) (A : Nat → Prop) (ρ0 : Nat → Nat) (n0 : Nat) (nL : Nat) (Q : State → Prop) (r : sR) (pc : Nat) (ss : sS) : Prop :=
  (ss.2.2.2.1 ≤ r.2.2.1 ∧ ss.2.2.2.2 ≤ r.2.2.2) ∧
  ∀ (H : Heap) (locs : List Loc) (ls : Array Slot) (ρ : Nat → Nat), ag n0 ρ ρ0 → n0 ≤ ss.2.2.1.length → va_P (dC, dI) vwCl (dW ρ cy ss.2.2.1) H → va_D A (dW ρ cy ss.2.2.1) → va_S A s.heap H locs → lv_has ls nL (dL ρ ss.1) →
    W p l e R s m args below meth c H locs ss.2.2.2.1 ss.2.2.2.2 Q (F0 m pc ls (ss.2.1.map (dv ρ)))
def mOk (kn : sKn) (cc : ByteArray) (own : String) (nL : Nat) (Ts : List Cond) (D : Nat) (ret : Option FieldType) (ini : Bool) (pc : Nat) (act : sA) : Prop :=
  ∀ (p : Program) (l : Launch) (e : Env) (R : Room) (s : State) (m : MethodId) (args : Array Value) (below : List Frame) (meth : Method) (c : Code) (dC : Nat → ClassId) (dI : Nat → Nat → Nat) (cy : Nat → ClassId) (A : Nat → Prop) (ρ0 : Nat → Nat) (n0 : Nat) (Qc : Array Value → State → Outcome → State → Prop) (Q : State → Prop) (r : sR),
    mX kn p l e R s m args below meth c dC dI cy A ρ0 n0 Qc Q cc own nL Ts D ret ini r → ∀ k : sK, (∀ pc' ss', k pc' ss' = some r → mG p l e R s m args below meth c dC dI cy A ρ0 n0 nL Q r pc' ss') → ∀ ss, act k ss = some r → mG p l e R s m args below meth c dC dI cy A ρ0 n0 nL Q r pc ss
-- ===== acts on the stack alone =====
def a_stk (f : List Value → Option (List Value)) (np : Nat) : sA := fun k ss => match f ss.2.1 with
  | some st => k np (ss.1, st, ss.2.2)
  | none => none
/-- a stack function is right for an instruction -/
def stkOk (cc : ByteArray) (pc np : Nat) (f : List Value → Option (List Value)) : Prop :=
  ∀ (p : Program) (l : Launch) (e : Env) (R : Room) (s : State) (m : MethodId) (args : Array Value) (below : List Frame) (meth : Method) (c : Code) (H : Heap) (locs : List Loc) (cells slots : Nat) (Q : State → Prop) (ls : Array Slot) (ρ : Nat → Nat) (st st' : List Value), p.tables.exec = Jvm.exec → c.code = cc → f st = some st' → W p l e R s m args below meth c H locs cells slots Q (F0 m np ls (st'.map (dv ρ))) → W p l e R s m args below meth c H locs cells slots Q (F0 m pc ls (st.map (dv ρ)))
theorem ok_stk {kn : sKn} {cc : ByteArray} {own : String} {nL : Nat} {Ts : List Cond} {D : Nat} {ret : Option FieldType} {ini : Bool} {pc np : Nat} {f : List Value → Option (List Value)} (hf : stkOk cc pc np f) : mOk kn cc own nL Ts D ret ini pc (a_stk f np) := by
  intro p l e R s m args below meth c dC dI cy A ρ0 n0 Qc Q r X k hk ss h
  obtain ⟨lv, st, w, nc, ns⟩ := ss
  unfold a_stk at h
  split at h
  · rename_i st' hs
    have K := hk _ _ h
    exact ⟨K.1, fun H locs ls ρ hag hn hP hD hS hl => hf p l e R s m args below meth c H locs nc ns _ ls ρ st st' X.1.1 X.1.2.1 hs (K.2 H locs ls ρ hag hn hP hD hS hl)⟩
  · cases h
theorem mK_str {kn : sKn} {dC : Nat → ClassId} {dI : Nat → Nat → Nat} {cy : Nat → ClassId} {ρ : Nat → Nat} {A : Nat → Prop} {U : State} {H : Heap} (h : mK kn dC dI cy ρ A U H) : vk_S 1 [3] [[103, 97, 112]] (fun _ => ρ 1000002) (fun _ => ρ 1000003) A U H := h.2.2.2.2.2.2.2.2.2.2.1
theorem mK_str2 {kn : sKn} {dC : Nat → ClassId} {dI : Nat → Nat → Nat} {cy : Nat → ClassId} {ρ : Nat → Nat} {A : Nat → Prop} {U : State} {H : Heap} (h : mK kn dC dI cy ρ A U H) : vk_S 1 [216] [keyB] (fun _ => ρ 1000004) (fun _ => ρ 1000005) A U H := h.2.2.2.2.2.2.2.2.2.2.2.1
theorem mK_sio {kn : sKn} {dC : Nat → ClassId} {dI : Nat → Nat → Nat} {cy : Nat → ClassId} {ρ : Nat → Nat} {A : Nat → Prop} {U : State} {H : Heap} (h : mK kn dC dI cy ρ A U H) : va_Z "jdk/internal/util/Preconditions" "SIOOBE_FORMATTER" "Ljava/util/function/BiFunction;" (dv ρ (siV kn)) A U H := h.2.2.2.2.2.2.2.2.2.2.2.2
theorem mK_R {kn : sKn} {dC : Nat → ClassId} {dI : Nat → Nat → Nat} {cy : Nat → ClassId} {ρ : Nat → Nat} {A : Nat → Prop} {U : State} {H : Heap} (h : mK kn dC dI cy ρ A U H) : vk_R "SignedBridge" 350 "gap" (ρ 1000002) U := h.2.1.2.1.2.2.2.2.2.1
theorem mK_R2 {kn : sKn} {dC : Nat → ClassId} {dI : Nat → Nat → Nat} {cy : Nat → ClassId} {ρ : Nat → Nat} {A : Nat → Prop} {U : State} {H : Heap} (h : mK kn dC dI cy ρ A U H) : vk_R "SignedBridge$Tokens" 70 keyT (ρ 1000004) U := h.2.1.2.1.2.2.2.2.2.2
theorem mK_sel {kn : sKn} {dC : Nat → ClassId} {dI : Nat → Nat → Nat} {cy : Nat → ClassId} {ρ : Nat → Nat} {A : Nat → Prop} {U : State} {H : Heap} (h : mK kn dC dI cy ρ A U H) {q : MethodName} (hq : q ∈ privS) (a : Array Value) : (Cond.selects RJ4 q q).before a U = true := va_Nw.use rfl (h.2.1.2.1.2.2.2.2.1 q hq)
end
