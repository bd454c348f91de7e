noncomputable section
-- ===== operations on unknowns =====
theorem bm32 {z : Int} (h : -2147483648 ≤ z ∧ z ≤ 2147483647) : z.bmod (2 ^ 32) = z := Int.bmod_eq_of_le_mul_two (by omega) (by omega)
theorem r32 (x : Int32) : -2147483648 ≤ x.toInt ∧ x.toInt ≤ 2147483647 := ⟨by have := x.le_toInt; omega, by have := x.toInt_lt; omega⟩
theorem r64 (x : Int64) : -9223372036854775808 ≤ x.toInt ∧ x.toInt ≤ 9223372036854775807 := ⟨by have := x.le_toInt; omega, by have := x.toInt_lt; omega⟩
theorem bm64 {z : Int} (h : -9223372036854775808 ≤ z ∧ z ≤ 9223372036854775807) : z.bmod (2 ^ 64) = z := Int.bmod_eq_of_le_mul_two (by omega) (by omega)
def fullI : eE := .inl (-2147483648, 2147483647)
def fullJ : eE := .inl (-9223372036854775808, 9223372036854775807)
theorem fullI_ok (Z : eZ) (x : Int32) : fvOk Z (0, fullI) (.int x) := ⟨x.toInt, ⟨x, rfl, rfl⟩, r32 x⟩
theorem fullJ_ok (Z : eZ) (x : Int64) : fvOk Z (1, fullJ) (.long x) := ⟨x.toInt, ⟨x, rfl, rfl⟩, r64 x⟩
/-- the interval of an int; of a long -/
def iv (E : List (Nat × eE)) (a : eV) : Int × Int := match ave E a with
  | some (.inl q) => q
  | _ => (-2147483648, 2147483647)
def jv (E : List (Nat × eE)) (a : eV) : Int × Int := match ave E a with
  | some (.inl q) => q
  | _ => (-9223372036854775808, 9223372036854775807)
def avI (σ : List Int) (a : eV) (x : Int32) : Prop := ∃ z, σ[a.2.1]? = some z ∧ x.toInt = z + a.2.2
def avJ (σ : List Int) (a : eV) (x : Int64) : Prop := ∃ z, σ[a.2.1]? = some z ∧ x.toInt = z + a.2.2
theorem avOk_I {σ : List Int} {a : eV} {v : Value} (h : avOk σ a v) (hk : a.1 = 0) : ∃ x, v = .int x ∧ avI σ a x := by
  obtain ⟨z, h1, h2⟩ := h
  rw [hk] at h2
  obtain ⟨x, h3, h4⟩ := h2
  exact ⟨x, h3, z, h1, h4⟩
theorem avOk_J {σ : List Int} {a : eV} {v : Value} (h : avOk σ a v) (hk : a.1 = 1) : ∃ x, v = .long x ∧ avJ σ a x := by
  obtain ⟨z, h1, h2⟩ := h
  rw [hk] at h2
  obtain ⟨x, h3, h4⟩ := h2
  exact ⟨x, h3, z, h1, h4⟩
theorem avI_ok {σ : List Int} {s : Nat} {c : Int} {x : Int32} (h : avI σ (0, s, c) x) : avOk σ (0, s, c) (.int x) := by
  obtain ⟨z, h1, h2⟩ := h
  exact ⟨z, h1, x, rfl, h2⟩
theorem avJ_ok {σ : List Int} {s : Nat} {c : Int} {x : Int64} (h : avJ σ (1, s, c) x) : avOk σ (1, s, c) (.long x) := by
  obtain ⟨z, h1, h2⟩ := h
  exact ⟨z, h1, x, rfl, h2⟩
theorem iv_ok {Z : eZ} {σ : List Int} {E : List (Nat × eE)} {a : eV} {x : Int32} (h0 : σ[0]? = some 0) (hE : gE Z σ E) (h : avI σ a x) : (iv E a).1 ≤ x.toInt ∧ x.toInt ≤ (iv E a).2 := by
  obtain ⟨z, h1, h2⟩ := h
  unfold iv
  split
  · rename_i q hq
    have := ave_ok h0 hE hq h1
    rw [h2]
    exact this
  · exact r32 x
theorem jv_ok {Z : eZ} {σ : List Int} {E : List (Nat × eE)} {a : eV} {x : Int64} (h0 : σ[0]? = some 0) (hE : gE Z σ E) (h : avJ σ a x) : (jv E a).1 ≤ x.toInt ∧ x.toInt ≤ (jv E a).2 := by
  obtain ⟨z, h1, h2⟩ := h
  unfold jv
  split
  · rename_i q hq
    have := ave_ok h0 hE hq h1
    rw [h2]
    exact this
  · exact r64 x
/-- what comes of an operation: a value over known unknowns, or a new one -/
abbrev eR : Type := (Nat × Int) ⊕ eE
def rOk (Z : eZ) (σ : List Int) (kd : Nat) (r : eR) (v : Value) : Prop := match r with
  | .inl c => avOk σ (kd, c) v
  | .inr e => fvOk Z (kd, e) v
def rpush (kd : Nat) (r : eR) (L : List (Nat × eV)) (S : List eV) (M : List (eK × eV)) (E : List (Nat × eE)) (N : Nat) : eS := match r with
  | .inl c => (L, (kd, c) :: S, M, E, N)
  | .inr e => match fre kd e E N with
    | f => (L, f.1 :: S, M, f.2)
theorem rpush_ok {Z : eZ} {mods : List (Nat × Nat)} {w0 : sW} {σ : List Int} {lv : List (Nat × Value)} {st : List Value} {w : sW} {n : Nat × Nat} {L : List (Nat × eV)} {S : List eV} {M : List (eK × eV)} {E : List (Nat × eE)} {N kd : Nat} {r : eR} {v : Value}
    (h : gA Z mods w0 (L, S, M, E, N) σ (lv, st, w, n)) (hr : rOk Z σ kd r v) : ∃ σ', ext σ σ' ∧ gA Z mods w0 (rpush kd r L S M E N) σ' (lv, v :: st, w, n) := by
  obtain ⟨⟨hN, h0⟩, hL, hS, hM, hE, hw, hf, hl, hn⟩ := h
  unfold rpush
  split
  · exact ⟨σ, ext_rf σ, ⟨hN, h0⟩, hL, ⟨hr, hS⟩, hM, hE, hw, hf, hl, hn⟩
  · rename_i e
    obtain ⟨σ', a1, a2, a3, a4⟩ := fre_ok hN h0 hE hr
    exact ⟨σ', a1, a2, gL_e a1 hL, ⟨a4, gS_e a1 hS⟩, gM_e a1 hM, a3, hw, hf, hl, hn⟩
/-- an operation on two ints -/
def opOk (q : List Value → Option (List Value)) (o : List (Nat × eE) → eV → eV → Option eR) : Prop := ∀ (Z : eZ) (σ : List Int) (E : List (Nat × eE)) (a b : eV) (x y : Int32) (st : List Value) (r : eR), σ[0]? = some 0 → gE Z σ E → avI σ a x → avI σ b y → o E a b = some r → ∃ z : Int32, q (.int y :: .int x :: st) = some (.int z :: st) ∧ rOk Z σ 0 r (.int z)
def t_bin (o : List (Nat × eE) → eV → eV → Option eR) (np : Nat) : tA := fun A => match A.2.1 with
  | b :: a :: S => match Nat.beq a.1 0 with
    | true => match Nat.beq b.1 0 with
      | true => match o A.2.2.2.1 a b with
        | some r => some [(some np, rpush 0 r A.1 S A.2.2.1 A.2.2.2.1 A.2.2.2.2)]
        | none => none
      | false => none
    | false => none
  | _ => none
theorem gS_2 {σ : List Int} {a b : eV} {S : List eV} {st : List Value} (h : gS σ (b :: a :: S) st) : ∃ y x st', st = y :: x :: st' ∧ avOk σ b y ∧ avOk σ a x ∧ gS σ S st' := by
  match st, h with
  | y :: x :: st', h => exact ⟨y, x, st', rfl, h.1, h.2.1, h.2.2⟩
  | [], h => exact h.elim
  | [_], h => exact h.2.elim
theorem gS_1 {σ : List Int} {b : eV} {S : List eV} {st : List Value} (h : gS σ (b :: S) st) : ∃ y st', st = y :: st' ∧ avOk σ b y ∧ gS σ S st' := by
  match st, h with
  | y :: st', h => exact ⟨y, st', rfl, h.1, h.2⟩
  | [], h => exact h.elim
theorem gS_0 {σ : List Int} {st : List Value} (h : gS σ [] st) : st = [] := by
  match st, h with
  | [], _ => rfl
  | _ :: _, h => exact h.elim
theorem tr_bin {Z : eZ} {mods : List (Nat × Nat)} {q : List Value → Option (List Value)} {o : List (Nat × eE) → eV → eV → Option eR} {np : Nat} (ho : opOk q o) : trOk Z mods (a_stk q np) (t_bin o np) := by
  intro A L h σ w0 ss hg
  obtain ⟨LL, S, M, E, N⟩ := A
  obtain ⟨lv, st, w, n⟩ := ss
  unfold t_bin at h
  split at h
  · rename_i b a S' hS
    dsimp only at hS
    subst hS
    split at h
    · rename_i ha
      split at h
      · rename_i hb
        split at h
        · rename_i r hr
          cases h
          obtain ⟨⟨hN, h0⟩, hL, hSt, hM, hE, hw, hf, hl, hn⟩ := hg
          obtain ⟨y, x, st', e1, hy, hx, hS'⟩ := gS_2 hSt
          dsimp only at e1
          subst e1
          obtain ⟨x', rfl, hx'⟩ := avOk_I hx (Nat.eq_of_beq_eq_true ha)
          obtain ⟨y', rfl, hy'⟩ := avOk_I hy (Nat.eq_of_beq_eq_true hb)
          obtain ⟨z, hz, hr'⟩ := ho Z σ E a b x' y' st' r h0 hE hx' hy' hr
          obtain ⟨σ', s1, s2⟩ := rpush_ok (L := LL) (S := S') (M := M) (E := E) (N := N) (lv := lv) (st := st') (w := w) (n := n) (mods := mods) (w0 := w0) ⟨⟨hN, h0⟩, hL, hS', hM, hE, hw, hf, hl, hn⟩ hr'
          refine ⟨_, List.mem_singleton.mpr rfl, σ', (lv, .int z :: st', w, n), s1, s2, ?_⟩
          intro k
          simp only [a_stk, hz]
        · cases h
      · cases h
    · cases h
  · cases h
def inI (l h : Int) : Bool := match zle (-2147483648) l with
  | true => zle h 2147483647
  | false => false
theorem inI_iff {l h : Int} : inI l h = true ↔ -2147483648 ≤ l ∧ h ≤ 2147483647 := by
  unfold inI
  split
  · rename_i a
    rw [zle_iff] at a ⊢
    exact ⟨fun z => ⟨a, z⟩, fun z => z.2⟩
  · rename_i a
    have := zle_ff a
    constructor
    · intro z; cases z
    · intro z; omega
def o_add (E : List (Nat × eE)) (a b : eV) : Option eR := match iv E a, iv E b with
  | p, q => match inI (p.1 + q.1) (p.2 + q.2) with
    | true => match zeq q.1 q.2 with
      | true => some (.inl (a.2.1, a.2.2 + q.1))
      | false => match zeq p.1 p.2 with
        | true => some (.inl (b.2.1, b.2.2 + p.1))
        | false => some (.inr (.inl (p.1 + q.1, p.2 + q.2)))
    | false => some (.inr fullI)
theorem op_add : opOk q_iadd o_add := by
  intro Z σ E a b x y st r h0 hE hx hy h
  refine ⟨x + y, rfl, ?_⟩
  have ix := iv_ok h0 hE hx
  have iy := iv_ok h0 hE hy
  unfold o_add at h
  dsimp only at h
  split at h
  · rename_i hr
    rw [inI_iff] at hr
    have e : (x + y).toInt = x.toInt + y.toInt := by rw [Int32.toInt_add, bm32 (by omega)]
    split at h
    · rename_i h1
      rw [zeq_iff] at h1
      cases h
      obtain ⟨z, a1, a2⟩ := hx
      exact ⟨z, a1, x + y, rfl, by rw [e]; dsimp only; omega⟩
    · split at h
      · rename_i h1
        rw [zeq_iff] at h1
        cases h
        obtain ⟨z, a1, a2⟩ := hy
        exact ⟨z, a1, x + y, rfl, by rw [e]; dsimp only; omega⟩
      · cases h
        exact ⟨_, ⟨x + y, rfl, rfl⟩, by rw [e]; exact ⟨by dsimp only; omega, by dsimp only; omega⟩⟩
  · cases h
    exact fullI_ok Z _
def o_sub (E : List (Nat × eE)) (a b : eV) : Option eR := match iv E a, iv E b with
  | p, q => match inI (p.1 - q.2) (p.2 - q.1) with
    | true => match zeq q.1 q.2 with
      | true => some (.inl (a.2.1, a.2.2 - q.1))
      | false => some (.inr (.inl (p.1 - q.2, p.2 - q.1)))
    | false => some (.inr fullI)
theorem op_sub : opOk q_isub o_sub := by
  intro Z σ E a b x y st r h0 hE hx hy h
  refine ⟨x - y, rfl, ?_⟩
  have ix := iv_ok h0 hE hx
  have iy := iv_ok h0 hE hy
  unfold o_sub at h
  dsimp only at h
  split at h
  · rename_i hr
    rw [inI_iff] at hr
    have e : (x - y).toInt = x.toInt - y.toInt := by rw [Int32.toInt_sub, bm32 (by omega)]
    split at h
    · rename_i h1
      rw [zeq_iff] at h1
      cases h
      obtain ⟨z, a1, a2⟩ := hx
      exact ⟨z, a1, x - y, rfl, by rw [e]; dsimp only; omega⟩
    · cases h
      exact ⟨_, ⟨x - y, rfl, rfl⟩, by rw [e]; exact ⟨by dsimp only; omega, by dsimp only; omega⟩⟩
  · cases h
    exact fullI_ok Z _
theorem mul_in {a b c d x y : Int} (ha : 0 ≤ a) (hc : 0 ≤ c) (h1 : a ≤ x) (h2 : x ≤ b) (h3 : c ≤ y) (h4 : y ≤ d) : a * c ≤ x * y ∧ x * y ≤ b * d :=
  ⟨Int.mul_le_mul h1 h3 hc (Int.le_trans ha h1), Int.mul_le_mul h2 h4 (Int.le_trans hc h3) (Int.le_trans (Int.le_trans ha h1) h2)⟩
def o_mul (E : List (Nat × eE)) (a b : eV) : Option eR := match iv E a, iv E b with
  | p, q => match zle 0 p.1 with
    | true => match zle 0 q.1 with
      | true => match zle (p.2 * q.2) 2147483647 with
        | true => some (.inr (.inl (p.1 * q.1, p.2 * q.2)))
        | false => some (.inr fullI)
      | false => some (.inr fullI)
    | false => some (.inr fullI)
theorem op_mul : opOk q_imul o_mul := by
  intro Z σ E a b x y st r h0 hE hx hy h
  refine ⟨x * y, rfl, ?_⟩
  have ix := iv_ok h0 hE hx
  have iy := iv_ok h0 hE hy
  unfold o_mul at h
  dsimp only at h
  split at h
  · rename_i h1
    split at h
    · rename_i h2
      split at h
      · rename_i h3
        rw [zle_iff] at h1 h2 h3
        cases h
        have m := mul_in h1 h2 ix.1 ix.2 iy.1 iy.2
        have m0 : 0 ≤ (iv E a).1 * (iv E b).1 := Int.mul_nonneg h1 h2
        have e : (x * y).toInt = x.toInt * y.toInt := by rw [Int32.toInt_mul, bm32 ⟨by omega, by omega⟩]
        exact ⟨_, ⟨x * y, rfl, rfl⟩, by rw [e]; exact m⟩
      · cases h
        exact fullI_ok Z _
    · cases h
      exact fullI_ok Z _
  · cases h
    exact fullI_ok Z _
/-- two constants: the operation itself -/
def cst2 (g : Int32 → Int32 → Int32) (l r : Int) : Int := (g (Int32.ofInt l) (Int32.ofInt r)).toInt
theorem cst2_ok {g : Int32 → Int32 → Int32} {l r : Int} {x y : Int32} (hx : x.toInt = l) (hy : y.toInt = r) : (g x y).toInt = cst2 g l r := by
  subst hx hy
  unfold cst2
  rw [Int32.ofInt_toInt, Int32.ofInt_toInt]
def o_c2 (g : Int32 → Int32 → Int32) (o : Int × Int → Int × Int → eE) (E : List (Nat × eE)) (a b : eV) : Option eR := match iv E a, iv E b with
  | p, q => match zeq p.1 p.2 with
    | true => match zeq q.1 q.2 with
      | true => some (.inl (0, cst2 g p.1 q.1))
      | false => some (.inr (o p q))
    | false => some (.inr (o p q))
theorem op_c2 {q : List Value → Option (List Value)} {g : Int32 → Int32 → Int32} {o : Int × Int → Int × Int → eE} (hq : ∀ x y st, q (.int y :: .int x :: st) = some (.int (g x y) :: st)) (ho : ∀ (Z : eZ) (p q : Int × Int) (x y : Int32), p.1 ≤ x.toInt → x.toInt ≤ p.2 → q.1 ≤ y.toInt → y.toInt ≤ q.2 → evOk Z (g x y).toInt (o p q)) : opOk q (o_c2 g o) := by
  intro Z σ E a b x y st r h0 hE hx hy h
  refine ⟨g x y, hq x y st, ?_⟩
  have ix := iv_ok h0 hE hx
  have iy := iv_ok h0 hE hy
  have key : fvOk Z (0, o (iv E a) (iv E b)) (.int (g x y)) := ⟨_, ⟨g x y, rfl, rfl⟩, ho Z _ _ x y ix.1 ix.2 iy.1 iy.2⟩
  unfold o_c2 at h
  dsimp only at h
  split at h
  · rename_i h1
    split at h
    · rename_i h2
      rw [zeq_iff] at h1 h2
      cases h
      exact ⟨0, h0, g x y, rfl, by rw [Int.zero_add]; exact cst2_ok (by omega) (by omega)⟩
    · cases h
      exact key
  · cases h
    exact key
theorem toNat_nn {x : Int32} (h : 0 ≤ x.toInt) : (x.toBitVec.toNat : Int) = x.toInt := by
  have e : x.toInt = x.toBitVec.toInt := rfl
  rw [e] at h ⊢
  rw [BitVec.toInt_eq_toNat_cond] at h ⊢
  have := x.toBitVec.isLt
  split at h <;> split <;> omega
theorem toInt_of_lt {x : Int32} {n : Nat} (h : x.toBitVec.toNat = n) (hn : n < 2147483648) : x.toInt = (n : Int) := by
  have e : x.toInt = x.toBitVec.toInt := rfl
  rw [e, BitVec.toInt_eq_toNat_cond, h]
  split <;> omega
def e_and (p q : Int × Int) : eE := match zle 0 p.1 with
  | true => match zle 0 q.1 with
    | true => match zle p.2 q.2 with
      | true => .inl (0, p.2)
      | false => .inl (0, q.2)
    | false => .inl (0, p.2)
  | false => match zle 0 q.1 with
    | true => .inl (0, q.2)
    | false => fullI
theorem and_l {x y : Int32} (h : 0 ≤ x.toInt) : 0 ≤ (x &&& y).toInt ∧ (x &&& y).toInt ≤ x.toInt := by
  have e : (x &&& y).toBitVec.toNat = x.toBitVec.toNat &&& y.toBitVec.toNat := by
    rw [Int32.toBitVec_and, BitVec.toNat_and]
  have h1 := toNat_nn h
  have h2 : x.toBitVec.toNat &&& y.toBitVec.toNat ≤ x.toBitVec.toNat := Nat.and_le_left
  have h3 := r32 x
  rw [toInt_of_lt e (by omega)]
  omega
theorem and_r {x y : Int32} (h : 0 ≤ y.toInt) : 0 ≤ (x &&& y).toInt ∧ (x &&& y).toInt ≤ y.toInt := by
  have e : (x &&& y).toBitVec.toNat = x.toBitVec.toNat &&& y.toBitVec.toNat := by
    rw [Int32.toBitVec_and, BitVec.toNat_and]
  have h1 := toNat_nn h
  have h2 : x.toBitVec.toNat &&& y.toBitVec.toNat ≤ y.toBitVec.toNat := Nat.and_le_right
  have h3 := r32 y
  rw [toInt_of_lt e (by omega)]
  omega
theorem op_and : opOk q_iand (o_c2 (fun x y => x &&& y) e_and) := by
  refine op_c2 (fun _ _ _ => rfl) ?_
  intro Z p q x y h1 h2 h3 h4
  unfold e_and
  split
  · rename_i a
    rw [zle_iff] at a
    have k := and_l (y := y) (Int.le_trans a h1)
    split
    · rename_i b
      rw [zle_iff] at b
      have k2 := and_r (x := x) (Int.le_trans b h3)
      split
      · exact ⟨k.1, Int.le_trans k.2 h2⟩
      · exact ⟨k2.1, Int.le_trans k2.2 h4⟩
    · exact ⟨k.1, Int.le_trans k.2 h2⟩
  · split
    · rename_i b
      rw [zle_iff] at b
      have k2 := and_r (x := x) (Int.le_trans b h3)
      exact ⟨k2.1, Int.le_trans k2.2 h4⟩
    · exact r32 _
/-- all ones under a number -/
def pw (h : Int) : Int := match h with
  | .ofNat n => .ofNat (Nat.sub (Nat.pow 2 (Nat.add (Nat.log2 n) 1)) 1)
  | .negSucc _ => 0
def e_or (p q : Int × Int) : eE := match zle 0 p.1 with
  | true => match zle 0 q.1 with
    | true => match zle p.2 q.2 with
      | true => .inl (0, pw q.2)
      | false => .inl (0, pw p.2)
    | false => fullI
  | false => fullI
theorem pw_lt {n : Nat} : n < 2 ^ (Nat.log2 n + 1) := Nat.lt_log2_self
theorem or_in {x y : Int32} {h : Int} (hx : 0 ≤ x.toInt) (hy : 0 ≤ y.toInt) (h1 : x.toInt ≤ h) (h2 : y.toInt ≤ h) : 0 ≤ (x ||| y).toInt ∧ (x ||| y).toInt ≤ pw h := by
  have e : (x ||| y).toBitVec.toNat = x.toBitVec.toNat ||| y.toBitVec.toNat := by
    rw [Int32.toBitVec_or, BitVec.toNat_or]
  have a1 := toNat_nn hx
  have a2 := toNat_nn hy
  have b1 := r32 x
  have b2 := r32 y
  have lim : x.toBitVec.toNat ||| y.toBitVec.toNat < 2 ^ 31 := Nat.or_lt_two_pow (by omega) (by omega)
  rw [toInt_of_lt e (by omega)]
  match h, h1, h2 with
  | .ofNat n, h1, h2 =>
    have h1 : x.toInt ≤ (n : Int) := h1
    have h2 : y.toInt ≤ (n : Int) := h2
    have k : n < 2 ^ (Nat.log2 n + 1) := pw_lt
    have l : x.toBitVec.toNat ||| y.toBitVec.toNat < 2 ^ (Nat.log2 n + 1) := Nat.or_lt_two_pow (by omega) (by omega)
    refine ⟨by omega, ?_⟩
    show ((x.toBitVec.toNat ||| y.toBitVec.toNat : Nat) : Int) ≤ ((2 ^ (Nat.log2 n + 1) - 1 : Nat) : Int)
    omega
  | .negSucc n, h1, h2 =>
    rw [Int.negSucc_eq] at h1
    omega
theorem op_or : opOk q_ior (o_c2 (fun x y => x ||| y) e_or) := by
  refine op_c2 (fun _ _ _ => rfl) ?_
  intro Z p q x y h1 h2 h3 h4
  unfold e_or
  split
  · rename_i a
    rw [zle_iff] at a
    split
    · rename_i b
      rw [zle_iff] at b
      split
      · rename_i c
        rw [zle_iff] at c
        exact or_in (by omega) (by omega) (by omega) h4
      · rename_i c
        have := zle_ff c
        exact or_in (by omega) (by omega) h2 (by omega)
    · exact r32 _
  · exact r32 _
def e_full (_ _ : Int × Int) : eE := fullI
theorem op_xor : opOk q_ixor (o_c2 (fun x y => x ^^^ y) e_full) := op_c2 (fun _ _ _ => rfl) (fun _ _ _ _ _ _ _ _ _ => r32 _)
def e_shl (p q : Int × Int) : eE := match zle 0 p.1 with
  | true => match zle 0 q.1 with
    | true => match zle q.2 30 with
      | true => match zle (p.2 * 2 ^ q.2.toNat) 2147483647 with
        | true => .inl (0, p.2 * 2 ^ q.2.toNat)
        | false => fullI
      | false => fullI
    | false => fullI
  | false => fullI
theorem and31 {y : Int32} (h1 : 0 ≤ y.toInt) (h2 : y.toInt ≤ 31) : (y &&& 31).toBitVec.toNat = y.toInt.toNat := by
  have a := toNat_nn h1
  rw [Int32.toBitVec_and, BitVec.toNat_and]
  have e : (31 : Int32).toBitVec.toNat = 31 := rfl
  rw [e]
  have : y.toBitVec.toNat &&& 31 = y.toBitVec.toNat % 2 ^ 5 := Nat.and_two_pow_sub_one_eq_mod _ 5
  rw [this, Nat.mod_eq_of_lt (by omega)]
  omega
theorem shl_in {x y : Int32} {h1 h2 : Int} (hx : 0 ≤ x.toInt) (hxh : x.toInt ≤ h1) (hy : 0 ≤ y.toInt) (hyh : y.toInt ≤ h2) (h30 : h2 ≤ 30) (hm : h1 * 2 ^ h2.toNat ≤ 2147483647) : 0 ≤ (x <<< (y &&& 31)).toInt ∧ (x <<< (y &&& 31)).toInt ≤ h1 * 2 ^ h2.toNat := by
  have a := toNat_nn hx
  have b := and31 hy (by omega)
  have e : (x <<< (y &&& 31)).toBitVec.toNat = x.toBitVec.toNat <<< y.toInt.toNat % 2 ^ 32 := by
    rw [Int32.toBitVec_shiftLeft]
    have : ((y &&& 31).toBitVec.smod 32).toNat = y.toInt.toNat := by
      have hs : (y &&& 31).toBitVec = BitVec.ofNat 32 y.toInt.toNat := by
        apply BitVec.eq_of_toNat_eq
        rw [b, BitVec.toNat_ofNat, Nat.mod_eq_of_lt (by omega)]
      rw [hs]
      have hl : y.toInt.toNat < 31 := by omega
      generalize y.toInt.toNat = n at hl ⊢
      have : ∀ n : Fin 31, ((BitVec.ofNat 32 n.val).smod 32).toNat = n.val := by decide
      exact this ⟨n, hl⟩
    rw [BitVec.shiftLeft_eq', BitVec.toNat_shiftLeft, this]
  have p1 : x.toBitVec.toNat * 2 ^ y.toInt.toNat ≤ h1.toNat * 2 ^ h2.toNat := Nat.mul_le_mul (by omega) (Nat.pow_le_pow_right (by decide) (by omega))
  have p2 : ((h1.toNat * 2 ^ h2.toNat : Nat) : Int) = h1 * 2 ^ h2.toNat := by
    rw [Int.natCast_mul, Int.toNat_of_nonneg (by omega), Int.natCast_pow]
    rfl
  rw [Nat.shiftLeft_eq] at e
  rw [Nat.mod_eq_of_lt (by omega)] at e
  rw [toInt_of_lt e (by omega)]
  omega
theorem op_shl : opOk q_ishl (o_c2 (fun x y => x <<< (y &&& 31)) e_shl) := by
  refine op_c2 (fun _ _ _ => rfl) ?_
  intro Z p q x y h1 h2 h3 h4
  unfold e_shl
  split
  · rename_i a
    rw [zle_iff] at a
    split
    · rename_i b
      rw [zle_iff] at b
      split
      · rename_i c
        rw [zle_iff] at c
        split
        · rename_i d
          rw [zle_iff] at d
          exact shl_in (by omega) h2 (by omega) h4 c d
        · exact r32 _
      · exact r32 _
    · exact r32 _
  · exact r32 _
end
