noncomputable section
-- ===== the rest of the operations =====
/-- a difference of two values over one unknown -/
def o_sub2 (E : List (Nat × eE)) (a b : eV) : Option eR := match Nat.beq a.2.1 b.2.1 with
  | true => match inI (a.2.2 - b.2.2) (a.2.2 - b.2.2) with
    | true => some (.inl (0, a.2.2 - b.2.2))
    | false => o_sub E a b
  | false => o_sub E a b
theorem op_sub2 : opOk q_isub o_sub2 := by
  intro Z σ E a b x y st r h0 hE hx hy h
  unfold o_sub2 at h
  split at h
  · rename_i c
    split at h
    · rename_i d
      rw [inI_iff] at d
      cases h
      obtain ⟨z, a1, a2⟩ := hx
      obtain ⟨z', b1, b2⟩ := hy
      rw [Nat.eq_of_beq_eq_true c, b1] at a1
      cases a1
      refine ⟨x - y, rfl, 0, h0, x - y, rfl, ?_⟩
      rw [Int32.toInt_sub, bm32 (by omega)]
      dsimp only
      omega
    · exact op_sub Z σ E a b x y st r h0 hE hx hy h
  · exact op_sub Z σ E a b x y st r h0 hE hx hy h
/-- one value to one value -/
def unOk (q : List Value → Option (List Value)) (kd kd' : Nat) (o : List (Nat × eE) → eV → Option eR) : Prop := ∀ (Z : eZ) (σ : List Int) (E : List (Nat × eE)) (a : eV) (v : Value) (st : List Value) (r : eR), σ[0]? = some 0 → gE Z σ E → a.1 = kd → avOk σ a v → o E a = some r → ∃ u, q (v :: st) = some (u :: st) ∧ rOk Z σ kd' r u
def t_un (kd kd' : Nat) (o : List (Nat × eE) → eV → Option eR) (np : Nat) : tA := fun A => match A.2.1 with
  | a :: S => match Nat.beq a.1 kd with
    | true => match o A.2.2.2.1 a with
      | some r => some [(some np, rpush kd' r A.1 S A.2.2.1 A.2.2.2.1 A.2.2.2.2)]
      | none => none
    | false => none
  | _ => none
theorem tr_un {Z : eZ} {mods : List (Nat × Nat)} {q : List Value → Option (List Value)} {kd kd' : Nat} {o : List (Nat × eE) → eV → Option eR} {np : Nat} (ho : unOk q kd kd' o) : trOk Z mods (a_stk q np) (t_un kd kd' o np) := by
  intro A L h σ w0 ss hg
  obtain ⟨LL, S, M, E, N⟩ := A
  obtain ⟨lv, st, w, n⟩ := ss
  unfold t_un at h
  split at h
  · rename_i a S' hS
    dsimp only at hS
    subst hS
    split at h
    · rename_i ha
      split at h
      · rename_i r hr
        cases h
        obtain ⟨⟨hN, h0⟩, hL, hSt, hM, hE, hw, hf, hl, hn⟩ := hg
        obtain ⟨v, st', e1, hv, hS'⟩ := gS_1 hSt
        dsimp only at e1
        subst e1
        obtain ⟨u, hu, hr'⟩ := ho Z σ E a v st' r h0 hE (Nat.eq_of_beq_eq_true ha) hv hr
        obtain ⟨σ', s1, s2⟩ := rpush_ok (L := LL) (S := S') (M := M) (E := E) (N := N) (lv := lv) (st := st') (w := w) (n := n) (mods := mods) (w0 := w0) ⟨⟨hN, h0⟩, hL, hS', hM, hE, hw, hf, hl, hn⟩ hr'
        refine ⟨_, lmem, σ', (lv, u :: st', w, n), s1, s2, ?_⟩
        intro k
        simp only [a_stk, hu]
      · cases h
    · cases h
  · cases h
def o_neg (E : List (Nat × eE)) (a : eV) : Option eR := match iv E a with
  | p => match zle (-2147483647) p.1 with
    | true => some (.inr (.inl (-p.2, -p.1)))
    | false => some (.inr fullI)
theorem un_neg : unOk q_ineg 0 0 o_neg := by
  intro Z σ E a v st r h0 hE ha hv h
  obtain ⟨x, rfl, hx⟩ := avOk_I hv ha
  refine ⟨.int (-x), rfl, ?_⟩
  have ix := iv_ok h0 hE hx
  have rx := r32 x
  unfold o_neg at h
  dsimp only at h
  split at h
  · rename_i c
    rw [zle_iff] at c
    cases h
    have e : (-x).toInt = -x.toInt := by rw [Int32.toInt_neg, bm32 (by omega)]
    exact ⟨_, ⟨_, rfl, rfl⟩, by rw [e]; exact ⟨by dsimp only; omega, by dsimp only; omega⟩⟩
  · cases h
    exact fullI_ok Z _
def o_i2l (_ : List (Nat × eE)) (a : eV) : Option eR := some (.inl a.2)
theorem un_i2l : unOk q_i2l 0 1 o_i2l := by
  intro Z σ E a v st r h0 hE ha hv h
  obtain ⟨x, rfl, z, z1, z2⟩ := avOk_I hv ha
  cases h
  exact ⟨.long x.toInt64, rfl, z, z1, _, rfl, by rw [Int32.toInt_toInt64]; exact z2⟩
def o_l2i (E : List (Nat × eE)) (a : eV) : Option eR := match jv E a with
  | p => match inI p.1 p.2 with
    | true => some (.inl a.2)
    | false => some (.inr fullI)
theorem un_l2i : unOk q_l2i 1 0 o_l2i := by
  intro Z σ E a v st r h0 hE ha hv h
  obtain ⟨x, rfl, hx⟩ := avOk_J hv ha
  refine ⟨.int x.toInt32, rfl, ?_⟩
  have ix := jv_ok h0 hE hx
  unfold o_l2i at h
  dsimp only at h
  split at h
  · rename_i c
    rw [inI_iff] at c
    cases h
    obtain ⟨z, z1, z2⟩ := hx
    exact ⟨z, z1, _, rfl, by rw [Int64.toInt_toInt32, bm32 (by omega)]; exact z2⟩
  · cases h
    exact fullI_ok Z _
def o_fl (_ : List (Nat × eE)) (_ : eV) : Option eR := some (.inr fullI)
theorem un_i2b : unOk q_i2b 0 0 o_fl := by
  intro Z σ E a v st r h0 hE ha hv h
  obtain ⟨x, rfl, hx⟩ := avOk_I hv ha
  cases h
  exact ⟨.int x.toInt8.toInt32, rfl, fullI_ok Z _⟩
theorem un_i2c : unOk q_i2c 0 0 o_fl := by
  intro Z σ E a v st r h0 hE ha hv h
  obtain ⟨x, rfl, hx⟩ := avOk_I hv ha
  cases h
  exact ⟨.int (x.toUInt32 % 65536).toInt32, rfl, fullI_ok Z _⟩
/-- two longs, or a long and an int, to something -/
def bnOk (q : List Value → Option (List Value)) (ka kb kd' : Nat) (o : List (Nat × eE) → eV → eV → Option eR) : Prop := ∀ (Z : eZ) (σ : List Int) (E : List (Nat × eE)) (a b : eV) (u v : Value) (st : List Value) (r : eR), σ[0]? = some 0 → gE Z σ E → a.1 = ka → b.1 = kb → avOk σ a u → avOk σ b v → o E a b = some r → ∃ x, q (v :: u :: st) = some (x :: st) ∧ rOk Z σ kd' r x
def t_bn (ka kb kd' : Nat) (o : List (Nat × eE) → eV → eV → Option eR) (np : Nat) : tA := fun A => match A.2.1 with
  | b :: a :: S => match Nat.beq a.1 ka with
    | true => match Nat.beq b.1 kb with
      | true => match o A.2.2.2.1 a b with
        | some r => some [(some np, rpush kd' r A.1 S A.2.2.1 A.2.2.2.1 A.2.2.2.2)]
        | none => none
      | false => none
    | false => none
  | _ => none
theorem tr_bn {Z : eZ} {mods : List (Nat × Nat)} {q : List Value → Option (List Value)} {ka kb kd' : Nat} {o : List (Nat × eE) → eV → eV → Option eR} {np : Nat} (ho : bnOk q ka kb kd' o) : trOk Z mods (a_stk q np) (t_bn ka kb kd' o np) := by
  intro A L h σ w0 ss hg
  obtain ⟨LL, S, M, E, N⟩ := A
  obtain ⟨lv, st, w, n⟩ := ss
  unfold t_bn at h
  split at h
  · rename_i b a S' hS
    dsimp only at hS
    subst hS
    split at h
    · rename_i ha
      split at h
      · rename_i hb
        split at h
        · rename_i r hr
          cases h
          obtain ⟨⟨hN, h0⟩, hL, hSt, hM, hE, hw, hf, hl, hn⟩ := hg
          obtain ⟨y, x, st', e1, hy, hx, hS'⟩ := gS_2 hSt
          dsimp only at e1
          subst e1
          obtain ⟨z, hz, hr'⟩ := ho Z σ E a b x y st' r h0 hE (Nat.eq_of_beq_eq_true ha) (Nat.eq_of_beq_eq_true hb) hx hy hr
          obtain ⟨σ', s1, s2⟩ := rpush_ok (L := LL) (S := S') (M := M) (E := E) (N := N) (lv := lv) (st := st') (w := w) (n := n) (mods := mods) (w0 := w0) ⟨⟨hN, h0⟩, hL, hS', hM, hE, hw, hf, hl, hn⟩ hr'
          refine ⟨_, lmem, σ', (lv, z :: st', w, n), s1, s2, ?_⟩
          intro k
          simp only [a_stk, hz]
        · cases h
      · cases h
    · cases h
  · cases h
def o_flJ (_ : List (Nat × eE)) (_ _ : eV) : Option eR := some (.inr fullJ)
theorem bn_J {q : List Value → Option (List Value)} {g : Int64 → Int64 → Int64} (hq : ∀ x y st, q (.long y :: .long x :: st) = some (.long (g x y) :: st)) : bnOk q 1 1 1 o_flJ := by
  intro Z σ E a b u v st r h0 hE ha hb hu hv h
  obtain ⟨x, rfl, hx⟩ := avOk_J hu ha
  obtain ⟨y, rfl, hy⟩ := avOk_J hv hb
  cases h
  exact ⟨_, hq x y st, fullJ_ok Z _⟩
theorem bn_ladd : bnOk q_ladd 1 1 1 o_flJ := bn_J (g := fun x y => x + y) (fun _ _ _ => rfl)
theorem bn_lsub : bnOk q_lsub 1 1 1 o_flJ := bn_J (g := fun x y => x - y) (fun _ _ _ => rfl)
theorem bn_lmul : bnOk q_lmul 1 1 1 o_flJ := bn_J (g := fun x y => x * y) (fun _ _ _ => rfl)
/-- the low bits of a long: not under 0 -/
def o_land (E : List (Nat × eE)) (_ b : eV) : Option eR := match jv E b with
  | q => match zle 0 q.1 with
    | true => some (.inr (.inl (0, q.2)))
    | false => some (.inr fullJ)
theorem toNat_nn64 {x : Int64} (h : 0 ≤ x.toInt) : (x.toBitVec.toNat : Int) = x.toInt := by
  have e : x.toInt = x.toBitVec.toInt := rfl
  rw [e] at h ⊢
  rw [BitVec.toInt_eq_toNat_cond] at h ⊢
  have := x.toBitVec.isLt
  split at h <;> split <;> omega
theorem toInt_of_lt64 {x : Int64} {n : Nat} (h : x.toBitVec.toNat = n) (hn : n < 9223372036854775808) : x.toInt = (n : Int) := by
  have e : x.toInt = x.toBitVec.toInt := rfl
  rw [e, BitVec.toInt_eq_toNat_cond, h]
  split <;> omega
theorem and_r64 {x y : Int64} (h : 0 ≤ y.toInt) : 0 ≤ (x &&& y).toInt ∧ (x &&& y).toInt ≤ y.toInt := by
  have e : (x &&& y).toBitVec.toNat = x.toBitVec.toNat &&& y.toBitVec.toNat := by
    rw [Int64.toBitVec_and, BitVec.toNat_and]
  have h1 := toNat_nn64 h
  have h2 : x.toBitVec.toNat &&& y.toBitVec.toNat ≤ y.toBitVec.toNat := Nat.and_le_right
  have h3 := r64 y
  rw [toInt_of_lt64 e (by omega)]
  omega
theorem bn_land : bnOk q_land 1 1 1 o_land := by
  intro Z σ E a b u v st r h0 hE ha hb hu hv h
  obtain ⟨x, rfl, hx⟩ := avOk_J hu ha
  obtain ⟨y, rfl, hy⟩ := avOk_J hv hb
  have iy := jv_ok h0 hE hy
  refine ⟨_, rfl, ?_⟩
  unfold o_land at h
  dsimp only at h
  split at h
  · rename_i c
    rw [zle_iff] at c
    cases h
    have := and_r64 (x := x) (y := y) (by omega)
    exact ⟨_, ⟨_, rfl, rfl⟩, this.1, by dsimp only; omega⟩
  · cases h
    exact fullJ_ok Z _
theorem bn_lushr : bnOk q_lushr 1 0 1 o_flJ := by
  intro Z σ E a b u v st r h0 hE ha hb hu hv h
  obtain ⟨x, rfl, hx⟩ := avOk_J hu ha
  obtain ⟨y, rfl, hy⟩ := avOk_I hv hb
  cases h
  exact ⟨_, rfl, fullJ_ok Z _⟩
def o_lcmp (E : List (Nat × eE)) (a b : eV) : Option eR := match jv E a, jv E b with
  | p, q => match zle (p.2 + 1) q.1 with
    | true => some (.inl (0, -1))
    | false => match zle (q.2 + 1) p.1 with
      | true => some (.inl (0, 1))
      | false => some (.inr (.inl (-1, 1)))
theorem bn_lcmp : bnOk q_lcmp 1 1 0 o_lcmp := by
  intro Z σ E a b u v st r h0 hE ha hb hu hv h
  obtain ⟨x, rfl, hx⟩ := avOk_J hu ha
  obtain ⟨y, rfl, hy⟩ := avOk_J hv hb
  have ix := jv_ok h0 hE hx
  have iy := jv_ok h0 hE hy
  refine ⟨_, rfl, ?_⟩
  have k1 : x.toInt < y.toInt → lg_cmp x y = -1 := by
    intro hlt
    unfold lg_cmp
    rw [if_neg (by rw [gt_iff_lt, Int64.lt_iff_toInt_lt]; omega), if_neg (by rw [← Int64.toInt_inj]; omega)]
  have k2 : y.toInt < x.toInt → lg_cmp x y = 1 := by
    intro hlt
    unfold lg_cmp
    rw [if_pos (by rw [gt_iff_lt, Int64.lt_iff_toInt_lt]; omega)]
  have k3 : -1 ≤ (lg_cmp x y).toInt ∧ (lg_cmp x y).toInt ≤ 1 := by
    unfold lg_cmp
    split
    · exact ⟨by decide, by decide⟩
    · split
      · exact ⟨by decide, by decide⟩
      · exact ⟨by decide, by decide⟩
  unfold o_lcmp at h
  dsimp only at h
  split at h
  · rename_i c
    rw [zle_iff] at c
    cases h
    rw [k1 (by omega)]
    exact ⟨0, h0, _, rfl, by decide⟩
  · split at h
    · rename_i c
      rw [zle_iff] at c
      cases h
      rw [k2 (by omega)]
      exact ⟨0, h0, _, rfl, by decide⟩
    · cases h
      exact ⟨_, ⟨_, rfl, rfl⟩, k3⟩
/-- a long by a constant above 0 -/
def o_ldiv (E : List (Nat × eE)) (a b : eV) : Option eR := match jv E a, jv E b with
  | p, q => match zle 1 q.1 with
    | true => match zeq q.1 q.2 with
      | true => some (.inr (.inl (p.1.tdiv q.1, p.2.tdiv q.1)))
      | false => none
    | false => none
theorem ne_of_pos64 {y : Int64} (h : 1 ≤ y.toInt) : y ≠ 0 ∧ y ≠ -1 := by
  constructor
  · intro z
    rw [z] at h
    exact absurd h (by decide)
  · intro z
    rw [z] at h
    exact absurd h (by decide)
theorem bn_ldiv : bnOk q_ldiv 1 1 1 o_ldiv := by
  intro Z σ E a b u v st r h0 hE ha hb hu hv h
  obtain ⟨x, rfl, hx⟩ := avOk_J hu ha
  obtain ⟨y, rfl, hy⟩ := avOk_J hv hb
  have ix := jv_ok h0 hE hx
  have iy := jv_ok h0 hE hy
  unfold o_ldiv at h
  dsimp only at h
  split at h
  · rename_i c
    split at h
    · rename_i d
      rw [zle_iff] at c
      rw [zeq_iff] at d
      cases h
      have y1 : 1 ≤ y.toInt := by omega
      have hy0 := ne_of_pos64 y1
      refine ⟨.long (x / y), by show (if y = 0 then none else _) = _; rw [if_neg hy0.1], _, ⟨_, rfl, rfl⟩, ?_⟩
      rw [Int64.toInt_div_of_ne_right x y hy0.2]
      have e : y.toInt = (jv E b).1 := by omega
      rw [← e]
      exact ⟨Int.tdiv_le_tdiv (by omega) ix.1, Int.tdiv_le_tdiv (by omega) ix.2⟩
    · cases h
  · cases h
def o_lrem (E : List (Nat × eE)) (_ b : eV) : Option eR := match jv E b with
  | q => match zle 1 q.1 with
    | true => some (.inr (.inl (1 - q.2, q.2 - 1)))
    | false => none
theorem bn_lrem : bnOk q_lrem 1 1 1 o_lrem := by
  intro Z σ E a b u v st r h0 hE ha hb hu hv h
  obtain ⟨x, rfl, hx⟩ := avOk_J hu ha
  obtain ⟨y, rfl, hy⟩ := avOk_J hv hb
  have iy := jv_ok h0 hE hy
  unfold o_lrem at h
  dsimp only at h
  split at h
  · rename_i c
    rw [zle_iff] at c
    cases h
    have y1 : 1 ≤ y.toInt := by omega
    have hy0 := ne_of_pos64 y1
    have rx := r64 x
    have ry := r64 y
    have t := tdiv_in (x := x.toInt) y1
    refine ⟨.long (x - x / y * y), by show (if y = 0 then none else _) = _; rw [if_neg hy0.1], _, ⟨_, rfl, rfl⟩, ?_⟩
    have e : (x - x / y * y).toInt = x.toInt - x.toInt.tdiv y.toInt * y.toInt := by
      rw [Int64.toInt_sub, Int64.toInt_mul, Int64.toInt_div_of_ne_right x y hy0.2]
      rcases Int.lt_or_le x.toInt 0 with c | c
      · have := t.2 c
        rw [bm64 (z := x.toInt.tdiv y.toInt * y.toInt) (by omega), bm64 (by omega)]
      · have := t.1 c
        rw [bm64 (z := x.toInt.tdiv y.toInt * y.toInt) (by omega), bm64 (by omega)]
    rw [e]
    have t1 := t.1
    have t2 := t.2
    generalize x.toInt.tdiv y.toInt * y.toInt = uu at t1 t2 ⊢
    exact ⟨by dsimp only; omega, by dsimp only; omega⟩
  · cases h
/-- Math.max, Math.min, Math.abs -/
def t_mm (o : List (Nat × eE) → eV → eV → Option eR) (np : Nat) : tA := fun A => match A.2.1 with
  | b :: a :: S => match Nat.beq a.1 0 with
    | true => match Nat.beq b.1 0 with
      | true => match Nat.ble (catA S) 8 with
        | true => match o A.2.2.2.1 a b with
          | some r => some [(some np, rpush 0 r A.1 S A.2.2.1 A.2.2.2.1 A.2.2.2.2)]
          | none => none
        | false => none
      | false => none
    | false => none
  | _ => none
def mmAct (g : Int32 → Int32 → Int32) (np : Nat) (act : sA) : Prop := ∀ (lv : List (Nat × Value)) (x y : Int32) (st : List Value) (w : sW × Nat × Nat), (st.map fun v => v.category).sum ≤ 8 → ∀ k, act k (lv, .int y :: .int x :: st, w) = k np (lv, .int (g x y) :: st, w)
theorem tr_mm {Z : eZ} {mods : List (Nat × Nat)} {g : Int32 → Int32 → Int32} {o : List (Nat × eE) → eV → eV → Option eR} {np : Nat} {act : sA} (ha : mmAct g np act) (ho : ∀ (Z : eZ) (σ : List Int) (E : List (Nat × eE)) (a b : eV) (x y : Int32) (r : eR), σ[0]? = some 0 → gE Z σ E → avI σ a x → avI σ b y → o E a b = some r → rOk Z σ 0 r (.int (g x y))) : trOk Z mods act (t_mm o np) := by
  intro A L h σ w0 ss hg
  obtain ⟨LL, S, M, E, N⟩ := A
  obtain ⟨lv, st, w, n⟩ := ss
  unfold t_mm at h
  split at h
  · rename_i b a S' hS
    dsimp only at hS
    subst hS
    split at h
    · rename_i hka
      split at h
      · rename_i hkb
        split at h
        · rename_i hcat
          split at h
          · rename_i r hr
            cases h
            obtain ⟨⟨hN, h0⟩, hL, hSt, hM, hE, hw, hf, hl, hn⟩ := hg
            obtain ⟨y, x, st', e1, hy, hx, hS'⟩ := gS_2 hSt
            dsimp only at e1
            subst e1
            obtain ⟨x', rfl, hx'⟩ := avOk_I hx (Nat.eq_of_beq_eq_true hka)
            obtain ⟨y', rfl, hy'⟩ := avOk_I hy (Nat.eq_of_beq_eq_true hkb)
            have hr' := ho Z σ E a b x' y' r h0 hE hx' hy' hr
            obtain ⟨σ', s1, s2⟩ := rpush_ok (L := LL) (S := S') (M := M) (E := E) (N := N) (lv := lv) (st := st') (w := w) (n := n) (mods := mods) (w0 := w0) ⟨⟨hN, h0⟩, hL, hS', hM, hE, hw, hf, hl, hn⟩ hr'
            refine ⟨_, lmem, σ', (lv, .int (g x' y') :: st', w, n), s1, s2, ?_⟩
            intro k
            exact ha lv x' y' st' (w, n) (by rw [catA_ok hS']; exact Nat.le_of_ble_eq_true hcat) k
          · cases h
        · cases h
      · cases h
    · cases h
  · cases h
def o_max (E : List (Nat × eE)) (a b : eV) : Option eR := match iv E a, iv E b with
  | p, q => some (.inr (.inl (zmax p.1 q.1, zmax p.2 q.2)))
def o_min (E : List (Nat × eE)) (a b : eV) : Option eR := match iv E a, iv E b with
  | p, q => some (.inr (.inl (zmin p.1 q.1, zmin p.2 q.2)))
theorem zmax_ge {a b : Int} : a ≤ zmax a b ∧ b ≤ zmax a b := by
  unfold zmax
  split
  · rename_i c
    rw [zle_iff] at c
    exact ⟨c, Int.le_refl _⟩
  · rename_i c
    have := zle_ff c
    exact ⟨Int.le_refl _, by omega⟩
theorem zmin_le {a b : Int} : zmin a b ≤ a ∧ zmin a b ≤ b := by
  unfold zmin
  split
  · rename_i c
    rw [zle_iff] at c
    exact ⟨Int.le_refl _, c⟩
  · rename_i c
    have := zle_ff c
    exact ⟨by omega, Int.le_refl _⟩
theorem tr_mmax {Z : eZ} {mods : List (Nat × Nat)} {np : Nat} : trOk Z mods (a_mmax np) (t_mm o_max np) := by
  refine tr_mm (g := fun x y => if x < y then y else x) ?_ ?_
  · intro lv x y st w h k
    simp only [a_mmax, if_pos h]
  · intro Z σ E a b x y r h0 hE hx hy h
    have ix := iv_ok h0 hE hx
    have iy := iv_ok h0 hE hy
    cases h
    refine ⟨_, ⟨_, rfl, rfl⟩, ?_⟩
    have m1 := zmax_ge (a := (iv E a).2) (b := (iv E b).2)
    split
    · rename_i c
      rw [Int32.lt_iff_toInt_lt] at c
      exact ⟨zmax_le (by omega) iy.1, by dsimp only; omega⟩
    · rename_i c
      rw [Int32.lt_iff_toInt_lt] at c
      exact ⟨zmax_le ix.1 (by omega), by dsimp only; omega⟩
theorem tr_mmin {Z : eZ} {mods : List (Nat × Nat)} {np : Nat} : trOk Z mods (a_mmin np) (t_mm o_min np) := by
  refine tr_mm (g := fun x y => if y < x then y else x) ?_ ?_
  · intro lv x y st w h k
    simp only [a_mmin, if_pos h]
  · intro Z σ E a b x y r h0 hE hx hy h
    have ix := iv_ok h0 hE hx
    have iy := iv_ok h0 hE hy
    cases h
    refine ⟨_, ⟨_, rfl, rfl⟩, ?_⟩
    have m1 := zmin_le (a := (iv E a).1) (b := (iv E b).1)
    split
    · rename_i c
      rw [Int32.lt_iff_toInt_lt] at c
      exact ⟨by dsimp only; omega, le_zmin (by omega) iy.2⟩
    · rename_i c
      rw [Int32.lt_iff_toInt_lt] at c
      exact ⟨by dsimp only; omega, le_zmin ix.2 (by omega)⟩
end
