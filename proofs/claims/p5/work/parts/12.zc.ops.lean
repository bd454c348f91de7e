noncomputable section
-- ===== more operations =====
theorem sm31 {y : Int32} : ((y &&& 31).toBitVec.smod 32).toNat < 32 := by
  have h : (y &&& 31).toBitVec.toNat < 32 := by
    rw [Int32.toBitVec_and, BitVec.toNat_and]
    have e : (31 : Int32).toBitVec.toNat = 31 := rfl
    rw [e]
    exact Nat.lt_succ_of_le Nat.and_le_right
  have hs : (y &&& 31).toBitVec = BitVec.ofNat 32 (y &&& 31).toBitVec.toNat := by simp
  rw [hs]
  generalize (y &&& 31).toBitVec.toNat = n at h ⊢
  have : ∀ n : Fin 32, ((BitVec.ofNat 32 n.val).smod 32).toNat < 32 := by decide
  exact this ⟨n, h⟩
theorem shr_in {x y : Int32} (hx : 0 ≤ x.toInt) : 0 ≤ (x >>> (y &&& 31)).toInt ∧ (x >>> (y &&& 31)).toInt ≤ x.toInt := by
  have e : (x >>> (y &&& 31)).toInt = x.toInt >>> ((y &&& 31).toBitVec.smod 32).toNat := by
    show (x >>> (y &&& 31)).toBitVec.toInt = _
    rw [Int32.toBitVec_shiftRight, BitVec.toInt_sshiftRight']
    rfl
  rw [e, Int.shiftRight_eq_div_pow]
  refine ⟨Int.ediv_nonneg hx ?_, Int.ediv_le_self _ hx⟩
  exact Int.natCast_nonneg _
def e_shr (p _ : Int × Int) : eE := match zle 0 p.1 with
  | true => .inl (0, p.2)
  | false => fullI
theorem op_shr : opOk q_ishr (o_c2 (fun x y => x >>> (y &&& 31)) e_shr) := by
  refine op_c2 (fun _ _ _ => rfl) ?_
  intro Z p q x y h1 h2 h3 h4
  unfold e_shr
  split
  · rename_i a
    rw [zle_iff] at a
    have := shr_in (x := x) (y := y) (by omega)
    exact ⟨this.1, Int.le_trans this.2 h2⟩
  · exact r32 _
def g_ushr (x y : Int32) : Int32 := (x.toUInt32 >>> (y.toUInt32 &&& Int32.toUInt32 31)).toInt32
def e_ushr (_ q : Int × Int) : eE := match zle 1 q.1 with
  | true => match zle q.2 31 with
    | true => match zeq q.1 q.2 with
      | true => .inl (0, 2 ^ (32 - q.1.toNat) - 1)
      | false => fullI
    | false => fullI
  | false => fullI
theorem ushr_in {x y : Int32} (h1 : 1 ≤ y.toInt) (h2 : y.toInt ≤ 31) : 0 ≤ (g_ushr x y).toInt ∧ (g_ushr x y).toInt ≤ 2 ^ (32 - y.toInt.toNat) - 1 := by
  have b := and31 (y := y) (by omega) h2
  have e : (g_ushr x y).toBitVec.toNat = x.toBitVec.toNat >>> y.toInt.toNat := by
    unfold g_ushr
    rw [UInt32.toBitVec_toInt32]
    show (x.toUInt32 >>> (y.toUInt32 &&& Int32.toUInt32 31)).toNat = _
    rw [UInt32.toNat_shiftRight]
    have : (y.toUInt32 &&& Int32.toUInt32 31).toNat = y.toInt.toNat := b
    rw [this, Nat.mod_eq_of_lt (by omega)]
    rfl
  have l : x.toBitVec.toNat >>> y.toInt.toNat < 2 ^ (32 - y.toInt.toNat) := by
    rw [Nat.shiftRight_eq_div_pow, Nat.div_lt_iff_lt_mul (Nat.two_pow_pos _), ← Nat.pow_add]
    have := x.toBitVec.isLt
    rw [show 32 - y.toInt.toNat + y.toInt.toNat = 32 by omega]
    exact this
  have l2 : 2 ^ (32 - y.toInt.toNat) ≤ 2 ^ 31 := Nat.pow_le_pow_right (by decide) (by omega)
  rw [toInt_of_lt e (by omega)]
  have c : (2 : Int) ^ (32 - y.toInt.toNat) = ((2 ^ (32 - y.toInt.toNat) : Nat) : Int) := by
    rw [Int.natCast_pow]
    rfl
  rw [c]
  omega
theorem op_ushr : opOk q_iushr (o_c2 g_ushr e_ushr) := by
  refine op_c2 (fun _ _ _ => rfl) ?_
  intro Z p q x y h1 h2 h3 h4
  unfold e_ushr
  split
  · rename_i a
    split
    · rename_i b
      split
      · rename_i c
        rw [zle_iff] at a b
        rw [zeq_iff] at c
        have e : y.toInt = q.1 := by omega
        have := ushr_in (x := x) (y := y) (by omega) (by omega)
        rw [e] at this
        exact this
      · exact r32 _
    · exact r32 _
  · exact r32 _
/-- division and rest by what is not under 1 -/
theorem tdiv_in {x y : Int} (hy : 1 ≤ y) : (0 ≤ x → 0 ≤ x.tdiv y ∧ x.tdiv y ≤ x ∧ 0 ≤ x.tdiv y * y ∧ x.tdiv y * y ≤ x ∧ x - x.tdiv y * y < y) ∧ (x < 0 → x ≤ x.tdiv y ∧ x.tdiv y ≤ 0 ∧ x ≤ x.tdiv y * y ∧ x.tdiv y * y ≤ 0 ∧ -y < x - x.tdiv y * y) := by
  have pos : ∀ u : Int, 0 ≤ u → 0 ≤ u.tdiv y ∧ u.tdiv y ≤ u ∧ 0 ≤ u.tdiv y * y ∧ u.tdiv y * y ≤ u ∧ u - u.tdiv y * y < y := by
    intro u hu
    rw [Int.tdiv_eq_ediv_of_nonneg hu]
    have e := Int.emod_def u y
    have a := Int.emod_nonneg u (show y ≠ 0 by omega)
    have b := Int.emod_lt_of_pos u (show 0 < y by omega)
    have c := Int.ediv_nonneg hu (show 0 ≤ y by omega)
    have d := Int.ediv_le_self y hu
    have m := Int.mul_nonneg c (show 0 ≤ y by omega)
    rw [Int.mul_comm] at e
    refine ⟨c, d, m, by omega, by omega⟩
  refine ⟨pos x, ?_⟩
  intro hx
  have h := pos (-x) (by omega)
  rw [Int.neg_tdiv, Int.neg_mul] at h
  omega
def o_div (E : List (Nat × eE)) (a b : eV) : Option eR := match iv E b with
  | q => match zle 1 q.1 with
    | true => o_c2 (fun x y => x / y) (fun p _ => match zle 0 p.1 with
      | true => .inl (0, p.2)
      | false => match zle 0 p.2 with
        | true => .inl p
        | false => .inl (p.1, 0)) E a b
    | false => none
theorem ne_of_pos {y : Int32} (h : 1 ≤ y.toInt) : y ≠ 0 ∧ y ≠ -1 := by
  constructor
  · intro z
    rw [z] at h
    exact absurd h (by decide)
  · intro z
    rw [z] at h
    exact absurd h (by decide)
theorem op_div : opOk q_idiv o_div := by
  intro Z σ E a b x y st r h0 hE hx hy h
  unfold o_div at h
  dsimp only at h
  split at h
  · rename_i h1
    rw [zle_iff] at h1
    have iy := iv_ok h0 hE hy
    have y1 : 1 ≤ y.toInt := by omega
    have hy0 := ne_of_pos y1
    have key : opOk (fun st => match st with
        | .int y :: .int x :: r => some (.int (if 1 ≤ y.toInt then x / y else 0) :: r)
        | _ => none) (o_c2 (fun x y => if 1 ≤ y.toInt then x / y else 0) (fun p q => match zle 0 p.1 with
      | true => .inl (0, p.2)
      | false => match zle 0 p.2 with
        | true => .inl p
        | false => .inl (p.1, 0))) := by
      refine op_c2 (fun _ _ _ => rfl) ?_
      intro Z p q x y h1 h2 h3 h4
      have : (if 1 ≤ y.toInt then x / y else 0).toInt = if 1 ≤ y.toInt then x.toInt.tdiv y.toInt else 0 := by
        split
        · rename_i c
          exact Int32.toInt_div_of_ne_right x y (ne_of_pos c).2
        · rfl
      rw [this]
      have k : (if 1 ≤ y.toInt then x.toInt.tdiv y.toInt else 0) = 0 ∨ ((0 ≤ x.toInt → 0 ≤ (if 1 ≤ y.toInt then x.toInt.tdiv y.toInt else 0) ∧ (if 1 ≤ y.toInt then x.toInt.tdiv y.toInt else 0) ≤ x.toInt) ∧ (x.toInt < 0 → x.toInt ≤ (if 1 ≤ y.toInt then x.toInt.tdiv y.toInt else 0) ∧ (if 1 ≤ y.toInt then x.toInt.tdiv y.toInt else 0) ≤ 0)) := by
        split
        · rename_i c
          have := tdiv_in (x := x.toInt) c
          exact Or.inr ⟨fun z => ⟨(this.1 z).1, (this.1 z).2.1⟩, fun z => ⟨(this.2 z).1, (this.2 z).2.1⟩⟩
        · exact Or.inl rfl
      generalize (if 1 ≤ y.toInt then x.toInt.tdiv y.toInt else 0) = t at k ⊢
      split
      · rename_i a
        rw [zle_iff] at a
        exact ⟨by dsimp only; omega, by dsimp only; omega⟩
      · rename_i a
        have a := zle_ff a
        split
        · rename_i b
          rw [zle_iff] at b
          exact ⟨by omega, by omega⟩
        · rename_i b
          have b := zle_ff b
          exact ⟨by dsimp only; omega, by dsimp only; omega⟩
    have e2 : o_c2 (fun x y => if 1 ≤ y.toInt then x / y else 0) (fun p q => match zle 0 p.1 with
      | true => .inl (0, p.2)
      | false => match zle 0 p.2 with
        | true => .inl p
        | false => .inl (p.1, 0)) E a b = some r ∨ True := Or.inr trivial
    have g1 : ∀ c : Int, ((iv E b).1 = (iv E b).2) → cst2 (fun x y => x / y) c (iv E b).1 = cst2 (fun x y => if 1 ≤ y.toInt then x / y else 0) c (iv E b).1 := by
      intro c hc
      have : Int32.ofInt (iv E b).1 = y := by
        have : (iv E b).1 = y.toInt := by omega
        rw [this, Int32.ofInt_toInt]
      unfold cst2
      rw [this]
      dsimp only
      rw [if_pos y1]
    have h' : o_c2 (fun x y => if 1 ≤ y.toInt then x / y else 0) (fun p q => match zle 0 p.1 with
      | true => .inl (0, p.2)
      | false => match zle 0 p.2 with
        | true => .inl p
        | false => .inl (p.1, 0)) E a b = some r := by
      unfold o_c2 at h ⊢
      dsimp only at h ⊢
      split at h
      · split at h
        · rename_i c
          rw [zeq_iff] at c
          rw [← g1 _ c]
          exact h
        · exact h
      · exact h
    obtain ⟨z, z1, z2⟩ := key Z σ E a b x y st r h0 hE hx hy h'
    cases z1
    rw [if_pos y1] at z2
    exact ⟨x / y, by show (if y = 0 then none else _) = _; rw [if_neg hy0.1], z2⟩
  · cases h
def e_rem (p q : Int × Int) : eE := match zle 0 p.1 with
  | true => match zle p.2 (q.2 - 1) with
    | true => .inl (0, p.2)
    | false => .inl (0, q.2 - 1)
  | false => .inl (1 - q.2, q.2 - 1)
def g_rem (x y : Int32) : Int32 := x - x / y * y
def o_rem (E : List (Nat × eE)) (a b : eV) : Option eR := match iv E a, iv E b with
  | p, q => match zle 1 q.1 with
    | true => match zeq p.1 p.2 with
      | true => match zeq q.1 q.2 with
        | true => some (.inl (0, cst2 g_rem p.1 q.1))
        | false => some (.inr (e_rem p q))
      | false => some (.inr (e_rem p q))
    | false => none
theorem op_rem : opOk q_irem o_rem := by
  intro Z σ E a b x y st r h0 hE hx hy h
  have ix := iv_ok h0 hE hx
  have iy := iv_ok h0 hE hy
  unfold o_rem at h
  dsimp only at h
  split at h
  · rename_i h1
    rw [zle_iff] at h1
    have y1 : 1 ≤ y.toInt := by omega
    have hy0 := ne_of_pos y1
    refine ⟨g_rem x y, by show (if y = 0 then none else _) = _; rw [if_neg hy0.1]; rfl, ?_⟩
    have rx := r32 x
    have ry := r32 y
    have t := tdiv_in (x := x.toInt) y1
    have e : (g_rem x y).toInt = x.toInt - x.toInt.tdiv y.toInt * y.toInt := by
      unfold g_rem
      rw [Int32.toInt_sub, Int32.toInt_mul, Int32.toInt_div_of_ne_right x y hy0.2]
      rcases Int.lt_or_le x.toInt 0 with c | c
      · have := t.2 c
        rw [bm32 (z := x.toInt.tdiv y.toInt * y.toInt) (by omega), bm32 (by omega)]
      · have := t.1 c
        rw [bm32 (z := x.toInt.tdiv y.toInt * y.toInt) (by omega), bm32 (by omega)]
    have key : evOk Z (g_rem x y).toInt (e_rem (iv E a) (iv E b)) := by
      rw [e]
      have t1 := t.1
      have t2 := t.2
      generalize x.toInt.tdiv y.toInt * y.toInt = u at t1 t2 ⊢
      unfold e_rem
      split
      · rename_i p
        rw [zle_iff] at p
        split
        · exact ⟨by dsimp only; omega, by dsimp only; omega⟩
        · exact ⟨by dsimp only; omega, by dsimp only; omega⟩
      · exact ⟨by dsimp only; omega, by dsimp only; omega⟩
    split at h
    · rename_i c
      split at h
      · rename_i d
        rw [zeq_iff] at c d
        cases h
        exact ⟨0, h0, g_rem x y, rfl, by rw [Int.zero_add]; exact cst2_ok (by omega) (by omega)⟩
      · cases h
        exact ⟨_, ⟨_, rfl, rfl⟩, key⟩
    · cases h
      exact ⟨_, ⟨_, rfl, rfl⟩, key⟩
  · cases h
end
