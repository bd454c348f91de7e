noncomputable section
-- ===== comparisons of two values over one unknown =====
def n_s (f : Int → Int → Bool) (n : nB) : nB := fun E a b => match Nat.beq a.2.1 b.2.1 with
  | true => match f a.2.2 b.2.2 with
    | true => some E
    | false => none
  | false => n E a b
def zne (a b : Int) : Bool := match zeq a b with
  | true => false
  | false => true
def zlt (a b : Int) : Bool := zle (a + 1) b
def n2_eq : nB := n_s zeq n_eq
def n2_ne : nB := n_s zne n_ne
def n2_lt : nB := n_s zlt n_lt
def n2_le : nB := n_s zle n_le
def n2_gt : nB := fun E u v => n2_lt E v u
def n2_ge : nB := fun E u v => n2_le E v u
theorem ns_ok {Z : eZ} {σ : List Int} {E : List (Nat × eE)} {f : Int → Int → Bool} {n : nB} {u v : eV} {x y : Int32} (hE : gE Z σ E) (hx : avI σ u x) (hy : avI σ v y) (hf : ∀ z : Int, x.toInt = z + u.2.2 → y.toInt = z + v.2.2 → f u.2.2 v.2.2 = true) (hn : ∃ E', n E u v = some E' ∧ gE Z σ E') : ∃ E', n_s f n E u v = some E' ∧ gE Z σ E' := by
  unfold n_s
  split
  · rename_i c
    obtain ⟨z, a1, a2⟩ := hx
    obtain ⟨z', b1, b2⟩ := hy
    rw [Nat.eq_of_beq_eq_true c, b1] at a1
    cases a1
    rw [hf _ a2 b2]
    exact ⟨E, rfl, hE⟩
  · exact hn
theorem zne_iff {a b : Int} : zne a b = true ↔ a ≠ b := by
  unfold zne
  split
  · rename_i h
    rw [zeq_iff] at h
    simp [h]
  · rename_i h
    constructor
    · intro _ z
      rw [zeq_iff.mpr z] at h
      cases h
    · intro _; rfl
theorem cm2_eq : cmOk b_eq n2_eq n2_ne := by
  intro Z σ E u v x y h0 hE hx hy
  have k := cmz_eq Z σ E u v x y h0 hE hx hy
  rw [b_eq_d] at k ⊢
  refine ⟨fun h => ns_ok hE hx hy (fun z e1 e2 => ?_) (k.1 h), fun h => ns_ok hE hx hy (fun z e1 e2 => ?_) (k.2 h)⟩
  · have := of_decide_eq_true h
    rw [this] at e1
    rw [zeq_iff]
    omega
  · have := of_decide_eq_false h
    rw [zne_iff]
    intro e
    exact this (Int32.toInt_inj.mp (by omega))
theorem cm2_ne : cmOk b_ne n2_ne n2_eq := by
  intro Z σ E u v x y h0 hE hx hy
  have k := cmz_ne Z σ E u v x y h0 hE hx hy
  rw [b_ne_d] at k ⊢
  refine ⟨fun h => ns_ok hE hx hy (fun z e1 e2 => ?_) (k.1 h), fun h => ns_ok hE hx hy (fun z e1 e2 => ?_) (k.2 h)⟩
  · have := of_decide_eq_true h
    rw [zne_iff]
    intro e
    exact this (Int32.toInt_inj.mp (by omega))
  · have := of_decide_eq_false h
    rw [Decidable.not_not] at this
    rw [this] at e1
    rw [zeq_iff]
    omega
theorem cm2_lt : cmOk b_lt n2_lt n2_ge := by
  intro Z σ E u v x y h0 hE hx hy
  have k := cmz_lt Z σ E u v x y h0 hE hx hy
  rw [b_lt_d] at k ⊢
  refine ⟨fun h => ns_ok hE hx hy (fun z e1 e2 => ?_) (k.1 h), fun h => ns_ok hE hy hx (fun z e1 e2 => ?_) (k.2 h)⟩
  · have := of_decide_eq_true h
    rw [Int32.lt_iff_toInt_lt] at this
    unfold zlt
    rw [zle_iff]
    omega
  · have := of_decide_eq_false h
    rw [Int32.lt_iff_toInt_lt] at this
    rw [zle_iff]
    omega
theorem cm2_ge : cmOk b_ge n2_ge n2_lt := by
  intro Z σ E u v x y h0 hE hx hy
  have k := cmz_ge Z σ E u v x y h0 hE hx hy
  rw [b_ge_d] at k ⊢
  refine ⟨fun h => ns_ok hE hy hx (fun z e1 e2 => ?_) (k.1 h), fun h => ns_ok hE hx hy (fun z e1 e2 => ?_) (k.2 h)⟩
  · have := of_decide_eq_true h
    rw [Int32.le_iff_toInt_le] at this
    rw [zle_iff]
    omega
  · have := of_decide_eq_false h
    rw [Int32.le_iff_toInt_le] at this
    unfold zlt
    rw [zle_iff]
    omega
theorem cm2_gt : cmOk b_gt n2_gt n2_le := fun Z σ E u v x y h0 hE hx hy => cm2_lt Z σ E v u y x h0 hE hy hx
theorem cm2_le : cmOk b_le n2_le n2_gt := fun Z σ E u v x y h0 hE hx hy => cm2_ge Z σ E v u y x h0 hE hy hx
end
