noncomputable section
theorem zB_inr {α β : Type} {r : zE ⊕ α} {f : α → zE ⊕ β} {b : β} (h : zB r f = .inr b) : ∃ a, r = .inr a ∧ f a = .inr b := by
  cases r with
  | inl e => cases h
  | inr a => exact ⟨a, rfl, h⟩
theorem zOK_01 {α : Type} {r : zE ⊕ α} {b : Int} {P : zE → Prop} {Q : α → Prop} (h : zOK r b P Q) : b = 0 ∨ b = 1 := by
  cases r with
  | inl e => exact Or.inl h.1
  | inr a => exact Or.inr h.1
/-- a later token -/
def tkM (B : Nat → Int) (n L : Nat) (S T : tS) : Prop := ∃ p, S.2.2.2.2 ≤ p ∧ p ≤ n ∧ T = lexT B n L p
section MON
variable {B : Nat → Int} {n L : Nat}
theorem tkM_nx {S : tS} (h : tkG B n L S) : tkM B n L S (nxT B n L S) := ⟨S.2.2.2.2, Nat.le_refl _, tkG_n h, rfl⟩
theorem tkM_G {S T : tS} (h : tkM B n L S T) : tkG B n L T := by
  obtain ⟨p, _, h2, h3⟩ := h
  exact ⟨p, h2, h3⟩
theorem tkM_tr {S T U : tS} (h : tkM B n L S T) (g : tkM B n L T U) : tkM B n L S U := by
  obtain ⟨p, h1, h2, rfl⟩ := h
  obtain ⟨q, g1, g2, g3⟩ := g
  have := (lexT_nx B (L := L) h2).1
  exact ⟨q, by omega, g2, g3⟩
theorem tkM_num {lo hi : Int} {S : tS} {q : Int × tS} (h : tkG B n L S) (e : zNum B n L lo hi S = .inr q) : tkM B n L S q.2 := by
  rw [(zNum_r e).1]
  exact tkM_nx h
theorem tkM_sig {R N : Nat → Int} {S : tS} {q : Int × tS} (h : tkG B n L S) (e : zSig B n L R N S = .inr q) : tkM B n L S q.2 := by
  rw [zSig_r e]
  exact tkM_nx h
theorem tkM_new {R N : Nat → Int} {S : tS} {q : Int × tS} (h : tkG B n L S) (e : zNew B n L R N S = .inr q) : tkM B n L S q.2 := by
  rw [zNew_r e]
  exact tkM_nx h
theorem zSig_b {R N : Nat → Int} {S : tS} {q : Int × tS} (e : zSig B n L R N S = .inr q) : 0 ≤ q.1 ∧ q.1 < R 1 := by
  unfold zSig at e
  split at e
  · cases e
  · split at e
    · cases e
    · rename_i h1 h2
      cases e
      have := fnd_b N 0 S.2.2.2.1 (R 1).toNat 0
      show 0 ≤ fnd N 0 S.2.2.2.1 (R 1).toNat 0 ∧ fnd N 0 S.2.2.2.1 (R 1).toNat 0 < R 1
      omega
/-- what the numbers of a plan keep to -/
def zI (R : Nat → Int) : Prop := (1 ≤ R 0 ∧ R 0 ≤ 12) ∧ (0 ≤ R 1 ∧ R 1 ≤ 10) ∧ (0 ≤ R 2 ∧ R 2 ≤ 6) ∧ (0 ≤ R 3 ∧ R 3 ≤ 8) ∧ ∀ s : Int, 0 ≤ s → zCn R s 36 ≤ 6
theorem zCn_eq {R R' : Nat → Int} (s : Int) : ∀ k, (∀ j, j < k → R' (46 + j) = R (46 + j)) → zCn R' s k = zCn R s k := by
  intro k
  induction k with
  | zero => intro _; rfl
  | succ k ih =>
    intro h
    show zCn R' s k + (if R' (46 + k) = s then 1 else 0) = zCn R s k + (if R (46 + k) = s then 1 else 0)
    rw [ih (fun j hj => h j (by omega)), h k (by omega)]
/-- one place more -/
theorem zCn_put {R : Nat → Int} {p : Nat} {v : Int} (s : Int) (hv : 0 ≤ s) (he : R (46 + p) = -1) : ∀ k, zCn (zU R (46 + p) v) s k = zCn R s k + (if p < k ∧ v = s then 1 else 0) := by
  intro k
  induction k with
  | zero =>
    show (0 : Int) = 0 + (if p < 0 ∧ v = s then 1 else 0)
    rw [if_neg (by omega)]
    rfl
  | succ k ih =>
    show zCn (zU R (46 + p) v) s k + (if zU R (46 + p) v (46 + k) = s then 1 else 0) = zCn R s k + (if R (46 + k) = s then 1 else 0) + (if p < k + 1 ∧ v = s then 1 else 0)
    rw [ih]
    by_cases e : k = p
    · rw [e, zU_s, he, if_neg (show ¬ (p < p ∧ v = s) by omega), if_neg (show ¬ ((-1 : Int) = s) by omega)]
      by_cases c : v = s
      · rw [if_pos c, if_pos (show p < p + 1 ∧ v = s from ⟨by omega, c⟩)]
      · rw [if_neg c, if_neg (show ¬ (p < p + 1 ∧ v = s) from fun h => c h.2)]
    · rw [zU_n _ _ (show 46 + k ≠ 46 + p by omega)]
      by_cases c : p < k ∧ v = s
      · rw [if_pos c, if_pos (show p < k + 1 ∧ v = s from ⟨by omega, c.2⟩)]
        omega
      · rw [if_neg c, if_neg (show ¬ (p < k + 1 ∧ v = s) from fun h => c ⟨by omega, h.2⟩)]
        omega
theorem zRows_i {S : tS} {R N : Nat → Int} {hr hk hp : Int} {Y : zZ} (hG : tkG B n L S) (hI : zI R) (h : zRows B n L (S, R, N, hr, hk, hp) = .inr Y) : tkM B n L S Y.1 ∧ zI Y.2.1 := by
  unfold zRows at h
  dsimp only at h
  split at h
  · cases h
  · obtain ⟨q, e1, e2⟩ := zB_inr h
    cases e2
    obtain ⟨_, b1, b2⟩ := zNum_r e1
    obtain ⟨i0, i1, i2, i3, i4⟩ := hI
    refine ⟨tkM_tr (tkM_nx hG) (tkM_num (tkG_nx hG) e1), ⟨by show 1 ≤ zU R 0 q.1 0; rw [zU_s]; exact b1, by show zU R 0 q.1 0 ≤ 12; rw [zU_s]; exact b2⟩, ?_, ?_, ?_, ?_⟩
    · show 0 ≤ zU R 0 q.1 1 ∧ zU R 0 q.1 1 ≤ 10
      rw [zU_n _ _ (by decide)]
      exact i1
    · show 0 ≤ zU R 0 q.1 2 ∧ zU R 0 q.1 2 ≤ 6
      rw [zU_n _ _ (by decide)]
      exact i2
    · show 0 ≤ zU R 0 q.1 3 ∧ zU R 0 q.1 3 ≤ 8
      rw [zU_n _ _ (by decide)]
      exact i3
    · intro s hs
      show zCn (zU R 0 q.1) s 36 ≤ 6
      rw [zCn_eq (R := R) s 36 (fun j hj => zU_n _ _ (by omega))]
      exact i4 s hs
theorem zKeeps_i {S : tS} {R N : Nat → Int} {hr hk hp : Int} {Y : zZ} (hG : tkG B n L S) (hI : zI R) (h : zKeeps B n L (S, R, N, hr, hk, hp) = .inr Y) : tkM B n L S Y.1 ∧ zI Y.2.1 := by
  unfold zKeeps at h
  dsimp only at h
  split at h
  · cases h
  · obtain ⟨q, e1, e2⟩ := zB_inr h
    cases e2
    obtain ⟨i0, i1, i2, i3, i4⟩ := hI
    refine ⟨tkM_tr (tkM_nx hG) (tkM_num (tkG_nx hG) e1), ?_, ?_, ?_, ?_, ?_⟩
    · show (1 ≤ (zU R 4 q.1) 0 ∧ (zU R 4 q.1) 0 ≤ 12)
      rw [zU_n _ _ (by omega)]
      exact i0
    · show (0 ≤ (zU R 4 q.1) 1 ∧ (zU R 4 q.1) 1 ≤ 10)
      rw [zU_n _ _ (by omega)]
      exact i1
    · show (0 ≤ (zU R 4 q.1) 2 ∧ (zU R 4 q.1) 2 ≤ 6)
      rw [zU_n _ _ (by omega)]
      exact i2
    · show (0 ≤ (zU R 4 q.1) 3 ∧ (zU R 4 q.1) 3 ≤ 8)
      rw [zU_n _ _ (by omega)]
      exact i3
    · intro s hs
      show zCn (zU R 4 q.1) s 36 ≤ 6
      rw [zCn_eq (R := R) s 36 (fun j hj => by rw [zU_n _ _ (by omega)])]
      exact i4 s hs
theorem zHeir_i {S : tS} {R N : Nat → Int} {hr hk hp : Int} {Y : zZ} (hG : tkG B n L S) (hI : zI R) (h : zHeir B n L (S, R, N, hr, hk, hp) = .inr Y) : tkM B n L S Y.1 ∧ zI Y.2.1 := by
  unfold zHeir at h
  dsimp only at h
  obtain ⟨a, e1, h⟩ := zB_inr h
  split at h
  · cases h
  · obtain ⟨b, e2, h⟩ := zB_inr h
    split at h
    · cases h
    · cases h
      obtain ⟨i0, i1, i2, i3, i4⟩ := hI
      have a1 := zSig_b e1
      have t1 := tkM_tr (tkM_nx hG) (tkM_sig (tkG_nx hG) e1)
      refine ⟨tkM_tr t1 (tkM_sig (tkM_G t1) e2), ?_, ?_, ?_, ?_, ?_⟩
      · show (1 ≤ (zU R (26 + a.1.toNat) b.1) 0 ∧ (zU R (26 + a.1.toNat) b.1) 0 ≤ 12)
        rw [zU_n _ _ (by omega)]
        exact i0
      · show (0 ≤ (zU R (26 + a.1.toNat) b.1) 1 ∧ (zU R (26 + a.1.toNat) b.1) 1 ≤ 10)
        rw [zU_n _ _ (by omega)]
        exact i1
      · show (0 ≤ (zU R (26 + a.1.toNat) b.1) 2 ∧ (zU R (26 + a.1.toNat) b.1) 2 ≤ 6)
        rw [zU_n _ _ (by omega)]
        exact i2
      · show (0 ≤ (zU R (26 + a.1.toNat) b.1) 3 ∧ (zU R (26 + a.1.toNat) b.1) 3 ≤ 8)
        rw [zU_n _ _ (by omega)]
        exact i3
      · intro s hs
        show zCn (zU R (26 + a.1.toNat) b.1) s 36 ≤ 6
        rw [zCn_eq (R := R) s 36 (fun j hj => by rw [zU_n _ _ (by omega)])]
        exact i4 s hs
theorem zLovers_i {S : tS} {R N : Nat → Int} {hr hk hp : Int} {Y : zZ} (hG : tkG B n L S) (hI : zI R) (h : zLovers B n L (S, R, N, hr, hk, hp) = .inr Y) : tkM B n L S Y.1 ∧ zI Y.2.1 := by
  unfold zLovers at h
  dsimp only at h
  split at h
  · cases h
  · rename_i h8
    obtain ⟨a, e1, h⟩ := zB_inr h
    obtain ⟨b, e2, h⟩ := zB_inr h
    split at h
    · cases h
    · cases h
      obtain ⟨i0, i1, i2, i3, i4⟩ := hI
      have a1 := zSig_b e1
      have a2 := zSig_b e2
      have t1 := tkM_tr (tkM_nx hG) (tkM_sig (tkG_nx hG) e1)
      refine ⟨tkM_tr t1 (tkM_sig (tkM_G t1) e2), ?_, ?_, ?_, ?_, ?_⟩
      · show (1 ≤ (zU (zU (zU R (36 + a.1.toNat) (zOr (R (36 + a.1.toNat)) (zSh 1 b.1))) (36 + b.1.toNat) (zOr (R (36 + b.1.toNat)) (zSh 1 a.1))) 3 (R 3 + 1)) 0 ∧ (zU (zU (zU R (36 + a.1.toNat) (zOr (R (36 + a.1.toNat)) (zSh 1 b.1))) (36 + b.1.toNat) (zOr (R (36 + b.1.toNat)) (zSh 1 a.1))) 3 (R 3 + 1)) 0 ≤ 12)
        rw [zU_n _ _ (by omega), zU_n _ _ (by omega), zU_n _ _ (by omega)]
        exact i0
      · show (0 ≤ (zU (zU (zU R (36 + a.1.toNat) (zOr (R (36 + a.1.toNat)) (zSh 1 b.1))) (36 + b.1.toNat) (zOr (R (36 + b.1.toNat)) (zSh 1 a.1))) 3 (R 3 + 1)) 1 ∧ (zU (zU (zU R (36 + a.1.toNat) (zOr (R (36 + a.1.toNat)) (zSh 1 b.1))) (36 + b.1.toNat) (zOr (R (36 + b.1.toNat)) (zSh 1 a.1))) 3 (R 3 + 1)) 1 ≤ 10)
        rw [zU_n _ _ (by omega), zU_n _ _ (by omega), zU_n _ _ (by omega)]
        exact i1
      · show (0 ≤ (zU (zU (zU R (36 + a.1.toNat) (zOr (R (36 + a.1.toNat)) (zSh 1 b.1))) (36 + b.1.toNat) (zOr (R (36 + b.1.toNat)) (zSh 1 a.1))) 3 (R 3 + 1)) 2 ∧ (zU (zU (zU R (36 + a.1.toNat) (zOr (R (36 + a.1.toNat)) (zSh 1 b.1))) (36 + b.1.toNat) (zOr (R (36 + b.1.toNat)) (zSh 1 a.1))) 3 (R 3 + 1)) 2 ≤ 6)
        rw [zU_n _ _ (by omega), zU_n _ _ (by omega), zU_n _ _ (by omega)]
        exact i2
      · show 0 ≤ (zU (zU (zU R (36 + a.1.toNat) (zOr (R (36 + a.1.toNat)) (zSh 1 b.1))) (36 + b.1.toNat) (zOr (R (36 + b.1.toNat)) (zSh 1 a.1))) 3 (R 3 + 1)) 3 ∧ (zU (zU (zU R (36 + a.1.toNat) (zOr (R (36 + a.1.toNat)) (zSh 1 b.1))) (36 + b.1.toNat) (zOr (R (36 + b.1.toNat)) (zSh 1 a.1))) 3 (R 3 + 1)) 3 ≤ 8
        rw [zU_s]
        omega
      · intro s hs
        show zCn (zU (zU (zU R (36 + a.1.toNat) (zOr (R (36 + a.1.toNat)) (zSh 1 b.1))) (36 + b.1.toNat) (zOr (R (36 + b.1.toNat)) (zSh 1 a.1))) 3 (R 3 + 1)) s 36 ≤ 6
        rw [zCn_eq (R := R) s 36 (fun j hj => by rw [zU_n _ _ (by omega), zU_n _ _ (by omega), zU_n _ _ (by omega)])]
        exact i4 s hs
theorem zPlank_i {S : tS} {R N : Nat → Int} {hr hk hp : Int} {Y : zZ} (hG : tkG B n L S) (hI : zI R) (h : zPlank B n L (S, R, N, hr, hk, hp) = .inr Y) : tkM B n L S Y.1 ∧ zI Y.2.1 := by
  unfold zPlank at h
  dsimp only at h
  obtain ⟨a, e1, h⟩ := zB_inr h
  split at h
  · cases h
  · rename_i h6
    obtain ⟨r, e2, h⟩ := zB_inr h
    obtain ⟨k, e3, h⟩ := zB_inr h
    split at h
    · cases h
    · rename_i hm
      cases h
      obtain ⟨i0, i1, i2, i3, i4⟩ := hI
      have a1 := zSig_b e1
      have t1 := tkM_tr (tkM_nx hG) (tkM_sig (tkG_nx hG) e1)
      have t2 := tkM_tr t1 (tkM_num (tkM_G t1) e2)
      obtain ⟨_, r1, r2⟩ := zNum_r e2
      obtain ⟨_, k1, k2⟩ := zNum_r e3
      refine ⟨tkM_tr t2 (tkM_num (tkM_G t2) e3), ?_, ?_, ?_, ?_, ?_⟩
      · show (1 ≤ (zU R (46 + (3 * r.1 + k.1).toNat) a.1) 0 ∧ (zU R (46 + (3 * r.1 + k.1).toNat) a.1) 0 ≤ 12)
        rw [zU_n _ _ (by omega)]
        exact i0
      · show (0 ≤ (zU R (46 + (3 * r.1 + k.1).toNat) a.1) 1 ∧ (zU R (46 + (3 * r.1 + k.1).toNat) a.1) 1 ≤ 10)
        rw [zU_n _ _ (by omega)]
        exact i1
      · show (0 ≤ (zU R (46 + (3 * r.1 + k.1).toNat) a.1) 2 ∧ (zU R (46 + (3 * r.1 + k.1).toNat) a.1) 2 ≤ 6)
        rw [zU_n _ _ (by omega)]
        exact i2
      · show (0 ≤ (zU R (46 + (3 * r.1 + k.1).toNat) a.1) 3 ∧ (zU R (46 + (3 * r.1 + k.1).toNat) a.1) 3 ≤ 8)
        rw [zU_n _ _ (by omega)]
        exact i3
      · intro s hs
        show zCn (zU R (46 + (3 * r.1 + k.1).toNat) a.1) s 36 ≤ 6
        rw [zCn_put s hs (by omega)]
        by_cases c : a.1 = s
        · have := i4 s hs
          rw [c] at h6
          split <;> omega
        · rw [if_neg (fun hh => c hh.2), Int.add_zero]
          exact i4 s hs
theorem zLoad_i {S : tS} {R N : Nat → Int} {hr hk hp : Int} {Y : zZ} (hG : tkG B n L S) (hI : zI R) (h : zLoad B n L (S, R, N, hr, hk, hp) = .inr Y) : tkM B n L S Y.1 ∧ zI Y.2.1 := by
  unfold zLoad at h
  dsimp only at h
  split at h
  · cases h
  · rename_i h6
    obtain ⟨a, e1, h⟩ := zB_inr h
    obtain ⟨e, e2, h⟩ := zB_inr h
    obtain ⟨m, e3, h⟩ := zB_inr h
    cases h
    obtain ⟨i0, i1, i2, i3, i4⟩ := hI
    have t1 := tkM_tr (tkM_nx hG) (tkM_new (tkG_nx hG) e1)
    have t2 := tkM_tr t1 (tkM_num (tkM_G t1) e2)
    refine ⟨tkM_tr t2 (tkM_num (tkM_G t2) e3), ?_, ?_, ?_, ?_, ?_⟩
    · show (1 ≤ (zU (zU (zU R (82 + (R 2).toNat) e.1) (88 + (R 2).toNat) m.1) 2 (R 2 + 1)) 0 ∧ (zU (zU (zU R (82 + (R 2).toNat) e.1) (88 + (R 2).toNat) m.1) 2 (R 2 + 1)) 0 ≤ 12)
      rw [zU_n _ _ (by omega), zU_n _ _ (by omega), zU_n _ _ (by omega)]
      exact i0
    · show (0 ≤ (zU (zU (zU R (82 + (R 2).toNat) e.1) (88 + (R 2).toNat) m.1) 2 (R 2 + 1)) 1 ∧ (zU (zU (zU R (82 + (R 2).toNat) e.1) (88 + (R 2).toNat) m.1) 2 (R 2 + 1)) 1 ≤ 10)
      rw [zU_n _ _ (by omega), zU_n _ _ (by omega), zU_n _ _ (by omega)]
      exact i1
    · show 0 ≤ (zU (zU (zU R (82 + (R 2).toNat) e.1) (88 + (R 2).toNat) m.1) 2 (R 2 + 1)) 2 ∧ (zU (zU (zU R (82 + (R 2).toNat) e.1) (88 + (R 2).toNat) m.1) 2 (R 2 + 1)) 2 ≤ 6
      rw [zU_s]
      omega
    · show (0 ≤ (zU (zU (zU R (82 + (R 2).toNat) e.1) (88 + (R 2).toNat) m.1) 2 (R 2 + 1)) 3 ∧ (zU (zU (zU R (82 + (R 2).toNat) e.1) (88 + (R 2).toNat) m.1) 2 (R 2 + 1)) 3 ≤ 8)
      rw [zU_n _ _ (by omega), zU_n _ _ (by omega), zU_n _ _ (by omega)]
      exact i3
    · intro s hs
      show zCn (zU (zU (zU R (82 + (R 2).toNat) e.1) (88 + (R 2).toNat) m.1) 2 (R 2 + 1)) s 36 ≤ 6
      rw [zCn_eq (R := R) s 36 (fun j hj => by rw [zU_n _ _ (by omega), zU_n _ _ (by omega), zU_n _ _ (by omega)])]
      exact i4 s hs
theorem zSgR_o {R : Nat → Int} {e m : Int} {fg : Bool} {j : Nat} (h1 : j ≠ 1) (h2 : j ≠ 25) (h3 : j ≠ 5 + (R 1).toNat) (h4 : j ≠ 15 + (R 1).toNat) : zSgR R e m fg j = R j := by
  cases fg
  · show zU (zU (zU R (5 + (R 1).toNat) e) (15 + (R 1).toNat) m) 1 (R 1 + 1) j = R j
    rw [zU_n _ _ h1, zU_n _ _ h4, zU_n _ _ h3]
  · show zU (zU (zU (zU R (5 + (R 1).toNat) e) (15 + (R 1).toNat) m) 25 (zOr (R 25) (zSh 1 (R 1)))) 1 (R 1 + 1) j = R j
    rw [zU_n _ _ h1, zU_n _ _ h2, zU_n _ _ h4, zU_n _ _ h3]
theorem zSgR_1 {R : Nat → Int} {e m : Int} {fg : Bool} : zSgR R e m fg 1 = R 1 + 1 := by
  cases fg <;> exact zU_s _ _ _
theorem zSgR_i {R : Nat → Int} {e m : Int} {fg : Bool} (h10 : R 1 ≠ 10) (hI : zI R) : zI (zSgR R e m fg) := by
  obtain ⟨i0, i1, i2, i3, i4⟩ := hI
  refine ⟨?_, ?_, ?_, ?_, fun s hs => ?_⟩
  · rw [zSgR_o (by omega) (by omega) (by omega) (by omega)]
    exact i0
  · rw [zSgR_1]
    omega
  · rw [zSgR_o (by omega) (by omega) (by omega) (by omega)]
    exact i2
  · rw [zSgR_o (by omega) (by omega) (by omega) (by omega)]
    exact i3
  · rw [zCn_eq (R := R) s 36 (fun j hj => zSgR_o (by omega) (by omega) (by omega) (by omega))]
    exact i4 s hs
theorem zSigner_i {S : tS} {R N : Nat → Int} {hr hk hp : Int} {Y : zZ} (hG : tkG B n L S) (hI : zI R) (h : zSigner B n L (S, R, N, hr, hk, hp) = .inr Y) : tkM B n L S Y.1 ∧ zI Y.2.1 := by
  unfold zSigner at h
  dsimp only at h
  split at h
  · cases h
  · rename_i h10
    obtain ⟨a, e1, h⟩ := zB_inr h
    obtain ⟨e, e2, h⟩ := zB_inr h
    obtain ⟨m, e3, h⟩ := zB_inr h
    have t1 := tkM_tr (tkM_nx hG) (tkM_new (tkG_nx hG) e1)
    have t2 := tkM_tr t1 (tkM_num (tkM_G t1) e2)
    have t3 := tkM_tr t2 (tkM_num (tkM_G t2) e3)
    split at h
    · cases h
      exact ⟨tkM_tr t3 (tkM_nx (tkM_G t3)), (show zI (zSgR R e.1 m.1 true) from zSgR_i h10 hI)⟩
    · cases h
      exact ⟨t3, (show zI (zSgR R e.1 m.1 false) from zSgR_i h10 hI)⟩
theorem zLine_i {S : tS} {R N : Nat → Int} {hr hk hp : Int} {Y : zZ} (hG : tkG B n L S) (hI : zI R) (h : zLine B n L (S, R, N, hr, hk, hp) = .inr Y) : tkM B n L S Y.1 ∧ zI Y.2.1 := by
  unfold zLine at h
  dsimp only at h
  split at h
  · cases h
  · split at h
    · exact zRows_i hG hI h
    · split at h
      · exact zSigner_i hG hI h
      · split at h
        · exact zHeir_i hG hI h
        · split at h
          · exact zLovers_i hG hI h
          · split at h
            · exact zPlank_i hG hI h
            · split at h
              · exact zLoad_i hG hI h
              · split at h
                · exact zKeeps_i hG hI h
                · cases h
theorem zLine_4 {S : tS} {R N : Nat → Int} {hr hk hp : Int} {Y : zZ} (h : zLine B n L (S, R, N, hr, hk, hp) = .inr Y) : S.1 = 4 := by
  unfold zLine at h
  dsimp only at h
  split at h
  · cases h
  · rename_i c
    omega
theorem zI_0 : zI zR0 := by
  refine ⟨by decide +kernel, by decide +kernel, by decide +kernel, by decide +kernel, fun s hs => ?_⟩
  have : ∀ k, k ≤ 36 → zCn zR0 s k = 0 := by
    intro k
    induction k with
    | zero => intro _; rfl
    | succ k ih =>
      intro hk
      have e : zR0 (46 + k) = -1 := by
        unfold zR0
        rw [if_neg (by omega), if_neg (by omega), if_pos (by omega)]
      show zCn zR0 s k + (if zR0 (46 + k) = s then 1 else 0) = 0
      rw [ih (by omega), e, if_neg (by omega)]
      rfl
  rw [this 36 (by omega)]
  omega
end MON
end
