noncomputable section
-- ===== a BRIDGE by spec =====
abbrev zE := Int × Int
/-- a step that may end in a fault, and what follows it -/
def zB {α β : Type} (r : zE ⊕ α) (f : α → zE ⊕ β) : zE ⊕ β := match r with
  | .inl e => .inl e
  | .inr a => f a
theorem zB_l {α β : Type} (e : zE) (f : α → zE ⊕ β) : zB (.inl e) f = .inl e := rfl
theorem zB_r {α β : Type} (a : α) (f : α → zE ⊕ β) : zB (.inr a) f = f a := rfl
/-- what a reader answers: 0 and the fault, or 1 and what is so then -/
def zOK {α : Type} (r : zE ⊕ α) (b : Int) (P : zE → Prop) (Q : α → Prop) : Prop := match r with
  | .inl e => b = 0 ∧ P e
  | .inr a => b = 1 ∧ Q a
theorem zOK_l {α : Type} {e : zE} {b : Int} {P : zE → Prop} {Q : α → Prop} : zOK (.inl e) b P Q = (b = 0 ∧ P e) := rfl
theorem zOK_r {α : Type} {a : α} {b : Int} {P : zE → Prop} {Q : α → Prop} : zOK (.inr a) b P Q = (b = 1 ∧ Q a) := rfl
def zU (R : Nat → Int) (i : Nat) (v : Int) : Nat → Int := fun j => if j = i then v else R j
theorem zU_s (R : Nat → Int) (i : Nat) (v : Int) : zU R i v i = v := if_pos rfl
theorem zU_n (R : Nat → Int) {i j : Nat} (v : Int) (h : j ≠ i) : zU R i v j = R j := if_neg h
/-- bits, as the machine has them -/
def zOr (a b : Int) : Int := (Int32.ofInt a ||| Int32.ofInt b).toInt
def zSh (a b : Int) : Int := (Int32.ofInt a <<< (Int32.ofInt b &&& 31)).toInt
def zShr (a b : Int) : Int := (Int32.ofInt a >>> (Int32.ofInt b &&& 31)).toInt
def zAnd (a b : Int) : Int := (Int32.ofInt a &&& Int32.ofInt b).toInt
def zHas (a b : Int) : Int := zAnd (zShr a b) 1
theorem zOr_R (a b : Int) : R32 (zOr a b) := R32_of _
theorem zSh_R (a b : Int) : R32 (zSh a b) := R32_of _
theorem zHas_01 (a b : Int) : zHas a b = 0 ∨ zHas a b = 1 := by
  have h : ((Int32.ofInt (zShr a b) &&& Int32.ofInt 1)).toBitVec.toNat ≤ 1 := by
    rw [Int32.toBitVec_and, BitVec.toNat_and]
    exact Nat.and_le_right
  show (Int32.ofInt (zShr a b) &&& Int32.ofInt 1).toInt = 0 ∨ (Int32.ofInt (zShr a b) &&& Int32.ofInt 1).toInt = 1
  rw [Int32.toInt, BitVec.toInt_eq_toNat_of_lt (by omega)]
  omega
section HXB
variable {tbl : List (Nat × sA)} {Po : sR → Prop} {pc np : Nat} {lv : List (Nat × Value)} {st : List Value} {w : sW}
theorem x_ior {a b : Int} (ha : t_get tbl pc = some (a_stk q_ior np)) (g : Tp tbl Po np (lv, hI (zOr a b) :: st, w, 0, 0)) : Tp tbl Po pc (lv, hI b :: hI a :: st, w, 0, 0) := h_ior ha g
theorem x_ishl {a b : Int} (ha : t_get tbl pc = some (a_stk q_ishl np)) (g : Tp tbl Po np (lv, hI (zSh a b) :: st, w, 0, 0)) : Tp tbl Po pc (lv, hI b :: hI a :: st, w, 0, 0) := h_ishl ha g
theorem x_ishr {a b : Int} (ha : t_get tbl pc = some (a_stk q_ishr np)) (g : Tp tbl Po np (lv, hI (zShr a b) :: st, w, 0, 0)) : Tp tbl Po pc (lv, hI b :: hI a :: st, w, 0, 0) := h_ishr ha g
theorem x_iand {a b : Int} (ha : t_get tbl pc = some (a_stk q_iand np)) (g : Tp tbl Po np (lv, hI (zAnd a b) :: st, w, 0, 0)) : Tp tbl Po pc (lv, hI b :: hI a :: st, w, 0, 0) := h_iand ha g
end HXB
/-- where x stands among d names from b + k on -/
def fnd (N : Nat → Int) (b : Nat) (x : Int) : Nat → Nat → Int
  | 0, _ => -1
  | d + 1, k => if N (b + k) = x then (k : Int) else fnd N b x d (k + 1)
theorem fnd_y {N : Nat → Int} {b d k : Nat} {x : Int} (h : N (b + k) = x) : fnd N b x (d + 1) k = (k : Int) := if_pos h
theorem fnd_n {N : Nat → Int} {b d k : Nat} {x : Int} (h : ¬ N (b + k) = x) : fnd N b x (d + 1) k = fnd N b x d (k + 1) := if_neg h
theorem fnd_b (N : Nat → Int) (b : Nat) (x : Int) : ∀ d k, fnd N b x d k = -1 ∨ ((k : Int) ≤ fnd N b x d k ∧ fnd N b x d k < (k : Int) + (d : Int)) := by
  intro d
  induction d with
  | zero => intro k; exact Or.inl rfl
  | succ d ih =>
    intro k
    by_cases h : N (b + k) = x
    · rw [fnd_y h]
      omega
    · rw [fnd_n h]
      have := ih (k + 1)
      omega
section SPEC
variable (B : Nat → Int) (n L : Nat)
def nxT (S : tS) : tS := lexT B n L S.2.2.2.2
def zNum (lo hi : Int) (S : tS) : zE ⊕ (Int × tS) := if S.1 ≠ 3 then .inl (1, S.2.1) else if S.2.2.1 < lo ∨ hi < S.2.2.1 then .inl (2, S.2.1) else .inr (S.2.2.1, nxT B n L S)
def zSig (R N : Nat → Int) (S : tS) : zE ⊕ (Int × tS) := if S.1 ≠ 5 then .inl (1, S.2.1) else if fnd N 0 S.2.2.2.1 (R 1).toNat 0 = -1 then .inl (3, S.2.1) else .inr (fnd N 0 S.2.2.2.1 (R 1).toNat 0, nxT B n L S)
def zNew (R N : Nat → Int) (S : tS) : zE ⊕ (Int × tS) := if S.1 ≠ 5 then .inl (1, S.2.1) else if fnd N 0 S.2.2.2.1 (R 1).toNat 0 ≠ -1 ∨ fnd N 10 S.2.2.2.1 (R 2).toNat 0 ≠ -1 then .inl (3, S.2.1) else .inr (S.2.2.2.1, nxT B n L S)
def zEnd (S : tS) : zE ⊕ tS := if S.1 = 2 ∧ S.2.2.1 = 59 then .inr (nxT B n L S) else .inl (1, S.2.1)
/-- the token; the plan as the reference lays it out, its names; whether 'rows', 'keeps', a plank were told -/
abbrev zZ := tS × (Nat → Int) × (Nat → Int) × Int × Int × Int
def zRows (Z : zZ) : zE ⊕ zZ := if Z.2.2.2.1 = 1 ∨ Z.2.2.2.2.2 = 1 then .inl (3, Z.1.2.1) else zB (zNum B n L 1 12 (nxT B n L Z.1)) (fun q => .inr (q.2, zU Z.2.1 0 q.1, Z.2.2.1, 1, Z.2.2.2.2.1, Z.2.2.2.2.2))
def zKeeps (Z : zZ) : zE ⊕ zZ := if Z.2.2.2.2.1 = 1 then .inl (3, Z.1.2.1) else zB (zNum B n L 0 30 (nxT B n L Z.1)) (fun q => .inr (q.2, zU Z.2.1 4 q.1, Z.2.2.1, Z.2.2.2.1, 1, Z.2.2.2.2.2))
/-- is it the word 'forger' -/
def zFg (S : tS) : Prop := S.1 = 4 ∧ S.2.2.1 = 2
def zSgR (R : Nat → Int) (e m : Int) (fg : Bool) : Nat → Int := fun j => match fg with
  | true => zU (zU (zU (zU R (5 + (R 1).toNat) e) (15 + (R 1).toNat) m) 25 (zOr (R 25) (zSh 1 (R 1)))) 1 (R 1 + 1) j
  | false => zU (zU (zU R (5 + (R 1).toNat) e) (15 + (R 1).toNat) m) 1 (R 1 + 1) j
def zSigner (Z : zZ) : zE ⊕ zZ := if Z.2.1 1 = 10 then .inl (4, Z.1.2.1) else zB (zNew B n L Z.2.1 Z.2.2.1 (nxT B n L Z.1)) (fun a => zB (zNum B n L 0 9 a.2) (fun e => zB (zNum B n L 1 9 e.2) (fun m => if m.2.1 = 4 ∧ m.2.2.2.1 = 2 then .inr (nxT B n L m.2, zSgR Z.2.1 e.1 m.1 true, zU Z.2.2.1 (Z.2.1 1).toNat a.1, Z.2.2.2) else .inr (m.2, zSgR Z.2.1 e.1 m.1 false, zU Z.2.2.1 (Z.2.1 1).toNat a.1, Z.2.2.2))))
def zHeir (Z : zZ) : zE ⊕ zZ := zB (zSig B n L Z.2.1 Z.2.2.1 (nxT B n L Z.1)) (fun a => if Z.2.1 (26 + a.1.toNat) ≠ -1 then .inl (3, (nxT B n L Z.1).2.1) else zB (zSig B n L Z.2.1 Z.2.2.1 a.2) (fun b => if b.1 = a.1 then .inl (3, a.2.2.1) else .inr (b.2, zU Z.2.1 (26 + a.1.toNat) b.1, Z.2.2)))
def zLovers (Z : zZ) : zE ⊕ zZ := if Z.2.1 3 = 8 then .inl (4, Z.1.2.1) else zB (zSig B n L Z.2.1 Z.2.2.1 (nxT B n L Z.1)) (fun a => zB (zSig B n L Z.2.1 Z.2.2.1 a.2) (fun b => if a.1 = b.1 ∨ zHas (Z.2.1 (36 + a.1.toNat)) b.1 = 1 then .inl (3, a.2.2.1) else .inr (b.2, zU (zU (zU Z.2.1 (36 + a.1.toNat) (zOr (Z.2.1 (36 + a.1.toNat)) (zSh 1 b.1))) (36 + b.1.toNat) (zOr (Z.2.1 (36 + b.1.toNat)) (zSh 1 a.1))) 3 (Z.2.1 3 + 1), Z.2.2)))
/-- how many of the first k places are s's -/
def zCn (R : Nat → Int) (s : Int) : Nat → Int
  | 0 => 0
  | k + 1 => zCn R s k + (if R (46 + k) = s then 1 else 0)
def zPlank (Z : zZ) : zE ⊕ zZ := zB (zSig B n L Z.2.1 Z.2.2.1 (nxT B n L Z.1)) (fun a => if 6 ≤ zCn Z.2.1 a.1 36 then .inl (3, (nxT B n L Z.1).2.1) else zB (zNum B n L 0 (Z.2.1 0 - 1) a.2) (fun r => zB (zNum B n L 0 2 r.2) (fun k => if Z.2.1 (46 + (3 * r.1 + k.1).toNat) ≠ -1 then .inl (3, r.2.2.1) else .inr (k.2, zU Z.2.1 (46 + (3 * r.1 + k.1).toNat) a.1, Z.2.2.1, Z.2.2.2.1, Z.2.2.2.2.1, 1))))
def zLoad (Z : zZ) : zE ⊕ zZ := if Z.2.1 2 = 6 then .inl (4, Z.1.2.1) else zB (zNew B n L Z.2.1 Z.2.2.1 (nxT B n L Z.1)) (fun a => zB (zNum B n L 1 300 a.2) (fun e => zB (zNum B n L 1 3 e.2) (fun m => .inr (m.2, zU (zU (zU Z.2.1 (82 + (Z.2.1 2).toNat) e.1) (88 + (Z.2.1 2).toNat) m.1) 2 (Z.2.1 2 + 1), zU Z.2.2.1 (10 + (Z.2.1 2).toNat) a.1, Z.2.2.2))))
def zLine (Z : zZ) : zE ⊕ zZ := if Z.1.1 ≠ 4 then .inl (1, Z.1.2.1) else if Z.1.2.2.1 = 0 then zRows B n L Z else if Z.1.2.2.1 = 1 then zSigner B n L Z else if Z.1.2.2.1 = 3 then zHeir B n L Z else if Z.1.2.2.1 = 4 then zLovers B n L Z else if Z.1.2.2.1 = 5 then zPlank B n L Z else if Z.1.2.2.1 = 6 then zLoad B n L Z else if Z.1.2.2.1 = 7 then zKeeps B n L Z else .inl (1, Z.1.2.1)
def zLoop : Nat → zZ → Int → zE ⊕ (Int × zZ)
  | 0, Z, l => .inr (l, Z)
  | f + 1, Z, l => if Z.1.1 = 0 then .inr (l, Z) else zB (zLine B n L Z) (fun Y => zB (zEnd B n L Y.1) (fun S => zLoop f (S, Y.2) (l + 1)))
/-- an empty plan -/
def zR0 : Nat → Int := fun j => if j = 0 then 4 else if j = 4 then 5 else if (26 ≤ j ∧ j < 36) ∨ (46 ≤ j ∧ j < 82) then -1 else 0
def zBridge (N : Nat → Int) : zE ⊕ (Int × zZ) := zLoop B n L 942 (lexT B n L 0, zR0, N, 0, 0, 0) 0
end SPEC
-- where tokens stand
theorem lexM_nx (B : Nat → Int) (q m : Nat) : (lexM B q m).2.2.2.2 = q + m ∧ (lexM B q m).2.1 = (q : Int) := by
  unfold lexM
  split
  · split
    · exact ⟨rfl, rfl⟩
    · exact ⟨rfl, rfl⟩
  · split
    · exact ⟨rfl, rfl⟩
    · exact ⟨rfl, rfl⟩
/-- a token ends not beyond the text, and not ahead of where it was looked for; one that is none of the two first kinds takes a byte -/
theorem lexT_nx (B : Nat → Int) {n L p : Nat} (hp : p ≤ n) : p ≤ (lexT B n L p).2.2.2.2 ∧ (lexT B n L p).2.2.2.2 ≤ n ∧ (2 ≤ (lexT B n L p).1 → p < (lexT B n L p).2.2.2.2) ∧ 0 ≤ (lexT B n L p).1 ∧ (lexT B n L p).1 ≤ 5 ∧ 0 ≤ (lexT B n L p).2.1 ∧ (lexT B n L p).2.1 ≤ (n : Int) := by
  have hb := skp_b B (min n L - p) p
  unfold lexT
  by_cases h : min n L ≤ skp B (min n L - p) p
  · rw [lexQ_e h]
    by_cases hn : n ≤ L
    · rw [if_pos hn]
      refine ⟨hb.1, by show skp B (min n L - p) p ≤ n; omega, fun h2 => ?_, by show (0 : Int) ≤ 0; omega, by show (0 : Int) ≤ 5; omega, by show (0 : Int) ≤ ((min n L : Nat) : Int); omega, by show ((min n L : Nat) : Int) ≤ _; omega⟩
      have h2 : (2 : Int) ≤ 0 := h2
      omega
    · rw [if_neg hn]
      refine ⟨hb.1, by show skp B (min n L - p) p ≤ n; omega, fun h2 => ?_, by show (0 : Int) ≤ 1; omega, by show (1 : Int) ≤ 5; omega, by show (0 : Int) ≤ ((min n L : Nat) : Int); omega, by show ((min n L : Nat) : Int) ≤ _; omega⟩
      have h2 : (2 : Int) ≤ 1 := h2
      omega
  · by_cases ha : ltc (B (skp B (min n L - p) p)) ∨ dgc (B (skp B (min n L - p) p))
    · rw [lexQ_a h ha]
      have hl := ale_b B (n - (skp B (min n L - p) p + 1)) (skp B (min n L - p) p + 1)
      obtain ⟨e1, e2⟩ := lexM_nx B (skp B (min n L - p) p) (ale B (n - (skp B (min n L - p) p + 1)) (skp B (min n L - p) p + 1) - skp B (min n L - p) p)
      rw [e1, e2]
      refine ⟨by omega, by omega, fun _ => by omega, ?_, ?_, by omega, by omega⟩
      · unfold lexM
        split
        · split
          · show (0 : Int) ≤ 5
            omega
          · show (0 : Int) ≤ 4
            omega
        · split
          · show (0 : Int) ≤ 3
            omega
          · show (0 : Int) ≤ 1
            omega
      · unfold lexM
        split
        · split
          · show (5 : Int) ≤ 5
            omega
          · show (4 : Int) ≤ 5
            omega
        · split
          · show (3 : Int) ≤ 5
            omega
          · show (1 : Int) ≤ 5
            omega
    · rw [lexQ_s h ha]
      refine ⟨by show p ≤ skp B (min n L - p) p + 1; omega, by show skp B (min n L - p) p + 1 ≤ n; omega, fun _ => by show p < skp B (min n L - p) p + 1; omega, ?_, ?_, by show (0 : Int) ≤ ((skp B (min n L - p) p : Nat) : Int); omega, by show ((skp B (min n L - p) p : Nat) : Int) ≤ (n : Int); omega⟩
      · show (0 : Int) ≤ (if sgk (B (skp B (min n L - p) p)) then 2 else 1)
        split <;> omega
      · show (if sgk (B (skp B (min n L - p) p)) then 2 else 1) ≤ (5 : Int)
        split <;> omega
/-- what a word, a name is -/
theorem lexT_wd (B : Nat → Int) (n L p : Nat) : ((lexT B n L p).1 = 4 → ∃ k, k < 27 ∧ (lexT B n L p).2.2.1 = ((k : Nat) : Int) ∧ (lexT B n L p).2.2.2.1 = KW k) ∧ ((lexT B n L p).1 = 5 → (∀ k, k < 27 → (lexT B n L p).2.2.2.1 ≠ KW k) ∧ 0 ≤ (lexT B n L p).2.2.2.1 ∧ (lexT B n L p).2.2.2.1 < 27 ^ 7) := by
  unfold lexT lexQ
  split
  · split
    · exact ⟨fun h => absurd h (by show ¬ ((0 : Int) = 4); omega), fun h => absurd h (by show ¬ ((0 : Int) = 5); omega)⟩
    · exact ⟨fun h => absurd h (by show ¬ ((1 : Int) = 4); omega), fun h => absurd h (by show ¬ ((1 : Int) = 5); omega)⟩
  · split
    · unfold lexM
      split
      · rename_i hm
        split
        · rename_i hk
          refine ⟨fun h => absurd h (by show ¬ ((5 : Int) = 4); omega), fun _ => ⟨fun k hk2 => ?_, e27_b7 B _ _ hm.2 (nlt_all hm.1)⟩⟩
          intro e
          have := (kof_KW hk2).mpr e
          rw [hk] at this
          omega
        · rename_i hk
          refine ⟨fun _ => ?_, fun h => absurd h (by show ¬ ((4 : Int) = 5); omega)⟩
          rcases kof_cases (e27 B (skp B (min n L - p) p) (ale B (n - (skp B (min n L - p) p + 1)) (skp B (min n L - p) p + 1) - skp B (min n L - p) p)) with ⟨h, _⟩ | ⟨k, h1, h2, h3⟩
          · exact absurd h hk
          · exact ⟨k, h1, h2, h3⟩
      · split
        · exact ⟨fun h => absurd h (by show ¬ ((3 : Int) = 4); omega), fun h => absurd h (by show ¬ ((3 : Int) = 5); omega)⟩
        · exact ⟨fun h => absurd h (by show ¬ ((1 : Int) = 4); omega), fun h => absurd h (by show ¬ ((1 : Int) = 5); omega)⟩
    · constructor
      · intro h
        have h : (if sgk (B (skp B (min n L - p) p)) then (2 : Int) else 1) = 4 := h
        split at h <;> omega
      · intro h
        have h : (if sgk (B (skp B (min n L - p) p)) then (2 : Int) else 1) = 5 := h
        split at h <;> omega
/-- a token as the text gives it -/
def tkG (B : Nat → Int) (n L : Nat) (S : tS) : Prop := ∃ p, p ≤ n ∧ S = lexT B n L p
theorem tkG_n {B : Nat → Int} {n L : Nat} {S : tS} (h : tkG B n L S) : S.2.2.2.2 ≤ n := by
  obtain ⟨p, hp, rfl⟩ := h
  exact (lexT_nx B hp).2.1
theorem tkG_nx {B : Nat → Int} {n L : Nat} {S : tS} (h : tkG B n L S) : tkG B n L (nxT B n L S) := ⟨S.2.2.2.2, tkG_n h, rfl⟩
theorem tkG_X {B : Nat → Int} {n L : Nat} {S : tS} (h : tkG B n L S) : S.1 = 5 → 0 ≤ S.2.2.2.1 ∧ S.2.2.2.1 < 27 ^ 7 := by
  obtain ⟨p, hp, rfl⟩ := h
  exact fun e => ((lexT_wd B n L p).2 e).2
theorem tkG_b {B : Nat → Int} {n L : Nat} {S : tS} (h : tkG B n L S) : 0 ≤ S.1 ∧ S.1 ≤ 5 ∧ 0 ≤ S.2.1 ∧ S.2.1 ≤ (n : Int) := by
  obtain ⟨p, hp, rfl⟩ := h
  obtain ⟨_, _, _, h1⟩ := lexT_nx B (L := L) hp
  exact h1
theorem zNum_r {B : Nat → Int} {n L : Nat} {lo hi : Int} {S : tS} {q : Int × tS} (h : zNum B n L lo hi S = .inr q) : q.2 = nxT B n L S ∧ lo ≤ q.1 ∧ q.1 ≤ hi := by
  unfold zNum at h
  split at h
  · cases h
  · split at h
    · cases h
    · cases h
      exact ⟨rfl, by show lo ≤ S.2.2.1; omega, by show S.2.2.1 ≤ hi; omega⟩
theorem zSig_r {B : Nat → Int} {n L : Nat} {R N : Nat → Int} {S : tS} {q : Int × tS} (h : zSig B n L R N S = .inr q) : q.2 = nxT B n L S := by
  unfold zSig at h
  split at h
  · cases h
  · split at h
    · cases h
    · cases h
      rfl
theorem zNew_r {B : Nat → Int} {n L : Nat} {R N : Nat → Int} {S : tS} {q : Int × tS} (h : zNew B n L R N S = .inr q) : q.2 = nxT B n L S := by
  unfold zNew at h
  split at h
  · cases h
  · split at h
    · cases h
    · cases h
      rfl
end
