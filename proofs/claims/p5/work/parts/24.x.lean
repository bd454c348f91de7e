noncomputable section
-- ===== a SENTENCE by spec: as the reference reads it, and as a stack of brackets reads it =====
theorem zB_B {α β γ : Type} (r : zE ⊕ α) (f : α → zE ⊕ β) (g : β → zE ⊕ γ) : zB (zB r f) g = zB r (fun a => zB (f a) g) := by
  cases r with
  | inl e => rfl
  | inr a => rfl
theorem zB_c {α β : Type} {r : zE ⊕ α} {f g : α → zE ⊕ β} (h : ∀ a, r = .inr a → f a = g a) : zB r f = zB r g := by
  cases r with
  | inl e => rfl
  | inr a => exact h a rfl
section SENT
variable (B : Nat → Int) (n L : Nat) (R N : Nat → Int)
/-- what stands behind a saying's word -/
def zSay (w : Int) (S : tS) : zE ⊕ tS := if w = 20 ∨ w = 21 then zB (zSig B n L R N S) (fun q => .inr q.2) else if w = 22 then zB (zNum B n L 0 11 S) (fun q => .inr q.2) else if 23 ≤ w then (if S.1 = 2 ∧ (S.2.2.1 = 60 ∨ S.2.2.1 = 61 ∨ S.2.2.1 = 62) then zB (zNum B n L 0 999 (nxT B n L S)) (fun q => .inr q.2) else .inl (1, S.2.1)) else .inr S
def zAndL (said : tS → Int → zE ⊕ (tS × Int)) : Nat → tS → Int → zE ⊕ (tS × Int)
  | 0, _, _ => .inl (9, 0)
  | k + 1, S, o => zB (said S o) (fun q => if q.1.1 = 4 ∧ q.1.2.2.1 = 16 then zAndL said k (nxT B n L q.1) q.2 else .inr q)
def zOrL (said : tS → Int → zE ⊕ (tS × Int)) : Nat → tS → Int → zE ⊕ (tS × Int)
  | 0, _, _ => .inl (9, 0)
  | k + 1, S, o => zB (zAndL B n L said 21 S o) (fun q => if q.1.1 = 4 ∧ q.1.2.2.1 = 15 then zOrL said k (nxT B n L q.1) q.2 else .inr q)
def zClose (q : tS × Int) : zE ⊕ (tS × Int) := if q.1.1 = 2 ∧ q.1.2.2.1 = 41 then .inr (nxT B n L q.1, q.2) else .inl (1, q.1.2.1)
/-- does a ONE begin here -/
def zBeg (S : tS) : Prop := (S.1 = 2 ∧ S.2.2.1 = 40) ∨ (S.1 = 4 ∧ 17 ≤ S.2.2.1 ∧ S.2.2.1 ≤ 26)
/-- a ONE, d brackets and nots deep at most; o of them were before it -/
def zSaid : Nat → tS → Int → zE ⊕ (tS × Int)
  | 0, S, _ => if (S.1 = 2 ∧ S.2.2.1 = 40) ∨ (S.1 = 4 ∧ 17 ≤ S.2.2.1 ∧ S.2.2.1 ≤ 26) then .inl (4, S.2.1) else .inl (1, S.2.1)
  | d + 1, S, o => if (S.1 = 2 ∧ S.2.2.1 = 40) ∨ (S.1 = 4 ∧ 17 ≤ S.2.2.1 ∧ S.2.2.1 ≤ 26) then (if o = 20 then .inl (4, S.2.1) else if S.1 = 2 then zB (zOrL B n L (zSaid d) 21 (nxT B n L S) (o + 1)) (zClose B n L) else if S.2.2.1 = 17 then zSaid d (nxT B n L S) (o + 1) else zB (zSay B n L R N S.2.2.1 (nxT B n L S)) (fun T => .inr (T, o + 1))) else .inl (1, S.2.1)
/-- a SENTENCE: how many ONES, or the fault -/
def zSent : zE ⊕ Int := zB (zOrL B n L (zSaid B n L R N 8) 21 (lexT B n L 0) 0) (fun q => if q.1.1 = 0 then .inr q.2 else .inl (1, q.1.2.1))
/-- behind a ONE, with brackets open: ds tells how deep a ONE may go in each of them, the innermost first -/
def zAft : Nat → List Nat → tS → Int → zE ⊕ Int
  | 0, _, _, _ => .inl (9, 0)
  | _ + 1, [], _, _ => .inl (9, 0)
  | f + 1, d :: es, S, o => if S.1 = 4 ∧ (S.2.2.1 = 15 ∨ S.2.2.1 = 16) then zB (zSaid B n L R N d (nxT B n L S) o) (fun q => zAft f (d :: es) q.1 q.2) else if es = [] then (if S.1 = 0 then .inr o else .inl (1, S.2.1)) else if S.1 = 2 ∧ S.2.2.1 = 41 then zAft f es (nxT B n L S) o else .inl (1, S.2.1)
end SENT
section SENT2
variable {B : Nat → Int} {n L : Nat} {R N : Nat → Int}
/-- a ONE is counted -/
def sdP (said : tS → Int → zE ⊕ (tS × Int)) : Prop := ∀ S o q, o ≤ 20 → said S o = .inr q → o < q.2 ∧ q.2 ≤ 20
theorem andP {said : tS → Int → zE ⊕ (tS × Int)} (h : sdP said) : ∀ k S o q, o ≤ 20 → zAndL B n L said k S o = .inr q → o < q.2 ∧ q.2 ≤ 20 := by
  intro k
  induction k with
  | zero =>
    intro S o q ho e
    cases e
  | succ k ih =>
    intro S o q ho e
    obtain ⟨a, e1, e2⟩ := zB_inr (show zB (said S o) (fun q => if q.1.1 = 4 ∧ q.1.2.2.1 = 16 then zAndL B n L said k (nxT B n L q.1) q.2 else .inr q) = .inr q from e)
    obtain ⟨h1, h2⟩ := h S o a ho e1
    by_cases c : a.1.1 = 4 ∧ a.1.2.2.1 = 16
    · rw [if_pos c] at e2
      obtain ⟨h3, h4⟩ := ih _ _ _ h2 e2
      exact ⟨Int.lt_trans h1 h3, h4⟩
    · rw [if_neg c] at e2
      cases e2
      exact ⟨h1, h2⟩
theorem orP {said : tS → Int → zE ⊕ (tS × Int)} (h : sdP said) : ∀ k S o q, o ≤ 20 → zOrL B n L said k S o = .inr q → o < q.2 ∧ q.2 ≤ 20 := by
  intro k
  induction k with
  | zero =>
    intro S o q ho e
    cases e
  | succ k ih =>
    intro S o q ho e
    obtain ⟨a, e1, e2⟩ := zB_inr (show zB (zAndL B n L said 21 S o) (fun q => if q.1.1 = 4 ∧ q.1.2.2.1 = 15 then zOrL B n L said k (nxT B n L q.1) q.2 else .inr q) = .inr q from e)
    obtain ⟨h1, h2⟩ := andP h 21 S o a ho e1
    by_cases c : a.1.1 = 4 ∧ a.1.2.2.1 = 15
    · rw [if_pos c] at e2
      obtain ⟨h3, h4⟩ := ih _ _ _ h2 e2
      exact ⟨Int.lt_trans h1 h3, h4⟩
    · rw [if_neg c] at e2
      cases e2
      exact ⟨h1, h2⟩
theorem saidP : ∀ d, sdP (zSaid B n L R N d) := by
  intro d
  induction d with
  | zero =>
    intro S o q ho e
    have e : (if (S.1 = 2 ∧ S.2.2.1 = 40) ∨ (S.1 = 4 ∧ 17 ≤ S.2.2.1 ∧ S.2.2.1 ≤ 26) then (.inl (4, S.2.1) : zE ⊕ (tS × Int)) else .inl (1, S.2.1)) = .inr q := e
    split at e <;> cases e
  | succ d ih =>
    intro S o q ho e
    unfold zSaid at e
    split at e
    · split at e
      · cases e
      · rename_i h20
        split at e
        · obtain ⟨a, e1, e2⟩ := zB_inr e
          obtain ⟨h1, h2⟩ := orP ih 21 _ _ a (by omega) e1
          unfold zClose at e2
          split at e2
          · cases e2
            exact ⟨by show o < a.2; omega, h2⟩
          · cases e2
        · split at e
          · obtain ⟨h1, h2⟩ := ih _ _ _ (by omega) e
            exact ⟨by omega, h2⟩
          · obtain ⟨a, e1, e2⟩ := zB_inr e
            cases e2
            exact ⟨by show o < o + 1; omega, by show o + 1 ≤ 20; omega⟩
    · cases e
/-- fuel enough is fuel enough -/
theorem aftF : ∀ (f f' : Nat) (ds : List Nat) (S : tS) (o : Int), o ≤ 20 → 20 - o + (ds.length : Int) ≤ (f : Int) → 20 - o + (ds.length : Int) ≤ (f' : Int) → zAft B n L R N f ds S o = zAft B n L R N f' ds S o := by
  intro f
  induction f with
  | zero =>
    intro f' ds S o ho h1 h2
    cases ds with
    | nil => cases f' <;> rfl
    | cons d es =>
      have h1 : 20 - o + ((es.length + 1 : Nat) : Int) ≤ ((0 : Nat) : Int) := h1
      omega
  | succ f ih =>
    intro f' ds S o ho h1 h2
    cases ds with
    | nil => cases f' <;> rfl
    | cons d es =>
      have h1 : 20 - o + ((es.length + 1 : Nat) : Int) ≤ ((f + 1 : Nat) : Int) := h1
      have h2 : 20 - o + ((es.length + 1 : Nat) : Int) ≤ (f' : Int) := h2
      cases f' with
      | zero => omega
      | succ f' =>
        unfold zAft
        split
        · refine zB_c (fun a ha => ?_)
          obtain ⟨g1, g2⟩ := saidP d _ _ _ ho ha
          exact ih f' (d :: es) a.1 a.2 g2 (by show 20 - a.2 + ((es.length + 1 : Nat) : Int) ≤ (f : Int); omega) (by show 20 - a.2 + ((es.length + 1 : Nat) : Int) ≤ (f' : Int); omega)
        · split
          · rfl
          · split
            · exact ih f' es _ o ho (by omega) (by omega)
            · rfl
theorem aft_j {f d : Nat} {es : List Nat} {S : tS} {o : Int} (h : S.1 = 4 ∧ (S.2.2.1 = 15 ∨ S.2.2.1 = 16)) : zAft B n L R N (f + 1) (d :: es) S o = zB (zSaid B n L R N d (nxT B n L S) o) (fun q => zAft B n L R N f (d :: es) q.1 q.2) := if_pos h
theorem aft_e {f d : Nat} {S : tS} {o : Int} (h : ¬ (S.1 = 4 ∧ (S.2.2.1 = 15 ∨ S.2.2.1 = 16))) : zAft B n L R N (f + 1) [d] S o = if S.1 = 0 then .inr o else .inl (1, S.2.1) := (if_neg h).trans (if_pos rfl)
theorem aft_c {f d d' : Nat} {es : List Nat} {S : tS} {o : Int} (h : ¬ (S.1 = 4 ∧ (S.2.2.1 = 15 ∨ S.2.2.1 = 16))) : zAft B n L R N (f + 1) (d :: d' :: es) S o = if S.1 = 2 ∧ S.2.2.1 = 41 then zAft B n L R N f (d' :: es) (nxT B n L S) o else .inl (1, S.2.1) := (if_neg h).trans (if_neg (by intro z; cases z))
theorem anA {d : Nat} {es : List Nat} {X c : tS × Int → zE ⊕ Int} (lo : Int) (h0 : 0 ≤ lo) (hX : ∀ (f : Nat) (q : tS × Int), lo < q.2 → q.2 ≤ 20 → 20 - q.2 + (es.length : Int) < (f : Int) → X q = zB (zSaid B n L R N d (nxT B n L q.1) q.2) (fun p => zAft B n L R N f (d :: es) p.1 p.2)) (hc : ∀ (f : Nat) (q : tS × Int), q.2 ≤ 20 → 20 - q.2 + (es.length : Int) < (f : Int) → ¬ (q.1.1 = 4 ∧ (q.1.2.2.1 = 15 ∨ q.1.2.2.1 = 16)) → c q = zAft B n L R N f (d :: es) q.1 q.2) : ∀ (j : Nat) (S : tS) (o : Int) (f : Nat), lo ≤ o → o ≤ 20 → 20 - o < (j : Int) → 20 - o + (es.length : Int) < (f : Int) → zB (zAndL B n L (zSaid B n L R N d) j S o) (fun q => if q.1.1 = 4 ∧ q.1.2.2.1 = 15 then X q else c q) = zB (zSaid B n L R N d S o) (fun q => zAft B n L R N f (d :: es) q.1 q.2) := by
  intro j
  induction j with
  | zero =>
    intro S o f hlo ho hj hf
    omega
  | succ j ih =>
    intro S o f hlo ho hj hf
    rw [show zAndL B n L (zSaid B n L R N d) (j + 1) S o = zB (zSaid B n L R N d S o) (fun q => if q.1.1 = 4 ∧ q.1.2.2.1 = 16 then zAndL B n L (zSaid B n L R N d) j (nxT B n L q.1) q.2 else .inr q) from rfl, zB_B]
    refine zB_c (fun q hq => ?_)
    obtain ⟨g1, g2⟩ := saidP d _ _ _ ho hq
    cases f with
    | zero => omega
    | succ f =>
      by_cases c16 : q.1.1 = 4 ∧ q.1.2.2.1 = 16
      · rw [if_pos c16, aft_j ⟨c16.1, Or.inr c16.2⟩]
        exact ih _ q.2 f (by omega) g2 (by omega) (by omega)
      · rw [if_neg c16, zB_r]
        by_cases c15 : q.1.1 = 4 ∧ q.1.2.2.1 = 15
        · rw [if_pos c15, aft_j ⟨c15.1, Or.inl c15.2⟩]
          exact hX f q (by omega) g2 (by omega)
        · rw [if_neg c15]
          refine hc (f + 1) q g2 (by omega) (fun z => ?_)
          obtain ⟨z1, z2 | z2⟩ := z
          · exact c15 ⟨z1, z2⟩
          · exact c16 ⟨z1, z2⟩
theorem orA {d : Nat} {es : List Nat} {c : tS × Int → zE ⊕ Int} (hc : ∀ (f : Nat) (q : tS × Int), q.2 ≤ 20 → 20 - q.2 + (es.length : Int) < (f : Int) → ¬ (q.1.1 = 4 ∧ (q.1.2.2.1 = 15 ∨ q.1.2.2.1 = 16)) → c q = zAft B n L R N f (d :: es) q.1 q.2) : ∀ (k : Nat) (S : tS) (o : Int) (f : Nat), 0 ≤ o → o ≤ 20 → 20 - o < (k : Int) → 20 - o + (es.length : Int) < (f : Int) → zB (zOrL B n L (zSaid B n L R N d) k S o) c = zB (zSaid B n L R N d S o) (fun q => zAft B n L R N f (d :: es) q.1 q.2) := by
  intro k
  induction k with
  | zero =>
    intro S o f h0 ho hk hf
    omega
  | succ k ih =>
    intro S o f h0 ho hk hf
    rw [show zOrL B n L (zSaid B n L R N d) (k + 1) S o = zB (zAndL B n L (zSaid B n L R N d) 21 S o) (fun q => if q.1.1 = 4 ∧ q.1.2.2.1 = 15 then zOrL B n L (zSaid B n L R N d) k (nxT B n L q.1) q.2 else .inr q) from rfl, zB_B]
    rw [show (fun a : tS × Int => zB (if a.1.1 = 4 ∧ a.1.2.2.1 = 15 then zOrL B n L (zSaid B n L R N d) k (nxT B n L a.1) a.2 else .inr a) c) = (fun q => if q.1.1 = 4 ∧ q.1.2.2.1 = 15 then (fun p : tS × Int => zB (zOrL B n L (zSaid B n L R N d) k (nxT B n L p.1) p.2) c) q else c q) from funext (fun a => by
      split
      · rfl
      · rfl)]
    exact anA o h0 (fun f q hq1 hq2 hf => ih _ q.2 f (by omega) hq2 (by omega) hf) hc 21 S o f (by omega) ho (by omega) hf
/-- a bracket opens -/
theorem said_br {d d' : Nat} {es : List Nat} {S : tS} {o : Int} {f f' : Nat} (h0 : 0 ≤ o) (ho : o < 20) (hS : S.1 = 2 ∧ S.2.2.1 = 40) (hf : 20 - o + (es.length : Int) < (f : Int)) (hf' : 20 - o + (es.length : Int) < (f' : Int)) : zB (zSaid B n L R N (d + 1) S o) (fun q => zAft B n L R N f (d' :: es) q.1 q.2) = zB (zSaid B n L R N d (nxT B n L S) (o + 1)) (fun q => zAft B n L R N f' (d :: d' :: es) q.1 q.2) := by
  rw [show zSaid B n L R N (d + 1) S o = zB (zOrL B n L (zSaid B n L R N d) 21 (nxT B n L S) (o + 1)) (zClose B n L) from (if_pos (Or.inl hS)).trans ((if_neg (by omega)).trans (if_pos hS.1)), zB_B]
  have g := saidP (B := B) (n := n) (L := L) (R := R) (N := N)
  have hA : zB (zOrL B n L (zSaid B n L R N d) 21 (nxT B n L S) (o + 1)) (fun a => zB (zClose B n L a) (fun q => zAft B n L R N f (d' :: es) q.1 q.2)) = zB (zOrL B n L (zSaid B n L R N d) 21 (nxT B n L S) (o + 1)) (fun a => if a.1.1 = 2 ∧ a.1.2.2.1 = 41 then zAft B n L R N (20 - a.2 + ((d' :: es).length : Int)).toNat (d' :: es) (nxT B n L a.1) a.2 else .inl (1, a.1.2.1)) := by
    refine zB_c (fun a ha => ?_)
    obtain ⟨g1, g2⟩ := orP (g d) 21 _ _ _ (by omega) ha
    have hl : ((d' :: es).length : Int) = (es.length : Int) + 1 := by
      rw [List.length_cons]
      omega
    unfold zClose
    split
    · rw [zB_r]
      exact aftF _ _ _ _ _ g2 (by rw [hl]; omega) (by omega)
    · rfl
  rw [hA]
  refine orA (fun f2 q hq hf2 hn => ?_) 21 _ _ f' (by omega) (by omega) (by omega) (by rw [List.length_cons]; omega)
  have hl : ((d' :: es).length : Int) = (es.length : Int) + 1 := by
    rw [List.length_cons]
    omega
  cases f2 with
  | zero => omega
  | succ f2 =>
    rw [aft_c hn]
    split
    · exact aftF _ _ _ _ _ hq (by omega) (by omega)
    · rfl
theorem said_not {d : Nat} {S : tS} {o : Int} (ho : o < 20) (hS : S.1 = 4 ∧ S.2.2.1 = 17) : zSaid B n L R N (d + 1) S o = zSaid B n L R N d (nxT B n L S) (o + 1) := (if_pos (Or.inr ⟨hS.1, by omega, by omega⟩)).trans ((if_neg (by omega)).trans ((if_neg (by omega)).trans (if_pos hS.2)))
theorem said_say {d : Nat} {S : tS} {o : Int} (ho : o < 20) (hS : S.1 = 4 ∧ 18 ≤ S.2.2.1 ∧ S.2.2.1 ≤ 26) : zSaid B n L R N (d + 1) S o = zB (zSay B n L R N S.2.2.1 (nxT B n L S)) (fun T => .inr (T, o + 1)) := (if_pos (Or.inr ⟨hS.1, by omega, by omega⟩)).trans ((if_neg (by omega)).trans ((if_neg (by omega)).trans (if_neg (by omega))))
theorem said_bad {d : Nat} {S : tS} {o : Int} (h : ¬ zBeg S) : zSaid B n L R N d S o = .inl (1, S.2.1) := by
  cases d with
  | zero => exact if_neg h
  | succ d => exact if_neg h
theorem said_many {d : Nat} {S : tS} {o : Int} (h : zBeg S) (h2 : d = 0 ∨ o = 20) : zSaid B n L R N d S o = .inl (4, S.2.1) := by
  cases d with
  | zero => exact if_pos h
  | succ d => exact (if_pos h).trans (if_pos (by omega))
theorem sent_8 {f : Nat} (hf : 20 < f) : zSent B n L R N = zB (zSaid B n L R N 8 (lexT B n L 0) 0) (fun q => zAft B n L R N f [8] q.1 q.2) := by
  unfold zSent
  refine orA (es := []) (fun f2 q hq hf2 hn => ?_) 21 _ _ f (by omega) (by omega) (by omega) (by show 20 - (0 : Int) + ((0 : Nat) : Int) < (f : Int); omega)
  cases f2 with
  | zero =>
    have hf2 : 20 - q.2 + ((0 : Nat) : Int) < ((0 : Nat) : Int) := hf2
    omega
  | succ f2 => rw [aft_e hn]
end SENT2
end
