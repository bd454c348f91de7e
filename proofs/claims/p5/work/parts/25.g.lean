noncomputable section
/-- what is known at the law's start: whether SIOOBE_FORMATTER is null; the script -/
def kq (z : Bool) (t : Nat) (_ : UInt32) (_ : Int32) : Option Bool := match z with
  | true => match Nat.beq t 77 with
    | true => some false
    | false => none
  | false => none
def kx (z : Bool) (xs : List Int32) : sKn := (kq z, xs.map .int)
def sc (xs : List Int32) (z : Int) : Int := (xs.getD z.toNat 0).toInt
theorem sc_R (xs : List Int32) (z : Int) : R32 (sc xs z) := R32_of _
theorem tg_skip {a b : List (Nat × sA)} {lo pc : Nat} (h : xa (fun q => Nat.blt q.1 lo) a = true) (hp : lo ≤ pc) : t_get (la_app a b) pc = t_get b pc := by
  rw [xa_eq] at h
  induction a with
  | nil => rfl
  | cons q a ih =>
    rw [List.all_cons, Bool.and_eq_true] at h
    have h1 := Nat.blt_eq.mp h.1
    have e : Nat.beq q.1 pc = false := by
      cases e : Nat.beq q.1 pc with
      | true =>
        have := Nat.eq_of_beq_eq_true e
        omega
      | false => rfl
    show (match Nat.beq q.1 pc with
      | true => some q.2
      | false => t_get (la_app a b) pc) = _
    rw [e]
    exact ih h.2
theorem tg_hit {a b : List (Nat × sA)} {pc : Nat} {x : sA} (h : t_get a pc = some x) : t_get (la_app a b) pc = some x := by
  induction a with
  | nil => cases h
  | cons q a ih =>
    have h : (match Nat.beq q.1 pc with
      | true => some q.2
      | false => t_get a pc) = some x := h
    show (match Nat.beq q.1 pc with
      | true => some q.2
      | false => t_get (la_app a b) pc) = some x
    cases e : Nat.beq q.1 pc with
    | true =>
      rw [e] at h
      exact h
    | false =>
      rw [e] at h
      exact ih h
section TG
variable {kn : sKn} {gx gm : List Value → sW → Option sR}
set_option maxRecDepth 100000 in
theorem tl_0 : xa (fun q => Nat.blt q.1 275) (tL_law_0 kn gx gm) = true := rfl
set_option maxRecDepth 100000 in
theorem tl_1 : xa (fun q => Nat.blt q.1 364) (tL_law_1 kn gx gm) = true := rfl
set_option maxRecDepth 100000 in
theorem tl_2 : xa (fun q => Nat.blt q.1 449) (tL_law_2 kn gx gm) = true := rfl
set_option maxRecDepth 100000 in
theorem tl_3 : xa (fun q => Nat.blt q.1 532) (tL_law_3 kn gx gm) = true := rfl
set_option maxRecDepth 100000 in
theorem tl_4 : xa (fun q => Nat.blt q.1 615) (tL_law_4 kn gx gm) = true := rfl
set_option maxRecDepth 100000 in
theorem tl_5 : xa (fun q => Nat.blt q.1 704) (tL_law_5 kn gx gm) = true := rfl
set_option maxRecDepth 100000 in
theorem tl_6 : xa (fun q => Nat.blt q.1 791) (tL_law_6 kn gx gm) = true := rfl
set_option maxRecDepth 100000 in
theorem tl_7 : xa (fun q => Nat.blt q.1 877) (tL_law_7 kn gx gm) = true := rfl
set_option maxRecDepth 100000 in
theorem tl_8 : xa (fun q => Nat.blt q.1 975) (tL_law_8 kn gx gm) = true := rfl
set_option maxRecDepth 100000 in
theorem tl_9 : xa (fun q => Nat.blt q.1 1067) (tL_law_9 kn gx gm) = true := rfl
set_option maxRecDepth 100000 in
theorem tl_10 : xa (fun q => Nat.blt q.1 1153) (tL_law_10 kn gx gm) = true := rfl
set_option maxRecDepth 100000 in
theorem tl_11 : xa (fun q => Nat.blt q.1 1237) (tL_law_11 kn gx gm) = true := rfl
set_option maxRecDepth 100000 in
theorem tl_12 : xa (fun q => Nat.blt q.1 1321) (tL_law_12 kn gx gm) = true := rfl
set_option maxRecDepth 100000 in
theorem tl_13 : xa (fun q => Nat.blt q.1 1413) (tL_law_13 kn gx gm) = true := rfl
theorem tg_0 {pc : Nat} {x : sA} (h : t_get (tL_law_0 kn gx gm) pc = some x) : t_get (tL_law kn gx gm) pc = some x := by
  unfold tL_law
  exact tg_hit h
theorem tg_1 {pc : Nat} {x : sA} (hp : 275 ≤ pc) (h : t_get (tL_law_1 kn gx gm) pc = some x) : t_get (tL_law kn gx gm) pc = some x := by
  unfold tL_law
  rw [tg_skip tl_0 (show 275 ≤ pc by omega)]
  exact tg_hit h
theorem tg_2 {pc : Nat} {x : sA} (hp : 364 ≤ pc) (h : t_get (tL_law_2 kn gx gm) pc = some x) : t_get (tL_law kn gx gm) pc = some x := by
  unfold tL_law
  rw [tg_skip tl_0 (show 275 ≤ pc by omega), tg_skip tl_1 (show 364 ≤ pc by omega)]
  exact tg_hit h
theorem tg_3 {pc : Nat} {x : sA} (hp : 449 ≤ pc) (h : t_get (tL_law_3 kn gx gm) pc = some x) : t_get (tL_law kn gx gm) pc = some x := by
  unfold tL_law
  rw [tg_skip tl_0 (show 275 ≤ pc by omega), tg_skip tl_1 (show 364 ≤ pc by omega), tg_skip tl_2 (show 449 ≤ pc by omega)]
  exact tg_hit h
theorem tg_4 {pc : Nat} {x : sA} (hp : 532 ≤ pc) (h : t_get (tL_law_4 kn gx gm) pc = some x) : t_get (tL_law kn gx gm) pc = some x := by
  unfold tL_law
  rw [tg_skip tl_0 (show 275 ≤ pc by omega), tg_skip tl_1 (show 364 ≤ pc by omega), tg_skip tl_2 (show 449 ≤ pc by omega), tg_skip tl_3 (show 532 ≤ pc by omega)]
  exact tg_hit h
theorem tg_5 {pc : Nat} {x : sA} (hp : 615 ≤ pc) (h : t_get (tL_law_5 kn gx gm) pc = some x) : t_get (tL_law kn gx gm) pc = some x := by
  unfold tL_law
  rw [tg_skip tl_0 (show 275 ≤ pc by omega), tg_skip tl_1 (show 364 ≤ pc by omega), tg_skip tl_2 (show 449 ≤ pc by omega), tg_skip tl_3 (show 532 ≤ pc by omega), tg_skip tl_4 (show 615 ≤ pc by omega)]
  exact tg_hit h
theorem tg_6 {pc : Nat} {x : sA} (hp : 704 ≤ pc) (h : t_get (tL_law_6 kn gx gm) pc = some x) : t_get (tL_law kn gx gm) pc = some x := by
  unfold tL_law
  rw [tg_skip tl_0 (show 275 ≤ pc by omega), tg_skip tl_1 (show 364 ≤ pc by omega), tg_skip tl_2 (show 449 ≤ pc by omega), tg_skip tl_3 (show 532 ≤ pc by omega), tg_skip tl_4 (show 615 ≤ pc by omega), tg_skip tl_5 (show 704 ≤ pc by omega)]
  exact tg_hit h
theorem tg_7 {pc : Nat} {x : sA} (hp : 791 ≤ pc) (h : t_get (tL_law_7 kn gx gm) pc = some x) : t_get (tL_law kn gx gm) pc = some x := by
  unfold tL_law
  rw [tg_skip tl_0 (show 275 ≤ pc by omega), tg_skip tl_1 (show 364 ≤ pc by omega), tg_skip tl_2 (show 449 ≤ pc by omega), tg_skip tl_3 (show 532 ≤ pc by omega), tg_skip tl_4 (show 615 ≤ pc by omega), tg_skip tl_5 (show 704 ≤ pc by omega), tg_skip tl_6 (show 791 ≤ pc by omega)]
  exact tg_hit h
theorem tg_8 {pc : Nat} {x : sA} (hp : 877 ≤ pc) (h : t_get (tL_law_8 kn gx gm) pc = some x) : t_get (tL_law kn gx gm) pc = some x := by
  unfold tL_law
  rw [tg_skip tl_0 (show 275 ≤ pc by omega), tg_skip tl_1 (show 364 ≤ pc by omega), tg_skip tl_2 (show 449 ≤ pc by omega), tg_skip tl_3 (show 532 ≤ pc by omega), tg_skip tl_4 (show 615 ≤ pc by omega), tg_skip tl_5 (show 704 ≤ pc by omega), tg_skip tl_6 (show 791 ≤ pc by omega), tg_skip tl_7 (show 877 ≤ pc by omega)]
  exact tg_hit h
theorem tg_9 {pc : Nat} {x : sA} (hp : 975 ≤ pc) (h : t_get (tL_law_9 kn gx gm) pc = some x) : t_get (tL_law kn gx gm) pc = some x := by
  unfold tL_law
  rw [tg_skip tl_0 (show 275 ≤ pc by omega), tg_skip tl_1 (show 364 ≤ pc by omega), tg_skip tl_2 (show 449 ≤ pc by omega), tg_skip tl_3 (show 532 ≤ pc by omega), tg_skip tl_4 (show 615 ≤ pc by omega), tg_skip tl_5 (show 704 ≤ pc by omega), tg_skip tl_6 (show 791 ≤ pc by omega), tg_skip tl_7 (show 877 ≤ pc by omega), tg_skip tl_8 (show 975 ≤ pc by omega)]
  exact tg_hit h
theorem tg_10 {pc : Nat} {x : sA} (hp : 1067 ≤ pc) (h : t_get (tL_law_10 kn gx gm) pc = some x) : t_get (tL_law kn gx gm) pc = some x := by
  unfold tL_law
  rw [tg_skip tl_0 (show 275 ≤ pc by omega), tg_skip tl_1 (show 364 ≤ pc by omega), tg_skip tl_2 (show 449 ≤ pc by omega), tg_skip tl_3 (show 532 ≤ pc by omega), tg_skip tl_4 (show 615 ≤ pc by omega), tg_skip tl_5 (show 704 ≤ pc by omega), tg_skip tl_6 (show 791 ≤ pc by omega), tg_skip tl_7 (show 877 ≤ pc by omega), tg_skip tl_8 (show 975 ≤ pc by omega), tg_skip tl_9 (show 1067 ≤ pc by omega)]
  exact tg_hit h
theorem tg_11 {pc : Nat} {x : sA} (hp : 1153 ≤ pc) (h : t_get (tL_law_11 kn gx gm) pc = some x) : t_get (tL_law kn gx gm) pc = some x := by
  unfold tL_law
  rw [tg_skip tl_0 (show 275 ≤ pc by omega), tg_skip tl_1 (show 364 ≤ pc by omega), tg_skip tl_2 (show 449 ≤ pc by omega), tg_skip tl_3 (show 532 ≤ pc by omega), tg_skip tl_4 (show 615 ≤ pc by omega), tg_skip tl_5 (show 704 ≤ pc by omega), tg_skip tl_6 (show 791 ≤ pc by omega), tg_skip tl_7 (show 877 ≤ pc by omega), tg_skip tl_8 (show 975 ≤ pc by omega), tg_skip tl_9 (show 1067 ≤ pc by omega), tg_skip tl_10 (show 1153 ≤ pc by omega)]
  exact tg_hit h
theorem tg_12 {pc : Nat} {x : sA} (hp : 1237 ≤ pc) (h : t_get (tL_law_12 kn gx gm) pc = some x) : t_get (tL_law kn gx gm) pc = some x := by
  unfold tL_law
  rw [tg_skip tl_0 (show 275 ≤ pc by omega), tg_skip tl_1 (show 364 ≤ pc by omega), tg_skip tl_2 (show 449 ≤ pc by omega), tg_skip tl_3 (show 532 ≤ pc by omega), tg_skip tl_4 (show 615 ≤ pc by omega), tg_skip tl_5 (show 704 ≤ pc by omega), tg_skip tl_6 (show 791 ≤ pc by omega), tg_skip tl_7 (show 877 ≤ pc by omega), tg_skip tl_8 (show 975 ≤ pc by omega), tg_skip tl_9 (show 1067 ≤ pc by omega), tg_skip tl_10 (show 1153 ≤ pc by omega), tg_skip tl_11 (show 1237 ≤ pc by omega)]
  exact tg_hit h
theorem tg_13 {pc : Nat} {x : sA} (hp : 1321 ≤ pc) (h : t_get (tL_law_13 kn gx gm) pc = some x) : t_get (tL_law kn gx gm) pc = some x := by
  unfold tL_law
  rw [tg_skip tl_0 (show 275 ≤ pc by omega), tg_skip tl_1 (show 364 ≤ pc by omega), tg_skip tl_2 (show 449 ≤ pc by omega), tg_skip tl_3 (show 532 ≤ pc by omega), tg_skip tl_4 (show 615 ≤ pc by omega), tg_skip tl_5 (show 704 ≤ pc by omega), tg_skip tl_6 (show 791 ≤ pc by omega), tg_skip tl_7 (show 877 ≤ pc by omega), tg_skip tl_8 (show 975 ≤ pc by omega), tg_skip tl_9 (show 1067 ≤ pc by omega), tg_skip tl_10 (show 1153 ≤ pc by omega), tg_skip tl_11 (show 1237 ≤ pc by omega), tg_skip tl_12 (show 1321 ≤ pc by omega)]
  exact tg_hit h
theorem tg_14 {pc : Nat} {x : sA} (hp : 1413 ≤ pc) (h : t_get (tL_law_14 kn gx gm) pc = some x) : t_get (tL_law kn gx gm) pc = some x := by
  unfold tL_law
  rw [tg_skip tl_0 (show 275 ≤ pc by omega), tg_skip tl_1 (show 364 ≤ pc by omega), tg_skip tl_2 (show 449 ≤ pc by omega), tg_skip tl_3 (show 532 ≤ pc by omega), tg_skip tl_4 (show 615 ≤ pc by omega), tg_skip tl_5 (show 704 ≤ pc by omega), tg_skip tl_6 (show 791 ≤ pc by omega), tg_skip tl_7 (show 877 ≤ pc by omega), tg_skip tl_8 (show 975 ≤ pc by omega), tg_skip tl_9 (show 1067 ≤ pc by omega), tg_skip tl_10 (show 1153 ≤ pc by omega), tg_skip tl_11 (show 1237 ≤ pc by omega), tg_skip tl_12 (show 1321 ≤ pc by omega), tg_skip tl_13 (show 1413 ≤ pc by omega)]
  exact h
end TG
section HRY
variable {tbl : List (Nat × sA)} {Po : sR → Prop} {pc np : Nat} {lv : List (Nat × Value)} {st : List Value} {w : sW} {n m : Nat} {kn : sKn} {xs : List Int32} {z : Bool}
theorem r_sldk {i : Int} (hi : 0 ≤ i ∧ i < (xs.length : Int) ∧ xs.length ≤ 3072) (ha : t_get tbl pc = some (a_sldk (kx z xs) np)) (g : Tp tbl Po np (lv, hI (sc xs i) :: st, w, n, m)) : Tp tbl Po pc (lv, hI i :: .ref 1000010 :: st, w, n, m) := by
  refine Tp_step ha (fun k => ?_) g
  have r : R32 i := by unfold R32; omega
  have e1 : (Int32.ofInt i).toNatClampNeg = i.toNat := by
    show (Int32.ofInt i).toInt.toNat = _
    rw [hI_to r]
  have e2 : ¬ (Int32.ofInt i < 0) := by
    rw [Int32.lt_iff_toInt_lt, hI_to r]
    show ¬ (i < 0)
    omega
  have hl : i.toNat < xs.length := by omega
  have e3 : (kx z xs).2[i.toNat]? = some (.int (xs.getD i.toNat 0)) := by
    show (xs.map Value.int)[i.toNat]? = _
    rw [List.getElem?_map, List.getElem?_eq_getElem hl, List.getD_eq_getElem?_getD, List.getElem?_eq_getElem hl]
    rfl
  have e4 : ¬ ((kx z xs).2.length ≤ i.toNat) := by
    show ¬ ((xs.map Value.int).length ≤ i.toNat)
    rw [List.length_map]
    omega
  show (if Int32.ofInt i < 0 ∨ (kx z xs).2.length ≤ (Int32.ofInt i).toNatClampNeg then none else match (kx z xs).2[(Int32.ofInt i).toNatClampNeg]? with
    | some v => k np (nrm (kx z xs) (lv, v :: st, w, n, m))
    | none => none) = _
  rw [e1, if_neg (fun h => h.elim e2 e4), e3]
  show k np (lv, Value.int (xs.getD i.toNat 0) :: st, w, n, m) = _
  rw [hI_of]
  rfl
theorem r_slen (ha : t_get tbl pc = some (a_slen (kx z xs) np)) (g : Tp tbl Po np (lv, hI (xs.length : Int) :: st, w, n, m)) : Tp tbl Po pc (lv, .ref 1000010 :: st, w, n, m) := Tp_step (ss' := (lv, hI (xs.length : Int) :: st, w, n, m)) ha (fun k => by
  show k np (lv, Value.int (Int32.ofNat (xs.map Value.int).length) :: st, w, n, m) = _
  rw [List.length_map]
  rfl) g
theorem c_63 (x : Int32) : ∃ z : Int, (0 ≤ z ∧ z ≤ 63) ∧ (x &&& 63) = Int32.ofInt z := by
  have h : (x &&& 63).toBitVec.toNat ≤ 63 := by
    rw [Int32.toBitVec_and, BitVec.toNat_and]
    exact Nat.and_le_right
  refine ⟨(x &&& 63).toInt, ?_, (Int32.ofInt_toInt _).symm⟩
  rw [Int32.toInt, BitVec.toInt_eq_toNat_of_lt (by omega)]
  omega
theorem r_kop63 {a : Int} (ha : t_get tbl pc = some (a_kop kn 1 q_iand np)) (g : ∀ z : Int, 0 ≤ z ∧ z ≤ 63 → Tp tbl Po np (lv, hI z :: st, w, n, m)) : Tp tbl Po pc (lv, hI 63 :: hI a :: st, w, n, m) := by
  obtain ⟨z, h1, h2⟩ := c_63 (Int32.ofInt a)
  refine Tp_step (ss' := (lv, hI z :: st, w, n, m)) ha (fun k => ?_) (g z h1)
  show k np (lv, Value.int (Int32.ofInt a &&& 63) :: st, w, n, m) = _
  rw [h2]
  rfl
theorem r_tab {lo hi : Int} {offs : List Nat} {dflt tgt : Nat} {x : Int} (v : Int) (e : x = v) (r : R32 v) (ha : t_get tbl pc = some (a_table kn lo hi offs dflt)) (h1 : lo ≤ v) (h2 : v ≤ hi) (ht : offs[(v - lo).toNat]? = some tgt) (g : Tp tbl Po tgt (lv, st, w, n, m)) : Tp tbl Po pc (lv, hI x :: st, w, n, m) := by
  subst e
  refine Tp_step ha (fun k => ?_) g
  show (if (Int32.ofInt x).toInt < lo ∨ hi < (Int32.ofInt x).toInt then k dflt (lv, st, w, n, m) else match offs[((Int32.ofInt x).toInt - lo).toNat]? with
    | some t => k t (lv, st, w, n, m)
    | none => none) = _
  rw [hI_to r, if_neg (by omega), ht]
theorem r_tabd {lo hi : Int} {offs : List Nat} {dflt : Nat} {x : Int} (ha : t_get tbl pc = some (a_table kn lo hi offs dflt)) (r : R32 x) (h : x < lo ∨ hi < x) (g : Tp tbl Po dflt (lv, st, w, n, m)) : Tp tbl Po pc (lv, hI x :: st, w, n, m) := by
  refine Tp_step ha (fun k => ?_) g
  show (if (Int32.ofInt x).toInt < lo ∨ hi < (Int32.ofInt x).toInt then k dflt (lv, st, w, n, m) else match offs[((Int32.ofInt x).toInt - lo).toNat]? with
    | some t => k t (lv, st, w, n, m)
    | none => none) = _
  rw [hI_to r, if_pos h]
theorem r_new {ci c : Nat} {fs : List Value} (hc : w.length = c) (ha : t_get tbl pc = some (a_new ci np fs)) (hw : wfS (lv, st, w, n, m) = true) (g : Tp tbl Po np (lv, .ref c :: st, w ++ [.inr (ci, fs)], n + 1, m + fs.length)) : Tp tbl Po pc (lv, st, w, n, m) := by
  subst hc
  exact Tp_step ha (fun k => by
    show (if wfS (lv, st, w, n, m) = true then k np (lv, .ref (xl w) :: st, w ++ [.inr (ci, fs)], n + 1, m + fs.length) else none) = _
    rw [if_pos hw, xl_eq]) g
theorem r_newa1 {c : Nat} (hc : w.length = c) (ha : t_get tbl pc = some (a_newa 2 np)) (hw : wfS (lv, st, w, n, m) = true) (g : Tp tbl Po np (lv, .ref c :: st, w ++ [.inl (2, [.long 0])], n + 1, m + 1)) : Tp tbl Po pc (lv, hI 1 :: st, w, n, m) := by
  subst hc
  refine Tp_step ha (fun k => ?_) g
  show (if wfS (lv, st, w, n, m) = true ∧ ¬ (Int32.ofInt 1 < 0) ∧ (Int32.ofInt 1).toNatClampNeg ≤ 100000 then k np (lv, .ref (xl w) :: st, w ++ [.inl (2, List.replicate (Int32.ofInt 1).toNatClampNeg (nuV 2))], n + 1, m + (Int32.ofInt 1).toNatClampNeg) else none) = _
  rw [if_pos ⟨hw, by decide, by decide⟩, xl_eq]
  rfl
theorem r_callI {f : List Value → sW → Option sR} {na c : Nat} {stk as : List Value} {w' : sW} {n' m' : Nat} (hs : (stk.take na).reverse = .ref c :: as) (hok : c_ok (lv, stk, w, n, m) na = true) (ha : t_get tbl pc = some (a_callI true f na np)) (hf : f (.ref c :: as) w = some (none, w', n', m')) (g : Tp tbl Po np (lv, stk.drop na, w', n + n', m + m')) : Tp tbl Po pc (lv, stk, w, n, m) := by
  refine Tp_step ha (fun k => ?_) g
  show (match c_ok (lv, stk, w, n, m) na with
    | true => match (stk.take na).reverse with
      | .ref h :: as => a_back true k np lv (stk.drop na) n m (f (.ref h :: as) w)
      | _ => none
    | false => none) = _
  rw [hok, hs]
  dsimp only
  rw [hf]
  rfl
theorem r_arg {p1 p2 p3 p4 : Nat} {i : Int} {v : Int32} (K : Int) (hv : v = Int32.ofInt K) (h0 : l_get lv 0 = some (.ref 1000010)) (h4 : l_get lv 4 = some (hI i)) (hi : 0 ≤ i + K ∧ i + K < (xs.length : Int) ∧ xs.length ≤ 3072) (a0 : t_get tbl pc = some (a_aload 0 p1)) (a1 : t_get tbl p1 = some (a_iload 4 p2)) (a2 : t_get tbl p2 = some (a_stk (q_int v) p3)) (a3 : t_get tbl p3 = some (a_stk q_iadd p4)) (a4 : t_get tbl p4 = some (a_sldk (kx z xs) np)) (g : Tp tbl Po np (lv, hI (sc xs (i + K)) :: st, w, n, m)) : Tp tbl Po pc (lv, st, w, n, m) :=
  r_aload a0 h0 (r_iload a1 h4 (r_intv hv a2 (r_iadd a3 (r_sldk hi a4 g))))
end HRY
end
