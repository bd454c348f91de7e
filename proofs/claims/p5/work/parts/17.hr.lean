noncomputable section
-- ===== runs by hand: a row an instruction; ints as whole numbers; worlds and locals by what is known of them =====
def hI (z : Int) : Value := .int (Int32.ofInt z)
def R32 (z : Int) : Prop := -2147483648 ≤ z ∧ z ≤ 2147483647
theorem hI_to {z : Int} (h : R32 z) : (Int32.ofInt z).toInt = z := Int32.toInt_ofInt_of_le (by have := h.1; omega) (by have := h.2; omega)
theorem hI_of (x : Int32) : Value.int x = hI x.toInt := by
  show Value.int x = Value.int (Int32.ofInt x.toInt)
  rw [Int32.ofInt_toInt]
theorem R32_of (x : Int32) : R32 x.toInt := ⟨by have := x.le_toInt; omega, by have := x.toInt_lt; omega⟩
theorem vOk_hI {z : Int} {v : Value} (h : vOk 0 z v) : v = hI z ∧ R32 z := by
  obtain ⟨x, rfl, rfl⟩ := h
  exact ⟨hI_of x, R32_of x⟩
theorem hI_vOk {z : Int} (h : R32 z) : vOk 0 z (hI z) := ⟨Int32.ofInt z, rfl, hI_to h⟩
theorem gF_at {w : sW} {c kf ci : Nat} {fs : List Value} {z : Int} (h : w[c]? = some (.inr (ci, fs))) (hf : fs[kf]? = some (hI z)) (r : R32 z) : gF w c kf = z := by
  unfold gF
  rw [h]
  dsimp only
  rw [hf]
  exact hI_to r
theorem gX_at {w : sW} {c j t : Nat} {vs : List Value} {z : Int} (h : w[c]? = some (.inl (t, vs))) (hf : vs[j]? = some (hI z)) (r : R32 z) : gX w c j = z := by
  unfold gX
  rw [h]
  dsimp only
  rw [hf]
  exact hI_to r
theorem gF_set {w : sW} {c c' kf ci : Nat} {fs fs' : List Value} (h : w[c]? = some (.inr (ci, fs))) (hf : c' = c → fs'[kf]? = fs[kf]?) : gF (w.set c (.inr (ci, fs'))) c' kf = gF w c' kf := by
  unfold gF
  by_cases e : c' = c
  · subst e
    rw [List.getElem?_set_self (List.getElem?_eq_some_iff.mp h).1, h]
    dsimp only
    rw [hf rfl]
  · rw [List.getElem?_set_ne (fun z => e z.symm)]
theorem gX_setF {w : sW} {c c' j ci : Nat} {fs fs' : List Value} (h : w[c]? = some (.inr (ci, fs))) : gX (w.set c (.inr (ci, fs'))) c' j = gX w c' j := by
  unfold gX
  by_cases e : c' = c
  · subst e
    rw [List.getElem?_set_self (List.getElem?_eq_some_iff.mp h).1, h]
  · rw [List.getElem?_set_ne (fun z => e z.symm)]
theorem gX_set {w : sW} {c c' j t : Nat} {vs vs' : List Value} (h : w[c]? = some (.inl (t, vs))) (hf : c' = c → vs'[j]? = vs[j]?) : gX (w.set c (.inl (t, vs'))) c' j = gX w c' j := by
  unfold gX
  by_cases e : c' = c
  · subst e
    rw [List.getElem?_set_self (List.getElem?_eq_some_iff.mp h).1, h]
    dsimp only
    rw [hf rfl]
  · rw [List.getElem?_set_ne (fun z => e z.symm)]
theorem gF_setX {w : sW} {c c' kf t : Nat} {vs vs' : List Value} (h : w[c]? = some (.inl (t, vs))) : gF (w.set c (.inl (t, vs'))) c' kf = gF w c' kf := by
  unfold gF
  by_cases e : c' = c
  · subst e
    rw [List.getElem?_set_self (List.getElem?_eq_some_iff.mp h).1, h]
  · rw [List.getElem?_set_ne (fun z => e z.symm)]
/-- locals by what is known of them -/
def l_upd (ps : List (Nat × Value)) (i : Nat) (v : Value) : List (Nat × Value) := List.rec (motive := fun _ => List (Nat × Value)) [(i, v)] (fun q r ih => match Nat.beq q.1 i with
  | true => (i, v) :: r
  | false => q :: ih) ps
theorem l_upd_get {ps : List (Nat × Value)} {i j : Nat} {v u : Value} (h : l_get (l_upd ps i v) j = some u) : (j = i ∧ u = v) ∨ (j ≠ i ∧ l_get ps j = some u) := by
  by_cases e : j = i
  · subst e
    refine Or.inl ⟨rfl, ?_⟩
    induction ps with
    | nil =>
      have h : l_get [(j, v)] j = some u := h
      rw [l_get_head] at h
      cases h
      rfl
    | cons q r ih =>
      have h : l_get (match Nat.beq q.1 j with
        | true => (j, v) :: r
        | false => q :: l_upd r j v) j = some u := h
      split at h
      · rw [l_get_head] at h
        cases h
        rfl
      · rename_i e2
        obtain ⟨q1, q2⟩ := q
        rw [l_get_tail e2] at h
        exact ih h
  · refine Or.inr ⟨e, ?_⟩
    induction ps with
    | nil =>
      have h : l_get [(i, v)] j = some u := h
      rw [l_get_skip (fun z => e z.symm)] at h
      cases h
    | cons q r ih =>
      obtain ⟨q1, q2⟩ := q
      have h : l_get (match Nat.beq q1 i with
        | true => (i, v) :: r
        | false => (q1, q2) :: l_upd r i v) j = some u := h
      split at h
      · rename_i e2
        rw [l_get_skip (fun z => e z.symm)] at h
        rw [l_get_skip (fun z => e (by rw [← z]; exact Nat.eq_of_beq_eq_true e2))]
        exact h
      · by_cases e3 : q1 = j
        · subst e3
          rw [l_get_head] at h ⊢
          exact h
        · rw [l_get_skip e3] at h ⊢
          exact ih h
def hL (lv ps : List (Nat × Value)) : Prop := (∀ i v, l_get ps i = some v → l_get lv i = some v) ∧ ∀ q ∈ lv, q.2.category = 1 ∧ wfV 241 q.2 = true
theorem hL_put {lv ps : List (Nat × Value)} {i : Nat} {v : Value} (h : hL lv ps) (hc : v.category = 1) (hw : wfV 241 v = true) : hL (l_put lv i v) (l_upd ps i v) := by
  refine ⟨?_, ?_⟩
  · intro j u hu
    rcases l_upd_get hu with ⟨rfl, rfl⟩ | ⟨e, e2⟩
    · exact l_get_head
    · have e3 := h.1 _ _ e2
      rw [l_put, l_get_skip (fun z => e z.symm), l_cut_eq]
      refine l_get_filter e3 ?_
      have := (h.2 _ (l_get_mem e3)).1
      dsimp only at this
      simp [e, this]
  · intro q hq
    rcases List.mem_cons.mp hq with e | e
    · subst e
      exact ⟨hc, hw⟩
    · rw [l_cut_eq] at e
      exact h.2 q (List.mem_filter.mp e).1
def hLb (ps : List (Nat × Value)) : Bool := xa (fun q => match Nat.beq q.2.category 1 with
  | true => wfV 241 q.2
  | false => false) ps
theorem hL_ex {ps : List (Nat × Value)} (h : hLb ps = true) : hL ps ps := by
  refine ⟨fun _ _ h => h, ?_⟩
  intro q hq
  unfold hLb at h
  rw [xa_eq] at h
  have h := List.all_eq_true.mp h q hq
  split at h
  · rename_i e
    exact ⟨Nat.eq_of_beq_eq_true e, h⟩
  · cases h
/-- the world as it is, and what has changed in it -/
def hO (D : List (Nat × Nat)) (w0 w : sW) : Prop := wOk ZZ w ∧ frOk ZZ D w0 w
theorem hO_len {D : List (Nat × Nat)} {w0 w : sW} (h : hO D w0 w) : 241 ≤ w.length := by
  obtain ⟨ly, c, _, h2, _⟩ := h.1.2 240 _ (show ZZ.2 240 = some _ from rfl)
  have := (List.getElem?_eq_some_iff.mp h2).1
  omega
theorem wf_up {v : Value} {n : Nat} (h : wfV 241 v = true) (hn : 241 ≤ n) : wfV n v = true := by
  cases v with
  | ref k =>
    have h : (Nat.blt k 241 || Nat.ble 1000000 k) = true := h
    show (Nat.blt k n || Nat.ble 1000000 k) = true
    simp only [Bool.or_eq_true, Nat.blt_eq, Nat.ble_eq] at h ⊢
    omega
  | _ => rfl
/-- the interval of an int field; the number that a field of references holds; arrays of ints -/
def fI (c ci kf : Nat) : Option (Nat × Int × Int) := match ztau c with
  | some t => match fty ZZ t ci kf with
    | some (0, .inl q) => match zle (-2147483648) q.1 with
      | true => match zle q.2 2147483647 with
        | true => some (t, q)
        | false => none
      | false => none
    | _ => none
  | none => none
def fR (c ci kf : Nat) : Option Nat := match ztau c with
  | some t => match fty ZZ t ci kf with
    | some (2, .inl q) => match zeq q.1 q.2 with
      | true => match q.1 with
        | .ofNat k => some k
        | .negSucc _ => none
      | false => none
    | _ => none
  | none => none
def aI (c : Nat) : Option (Nat × Nat) := match ztau c with
  | some t => match aty ZZ t with
    | some q => match Nat.beq q.1 1 with
      | true => some (t, q.2.1)
      | false => none
    | none => none
  | none => none
def aSg (c : Nat) : List (Nat × eE) := match ztau c with
  | some t => match aty ZZ t with
    | some q => q.2.2
    | none => []
  | none => []
/-- the elements from a on, n of them, lie between lo and hi; what lies between lo and hi may be put there -/
def aR (c a n : Nat) (lo hi : Int) : Bool := xa (fun j => match sga (aSg c) (a + j) with
  | some (.inl q) => match zle lo q.1 with
    | true => zle q.2 hi
    | false => false
  | _ => false) (List.range n)
def aP (c a n : Nat) (lo hi : Int) : Bool := xa (fun j => match sga (aSg c) (a + j) with
  | some (.inl q) => match zle q.1 lo with
    | true => zle hi q.2
    | false => false
  | _ => false) (List.range n)
theorem fI_ok {D : List (Nat × Nat)} {w0 w : sW} {c ci kf t : Nat} {lo hi : Int} (ho : hO D w0 w) (h : fI c ci kf = some (t, lo, hi)) : ∃ fs, ztau c = some t ∧ fty ZZ t ci kf = some (0, .inl (lo, hi)) ∧ -2147483648 ≤ lo ∧ hi ≤ 2147483647 ∧ w[c]? = some (.inr (ci, fs)) ∧ fs[kf]? = some (hI (gF w c kf)) ∧ lo ≤ gF w c kf ∧ gF w c kf ≤ hi := by
  unfold fI at h
  split at h
  · rename_i t' ht
    split at h
    · rename_i q hq
      split at h
      · rename_i c1
        split at h
        · rename_i c2
          rw [zle_iff] at c1 c2
          cases h
          obtain ⟨fs, v, w1, w2, ⟨z, z1, z2⟩, _⟩ := fty_ok ho.1 (show ZZ.2 c = some _ from ht) hq
          obtain ⟨rfl, r⟩ := vOk_hI z1
          have z2 : lo ≤ z ∧ z ≤ hi := z2
          have e := gF_at w1 w2 r
          rw [e]
          exact ⟨fs, ht, hq, c1, c2, w1, w2, z2.1, z2.2⟩
        · cases h
      · cases h
    · cases h
  · cases h
theorem fR_ok {D : List (Nat × Nat)} {w0 w : sW} {c ci kf k : Nat} (ho : hO D w0 w) (h : fR c ci kf = some k) : ∃ fs, w[c]? = some (.inr (ci, fs)) ∧ fs[kf]? = some (.ref k) := by
  unfold fR at h
  split at h
  · rename_i t' ht
    split at h
    · rename_i q hq
      split at h
      · rename_i c1
        rw [zeq_iff] at c1
        split at h
        · rename_i k' hk
          cases h
          obtain ⟨fs, v, w1, w2, ⟨z, z1, z2⟩, _⟩ := fty_ok ho.1 (show ZZ.2 c = some _ from ht) hq
          obtain ⟨k2, rfl, z3⟩ := z1
          have z2 : q.1 ≤ z ∧ z ≤ q.2 := z2
          have hk : q.1 = (k : Int) := hk
          have : k2 = k := by omega
          subst this
          exact ⟨fs, w1, w2⟩
        · cases h
      · cases h
    · cases h
  · cases h
theorem aI_ok {D : List (Nat × Nat)} {w0 w : sW} {c t n : Nat} (ho : hO D w0 w) (h : aI c = some (t, n)) : ∃ vs q, ztau c = some t ∧ aty ZZ t = some q ∧ q.1 = 1 ∧ q.2.1 = n ∧ q.2.2 = aSg c ∧ w[c]? = some (.inl (1, vs)) ∧ vs.length = n ∧ ∀ (j : Nat) v, vs[j]? = some v → ∃ e, sga (aSg c) j = some e ∧ fvOk ZZ (0, e) v := by
  unfold aI at h
  split at h
  · rename_i t' ht
    split at h
    · rename_i q hq
      split at h
      · rename_i c1
        cases h
        have c1 := Nat.eq_of_beq_eq_true c1
        obtain ⟨_, vs, w1, w2, w3⟩ := aty_ok ho.1 (show ZZ.2 c = some t from ht) hq
        have e : q.2.2 = aSg c := by
          unfold aSg
          rw [ht]
          dsimp only
          rw [hq]
        rw [c1] at w1 w3
        refine ⟨vs, q, ht, hq, c1, rfl, e, w1, w2, ?_⟩
        rw [← e]
        exact w3
      · cases h
    · cases h
  · cases h
theorem gX_in {D : List (Nat × Nat)} {w0 w : sW} {c t n a m j : Nat} {lo hi : Int} (ho : hO D w0 w) (h : aI c = some (t, n)) (hr : aR c a m lo hi = true) (h1 : a ≤ j) (h2 : j < a + m) (h3 : j < n) : lo ≤ gX w c j ∧ gX w c j ≤ hi := by
  obtain ⟨vs, q, _, _, _, _, _, w1, w2, w3⟩ := aI_ok ho h
  have hj : j < vs.length := by omega
  obtain ⟨e, e1, z, z1, z2⟩ := w3 j _ (List.getElem?_eq_getElem hj)
  obtain ⟨e2, r⟩ := vOk_hI z1
  have eg := gX_at (c := c) w1 (by rw [List.getElem?_eq_getElem hj, e2]) r
  rw [eg]
  unfold aR at hr
  rw [xa_eq] at hr
  have k := List.all_eq_true.mp hr (j - a) (List.mem_range.mpr (by omega))
  rw [show a + (j - a) = j by omega, e1] at k
  split at k
  · rename_i q' hq'
    cases hq'
    have z2 : q'.1 ≤ z ∧ z ≤ q'.2 := z2
    split at k
    · rename_i k1
      rw [zle_iff] at k k1
      omega
    · cases k
  · cases k
theorem gX_r {D : List (Nat × Nat)} {w0 w : sW} {c t n j : Nat} (ho : hO D w0 w) (h : aI c = some (t, n)) (hj : j < n) : ∃ vs, w[c]? = some (.inl (1, vs)) ∧ vs.length = n ∧ vs[j]? = some (hI (gX w c j)) ∧ R32 (gX w c j) := by
  obtain ⟨vs, q, _, _, _, _, _, w1, w2, w3⟩ := aI_ok ho h
  have hj : j < vs.length := by omega
  obtain ⟨e, e1, z, z1, z2⟩ := w3 j _ (List.getElem?_eq_getElem hj)
  obtain ⟨e2, r⟩ := vOk_hI z1
  have eg := gX_at (c := c) w1 (by rw [List.getElem?_eq_getElem hj, e2]) r
  refine ⟨vs, w1, w2, ?_, ?_⟩
  · rw [eg, List.getElem?_eq_getElem hj, e2]
  · rw [eg]
    exact r
/-- ints that are not below 0, as places -/
theorem ixN_hI {i : Int} (h0 : 0 ≤ i) (h1 : i ≤ 2147483647) : ixN (Int32.ofInt i) = i.toNat := by
  unfold ixN
  have h : (Int32.ofInt i).toInt = i := hI_to ⟨by omega, h1⟩
  have h2 : (Int32.ofInt i).toBitVec.toInt = i := h
  have h3 := (Int32.ofInt i).toBitVec.isLt
  rw [BitVec.toInt_eq_toNat_cond] at h2
  split at h2 <;> omega
end
