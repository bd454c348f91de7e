noncomputable section
theorem aj_15 : aJ 15 = some (6, 10) := by decide +kernel
theorem aj_21 : aJ 21 = some (12, 6) := by decide +kernel
theorem aj_168 : aJ 168 = some (6, 10) := by decide +kernel
theorem aj_174 : aJ 174 = some (12, 6) := by decide +kernel
theorem aj_191 : aJ 191 = some (6, 10) := by decide +kernel
theorem aj_197 : aJ 197 = some (12, 6) := by decide +kernel
theorem ait_7 : aIt 7 = some 10 := by decide +kernel
theorem ait_11 : aIt 11 = some 36 := by decide +kernel
theorem fit_5_1 : fIt 5 7 1 = some ((-2147483648), 2147483647) := by decide +kernel
theorem fit_5_3 : fIt 5 7 3 = some (0, 6) := by decide +kernel
theorem fit_5_4 : fIt 5 7 4 = some ((-2147483648), 2147483647) := by decide +kernel
/-- ints are no longs, longs no ints -/
theorem zl_Y {vs : List Value} {S : List (Nat × eE)} (h : ∀ (j : Nat) v, vs[j]? = some v → ∃ e, sga S j = some e ∧ fvOk ZZ (0, e) v) (j : Nat) : (match vs[j]? with
    | some (.long x) => x
    | _ => (0 : Int64)) = 0 := by
  cases e : vs[j]? with
  | none => rfl
  | some v =>
    obtain ⟨_, _, z, ⟨y, h3, _⟩, _⟩ := h j v e
    subst h3
    rfl
theorem zl_X {vs : List Value} {S : List (Nat × eE)} (h : ∀ (j : Nat) v, vs[j]? = some v → ∃ e, sga S j = some e ∧ fvOk ZZ (1, e) v) (j : Nat) : (match vs[j]? with
    | some (.int x) => x.toInt
    | _ => (0 : Int)) = 0 := by
  cases e : vs[j]? with
  | none => rfl
  | some v =>
    obtain ⟨_, _, z, ⟨y, h3, _⟩, _⟩ := h j v e
    subst h3
    rfl
theorem gX_setL {w : sW} {c c' j t : Nat} {vs vs' : List Value} (h : w[c]? = some (.inl (t, vs))) (hf : c' = c → (match vs'[j]? with
    | some (.int x) => x.toInt
    | _ => (0 : Int)) = (match vs[j]? with
    | some (.int x) => x.toInt
    | _ => 0)) : gX (w.set c (.inl (t, vs'))) c' j = gX w c' j := by
  unfold gX
  by_cases e : c' = c
  · subst e
    rw [List.getElem?_set_self (List.getElem?_eq_some_iff.mp h).1, h]
    exact hf rfl
  · rw [List.getElem?_set_ne (fun z => e z.symm)]
section SMC
variable {E : List (Nat × Nat × Nat)} {w w' : sW} {c : Nat}
theorem sm_cX (h : (2, c, 0) ∈ E) (hX : ∀ c' j', c' ≠ c → gX w' c' j' = gX w c' j') (hF : ∀ c' k', gF w' c' k' = gF w c' k') (hJ : ∀ c' k', gJ w' c' k' = gJ w c' k') (hY : ∀ c' j, gY w' c' j = gY w c' j) (hR : smR w w') : smW E w w' := ⟨fun c' k' _ => hF c' k', fun c' k' _ => hJ c' k', fun c' j hn => hX c' j (fun e => hn (by rw [e]; exact h)), fun c' j _ => hY c' j, hR⟩
theorem sm_cY (h : (3, c, 0) ∈ E) (hY : ∀ c' j', c' ≠ c → gY w' c' j' = gY w c' j') (hF : ∀ c' k', gF w' c' k' = gF w c' k') (hX : ∀ c' j', gX w' c' j' = gX w c' j') (hJ : ∀ c' k', gJ w' c' k' = gJ w c' k') (hR : smR w w') : smW E w w' := ⟨fun c' k' _ => hF c' k', fun c' k' _ => hJ c' k', fun c' j _ => hX c' j, fun c' j hn => hY c' j (fun e => hn (by rw [e]; exact h)), hR⟩
end SMC
section HC
variable {tbl : List (Nat × sA)} {Po : sR → Prop} {pc np : Nat} {lv ps : List (Nat × Value)} {st : List Value} {w w0 : sW} {D : List (Nat × Nat)} {kn : sKn}
theorem x_copyF {a b t n : Nat} {nI : Int} (ha : t_get tbl pc = some (a_copy np)) (ho : hO D w0 w) (hca : ztau a = some t) (hcb : ztau b = some t) (hn : aIt t = some n) (hl : nI = (n : Int)) (hs : Nat.ble n 999 = true) (hm : mIn D t 999 = true) (hst : Nat.ble (st.map fun v => v.category).sum 8 = true) (g : ∀ w', hO D w0 w' → (∀ j, gX w' b j = gX w a j) → (∀ c j, c ≠ b → gX w' c j = gX w c j) → (∀ c k, gF w' c k = gF w c k) → (∀ c k, gJ w' c k = gJ w c k) → (∀ c j, gY w' c j = gY w c j) → smR w w' → Tp tbl Po np (lv, st, w', 0, 0)) (hq : pOkA D t 999 = true := by rfl) (hb : pOkB D t 0 = true := by rfl) : Tp tbl Po pc (lv, hI nI :: hI 0 :: .ref b :: hI 0 :: .ref a :: st, w, 0, 0) := by
  subst hl
  have hs := Nat.le_of_ble_eq_true hs
  have hst := Nat.le_of_ble_eq_true hst
  obtain ⟨vs, q, k1, k2, k3, k4, k5, k6, k7, k8⟩ := aI_ok ho (aI_of hca hn)
  obtain ⟨us, q', j1, j2, j3, j4, j5, j6, j7, j8⟩ := aI_ok ho (aI_of hcb hn)
  have e0 : (Int32.ofInt 0).toInt = 0 := hI_to ⟨by omega, by omega⟩
  have en : (Int32.ofInt (n : Int)).toInt = (n : Int) := hI_to ⟨by omega, by omega⟩
  obtain ⟨n1, n2⟩ := clampNeg (x := Int32.ofInt 0) (by omega)
  obtain ⟨n3, n4⟩ := clampNeg (x := Int32.ofInt (n : Int)) (by omega)
  rw [e0] at n2
  rw [en] at n4
  have c4 : 0 + n ≤ vs.length := by omega
  have c5 : 0 + n ≤ us.length := by omega
  have hl := (List.getElem?_eq_some_iff.mp j6).1
  have hget : ∀ j, (cpyL vs us 0 0 n)[j]? = vs[j]? := fun j => by
    rw [cpyL_get c4 c5]
    split
    · rename_i h
      rw [show 0 + (j - 0) = j by omega]
    · rename_i h
      rw [List.getElem?_eq_none (by omega), List.getElem?_eq_none (by omega)]
  have e1 : (w.set b (.inl (1, cpyL vs us 0 0 n)))[b]? = some (.inl (1, cpyL vs us 0 0 n)) := List.getElem?_set_self hl
  have hw' : wOk ZZ (w.set b (.inl (1, cpyL vs us 0 0 n))) := by
    have := wOk_arr (Z := ZZ) (vs' := cpyL vs us 0 0 n) ho.1 (show ZZ.2 b = some t from j1) j2 (by rw [cpyL_len c4 c5, j7, j4]) (by
      intro j v hv
      rw [hget] at hv
      rw [j5, j3, aSg_of hcb, ← aSg_of hca]
      exact k8 j v hv)
    rw [j3] at this
    exact this
  refine Tp_step ha (fun k => ?_) (g _ ⟨hw', frOk_arr ho.2 j1 j6 (mIn_mem hm) hq hb (fun j hj => by rw [List.getElem?_eq_none (by rw [cpyL_len c4 c5]; omega), List.getElem?_eq_none (by dsimp only; omega)]) (fun j hj => absurd hj (Nat.not_lt_zero j))⟩ ?_ ?_ (fun _ _ => gF_setX j6) (fun _ _ => gJ_setX j6) (fun c j => gY_set j6 (fun _ => (zl_Y (S := aSg a) (fun j v hv => k8 j v (by rw [hget] at hv; exact hv)) j).trans (zl_Y j8 j).symm)) (fun _ _ => gR_arr j6))
  · show a_copy np k (lv, Value.int (Int32.ofInt (n : Int)) :: Value.int (Int32.ofInt 0) :: .ref b :: Value.int (Int32.ofInt 0) :: .ref a :: st, w, 0, 0) = _
    simp only [a_copy, xg_eq, xs_eq, k6, j6]
    rw [if_pos ⟨n1, n1, n3, by rw [n2, n4]; exact c4, by rw [n2, n4]; exact c5, hst⟩, n2, n4]
    rfl
  · intro j
    unfold gX
    rw [e1, k6]
    try dsimp only
    rw [hget]
  · intro c j hc
    exact gX_set j6 (fun z => absurd z hc)
/-- a whole array of longs copied onto another of its type -/
theorem x_copyL {a b t n : Nat} {nI : Int} (ha : t_get tbl pc = some (a_copy np)) (ho : hO D w0 w) (hca : aJ a = some (t, n)) (hcb : aJ b = some (t, n)) (hl : nI = (n : Int)) (hs : Nat.ble n 999 = true) (hm : mIn D t 999 = true) (hst : Nat.ble (st.map fun v => v.category).sum 8 = true) (g : ∀ w', hO D w0 w' → (∀ j, gY w' b j = gY w a j) → (∀ c j, c ≠ b → gY w' c j = gY w c j) → (∀ c k, gF w' c k = gF w c k) → (∀ c j, gX w' c j = gX w c j) → (∀ c k, gJ w' c k = gJ w c k) → smR w w' → Tp tbl Po np (lv, st, w', 0, 0)) (hq : pOkA D t 999 = true := by rfl) (hb : pOkB D t 0 = true := by rfl) : Tp tbl Po pc (lv, hI nI :: hI 0 :: .ref b :: hI 0 :: .ref a :: st, w, 0, 0) := by
  subst hl
  have hs := Nat.le_of_ble_eq_true hs
  have hst := Nat.le_of_ble_eq_true hst
  obtain ⟨vs, q, k1, k2, k3, k4, k6, k7, k8, k9⟩ := aJ_ok ho hca
  obtain ⟨us, q', j1, j2, j3, j4, j6, j7, j8, j9⟩ := aJ_ok ho hcb
  have eq : q' = q := by
    rw [k2] at j2
    cases j2
    rfl
  subst eq
  have e0 : (Int32.ofInt 0).toInt = 0 := hI_to ⟨by omega, by omega⟩
  have en : (Int32.ofInt (n : Int)).toInt = (n : Int) := hI_to ⟨by omega, by omega⟩
  obtain ⟨n1, n2⟩ := clampNeg (x := Int32.ofInt 0) (by omega)
  obtain ⟨n3, n4⟩ := clampNeg (x := Int32.ofInt (n : Int)) (by omega)
  rw [e0] at n2
  rw [en] at n4
  have c4 : 0 + n ≤ vs.length := by omega
  have c5 : 0 + n ≤ us.length := by omega
  have hl := (List.getElem?_eq_some_iff.mp j6).1
  have hget : ∀ j, (cpyL vs us 0 0 n)[j]? = vs[j]? := fun j => by
    rw [cpyL_get c4 c5]
    split
    · rename_i h
      rw [show 0 + (j - 0) = j by omega]
    · rename_i h
      rw [List.getElem?_eq_none (by omega), List.getElem?_eq_none (by omega)]
  have e1 : (w.set b (.inl (2, cpyL vs us 0 0 n)))[b]? = some (.inl (2, cpyL vs us 0 0 n)) := List.getElem?_set_self hl
  have hw' : wOk ZZ (w.set b (.inl (2, cpyL vs us 0 0 n))) := by
    have := wOk_arr (Z := ZZ) (vs' := cpyL vs us 0 0 n) ho.1 (show ZZ.2 b = some t from j1) j2 (by rw [cpyL_len c4 c5, j7, j4]) (by
      intro j v hv
      rw [hget] at hv
      rw [j3]
      exact k8 j v hv)
    rw [j3] at this
    exact this
  refine Tp_step ha (fun k => ?_) (g _ ⟨hw', frOk_arr ho.2 j1 j6 (mIn_mem hm) hq hb (fun j hj => by rw [List.getElem?_eq_none (by rw [cpyL_len c4 c5]; omega), List.getElem?_eq_none (by dsimp only; omega)]) (fun j hj => absurd hj (Nat.not_lt_zero j))⟩ ?_ ?_ (fun _ _ => gF_setX j6) ?_ (fun _ _ => gJ_setX j6) (fun _ _ => gR_arr j6))
  · show a_copy np k (lv, Value.int (Int32.ofInt (n : Int)) :: Value.int (Int32.ofInt 0) :: .ref b :: Value.int (Int32.ofInt 0) :: .ref a :: st, w, 0, 0) = _
    simp only [a_copy, xg_eq, xs_eq, k6, j6]
    rw [if_pos ⟨n1, n1, n3, by rw [n2, n4]; exact c4, by rw [n2, n4]; exact c5, hst⟩, n2, n4]
    rfl
  · intro j
    unfold gY
    rw [e1, k6]
    try dsimp only
    rw [hget]
  · intro c j hc
    exact gY_set j6 (fun z => absurd z hc)
  · intro c j
    exact gX_setL j6 (fun _ => (zl_X (S := q'.2.2) (fun j v hv => k8 j v (by rw [hget] at hv; exact hv)) j).trans (zl_X j8 j).symm)
end HC
def gQa (w : sW) (c j : Nat) : Nat := match w[c]? with
  | some (.inl q) => match q.2[j]? with
    | some (.ref k) => k
    | _ => 0
  | _ => 0
theorem fr_gQa {D : List (Nat × Nat)} {w w' : sW} {c t : Nat} (o : frOk ZZ D w w') (hc : ztau c = some t) (hm : mIn D t 999 = false) (j : Nat) : gQa w' c j = gQa w c j := by
  unfold gQa
  cases e : w[c]? with
  | none => rw [List.getElem?_eq_none (by rw [o.1]; exact List.getElem?_eq_none_iff.mp e)]
  | some x =>
    have p := (o.2.1 c x e).2 t hc
    cases x with
    | inl q =>
      have p : (t, 999) ∉ D → w'[c]? = some (.inl q) := p
      rw [p (mIn_no hm)]
    | inr q =>
      obtain ⟨fs', e1, _⟩ := p
      rw [e1]
theorem fr_gY {D : List (Nat × Nat)} {w w' : sW} {c t : Nat} (o : frOk ZZ D w w') (hc : ztau c = some t) (hm : mIn D t 999 = false) (j : Nat) : gY w' c j = gY w c j := by
  unfold gY
  cases e : w[c]? with
  | none => rw [List.getElem?_eq_none (by rw [o.1]; exact List.getElem?_eq_none_iff.mp e)]
  | some x =>
    have p := (o.2.1 c x e).2 t hc
    cases x with
    | inl q =>
      have p : (t, 999) ∉ D → w'[c]? = some (.inl q) := p
      rw [p (mIn_no hm)]
    | inr q =>
      obtain ⟨fs', e1, _⟩ := p
      rw [e1]
theorem fr_gX2 {D : List (Nat × Nat)} {w w' : sW} {c t : Nat} (o : frOk ZZ D w w') (hc : ztau c = some t) (hm : mIn D t 999 = false) (j : Nat) : gX w' c j = gX w c j := by
  unfold gX
  cases e : w[c]? with
  | none => rw [List.getElem?_eq_none (by rw [o.1]; exact List.getElem?_eq_none_iff.mp e)]
  | some x =>
    have p := (o.2.1 c x e).2 t hc
    cases x with
    | inl q =>
      have p : (t, 999) ∉ D → w'[c]? = some (.inl q) := p
      rw [p (mIn_no hm)]
    | inr q =>
      obtain ⟨fs', e1, _⟩ := p
      rw [e1]
/-- the three plans that stand: now, and the two images -/
def cpl (c : Nat) : Prop := c = 14 ∨ c = 167 ∨ c = 190
/-- a plan's numbers, names and references are as they were -/
def pkP (w w' : sW) (c : Nat) : Prop := (∀ f, f < 5 → gF w' c f = gF w c f) ∧ (∀ j, gY w' (c + 1) j = gY w (c + 1) j) ∧ ∀ j, gY w' (c + 7) j = gY w (c + 7) j
def rkP (w w' : sW) : Prop := ∀ c, cpl c → ∀ k, k < 9 → gR w' c (6 + k) = gR w c (6 + k)
def pkC (w w' : sW) : Prop := (∀ c, cpl c → pkP w w' c) ∧ rkP w w'
theorem pkP_tr {a b c : sW} {k : Nat} (h : pkP a b k) (g : pkP b c k) : pkP a c k := ⟨fun f hf => (g.1 f hf).trans (h.1 f hf), fun j => (g.2.1 j).trans (h.2.1 j), fun j => (g.2.2 j).trans (h.2.2 j)⟩
theorem pkC_rf (w : sW) : pkC w w := ⟨fun _ _ => ⟨fun _ _ => rfl, fun _ => rfl, fun _ => rfl⟩, fun _ _ _ _ => rfl⟩
theorem pkC_tr {a b c : sW} (h : pkC a b) (g : pkC b c) : pkC a c := ⟨fun k hk => pkP_tr (h.1 k hk) (g.1 k hk), fun k hk f hf => (g.2 k hk f hf).trans (h.2 k hk f hf)⟩
def cL : List (Nat × Nat) := [(5, 0), (5, 1), (5, 2), (5, 3), (5, 4), (5, 6), (5, 7), (5, 8), (5, 9), (5, 10), (5, 11), (5, 12), (5, 13), (5, 14), (6, 999), (12, 999)]
def cD (D : List (Nat × Nat)) : Bool := cL.any (fun q => mIn D q.1 q.2)
theorem cD_no {D : List (Nat × Nat)} (h : cD D = false) {a b : Nat} (hq : (a, b) ∈ cL) : mIn D a b = false := by
  have := List.any_eq_false.mp h (a, b) hq
  simpa using this
theorem cD_f {D : List (Nat × Nat)} (h : cD D = false) {f : Nat} (hf : f < 5) : mIn D 5 f = false := by
  refine cD_no h ?_
  rcases (by omega : f = 0 ∨ f = 1 ∨ f = 2 ∨ f = 3 ∨ f = 4) with rfl | rfl | rfl | rfl | rfl <;> decide
theorem cD_r {D : List (Nat × Nat)} (h : cD D = false) {k : Nat} (hk : k < 9) : mIn D 5 (6 + k) = false := by
  refine cD_no h ?_
  rcases (by omega : k = 0 ∨ k = 1 ∨ k = 2 ∨ k = 3 ∨ k = 4 ∨ k = 5 ∨ k = 6 ∨ k = 7 ∨ k = 8) with rfl | rfl | rfl | rfl | rfl | rfl | rfl | rfl | rfl <;> decide
theorem cpl_t {c : Nat} (h : cpl c) : ztau c = some 5 ∧ ztau (c + 1) = some 6 ∧ ztau (c + 7) = some 12 ∧ cIs c ≠ none := by
  rcases h with rfl | rfl | rfl
  · exact ⟨rfl, rfl, rfl, by decide +kernel⟩
  · exact ⟨rfl, rfl, rfl, by decide +kernel⟩
  · exact ⟨rfl, rfl, rfl, by decide +kernel⟩
theorem pkC_hO {D : List (Nat × Nat)} {w w' : sW} (hw : wOk ZZ w) (o : hO D w w') (h : cD D = false) : pkC w w' := ⟨fun c hc => by
  obtain ⟨t1, t2, t3, t4⟩ := cpl_t hc
  exact ⟨fun f hf => fr_gF o.2 t1 (cD_f h hf) hw t4, fun j => fr_gY o.2 t2 (cD_no h (by decide)) j, fun j => fr_gY o.2 t3 (cD_no h (by decide)) j⟩, fun c hc k hk => by
  obtain ⟨t1, _, _, t4⟩ := cpl_t hc
  exact fr_gR o.2 t1 (cD_r h hk) t4 hw⟩
/-- the plan in cell a is now the plan that was in cell b -/
def cpP (w w' : sW) (a b : Nat) : Prop := (∀ f, f < 5 → gF w' a f = gF w b f) ∧ (∀ j, gY w' (a + 1) j = gY w (b + 1) j) ∧ (∀ j, gY w' (a + 7) j = gY w (b + 7) j) ∧ (∀ c, cpl c → c ≠ a → pkP w w' c) ∧ rkP w w'
theorem cpP_pk {w w1 w2 : sW} {a b : Nat} (ha : cpl a) (h : cpP w w1 a b) (k : pkC w1 w2) : cpP w w2 a b := by
  obtain ⟨h1, h2, h3, h4, h5⟩ := h
  obtain ⟨k1, k2, k3⟩ := k.1 a ha
  exact ⟨fun f hf => (k1 f hf).trans (h1 f hf), fun j => (k2 j).trans (h2 j), fun j => (k3 j).trans (h3 j), fun c hc hn => pkP_tr (h4 c hc hn) (k.1 c hc), fun c hc f hf => (k.2 c hc f hf).trans (h5 c hc f hf)⟩
theorem cpP_kp {w w1 w2 : sW} {a b : Nat} (hb : cpl b) (k : pkC w w1) (h : cpP w1 w2 a b) : cpP w w2 a b := by
  obtain ⟨h1, h2, h3, h4, h5⟩ := h
  obtain ⟨k1, k2, k3⟩ := k.1 b hb
  exact ⟨fun f hf => (h1 f hf).trans (k1 f hf), fun j => (h2 j).trans (k2 j), fun j => (h3 j).trans (k3 j), fun c hc hn => pkP_tr (k.1 c hc) (h4 c hc hn), fun c hc f hf => (h5 c hc f hf).trans (k.2 c hc f hf)⟩
/-- a plan's arrays lie behind it -/
def plX (w : sW) (c : Nat) : Prop := ∀ k, k < 9 → gR w c (6 + k) = c + 1 + k
theorem plX_rk {w w' : sW} {c : Nat} (hc : cpl c) (k : rkP w w') (h : plX w c) : plX w' c := fun i hi => (k c hc i hi).trans (h i hi)
theorem plX_4 {w : sW} (h : pl4 w) : plX w 4 := by
  obtain ⟨h1, h2, h3, h4, h5, h6, h7, h8, h9⟩ := h
  intro k hk
  rcases (by omega : k = 0 ∨ k = 1 ∨ k = 2 ∨ k = 3 ∨ k = 4 ∨ k = 5 ∨ k = 6 ∨ k = 7 ∨ k = 8) with rfl | rfl | rfl | rfl | rfl | rfl | rfl | rfl | rfl
  · exact h1
  · exact h2
  · exact h3
  · exact h4
  · exact h5
  · exact h6
  · exact h7
  · exact h8
  · exact h9
def eCP14 : List (Nat × Nat × Nat) := [(0, 14, 0), (0, 14, 1), (0, 14, 2), (0, 14, 3), (0, 14, 4), (0, 14, 5), (3, 15, 0), (2, 16, 0), (2, 17, 0), (2, 18, 0), (2, 19, 0), (2, 20, 0), (3, 21, 0), (2, 22, 0), (2, 23, 0)]
/-- the plans that such a copy leaves alone -/
theorem cp_E {E : List (Nat × Nat × Nat)} {w w' : sW} {a c : Nat} (S : smW E w w') (hc : cpl c) (hn : c ≠ a) (ha : cpl a) (h1 : ∀ q ∈ E, q.1 = 0 → q.2.1 = a) (h2 : ∀ q ∈ E, q.1 = 3 → q.2.1 = a + 1 ∨ q.2.1 = a + 7) : pkP w w' c := by
  have hd : c + 1 ≠ a + 7 ∧ c + 7 ≠ a + 1 := by
    rcases hc with rfl | rfl | rfl <;> rcases ha with rfl | rfl | rfl <;> decide
  refine ⟨fun f _ => S.1 c f (fun e => hn (h1 _ e rfl)), fun j => S.2.2.2.1 (c + 1) j (fun e => ?_), fun j => S.2.2.2.1 (c + 7) j (fun e => ?_)⟩
  · have := h2 _ e rfl
    dsimp only at this
    omega
  · have := h2 _ e rfl
    dsimp only at this
    omega
theorem x_cp_14_4 {kn : sKn} {w0 : sW} (hw : wOk ZZ w0) (hA : plX w0 14) (hB : plX w0 4) : ∃ w', fX6_copyOf kn [.ref 14, .ref 4] w0 = some (none, w', 0, 0) ∧ hO dX6_copyOf w0 w' ∧ cpP w0 w' 14 4 := by
  have K : Tp (tX6_copyOf kn) (fun r => ∃ w', r = (none, w', 0, 0) ∧ hO dX6_copyOf w0 w' ∧ cpP w0 w' 14 4) 0 (lv_args 0 [.ref 14, .ref 4], [], w0, 0, 0) := by
    have l0 : hL (lv_args 0 [.ref 14, .ref 4]) (lv_args 0 [.ref 14, .ref 4]) := hL_ex rfl
    have o0 : hO dX6_copyOf w0 w0 := hO_rf hw
    have sm := smW_rf eCP14 w0
    refine h_aload rfl l0 rfl ?_
    refine h_aload rfl l0 rfl ?_
    refine h_getI rfl o0 (fI_of (show ztau 4 = some 5 from rfl) fit_5_0) (fun b41a b41b => ?_)
    refine x_putI rfl o0 (fI_of (show ztau 14 = some 5 from rfl) fit_5_0) rfl (by omega) (by omega) (fun w42 o42 q43a q43F q43X q43J q43Y q43R => ?_)
    refine h_aload rfl l0 rfl ?_
    refine h_aload rfl l0 rfl ?_
    refine h_getI rfl o42 (fI_of (show ztau 4 = some 5 from rfl) fit_5_1) (fun b44a b44b => ?_)
    rw [q43F 4 1 (by decide)] at b44a b44b ⊢
    refine x_putI rfl o42 (fI_of (show ztau 14 = some 5 from rfl) fit_5_1) rfl (by omega) (by omega) (fun w45 o45 q46a q46F q46X q46J q46Y q46R => ?_)
    refine h_aload rfl l0 rfl ?_
    refine h_aload rfl l0 rfl ?_
    refine h_getI rfl o45 (fI_of (show ztau 4 = some 5 from rfl) fit_5_2) (fun b47a b47b => ?_)
    rw [q46F 4 2 (by decide), q43F 4 2 (by decide)] at b47a b47b ⊢
    refine x_putI rfl o45 (fI_of (show ztau 14 = some 5 from rfl) fit_5_2) rfl (by omega) (by omega) (fun w48 o48 q49a q49F q49X q49J q49Y q49R => ?_)
    refine h_aload rfl l0 rfl ?_
    refine h_aload rfl l0 rfl ?_
    refine h_getI rfl o48 (fI_of (show ztau 4 = some 5 from rfl) fit_5_3) (fun b50a b50b => ?_)
    rw [q49F 4 3 (by decide), q46F 4 3 (by decide), q43F 4 3 (by decide)] at b50a b50b ⊢
    refine x_putI rfl o48 (fI_of (show ztau 14 = some 5 from rfl) fit_5_3) rfl (by omega) (by omega) (fun w51 o51 q52a q52F q52X q52J q52Y q52R => ?_)
    refine h_aload rfl l0 rfl ?_
    refine h_aload rfl l0 rfl ?_
    refine h_getI rfl o51 (fI_of (show ztau 4 = some 5 from rfl) fit_5_4) (fun b53a b53b => ?_)
    rw [q52F 4 4 (by decide), q49F 4 4 (by decide), q46F 4 4 (by decide), q43F 4 4 (by decide)] at b53a b53b ⊢
    refine x_putI rfl o51 (fI_of (show ztau 14 = some 5 from rfl) fit_5_4) rfl (by omega) (by omega) (fun w54 o54 q55a q55F q55X q55J q55Y q55R => ?_)
    refine h_aload rfl l0 rfl ?_
    refine h_aload rfl l0 rfl ?_
    refine h_getI rfl o54 (fI_of (show ztau 4 = some 5 from rfl) fit_5_5) (fun b56a b56b => ?_)
    rw [q55F 4 5 (by decide), q52F 4 5 (by decide), q49F 4 5 (by decide), q46F 4 5 (by decide), q43F 4 5 (by decide)] at b56a b56b ⊢
    refine x_putI rfl o54 (fI_of (show ztau 14 = some 5 from rfl) fit_5_5) rfl (by omega) (by omega) (fun w57 o57 q58a q58F q58X q58J q58Y q58R => ?_)
    refine h_aload rfl l0 rfl ?_
    refine h_getT rfl o57 (show ztau 4 = some 5 from rfl) frt_5_6 (fun kk59 hkk59 rkk59 => ?_)
    have ekk59 : kk59 = 5 := by
      have p9 : gR w0 4 6 = 5 := hB 0 (by decide)
      have := (smW_tr (smW_tr (smW_tr (smW_tr (smW_tr (smW_tr sm (sm_pI (by decide) q43F q43X q43J q43Y q43R)) (sm_pI (by decide) q46F q46X q46J q46Y q46R)) (sm_pI (by decide) q49F q49X q49J q49Y q49R)) (sm_pI (by decide) q52F q52X q52J q52Y q52R)) (sm_pI (by decide) q55F q55X q55J q55Y q55R)) (sm_pI (by decide) q58F q58X q58J q58Y q58R)).2.2.2.2 4 6
      omega
    subst ekk59
    refine h_intv k_0 rfl ?_
    refine h_aload rfl l0 rfl ?_
    refine h_getT rfl o57 (show ztau 14 = some 5 from rfl) frt_5_6 (fun kk60 hkk60 rkk60 => ?_)
    have ekk60 : kk60 = 15 := by
      have p9 : gR w0 14 6 = 15 := hA 0 (by decide)
      have := (smW_tr (smW_tr (smW_tr (smW_tr (smW_tr (smW_tr sm (sm_pI (by decide) q43F q43X q43J q43Y q43R)) (sm_pI (by decide) q46F q46X q46J q46Y q46R)) (sm_pI (by decide) q49F q49X q49J q49Y q49R)) (sm_pI (by decide) q52F q52X q52J q52Y q52R)) (sm_pI (by decide) q55F q55X q55J q55Y q55R)) (sm_pI (by decide) q58F q58X q58J q58Y q58R)).2.2.2.2 14 6
      omega
    subst ekk60
    refine h_intv k_0 rfl ?_
    refine h_intv k_10 rfl ?_
    refine x_copyL rfl o57 aj_5 aj_15 rfl rfl rfl rfl (fun w61 o61 q62a q62Y q62F q62X q62J q62R => ?_)
    refine h_aload rfl l0 rfl ?_
    refine h_getT rfl o61 (show ztau 4 = some 5 from rfl) frt_5_7 (fun kk63 hkk63 rkk63 => ?_)
    have ekk63 : kk63 = 6 := by
      have p9 : gR w0 4 7 = 6 := hB 1 (by decide)
      have := (smW_tr (smW_tr (smW_tr (smW_tr (smW_tr (smW_tr (smW_tr sm (sm_pI (by decide) q43F q43X q43J q43Y q43R)) (sm_pI (by decide) q46F q46X q46J q46Y q46R)) (sm_pI (by decide) q49F q49X q49J q49Y q49R)) (sm_pI (by decide) q52F q52X q52J q52Y q52R)) (sm_pI (by decide) q55F q55X q55J q55Y q55R)) (sm_pI (by decide) q58F q58X q58J q58Y q58R)) (sm_cY (by decide) q62Y q62F q62X q62J q62R)).2.2.2.2 4 7
      omega
    subst ekk63
    refine h_intv k_0 rfl ?_
    refine h_aload rfl l0 rfl ?_
    refine h_getT rfl o61 (show ztau 14 = some 5 from rfl) frt_5_7 (fun kk64 hkk64 rkk64 => ?_)
    have ekk64 : kk64 = 16 := by
      have p9 : gR w0 14 7 = 16 := hA 1 (by decide)
      have := (smW_tr (smW_tr (smW_tr (smW_tr (smW_tr (smW_tr (smW_tr sm (sm_pI (by decide) q43F q43X q43J q43Y q43R)) (sm_pI (by decide) q46F q46X q46J q46Y q46R)) (sm_pI (by decide) q49F q49X q49J q49Y q49R)) (sm_pI (by decide) q52F q52X q52J q52Y q52R)) (sm_pI (by decide) q55F q55X q55J q55Y q55R)) (sm_pI (by decide) q58F q58X q58J q58Y q58R)) (sm_cY (by decide) q62Y q62F q62X q62J q62R)).2.2.2.2 14 7
      omega
    subst ekk64
    refine h_intv k_0 rfl ?_
    refine h_intv k_10 rfl ?_
    refine x_copyF rfl o61 (show ztau 6 = some 7 from rfl) (show ztau 16 = some 7 from rfl) ait_7 rfl rfl rfl rfl (fun w65 o65 q66a q66X q66F q66J q66Y q66R => ?_)
    refine h_aload rfl l0 rfl ?_
    refine h_getT rfl o65 (show ztau 4 = some 5 from rfl) frt_5_8 (fun kk67 hkk67 rkk67 => ?_)
    have ekk67 : kk67 = 7 := by
      have p9 : gR w0 4 8 = 7 := hB 2 (by decide)
      have := (smW_tr (smW_tr (smW_tr (smW_tr (smW_tr (smW_tr (smW_tr (smW_tr sm (sm_pI (by decide) q43F q43X q43J q43Y q43R)) (sm_pI (by decide) q46F q46X q46J q46Y q46R)) (sm_pI (by decide) q49F q49X q49J q49Y q49R)) (sm_pI (by decide) q52F q52X q52J q52Y q52R)) (sm_pI (by decide) q55F q55X q55J q55Y q55R)) (sm_pI (by decide) q58F q58X q58J q58Y q58R)) (sm_cY (by decide) q62Y q62F q62X q62J q62R)) (sm_cX (by decide) q66X q66F q66J q66Y q66R)).2.2.2.2 4 8
      omega
    subst ekk67
    refine h_intv k_0 rfl ?_
    refine h_aload rfl l0 rfl ?_
    refine h_getT rfl o65 (show ztau 14 = some 5 from rfl) frt_5_8 (fun kk68 hkk68 rkk68 => ?_)
    have ekk68 : kk68 = 17 := by
      have p9 : gR w0 14 8 = 17 := hA 2 (by decide)
      have := (smW_tr (smW_tr (smW_tr (smW_tr (smW_tr (smW_tr (smW_tr (smW_tr sm (sm_pI (by decide) q43F q43X q43J q43Y q43R)) (sm_pI (by decide) q46F q46X q46J q46Y q46R)) (sm_pI (by decide) q49F q49X q49J q49Y q49R)) (sm_pI (by decide) q52F q52X q52J q52Y q52R)) (sm_pI (by decide) q55F q55X q55J q55Y q55R)) (sm_pI (by decide) q58F q58X q58J q58Y q58R)) (sm_cY (by decide) q62Y q62F q62X q62J q62R)) (sm_cX (by decide) q66X q66F q66J q66Y q66R)).2.2.2.2 14 8
      omega
    subst ekk68
    refine h_intv k_0 rfl ?_
    refine h_intv k_10 rfl ?_
    refine x_copyF rfl o65 (show ztau 7 = some 8 from rfl) (show ztau 17 = some 8 from rfl) ait_8 rfl rfl rfl rfl (fun w69 o69 q70a q70X q70F q70J q70Y q70R => ?_)
    refine h_aload rfl l0 rfl ?_
    refine h_getT rfl o69 (show ztau 4 = some 5 from rfl) frt_5_9 (fun kk71 hkk71 rkk71 => ?_)
    have ekk71 : kk71 = 8 := by
      have p9 : gR w0 4 9 = 8 := hB 3 (by decide)
      have := (smW_tr (smW_tr (smW_tr (smW_tr (smW_tr (smW_tr (smW_tr (smW_tr (smW_tr sm (sm_pI (by decide) q43F q43X q43J q43Y q43R)) (sm_pI (by decide) q46F q46X q46J q46Y q46R)) (sm_pI (by decide) q49F q49X q49J q49Y q49R)) (sm_pI (by decide) q52F q52X q52J q52Y q52R)) (sm_pI (by decide) q55F q55X q55J q55Y q55R)) (sm_pI (by decide) q58F q58X q58J q58Y q58R)) (sm_cY (by decide) q62Y q62F q62X q62J q62R)) (sm_cX (by decide) q66X q66F q66J q66Y q66R)) (sm_cX (by decide) q70X q70F q70J q70Y q70R)).2.2.2.2 4 9
      omega
    subst ekk71
    refine h_intv k_0 rfl ?_
    refine h_aload rfl l0 rfl ?_
    refine h_getT rfl o69 (show ztau 14 = some 5 from rfl) frt_5_9 (fun kk72 hkk72 rkk72 => ?_)
    have ekk72 : kk72 = 18 := by
      have p9 : gR w0 14 9 = 18 := hA 3 (by decide)
      have := (smW_tr (smW_tr (smW_tr (smW_tr (smW_tr (smW_tr (smW_tr (smW_tr (smW_tr sm (sm_pI (by decide) q43F q43X q43J q43Y q43R)) (sm_pI (by decide) q46F q46X q46J q46Y q46R)) (sm_pI (by decide) q49F q49X q49J q49Y q49R)) (sm_pI (by decide) q52F q52X q52J q52Y q52R)) (sm_pI (by decide) q55F q55X q55J q55Y q55R)) (sm_pI (by decide) q58F q58X q58J q58Y q58R)) (sm_cY (by decide) q62Y q62F q62X q62J q62R)) (sm_cX (by decide) q66X q66F q66J q66Y q66R)) (sm_cX (by decide) q70X q70F q70J q70Y q70R)).2.2.2.2 14 9
      omega
    subst ekk72
    refine h_intv k_0 rfl ?_
    refine h_intv k_10 rfl ?_
    refine x_copyF rfl o69 (show ztau 8 = some 9 from rfl) (show ztau 18 = some 9 from rfl) ait_9 rfl rfl rfl rfl (fun w73 o73 q74a q74X q74F q74J q74Y q74R => ?_)
    refine h_aload rfl l0 rfl ?_
    refine h_getT rfl o73 (show ztau 4 = some 5 from rfl) frt_5_10 (fun kk75 hkk75 rkk75 => ?_)
    have ekk75 : kk75 = 9 := by
      have p9 : gR w0 4 10 = 9 := hB 4 (by decide)
      have := (smW_tr (smW_tr (smW_tr (smW_tr (smW_tr (smW_tr (smW_tr (smW_tr (smW_tr (smW_tr sm (sm_pI (by decide) q43F q43X q43J q43Y q43R)) (sm_pI (by decide) q46F q46X q46J q46Y q46R)) (sm_pI (by decide) q49F q49X q49J q49Y q49R)) (sm_pI (by decide) q52F q52X q52J q52Y q52R)) (sm_pI (by decide) q55F q55X q55J q55Y q55R)) (sm_pI (by decide) q58F q58X q58J q58Y q58R)) (sm_cY (by decide) q62Y q62F q62X q62J q62R)) (sm_cX (by decide) q66X q66F q66J q66Y q66R)) (sm_cX (by decide) q70X q70F q70J q70Y q70R)) (sm_cX (by decide) q74X q74F q74J q74Y q74R)).2.2.2.2 4 10
      omega
    subst ekk75
    refine h_intv k_0 rfl ?_
    refine h_aload rfl l0 rfl ?_
    refine h_getT rfl o73 (show ztau 14 = some 5 from rfl) frt_5_10 (fun kk76 hkk76 rkk76 => ?_)
    have ekk76 : kk76 = 19 := by
      have p9 : gR w0 14 10 = 19 := hA 4 (by decide)
      have := (smW_tr (smW_tr (smW_tr (smW_tr (smW_tr (smW_tr (smW_tr (smW_tr (smW_tr (smW_tr sm (sm_pI (by decide) q43F q43X q43J q43Y q43R)) (sm_pI (by decide) q46F q46X q46J q46Y q46R)) (sm_pI (by decide) q49F q49X q49J q49Y q49R)) (sm_pI (by decide) q52F q52X q52J q52Y q52R)) (sm_pI (by decide) q55F q55X q55J q55Y q55R)) (sm_pI (by decide) q58F q58X q58J q58Y q58R)) (sm_cY (by decide) q62Y q62F q62X q62J q62R)) (sm_cX (by decide) q66X q66F q66J q66Y q66R)) (sm_cX (by decide) q70X q70F q70J q70Y q70R)) (sm_cX (by decide) q74X q74F q74J q74Y q74R)).2.2.2.2 14 10
      omega
    subst ekk76
    refine h_intv k_0 rfl ?_
    refine h_intv k_10 rfl ?_
    refine x_copyF rfl o73 (show ztau 9 = some 10 from rfl) (show ztau 19 = some 10 from rfl) ait_10 rfl rfl rfl rfl (fun w77 o77 q78a q78X q78F q78J q78Y q78R => ?_)
    refine h_aload rfl l0 rfl ?_
    refine h_getT rfl o77 (show ztau 4 = some 5 from rfl) frt_5_11 (fun kk79 hkk79 rkk79 => ?_)
    have ekk79 : kk79 = 10 := by
      have p9 : gR w0 4 11 = 10 := hB 5 (by decide)
      have := (smW_tr (smW_tr (smW_tr (smW_tr (smW_tr (smW_tr (smW_tr (smW_tr (smW_tr (smW_tr (smW_tr sm (sm_pI (by decide) q43F q43X q43J q43Y q43R)) (sm_pI (by decide) q46F q46X q46J q46Y q46R)) (sm_pI (by decide) q49F q49X q49J q49Y q49R)) (sm_pI (by decide) q52F q52X q52J q52Y q52R)) (sm_pI (by decide) q55F q55X q55J q55Y q55R)) (sm_pI (by decide) q58F q58X q58J q58Y q58R)) (sm_cY (by decide) q62Y q62F q62X q62J q62R)) (sm_cX (by decide) q66X q66F q66J q66Y q66R)) (sm_cX (by decide) q70X q70F q70J q70Y q70R)) (sm_cX (by decide) q74X q74F q74J q74Y q74R)) (sm_cX (by decide) q78X q78F q78J q78Y q78R)).2.2.2.2 4 11
      omega
    subst ekk79
    refine h_intv k_0 rfl ?_
    refine h_aload rfl l0 rfl ?_
    refine h_getT rfl o77 (show ztau 14 = some 5 from rfl) frt_5_11 (fun kk80 hkk80 rkk80 => ?_)
    have ekk80 : kk80 = 20 := by
      have p9 : gR w0 14 11 = 20 := hA 5 (by decide)
      have := (smW_tr (smW_tr (smW_tr (smW_tr (smW_tr (smW_tr (smW_tr (smW_tr (smW_tr (smW_tr (smW_tr sm (sm_pI (by decide) q43F q43X q43J q43Y q43R)) (sm_pI (by decide) q46F q46X q46J q46Y q46R)) (sm_pI (by decide) q49F q49X q49J q49Y q49R)) (sm_pI (by decide) q52F q52X q52J q52Y q52R)) (sm_pI (by decide) q55F q55X q55J q55Y q55R)) (sm_pI (by decide) q58F q58X q58J q58Y q58R)) (sm_cY (by decide) q62Y q62F q62X q62J q62R)) (sm_cX (by decide) q66X q66F q66J q66Y q66R)) (sm_cX (by decide) q70X q70F q70J q70Y q70R)) (sm_cX (by decide) q74X q74F q74J q74Y q74R)) (sm_cX (by decide) q78X q78F q78J q78Y q78R)).2.2.2.2 14 11
      omega
    subst ekk80
    refine h_intv k_0 rfl ?_
    refine h_intv k_36 rfl ?_
    refine x_copyF rfl o77 (show ztau 10 = some 11 from rfl) (show ztau 20 = some 11 from rfl) ait_11 rfl rfl rfl rfl (fun w81 o81 q82a q82X q82F q82J q82Y q82R => ?_)
    refine h_aload rfl l0 rfl ?_
    refine h_getT rfl o81 (show ztau 4 = some 5 from rfl) frt_5_12 (fun kk83 hkk83 rkk83 => ?_)
    have ekk83 : kk83 = 11 := by
      have p9 : gR w0 4 12 = 11 := hB 6 (by decide)
      have := (smW_tr (smW_tr (smW_tr (smW_tr (smW_tr (smW_tr (smW_tr (smW_tr (smW_tr (smW_tr (smW_tr (smW_tr sm (sm_pI (by decide) q43F q43X q43J q43Y q43R)) (sm_pI (by decide) q46F q46X q46J q46Y q46R)) (sm_pI (by decide) q49F q49X q49J q49Y q49R)) (sm_pI (by decide) q52F q52X q52J q52Y q52R)) (sm_pI (by decide) q55F q55X q55J q55Y q55R)) (sm_pI (by decide) q58F q58X q58J q58Y q58R)) (sm_cY (by decide) q62Y q62F q62X q62J q62R)) (sm_cX (by decide) q66X q66F q66J q66Y q66R)) (sm_cX (by decide) q70X q70F q70J q70Y q70R)) (sm_cX (by decide) q74X q74F q74J q74Y q74R)) (sm_cX (by decide) q78X q78F q78J q78Y q78R)) (sm_cX (by decide) q82X q82F q82J q82Y q82R)).2.2.2.2 4 12
      omega
    subst ekk83
    refine h_intv k_0 rfl ?_
    refine h_aload rfl l0 rfl ?_
    refine h_getT rfl o81 (show ztau 14 = some 5 from rfl) frt_5_12 (fun kk84 hkk84 rkk84 => ?_)
    have ekk84 : kk84 = 21 := by
      have p9 : gR w0 14 12 = 21 := hA 6 (by decide)
      have := (smW_tr (smW_tr (smW_tr (smW_tr (smW_tr (smW_tr (smW_tr (smW_tr (smW_tr (smW_tr (smW_tr (smW_tr sm (sm_pI (by decide) q43F q43X q43J q43Y q43R)) (sm_pI (by decide) q46F q46X q46J q46Y q46R)) (sm_pI (by decide) q49F q49X q49J q49Y q49R)) (sm_pI (by decide) q52F q52X q52J q52Y q52R)) (sm_pI (by decide) q55F q55X q55J q55Y q55R)) (sm_pI (by decide) q58F q58X q58J q58Y q58R)) (sm_cY (by decide) q62Y q62F q62X q62J q62R)) (sm_cX (by decide) q66X q66F q66J q66Y q66R)) (sm_cX (by decide) q70X q70F q70J q70Y q70R)) (sm_cX (by decide) q74X q74F q74J q74Y q74R)) (sm_cX (by decide) q78X q78F q78J q78Y q78R)) (sm_cX (by decide) q82X q82F q82J q82Y q82R)).2.2.2.2 14 12
      omega
    subst ekk84
    refine h_intv k_0 rfl ?_
    refine h_intv k_6 rfl ?_
    refine x_copyL rfl o81 aj_11 aj_21 rfl rfl rfl rfl (fun w85 o85 q86a q86Y q86F q86X q86J q86R => ?_)
    refine h_aload rfl l0 rfl ?_
    refine h_getT rfl o85 (show ztau 4 = some 5 from rfl) frt_5_13 (fun kk87 hkk87 rkk87 => ?_)
    have ekk87 : kk87 = 12 := by
      have p9 : gR w0 4 13 = 12 := hB 7 (by decide)
      have := (smW_tr (smW_tr (smW_tr (smW_tr (smW_tr (smW_tr (smW_tr (smW_tr (smW_tr (smW_tr (smW_tr (smW_tr (smW_tr sm (sm_pI (by decide) q43F q43X q43J q43Y q43R)) (sm_pI (by decide) q46F q46X q46J q46Y q46R)) (sm_pI (by decide) q49F q49X q49J q49Y q49R)) (sm_pI (by decide) q52F q52X q52J q52Y q52R)) (sm_pI (by decide) q55F q55X q55J q55Y q55R)) (sm_pI (by decide) q58F q58X q58J q58Y q58R)) (sm_cY (by decide) q62Y q62F q62X q62J q62R)) (sm_cX (by decide) q66X q66F q66J q66Y q66R)) (sm_cX (by decide) q70X q70F q70J q70Y q70R)) (sm_cX (by decide) q74X q74F q74J q74Y q74R)) (sm_cX (by decide) q78X q78F q78J q78Y q78R)) (sm_cX (by decide) q82X q82F q82J q82Y q82R)) (sm_cY (by decide) q86Y q86F q86X q86J q86R)).2.2.2.2 4 13
      omega
    subst ekk87
    refine h_intv k_0 rfl ?_
    refine h_aload rfl l0 rfl ?_
    refine h_getT rfl o85 (show ztau 14 = some 5 from rfl) frt_5_13 (fun kk88 hkk88 rkk88 => ?_)
    have ekk88 : kk88 = 22 := by
      have p9 : gR w0 14 13 = 22 := hA 7 (by decide)
      have := (smW_tr (smW_tr (smW_tr (smW_tr (smW_tr (smW_tr (smW_tr (smW_tr (smW_tr (smW_tr (smW_tr (smW_tr (smW_tr sm (sm_pI (by decide) q43F q43X q43J q43Y q43R)) (sm_pI (by decide) q46F q46X q46J q46Y q46R)) (sm_pI (by decide) q49F q49X q49J q49Y q49R)) (sm_pI (by decide) q52F q52X q52J q52Y q52R)) (sm_pI (by decide) q55F q55X q55J q55Y q55R)) (sm_pI (by decide) q58F q58X q58J q58Y q58R)) (sm_cY (by decide) q62Y q62F q62X q62J q62R)) (sm_cX (by decide) q66X q66F q66J q66Y q66R)) (sm_cX (by decide) q70X q70F q70J q70Y q70R)) (sm_cX (by decide) q74X q74F q74J q74Y q74R)) (sm_cX (by decide) q78X q78F q78J q78Y q78R)) (sm_cX (by decide) q82X q82F q82J q82Y q82R)) (sm_cY (by decide) q86Y q86F q86X q86J q86R)).2.2.2.2 14 13
      omega
    subst ekk88
    refine h_intv k_0 rfl ?_
    refine h_intv k_6 rfl ?_
    refine x_copyF rfl o85 (show ztau 12 = some 13 from rfl) (show ztau 22 = some 13 from rfl) ait_13 rfl rfl rfl rfl (fun w89 o89 q90a q90X q90F q90J q90Y q90R => ?_)
    refine h_aload rfl l0 rfl ?_
    refine h_getT rfl o89 (show ztau 4 = some 5 from rfl) frt_5_14 (fun kk91 hkk91 rkk91 => ?_)
    have ekk91 : kk91 = 13 := by
      have p9 : gR w0 4 14 = 13 := hB 8 (by decide)
      have := (smW_tr (smW_tr (smW_tr (smW_tr (smW_tr (smW_tr (smW_tr (smW_tr (smW_tr (smW_tr (smW_tr (smW_tr (smW_tr (smW_tr sm (sm_pI (by decide) q43F q43X q43J q43Y q43R)) (sm_pI (by decide) q46F q46X q46J q46Y q46R)) (sm_pI (by decide) q49F q49X q49J q49Y q49R)) (sm_pI (by decide) q52F q52X q52J q52Y q52R)) (sm_pI (by decide) q55F q55X q55J q55Y q55R)) (sm_pI (by decide) q58F q58X q58J q58Y q58R)) (sm_cY (by decide) q62Y q62F q62X q62J q62R)) (sm_cX (by decide) q66X q66F q66J q66Y q66R)) (sm_cX (by decide) q70X q70F q70J q70Y q70R)) (sm_cX (by decide) q74X q74F q74J q74Y q74R)) (sm_cX (by decide) q78X q78F q78J q78Y q78R)) (sm_cX (by decide) q82X q82F q82J q82Y q82R)) (sm_cY (by decide) q86Y q86F q86X q86J q86R)) (sm_cX (by decide) q90X q90F q90J q90Y q90R)).2.2.2.2 4 14
      omega
    subst ekk91
    refine h_intv k_0 rfl ?_
    refine h_aload rfl l0 rfl ?_
    refine h_getT rfl o89 (show ztau 14 = some 5 from rfl) frt_5_14 (fun kk92 hkk92 rkk92 => ?_)
    have ekk92 : kk92 = 23 := by
      have p9 : gR w0 14 14 = 23 := hA 8 (by decide)
      have := (smW_tr (smW_tr (smW_tr (smW_tr (smW_tr (smW_tr (smW_tr (smW_tr (smW_tr (smW_tr (smW_tr (smW_tr (smW_tr (smW_tr sm (sm_pI (by decide) q43F q43X q43J q43Y q43R)) (sm_pI (by decide) q46F q46X q46J q46Y q46R)) (sm_pI (by decide) q49F q49X q49J q49Y q49R)) (sm_pI (by decide) q52F q52X q52J q52Y q52R)) (sm_pI (by decide) q55F q55X q55J q55Y q55R)) (sm_pI (by decide) q58F q58X q58J q58Y q58R)) (sm_cY (by decide) q62Y q62F q62X q62J q62R)) (sm_cX (by decide) q66X q66F q66J q66Y q66R)) (sm_cX (by decide) q70X q70F q70J q70Y q70R)) (sm_cX (by decide) q74X q74F q74J q74Y q74R)) (sm_cX (by decide) q78X q78F q78J q78Y q78R)) (sm_cX (by decide) q82X q82F q82J q82Y q82R)) (sm_cY (by decide) q86Y q86F q86X q86J q86R)) (sm_cX (by decide) q90X q90F q90J q90Y q90R)).2.2.2.2 14 14
      omega
    subst ekk92
    refine h_intv k_0 rfl ?_
    refine h_intv k_6 rfl ?_
    refine x_copyF rfl o89 (show ztau 13 = some 14 from rfl) (show ztau 23 = some 14 from rfl) ait_14 rfl rfl rfl rfl (fun w93 o93 q94a q94X q94F q94J q94Y q94R => ?_)
    refine h_vret rfl ?_
    have S := smW_tr (smW_tr (smW_tr (smW_tr (smW_tr (smW_tr (smW_tr (smW_tr (smW_tr (smW_tr (smW_tr (smW_tr (smW_tr (smW_tr (smW_tr sm (sm_pI (by decide) q43F q43X q43J q43Y q43R)) (sm_pI (by decide) q46F q46X q46J q46Y q46R)) (sm_pI (by decide) q49F q49X q49J q49Y q49R)) (sm_pI (by decide) q52F q52X q52J q52Y q52R)) (sm_pI (by decide) q55F q55X q55J q55Y q55R)) (sm_pI (by decide) q58F q58X q58J q58Y q58R)) (sm_cY (by decide) q62Y q62F q62X q62J q62R)) (sm_cX (by decide) q66X q66F q66J q66Y q66R)) (sm_cX (by decide) q70X q70F q70J q70Y q70R)) (sm_cX (by decide) q74X q74F q74J q74Y q74R)) (sm_cX (by decide) q78X q78F q78J q78Y q78R)) (sm_cX (by decide) q82X q82F q82J q82Y q82R)) (sm_cY (by decide) q86Y q86F q86X q86J q86R)) (sm_cX (by decide) q90X q90F q90J q90Y q90R)) (sm_cX (by decide) q94X q94F q94J q94Y q94R)
    refine ⟨_, rfl, o93, fun f hf => ?_, fun j => (show gY _ 15 j = gY _ 5 j from by rw [q94Y 15 j, q90Y 15 j, q86Y 15 j (by decide), q82Y 15 j, q78Y 15 j, q74Y 15 j, q70Y 15 j, q66Y 15 j, q62a j, q58Y 5 j, q55Y 5 j, q52Y 5 j, q49Y 5 j, q46Y 5 j, q43Y 5 j]), fun j => (show gY _ 21 j = gY _ 11 j from by rw [q94Y 21 j, q90Y 21 j, q86a j, q82Y 11 j, q78Y 11 j, q74Y 11 j, q70Y 11 j, q66Y 11 j, q62Y 11 j (by decide), q58Y 11 j, q55Y 11 j, q52Y 11 j, q49Y 11 j, q46Y 11 j, q43Y 11 j]), fun c hc hn => ?_, fun c hc k hk => S.2.2.2.2 c (6 + k)⟩
    · rcases (by omega : f = 0 ∨ f = 1 ∨ f = 2 ∨ f = 3 ∨ f = 4) with rfl | rfl | rfl | rfl | rfl
      · rw [q94F 14 0, q90F 14 0, q86F 14 0, q82F 14 0, q78F 14 0, q74F 14 0, q70F 14 0, q66F 14 0, q62F 14 0, q58F 14 0 (by decide), q55F 14 0 (by decide), q52F 14 0 (by decide), q49F 14 0 (by decide), q46F 14 0 (by decide), q43a]
      · rw [q94F 14 1, q90F 14 1, q86F 14 1, q82F 14 1, q78F 14 1, q74F 14 1, q70F 14 1, q66F 14 1, q62F 14 1, q58F 14 1 (by decide), q55F 14 1 (by decide), q52F 14 1 (by decide), q49F 14 1 (by decide), q46a]
      · rw [q94F 14 2, q90F 14 2, q86F 14 2, q82F 14 2, q78F 14 2, q74F 14 2, q70F 14 2, q66F 14 2, q62F 14 2, q58F 14 2 (by decide), q55F 14 2 (by decide), q52F 14 2 (by decide), q49a]
      · rw [q94F 14 3, q90F 14 3, q86F 14 3, q82F 14 3, q78F 14 3, q74F 14 3, q70F 14 3, q66F 14 3, q62F 14 3, q58F 14 3 (by decide), q55F 14 3 (by decide), q52a]
      · rw [q94F 14 4, q90F 14 4, q86F 14 4, q82F 14 4, q78F 14 4, q74F 14 4, q70F 14 4, q66F 14 4, q62F 14 4, q58F 14 4 (by decide), q55a]
    · exact cp_E (a := 14) S hc hn (Or.inl rfl) (by decide) (by decide)
  obtain ⟨r, h3, w2, h4, h5⟩ := h_meth1 (nL := 2) rfl K
  rw [h4] at h3
  exact ⟨w2, h3, h5⟩
def eCP167 : List (Nat × Nat × Nat) := [(0, 167, 0), (0, 167, 1), (0, 167, 2), (0, 167, 3), (0, 167, 4), (0, 167, 5), (3, 168, 0), (2, 169, 0), (2, 170, 0), (2, 171, 0), (2, 172, 0), (2, 173, 0), (3, 174, 0), (2, 175, 0), (2, 176, 0)]
theorem x_cp_167_14 {kn : sKn} {w0 : sW} (hw : wOk ZZ w0) (hA : plX w0 167) (hB : plX w0 14) : ∃ w', fX6_copyOf kn [.ref 167, .ref 14] w0 = some (none, w', 0, 0) ∧ hO dX6_copyOf w0 w' ∧ cpP w0 w' 167 14 := by
  have K : Tp (tX6_copyOf kn) (fun r => ∃ w', r = (none, w', 0, 0) ∧ hO dX6_copyOf w0 w' ∧ cpP w0 w' 167 14) 0 (lv_args 0 [.ref 167, .ref 14], [], w0, 0, 0) := by
    have l0 : hL (lv_args 0 [.ref 167, .ref 14]) (lv_args 0 [.ref 167, .ref 14]) := hL_ex rfl
    have o0 : hO dX6_copyOf w0 w0 := hO_rf hw
    have sm := smW_rf eCP167 w0
    refine h_aload rfl l0 rfl ?_
    refine h_aload rfl l0 rfl ?_
    refine h_getI rfl o0 (fI_of (show ztau 14 = some 5 from rfl) fit_5_0) (fun b41a b41b => ?_)
    refine x_putI rfl o0 (fI_of (show ztau 167 = some 5 from rfl) fit_5_0) rfl (by omega) (by omega) (fun w42 o42 q43a q43F q43X q43J q43Y q43R => ?_)
    refine h_aload rfl l0 rfl ?_
    refine h_aload rfl l0 rfl ?_
    refine h_getI rfl o42 (fI_of (show ztau 14 = some 5 from rfl) fit_5_1) (fun b44a b44b => ?_)
    rw [q43F 14 1 (by decide)] at b44a b44b ⊢
    refine x_putI rfl o42 (fI_of (show ztau 167 = some 5 from rfl) fit_5_1) rfl (by omega) (by omega) (fun w45 o45 q46a q46F q46X q46J q46Y q46R => ?_)
    refine h_aload rfl l0 rfl ?_
    refine h_aload rfl l0 rfl ?_
    refine h_getI rfl o45 (fI_of (show ztau 14 = some 5 from rfl) fit_5_2) (fun b47a b47b => ?_)
    rw [q46F 14 2 (by decide), q43F 14 2 (by decide)] at b47a b47b ⊢
    refine x_putI rfl o45 (fI_of (show ztau 167 = some 5 from rfl) fit_5_2) rfl (by omega) (by omega) (fun w48 o48 q49a q49F q49X q49J q49Y q49R => ?_)
    refine h_aload rfl l0 rfl ?_
    refine h_aload rfl l0 rfl ?_
    refine h_getI rfl o48 (fI_of (show ztau 14 = some 5 from rfl) fit_5_3) (fun b50a b50b => ?_)
    rw [q49F 14 3 (by decide), q46F 14 3 (by decide), q43F 14 3 (by decide)] at b50a b50b ⊢
    refine x_putI rfl o48 (fI_of (show ztau 167 = some 5 from rfl) fit_5_3) rfl (by omega) (by omega) (fun w51 o51 q52a q52F q52X q52J q52Y q52R => ?_)
    refine h_aload rfl l0 rfl ?_
    refine h_aload rfl l0 rfl ?_
    refine h_getI rfl o51 (fI_of (show ztau 14 = some 5 from rfl) fit_5_4) (fun b53a b53b => ?_)
    rw [q52F 14 4 (by decide), q49F 14 4 (by decide), q46F 14 4 (by decide), q43F 14 4 (by decide)] at b53a b53b ⊢
    refine x_putI rfl o51 (fI_of (show ztau 167 = some 5 from rfl) fit_5_4) rfl (by omega) (by omega) (fun w54 o54 q55a q55F q55X q55J q55Y q55R => ?_)
    refine h_aload rfl l0 rfl ?_
    refine h_aload rfl l0 rfl ?_
    refine h_getI rfl o54 (fI_of (show ztau 14 = some 5 from rfl) fit_5_5) (fun b56a b56b => ?_)
    rw [q55F 14 5 (by decide), q52F 14 5 (by decide), q49F 14 5 (by decide), q46F 14 5 (by decide), q43F 14 5 (by decide)] at b56a b56b ⊢
    refine x_putI rfl o54 (fI_of (show ztau 167 = some 5 from rfl) fit_5_5) rfl (by omega) (by omega) (fun w57 o57 q58a q58F q58X q58J q58Y q58R => ?_)
    refine h_aload rfl l0 rfl ?_
    refine h_getT rfl o57 (show ztau 14 = some 5 from rfl) frt_5_6 (fun kk59 hkk59 rkk59 => ?_)
    have ekk59 : kk59 = 15 := by
      have p9 : gR w0 14 6 = 15 := hB 0 (by decide)
      have := (smW_tr (smW_tr (smW_tr (smW_tr (smW_tr (smW_tr sm (sm_pI (by decide) q43F q43X q43J q43Y q43R)) (sm_pI (by decide) q46F q46X q46J q46Y q46R)) (sm_pI (by decide) q49F q49X q49J q49Y q49R)) (sm_pI (by decide) q52F q52X q52J q52Y q52R)) (sm_pI (by decide) q55F q55X q55J q55Y q55R)) (sm_pI (by decide) q58F q58X q58J q58Y q58R)).2.2.2.2 14 6
      omega
    subst ekk59
    refine h_intv k_0 rfl ?_
    refine h_aload rfl l0 rfl ?_
    refine h_getT rfl o57 (show ztau 167 = some 5 from rfl) frt_5_6 (fun kk60 hkk60 rkk60 => ?_)
    have ekk60 : kk60 = 168 := by
      have p9 : gR w0 167 6 = 168 := hA 0 (by decide)
      have := (smW_tr (smW_tr (smW_tr (smW_tr (smW_tr (smW_tr sm (sm_pI (by decide) q43F q43X q43J q43Y q43R)) (sm_pI (by decide) q46F q46X q46J q46Y q46R)) (sm_pI (by decide) q49F q49X q49J q49Y q49R)) (sm_pI (by decide) q52F q52X q52J q52Y q52R)) (sm_pI (by decide) q55F q55X q55J q55Y q55R)) (sm_pI (by decide) q58F q58X q58J q58Y q58R)).2.2.2.2 167 6
      omega
    subst ekk60
    refine h_intv k_0 rfl ?_
    refine h_intv k_10 rfl ?_
    refine x_copyL rfl o57 aj_15 aj_168 rfl rfl rfl rfl (fun w61 o61 q62a q62Y q62F q62X q62J q62R => ?_)
    refine h_aload rfl l0 rfl ?_
    refine h_getT rfl o61 (show ztau 14 = some 5 from rfl) frt_5_7 (fun kk63 hkk63 rkk63 => ?_)
    have ekk63 : kk63 = 16 := by
      have p9 : gR w0 14 7 = 16 := hB 1 (by decide)
      have := (smW_tr (smW_tr (smW_tr (smW_tr (smW_tr (smW_tr (smW_tr sm (sm_pI (by decide) q43F q43X q43J q43Y q43R)) (sm_pI (by decide) q46F q46X q46J q46Y q46R)) (sm_pI (by decide) q49F q49X q49J q49Y q49R)) (sm_pI (by decide) q52F q52X q52J q52Y q52R)) (sm_pI (by decide) q55F q55X q55J q55Y q55R)) (sm_pI (by decide) q58F q58X q58J q58Y q58R)) (sm_cY (by decide) q62Y q62F q62X q62J q62R)).2.2.2.2 14 7
      omega
    subst ekk63
    refine h_intv k_0 rfl ?_
    refine h_aload rfl l0 rfl ?_
    refine h_getT rfl o61 (show ztau 167 = some 5 from rfl) frt_5_7 (fun kk64 hkk64 rkk64 => ?_)
    have ekk64 : kk64 = 169 := by
      have p9 : gR w0 167 7 = 169 := hA 1 (by decide)
      have := (smW_tr (smW_tr (smW_tr (smW_tr (smW_tr (smW_tr (smW_tr sm (sm_pI (by decide) q43F q43X q43J q43Y q43R)) (sm_pI (by decide) q46F q46X q46J q46Y q46R)) (sm_pI (by decide) q49F q49X q49J q49Y q49R)) (sm_pI (by decide) q52F q52X q52J q52Y q52R)) (sm_pI (by decide) q55F q55X q55J q55Y q55R)) (sm_pI (by decide) q58F q58X q58J q58Y q58R)) (sm_cY (by decide) q62Y q62F q62X q62J q62R)).2.2.2.2 167 7
      omega
    subst ekk64
    refine h_intv k_0 rfl ?_
    refine h_intv k_10 rfl ?_
    refine x_copyF rfl o61 (show ztau 16 = some 7 from rfl) (show ztau 169 = some 7 from rfl) ait_7 rfl rfl rfl rfl (fun w65 o65 q66a q66X q66F q66J q66Y q66R => ?_)
    refine h_aload rfl l0 rfl ?_
    refine h_getT rfl o65 (show ztau 14 = some 5 from rfl) frt_5_8 (fun kk67 hkk67 rkk67 => ?_)
    have ekk67 : kk67 = 17 := by
      have p9 : gR w0 14 8 = 17 := hB 2 (by decide)
      have := (smW_tr (smW_tr (smW_tr (smW_tr (smW_tr (smW_tr (smW_tr (smW_tr sm (sm_pI (by decide) q43F q43X q43J q43Y q43R)) (sm_pI (by decide) q46F q46X q46J q46Y q46R)) (sm_pI (by decide) q49F q49X q49J q49Y q49R)) (sm_pI (by decide) q52F q52X q52J q52Y q52R)) (sm_pI (by decide) q55F q55X q55J q55Y q55R)) (sm_pI (by decide) q58F q58X q58J q58Y q58R)) (sm_cY (by decide) q62Y q62F q62X q62J q62R)) (sm_cX (by decide) q66X q66F q66J q66Y q66R)).2.2.2.2 14 8
      omega
    subst ekk67
    refine h_intv k_0 rfl ?_
    refine h_aload rfl l0 rfl ?_
    refine h_getT rfl o65 (show ztau 167 = some 5 from rfl) frt_5_8 (fun kk68 hkk68 rkk68 => ?_)
    have ekk68 : kk68 = 170 := by
      have p9 : gR w0 167 8 = 170 := hA 2 (by decide)
      have := (smW_tr (smW_tr (smW_tr (smW_tr (smW_tr (smW_tr (smW_tr (smW_tr sm (sm_pI (by decide) q43F q43X q43J q43Y q43R)) (sm_pI (by decide) q46F q46X q46J q46Y q46R)) (sm_pI (by decide) q49F q49X q49J q49Y q49R)) (sm_pI (by decide) q52F q52X q52J q52Y q52R)) (sm_pI (by decide) q55F q55X q55J q55Y q55R)) (sm_pI (by decide) q58F q58X q58J q58Y q58R)) (sm_cY (by decide) q62Y q62F q62X q62J q62R)) (sm_cX (by decide) q66X q66F q66J q66Y q66R)).2.2.2.2 167 8
      omega
    subst ekk68
    refine h_intv k_0 rfl ?_
    refine h_intv k_10 rfl ?_
    refine x_copyF rfl o65 (show ztau 17 = some 8 from rfl) (show ztau 170 = some 8 from rfl) ait_8 rfl rfl rfl rfl (fun w69 o69 q70a q70X q70F q70J q70Y q70R => ?_)
    refine h_aload rfl l0 rfl ?_
    refine h_getT rfl o69 (show ztau 14 = some 5 from rfl) frt_5_9 (fun kk71 hkk71 rkk71 => ?_)
    have ekk71 : kk71 = 18 := by
      have p9 : gR w0 14 9 = 18 := hB 3 (by decide)
      have := (smW_tr (smW_tr (smW_tr (smW_tr (smW_tr (smW_tr (smW_tr (smW_tr (smW_tr sm (sm_pI (by decide) q43F q43X q43J q43Y q43R)) (sm_pI (by decide) q46F q46X q46J q46Y q46R)) (sm_pI (by decide) q49F q49X q49J q49Y q49R)) (sm_pI (by decide) q52F q52X q52J q52Y q52R)) (sm_pI (by decide) q55F q55X q55J q55Y q55R)) (sm_pI (by decide) q58F q58X q58J q58Y q58R)) (sm_cY (by decide) q62Y q62F q62X q62J q62R)) (sm_cX (by decide) q66X q66F q66J q66Y q66R)) (sm_cX (by decide) q70X q70F q70J q70Y q70R)).2.2.2.2 14 9
      omega
    subst ekk71
    refine h_intv k_0 rfl ?_
    refine h_aload rfl l0 rfl ?_
    refine h_getT rfl o69 (show ztau 167 = some 5 from rfl) frt_5_9 (fun kk72 hkk72 rkk72 => ?_)
    have ekk72 : kk72 = 171 := by
      have p9 : gR w0 167 9 = 171 := hA 3 (by decide)
      have := (smW_tr (smW_tr (smW_tr (smW_tr (smW_tr (smW_tr (smW_tr (smW_tr (smW_tr sm (sm_pI (by decide) q43F q43X q43J q43Y q43R)) (sm_pI (by decide) q46F q46X q46J q46Y q46R)) (sm_pI (by decide) q49F q49X q49J q49Y q49R)) (sm_pI (by decide) q52F q52X q52J q52Y q52R)) (sm_pI (by decide) q55F q55X q55J q55Y q55R)) (sm_pI (by decide) q58F q58X q58J q58Y q58R)) (sm_cY (by decide) q62Y q62F q62X q62J q62R)) (sm_cX (by decide) q66X q66F q66J q66Y q66R)) (sm_cX (by decide) q70X q70F q70J q70Y q70R)).2.2.2.2 167 9
      omega
    subst ekk72
    refine h_intv k_0 rfl ?_
    refine h_intv k_10 rfl ?_
    refine x_copyF rfl o69 (show ztau 18 = some 9 from rfl) (show ztau 171 = some 9 from rfl) ait_9 rfl rfl rfl rfl (fun w73 o73 q74a q74X q74F q74J q74Y q74R => ?_)
    refine h_aload rfl l0 rfl ?_
    refine h_getT rfl o73 (show ztau 14 = some 5 from rfl) frt_5_10 (fun kk75 hkk75 rkk75 => ?_)
    have ekk75 : kk75 = 19 := by
      have p9 : gR w0 14 10 = 19 := hB 4 (by decide)
      have := (smW_tr (smW_tr (smW_tr (smW_tr (smW_tr (smW_tr (smW_tr (smW_tr (smW_tr (smW_tr sm (sm_pI (by decide) q43F q43X q43J q43Y q43R)) (sm_pI (by decide) q46F q46X q46J q46Y q46R)) (sm_pI (by decide) q49F q49X q49J q49Y q49R)) (sm_pI (by decide) q52F q52X q52J q52Y q52R)) (sm_pI (by decide) q55F q55X q55J q55Y q55R)) (sm_pI (by decide) q58F q58X q58J q58Y q58R)) (sm_cY (by decide) q62Y q62F q62X q62J q62R)) (sm_cX (by decide) q66X q66F q66J q66Y q66R)) (sm_cX (by decide) q70X q70F q70J q70Y q70R)) (sm_cX (by decide) q74X q74F q74J q74Y q74R)).2.2.2.2 14 10
      omega
    subst ekk75
    refine h_intv k_0 rfl ?_
    refine h_aload rfl l0 rfl ?_
    refine h_getT rfl o73 (show ztau 167 = some 5 from rfl) frt_5_10 (fun kk76 hkk76 rkk76 => ?_)
    have ekk76 : kk76 = 172 := by
      have p9 : gR w0 167 10 = 172 := hA 4 (by decide)
      have := (smW_tr (smW_tr (smW_tr (smW_tr (smW_tr (smW_tr (smW_tr (smW_tr (smW_tr (smW_tr sm (sm_pI (by decide) q43F q43X q43J q43Y q43R)) (sm_pI (by decide) q46F q46X q46J q46Y q46R)) (sm_pI (by decide) q49F q49X q49J q49Y q49R)) (sm_pI (by decide) q52F q52X q52J q52Y q52R)) (sm_pI (by decide) q55F q55X q55J q55Y q55R)) (sm_pI (by decide) q58F q58X q58J q58Y q58R)) (sm_cY (by decide) q62Y q62F q62X q62J q62R)) (sm_cX (by decide) q66X q66F q66J q66Y q66R)) (sm_cX (by decide) q70X q70F q70J q70Y q70R)) (sm_cX (by decide) q74X q74F q74J q74Y q74R)).2.2.2.2 167 10
      omega
    subst ekk76
    refine h_intv k_0 rfl ?_
    refine h_intv k_10 rfl ?_
    refine x_copyF rfl o73 (show ztau 19 = some 10 from rfl) (show ztau 172 = some 10 from rfl) ait_10 rfl rfl rfl rfl (fun w77 o77 q78a q78X q78F q78J q78Y q78R => ?_)
    refine h_aload rfl l0 rfl ?_
    refine h_getT rfl o77 (show ztau 14 = some 5 from rfl) frt_5_11 (fun kk79 hkk79 rkk79 => ?_)
    have ekk79 : kk79 = 20 := by
      have p9 : gR w0 14 11 = 20 := hB 5 (by decide)
      have := (smW_tr (smW_tr (smW_tr (smW_tr (smW_tr (smW_tr (smW_tr (smW_tr (smW_tr (smW_tr (smW_tr sm (sm_pI (by decide) q43F q43X q43J q43Y q43R)) (sm_pI (by decide) q46F q46X q46J q46Y q46R)) (sm_pI (by decide) q49F q49X q49J q49Y q49R)) (sm_pI (by decide) q52F q52X q52J q52Y q52R)) (sm_pI (by decide) q55F q55X q55J q55Y q55R)) (sm_pI (by decide) q58F q58X q58J q58Y q58R)) (sm_cY (by decide) q62Y q62F q62X q62J q62R)) (sm_cX (by decide) q66X q66F q66J q66Y q66R)) (sm_cX (by decide) q70X q70F q70J q70Y q70R)) (sm_cX (by decide) q74X q74F q74J q74Y q74R)) (sm_cX (by decide) q78X q78F q78J q78Y q78R)).2.2.2.2 14 11
      omega
    subst ekk79
    refine h_intv k_0 rfl ?_
    refine h_aload rfl l0 rfl ?_
    refine h_getT rfl o77 (show ztau 167 = some 5 from rfl) frt_5_11 (fun kk80 hkk80 rkk80 => ?_)
    have ekk80 : kk80 = 173 := by
      have p9 : gR w0 167 11 = 173 := hA 5 (by decide)
      have := (smW_tr (smW_tr (smW_tr (smW_tr (smW_tr (smW_tr (smW_tr (smW_tr (smW_tr (smW_tr (smW_tr sm (sm_pI (by decide) q43F q43X q43J q43Y q43R)) (sm_pI (by decide) q46F q46X q46J q46Y q46R)) (sm_pI (by decide) q49F q49X q49J q49Y q49R)) (sm_pI (by decide) q52F q52X q52J q52Y q52R)) (sm_pI (by decide) q55F q55X q55J q55Y q55R)) (sm_pI (by decide) q58F q58X q58J q58Y q58R)) (sm_cY (by decide) q62Y q62F q62X q62J q62R)) (sm_cX (by decide) q66X q66F q66J q66Y q66R)) (sm_cX (by decide) q70X q70F q70J q70Y q70R)) (sm_cX (by decide) q74X q74F q74J q74Y q74R)) (sm_cX (by decide) q78X q78F q78J q78Y q78R)).2.2.2.2 167 11
      omega
    subst ekk80
    refine h_intv k_0 rfl ?_
    refine h_intv k_36 rfl ?_
    refine x_copyF rfl o77 (show ztau 20 = some 11 from rfl) (show ztau 173 = some 11 from rfl) ait_11 rfl rfl rfl rfl (fun w81 o81 q82a q82X q82F q82J q82Y q82R => ?_)
    refine h_aload rfl l0 rfl ?_
    refine h_getT rfl o81 (show ztau 14 = some 5 from rfl) frt_5_12 (fun kk83 hkk83 rkk83 => ?_)
    have ekk83 : kk83 = 21 := by
      have p9 : gR w0 14 12 = 21 := hB 6 (by decide)
      have := (smW_tr (smW_tr (smW_tr (smW_tr (smW_tr (smW_tr (smW_tr (smW_tr (smW_tr (smW_tr (smW_tr (smW_tr sm (sm_pI (by decide) q43F q43X q43J q43Y q43R)) (sm_pI (by decide) q46F q46X q46J q46Y q46R)) (sm_pI (by decide) q49F q49X q49J q49Y q49R)) (sm_pI (by decide) q52F q52X q52J q52Y q52R)) (sm_pI (by decide) q55F q55X q55J q55Y q55R)) (sm_pI (by decide) q58F q58X q58J q58Y q58R)) (sm_cY (by decide) q62Y q62F q62X q62J q62R)) (sm_cX (by decide) q66X q66F q66J q66Y q66R)) (sm_cX (by decide) q70X q70F q70J q70Y q70R)) (sm_cX (by decide) q74X q74F q74J q74Y q74R)) (sm_cX (by decide) q78X q78F q78J q78Y q78R)) (sm_cX (by decide) q82X q82F q82J q82Y q82R)).2.2.2.2 14 12
      omega
    subst ekk83
    refine h_intv k_0 rfl ?_
    refine h_aload rfl l0 rfl ?_
    refine h_getT rfl o81 (show ztau 167 = some 5 from rfl) frt_5_12 (fun kk84 hkk84 rkk84 => ?_)
    have ekk84 : kk84 = 174 := by
      have p9 : gR w0 167 12 = 174 := hA 6 (by decide)
      have := (smW_tr (smW_tr (smW_tr (smW_tr (smW_tr (smW_tr (smW_tr (smW_tr (smW_tr (smW_tr (smW_tr (smW_tr sm (sm_pI (by decide) q43F q43X q43J q43Y q43R)) (sm_pI (by decide) q46F q46X q46J q46Y q46R)) (sm_pI (by decide) q49F q49X q49J q49Y q49R)) (sm_pI (by decide) q52F q52X q52J q52Y q52R)) (sm_pI (by decide) q55F q55X q55J q55Y q55R)) (sm_pI (by decide) q58F q58X q58J q58Y q58R)) (sm_cY (by decide) q62Y q62F q62X q62J q62R)) (sm_cX (by decide) q66X q66F q66J q66Y q66R)) (sm_cX (by decide) q70X q70F q70J q70Y q70R)) (sm_cX (by decide) q74X q74F q74J q74Y q74R)) (sm_cX (by decide) q78X q78F q78J q78Y q78R)) (sm_cX (by decide) q82X q82F q82J q82Y q82R)).2.2.2.2 167 12
      omega
    subst ekk84
    refine h_intv k_0 rfl ?_
    refine h_intv k_6 rfl ?_
    refine x_copyL rfl o81 aj_21 aj_174 rfl rfl rfl rfl (fun w85 o85 q86a q86Y q86F q86X q86J q86R => ?_)
    refine h_aload rfl l0 rfl ?_
    refine h_getT rfl o85 (show ztau 14 = some 5 from rfl) frt_5_13 (fun kk87 hkk87 rkk87 => ?_)
    have ekk87 : kk87 = 22 := by
      have p9 : gR w0 14 13 = 22 := hB 7 (by decide)
      have := (smW_tr (smW_tr (smW_tr (smW_tr (smW_tr (smW_tr (smW_tr (smW_tr (smW_tr (smW_tr (smW_tr (smW_tr (smW_tr sm (sm_pI (by decide) q43F q43X q43J q43Y q43R)) (sm_pI (by decide) q46F q46X q46J q46Y q46R)) (sm_pI (by decide) q49F q49X q49J q49Y q49R)) (sm_pI (by decide) q52F q52X q52J q52Y q52R)) (sm_pI (by decide) q55F q55X q55J q55Y q55R)) (sm_pI (by decide) q58F q58X q58J q58Y q58R)) (sm_cY (by decide) q62Y q62F q62X q62J q62R)) (sm_cX (by decide) q66X q66F q66J q66Y q66R)) (sm_cX (by decide) q70X q70F q70J q70Y q70R)) (sm_cX (by decide) q74X q74F q74J q74Y q74R)) (sm_cX (by decide) q78X q78F q78J q78Y q78R)) (sm_cX (by decide) q82X q82F q82J q82Y q82R)) (sm_cY (by decide) q86Y q86F q86X q86J q86R)).2.2.2.2 14 13
      omega
    subst ekk87
    refine h_intv k_0 rfl ?_
    refine h_aload rfl l0 rfl ?_
    refine h_getT rfl o85 (show ztau 167 = some 5 from rfl) frt_5_13 (fun kk88 hkk88 rkk88 => ?_)
    have ekk88 : kk88 = 175 := by
      have p9 : gR w0 167 13 = 175 := hA 7 (by decide)
      have := (smW_tr (smW_tr (smW_tr (smW_tr (smW_tr (smW_tr (smW_tr (smW_tr (smW_tr (smW_tr (smW_tr (smW_tr (smW_tr sm (sm_pI (by decide) q43F q43X q43J q43Y q43R)) (sm_pI (by decide) q46F q46X q46J q46Y q46R)) (sm_pI (by decide) q49F q49X q49J q49Y q49R)) (sm_pI (by decide) q52F q52X q52J q52Y q52R)) (sm_pI (by decide) q55F q55X q55J q55Y q55R)) (sm_pI (by decide) q58F q58X q58J q58Y q58R)) (sm_cY (by decide) q62Y q62F q62X q62J q62R)) (sm_cX (by decide) q66X q66F q66J q66Y q66R)) (sm_cX (by decide) q70X q70F q70J q70Y q70R)) (sm_cX (by decide) q74X q74F q74J q74Y q74R)) (sm_cX (by decide) q78X q78F q78J q78Y q78R)) (sm_cX (by decide) q82X q82F q82J q82Y q82R)) (sm_cY (by decide) q86Y q86F q86X q86J q86R)).2.2.2.2 167 13
      omega
    subst ekk88
    refine h_intv k_0 rfl ?_
    refine h_intv k_6 rfl ?_
    refine x_copyF rfl o85 (show ztau 22 = some 13 from rfl) (show ztau 175 = some 13 from rfl) ait_13 rfl rfl rfl rfl (fun w89 o89 q90a q90X q90F q90J q90Y q90R => ?_)
    refine h_aload rfl l0 rfl ?_
    refine h_getT rfl o89 (show ztau 14 = some 5 from rfl) frt_5_14 (fun kk91 hkk91 rkk91 => ?_)
    have ekk91 : kk91 = 23 := by
      have p9 : gR w0 14 14 = 23 := hB 8 (by decide)
      have := (smW_tr (smW_tr (smW_tr (smW_tr (smW_tr (smW_tr (smW_tr (smW_tr (smW_tr (smW_tr (smW_tr (smW_tr (smW_tr (smW_tr sm (sm_pI (by decide) q43F q43X q43J q43Y q43R)) (sm_pI (by decide) q46F q46X q46J q46Y q46R)) (sm_pI (by decide) q49F q49X q49J q49Y q49R)) (sm_pI (by decide) q52F q52X q52J q52Y q52R)) (sm_pI (by decide) q55F q55X q55J q55Y q55R)) (sm_pI (by decide) q58F q58X q58J q58Y q58R)) (sm_cY (by decide) q62Y q62F q62X q62J q62R)) (sm_cX (by decide) q66X q66F q66J q66Y q66R)) (sm_cX (by decide) q70X q70F q70J q70Y q70R)) (sm_cX (by decide) q74X q74F q74J q74Y q74R)) (sm_cX (by decide) q78X q78F q78J q78Y q78R)) (sm_cX (by decide) q82X q82F q82J q82Y q82R)) (sm_cY (by decide) q86Y q86F q86X q86J q86R)) (sm_cX (by decide) q90X q90F q90J q90Y q90R)).2.2.2.2 14 14
      omega
    subst ekk91
    refine h_intv k_0 rfl ?_
    refine h_aload rfl l0 rfl ?_
    refine h_getT rfl o89 (show ztau 167 = some 5 from rfl) frt_5_14 (fun kk92 hkk92 rkk92 => ?_)
    have ekk92 : kk92 = 176 := by
      have p9 : gR w0 167 14 = 176 := hA 8 (by decide)
      have := (smW_tr (smW_tr (smW_tr (smW_tr (smW_tr (smW_tr (smW_tr (smW_tr (smW_tr (smW_tr (smW_tr (smW_tr (smW_tr (smW_tr sm (sm_pI (by decide) q43F q43X q43J q43Y q43R)) (sm_pI (by decide) q46F q46X q46J q46Y q46R)) (sm_pI (by decide) q49F q49X q49J q49Y q49R)) (sm_pI (by decide) q52F q52X q52J q52Y q52R)) (sm_pI (by decide) q55F q55X q55J q55Y q55R)) (sm_pI (by decide) q58F q58X q58J q58Y q58R)) (sm_cY (by decide) q62Y q62F q62X q62J q62R)) (sm_cX (by decide) q66X q66F q66J q66Y q66R)) (sm_cX (by decide) q70X q70F q70J q70Y q70R)) (sm_cX (by decide) q74X q74F q74J q74Y q74R)) (sm_cX (by decide) q78X q78F q78J q78Y q78R)) (sm_cX (by decide) q82X q82F q82J q82Y q82R)) (sm_cY (by decide) q86Y q86F q86X q86J q86R)) (sm_cX (by decide) q90X q90F q90J q90Y q90R)).2.2.2.2 167 14
      omega
    subst ekk92
    refine h_intv k_0 rfl ?_
    refine h_intv k_6 rfl ?_
    refine x_copyF rfl o89 (show ztau 23 = some 14 from rfl) (show ztau 176 = some 14 from rfl) ait_14 rfl rfl rfl rfl (fun w93 o93 q94a q94X q94F q94J q94Y q94R => ?_)
    refine h_vret rfl ?_
    have S := smW_tr (smW_tr (smW_tr (smW_tr (smW_tr (smW_tr (smW_tr (smW_tr (smW_tr (smW_tr (smW_tr (smW_tr (smW_tr (smW_tr (smW_tr sm (sm_pI (by decide) q43F q43X q43J q43Y q43R)) (sm_pI (by decide) q46F q46X q46J q46Y q46R)) (sm_pI (by decide) q49F q49X q49J q49Y q49R)) (sm_pI (by decide) q52F q52X q52J q52Y q52R)) (sm_pI (by decide) q55F q55X q55J q55Y q55R)) (sm_pI (by decide) q58F q58X q58J q58Y q58R)) (sm_cY (by decide) q62Y q62F q62X q62J q62R)) (sm_cX (by decide) q66X q66F q66J q66Y q66R)) (sm_cX (by decide) q70X q70F q70J q70Y q70R)) (sm_cX (by decide) q74X q74F q74J q74Y q74R)) (sm_cX (by decide) q78X q78F q78J q78Y q78R)) (sm_cX (by decide) q82X q82F q82J q82Y q82R)) (sm_cY (by decide) q86Y q86F q86X q86J q86R)) (sm_cX (by decide) q90X q90F q90J q90Y q90R)) (sm_cX (by decide) q94X q94F q94J q94Y q94R)
    refine ⟨_, rfl, o93, fun f hf => ?_, fun j => (show gY _ 168 j = gY _ 15 j from by rw [q94Y 168 j, q90Y 168 j, q86Y 168 j (by decide), q82Y 168 j, q78Y 168 j, q74Y 168 j, q70Y 168 j, q66Y 168 j, q62a j, q58Y 15 j, q55Y 15 j, q52Y 15 j, q49Y 15 j, q46Y 15 j, q43Y 15 j]), fun j => (show gY _ 174 j = gY _ 21 j from by rw [q94Y 174 j, q90Y 174 j, q86a j, q82Y 21 j, q78Y 21 j, q74Y 21 j, q70Y 21 j, q66Y 21 j, q62Y 21 j (by decide), q58Y 21 j, q55Y 21 j, q52Y 21 j, q49Y 21 j, q46Y 21 j, q43Y 21 j]), fun c hc hn => ?_, fun c hc k hk => S.2.2.2.2 c (6 + k)⟩
    · rcases (by omega : f = 0 ∨ f = 1 ∨ f = 2 ∨ f = 3 ∨ f = 4) with rfl | rfl | rfl | rfl | rfl
      · rw [q94F 167 0, q90F 167 0, q86F 167 0, q82F 167 0, q78F 167 0, q74F 167 0, q70F 167 0, q66F 167 0, q62F 167 0, q58F 167 0 (by decide), q55F 167 0 (by decide), q52F 167 0 (by decide), q49F 167 0 (by decide), q46F 167 0 (by decide), q43a]
      · rw [q94F 167 1, q90F 167 1, q86F 167 1, q82F 167 1, q78F 167 1, q74F 167 1, q70F 167 1, q66F 167 1, q62F 167 1, q58F 167 1 (by decide), q55F 167 1 (by decide), q52F 167 1 (by decide), q49F 167 1 (by decide), q46a]
      · rw [q94F 167 2, q90F 167 2, q86F 167 2, q82F 167 2, q78F 167 2, q74F 167 2, q70F 167 2, q66F 167 2, q62F 167 2, q58F 167 2 (by decide), q55F 167 2 (by decide), q52F 167 2 (by decide), q49a]
      · rw [q94F 167 3, q90F 167 3, q86F 167 3, q82F 167 3, q78F 167 3, q74F 167 3, q70F 167 3, q66F 167 3, q62F 167 3, q58F 167 3 (by decide), q55F 167 3 (by decide), q52a]
      · rw [q94F 167 4, q90F 167 4, q86F 167 4, q82F 167 4, q78F 167 4, q74F 167 4, q70F 167 4, q66F 167 4, q62F 167 4, q58F 167 4 (by decide), q55a]
    · exact cp_E (a := 167) S hc hn (Or.inr (Or.inl rfl)) (by decide) (by decide)
  obtain ⟨r, h3, w2, h4, h5⟩ := h_meth1 (nL := 2) rfl K
  rw [h4] at h3
  exact ⟨w2, h3, h5⟩
def eCP190 : List (Nat × Nat × Nat) := [(0, 190, 0), (0, 190, 1), (0, 190, 2), (0, 190, 3), (0, 190, 4), (0, 190, 5), (3, 191, 0), (2, 192, 0), (2, 193, 0), (2, 194, 0), (2, 195, 0), (2, 196, 0), (3, 197, 0), (2, 198, 0), (2, 199, 0)]
theorem x_cp_190_14 {kn : sKn} {w0 : sW} (hw : wOk ZZ w0) (hA : plX w0 190) (hB : plX w0 14) : ∃ w', fX6_copyOf kn [.ref 190, .ref 14] w0 = some (none, w', 0, 0) ∧ hO dX6_copyOf w0 w' ∧ cpP w0 w' 190 14 := by
  have K : Tp (tX6_copyOf kn) (fun r => ∃ w', r = (none, w', 0, 0) ∧ hO dX6_copyOf w0 w' ∧ cpP w0 w' 190 14) 0 (lv_args 0 [.ref 190, .ref 14], [], w0, 0, 0) := by
    have l0 : hL (lv_args 0 [.ref 190, .ref 14]) (lv_args 0 [.ref 190, .ref 14]) := hL_ex rfl
    have o0 : hO dX6_copyOf w0 w0 := hO_rf hw
    have sm := smW_rf eCP190 w0
    refine h_aload rfl l0 rfl ?_
    refine h_aload rfl l0 rfl ?_
    refine h_getI rfl o0 (fI_of (show ztau 14 = some 5 from rfl) fit_5_0) (fun b41a b41b => ?_)
    refine x_putI rfl o0 (fI_of (show ztau 190 = some 5 from rfl) fit_5_0) rfl (by omega) (by omega) (fun w42 o42 q43a q43F q43X q43J q43Y q43R => ?_)
    refine h_aload rfl l0 rfl ?_
    refine h_aload rfl l0 rfl ?_
    refine h_getI rfl o42 (fI_of (show ztau 14 = some 5 from rfl) fit_5_1) (fun b44a b44b => ?_)
    rw [q43F 14 1 (by decide)] at b44a b44b ⊢
    refine x_putI rfl o42 (fI_of (show ztau 190 = some 5 from rfl) fit_5_1) rfl (by omega) (by omega) (fun w45 o45 q46a q46F q46X q46J q46Y q46R => ?_)
    refine h_aload rfl l0 rfl ?_
    refine h_aload rfl l0 rfl ?_
    refine h_getI rfl o45 (fI_of (show ztau 14 = some 5 from rfl) fit_5_2) (fun b47a b47b => ?_)
    rw [q46F 14 2 (by decide), q43F 14 2 (by decide)] at b47a b47b ⊢
    refine x_putI rfl o45 (fI_of (show ztau 190 = some 5 from rfl) fit_5_2) rfl (by omega) (by omega) (fun w48 o48 q49a q49F q49X q49J q49Y q49R => ?_)
    refine h_aload rfl l0 rfl ?_
    refine h_aload rfl l0 rfl ?_
    refine h_getI rfl o48 (fI_of (show ztau 14 = some 5 from rfl) fit_5_3) (fun b50a b50b => ?_)
    rw [q49F 14 3 (by decide), q46F 14 3 (by decide), q43F 14 3 (by decide)] at b50a b50b ⊢
    refine x_putI rfl o48 (fI_of (show ztau 190 = some 5 from rfl) fit_5_3) rfl (by omega) (by omega) (fun w51 o51 q52a q52F q52X q52J q52Y q52R => ?_)
    refine h_aload rfl l0 rfl ?_
    refine h_aload rfl l0 rfl ?_
    refine h_getI rfl o51 (fI_of (show ztau 14 = some 5 from rfl) fit_5_4) (fun b53a b53b => ?_)
    rw [q52F 14 4 (by decide), q49F 14 4 (by decide), q46F 14 4 (by decide), q43F 14 4 (by decide)] at b53a b53b ⊢
    refine x_putI rfl o51 (fI_of (show ztau 190 = some 5 from rfl) fit_5_4) rfl (by omega) (by omega) (fun w54 o54 q55a q55F q55X q55J q55Y q55R => ?_)
    refine h_aload rfl l0 rfl ?_
    refine h_aload rfl l0 rfl ?_
    refine h_getI rfl o54 (fI_of (show ztau 14 = some 5 from rfl) fit_5_5) (fun b56a b56b => ?_)
    rw [q55F 14 5 (by decide), q52F 14 5 (by decide), q49F 14 5 (by decide), q46F 14 5 (by decide), q43F 14 5 (by decide)] at b56a b56b ⊢
    refine x_putI rfl o54 (fI_of (show ztau 190 = some 5 from rfl) fit_5_5) rfl (by omega) (by omega) (fun w57 o57 q58a q58F q58X q58J q58Y q58R => ?_)
    refine h_aload rfl l0 rfl ?_
    refine h_getT rfl o57 (show ztau 14 = some 5 from rfl) frt_5_6 (fun kk59 hkk59 rkk59 => ?_)
    have ekk59 : kk59 = 15 := by
      have p9 : gR w0 14 6 = 15 := hB 0 (by decide)
      have := (smW_tr (smW_tr (smW_tr (smW_tr (smW_tr (smW_tr sm (sm_pI (by decide) q43F q43X q43J q43Y q43R)) (sm_pI (by decide) q46F q46X q46J q46Y q46R)) (sm_pI (by decide) q49F q49X q49J q49Y q49R)) (sm_pI (by decide) q52F q52X q52J q52Y q52R)) (sm_pI (by decide) q55F q55X q55J q55Y q55R)) (sm_pI (by decide) q58F q58X q58J q58Y q58R)).2.2.2.2 14 6
      omega
    subst ekk59
    refine h_intv k_0 rfl ?_
    refine h_aload rfl l0 rfl ?_
    refine h_getT rfl o57 (show ztau 190 = some 5 from rfl) frt_5_6 (fun kk60 hkk60 rkk60 => ?_)
    have ekk60 : kk60 = 191 := by
      have p9 : gR w0 190 6 = 191 := hA 0 (by decide)
      have := (smW_tr (smW_tr (smW_tr (smW_tr (smW_tr (smW_tr sm (sm_pI (by decide) q43F q43X q43J q43Y q43R)) (sm_pI (by decide) q46F q46X q46J q46Y q46R)) (sm_pI (by decide) q49F q49X q49J q49Y q49R)) (sm_pI (by decide) q52F q52X q52J q52Y q52R)) (sm_pI (by decide) q55F q55X q55J q55Y q55R)) (sm_pI (by decide) q58F q58X q58J q58Y q58R)).2.2.2.2 190 6
      omega
    subst ekk60
    refine h_intv k_0 rfl ?_
    refine h_intv k_10 rfl ?_
    refine x_copyL rfl o57 aj_15 aj_191 rfl rfl rfl rfl (fun w61 o61 q62a q62Y q62F q62X q62J q62R => ?_)
    refine h_aload rfl l0 rfl ?_
    refine h_getT rfl o61 (show ztau 14 = some 5 from rfl) frt_5_7 (fun kk63 hkk63 rkk63 => ?_)
    have ekk63 : kk63 = 16 := by
      have p9 : gR w0 14 7 = 16 := hB 1 (by decide)
      have := (smW_tr (smW_tr (smW_tr (smW_tr (smW_tr (smW_tr (smW_tr sm (sm_pI (by decide) q43F q43X q43J q43Y q43R)) (sm_pI (by decide) q46F q46X q46J q46Y q46R)) (sm_pI (by decide) q49F q49X q49J q49Y q49R)) (sm_pI (by decide) q52F q52X q52J q52Y q52R)) (sm_pI (by decide) q55F q55X q55J q55Y q55R)) (sm_pI (by decide) q58F q58X q58J q58Y q58R)) (sm_cY (by decide) q62Y q62F q62X q62J q62R)).2.2.2.2 14 7
      omega
    subst ekk63
    refine h_intv k_0 rfl ?_
    refine h_aload rfl l0 rfl ?_
    refine h_getT rfl o61 (show ztau 190 = some 5 from rfl) frt_5_7 (fun kk64 hkk64 rkk64 => ?_)
    have ekk64 : kk64 = 192 := by
      have p9 : gR w0 190 7 = 192 := hA 1 (by decide)
      have := (smW_tr (smW_tr (smW_tr (smW_tr (smW_tr (smW_tr (smW_tr sm (sm_pI (by decide) q43F q43X q43J q43Y q43R)) (sm_pI (by decide) q46F q46X q46J q46Y q46R)) (sm_pI (by decide) q49F q49X q49J q49Y q49R)) (sm_pI (by decide) q52F q52X q52J q52Y q52R)) (sm_pI (by decide) q55F q55X q55J q55Y q55R)) (sm_pI (by decide) q58F q58X q58J q58Y q58R)) (sm_cY (by decide) q62Y q62F q62X q62J q62R)).2.2.2.2 190 7
      omega
    subst ekk64
    refine h_intv k_0 rfl ?_
    refine h_intv k_10 rfl ?_
    refine x_copyF rfl o61 (show ztau 16 = some 7 from rfl) (show ztau 192 = some 7 from rfl) ait_7 rfl rfl rfl rfl (fun w65 o65 q66a q66X q66F q66J q66Y q66R => ?_)
    refine h_aload rfl l0 rfl ?_
    refine h_getT rfl o65 (show ztau 14 = some 5 from rfl) frt_5_8 (fun kk67 hkk67 rkk67 => ?_)
    have ekk67 : kk67 = 17 := by
      have p9 : gR w0 14 8 = 17 := hB 2 (by decide)
      have := (smW_tr (smW_tr (smW_tr (smW_tr (smW_tr (smW_tr (smW_tr (smW_tr sm (sm_pI (by decide) q43F q43X q43J q43Y q43R)) (sm_pI (by decide) q46F q46X q46J q46Y q46R)) (sm_pI (by decide) q49F q49X q49J q49Y q49R)) (sm_pI (by decide) q52F q52X q52J q52Y q52R)) (sm_pI (by decide) q55F q55X q55J q55Y q55R)) (sm_pI (by decide) q58F q58X q58J q58Y q58R)) (sm_cY (by decide) q62Y q62F q62X q62J q62R)) (sm_cX (by decide) q66X q66F q66J q66Y q66R)).2.2.2.2 14 8
      omega
    subst ekk67
    refine h_intv k_0 rfl ?_
    refine h_aload rfl l0 rfl ?_
    refine h_getT rfl o65 (show ztau 190 = some 5 from rfl) frt_5_8 (fun kk68 hkk68 rkk68 => ?_)
    have ekk68 : kk68 = 193 := by
      have p9 : gR w0 190 8 = 193 := hA 2 (by decide)
      have := (smW_tr (smW_tr (smW_tr (smW_tr (smW_tr (smW_tr (smW_tr (smW_tr sm (sm_pI (by decide) q43F q43X q43J q43Y q43R)) (sm_pI (by decide) q46F q46X q46J q46Y q46R)) (sm_pI (by decide) q49F q49X q49J q49Y q49R)) (sm_pI (by decide) q52F q52X q52J q52Y q52R)) (sm_pI (by decide) q55F q55X q55J q55Y q55R)) (sm_pI (by decide) q58F q58X q58J q58Y q58R)) (sm_cY (by decide) q62Y q62F q62X q62J q62R)) (sm_cX (by decide) q66X q66F q66J q66Y q66R)).2.2.2.2 190 8
      omega
    subst ekk68
    refine h_intv k_0 rfl ?_
    refine h_intv k_10 rfl ?_
    refine x_copyF rfl o65 (show ztau 17 = some 8 from rfl) (show ztau 193 = some 8 from rfl) ait_8 rfl rfl rfl rfl (fun w69 o69 q70a q70X q70F q70J q70Y q70R => ?_)
    refine h_aload rfl l0 rfl ?_
    refine h_getT rfl o69 (show ztau 14 = some 5 from rfl) frt_5_9 (fun kk71 hkk71 rkk71 => ?_)
    have ekk71 : kk71 = 18 := by
      have p9 : gR w0 14 9 = 18 := hB 3 (by decide)
      have := (smW_tr (smW_tr (smW_tr (smW_tr (smW_tr (smW_tr (smW_tr (smW_tr (smW_tr sm (sm_pI (by decide) q43F q43X q43J q43Y q43R)) (sm_pI (by decide) q46F q46X q46J q46Y q46R)) (sm_pI (by decide) q49F q49X q49J q49Y q49R)) (sm_pI (by decide) q52F q52X q52J q52Y q52R)) (sm_pI (by decide) q55F q55X q55J q55Y q55R)) (sm_pI (by decide) q58F q58X q58J q58Y q58R)) (sm_cY (by decide) q62Y q62F q62X q62J q62R)) (sm_cX (by decide) q66X q66F q66J q66Y q66R)) (sm_cX (by decide) q70X q70F q70J q70Y q70R)).2.2.2.2 14 9
      omega
    subst ekk71
    refine h_intv k_0 rfl ?_
    refine h_aload rfl l0 rfl ?_
    refine h_getT rfl o69 (show ztau 190 = some 5 from rfl) frt_5_9 (fun kk72 hkk72 rkk72 => ?_)
    have ekk72 : kk72 = 194 := by
      have p9 : gR w0 190 9 = 194 := hA 3 (by decide)
      have := (smW_tr (smW_tr (smW_tr (smW_tr (smW_tr (smW_tr (smW_tr (smW_tr (smW_tr sm (sm_pI (by decide) q43F q43X q43J q43Y q43R)) (sm_pI (by decide) q46F q46X q46J q46Y q46R)) (sm_pI (by decide) q49F q49X q49J q49Y q49R)) (sm_pI (by decide) q52F q52X q52J q52Y q52R)) (sm_pI (by decide) q55F q55X q55J q55Y q55R)) (sm_pI (by decide) q58F q58X q58J q58Y q58R)) (sm_cY (by decide) q62Y q62F q62X q62J q62R)) (sm_cX (by decide) q66X q66F q66J q66Y q66R)) (sm_cX (by decide) q70X q70F q70J q70Y q70R)).2.2.2.2 190 9
      omega
    subst ekk72
    refine h_intv k_0 rfl ?_
    refine h_intv k_10 rfl ?_
    refine x_copyF rfl o69 (show ztau 18 = some 9 from rfl) (show ztau 194 = some 9 from rfl) ait_9 rfl rfl rfl rfl (fun w73 o73 q74a q74X q74F q74J q74Y q74R => ?_)
    refine h_aload rfl l0 rfl ?_
    refine h_getT rfl o73 (show ztau 14 = some 5 from rfl) frt_5_10 (fun kk75 hkk75 rkk75 => ?_)
    have ekk75 : kk75 = 19 := by
      have p9 : gR w0 14 10 = 19 := hB 4 (by decide)
      have := (smW_tr (smW_tr (smW_tr (smW_tr (smW_tr (smW_tr (smW_tr (smW_tr (smW_tr (smW_tr sm (sm_pI (by decide) q43F q43X q43J q43Y q43R)) (sm_pI (by decide) q46F q46X q46J q46Y q46R)) (sm_pI (by decide) q49F q49X q49J q49Y q49R)) (sm_pI (by decide) q52F q52X q52J q52Y q52R)) (sm_pI (by decide) q55F q55X q55J q55Y q55R)) (sm_pI (by decide) q58F q58X q58J q58Y q58R)) (sm_cY (by decide) q62Y q62F q62X q62J q62R)) (sm_cX (by decide) q66X q66F q66J q66Y q66R)) (sm_cX (by decide) q70X q70F q70J q70Y q70R)) (sm_cX (by decide) q74X q74F q74J q74Y q74R)).2.2.2.2 14 10
      omega
    subst ekk75
    refine h_intv k_0 rfl ?_
    refine h_aload rfl l0 rfl ?_
    refine h_getT rfl o73 (show ztau 190 = some 5 from rfl) frt_5_10 (fun kk76 hkk76 rkk76 => ?_)
    have ekk76 : kk76 = 195 := by
      have p9 : gR w0 190 10 = 195 := hA 4 (by decide)
      have := (smW_tr (smW_tr (smW_tr (smW_tr (smW_tr (smW_tr (smW_tr (smW_tr (smW_tr (smW_tr sm (sm_pI (by decide) q43F q43X q43J q43Y q43R)) (sm_pI (by decide) q46F q46X q46J q46Y q46R)) (sm_pI (by decide) q49F q49X q49J q49Y q49R)) (sm_pI (by decide) q52F q52X q52J q52Y q52R)) (sm_pI (by decide) q55F q55X q55J q55Y q55R)) (sm_pI (by decide) q58F q58X q58J q58Y q58R)) (sm_cY (by decide) q62Y q62F q62X q62J q62R)) (sm_cX (by decide) q66X q66F q66J q66Y q66R)) (sm_cX (by decide) q70X q70F q70J q70Y q70R)) (sm_cX (by decide) q74X q74F q74J q74Y q74R)).2.2.2.2 190 10
      omega
    subst ekk76
    refine h_intv k_0 rfl ?_
    refine h_intv k_10 rfl ?_
    refine x_copyF rfl o73 (show ztau 19 = some 10 from rfl) (show ztau 195 = some 10 from rfl) ait_10 rfl rfl rfl rfl (fun w77 o77 q78a q78X q78F q78J q78Y q78R => ?_)
    refine h_aload rfl l0 rfl ?_
    refine h_getT rfl o77 (show ztau 14 = some 5 from rfl) frt_5_11 (fun kk79 hkk79 rkk79 => ?_)
    have ekk79 : kk79 = 20 := by
      have p9 : gR w0 14 11 = 20 := hB 5 (by decide)
      have := (smW_tr (smW_tr (smW_tr (smW_tr (smW_tr (smW_tr (smW_tr (smW_tr (smW_tr (smW_tr (smW_tr sm (sm_pI (by decide) q43F q43X q43J q43Y q43R)) (sm_pI (by decide) q46F q46X q46J q46Y q46R)) (sm_pI (by decide) q49F q49X q49J q49Y q49R)) (sm_pI (by decide) q52F q52X q52J q52Y q52R)) (sm_pI (by decide) q55F q55X q55J q55Y q55R)) (sm_pI (by decide) q58F q58X q58J q58Y q58R)) (sm_cY (by decide) q62Y q62F q62X q62J q62R)) (sm_cX (by decide) q66X q66F q66J q66Y q66R)) (sm_cX (by decide) q70X q70F q70J q70Y q70R)) (sm_cX (by decide) q74X q74F q74J q74Y q74R)) (sm_cX (by decide) q78X q78F q78J q78Y q78R)).2.2.2.2 14 11
      omega
    subst ekk79
    refine h_intv k_0 rfl ?_
    refine h_aload rfl l0 rfl ?_
    refine h_getT rfl o77 (show ztau 190 = some 5 from rfl) frt_5_11 (fun kk80 hkk80 rkk80 => ?_)
    have ekk80 : kk80 = 196 := by
      have p9 : gR w0 190 11 = 196 := hA 5 (by decide)
      have := (smW_tr (smW_tr (smW_tr (smW_tr (smW_tr (smW_tr (smW_tr (smW_tr (smW_tr (smW_tr (smW_tr sm (sm_pI (by decide) q43F q43X q43J q43Y q43R)) (sm_pI (by decide) q46F q46X q46J q46Y q46R)) (sm_pI (by decide) q49F q49X q49J q49Y q49R)) (sm_pI (by decide) q52F q52X q52J q52Y q52R)) (sm_pI (by decide) q55F q55X q55J q55Y q55R)) (sm_pI (by decide) q58F q58X q58J q58Y q58R)) (sm_cY (by decide) q62Y q62F q62X q62J q62R)) (sm_cX (by decide) q66X q66F q66J q66Y q66R)) (sm_cX (by decide) q70X q70F q70J q70Y q70R)) (sm_cX (by decide) q74X q74F q74J q74Y q74R)) (sm_cX (by decide) q78X q78F q78J q78Y q78R)).2.2.2.2 190 11
      omega
    subst ekk80
    refine h_intv k_0 rfl ?_
    refine h_intv k_36 rfl ?_
    refine x_copyF rfl o77 (show ztau 20 = some 11 from rfl) (show ztau 196 = some 11 from rfl) ait_11 rfl rfl rfl rfl (fun w81 o81 q82a q82X q82F q82J q82Y q82R => ?_)
    refine h_aload rfl l0 rfl ?_
    refine h_getT rfl o81 (show ztau 14 = some 5 from rfl) frt_5_12 (fun kk83 hkk83 rkk83 => ?_)
    have ekk83 : kk83 = 21 := by
      have p9 : gR w0 14 12 = 21 := hB 6 (by decide)
      have := (smW_tr (smW_tr (smW_tr (smW_tr (smW_tr (smW_tr (smW_tr (smW_tr (smW_tr (smW_tr (smW_tr (smW_tr sm (sm_pI (by decide) q43F q43X q43J q43Y q43R)) (sm_pI (by decide) q46F q46X q46J q46Y q46R)) (sm_pI (by decide) q49F q49X q49J q49Y q49R)) (sm_pI (by decide) q52F q52X q52J q52Y q52R)) (sm_pI (by decide) q55F q55X q55J q55Y q55R)) (sm_pI (by decide) q58F q58X q58J q58Y q58R)) (sm_cY (by decide) q62Y q62F q62X q62J q62R)) (sm_cX (by decide) q66X q66F q66J q66Y q66R)) (sm_cX (by decide) q70X q70F q70J q70Y q70R)) (sm_cX (by decide) q74X q74F q74J q74Y q74R)) (sm_cX (by decide) q78X q78F q78J q78Y q78R)) (sm_cX (by decide) q82X q82F q82J q82Y q82R)).2.2.2.2 14 12
      omega
    subst ekk83
    refine h_intv k_0 rfl ?_
    refine h_aload rfl l0 rfl ?_
    refine h_getT rfl o81 (show ztau 190 = some 5 from rfl) frt_5_12 (fun kk84 hkk84 rkk84 => ?_)
    have ekk84 : kk84 = 197 := by
      have p9 : gR w0 190 12 = 197 := hA 6 (by decide)
      have := (smW_tr (smW_tr (smW_tr (smW_tr (smW_tr (smW_tr (smW_tr (smW_tr (smW_tr (smW_tr (smW_tr (smW_tr sm (sm_pI (by decide) q43F q43X q43J q43Y q43R)) (sm_pI (by decide) q46F q46X q46J q46Y q46R)) (sm_pI (by decide) q49F q49X q49J q49Y q49R)) (sm_pI (by decide) q52F q52X q52J q52Y q52R)) (sm_pI (by decide) q55F q55X q55J q55Y q55R)) (sm_pI (by decide) q58F q58X q58J q58Y q58R)) (sm_cY (by decide) q62Y q62F q62X q62J q62R)) (sm_cX (by decide) q66X q66F q66J q66Y q66R)) (sm_cX (by decide) q70X q70F q70J q70Y q70R)) (sm_cX (by decide) q74X q74F q74J q74Y q74R)) (sm_cX (by decide) q78X q78F q78J q78Y q78R)) (sm_cX (by decide) q82X q82F q82J q82Y q82R)).2.2.2.2 190 12
      omega
    subst ekk84
    refine h_intv k_0 rfl ?_
    refine h_intv k_6 rfl ?_
    refine x_copyL rfl o81 aj_21 aj_197 rfl rfl rfl rfl (fun w85 o85 q86a q86Y q86F q86X q86J q86R => ?_)
    refine h_aload rfl l0 rfl ?_
    refine h_getT rfl o85 (show ztau 14 = some 5 from rfl) frt_5_13 (fun kk87 hkk87 rkk87 => ?_)
    have ekk87 : kk87 = 22 := by
      have p9 : gR w0 14 13 = 22 := hB 7 (by decide)
      have := (smW_tr (smW_tr (smW_tr (smW_tr (smW_tr (smW_tr (smW_tr (smW_tr (smW_tr (smW_tr (smW_tr (smW_tr (smW_tr sm (sm_pI (by decide) q43F q43X q43J q43Y q43R)) (sm_pI (by decide) q46F q46X q46J q46Y q46R)) (sm_pI (by decide) q49F q49X q49J q49Y q49R)) (sm_pI (by decide) q52F q52X q52J q52Y q52R)) (sm_pI (by decide) q55F q55X q55J q55Y q55R)) (sm_pI (by decide) q58F q58X q58J q58Y q58R)) (sm_cY (by decide) q62Y q62F q62X q62J q62R)) (sm_cX (by decide) q66X q66F q66J q66Y q66R)) (sm_cX (by decide) q70X q70F q70J q70Y q70R)) (sm_cX (by decide) q74X q74F q74J q74Y q74R)) (sm_cX (by decide) q78X q78F q78J q78Y q78R)) (sm_cX (by decide) q82X q82F q82J q82Y q82R)) (sm_cY (by decide) q86Y q86F q86X q86J q86R)).2.2.2.2 14 13
      omega
    subst ekk87
    refine h_intv k_0 rfl ?_
    refine h_aload rfl l0 rfl ?_
    refine h_getT rfl o85 (show ztau 190 = some 5 from rfl) frt_5_13 (fun kk88 hkk88 rkk88 => ?_)
    have ekk88 : kk88 = 198 := by
      have p9 : gR w0 190 13 = 198 := hA 7 (by decide)
      have := (smW_tr (smW_tr (smW_tr (smW_tr (smW_tr (smW_tr (smW_tr (smW_tr (smW_tr (smW_tr (smW_tr (smW_tr (smW_tr sm (sm_pI (by decide) q43F q43X q43J q43Y q43R)) (sm_pI (by decide) q46F q46X q46J q46Y q46R)) (sm_pI (by decide) q49F q49X q49J q49Y q49R)) (sm_pI (by decide) q52F q52X q52J q52Y q52R)) (sm_pI (by decide) q55F q55X q55J q55Y q55R)) (sm_pI (by decide) q58F q58X q58J q58Y q58R)) (sm_cY (by decide) q62Y q62F q62X q62J q62R)) (sm_cX (by decide) q66X q66F q66J q66Y q66R)) (sm_cX (by decide) q70X q70F q70J q70Y q70R)) (sm_cX (by decide) q74X q74F q74J q74Y q74R)) (sm_cX (by decide) q78X q78F q78J q78Y q78R)) (sm_cX (by decide) q82X q82F q82J q82Y q82R)) (sm_cY (by decide) q86Y q86F q86X q86J q86R)).2.2.2.2 190 13
      omega
    subst ekk88
    refine h_intv k_0 rfl ?_
    refine h_intv k_6 rfl ?_
    refine x_copyF rfl o85 (show ztau 22 = some 13 from rfl) (show ztau 198 = some 13 from rfl) ait_13 rfl rfl rfl rfl (fun w89 o89 q90a q90X q90F q90J q90Y q90R => ?_)
    refine h_aload rfl l0 rfl ?_
    refine h_getT rfl o89 (show ztau 14 = some 5 from rfl) frt_5_14 (fun kk91 hkk91 rkk91 => ?_)
    have ekk91 : kk91 = 23 := by
      have p9 : gR w0 14 14 = 23 := hB 8 (by decide)
      have := (smW_tr (smW_tr (smW_tr (smW_tr (smW_tr (smW_tr (smW_tr (smW_tr (smW_tr (smW_tr (smW_tr (smW_tr (smW_tr (smW_tr sm (sm_pI (by decide) q43F q43X q43J q43Y q43R)) (sm_pI (by decide) q46F q46X q46J q46Y q46R)) (sm_pI (by decide) q49F q49X q49J q49Y q49R)) (sm_pI (by decide) q52F q52X q52J q52Y q52R)) (sm_pI (by decide) q55F q55X q55J q55Y q55R)) (sm_pI (by decide) q58F q58X q58J q58Y q58R)) (sm_cY (by decide) q62Y q62F q62X q62J q62R)) (sm_cX (by decide) q66X q66F q66J q66Y q66R)) (sm_cX (by decide) q70X q70F q70J q70Y q70R)) (sm_cX (by decide) q74X q74F q74J q74Y q74R)) (sm_cX (by decide) q78X q78F q78J q78Y q78R)) (sm_cX (by decide) q82X q82F q82J q82Y q82R)) (sm_cY (by decide) q86Y q86F q86X q86J q86R)) (sm_cX (by decide) q90X q90F q90J q90Y q90R)).2.2.2.2 14 14
      omega
    subst ekk91
    refine h_intv k_0 rfl ?_
    refine h_aload rfl l0 rfl ?_
    refine h_getT rfl o89 (show ztau 190 = some 5 from rfl) frt_5_14 (fun kk92 hkk92 rkk92 => ?_)
    have ekk92 : kk92 = 199 := by
      have p9 : gR w0 190 14 = 199 := hA 8 (by decide)
      have := (smW_tr (smW_tr (smW_tr (smW_tr (smW_tr (smW_tr (smW_tr (smW_tr (smW_tr (smW_tr (smW_tr (smW_tr (smW_tr (smW_tr sm (sm_pI (by decide) q43F q43X q43J q43Y q43R)) (sm_pI (by decide) q46F q46X q46J q46Y q46R)) (sm_pI (by decide) q49F q49X q49J q49Y q49R)) (sm_pI (by decide) q52F q52X q52J q52Y q52R)) (sm_pI (by decide) q55F q55X q55J q55Y q55R)) (sm_pI (by decide) q58F q58X q58J q58Y q58R)) (sm_cY (by decide) q62Y q62F q62X q62J q62R)) (sm_cX (by decide) q66X q66F q66J q66Y q66R)) (sm_cX (by decide) q70X q70F q70J q70Y q70R)) (sm_cX (by decide) q74X q74F q74J q74Y q74R)) (sm_cX (by decide) q78X q78F q78J q78Y q78R)) (sm_cX (by decide) q82X q82F q82J q82Y q82R)) (sm_cY (by decide) q86Y q86F q86X q86J q86R)) (sm_cX (by decide) q90X q90F q90J q90Y q90R)).2.2.2.2 190 14
      omega
    subst ekk92
    refine h_intv k_0 rfl ?_
    refine h_intv k_6 rfl ?_
    refine x_copyF rfl o89 (show ztau 23 = some 14 from rfl) (show ztau 199 = some 14 from rfl) ait_14 rfl rfl rfl rfl (fun w93 o93 q94a q94X q94F q94J q94Y q94R => ?_)
    refine h_vret rfl ?_
    have S := smW_tr (smW_tr (smW_tr (smW_tr (smW_tr (smW_tr (smW_tr (smW_tr (smW_tr (smW_tr (smW_tr (smW_tr (smW_tr (smW_tr (smW_tr sm (sm_pI (by decide) q43F q43X q43J q43Y q43R)) (sm_pI (by decide) q46F q46X q46J q46Y q46R)) (sm_pI (by decide) q49F q49X q49J q49Y q49R)) (sm_pI (by decide) q52F q52X q52J q52Y q52R)) (sm_pI (by decide) q55F q55X q55J q55Y q55R)) (sm_pI (by decide) q58F q58X q58J q58Y q58R)) (sm_cY (by decide) q62Y q62F q62X q62J q62R)) (sm_cX (by decide) q66X q66F q66J q66Y q66R)) (sm_cX (by decide) q70X q70F q70J q70Y q70R)) (sm_cX (by decide) q74X q74F q74J q74Y q74R)) (sm_cX (by decide) q78X q78F q78J q78Y q78R)) (sm_cX (by decide) q82X q82F q82J q82Y q82R)) (sm_cY (by decide) q86Y q86F q86X q86J q86R)) (sm_cX (by decide) q90X q90F q90J q90Y q90R)) (sm_cX (by decide) q94X q94F q94J q94Y q94R)
    refine ⟨_, rfl, o93, fun f hf => ?_, fun j => (show gY _ 191 j = gY _ 15 j from by rw [q94Y 191 j, q90Y 191 j, q86Y 191 j (by decide), q82Y 191 j, q78Y 191 j, q74Y 191 j, q70Y 191 j, q66Y 191 j, q62a j, q58Y 15 j, q55Y 15 j, q52Y 15 j, q49Y 15 j, q46Y 15 j, q43Y 15 j]), fun j => (show gY _ 197 j = gY _ 21 j from by rw [q94Y 197 j, q90Y 197 j, q86a j, q82Y 21 j, q78Y 21 j, q74Y 21 j, q70Y 21 j, q66Y 21 j, q62Y 21 j (by decide), q58Y 21 j, q55Y 21 j, q52Y 21 j, q49Y 21 j, q46Y 21 j, q43Y 21 j]), fun c hc hn => ?_, fun c hc k hk => S.2.2.2.2 c (6 + k)⟩
    · rcases (by omega : f = 0 ∨ f = 1 ∨ f = 2 ∨ f = 3 ∨ f = 4) with rfl | rfl | rfl | rfl | rfl
      · rw [q94F 190 0, q90F 190 0, q86F 190 0, q82F 190 0, q78F 190 0, q74F 190 0, q70F 190 0, q66F 190 0, q62F 190 0, q58F 190 0 (by decide), q55F 190 0 (by decide), q52F 190 0 (by decide), q49F 190 0 (by decide), q46F 190 0 (by decide), q43a]
      · rw [q94F 190 1, q90F 190 1, q86F 190 1, q82F 190 1, q78F 190 1, q74F 190 1, q70F 190 1, q66F 190 1, q62F 190 1, q58F 190 1 (by decide), q55F 190 1 (by decide), q52F 190 1 (by decide), q49F 190 1 (by decide), q46a]
      · rw [q94F 190 2, q90F 190 2, q86F 190 2, q82F 190 2, q78F 190 2, q74F 190 2, q70F 190 2, q66F 190 2, q62F 190 2, q58F 190 2 (by decide), q55F 190 2 (by decide), q52F 190 2 (by decide), q49a]
      · rw [q94F 190 3, q90F 190 3, q86F 190 3, q82F 190 3, q78F 190 3, q74F 190 3, q70F 190 3, q66F 190 3, q62F 190 3, q58F 190 3 (by decide), q55F 190 3 (by decide), q52a]
      · rw [q94F 190 4, q90F 190 4, q86F 190 4, q82F 190 4, q78F 190 4, q74F 190 4, q70F 190 4, q66F 190 4, q62F 190 4, q58F 190 4 (by decide), q55a]
    · exact cp_E (a := 190) S hc hn (Or.inr (Or.inr rfl)) (by decide) (by decide)
  obtain ⟨r, h3, w2, h4, h5⟩ := h_meth1 (nL := 2) rfl K
  rw [h4] at h3
  exact ⟨w2, h3, h5⟩

theorem x_cp_14_167 {kn : sKn} {w0 : sW} (hw : wOk ZZ w0) (hA : plX w0 14) (hB : plX w0 167) : ∃ w', fX6_copyOf kn [.ref 14, .ref 167] w0 = some (none, w', 0, 0) ∧ hO dX6_copyOf w0 w' ∧ cpP w0 w' 14 167 := by
  have K : Tp (tX6_copyOf kn) (fun r => ∃ w', r = (none, w', 0, 0) ∧ hO dX6_copyOf w0 w' ∧ cpP w0 w' 14 167) 0 (lv_args 0 [.ref 14, .ref 167], [], w0, 0, 0) := by
    have l0 : hL (lv_args 0 [.ref 14, .ref 167]) (lv_args 0 [.ref 14, .ref 167]) := hL_ex rfl
    have o0 : hO dX6_copyOf w0 w0 := hO_rf hw
    have sm := smW_rf eCP14 w0
    refine h_aload rfl l0 rfl ?_
    refine h_aload rfl l0 rfl ?_
    refine h_getI rfl o0 (fI_of (show ztau 167 = some 5 from rfl) fit_5_0) (fun b41a b41b => ?_)
    refine x_putI rfl o0 (fI_of (show ztau 14 = some 5 from rfl) fit_5_0) rfl (by omega) (by omega) (fun w42 o42 q43a q43F q43X q43J q43Y q43R => ?_)
    refine h_aload rfl l0 rfl ?_
    refine h_aload rfl l0 rfl ?_
    refine h_getI rfl o42 (fI_of (show ztau 167 = some 5 from rfl) fit_5_1) (fun b44a b44b => ?_)
    rw [q43F 167 1 (by decide)] at b44a b44b ⊢
    refine x_putI rfl o42 (fI_of (show ztau 14 = some 5 from rfl) fit_5_1) rfl (by omega) (by omega) (fun w45 o45 q46a q46F q46X q46J q46Y q46R => ?_)
    refine h_aload rfl l0 rfl ?_
    refine h_aload rfl l0 rfl ?_
    refine h_getI rfl o45 (fI_of (show ztau 167 = some 5 from rfl) fit_5_2) (fun b47a b47b => ?_)
    rw [q46F 167 2 (by decide), q43F 167 2 (by decide)] at b47a b47b ⊢
    refine x_putI rfl o45 (fI_of (show ztau 14 = some 5 from rfl) fit_5_2) rfl (by omega) (by omega) (fun w48 o48 q49a q49F q49X q49J q49Y q49R => ?_)
    refine h_aload rfl l0 rfl ?_
    refine h_aload rfl l0 rfl ?_
    refine h_getI rfl o48 (fI_of (show ztau 167 = some 5 from rfl) fit_5_3) (fun b50a b50b => ?_)
    rw [q49F 167 3 (by decide), q46F 167 3 (by decide), q43F 167 3 (by decide)] at b50a b50b ⊢
    refine x_putI rfl o48 (fI_of (show ztau 14 = some 5 from rfl) fit_5_3) rfl (by omega) (by omega) (fun w51 o51 q52a q52F q52X q52J q52Y q52R => ?_)
    refine h_aload rfl l0 rfl ?_
    refine h_aload rfl l0 rfl ?_
    refine h_getI rfl o51 (fI_of (show ztau 167 = some 5 from rfl) fit_5_4) (fun b53a b53b => ?_)
    rw [q52F 167 4 (by decide), q49F 167 4 (by decide), q46F 167 4 (by decide), q43F 167 4 (by decide)] at b53a b53b ⊢
    refine x_putI rfl o51 (fI_of (show ztau 14 = some 5 from rfl) fit_5_4) rfl (by omega) (by omega) (fun w54 o54 q55a q55F q55X q55J q55Y q55R => ?_)
    refine h_aload rfl l0 rfl ?_
    refine h_aload rfl l0 rfl ?_
    refine h_getI rfl o54 (fI_of (show ztau 167 = some 5 from rfl) fit_5_5) (fun b56a b56b => ?_)
    rw [q55F 167 5 (by decide), q52F 167 5 (by decide), q49F 167 5 (by decide), q46F 167 5 (by decide), q43F 167 5 (by decide)] at b56a b56b ⊢
    refine x_putI rfl o54 (fI_of (show ztau 14 = some 5 from rfl) fit_5_5) rfl (by omega) (by omega) (fun w57 o57 q58a q58F q58X q58J q58Y q58R => ?_)
    refine h_aload rfl l0 rfl ?_
    refine h_getT rfl o57 (show ztau 167 = some 5 from rfl) frt_5_6 (fun kk59 hkk59 rkk59 => ?_)
    have ekk59 : kk59 = 168 := by
      have p9 : gR w0 167 6 = 168 := hB 0 (by decide)
      have := (smW_tr (smW_tr (smW_tr (smW_tr (smW_tr (smW_tr sm (sm_pI (by decide) q43F q43X q43J q43Y q43R)) (sm_pI (by decide) q46F q46X q46J q46Y q46R)) (sm_pI (by decide) q49F q49X q49J q49Y q49R)) (sm_pI (by decide) q52F q52X q52J q52Y q52R)) (sm_pI (by decide) q55F q55X q55J q55Y q55R)) (sm_pI (by decide) q58F q58X q58J q58Y q58R)).2.2.2.2 167 6
      omega
    subst ekk59
    refine h_intv k_0 rfl ?_
    refine h_aload rfl l0 rfl ?_
    refine h_getT rfl o57 (show ztau 14 = some 5 from rfl) frt_5_6 (fun kk60 hkk60 rkk60 => ?_)
    have ekk60 : kk60 = 15 := by
      have p9 : gR w0 14 6 = 15 := hA 0 (by decide)
      have := (smW_tr (smW_tr (smW_tr (smW_tr (smW_tr (smW_tr sm (sm_pI (by decide) q43F q43X q43J q43Y q43R)) (sm_pI (by decide) q46F q46X q46J q46Y q46R)) (sm_pI (by decide) q49F q49X q49J q49Y q49R)) (sm_pI (by decide) q52F q52X q52J q52Y q52R)) (sm_pI (by decide) q55F q55X q55J q55Y q55R)) (sm_pI (by decide) q58F q58X q58J q58Y q58R)).2.2.2.2 14 6
      omega
    subst ekk60
    refine h_intv k_0 rfl ?_
    refine h_intv k_10 rfl ?_
    refine x_copyL rfl o57 aj_168 aj_15 rfl rfl rfl rfl (fun w61 o61 q62a q62Y q62F q62X q62J q62R => ?_)
    refine h_aload rfl l0 rfl ?_
    refine h_getT rfl o61 (show ztau 167 = some 5 from rfl) frt_5_7 (fun kk63 hkk63 rkk63 => ?_)
    have ekk63 : kk63 = 169 := by
      have p9 : gR w0 167 7 = 169 := hB 1 (by decide)
      have := (smW_tr (smW_tr (smW_tr (smW_tr (smW_tr (smW_tr (smW_tr sm (sm_pI (by decide) q43F q43X q43J q43Y q43R)) (sm_pI (by decide) q46F q46X q46J q46Y q46R)) (sm_pI (by decide) q49F q49X q49J q49Y q49R)) (sm_pI (by decide) q52F q52X q52J q52Y q52R)) (sm_pI (by decide) q55F q55X q55J q55Y q55R)) (sm_pI (by decide) q58F q58X q58J q58Y q58R)) (sm_cY (by decide) q62Y q62F q62X q62J q62R)).2.2.2.2 167 7
      omega
    subst ekk63
    refine h_intv k_0 rfl ?_
    refine h_aload rfl l0 rfl ?_
    refine h_getT rfl o61 (show ztau 14 = some 5 from rfl) frt_5_7 (fun kk64 hkk64 rkk64 => ?_)
    have ekk64 : kk64 = 16 := by
      have p9 : gR w0 14 7 = 16 := hA 1 (by decide)
      have := (smW_tr (smW_tr (smW_tr (smW_tr (smW_tr (smW_tr (smW_tr sm (sm_pI (by decide) q43F q43X q43J q43Y q43R)) (sm_pI (by decide) q46F q46X q46J q46Y q46R)) (sm_pI (by decide) q49F q49X q49J q49Y q49R)) (sm_pI (by decide) q52F q52X q52J q52Y q52R)) (sm_pI (by decide) q55F q55X q55J q55Y q55R)) (sm_pI (by decide) q58F q58X q58J q58Y q58R)) (sm_cY (by decide) q62Y q62F q62X q62J q62R)).2.2.2.2 14 7
      omega
    subst ekk64
    refine h_intv k_0 rfl ?_
    refine h_intv k_10 rfl ?_
    refine x_copyF rfl o61 (show ztau 169 = some 7 from rfl) (show ztau 16 = some 7 from rfl) ait_7 rfl rfl rfl rfl (fun w65 o65 q66a q66X q66F q66J q66Y q66R => ?_)
    refine h_aload rfl l0 rfl ?_
    refine h_getT rfl o65 (show ztau 167 = some 5 from rfl) frt_5_8 (fun kk67 hkk67 rkk67 => ?_)
    have ekk67 : kk67 = 170 := by
      have p9 : gR w0 167 8 = 170 := hB 2 (by decide)
      have := (smW_tr (smW_tr (smW_tr (smW_tr (smW_tr (smW_tr (smW_tr (smW_tr sm (sm_pI (by decide) q43F q43X q43J q43Y q43R)) (sm_pI (by decide) q46F q46X q46J q46Y q46R)) (sm_pI (by decide) q49F q49X q49J q49Y q49R)) (sm_pI (by decide) q52F q52X q52J q52Y q52R)) (sm_pI (by decide) q55F q55X q55J q55Y q55R)) (sm_pI (by decide) q58F q58X q58J q58Y q58R)) (sm_cY (by decide) q62Y q62F q62X q62J q62R)) (sm_cX (by decide) q66X q66F q66J q66Y q66R)).2.2.2.2 167 8
      omega
    subst ekk67
    refine h_intv k_0 rfl ?_
    refine h_aload rfl l0 rfl ?_
    refine h_getT rfl o65 (show ztau 14 = some 5 from rfl) frt_5_8 (fun kk68 hkk68 rkk68 => ?_)
    have ekk68 : kk68 = 17 := by
      have p9 : gR w0 14 8 = 17 := hA 2 (by decide)
      have := (smW_tr (smW_tr (smW_tr (smW_tr (smW_tr (smW_tr (smW_tr (smW_tr sm (sm_pI (by decide) q43F q43X q43J q43Y q43R)) (sm_pI (by decide) q46F q46X q46J q46Y q46R)) (sm_pI (by decide) q49F q49X q49J q49Y q49R)) (sm_pI (by decide) q52F q52X q52J q52Y q52R)) (sm_pI (by decide) q55F q55X q55J q55Y q55R)) (sm_pI (by decide) q58F q58X q58J q58Y q58R)) (sm_cY (by decide) q62Y q62F q62X q62J q62R)) (sm_cX (by decide) q66X q66F q66J q66Y q66R)).2.2.2.2 14 8
      omega
    subst ekk68
    refine h_intv k_0 rfl ?_
    refine h_intv k_10 rfl ?_
    refine x_copyF rfl o65 (show ztau 170 = some 8 from rfl) (show ztau 17 = some 8 from rfl) ait_8 rfl rfl rfl rfl (fun w69 o69 q70a q70X q70F q70J q70Y q70R => ?_)
    refine h_aload rfl l0 rfl ?_
    refine h_getT rfl o69 (show ztau 167 = some 5 from rfl) frt_5_9 (fun kk71 hkk71 rkk71 => ?_)
    have ekk71 : kk71 = 171 := by
      have p9 : gR w0 167 9 = 171 := hB 3 (by decide)
      have := (smW_tr (smW_tr (smW_tr (smW_tr (smW_tr (smW_tr (smW_tr (smW_tr (smW_tr sm (sm_pI (by decide) q43F q43X q43J q43Y q43R)) (sm_pI (by decide) q46F q46X q46J q46Y q46R)) (sm_pI (by decide) q49F q49X q49J q49Y q49R)) (sm_pI (by decide) q52F q52X q52J q52Y q52R)) (sm_pI (by decide) q55F q55X q55J q55Y q55R)) (sm_pI (by decide) q58F q58X q58J q58Y q58R)) (sm_cY (by decide) q62Y q62F q62X q62J q62R)) (sm_cX (by decide) q66X q66F q66J q66Y q66R)) (sm_cX (by decide) q70X q70F q70J q70Y q70R)).2.2.2.2 167 9
      omega
    subst ekk71
    refine h_intv k_0 rfl ?_
    refine h_aload rfl l0 rfl ?_
    refine h_getT rfl o69 (show ztau 14 = some 5 from rfl) frt_5_9 (fun kk72 hkk72 rkk72 => ?_)
    have ekk72 : kk72 = 18 := by
      have p9 : gR w0 14 9 = 18 := hA 3 (by decide)
      have := (smW_tr (smW_tr (smW_tr (smW_tr (smW_tr (smW_tr (smW_tr (smW_tr (smW_tr sm (sm_pI (by decide) q43F q43X q43J q43Y q43R)) (sm_pI (by decide) q46F q46X q46J q46Y q46R)) (sm_pI (by decide) q49F q49X q49J q49Y q49R)) (sm_pI (by decide) q52F q52X q52J q52Y q52R)) (sm_pI (by decide) q55F q55X q55J q55Y q55R)) (sm_pI (by decide) q58F q58X q58J q58Y q58R)) (sm_cY (by decide) q62Y q62F q62X q62J q62R)) (sm_cX (by decide) q66X q66F q66J q66Y q66R)) (sm_cX (by decide) q70X q70F q70J q70Y q70R)).2.2.2.2 14 9
      omega
    subst ekk72
    refine h_intv k_0 rfl ?_
    refine h_intv k_10 rfl ?_
    refine x_copyF rfl o69 (show ztau 171 = some 9 from rfl) (show ztau 18 = some 9 from rfl) ait_9 rfl rfl rfl rfl (fun w73 o73 q74a q74X q74F q74J q74Y q74R => ?_)
    refine h_aload rfl l0 rfl ?_
    refine h_getT rfl o73 (show ztau 167 = some 5 from rfl) frt_5_10 (fun kk75 hkk75 rkk75 => ?_)
    have ekk75 : kk75 = 172 := by
      have p9 : gR w0 167 10 = 172 := hB 4 (by decide)
      have := (smW_tr (smW_tr (smW_tr (smW_tr (smW_tr (smW_tr (smW_tr (smW_tr (smW_tr (smW_tr sm (sm_pI (by decide) q43F q43X q43J q43Y q43R)) (sm_pI (by decide) q46F q46X q46J q46Y q46R)) (sm_pI (by decide) q49F q49X q49J q49Y q49R)) (sm_pI (by decide) q52F q52X q52J q52Y q52R)) (sm_pI (by decide) q55F q55X q55J q55Y q55R)) (sm_pI (by decide) q58F q58X q58J q58Y q58R)) (sm_cY (by decide) q62Y q62F q62X q62J q62R)) (sm_cX (by decide) q66X q66F q66J q66Y q66R)) (sm_cX (by decide) q70X q70F q70J q70Y q70R)) (sm_cX (by decide) q74X q74F q74J q74Y q74R)).2.2.2.2 167 10
      omega
    subst ekk75
    refine h_intv k_0 rfl ?_
    refine h_aload rfl l0 rfl ?_
    refine h_getT rfl o73 (show ztau 14 = some 5 from rfl) frt_5_10 (fun kk76 hkk76 rkk76 => ?_)
    have ekk76 : kk76 = 19 := by
      have p9 : gR w0 14 10 = 19 := hA 4 (by decide)
      have := (smW_tr (smW_tr (smW_tr (smW_tr (smW_tr (smW_tr (smW_tr (smW_tr (smW_tr (smW_tr sm (sm_pI (by decide) q43F q43X q43J q43Y q43R)) (sm_pI (by decide) q46F q46X q46J q46Y q46R)) (sm_pI (by decide) q49F q49X q49J q49Y q49R)) (sm_pI (by decide) q52F q52X q52J q52Y q52R)) (sm_pI (by decide) q55F q55X q55J q55Y q55R)) (sm_pI (by decide) q58F q58X q58J q58Y q58R)) (sm_cY (by decide) q62Y q62F q62X q62J q62R)) (sm_cX (by decide) q66X q66F q66J q66Y q66R)) (sm_cX (by decide) q70X q70F q70J q70Y q70R)) (sm_cX (by decide) q74X q74F q74J q74Y q74R)).2.2.2.2 14 10
      omega
    subst ekk76
    refine h_intv k_0 rfl ?_
    refine h_intv k_10 rfl ?_
    refine x_copyF rfl o73 (show ztau 172 = some 10 from rfl) (show ztau 19 = some 10 from rfl) ait_10 rfl rfl rfl rfl (fun w77 o77 q78a q78X q78F q78J q78Y q78R => ?_)
    refine h_aload rfl l0 rfl ?_
    refine h_getT rfl o77 (show ztau 167 = some 5 from rfl) frt_5_11 (fun kk79 hkk79 rkk79 => ?_)
    have ekk79 : kk79 = 173 := by
      have p9 : gR w0 167 11 = 173 := hB 5 (by decide)
      have := (smW_tr (smW_tr (smW_tr (smW_tr (smW_tr (smW_tr (smW_tr (smW_tr (smW_tr (smW_tr (smW_tr sm (sm_pI (by decide) q43F q43X q43J q43Y q43R)) (sm_pI (by decide) q46F q46X q46J q46Y q46R)) (sm_pI (by decide) q49F q49X q49J q49Y q49R)) (sm_pI (by decide) q52F q52X q52J q52Y q52R)) (sm_pI (by decide) q55F q55X q55J q55Y q55R)) (sm_pI (by decide) q58F q58X q58J q58Y q58R)) (sm_cY (by decide) q62Y q62F q62X q62J q62R)) (sm_cX (by decide) q66X q66F q66J q66Y q66R)) (sm_cX (by decide) q70X q70F q70J q70Y q70R)) (sm_cX (by decide) q74X q74F q74J q74Y q74R)) (sm_cX (by decide) q78X q78F q78J q78Y q78R)).2.2.2.2 167 11
      omega
    subst ekk79
    refine h_intv k_0 rfl ?_
    refine h_aload rfl l0 rfl ?_
    refine h_getT rfl o77 (show ztau 14 = some 5 from rfl) frt_5_11 (fun kk80 hkk80 rkk80 => ?_)
    have ekk80 : kk80 = 20 := by
      have p9 : gR w0 14 11 = 20 := hA 5 (by decide)
      have := (smW_tr (smW_tr (smW_tr (smW_tr (smW_tr (smW_tr (smW_tr (smW_tr (smW_tr (smW_tr (smW_tr sm (sm_pI (by decide) q43F q43X q43J q43Y q43R)) (sm_pI (by decide) q46F q46X q46J q46Y q46R)) (sm_pI (by decide) q49F q49X q49J q49Y q49R)) (sm_pI (by decide) q52F q52X q52J q52Y q52R)) (sm_pI (by decide) q55F q55X q55J q55Y q55R)) (sm_pI (by decide) q58F q58X q58J q58Y q58R)) (sm_cY (by decide) q62Y q62F q62X q62J q62R)) (sm_cX (by decide) q66X q66F q66J q66Y q66R)) (sm_cX (by decide) q70X q70F q70J q70Y q70R)) (sm_cX (by decide) q74X q74F q74J q74Y q74R)) (sm_cX (by decide) q78X q78F q78J q78Y q78R)).2.2.2.2 14 11
      omega
    subst ekk80
    refine h_intv k_0 rfl ?_
    refine h_intv k_36 rfl ?_
    refine x_copyF rfl o77 (show ztau 173 = some 11 from rfl) (show ztau 20 = some 11 from rfl) ait_11 rfl rfl rfl rfl (fun w81 o81 q82a q82X q82F q82J q82Y q82R => ?_)
    refine h_aload rfl l0 rfl ?_
    refine h_getT rfl o81 (show ztau 167 = some 5 from rfl) frt_5_12 (fun kk83 hkk83 rkk83 => ?_)
    have ekk83 : kk83 = 174 := by
      have p9 : gR w0 167 12 = 174 := hB 6 (by decide)
      have := (smW_tr (smW_tr (smW_tr (smW_tr (smW_tr (smW_tr (smW_tr (smW_tr (smW_tr (smW_tr (smW_tr (smW_tr sm (sm_pI (by decide) q43F q43X q43J q43Y q43R)) (sm_pI (by decide) q46F q46X q46J q46Y q46R)) (sm_pI (by decide) q49F q49X q49J q49Y q49R)) (sm_pI (by decide) q52F q52X q52J q52Y q52R)) (sm_pI (by decide) q55F q55X q55J q55Y q55R)) (sm_pI (by decide) q58F q58X q58J q58Y q58R)) (sm_cY (by decide) q62Y q62F q62X q62J q62R)) (sm_cX (by decide) q66X q66F q66J q66Y q66R)) (sm_cX (by decide) q70X q70F q70J q70Y q70R)) (sm_cX (by decide) q74X q74F q74J q74Y q74R)) (sm_cX (by decide) q78X q78F q78J q78Y q78R)) (sm_cX (by decide) q82X q82F q82J q82Y q82R)).2.2.2.2 167 12
      omega
    subst ekk83
    refine h_intv k_0 rfl ?_
    refine h_aload rfl l0 rfl ?_
    refine h_getT rfl o81 (show ztau 14 = some 5 from rfl) frt_5_12 (fun kk84 hkk84 rkk84 => ?_)
    have ekk84 : kk84 = 21 := by
      have p9 : gR w0 14 12 = 21 := hA 6 (by decide)
      have := (smW_tr (smW_tr (smW_tr (smW_tr (smW_tr (smW_tr (smW_tr (smW_tr (smW_tr (smW_tr (smW_tr (smW_tr sm (sm_pI (by decide) q43F q43X q43J q43Y q43R)) (sm_pI (by decide) q46F q46X q46J q46Y q46R)) (sm_pI (by decide) q49F q49X q49J q49Y q49R)) (sm_pI (by decide) q52F q52X q52J q52Y q52R)) (sm_pI (by decide) q55F q55X q55J q55Y q55R)) (sm_pI (by decide) q58F q58X q58J q58Y q58R)) (sm_cY (by decide) q62Y q62F q62X q62J q62R)) (sm_cX (by decide) q66X q66F q66J q66Y q66R)) (sm_cX (by decide) q70X q70F q70J q70Y q70R)) (sm_cX (by decide) q74X q74F q74J q74Y q74R)) (sm_cX (by decide) q78X q78F q78J q78Y q78R)) (sm_cX (by decide) q82X q82F q82J q82Y q82R)).2.2.2.2 14 12
      omega
    subst ekk84
    refine h_intv k_0 rfl ?_
    refine h_intv k_6 rfl ?_
    refine x_copyL rfl o81 aj_174 aj_21 rfl rfl rfl rfl (fun w85 o85 q86a q86Y q86F q86X q86J q86R => ?_)
    refine h_aload rfl l0 rfl ?_
    refine h_getT rfl o85 (show ztau 167 = some 5 from rfl) frt_5_13 (fun kk87 hkk87 rkk87 => ?_)
    have ekk87 : kk87 = 175 := by
      have p9 : gR w0 167 13 = 175 := hB 7 (by decide)
      have := (smW_tr (smW_tr (smW_tr (smW_tr (smW_tr (smW_tr (smW_tr (smW_tr (smW_tr (smW_tr (smW_tr (smW_tr (smW_tr sm (sm_pI (by decide) q43F q43X q43J q43Y q43R)) (sm_pI (by decide) q46F q46X q46J q46Y q46R)) (sm_pI (by decide) q49F q49X q49J q49Y q49R)) (sm_pI (by decide) q52F q52X q52J q52Y q52R)) (sm_pI (by decide) q55F q55X q55J q55Y q55R)) (sm_pI (by decide) q58F q58X q58J q58Y q58R)) (sm_cY (by decide) q62Y q62F q62X q62J q62R)) (sm_cX (by decide) q66X q66F q66J q66Y q66R)) (sm_cX (by decide) q70X q70F q70J q70Y q70R)) (sm_cX (by decide) q74X q74F q74J q74Y q74R)) (sm_cX (by decide) q78X q78F q78J q78Y q78R)) (sm_cX (by decide) q82X q82F q82J q82Y q82R)) (sm_cY (by decide) q86Y q86F q86X q86J q86R)).2.2.2.2 167 13
      omega
    subst ekk87
    refine h_intv k_0 rfl ?_
    refine h_aload rfl l0 rfl ?_
    refine h_getT rfl o85 (show ztau 14 = some 5 from rfl) frt_5_13 (fun kk88 hkk88 rkk88 => ?_)
    have ekk88 : kk88 = 22 := by
      have p9 : gR w0 14 13 = 22 := hA 7 (by decide)
      have := (smW_tr (smW_tr (smW_tr (smW_tr (smW_tr (smW_tr (smW_tr (smW_tr (smW_tr (smW_tr (smW_tr (smW_tr (smW_tr sm (sm_pI (by decide) q43F q43X q43J q43Y q43R)) (sm_pI (by decide) q46F q46X q46J q46Y q46R)) (sm_pI (by decide) q49F q49X q49J q49Y q49R)) (sm_pI (by decide) q52F q52X q52J q52Y q52R)) (sm_pI (by decide) q55F q55X q55J q55Y q55R)) (sm_pI (by decide) q58F q58X q58J q58Y q58R)) (sm_cY (by decide) q62Y q62F q62X q62J q62R)) (sm_cX (by decide) q66X q66F q66J q66Y q66R)) (sm_cX (by decide) q70X q70F q70J q70Y q70R)) (sm_cX (by decide) q74X q74F q74J q74Y q74R)) (sm_cX (by decide) q78X q78F q78J q78Y q78R)) (sm_cX (by decide) q82X q82F q82J q82Y q82R)) (sm_cY (by decide) q86Y q86F q86X q86J q86R)).2.2.2.2 14 13
      omega
    subst ekk88
    refine h_intv k_0 rfl ?_
    refine h_intv k_6 rfl ?_
    refine x_copyF rfl o85 (show ztau 175 = some 13 from rfl) (show ztau 22 = some 13 from rfl) ait_13 rfl rfl rfl rfl (fun w89 o89 q90a q90X q90F q90J q90Y q90R => ?_)
    refine h_aload rfl l0 rfl ?_
    refine h_getT rfl o89 (show ztau 167 = some 5 from rfl) frt_5_14 (fun kk91 hkk91 rkk91 => ?_)
    have ekk91 : kk91 = 176 := by
      have p9 : gR w0 167 14 = 176 := hB 8 (by decide)
      have := (smW_tr (smW_tr (smW_tr (smW_tr (smW_tr (smW_tr (smW_tr (smW_tr (smW_tr (smW_tr (smW_tr (smW_tr (smW_tr (smW_tr sm (sm_pI (by decide) q43F q43X q43J q43Y q43R)) (sm_pI (by decide) q46F q46X q46J q46Y q46R)) (sm_pI (by decide) q49F q49X q49J q49Y q49R)) (sm_pI (by decide) q52F q52X q52J q52Y q52R)) (sm_pI (by decide) q55F q55X q55J q55Y q55R)) (sm_pI (by decide) q58F q58X q58J q58Y q58R)) (sm_cY (by decide) q62Y q62F q62X q62J q62R)) (sm_cX (by decide) q66X q66F q66J q66Y q66R)) (sm_cX (by decide) q70X q70F q70J q70Y q70R)) (sm_cX (by decide) q74X q74F q74J q74Y q74R)) (sm_cX (by decide) q78X q78F q78J q78Y q78R)) (sm_cX (by decide) q82X q82F q82J q82Y q82R)) (sm_cY (by decide) q86Y q86F q86X q86J q86R)) (sm_cX (by decide) q90X q90F q90J q90Y q90R)).2.2.2.2 167 14
      omega
    subst ekk91
    refine h_intv k_0 rfl ?_
    refine h_aload rfl l0 rfl ?_
    refine h_getT rfl o89 (show ztau 14 = some 5 from rfl) frt_5_14 (fun kk92 hkk92 rkk92 => ?_)
    have ekk92 : kk92 = 23 := by
      have p9 : gR w0 14 14 = 23 := hA 8 (by decide)
      have := (smW_tr (smW_tr (smW_tr (smW_tr (smW_tr (smW_tr (smW_tr (smW_tr (smW_tr (smW_tr (smW_tr (smW_tr (smW_tr (smW_tr sm (sm_pI (by decide) q43F q43X q43J q43Y q43R)) (sm_pI (by decide) q46F q46X q46J q46Y q46R)) (sm_pI (by decide) q49F q49X q49J q49Y q49R)) (sm_pI (by decide) q52F q52X q52J q52Y q52R)) (sm_pI (by decide) q55F q55X q55J q55Y q55R)) (sm_pI (by decide) q58F q58X q58J q58Y q58R)) (sm_cY (by decide) q62Y q62F q62X q62J q62R)) (sm_cX (by decide) q66X q66F q66J q66Y q66R)) (sm_cX (by decide) q70X q70F q70J q70Y q70R)) (sm_cX (by decide) q74X q74F q74J q74Y q74R)) (sm_cX (by decide) q78X q78F q78J q78Y q78R)) (sm_cX (by decide) q82X q82F q82J q82Y q82R)) (sm_cY (by decide) q86Y q86F q86X q86J q86R)) (sm_cX (by decide) q90X q90F q90J q90Y q90R)).2.2.2.2 14 14
      omega
    subst ekk92
    refine h_intv k_0 rfl ?_
    refine h_intv k_6 rfl ?_
    refine x_copyF rfl o89 (show ztau 176 = some 14 from rfl) (show ztau 23 = some 14 from rfl) ait_14 rfl rfl rfl rfl (fun w93 o93 q94a q94X q94F q94J q94Y q94R => ?_)
    refine h_vret rfl ?_
    have S := smW_tr (smW_tr (smW_tr (smW_tr (smW_tr (smW_tr (smW_tr (smW_tr (smW_tr (smW_tr (smW_tr (smW_tr (smW_tr (smW_tr (smW_tr sm (sm_pI (by decide) q43F q43X q43J q43Y q43R)) (sm_pI (by decide) q46F q46X q46J q46Y q46R)) (sm_pI (by decide) q49F q49X q49J q49Y q49R)) (sm_pI (by decide) q52F q52X q52J q52Y q52R)) (sm_pI (by decide) q55F q55X q55J q55Y q55R)) (sm_pI (by decide) q58F q58X q58J q58Y q58R)) (sm_cY (by decide) q62Y q62F q62X q62J q62R)) (sm_cX (by decide) q66X q66F q66J q66Y q66R)) (sm_cX (by decide) q70X q70F q70J q70Y q70R)) (sm_cX (by decide) q74X q74F q74J q74Y q74R)) (sm_cX (by decide) q78X q78F q78J q78Y q78R)) (sm_cX (by decide) q82X q82F q82J q82Y q82R)) (sm_cY (by decide) q86Y q86F q86X q86J q86R)) (sm_cX (by decide) q90X q90F q90J q90Y q90R)) (sm_cX (by decide) q94X q94F q94J q94Y q94R)
    refine ⟨_, rfl, o93, fun f hf => ?_, fun j => (show gY _ 15 j = gY _ 168 j from by rw [q94Y 15 j, q90Y 15 j, q86Y 15 j (by decide), q82Y 15 j, q78Y 15 j, q74Y 15 j, q70Y 15 j, q66Y 15 j, q62a j, q58Y 168 j, q55Y 168 j, q52Y 168 j, q49Y 168 j, q46Y 168 j, q43Y 168 j]), fun j => (show gY _ 21 j = gY _ 174 j from by rw [q94Y 21 j, q90Y 21 j, q86a j, q82Y 174 j, q78Y 174 j, q74Y 174 j, q70Y 174 j, q66Y 174 j, q62Y 174 j (by decide), q58Y 174 j, q55Y 174 j, q52Y 174 j, q49Y 174 j, q46Y 174 j, q43Y 174 j]), fun c hc hn => ?_, fun c hc k hk => S.2.2.2.2 c (6 + k)⟩
    · rcases (by omega : f = 0 ∨ f = 1 ∨ f = 2 ∨ f = 3 ∨ f = 4) with rfl | rfl | rfl | rfl | rfl
      · rw [q94F 14 0, q90F 14 0, q86F 14 0, q82F 14 0, q78F 14 0, q74F 14 0, q70F 14 0, q66F 14 0, q62F 14 0, q58F 14 0 (by decide), q55F 14 0 (by decide), q52F 14 0 (by decide), q49F 14 0 (by decide), q46F 14 0 (by decide), q43a]
      · rw [q94F 14 1, q90F 14 1, q86F 14 1, q82F 14 1, q78F 14 1, q74F 14 1, q70F 14 1, q66F 14 1, q62F 14 1, q58F 14 1 (by decide), q55F 14 1 (by decide), q52F 14 1 (by decide), q49F 14 1 (by decide), q46a]
      · rw [q94F 14 2, q90F 14 2, q86F 14 2, q82F 14 2, q78F 14 2, q74F 14 2, q70F 14 2, q66F 14 2, q62F 14 2, q58F 14 2 (by decide), q55F 14 2 (by decide), q52F 14 2 (by decide), q49a]
      · rw [q94F 14 3, q90F 14 3, q86F 14 3, q82F 14 3, q78F 14 3, q74F 14 3, q70F 14 3, q66F 14 3, q62F 14 3, q58F 14 3 (by decide), q55F 14 3 (by decide), q52a]
      · rw [q94F 14 4, q90F 14 4, q86F 14 4, q82F 14 4, q78F 14 4, q74F 14 4, q70F 14 4, q66F 14 4, q62F 14 4, q58F 14 4 (by decide), q55a]
    · exact cp_E (a := 14) S hc hn (Or.inl rfl) (by decide) (by decide)
  obtain ⟨r, h3, w2, h4, h5⟩ := h_meth1 (nL := 2) rfl K
  rw [h4] at h3
  exact ⟨w2, h3, h5⟩

theorem x_cp_14_190 {kn : sKn} {w0 : sW} (hw : wOk ZZ w0) (hA : plX w0 14) (hB : plX w0 190) : ∃ w', fX6_copyOf kn [.ref 14, .ref 190] w0 = some (none, w', 0, 0) ∧ hO dX6_copyOf w0 w' ∧ cpP w0 w' 14 190 := by
  have K : Tp (tX6_copyOf kn) (fun r => ∃ w', r = (none, w', 0, 0) ∧ hO dX6_copyOf w0 w' ∧ cpP w0 w' 14 190) 0 (lv_args 0 [.ref 14, .ref 190], [], w0, 0, 0) := by
    have l0 : hL (lv_args 0 [.ref 14, .ref 190]) (lv_args 0 [.ref 14, .ref 190]) := hL_ex rfl
    have o0 : hO dX6_copyOf w0 w0 := hO_rf hw
    have sm := smW_rf eCP14 w0
    refine h_aload rfl l0 rfl ?_
    refine h_aload rfl l0 rfl ?_
    refine h_getI rfl o0 (fI_of (show ztau 190 = some 5 from rfl) fit_5_0) (fun b41a b41b => ?_)
    refine x_putI rfl o0 (fI_of (show ztau 14 = some 5 from rfl) fit_5_0) rfl (by omega) (by omega) (fun w42 o42 q43a q43F q43X q43J q43Y q43R => ?_)
    refine h_aload rfl l0 rfl ?_
    refine h_aload rfl l0 rfl ?_
    refine h_getI rfl o42 (fI_of (show ztau 190 = some 5 from rfl) fit_5_1) (fun b44a b44b => ?_)
    rw [q43F 190 1 (by decide)] at b44a b44b ⊢
    refine x_putI rfl o42 (fI_of (show ztau 14 = some 5 from rfl) fit_5_1) rfl (by omega) (by omega) (fun w45 o45 q46a q46F q46X q46J q46Y q46R => ?_)
    refine h_aload rfl l0 rfl ?_
    refine h_aload rfl l0 rfl ?_
    refine h_getI rfl o45 (fI_of (show ztau 190 = some 5 from rfl) fit_5_2) (fun b47a b47b => ?_)
    rw [q46F 190 2 (by decide), q43F 190 2 (by decide)] at b47a b47b ⊢
    refine x_putI rfl o45 (fI_of (show ztau 14 = some 5 from rfl) fit_5_2) rfl (by omega) (by omega) (fun w48 o48 q49a q49F q49X q49J q49Y q49R => ?_)
    refine h_aload rfl l0 rfl ?_
    refine h_aload rfl l0 rfl ?_
    refine h_getI rfl o48 (fI_of (show ztau 190 = some 5 from rfl) fit_5_3) (fun b50a b50b => ?_)
    rw [q49F 190 3 (by decide), q46F 190 3 (by decide), q43F 190 3 (by decide)] at b50a b50b ⊢
    refine x_putI rfl o48 (fI_of (show ztau 14 = some 5 from rfl) fit_5_3) rfl (by omega) (by omega) (fun w51 o51 q52a q52F q52X q52J q52Y q52R => ?_)
    refine h_aload rfl l0 rfl ?_
    refine h_aload rfl l0 rfl ?_
    refine h_getI rfl o51 (fI_of (show ztau 190 = some 5 from rfl) fit_5_4) (fun b53a b53b => ?_)
    rw [q52F 190 4 (by decide), q49F 190 4 (by decide), q46F 190 4 (by decide), q43F 190 4 (by decide)] at b53a b53b ⊢
    refine x_putI rfl o51 (fI_of (show ztau 14 = some 5 from rfl) fit_5_4) rfl (by omega) (by omega) (fun w54 o54 q55a q55F q55X q55J q55Y q55R => ?_)
    refine h_aload rfl l0 rfl ?_
    refine h_aload rfl l0 rfl ?_
    refine h_getI rfl o54 (fI_of (show ztau 190 = some 5 from rfl) fit_5_5) (fun b56a b56b => ?_)
    rw [q55F 190 5 (by decide), q52F 190 5 (by decide), q49F 190 5 (by decide), q46F 190 5 (by decide), q43F 190 5 (by decide)] at b56a b56b ⊢
    refine x_putI rfl o54 (fI_of (show ztau 14 = some 5 from rfl) fit_5_5) rfl (by omega) (by omega) (fun w57 o57 q58a q58F q58X q58J q58Y q58R => ?_)
    refine h_aload rfl l0 rfl ?_
    refine h_getT rfl o57 (show ztau 190 = some 5 from rfl) frt_5_6 (fun kk59 hkk59 rkk59 => ?_)
    have ekk59 : kk59 = 191 := by
      have p9 : gR w0 190 6 = 191 := hB 0 (by decide)
      have := (smW_tr (smW_tr (smW_tr (smW_tr (smW_tr (smW_tr sm (sm_pI (by decide) q43F q43X q43J q43Y q43R)) (sm_pI (by decide) q46F q46X q46J q46Y q46R)) (sm_pI (by decide) q49F q49X q49J q49Y q49R)) (sm_pI (by decide) q52F q52X q52J q52Y q52R)) (sm_pI (by decide) q55F q55X q55J q55Y q55R)) (sm_pI (by decide) q58F q58X q58J q58Y q58R)).2.2.2.2 190 6
      omega
    subst ekk59
    refine h_intv k_0 rfl ?_
    refine h_aload rfl l0 rfl ?_
    refine h_getT rfl o57 (show ztau 14 = some 5 from rfl) frt_5_6 (fun kk60 hkk60 rkk60 => ?_)
    have ekk60 : kk60 = 15 := by
      have p9 : gR w0 14 6 = 15 := hA 0 (by decide)
      have := (smW_tr (smW_tr (smW_tr (smW_tr (smW_tr (smW_tr sm (sm_pI (by decide) q43F q43X q43J q43Y q43R)) (sm_pI (by decide) q46F q46X q46J q46Y q46R)) (sm_pI (by decide) q49F q49X q49J q49Y q49R)) (sm_pI (by decide) q52F q52X q52J q52Y q52R)) (sm_pI (by decide) q55F q55X q55J q55Y q55R)) (sm_pI (by decide) q58F q58X q58J q58Y q58R)).2.2.2.2 14 6
      omega
    subst ekk60
    refine h_intv k_0 rfl ?_
    refine h_intv k_10 rfl ?_
    refine x_copyL rfl o57 aj_191 aj_15 rfl rfl rfl rfl (fun w61 o61 q62a q62Y q62F q62X q62J q62R => ?_)
    refine h_aload rfl l0 rfl ?_
    refine h_getT rfl o61 (show ztau 190 = some 5 from rfl) frt_5_7 (fun kk63 hkk63 rkk63 => ?_)
    have ekk63 : kk63 = 192 := by
      have p9 : gR w0 190 7 = 192 := hB 1 (by decide)
      have := (smW_tr (smW_tr (smW_tr (smW_tr (smW_tr (smW_tr (smW_tr sm (sm_pI (by decide) q43F q43X q43J q43Y q43R)) (sm_pI (by decide) q46F q46X q46J q46Y q46R)) (sm_pI (by decide) q49F q49X q49J q49Y q49R)) (sm_pI (by decide) q52F q52X q52J q52Y q52R)) (sm_pI (by decide) q55F q55X q55J q55Y q55R)) (sm_pI (by decide) q58F q58X q58J q58Y q58R)) (sm_cY (by decide) q62Y q62F q62X q62J q62R)).2.2.2.2 190 7
      omega
    subst ekk63
    refine h_intv k_0 rfl ?_
    refine h_aload rfl l0 rfl ?_
    refine h_getT rfl o61 (show ztau 14 = some 5 from rfl) frt_5_7 (fun kk64 hkk64 rkk64 => ?_)
    have ekk64 : kk64 = 16 := by
      have p9 : gR w0 14 7 = 16 := hA 1 (by decide)
      have := (smW_tr (smW_tr (smW_tr (smW_tr (smW_tr (smW_tr (smW_tr sm (sm_pI (by decide) q43F q43X q43J q43Y q43R)) (sm_pI (by decide) q46F q46X q46J q46Y q46R)) (sm_pI (by decide) q49F q49X q49J q49Y q49R)) (sm_pI (by decide) q52F q52X q52J q52Y q52R)) (sm_pI (by decide) q55F q55X q55J q55Y q55R)) (sm_pI (by decide) q58F q58X q58J q58Y q58R)) (sm_cY (by decide) q62Y q62F q62X q62J q62R)).2.2.2.2 14 7
      omega
    subst ekk64
    refine h_intv k_0 rfl ?_
    refine h_intv k_10 rfl ?_
    refine x_copyF rfl o61 (show ztau 192 = some 7 from rfl) (show ztau 16 = some 7 from rfl) ait_7 rfl rfl rfl rfl (fun w65 o65 q66a q66X q66F q66J q66Y q66R => ?_)
    refine h_aload rfl l0 rfl ?_
    refine h_getT rfl o65 (show ztau 190 = some 5 from rfl) frt_5_8 (fun kk67 hkk67 rkk67 => ?_)
    have ekk67 : kk67 = 193 := by
      have p9 : gR w0 190 8 = 193 := hB 2 (by decide)
      have := (smW_tr (smW_tr (smW_tr (smW_tr (smW_tr (smW_tr (smW_tr (smW_tr sm (sm_pI (by decide) q43F q43X q43J q43Y q43R)) (sm_pI (by decide) q46F q46X q46J q46Y q46R)) (sm_pI (by decide) q49F q49X q49J q49Y q49R)) (sm_pI (by decide) q52F q52X q52J q52Y q52R)) (sm_pI (by decide) q55F q55X q55J q55Y q55R)) (sm_pI (by decide) q58F q58X q58J q58Y q58R)) (sm_cY (by decide) q62Y q62F q62X q62J q62R)) (sm_cX (by decide) q66X q66F q66J q66Y q66R)).2.2.2.2 190 8
      omega
    subst ekk67
    refine h_intv k_0 rfl ?_
    refine h_aload rfl l0 rfl ?_
    refine h_getT rfl o65 (show ztau 14 = some 5 from rfl) frt_5_8 (fun kk68 hkk68 rkk68 => ?_)
    have ekk68 : kk68 = 17 := by
      have p9 : gR w0 14 8 = 17 := hA 2 (by decide)
      have := (smW_tr (smW_tr (smW_tr (smW_tr (smW_tr (smW_tr (smW_tr (smW_tr sm (sm_pI (by decide) q43F q43X q43J q43Y q43R)) (sm_pI (by decide) q46F q46X q46J q46Y q46R)) (sm_pI (by decide) q49F q49X q49J q49Y q49R)) (sm_pI (by decide) q52F q52X q52J q52Y q52R)) (sm_pI (by decide) q55F q55X q55J q55Y q55R)) (sm_pI (by decide) q58F q58X q58J q58Y q58R)) (sm_cY (by decide) q62Y q62F q62X q62J q62R)) (sm_cX (by decide) q66X q66F q66J q66Y q66R)).2.2.2.2 14 8
      omega
    subst ekk68
    refine h_intv k_0 rfl ?_
    refine h_intv k_10 rfl ?_
    refine x_copyF rfl o65 (show ztau 193 = some 8 from rfl) (show ztau 17 = some 8 from rfl) ait_8 rfl rfl rfl rfl (fun w69 o69 q70a q70X q70F q70J q70Y q70R => ?_)
    refine h_aload rfl l0 rfl ?_
    refine h_getT rfl o69 (show ztau 190 = some 5 from rfl) frt_5_9 (fun kk71 hkk71 rkk71 => ?_)
    have ekk71 : kk71 = 194 := by
      have p9 : gR w0 190 9 = 194 := hB 3 (by decide)
      have := (smW_tr (smW_tr (smW_tr (smW_tr (smW_tr (smW_tr (smW_tr (smW_tr (smW_tr sm (sm_pI (by decide) q43F q43X q43J q43Y q43R)) (sm_pI (by decide) q46F q46X q46J q46Y q46R)) (sm_pI (by decide) q49F q49X q49J q49Y q49R)) (sm_pI (by decide) q52F q52X q52J q52Y q52R)) (sm_pI (by decide) q55F q55X q55J q55Y q55R)) (sm_pI (by decide) q58F q58X q58J q58Y q58R)) (sm_cY (by decide) q62Y q62F q62X q62J q62R)) (sm_cX (by decide) q66X q66F q66J q66Y q66R)) (sm_cX (by decide) q70X q70F q70J q70Y q70R)).2.2.2.2 190 9
      omega
    subst ekk71
    refine h_intv k_0 rfl ?_
    refine h_aload rfl l0 rfl ?_
    refine h_getT rfl o69 (show ztau 14 = some 5 from rfl) frt_5_9 (fun kk72 hkk72 rkk72 => ?_)
    have ekk72 : kk72 = 18 := by
      have p9 : gR w0 14 9 = 18 := hA 3 (by decide)
      have := (smW_tr (smW_tr (smW_tr (smW_tr (smW_tr (smW_tr (smW_tr (smW_tr (smW_tr sm (sm_pI (by decide) q43F q43X q43J q43Y q43R)) (sm_pI (by decide) q46F q46X q46J q46Y q46R)) (sm_pI (by decide) q49F q49X q49J q49Y q49R)) (sm_pI (by decide) q52F q52X q52J q52Y q52R)) (sm_pI (by decide) q55F q55X q55J q55Y q55R)) (sm_pI (by decide) q58F q58X q58J q58Y q58R)) (sm_cY (by decide) q62Y q62F q62X q62J q62R)) (sm_cX (by decide) q66X q66F q66J q66Y q66R)) (sm_cX (by decide) q70X q70F q70J q70Y q70R)).2.2.2.2 14 9
      omega
    subst ekk72
    refine h_intv k_0 rfl ?_
    refine h_intv k_10 rfl ?_
    refine x_copyF rfl o69 (show ztau 194 = some 9 from rfl) (show ztau 18 = some 9 from rfl) ait_9 rfl rfl rfl rfl (fun w73 o73 q74a q74X q74F q74J q74Y q74R => ?_)
    refine h_aload rfl l0 rfl ?_
    refine h_getT rfl o73 (show ztau 190 = some 5 from rfl) frt_5_10 (fun kk75 hkk75 rkk75 => ?_)
    have ekk75 : kk75 = 195 := by
      have p9 : gR w0 190 10 = 195 := hB 4 (by decide)
      have := (smW_tr (smW_tr (smW_tr (smW_tr (smW_tr (smW_tr (smW_tr (smW_tr (smW_tr (smW_tr sm (sm_pI (by decide) q43F q43X q43J q43Y q43R)) (sm_pI (by decide) q46F q46X q46J q46Y q46R)) (sm_pI (by decide) q49F q49X q49J q49Y q49R)) (sm_pI (by decide) q52F q52X q52J q52Y q52R)) (sm_pI (by decide) q55F q55X q55J q55Y q55R)) (sm_pI (by decide) q58F q58X q58J q58Y q58R)) (sm_cY (by decide) q62Y q62F q62X q62J q62R)) (sm_cX (by decide) q66X q66F q66J q66Y q66R)) (sm_cX (by decide) q70X q70F q70J q70Y q70R)) (sm_cX (by decide) q74X q74F q74J q74Y q74R)).2.2.2.2 190 10
      omega
    subst ekk75
    refine h_intv k_0 rfl ?_
    refine h_aload rfl l0 rfl ?_
    refine h_getT rfl o73 (show ztau 14 = some 5 from rfl) frt_5_10 (fun kk76 hkk76 rkk76 => ?_)
    have ekk76 : kk76 = 19 := by
      have p9 : gR w0 14 10 = 19 := hA 4 (by decide)
      have := (smW_tr (smW_tr (smW_tr (smW_tr (smW_tr (smW_tr (smW_tr (smW_tr (smW_tr (smW_tr sm (sm_pI (by decide) q43F q43X q43J q43Y q43R)) (sm_pI (by decide) q46F q46X q46J q46Y q46R)) (sm_pI (by decide) q49F q49X q49J q49Y q49R)) (sm_pI (by decide) q52F q52X q52J q52Y q52R)) (sm_pI (by decide) q55F q55X q55J q55Y q55R)) (sm_pI (by decide) q58F q58X q58J q58Y q58R)) (sm_cY (by decide) q62Y q62F q62X q62J q62R)) (sm_cX (by decide) q66X q66F q66J q66Y q66R)) (sm_cX (by decide) q70X q70F q70J q70Y q70R)) (sm_cX (by decide) q74X q74F q74J q74Y q74R)).2.2.2.2 14 10
      omega
    subst ekk76
    refine h_intv k_0 rfl ?_
    refine h_intv k_10 rfl ?_
    refine x_copyF rfl o73 (show ztau 195 = some 10 from rfl) (show ztau 19 = some 10 from rfl) ait_10 rfl rfl rfl rfl (fun w77 o77 q78a q78X q78F q78J q78Y q78R => ?_)
    refine h_aload rfl l0 rfl ?_
    refine h_getT rfl o77 (show ztau 190 = some 5 from rfl) frt_5_11 (fun kk79 hkk79 rkk79 => ?_)
    have ekk79 : kk79 = 196 := by
      have p9 : gR w0 190 11 = 196 := hB 5 (by decide)
      have := (smW_tr (smW_tr (smW_tr (smW_tr (smW_tr (smW_tr (smW_tr (smW_tr (smW_tr (smW_tr (smW_tr sm (sm_pI (by decide) q43F q43X q43J q43Y q43R)) (sm_pI (by decide) q46F q46X q46J q46Y q46R)) (sm_pI (by decide) q49F q49X q49J q49Y q49R)) (sm_pI (by decide) q52F q52X q52J q52Y q52R)) (sm_pI (by decide) q55F q55X q55J q55Y q55R)) (sm_pI (by decide) q58F q58X q58J q58Y q58R)) (sm_cY (by decide) q62Y q62F q62X q62J q62R)) (sm_cX (by decide) q66X q66F q66J q66Y q66R)) (sm_cX (by decide) q70X q70F q70J q70Y q70R)) (sm_cX (by decide) q74X q74F q74J q74Y q74R)) (sm_cX (by decide) q78X q78F q78J q78Y q78R)).2.2.2.2 190 11
      omega
    subst ekk79
    refine h_intv k_0 rfl ?_
    refine h_aload rfl l0 rfl ?_
    refine h_getT rfl o77 (show ztau 14 = some 5 from rfl) frt_5_11 (fun kk80 hkk80 rkk80 => ?_)
    have ekk80 : kk80 = 20 := by
      have p9 : gR w0 14 11 = 20 := hA 5 (by decide)
      have := (smW_tr (smW_tr (smW_tr (smW_tr (smW_tr (smW_tr (smW_tr (smW_tr (smW_tr (smW_tr (smW_tr sm (sm_pI (by decide) q43F q43X q43J q43Y q43R)) (sm_pI (by decide) q46F q46X q46J q46Y q46R)) (sm_pI (by decide) q49F q49X q49J q49Y q49R)) (sm_pI (by decide) q52F q52X q52J q52Y q52R)) (sm_pI (by decide) q55F q55X q55J q55Y q55R)) (sm_pI (by decide) q58F q58X q58J q58Y q58R)) (sm_cY (by decide) q62Y q62F q62X q62J q62R)) (sm_cX (by decide) q66X q66F q66J q66Y q66R)) (sm_cX (by decide) q70X q70F q70J q70Y q70R)) (sm_cX (by decide) q74X q74F q74J q74Y q74R)) (sm_cX (by decide) q78X q78F q78J q78Y q78R)).2.2.2.2 14 11
      omega
    subst ekk80
    refine h_intv k_0 rfl ?_
    refine h_intv k_36 rfl ?_
    refine x_copyF rfl o77 (show ztau 196 = some 11 from rfl) (show ztau 20 = some 11 from rfl) ait_11 rfl rfl rfl rfl (fun w81 o81 q82a q82X q82F q82J q82Y q82R => ?_)
    refine h_aload rfl l0 rfl ?_
    refine h_getT rfl o81 (show ztau 190 = some 5 from rfl) frt_5_12 (fun kk83 hkk83 rkk83 => ?_)
    have ekk83 : kk83 = 197 := by
      have p9 : gR w0 190 12 = 197 := hB 6 (by decide)
      have := (smW_tr (smW_tr (smW_tr (smW_tr (smW_tr (smW_tr (smW_tr (smW_tr (smW_tr (smW_tr (smW_tr (smW_tr sm (sm_pI (by decide) q43F q43X q43J q43Y q43R)) (sm_pI (by decide) q46F q46X q46J q46Y q46R)) (sm_pI (by decide) q49F q49X q49J q49Y q49R)) (sm_pI (by decide) q52F q52X q52J q52Y q52R)) (sm_pI (by decide) q55F q55X q55J q55Y q55R)) (sm_pI (by decide) q58F q58X q58J q58Y q58R)) (sm_cY (by decide) q62Y q62F q62X q62J q62R)) (sm_cX (by decide) q66X q66F q66J q66Y q66R)) (sm_cX (by decide) q70X q70F q70J q70Y q70R)) (sm_cX (by decide) q74X q74F q74J q74Y q74R)) (sm_cX (by decide) q78X q78F q78J q78Y q78R)) (sm_cX (by decide) q82X q82F q82J q82Y q82R)).2.2.2.2 190 12
      omega
    subst ekk83
    refine h_intv k_0 rfl ?_
    refine h_aload rfl l0 rfl ?_
    refine h_getT rfl o81 (show ztau 14 = some 5 from rfl) frt_5_12 (fun kk84 hkk84 rkk84 => ?_)
    have ekk84 : kk84 = 21 := by
      have p9 : gR w0 14 12 = 21 := hA 6 (by decide)
      have := (smW_tr (smW_tr (smW_tr (smW_tr (smW_tr (smW_tr (smW_tr (smW_tr (smW_tr (smW_tr (smW_tr (smW_tr sm (sm_pI (by decide) q43F q43X q43J q43Y q43R)) (sm_pI (by decide) q46F q46X q46J q46Y q46R)) (sm_pI (by decide) q49F q49X q49J q49Y q49R)) (sm_pI (by decide) q52F q52X q52J q52Y q52R)) (sm_pI (by decide) q55F q55X q55J q55Y q55R)) (sm_pI (by decide) q58F q58X q58J q58Y q58R)) (sm_cY (by decide) q62Y q62F q62X q62J q62R)) (sm_cX (by decide) q66X q66F q66J q66Y q66R)) (sm_cX (by decide) q70X q70F q70J q70Y q70R)) (sm_cX (by decide) q74X q74F q74J q74Y q74R)) (sm_cX (by decide) q78X q78F q78J q78Y q78R)) (sm_cX (by decide) q82X q82F q82J q82Y q82R)).2.2.2.2 14 12
      omega
    subst ekk84
    refine h_intv k_0 rfl ?_
    refine h_intv k_6 rfl ?_
    refine x_copyL rfl o81 aj_197 aj_21 rfl rfl rfl rfl (fun w85 o85 q86a q86Y q86F q86X q86J q86R => ?_)
    refine h_aload rfl l0 rfl ?_
    refine h_getT rfl o85 (show ztau 190 = some 5 from rfl) frt_5_13 (fun kk87 hkk87 rkk87 => ?_)
    have ekk87 : kk87 = 198 := by
      have p9 : gR w0 190 13 = 198 := hB 7 (by decide)
      have := (smW_tr (smW_tr (smW_tr (smW_tr (smW_tr (smW_tr (smW_tr (smW_tr (smW_tr (smW_tr (smW_tr (smW_tr (smW_tr sm (sm_pI (by decide) q43F q43X q43J q43Y q43R)) (sm_pI (by decide) q46F q46X q46J q46Y q46R)) (sm_pI (by decide) q49F q49X q49J q49Y q49R)) (sm_pI (by decide) q52F q52X q52J q52Y q52R)) (sm_pI (by decide) q55F q55X q55J q55Y q55R)) (sm_pI (by decide) q58F q58X q58J q58Y q58R)) (sm_cY (by decide) q62Y q62F q62X q62J q62R)) (sm_cX (by decide) q66X q66F q66J q66Y q66R)) (sm_cX (by decide) q70X q70F q70J q70Y q70R)) (sm_cX (by decide) q74X q74F q74J q74Y q74R)) (sm_cX (by decide) q78X q78F q78J q78Y q78R)) (sm_cX (by decide) q82X q82F q82J q82Y q82R)) (sm_cY (by decide) q86Y q86F q86X q86J q86R)).2.2.2.2 190 13
      omega
    subst ekk87
    refine h_intv k_0 rfl ?_
    refine h_aload rfl l0 rfl ?_
    refine h_getT rfl o85 (show ztau 14 = some 5 from rfl) frt_5_13 (fun kk88 hkk88 rkk88 => ?_)
    have ekk88 : kk88 = 22 := by
      have p9 : gR w0 14 13 = 22 := hA 7 (by decide)
      have := (smW_tr (smW_tr (smW_tr (smW_tr (smW_tr (smW_tr (smW_tr (smW_tr (smW_tr (smW_tr (smW_tr (smW_tr (smW_tr sm (sm_pI (by decide) q43F q43X q43J q43Y q43R)) (sm_pI (by decide) q46F q46X q46J q46Y q46R)) (sm_pI (by decide) q49F q49X q49J q49Y q49R)) (sm_pI (by decide) q52F q52X q52J q52Y q52R)) (sm_pI (by decide) q55F q55X q55J q55Y q55R)) (sm_pI (by decide) q58F q58X q58J q58Y q58R)) (sm_cY (by decide) q62Y q62F q62X q62J q62R)) (sm_cX (by decide) q66X q66F q66J q66Y q66R)) (sm_cX (by decide) q70X q70F q70J q70Y q70R)) (sm_cX (by decide) q74X q74F q74J q74Y q74R)) (sm_cX (by decide) q78X q78F q78J q78Y q78R)) (sm_cX (by decide) q82X q82F q82J q82Y q82R)) (sm_cY (by decide) q86Y q86F q86X q86J q86R)).2.2.2.2 14 13
      omega
    subst ekk88
    refine h_intv k_0 rfl ?_
    refine h_intv k_6 rfl ?_
    refine x_copyF rfl o85 (show ztau 198 = some 13 from rfl) (show ztau 22 = some 13 from rfl) ait_13 rfl rfl rfl rfl (fun w89 o89 q90a q90X q90F q90J q90Y q90R => ?_)
    refine h_aload rfl l0 rfl ?_
    refine h_getT rfl o89 (show ztau 190 = some 5 from rfl) frt_5_14 (fun kk91 hkk91 rkk91 => ?_)
    have ekk91 : kk91 = 199 := by
      have p9 : gR w0 190 14 = 199 := hB 8 (by decide)
      have := (smW_tr (smW_tr (smW_tr (smW_tr (smW_tr (smW_tr (smW_tr (smW_tr (smW_tr (smW_tr (smW_tr (smW_tr (smW_tr (smW_tr sm (sm_pI (by decide) q43F q43X q43J q43Y q43R)) (sm_pI (by decide) q46F q46X q46J q46Y q46R)) (sm_pI (by decide) q49F q49X q49J q49Y q49R)) (sm_pI (by decide) q52F q52X q52J q52Y q52R)) (sm_pI (by decide) q55F q55X q55J q55Y q55R)) (sm_pI (by decide) q58F q58X q58J q58Y q58R)) (sm_cY (by decide) q62Y q62F q62X q62J q62R)) (sm_cX (by decide) q66X q66F q66J q66Y q66R)) (sm_cX (by decide) q70X q70F q70J q70Y q70R)) (sm_cX (by decide) q74X q74F q74J q74Y q74R)) (sm_cX (by decide) q78X q78F q78J q78Y q78R)) (sm_cX (by decide) q82X q82F q82J q82Y q82R)) (sm_cY (by decide) q86Y q86F q86X q86J q86R)) (sm_cX (by decide) q90X q90F q90J q90Y q90R)).2.2.2.2 190 14
      omega
    subst ekk91
    refine h_intv k_0 rfl ?_
    refine h_aload rfl l0 rfl ?_
    refine h_getT rfl o89 (show ztau 14 = some 5 from rfl) frt_5_14 (fun kk92 hkk92 rkk92 => ?_)
    have ekk92 : kk92 = 23 := by
      have p9 : gR w0 14 14 = 23 := hA 8 (by decide)
      have := (smW_tr (smW_tr (smW_tr (smW_tr (smW_tr (smW_tr (smW_tr (smW_tr (smW_tr (smW_tr (smW_tr (smW_tr (smW_tr (smW_tr sm (sm_pI (by decide) q43F q43X q43J q43Y q43R)) (sm_pI (by decide) q46F q46X q46J q46Y q46R)) (sm_pI (by decide) q49F q49X q49J q49Y q49R)) (sm_pI (by decide) q52F q52X q52J q52Y q52R)) (sm_pI (by decide) q55F q55X q55J q55Y q55R)) (sm_pI (by decide) q58F q58X q58J q58Y q58R)) (sm_cY (by decide) q62Y q62F q62X q62J q62R)) (sm_cX (by decide) q66X q66F q66J q66Y q66R)) (sm_cX (by decide) q70X q70F q70J q70Y q70R)) (sm_cX (by decide) q74X q74F q74J q74Y q74R)) (sm_cX (by decide) q78X q78F q78J q78Y q78R)) (sm_cX (by decide) q82X q82F q82J q82Y q82R)) (sm_cY (by decide) q86Y q86F q86X q86J q86R)) (sm_cX (by decide) q90X q90F q90J q90Y q90R)).2.2.2.2 14 14
      omega
    subst ekk92
    refine h_intv k_0 rfl ?_
    refine h_intv k_6 rfl ?_
    refine x_copyF rfl o89 (show ztau 199 = some 14 from rfl) (show ztau 23 = some 14 from rfl) ait_14 rfl rfl rfl rfl (fun w93 o93 q94a q94X q94F q94J q94Y q94R => ?_)
    refine h_vret rfl ?_
    have S := smW_tr (smW_tr (smW_tr (smW_tr (smW_tr (smW_tr (smW_tr (smW_tr (smW_tr (smW_tr (smW_tr (smW_tr (smW_tr (smW_tr (smW_tr sm (sm_pI (by decide) q43F q43X q43J q43Y q43R)) (sm_pI (by decide) q46F q46X q46J q46Y q46R)) (sm_pI (by decide) q49F q49X q49J q49Y q49R)) (sm_pI (by decide) q52F q52X q52J q52Y q52R)) (sm_pI (by decide) q55F q55X q55J q55Y q55R)) (sm_pI (by decide) q58F q58X q58J q58Y q58R)) (sm_cY (by decide) q62Y q62F q62X q62J q62R)) (sm_cX (by decide) q66X q66F q66J q66Y q66R)) (sm_cX (by decide) q70X q70F q70J q70Y q70R)) (sm_cX (by decide) q74X q74F q74J q74Y q74R)) (sm_cX (by decide) q78X q78F q78J q78Y q78R)) (sm_cX (by decide) q82X q82F q82J q82Y q82R)) (sm_cY (by decide) q86Y q86F q86X q86J q86R)) (sm_cX (by decide) q90X q90F q90J q90Y q90R)) (sm_cX (by decide) q94X q94F q94J q94Y q94R)
    refine ⟨_, rfl, o93, fun f hf => ?_, fun j => (show gY _ 15 j = gY _ 191 j from by rw [q94Y 15 j, q90Y 15 j, q86Y 15 j (by decide), q82Y 15 j, q78Y 15 j, q74Y 15 j, q70Y 15 j, q66Y 15 j, q62a j, q58Y 191 j, q55Y 191 j, q52Y 191 j, q49Y 191 j, q46Y 191 j, q43Y 191 j]), fun j => (show gY _ 21 j = gY _ 197 j from by rw [q94Y 21 j, q90Y 21 j, q86a j, q82Y 197 j, q78Y 197 j, q74Y 197 j, q70Y 197 j, q66Y 197 j, q62Y 197 j (by decide), q58Y 197 j, q55Y 197 j, q52Y 197 j, q49Y 197 j, q46Y 197 j, q43Y 197 j]), fun c hc hn => ?_, fun c hc k hk => S.2.2.2.2 c (6 + k)⟩
    · rcases (by omega : f = 0 ∨ f = 1 ∨ f = 2 ∨ f = 3 ∨ f = 4) with rfl | rfl | rfl | rfl | rfl
      · rw [q94F 14 0, q90F 14 0, q86F 14 0, q82F 14 0, q78F 14 0, q74F 14 0, q70F 14 0, q66F 14 0, q62F 14 0, q58F 14 0 (by decide), q55F 14 0 (by decide), q52F 14 0 (by decide), q49F 14 0 (by decide), q46F 14 0 (by decide), q43a]
      · rw [q94F 14 1, q90F 14 1, q86F 14 1, q82F 14 1, q78F 14 1, q74F 14 1, q70F 14 1, q66F 14 1, q62F 14 1, q58F 14 1 (by decide), q55F 14 1 (by decide), q52F 14 1 (by decide), q49F 14 1 (by decide), q46a]
      · rw [q94F 14 2, q90F 14 2, q86F 14 2, q82F 14 2, q78F 14 2, q74F 14 2, q70F 14 2, q66F 14 2, q62F 14 2, q58F 14 2 (by decide), q55F 14 2 (by decide), q52F 14 2 (by decide), q49a]
      · rw [q94F 14 3, q90F 14 3, q86F 14 3, q82F 14 3, q78F 14 3, q74F 14 3, q70F 14 3, q66F 14 3, q62F 14 3, q58F 14 3 (by decide), q55F 14 3 (by decide), q52a]
      · rw [q94F 14 4, q90F 14 4, q86F 14 4, q82F 14 4, q78F 14 4, q74F 14 4, q70F 14 4, q66F 14 4, q62F 14 4, q58F 14 4 (by decide), q55a]
    · exact cp_E (a := 14) S hc hn (Or.inl rfl) (by decide) (by decide)
  obtain ⟨r, h3, w2, h4, h5⟩ := h_meth1 (nL := 2) rfl K
  rw [h4] at h3
  exact ⟨w2, h3, h5⟩
/-- which plan may be copied onto which -/
def cpO (a b : Nat) : Prop := (a = 14 ∧ (b = 167 ∨ b = 190)) ∨ ((a = 167 ∨ a = 190) ∧ b = 14)
theorem x_cp {kn : sKn} {w0 : sW} (hw : wOk ZZ w0) (hP : ∀ c, cpl c → plX w0 c) {a b : Nat} (h : cpO a b) : ∃ w', fX6_copyOf kn [.ref a, .ref b] w0 = some (none, w', 0, 0) ∧ hO dX6_copyOf w0 w' ∧ cpP w0 w' a b := by
  have p1 := hP 14 (Or.inl rfl)
  have p2 := hP 167 (Or.inr (Or.inl rfl))
  have p3 := hP 190 (Or.inr (Or.inr rfl))
  rcases h with ⟨rfl, rfl | rfl⟩ | ⟨rfl | rfl, rfl⟩
  · exact x_cp_14_167 hw p1 p2
  · exact x_cp_14_190 hw p1 p3
  · exact x_cp_167_14 hw p2 p1
  · exact x_cp_190_14 hw p3 p1
theorem az_103 : aZ 103 = some (60, 2) := by decide +kernel
theorem fr_gZ {D : List (Nat × Nat)} {w w' : sW} {c t n : Nat} (hw : wOk ZZ w) (o : hO D w w') (hf : aZ c = some (t, n)) (h : mIn D t 999 = false) (e : Nat) : gX w' c e = gX w c e := by
  obtain ⟨vs, q, k1, _, _, _, w1, _⟩ := aZ_ok (hO_rf (D := []) hw) hf
  have e3 := (o.2.2.1 c _ w1).2 t (show ZZ.2 c = some t from k1) (mIn_no h)
  unfold gX
  rw [e3, w1]
section HK4
variable {tbl : List (Nat × sA)} {Po : sR → Prop} {pc np : Nat} {lv ps : List (Nat × Value)} {st : List Value} {w w0 : sW} {D : List (Nat × Nat)} {kn : sKn}
/-- arrays of references of one type (kind 4) -/
def aA4t (t : Nat) : Option (Nat × Nat) := match aty ZZ t with
  | some q => match Nat.beq q.1 4 with
    | true => match q.2.2 with
      | (n, .inr t2) :: _ => match Nat.beq n q.2.1 with
        | true => some (n, t2)
        | false => none
      | _ => none
    | false => none
  | none => none
theorem h_aald4 {c t n t2 : Nat} {i : Int} (j : Nat) (ha : t_get tbl pc = some (a_aald np)) (ho : hO D w0 w) (hc : ztau c = some t) (hf : aA4t t = some (n, t2)) (hi : i = (j : Int)) (hj : j < n ∧ j < 1000) (g : ∀ k, ztau k = some t2 → Tp tbl Po np (lv, .ref k :: st, w, 0, 0)) : Tp tbl Po pc (lv, hI i :: .ref c :: st, w, 0, 0) := by
  subst hi
  unfold aA4t at hf
  split at hf
  · rename_i q hq
    split at hf
    · rename_i c1
      have c1 := Nat.eq_of_beq_eq_true c1
      split at hf
      · rename_i n' t' r e1
        split at hf
        · rename_i c2
          have c2 := Nat.eq_of_beq_eq_true c2
          cases hf
          obtain ⟨_, vs, w1, w2, w3⟩ := aty_ok ho.1 (show ZZ.2 c = some t from hc) hq
          have hl : j < vs.length := by omega
          obtain ⟨e, f1, z, f2, f3⟩ := w3 j _ (List.getElem?_eq_getElem hl)
          rw [e1] at f1
          have hb : Nat.blt j n = true := Nat.blt_eq.mpr hj.1
          have f0 : e = .inr t2 := by
            have f1 : (match Nat.blt j n with
              | true => some (Sum.inr t2)
              | false => sga r j) = some e := f1
            rw [hb] at f1
            cases f1
            rfl
          rw [f0] at f3
          obtain ⟨k, k1, k2⟩ := f3
          have f2 : vOk (akd q.1) z vs[j] := f2
          rw [c1] at f2
          obtain ⟨k', d1, d2⟩ := f2
          have ek : k' = k := by omega
          subst ek
          have e2 := ixN_hI (i := (j : Int)) (by omega) (by omega)
          rw [show (j : Int).toNat = j by omega] at e2
          have e3 : Nat.blt j 2147483648 = true := Nat.blt_eq.mpr (by omega)
          refine Tp_step ha (fun kk => ?_) (g k' k2)
          show a_aald np kk (lv, Value.int (Int32.ofInt (j : Int)) :: .ref c :: st, w, 0, 0) = _
          rw [c1] at w1
          simp only [a_aald, xg_eq, w1, e2, e3, List.getElem?_eq_getElem hl, d1]
          rfl
        · cases hf
      · cases hf
    · cases hf
  · cases hf
theorem x_aald4 {c t n t2 : Nat} {i : Int} (j : Nat) (ha : t_get tbl pc = some (a_aald np)) (ho : hO D w0 w) (hc : ztau c = some t) (hf : aA4t t = some (n, t2)) (hi : i = (j : Int)) (hj : j < n ∧ j < 1000) (g : ∀ k, ztau k = some t2 → gQa w c j = k → Tp tbl Po np (lv, .ref k :: st, w, 0, 0)) : Tp tbl Po pc (lv, hI i :: .ref c :: st, w, 0, 0) := by
  subst hi
  unfold aA4t at hf
  split at hf
  · rename_i q hq
    split at hf
    · rename_i c1
      have c1 := Nat.eq_of_beq_eq_true c1
      split at hf
      · rename_i n' t' r e1
        split at hf
        · rename_i c2
          have c2 := Nat.eq_of_beq_eq_true c2
          cases hf
          obtain ⟨_, vs, w1, w2, w3⟩ := aty_ok ho.1 (show ZZ.2 c = some t from hc) hq
          have hl : j < vs.length := by omega
          obtain ⟨e, f1, z, f2, f3⟩ := w3 j _ (List.getElem?_eq_getElem hl)
          rw [e1] at f1
          have hb : Nat.blt j n = true := Nat.blt_eq.mpr hj.1
          have f0 : e = .inr t2 := by
            have f1 : (match Nat.blt j n with
              | true => some (Sum.inr t2)
              | false => sga r j) = some e := f1
            rw [hb] at f1
            cases f1
            rfl
          rw [f0] at f3
          obtain ⟨k, k1, k2⟩ := f3
          have f2 : vOk (akd q.1) z vs[j] := f2
          rw [c1] at f2
          obtain ⟨k', d1, d2⟩ := f2
          have ek : k' = k := by omega
          subst ek
          have e2 := ixN_hI (i := (j : Int)) (by omega) (by omega)
          rw [show (j : Int).toNat = j by omega] at e2
          have e3 : Nat.blt j 2147483648 = true := Nat.blt_eq.mpr (by omega)
          rw [c1] at w1
          have eg : gQa w c j = k' := by
            unfold gQa
            rw [w1]
            dsimp only
            rw [List.getElem?_eq_getElem hl, d1]
          refine Tp_step ha (fun kk => ?_) (g k' k2 eg)
          show a_aald np kk (lv, Value.int (Int32.ofInt (j : Int)) :: .ref c :: st, w, 0, 0) = _
          simp only [a_aald, xg_eq, w1, e2, e3, List.getElem?_eq_getElem hl, d1]
          rfl
        · cases hf
      · cases hf
    · cases hf
  · cases hf
end HK4
section HK5
variable {tbl : List (Nat × sA)} {Po : sR → Prop} {pc np : Nat} {lv ps : List (Nat × Value)} {st : List Value} {w w0 : sW} {D : List (Nat × Nat)} {kn : sKn}
/-- arrays of references of one type (kind 5) -/
def aA5t (t : Nat) : Option (Nat × Nat) := match aty ZZ t with
  | some q => match Nat.beq q.1 5 with
    | true => match q.2.2 with
      | (n, .inr t2) :: _ => match Nat.beq n q.2.1 with
        | true => some (n, t2)
        | false => none
      | _ => none
    | false => none
  | none => none
theorem h_aald5 {c t n t2 : Nat} {i : Int} (j : Nat) (ha : t_get tbl pc = some (a_aald np)) (ho : hO D w0 w) (hc : ztau c = some t) (hf : aA5t t = some (n, t2)) (hi : i = (j : Int)) (hj : j < n ∧ j < 1000) (g : ∀ k, ztau k = some t2 → Tp tbl Po np (lv, .ref k :: st, w, 0, 0)) : Tp tbl Po pc (lv, hI i :: .ref c :: st, w, 0, 0) := by
  subst hi
  unfold aA5t at hf
  split at hf
  · rename_i q hq
    split at hf
    · rename_i c1
      have c1 := Nat.eq_of_beq_eq_true c1
      split at hf
      · rename_i n' t' r e1
        split at hf
        · rename_i c2
          have c2 := Nat.eq_of_beq_eq_true c2
          cases hf
          obtain ⟨_, vs, w1, w2, w3⟩ := aty_ok ho.1 (show ZZ.2 c = some t from hc) hq
          have hl : j < vs.length := by omega
          obtain ⟨e, f1, z, f2, f3⟩ := w3 j _ (List.getElem?_eq_getElem hl)
          rw [e1] at f1
          have hb : Nat.blt j n = true := Nat.blt_eq.mpr hj.1
          have f0 : e = .inr t2 := by
            have f1 : (match Nat.blt j n with
              | true => some (Sum.inr t2)
              | false => sga r j) = some e := f1
            rw [hb] at f1
            cases f1
            rfl
          rw [f0] at f3
          obtain ⟨k, k1, k2⟩ := f3
          have f2 : vOk (akd q.1) z vs[j] := f2
          rw [c1] at f2
          obtain ⟨k', d1, d2⟩ := f2
          have ek : k' = k := by omega
          subst ek
          have e2 := ixN_hI (i := (j : Int)) (by omega) (by omega)
          rw [show (j : Int).toNat = j by omega] at e2
          have e3 : Nat.blt j 2147483648 = true := Nat.blt_eq.mpr (by omega)
          refine Tp_step ha (fun kk => ?_) (g k' k2)
          show a_aald np kk (lv, Value.int (Int32.ofInt (j : Int)) :: .ref c :: st, w, 0, 0) = _
          rw [c1] at w1
          simp only [a_aald, xg_eq, w1, e2, e3, List.getElem?_eq_getElem hl, d1]
          rfl
        · cases hf
      · cases hf
    · cases hf
  · cases hf
end HK5
theorem aat_57 : aA4t 57 = some (2, 5) := by decide +kernel
theorem aat_59 : aA5t 59 = some (2, 22) := by decide +kernel
theorem aat_58 : aAt 58 = some (2, 15) := by decide +kernel
theorem fit_1_15 : fIt 1 12 15 = some (0, 8) := by decide +kernel
theorem frc_0_16 : fR 0 12 16 = some 100 := by decide +kernel
theorem frc_0_17 : fR 0 12 17 = some 101 := by decide +kernel
theorem frc_0_18 : fR 0 12 18 = some 102 := by decide +kernel
theorem frc_0_19 : fR 0 12 19 = some 103 := by decide +kernel
def dH_i7 : List (Nat × Nat) := dX6_copyOf ++ dX8_copyOf ++ dX7_copyOf
theorem dH_i76 : msub dX6_copyOf dH_i7 = true := by decide +kernel
theorem dH_r76 : msub dX6_copyOf dX11_restore = true := by decide +kernel
theorem dH_i78 : msub dX8_copyOf dH_i7 = true := by decide +kernel
theorem dH_r78 : msub dX8_copyOf dX11_restore = true := by decide +kernel
theorem dH_i77 : msub dX7_copyOf dH_i7 = true := by decide +kernel
theorem dH_r77 : msub dX7_copyOf dX11_restore = true := by decide +kernel
theorem dH_i7i : msub dH_i7 dX11_image = true := by decide +kernel
/-- where the images' plans lie -/
def pA (w : sW) : Prop := gQa w 100 0 = 167 ∧ gQa w 100 1 = 190
def fl2 (w w' : sW) (c : Nat) : Prop := gX w' c 0 = gX w c 0 ∧ gX w' c 1 = gX w c 1
/-- one of two flags is set, the other stays -/
def fl1 (w w' : sW) (c : Nat) (n : Nat) : Prop := gX w' c n = 1 ∧ gX w' c (1 - n) = gX w c (1 - n)
theorem pA_n {w : sW} (h : pA w) {n : Nat} (hn : n ≤ 1) : gQa w 100 n = 167 + 23 * n := by
  rcases (by omega : n = 0 ∨ n = 1) with rfl | rfl
  · exact h.1
  · exact h.2
theorem cpl_n {n : Nat} (hn : n ≤ 1) : cpl (167 + 23 * n) := by
  rcases (by omega : n = 0 ∨ n = 1) with rfl | rfl
  · exact Or.inr (Or.inl rfl)
  · exact Or.inr (Or.inr rfl)
theorem cpO_i {n : Nat} (hn : n ≤ 1) : cpO (167 + 23 * n) 14 := by
  rcases (by omega : n = 0 ∨ n = 1) with rfl | rfl
  · exact Or.inr ⟨Or.inl rfl, rfl⟩
  · exact Or.inr ⟨Or.inr rfl, rfl⟩
theorem cpO_r {n : Nat} (hn : n ≤ 1) : cpO 14 (167 + 23 * n) := by
  rcases (by omega : n = 0 ∨ n = 1) with rfl | rfl
  · exact Or.inl ⟨rfl, Or.inl rfl⟩
  · exact Or.inl ⟨rfl, Or.inr rfl⟩
theorem im8_b {kn : sKn} {w0 : sW} (hw : wOk ZZ w0) (hP : ∀ c, cpl c → plX w0 c) (hA : pA w0) {n : Nat} (hn : n ≤ 1) (lv : List (Nat × Value)) (l0 : hL lv [(0, .ref 0), (1, hI (n : Int))]) : Tp (tX11_image kn) (fun r => ∃ (w' : sW) (b : Int), r = (some (hI b), w', 0, 0) ∧ hO dX11_image w0 w' ∧ ((b = 0 ∧ ((n : Int) < 0 ∨ 1 < (n : Int)) ∧ fl2 w0 w' 103 ∧ pkC w0 w') ∨ (b = 1 ∧ ∃ e : Nat, e ≤ 1 ∧ (n : Int) = (e : Int) ∧ fl1 w0 w' 103 e ∧ cpP w0 w' (167 + 23 * e) 14))) 11 (lv, [], w0, 0, 0) := by
  have o0 : hO dH_i7 w0 w0 := hO_rf hw
  refine h_aload rfl l0 rfl ?_
  refine h_getR rfl o0 frc_0_16 ?_
  refine h_iload rfl l0 rfl ?_
  refine x_aald4 (n) rfl o0 (show ztau 100 = some 57 from rfl) aat_57 (by omega) (by omega) (fun k41 hk41 gk41 => ?_)
  refine h_aload rfl l0 rfl ?_
  refine h_getR rfl o0 frc_0_2 ?_
  have ek : k41 = 167 + 23 * n := gk41.symm.trans (pA_n hA hn)
  subst ek
  obtain ⟨wc6, hf42, oc6', cp6⟩ := x_cp (kn := kn) o0.1 hP (cpO_i hn)
  have oc6 : hO dH_i7 w0 wc6 := hO_tr o0 (hO_mono dH_i76 oc6')
  refine h_W2 rfl o0 l0 (cI_of hk41 cit_5) rfl rfl hf42 ?_
  refine h_aload rfl l0 rfl ?_
  refine h_getR rfl oc6 frc_0_17 ?_
  refine h_iload rfl l0 rfl ?_
  refine h_aaldT (n) rfl oc6 (show ztau 101 = some 58 from rfl) aat_58 (by omega) (by omega) (fun k43 hk43 => ?_)
  refine h_aload rfl l0 rfl ?_
  refine h_getR rfl oc6 frc_0_3 ?_
  obtain ⟨wc8, hf44, oc8'⟩ := s_copy8 (kn := kn) oc6.1 hk43 (show ztau 24 = some 15 from rfl)
  have oc8 : hO dH_i7 w0 wc8 := hO_tr oc6 (hO_mono dH_i78 oc8')
  refine h_W2 rfl oc6 l0 (cI_of hk43 cit_15) rfl rfl hf44 ?_
  refine h_aload rfl l0 rfl ?_
  refine h_getR rfl oc8 frc_0_18 ?_
  refine h_iload rfl l0 rfl ?_
  refine h_aald5 (n) rfl oc8 (show ztau 102 = some 59 from rfl) aat_59 (by omega) (by omega) (fun k45 hk45 => ?_)
  refine h_aload rfl l0 rfl ?_
  refine h_getT rfl oc8 (show ztau 0 = some 1 from rfl) frt_1_4 (fun k46 hk46 rk46 => ?_)
  obtain ⟨wc7, hf47, oc7'⟩ := s_copy7 (kn := kn) oc8.1 hk45 hk46
  have oc7 : hO dH_i7 w0 wc7 := hO_tr oc8 (hO_mono dH_i77 oc7')
  refine h_W2 rfl oc8 l0 (cI_of hk45 cit_22) rfl rfl hf47 ?_
  refine h_aload rfl l0 rfl ?_
  refine h_getR rfl oc7 frc_0_19 ?_
  refine h_iload rfl l0 rfl ?_
  refine h_intv k_1 rfl ?_
  have e1 : fl2 w0 wc7 103 := ⟨fr_gZ hw oc7 az_103 (by decide +kernel) 0, fr_gZ hw oc7 az_103 (by decide +kernel) 1⟩
  have oD : hO dX11_image w0 wc7 := hO_mono dH_i7i oc7
  refine h_bast (D := [(60, 999)]) n (Or.inr rfl) rfl (hO_rf oc7.1) az_103 rfl rfl (by omega) (by omega) (fun w9 o9 q9a q9b q9c => ?_)
  refine h_intv k_1 rfl ?_
  refine h_zret (by omega) rfl ?_
  have p9 := pkC_tr (pkC_tr (pkC_hO oc6.1 oc8' (by decide +kernel)) (pkC_hO oc8.1 oc7' (by decide +kernel))) (pkC_hO oc7.1 o9 (by decide +kernel))
  refine ⟨_, _, rfl, hO_tr oD (hO_mono (by decide +kernel) o9), Or.inr ⟨rfl, n, hn, rfl, ⟨q9a, ?_⟩, cpP_pk (cpl_n hn) cp6 p9⟩⟩
  rw [q9b 103 (1 - n) (fun _ => by omega)]
  rcases (by omega : n = 0 ∨ n = 1) with rfl | rfl
  · exact e1.2
  · exact e1.1
theorem x_imageC {kn : sKn} {w0 : sW} (hw : wOk ZZ w0) (hP : ∀ c, cpl c → plX w0 c) (hA : pA w0) (x : Int) (hx : R32 x) : ∃ (w' : sW) (b : Int), fX11_image kn [.ref 0, hI x] w0 = some (some (hI b), w', 0, 0) ∧ hO dX11_image w0 w' ∧ ((b = 0 ∧ (x < 0 ∨ 1 < x) ∧ fl2 w0 w' 103 ∧ pkC w0 w') ∨ (b = 1 ∧ ∃ e : Nat, e ≤ 1 ∧ x = (e : Int) ∧ fl1 w0 w' 103 e ∧ cpP w0 w' (167 + 23 * e) 14)) := by
  have hx1 := hx.1
  have hx2 := hx.2
  have K : Tp (tX11_image kn) (fun r => ∃ (w' : sW) (b : Int), r = (some (hI b), w', 0, 0) ∧ hO dX11_image w0 w' ∧ ((b = 0 ∧ (x < 0 ∨ 1 < x) ∧ fl2 w0 w' 103 ∧ pkC w0 w') ∨ (b = 1 ∧ ∃ e : Nat, e ≤ 1 ∧ x = (e : Int) ∧ fl1 w0 w' 103 e ∧ cpP w0 w' (167 + 23 * e) 14))) 0 (lv_args 0 [.ref 0, hI x], [], w0, 0, 0) := by
    have l0 : hL (lv_args 0 [.ref 0, hI x]) (lv_args 0 [.ref 0, hI x]) := ⟨fun _ _ h => h, fun q hq => by
      rcases List.mem_cons.mp hq with e | hq
      · rw [e]
        exact ⟨rfl, rfl⟩
      rcases List.mem_cons.mp hq with e | hq
      · rw [e]
        exact ⟨rfl, rfl⟩
      cases hq⟩
    have o0 : hO dH_i7 w0 w0 := hO_rf hw
    refine h_iload rfl l0 rfl ?_
    refine j_lt (kn := kn) (t := 2) (tgt := 9) (np := 4) rfl (by unfold R32; omega) (fun e41 => ?_) (fun e41 => ?_)
    · refine h_intv k_0 rfl ?_
      refine h_zret (by omega) rfl ?_
      exact ⟨_, _, rfl, hO_rf hw, Or.inl ⟨rfl, by omega, ⟨rfl, rfl⟩, pkC_rf w0⟩⟩
    · refine h_iload rfl l0 rfl ?_
      refine h_intv k_2 rfl ?_
      refine i_lt (kn := kn) (t := 2) (tgt := 11) (np := 9) rfl (by unfold R32; omega) (by unfold R32; omega) (fun e42 => ?_) (fun e42 => ?_)
      · obtain ⟨n, hn⟩ : ∃ n : Nat, x = (n : Int) := ⟨x.toNat, by omega⟩
        subst hn
        exact im8_b hw hP hA (n := n) (by omega) _ l0
      · refine h_intv k_0 rfl ?_
        refine h_zret (by omega) rfl ?_
        exact ⟨_, _, rfl, hO_rf hw, Or.inl ⟨rfl, by omega, ⟨rfl, rfl⟩, pkC_rf w0⟩⟩
  obtain ⟨r, h1, w2, b, h2, h3⟩ := h_meth1 (nL := 2) rfl K
  rw [h2] at h1
  exact ⟨w2, b, h1, h3⟩
theorem rt8_b {kn : sKn} {w0 : sW} (hw : wOk ZZ w0) (hP : ∀ c, cpl c → plX w0 c) (hA : pA w0) {n : Nat} (hn : n ≤ 1) (hg : gX w0 103 n = 1) (lv : List (Nat × Value)) (l0 : hL lv [(0, .ref 0), (1, hI (n : Int))]) : Tp (tX11_restore kn) (fun r => ∃ (w' : sW) (b : Int), r = (some (hI b), w', 0, 0) ∧ hO dX11_restore w0 w' ∧ ((b = 0 ∧ ((n : Int) < 0 ∨ 1 < (n : Int) ∨ ((n : Int) = 0 ∧ gX w0 103 0 = 0) ∨ ((n : Int) = 1 ∧ gX w0 103 1 = 0)) ∧ pkC w0 w') ∨ (b = 1 ∧ ∃ e : Nat, e ≤ 1 ∧ (n : Int) = (e : Int) ∧ gX w0 103 e = 1 ∧ cpP w0 w' 14 (167 + 23 * e)))) 20 (lv, [], w0, 0, 0) := by
  have o0 : hO dX11_restore w0 w0 := hO_rf hw
  refine h_aload rfl l0 rfl ?_
  refine h_getR rfl o0 frc_0_2 ?_
  refine h_aload rfl l0 rfl ?_
  refine h_getR rfl o0 frc_0_16 ?_
  refine h_iload rfl l0 rfl ?_
  refine x_aald4 (n) rfl o0 (show ztau 100 = some 57 from rfl) aat_57 (by omega) (by omega) (fun k41 hk41 gk41 => ?_)
  have ek : k41 = 167 + 23 * n := gk41.symm.trans (pA_n hA hn)
  subst ek
  obtain ⟨wc6, hf42, oc6', cp6⟩ := x_cp (kn := kn) o0.1 hP (cpO_r hn)
  have oc6 : hO dX11_restore w0 wc6 := hO_tr o0 (hO_mono dH_r76 oc6')
  refine h_W2 rfl o0 l0 (cI_of (show ztau 14 = some 5 from rfl) cit_5) rfl rfl hf42 ?_
  refine h_aload rfl l0 rfl ?_
  refine h_getR rfl oc6 frc_0_3 ?_
  refine h_aload rfl l0 rfl ?_
  refine h_getR rfl oc6 frc_0_17 ?_
  refine h_iload rfl l0 rfl ?_
  refine h_aaldT (n) rfl oc6 (show ztau 101 = some 58 from rfl) aat_58 (by omega) (by omega) (fun k43 hk43 => ?_)
  obtain ⟨wc8, hf44, oc8'⟩ := s_copy8 (kn := kn) oc6.1 (show ztau 24 = some 15 from rfl) hk43
  have oc8 : hO dX11_restore w0 wc8 := hO_tr oc6 (hO_mono dH_r78 oc8')
  refine h_W2 rfl oc6 l0 (cI_of (show ztau 24 = some 15 from rfl) cit_15) rfl rfl hf44 ?_
  refine h_aload rfl l0 rfl ?_
  refine h_getT rfl oc8 (show ztau 0 = some 1 from rfl) frt_1_4 (fun k45 hk45 rk45 => ?_)
  refine h_aload rfl l0 rfl ?_
  refine h_getR rfl oc8 frc_0_18 ?_
  refine h_iload rfl l0 rfl ?_
  refine h_aald5 (n) rfl oc8 (show ztau 102 = some 59 from rfl) aat_59 (by omega) (by omega) (fun k46 hk46 => ?_)
  obtain ⟨wc7, hf47, oc7'⟩ := s_copy7 (kn := kn) oc8.1 hk45 hk46
  have oc7 : hO dX11_restore w0 wc7 := hO_tr oc8 (hO_mono dH_r77 oc7')
  refine h_W2 rfl oc8 l0 (cI_of hk45 cit_22) rfl rfl hf47 ?_
  refine h_aload rfl l0 rfl ?_
  refine h_intv k_0 rfl ?_
  refine h_putI (D := [(1, 15)]) rfl (hO_rf oc7.1) (fI_of (show ztau 0 = some 1 from rfl) fit_1_15) rfl (by omega) (by omega) (fun w9 o9 q49a q49b q49c => ?_)
  refine h_intv k_1 rfl ?_
  refine h_zret (by omega) rfl ?_
  have p9 := pkC_tr (pkC_tr (pkC_hO oc6.1 oc8' (by decide +kernel)) (pkC_hO oc8.1 oc7' (by decide +kernel))) (pkC_hO oc7.1 o9 (by decide +kernel))
  exact ⟨_, _, rfl, hO_tr oc7 (hO_mono (by decide +kernel) o9), Or.inr ⟨rfl, n, hn, rfl, hg, cpP_pk (Or.inl rfl) cp6 p9⟩⟩
theorem x_restoreC {kn : sKn} {w0 : sW} (hw : wOk ZZ w0) (hP : ∀ c, cpl c → plX w0 c) (hA : pA w0) (x : Int) (hx : R32 x) : ∃ (w' : sW) (b : Int), fX11_restore kn [.ref 0, hI x] w0 = some (some (hI b), w', 0, 0) ∧ hO dX11_restore w0 w' ∧ ((b = 0 ∧ (x < 0 ∨ 1 < x ∨ (x = 0 ∧ gX w0 103 0 = 0) ∨ (x = 1 ∧ gX w0 103 1 = 0)) ∧ pkC w0 w') ∨ (b = 1 ∧ ∃ e : Nat, e ≤ 1 ∧ x = (e : Int) ∧ gX w0 103 e = 1 ∧ cpP w0 w' 14 (167 + 23 * e))) := by
  have hx1 := hx.1
  have hx2 := hx.2
  have K : Tp (tX11_restore kn) (fun r => ∃ (w' : sW) (b : Int), r = (some (hI b), w', 0, 0) ∧ hO dX11_restore w0 w' ∧ ((b = 0 ∧ (x < 0 ∨ 1 < x ∨ (x = 0 ∧ gX w0 103 0 = 0) ∨ (x = 1 ∧ gX w0 103 1 = 0)) ∧ pkC w0 w') ∨ (b = 1 ∧ ∃ e : Nat, e ≤ 1 ∧ x = (e : Int) ∧ gX w0 103 e = 1 ∧ cpP w0 w' 14 (167 + 23 * e)))) 0 (lv_args 0 [.ref 0, hI x], [], w0, 0, 0) := by
    have l0 : hL (lv_args 0 [.ref 0, hI x]) (lv_args 0 [.ref 0, hI x]) := ⟨fun _ _ h => h, fun q hq => by
      rcases List.mem_cons.mp hq with e | hq
      · rw [e]
        exact ⟨rfl, rfl⟩
      rcases List.mem_cons.mp hq with e | hq
      · rw [e]
        exact ⟨rfl, rfl⟩
      cases hq⟩
    have o0 : hO dX11_restore w0 w0 := hO_rf hw
    refine h_iload rfl l0 rfl ?_
    refine j_lt (kn := kn) (t := 2) (tgt := 18) (np := 4) rfl (by unfold R32; omega) (fun e41 => ?_) (fun e41 => ?_)
    · refine h_intv k_0 rfl ?_
      refine h_zret (by omega) rfl ?_
      exact ⟨_, _, rfl, o0, Or.inl ⟨rfl, by omega, pkC_rf w0⟩⟩
    · refine h_iload rfl l0 rfl ?_
      refine h_intv k_2 rfl ?_
      refine i_ge (kn := kn) (t := 3) (tgt := 18) (np := 9) rfl (by unfold R32; omega) (by unfold R32; omega) (fun e42 => ?_) (fun e42 => ?_)
      · refine h_intv k_0 rfl ?_
        refine h_zret (by omega) rfl ?_
        exact ⟨_, _, rfl, o0, Or.inl ⟨rfl, by omega, pkC_rf w0⟩⟩
      · refine h_aload rfl l0 rfl ?_
        refine h_getR rfl o0 frc_0_19 ?_
        refine h_iload rfl l0 rfl ?_
        obtain ⟨n, hn⟩ : ∃ n : Nat, x = (n : Int) := ⟨x.toNat, by omega⟩
        subst hn
        refine h_bald n rfl o0 az_103 rfl rfl (by omega) (fun c1 c2 => ?_)
        have n01 : n = 0 ∨ n = 1 := by omega
        refine j_ne (kn := kn) (t := 1) (tgt := 20) (np := 18) rfl (by unfold R32; omega) (fun e => ?_) (fun e => ?_)
        · exact rt8_b hw hP hA (n := n) (by omega) (by omega) _ l0
        · refine h_intv k_0 rfl ?_
          refine h_zret (by omega) rfl ?_
          refine ⟨_, _, rfl, o0, Or.inl ⟨rfl, ?_, pkC_rf w0⟩⟩
          rcases n01 with rfl | rfl
          · exact Or.inr (Or.inr (Or.inl ⟨rfl, by omega⟩))
          · exact Or.inr (Or.inr (Or.inr ⟨rfl, by omega⟩))
  obtain ⟨r, h1, w2, b, h2, h3⟩ := h_meth1 (nL := 2) rfl K
  rw [h2] at h1
  exact ⟨w2, b, h1, h3⟩
theorem pkC_sm {E : List (Nat × Nat × Nat)} {w w' : sW} (S : smW E w w') (h : ∀ q ∈ E, (q.1 = 0 → q.2.1 ≠ 14 ∧ q.2.1 ≠ 167 ∧ q.2.1 ≠ 190) ∧ (q.1 = 3 → (q.2.1 ≠ 15 ∧ q.2.1 ≠ 21 ∧ q.2.1 ≠ 168) ∧ q.2.1 ≠ 174 ∧ q.2.1 ≠ 191 ∧ q.2.1 ≠ 197)) : pkC w w' := by
  refine ⟨fun c hc => ⟨fun f _ => S.1 c f (fun e => ?_), fun j => S.2.2.2.1 (c + 1) j (fun e => ?_), fun j => S.2.2.2.1 (c + 7) j (fun e => ?_)⟩, fun c _ k _ => S.2.2.2.2 c (6 + k)⟩
  · have h1 : c ≠ 14 ∧ c ≠ 167 ∧ c ≠ 190 := (h _ e).1 rfl
    rcases hc with rfl | rfl | rfl <;> omega
  · have h1 : (c + 1 ≠ 15 ∧ c + 1 ≠ 21 ∧ c + 1 ≠ 168) ∧ c + 1 ≠ 174 ∧ c + 1 ≠ 191 ∧ c + 1 ≠ 197 := (h _ e).2 rfl
    rcases hc with rfl | rfl | rfl <;> omega
  · have h1 : (c + 7 ≠ 15 ∧ c + 7 ≠ 21 ∧ c + 7 ≠ 168) ∧ c + 7 ≠ 174 ∧ c + 7 ≠ 191 ∧ c + 7 ≠ 197 := (h _ e).2 rfl
    rcases hc with rfl | rfl | rfl <;> omega
theorem pkC_pI {w w' : sW} {c k : Nat} (hn : c ≠ 14 ∧ c ≠ 167 ∧ c ≠ 190) (hF : ∀ c' k', (c' = c → k' ≠ k) → gF w' c' k' = gF w c' k') (hY : ∀ c' j, gY w' c' j = gY w c' j) (hR : smR w w') : pkC w w' := ⟨fun c' hc => ⟨fun f _ => hF c' f (fun e => by
  subst e
  rcases hc with rfl | rfl | rfl <;> omega), fun j => hY _ j, fun j => hY _ j⟩, fun c' _ f _ => hR c' (6 + f)⟩
/-- a plan that was just read, in cell 14 -/
def plN (R N : Nat → Int) (w : sW) : Prop := (gF w 14 0 = R 0 ∧ gF w 14 2 = R 1 ∧ gF w 14 3 = R 2 ∧ gF w 14 4 = R 3 ∧ gF w 14 1 = R 4) ∧ (∀ s : Nat, (s : Int) < R 1 → gY w 15 s = Int64.ofInt (c32 7 (N s)) ∧ 0 ≤ N s ∧ N s < 27 ^ 7) ∧ (∀ l : Nat, (l : Int) < R 2 → gY w 21 l = Int64.ofInt (c32 7 (N (10 + l))) ∧ 0 ≤ N (10 + l) ∧ N (10 + l) < 27 ^ 7)
def brC (r : zE ⊕ (Int × zZ)) (w w' : sW) : Prop := match r with
  | .inl _ => pkC w w'
  | .inr q => plN q.2.2.1 q.2.2.2.1 w' ∧ (∀ c, cpl c → c ≠ 14 → pkP w w' c) ∧ rkP w w'
theorem brC_l (e : zE) (w w' : sW) : brC (.inl e) w w' = pkC w w' := rfl
theorem brC_r (q : Int × zZ) (w w' : sW) : brC (.inr q) w w' = (plN q.2.2.1 q.2.2.2.1 w' ∧ (∀ c, cpl c → c ≠ 14 → pkP w w' c) ∧ rkP w w') := rfl
theorem x_bridgeC {kn : sKn} {w0 : sW} {B : Nat → Int} {n : Nat} (N : Nat → Int) (hw : wOk ZZ w0) (hP : pl4 w0) (h14 : plX w0 14) (hB : ∀ i, i < n → gX w0 2 i = B i) (hn1 : gF w0 1 1 = (n : Int)) (hn940 : n ≤ 940) : ∃ (w' : sW) (v : Int), fX11_bridge kn [.ref 0] w0 = some (some (hI v), w', 0, 0) ∧ hO dX11_bridge w0 w' ∧ v = zAns (zBridge B n 900 N) ∧ R32 v ∧ brC (zBridge B n 900 N) w0 w' := by
  have K : Tp (tX11_bridge kn) (fun r => ∃ (w' : sW) (v : Int), r = (some (hI v), w', 0, 0) ∧ hO dX11_bridge w0 w' ∧ v = zAns (zBridge B n 900 N) ∧ R32 v ∧ brC (zBridge B n 900 N) w0 w') 0 (lv_args 0 [.ref 0], [], w0, 0, 0) := by
    have l0 : hL (lv_args 0 [.ref 0]) (lv_args 0 [.ref 0]) := hL_ex rfl
    have o0 : hO dX11_bridge w0 w0 := hO_rf hw
    refine h_aload rfl l0 rfl ?_
    refine h_getR rfl o0 nfr_0_1 ?_
    refine h_aload rfl l0 rfl ?_
    refine h_getR rfl o0 nfr_0_0 ?_
    obtain ⟨wR, bR, hf41, oR', sR, zR⟩ := x_read (kn := kn) N o0.1 hP hB hn1 hn940
    have oR := hO_tr o0 (hO_mono nm_dBT oR')
    have bR1 := zOK_01 zR
    refine h_V2 rfl o0 l0 ci_3 rfl rfl hf41 ?_
    refine h_istore rfl l0 (fun vl42 l42 => ?_)
    refine h_aload rfl l42 rfl ?_
    refine h_getR rfl oR nfr_0_0 ?_
    refine h_intv k_0 rfl ?_
    refine x_putI rfl oR fi_1_1 rfl (by omega) (by omega) (fun w43 o43 q44a q44F q44X q44J q44Y q44R => ?_)
    refine h_iload rfl l42 rfl ?_
    refine j_ne (kn := kn) (t := 1) (tgt := 34) (np := 24) rfl (by unfold R32; omega) (fun e45 => ?_) (fun e45 => ?_)
    · refine h_aload rfl l42 rfl ?_
      refine h_getR rfl o43 nfr_0_2 ?_
      refine h_aload rfl l42 rfl ?_
      refine h_getR rfl o43 nfr_0_1 ?_
      refine h_getR rfl o43 fr_3_0 ?_
      obtain ⟨wn_copyOf46, hf46, on_copyOf46', cp46⟩ := x_cp_14_4 (kn := kn) o43.1 (fun k hk => ((q44R 14 (6 + k)).trans (sR.2.2.2.2 14 (6 + k))).trans (h14 k hk)) (fun k hk => ((q44R 4 (6 + k)).trans (sR.2.2.2.2 4 (6 + k))).trans (plX_4 hP k hk))
      have on_copyOf46 := hO_tr o43 (hO_mono nm_dX6_copyOf on_copyOf46')
      refine h_W2 rfl o43 l42 nci_14 rfl rfl hf46 ?_
      refine h_aload rfl l42 rfl ?_
      refine h_getR rfl on_copyOf46 nfr_0_3 ?_
      refine h_aload rfl l42 rfl ?_
      refine h_getR rfl on_copyOf46 nfr_0_2 ?_
      obtain ⟨wn_begin47, hf47, on_begin47'⟩ := n_begin (kn := kn) on_copyOf46.1 (show ztau 24 = some 15 from rfl) (show ztau 14 = some 5 from rfl)
      have on_begin47 := hO_tr on_copyOf46 (hO_mono nm_dX8_begin on_begin47')
      refine h_W2 rfl on_copyOf46 l42 nci_24 rfl rfl hf47 ?_
      refine h_aload rfl l42 rfl ?_
      refine h_getT rfl on_begin47 (show ztau 0 = some 1 from rfl) frt_1_4 (fun kS hkS rkS => ?_)
      obtain ⟨wn_forget48, hf48, on_forget48'⟩ := n_forget (kn := kn) on_begin47.1 hkS
      have on_forget48 := hO_tr on_begin47 (hO_mono nm_dX7_forget on_forget48')
      refine h_W1 rfl on_begin47 l42 (cI_of hkS cit_22) rfl rfl hf48 ?_
      refine h_aload rfl l42 rfl ?_
      refine h_intv k_0 rfl ?_
      refine x_putI rfl on_forget48 nfi_0_15 rfl (by omega) (by omega) (fun w49 o49 q50a q50F q50X q50J q50Y q50R => ?_)
      refine h_aload rfl l42 rfl ?_
      refine h_getR rfl o49 nfr_0_1 ?_
      refine h_getI rfl o49 fi_3_1 (fun b51a b51b => ?_)
      rw [q50F 3 1 (by decide), fr_gF on_forget48'.2 rfl rfl on_begin47.1 (by decide), fr_gF on_begin47'.2 rfl rfl on_copyOf46.1 (by decide), fr_gF on_copyOf46'.2 rfl rfl o43.1 (by decide), q44F 3 1 (by decide)] at b51a b51b ⊢
      refine h_iret rfl ?_
      obtain ⟨q, e1, e2⟩ := zOK_1 zR (by omega)
      have pk0 : pkC w0 w43 := pkC_tr (pkC_sm sR (by decide)) (pkC_pI (c := 1) (by decide) q44F q44Y q44R)
      have p9 : pkC wn_copyOf46 w49 := pkC_tr (pkC_tr (pkC_hO on_copyOf46.1 on_begin47' (by decide +kernel)) (pkC_hO on_begin47.1 on_forget48' (by decide +kernel))) (pkC_pI (c := 0) (by decide) q50F q50Y q50R)
      obtain ⟨c1, c2, c3, c4, c5⟩ := cpP_pk (Or.inl rfl) cp46 p9
      obtain ⟨_, ⟨⟨n1, n2⟩, n3, n4⟩, ⟨m0, m1, m4, _⟩, _⟩ := e2.2
      refine ⟨_, _, rfl, o49, by rw [e1]; exact e2.1, by unfold R32; omega, ?_⟩
      rw [e1, brC_r]
      refine ⟨⟨⟨((c1 0 (by decide)).trans (q44F 4 0 (by decide))).trans m0, ((c1 2 (by decide)).trans (q44F 4 2 (by decide))).trans n1, ((c1 3 (by decide)).trans (q44F 4 3 (by decide))).trans n2, ((c1 4 (by decide)).trans (q44F 4 4 (by decide))).trans m4, ((c1 1 (by decide)).trans (q44F 4 1 (by decide))).trans m1⟩, fun s hs => ?_, fun s hs => ?_⟩, fun c hc hn => pkP_tr (pk0.1 c hc) (c4 c hc hn), fun c hc k hk => (c5 c hc k hk).trans (pk0.2 c hc k hk)⟩
      · obtain ⟨x1, x2⟩ := n3 s hs
        exact ⟨((c2 s).trans (q44Y 5 s)).trans x1, x2⟩
      · obtain ⟨x1, x2⟩ := n4 s hs
        exact ⟨((c3 s).trans (q44Y 11 s)).trans x1, x2⟩
    · refine h_intv k_n1 rfl ?_
      refine h_aload rfl l42 rfl ?_
      refine h_getR rfl o43 nfr_0_0 ?_
      refine h_getI rfl o43 fi_1_12 (fun b52a b52b => ?_)
      rw [q44F 1 12 (by decide)] at b52a b52b ⊢
      refine h_isub rfl ?_
      refine h_iret rfl ?_
      obtain ⟨e, e1, e2⟩ := zOK_0 zR (by omega)
      have e3 := e2.2
      refine ⟨_, _, rfl, o43, ?_, by unfold R32; omega, ?_⟩
      · rw [e1]
        show _ = -1 - e.2
        omega
      · rw [e1, brC_l]
        exact pkC_tr (pkC_sm sR (by decide)) (pkC_pI (c := 1) (by decide) q44F q44Y q44R)
  obtain ⟨r, h1, w2, b, h2, h3⟩ := h_meth1 (nL := 2) rfl K
  rw [h2] at h1
  exact ⟨w2, b, h1, h3⟩
end
