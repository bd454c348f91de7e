noncomputable section
-- ===== exact rows: longs by value, and all that a step leaves as it was =====
def hJ (z : Int) : Value := .long (Int64.ofInt z)
def gY (w : sW) (c j : Nat) : Int64 := match w[c]? with
  | some (.inl q) => match q.2[j]? with
    | some (.long x) => x
    | _ => 0
  | _ => 0
/-- longs, arrays and references as they were -/
def smR (w w' : sW) : Prop := ∀ c k, gR w' c k = gR w c k
theorem gJ_set {w : sW} {c c' kf ci : Nat} {fs fs' : List Value} (h : w[c]? = some (.inr (ci, fs))) (hf : c' = c → (match fs'[kf]? with
    | some (.long x) => x
    | _ => (0 : Int64)) = (match fs[kf]? with
    | some (.long x) => x
    | _ => 0)) : gJ (w.set c (.inr (ci, fs'))) c' kf = gJ w c' kf := by
  unfold gJ
  by_cases e : c' = c
  · subst e
    rw [List.getElem?_set_self (List.getElem?_eq_some_iff.mp h).1, h]
    exact hf rfl
  · rw [List.getElem?_set_ne (fun z => e z.symm)]
theorem gJ_setX {w : sW} {c c' kf t : Nat} {vs vs' : List Value} (h : w[c]? = some (.inl (t, vs))) : gJ (w.set c (.inl (t, vs'))) c' kf = gJ w c' kf := by
  unfold gJ
  by_cases e : c' = c
  · subst e
    rw [List.getElem?_set_self (List.getElem?_eq_some_iff.mp h).1, h]
  · rw [List.getElem?_set_ne (fun z => e z.symm)]
theorem gY_setF {w : sW} {c c' j ci : Nat} {fs fs' : List Value} (h : w[c]? = some (.inr (ci, fs))) : gY (w.set c (.inr (ci, fs'))) c' j = gY w c' j := by
  unfold gY
  by_cases e : c' = c
  · subst e
    rw [List.getElem?_set_self (List.getElem?_eq_some_iff.mp h).1, h]
  · rw [List.getElem?_set_ne (fun z => e z.symm)]
theorem gY_set {w : sW} {c c' j t : Nat} {vs vs' : List Value} (h : w[c]? = some (.inl (t, vs))) (hf : c' = c → (match vs'[j]? with
    | some (.long x) => x
    | _ => (0 : Int64)) = (match vs[j]? with
    | some (.long x) => x
    | _ => 0)) : gY (w.set c (.inl (t, vs'))) c' j = gY w c' j := by
  unfold gY
  by_cases e : c' = c
  · subst e
    rw [List.getElem?_set_self (List.getElem?_eq_some_iff.mp h).1, h]
    exact hf rfl
  · rw [List.getElem?_set_ne (fun z => e z.symm)]
theorem gR_set {w : sW} {c c' kf ci : Nat} {fs : List Value} {v : Value} (h : w[c]? = some (.inr (ci, fs))) {u : Value} (hu : fs[kf]? = some u) (h1 : ∀ k, u ≠ .ref k) (h2 : ∀ k, v ≠ .ref k) (k' : Nat) : gR (w.set c (.inr (ci, fs.set kf v))) c' k' = gR w c' k' := by
  by_cases e : c' = c ∧ k' = kf
  · obtain ⟨rfl, rfl⟩ := e
    unfold gR
    rw [List.getElem?_set_self (List.getElem?_eq_some_iff.mp h).1, h]
    dsimp only
    rw [List.getElem?_set_self (List.getElem?_eq_some_iff.mp hu).1, hu]
    cases u with
    | ref k => exact absurd rfl (h1 k)
    | _ =>
      cases v with
      | ref k => exact absurd rfl (h2 k)
      | _ => rfl
  · exact gR_put h (fun z y => e ⟨z, y⟩)
section HXR
variable {tbl : List (Nat × sA)} {Po : sR → Prop} {pc np : Nat} {lv ps : List (Nat × Value)} {st : List Value} {w w0 : sW} {D : List (Nat × Nat)} {kn : sKn}
theorem x_long {v : Int64} (z : Int) (hv : v = Int64.ofInt z) (ha : t_get tbl pc = some (a_stk (q_long v) np)) (g : Tp tbl Po np (lv, hJ z :: st, w, 0, 0)) : Tp tbl Po pc (lv, st, w, 0, 0) := by
  subst hv
  exact h_long ha g
theorem x_ladd {a b : Int} (ha : t_get tbl pc = some (a_stk q_ladd np)) (g : Tp tbl Po np (lv, hJ (a + b) :: st, w, 0, 0)) : Tp tbl Po pc (lv, hJ b :: hJ a :: st, w, 0, 0) := by
  have g : Tp tbl Po np (lv, Value.long (Int64.ofInt (a + b)) :: st, w, 0, 0) := g
  rw [Int64.ofInt_add] at g
  exact h_ladd ha g
theorem x_lsub {a b : Int} (ha : t_get tbl pc = some (a_stk q_lsub np)) (g : Tp tbl Po np (lv, hJ (a - b) :: st, w, 0, 0)) : Tp tbl Po pc (lv, hJ b :: hJ a :: st, w, 0, 0) := by
  have g : Tp tbl Po np (lv, Value.long (Int64.ofInt (a - b)) :: st, w, 0, 0) := g
  rw [Int64.ofInt_sub] at g
  exact h_lsub ha g
theorem x_lmul {a b : Int} (ha : t_get tbl pc = some (a_stk q_lmul np)) (g : Tp tbl Po np (lv, hJ (a * b) :: st, w, 0, 0)) : Tp tbl Po pc (lv, hJ b :: hJ a :: st, w, 0, 0) := by
  have g : Tp tbl Po np (lv, Value.long (Int64.ofInt (a * b)) :: st, w, 0, 0) := g
  rw [Int64.ofInt_mul] at g
  exact h_lmul ha g
theorem x_i2l {a : Int} (r : R32 a) (ha : t_get tbl pc = some (a_stk q_i2l np)) (g : Tp tbl Po np (lv, hJ a :: st, w, 0, 0)) : Tp tbl Po pc (lv, hI a :: st, w, 0, 0) := Tp_step (ss' := (lv, hJ a :: st, w, 0, 0)) ha (fun k => by
  show k np (lv, Value.long (Int32.ofInt a).toInt64 :: st, w, 0, 0) = k np (lv, Value.long (Int64.ofInt a) :: st, w, 0, 0)
  have e : (Int32.ofInt a).toInt64 = Int64.ofInt a := by
    rw [← Int64.toInt_inj, Int32.toInt_toInt64, hI_to r, Int64.toInt_ofInt_of_le (by have := r.1; omega) (by have := r.2; omega)]
  rw [e]) g
def R60 (z : Int) : Prop := -1000000000000000000 ≤ z ∧ z ≤ 1000000000000000000
theorem hJ_to {z : Int} (h : R60 z) : (Int64.ofInt z).toInt = z := Int64.toInt_ofInt_of_le (by have := h.1; omega) (by have := h.2; omega)
theorem hJ_inj {a b : Int} (ra : R60 a) (rb : R60 b) : Int64.ofInt a = Int64.ofInt b ↔ a = b := by
  rw [← Int64.toInt_inj, hJ_to ra, hJ_to rb]
/-- a comparison of longs: all that is asked of it is whether they are the same -/
theorem x_lcmp {x y : Int64} (ha : t_get tbl pc = some (a_stk q_lcmp np)) (g : ∀ c : Int, -1 ≤ c → c ≤ 1 → (c = 0 ↔ x = y) → Tp tbl Po np (lv, hI c :: st, w, 0, 0)) : Tp tbl Po pc (lv, .long y :: .long x :: st, w, 0, 0) := by
  by_cases p : x.toInt < y.toInt
  · refine Tp_step ha (fun k => ?_) (g (-1) (by omega) (by omega) ⟨fun h => absurd h (by omega), fun h => by rw [h] at p; omega⟩)
    show k np (lv, Value.int (lg_cmp x y) :: st, w, 0, 0) = _
    have e : lg_cmp x y = -1 := by
      unfold lg_cmp
      rw [if_neg (by rw [gt_iff_lt, Int64.lt_iff_toInt_lt]; omega), if_neg (by rw [← Int64.toInt_inj]; omega)]
    rw [e, k_n1]
    rfl
  · by_cases p2 : y.toInt < x.toInt
    · refine Tp_step ha (fun k => ?_) (g 1 (by omega) (by omega) ⟨fun h => absurd h (by omega), fun h => by rw [h] at p2; omega⟩)
      show k np (lv, Value.int (lg_cmp x y) :: st, w, 0, 0) = _
      have e : lg_cmp x y = 1 := by
        unfold lg_cmp
        rw [if_pos (by rw [gt_iff_lt, Int64.lt_iff_toInt_lt]; omega)]
      rw [e, k_1]
      rfl
    · have exy : x = y := by
        rw [← Int64.toInt_inj]
        omega
      refine Tp_step ha (fun k => ?_) (g 0 (by omega) (by omega) ⟨fun _ => exy, fun _ => rfl⟩)
      show k np (lv, Value.int (lg_cmp x y) :: st, w, 0, 0) = _
      have e : lg_cmp x y = 0 := by
        unfold lg_cmp
        rw [if_neg (by rw [gt_iff_lt, Int64.lt_iff_toInt_lt]; omega), if_pos (by rw [← Int64.toInt_inj]; omega)]
      rw [e, k_0]
      rfl
theorem x_putK {ci kf c t : Nat} {lo hi z : Int} {ck : Value → Bool} (hck : ck (hI z) = true) (ha : t_get tbl pc = some (a_put ci kf ck np)) (ho : hO D w0 w) (hf : fI c ci kf = some (t, lo, hi)) (hm : mJn D t kf = true) (h1 : lo ≤ z) (h2 : z ≤ hi) (g : ∀ w', hO D w0 w' → gF w' c kf = z → (∀ c' k', (c' = c → k' ≠ kf) → gF w' c' k' = gF w c' k') → (∀ c' j, gX w' c' j = gX w c' j) → (∀ c' k', gJ w' c' k' = gJ w c' k') → (∀ c' j, gY w' c' j = gY w c' j) → smR w w' → Tp tbl Po np (lv, st, w', 0, 0)) : Tp tbl Po pc (lv, hI z :: .ref c :: st, w, 0, 0) := by
  obtain ⟨fs, k1, k2, k3, k4, k5, k6, k7, k8⟩ := fI_ok ho hf
  have r : R32 z := ⟨by omega, by omega⟩
  have hl := (List.getElem?_eq_some_iff.mp k5).1
  have hkf := (List.getElem?_eq_some_iff.mp k6).1
  have e1 : (w.set c (.inr (ci, fs.set kf (hI z))))[c]? = some (.inr (ci, fs.set kf (hI z))) := List.getElem?_set_self hl
  have hfv : fvOk ZZ (0, .inl (lo, hi)) (hI z) := ⟨z, hI_vOk r, h1, h2⟩
  refine Tp_step ha (fun k => by simp only [a_put, xg_eq, xs_eq, k5, Nat.beq_refl, k6, hck]) (g _ ⟨wOk_put ho.1 k1 k5 k2 hfv, frOk_put ho.2 k1 k5 (mJn_1 hm) (mJn_2 hm)⟩ (gF_at e1 (List.getElem?_set_self hkf) r) ?_ ?_ ?_ ?_ ?_)
  · intro c' k' hc
    refine gF_set k5 (fun e => ?_)
    exact List.getElem?_set_ne (fun z => hc e z.symm)
  · intro c' j
    exact gX_setF k5
  · intro c' k'
    refine gJ_set k5 (fun _ => ?_)
    by_cases e : k' = kf
    · subst e
      rw [List.getElem?_set_self hkf, k6]
      rfl
    · rw [List.getElem?_set_ne (fun z => e z.symm)]
  · intro c' j
    exact gY_setF k5
  · intro c' k'
    exact gR_set k5 k6 (fun k h => by cases h) (fun k h => by cases h) k'
theorem x_putI {ci kf c t : Nat} {lo hi z : Int} (ha : t_get tbl pc = some (a_put ci kf ckI np)) (ho : hO D w0 w) (hf : fI c ci kf = some (t, lo, hi)) (hm : mJn D t kf = true) (h1 : lo ≤ z) (h2 : z ≤ hi) (g : ∀ w', hO D w0 w' → gF w' c kf = z → (∀ c' k', (c' = c → k' ≠ kf) → gF w' c' k' = gF w c' k') → (∀ c' j, gX w' c' j = gX w c' j) → (∀ c' k', gJ w' c' k' = gJ w c' k') → (∀ c' j, gY w' c' j = gY w c' j) → smR w w' → Tp tbl Po np (lv, st, w', 0, 0)) : Tp tbl Po pc (lv, hI z :: .ref c :: st, w, 0, 0) := x_putK (ck := ckI) rfl ha ho hf hm h1 h2 g
theorem x_putJ {ci kf c t : Nat} {x : Int64} (ha : t_get tbl pc = some (a_put ci kf ckJ np)) (ho : hO D w0 w) (hf : fJt c ci kf = some t) (hm : mJn D t kf = true) (g : ∀ w', hO D w0 w' → gJ w' c kf = x → (∀ c' k', (c' = c → k' ≠ kf) → gJ w' c' k' = gJ w c' k') → (∀ c' j, gX w' c' j = gX w c' j) → (∀ c' k', gF w' c' k' = gF w c' k') → (∀ c' j, gY w' c' j = gY w c' j) → smR w w' → Tp tbl Po np (lv, st, w', 0, 0)) : Tp tbl Po pc (lv, .long x :: .ref c :: st, w, 0, 0) := by
  obtain ⟨fs, y, q, k1, k2, k3, k4, k5, k6⟩ := fJ_ok ho hf
  have hl := (List.getElem?_eq_some_iff.mp k5).1
  have hkf := (List.getElem?_eq_some_iff.mp k6).1
  have hck : ckJ (.long x) = true := rfl
  have hfv : fvOk ZZ (1, .inl q) (.long x) := ⟨x.toInt, ⟨x, rfl, rfl⟩, by have := x.le_toInt; show q.1 ≤ _; omega, by have := x.toInt_lt; show _ ≤ q.2; omega⟩
  refine Tp_step ha (fun k => by simp only [a_put, xg_eq, xs_eq, k5, Nat.beq_refl, k6, hck]) (g _ ⟨wOk_put ho.1 k1 k5 k2 hfv, frOk_put ho.2 k1 k5 (mJn_1 hm) (mJn_2 hm)⟩ ?_ ?_ ?_ ?_ ?_ ?_)
  · unfold gJ
    rw [List.getElem?_set_self hl]
    dsimp only
    rw [List.getElem?_set_self hkf]
  · intro c' k' hc
    refine gJ_set k5 (fun e => ?_)
    rw [List.getElem?_set_ne (fun z => hc e z.symm)]
  · intro c' j
    exact gX_setF k5
  · intro c' k'
    by_cases e : c' = c ∧ k' = kf
    · obtain ⟨rfl, rfl⟩ := e
      unfold gF
      rw [List.getElem?_set_self hl, k5]
      dsimp only
      rw [List.getElem?_set_self hkf, k6]
    · refine gF_set k5 (fun e1 => ?_)
      exact List.getElem?_set_ne (fun z => e ⟨e1, z.symm⟩)
  · intro c' j
    exact gY_setF k5
  · intro c' k'
    exact gR_set k5 k6 (fun k h => by cases h) (fun k h => by cases h) k'
theorem x_iast {c t n a m : Nat} {i z lo hi : Int} (j : Nat) (ha : t_get tbl pc = some (a_iast np)) (ho : hO D w0 w) (hf : aI c = some (t, n)) (hn : Nat.blt n 2147483648 = true) (hm : mIn D t 999 = true) (hp : aP c a m lo hi = true) (hi1 : i = (j : Int)) (h0 : a ≤ j) (h1 : j < a + m) (h2 : j < n) (h3 : lo ≤ z) (h4 : z ≤ hi) (r : R32 z) (g : ∀ w', hO D w0 w' → gX w' c j = z → (∀ c' j', (c' = c → j' ≠ j) → gX w' c' j' = gX w c' j') → (∀ c' k, gF w' c' k = gF w c' k) → (∀ c' k, gJ w' c' k = gJ w c' k) → (∀ c' j', gY w' c' j' = gY w c' j') → smR w w' → Tp tbl Po np (lv, st, w', 0, 0)) (hq : pOkA D t 999 = true := by rfl) (hb : pOkB D t a = true := by rfl) : Tp tbl Po pc (lv, hI z :: hI i :: .ref c :: st, w, 0, 0) := by
  subst hi1
  have hn := Nat.blt_eq.mp hn
  obtain ⟨vs, q, k1, k2, k3, k4, k5, k6, k7, k8⟩ := aI_ok ho hf
  have hl := (List.getElem?_eq_some_iff.mp k6).1
  have hv : j < vs.length := by omega
  have e := ixN_hI (i := (j : Int)) (by omega) (by omega)
  rw [show (j : Int).toNat = j by omega] at e
  have e1 : (w.set c (.inl (1, vs.set j (hI z))))[c]? = some (.inl (1, vs.set j (hI z))) := List.getElem?_set_self hl
  have hel : ∃ e, sga (aSg c) j = some e ∧ fvOk ZZ (0, e) (hI z) := by
    unfold aP at hp
    rw [xa_eq] at hp
    have k := List.all_eq_true.mp hp (j - a) (List.mem_range.mpr (by omega))
    rw [show a + (j - a) = j by omega] at k
    split at k
    · rename_i q' hq'
      split at k
      · rename_i c1
        rw [zle_iff] at k c1
        exact ⟨_, hq', z, hI_vOk r, by show q'.1 ≤ z; omega, by show z ≤ q'.2; omega⟩
      · cases k
    · cases k
  have hw' : wOk ZZ (w.set c (.inl (1, vs.set j (hI z)))) := by
    have := wOk_arr (Z := ZZ) (vs' := vs.set j (hI z)) ho.1 (show ZZ.2 c = some t from k1) k2 (by rw [List.length_set, k7, k4]) (by
      intro j' v hv'
      rw [k5, k3]
      by_cases ej : j' = j
      · subst ej
        rw [List.getElem?_set_self hv] at hv'
        cases hv'
        exact hel
      · rw [List.getElem?_set_ne (fun z => ej z.symm)] at hv'
        exact k8 j' v hv')
    rw [k3] at this
    exact this
  obtain ⟨_, _, _, hvj, _⟩ := gX_r ho hf h2
  refine Tp_step ha (fun k => ?_) (g _ ⟨hw', frOk_arr ho.2 k1 k6 (mIn_mem hm) (hi := j + 1000) (pOkA_up hq (by omega)) hb (fun j2 hj2 => List.getElem?_set_ne (by omega)) (fun j2 hj2 => List.getElem?_set_ne (by omega))⟩ (gX_at e1 (List.getElem?_set_self hv) r) ?_ ?_ ?_ ?_ ?_)
  · have e3 : Nat.blt j 2147483648 = true := Nat.blt_eq.mpr (by omega)
    have e4 : iq (hI z) = true := rfl
    show a_iast np k (lv, hI z :: Value.int (Int32.ofInt (j : Int)) :: .ref c :: st, w, 0, 0) = _
    simp only [a_iast, e4, xg_eq, xs_eq, k6, e, e3, List.getElem?_eq_getElem hv]
  · intro c' j' hc
    refine gX_set k6 (fun e => ?_)
    exact List.getElem?_set_ne (fun z => hc e z.symm)
  · intro c' k
    exact gF_setX k6
  · intro c' k
    exact gJ_setX k6
  · intro c' j'
    refine gY_set k6 (fun _ => ?_)
    by_cases ej : j' = j
    · subst ej
      obtain ⟨e5, _, z5, z6, _⟩ := k8 j' _ (List.getElem?_eq_getElem hv)
      obtain ⟨z7, _⟩ := vOk_hI (show vOk 0 z5 _ from z6)
      rw [List.getElem?_set_self hv, List.getElem?_eq_getElem hv, z7]
      rfl
    · rw [List.getElem?_set_ne (fun z => ej z.symm)]
  · intro c' k
    exact gR_arr k6
theorem x_last {c t n : Nat} {i : Int} {x : Int64} (j : Nat) (ha : t_get tbl pc = some (a_last np)) (ho : hO D w0 w) (hf : aJ c = some (t, n)) (hn : Nat.blt n 2147483648 = true) (hm : mIn D t 999 = true) (hi : i = (j : Int)) (hj : j < n) (g : ∀ w', hO D w0 w' → gY w' c j = x → (∀ c' j', (c' = c → j' ≠ j) → gY w' c' j' = gY w c' j') → (∀ c' k, gF w' c' k = gF w c' k) → (∀ c' j', gX w' c' j' = gX w c' j') → (∀ c' k, gJ w' c' k = gJ w c' k) → smR w w' → Tp tbl Po np (lv, st, w', 0, 0)) (hq : pOkA D t 999 = true := by rfl) (hb : pOkB D t 0 = true := by rfl) : Tp tbl Po pc (lv, .long x :: hI i :: .ref c :: st, w, 0, 0) := by
  subst hi
  have hn := Nat.blt_eq.mp hn
  obtain ⟨vs, q, k1, k2, k3, k4, k5, k6, k7, k8⟩ := aJ_ok ho hf
  have hl := (List.getElem?_eq_some_iff.mp k5).1
  have hv : j < vs.length := by omega
  have e := ixN_hI (i := (j : Int)) (by omega) (by omega)
  rw [show (j : Int).toNat = j by omega] at e
  have e3 : Nat.blt j 2147483648 = true := Nat.blt_eq.mpr (by omega)
  have hw' : wOk ZZ (w.set c (.inl (2, vs.set j (.long x)))) := by
    have := wOk_arr (Z := ZZ) (vs' := vs.set j (.long x)) ho.1 (show ZZ.2 c = some t from k1) k2 (by rw [List.length_set, k6, k4]) (by
      intro j' v hv'
      rw [k3]
      by_cases ej : j' = j
      · subst ej
        rw [List.getElem?_set_self hv] at hv'
        cases hv'
        exact k8 j' x hj
      · rw [List.getElem?_set_ne (fun z => ej z.symm)] at hv'
        exact k7 j' v hv')
    rw [k3] at this
    exact this
  refine Tp_step ha (fun k => ?_) (g _ ⟨hw', frOk_arr ho.2 k1 k5 (mIn_mem hm) (hi := j + 1000) (pOkA_up hq (by omega)) (pOkB_up (lo := 0) hb) (fun j2 hj2 => List.getElem?_set_ne (by omega)) (fun j2 hj2 => absurd hj2 (Nat.not_lt_zero j2))⟩ ?_ ?_ (fun c' k => gF_setX k5) ?_ (fun c' k => gJ_setX k5) (fun c' k => gR_arr k5))
  · show a_last np k (lv, .long x :: Value.int (Int32.ofInt (j : Int)) :: .ref c :: st, w, 0, 0) = _
    simp only [a_last, xg_eq, xs_eq, k5, e, e3, List.getElem?_eq_getElem hv]
  · unfold gY
    rw [List.getElem?_set_self hl]
    dsimp only
    rw [List.getElem?_set_self hv]
  · intro c' j' hc
    refine gY_set k5 (fun e => ?_)
    rw [List.getElem?_set_ne (fun z => hc e z.symm)]
  · intro c' j'
    by_cases hc : c' = c
    · subst hc
      by_cases ej : j' = j
      · subst ej
        obtain ⟨ee, _, zz, ⟨x5, z5, _⟩, _⟩ := k7 j' _ (List.getElem?_eq_getElem hv)
        unfold gX
        rw [List.getElem?_set_self hl, k5]
        dsimp only
        rw [List.getElem?_set_self hv, List.getElem?_eq_getElem hv, z5]
      · exact gX_set k5 (fun _ => List.getElem?_set_ne (fun z => ej z.symm))
    · exact gX_set k5 (fun z => absurd z hc)
theorem x_lald {c t n : Nat} {i : Int} (j : Nat) (ha : t_get tbl pc = some (a_lald np)) (ho : hO D w0 w) (hf : aJ c = some (t, n)) (hn : Nat.blt n 2147483648 = true) (hi : i = (j : Int)) (hj : j < n) (g : Tp tbl Po np (lv, .long (gY w c j) :: st, w, 0, 0)) : Tp tbl Po pc (lv, hI i :: .ref c :: st, w, 0, 0) := by
  subst hi
  have hn := Nat.blt_eq.mp hn
  obtain ⟨vs, q, _, _, _, _, k1, k2, k3, _⟩ := aJ_ok ho hf
  have hv : j < vs.length := by omega
  have e := ixN_hI (i := (j : Int)) (by omega) (by omega)
  rw [show (j : Int).toNat = j by omega] at e
  have e3 : Nat.blt j 2147483648 = true := Nat.blt_eq.mpr (by omega)
  obtain ⟨ee, _, zz, ⟨x5, z5, _⟩, _⟩ := k3 j _ (List.getElem?_eq_getElem hv)
  have e6 : gY w c j = x5 := by
    unfold gY
    rw [k1]
    dsimp only
    rw [List.getElem?_eq_getElem hv, z5]
  rw [e6] at g
  refine Tp_step ha (fun k => ?_) g
  show a_lald np k (lv, Value.int (Int32.ofInt (j : Int)) :: .ref c :: st, w, 0, 0) = _
  simp only [a_lald, xg_eq, k1, e, e3, List.getElem?_eq_getElem hv, z5]
  rfl
end HXR
end
