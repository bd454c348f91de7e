noncomputable section
section HS
variable {tbl : List (Nat × sA)} {Po : sR → Prop} {pc np : Nat} {lv ps : List (Nat × Value)} {st : List Value} {w w0 : sW} {D : List (Nat × Nat)} {kn : sKn}
theorem h_int (z : Int) (ha : t_get tbl pc = some (a_stk (q_int (Int32.ofInt z)) np)) (g : Tp tbl Po np (lv, hI z :: st, w, 0, 0)) : Tp tbl Po pc (lv, st, w, 0, 0) := Tp_step ha (fun _ => rfl) g
theorem h_iload {i : Nat} {z : Int} (ha : t_get tbl pc = some (a_iload i np)) (hl : hL lv ps) (hg : l_get ps i = some (hI z)) (g : Tp tbl Po np (lv, hI z :: st, w, 0, 0)) : Tp tbl Po pc (lv, st, w, 0, 0) := Tp_step ha (fun k => by
  show (match l_get lv i with
    | some (.int x) => k np (lv, .int x :: st, w, 0, 0)
    | some (.float u) => k np (lv, .float u :: st, w, 0, 0)
    | _ => none) = _
  rw [hl.1 _ _ hg]
  rfl) g
theorem h_aload {i c : Nat} (ha : t_get tbl pc = some (a_aload i np)) (hl : hL lv ps) (hg : l_get ps i = some (.ref c)) (g : Tp tbl Po np (lv, .ref c :: st, w, 0, 0)) : Tp tbl Po pc (lv, st, w, 0, 0) := Tp_step ha (fun k => by
  show (match l_get lv i with
    | some (.ref x) => k np (lv, .ref x :: st, w, 0, 0)
    | _ => none) = _
  rw [hl.1 _ _ hg]) g
theorem h_istore {i : Nat} {z : Int} (ha : t_get tbl pc = some (a_istore i np)) (hl : hL lv ps) (g : ∀ lv', hL lv' (l_upd ps i (hI z)) → Tp tbl Po np (lv', st, w, 0, 0)) : Tp tbl Po pc (lv, hI z :: st, w, 0, 0) := Tp_step ha (fun _ => rfl) (g _ (hL_put hl rfl rfl))
theorem h_astore {i c : Nat} (ha : t_get tbl pc = some (a_astore i np)) (hl : hL lv ps) (hw : wfV 241 (.ref c) = true) (g : ∀ lv', hL lv' (l_upd ps i (.ref c)) → Tp tbl Po np (lv', st, w, 0, 0)) : Tp tbl Po pc (lv, .ref c :: st, w, 0, 0) := Tp_step ha (fun _ => rfl) (g _ (hL_put hl rfl hw))
theorem h_iinc {i : Nat} {z : Int} (d : Int) (ha : t_get tbl pc = some (a_iinc i (Int32.ofInt d) np)) (hl : hL lv ps) (hg : l_get ps i = some (hI z)) (g : ∀ lv', hL lv' (l_upd ps i (hI (z + d))) → Tp tbl Po np (lv', st, w, 0, 0)) : Tp tbl Po pc (lv, st, w, 0, 0) := Tp_step (ss' := (l_put lv i (hI (z + d)), st, w, 0, 0)) ha (fun k => by
  show (match l_get lv i with
    | some (.int x) => k np (l_put lv i (.int (x + Int32.ofInt d)), st, w, 0, 0)
    | _ => none) = _
  rw [hl.1 _ _ hg]
  unfold hI
  rw [Int32.ofInt_add]) (g _ (hL_put hl rfl rfl))
theorem h_goto {tgt : Nat} (ha : t_get tbl pc = some (a_goto tgt)) (g : Tp tbl Po tgt (lv, st, w, 0, 0)) : Tp tbl Po pc (lv, st, w, 0, 0) := Tp_step ha (fun _ => rfl) g
theorem h_iadd {a b : Int} (ha : t_get tbl pc = some (a_stk q_iadd np)) (g : Tp tbl Po np (lv, hI (a + b) :: st, w, 0, 0)) : Tp tbl Po pc (lv, hI b :: hI a :: st, w, 0, 0) := Tp_step (ss' := (lv, hI (a + b) :: st, w, 0, 0)) ha (fun k => by
  show k np (lv, Value.int (Int32.ofInt a + Int32.ofInt b) :: st, w, 0, 0) = _
  rw [← Int32.ofInt_add]
  rfl) g
theorem h_isub {a b : Int} (ha : t_get tbl pc = some (a_stk q_isub np)) (g : Tp tbl Po np (lv, hI (a - b) :: st, w, 0, 0)) : Tp tbl Po pc (lv, hI b :: hI a :: st, w, 0, 0) := Tp_step (ss' := (lv, hI (a - b) :: st, w, 0, 0)) ha (fun k => by
  show k np (lv, Value.int (Int32.ofInt a - Int32.ofInt b) :: st, w, 0, 0) = _
  rw [← Int32.ofInt_sub]
  rfl) g
theorem h_imul {a b : Int} (ha : t_get tbl pc = some (a_stk q_imul np)) (g : Tp tbl Po np (lv, hI (a * b) :: st, w, 0, 0)) : Tp tbl Po pc (lv, hI b :: hI a :: st, w, 0, 0) := Tp_step (ss' := (lv, hI (a * b) :: st, w, 0, 0)) ha (fun k => by
  show k np (lv, Value.int (Int32.ofInt a * Int32.ofInt b) :: st, w, 0, 0) = _
  rw [← Int32.ofInt_mul]
  rfl) g
theorem h_iand {a b : Int} (ha : t_get tbl pc = some (a_stk q_iand np)) (g : Tp tbl Po np (lv, hI (Int32.ofInt a &&& Int32.ofInt b).toInt :: st, w, 0, 0)) : Tp tbl Po pc (lv, hI b :: hI a :: st, w, 0, 0) := Tp_step (ss' := (lv, hI (Int32.ofInt a &&& Int32.ofInt b).toInt :: st, w, 0, 0)) ha (fun k => by
  rw [← hI_of]
  rfl) g
theorem h_ior {a b : Int} (ha : t_get tbl pc = some (a_stk q_ior np)) (g : Tp tbl Po np (lv, hI (Int32.ofInt a ||| Int32.ofInt b).toInt :: st, w, 0, 0)) : Tp tbl Po pc (lv, hI b :: hI a :: st, w, 0, 0) := Tp_step (ss' := (lv, hI (Int32.ofInt a ||| Int32.ofInt b).toInt :: st, w, 0, 0)) ha (fun k => by
  rw [← hI_of]
  rfl) g
theorem h_ixor {a b : Int} (ha : t_get tbl pc = some (a_stk q_ixor np)) (g : Tp tbl Po np (lv, hI (Int32.ofInt a ^^^ Int32.ofInt b).toInt :: st, w, 0, 0)) : Tp tbl Po pc (lv, hI b :: hI a :: st, w, 0, 0) := Tp_step (ss' := (lv, hI (Int32.ofInt a ^^^ Int32.ofInt b).toInt :: st, w, 0, 0)) ha (fun k => by
  rw [← hI_of]
  rfl) g
theorem h_ishl {a b : Int} (ha : t_get tbl pc = some (a_stk q_ishl np)) (g : Tp tbl Po np (lv, hI (Int32.ofInt a <<< (Int32.ofInt b &&& 31)).toInt :: st, w, 0, 0)) : Tp tbl Po pc (lv, hI b :: hI a :: st, w, 0, 0) := Tp_step (ss' := (lv, hI (Int32.ofInt a <<< (Int32.ofInt b &&& 31)).toInt :: st, w, 0, 0)) ha (fun k => by
  rw [← hI_of]
  rfl) g
theorem h_ishr {a b : Int} (ha : t_get tbl pc = some (a_stk q_ishr np)) (g : Tp tbl Po np (lv, hI (Int32.ofInt a >>> (Int32.ofInt b &&& 31)).toInt :: st, w, 0, 0)) : Tp tbl Po pc (lv, hI b :: hI a :: st, w, 0, 0) := Tp_step (ss' := (lv, hI (Int32.ofInt a >>> (Int32.ofInt b &&& 31)).toInt :: st, w, 0, 0)) ha (fun k => by
  rw [← hI_of]
  rfl) g
theorem h_dup {a : Value} (hc : a.category = 1) (ha : t_get tbl pc = some (a_stk q_dup np)) (g : Tp tbl Po np (lv, a :: a :: st, w, 0, 0)) : Tp tbl Po pc (lv, a :: st, w, 0, 0) := Tp_step ha (fun k => by simp only [a_stk, q_dup, hc, if_true]) g
theorem h_pop {a : Value} (hc : a.category = 1) (ha : t_get tbl pc = some (a_stk q_pop np)) (g : Tp tbl Po np (lv, st, w, 0, 0)) : Tp tbl Po pc (lv, a :: st, w, 0, 0) := Tp_step ha (fun k => by simp only [a_stk, q_pop, hc, if_true]) g
theorem h_dup2 {a b : Value} (hc : a.category = 1) (hd : b.category = 1) (ha : t_get tbl pc = some (a_stk q_dup2 np)) (g : Tp tbl Po np (lv, a :: b :: a :: b :: st, w, 0, 0)) : Tp tbl Po pc (lv, a :: b :: st, w, 0, 0) := Tp_step ha (fun k => by simp only [a_stk, q_dup2, hc, hd, and_self, if_true]) g
/-- comparisons -/
theorem c_eq {x y : Int} (r : R32 x) (s : R32 y) : b_eq (Int32.ofInt x) (Int32.ofInt y) = decide (x = y) := by
  rw [b_eq_d]
  congr 1
  apply propext
  rw [← Int32.toInt_inj, hI_to r, hI_to s]
theorem c_ne {x y : Int} (r : R32 x) (s : R32 y) : b_ne (Int32.ofInt x) (Int32.ofInt y) = decide (x ≠ y) := by
  rw [b_ne_d]
  congr 1
  apply propext
  rw [← Int32.toInt_inj, hI_to r, hI_to s]
theorem c_lt {x y : Int} (r : R32 x) (s : R32 y) : b_lt (Int32.ofInt x) (Int32.ofInt y) = decide (x < y) := by
  rw [b_lt_d]
  congr 1
  apply propext
  rw [Int32.lt_iff_toInt_lt, hI_to r, hI_to s]
theorem c_ge {x y : Int} (r : R32 x) (s : R32 y) : b_ge (Int32.ofInt x) (Int32.ofInt y) = decide (y ≤ x) := by
  rw [b_ge_d]
  congr 1
  apply propext
  rw [Int32.le_iff_toInt_le, hI_to r, hI_to s]
theorem c_gt {x y : Int} (r : R32 x) (s : R32 y) : b_gt (Int32.ofInt x) (Int32.ofInt y) = decide (y < x) := c_lt s r
theorem c_le {x y : Int} (r : R32 x) (s : R32 y) : b_le (Int32.ofInt x) (Int32.ofInt y) = decide (x ≤ y) := c_ge s r
theorem h_icmp {b : Int32 → Int32 → Bool} {t tgt : Nat} {x y : Int} {P : Prop} {dP : Decidable P} (ha : t_get tbl pc = some (a_icmp kn b t tgt np)) (hb : b (Int32.ofInt x) (Int32.ofInt y) = decide P) (g1 : P → Tp tbl Po tgt (lv, st, w, 0, 0)) (g2 : ¬ P → Tp tbl Po np (lv, st, w, 0, 0)) : Tp tbl Po pc (lv, hI y :: hI x :: st, w, 0, 0) := by
  by_cases p : P
  · refine Tp_step ha (fun k => ?_) (g1 p)
    show (match b (Int32.ofInt x) (Int32.ofInt y) with
      | true => k tgt (lv, st, w, 0, 0)
      | false => k np (lv, st, w, 0, 0)) = _
    rw [hb, decide_eq_true p]
  · refine Tp_step ha (fun k => ?_) (g2 p)
    show (match b (Int32.ofInt x) (Int32.ofInt y) with
      | true => k tgt (lv, st, w, 0, 0)
      | false => k np (lv, st, w, 0, 0)) = _
    rw [hb, decide_eq_false p]
theorem h_if {b : Int32 → Int32 → Bool} {t tgt : Nat} {x : Int} {P : Prop} {dP : Decidable P} (ha : t_get tbl pc = some (a_if kn b t tgt np)) (hb : b (Int32.ofInt x) (Int32.ofInt 0) = decide P) (g1 : P → Tp tbl Po tgt (lv, st, w, 0, 0)) (g2 : ¬ P → Tp tbl Po np (lv, st, w, 0, 0)) : Tp tbl Po pc (lv, hI x :: st, w, 0, 0) := by
  by_cases p : P
  · refine Tp_step ha (fun k => ?_) (g1 p)
    show (match b (Int32.ofInt x) (Int32.ofInt 0) with
      | true => k tgt (lv, st, w, 0, 0)
      | false => k np (lv, st, w, 0, 0)) = _
    rw [hb, decide_eq_true p]
  · refine Tp_step ha (fun k => ?_) (g2 p)
    show (match b (Int32.ofInt x) (Int32.ofInt 0) with
      | true => k tgt (lv, st, w, 0, 0)
      | false => k np (lv, st, w, 0, 0)) = _
    rw [hb, decide_eq_false p]
/-- fields -/
theorem h_getI {ci kf c t : Nat} {lo hi : Int} (ha : t_get tbl pc = some (a_get ci kf np)) (ho : hO D w0 w) (hf : fI c ci kf = some (t, lo, hi)) (g : lo ≤ gF w c kf → gF w c kf ≤ hi → Tp tbl Po np (lv, hI (gF w c kf) :: st, w, 0, 0)) : Tp tbl Po pc (lv, .ref c :: st, w, 0, 0) := by
  obtain ⟨fs, _, _, _, _, h1, h2, h3, h4⟩ := fI_ok ho hf
  exact Tp_step ha (fun k => by simp only [a_get, xg_eq, h1, Nat.beq_refl, h2]) (g h3 h4)
theorem h_getR {ci kf c k : Nat} (ha : t_get tbl pc = some (a_get ci kf np)) (ho : hO D w0 w) (hf : fR c ci kf = some k) (g : Tp tbl Po np (lv, .ref k :: st, w, 0, 0)) : Tp tbl Po pc (lv, .ref c :: st, w, 0, 0) := by
  obtain ⟨fs, h1, h2⟩ := fR_ok ho hf
  exact Tp_step ha (fun k => by simp only [a_get, xg_eq, h1, Nat.beq_refl, h2]) g
theorem h_putK {ci kf c t : Nat} {lo hi z : Int} {ck : Value → Bool} (hck : ck (hI z) = true) (ha : t_get tbl pc = some (a_put ci kf ck np)) (ho : hO D w0 w) (hf : fI c ci kf = some (t, lo, hi)) (hm : mJn D t kf = true) (h1 : lo ≤ z) (h2 : z ≤ hi) (g : ∀ w', hO D w0 w' → gF w' c kf = z → (∀ c' k', (c' = c → k' ≠ kf) → gF w' c' k' = gF w c' k') → (∀ c' j, gX w' c' j = gX w c' j) → Tp tbl Po np (lv, st, w', 0, 0)) : Tp tbl Po pc (lv, hI z :: .ref c :: st, w, 0, 0) := by
  obtain ⟨fs, k1, k2, k3, k4, k5, k6, k7, k8⟩ := fI_ok ho hf
  have r : R32 z := ⟨by omega, by omega⟩
  have hl := (List.getElem?_eq_some_iff.mp k5).1
  have hkf := (List.getElem?_eq_some_iff.mp k6).1
  have e1 : (w.set c (.inr (ci, fs.set kf (hI z))))[c]? = some (.inr (ci, fs.set kf (hI z))) := List.getElem?_set_self hl
  have hfv : fvOk ZZ (0, .inl (lo, hi)) (hI z) := ⟨z, hI_vOk r, h1, h2⟩
  refine Tp_step ha (fun k => by simp only [a_put, xg_eq, xs_eq, k5, Nat.beq_refl, k6, hck]) (g _ ⟨wOk_put ho.1 k1 k5 k2 hfv, frOk_put ho.2 k1 k5 (mJn_1 hm) (mJn_2 hm)⟩ (gF_at e1 (List.getElem?_set_self hkf) r) ?_ ?_)
  · intro c' k' hc
    refine gF_set k5 (fun e => ?_)
    exact List.getElem?_set_ne (fun z => hc e z.symm)
  · intro c' j
    exact gX_setF k5
theorem h_putI {ci kf c t : Nat} {lo hi z : Int} (ha : t_get tbl pc = some (a_put ci kf ckI np)) (ho : hO D w0 w) (hf : fI c ci kf = some (t, lo, hi)) (hm : mJn D t kf = true) (h1 : lo ≤ z) (h2 : z ≤ hi) (g : ∀ w', hO D w0 w' → gF w' c kf = z → (∀ c' k', (c' = c → k' ≠ kf) → gF w' c' k' = gF w c' k') → (∀ c' j, gX w' c' j = gX w c' j) → Tp tbl Po np (lv, st, w', 0, 0)) : Tp tbl Po pc (lv, hI z :: .ref c :: st, w, 0, 0) := h_putK rfl ha ho hf hm h1 h2 g
/-- arrays of ints -/
theorem h_iald {c t n : Nat} {i : Int} (ha : t_get tbl pc = some (a_iald np)) (ho : hO D w0 w) (hf : aI c = some (t, n)) (hn : Nat.blt n 2147483648 = true) (h0 : 0 ≤ i) (h1 : i < (n : Int)) (g : -2147483648 ≤ gX w c i.toNat → gX w c i.toNat ≤ 2147483647 → Tp tbl Po np (lv, hI (gX w c i.toNat) :: st, w, 0, 0)) : Tp tbl Po pc (lv, hI i :: .ref c :: st, w, 0, 0) := by
  have hj : i.toNat < n := by omega
  have hn := Nat.blt_eq.mp hn
  obtain ⟨vs, k1, k2, k3, k4⟩ := gX_r ho hf hj
  have e := ixN_hI h0 (by omega)
  refine Tp_step ha (fun k => ?_) (g k4.1 k4.2)
  have e3 : Nat.blt i.toNat 2147483648 = true := Nat.blt_eq.mpr (by omega)
  show a_iald np k (lv, Value.int (Int32.ofInt i) :: .ref c :: st, w, 0, 0) = _
  simp only [a_iald, xg_eq, k1, e, e3, k3]
  rfl
theorem h_iast {c t n a m : Nat} {i z lo hi : Int} (ha : t_get tbl pc = some (a_iast np)) (ho : hO D w0 w) (hf : aI c = some (t, n)) (hn : Nat.blt n 2147483648 = true) (hm : mIn D t 999 = true) (hp : aP c a m lo hi = true) (h0 : (a : Int) ≤ i) (h1 : i < (a : Int) + (m : Int)) (h2 : i < (n : Int)) (h3 : lo ≤ z) (h4 : z ≤ hi) (r : R32 z) (g : ∀ w', hO D w0 w' → gX w' c i.toNat = z → (∀ c' j', (c' = c → j' ≠ i.toNat) → gX w' c' j' = gX w c' j') → (∀ c' k, gF w' c' k = gF w c' k) → Tp tbl Po np (lv, st, w', 0, 0)) (hq : pOkA D t (a + m - 1) = true := by rfl) (hb : pOkB D t a = true := by rfl) : Tp tbl Po pc (lv, hI z :: hI i :: .ref c :: st, w, 0, 0) := by
  have hj : i.toNat < n := by omega
  have hn := Nat.blt_eq.mp hn
  obtain ⟨vs, q, k1, k2, k3, k4, k5, k6, k7, k8⟩ := aI_ok ho hf
  have hl := (List.getElem?_eq_some_iff.mp k6).1
  have hv : i.toNat < vs.length := by omega
  have e := ixN_hI (i := i) (by omega) (by omega)
  have e1 : (w.set c (.inl (1, vs.set i.toNat (hI z))))[c]? = some (.inl (1, vs.set i.toNat (hI z))) := List.getElem?_set_self hl
  have hel : ∃ e, sga (aSg c) i.toNat = some e ∧ fvOk ZZ (0, e) (hI z) := by
    unfold aP at hp
    rw [xa_eq] at hp
    have k := List.all_eq_true.mp hp (i.toNat - a) (List.mem_range.mpr (by omega))
    rw [show a + (i.toNat - a) = i.toNat by omega] at k
    split at k
    · rename_i q' hq'
      split at k
      · rename_i c1
        rw [zle_iff] at k c1
        exact ⟨_, hq', z, hI_vOk r, by show q'.1 ≤ z; omega, by show z ≤ q'.2; omega⟩
      · cases k
    · cases k
  have hw' : wOk ZZ (w.set c (.inl (1, vs.set i.toNat (hI z)))) := by
    have := wOk_arr (Z := ZZ) (vs' := vs.set i.toNat (hI z)) ho.1 (show ZZ.2 c = some t from k1) k2 (by rw [List.length_set, k7, k4]) (by
      intro j v hv'
      rw [k5, k3]
      by_cases ej : j = i.toNat
      · subst ej
        rw [List.getElem?_set_self hv] at hv'
        cases hv'
        exact hel
      · rw [List.getElem?_set_ne (fun z => ej z.symm)] at hv'
        exact k8 j v hv')
    rw [k3] at this
    exact this
  refine Tp_step ha (fun k => ?_) (g _ ⟨hw', frOk_arr ho.2 k1 k6 (mIn_mem hm) hq hb (fun j hj => List.getElem?_set_ne (by omega)) (fun j hj => List.getElem?_set_ne (by omega))⟩ (gX_at e1 (List.getElem?_set_self hv) r) ?_ ?_)
  · have e3 : Nat.blt i.toNat 2147483648 = true := Nat.blt_eq.mpr (by omega)
    have e4 : iq (hI z) = true := rfl
    show a_iast np k (lv, hI z :: Value.int (Int32.ofInt i) :: .ref c :: st, w, 0, 0) = _
    simp only [a_iast, e4, xg_eq, xs_eq, k6, e, e3, List.getElem?_eq_getElem hv]
  · intro c' j' hc
    refine gX_set k6 (fun e => ?_)
    exact List.getElem?_set_ne (fun z => hc e z.symm)
  · intro c' k
    exact gF_setX k6
/-- returns -/
theorem h_iret {z : Int} (ha : t_get tbl pc = some a_iret) (g : Po (some (hI z), w, 0, 0)) : Tp tbl Po pc (lv, [hI z], w, 0, 0) := Tp_ret ha (fun _ => rfl) g
theorem h_vret (ha : t_get tbl pc = some a_vret) (g : Po (none, w, 0, 0)) : Tp tbl Po pc (lv, [], w, 0, 0) := Tp_ret ha (fun _ => rfl) g
theorem h_zret {z : Int} (hz : z = 0 ∨ z = 1) (ha : t_get tbl pc = some a_zret) (g : Po (some (hI z), w, 0, 0)) : Tp tbl Po pc (lv, [hI z], w, 0, 0) := Tp_ret ha (fun _ => by
  have : Int32.ofInt z = 0 ∨ Int32.ofInt z = 1 := by
    rcases hz with rfl | rfl
    · exact Or.inl rfl
    · exact Or.inr rfl
  show (if Int32.ofInt z = 0 ∨ Int32.ofInt z = 1 then _ else none) = _
  rw [if_pos this]
  rfl) g
theorem h_throw (ha : t_get tbl pc = some a_throw) (hs : Nat.ble (st.map fun v => v.category).sum 8 = true) (g : Po (none, w, 1, 6)) : Tp tbl Po pc (lv, st, w, 0, 0) := Tp_ret ha (fun _ => by
  show (match Nat.ble (st.map fun v => v.category).sum 8 with
    | true => some (none, w, 1, 6)
    | false => none) = _
  rw [hs]) g
/-- calls -/
theorem c_ok_h {na : Nat} {stk : List Value} (ho : hO D w0 w) (hl : hL lv ps) (h1 : Nat.ble na stk.length = true) (h2 : Nat.ble ((stk.drop na).map fun v => v.category).sum 8 = true) (h3 : xa (wfV 241) (stk.drop na) = true) : c_ok (lv, stk, w, 0, 0) na = true := by
  have hn := hO_len ho
  unfold c_ok
  rw [Bool.and_eq_true, Bool.and_eq_true, Bool.and_eq_true]
  refine ⟨⟨⟨h1, h2⟩, ?_⟩, ?_⟩
  · rw [xa_eq, xl_eq, List.all_eq_true]
    exact fun q hq => wf_up (hl.2 q hq).2 hn
  · rw [xa_eq, List.all_eq_true] at h3
    rw [xa_eq, xl_eq, List.all_eq_true]
    exact fun v hv => wf_up (h3 v hv) hn
def cIs (c : Nat) : Option Nat := match ztau c with
  | some t => match zly t with
    | some (.inr q) => some q.1
    | _ => none
  | none => none
theorem cIs_ok {c ci : Nat} (ho : hO D w0 w) (h : cIs c = some ci) : ∃ fs, w[c]? = some (.inr (ci, fs)) := by
  unfold cIs at h
  split at h
  · rename_i t ht
    split at h
    · rename_i q hq
      cases h
      obtain ⟨ly, cc, w1, w2, w3⟩ := ho.1.2 c t ht
      rw [show ZZ.1 t = some (.inr q) from hq] at w1
      cases w1
      obtain ⟨fs, f1, _⟩ := w3
      exact ⟨fs, by rw [w2, f1]⟩
    · cases h
  · cases h
theorem h_callVg {f : List Value → sW → Option sR} {vd : Bool} {ci na c : Nat} {stk as : List Value} {r : Option Value} {w' : sW} (hs : (stk.take na).reverse = .ref c :: as) (h1 : Nat.ble na stk.length = true) (h2 : Nat.ble ((stk.drop na).map fun v => v.category).sum 8 = true) (h3 : xa (wfV 241) (stk.drop na) = true) (hv : (vd || r.isSome) = true) (ha : t_get tbl pc = some (a_callV vd f ci na np)) (ho : hO D w0 w) (hl : hL lv ps) (hc : cIs c = some ci) (hf : f (.ref c :: as) w = some (r, w', 0, 0)) (g : Tp tbl Po np (lv, r.toList ++ stk.drop na, w', 0, 0)) : Tp tbl Po pc (lv, stk, w, 0, 0) := by
  obtain ⟨fs, k1⟩ := cIs_ok ho hc
  refine Tp_step ha (fun k => ?_) g
  show (match c_ok (lv, stk, w, 0, 0) na with
    | true => match (stk.take na).reverse with
      | .ref h :: as => match xg w h with
        | some (.inr (c', _)) => if c' = ci then a_back vd k np lv (stk.drop na) 0 0 (f (.ref h :: as) w) else none
        | _ => none
      | _ => none
    | false => none) = _
  rw [c_ok_h ho hl h1 h2 h3, hs]
  dsimp only
  rw [xg_eq, k1]
  dsimp only
  rw [if_pos rfl, hf]
  show (match vd || r.isSome with
    | true => k np (lv, r.toList ++ stk.drop na, w', 0 + 0, 0 + 0)
    | false => none) = _
  rw [hv]
theorem h_callSg {f : List Value → sW → Option sR} {vd : Bool} {na : Nat} {stk : List Value} {r : Option Value} {w' : sW} (h1 : Nat.ble na stk.length = true) (h2 : Nat.ble ((stk.drop na).map fun v => v.category).sum 8 = true) (h3 : xa (wfV 241) (stk.drop na) = true) (hv : (vd || r.isSome) = true) (ha : t_get tbl pc = some (a_callS vd f na np)) (ho : hO D w0 w) (hl : hL lv ps) (hf : f (stk.take na).reverse w = some (r, w', 0, 0)) (g : Tp tbl Po np (lv, r.toList ++ stk.drop na, w', 0, 0)) : Tp tbl Po pc (lv, stk, w, 0, 0) := by
  refine Tp_step ha (fun k => ?_) g
  show (match c_ok (lv, stk, w, 0, 0) na with
    | true => a_back vd k np lv (stk.drop na) 0 0 (f (stk.take na).reverse w)
    | false => none) = _
  rw [c_ok_h ho hl h1 h2 h3, hf]
  show (match vd || r.isSome with
    | true => k np (lv, r.toList ++ stk.drop na, w', 0 + 0, 0 + 0)
    | false => none) = _
  rw [hv]
theorem h_V1 {f : List Value → sW → Option sR} {ci c : Nat} {v : Value} {w' : sW} (ha : t_get tbl pc = some (a_callV false f ci 1 np)) (ho : hO D w0 w) (hl : hL lv ps) (hc : cIs c = some ci) (h2 : Nat.ble (st.map fun v => v.category).sum 8 = true) (h3 : xa (wfV 241) st = true) (hf : f [.ref c] w = some (some v, w', 0, 0)) (g : Tp tbl Po np (lv, v :: st, w', 0, 0)) : Tp tbl Po pc (lv, .ref c :: st, w, 0, 0) := h_callVg (na := 1) (as := []) (r := some v) rfl (Nat.ble_eq.mpr (by simp)) h2 h3 rfl ha ho hl hc hf g
theorem h_W1 {f : List Value → sW → Option sR} {ci c : Nat} {w' : sW} (ha : t_get tbl pc = some (a_callV true f ci 1 np)) (ho : hO D w0 w) (hl : hL lv ps) (hc : cIs c = some ci) (h2 : Nat.ble (st.map fun v => v.category).sum 8 = true) (h3 : xa (wfV 241) st = true) (hf : f [.ref c] w = some (none, w', 0, 0)) (g : Tp tbl Po np (lv, st, w', 0, 0)) : Tp tbl Po pc (lv, .ref c :: st, w, 0, 0) := h_callVg (na := 1) (as := []) (r := none) rfl (Nat.ble_eq.mpr (by simp)) h2 h3 rfl ha ho hl hc hf g
theorem h_V2 {f : List Value → sW → Option sR} {ci c : Nat} {x1 : Value} {v : Value} {w' : sW} (ha : t_get tbl pc = some (a_callV false f ci 2 np)) (ho : hO D w0 w) (hl : hL lv ps) (hc : cIs c = some ci) (h2 : Nat.ble (st.map fun v => v.category).sum 8 = true) (h3 : xa (wfV 241) st = true) (hf : f [.ref c, x1] w = some (some v, w', 0, 0)) (g : Tp tbl Po np (lv, v :: st, w', 0, 0)) : Tp tbl Po pc (lv, x1 :: .ref c :: st, w, 0, 0) := h_callVg (na := 2) (as := [x1]) (r := some v) rfl (Nat.ble_eq.mpr (by simp)) h2 h3 rfl ha ho hl hc hf g
theorem h_W2 {f : List Value → sW → Option sR} {ci c : Nat} {x1 : Value} {w' : sW} (ha : t_get tbl pc = some (a_callV true f ci 2 np)) (ho : hO D w0 w) (hl : hL lv ps) (hc : cIs c = some ci) (h2 : Nat.ble (st.map fun v => v.category).sum 8 = true) (h3 : xa (wfV 241) st = true) (hf : f [.ref c, x1] w = some (none, w', 0, 0)) (g : Tp tbl Po np (lv, st, w', 0, 0)) : Tp tbl Po pc (lv, x1 :: .ref c :: st, w, 0, 0) := h_callVg (na := 2) (as := [x1]) (r := none) rfl (Nat.ble_eq.mpr (by simp)) h2 h3 rfl ha ho hl hc hf g
theorem h_V3 {f : List Value → sW → Option sR} {ci c : Nat} {x1 x2 : Value} {v : Value} {w' : sW} (ha : t_get tbl pc = some (a_callV false f ci 3 np)) (ho : hO D w0 w) (hl : hL lv ps) (hc : cIs c = some ci) (h2 : Nat.ble (st.map fun v => v.category).sum 8 = true) (h3 : xa (wfV 241) st = true) (hf : f [.ref c, x1, x2] w = some (some v, w', 0, 0)) (g : Tp tbl Po np (lv, v :: st, w', 0, 0)) : Tp tbl Po pc (lv, x2 :: x1 :: .ref c :: st, w, 0, 0) := h_callVg (na := 3) (as := [x1, x2]) (r := some v) rfl (Nat.ble_eq.mpr (by simp)) h2 h3 rfl ha ho hl hc hf g
theorem h_W3 {f : List Value → sW → Option sR} {ci c : Nat} {x1 x2 : Value} {w' : sW} (ha : t_get tbl pc = some (a_callV true f ci 3 np)) (ho : hO D w0 w) (hl : hL lv ps) (hc : cIs c = some ci) (h2 : Nat.ble (st.map fun v => v.category).sum 8 = true) (h3 : xa (wfV 241) st = true) (hf : f [.ref c, x1, x2] w = some (none, w', 0, 0)) (g : Tp tbl Po np (lv, st, w', 0, 0)) : Tp tbl Po pc (lv, x2 :: x1 :: .ref c :: st, w, 0, 0) := h_callVg (na := 3) (as := [x1, x2]) (r := none) rfl (Nat.ble_eq.mpr (by simp)) h2 h3 rfl ha ho hl hc hf g
theorem h_V4 {f : List Value → sW → Option sR} {ci c : Nat} {x1 x2 x3 : Value} {v : Value} {w' : sW} (ha : t_get tbl pc = some (a_callV false f ci 4 np)) (ho : hO D w0 w) (hl : hL lv ps) (hc : cIs c = some ci) (h2 : Nat.ble (st.map fun v => v.category).sum 8 = true) (h3 : xa (wfV 241) st = true) (hf : f [.ref c, x1, x2, x3] w = some (some v, w', 0, 0)) (g : Tp tbl Po np (lv, v :: st, w', 0, 0)) : Tp tbl Po pc (lv, x3 :: x2 :: x1 :: .ref c :: st, w, 0, 0) := h_callVg (na := 4) (as := [x1, x2, x3]) (r := some v) rfl (Nat.ble_eq.mpr (by simp)) h2 h3 rfl ha ho hl hc hf g
theorem h_W4 {f : List Value → sW → Option sR} {ci c : Nat} {x1 x2 x3 : Value} {w' : sW} (ha : t_get tbl pc = some (a_callV true f ci 4 np)) (ho : hO D w0 w) (hl : hL lv ps) (hc : cIs c = some ci) (h2 : Nat.ble (st.map fun v => v.category).sum 8 = true) (h3 : xa (wfV 241) st = true) (hf : f [.ref c, x1, x2, x3] w = some (none, w', 0, 0)) (g : Tp tbl Po np (lv, st, w', 0, 0)) : Tp tbl Po pc (lv, x3 :: x2 :: x1 :: .ref c :: st, w, 0, 0) := h_callVg (na := 4) (as := [x1, x2, x3]) (r := none) rfl (Nat.ble_eq.mpr (by simp)) h2 h3 rfl ha ho hl hc hf g
theorem h_V5 {f : List Value → sW → Option sR} {ci c : Nat} {x1 x2 x3 x4 : Value} {v : Value} {w' : sW} (ha : t_get tbl pc = some (a_callV false f ci 5 np)) (ho : hO D w0 w) (hl : hL lv ps) (hc : cIs c = some ci) (h2 : Nat.ble (st.map fun v => v.category).sum 8 = true) (h3 : xa (wfV 241) st = true) (hf : f [.ref c, x1, x2, x3, x4] w = some (some v, w', 0, 0)) (g : Tp tbl Po np (lv, v :: st, w', 0, 0)) : Tp tbl Po pc (lv, x4 :: x3 :: x2 :: x1 :: .ref c :: st, w, 0, 0) := h_callVg (na := 5) (as := [x1, x2, x3, x4]) (r := some v) rfl (Nat.ble_eq.mpr (by simp)) h2 h3 rfl ha ho hl hc hf g
theorem h_W5 {f : List Value → sW → Option sR} {ci c : Nat} {x1 x2 x3 x4 : Value} {w' : sW} (ha : t_get tbl pc = some (a_callV true f ci 5 np)) (ho : hO D w0 w) (hl : hL lv ps) (hc : cIs c = some ci) (h2 : Nat.ble (st.map fun v => v.category).sum 8 = true) (h3 : xa (wfV 241) st = true) (hf : f [.ref c, x1, x2, x3, x4] w = some (none, w', 0, 0)) (g : Tp tbl Po np (lv, st, w', 0, 0)) : Tp tbl Po pc (lv, x4 :: x3 :: x2 :: x1 :: .ref c :: st, w, 0, 0) := h_callVg (na := 5) (as := [x1, x2, x3, x4]) (r := none) rfl (Nat.ble_eq.mpr (by simp)) h2 h3 rfl ha ho hl hc hf g
theorem h_V6 {f : List Value → sW → Option sR} {ci c : Nat} {x1 x2 x3 x4 x5 : Value} {v : Value} {w' : sW} (ha : t_get tbl pc = some (a_callV false f ci 6 np)) (ho : hO D w0 w) (hl : hL lv ps) (hc : cIs c = some ci) (h2 : Nat.ble (st.map fun v => v.category).sum 8 = true) (h3 : xa (wfV 241) st = true) (hf : f [.ref c, x1, x2, x3, x4, x5] w = some (some v, w', 0, 0)) (g : Tp tbl Po np (lv, v :: st, w', 0, 0)) : Tp tbl Po pc (lv, x5 :: x4 :: x3 :: x2 :: x1 :: .ref c :: st, w, 0, 0) := h_callVg (na := 6) (as := [x1, x2, x3, x4, x5]) (r := some v) rfl (Nat.ble_eq.mpr (by simp)) h2 h3 rfl ha ho hl hc hf g
theorem h_W6 {f : List Value → sW → Option sR} {ci c : Nat} {x1 x2 x3 x4 x5 : Value} {w' : sW} (ha : t_get tbl pc = some (a_callV true f ci 6 np)) (ho : hO D w0 w) (hl : hL lv ps) (hc : cIs c = some ci) (h2 : Nat.ble (st.map fun v => v.category).sum 8 = true) (h3 : xa (wfV 241) st = true) (hf : f [.ref c, x1, x2, x3, x4, x5] w = some (none, w', 0, 0)) (g : Tp tbl Po np (lv, st, w', 0, 0)) : Tp tbl Po pc (lv, x5 :: x4 :: x3 :: x2 :: x1 :: .ref c :: st, w, 0, 0) := h_callVg (na := 6) (as := [x1, x2, x3, x4, x5]) (r := none) rfl (Nat.ble_eq.mpr (by simp)) h2 h3 rfl ha ho hl hc hf g
theorem h_S1 {f : List Value → sW → Option sR} {x1 : Value} {v : Value} {w' : sW} (ha : t_get tbl pc = some (a_callS false f 1 np)) (ho : hO D w0 w) (hl : hL lv ps) (h2 : Nat.ble (st.map fun v => v.category).sum 8 = true) (h3 : xa (wfV 241) st = true) (hf : f [x1] w = some (some v, w', 0, 0)) (g : Tp tbl Po np (lv, v :: st, w', 0, 0)) : Tp tbl Po pc (lv, x1 :: st, w, 0, 0) := h_callSg (na := 1) (r := some v) (Nat.ble_eq.mpr (by simp)) h2 h3 rfl ha ho hl hf g
theorem h_S2 {f : List Value → sW → Option sR} {x1 x2 : Value} {v : Value} {w' : sW} (ha : t_get tbl pc = some (a_callS false f 2 np)) (ho : hO D w0 w) (hl : hL lv ps) (h2 : Nat.ble (st.map fun v => v.category).sum 8 = true) (h3 : xa (wfV 241) st = true) (hf : f [x1, x2] w = some (some v, w', 0, 0)) (g : Tp tbl Po np (lv, v :: st, w', 0, 0)) : Tp tbl Po pc (lv, x2 :: x1 :: st, w, 0, 0) := h_callSg (na := 2) (r := some v) (Nat.ble_eq.mpr (by simp)) h2 h3 rfl ha ho hl hf g
theorem h_S3 {f : List Value → sW → Option sR} {x1 x2 x3 : Value} {v : Value} {w' : sW} (ha : t_get tbl pc = some (a_callS false f 3 np)) (ho : hO D w0 w) (hl : hL lv ps) (h2 : Nat.ble (st.map fun v => v.category).sum 8 = true) (h3 : xa (wfV 241) st = true) (hf : f [x1, x2, x3] w = some (some v, w', 0, 0)) (g : Tp tbl Po np (lv, v :: st, w', 0, 0)) : Tp tbl Po pc (lv, x3 :: x2 :: x1 :: st, w, 0, 0) := h_callSg (na := 3) (r := some v) (Nat.ble_eq.mpr (by simp)) h2 h3 rfl ha ho hl hf g
end HS
/-- a method by its run -/
theorem h_meth {tbl : List (Nat × sA)} {Po : sR → Prop} {nL : Nat} {av : List Value} {w : sW} (hn : Nat.ble (lg_sl av).length nL = true) (h : Tp tbl Po 0 (lv_args 0 av, [], w, 0, 0)) : (∃ r, fW tbl nL av w = some r) ∧ ∀ r, fW tbl nL av w = some r → Po r := by
  have hf : ∀ n, mF tbl nL n av w = runT tbl n 0 (lv_args 0 av, [], w, 0, 0) := by
    intro n
    unfold mF
    rw [hn]
  refine ⟨?_, ?_⟩
  · obtain ⟨⟨n, r, hr⟩, _⟩ := h
    exact fW_of (n := n) (r := r) (by rw [hf]; exact hr)
  · intro r hr
    obtain ⟨n, hn⟩ := fW_some hr
    rw [hf] at hn
    exact h.2 n r hn
theorem h_meth1 {tbl : List (Nat × sA)} {Po : sR → Prop} {nL : Nat} {av : List Value} {w : sW} (hn : Nat.ble (lg_sl av).length nL = true) (h : Tp tbl Po 0 (lv_args 0 av, [], w, 0, 0)) : ∃ r, fW tbl nL av w = some r ∧ Po r := by
  obtain ⟨⟨r, h1⟩, h2⟩ := h_meth hn h
  exact ⟨r, h1, h2 r h1⟩
theorem hO_rf {D : List (Nat × Nat)} {w : sW} (h : wOk ZZ w) : hO D w w := ⟨h, frOk_rf w⟩
theorem hO_tr {D : List (Nat × Nat)} {a b c : sW} (h1 : hO D a b) (h2 : hO D b c) : hO D a c := ⟨h2.1, frOk_tr h1.2 h2.2⟩
theorem hO_mono {D D' : List (Nat × Nat)} {a b : sW} (hs : msub D D' = true) (h : hO D a b) : hO D' a b := ⟨h.1, frOk_mono (msub_ok hs) h.2⟩
end
