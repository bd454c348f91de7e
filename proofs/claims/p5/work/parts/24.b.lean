noncomputable section
section HRW
variable {tbl : List (Nat × sA)} {Po : sR → Prop} {pc np : Nat} {lv : List (Nat × Value)} {st : List Value} {w : sW} {n m : Nat} {kn : sKn}
theorem r_aload {i c : Nat} (ha : t_get tbl pc = some (a_aload i np)) (hg : l_get lv i = some (.ref c)) (g : Tp tbl Po np (lv, .ref c :: st, w, n, m)) : Tp tbl Po pc (lv, st, w, n, m) := Tp_step ha (fun k => by
  show (match l_get lv i with
    | some (.ref x) => k np (lv, .ref x :: st, w, n, m)
    | _ => none) = _
  rw [hg]) g
theorem r_iload {i : Nat} {z : Int} (ha : t_get tbl pc = some (a_iload i np)) (hg : l_get lv i = some (hI z)) (g : Tp tbl Po np (lv, hI z :: st, w, n, m)) : Tp tbl Po pc (lv, st, w, n, m) := Tp_step ha (fun k => by
  show (match l_get lv i with
    | some (.int x) => k np (lv, .int x :: st, w, n, m)
    | some (.float u) => k np (lv, .float u :: st, w, n, m)
    | _ => none) = _
  rw [hg]
  rfl) g
theorem r_istore {i : Nat} {z : Int} (ha : t_get tbl pc = some (a_istore i np)) (g : Tp tbl Po np (l_put lv i (hI z), st, w, n, m)) : Tp tbl Po pc (lv, hI z :: st, w, n, m) := Tp_step ha (fun _ => rfl) g
theorem r_astore {i c : Nat} (ha : t_get tbl pc = some (a_astore i np)) (g : Tp tbl Po np (l_put lv i (.ref c), st, w, n, m)) : Tp tbl Po pc (lv, .ref c :: st, w, n, m) := Tp_step ha (fun _ => rfl) g
theorem r_goto {tgt : Nat} (ha : t_get tbl pc = some (a_goto tgt)) (g : Tp tbl Po tgt (lv, st, w, n, m)) : Tp tbl Po pc (lv, st, w, n, m) := Tp_step ha (fun _ => rfl) g
theorem r_intv {v : Int32} {z : Int} (hv : v = Int32.ofInt z) (ha : t_get tbl pc = some (a_stk (q_int v) np)) (g : Tp tbl Po np (lv, hI z :: st, w, n, m)) : Tp tbl Po pc (lv, st, w, n, m) := by
  subst hv
  exact Tp_step ha (fun _ => rfl) g
theorem r_iadd {a b : Int} (ha : t_get tbl pc = some (a_stk q_iadd np)) (g : Tp tbl Po np (lv, hI (a + b) :: st, w, n, m)) : Tp tbl Po pc (lv, hI b :: hI a :: st, w, n, m) := Tp_step (ss' := (lv, hI (a + b) :: st, w, n, m)) ha (fun k => by
  show k np (lv, Value.int (Int32.ofInt a + Int32.ofInt b) :: st, w, n, m) = _
  rw [← Int32.ofInt_add]
  rfl) g
theorem r_isub {a b : Int} (ha : t_get tbl pc = some (a_stk q_isub np)) (g : Tp tbl Po np (lv, hI (a - b) :: st, w, n, m)) : Tp tbl Po pc (lv, hI b :: hI a :: st, w, n, m) := Tp_step (ss' := (lv, hI (a - b) :: st, w, n, m)) ha (fun k => by
  show k np (lv, Value.int (Int32.ofInt a - Int32.ofInt b) :: st, w, n, m) = _
  rw [← Int32.ofInt_sub]
  rfl) g
theorem sh0 : (Int32.ofInt 0 &&& 31 : Int32) = 0 := by decide +kernel
/-- shifts by the coder, which is 0 -/
theorem r_ishr {a : Int} (ha : t_get tbl pc = some (a_stk q_ishr np)) (g : Tp tbl Po np (lv, hI a :: st, w, n, m)) : Tp tbl Po pc (lv, hI 0 :: hI a :: st, w, n, m) := Tp_step (ss' := (lv, hI a :: st, w, n, m)) ha (fun k => by
  show k np (lv, Value.int (Int32.ofInt a >>> (Int32.ofInt 0 &&& 31)) :: st, w, n, m) = _
  rw [sh0, Int32.shiftRight_zero]
  rfl) g
theorem r_ishl {a : Int} (ha : t_get tbl pc = some (a_stk q_ishl np)) (g : Tp tbl Po np (lv, hI a :: st, w, n, m)) : Tp tbl Po pc (lv, hI 0 :: hI a :: st, w, n, m) := Tp_step (ss' := (lv, hI a :: st, w, n, m)) ha (fun k => by
  show k np (lv, Value.int (Int32.ofInt a <<< (Int32.ofInt 0 &&& 31)) :: st, w, n, m) = _
  rw [sh0, Int32.shiftLeft_zero]
  rfl) g
theorem r_dup {a : Value} (hc : a.category = 1) (ha : t_get tbl pc = some (a_stk q_dup np)) (g : Tp tbl Po np (lv, a :: a :: st, w, n, m)) : Tp tbl Po pc (lv, a :: st, w, n, m) := Tp_step ha (fun k => by simp only [a_stk, q_dup, hc, if_true]) g
theorem r_dup_x1 {a b : Value} (hc : a.category = 1) (hd : b.category = 1) (ha : t_get tbl pc = some (a_stk q_dup_x1 np)) (g : Tp tbl Po np (lv, a :: b :: a :: st, w, n, m)) : Tp tbl Po pc (lv, a :: b :: st, w, n, m) := Tp_step ha (fun k => by simp only [a_stk, q_dup_x1, hc, hd, and_self, if_true]) g
theorem r_pop {a : Value} (hc : a.category = 1) (ha : t_get tbl pc = some (a_stk q_pop np)) (g : Tp tbl Po np (lv, st, w, n, m)) : Tp tbl Po pc (lv, a :: st, w, n, m) := Tp_step ha (fun k => by simp only [a_stk, q_pop, hc, if_true]) g
theorem r_i2b {a : Int} (ha : t_get tbl pc = some (a_stk q_i2b np)) (g : ∀ z : Int, Tp tbl Po np (lv, hI z :: st, w, n, m)) : Tp tbl Po pc (lv, hI a :: st, w, n, m) := Tp_step (ss' := (lv, hI (((Int32.ofInt a).toInt8.toInt32)).toInt :: st, w, n, m)) ha (fun k => by
  rw [← hI_of]
  rfl) (g _)
theorem c_256 : ∀ a < 256, ((Int32.ofInt (a : Nat)).toUInt32 % 65536).toInt32 = Int32.ofInt (a : Nat) := by decide +kernel
theorem r_i2c {a : Int} (h : 0 ≤ a ∧ a ≤ 255) (ha : t_get tbl pc = some (a_stk q_i2c np)) (g : Tp tbl Po np (lv, hI a :: st, w, n, m)) : Tp tbl Po pc (lv, hI a :: st, w, n, m) := Tp_step (ss' := (lv, hI a :: st, w, n, m)) ha (fun k => by
  obtain ⟨b, rfl⟩ : ∃ b : Nat, a = (b : Int) := ⟨a.toNat, by omega⟩
  show k np (lv, Value.int ((Int32.ofInt (b : Int)).toUInt32 % 65536).toInt32 :: st, w, n, m) = _
  rw [c_256 b (by omega)]
  rfl) g
/-- a byte, as a char -/
theorem c_255 (x : Int32) : ∃ z : Int, (0 ≤ z ∧ z ≤ 255) ∧ (x &&& 255) = Int32.ofInt z := by
  have h : (x &&& 255).toBitVec.toNat ≤ 255 := by
    rw [Int32.toBitVec_and, BitVec.toNat_and]
    exact Nat.and_le_right
  refine ⟨(x &&& 255).toInt, ?_, (Int32.ofInt_toInt _).symm⟩
  rw [Int32.toInt, BitVec.toInt_eq_toNat_of_lt (by omega)]
  omega
theorem r_iand255 {x : Int32} (ha : t_get tbl pc = some (a_stk q_iand np)) (g : ∀ z : Int, 0 ≤ z ∧ z ≤ 255 → Tp tbl Po np (lv, hI z :: st, w, n, m)) : Tp tbl Po pc (lv, hI 255 :: .int x :: st, w, n, m) := by
  obtain ⟨z, h1, h2⟩ := c_255 x
  refine Tp_step (ss' := (lv, hI z :: st, w, n, m)) ha (fun k => ?_) (g z h1)
  show k np (lv, Value.int (x &&& 255) :: st, w, n, m) = _
  rw [h2]
  rfl
theorem l31 (x : Int64) : 0 ≤ (x &&& 31).toInt32.toInt ∧ (x &&& 31).toInt32.toInt ≤ 31 := by
  have h : ((x &&& 31).toInt32).toBitVec.toNat ≤ 31 := by
    rw [Int64.toBitVec_toInt32, BitVec.signExtend_eq_setWidth_of_le _ (by decide), Int64.toBitVec_and, BitVec.toNat_setWidth, BitVec.toNat_and]
    exact Nat.le_trans (Nat.mod_le _ _) Nat.and_le_right
  rw [Int32.toInt, BitVec.toInt_eq_toNat_of_lt (by omega)]
  omega
theorem r_lload {i : Nat} {x : Int64} (ha : t_get tbl pc = some (a_lload i np)) (hg : l_get lv i = some (.long x)) (g : Tp tbl Po np (lv, .long x :: st, w, n, m)) : Tp tbl Po pc (lv, st, w, n, m) := Tp_step ha (fun k => by
  show (match l_get lv i with
    | some (.long x) => k np (lv, .long x :: st, w, n, m)
    | _ => none) = _
  rw [hg]) g
theorem r_long {v : Int64} (ha : t_get tbl pc = some (a_stk (q_long v) np)) (g : Tp tbl Po np (lv, .long v :: st, w, n, m)) : Tp tbl Po pc (lv, st, w, n, m) := Tp_step ha (fun _ => rfl) g
theorem r_lushr {x : Int64} {a : Int} (ha : t_get tbl pc = some (a_stk q_lushr np)) (g : ∀ y : Int64, Tp tbl Po np (lv, .long y :: st, w, n, m)) : Tp tbl Po pc (lv, hI a :: .long x :: st, w, n, m) := Tp_step ha (fun _ => rfl) (g _)
theorem r_land31 {x : Int64} (ha : t_get tbl pc = some (a_stk q_land np)) (g : Tp tbl Po np (lv, .long (x &&& 31) :: st, w, n, m)) : Tp tbl Po pc (lv, .long 31 :: .long x :: st, w, n, m) := Tp_step ha (fun _ => rfl) g
theorem r_l2i31 {x : Int64} (ha : t_get tbl pc = some (a_stk q_l2i np)) (g : ∀ z : Int, 0 ≤ z ∧ z ≤ 31 → Tp tbl Po np (lv, hI z :: st, w, n, m)) : Tp tbl Po pc (lv, .long (x &&& 31) :: st, w, n, m) := Tp_step (ss' := (lv, hI ((x &&& 31).toInt32).toInt :: st, w, n, m)) ha (fun k => by
  rw [← hI_of]
  rfl) (g _ (l31 x))
theorem r_imul {a b : Int} (ha : t_get tbl pc = some (a_stk q_imul np)) (g : Tp tbl Po np (lv, hI (a * b) :: st, w, n, m)) : Tp tbl Po pc (lv, hI b :: hI a :: st, w, n, m) := Tp_step (ss' := (lv, hI (a * b) :: st, w, n, m)) ha (fun k => by
  show k np (lv, Value.int (Int32.ofInt a * Int32.ofInt b) :: st, w, n, m) = _
  rw [← Int32.ofInt_mul]
  rfl) g
theorem r_iincv {i : Nat} {z d : Int} {v : Int32} (hv : v = Int32.ofInt d) (ha : t_get tbl pc = some (a_iinc i v np)) (hg : l_get lv i = some (hI z)) (g : Tp tbl Po np (l_put lv i (hI (z + d)), st, w, n, m)) : Tp tbl Po pc (lv, st, w, n, m) := by
  subst hv
  refine Tp_step (ss' := (l_put lv i (hI (z + d)), st, w, n, m)) ha (fun k => ?_) g
  show (match l_get lv i with
    | some (.int x) => k np (l_put lv i (.int (x + Int32.ofInt d)), st, w, n, m)
    | _ => none) = _
  rw [hg]
  unfold hI
  rw [Int32.ofInt_add]
theorem r_iald {c j t : Nat} {vs : List Value} {z : Int} {i : Int} (ha : t_get tbl pc = some (a_iald np)) (hc : w[c]? = some (.inl (1, vs))) (hv : vs[j]? = some (hI z)) (hi : i = (j : Int)) (hj : j < 1000000) (g : Tp tbl Po np (lv, hI z :: st, w, n, m)) : Tp tbl Po pc (lv, hI i :: .ref c :: st, w, n, m) := by
  subst hi
  have e := ixN_hI (i := (j : Int)) (by omega) (by omega)
  rw [show (j : Int).toNat = j by omega] at e
  have e3 : Nat.blt j 2147483648 = true := Nat.blt_eq.mpr (by omega)
  refine Tp_step ha (fun k => ?_) g
  show a_iald np k (lv, Value.int (Int32.ofInt (j : Int)) :: .ref c :: st, w, n, m) = _
  simp only [a_iald, xg_eq, hc, e, e3, hv]
  rfl
theorem r_lald {c j : Nat} {vs : List Value} {i : Int} (ha : t_get tbl pc = some (a_lald np)) (hc : w[c]? = some (.inl (2, vs))) (hj : j < vs.length) (hi : i = (j : Int)) (hj2 : j < 1000000) (g : ∀ x : Int64, Tp tbl Po np (lv, .long x :: st, w, n, m)) : Tp tbl Po pc (lv, hI i :: .ref c :: st, w, n, m) := by
  subst hi
  have e := ixN_hI (i := (j : Int)) (by omega) (by omega)
  rw [show (j : Int).toNat = j by omega] at e
  have e3 : Nat.blt j 2147483648 = true := Nat.blt_eq.mpr (by omega)
  refine Tp_step ha (fun k => ?_) (g (dl vs[j]))
  show a_lald np k (lv, Value.int (Int32.ofInt (j : Int)) :: .ref c :: st, w, n, m) = _
  simp only [a_lald, xg_eq, hc, e, e3, List.getElem?_eq_getElem hj]
/-- bytes -/
theorem r_bald {c j : Nat} {bs : List Value} {x : Int32} {i : Int} (ha : t_get tbl pc = some (a_bald np)) (hc : w[c]? = some (.inl (0, bs))) (hv : bs[j]? = some (.int x)) (hi : i = (j : Int)) (hj : j < 1000000) (g : Tp tbl Po np (lv, .int x :: st, w, n, m)) : Tp tbl Po pc (lv, hI i :: .ref c :: st, w, n, m) := by
  subst hi
  have e := ixN_hI (i := (j : Int)) (by omega) (by omega)
  rw [show (j : Int).toNat = j by omega] at e
  have e3 : Nat.blt j 2147483648 = true := Nat.blt_eq.mpr (by omega)
  refine Tp_step ha (fun k => ?_) g
  show a_bald np k (lv, Value.int (Int32.ofInt (j : Int)) :: .ref c :: st, w, n, m) = _
  simp only [a_bald, xg_eq, hc, e, e3, hv]
  rfl
theorem r_bast {c j : Nat} {bs : List Value} {i z : Int} (ha : t_get tbl pc = some (a_bast np)) (hc : w[c]? = some (.inl (0, bs))) (hj : j < bs.length) (hi : i = (j : Int)) (hj2 : j < 1000000) (g : Tp tbl Po np (lv, st, w.set c (.inl (0, bs.set j (.int (vp_nar .byte (Int32.ofInt z))))), n, m)) : Tp tbl Po pc (lv, hI z :: hI i :: .ref c :: st, w, n, m) := by
  subst hi
  have e := ixN_hI (i := (j : Int)) (by omega) (by omega)
  rw [show (j : Int).toNat = j by omega] at e
  have e3 : Nat.blt j 2147483648 = true := Nat.blt_eq.mpr (by omega)
  refine Tp_step ha (fun k => ?_) g
  show a_bast np k (lv, Value.int (Int32.ofInt z) :: Value.int (Int32.ofInt (j : Int)) :: .ref c :: st, w, n, m) = _
  simp only [a_bast, xg_eq, xs_eq, hc, e, e3, List.getElem?_eq_getElem hj]
theorem r_icmp {b : Int32 → Int32 → Bool} {t tgt : Nat} {x y : Int} {P : Prop} {dP : Decidable P} (ha : t_get tbl pc = some (a_icmp kn b t tgt np)) (hb : b (Int32.ofInt x) (Int32.ofInt y) = decide P) (g1 : P → Tp tbl Po tgt (lv, st, w, n, m)) (g2 : ¬ P → Tp tbl Po np (lv, st, w, n, m)) : Tp tbl Po pc (lv, hI y :: hI x :: st, w, n, m) := by
  by_cases p : P
  · refine Tp_step ha (fun k => ?_) (g1 p)
    show (match b (Int32.ofInt x) (Int32.ofInt y) with
      | true => k tgt (lv, st, w, n, m)
      | false => k np (lv, st, w, n, m)) = _
    rw [hb, decide_eq_true p]
  · refine Tp_step ha (fun k => ?_) (g2 p)
    show (match b (Int32.ofInt x) (Int32.ofInt y) with
      | true => k tgt (lv, st, w, n, m)
      | false => k np (lv, st, w, n, m)) = _
    rw [hb, decide_eq_false p]
theorem r_ifv {b : Int32 → Int32 → Bool} {t tgt : Nat} {x : Int} {P : Prop} {dP : Decidable P} (ha : t_get tbl pc = some (a_if kn b t tgt np)) (hb : b (Int32.ofInt x) 0 = decide P) (g1 : P → Tp tbl Po tgt (lv, st, w, n, m)) (g2 : ¬ P → Tp tbl Po np (lv, st, w, n, m)) : Tp tbl Po pc (lv, hI x :: st, w, n, m) := by
  by_cases p : P
  · refine Tp_step ha (fun k => ?_) (g1 p)
    show (match b (Int32.ofInt x) 0 with
      | true => k tgt (lv, st, w, n, m)
      | false => k np (lv, st, w, n, m)) = _
    rw [hb, decide_eq_true p]
  · refine Tp_step ha (fun k => ?_) (g2 p)
    show (match b (Int32.ofInt x) 0 with
      | true => k tgt (lv, st, w, n, m)
      | false => k np (lv, st, w, n, m)) = _
    rw [hb, decide_eq_false p]
theorem r_get {ci kf c : Nat} {fs : List Value} {v : Value} (ha : t_get tbl pc = some (a_get ci kf np)) (hc : w[c]? = some (.inr (ci, fs))) (hf : fs[kf]? = some v) (g : Tp tbl Po np (lv, v :: st, w, n, m)) : Tp tbl Po pc (lv, .ref c :: st, w, n, m) := Tp_step ha (fun k => by simp only [a_get, xg_eq, hc, Nat.beq_refl, hf]) g
theorem r_put {ci kf c : Nat} {fs : List Value} {v u : Value} {ck : Value → Bool} (hk : ck v = true) (ha : t_get tbl pc = some (a_put ci kf ck np)) (hc : w[c]? = some (.inr (ci, fs))) (hf : fs[kf]? = some u) (g : Tp tbl Po np (lv, st, w.set c (.inr (ci, fs.set kf v)), n, m)) : Tp tbl Po pc (lv, v :: .ref c :: st, w, n, m) := Tp_step ha (fun k => by simp only [a_put, xg_eq, xs_eq, hc, Nat.beq_refl, hf, hk]) g
theorem r_getsI {v : Int32} {z : Int} (hv : v = Int32.ofInt z) (ha : t_get tbl pc = some (a_getsI v np)) (g : Tp tbl Po np (lv, hI z :: st, w, n, m)) : Tp tbl Po pc (lv, st, w, n, m) := by
  subst hv
  exact Tp_step ha (fun _ => rfl) g
theorem r_alen {c L : Nat} {bs : List Value} (ha : t_get tbl pc = some (a_alen np)) (hc : w[c]? = some (.inl (0, bs))) (hL : bs.length = L) (g : Tp tbl Po np (lv, hI (L : Int) :: st, w, n, m)) : Tp tbl Po pc (lv, .ref c :: st, w, n, m) := by
  subst hL
  exact Tp_step (ss' := (lv, hI (bs.length : Int) :: st, w, n, m)) ha (fun k => by
    simp only [a_alen, xg_eq, hc, xl_eq]
    rfl) g
theorem r_strf {v : Value} (ha : t_get tbl pc = some (a_strf v np)) (g : Tp tbl Po np (lv, v :: st, w, n, m)) : Tp tbl Po pc (lv, .ref 1000002 :: st, w, n, m) := Tp_step ha (fun _ => rfl) g
theorem r_alenS (ha : t_get tbl pc = some (a_alenS np)) (g : Tp tbl Po np (lv, hI 3 :: st, w, n, m)) : Tp tbl Po pc (lv, .ref 1000003 :: st, w, n, m) := Tp_step (ss' := (lv, hI 3 :: st, w, n, m)) ha (fun _ => rfl) g
theorem r_ifnn {c tgt : Nat} (ha : t_get tbl pc = some (a_ifnn tgt np)) (g : Tp tbl Po tgt (lv, st, w, n, m)) : Tp tbl Po pc (lv, .ref c :: st, w, n, m) := Tp_step ha (fun _ => rfl) g
theorem r_ldcS (ha : t_get tbl pc = some (a_ldcS np)) (g : Tp tbl Po np (lv, .ref 1000002 :: st, w, n, m)) : Tp tbl Po pc (lv, st, w, n, m) := Tp_step ha (fun _ => rfl) g
theorem r_mmax {x y : Int} (r : R32 x) (s : R32 y) (ha : t_get tbl pc = some (a_mmax np)) (hc : Nat.ble (st.map fun v => v.category).sum 8 = true) (h : x ≤ y) (g : Tp tbl Po np (lv, hI y :: st, w, n, m)) : Tp tbl Po pc (lv, hI y :: hI x :: st, w, n, m) := Tp_step (ss' := (lv, hI y :: st, w, n, m)) ha (fun k => by
  show (if (st.map fun v => v.category).sum ≤ 8 then k np (lv, Value.int (if Int32.ofInt x < Int32.ofInt y then Int32.ofInt y else Int32.ofInt x) :: st, w, n, m) else none) = _
  rw [if_pos (Nat.le_of_ble_eq_true hc)]
  by_cases e : x = y
  · subst e
    rw [ite_self]
    rfl
  · rw [if_pos (show Int32.ofInt x < Int32.ofInt y by rw [Int32.lt_iff_toInt_lt, hI_to r, hI_to s]; omega)]
    rfl) g
theorem r_mmin {x y : Int} (r : R32 x) (s : R32 y) (ha : t_get tbl pc = some (a_mmin np)) (hc : Nat.ble (st.map fun v => v.category).sum 8 = true) (h : x ≤ y) (g : Tp tbl Po np (lv, hI x :: st, w, n, m)) : Tp tbl Po pc (lv, hI y :: hI x :: st, w, n, m) := Tp_step (ss' := (lv, hI x :: st, w, n, m)) ha (fun k => by
  show (if (st.map fun v => v.category).sum ≤ 8 then k np (lv, Value.int (if Int32.ofInt y < Int32.ofInt x then Int32.ofInt y else Int32.ofInt x) :: st, w, n, m) else none) = _
  rw [if_pos (Nat.le_of_ble_eq_true hc), if_neg (show ¬ Int32.ofInt y < Int32.ofInt x by rw [Int32.lt_iff_toInt_lt, hI_to r, hI_to s]; omega)]
  rfl) g
theorem r_iret {z : Int} (ha : t_get tbl pc = some a_iret) (g : Po (some (hI z), w, n, m)) : Tp tbl Po pc (lv, [hI z], w, n, m) := Tp_ret ha (fun _ => rfl) g
theorem r_aret {c : Nat} (ha : t_get tbl pc = some a_aret) (g : Po (some (.ref c), w, n, m)) : Tp tbl Po pc (lv, [.ref c], w, n, m) := Tp_ret ha (fun _ => rfl) g
theorem r_vret (ha : t_get tbl pc = some a_vret) (g : Po (none, w, n, m)) : Tp tbl Po pc (lv, [], w, n, m) := Tp_ret ha (fun _ => rfl) g
theorem r_zret1 (ha : t_get tbl pc = some a_zret) (g : Po (some (hI 1), w, n, m)) : Tp tbl Po pc (lv, [hI 1], w, n, m) := Tp_ret ha (fun _ => rfl) g
theorem r_bret (ha : t_get tbl pc = some a_bret) (g : Po (some (hI 0), w, n, m)) : Tp tbl Po pc (lv, [hI 0], w, n, m) := Tp_ret ha (fun _ => rfl) g
theorem r_cret {z : Int} (hz : 0 ≤ z ∧ z ≤ 255) (ha : t_get tbl pc = some a_cret) (g : Po (some (hI z), w, n, m)) : Tp tbl Po pc (lv, [hI z], w, n, m) := Tp_ret ha (fun _ => by
  have e : Nat.blt (ixN (Int32.ofInt z)) 256 = true := by
    rw [ixN_hI (i := z) (by omega) (by omega)]
    exact Nat.blt_eq.mpr (by omega)
  show (match Nat.blt (ixN (Int32.ofInt z)) 256 with
    | true => some (some (Value.int (Int32.ofInt z)), w, n, m)
    | false => none) = _
  rw [e]
  rfl) g
/-- calls -/
theorem r_callV {f : List Value → sW → Option sR} {vd : Bool} {ci na c : Nat} {stk as : List Value} {fs : List Value} {r : Option Value} {w' : sW} {n' m' : Nat} (hs : (stk.take na).reverse = .ref c :: as) (hok : c_ok (lv, stk, w, n, m) na = true) (hv : (vd || r.isSome) = true) (ha : t_get tbl pc = some (a_callV vd f ci na np)) (hc : w[c]? = some (.inr (ci, fs))) (hf : f (.ref c :: as) w = some (r, w', n', m')) (g : Tp tbl Po np (lv, r.toList ++ stk.drop na, w', n + n', m + m')) : Tp tbl Po pc (lv, stk, w, n, m) := by
  refine Tp_step ha (fun k => ?_) g
  show (match c_ok (lv, stk, w, n, m) na with
    | true => match (stk.take na).reverse with
      | .ref h :: as => match xg w h with
        | some (.inr (c', _)) => if c' = ci then a_back vd k np lv (stk.drop na) n m (f (.ref h :: as) w) else none
        | _ => none
      | _ => none
    | false => none) = _
  rw [hok, hs]
  dsimp only
  rw [xg_eq, hc]
  dsimp only
  rw [if_pos rfl, hf]
  show (match vd || r.isSome with
    | true => k np (lv, r.toList ++ stk.drop na, w', n + n', m + m')
    | false => none) = _
  rw [hv]
theorem r_callS {f : List Value → sW → Option sR} {vd : Bool} {na : Nat} {stk : List Value} {r : Option Value} {w' : sW} {n' m' : Nat} (hok : c_ok (lv, stk, w, n, m) na = true) (hv : (vd || r.isSome) = true) (ha : t_get tbl pc = some (a_callS vd f na np)) (hf : f (stk.take na).reverse w = some (r, w', n', m')) (g : Tp tbl Po np (lv, r.toList ++ stk.drop na, w', n + n', m + m')) : Tp tbl Po pc (lv, stk, w, n, m) := by
  refine Tp_step ha (fun k => ?_) g
  show (match c_ok (lv, stk, w, n, m) na with
    | true => a_back vd k np lv (stk.drop na) n m (f (stk.take na).reverse w)
    | false => none) = _
  rw [hok]
  dsimp only
  rw [hf]
  show (match vd || r.isSome with
    | true => k np (lv, r.toList ++ stk.drop na, w', n + n', m + m')
    | false => none) = _
  rw [hv]
theorem r_callVS {f : List Value → sW → Option sR} {vd : Bool} {na : Nat} {stk as : List Value} {r : Option Value} {w' : sW} {n' m' : Nat} (hs : (stk.take na).reverse = .ref 1000002 :: as) (hok : c_ok (lv, stk, w, n, m) na = true) (hv : (vd || r.isSome) = true) (ha : t_get tbl pc = some (a_callVS vd f na np)) (hf : f (.ref 1000002 :: as) w = some (r, w', n', m')) (g : Tp tbl Po np (lv, r.toList ++ stk.drop na, w', n + n', m + m')) : Tp tbl Po pc (lv, stk, w, n, m) := by
  refine Tp_step ha (fun k => ?_) g
  show (match c_ok (lv, stk, w, n, m) na with
    | true => match (stk.take na).reverse with
      | .ref 1000002 :: as => a_back vd k np lv (stk.drop na) n m (f (.ref 1000002 :: as) w)
      | _ => none
    | false => none) = _
  rw [hok, hs]
  show a_back vd k np lv (stk.drop na) n m (f (.ref 1000002 :: as) w) = _
  rw [hf]
  show (match vd || r.isSome with
    | true => k np (lv, r.toList ++ stk.drop na, w', n + n', m + m')
    | false => none) = _
  rw [hv]
end HRW
end
