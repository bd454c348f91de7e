noncomputable section
/-- locals with longs, where nothing is stored -/
def hM (lv ps : List (Nat × Value)) : Prop := (∀ i v, l_get ps i = some v → l_get lv i = some v) ∧ ∀ q ∈ lv, wfV 241 q.2 = true
section HM
variable {tbl : List (Nat × sA)} {Po : sR → Prop} {pc np : Nat} {lv ps : List (Nat × Value)} {st : List Value} {w w0 : sW} {D : List (Nat × Nat)} {kn : sKn}
theorem m_aload {i c : Nat} (ha : t_get tbl pc = some (a_aload i np)) (hl : hM lv ps) (hg : l_get ps i = some (.ref c)) (g : Tp tbl Po np (lv, .ref c :: st, w, 0, 0)) : Tp tbl Po pc (lv, st, w, 0, 0) := Tp_step ha (fun k => by
  show (match l_get lv i with
    | some (.ref x) => k np (lv, .ref x :: st, w, 0, 0)
    | _ => none) = _
  rw [hl.1 _ _ hg]) g
theorem m_lload {i : Nat} {x : Int64} (ha : t_get tbl pc = some (a_lload i np)) (hl : hM lv ps) (hg : l_get ps i = some (.long x)) (g : Tp tbl Po np (lv, .long x :: st, w, 0, 0)) : Tp tbl Po pc (lv, st, w, 0, 0) := Tp_step ha (fun k => by
  show (match l_get lv i with
    | some (.long x) => k np (lv, .long x :: st, w, 0, 0)
    | _ => none) = _
  rw [hl.1 _ _ hg]) g
theorem m_W2 {f : List Value → sW → Option sR} {ci c : Nat} {x1 : Value} {w' : sW} (ha : t_get tbl pc = some (a_callV true f ci 2 np)) (ho : hO D w0 w) (hl : hM lv ps) (hc : cIs c = some ci) (h2 : Nat.ble (st.map fun v => v.category).sum 8 = true) (h3 : xa (wfV 241) st = true) (hf : f [.ref c, x1] w = some (none, w', 0, 0)) (g : Tp tbl Po np (lv, st, w', 0, 0)) : Tp tbl Po pc (lv, x1 :: .ref c :: st, w, 0, 0) := by
  obtain ⟨fs, k1⟩ := cIs_ok ho hc
  have hn := hO_len ho
  have hok : c_ok (lv, x1 :: .ref c :: st, w, 0, 0) 2 = true := by
    unfold c_ok
    rw [Bool.and_eq_true, Bool.and_eq_true, Bool.and_eq_true]
    refine ⟨⟨⟨Nat.ble_eq.mpr (by simp), h2⟩, ?_⟩, ?_⟩
    · rw [xa_eq, xl_eq, List.all_eq_true]
      exact fun q hq => wf_up (hl.2 q hq) hn
    · rw [xa_eq, List.all_eq_true] at h3
      rw [xa_eq, xl_eq, List.all_eq_true]
      exact fun v hv => wf_up (h3 v hv) hn
  refine Tp_step ha (fun k => ?_) g
  show (match c_ok (lv, x1 :: .ref c :: st, w, 0, 0) 2 with
    | true => match xg w c with
      | some (.inr (c', _)) => if c' = ci then a_back true k np lv st 0 0 (f [.ref c, x1] w) else none
      | _ => none
    | false => none) = _
  rw [hok, xg_eq, k1]
  dsimp only
  rw [if_pos rfl, hf]
  rfl
theorem h_lcmp {x y : Int64} (ha : t_get tbl pc = some (a_stk q_lcmp np)) (g1 : x.toInt < y.toInt → Tp tbl Po np (lv, hI (-1) :: st, w, 0, 0)) (g2 : ¬ x.toInt < y.toInt → ∀ c : Int, (c = 0 ∨ c = 1) → Tp tbl Po np (lv, hI c :: st, w, 0, 0)) : Tp tbl Po pc (lv, .long y :: .long x :: st, w, 0, 0) := by
  by_cases p : x.toInt < y.toInt
  · refine Tp_step ha (fun k => ?_) (g1 p)
    show k np (lv, Value.int (lg_cmp x y) :: st, w, 0, 0) = _
    have e : lg_cmp x y = -1 := by
      unfold lg_cmp
      rw [if_neg (by rw [gt_iff_lt, Int64.lt_iff_toInt_lt]; omega), if_neg (by rw [← Int64.toInt_inj]; omega)]
    rw [e, k_n1]
    rfl
  · by_cases p2 : y.toInt < x.toInt
    · refine Tp_step ha (fun k => ?_) (g2 p 1 (Or.inr rfl))
      show k np (lv, Value.int (lg_cmp x y) :: st, w, 0, 0) = _
      have e : lg_cmp x y = 1 := by
        unfold lg_cmp
        rw [if_pos (by rw [gt_iff_lt, Int64.lt_iff_toInt_lt]; omega)]
      rw [e, k_1]
      rfl
    · refine Tp_step ha (fun k => ?_) (g2 p 0 (Or.inl rfl))
      show k np (lv, Value.int (lg_cmp x y) :: st, w, 0, 0) = _
      have e : lg_cmp x y = 0 := by
        unfold lg_cmp
        rw [if_neg (by rw [gt_iff_lt, Int64.lt_iff_toInt_lt]; omega), if_pos (by rw [← Int64.toInt_inj]; omega)]
      rw [e, k_0]
      rfl
theorem h_ldiv {x y : Int64} (hy : y ≠ 0) (ha : t_get tbl pc = some (a_stk q_ldiv np)) (g : Tp tbl Po np (lv, .long (x / y) :: st, w, 0, 0)) : Tp tbl Po pc (lv, .long y :: .long x :: st, w, 0, 0) := Tp_step ha (fun k => by
  show (match (if y = 0 then none else some (Value.long (x / y) :: st)) with
    | some st => k np (lv, st, w, 0, 0)
    | none => none) = _
  rw [if_neg hy]) g
theorem h_lrem {x y : Int64} (hy : y ≠ 0) (ha : t_get tbl pc = some (a_stk q_lrem np)) (g : ∀ z : Int64, Tp tbl Po np (lv, .long z :: st, w, 0, 0)) : Tp tbl Po pc (lv, .long y :: .long x :: st, w, 0, 0) := Tp_step ha (fun k => by
  show (match (if y = 0 then none else some (Value.long (x - x / y * y) :: st)) with
    | some st => k np (lv, st, w, 0, 0)
    | none => none) = _
  rw [if_neg hy]) (g _)
theorem h_l2i {x : Int64} (ha : t_get tbl pc = some (a_stk q_l2i np)) (g : ∀ z : Int, Tp tbl Po np (lv, hI z :: st, w, 0, 0)) : Tp tbl Po pc (lv, .long x :: st, w, 0, 0) := Tp_step (ss' := (lv, hI x.toInt32.toInt :: st, w, 0, 0)) ha (fun k => by
  rw [← hI_of]
  rfl) (g _)
end HM
def dH_text : List (Nat × Nat) := [(85, 999), (61, 49)]
theorem n27 : (27 : Int64) ≠ 0 := by decide +kernel
theorem t27 : (27 : Int64).toInt = 27 := by decide +kernel
theorem m27 : (27 : Int64) ≠ -1 := by decide +kernel
theorem s_write0 {kn : sKn} {w : sW} (hw : wOk ZZ w) (x : Int) (hx : R32 x) (t : Nat) (ht : gF w 213 49 = (t : Int)) (h64 : t < 64) : ∃ w', fX12_write kn [.ref 213, hI x] w = some (none, w', 0, 0) ∧ hO dH_text w w' ∧ gF w' 213 49 = (t : Int) + 1 := by
  have hx1 := hx.1
  have hx2 := hx.2
  have K : Tp (tX12_write kn) (fun r => ∃ w', r = (none, w', 0, 0) ∧ hO dH_text w w' ∧ gF w' 213 49 = (t : Int) + 1) 0 (lv_args 0 [.ref 213, hI x], [], w, 0, 0) := by
    have l0 : hL (lv_args 0 [.ref 213, hI x]) (lv_args 0 [.ref 213, hI x]) := hL_ex rfl
    have o0 : hO dH_text w w := hO_rf hw
    refine h_aload rfl l0 rfl ?_
    refine h_getR rfl o0 fr_48 ?_
    refine h_aload rfl l0 rfl ?_
    refine h_getI rfl o0 fi_49 (fun b1a b1b => ?_)
    rw [ht] at b1a b1b ⊢
    refine h_iload rfl l0 rfl ?_
    refine h_iastj (t) rfl o0 ai_237 rfl rfl aw_237 (by omega) (by omega) (by omega) (by omega) (by omega) (by unfold R32; omega) (fun w2 o2 q3a q3b q3c => ?_)
    refine h_aload rfl l0 rfl ?_
    refine h_dup rfl rfl ?_
    refine h_getI rfl o2 fi_49 (fun b4a b4b => ?_)
    rw [q3c, ht] at b4a b4b ⊢
    refine h_intv k_1 rfl ?_
    refine h_iadd rfl ?_
    refine h_putI rfl o2 fi_49 rfl (by omega) (by omega) (fun w5 o5 q6a q6b q6c => ?_)
    refine h_vret rfl ?_
    exact ⟨_, rfl, o5, q6a⟩
  obtain ⟨r, h1, w2, h2, h3⟩ := h_meth1 (nL := 2) rfl K
  rw [h2] at h1
  exact ⟨w2, h1, h3⟩
theorem s_write {kn : sKn} {w : sW} (hw : wOk ZZ w) (x : Int) (t : Nat) (ht : gF w 213 49 = (t : Int)) (h64 : t < 64) : ∃ w', fX12_write kn [.ref 213, hI x] w = some (none, w', 0, 0) ∧ hO dH_text w w' ∧ gF w' 213 49 = (t : Int) + 1 := by
  rw [hI_wr x]
  exact s_write0 hw (wr x) (wr_R x) t ht h64
def twP (f : List Value → sW → Option sR) (x : Int64) (w : sW) (k : Nat) : Prop := ∃ w', f [.ref 213, .long x] w = some (none, w', 0, 0) ∧ hO dH_text w w' ∧ gF w' 213 49 ≤ gF w 213 49 + (k : Int)
theorem ww_g {kn : sKn} {g : List Value → sW → Option sR} {w : sW} (hw : wOk ZZ w) (x : Int64) (k : Nat) (hk : 1 ≤ k) (h64 : gF w 213 49 + (k : Int) ≤ 64) (hg : ¬ x.toInt < 27 → 2 ≤ k ∧ twP g (x / 27) w (k - 1)) : twP (fX12_writeWord_g kn g) x w k := by
  have K : Tp (tX12_writeWord_g kn g) (fun r => ∃ w', r = (none, w', 0, 0) ∧ hO dH_text w w' ∧ gF w' 213 49 ≤ gF w 213 49 + (k : Int)) 0 (lv_args 0 [.ref 213, .long x], [], w, 0, 0) := by
    have l0 : hM (lv_args 0 [.ref 213, .long x]) (lv_args 0 [.ref 213, .long x]) := ⟨fun _ _ h => h, fun q hq => by
      rcases List.mem_cons.mp hq with e | e
      · rw [e]; rfl
      · rcases List.mem_cons.mp e with e | e
        · rw [e]; rfl
        · cases e⟩
    have o0 : hO dH_text w w := hO_rf hw
    have b17 : ∀ w1, hO dH_text w w1 → gF w1 213 49 + 1 ≤ gF w 213 49 + (k : Int) → Tp (tX12_writeWord_g kn g) (fun r => ∃ w', r = (none, w', 0, 0) ∧ hO dH_text w w' ∧ gF w' 213 49 ≤ gF w 213 49 + (k : Int)) 17 (lv_args 0 [.ref 213, .long x], [], w1, 0, 0) := by
      intro w1 o1 h1
      obtain ⟨_, _, _, _, _, _, _, a1, a2⟩ := fI_ok o1 fi_49
      obtain ⟨t, ht⟩ : ∃ t : Nat, gF w1 213 49 = (t : Int) := ⟨(gF w1 213 49).toNat, by omega⟩
      refine m_aload rfl l0 rfl ?_
      refine h_intv k_96 rfl ?_
      refine m_lload rfl l0 rfl ?_
      refine h_long rfl ?_
      refine h_lrem n27 rfl (fun z => ?_)
      refine h_l2i rfl (fun y => ?_)
      refine h_iadd rfl ?_
      obtain ⟨w2, f1, f2, f3⟩ := s_write (kn := kn) o1.1 (96 + y) t ht (by omega)
      refine m_W2 rfl o1 l0 ci_213 rfl rfl f1 ?_
      exact h_vret rfl ⟨w2, rfl, hO_tr o1 f2, by omega⟩
    refine m_lload rfl l0 rfl ?_
    refine h_long rfl ?_
    refine h_lcmp rfl (fun e => ?_) (fun e c hc => ?_)
    · refine j_lt (kn := kn) (t := 2) (tgt := 17) (np := 8) rfl (by unfold R32; omega) (fun e1 => ?_) (fun e1 => ?_)
      · exact b17 w o0 (by omega)
      · omega
    · rw [t27] at e
      refine j_lt (kn := kn) (t := 2) (tgt := 17) (np := 8) rfl (by unfold R32; omega) (fun e1 => ?_) (fun e1 => ?_)
      · omega
      · refine m_aload rfl l0 rfl ?_
        refine m_lload rfl l0 rfl ?_
        refine h_long rfl ?_
        refine h_ldiv n27 rfl ?_
        obtain ⟨h2, w1, f1, f2, f3⟩ := hg e
        refine m_W2 rfl o0 l0 ci_213 rfl rfl f1 ?_
        exact b17 w1 f2 (by omega)
  obtain ⟨r, h1, w2, h2, h3⟩ := h_meth1 (nL := 3) rfl K
  rw [h2] at h1
  exact ⟨w2, h1, h3⟩
theorem ww_n {kn : sKn} : ∀ (d k : Nat) (x : Int64) (w : sW), k ≤ d → 1 ≤ k → x.toInt < 27 ^ k → gF w 213 49 + (k : Int) ≤ 64 → wOk ZZ w → twP (fX12_writeWord_n kn d) x w k := by
  intro d
  induction d with
  | zero =>
    intro k x w h1 h2
    omega
  | succ d ih =>
    intro k x w h1 h2 h3 h4 hw
    refine ww_g hw x k h2 h4 (fun hx => ?_)
    have hk : 2 ≤ k := by
      rcases Nat.lt_or_ge k 2 with e | e
      · have : k = 1 := by omega
        subst this
        omega
      · exact e
    refine ⟨hk, ih (k - 1) (x / 27) w (by omega) (by omega) ?_ (by omega) hw⟩
    rw [Int64.toInt_div_of_ne_right x 27 m27, t27, Int.tdiv_eq_ediv_of_nonneg (by omega)]
    refine Int.ediv_lt_of_lt_mul (by decide) ?_
    rw [← Int.pow_succ, show (k - 1).succ = k by omega]
    exact h3
theorem s_writeWord {kn : sKn} {w : sW} (hw : wOk ZZ w) (x : Int64) (h : gF w 213 49 + 14 ≤ 64) : twP (fX12_writeWord kn) x w 14 := ww_n 15 14 x w (by omega) (by omega) (Int.lt_of_le_of_lt (r64 x).2 (by decide)) (by omega) hw
/-- nothing may have changed -/
theorem fr_nil {w w' : sW} (hw : wOk ZZ w) (hw' : wOk ZZ w') (h : frOk ZZ [] w w') : w' = w := by
  apply List.ext_getElem?
  intro k
  cases hc : w[k]? with
  | none =>
    rw [List.getElem?_eq_none_iff] at hc ⊢
    rw [h.1]
    exact hc
  | some c =>
    obtain ⟨p1, p2⟩ := h.2.1 k c hc
    cases ht : ZZ.2 k with
    | none => exact p1 ht
    | some t =>
      have p := p2 t ht
      cases c with
      | inl a => exact p (by simp)
      | inr q =>
        obtain ⟨fs', e1, e2⟩ := p
        rw [e1]
        have : fs' = q.2 := List.ext_getElem? (fun j => e2 j (by simp))
        rw [this]
theorem s_spelt {kn : sKn} {w : sW} (hw : wOk ZZ w) : ∃ x : Int64, fX12_spelt kn [hI 103, hI 97, hI 112, hI 0, hI 0, hI 0, hI 0] w = some (some (.long x), w, 0, 0) := by
  have iv : ∀ z : Int, (0 ≤ z ∧ z ≤ 200) → vOk 0 (z + 0) (hI z) := fun z h => by rw [Int.add_zero]; exact hI_vOk ⟨by omega, by omega⟩
  obtain ⟨⟨r, h1⟩, h2⟩ := con_X12_spelt_0 kn [0, 103, 97, 112, 0, 0, 0, 0] [hI 103, hI 97, hI 112, hI 0, hI 0, hI 0, hI 0] w rfl rfl ⟨⟨103, rfl, iv 103 (by omega)⟩, ⟨97, rfl, iv 97 (by omega)⟩, ⟨112, rfl, iv 112 (by omega)⟩, ⟨0, rfl, iv 0 (by omega)⟩, ⟨0, rfl, iv 0 (by omega)⟩, ⟨0, rfl, iv 0 (by omega)⟩, ⟨0, rfl, iv 0 (by omega)⟩, trivial⟩ (fun q hq => by cases hq) (fun q hq => by
    have key : ∀ (i : Nat) (z : Int), [(0 : Int), 103, 97, 112, 0, 0, 0, 0][i]? = some z → (-2147483648 ≤ z ∧ z ≤ 2147483647) → ∃ z, [(0 : Int), 103, 97, 112, 0, 0, 0, 0][i]? = some z ∧ evOk ZZ z fullI := fun i z h1 h2 => ⟨z, h1, h2⟩
    rcases List.mem_cons.mp hq with rfl | hq
    · exact key 7 0 rfl (by omega)
    rcases List.mem_cons.mp hq with rfl | hq
    · exact key 6 0 rfl (by omega)
    rcases List.mem_cons.mp hq with rfl | hq
    · exact key 5 0 rfl (by omega)
    rcases List.mem_cons.mp hq with rfl | hq
    · exact key 4 0 rfl (by omega)
    rcases List.mem_cons.mp hq with rfl | hq
    · exact key 3 112 rfl (by omega)
    rcases List.mem_cons.mp hq with rfl | hq
    · exact key 2 97 rfl (by omega)
    rcases List.mem_singleton.mp hq with rfl
    exact key 1 103 rfl (by omega)) hw (fun v hv => by
    simp only [List.mem_cons, List.not_mem_nil, or_false] at hv
    rcases hv with rfl | rfl | rfl | rfl | rfl | rfl | rfl <;> rfl)
  obtain ⟨e1, e2, e3, q, e4, σ', e5, e6, e7, e8, e9⟩ := h2 r h1
  obtain ⟨r1, r2, r3⟩ := r
  have e1 : r3 = (0, 0) := e1
  subst e1
  rcases List.mem_singleton.mp e4 with rfl
  have hww : r2 = w := fr_nil hw e3 e2
  subst hww
  cases r1 with
  | none => exact e7.elim
  | some v =>
    obtain ⟨⟨z, d1, d2⟩, _⟩ := e7
    obtain ⟨x, rfl, _⟩ := d2
    exact ⟨x, h1⟩
theorem s_isRow {kn : sKn} {w : sW} (hw : wOk ZZ w) (x : Int) (hx : R32 x) : ∃ b : Int, fX12_isRow kn [.ref 213, hI x] w = some (some (hI b), w, 0, 0) ∧ ((b = 0 ∨ b = 1) ∧ (b = 1 → 0 ≤ x ∧ x < 12)) := by
  have K : Tp (tX12_isRow kn) (fun r => ∃ b : Int, r = (some (hI b), w, 0, 0) ∧ ((b = 0 ∨ b = 1) ∧ (b = 1 → 0 ≤ x ∧ x < 12))) 0 (lv_args 0 [.ref 213, hI x], [], w, 0, 0) := by
    have l0 : hL (lv_args 0 [.ref 213, hI x]) (lv_args 0 [.ref 213, hI x]) := hL_ex rfl
    have o0 : hO [] w w := hO_rf hw
    refine h_iload rfl l0 rfl ?_
    refine h_intv k_0 rfl ?_
    refine h_aload rfl l0 rfl ?_
    refine h_getR rfl o0 fr_14 ?_
    refine h_intv k_0 rfl ?_
    refine h_ialdj (0) rfl o0 ai_215 rfl (by omega) (by omega) (fun b1a b1b => ?_)
    have b1c := gX_in o0 ai_215 ar_rows (j := 0) (by omega) (by omega) (by omega)
    refine h_intv k_1 rfl ?_
    refine h_isub rfl ?_
    obtain ⟨z2, hf2, hz2, hq2⟩ := s_isIn (kn := kn) hw x 0 (gX w 215 0 - 1) hx ⟨by omega, by omega⟩ ⟨by omega, by omega⟩
    refine h_S3 rfl o0 l0 rfl rfl hf2 ?_
    refine h_zret hz2 rfl ?_
    exact ⟨_, rfl, hz2, fun z => by have := hq2.mp z; omega⟩
  obtain ⟨r, h1, b, h2, h3⟩ := h_meth1 (nL := 2) rfl K
  rw [h2] at h1
  exact ⟨b, h1, h3⟩
def dH_plate : List (Nat × Nat) := (61, 0) :: dH_text
theorem dH_plate1 : msub dH_text dH_plate = true := by decide +kernel
theorem h_S7 {tbl : List (Nat × sA)} {Po : sR → Prop} {pc np : Nat} {lv ps : List (Nat × Value)} {st : List Value} {w w0 : sW} {D : List (Nat × Nat)} {f : List Value → sW → Option sR} {x1 x2 x3 x4 x5 x6 x7 v : Value} {w' : sW} (ha : t_get tbl pc = some (a_callS false f 7 np)) (ho : hO D w0 w) (hl : hL lv ps) (h2 : Nat.ble (st.map fun v => v.category).sum 8 = true) (h3 : xa (wfV 241) st = true) (hf : f [x1, x2, x3, x4, x5, x6, x7] w = some (some v, w', 0, 0)) (g : Tp tbl Po np (lv, v :: st, w', 0, 0)) : Tp tbl Po pc (lv, x7 :: x6 :: x5 :: x4 :: x3 :: x2 :: x1 :: st, w, 0, 0) := h_callSg (na := 7) (r := some v) (Nat.ble_eq.mpr (by simp)) h2 h3 rfl ha ho hl hf g
theorem pl_k {kn : sKn} {w0 : sW} (row : Nat) (hrow : row < 12) : ∀ (m k : Nat) (w : sW) (lv : List (Nat × Value)) (x : Int), k + m = 3 → x = (k : Int) → hO dH_plate w0 w → 0 ≤ gF w 213 49 → gF w 213 49 ≤ 15 * (k : Int) → hL lv [(0, .ref 213), (1, hI row), (2, hI x)] → Tp (tX12_plate kn) (fun r => ∃ (w' : sW) (v : Int), r = (some (hI v), w', 0, 0) ∧ hO dH_plate w0 w' ∧ (-2147483648 ≤ v ∧ v ≤ 2147483647)) 22 (lv, [], w, 0, 0) := by
  intro m
  induction m with
  | zero =>
    intro k w lv x hkm hxk o0 h0 h15 l0
    subst hxk
    refine h_iload rfl l0 rfl ?_
    refine h_intv k_3 rfl ?_
    refine i_ge (kn := kn) (t := 3) (tgt := 88) (np := 27) rfl (by unfold R32; omega) (by unfold R32; omega) (fun e1 => ?_) (fun e1 => ?_)
    · refine h_aload rfl l0 rfl ?_
      refine h_getI rfl o0 fi_49 (fun b2a b2b => ?_)
      refine h_iret rfl ?_
      exact ⟨_, _, rfl, o0, by omega⟩
    · omega
  | succ m ih =>
    intro k w lv x hkm hxk o0 h0 h15 l0
    subst hxk
    refine h_iload rfl l0 rfl ?_
    refine h_intv k_3 rfl ?_
    refine i_ge (kn := kn) (t := 3) (tgt := 88) (np := 27) rfl (by unfold R32; omega) (by unfold R32; omega) (fun e1 => ?_) (fun e1 => ?_)
    · omega
    · refine h_iload rfl l0 rfl ?_
      refine j_le (kn := kn) (t := 5) (tgt := 37) (np := 31) rfl (by unfold R32; omega) (fun e2 => ?_) (fun e2 => ?_)
      · refine h_aload rfl l0 rfl ?_
        refine h_getR rfl o0 fr_14 ?_
        refine h_intv k_118 rfl ?_
        refine h_intv k_3 rfl ?_
        refine h_iload rfl l0 rfl ?_
        refine h_imul rfl ?_
        refine h_iadd rfl ?_
        refine h_iload rfl l0 rfl ?_
        refine h_iadd rfl ?_
        refine h_ialdj (118 + 3 * row + k) rfl o0 ai_215 rfl (by omega) (by omega) (fun b3a b3b => ?_)
        have b3c := gX_in o0 ai_215 ar_plank (j := 118 + 3 * row + k) (by omega) (by omega) (by omega)
        refine h_istore rfl l0 (fun vl4 l4 => ?_)
        refine h_aload rfl l4 rfl ?_
        refine h_iload rfl l4 rfl ?_
        refine h_intv k_n1 rfl ?_
        refine i_ne (kn := kn) (t := 1) (tgt := 73) (np := 57) rfl (by unfold R32; omega) (by unfold R32; omega) (fun e5 => ?_) (fun e5 => ?_)
        · refine h_aload rfl l4 rfl ?_
          refine h_getR rfl o0 fr_19 ?_
          refine h_iload rfl l4 rfl ?_
          refine h_lald (gX w 215 (118 + 3 * row + k)).toNat rfl o0 aj_220 rfl (by omega) (by omega) (fun j6 => ?_)
          obtain ⟨wB, hf7, oB', hB⟩ := s_writeWord (kn := kn) o0.1 j6 (by omega)
          have oB : hO dH_plate w0 wB := hO_tr o0 (hO_mono dH_plate1 oB')
          obtain ⟨_, _, _, _, _, _, _, g1, g2⟩ := fI_ok oB fi_49
          refine h_W2 rfl o0 l4 ci_213 rfl rfl hf7 ?_
          refine h_iincv k_1 rfl l4 rfl (fun vl8 l8 => ?_)
          refine h_goto rfl ?_
          exact ih (k + 1) wB _ ((k : Int) + 1) (by omega) (by omega) oB (by omega) (by omega) (hL_take 3 l8)
        · refine h_intv k_103 rfl ?_
          refine h_intv k_97 rfl ?_
          refine h_intv k_112 rfl ?_
          refine h_intv k_0 rfl ?_
          refine h_intv k_0 rfl ?_
          refine h_intv k_0 rfl ?_
          refine h_intv k_0 rfl ?_
          obtain ⟨xs, hf9⟩ := s_spelt (kn := kn) o0.1
          refine h_S7 rfl o0 l4 rfl rfl hf9 ?_
          refine h_goto rfl ?_
          obtain ⟨wB, hf10, oB', hB⟩ := s_writeWord (kn := kn) o0.1 xs (by omega)
          have oB : hO dH_plate w0 wB := hO_tr o0 (hO_mono dH_plate1 oB')
          obtain ⟨_, _, _, _, _, _, _, g1, g2⟩ := fI_ok oB fi_49
          refine h_W2 rfl o0 l4 ci_213 rfl rfl hf10 ?_
          refine h_iincv k_1 rfl l4 rfl (fun vl11 l11 => ?_)
          refine h_goto rfl ?_
          exact ih (k + 1) wB _ ((k : Int) + 1) (by omega) (by omega) oB (by omega) (by omega) (hL_take 3 l11)
      · refine h_aload rfl l0 rfl ?_
        refine h_intv k_45 rfl ?_
        obtain ⟨t0, ht0⟩ : ∃ t : Nat, gF w 213 49 = (t : Int) := ⟨(gF w 213 49).toNat, by omega⟩
        obtain ⟨wA, hf12, oA', hA⟩ := s_write (kn := kn) o0.1 45 t0 ht0 (by omega)
        have oA : hO dH_plate w0 wA := hO_tr o0 (hO_mono dH_plate1 oA')
        refine h_W2 rfl o0 l0 ci_213 rfl rfl hf12 ?_
        refine h_aload rfl l0 rfl ?_
        refine h_getR rfl oA fr_14 ?_
        refine h_intv k_118 rfl ?_
        refine h_intv k_3 rfl ?_
        refine h_iload rfl l0 rfl ?_
        refine h_imul rfl ?_
        refine h_iadd rfl ?_
        refine h_iload rfl l0 rfl ?_
        refine h_iadd rfl ?_
        refine h_ialdj (118 + 3 * row + k) rfl oA ai_215 rfl (by omega) (by omega) (fun b13a b13b => ?_)
        have b13c := gX_in oA ai_215 ar_plank (j := 118 + 3 * row + k) (by omega) (by omega) (by omega)
        refine h_istore rfl l0 (fun vl14 l14 => ?_)
        refine h_aload rfl l14 rfl ?_
        refine h_iload rfl l14 rfl ?_
        refine h_intv k_n1 rfl ?_
        refine i_ne (kn := kn) (t := 1) (tgt := 73) (np := 57) rfl (by unfold R32; omega) (by unfold R32; omega) (fun e15 => ?_) (fun e15 => ?_)
        · refine h_aload rfl l14 rfl ?_
          refine h_getR rfl oA fr_19 ?_
          refine h_iload rfl l14 rfl ?_
          refine h_lald (gX wA 215 (118 + 3 * row + k)).toNat rfl oA aj_220 rfl (by omega) (by omega) (fun j16 => ?_)
          obtain ⟨wB, hf17, oB', hB⟩ := s_writeWord (kn := kn) oA.1 j16 (by omega)
          have oB : hO dH_plate w0 wB := hO_tr oA (hO_mono dH_plate1 oB')
          obtain ⟨_, _, _, _, _, _, _, g1, g2⟩ := fI_ok oB fi_49
          refine h_W2 rfl oA l14 ci_213 rfl rfl hf17 ?_
          refine h_iincv k_1 rfl l14 rfl (fun vl18 l18 => ?_)
          refine h_goto rfl ?_
          exact ih (k + 1) wB _ ((k : Int) + 1) (by omega) (by omega) oB (by omega) (by omega) (hL_take 3 l18)
        · refine h_intv k_103 rfl ?_
          refine h_intv k_97 rfl ?_
          refine h_intv k_112 rfl ?_
          refine h_intv k_0 rfl ?_
          refine h_intv k_0 rfl ?_
          refine h_intv k_0 rfl ?_
          refine h_intv k_0 rfl ?_
          obtain ⟨xs, hf19⟩ := s_spelt (kn := kn) oA.1
          refine h_S7 rfl oA l14 rfl rfl hf19 ?_
          refine h_goto rfl ?_
          obtain ⟨wB, hf20, oB', hB⟩ := s_writeWord (kn := kn) oA.1 xs (by omega)
          have oB : hO dH_plate w0 wB := hO_tr oA (hO_mono dH_plate1 oB')
          obtain ⟨_, _, _, _, _, _, _, g1, g2⟩ := fI_ok oB fi_49
          refine h_W2 rfl oA l14 ci_213 rfl rfl hf20 ?_
          refine h_iincv k_1 rfl l14 rfl (fun vl21 l21 => ?_)
          refine h_goto rfl ?_
          exact ih (k + 1) wB _ ((k : Int) + 1) (by omega) (by omega) oB (by omega) (by omega) (hL_take 3 l21)
theorem s_plate {kn : sKn} {w0 : sW} (hw : wOk ZZ w0) (row : Int) (hrow : R32 row) : ∃ (w' : sW) (v : Int), fX12_plate kn [.ref 213, hI row] w0 = some (some (hI v), w', 0, 0) ∧ hO dH_plate w0 w' ∧ (-2147483648 ≤ v ∧ v ≤ 2147483647) := by
  have hr1 := hrow.1
  have hr2 := hrow.2
  have K : Tp (tX12_plate kn) (fun r => ∃ (w' : sW) (v : Int), r = (some (hI v), w', 0, 0) ∧ hO dH_plate w0 w' ∧ (-2147483648 ≤ v ∧ v ≤ 2147483647)) 0 (lv_args 0 [.ref 213, hI row], [], w0, 0, 0) := by
    have l0 : hL (lv_args 0 [.ref 213, hI row]) (lv_args 0 [.ref 213, hI row]) := hL_ex rfl
    have o0 : hO dH_plate w0 w0 := hO_rf hw
    refine h_aload rfl l0 rfl ?_
    refine h_intv k_0 rfl ?_
    refine h_putI rfl o0 fi_0 rfl (by omega) (by omega) (fun w1 o1 q2a q2b q2c => ?_)
    refine h_aload rfl l0 rfl ?_
    refine h_iload rfl l0 rfl ?_
    obtain ⟨z3, hf3, hz3, hq3⟩ := s_isRow (kn := kn) o1.1 row hrow
    refine h_V2 rfl o1 l0 ci_213 rfl rfl hf3 ?_
    refine j_ne (kn := kn) (t := 1) (tgt := 15) (np := 13) rfl (by unfold R32; omega) (fun e4 => ?_) (fun e4 => ?_)
    · refine h_aload rfl l0 rfl ?_
      refine h_intv k_0 rfl ?_
      refine h_putI rfl o1 fi_49 rfl (by omega) (by omega) (fun w5 o5 q6a q6b q6c => ?_)
      refine h_intv k_0 rfl ?_
      refine h_istore rfl l0 (fun vl7 l7 => ?_)
      have hl5 := hq3 (by omega)
      obtain ⟨rn, rfl⟩ : ∃ rn : Nat, row = (rn : Int) := ⟨row.toNat, by omega⟩
      exact pl_k rn (by omega) 3 0 _ _ 0 rfl rfl o5 (by rw [q6a]; omega) (by rw [q6a]; omega) l7
    · refine h_intv k_n1 rfl ?_
      refine h_iret rfl ?_
      exact ⟨_, _, rfl, o1, by omega⟩
  obtain ⟨r, h1, w2, b, h2, h3⟩ := h_meth1 (nL := 4) rfl K
  rw [h2] at h1
  exact ⟨w2, b, h1, h3⟩
end
