noncomputable section
theorem con_use {D : List (Nat × Nat)} {f : List Value → sW → Option sR} {x : eX} (h : Con ZZ D f x) {σ : List Int} {av : List Value} {w : sW} (hl : σ.length = x.2.2.2.1) (h0 : σ[0]? = some 0) (hS : gS σ x.1 av) (hM : gM σ w x.2.1) (hE : gE ZZ σ x.2.2.1) (hw : wOk ZZ w) (hwf : xa (wfV 241) av = true) : ∃ r w', f av w = some (r, w', 0, 0) ∧ hO D w w' ∧ ∃ q ∈ x.2.2.2.2, ∃ σ', ext σ σ' ∧ gS σ' q.2.1 r.toList ∧ gM σ' w' q.2.2.1 ∧ gE ZZ σ' q.2.2.2.1 := by
  have hn := hO_len (D := []) (w0 := w) ⟨hw, frOk_rf w⟩
  obtain ⟨⟨r, k1⟩, k2⟩ := h σ av w hl h0 hS hM hE hw (fun v hv => wf_up (by rw [xa_eq] at hwf; exact List.all_eq_true.mp hwf v hv) hn)
  obtain ⟨e1, e2, e3, q, e4, σ', e5, e6, e7, e8, e9⟩ := k2 r k1
  obtain ⟨r1, r2, r3⟩ := r
  have e1 : r3 = (0, 0) := e1
  subst e1
  exact ⟨r1, r2, k1, ⟨e3, e2⟩, q, e4, σ', e5, e7, e8, e9⟩
theorem av_i {σ : List Int} {i : Nat} {x : Int} (h : σ[i]? = some x) (hx : R32 x) : avOk σ (0, i, 0) (hI x) := ⟨x, h, by show vOk 0 (x + 0) _; rw [Int.add_zero]; exact hI_vOk hx⟩
theorem av_k {σ : List Int} {x : Int} (h : σ[0]? = some 0) (hx : R32 x) : avOk σ (0, 0, x) (hI x) := ⟨0, h, by show vOk 0 (0 + x) _; rw [Int.zero_add]; exact hI_vOk hx⟩
theorem av_r {σ : List Int} {i k : Nat} (h : σ[i]? = some (k : Int)) : avOk σ (2, i, 0) (.ref k) := ⟨_, h, k, rfl, (Int.add_zero _).symm⟩
theorem av_c {σ : List Int} {k : Nat} (h : σ[0]? = some 0) : avOk σ (2, 0, (k : Int)) (.ref k) := ⟨_, h, k, rfl, (Int.zero_add _).symm⟩
theorem av_l {σ : List Int} {i : Nat} {x : Int64} (h : σ[i]? = some x.toInt) : avOk σ (1, i, 0) (.long x) := ⟨_, h, x, rfl, (Int.add_zero _).symm⟩
theorem gE_c {σ : List Int} {q : Nat × eE} {E : List (Nat × eE)} (h : ∃ z, σ[q.1]? = some z ∧ evOk ZZ z q.2) (g : gE ZZ σ E) : gE ZZ σ (q :: E) := List.forall_mem_cons.mpr ⟨h, g⟩
theorem gE_n {σ : List Int} : gE ZZ σ [] := fun q hq => by cases hq
theorem gS_i {σ : List Int} {u : Nat} {o : Int} {r : Option Value} (h : gS σ [(0, u, o)] r.toList) : ∃ z, σ[u]? = some z ∧ r = some (hI (z + o)) ∧ R32 (z + o) := by
  cases r with
  | none => exact h.elim
  | some v =>
    obtain ⟨⟨z, d1, d2⟩, _⟩ := h
    obtain ⟨e, r⟩ := vOk_hI d2
    exact ⟨z, d1, by rw [e], r⟩
theorem gS_v {σ : List Int} {r : Option Value} (h : gS σ [] r.toList) : r = none := by
  cases r with
  | none => rfl
  | some v => exact h.elim
theorem gE_at {σ : List Int} {E : List (Nat × eE)} {u : Nat} {a b z : Int} (h : gE ZZ σ E) (hm : (u, .inl (a, b)) ∈ E) (hz : σ[u]? = some z) : a ≤ z ∧ z ≤ b := by
  obtain ⟨z', h1, h2⟩ := h _ hm
  have h1 : σ[u]? = some z' := h1
  rw [hz] at h1
  cases h1
  exact h2
section HCP
variable {tbl : List (Nat × sA)} {Po : sR → Prop} {pc np : Nat} {lv ps : List (Nat × Value)} {st : List Value} {w w0 : sW} {D : List (Nat × Nat)} {kn : sKn}
/-- a stretch of an array of ints copied onto the same stretch of another of its type -/
theorem h_copyP {a b t n : Nat} {jI jI' mI : Int} (j m : Nat) (ha : t_get tbl pc = some (a_copy np)) (ho : hO D w0 w) (hca : ztau a = some t) (hcb : ztau b = some t) (hn : aIt t = some n) (hj : jI = (j : Int)) (hj' : jI' = (j : Int)) (hl : mI = (m : Int)) (hjm : j + m ≤ n) (hs : Nat.ble n 999 = true) (hm : mIn D t 999 = true) (hst : Nat.ble (st.map fun v => v.category).sum 8 = true) (g : ∀ w', hO D w0 w' → Tp tbl Po np (lv, st, w', 0, 0)) (hq : pOkA D t 999 = true := by rfl) (hb : pOkB D t 0 = true := by rfl) : Tp tbl Po pc (lv, hI mI :: hI jI' :: .ref b :: hI jI :: .ref a :: st, w, 0, 0) := by
  subst hl
  subst hj
  subst hj'
  have hs := Nat.le_of_ble_eq_true hs
  have hst := Nat.le_of_ble_eq_true hst
  obtain ⟨vs, q, k1, k2, k3, k4, k5, k6, k7, k8⟩ := aI_ok ho (aI_of hca hn)
  obtain ⟨us, q', j1, j2, j3, j4, j5, j6, j7, j8⟩ := aI_ok ho (aI_of hcb hn)
  have e0 : (Int32.ofInt (j : Int)).toInt = (j : Int) := hI_to ⟨by omega, by omega⟩
  have en : (Int32.ofInt (m : Int)).toInt = (m : Int) := hI_to ⟨by omega, by omega⟩
  obtain ⟨n1, n2⟩ := clampNeg (x := Int32.ofInt (j : Int)) (by omega)
  obtain ⟨n3, n4⟩ := clampNeg (x := Int32.ofInt (m : Int)) (by omega)
  rw [e0] at n2
  rw [en] at n4
  have c4 : j + m ≤ vs.length := by omega
  have c5 : j + m ≤ us.length := by omega
  have hl := (List.getElem?_eq_some_iff.mp j6).1
  have hw' : wOk ZZ (w.set b (.inl (1, cpyL vs us j j m))) := by
    have := wOk_arr (Z := ZZ) (vs' := cpyL vs us j j m) ho.1 (show ZZ.2 b = some t from j1) j2 (by rw [cpyL_len c4 c5, j7, j4]) (by
      intro i v hv
      rw [cpyL_get c4 c5] at hv
      rw [j3]
      split at hv
      · rename_i h
        rw [show j + (i - j) = i by omega] at hv
        rw [j5, aSg_of hcb, ← aSg_of hca]
        exact k8 i v hv
      · rw [j5]
        exact j8 i v hv)
    rw [j3] at this
    exact this
  refine Tp_step ha (fun k => ?_) (g _ ⟨hw', frOk_arr ho.2 j1 j6 (mIn_mem hm) hq hb (fun i hi => by rw [List.getElem?_eq_none (by rw [cpyL_len c4 c5]; omega), List.getElem?_eq_none (by dsimp only; omega)]) (fun i hi => absurd hi (Nat.not_lt_zero i))⟩)
  show a_copy np k (lv, Value.int (Int32.ofInt (m : Int)) :: Value.int (Int32.ofInt (j : Int)) :: .ref b :: Value.int (Int32.ofInt (j : Int)) :: .ref a :: st, w, 0, 0) = _
  simp only [a_copy, xg_eq, xs_eq, k6, j6]
  rw [if_pos ⟨n1, n1, n3, by rw [n2, n4]; exact c4, by rw [n2, n4]; exact c5, hst⟩, n2, n4]
  rfl
end HCP
theorem ci_54 : cIs 54 = some 1 := by decide +kernel
theorem fr_54_0 : fR 54 1 0 = some 55 := by decide +kernel
theorem fr_54_1 : fR 54 1 1 = some 62 := by decide +kernel
theorem fr_54_2 : fR 54 1 2 = some 63 := by decide +kernel
theorem fr_54_3 : fR 54 1 3 = some 64 := by decide +kernel
theorem fr_54_4 : fR 54 1 4 = some 65 := by decide +kernel
theorem ai_62 : aI 62 = some (40, 48) := by decide +kernel
theorem aw_62 : aP 62 0 48 (-2147483648) 2147483647 = true := by decide +kernel
theorem ar_62 : aR 62 0 48 (-2147483648) 2147483647 = true := by decide +kernel
theorem ai_63 : aI 63 = some (41, 48) := by decide +kernel
theorem aw_63 : aP 63 0 48 (-2147483648) 2147483647 = true := by decide +kernel
theorem ar_63 : aR 63 0 48 (-2147483648) 2147483647 = true := by decide +kernel
theorem ai_64 : aI 64 = some (42, 144) := by decide +kernel
theorem aw_64 : aP 64 0 144 (-1) 9 = true := by decide +kernel
theorem ar_64 : aR 64 0 144 (-1) 9 = true := by decide +kernel
theorem ai_65 : aI 65 = some (43, 36) := by decide +kernel
theorem aw_65 : aP 65 0 36 (-2147483648) 2147483647 = true := by decide +kernel
theorem ar_65 : aR 65 0 36 (-2147483648) 2147483647 = true := by decide +kernel
theorem dv32 {a b : Int} (ra : R32 a) (rb : R32 b) (h0 : 0 ≤ a) : Int32.ofInt a / Int32.ofInt b = Int32.ofInt (a.tdiv b) := by
  have e : (Int32.ofInt a / Int32.ofInt b).toInt = a.tdiv b := by
    rw [Int32.toInt_div_of_ne_left _ _ (fun z => by
      have z2 := congrArg Int32.toInt z
      rw [hI_to ra] at z2
      have m : Int32.minValue.toInt = -2147483648 := by decide
      omega), hI_to ra, hI_to rb]
  rw [← e, Int32.ofInt_toInt]
theorem nz32 {b : Int} (rb : R32 b) (h : 1 ≤ b) : ¬ Int32.ofInt b = 0 := fun z => by
  have z2 := congrArg Int32.toInt z
  rw [hI_to rb] at z2
  have m : (0 : Int32).toInt = 0 := by decide
  omega
section HDV
variable {tbl : List (Nat × sA)} {Po : sR → Prop} {pc np : Nat} {lv ps : List (Nat × Value)} {st : List Value} {w w0 : sW} {D : List (Nat × Nat)} {kn : sKn}
theorem h_idivv {a b : Int} (ra : R32 a) (rb : R32 b) (h0 : 0 ≤ a) (h1 : 1 ≤ b) (ha : t_get tbl pc = some (a_stk q_idiv np)) (g : ∀ z : Int, 0 ≤ z → z ≤ a → Tp tbl Po np (lv, hI z :: st, w, 0, 0)) : Tp tbl Po pc (lv, hI b :: hI a :: st, w, 0, 0) := by
  refine Tp_step (ss' := (lv, hI (a.tdiv b) :: st, w, 0, 0)) ha (fun k => ?_) (g _ (Int.tdiv_nonneg h0 (by omega)) (Int.tdiv_le_self b h0))
  show (match (if Int32.ofInt b = 0 then none else some (Value.int (Int32.ofInt a / Int32.ofInt b) :: st)) with
    | some st' => k np (lv, st', w, 0, 0)
    | none => none) = _
  rw [if_neg (nz32 rb h1), dv32 ra rb h0]
  rfl
theorem h_iremv {a b : Int} (ra : R32 a) (rb : R32 b) (h0 : 0 ≤ a) (h1 : 1 ≤ b) (ha : t_get tbl pc = some (a_stk q_irem np)) (g : ∀ z : Int, 0 ≤ z → z < b → Tp tbl Po np (lv, hI z :: st, w, 0, 0)) : Tp tbl Po pc (lv, hI b :: hI a :: st, w, 0, 0) := by
  have e : a - a.tdiv b * b = a.tmod b := by rw [Int.tmod_def, Int.mul_comm]
  refine Tp_step (ss' := (lv, hI (a.tmod b) :: st, w, 0, 0)) ha (fun k => ?_) (g _ (Int.tmod_nonneg b h0) (Int.tmod_lt_of_pos a (by omega)))
  show (match (if Int32.ofInt b = 0 then none else some (Value.int (Int32.ofInt a - Int32.ofInt a / Int32.ofInt b * Int32.ofInt b) :: st)) with
    | some st' => k np (lv, st', w, 0, 0)
    | none => none) = _
  rw [if_neg (nz32 rb h1), dv32 ra rb h0, ← Int32.ofInt_mul, ← Int32.ofInt_sub, e]
  rfl
theorem h_iaddw {a b : Int} (ha : t_get tbl pc = some (a_stk q_iadd np)) (g : ∀ z : Int, R32 z → Tp tbl Po np (lv, hI z :: st, w, 0, 0)) : Tp tbl Po pc (lv, hI b :: hI a :: st, w, 0, 0) := h_iadd ha (by
  have e : hI (a + b) = hI (Int32.ofInt (a + b)).toInt := hI_of _
  rw [e]
  exact g _ (R32_of _))
end HDV
theorem ait_13 : aIt 13 = some 6 := by decide +kernel
theorem ait_14 : aIt 14 = some 6 := by decide +kernel
theorem ait_19 : aIt 19 = some 36 := by decide +kernel
theorem ait_8 : aIt 8 = some 10 := by decide +kernel
theorem apt_13 : aPt 13 0 6 (-2147483648) 2147483647 = true := by decide +kernel
theorem art_13 : aRt 13 0 6 (-2147483648) 2147483647 = true := by decide +kernel
theorem apt_14 : aPt 14 0 6 0 3 = true := by decide +kernel
theorem art_14 : aRt 14 0 6 0 3 = true := by decide +kernel
theorem apt_19 : aPt 19 0 36 (-1) 9 = true := by decide +kernel
theorem art_19 : aRt 19 0 36 (-1) 9 = true := by decide +kernel
theorem apt_8 : aPt 8 0 10 (-2147483648) 2147483647 = true := by decide +kernel
theorem art_8 : aRt 8 0 10 (-2147483648) 2147483647 = true := by decide +kernel
theorem cit_15 : cIt 15 = some 9 := by decide +kernel
theorem fit_5_2 : fIt 5 7 2 = some (0, 10) := by decide +kernel
theorem frt_15_6 : fRt 15 9 6 = some 19 := by decide +kernel
theorem frt_5_13 : fRt 5 7 13 = some 13 := by decide +kernel
theorem frt_5_14 : fRt 5 7 14 = some 14 := by decide +kernel
theorem frt_5_8 : fRt 5 7 8 = some 8 := by decide +kernel
theorem k_1000000 : (1000000 : Int32) = Int32.ofInt (1000000) := by decide +kernel
theorem s_countWays {kn : sKn} {w : sW} (hw : wOk ZZ w) {k1 : Nat} (hk1 : ztau k1 = some 5) {k2 : Nat} (hk2 : ztau k2 = some 15) (x3 : Int) (hx3 : 0 ≤ x3 ∧ x3 ≤ 35) (x4 : Int) (hx4 : 0 ≤ x4 ∧ x4 ≤ 36) : ∃ (w' : sW) (z : Int), fX0_countWays kn [.ref 54, .ref k1, .ref k2, hI x3, hI x4] w = some (some (hI z), w', 0, 0) ∧ hO dX0_countWays w w' ∧ (R32 z) := by
  obtain ⟨r, w', h1, h2, q, hq, σ', h3, h4, h5, h6⟩ := con_use (con_X0_countWays_0 kn) (σ := [0, (k1 : Int), (k2 : Int), x3, x4]) (av := [.ref 54, .ref k1, .ref k2, hI x3, hI x4]) (w := w) rfl rfl ⟨av_c (k := 54) rfl, av_r rfl, av_r rfl, av_i rfl ⟨by omega, by omega⟩, av_i rfl ⟨by omega, by omega⟩, trivial⟩ (fun q hq => by cases hq) (gE_c ⟨_, rfl, hx4⟩ (gE_c ⟨_, rfl, hx3⟩ (gE_c ⟨_, rfl, _, rfl, hk2⟩ (gE_c ⟨_, rfl, _, rfl, hk1⟩ (gE_n))))) hw (by simp only [xa_eq, List.all_cons, List.all_nil, Bool.and_true, Bool.and_eq_true]; exact ⟨rfl, tw hk1, tw hk2, rfl, rfl⟩)
  rcases List.mem_singleton.mp hq with rfl
  obtain ⟨z, z1, z2, z3⟩ := gS_i h4
  rw [z2] at h1
  have z5 := gE_at (a := (-2147483648)) (b := 2147483647) h6 (by first | exact List.mem_cons_self | exact List.mem_cons_of_mem _ List.mem_cons_self | exact List.mem_cons_of_mem _ (List.mem_cons_of_mem _ List.mem_cons_self) | exact List.mem_cons_of_mem _ (List.mem_cons_of_mem _ (List.mem_cons_of_mem _ List.mem_cons_self)) | decide) z1
  refine ⟨w', _, h1, h2, ?_⟩
  exact z3
theorem s_bearTog {kn : sKn} {w : sW} (hw : wOk ZZ w) {k1 : Nat} (hk1 : ztau k1 = some 5) (x2 : Int) (hx2 : 0 ≤ x2 ∧ x2 ≤ 35) (x3 : Int) (hx3 : 0 ≤ x3 ∧ x3 ≤ 36) : ∃ (w' : sW) (z : Int), fX0_bearTogether kn [.ref 54, .ref k1, hI x2, hI x3] w = some (some (hI z), w', 0, 0) ∧ hO dX0_bearTogether w w' ∧ (R32 z) := by
  obtain ⟨r, w', h1, h2, q, hq, σ', h3, h4, h5, h6⟩ := con_use (con_X0_bearTogether_0 kn) (σ := [0, (k1 : Int), x2, x3]) (av := [.ref 54, .ref k1, hI x2, hI x3]) (w := w) rfl rfl ⟨av_c (k := 54) rfl, av_r rfl, av_i rfl ⟨by omega, by omega⟩, av_i rfl ⟨by omega, by omega⟩, trivial⟩ (fun q hq => by cases hq) (gE_c ⟨_, rfl, hx3⟩ (gE_c ⟨_, rfl, hx2⟩ (gE_c ⟨_, rfl, _, rfl, hk1⟩ (gE_n)))) hw (by simp only [xa_eq, List.all_cons, List.all_nil, Bool.and_true, Bool.and_eq_true]; exact ⟨rfl, tw hk1, rfl, rfl⟩)
  rcases List.mem_singleton.mp hq with rfl
  obtain ⟨z, z1, z2, z3⟩ := gS_i h4
  rw [z2] at h1
  have z5 := gE_at (a := (-2147483648)) (b := 2147483647) h6 (by first | exact List.mem_cons_self | exact List.mem_cons_of_mem _ List.mem_cons_self | exact List.mem_cons_of_mem _ (List.mem_cons_of_mem _ List.mem_cons_self) | exact List.mem_cons_of_mem _ (List.mem_cons_of_mem _ (List.mem_cons_of_mem _ List.mem_cons_self)) | decide) z1
  refine ⟨w', _, h1, h2, ?_⟩
  exact z3
theorem s_livesA_ {kn : sKn} {w : sW} (hw : wOk ZZ w) {k1 : Nat} (hk1 : ztau k1 = some 15) (x2 : Int) (hx2 : 0 ≤ x2 ∧ x2 ≤ 9) : ∃ (w' : sW) (z : Int), fX8_lives kn [.ref k1, hI x2] w = some (some (hI z), w', 0, 0) ∧ hO dX8_lives w w' ∧ (z = 1 ∨ z = 0) := by
  obtain ⟨r, w', h1, h2, q, hq, σ', h3, h4, h5, h6⟩ := con_use (con_X8_lives_0 kn) (σ := [0, (k1 : Int), x2]) (av := [.ref k1, hI x2]) (w := w) rfl rfl ⟨av_r rfl, av_i rfl ⟨by omega, by omega⟩, trivial⟩ (fun q hq => by cases hq) (gE_c ⟨_, rfl, hx2⟩ (gE_c ⟨_, rfl, _, rfl, hk1⟩ (gE_n))) hw (by simp only [xa_eq, List.all_cons, List.all_nil, Bool.and_true, Bool.and_eq_true]; exact ⟨tw hk1, rfl⟩)
  rcases List.mem_cons.mp hq with rfl | hq
  · obtain ⟨z, z1, z2, z3⟩ := gS_i h4
    rw [z2] at h1
    have z4 := h3 0 0 rfl
    rw [z4] at z1
    cases z1
    refine ⟨w', _, h1, h2, ?_⟩
    omega
  rcases List.mem_singleton.mp hq with rfl
  obtain ⟨z, z1, z2, z3⟩ := gS_i h4
  rw [z2] at h1
  have z4 := h3 0 0 rfl
  rw [z4] at z1
  cases z1
  refine ⟨w', _, h1, h2, ?_⟩
  omega
theorem s_livesA {kn : sKn} {w : sW} (hw : wOk ZZ w) {k1 : Nat} (hk1 : ztau k1 = some 15) (x2 : Int) (hx2 : 0 ≤ x2 ∧ x2 ≤ 9) : ∃ z : Int, fX8_lives kn [.ref k1, hI x2] w = some (some (hI z), w, 0, 0) ∧ (z = 1 ∨ z = 0) := by
  obtain ⟨w', z, h1, h2, h3⟩ := s_livesA_ (kn := kn) hw hk1 x2 hx2
  have e : w' = w := fr_nil hw h2.1 h2.2
  subst e
  exact ⟨z, h1, h3⟩
def dX0_tryWay : List (Nat × Nat) := [(19, 999)]
theorem tw_e {kn : sKn} {w0 w : sW} {p s : Nat} {wy rs mi x : Int} {fr to_ : Nat} {lv : List (Nat × Value)} (hmi : R32 mi) (o0 : hO dX0_tryWay w0 w) (l0 : hL lv [(0, .ref 54), (1, .ref p), (2, .ref s), (3, hI wy), (4, hI fr), (5, hI to_), (6, hI rs), (7, hI mi), (8, hI x)]) : Tp (tX0_tryWay kn) (fun r => ∃ (w' : sW) (z : Int), r = (some (hI z), w', 0, 0) ∧ hO dX0_tryWay w0 w' ∧ R32 z) 99 (lv, [], w, 0, 0) := by
  refine h_iload rfl l0 rfl ?_
  refine h_iret rfl ?_
  exact ⟨_, _, rfl, o0, hmi⟩
theorem tw_l {kn : sKn} {w0 : sW} {p s : Nat} (hp : ztau p = some 5) (hs : ztau s = some 15) {wy : Int} {fr to_ : Nat} (hfr : fr ≤ 35) (hto : to_ ≤ 36) : ∀ (m : Nat) (w : sW) (lv : List (Nat × Value)) (rs mi x : Int), fr + m ≤ 36 → x = ((fr + m : Nat) : Int) - 1 → 0 ≤ rs → rs ≤ 2147483647 → R32 mi → hO dX0_tryWay w0 w → hL lv [(0, .ref 54), (1, .ref p), (2, .ref s), (3, hI wy), (4, hI fr), (5, hI to_), (6, hI rs), (7, hI mi), (8, hI x)] → Tp (tX0_tryWay kn) (fun r => ∃ (w' : sW) (z : Int), r = (some (hI z), w', 0, 0) ∧ hO dX0_tryWay w0 w' ∧ R32 z) 12 (lv, [], w, 0, 0) := by
  intro m
  induction m with
  | zero =>
    intro w lv rs mi x hm hx h0 h9 hmi o0 l0
    obtain rfl : x = (fr : Int) - 1 := by omega
    refine h_iload rfl l0 rfl ?_
    refine h_iload rfl l0 rfl ?_
    refine i_lt (kn := kn) (t := 2) (tgt := 99) (np := 19) rfl (by unfold R32; omega) (by unfold R32; omega) (fun e41 => ?_) (fun e41 => ?_)
    · exact tw_e hmi o0 (hL_take 9 l0)
    · omega
  | succ m ih =>
    intro w lv rs mi x hm hx h0 h9 hmi o0 l0
    obtain ⟨pl, hpl⟩ : ∃ pl : Nat, pl = fr + m := ⟨_, rfl⟩
    obtain rfl : x = (pl : Int) := by omega
    have hmi1 := hmi.1
    have hmi2 := hmi.2
    refine h_iload rfl l0 rfl ?_
    refine h_iload rfl l0 rfl ?_
    refine i_lt (kn := kn) (t := 2) (tgt := 99) (np := 19) rfl (by unfold R32; omega) (by unfold R32; omega) (fun e41 => ?_) (fun e41 => ?_)
    · exact tw_e hmi o0 (hL_take 9 l0)
    · refine h_aload rfl l0 rfl ?_
      refine h_getI rfl o0 (fI_of hp fit_5_2) (fun b42a b42b => ?_)
      refine j_le (kn := kn) (t := 5) (tgt := 99) (np := 26) rfl (by unfold R32; omega) (fun e43 => ?_) (fun e43 => ?_)
      · exact tw_e hmi o0 (hL_take 9 l0)
      · refine h_aload rfl l0 rfl ?_
        refine h_getT rfl o0 hs frt_15_6 (fun k44 hk44 rk44 => ?_)
        refine h_iload rfl l0 rfl ?_
        refine h_ialdj (pl) rfl o0 (aI_of hk44 ait_19) rfl (by omega) (by omega) (fun b45a b45b => ?_)
        refine h_intv k_n1 rfl ?_
        refine i_ne (kn := kn) (t := 1) (tgt := 93) (np := 37) rfl (by unfold R32; omega) (by unfold R32; omega) (fun e46 => ?_) (fun e46 => ?_)
        · refine h_iincv k_n1 rfl l0 rfl (fun vl47 l47 => ?_)
          refine h_goto rfl ?_
          exact ih _ _ (rs) (mi) _ (by omega) (by omega) (by omega) (by omega) ⟨by omega, by omega⟩ o0 (hL_take 9 l47)
        · refine h_iload rfl l0 rfl ?_
          refine h_aload rfl l0 rfl ?_
          refine h_getI rfl o0 (fI_of hp fit_5_2) (fun b48a b48b => ?_)
          refine h_iremv (by unfold R32; omega) (by unfold R32; omega) (by omega) (by omega) rfl (fun z49 z49a z49b => ?_)
          refine h_istore rfl l0 (fun vl50 l50 => ?_)
          refine h_iload rfl l50 rfl ?_
          refine h_aload rfl l50 rfl ?_
          refine h_getI rfl o0 (fI_of hp fit_5_2) (fun b51a b51b => ?_)
          refine h_idivv (by unfold R32; omega) (by unfold R32; omega) (by omega) (by omega) rfl (fun z52 z52a z52b => ?_)
          refine h_istore rfl l50 (fun vl53 l53 => ?_)
          refine h_aload rfl l53 rfl ?_
          refine h_getR rfl o0 fr_54_0 ?_
          refine h_getT rfl o0 (show ztau 55 = some 15 from rfl) frt_15_6 (fun k54 hk54 rk54 => ?_)
          refine h_iload rfl l53 rfl ?_
          refine h_iload rfl l53 rfl ?_
          refine h_iastj (pl) rfl o0 (aI_of hk54 ait_19) rfl rfl (aP_of hk54 apt_19) (by omega) (by omega) (by omega) (by omega) (by omega) (by unfold R32; omega) (fun w55 o55 q56a q56b q56c => ?_)
          refine h_iload rfl l53 rfl ?_
          refine h_aload rfl l53 rfl ?_
          refine h_iload rfl l53 rfl ?_
          obtain ⟨z57, hf57, hz57⟩ := s_livesA (kn := kn) o55.1 hs z49 ⟨by omega, by omega⟩
          refine h_V2 rfl o55 l53 (cI_of hs cit_15) rfl rfl hf57 ?_
          refine j_eq (kn := kn) (t := 0) (tgt := 88) (np := 78) rfl (by unfold R32; omega) (fun e58 => ?_) (fun e58 => ?_)
          · refine h_intv k_1000000 rfl ?_
            refine h_iaddw rfl (fun z59 rz59 => ?_)
            have rz591 := rz59.1
            have rz592 := rz59.2
            refine h_istore rfl l53 (fun vl60 l60 => ?_)
            refine h_iincv k_n1 rfl l60 rfl (fun vl61 l61 => ?_)
            refine h_goto rfl ?_
            exact ih _ _ (z52) (z59) _ (by omega) (by omega) (by omega) (by omega) ⟨by omega, by omega⟩ o55 (hL_take 9 l61)
          · refine h_aload rfl l53 rfl ?_
            refine h_getT rfl o55 hp frt_5_8 (fun k62 hk62 rk62 => ?_)
            refine h_iload rfl l53 rfl ?_
            refine h_ialdj (z49.toNat) rfl o55 (aI_of hk62 ait_8) rfl (by omega) (by omega) (fun b63a b63b => ?_)
            refine h_goto rfl ?_
            refine h_iaddw rfl (fun z64 rz64 => ?_)
            have rz641 := rz64.1
            have rz642 := rz64.2
            refine h_istore rfl l53 (fun vl65 l65 => ?_)
            refine h_iincv k_n1 rfl l65 rfl (fun vl66 l66 => ?_)
            refine h_goto rfl ?_
            exact ih _ _ (z52) (z64) _ (by omega) (by omega) (by omega) (by omega) ⟨by omega, by omega⟩ o55 (hL_take 9 l66)
theorem tw_x {kn : sKn} {w0 : sW} {p s : Nat} (hp : ztau p = some 5) (hs : ztau s = some 15) {wy : Int} {fr to_ : Nat} (hfr : fr ≤ 35) (hto : to_ ≤ 36) {w : sW} {lv : List (Nat × Value)} {rs mi : Int} (hlt : to_ < fr) (hmi : R32 mi) (o0 : hO dX0_tryWay w0 w) (l0 : hL lv [(0, .ref 54), (1, .ref p), (2, .ref s), (3, hI wy), (4, hI fr), (5, hI to_), (6, hI rs), (7, hI mi), (8, hI ((to_ : Int) - 1))]) : Tp (tX0_tryWay kn) (fun r => ∃ (w' : sW) (z : Int), r = (some (hI z), w', 0, 0) ∧ hO dX0_tryWay w0 w' ∧ R32 z) 12 (lv, [], w, 0, 0) := by
  refine h_iload rfl l0 rfl ?_
  refine h_iload rfl l0 rfl ?_
  refine i_lt (kn := kn) (t := 2) (tgt := 99) (np := 19) rfl (by unfold R32; omega) (by unfold R32; omega) (fun e41 => ?_) (fun e41 => ?_)
  · exact tw_e hmi o0 (hL_take 9 l0)
  · omega
theorem s_tryWay0 {kn : sKn} {w0 : sW} (hw : wOk ZZ w0) {p s : Nat} (hp : ztau p = some 5) (hs : ztau s = some 15) (wy : Int) (hwy : 0 ≤ wy ∧ wy ≤ 2147483647) (fr to_ : Nat) (hfr : fr ≤ 35) (hto : to_ ≤ 36) : ∃ (w' : sW) (z : Int), fX0_tryWay kn [.ref 54, .ref p, .ref s, hI wy, hI fr, hI to_] w0 = some (some (hI z), w', 0, 0) ∧ hO dX0_tryWay w0 w' ∧ R32 z := by
  have K : Tp (tX0_tryWay kn) (fun r => ∃ (w' : sW) (z : Int), r = (some (hI z), w', 0, 0) ∧ hO dX0_tryWay w0 w' ∧ R32 z) 0 (lv_args 0 [.ref 54, .ref p, .ref s, hI wy, hI fr, hI to_], [], w0, 0, 0) := by
    have l0 : hL (lv_args 0 [.ref 54, .ref p, .ref s, hI wy, hI fr, hI to_]) (lv_args 0 [.ref 54, .ref p, .ref s, hI wy, hI fr, hI to_]) := ⟨fun _ _ h => h, fun q hq => by
      rcases List.mem_cons.mp hq with e | hq
      · rw [e]
        exact ⟨rfl, rfl⟩
      rcases List.mem_cons.mp hq with e | hq
      · rw [e]
        exact ⟨rfl, tw hp⟩
      rcases List.mem_cons.mp hq with e | hq
      · rw [e]
        exact ⟨rfl, tw hs⟩
      rcases List.mem_cons.mp hq with e | hq
      · rw [e]
        exact ⟨rfl, rfl⟩
      rcases List.mem_cons.mp hq with e | hq
      · rw [e]
        exact ⟨rfl, rfl⟩
      rcases List.mem_cons.mp hq with e | hq
      · rw [e]
        exact ⟨rfl, rfl⟩
      cases hq⟩
    have o0 : hO dX0_tryWay w0 w0 := hO_rf hw
    refine h_iload rfl l0 rfl ?_
    refine h_istore rfl l0 (fun vl41 l41 => ?_)
    refine h_intv k_0 rfl ?_
    refine h_istore rfl l41 (fun vl42 l42 => ?_)
    refine h_iload rfl l42 rfl ?_
    refine h_intv k_1 rfl ?_
    refine h_isub rfl ?_
    refine h_istore rfl l42 (fun vl43 l43 => ?_)
    by_cases e9 : fr ≤ to_
    · exact tw_l hp hs hfr hto (to_ - fr) _ _ wy 0 _ (by omega) (by omega) (by omega) (by omega) ⟨by omega, by omega⟩ o0 l43
    · exact tw_x hp hs hfr hto (by omega) ⟨by omega, by omega⟩ o0 l43
  obtain ⟨r, h1, w2, z, h2, h3⟩ := h_meth1 (nL := 10) rfl K
  rw [h2] at h1
  exact ⟨w2, z, h1, h3⟩
def dH_pr : List (Nat × Nat) := (42, 999) :: (19, 999) :: (dX0_tryWay ++ dX0_countWays ++ dX0_bearTogether)
theorem dH_pr1 : msub dX0_tryWay dH_pr = true := by decide +kernel
theorem dH_pr2 : msub dX0_countWays dH_pr = true := by decide +kernel
theorem dH_pr3 : msub dX0_bearTogether dH_pr = true := by decide +kernel
theorem pr_158 {kn : sKn} {w0 : sW} {p s : Nat} (hp : ztau p = some 5) (hs : ztau s = some 15) {l row k wd : Nat} (hl : l ≤ 5) (hrow : row ≤ 11) (hk : k + wd ≤ 3 ∧ k ≤ 2) {W le wy : Int} {w : sW} {lv : List (Nat × Value)} (o0 : hO dH_pr w0 w) (l0 : hL lv [(0, .ref 54), (1, .ref p), (2, .ref s), (3, hI l), (4, hI row), (5, hI k), (6, hI (3 * row + k)), (7, hI (3 * row + k + wd)), (8, hI W), (9, hI le), (10, hI wy)]) : Tp (tX0_price kn) (fun r => ∃ (w' : sW) (z : Int), r = (some (hI z), w', 0, 0) ∧ hO dH_pr w0 w') 158 (lv, [], w, 0, 0) := by
  refine h_aload rfl l0 rfl ?_
  refine h_getT rfl o0 hs frt_15_6 (fun k41 hk41 rk41 => ?_)
  refine h_iload rfl l0 rfl ?_
  refine h_aload rfl l0 rfl ?_
  refine h_getR rfl o0 fr_54_0 ?_
  refine h_getT rfl o0 (show ztau 55 = some 15 from rfl) frt_15_6 (fun k42 hk42 rk42 => ?_)
  refine h_iload rfl l0 rfl ?_
  refine h_iload rfl l0 rfl ?_
  refine h_iload rfl l0 rfl ?_
  refine h_isub rfl ?_
  refine h_copyP (3 * row + k) (wd) rfl o0 hk41 hk42 ait_19 (by omega) (by omega) (by omega) (by omega) rfl rfl rfl (fun w43 o43 => ?_)
  refine h_iload rfl l0 rfl ?_
  refine h_iret rfl ?_
  exact ⟨_, _, rfl, o43⟩
theorem pr_109 {kn : sKn} {w0 : sW} {p s : Nat} (hp : ztau p = some 5) (hs : ztau s = some 15) {l row k wd : Nat} (hl : l ≤ 5) (hrow : row ≤ 11) (hk : k + wd ≤ 3 ∧ k ≤ 2) {W le wy mi : Int} (g : ∀ (w : sW) (lv : List (Nat × Value)), hO dH_pr w0 w → hL lv [(0, .ref 54), (1, .ref p), (2, .ref s), (3, hI l), (4, hI row), (5, hI k), (6, hI (3 * row + k)), (7, hI (3 * row + k + wd)), (8, hI W), (9, hI le), (10, hI wy)] → Tp (tX0_price kn) (fun r => ∃ (w' : sW) (z : Int), r = (some (hI z), w', 0, 0) ∧ hO dH_pr w0 w') 152 (lv, [], w, 0, 0)) : ∀ (m pl : Nat) (w : sW) (lv : List (Nat × Value)), pl + m = 3 * row + k + wd → 3 * row + k ≤ pl → hO dH_pr w0 w → hL lv [(0, .ref 54), (1, .ref p), (2, .ref s), (3, hI l), (4, hI row), (5, hI k), (6, hI (3 * row + k)), (7, hI (3 * row + k + wd)), (8, hI W), (9, hI le), (10, hI wy), (11, hI mi), (12, hI pl)] → Tp (tX0_price kn) (fun r => ∃ (w' : sW) (z : Int), r = (some (hI z), w', 0, 0) ∧ hO dH_pr w0 w') 109 (lv, [], w, 0, 0) := by
  intro m
  induction m with
  | zero =>
    intro pl w lv hm hpl o0 l0
    refine h_iload rfl l0 rfl ?_
    refine h_iload rfl l0 rfl ?_
    refine i_ge (kn := kn) (t := 3) (tgt := 152) (np := 116) rfl (by unfold R32; omega) (by unfold R32; omega) (fun e41 => ?_) (fun e41 => ?_)
    · exact g _ _ o0 (hL_take 11 l0)
    · omega
  | succ m ih =>
    intro pl w lv hm hpl o0 l0
    refine h_iload rfl l0 rfl ?_
    refine h_iload rfl l0 rfl ?_
    refine i_ge (kn := kn) (t := 3) (tgt := 152) (np := 116) rfl (by unfold R32; omega) (by unfold R32; omega) (fun e41 => ?_) (fun e41 => ?_)
    · exact g _ _ o0 (hL_take 11 l0)
    · refine h_aload rfl l0 rfl ?_
      refine h_getR rfl o0 fr_54_3 ?_
      refine h_intv k_3 rfl ?_
      refine h_intv k_4 rfl ?_
      refine h_iload rfl l0 rfl ?_
      refine h_imul rfl ?_
      refine h_iload rfl l0 rfl ?_
      refine h_iadd rfl ?_
      refine h_imul rfl ?_
      refine h_iload rfl l0 rfl ?_
      refine h_iadd rfl ?_
      refine h_iload rfl l0 rfl ?_
      refine h_isub rfl ?_
      refine h_aload rfl l0 rfl ?_
      refine h_getR rfl o0 fr_54_0 ?_
      refine h_getT rfl o0 (show ztau 55 = some 15 from rfl) frt_15_6 (fun k42 hk42 rk42 => ?_)
      refine h_iload rfl l0 rfl ?_
      refine h_ialdj (pl) rfl o0 (aI_of hk42 ait_19) rfl (by omega) (by omega) (fun b43a b43b => ?_)
      have b43c := gX_in o0 (aI_of hk42 ait_19) (aR_of hk42 art_19) (j := pl) (by omega) (by omega) (by omega)
      refine h_iastj (3 * (4 * row + k) + pl - (3 * row + k)) rfl o0 ai_64 rfl rfl aw_64 (by omega) (by omega) (by omega) (by omega) (by omega) (by unfold R32; omega) (fun w44 o44 q45a q45b q45c => ?_)
      refine h_iincv k_1 rfl l0 rfl (fun vl46 l46 => ?_)
      refine h_goto rfl ?_
      exact ih (pl + 1) _ _ (by omega) (by omega) o44 l46
theorem pr_55 {kn : sKn} {w0 : sW} {p s : Nat} (hp : ztau p = some 5) (hs : ztau s = some 15) {l row k wd : Nat} (hl : l ≤ 5) (hrow : row ≤ 11) (hk : k + wd ≤ 3 ∧ k ≤ 2) {W : Int} (hW : R32 W) : ∀ (m : Nat) (wy le : Int) (w : sW) (lv : List (Nat × Value)), (W - wy).toNat = m → 0 ≤ wy → wy ≤ 2147483647 → R32 le → hO dH_pr w0 w → hL lv [(0, .ref 54), (1, .ref p), (2, .ref s), (3, hI l), (4, hI row), (5, hI k), (6, hI (3 * row + k)), (7, hI (3 * row + k + wd)), (8, hI W), (9, hI le), (10, hI wy)] → Tp (tX0_price kn) (fun r => ∃ (w' : sW) (z : Int), r = (some (hI z), w', 0, 0) ∧ hO dH_pr w0 w') 55 (lv, [], w, 0, 0) := by
  have hW1 := hW.1
  have hW2 := hW.2
  intro m
  induction m with
  | zero =>
    intro wy le w lv hm h0 h9 hle o0 l0
    have hle1 := hle.1
    have hle2 := hle.2
    refine h_iload rfl l0 rfl ?_
    refine h_iload rfl l0 rfl ?_
    refine i_ge (kn := kn) (t := 3) (tgt := 158) (np := 62) rfl (by unfold R32; omega) (by unfold R32; omega) (fun e41 => ?_) (fun e41 => ?_)
    · exact pr_158 hp hs hl hrow hk o0 l0
    · omega
  | succ m ih =>
    intro wy le w lv hm h0 h9 hle o0 l0
    have hle1 := hle.1
    have hle2 := hle.2
    have G : ∀ (w1 : sW) (lv1 : List (Nat × Value)) (le : Int), R32 le → hO dH_pr w0 w1 → hL lv1 [(0, .ref 54), (1, .ref p), (2, .ref s), (3, hI l), (4, hI row), (5, hI k), (6, hI (3 * row + k)), (7, hI (3 * row + k + wd)), (8, hI W), (9, hI le), (10, hI wy)] → Tp (tX0_price kn) (fun r => ∃ (w' : sW) (z : Int), r = (some (hI z), w', 0, 0) ∧ hO dH_pr w0 w') 152 (lv1, [], w1, 0, 0) := by
      intro w1 lv1 le hle o1 l1
      refine h_iincv k_1 rfl l1 rfl (fun vl41 l41 => ?_)
      refine h_goto rfl ?_
      exact ih _ _ _ _ (by omega) (by omega) (by omega) hle o1 l41
    refine h_iload rfl l0 rfl ?_
    refine h_iload rfl l0 rfl ?_
    refine i_ge (kn := kn) (t := 3) (tgt := 158) (np := 62) rfl (by unfold R32; omega) (by unfold R32; omega) (fun e41 => ?_) (fun e41 => ?_)
    · exact pr_158 hp hs hl hrow hk o0 l0
    · refine h_aload rfl l0 rfl ?_
      refine h_aload rfl l0 rfl ?_
      refine h_aload rfl l0 rfl ?_
      refine h_iload rfl l0 rfl ?_
      refine h_iload rfl l0 rfl ?_
      refine h_iload rfl l0 rfl ?_
      obtain ⟨wA, zA, hf42, oA', hzA⟩ := s_tryWay0 (kn := kn) o0.1 hp hs wy ⟨by omega, by omega⟩ (3 * row + k) (3 * row + k + wd) (by omega) (by omega)
      have oA : hO dH_pr w0 wA := hO_tr o0 (hO_mono dH_pr1 oA')
      have rA : R32 zA := hzA
      have rA1 := rA.1
      have rA2 := rA.2
      refine h_V6 rfl o0 l0 ci_54 rfl rfl hf42 ?_
      refine h_istore rfl l0 (fun vl43 l43 => ?_)
      refine h_iload rfl l43 rfl ?_
      refine h_iload rfl l43 rfl ?_
      refine i_ge (kn := kn) (t := 3) (tgt := 152) (np := 83) rfl (by unfold R32; omega) (by unfold R32; omega) (fun e44 => ?_) (fun e44 => ?_)
      · exact G _ _ _ hle oA (hL_take 11 l43)
      · refine h_aload rfl l43 rfl ?_
        refine h_aload rfl l43 rfl ?_
        refine h_iload rfl l43 rfl ?_
        refine h_iload rfl l43 rfl ?_
        obtain ⟨wB, zB, hf45, oB', hzB⟩ := s_bearTog (kn := kn) oA.1 hp (3 * row + k) ⟨by omega, by omega⟩ (3 * row + k + wd) ⟨by omega, by omega⟩
        have oB : hO dH_pr w0 wB := hO_tr oA (hO_mono dH_pr3 oB')
        have hzB1 := hzB.1
        have hzB2 := hzB.2
        refine h_V4 rfl oA l43 ci_54 rfl rfl hf45 ?_
        refine h_aload rfl l43 rfl ?_
        refine h_getT rfl oB hp frt_5_13 (fun k46 hk46 rk46 => ?_)
        refine h_iload rfl l43 rfl ?_
        refine h_ialdj (l) rfl oB (aI_of hk46 ait_13) rfl (by omega) (by omega) (fun b47a b47b => ?_)
        refine i_lt (kn := kn) (t := 2) (tgt := 152) (np := 101) rfl (by unfold R32; omega) (by unfold R32; omega) (fun e48 => ?_) (fun e48 => ?_)
        · exact G _ _ _ hle oB (hL_take 11 l43)
        · refine h_iload rfl l43 rfl ?_
          refine h_istore rfl l43 (fun vl49 l49 => ?_)
          refine h_iload rfl l49 rfl ?_
          refine h_istore rfl l49 (fun vl50 l50 => ?_)
          exact pr_109 hp hs hl hrow hk (fun w1 lv1 => G w1 lv1 _ rA) wd (3 * row + k) _ _ (by omega) (by omega) oB l50
theorem s_price {kn : sKn} {w0 : sW} (hw : wOk ZZ w0) {p s : Nat} (hp : ztau p = some 5) (hs : ztau s = some 15) (l row k : Nat) (hl : l ≤ 5) (hrow : row ≤ 11) (hk3 : k ≤ 2) : ∃ (w' : sW) (z : Int), fX0_price kn [.ref 54, .ref p, .ref s, hI l, hI row, hI k] w0 = some (some (hI z), w', 0, 0) ∧ hO dH_pr w0 w' := by
  have K : Tp (tX0_price kn) (fun r => ∃ (w' : sW) (z : Int), r = (some (hI z), w', 0, 0) ∧ hO dH_pr w0 w') 0 (lv_args 0 [.ref 54, .ref p, .ref s, hI l, hI row, hI k], [], w0, 0, 0) := by
    have l0 : hL (lv_args 0 [.ref 54, .ref p, .ref s, hI l, hI row, hI k]) (lv_args 0 [.ref 54, .ref p, .ref s, hI l, hI row, hI k]) := ⟨fun _ _ h => h, fun q hq => by
      rcases List.mem_cons.mp hq with e | hq
      · rw [e]
        exact ⟨rfl, rfl⟩
      rcases List.mem_cons.mp hq with e | hq
      · rw [e]
        exact ⟨rfl, tw hp⟩
      rcases List.mem_cons.mp hq with e | hq
      · rw [e]
        exact ⟨rfl, tw hs⟩
      rcases List.mem_cons.mp hq with e | hq
      · rw [e]
        exact ⟨rfl, rfl⟩
      rcases List.mem_cons.mp hq with e | hq
      · rw [e]
        exact ⟨rfl, rfl⟩
      rcases List.mem_cons.mp hq with e | hq
      · rw [e]
        exact ⟨rfl, rfl⟩
      cases hq⟩
    have o0 : hO dH_pr w0 w0 := hO_rf hw
    refine h_iload rfl l0 rfl ?_
    refine h_aload rfl l0 rfl ?_
    refine h_getT rfl o0 hp frt_5_14 (fun k41 hk41 rk41 => ?_)
    refine h_iload rfl l0 rfl ?_
    refine h_ialdj (l) rfl o0 (aI_of hk41 ait_14) rfl (by omega) (by omega) (fun b42a b42b => ?_)
    have b42c := gX_in o0 (aI_of hk41 ait_14) (aR_of hk41 art_14) (j := l) (by omega) (by omega) (by omega)
    obtain ⟨wd, hwd⟩ : ∃ wd : Nat, gX w0 k41 l = (wd : Int) := ⟨(gX w0 k41 l).toNat, by omega⟩
    rw [hwd] at b42c ⊢
    refine h_iadd rfl ?_
    refine h_intv k_3 rfl ?_
    refine i_le (kn := kn) (t := 5) (tgt := 16) (np := 13) rfl (by unfold R32; omega) (by unfold R32; omega) (fun e43 => ?_) (fun e43 => ?_)
    · refine h_intv k_3 rfl ?_
      refine h_iload rfl l0 rfl ?_
      refine h_imul rfl ?_
      refine h_iload rfl l0 rfl ?_
      refine h_iadd rfl ?_
      refine h_istore rfl l0 (fun vl44 l44 => ?_)
      refine h_iload rfl l44 rfl ?_
      refine h_aload rfl l44 rfl ?_
      refine h_getT rfl o0 hp frt_5_14 (fun k45 hk45 rk45 => ?_)
      refine h_iload rfl l44 rfl ?_
      refine h_ialdj (l) rfl o0 (aI_of hk45 ait_14) rfl (by omega) (by omega) (fun b46a b46b => ?_)
      have e12 : k45 = k41 := by rw [← rk45, ← rk41]
      subst e12
      rw [hwd]
      refine h_iadd rfl ?_
      refine h_istore rfl l44 (fun vl47 l47 => ?_)
      refine h_aload rfl l47 rfl ?_
      refine h_aload rfl l47 rfl ?_
      refine h_aload rfl l47 rfl ?_
      refine h_iload rfl l47 rfl ?_
      refine h_iload rfl l47 rfl ?_
      obtain ⟨wA, zA, hf48, oA', hzA⟩ := s_countWays (kn := kn) o0.1 hp hs (3 * row + k) ⟨by omega, by omega⟩ (3 * row + k + wd) ⟨by omega, by omega⟩
      have oA : hO dH_pr w0 wA := hO_tr o0 (hO_mono dH_pr2 oA')
      refine h_V5 rfl o0 l47 ci_54 rfl rfl hf48 ?_
      refine h_istore rfl l47 (fun vl49 l49 => ?_)
      refine h_intv k_1000000 rfl ?_
      refine h_istore rfl l49 (fun vl50 l50 => ?_)
      refine h_intv k_0 rfl ?_
      refine h_istore rfl l50 (fun vl51 l51 => ?_)
      exact pr_55 hp hs hl hrow (by omega) hzA _ 0 1000000 _ _ rfl (by omega) (by omega) ⟨by omega, by omega⟩ oA l51
    · refine h_intv k_1000000 rfl ?_
      refine h_iret rfl ?_
      exact ⟨_, _, rfl, o0⟩
  obtain ⟨r, h1, w2, z, h2, h3⟩ := h_meth1 (nL := 13) rfl K
  rw [h2] at h1
  exact ⟨w2, z, h1, h3⟩
theorem con_price {kn : sKn} : Con ZZ dH_pr (fX0_price kn) ([(2, 0, 54), (2, 1, 0), (2, 2, 0), (0, 3, 0), (0, 4, 0), (0, 5, 0)], [], [(5, .inl (0, 2)), (4, .inl (0, 11)), (3, .inl (0, 5)), (2, .inr 15), (1, .inr 5)], 6, [([], [(0, 6, 0)], [], [(6, fullI)], 7)]) := by
  intro σ0 av w hN h0 hS hM hE hw hwf
  have hS : gS σ0 [(2, 0, 54), (2, 1, 0), (2, 2, 0), (0, 3, 0), (0, 4, 0), (0, 5, 0)] av := hS
  obtain ⟨v0, st0, rfl, ⟨z0, a0, b0⟩, hS0⟩ := gS_1 hS
  obtain ⟨v1, st1, rfl, ⟨z1, a1, b1⟩, hS1⟩ := gS_1 hS0
  obtain ⟨v2, st2, rfl, ⟨z2, a2, b2⟩, hS2⟩ := gS_1 hS1
  obtain ⟨v3, st3, rfl, ⟨z3, a3, b3⟩, hS3⟩ := gS_1 hS2
  obtain ⟨v4, st4, rfl, ⟨z4, a4, b4⟩, hS4⟩ := gS_1 hS3
  obtain ⟨v5, st5, rfl, ⟨z5, a5, b5⟩, hS5⟩ := gS_1 hS4
  rw [gS_0 hS5] at hwf ⊢
  have a0 : σ0[0]? = some z0 := a0
  rw [h0] at a0
  cases a0
  obtain ⟨k0, rfl, c0⟩ := b0
  have c0 : (k0 : Int) = 0 + 54 := c0
  have c0 : k0 = 54 := by omega
  subst c0
  obtain ⟨k1, rfl, c1⟩ := b1
  have c1 : (k1 : Int) = z1 + 0 := c1
  obtain ⟨k2, rfl, c2⟩ := b2
  have c2 : (k2 : Int) = z2 + 0 := c2
  obtain ⟨rfl, r3⟩ := vOk_hI b3
  obtain ⟨rfl, r4⟩ := vOk_hI b4
  obtain ⟨rfl, r5⟩ := vOk_hI b5
  obtain ⟨y1, d1, m1, e1, f1⟩ := hE (1, .inr 5) (by simp)
  obtain ⟨y2, d2, m2, e2, f2⟩ := hE (2, .inr 15) (by simp)
  obtain ⟨y3, d3, e3, f3⟩ := hE (3, .inl (0, 5)) (by simp)
  obtain ⟨y4, d4, e4, f4⟩ := hE (4, .inl (0, 11)) (by simp)
  obtain ⟨y5, d5, e5, f5⟩ := hE (5, .inl (0, 2)) (by simp)
  have a1 : σ0[1]? = some z1 := a1
  have a2 : σ0[2]? = some z2 := a2
  have a3 : σ0[3]? = some z3 := a3
  have a4 : σ0[4]? = some z4 := a4
  have a5 : σ0[5]? = some z5 := a5
  have d1 : σ0[1]? = some y1 := d1
  have d2 : σ0[2]? = some y2 := d2
  have d3 : σ0[3]? = some y3 := d3
  have d4 : σ0[4]? = some y4 := d4
  have d5 : σ0[5]? = some y5 := d5
  rw [a1] at d1
  rw [a2] at d2
  rw [a3] at d3
  rw [a4] at d4
  rw [a5] at d5
  cases d1
  cases d2
  cases d3
  cases d4
  cases d5
  have g1 : m1 = k1 := by omega
  have g2 : m2 = k2 := by omega
  subst g1
  subst g2
  have e3 : 0 ≤ z3 := e3
  have f3 : z3 ≤ 5 := f3
  have e4 : 0 ≤ z4 := e4
  have f4 : z4 ≤ 11 := f4
  have e5 : 0 ≤ z5 := e5
  have f5 : z5 ≤ 2 := f5
  have x3 : z3 + ((0, 3, 0) : eV).2.2 = ((z3.toNat : Nat) : Int) := by show z3 + 0 = _; omega
  have x4 : z4 + ((0, 4, 0) : eV).2.2 = ((z4.toNat : Nat) : Int) := by show z4 + 0 = _; omega
  have x5 : z5 + ((0, 5, 0) : eV).2.2 = ((z5.toNat : Nat) : Int) := by show z5 + 0 = _; omega
  rw [x3, x4, x5] at hwf ⊢
  obtain ⟨w', z, h1, h2⟩ := s_price (kn := kn) hw f1 f2 z3.toNat z4.toNat z5.toNat (by omega) (by omega) (by omega)
  refine ⟨⟨_, h1⟩, fun r hr => ?_⟩
  rw [h1] at hr
  cases hr
  refine ⟨rfl, h2.2, h2.1, _, List.mem_cons_self, σ0 ++ [(Int32.ofInt z).toInt], ext_ap σ0 _, ?_, ⟨⟨(Int32.ofInt z).toInt, ?_, ?_⟩, trivial⟩, (fun q hq => by cases hq), fun q hq => ?_⟩
  · show (σ0 ++ [_]).length = 7
    rw [List.length_append, hN]
    rfl
  · show (σ0 ++ [_])[6]? = _
    rw [List.getElem?_append_right (by rw [hN]; exact Nat.le_refl 6), hN]
    rfl
  · show vOk 0 ((Int32.ofInt z).toInt + 0) (hI z)
    rw [Int.add_zero]
    exact ⟨Int32.ofInt z, rfl, rfl⟩
  · rcases List.mem_singleton.mp hq with rfl
    refine ⟨(Int32.ofInt z).toInt, ?_, (R32_of (Int32.ofInt z)).1, (R32_of (Int32.ofInt z)).2⟩
    show (σ0 ++ [_])[6]? = _
    rw [List.getElem?_append_right (by rw [hN]; exact Nat.le_refl 6), hN]
    rfl
def xX0_price : List eX := [([(2, 0, 54), (2, 1, 0), (2, 2, 0), (0, 3, 0), (0, 4, 0), (0, 5, 0)], [], [(5, .inl (0, 2)), (4, .inl (0, 11)), (3, .inl (0, 5)), (2, .inr 15), (1, .inr 5)], 6, [([], [(0, 6, 0)], [], [(6, fullI)], 7)])]
def dX0_price : List (Nat × Nat) := dH_pr
theorem con_X0_price (kn : sKn) : Cons ZZ dX0_price (fX0_price kn) xX0_price := Cons_c con_price Cons_n
end
