noncomputable section
section HB
variable {tbl : List (Nat × sA)} {Po : sR → Prop} {pc np : Nat} {lv ps : List (Nat × Value)} {st : List Value} {w w0 : sW} {D : List (Nat × Nat)} {kn : sKn}
theorem h_iandv {a b : Int} (ha : t_get tbl pc = some (a_stk q_iand np)) (g : ∀ z : Int, R32 z → Tp tbl Po np (lv, hI z :: st, w, 0, 0)) : Tp tbl Po pc (lv, hI b :: hI a :: st, w, 0, 0) := h_iand ha (g _ (R32_of _))
theorem h_iorv {a b : Int} (ha : t_get tbl pc = some (a_stk q_ior np)) (g : ∀ z : Int, R32 z → Tp tbl Po np (lv, hI z :: st, w, 0, 0)) : Tp tbl Po pc (lv, hI b :: hI a :: st, w, 0, 0) := h_ior ha (g _ (R32_of _))
theorem h_ixorv {a b : Int} (ha : t_get tbl pc = some (a_stk q_ixor np)) (g : ∀ z : Int, R32 z → Tp tbl Po np (lv, hI z :: st, w, 0, 0)) : Tp tbl Po pc (lv, hI b :: hI a :: st, w, 0, 0) := h_ixor ha (g _ (R32_of _))
theorem h_ishlv {a b : Int} (ha : t_get tbl pc = some (a_stk q_ishl np)) (g : ∀ z : Int, R32 z → Tp tbl Po np (lv, hI z :: st, w, 0, 0)) : Tp tbl Po pc (lv, hI b :: hI a :: st, w, 0, 0) := h_ishl ha (g _ (R32_of _))
theorem h_ishrv {a b : Int} (ha : t_get tbl pc = some (a_stk q_ishr np)) (g : ∀ z : Int, R32 z → Tp tbl Po np (lv, hI z :: st, w, 0, 0)) : Tp tbl Po pc (lv, hI b :: hI a :: st, w, 0, 0) := h_ishr ha (g _ (R32_of _))
theorem h_iushrv {a b : Int} (ha : t_get tbl pc = some (a_stk q_iushr np)) (g : ∀ z : Int, R32 z → Tp tbl Po np (lv, hI z :: st, w, 0, 0)) : Tp tbl Po pc (lv, hI b :: hI a :: st, w, 0, 0) := Tp_step (ss' := (lv, hI ((((Int32.ofInt a).toUInt32 >>> ((Int32.ofInt b).toUInt32 &&& Int32.toUInt32 31)).toInt32)).toInt :: st, w, 0, 0)) ha (fun k => by
  rw [← hI_of]
  rfl) (g _ (R32_of _))
theorem h_iaddv {a b : Int} (ha : t_get tbl pc = some (a_stk q_iadd np)) (g : ∀ z : Int, R32 z → Tp tbl Po np (lv, hI z :: st, w, 0, 0)) : Tp tbl Po pc (lv, hI b :: hI a :: st, w, 0, 0) := h_iadd ha (by
  have e : hI (a + b) = hI (Int32.ofInt (a + b)).toInt := hI_of _
  rw [e]
  exact g _ (R32_of _))
end HB
/-- what a sentence that is good says of its numbers -/
theorem pw_ok {w : sW} {k a b i : Nat} (p : PW w) (hk : ztau k = some 22) (ha : gR w k 0 = a) (hb : gR w k 2 = b) (hi : i < 40) : okCN (gX w a i) (gX w b i) := by
  obtain ⟨p0, p1, p2, p3, p4, p5, p6, p7⟩ := p
  rcases rf_ab p0 hk ha hb with ⟨_, rfl, rfl⟩ | ⟨_, rfl, rfl⟩ | ⟨_, rfl, rfl⟩ | ⟨_, rfl, rfl⟩
  · exact p4 i hi
  · exact p5 i hi
  · exact p6 i hi
  · exact p7 i hi
theorem ci_43 : cIs 43 = some 2 := by decide +kernel
theorem fr_43_0 : fR 43 2 0 = some 44 := by decide +kernel
theorem fr_43_1 : fR 43 2 1 = some 45 := by decide +kernel
theorem fr_43_2 : fR 43 2 2 = some 46 := by decide +kernel
theorem fr_43_3 : fR 43 2 3 = some 47 := by decide +kernel
theorem fi_43_4 : fI 43 2 4 = some (28, 0, 41) := by decide +kernel
theorem fr_43_5 : fR 43 2 5 = some 48 := by decide +kernel
theorem ai_44 : aI 44 = some (29, 40) := by decide +kernel
theorem aw_44 : aP 44 0 40 (-2147483648) 2147483647 = true := by decide +kernel
theorem ar_44 : aR 44 0 40 (-2147483648) 2147483647 = true := by decide +kernel
theorem ai_45 : aI 45 = some (30, 40) := by decide +kernel
theorem aw_45 : aP 45 0 40 (-1) 9 = true := by decide +kernel
theorem ar_45 : aR 45 0 40 (-1) 9 = true := by decide +kernel
theorem ai_46 : aI 46 = some (31, 40) := by decide +kernel
theorem aw_46 : aP 46 0 40 0 60 = true := by decide +kernel
theorem ar_46 : aR 46 0 40 0 60 = true := by decide +kernel
theorem ai_47 : aI 47 = some (32, 40) := by decide +kernel
theorem aw_47 : aP 47 0 40 0 2 = true := by decide +kernel
theorem ar_47 : aR 47 0 40 0 2 = true := by decide +kernel
theorem ai_48 : aI 48 = some (33, 4) := by decide +kernel
theorem aw_48 : aP 48 0 4 (-2147483648) 2147483647 = true := by decide +kernel
theorem ar_48 : aR 48 0 4 (-2147483648) 2147483647 = true := by decide +kernel
theorem ci_49 : cIs 49 = some 11 := by decide +kernel
theorem fr_49_0 : fR 49 11 0 = some 50 := by decide +kernel
theorem fr_49_1 : fR 49 11 1 = some 51 := by decide +kernel
theorem fr_49_2 : fR 49 11 2 = some 52 := by decide +kernel
theorem fr_49_3 : fR 49 11 3 = some 53 := by decide +kernel
theorem ai_50 : aI 50 = some (35, 36) := by decide +kernel
theorem aw_50 : aP 50 0 36 (-2147483648) 2147483647 = true := by decide +kernel
theorem ar_50 : aR 50 0 36 (-2147483648) 2147483647 = true := by decide +kernel
theorem ai_51 : aI 51 = some (36, 48) := by decide +kernel
theorem aw_51 : aP 51 0 48 (-2147483648) 2147483647 = true := by decide +kernel
theorem ar_51 : aR 51 0 48 (-2147483648) 2147483647 = true := by decide +kernel
theorem ai_52 : aI 52 = some (37, 48) := by decide +kernel
theorem aw_52 : aP 52 0 48 (-2147483648) 2147483647 = true := by decide +kernel
theorem ar_52 : aR 52 0 48 (-2147483648) 2147483647 = true := by decide +kernel
theorem ai_53 : aI 53 = some (38, 12) := by decide +kernel
theorem aw_53 : aP 53 0 12 0 3 = true := by decide +kernel
theorem ar_53 : aR 53 0 12 0 3 = true := by decide +kernel
theorem ait_16 : aIt 16 = some 10 := by decide +kernel
theorem ait_18 : aIt 18 = some 10 := by decide +kernel
theorem ait_27 : aIt 27 = some 40 := by decide +kernel
theorem ait_9 : aIt 9 = some 10 := by decide +kernel
theorem apt_16 : aPt 16 0 10 (-2147483648) 2147483647 = true := by decide +kernel
theorem art_16 : aRt 16 0 10 (-2147483648) 2147483647 = true := by decide +kernel
theorem apt_18 : aPt 18 0 10 (-2147483648) 2147483647 = true := by decide +kernel
theorem art_18 : aRt 18 0 10 (-2147483648) 2147483647 = true := by decide +kernel
theorem apt_27 : aPt 27 0 40 (-2147483648) 2147483647 = true := by decide +kernel
theorem art_27 : aRt 27 0 40 (-2147483648) 2147483647 = true := by decide +kernel
theorem apt_9 : aPt 9 0 10 (-1) 9 = true := by decide +kernel
theorem art_9 : aRt 9 0 10 (-1) 9 = true := by decide +kernel
theorem cit_5 : cIt 5 = some 7 := by decide +kernel
theorem fit_5_5 : fIt 5 7 5 = some ((-2147483648), 2147483647) := by decide +kernel
theorem frc_0_2 : fR 0 12 2 = some 14 := by decide +kernel
theorem frc_0_3 : fR 0 12 3 = some 24 := by decide +kernel
theorem frt_1_4 : fRt 1 12 4 = some 22 := by decide +kernel
theorem frt_15_3 : fRt 15 9 3 = some 16 := by decide +kernel
theorem frt_15_5 : fRt 15 9 5 = some 18 := by decide +kernel
theorem frt_22_7 : fRt 22 8 7 = some 27 := by decide +kernel
theorem frt_5_9 : fRt 5 7 9 = some 9 := by decide +kernel
theorem k_63 : (63 : Int32) = Int32.ofInt (63) := by decide +kernel
theorem k_252645135 : (252645135 : Int32) = Int32.ofInt (252645135) := by decide +kernel
theorem k_858993459 : (858993459 : Int32) = Int32.ofInt (858993459) := by decide +kernel
theorem k_1431655765 : (1431655765 : Int32) = Int32.ofInt (1431655765) := by decide +kernel
theorem s_lives_ {kn : sKn} {w : sW} (hw : wOk ZZ w) {k1 : Nat} (hk1 : ztau k1 = some 15) (x2 : Int) (hx2 : 0 ≤ x2 ∧ x2 ≤ 9) : ∃ (w' : sW) (z : Int), fX8_lives kn [.ref k1, hI x2] w = some (some (hI z), w', 0, 0) ∧ hO dX8_lives w w' ∧ (z = 1 ∨ z = 0) := by
  obtain ⟨r, w', h1, h2, q, hq, σ', h3, h4, h5, h6⟩ := con_use (con_X8_lives_0 kn) (σ := [0, (k1 : Int), x2]) (av := [.ref k1, hI x2]) (w := w) rfl rfl ⟨av_r rfl, av_i rfl ⟨by omega, by omega⟩, trivial⟩ (fun q hq => by cases hq) (gE_c ⟨_, rfl, hx2⟩ (gE_c ⟨_, rfl, _, rfl, hk1⟩ (gE_n))) hw (by simp only [xa_eq, List.all_cons, List.all_nil, Bool.and_true, Bool.and_eq_true]; exact ⟨tw hk1, rfl⟩)
  rcases List.mem_cons.mp hq with rfl | hq
  · obtain ⟨z, z1, z2, z3⟩ := gS_i h4
    rw [z2] at h1
    have z4 := h3 0 0 rfl
    rw [z4] at z1
    cases z1
    refine ⟨w', _, h1, h2, ?_⟩
    omega
  rcases List.mem_singleton.mp hq with rfl
  obtain ⟨z, z1, z2, z3⟩ := gS_i h4
  rw [z2] at h1
  have z4 := h3 0 0 rfl
  rw [z4] at z1
  cases z1
  refine ⟨w', _, h1, h2, ?_⟩
  omega
theorem s_lives {kn : sKn} {w : sW} (hw : wOk ZZ w) {k1 : Nat} (hk1 : ztau k1 = some 15) (x2 : Int) (hx2 : 0 ≤ x2 ∧ x2 ≤ 9) : ∃ z : Int, fX8_lives kn [.ref k1, hI x2] w = some (some (hI z), w, 0, 0) ∧ (z = 1 ∨ z = 0) := by
  obtain ⟨w', z, h1, h2, h3⟩ := s_lives_ (kn := kn) hw hk1 x2 hx2
  have e : w' = w := fr_nil hw h2.1 h2.2
  subst e
  exact ⟨z, h1, h3⟩
theorem s_areLovers_ {kn : sKn} {w : sW} (hw : wOk ZZ w) {k1 : Nat} (hk1 : ztau k1 = some 5) (x2 : Int) (hx2 : 0 ≤ x2 ∧ x2 ≤ 9) (x3 : Int) (hx3 : (-1) ≤ x3 ∧ x3 ≤ 9) : ∃ (w' : sW) (z : Int), fX6_areLovers kn [.ref k1, hI x2, hI x3] w = some (some (hI z), w', 0, 0) ∧ hO dX6_areLovers w w' ∧ ((z = 1 ∧ 0 ≤ x3 ∧ x3 ≤ 9) ∨ z = 0) := by
  obtain ⟨r, w', h1, h2, q, hq, σ', h3, h4, h5, h6⟩ := con_use (con_X6_areLovers_0 kn) (σ := [0, (k1 : Int), x2, x3]) (av := [.ref k1, hI x2, hI x3]) (w := w) rfl rfl ⟨av_r rfl, av_i rfl ⟨by omega, by omega⟩, av_i rfl ⟨by omega, by omega⟩, trivial⟩ (fun q hq => by cases hq) (gE_c ⟨_, rfl, hx3⟩ (gE_c ⟨_, rfl, hx2⟩ (gE_c ⟨_, rfl, _, rfl, hk1⟩ (gE_n)))) hw (by simp only [xa_eq, List.all_cons, List.all_nil, Bool.and_true, Bool.and_eq_true]; exact ⟨tw hk1, rfl, rfl⟩)
  rcases List.mem_cons.mp hq with rfl | hq
  · obtain ⟨z, z1, z2, z3⟩ := gS_i h4
    rw [z2] at h1
    have z4 := h3 0 0 rfl
    rw [z4] at z1
    cases z1
    have y3 := gE_at (a := 0) (b := 9) h6 (by first | exact List.mem_cons_self | exact List.mem_cons_of_mem _ List.mem_cons_self | exact List.mem_cons_of_mem _ (List.mem_cons_of_mem _ List.mem_cons_self) | exact List.mem_cons_of_mem _ (List.mem_cons_of_mem _ (List.mem_cons_of_mem _ List.mem_cons_self)) | decide) (h3 3 _ rfl)
    refine ⟨w', _, h1, h2, ?_⟩
    omega
  rcases List.mem_singleton.mp hq with rfl
  obtain ⟨z, z1, z2, z3⟩ := gS_i h4
  rw [z2] at h1
  have z4 := h3 0 0 rfl
  rw [z4] at z1
  cases z1
  refine ⟨w', _, h1, h2, ?_⟩
  omega
theorem s_areLovers {kn : sKn} {w : sW} (hw : wOk ZZ w) {k1 : Nat} (hk1 : ztau k1 = some 5) (x2 : Int) (hx2 : 0 ≤ x2 ∧ x2 ≤ 9) (x3 : Int) (hx3 : (-1) ≤ x3 ∧ x3 ≤ 9) : ∃ z : Int, fX6_areLovers kn [.ref k1, hI x2, hI x3] w = some (some (hI z), w, 0, 0) ∧ ((z = 1 ∧ 0 ≤ x3 ∧ x3 ≤ 9) ∨ z = 0) := by
  obtain ⟨w', z, h1, h2, h3⟩ := s_areLovers_ (kn := kn) hw hk1 x2 hx2 x3 hx3
  have e : w' = w := fr_nil hw h2.1 h2.2
  subst e
  exact ⟨z, h1, h3⟩
theorem s_compares_ {kn : sKn} {w : sW} (hw : wOk ZZ w) {k1 : Nat} (hk1 : ztau k1 = some 22) (x2 : Int) (hx2 : 0 ≤ x2 ∧ x2 ≤ 39) (x3 : Int) (hx3 : (-2147483648) ≤ x3 ∧ x3 ≤ 2147483647) : ∃ (w' : sW) (z : Int), fX7_compares kn [.ref k1, hI x2, hI x3] w = some (some (hI z), w', 0, 0) ∧ hO dX7_compares w w' ∧ (z = 1 ∨ z = 0) := by
  obtain ⟨r, w', h1, h2, q, hq, σ', h3, h4, h5, h6⟩ := con_use (con_X7_compares_0 kn) (σ := [0, (k1 : Int), x2, x3]) (av := [.ref k1, hI x2, hI x3]) (w := w) rfl rfl ⟨av_r rfl, av_i rfl ⟨by omega, by omega⟩, av_i rfl ⟨by omega, by omega⟩, trivial⟩ (fun q hq => by cases hq) (gE_c ⟨_, rfl, hx3⟩ (gE_c ⟨_, rfl, hx2⟩ (gE_c ⟨_, rfl, _, rfl, hk1⟩ (gE_n)))) hw (by simp only [xa_eq, List.all_cons, List.all_nil, Bool.and_true, Bool.and_eq_true]; exact ⟨tw hk1, rfl, rfl⟩)
  rcases List.mem_cons.mp hq with rfl | hq
  · obtain ⟨z, z1, z2, z3⟩ := gS_i h4
    rw [z2] at h1
    have z4 := h3 0 0 rfl
    rw [z4] at z1
    cases z1
    refine ⟨w', _, h1, h2, ?_⟩
    omega
  rcases List.mem_singleton.mp hq with rfl
  obtain ⟨z, z1, z2, z3⟩ := gS_i h4
  rw [z2] at h1
  have z4 := h3 0 0 rfl
  rw [z4] at z1
  cases z1
  refine ⟨w', _, h1, h2, ?_⟩
  omega
theorem s_compares {kn : sKn} {w : sW} (hw : wOk ZZ w) {k1 : Nat} (hk1 : ztau k1 = some 22) (x2 : Int) (hx2 : 0 ≤ x2 ∧ x2 ≤ 39) (x3 : Int) (hx3 : (-2147483648) ≤ x3 ∧ x3 ≤ 2147483647) : ∃ z : Int, fX7_compares kn [.ref k1, hI x2, hI x3] w = some (some (hI z), w, 0, 0) ∧ (z = 1 ∨ z = 0) := by
  obtain ⟨w', z, h1, h2, h3⟩ := s_compares_ (kn := kn) hw hk1 x2 hx2 x3 hx3
  have e : w' = w := fr_nil hw h2.1 h2.2
  subst e
  exact ⟨z, h1, h3⟩
theorem s_isOn7_ {kn : sKn} {w : sW} (hw : wOk ZZ w) {k1 : Nat} (hk1 : ztau k1 = some 15) (x2 : Int) (hx2 : 0 ≤ x2 ∧ x2 ≤ 11) (x3 : Int) (hx3 : (-2147483648) ≤ x3 ∧ x3 ≤ 2147483647) : ∃ (w' : sW) (z : Int), fX7_isOn kn [.ref k1, hI x2, hI x3] w = some (some (hI z), w', 0, 0) ∧ hO dX7_isOn w w' ∧ ((z = 1 ∧ (-1) ≤ x3 ∧ x3 ≤ 9) ∨ z = 0) := by
  obtain ⟨r, w', h1, h2, q, hq, σ', h3, h4, h5, h6⟩ := con_use (con_X7_isOn_0 kn) (σ := [0, (k1 : Int), x2, x3]) (av := [.ref k1, hI x2, hI x3]) (w := w) rfl rfl ⟨av_r rfl, av_i rfl ⟨by omega, by omega⟩, av_i rfl ⟨by omega, by omega⟩, trivial⟩ (fun q hq => by cases hq) (gE_c ⟨_, rfl, hx3⟩ (gE_c ⟨_, rfl, hx2⟩ (gE_c ⟨_, rfl, _, rfl, hk1⟩ (gE_n)))) hw (by simp only [xa_eq, List.all_cons, List.all_nil, Bool.and_true, Bool.and_eq_true]; exact ⟨tw hk1, rfl, rfl⟩)
  rcases List.mem_cons.mp hq with rfl | hq
  · obtain ⟨z, z1, z2, z3⟩ := gS_i h4
    rw [z2] at h1
    have z4 := h3 0 0 rfl
    rw [z4] at z1
    cases z1
    have y3 := gE_at (a := (-1)) (b := 9) h6 (by first | exact List.mem_cons_self | exact List.mem_cons_of_mem _ List.mem_cons_self | exact List.mem_cons_of_mem _ (List.mem_cons_of_mem _ List.mem_cons_self) | exact List.mem_cons_of_mem _ (List.mem_cons_of_mem _ (List.mem_cons_of_mem _ List.mem_cons_self)) | decide) (h3 3 _ rfl)
    refine ⟨w', _, h1, h2, ?_⟩
    omega
  rcases List.mem_singleton.mp hq with rfl
  obtain ⟨z, z1, z2, z3⟩ := gS_i h4
  rw [z2] at h1
  have z4 := h3 0 0 rfl
  rw [z4] at z1
  cases z1
  refine ⟨w', _, h1, h2, ?_⟩
  omega
theorem s_isOn7 {kn : sKn} {w : sW} (hw : wOk ZZ w) {k1 : Nat} (hk1 : ztau k1 = some 15) (x2 : Int) (hx2 : 0 ≤ x2 ∧ x2 ≤ 11) (x3 : Int) (hx3 : (-2147483648) ≤ x3 ∧ x3 ≤ 2147483647) : ∃ z : Int, fX7_isOn kn [.ref k1, hI x2, hI x3] w = some (some (hI z), w, 0, 0) ∧ ((z = 1 ∧ (-1) ≤ x3 ∧ x3 ≤ 9) ∨ z = 0) := by
  obtain ⟨w', z, h1, h2, h3⟩ := s_isOn7_ (kn := kn) hw hk1 x2 hx2 x3 hx3
  have e : w' = w := fr_nil hw h2.1 h2.2
  subst e
  exact ⟨z, h1, h3⟩
theorem s_bitCount {kn : sKn} {w : sW} (hw : wOk ZZ w) (x : Int) (hx : R32 x) : ∃ z : Int, fJ6_bitCount_0f7a4 kn [hI x] w = some (some (hI z), w, 0, 0) := by
  have K : Tp (tJ6_bitCount_0f7a4 kn) (fun r => ∃ z : Int, r = (some (hI z), w, 0, 0)) 0 (lv_args 0 [hI x], [], w, 0, 0) := by
    have l0 : hL (lv_args 0 [hI x]) (lv_args 0 [hI x]) := hL_ex rfl
    have o0 : hO [] w w := hO_rf hw
    refine h_iload rfl l0 rfl ?_
    refine h_iload rfl l0 rfl ?_
    refine h_intv k_1 rfl ?_
    refine h_iushrv rfl (fun z41 rz41 => ?_)
    have rz411 := rz41.1
    have rz412 := rz41.2
    refine h_intv k_1431655765 rfl ?_
    refine h_iandv rfl (fun z42 rz42 => ?_)
    have rz421 := rz42.1
    have rz422 := rz42.2
    refine h_isubv rfl (fun z43 rz43 => ?_)
    have rz431 := rz43.1
    have rz432 := rz43.2
    refine h_istore rfl l0 (fun vl44 l44 => ?_)
    refine h_iload rfl l44 rfl ?_
    refine h_intv k_858993459 rfl ?_
    refine h_iandv rfl (fun z45 rz45 => ?_)
    have rz451 := rz45.1
    have rz452 := rz45.2
    refine h_iload rfl l44 rfl ?_
    refine h_intv k_2 rfl ?_
    refine h_iushrv rfl (fun z46 rz46 => ?_)
    have rz461 := rz46.1
    have rz462 := rz46.2
    refine h_intv k_858993459 rfl ?_
    refine h_iandv rfl (fun z47 rz47 => ?_)
    have rz471 := rz47.1
    have rz472 := rz47.2
    refine h_iaddv rfl (fun z48 rz48 => ?_)
    have rz481 := rz48.1
    have rz482 := rz48.2
    refine h_istore rfl l44 (fun vl49 l49 => ?_)
    refine h_iload rfl l49 rfl ?_
    refine h_iload rfl l49 rfl ?_
    refine h_intv k_4 rfl ?_
    refine h_iushrv rfl (fun z50 rz50 => ?_)
    have rz501 := rz50.1
    have rz502 := rz50.2
    refine h_iaddv rfl (fun z51 rz51 => ?_)
    have rz511 := rz51.1
    have rz512 := rz51.2
    refine h_intv k_252645135 rfl ?_
    refine h_iandv rfl (fun z52 rz52 => ?_)
    have rz521 := rz52.1
    have rz522 := rz52.2
    refine h_istore rfl l49 (fun vl53 l53 => ?_)
    refine h_iload rfl l53 rfl ?_
    refine h_iload rfl l53 rfl ?_
    refine h_intv k_8 rfl ?_
    refine h_iushrv rfl (fun z54 rz54 => ?_)
    have rz541 := rz54.1
    have rz542 := rz54.2
    refine h_iaddv rfl (fun z55 rz55 => ?_)
    have rz551 := rz55.1
    have rz552 := rz55.2
    refine h_istore rfl l53 (fun vl56 l56 => ?_)
    refine h_iload rfl l56 rfl ?_
    refine h_iload rfl l56 rfl ?_
    refine h_intv k_16 rfl ?_
    refine h_iushrv rfl (fun z57 rz57 => ?_)
    have rz571 := rz57.1
    have rz572 := rz57.2
    refine h_iaddv rfl (fun z58 rz58 => ?_)
    have rz581 := rz58.1
    have rz582 := rz58.2
    refine h_istore rfl l56 (fun vl59 l59 => ?_)
    refine h_iload rfl l59 rfl ?_
    refine h_intv k_63 rfl ?_
    refine h_iandv rfl (fun z60 rz60 => ?_)
    have rz601 := rz60.1
    have rz602 := rz60.2
    refine h_iret rfl ?_
    exact ⟨_, rfl⟩
  obtain ⟨r, h1, b, h2⟩ := h_meth1 (nL := 1) rfl K
  rw [h2] at h1
  exact ⟨b, h1⟩
theorem s_isTrueOf {kn : sKn} {w : sW} (hw : wOk ZZ w) (pw : PW w) {q0 p s0 : Nat} (hq0 : ztau q0 = some 22) (hp : ztau p = some 5) (hs0 : ztau s0 = some 15) (i s : Nat) (hi : i ≤ 39) (hs : s ≤ 9) : ∃ b : Int, fX7_isTrueOf kn [.ref q0, .ref p, .ref s0, hI i, hI s] w = some (some (hI b), w, 0, 0) ∧ (b = 0 ∨ b = 1) := by
  have K : Tp (tX7_isTrueOf kn) (fun r => ∃ b : Int, r = (some (hI b), w, 0, 0) ∧ (b = 0 ∨ b = 1)) 0 (lv_args 0 [.ref q0, .ref p, .ref s0, hI i, hI s], [], w, 0, 0) := by
    have l0 : hL (lv_args 0 [.ref q0, .ref p, .ref s0, hI i, hI s]) (lv_args 0 [.ref q0, .ref p, .ref s0, hI i, hI s]) := ⟨fun _ _ h => h, fun q hq => by
      rcases List.mem_cons.mp hq with e | hq
      · rw [e]
        exact ⟨rfl, tw hq0⟩
      rcases List.mem_cons.mp hq with e | hq
      · rw [e]
        exact ⟨rfl, tw hp⟩
      rcases List.mem_cons.mp hq with e | hq
      · rw [e]
        exact ⟨rfl, tw hs0⟩
      rcases List.mem_cons.mp hq with e | hq
      · rw [e]
        exact ⟨rfl, rfl⟩
      rcases List.mem_cons.mp hq with e | hq
      · rw [e]
        exact ⟨rfl, rfl⟩
      cases hq⟩
    have o0 : hO [] w w := hO_rf hw
    refine h_aload rfl l0 rfl ?_
    refine h_getT rfl o0 hq0 frt_22_0 (fun k41 hk41 rk41 => ?_)
    refine h_iload rfl l0 rfl ?_
    refine h_ialdj (i) rfl o0 (aI_of hk41 ait_23) rfl (by omega) (by omega) (fun b42a b42b => ?_)
    by_cases e43_0 : (gX w k41 (i)) = 18
    · refine h_tab 18 e43_0 (by unfold R32; omega) rfl (by omega) (by omega) rfl ?_
      refine h_aload rfl l0 rfl ?_
      refine h_iload rfl l0 rfl ?_
      obtain ⟨z44, hf44, hz44⟩ := s_lives (kn := kn) hw hs0 (s : Int) ⟨by omega, by omega⟩
      refine h_V2 rfl o0 l0 (cI_of hs0 cit_15) rfl rfl hf44 ?_
      refine j_ne (kn := kn) (t := 1) (tgt := 65) (np := 61) rfl (by unfold R32; omega) (fun e45 => ?_) (fun e45 => ?_)
      · refine h_intv k_0 rfl ?_
        refine h_zret (by omega) rfl ?_
        exact ⟨_, rfl, by omega⟩
      · refine h_intv k_1 rfl ?_
        refine h_goto rfl ?_
        refine h_zret (by omega) rfl ?_
        exact ⟨_, rfl, by omega⟩
    by_cases e43_1 : (gX w k41 (i)) = 19
    · refine h_tab 19 e43_1 (by unfold R32; omega) rfl (by omega) (by omega) rfl ?_
      refine h_aload rfl l0 rfl ?_
      refine h_getI rfl o0 (fI_of hp fit_5_5) (fun b46a b46b => ?_)
      refine h_iload rfl l0 rfl ?_
      refine h_ishrv rfl (fun z47 rz47 => ?_)
      have rz471 := rz47.1
      have rz472 := rz47.2
      refine h_intv k_1 rfl ?_
      refine h_iandv rfl (fun z48 rz48 => ?_)
      have rz481 := rz48.1
      have rz482 := rz48.2
      refine j_eq (kn := kn) (t := 0) (tgt := 83) (np := 79) rfl (by unfold R32; omega) (fun e49 => ?_) (fun e49 => ?_)
      · refine h_intv k_0 rfl ?_
        refine h_zret (by omega) rfl ?_
        exact ⟨_, rfl, by omega⟩
      · refine h_intv k_1 rfl ?_
        refine h_goto rfl ?_
        refine h_zret (by omega) rfl ?_
        exact ⟨_, rfl, by omega⟩
    by_cases e43_2 : (gX w k41 (i)) = 20
    · refine h_tab 20 e43_2 (by unfold R32; omega) rfl (by omega) (by omega) rfl ?_
      refine h_aload rfl l0 rfl ?_
      refine h_iload rfl l0 rfl ?_
      refine h_aload rfl l0 rfl ?_
      refine h_getT rfl o0 hq0 frt_22_2 (fun k50 hk50 rk50 => ?_)
      refine h_iload rfl l0 rfl ?_
      refine h_ialdj (i) rfl o0 (aI_of hk50 ait_25) rfl (by omega) (by omega) (fun b51a b51b => ?_)
      have okb51 := pw_ok pw hq0 rk41 rk50 (show i < 40 by omega)
      obtain ⟨nb51, hnb51⟩ : ∃ n : Nat, gX w k50 i = (n : Int) := ⟨(gX w k50 i).toNat, by unfold okCN at okb51; omega⟩
      have ok2b51 := okb51
      unfold okCN at ok2b51
      rw [hnb51] at ok2b51 b51a b51b ⊢
      obtain ⟨z52, hf52, hz52⟩ := s_areLovers (kn := kn) hw hp (s : Int) ⟨by omega, by omega⟩ nb51 ⟨by omega, by omega⟩
      refine h_V3 rfl o0 l0 (cI_of hp cit_5) rfl rfl hf52 ?_
      refine h_zret (by omega) rfl ?_
      exact ⟨_, rfl, by omega⟩
    by_cases e43_3 : (gX w k41 (i)) = 21
    · refine h_tab 21 e43_3 (by unfold R32; omega) rfl (by omega) (by omega) rfl ?_
      refine h_aload rfl l0 rfl ?_
      refine h_getT rfl o0 hp frt_5_9 (fun k53 hk53 rk53 => ?_)
      refine h_aload rfl l0 rfl ?_
      refine h_getT rfl o0 hq0 frt_22_2 (fun k54 hk54 rk54 => ?_)
      refine h_iload rfl l0 rfl ?_
      refine h_ialdj (i) rfl o0 (aI_of hk54 ait_25) rfl (by omega) (by omega) (fun b55a b55b => ?_)
      have okb55 := pw_ok pw hq0 rk41 rk54 (show i < 40 by omega)
      obtain ⟨nb55, hnb55⟩ : ∃ n : Nat, gX w k54 i = (n : Int) := ⟨(gX w k54 i).toNat, by unfold okCN at okb55; omega⟩
      have ok2b55 := okb55
      unfold okCN at ok2b55
      rw [hnb55] at ok2b55 b55a b55b ⊢
      refine h_ialdj (nb55) rfl o0 (aI_of hk53 ait_9) rfl (by omega) (by omega) (fun b56a b56b => ?_)
      refine h_iload rfl l0 rfl ?_
      refine i_ne (kn := kn) (t := 1) (tgt := 118) (np := 114) rfl (by unfold R32; omega) (by unfold R32; omega) (fun e57 => ?_) (fun e57 => ?_)
      · refine h_intv k_0 rfl ?_
        refine h_zret (by omega) rfl ?_
        exact ⟨_, rfl, by omega⟩
      · refine h_intv k_1 rfl ?_
        refine h_goto rfl ?_
        refine h_zret (by omega) rfl ?_
        exact ⟨_, rfl, by omega⟩
    by_cases e43_4 : (gX w k41 (i)) = 22
    · refine h_tab 22 e43_4 (by unfold R32; omega) rfl (by omega) (by omega) rfl ?_
      refine h_aload rfl l0 rfl ?_
      refine h_aload rfl l0 rfl ?_
      refine h_getT rfl o0 hq0 frt_22_2 (fun k58 hk58 rk58 => ?_)
      refine h_iload rfl l0 rfl ?_
      refine h_ialdj (i) rfl o0 (aI_of hk58 ait_25) rfl (by omega) (by omega) (fun b59a b59b => ?_)
      have okb59 := pw_ok pw hq0 rk41 rk58 (show i < 40 by omega)
      obtain ⟨nb59, hnb59⟩ : ∃ n : Nat, gX w k58 i = (n : Int) := ⟨(gX w k58 i).toNat, by unfold okCN at okb59; omega⟩
      have ok2b59 := okb59
      unfold okCN at ok2b59
      rw [hnb59] at ok2b59 b59a b59b ⊢
      refine h_iload rfl l0 rfl ?_
      obtain ⟨z60, hf60, hz60⟩ := s_isOn7 (kn := kn) hw hs0 nb59 ⟨by omega, by omega⟩ (s : Int) ⟨by omega, by omega⟩
      refine h_S3 rfl o0 l0 rfl rfl hf60 ?_
      refine h_zret (by omega) rfl ?_
      exact ⟨_, rfl, by omega⟩
    by_cases e43_5 : (gX w k41 (i)) = 23
    · refine h_tab 23 e43_5 (by unfold R32; omega) rfl (by omega) (by omega) rfl ?_
      refine h_aload rfl l0 rfl ?_
      refine h_iload rfl l0 rfl ?_
      refine h_aload rfl l0 rfl ?_
      refine h_getT rfl o0 hs0 frt_15_3 (fun k61 hk61 rk61 => ?_)
      refine h_iload rfl l0 rfl ?_
      refine h_ialdj (s) rfl o0 (aI_of hk61 ait_16) rfl (by omega) (by omega) (fun b62a b62b => ?_)
      obtain ⟨z63, hf63, hz63⟩ := s_compares (kn := kn) hw hq0 (i : Int) ⟨by omega, by omega⟩ (gX w k61 (s)) ⟨by omega, by omega⟩
      refine h_V3 rfl o0 l0 (cI_of hq0 cit_22) rfl rfl hf63 ?_
      refine h_zret (by omega) rfl ?_
      exact ⟨_, rfl, by omega⟩
    by_cases e43_6 : (gX w k41 (i)) = 24
    · refine h_tab 24 e43_6 (by unfold R32; omega) rfl (by omega) (by omega) rfl ?_
      refine h_aload rfl l0 rfl ?_
      refine h_iload rfl l0 rfl ?_
      refine h_aload rfl l0 rfl ?_
      refine h_getT rfl o0 hs0 frt_15_5 (fun k64 hk64 rk64 => ?_)
      refine h_iload rfl l0 rfl ?_
      refine h_ialdj (s) rfl o0 (aI_of hk64 ait_18) rfl (by omega) (by omega) (fun b65a b65b => ?_)
      obtain ⟨z66, hf66, hz66⟩ := s_compares (kn := kn) hw hq0 (i : Int) ⟨by omega, by omega⟩ (gX w k64 (s)) ⟨by omega, by omega⟩
      refine h_V3 rfl o0 l0 (cI_of hq0 cit_22) rfl rfl hf66 ?_
      refine h_zret (by omega) rfl ?_
      exact ⟨_, rfl, by omega⟩
    by_cases e43_7 : (gX w k41 (i)) = 25
    · refine h_tab 25 e43_7 (by unfold R32; omega) rfl (by omega) (by omega) rfl ?_
      refine h_aload rfl l0 rfl ?_
      refine h_iload rfl l0 rfl ?_
      refine h_aload rfl l0 rfl ?_
      refine h_getT rfl o0 hp frt_5_8 (fun k67 hk67 rk67 => ?_)
      refine h_iload rfl l0 rfl ?_
      refine h_ialdj (s) rfl o0 (aI_of hk67 ait_8) rfl (by omega) (by omega) (fun b68a b68b => ?_)
      obtain ⟨z69, hf69, hz69⟩ := s_compares (kn := kn) hw hq0 (i : Int) ⟨by omega, by omega⟩ (gX w k67 (s)) ⟨by omega, by omega⟩
      refine h_V3 rfl o0 l0 (cI_of hq0 cit_22) rfl rfl hf69 ?_
      refine h_zret (by omega) rfl ?_
      exact ⟨_, rfl, by omega⟩
    refine h_tabd rfl (by unfold R32; omega) (by omega) ?_
    refine h_aload rfl l0 rfl ?_
    refine h_iload rfl l0 rfl ?_
    refine h_iload rfl l0 rfl ?_
    obtain ⟨z70, hf70, hz70⟩ := s_compares (kn := kn) hw hq0 (i : Int) ⟨by omega, by omega⟩ s ⟨by omega, by omega⟩
    refine h_V3 rfl o0 l0 (cI_of hq0 cit_22) rfl rfl hf70 ?_
    refine h_zret (by omega) rfl ?_
    exact ⟨_, rfl, by omega⟩
  obtain ⟨r, h1, b, h2, h3⟩ := h_meth1 (nL := 5) rfl K
  rw [h2] at h1
  exact ⟨b, h1, h3⟩
theorem sa_l {kn : sKn} {w : sW} (hw : wOk ZZ w) (pw : PW w) {q0 p s0 : Nat} (hq0 : ztau q0 = some 22) (hp : ztau p = some 5) (hs0 : ztau s0 = some 15) (i : Nat) (hi : i ≤ 39) : ∀ (m s : Nat) (lv : List (Nat × Value)) (b y : Int), s + m = 10 → y = (s : Int) → R32 b → hL lv [(0, .ref q0), (1, .ref p), (2, .ref s0), (3, hI i), (4, hI b), (5, hI y)] → Tp (tX7_sayOfAll kn) (fun r => ∃ b : Int, r = (some (hI b), w, 0, 0) ∧ R32 b) 6 (lv, [], w, 0, 0) := by
  have o0 : hO [] w w := hO_rf hw
  intro m
  induction m with
  | zero =>
    intro s lv b y hm hy hb l0
    subst hy
    refine h_iload rfl l0 rfl ?_
    refine h_aload rfl l0 rfl ?_
    refine h_getI rfl o0 (fI_of hp fit_5_2) (fun b41a b41b => ?_)
    refine i_ge (kn := kn) (t := 3) (tgt := 42) (np := 15) rfl (by unfold R32; omega) (by unfold R32; omega) (fun e42 => ?_) (fun e42 => ?_)
    · refine h_iload rfl l0 rfl ?_
      refine h_iret rfl ?_
      exact ⟨_, rfl, hb⟩
    · omega
  | succ m ih =>
    intro s lv b y hm hy hb l0
    subst hy
    refine h_iload rfl l0 rfl ?_
    refine h_aload rfl l0 rfl ?_
    refine h_getI rfl o0 (fI_of hp fit_5_2) (fun b41a b41b => ?_)
    refine i_ge (kn := kn) (t := 3) (tgt := 42) (np := 15) rfl (by unfold R32; omega) (by unfold R32; omega) (fun e42 => ?_) (fun e42 => ?_)
    · refine h_iload rfl l0 rfl ?_
      refine h_iret rfl ?_
      exact ⟨_, rfl, hb⟩
    · refine h_aload rfl l0 rfl ?_
      refine h_aload rfl l0 rfl ?_
      refine h_aload rfl l0 rfl ?_
      refine h_iload rfl l0 rfl ?_
      refine h_iload rfl l0 rfl ?_
      obtain ⟨z43, hf43, hz43⟩ := s_isTrueOf (kn := kn) hw pw hq0 hp hs0 i s hi (by omega)
      refine h_V5 rfl o0 l0 (cI_of hq0 cit_22) rfl rfl hf43 ?_
      refine j_eq (kn := kn) (t := 0) (tgt := 36) (np := 27) rfl (by unfold R32; omega) (fun e44 => ?_) (fun e44 => ?_)
      · refine h_iincv k_1 rfl l0 rfl (fun vl45 l45 => ?_)
        refine h_goto rfl ?_
        exact ih (s + 1) _ _ ((s : Int) + 1) (by omega) (by omega) (by assumption) l45
      · refine h_iload rfl l0 rfl ?_
        refine h_intv k_1 rfl ?_
        refine h_iload rfl l0 rfl ?_
        refine h_ishlv rfl (fun z46 rz46 => ?_)
        have rz461 := rz46.1
        have rz462 := rz46.2
        refine h_iorv rfl (fun z47 rz47 => ?_)
        have rz471 := rz47.1
        have rz472 := rz47.2
        refine h_istore rfl l0 (fun vl48 l48 => ?_)
        refine h_iincv k_1 rfl l48 rfl (fun vl49 l49 => ?_)
        refine h_goto rfl ?_
        exact ih (s + 1) _ _ ((s : Int) + 1) (by omega) (by omega) (by assumption) l49
theorem s_sayOfAll {kn : sKn} {w : sW} (hw : wOk ZZ w) (pw : PW w) {q0 p s0 : Nat} (hq0 : ztau q0 = some 22) (hp : ztau p = some 5) (hs0 : ztau s0 = some 15) (i : Nat) (hi : i ≤ 39) : ∃ b : Int, fX7_sayOfAll kn [.ref q0, .ref p, .ref s0, hI i] w = some (some (hI b), w, 0, 0) ∧ R32 b := by
  have K : Tp (tX7_sayOfAll kn) (fun r => ∃ b : Int, r = (some (hI b), w, 0, 0) ∧ R32 b) 0 (lv_args 0 [.ref q0, .ref p, .ref s0, hI i], [], w, 0, 0) := by
    have l0 : hL (lv_args 0 [.ref q0, .ref p, .ref s0, hI i]) (lv_args 0 [.ref q0, .ref p, .ref s0, hI i]) := ⟨fun _ _ h => h, fun q hq => by
      rcases List.mem_cons.mp hq with e | hq
      · rw [e]
        exact ⟨rfl, tw hq0⟩
      rcases List.mem_cons.mp hq with e | hq
      · rw [e]
        exact ⟨rfl, tw hp⟩
      rcases List.mem_cons.mp hq with e | hq
      · rw [e]
        exact ⟨rfl, tw hs0⟩
      rcases List.mem_cons.mp hq with e | hq
      · rw [e]
        exact ⟨rfl, rfl⟩
      cases hq⟩
    have o0 : hO [] w w := hO_rf hw
    refine h_intv k_0 rfl ?_
    refine h_istore rfl l0 (fun vl41 l41 => ?_)
    refine h_intv k_0 rfl ?_
    refine h_istore rfl l41 (fun vl42 l42 => ?_)
    exact sa_l hw pw hq0 hp hs0 i hi 10 0 _ 0 0 rfl rfl ⟨by omega, by omega⟩ l42
  obtain ⟨r, h1, b, h2, h3⟩ := h_meth1 (nL := 6) rfl K
  rw [h2] at h1
  exact ⟨b, h1, h3⟩
def dH_jd : List (Nat × Nat) := [(27, 999)]
theorem pw_jd {w w' : sW} (h : hO dH_jd w w') (p : PW w) : PW w' := pw_of h (by decide +kernel) p
theorem jd_e {kn : sKn} {w0 : sW} (pw : PW w0) {q0 p s0 : Nat} (hq0 : ztau q0 = some 22) (hp : ztau p = some 5) (hs0 : ztau s0 = some 15) {top : Nat} {al y : Int} {w : sW} {lv : List (Nat × Value)} (ht : top ≤ 40) (o0 : hO dH_jd w0 w) (l0 : hL lv [(0, .ref q0), (1, .ref p), (2, .ref s0), (3, hI al), (4, hI top), (5, hI y)]) : Tp (tX7_judge kn) (fun r => ∃ (w' : sW) (b : Int), r = (some (hI b), w', 0, 0) ∧ hO dH_jd w0 w' ∧ R32 b) 176 (lv, [], w, 0, 0) := by
  refine h_iload rfl l0 rfl ?_
  refine j_le (kn := kn) (t := 5) (tgt := 190) (np := 181) rfl (by unfold R32; omega) (fun e41 => ?_) (fun e41 => ?_)
  · refine h_intv k_0 rfl ?_
    refine h_iret rfl ?_
    exact ⟨_, _, rfl, o0, ⟨by omega, by omega⟩⟩
  · refine h_aload rfl l0 rfl ?_
    refine h_getT rfl o0 hq0 frt_22_7 (fun k42 hk42 rk42 => ?_)
    refine h_intv k_0 rfl ?_
    refine h_ialdj (0) rfl o0 (aI_of hk42 ait_27) rfl (by omega) (by omega) (fun b43a b43b => ?_)
    refine h_goto rfl ?_
    refine h_iret rfl ?_
    exact ⟨_, _, rfl, o0, ⟨by omega, by omega⟩⟩
theorem jd_l {kn : sKn} {w0 : sW} (pw : PW w0) {q0 p s0 : Nat} (hq0 : ztau q0 = some 22) (hp : ztau p = some 5) (hs0 : ztau s0 = some 15) {al : Int} : ∀ (m i top : Nat) (w : sW) (lv : List (Nat × Value)) (t y : Int), i + m = 40 → t = (top : Int) → y = (i : Int) → top ≤ i → hO dH_jd w0 w → hL lv [(0, .ref q0), (1, .ref p), (2, .ref s0), (3, hI al), (4, hI t), (5, hI y)] → Tp (tX7_judge kn) (fun r => ∃ (w' : sW) (b : Int), r = (some (hI b), w', 0, 0) ∧ hO dH_jd w0 w' ∧ R32 b) 15 (lv, [], w, 0, 0) := by
  intro m
  induction m with
  | zero =>
    intro i top w lv t y hm ht hy hti o0 l0
    subst ht
    subst hy
    refine h_iload rfl l0 rfl ?_
    refine h_aload rfl l0 rfl ?_
    refine h_getI rfl o0 (fI_of hq0 fit_22_3) (fun b41a b41b => ?_)
    refine i_ge (kn := kn) (t := 3) (tgt := 176) (np := 24) rfl (by unfold R32; omega) (by unfold R32; omega) (fun e42 => ?_) (fun e42 => ?_)
    · exact jd_e pw hq0 hp hs0 (by omega) o0 l0
    · omega
  | succ m ih =>
    intro i top w lv t y hm ht hy hti o0 l0
    subst ht
    subst hy
    refine h_iload rfl l0 rfl ?_
    refine h_aload rfl l0 rfl ?_
    refine h_getI rfl o0 (fI_of hq0 fit_22_3) (fun b41a b41b => ?_)
    refine i_ge (kn := kn) (t := 3) (tgt := 176) (np := 24) rfl (by unfold R32; omega) (by unfold R32; omega) (fun e42 => ?_) (fun e42 => ?_)
    · exact jd_e pw hq0 hp hs0 (by omega) o0 l0
    · refine h_aload rfl l0 rfl ?_
      refine h_getT rfl o0 hq0 frt_22_0 (fun k43 hk43 rk43 => ?_)
      refine h_iload rfl l0 rfl ?_
      refine h_ialdj (i) rfl o0 (aI_of hk43 ait_23) rfl (by omega) (by omega) (fun b44a b44b => ?_)
      refine h_intv k_17 rfl ?_
      refine i_ne (kn := kn) (t := 1) (tgt := 66) (np := 36) rfl (by unfold R32; omega) (by unfold R32; omega) (fun e45 => ?_) (fun e45 => ?_)
      · refine h_aload rfl l0 rfl ?_
        refine h_getT rfl o0 hq0 frt_22_0 (fun k46 hk46 rk46 => ?_)
        refine h_iload rfl l0 rfl ?_
        refine h_ialdj (i) rfl o0 (aI_of hk46 ait_23) rfl (by omega) (by omega) (fun b47a b47b => ?_)
        refine h_intv k_16 rfl ?_
        refine i_ne (kn := kn) (t := 1) (tgt := 109) (np := 78) rfl (by unfold R32; omega) (by unfold R32; omega) (fun e48 => ?_) (fun e48 => ?_)
        · refine h_aload rfl l0 rfl ?_
          refine h_getT rfl o0 hq0 frt_22_0 (fun k49 hk49 rk49 => ?_)
          refine h_iload rfl l0 rfl ?_
          refine h_ialdj (i) rfl o0 (aI_of hk49 ait_23) rfl (by omega) (by omega) (fun b50a b50b => ?_)
          refine h_intv k_15 rfl ?_
          refine i_ne (kn := kn) (t := 1) (tgt := 152) (np := 121) rfl (by unfold R32; omega) (by unfold R32; omega) (fun e51 => ?_) (fun e51 => ?_)
          · refine h_aload rfl l0 rfl ?_
            refine h_getT rfl o0 hq0 frt_22_7 (fun k52 hk52 rk52 => ?_)
            refine h_iload rfl l0 rfl ?_
            refine h_aload rfl l0 rfl ?_
            refine h_aload rfl l0 rfl ?_
            refine h_aload rfl l0 rfl ?_
            refine h_iload rfl l0 rfl ?_
            obtain ⟨z53, hf53, hz53⟩ := s_sayOfAll (kn := kn) o0.1 (pw_jd o0 pw) hq0 hp hs0 i (by omega)
            have hz531 := hz53.1
            have hz532 := hz53.2
            refine h_V4 rfl o0 l0 (cI_of hq0 cit_22) rfl (by simp only [xa_eq, List.all_cons, List.all_nil, Bool.and_true, Bool.and_eq_true]; exact ⟨rfl, tw hk52⟩) hf53 ?_
            refine h_iastj (top) rfl o0 (aI_of hk52 ait_27) rfl rfl (aP_of hk52 apt_27) (by omega) (by omega) (by omega) (by omega) (by omega) (by unfold R32; omega) (fun w54 o54 q55a q55b q55c => ?_)
            refine h_iincv k_1 rfl l0 rfl (fun vl56 l56 => ?_)
            refine h_iincv k_1 rfl l56 rfl (fun vl57 l57 => ?_)
            refine h_goto rfl ?_
            exact ih (i + 1) (top + 1) _ _ _ ((i : Int) + 1) (by omega) (by omega) (by omega) (by omega) o54 l57
          · refine h_iload rfl l0 rfl ?_
            refine h_intv k_1 rfl ?_
            refine i_le (kn := kn) (t := 5) (tgt := 152) (np := 127) rfl (by unfold R32; omega) (by unfold R32; omega) (fun e58 => ?_) (fun e58 => ?_)
            · refine h_aload rfl l0 rfl ?_
              refine h_getT rfl o0 hq0 frt_22_7 (fun k59 hk59 rk59 => ?_)
              refine h_iload rfl l0 rfl ?_
              refine h_aload rfl l0 rfl ?_
              refine h_aload rfl l0 rfl ?_
              refine h_aload rfl l0 rfl ?_
              refine h_iload rfl l0 rfl ?_
              obtain ⟨z60, hf60, hz60⟩ := s_sayOfAll (kn := kn) o0.1 (pw_jd o0 pw) hq0 hp hs0 i (by omega)
              have hz601 := hz60.1
              have hz602 := hz60.2
              refine h_V4 rfl o0 l0 (cI_of hq0 cit_22) rfl (by simp only [xa_eq, List.all_cons, List.all_nil, Bool.and_true, Bool.and_eq_true]; exact ⟨rfl, tw hk59⟩) hf60 ?_
              refine h_iastj (top) rfl o0 (aI_of hk59 ait_27) rfl rfl (aP_of hk59 apt_27) (by omega) (by omega) (by omega) (by omega) (by omega) (by unfold R32; omega) (fun w61 o61 q62a q62b q62c => ?_)
              refine h_iincv k_1 rfl l0 rfl (fun vl63 l63 => ?_)
              refine h_iincv k_1 rfl l63 rfl (fun vl64 l64 => ?_)
              refine h_goto rfl ?_
              exact ih (i + 1) (top + 1) _ _ _ ((i : Int) + 1) (by omega) (by omega) (by omega) (by omega) o61 l64
            · refine h_iincv k_n1 rfl l0 rfl (fun vl65 l65 => ?_)
              refine h_aload rfl l65 rfl ?_
              refine h_getT rfl o0 hq0 frt_22_7 (fun k66 hk66 rk66 => ?_)
              refine h_iload rfl l65 rfl ?_
              refine h_intv k_1 rfl ?_
              refine h_isub rfl ?_
              refine h_dup2 rfl rfl rfl ?_
              refine h_ialdj (top - 1 - 1) rfl o0 (aI_of hk66 ait_27) rfl (by omega) (by omega) (fun b67a b67b => ?_)
              refine h_aload rfl l65 rfl ?_
              refine h_getT rfl o0 hq0 frt_22_7 (fun k68 hk68 rk68 => ?_)
              refine h_iload rfl l65 rfl ?_
              refine h_ialdj (top - 1) rfl o0 (aI_of hk68 ait_27) rfl (by omega) (by omega) (fun b69a b69b => ?_)
              refine h_iorv rfl (fun z70 rz70 => ?_)
              have rz701 := rz70.1
              have rz702 := rz70.2
              refine h_iastj (top - 1 - 1) rfl o0 (aI_of hk66 ait_27) rfl rfl (aP_of hk66 apt_27) (by omega) (by omega) (by omega) (by omega) (by omega) (by unfold R32; omega) (fun w71 o71 q72a q72b q72c => ?_)
              refine h_goto rfl ?_
              refine h_iincv k_1 rfl l65 rfl (fun vl73 l73 => ?_)
              refine h_goto rfl ?_
              exact ih (i + 1) (top - 1) _ _ _ ((i : Int) + 1) (by omega) (by omega) (by omega) (by omega) o71 l73
        · refine h_iload rfl l0 rfl ?_
          refine h_intv k_1 rfl ?_
          refine i_le (kn := kn) (t := 5) (tgt := 109) (np := 84) rfl (by unfold R32; omega) (by unfold R32; omega) (fun e74 => ?_) (fun e74 => ?_)
          · refine h_aload rfl l0 rfl ?_
            refine h_getT rfl o0 hq0 frt_22_0 (fun k75 hk75 rk75 => ?_)
            refine h_iload rfl l0 rfl ?_
            refine h_ialdj (i) rfl o0 (aI_of hk75 ait_23) rfl (by omega) (by omega) (fun b76a b76b => ?_)
            refine h_intv k_15 rfl ?_
            refine i_ne (kn := kn) (t := 1) (tgt := 152) (np := 121) rfl (by unfold R32; omega) (by unfold R32; omega) (fun e77 => ?_) (fun e77 => ?_)
            · refine h_aload rfl l0 rfl ?_
              refine h_getT rfl o0 hq0 frt_22_7 (fun k78 hk78 rk78 => ?_)
              refine h_iload rfl l0 rfl ?_
              refine h_aload rfl l0 rfl ?_
              refine h_aload rfl l0 rfl ?_
              refine h_aload rfl l0 rfl ?_
              refine h_iload rfl l0 rfl ?_
              obtain ⟨z79, hf79, hz79⟩ := s_sayOfAll (kn := kn) o0.1 (pw_jd o0 pw) hq0 hp hs0 i (by omega)
              have hz791 := hz79.1
              have hz792 := hz79.2
              refine h_V4 rfl o0 l0 (cI_of hq0 cit_22) rfl (by simp only [xa_eq, List.all_cons, List.all_nil, Bool.and_true, Bool.and_eq_true]; exact ⟨rfl, tw hk78⟩) hf79 ?_
              refine h_iastj (top) rfl o0 (aI_of hk78 ait_27) rfl rfl (aP_of hk78 apt_27) (by omega) (by omega) (by omega) (by omega) (by omega) (by unfold R32; omega) (fun w80 o80 q81a q81b q81c => ?_)
              refine h_iincv k_1 rfl l0 rfl (fun vl82 l82 => ?_)
              refine h_iincv k_1 rfl l82 rfl (fun vl83 l83 => ?_)
              refine h_goto rfl ?_
              exact ih (i + 1) (top + 1) _ _ _ ((i : Int) + 1) (by omega) (by omega) (by omega) (by omega) o80 l83
            · refine h_iload rfl l0 rfl ?_
              refine h_intv k_1 rfl ?_
              refine i_le (kn := kn) (t := 5) (tgt := 152) (np := 127) rfl (by unfold R32; omega) (by unfold R32; omega) (fun e84 => ?_) (fun e84 => ?_)
              · refine h_aload rfl l0 rfl ?_
                refine h_getT rfl o0 hq0 frt_22_7 (fun k85 hk85 rk85 => ?_)
                refine h_iload rfl l0 rfl ?_
                refine h_aload rfl l0 rfl ?_
                refine h_aload rfl l0 rfl ?_
                refine h_aload rfl l0 rfl ?_
                refine h_iload rfl l0 rfl ?_
                obtain ⟨z86, hf86, hz86⟩ := s_sayOfAll (kn := kn) o0.1 (pw_jd o0 pw) hq0 hp hs0 i (by omega)
                have hz861 := hz86.1
                have hz862 := hz86.2
                refine h_V4 rfl o0 l0 (cI_of hq0 cit_22) rfl (by simp only [xa_eq, List.all_cons, List.all_nil, Bool.and_true, Bool.and_eq_true]; exact ⟨rfl, tw hk85⟩) hf86 ?_
                refine h_iastj (top) rfl o0 (aI_of hk85 ait_27) rfl rfl (aP_of hk85 apt_27) (by omega) (by omega) (by omega) (by omega) (by omega) (by unfold R32; omega) (fun w87 o87 q88a q88b q88c => ?_)
                refine h_iincv k_1 rfl l0 rfl (fun vl89 l89 => ?_)
                refine h_iincv k_1 rfl l89 rfl (fun vl90 l90 => ?_)
                refine h_goto rfl ?_
                exact ih (i + 1) (top + 1) _ _ _ ((i : Int) + 1) (by omega) (by omega) (by omega) (by omega) o87 l90
              · refine h_iincv k_n1 rfl l0 rfl (fun vl91 l91 => ?_)
                refine h_aload rfl l91 rfl ?_
                refine h_getT rfl o0 hq0 frt_22_7 (fun k92 hk92 rk92 => ?_)
                refine h_iload rfl l91 rfl ?_
                refine h_intv k_1 rfl ?_
                refine h_isub rfl ?_
                refine h_dup2 rfl rfl rfl ?_
                refine h_ialdj (top - 1 - 1) rfl o0 (aI_of hk92 ait_27) rfl (by omega) (by omega) (fun b93a b93b => ?_)
                refine h_aload rfl l91 rfl ?_
                refine h_getT rfl o0 hq0 frt_22_7 (fun k94 hk94 rk94 => ?_)
                refine h_iload rfl l91 rfl ?_
                refine h_ialdj (top - 1) rfl o0 (aI_of hk94 ait_27) rfl (by omega) (by omega) (fun b95a b95b => ?_)
                refine h_iorv rfl (fun z96 rz96 => ?_)
                have rz961 := rz96.1
                have rz962 := rz96.2
                refine h_iastj (top - 1 - 1) rfl o0 (aI_of hk92 ait_27) rfl rfl (aP_of hk92 apt_27) (by omega) (by omega) (by omega) (by omega) (by omega) (by unfold R32; omega) (fun w97 o97 q98a q98b q98c => ?_)
                refine h_goto rfl ?_
                refine h_iincv k_1 rfl l91 rfl (fun vl99 l99 => ?_)
                refine h_goto rfl ?_
                exact ih (i + 1) (top - 1) _ _ _ ((i : Int) + 1) (by omega) (by omega) (by omega) (by omega) o97 l99
          · refine h_iincv k_n1 rfl l0 rfl (fun vl100 l100 => ?_)
            refine h_aload rfl l100 rfl ?_
            refine h_getT rfl o0 hq0 frt_22_7 (fun k101 hk101 rk101 => ?_)
            refine h_iload rfl l100 rfl ?_
            refine h_intv k_1 rfl ?_
            refine h_isub rfl ?_
            refine h_dup2 rfl rfl rfl ?_
            refine h_ialdj (top - 1 - 1) rfl o0 (aI_of hk101 ait_27) rfl (by omega) (by omega) (fun b102a b102b => ?_)
            refine h_aload rfl l100 rfl ?_
            refine h_getT rfl o0 hq0 frt_22_7 (fun k103 hk103 rk103 => ?_)
            refine h_iload rfl l100 rfl ?_
            refine h_ialdj (top - 1) rfl o0 (aI_of hk103 ait_27) rfl (by omega) (by omega) (fun b104a b104b => ?_)
            refine h_iandv rfl (fun z105 rz105 => ?_)
            have rz1051 := rz105.1
            have rz1052 := rz105.2
            refine h_iastj (top - 1 - 1) rfl o0 (aI_of hk101 ait_27) rfl rfl (aP_of hk101 apt_27) (by omega) (by omega) (by omega) (by omega) (by omega) (by unfold R32; omega) (fun w106 o106 q107a q107b q107c => ?_)
            refine h_goto rfl ?_
            refine h_iincv k_1 rfl l100 rfl (fun vl108 l108 => ?_)
            refine h_goto rfl ?_
            exact ih (i + 1) (top - 1) _ _ _ ((i : Int) + 1) (by omega) (by omega) (by omega) (by omega) o106 l108
      · refine h_iload rfl l0 rfl ?_
        refine j_le (kn := kn) (t := 5) (tgt := 66) (np := 41) rfl (by unfold R32; omega) (fun e109 => ?_) (fun e109 => ?_)
        · refine h_aload rfl l0 rfl ?_
          refine h_getT rfl o0 hq0 frt_22_0 (fun k110 hk110 rk110 => ?_)
          refine h_iload rfl l0 rfl ?_
          refine h_ialdj (i) rfl o0 (aI_of hk110 ait_23) rfl (by omega) (by omega) (fun b111a b111b => ?_)
          refine h_intv k_16 rfl ?_
          refine i_ne (kn := kn) (t := 1) (tgt := 109) (np := 78) rfl (by unfold R32; omega) (by unfold R32; omega) (fun e112 => ?_) (fun e112 => ?_)
          · refine h_aload rfl l0 rfl ?_
            refine h_getT rfl o0 hq0 frt_22_0 (fun k113 hk113 rk113 => ?_)
            refine h_iload rfl l0 rfl ?_
            refine h_ialdj (i) rfl o0 (aI_of hk113 ait_23) rfl (by omega) (by omega) (fun b114a b114b => ?_)
            refine h_intv k_15 rfl ?_
            refine i_ne (kn := kn) (t := 1) (tgt := 152) (np := 121) rfl (by unfold R32; omega) (by unfold R32; omega) (fun e115 => ?_) (fun e115 => ?_)
            · refine h_aload rfl l0 rfl ?_
              refine h_getT rfl o0 hq0 frt_22_7 (fun k116 hk116 rk116 => ?_)
              refine h_iload rfl l0 rfl ?_
              refine h_aload rfl l0 rfl ?_
              refine h_aload rfl l0 rfl ?_
              refine h_aload rfl l0 rfl ?_
              refine h_iload rfl l0 rfl ?_
              obtain ⟨z117, hf117, hz117⟩ := s_sayOfAll (kn := kn) o0.1 (pw_jd o0 pw) hq0 hp hs0 i (by omega)
              have hz1171 := hz117.1
              have hz1172 := hz117.2
              refine h_V4 rfl o0 l0 (cI_of hq0 cit_22) rfl (by simp only [xa_eq, List.all_cons, List.all_nil, Bool.and_true, Bool.and_eq_true]; exact ⟨rfl, tw hk116⟩) hf117 ?_
              refine h_iastj (top) rfl o0 (aI_of hk116 ait_27) rfl rfl (aP_of hk116 apt_27) (by omega) (by omega) (by omega) (by omega) (by omega) (by unfold R32; omega) (fun w118 o118 q119a q119b q119c => ?_)
              refine h_iincv k_1 rfl l0 rfl (fun vl120 l120 => ?_)
              refine h_iincv k_1 rfl l120 rfl (fun vl121 l121 => ?_)
              refine h_goto rfl ?_
              exact ih (i + 1) (top + 1) _ _ _ ((i : Int) + 1) (by omega) (by omega) (by omega) (by omega) o118 l121
            · refine h_iload rfl l0 rfl ?_
              refine h_intv k_1 rfl ?_
              refine i_le (kn := kn) (t := 5) (tgt := 152) (np := 127) rfl (by unfold R32; omega) (by unfold R32; omega) (fun e122 => ?_) (fun e122 => ?_)
              · refine h_aload rfl l0 rfl ?_
                refine h_getT rfl o0 hq0 frt_22_7 (fun k123 hk123 rk123 => ?_)
                refine h_iload rfl l0 rfl ?_
                refine h_aload rfl l0 rfl ?_
                refine h_aload rfl l0 rfl ?_
                refine h_aload rfl l0 rfl ?_
                refine h_iload rfl l0 rfl ?_
                obtain ⟨z124, hf124, hz124⟩ := s_sayOfAll (kn := kn) o0.1 (pw_jd o0 pw) hq0 hp hs0 i (by omega)
                have hz1241 := hz124.1
                have hz1242 := hz124.2
                refine h_V4 rfl o0 l0 (cI_of hq0 cit_22) rfl (by simp only [xa_eq, List.all_cons, List.all_nil, Bool.and_true, Bool.and_eq_true]; exact ⟨rfl, tw hk123⟩) hf124 ?_
                refine h_iastj (top) rfl o0 (aI_of hk123 ait_27) rfl rfl (aP_of hk123 apt_27) (by omega) (by omega) (by omega) (by omega) (by omega) (by unfold R32; omega) (fun w125 o125 q126a q126b q126c => ?_)
                refine h_iincv k_1 rfl l0 rfl (fun vl127 l127 => ?_)
                refine h_iincv k_1 rfl l127 rfl (fun vl128 l128 => ?_)
                refine h_goto rfl ?_
                exact ih (i + 1) (top + 1) _ _ _ ((i : Int) + 1) (by omega) (by omega) (by omega) (by omega) o125 l128
              · refine h_iincv k_n1 rfl l0 rfl (fun vl129 l129 => ?_)
                refine h_aload rfl l129 rfl ?_
                refine h_getT rfl o0 hq0 frt_22_7 (fun k130 hk130 rk130 => ?_)
                refine h_iload rfl l129 rfl ?_
                refine h_intv k_1 rfl ?_
                refine h_isub rfl ?_
                refine h_dup2 rfl rfl rfl ?_
                refine h_ialdj (top - 1 - 1) rfl o0 (aI_of hk130 ait_27) rfl (by omega) (by omega) (fun b131a b131b => ?_)
                refine h_aload rfl l129 rfl ?_
                refine h_getT rfl o0 hq0 frt_22_7 (fun k132 hk132 rk132 => ?_)
                refine h_iload rfl l129 rfl ?_
                refine h_ialdj (top - 1) rfl o0 (aI_of hk132 ait_27) rfl (by omega) (by omega) (fun b133a b133b => ?_)
                refine h_iorv rfl (fun z134 rz134 => ?_)
                have rz1341 := rz134.1
                have rz1342 := rz134.2
                refine h_iastj (top - 1 - 1) rfl o0 (aI_of hk130 ait_27) rfl rfl (aP_of hk130 apt_27) (by omega) (by omega) (by omega) (by omega) (by omega) (by unfold R32; omega) (fun w135 o135 q136a q136b q136c => ?_)
                refine h_goto rfl ?_
                refine h_iincv k_1 rfl l129 rfl (fun vl137 l137 => ?_)
                refine h_goto rfl ?_
                exact ih (i + 1) (top - 1) _ _ _ ((i : Int) + 1) (by omega) (by omega) (by omega) (by omega) o135 l137
          · refine h_iload rfl l0 rfl ?_
            refine h_intv k_1 rfl ?_
            refine i_le (kn := kn) (t := 5) (tgt := 109) (np := 84) rfl (by unfold R32; omega) (by unfold R32; omega) (fun e138 => ?_) (fun e138 => ?_)
            · refine h_aload rfl l0 rfl ?_
              refine h_getT rfl o0 hq0 frt_22_0 (fun k139 hk139 rk139 => ?_)
              refine h_iload rfl l0 rfl ?_
              refine h_ialdj (i) rfl o0 (aI_of hk139 ait_23) rfl (by omega) (by omega) (fun b140a b140b => ?_)
              refine h_intv k_15 rfl ?_
              refine i_ne (kn := kn) (t := 1) (tgt := 152) (np := 121) rfl (by unfold R32; omega) (by unfold R32; omega) (fun e141 => ?_) (fun e141 => ?_)
              · refine h_aload rfl l0 rfl ?_
                refine h_getT rfl o0 hq0 frt_22_7 (fun k142 hk142 rk142 => ?_)
                refine h_iload rfl l0 rfl ?_
                refine h_aload rfl l0 rfl ?_
                refine h_aload rfl l0 rfl ?_
                refine h_aload rfl l0 rfl ?_
                refine h_iload rfl l0 rfl ?_
                obtain ⟨z143, hf143, hz143⟩ := s_sayOfAll (kn := kn) o0.1 (pw_jd o0 pw) hq0 hp hs0 i (by omega)
                have hz1431 := hz143.1
                have hz1432 := hz143.2
                refine h_V4 rfl o0 l0 (cI_of hq0 cit_22) rfl (by simp only [xa_eq, List.all_cons, List.all_nil, Bool.and_true, Bool.and_eq_true]; exact ⟨rfl, tw hk142⟩) hf143 ?_
                refine h_iastj (top) rfl o0 (aI_of hk142 ait_27) rfl rfl (aP_of hk142 apt_27) (by omega) (by omega) (by omega) (by omega) (by omega) (by unfold R32; omega) (fun w144 o144 q145a q145b q145c => ?_)
                refine h_iincv k_1 rfl l0 rfl (fun vl146 l146 => ?_)
                refine h_iincv k_1 rfl l146 rfl (fun vl147 l147 => ?_)
                refine h_goto rfl ?_
                exact ih (i + 1) (top + 1) _ _ _ ((i : Int) + 1) (by omega) (by omega) (by omega) (by omega) o144 l147
              · refine h_iload rfl l0 rfl ?_
                refine h_intv k_1 rfl ?_
                refine i_le (kn := kn) (t := 5) (tgt := 152) (np := 127) rfl (by unfold R32; omega) (by unfold R32; omega) (fun e148 => ?_) (fun e148 => ?_)
                · refine h_aload rfl l0 rfl ?_
                  refine h_getT rfl o0 hq0 frt_22_7 (fun k149 hk149 rk149 => ?_)
                  refine h_iload rfl l0 rfl ?_
                  refine h_aload rfl l0 rfl ?_
                  refine h_aload rfl l0 rfl ?_
                  refine h_aload rfl l0 rfl ?_
                  refine h_iload rfl l0 rfl ?_
                  obtain ⟨z150, hf150, hz150⟩ := s_sayOfAll (kn := kn) o0.1 (pw_jd o0 pw) hq0 hp hs0 i (by omega)
                  have hz1501 := hz150.1
                  have hz1502 := hz150.2
                  refine h_V4 rfl o0 l0 (cI_of hq0 cit_22) rfl (by simp only [xa_eq, List.all_cons, List.all_nil, Bool.and_true, Bool.and_eq_true]; exact ⟨rfl, tw hk149⟩) hf150 ?_
                  refine h_iastj (top) rfl o0 (aI_of hk149 ait_27) rfl rfl (aP_of hk149 apt_27) (by omega) (by omega) (by omega) (by omega) (by omega) (by unfold R32; omega) (fun w151 o151 q152a q152b q152c => ?_)
                  refine h_iincv k_1 rfl l0 rfl (fun vl153 l153 => ?_)
                  refine h_iincv k_1 rfl l153 rfl (fun vl154 l154 => ?_)
                  refine h_goto rfl ?_
                  exact ih (i + 1) (top + 1) _ _ _ ((i : Int) + 1) (by omega) (by omega) (by omega) (by omega) o151 l154
                · refine h_iincv k_n1 rfl l0 rfl (fun vl155 l155 => ?_)
                  refine h_aload rfl l155 rfl ?_
                  refine h_getT rfl o0 hq0 frt_22_7 (fun k156 hk156 rk156 => ?_)
                  refine h_iload rfl l155 rfl ?_
                  refine h_intv k_1 rfl ?_
                  refine h_isub rfl ?_
                  refine h_dup2 rfl rfl rfl ?_
                  refine h_ialdj (top - 1 - 1) rfl o0 (aI_of hk156 ait_27) rfl (by omega) (by omega) (fun b157a b157b => ?_)
                  refine h_aload rfl l155 rfl ?_
                  refine h_getT rfl o0 hq0 frt_22_7 (fun k158 hk158 rk158 => ?_)
                  refine h_iload rfl l155 rfl ?_
                  refine h_ialdj (top - 1) rfl o0 (aI_of hk158 ait_27) rfl (by omega) (by omega) (fun b159a b159b => ?_)
                  refine h_iorv rfl (fun z160 rz160 => ?_)
                  have rz1601 := rz160.1
                  have rz1602 := rz160.2
                  refine h_iastj (top - 1 - 1) rfl o0 (aI_of hk156 ait_27) rfl rfl (aP_of hk156 apt_27) (by omega) (by omega) (by omega) (by omega) (by omega) (by unfold R32; omega) (fun w161 o161 q162a q162b q162c => ?_)
                  refine h_goto rfl ?_
                  refine h_iincv k_1 rfl l155 rfl (fun vl163 l163 => ?_)
                  refine h_goto rfl ?_
                  exact ih (i + 1) (top - 1) _ _ _ ((i : Int) + 1) (by omega) (by omega) (by omega) (by omega) o161 l163
            · refine h_iincv k_n1 rfl l0 rfl (fun vl164 l164 => ?_)
              refine h_aload rfl l164 rfl ?_
              refine h_getT rfl o0 hq0 frt_22_7 (fun k165 hk165 rk165 => ?_)
              refine h_iload rfl l164 rfl ?_
              refine h_intv k_1 rfl ?_
              refine h_isub rfl ?_
              refine h_dup2 rfl rfl rfl ?_
              refine h_ialdj (top - 1 - 1) rfl o0 (aI_of hk165 ait_27) rfl (by omega) (by omega) (fun b166a b166b => ?_)
              refine h_aload rfl l164 rfl ?_
              refine h_getT rfl o0 hq0 frt_22_7 (fun k167 hk167 rk167 => ?_)
              refine h_iload rfl l164 rfl ?_
              refine h_ialdj (top - 1) rfl o0 (aI_of hk167 ait_27) rfl (by omega) (by omega) (fun b168a b168b => ?_)
              refine h_iandv rfl (fun z169 rz169 => ?_)
              have rz1691 := rz169.1
              have rz1692 := rz169.2
              refine h_iastj (top - 1 - 1) rfl o0 (aI_of hk165 ait_27) rfl rfl (aP_of hk165 apt_27) (by omega) (by omega) (by omega) (by omega) (by omega) (by unfold R32; omega) (fun w170 o170 q171a q171b q171c => ?_)
              refine h_goto rfl ?_
              refine h_iincv k_1 rfl l164 rfl (fun vl172 l172 => ?_)
              refine h_goto rfl ?_
              exact ih (i + 1) (top - 1) _ _ _ ((i : Int) + 1) (by omega) (by omega) (by omega) (by omega) o170 l172
        · refine h_aload rfl l0 rfl ?_
          refine h_getT rfl o0 hq0 frt_22_7 (fun k173 hk173 rk173 => ?_)
          refine h_iload rfl l0 rfl ?_
          refine h_intv k_1 rfl ?_
          refine h_isub rfl ?_
          refine h_iload rfl l0 rfl ?_
          refine h_aload rfl l0 rfl ?_
          refine h_getT rfl o0 hq0 frt_22_7 (fun k174 hk174 rk174 => ?_)
          refine h_iload rfl l0 rfl ?_
          refine h_intv k_1 rfl ?_
          refine h_isub rfl ?_
          refine h_ialdj (top - 1) rfl o0 (aI_of hk174 ait_27) rfl (by omega) (by omega) (fun b175a b175b => ?_)
          refine h_intv k_n1 rfl ?_
          refine h_ixorv rfl (fun z176 rz176 => ?_)
          have rz1761 := rz176.1
          have rz1762 := rz176.2
          refine h_iandv rfl (fun z177 rz177 => ?_)
          have rz1771 := rz177.1
          have rz1772 := rz177.2
          refine h_iastj (top - 1) rfl o0 (aI_of hk173 ait_27) rfl rfl (aP_of hk173 apt_27) (by omega) (by omega) (by omega) (by omega) (by omega) (by unfold R32; omega) (fun w178 o178 q179a q179b q179c => ?_)
          refine h_goto rfl ?_
          refine h_iincv k_1 rfl l0 rfl (fun vl180 l180 => ?_)
          refine h_goto rfl ?_
          exact ih (i + 1) (top) _ _ _ ((i : Int) + 1) (by omega) (by omega) (by omega) (by omega) o178 l180
theorem s_judge {kn : sKn} {w0 : sW} (hw : wOk ZZ w0) (pw : PW w0) {q0 p s0 : Nat} (hq0 : ztau q0 = some 22) (hp : ztau p = some 5) (hs0 : ztau s0 = some 15) : ∃ (w' : sW) (b : Int), fX7_judge kn [.ref q0, .ref p, .ref s0] w0 = some (some (hI b), w', 0, 0) ∧ hO dH_jd w0 w' ∧ R32 b := by
  have K : Tp (tX7_judge kn) (fun r => ∃ (w' : sW) (b : Int), r = (some (hI b), w', 0, 0) ∧ hO dH_jd w0 w' ∧ R32 b) 0 (lv_args 0 [.ref q0, .ref p, .ref s0], [], w0, 0, 0) := by
    have l0 : hL (lv_args 0 [.ref q0, .ref p, .ref s0]) (lv_args 0 [.ref q0, .ref p, .ref s0]) := ⟨fun _ _ h => h, fun q hq => by
      rcases List.mem_cons.mp hq with e | hq
      · rw [e]
        exact ⟨rfl, tw hq0⟩
      rcases List.mem_cons.mp hq with e | hq
      · rw [e]
        exact ⟨rfl, tw hp⟩
      rcases List.mem_cons.mp hq with e | hq
      · rw [e]
        exact ⟨rfl, tw hs0⟩
      cases hq⟩
    have o0 : hO dH_jd w0 w0 := hO_rf hw
    refine h_intv k_1 rfl ?_
    refine h_aload rfl l0 rfl ?_
    refine h_getI rfl o0 (fI_of hp fit_5_2) (fun b41a b41b => ?_)
    refine h_ishlv rfl (fun z42 rz42 => ?_)
    have rz421 := rz42.1
    have rz422 := rz42.2
    refine h_intv k_1 rfl ?_
    refine h_isub rfl ?_
    refine h_istore rfl l0 (fun vl43 l43 => ?_)
    refine h_intv k_0 rfl ?_
    refine h_istore rfl l43 (fun vl44 l44 => ?_)
    refine h_intv k_0 rfl ?_
    refine h_istore rfl l44 (fun vl45 l45 => ?_)
    exact jd_l pw hq0 hp hs0 40 0 0 _ _ 0 0 rfl rfl rfl (by omega) o0 l45
  obtain ⟨r, h1, w2, b, h2, h3⟩ := h_meth1 (nL := 6) rfl K
  rw [h2] at h1
  exact ⟨w2, b, h1, h3⟩
theorem sd7_l {kn : sKn} {w0 w : sW} (o0 : hO dH_jd w0 w) (k bt : Int) (hk : R32 k) : ∀ (m s : Nat) (lv : List (Nat × Value)) (bf y : Int), s + m = 10 → y = (s : Int) → (0 ≤ bf ∧ bf ≤ (s : Int)) → hL lv [(0, .ref 0), (1, hI k), (2, hI bt), (3, hI bf), (4, hI y)] → Tp (tX11_said kn) (fun r => ∃ (w' : sW) (b : Int), r = (some (hI b), w', 0, 0) ∧ hO dH_jd w0 w') 48 (lv, [], w, 0, 0) := by
  have hk1 := hk.1
  have hk2 := hk.2
  intro m
  induction m with
  | zero =>
    intro s lv bf y hm hy hb l0
    subst hy
    refine h_iload rfl l0 rfl ?_
    refine h_aload rfl l0 rfl ?_
    refine h_getR rfl o0 frc_0_2 ?_
    refine h_getI rfl o0 (fI_of (show ztau 14 = some 5 from rfl) fit_5_2) (fun b41a b41b => ?_)
    refine i_ge (kn := kn) (t := 3) (tgt := 86) (np := 60) rfl (by unfold R32; omega) (by unfold R32; omega) (fun e42 => ?_) (fun e42 => ?_)
    · refine h_intv k_n1 rfl ?_
      refine h_iret rfl ?_
      exact ⟨_, _, rfl, o0⟩
    · omega
  | succ m ih =>
    intro s lv bf y hm hy hb l0
    subst hy
    refine h_iload rfl l0 rfl ?_
    refine h_aload rfl l0 rfl ?_
    refine h_getR rfl o0 frc_0_2 ?_
    refine h_getI rfl o0 (fI_of (show ztau 14 = some 5 from rfl) fit_5_2) (fun b41a b41b => ?_)
    refine i_ge (kn := kn) (t := 3) (tgt := 86) (np := 60) rfl (by unfold R32; omega) (by unfold R32; omega) (fun e42 => ?_) (fun e42 => ?_)
    · refine h_intv k_n1 rfl ?_
      refine h_iret rfl ?_
      exact ⟨_, _, rfl, o0⟩
    · refine h_iload rfl l0 rfl ?_
      refine h_iload rfl l0 rfl ?_
      refine h_ishrv rfl (fun z43 rz43 => ?_)
      have rz431 := rz43.1
      have rz432 := rz43.2
      refine h_intv k_1 rfl ?_
      refine h_iandv rfl (fun z44 rz44 => ?_)
      have rz441 := rz44.1
      have rz442 := rz44.2
      refine j_eq (kn := kn) (t := 0) (tgt := 80) (np := 69) rfl (by unfold R32; omega) (fun e45 => ?_) (fun e45 => ?_)
      · refine h_iincv k_1 rfl l0 rfl (fun vl46 l46 => ?_)
        refine h_goto rfl ?_
        exact ih (s + 1) _ _ ((s : Int) + 1) (by omega) (by omega) (by omega) l46
      · refine h_iload rfl l0 rfl ?_
        refine h_iload rfl l0 rfl ?_
        refine i_ne (kn := kn) (t := 1) (tgt := 77) (np := 74) rfl (by unfold R32; omega) (by unfold R32; omega) (fun e47 => ?_) (fun e47 => ?_)
        · refine h_iincv k_1 rfl l0 rfl (fun vl48 l48 => ?_)
          refine h_iincv k_1 rfl l48 rfl (fun vl49 l49 => ?_)
          refine h_goto rfl ?_
          exact ih (s + 1) _ _ ((s : Int) + 1) (by omega) (by omega) (by omega) l49
        · refine h_iload rfl l0 rfl ?_
          refine h_iret rfl ?_
          exact ⟨_, _, rfl, o0⟩
theorem s_said7 {kn : sKn} {w0 : sW} (hw : wOk ZZ w0) (pw : PW w0) (k : Int) (hk : R32 k) : ∃ (w' : sW) (b : Int), fX11_said kn [.ref 0, hI k] w0 = some (some (hI b), w', 0, 0) ∧ hO dH_jd w0 w' := by
  have hk1 := hk.1
  have hk2 := hk.2
  have K : Tp (tX11_said kn) (fun r => ∃ (w' : sW) (b : Int), r = (some (hI b), w', 0, 0) ∧ hO dH_jd w0 w') 0 (lv_args 0 [.ref 0, hI k], [], w0, 0, 0) := by
    have l0 : hL (lv_args 0 [.ref 0, hI k]) (lv_args 0 [.ref 0, hI k]) := ⟨fun _ _ h => h, fun q hq => by
      rcases List.mem_cons.mp hq with e | hq
      · rw [e]
        exact ⟨rfl, rfl⟩
      rcases List.mem_cons.mp hq with e | hq
      · rw [e]
        exact ⟨rfl, rfl⟩
      cases hq⟩
    have o0 : hO dH_jd w0 w0 := hO_rf hw
    refine h_aload rfl l0 rfl ?_
    refine h_getT rfl o0 (show ztau 0 = some 1 from rfl) frt_1_4 (fun k41 hk41 rk41 => ?_)
    refine h_getI rfl o0 (fI_of hk41 fit_22_8) (fun b42a b42b => ?_)
    refine j_eq (kn := kn) (t := 0) (tgt := 15) (np := 10) rfl (by unfold R32; omega) (fun e43 => ?_) (fun e43 => ?_)
    · refine h_intv k_n1 rfl ?_
      refine h_iret rfl ?_
      exact ⟨_, _, rfl, o0⟩
    · refine h_iload rfl l0 rfl ?_
      refine h_intv k_n1 rfl ?_
      refine i_ge (kn := kn) (t := 3) (tgt := 17) (np := 15) rfl (by unfold R32; omega) (by unfold R32; omega) (fun e44 => ?_) (fun e44 => ?_)
      · refine h_aload rfl l0 rfl ?_
        refine h_getT rfl o0 (show ztau 0 = some 1 from rfl) frt_1_4 (fun k45 hk45 rk45 => ?_)
        refine h_aload rfl l0 rfl ?_
        refine h_getR rfl o0 frc_0_2 ?_
        refine h_aload rfl l0 rfl ?_
        refine h_getR rfl o0 frc_0_3 ?_
        obtain ⟨wA, bA, hf46, oA', rA⟩ := s_judge (kn := kn) o0.1 (pw_jd o0 pw) hk45 (show ztau 14 = some 5 from rfl) (show ztau 24 = some 15 from rfl)
        have oA : hO dH_jd w0 wA := hO_tr o0 oA'
        have rA1 := rA.1
        have rA2 := rA.2
        refine h_V3 rfl o0 l0 (cI_of hk45 cit_22) rfl rfl hf46 ?_
        refine h_istore rfl l0 (fun vl47 l47 => ?_)
        refine h_iload rfl l47 rfl ?_
        refine h_intv k_n1 rfl ?_
        refine i_ne (kn := kn) (t := 1) (tgt := 43) (np := 38) rfl (by unfold R32; omega) (by unfold R32; omega) (fun e48 => ?_) (fun e48 => ?_)
        · refine h_intv k_0 rfl ?_
          refine h_istore rfl l47 (fun vl49 l49 => ?_)
          refine h_intv k_0 rfl ?_
          refine h_istore rfl l49 (fun vl50 l50 => ?_)
          exact sd7_l oA k bA hk 10 0 _ 0 0 rfl rfl ⟨by omega, by omega⟩ l50
        · refine h_iload rfl l47 rfl ?_
          obtain ⟨z51, hf51⟩ := s_bitCount (kn := kn) oA.1 bA ⟨by omega, by omega⟩
          refine h_S1 rfl oA l47 rfl rfl hf51 ?_
          refine h_iret rfl ?_
          exact ⟨_, _, rfl, oA⟩
      · refine h_intv k_n1 rfl ?_
        refine h_iret rfl ?_
        exact ⟨_, _, rfl, o0⟩
  obtain ⟨r, h1, w2, b, h2, h3⟩ := h_meth1 (nL := 5) rfl K
  rw [h2] at h1
  exact ⟨w2, b, h1, h3⟩
end
