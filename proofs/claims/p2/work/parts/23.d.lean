noncomputable section
section HB
variable {tbl : List (Nat × sA)} {Po : sR → Prop} {pc np : Nat} {lv ps : List (Nat × Value)} {st : List Value} {w w0 : sW} {D : List (Nat × Nat)} {kn : sKn}
theorem h_iandv {a b : Int} (ha : t_get tbl pc = some (a_stk q_iand np)) (g : ∀ z : Int, R32 z → Tp tbl Po np (lv, hI z :: st, w, 0, 0)) : Tp tbl Po pc (lv, hI b :: hI a :: st, w, 0, 0) := h_iand ha (g _ (R32_of _))
theorem h_iorv {a b : Int} (ha : t_get tbl pc = some (a_stk q_ior np)) (g : ∀ z : Int, R32 z → Tp tbl Po np (lv, hI z :: st, w, 0, 0)) : Tp tbl Po pc (lv, hI b :: hI a :: st, w, 0, 0) := h_ior ha (g _ (R32_of _))
theorem h_ixorv {a b : Int} (ha : t_get tbl pc = some (a_stk q_ixor np)) (g : ∀ z : Int, R32 z → Tp tbl Po np (lv, hI z :: st, w, 0, 0)) : Tp tbl Po pc (lv, hI b :: hI a :: st, w, 0, 0) := h_ixor ha (g _ (R32_of _))
theorem h_ishlv {a b : Int} (ha : t_get tbl pc = some (a_stk q_ishl np)) (g : ∀ z : Int, R32 z → Tp tbl Po np (lv, hI z :: st, w, 0, 0)) : Tp tbl Po pc (lv, hI b :: hI a :: st, w, 0, 0) := h_ishl ha (g _ (R32_of _))
theorem h_ishrv {a b : Int} (ha : t_get tbl pc = some (a_stk q_ishr np)) (g : ∀ z : Int, R32 z → Tp tbl Po np (lv, hI z :: st, w, 0, 0)) : Tp tbl Po pc (lv, hI b :: hI a :: st, w, 0, 0) := h_ishr ha (g _ (R32_of _))
end HB
/-- what a sentence that is good says of its numbers -/
theorem pw_ok {w : sW} {k a b i : Nat} (p : PW w) (hk : ztau k = some 22) (ha : gR w k 0 = a) (hb : gR w k 2 = b) (hi : i < 40) : okCN (gX w a i) (gX w b i) := by
  obtain ⟨p0, p1, p2, p3, p4, p5, p6, p7⟩ := p
  rcases rf_ab p0 hk ha hb with ⟨_, rfl, rfl⟩ | ⟨_, rfl, rfl⟩ | ⟨_, rfl, rfl⟩ | ⟨_, rfl, rfl⟩
  · exact p4 i hi
  · exact p5 i hi
  · exact p6 i hi
  · exact p7 i hi
theorem ci_43 : cIs 43 = some 2 := by decide +kernel
theorem fr_43_0 : fR 43 2 0 = some 44 := by decide +kernel
theorem fr_43_1 : fR 43 2 1 = some 45 := by decide +kernel
theorem fr_43_2 : fR 43 2 2 = some 46 := by decide +kernel
theorem fr_43_3 : fR 43 2 3 = some 47 := by decide +kernel
theorem fi_43_4 : fI 43 2 4 = some (28, 0, 41) := by decide +kernel
theorem fr_43_5 : fR 43 2 5 = some 48 := by decide +kernel
theorem ai_44 : aI 44 = some (29, 40) := by decide +kernel
theorem aw_44 : aP 44 0 40 (-2147483648) 2147483647 = true := by decide +kernel
theorem ar_44 : aR 44 0 40 (-2147483648) 2147483647 = true := by decide +kernel
theorem ai_45 : aI 45 = some (30, 40) := by decide +kernel
theorem aw_45 : aP 45 0 40 (-1) 9 = true := by decide +kernel
theorem ar_45 : aR 45 0 40 (-1) 9 = true := by decide +kernel
theorem ai_46 : aI 46 = some (31, 40) := by decide +kernel
theorem aw_46 : aP 46 0 40 0 60 = true := by decide +kernel
theorem ar_46 : aR 46 0 40 0 60 = true := by decide +kernel
theorem ai_47 : aI 47 = some (32, 40) := by decide +kernel
theorem aw_47 : aP 47 0 40 0 2 = true := by decide +kernel
theorem ar_47 : aR 47 0 40 0 2 = true := by decide +kernel
theorem ai_48 : aI 48 = some (33, 4) := by decide +kernel
theorem aw_48 : aP 48 0 4 (-2147483648) 2147483647 = true := by decide +kernel
theorem ar_48 : aR 48 0 4 (-2147483648) 2147483647 = true := by decide +kernel
theorem ci_49 : cIs 49 = some 11 := by decide +kernel
theorem fr_49_0 : fR 49 11 0 = some 50 := by decide +kernel
theorem fr_49_1 : fR 49 11 1 = some 51 := by decide +kernel
theorem fr_49_2 : fR 49 11 2 = some 52 := by decide +kernel
theorem fr_49_3 : fR 49 11 3 = some 53 := by decide +kernel
theorem ai_50 : aI 50 = some (35, 36) := by decide +kernel
theorem aw_50 : aP 50 0 36 (-2147483648) 2147483647 = true := by decide +kernel
theorem ar_50 : aR 50 0 36 (-2147483648) 2147483647 = true := by decide +kernel
theorem ai_51 : aI 51 = some (36, 48) := by decide +kernel
theorem aw_51 : aP 51 0 48 (-2147483648) 2147483647 = true := by decide +kernel
theorem ar_51 : aR 51 0 48 (-2147483648) 2147483647 = true := by decide +kernel
theorem ai_52 : aI 52 = some (37, 48) := by decide +kernel
theorem aw_52 : aP 52 0 48 (-2147483648) 2147483647 = true := by decide +kernel
theorem ar_52 : aR 52 0 48 (-2147483648) 2147483647 = true := by decide +kernel
theorem ai_53 : aI 53 = some (38, 12) := by decide +kernel
theorem aw_53 : aP 53 0 12 0 3 = true := by decide +kernel
theorem ar_53 : aR 53 0 12 0 3 = true := by decide +kernel
theorem ait_16 : aIt 16 = some 10 := by decide +kernel
theorem ait_18 : aIt 18 = some 10 := by decide +kernel
theorem ait_27 : aIt 27 = some 40 := by decide +kernel
theorem ait_8 : aIt 8 = some 10 := by decide +kernel
theorem ait_9 : aIt 9 = some 10 := by decide +kernel
theorem apt_16 : aPt 16 0 10 (-2147483648) 2147483647 = true := by decide +kernel
theorem art_16 : aRt 16 0 10 (-2147483648) 2147483647 = true := by decide +kernel
theorem apt_18 : aPt 18 0 10 (-2147483648) 2147483647 = true := by decide +kernel
theorem art_18 : aRt 18 0 10 (-2147483648) 2147483647 = true := by decide +kernel
theorem apt_27 : aPt 27 0 40 (-2147483648) 2147483647 = true := by decide +kernel
theorem art_27 : aRt 27 0 40 (-2147483648) 2147483647 = true := by decide +kernel
theorem apt_8 : aPt 8 0 10 (-2147483648) 2147483647 = true := by decide +kernel
theorem art_8 : aRt 8 0 10 (-2147483648) 2147483647 = true := by decide +kernel
theorem apt_9 : aPt 9 0 10 (-1) 9 = true := by decide +kernel
theorem art_9 : aRt 9 0 10 (-1) 9 = true := by decide +kernel
theorem cit_15 : cIt 15 = some 9 := by decide +kernel
theorem cit_5 : cIt 5 = some 7 := by decide +kernel
theorem fit_5_2 : fIt 5 7 2 = some (0, 10) := by decide +kernel
theorem fit_5_5 : fIt 5 7 5 = some ((-2147483648), 2147483647) := by decide +kernel
theorem frc_0_2 : fR 0 12 2 = some 14 := by decide +kernel
theorem frc_0_3 : fR 0 12 3 = some 24 := by decide +kernel
theorem frt_1_4 : fRt 1 12 4 = some 22 := by decide +kernel
theorem frt_15_3 : fRt 15 9 3 = some 16 := by decide +kernel
theorem frt_15_5 : fRt 15 9 5 = some 18 := by decide +kernel
theorem frt_22_7 : fRt 22 8 7 = some 27 := by decide +kernel
theorem frt_5_8 : fRt 5 7 8 = some 8 := by decide +kernel
theorem frt_5_9 : fRt 5 7 9 = some 9 := by decide +kernel
theorem s_lives_ {kn : sKn} {w : sW} (hw : wOk ZZ w) {k1 : Nat} (hk1 : ztau k1 = some 15) (x2 : Int) (hx2 : 0 ≤ x2 ∧ x2 ≤ 9) : ∃ (w' : sW) (z : Int), fX8_lives kn [.ref k1, hI x2] w = some (some (hI z), w', 0, 0) ∧ hO dX8_lives w w' ∧ (z = 1 ∨ z = 0) := by
  obtain ⟨r, w', h1, h2, q, hq, σ', h3, h4, h5, h6⟩ := con_use (con_X8_lives_0 kn) (σ := [0, (k1 : Int), x2]) (av := [.ref k1, hI x2]) (w := w) rfl rfl ⟨av_r rfl, av_i rfl ⟨by omega, by omega⟩, trivial⟩ (fun q hq => by cases hq) (gE_c ⟨_, rfl, hx2⟩ (gE_c ⟨_, rfl, _, rfl, hk1⟩ (gE_n))) hw (by simp only [xa_eq, List.all_cons, List.all_nil, Bool.and_true, Bool.and_eq_true]; exact ⟨tw hk1, rfl⟩)
  rcases List.mem_cons.mp hq with rfl | hq
  · obtain ⟨z, z1, z2, z3⟩ := gS_i h4
    rw [z2] at h1
    have z4 := h3 0 0 rfl
    rw [z4] at z1
    cases z1
    refine ⟨w', _, h1, h2, ?_⟩
    omega
  rcases List.mem_singleton.mp hq with rfl
  obtain ⟨z, z1, z2, z3⟩ := gS_i h4
  rw [z2] at h1
  have z4 := h3 0 0 rfl
  rw [z4] at z1
  cases z1
  refine ⟨w', _, h1, h2, ?_⟩
  omega
theorem s_lives {kn : sKn} {w : sW} (hw : wOk ZZ w) {k1 : Nat} (hk1 : ztau k1 = some 15) (x2 : Int) (hx2 : 0 ≤ x2 ∧ x2 ≤ 9) : ∃ z : Int, fX8_lives kn [.ref k1, hI x2] w = some (some (hI z), w, 0, 0) ∧ (z = 1 ∨ z = 0) := by
  obtain ⟨w', z, h1, h2, h3⟩ := s_lives_ (kn := kn) hw hk1 x2 hx2
  have e : w' = w := fr_nil hw h2.1 h2.2
  subst e
  exact ⟨z, h1, h3⟩
theorem s_areLovers_ {kn : sKn} {w : sW} (hw : wOk ZZ w) {k1 : Nat} (hk1 : ztau k1 = some 5) (x2 : Int) (hx2 : 0 ≤ x2 ∧ x2 ≤ 9) (x3 : Int) (hx3 : (-1) ≤ x3 ∧ x3 ≤ 9) : ∃ (w' : sW) (z : Int), fX6_areLovers kn [.ref k1, hI x2, hI x3] w = some (some (hI z), w', 0, 0) ∧ hO dX6_areLovers w w' ∧ ((z = 1 ∧ 0 ≤ x3 ∧ x3 ≤ 9) ∨ z = 0) := by
  obtain ⟨r, w', h1, h2, q, hq, σ', h3, h4, h5, h6⟩ := con_use (con_X6_areLovers_0 kn) (σ := [0, (k1 : Int), x2, x3]) (av := [.ref k1, hI x2, hI x3]) (w := w) rfl rfl ⟨av_r rfl, av_i rfl ⟨by omega, by omega⟩, av_i rfl ⟨by omega, by omega⟩, trivial⟩ (fun q hq => by cases hq) (gE_c ⟨_, rfl, hx3⟩ (gE_c ⟨_, rfl, hx2⟩ (gE_c ⟨_, rfl, _, rfl, hk1⟩ (gE_n)))) hw (by simp only [xa_eq, List.all_cons, List.all_nil, Bool.and_true, Bool.and_eq_true]; exact ⟨tw hk1, rfl, rfl⟩)
  rcases List.mem_cons.mp hq with rfl | hq
  · obtain ⟨z, z1, z2, z3⟩ := gS_i h4
    rw [z2] at h1
    have z4 := h3 0 0 rfl
    rw [z4] at z1
    cases z1
    have y3 := gE_at (a := 0) (b := 9) h6 (by first | exact List.mem_cons_self | decide) (h3 3 _ rfl)
    refine ⟨w', _, h1, h2, ?_⟩
    omega
  rcases List.mem_singleton.mp hq with rfl
  obtain ⟨z, z1, z2, z3⟩ := gS_i h4
  rw [z2] at h1
  have z4 := h3 0 0 rfl
  rw [z4] at z1
  cases z1
  refine ⟨w', _, h1, h2, ?_⟩
  omega
theorem s_areLovers {kn : sKn} {w : sW} (hw : wOk ZZ w) {k1 : Nat} (hk1 : ztau k1 = some 5) (x2 : Int) (hx2 : 0 ≤ x2 ∧ x2 ≤ 9) (x3 : Int) (hx3 : (-1) ≤ x3 ∧ x3 ≤ 9) : ∃ z : Int, fX6_areLovers kn [.ref k1, hI x2, hI x3] w = some (some (hI z), w, 0, 0) ∧ ((z = 1 ∧ 0 ≤ x3 ∧ x3 ≤ 9) ∨ z = 0) := by
  obtain ⟨w', z, h1, h2, h3⟩ := s_areLovers_ (kn := kn) hw hk1 x2 hx2 x3 hx3
  have e : w' = w := fr_nil hw h2.1 h2.2
  subst e
  exact ⟨z, h1, h3⟩
theorem s_compares_ {kn : sKn} {w : sW} (hw : wOk ZZ w) {k1 : Nat} (hk1 : ztau k1 = some 22) (x2 : Int) (hx2 : 0 ≤ x2 ∧ x2 ≤ 39) (x3 : Int) (hx3 : (-2147483648) ≤ x3 ∧ x3 ≤ 2147483647) : ∃ (w' : sW) (z : Int), fX7_compares kn [.ref k1, hI x2, hI x3] w = some (some (hI z), w', 0, 0) ∧ hO dX7_compares w w' ∧ (z = 1 ∨ z = 0) := by
  obtain ⟨r, w', h1, h2, q, hq, σ', h3, h4, h5, h6⟩ := con_use (con_X7_compares_0 kn) (σ := [0, (k1 : Int), x2, x3]) (av := [.ref k1, hI x2, hI x3]) (w := w) rfl rfl ⟨av_r rfl, av_i rfl ⟨by omega, by omega⟩, av_i rfl ⟨by omega, by omega⟩, trivial⟩ (fun q hq => by cases hq) (gE_c ⟨_, rfl, hx3⟩ (gE_c ⟨_, rfl, hx2⟩ (gE_c ⟨_, rfl, _, rfl, hk1⟩ (gE_n)))) hw (by simp only [xa_eq, List.all_cons, List.all_nil, Bool.and_true, Bool.and_eq_true]; exact ⟨tw hk1, rfl, rfl⟩)
  rcases List.mem_cons.mp hq with rfl | hq
  · obtain ⟨z, z1, z2, z3⟩ := gS_i h4
    rw [z2] at h1
    have z4 := h3 0 0 rfl
    rw [z4] at z1
    cases z1
    refine ⟨w', _, h1, h2, ?_⟩
    omega
  rcases List.mem_singleton.mp hq with rfl
  obtain ⟨z, z1, z2, z3⟩ := gS_i h4
  rw [z2] at h1
  have z4 := h3 0 0 rfl
  rw [z4] at z1
  cases z1
  refine ⟨w', _, h1, h2, ?_⟩
  omega
theorem s_compares {kn : sKn} {w : sW} (hw : wOk ZZ w) {k1 : Nat} (hk1 : ztau k1 = some 22) (x2 : Int) (hx2 : 0 ≤ x2 ∧ x2 ≤ 39) (x3 : Int) (hx3 : (-2147483648) ≤ x3 ∧ x3 ≤ 2147483647) : ∃ z : Int, fX7_compares kn [.ref k1, hI x2, hI x3] w = some (some (hI z), w, 0, 0) ∧ (z = 1 ∨ z = 0) := by
  obtain ⟨w', z, h1, h2, h3⟩ := s_compares_ (kn := kn) hw hk1 x2 hx2 x3 hx3
  have e : w' = w := fr_nil hw h2.1 h2.2
  subst e
  exact ⟨z, h1, h3⟩
theorem s_isOn7_ {kn : sKn} {w : sW} (hw : wOk ZZ w) {k1 : Nat} (hk1 : ztau k1 = some 15) (x2 : Int) (hx2 : 0 ≤ x2 ∧ x2 ≤ 11) (x3 : Int) (hx3 : (-2147483648) ≤ x3 ∧ x3 ≤ 2147483647) : ∃ (w' : sW) (z : Int), fX7_isOn kn [.ref k1, hI x2, hI x3] w = some (some (hI z), w', 0, 0) ∧ hO dX7_isOn w w' ∧ ((z = 1 ∧ (-1) ≤ x3 ∧ x3 ≤ 9) ∨ z = 0) := by
  obtain ⟨r, w', h1, h2, q, hq, σ', h3, h4, h5, h6⟩ := con_use (con_X7_isOn_0 kn) (σ := [0, (k1 : Int), x2, x3]) (av := [.ref k1, hI x2, hI x3]) (w := w) rfl rfl ⟨av_r rfl, av_i rfl ⟨by omega, by omega⟩, av_i rfl ⟨by omega, by omega⟩, trivial⟩ (fun q hq => by cases hq) (gE_c ⟨_, rfl, hx3⟩ (gE_c ⟨_, rfl, hx2⟩ (gE_c ⟨_, rfl, _, rfl, hk1⟩ (gE_n)))) hw (by simp only [xa_eq, List.all_cons, List.all_nil, Bool.and_true, Bool.and_eq_true]; exact ⟨tw hk1, rfl, rfl⟩)
  rcases List.mem_cons.mp hq with rfl | hq
  · obtain ⟨z, z1, z2, z3⟩ := gS_i h4
    rw [z2] at h1
    have z4 := h3 0 0 rfl
    rw [z4] at z1
    cases z1
    have y3 := gE_at (a := (-1)) (b := 9) h6 (by first | exact List.mem_cons_self | decide) (h3 3 _ rfl)
    refine ⟨w', _, h1, h2, ?_⟩
    omega
  rcases List.mem_singleton.mp hq with rfl
  obtain ⟨z, z1, z2, z3⟩ := gS_i h4
  rw [z2] at h1
  have z4 := h3 0 0 rfl
  rw [z4] at z1
  cases z1
  refine ⟨w', _, h1, h2, ?_⟩
  omega
theorem s_isOn7 {kn : sKn} {w : sW} (hw : wOk ZZ w) {k1 : Nat} (hk1 : ztau k1 = some 15) (x2 : Int) (hx2 : 0 ≤ x2 ∧ x2 ≤ 11) (x3 : Int) (hx3 : (-2147483648) ≤ x3 ∧ x3 ≤ 2147483647) : ∃ z : Int, fX7_isOn kn [.ref k1, hI x2, hI x3] w = some (some (hI z), w, 0, 0) ∧ ((z = 1 ∧ (-1) ≤ x3 ∧ x3 ≤ 9) ∨ z = 0) := by
  obtain ⟨w', z, h1, h2, h3⟩ := s_isOn7_ (kn := kn) hw hk1 x2 hx2 x3 hx3
  have e : w' = w := fr_nil hw h2.1 h2.2
  subst e
  exact ⟨z, h1, h3⟩
theorem s_bitCount_ {kn : sKn} {w : sW} (hw : wOk ZZ w) (x1 : Int) (hx1 : (-2147483648) ≤ x1 ∧ x1 ≤ 2147483647) : ∃ (w' : sW) (z : Int), fJ6_bitCount_0f7a4 kn [hI x1] w = some (some (hI z), w', 0, 0) ∧ hO dJ6_bitCount_0f7a4 w w' ∧ ((0 ≤ z ∧ z ≤ 63)) := by
  obtain ⟨r, w', h1, h2, q, hq, σ', h3, h4, h5, h6⟩ := con_use (con_J6_bitCount_0f7a4_e0 kn) (σ := [0, x1]) (av := [hI x1]) (w := w) rfl rfl ⟨av_i rfl ⟨by omega, by omega⟩, trivial⟩ (fun q hq => by cases hq) (gE_c ⟨_, rfl, hx1⟩ (gE_n)) hw rfl
  rcases List.mem_singleton.mp hq with rfl
  obtain ⟨z, z1, z2, z3⟩ := gS_i h4
  rw [z2] at h1
  have z5 := gE_at (a := 0) (b := 63) h6 (by first | exact List.mem_cons_self | decide) z1
  refine ⟨w', _, h1, h2, ?_⟩
  omega
theorem s_bitCount {kn : sKn} {w : sW} (hw : wOk ZZ w) (x1 : Int) (hx1 : (-2147483648) ≤ x1 ∧ x1 ≤ 2147483647) : ∃ z : Int, fJ6_bitCount_0f7a4 kn [hI x1] w = some (some (hI z), w, 0, 0) ∧ ((0 ≤ z ∧ z ≤ 63)) := by
  obtain ⟨w', z, h1, h2, h3⟩ := s_bitCount_ (kn := kn) hw x1 hx1
  have e : w' = w := fr_nil hw h2.1 h2.2
  subst e
  exact ⟨z, h1, h3⟩
theorem s_isTrueOf {kn : sKn} {w : sW} (hw : wOk ZZ w) (pw : PW w) {q0 p s0 : Nat} (hq0 : ztau q0 = some 22) (hp : ztau p = some 5) (hs0 : ztau s0 = some 15) (i s : Nat) (hi : i ≤ 39) (hs : s ≤ 9) : ∃ b : Int, fX7_isTrueOf kn [.ref q0, .ref p, .ref s0, hI i, hI s] w = some (some (hI b), w, 0, 0) ∧ (b = 0 ∨ b = 1) := by
  have K : Tp (tX7_isTrueOf kn) (fun r => ∃ b : Int, r = (some (hI b), w, 0, 0) ∧ (b = 0 ∨ b = 1)) 0 (lv_args 0 [.ref q0, .ref p, .ref s0, hI i, hI s], [], w, 0, 0) := by
    have l0 : hL (lv_args 0 [.ref q0, .ref p, .ref s0, hI i, hI s]) (lv_args 0 [.ref q0, .ref p, .ref s0, hI i, hI s]) := ⟨fun _ _ h => h, fun q hq => by
      rcases List.mem_cons.mp hq with e | hq
      · rw [e]
        exact ⟨rfl, tw hq0⟩
      rcases List.mem_cons.mp hq with e | hq
      · rw [e]
        exact ⟨rfl, tw hp⟩
      rcases List.mem_cons.mp hq with e | hq
      · rw [e]
        exact ⟨rfl, tw hs0⟩
      rcases List.mem_cons.mp hq with e | hq
      · rw [e]
        exact ⟨rfl, rfl⟩
      rcases List.mem_cons.mp hq with e | hq
      · rw [e]
        exact ⟨rfl, rfl⟩
      cases hq⟩
    have o0 : hO [] w w := hO_rf hw
    refine h_aload rfl l0 rfl ?_
    refine h_getT rfl o0 hq0 frt_22_0 (fun k1 hk1 rk1 => ?_)
    refine h_iload rfl l0 rfl ?_
    refine h_ialdj (i) rfl o0 (aI_of hk1 ait_23) rfl (by omega) (by omega) (fun b2a b2b => ?_)
    by_cases e3_0 : (gX w k1 (i)) = 18
    · refine h_tab 18 e3_0 (by unfold R32; omega) rfl (by omega) (by omega) rfl ?_
      refine h_aload rfl l0 rfl ?_
      refine h_iload rfl l0 rfl ?_
      obtain ⟨z4, hf4, hz4⟩ := s_lives (kn := kn) hw hs0 (s : Int) ⟨by omega, by omega⟩
      refine h_V2 rfl o0 l0 (cI_of hs0 cit_15) rfl rfl hf4 ?_
      refine j_ne (kn := kn) (t := 1) (tgt := 65) (np := 61) rfl (by unfold R32; omega) (fun e5 => ?_) (fun e5 => ?_)
      · refine h_intv k_0 rfl ?_
        refine h_zret (by omega) rfl ?_
        exact ⟨_, rfl, by omega⟩
      · refine h_intv k_1 rfl ?_
        refine h_goto rfl ?_
        refine h_zret (by omega) rfl ?_
        exact ⟨_, rfl, by omega⟩
    by_cases e3_1 : (gX w k1 (i)) = 19
    · refine h_tab 19 e3_1 (by unfold R32; omega) rfl (by omega) (by omega) rfl ?_
      refine h_aload rfl l0 rfl ?_
      refine h_getI rfl o0 (fI_of hp fit_5_5) (fun b6a b6b => ?_)
      refine h_iload rfl l0 rfl ?_
      refine h_ishrv rfl (fun z7 rz7 => ?_)
      have rz71 := rz7.1
      have rz72 := rz7.2
      refine h_intv k_1 rfl ?_
      refine h_iandv rfl (fun z8 rz8 => ?_)
      have rz81 := rz8.1
      have rz82 := rz8.2
      refine j_eq (kn := kn) (t := 0) (tgt := 83) (np := 79) rfl (by unfold R32; omega) (fun e9 => ?_) (fun e9 => ?_)
      · refine h_intv k_0 rfl ?_
        refine h_zret (by omega) rfl ?_
        exact ⟨_, rfl, by omega⟩
      · refine h_intv k_1 rfl ?_
        refine h_goto rfl ?_
        refine h_zret (by omega) rfl ?_
        exact ⟨_, rfl, by omega⟩
    by_cases e3_2 : (gX w k1 (i)) = 20
    · refine h_tab 20 e3_2 (by unfold R32; omega) rfl (by omega) (by omega) rfl ?_
      refine h_aload rfl l0 rfl ?_
      refine h_iload rfl l0 rfl ?_
      refine h_aload rfl l0 rfl ?_
      refine h_getT rfl o0 hq0 frt_22_2 (fun k10 hk10 rk10 => ?_)
      refine h_iload rfl l0 rfl ?_
      refine h_ialdj (i) rfl o0 (aI_of hk10 ait_25) rfl (by omega) (by omega) (fun b11a b11b => ?_)
      have okb11 := pw_ok pw hq0 rk1 rk10 (show i < 40 by omega)
      obtain ⟨nb11, hnb11⟩ : ∃ n : Nat, gX w k10 i = (n : Int) := ⟨(gX w k10 i).toNat, by unfold okCN at okb11; omega⟩
      have ok2b11 := okb11
      unfold okCN at ok2b11
      rw [hnb11] at ok2b11 b11a b11b ⊢
      obtain ⟨z12, hf12, hz12⟩ := s_areLovers (kn := kn) hw hp (s : Int) ⟨by omega, by omega⟩ nb11 ⟨by omega, by omega⟩
      refine h_V3 rfl o0 l0 (cI_of hp cit_5) rfl rfl hf12 ?_
      refine h_zret (by omega) rfl ?_
      exact ⟨_, rfl, by omega⟩
    by_cases e3_3 : (gX w k1 (i)) = 21
    · refine h_tab 21 e3_3 (by unfold R32; omega) rfl (by omega) (by omega) rfl ?_
      refine h_aload rfl l0 rfl ?_
      refine h_getT rfl o0 hp frt_5_9 (fun k13 hk13 rk13 => ?_)
      refine h_aload rfl l0 rfl ?_
      refine h_getT rfl o0 hq0 frt_22_2 (fun k14 hk14 rk14 => ?_)
      refine h_iload rfl l0 rfl ?_
      refine h_ialdj (i) rfl o0 (aI_of hk14 ait_25) rfl (by omega) (by omega) (fun b15a b15b => ?_)
      have okb15 := pw_ok pw hq0 rk1 rk14 (show i < 40 by omega)
      obtain ⟨nb15, hnb15⟩ : ∃ n : Nat, gX w k14 i = (n : Int) := ⟨(gX w k14 i).toNat, by unfold okCN at okb15; omega⟩
      have ok2b15 := okb15
      unfold okCN at ok2b15
      rw [hnb15] at ok2b15 b15a b15b ⊢
      refine h_ialdj (nb15) rfl o0 (aI_of hk13 ait_9) rfl (by omega) (by omega) (fun b16a b16b => ?_)
      refine h_iload rfl l0 rfl ?_
      refine i_ne (kn := kn) (t := 1) (tgt := 118) (np := 114) rfl (by unfold R32; omega) (by unfold R32; omega) (fun e17 => ?_) (fun e17 => ?_)
      · refine h_intv k_0 rfl ?_
        refine h_zret (by omega) rfl ?_
        exact ⟨_, rfl, by omega⟩
      · refine h_intv k_1 rfl ?_
        refine h_goto rfl ?_
        refine h_zret (by omega) rfl ?_
        exact ⟨_, rfl, by omega⟩
    by_cases e3_4 : (gX w k1 (i)) = 22
    · refine h_tab 22 e3_4 (by unfold R32; omega) rfl (by omega) (by omega) rfl ?_
      refine h_aload rfl l0 rfl ?_
      refine h_aload rfl l0 rfl ?_
      refine h_getT rfl o0 hq0 frt_22_2 (fun k18 hk18 rk18 => ?_)
      refine h_iload rfl l0 rfl ?_
      refine h_ialdj (i) rfl o0 (aI_of hk18 ait_25) rfl (by omega) (by omega) (fun b19a b19b => ?_)
      have okb19 := pw_ok pw hq0 rk1 rk18 (show i < 40 by omega)
      obtain ⟨nb19, hnb19⟩ : ∃ n : Nat, gX w k18 i = (n : Int) := ⟨(gX w k18 i).toNat, by unfold okCN at okb19; omega⟩
      have ok2b19 := okb19
      unfold okCN at ok2b19
      rw [hnb19] at ok2b19 b19a b19b ⊢
      refine h_iload rfl l0 rfl ?_
      obtain ⟨z20, hf20, hz20⟩ := s_isOn7 (kn := kn) hw hs0 nb19 ⟨by omega, by omega⟩ (s : Int) ⟨by omega, by omega⟩
      refine h_S3 rfl o0 l0 rfl rfl hf20 ?_
      refine h_zret (by omega) rfl ?_
      exact ⟨_, rfl, by omega⟩
    by_cases e3_5 : (gX w k1 (i)) = 23
    · refine h_tab 23 e3_5 (by unfold R32; omega) rfl (by omega) (by omega) rfl ?_
      refine h_aload rfl l0 rfl ?_
      refine h_iload rfl l0 rfl ?_
      refine h_aload rfl l0 rfl ?_
      refine h_getT rfl o0 hs0 frt_15_3 (fun k21 hk21 rk21 => ?_)
      refine h_iload rfl l0 rfl ?_
      refine h_ialdj (s) rfl o0 (aI_of hk21 ait_16) rfl (by omega) (by omega) (fun b22a b22b => ?_)
      obtain ⟨z23, hf23, hz23⟩ := s_compares (kn := kn) hw hq0 (i : Int) ⟨by omega, by omega⟩ (gX w k21 (s)) ⟨by omega, by omega⟩
      refine h_V3 rfl o0 l0 (cI_of hq0 cit_22) rfl rfl hf23 ?_
      refine h_zret (by omega) rfl ?_
      exact ⟨_, rfl, by omega⟩
    by_cases e3_6 : (gX w k1 (i)) = 24
    · refine h_tab 24 e3_6 (by unfold R32; omega) rfl (by omega) (by omega) rfl ?_
      refine h_aload rfl l0 rfl ?_
      refine h_iload rfl l0 rfl ?_
      refine h_aload rfl l0 rfl ?_
      refine h_getT rfl o0 hs0 frt_15_5 (fun k24 hk24 rk24 => ?_)
      refine h_iload rfl l0 rfl ?_
      refine h_ialdj (s) rfl o0 (aI_of hk24 ait_18) rfl (by omega) (by omega) (fun b25a b25b => ?_)
      obtain ⟨z26, hf26, hz26⟩ := s_compares (kn := kn) hw hq0 (i : Int) ⟨by omega, by omega⟩ (gX w k24 (s)) ⟨by omega, by omega⟩
      refine h_V3 rfl o0 l0 (cI_of hq0 cit_22) rfl rfl hf26 ?_
      refine h_zret (by omega) rfl ?_
      exact ⟨_, rfl, by omega⟩
    by_cases e3_7 : (gX w k1 (i)) = 25
    · refine h_tab 25 e3_7 (by unfold R32; omega) rfl (by omega) (by omega) rfl ?_
      refine h_aload rfl l0 rfl ?_
      refine h_iload rfl l0 rfl ?_
      refine h_aload rfl l0 rfl ?_
      refine h_getT rfl o0 hp frt_5_8 (fun k27 hk27 rk27 => ?_)
      refine h_iload rfl l0 rfl ?_
      refine h_ialdj (s) rfl o0 (aI_of hk27 ait_8) rfl (by omega) (by omega) (fun b28a b28b => ?_)
      obtain ⟨z29, hf29, hz29⟩ := s_compares (kn := kn) hw hq0 (i : Int) ⟨by omega, by omega⟩ (gX w k27 (s)) ⟨by omega, by omega⟩
      refine h_V3 rfl o0 l0 (cI_of hq0 cit_22) rfl rfl hf29 ?_
      refine h_zret (by omega) rfl ?_
      exact ⟨_, rfl, by omega⟩
    refine h_tabd rfl (by unfold R32; omega) (by omega) ?_
    refine h_aload rfl l0 rfl ?_
    refine h_iload rfl l0 rfl ?_
    refine h_iload rfl l0 rfl ?_
    obtain ⟨z30, hf30, hz30⟩ := s_compares (kn := kn) hw hq0 (i : Int) ⟨by omega, by omega⟩ s ⟨by omega, by omega⟩
    refine h_V3 rfl o0 l0 (cI_of hq0 cit_22) rfl rfl hf30 ?_
    refine h_zret (by omega) rfl ?_
    exact ⟨_, rfl, by omega⟩
  obtain ⟨r, h1, b, h2, h3⟩ := h_meth1 (nL := 5) rfl K
  rw [h2] at h1
  exact ⟨b, h1, h3⟩
theorem sa_l {kn : sKn} {w : sW} (hw : wOk ZZ w) (pw : PW w) {q0 p s0 : Nat} (hq0 : ztau q0 = some 22) (hp : ztau p = some 5) (hs0 : ztau s0 = some 15) (i : Nat) (hi : i ≤ 39) : ∀ (m s : Nat) (lv : List (Nat × Value)) (b y : Int), s + m = 10 → y = (s : Int) → R32 b → hL lv [(0, .ref q0), (1, .ref p), (2, .ref s0), (3, hI i), (4, hI b), (5, hI y)] → Tp (tX7_sayOfAll kn) (fun r => ∃ b : Int, r = (some (hI b), w, 0, 0) ∧ R32 b) 6 (lv, [], w, 0, 0) := by
  have o0 : hO [] w w := hO_rf hw
  intro m
  induction m with
  | zero =>
    intro s lv b y hm hy hb l0
    subst hy
    refine h_iload rfl l0 rfl ?_
    refine h_aload rfl l0 rfl ?_
    refine h_getI rfl o0 (fI_of hp fit_5_2) (fun b1a b1b => ?_)
    refine i_ge (kn := kn) (t := 3) (tgt := 42) (np := 15) rfl (by unfold R32; omega) (by unfold R32; omega) (fun e2 => ?_) (fun e2 => ?_)
    · refine h_iload rfl l0 rfl ?_
      refine h_iret rfl ?_
      exact ⟨_, rfl, hb⟩
    · omega
  | succ m ih =>
    intro s lv b y hm hy hb l0
    subst hy
    refine h_iload rfl l0 rfl ?_
    refine h_aload rfl l0 rfl ?_
    refine h_getI rfl o0 (fI_of hp fit_5_2) (fun b1a b1b => ?_)
    refine i_ge (kn := kn) (t := 3) (tgt := 42) (np := 15) rfl (by unfold R32; omega) (by unfold R32; omega) (fun e2 => ?_) (fun e2 => ?_)
    · refine h_iload rfl l0 rfl ?_
      refine h_iret rfl ?_
      exact ⟨_, rfl, hb⟩
    · refine h_aload rfl l0 rfl ?_
      refine h_aload rfl l0 rfl ?_
      refine h_aload rfl l0 rfl ?_
      refine h_iload rfl l0 rfl ?_
      refine h_iload rfl l0 rfl ?_
      obtain ⟨z3, hf3, hz3⟩ := s_isTrueOf (kn := kn) hw pw hq0 hp hs0 i s hi (by omega)
      refine h_V5 rfl o0 l0 (cI_of hq0 cit_22) rfl rfl hf3 ?_
      refine j_eq (kn := kn) (t := 0) (tgt := 36) (np := 27) rfl (by unfold R32; omega) (fun e4 => ?_) (fun e4 => ?_)
      · refine h_iincv k_1 rfl l0 rfl (fun vl5 l5 => ?_)
        refine h_goto rfl ?_
        exact ih (s + 1) _ _ ((s : Int) + 1) (by omega) (by omega) (by assumption) l5
      · refine h_iload rfl l0 rfl ?_
        refine h_intv k_1 rfl ?_
        refine h_iload rfl l0 rfl ?_
        refine h_ishlv rfl (fun z6 rz6 => ?_)
        have rz61 := rz6.1
        have rz62 := rz6.2
        refine h_iorv rfl (fun z7 rz7 => ?_)
        have rz71 := rz7.1
        have rz72 := rz7.2
        refine h_istore rfl l0 (fun vl8 l8 => ?_)
        refine h_iincv k_1 rfl l8 rfl (fun vl9 l9 => ?_)
        refine h_goto rfl ?_
        exact ih (s + 1) _ _ ((s : Int) + 1) (by omega) (by omega) (by assumption) l9
theorem s_sayOfAll {kn : sKn} {w : sW} (hw : wOk ZZ w) (pw : PW w) {q0 p s0 : Nat} (hq0 : ztau q0 = some 22) (hp : ztau p = some 5) (hs0 : ztau s0 = some 15) (i : Nat) (hi : i ≤ 39) : ∃ b : Int, fX7_sayOfAll kn [.ref q0, .ref p, .ref s0, hI i] w = some (some (hI b), w, 0, 0) ∧ R32 b := by
  have K : Tp (tX7_sayOfAll kn) (fun r => ∃ b : Int, r = (some (hI b), w, 0, 0) ∧ R32 b) 0 (lv_args 0 [.ref q0, .ref p, .ref s0, hI i], [], w, 0, 0) := by
    have l0 : hL (lv_args 0 [.ref q0, .ref p, .ref s0, hI i]) (lv_args 0 [.ref q0, .ref p, .ref s0, hI i]) := ⟨fun _ _ h => h, fun q hq => by
      rcases List.mem_cons.mp hq with e | hq
      · rw [e]
        exact ⟨rfl, tw hq0⟩
      rcases List.mem_cons.mp hq with e | hq
      · rw [e]
        exact ⟨rfl, tw hp⟩
      rcases List.mem_cons.mp hq with e | hq
      · rw [e]
        exact ⟨rfl, tw hs0⟩
      rcases List.mem_cons.mp hq with e | hq
      · rw [e]
        exact ⟨rfl, rfl⟩
      cases hq⟩
    have o0 : hO [] w w := hO_rf hw
    refine h_intv k_0 rfl ?_
    refine h_istore rfl l0 (fun vl1 l1 => ?_)
    refine h_intv k_0 rfl ?_
    refine h_istore rfl l1 (fun vl2 l2 => ?_)
    exact sa_l hw pw hq0 hp hs0 i hi 10 0 _ 0 0 rfl rfl ⟨by omega, by omega⟩ l2
  obtain ⟨r, h1, b, h2, h3⟩ := h_meth1 (nL := 6) rfl K
  rw [h2] at h1
  exact ⟨b, h1, h3⟩
def dH_jd : List (Nat × Nat) := [(27, 999)]
theorem pw_jd {w w' : sW} (h : hO dH_jd w w') (p : PW w) : PW w' := pw_of h (by decide +kernel) p
theorem jd_e {kn : sKn} {w0 : sW} (pw : PW w0) {q0 p s0 : Nat} (hq0 : ztau q0 = some 22) (hp : ztau p = some 5) (hs0 : ztau s0 = some 15) {top : Nat} {al y : Int} {w : sW} {lv : List (Nat × Value)} (ht : top ≤ 40) (o0 : hO dH_jd w0 w) (l0 : hL lv [(0, .ref q0), (1, .ref p), (2, .ref s0), (3, hI al), (4, hI top), (5, hI y)]) : Tp (tX7_judge kn) (fun r => ∃ (w' : sW) (b : Int), r = (some (hI b), w', 0, 0) ∧ hO dH_jd w0 w' ∧ R32 b) 176 (lv, [], w, 0, 0) := by
  refine h_iload rfl l0 rfl ?_
  refine j_le (kn := kn) (t := 5) (tgt := 190) (np := 181) rfl (by unfold R32; omega) (fun e1 => ?_) (fun e1 => ?_)
  · refine h_intv k_0 rfl ?_
    refine h_iret rfl ?_
    exact ⟨_, _, rfl, o0, ⟨by omega, by omega⟩⟩
  · refine h_aload rfl l0 rfl ?_
    refine h_getT rfl o0 hq0 frt_22_7 (fun k2 hk2 rk2 => ?_)
    refine h_intv k_0 rfl ?_
    refine h_ialdj (0) rfl o0 (aI_of hk2 ait_27) rfl (by omega) (by omega) (fun b3a b3b => ?_)
    refine h_goto rfl ?_
    refine h_iret rfl ?_
    exact ⟨_, _, rfl, o0, ⟨by omega, by omega⟩⟩
theorem jd_l {kn : sKn} {w0 : sW} (pw : PW w0) {q0 p s0 : Nat} (hq0 : ztau q0 = some 22) (hp : ztau p = some 5) (hs0 : ztau s0 = some 15) {al : Int} : ∀ (m i top : Nat) (w : sW) (lv : List (Nat × Value)) (t y : Int), i + m = 40 → t = (top : Int) → y = (i : Int) → top ≤ i → hO dH_jd w0 w → hL lv [(0, .ref q0), (1, .ref p), (2, .ref s0), (3, hI al), (4, hI t), (5, hI y)] → Tp (tX7_judge kn) (fun r => ∃ (w' : sW) (b : Int), r = (some (hI b), w', 0, 0) ∧ hO dH_jd w0 w' ∧ R32 b) 15 (lv, [], w, 0, 0) := by
  intro m
  induction m with
  | zero =>
    intro i top w lv t y hm ht hy hti o0 l0
    subst ht
    subst hy
    refine h_iload rfl l0 rfl ?_
    refine h_aload rfl l0 rfl ?_
    refine h_getI rfl o0 (fI_of hq0 fit_22_3) (fun b1a b1b => ?_)
    refine i_ge (kn := kn) (t := 3) (tgt := 176) (np := 24) rfl (by unfold R32; omega) (by unfold R32; omega) (fun e2 => ?_) (fun e2 => ?_)
    · exact jd_e pw hq0 hp hs0 (by omega) o0 l0
    · omega
  | succ m ih =>
    intro i top w lv t y hm ht hy hti o0 l0
    subst ht
    subst hy
    refine h_iload rfl l0 rfl ?_
    refine h_aload rfl l0 rfl ?_
    refine h_getI rfl o0 (fI_of hq0 fit_22_3) (fun b1a b1b => ?_)
    refine i_ge (kn := kn) (t := 3) (tgt := 176) (np := 24) rfl (by unfold R32; omega) (by unfold R32; omega) (fun e2 => ?_) (fun e2 => ?_)
    · exact jd_e pw hq0 hp hs0 (by omega) o0 l0
    · refine h_aload rfl l0 rfl ?_
      refine h_getT rfl o0 hq0 frt_22_0 (fun k3 hk3 rk3 => ?_)
      refine h_iload rfl l0 rfl ?_
      refine h_ialdj (i) rfl o0 (aI_of hk3 ait_23) rfl (by omega) (by omega) (fun b4a b4b => ?_)
      refine h_intv k_17 rfl ?_
      refine i_ne (kn := kn) (t := 1) (tgt := 66) (np := 36) rfl (by unfold R32; omega) (by unfold R32; omega) (fun e5 => ?_) (fun e5 => ?_)
      · refine h_aload rfl l0 rfl ?_
        refine h_getT rfl o0 hq0 frt_22_0 (fun k6 hk6 rk6 => ?_)
        refine h_iload rfl l0 rfl ?_
        refine h_ialdj (i) rfl o0 (aI_of hk6 ait_23) rfl (by omega) (by omega) (fun b7a b7b => ?_)
        refine h_intv k_16 rfl ?_
        refine i_ne (kn := kn) (t := 1) (tgt := 109) (np := 78) rfl (by unfold R32; omega) (by unfold R32; omega) (fun e8 => ?_) (fun e8 => ?_)
        · refine h_aload rfl l0 rfl ?_
          refine h_getT rfl o0 hq0 frt_22_0 (fun k9 hk9 rk9 => ?_)
          refine h_iload rfl l0 rfl ?_
          refine h_ialdj (i) rfl o0 (aI_of hk9 ait_23) rfl (by omega) (by omega) (fun b10a b10b => ?_)
          refine h_intv k_15 rfl ?_
          refine i_ne (kn := kn) (t := 1) (tgt := 152) (np := 121) rfl (by unfold R32; omega) (by unfold R32; omega) (fun e11 => ?_) (fun e11 => ?_)
          · refine h_aload rfl l0 rfl ?_
            refine h_getT rfl o0 hq0 frt_22_7 (fun k12 hk12 rk12 => ?_)
            refine h_iload rfl l0 rfl ?_
            refine h_aload rfl l0 rfl ?_
            refine h_aload rfl l0 rfl ?_
            refine h_aload rfl l0 rfl ?_
            refine h_iload rfl l0 rfl ?_
            obtain ⟨z13, hf13, hz13⟩ := s_sayOfAll (kn := kn) o0.1 (pw_jd o0 pw) hq0 hp hs0 i (by omega)
            have hz131 := hz13.1
            have hz132 := hz13.2
            refine h_V4 rfl o0 l0 (cI_of hq0 cit_22) rfl (by simp only [xa_eq, List.all_cons, List.all_nil, Bool.and_true, Bool.and_eq_true]; exact ⟨rfl, tw hk12⟩) hf13 ?_
            refine h_iastj (top) rfl o0 (aI_of hk12 ait_27) rfl rfl (aP_of hk12 apt_27) (by omega) (by omega) (by omega) (by omega) (by omega) (by unfold R32; omega) (fun w14 o14 q15a q15b q15c => ?_)
            refine h_iincv k_1 rfl l0 rfl (fun vl16 l16 => ?_)
            refine h_iincv k_1 rfl l16 rfl (fun vl17 l17 => ?_)
            refine h_goto rfl ?_
            exact ih (i + 1) (top + 1) _ _ _ ((i : Int) + 1) (by omega) (by omega) (by omega) (by omega) o14 l17
          · refine h_iload rfl l0 rfl ?_
            refine h_intv k_1 rfl ?_
            refine i_le (kn := kn) (t := 5) (tgt := 152) (np := 127) rfl (by unfold R32; omega) (by unfold R32; omega) (fun e18 => ?_) (fun e18 => ?_)
            · refine h_aload rfl l0 rfl ?_
              refine h_getT rfl o0 hq0 frt_22_7 (fun k19 hk19 rk19 => ?_)
              refine h_iload rfl l0 rfl ?_
              refine h_aload rfl l0 rfl ?_
              refine h_aload rfl l0 rfl ?_
              refine h_aload rfl l0 rfl ?_
              refine h_iload rfl l0 rfl ?_
              obtain ⟨z20, hf20, hz20⟩ := s_sayOfAll (kn := kn) o0.1 (pw_jd o0 pw) hq0 hp hs0 i (by omega)
              have hz201 := hz20.1
              have hz202 := hz20.2
              refine h_V4 rfl o0 l0 (cI_of hq0 cit_22) rfl (by simp only [xa_eq, List.all_cons, List.all_nil, Bool.and_true, Bool.and_eq_true]; exact ⟨rfl, tw hk19⟩) hf20 ?_
              refine h_iastj (top) rfl o0 (aI_of hk19 ait_27) rfl rfl (aP_of hk19 apt_27) (by omega) (by omega) (by omega) (by omega) (by omega) (by unfold R32; omega) (fun w21 o21 q22a q22b q22c => ?_)
              refine h_iincv k_1 rfl l0 rfl (fun vl23 l23 => ?_)
              refine h_iincv k_1 rfl l23 rfl (fun vl24 l24 => ?_)
              refine h_goto rfl ?_
              exact ih (i + 1) (top + 1) _ _ _ ((i : Int) + 1) (by omega) (by omega) (by omega) (by omega) o21 l24
            · refine h_iincv k_n1 rfl l0 rfl (fun vl25 l25 => ?_)
              refine h_aload rfl l25 rfl ?_
              refine h_getT rfl o0 hq0 frt_22_7 (fun k26 hk26 rk26 => ?_)
              refine h_iload rfl l25 rfl ?_
              refine h_intv k_1 rfl ?_
              refine h_isub rfl ?_
              refine h_dup2 rfl rfl rfl ?_
              refine h_ialdj (top - 1 - 1) rfl o0 (aI_of hk26 ait_27) rfl (by omega) (by omega) (fun b27a b27b => ?_)
              refine h_aload rfl l25 rfl ?_
              refine h_getT rfl o0 hq0 frt_22_7 (fun k28 hk28 rk28 => ?_)
              refine h_iload rfl l25 rfl ?_
              refine h_ialdj (top - 1) rfl o0 (aI_of hk28 ait_27) rfl (by omega) (by omega) (fun b29a b29b => ?_)
              refine h_iorv rfl (fun z30 rz30 => ?_)
              have rz301 := rz30.1
              have rz302 := rz30.2
              refine h_iastj (top - 1 - 1) rfl o0 (aI_of hk26 ait_27) rfl rfl (aP_of hk26 apt_27) (by omega) (by omega) (by omega) (by omega) (by omega) (by unfold R32; omega) (fun w31 o31 q32a q32b q32c => ?_)
              refine h_goto rfl ?_
              refine h_iincv k_1 rfl l25 rfl (fun vl33 l33 => ?_)
              refine h_goto rfl ?_
              exact ih (i + 1) (top - 1) _ _ _ ((i : Int) + 1) (by omega) (by omega) (by omega) (by omega) o31 l33
        · refine h_iload rfl l0 rfl ?_
          refine h_intv k_1 rfl ?_
          refine i_le (kn := kn) (t := 5) (tgt := 109) (np := 84) rfl (by unfold R32; omega) (by unfold R32; omega) (fun e34 => ?_) (fun e34 => ?_)
          · refine h_aload rfl l0 rfl ?_
            refine h_getT rfl o0 hq0 frt_22_0 (fun k35 hk35 rk35 => ?_)
            refine h_iload rfl l0 rfl ?_
            refine h_ialdj (i) rfl o0 (aI_of hk35 ait_23) rfl (by omega) (by omega) (fun b36a b36b => ?_)
            refine h_intv k_15 rfl ?_
            refine i_ne (kn := kn) (t := 1) (tgt := 152) (np := 121) rfl (by unfold R32; omega) (by unfold R32; omega) (fun e37 => ?_) (fun e37 => ?_)
            · refine h_aload rfl l0 rfl ?_
              refine h_getT rfl o0 hq0 frt_22_7 (fun k38 hk38 rk38 => ?_)
              refine h_iload rfl l0 rfl ?_
              refine h_aload rfl l0 rfl ?_
              refine h_aload rfl l0 rfl ?_
              refine h_aload rfl l0 rfl ?_
              refine h_iload rfl l0 rfl ?_
              obtain ⟨z39, hf39, hz39⟩ := s_sayOfAll (kn := kn) o0.1 (pw_jd o0 pw) hq0 hp hs0 i (by omega)
              have hz391 := hz39.1
              have hz392 := hz39.2
              refine h_V4 rfl o0 l0 (cI_of hq0 cit_22) rfl (by simp only [xa_eq, List.all_cons, List.all_nil, Bool.and_true, Bool.and_eq_true]; exact ⟨rfl, tw hk38⟩) hf39 ?_
              refine h_iastj (top) rfl o0 (aI_of hk38 ait_27) rfl rfl (aP_of hk38 apt_27) (by omega) (by omega) (by omega) (by omega) (by omega) (by unfold R32; omega) (fun w40 o40 q41a q41b q41c => ?_)
              refine h_iincv k_1 rfl l0 rfl (fun vl42 l42 => ?_)
              refine h_iincv k_1 rfl l42 rfl (fun vl43 l43 => ?_)
              refine h_goto rfl ?_
              exact ih (i + 1) (top + 1) _ _ _ ((i : Int) + 1) (by omega) (by omega) (by omega) (by omega) o40 l43
            · refine h_iload rfl l0 rfl ?_
              refine h_intv k_1 rfl ?_
              refine i_le (kn := kn) (t := 5) (tgt := 152) (np := 127) rfl (by unfold R32; omega) (by unfold R32; omega) (fun e44 => ?_) (fun e44 => ?_)
              · refine h_aload rfl l0 rfl ?_
                refine h_getT rfl o0 hq0 frt_22_7 (fun k45 hk45 rk45 => ?_)
                refine h_iload rfl l0 rfl ?_
                refine h_aload rfl l0 rfl ?_
                refine h_aload rfl l0 rfl ?_
                refine h_aload rfl l0 rfl ?_
                refine h_iload rfl l0 rfl ?_
                obtain ⟨z46, hf46, hz46⟩ := s_sayOfAll (kn := kn) o0.1 (pw_jd o0 pw) hq0 hp hs0 i (by omega)
                have hz461 := hz46.1
                have hz462 := hz46.2
                refine h_V4 rfl o0 l0 (cI_of hq0 cit_22) rfl (by simp only [xa_eq, List.all_cons, List.all_nil, Bool.and_true, Bool.and_eq_true]; exact ⟨rfl, tw hk45⟩) hf46 ?_
                refine h_iastj (top) rfl o0 (aI_of hk45 ait_27) rfl rfl (aP_of hk45 apt_27) (by omega) (by omega) (by omega) (by omega) (by omega) (by unfold R32; omega) (fun w47 o47 q48a q48b q48c => ?_)
                refine h_iincv k_1 rfl l0 rfl (fun vl49 l49 => ?_)
                refine h_iincv k_1 rfl l49 rfl (fun vl50 l50 => ?_)
                refine h_goto rfl ?_
                exact ih (i + 1) (top + 1) _ _ _ ((i : Int) + 1) (by omega) (by omega) (by omega) (by omega) o47 l50
              · refine h_iincv k_n1 rfl l0 rfl (fun vl51 l51 => ?_)
                refine h_aload rfl l51 rfl ?_
                refine h_getT rfl o0 hq0 frt_22_7 (fun k52 hk52 rk52 => ?_)
                refine h_iload rfl l51 rfl ?_
                refine h_intv k_1 rfl ?_
                refine h_isub rfl ?_
                refine h_dup2 rfl rfl rfl ?_
                refine h_ialdj (top - 1 - 1) rfl o0 (aI_of hk52 ait_27) rfl (by omega) (by omega) (fun b53a b53b => ?_)
                refine h_aload rfl l51 rfl ?_
                refine h_getT rfl o0 hq0 frt_22_7 (fun k54 hk54 rk54 => ?_)
                refine h_iload rfl l51 rfl ?_
                refine h_ialdj (top - 1) rfl o0 (aI_of hk54 ait_27) rfl (by omega) (by omega) (fun b55a b55b => ?_)
                refine h_iorv rfl (fun z56 rz56 => ?_)
                have rz561 := rz56.1
                have rz562 := rz56.2
                refine h_iastj (top - 1 - 1) rfl o0 (aI_of hk52 ait_27) rfl rfl (aP_of hk52 apt_27) (by omega) (by omega) (by omega) (by omega) (by omega) (by unfold R32; omega) (fun w57 o57 q58a q58b q58c => ?_)
                refine h_goto rfl ?_
                refine h_iincv k_1 rfl l51 rfl (fun vl59 l59 => ?_)
                refine h_goto rfl ?_
                exact ih (i + 1) (top - 1) _ _ _ ((i : Int) + 1) (by omega) (by omega) (by omega) (by omega) o57 l59
          · refine h_iincv k_n1 rfl l0 rfl (fun vl60 l60 => ?_)
            refine h_aload rfl l60 rfl ?_
            refine h_getT rfl o0 hq0 frt_22_7 (fun k61 hk61 rk61 => ?_)
            refine h_iload rfl l60 rfl ?_
            refine h_intv k_1 rfl ?_
            refine h_isub rfl ?_
            refine h_dup2 rfl rfl rfl ?_
            refine h_ialdj (top - 1 - 1) rfl o0 (aI_of hk61 ait_27) rfl (by omega) (by omega) (fun b62a b62b => ?_)
            refine h_aload rfl l60 rfl ?_
            refine h_getT rfl o0 hq0 frt_22_7 (fun k63 hk63 rk63 => ?_)
            refine h_iload rfl l60 rfl ?_
            refine h_ialdj (top - 1) rfl o0 (aI_of hk63 ait_27) rfl (by omega) (by omega) (fun b64a b64b => ?_)
            refine h_iandv rfl (fun z65 rz65 => ?_)
            have rz651 := rz65.1
            have rz652 := rz65.2
            refine h_iastj (top - 1 - 1) rfl o0 (aI_of hk61 ait_27) rfl rfl (aP_of hk61 apt_27) (by omega) (by omega) (by omega) (by omega) (by omega) (by unfold R32; omega) (fun w66 o66 q67a q67b q67c => ?_)
            refine h_goto rfl ?_
            refine h_iincv k_1 rfl l60 rfl (fun vl68 l68 => ?_)
            refine h_goto rfl ?_
            exact ih (i + 1) (top - 1) _ _ _ ((i : Int) + 1) (by omega) (by omega) (by omega) (by omega) o66 l68
      · refine h_iload rfl l0 rfl ?_
        refine j_le (kn := kn) (t := 5) (tgt := 66) (np := 41) rfl (by unfold R32; omega) (fun e69 => ?_) (fun e69 => ?_)
        · refine h_aload rfl l0 rfl ?_
          refine h_getT rfl o0 hq0 frt_22_0 (fun k70 hk70 rk70 => ?_)
          refine h_iload rfl l0 rfl ?_
          refine h_ialdj (i) rfl o0 (aI_of hk70 ait_23) rfl (by omega) (by omega) (fun b71a b71b => ?_)
          refine h_intv k_16 rfl ?_
          refine i_ne (kn := kn) (t := 1) (tgt := 109) (np := 78) rfl (by unfold R32; omega) (by unfold R32; omega) (fun e72 => ?_) (fun e72 => ?_)
          · refine h_aload rfl l0 rfl ?_
            refine h_getT rfl o0 hq0 frt_22_0 (fun k73 hk73 rk73 => ?_)
            refine h_iload rfl l0 rfl ?_
            refine h_ialdj (i) rfl o0 (aI_of hk73 ait_23) rfl (by omega) (by omega) (fun b74a b74b => ?_)
            refine h_intv k_15 rfl ?_
            refine i_ne (kn := kn) (t := 1) (tgt := 152) (np := 121) rfl (by unfold R32; omega) (by unfold R32; omega) (fun e75 => ?_) (fun e75 => ?_)
            · refine h_aload rfl l0 rfl ?_
              refine h_getT rfl o0 hq0 frt_22_7 (fun k76 hk76 rk76 => ?_)
              refine h_iload rfl l0 rfl ?_
              refine h_aload rfl l0 rfl ?_
              refine h_aload rfl l0 rfl ?_
              refine h_aload rfl l0 rfl ?_
              refine h_iload rfl l0 rfl ?_
              obtain ⟨z77, hf77, hz77⟩ := s_sayOfAll (kn := kn) o0.1 (pw_jd o0 pw) hq0 hp hs0 i (by omega)
              have hz771 := hz77.1
              have hz772 := hz77.2
              refine h_V4 rfl o0 l0 (cI_of hq0 cit_22) rfl (by simp only [xa_eq, List.all_cons, List.all_nil, Bool.and_true, Bool.and_eq_true]; exact ⟨rfl, tw hk76⟩) hf77 ?_
              refine h_iastj (top) rfl o0 (aI_of hk76 ait_27) rfl rfl (aP_of hk76 apt_27) (by omega) (by omega) (by omega) (by omega) (by omega) (by unfold R32; omega) (fun w78 o78 q79a q79b q79c => ?_)
              refine h_iincv k_1 rfl l0 rfl (fun vl80 l80 => ?_)
              refine h_iincv k_1 rfl l80 rfl (fun vl81 l81 => ?_)
              refine h_goto rfl ?_
              exact ih (i + 1) (top + 1) _ _ _ ((i : Int) + 1) (by omega) (by omega) (by omega) (by omega) o78 l81
            · refine h_iload rfl l0 rfl ?_
              refine h_intv k_1 rfl ?_
              refine i_le (kn := kn) (t := 5) (tgt := 152) (np := 127) rfl (by unfold R32; omega) (by unfold R32; omega) (fun e82 => ?_) (fun e82 => ?_)
              · refine h_aload rfl l0 rfl ?_
                refine h_getT rfl o0 hq0 frt_22_7 (fun k83 hk83 rk83 => ?_)
                refine h_iload rfl l0 rfl ?_
                refine h_aload rfl l0 rfl ?_
                refine h_aload rfl l0 rfl ?_
                refine h_aload rfl l0 rfl ?_
                refine h_iload rfl l0 rfl ?_
                obtain ⟨z84, hf84, hz84⟩ := s_sayOfAll (kn := kn) o0.1 (pw_jd o0 pw) hq0 hp hs0 i (by omega)
                have hz841 := hz84.1
                have hz842 := hz84.2
                refine h_V4 rfl o0 l0 (cI_of hq0 cit_22) rfl (by simp only [xa_eq, List.all_cons, List.all_nil, Bool.and_true, Bool.and_eq_true]; exact ⟨rfl, tw hk83⟩) hf84 ?_
                refine h_iastj (top) rfl o0 (aI_of hk83 ait_27) rfl rfl (aP_of hk83 apt_27) (by omega) (by omega) (by omega) (by omega) (by omega) (by unfold R32; omega) (fun w85 o85 q86a q86b q86c => ?_)
                refine h_iincv k_1 rfl l0 rfl (fun vl87 l87 => ?_)
                refine h_iincv k_1 rfl l87 rfl (fun vl88 l88 => ?_)
                refine h_goto rfl ?_
                exact ih (i + 1) (top + 1) _ _ _ ((i : Int) + 1) (by omega) (by omega) (by omega) (by omega) o85 l88
              · refine h_iincv k_n1 rfl l0 rfl (fun vl89 l89 => ?_)
                refine h_aload rfl l89 rfl ?_
                refine h_getT rfl o0 hq0 frt_22_7 (fun k90 hk90 rk90 => ?_)
                refine h_iload rfl l89 rfl ?_
                refine h_intv k_1 rfl ?_
                refine h_isub rfl ?_
                refine h_dup2 rfl rfl rfl ?_
                refine h_ialdj (top - 1 - 1) rfl o0 (aI_of hk90 ait_27) rfl (by omega) (by omega) (fun b91a b91b => ?_)
                refine h_aload rfl l89 rfl ?_
                refine h_getT rfl o0 hq0 frt_22_7 (fun k92 hk92 rk92 => ?_)
                refine h_iload rfl l89 rfl ?_
                refine h_ialdj (top - 1) rfl o0 (aI_of hk92 ait_27) rfl (by omega) (by omega) (fun b93a b93b => ?_)
                refine h_iorv rfl (fun z94 rz94 => ?_)
                have rz941 := rz94.1
                have rz942 := rz94.2
                refine h_iastj (top - 1 - 1) rfl o0 (aI_of hk90 ait_27) rfl rfl (aP_of hk90 apt_27) (by omega) (by omega) (by omega) (by omega) (by omega) (by unfold R32; omega) (fun w95 o95 q96a q96b q96c => ?_)
                refine h_goto rfl ?_
                refine h_iincv k_1 rfl l89 rfl (fun vl97 l97 => ?_)
                refine h_goto rfl ?_
                exact ih (i + 1) (top - 1) _ _ _ ((i : Int) + 1) (by omega) (by omega) (by omega) (by omega) o95 l97
          · refine h_iload rfl l0 rfl ?_
            refine h_intv k_1 rfl ?_
            refine i_le (kn := kn) (t := 5) (tgt := 109) (np := 84) rfl (by unfold R32; omega) (by unfold R32; omega) (fun e98 => ?_) (fun e98 => ?_)
            · refine h_aload rfl l0 rfl ?_
              refine h_getT rfl o0 hq0 frt_22_0 (fun k99 hk99 rk99 => ?_)
              refine h_iload rfl l0 rfl ?_
              refine h_ialdj (i) rfl o0 (aI_of hk99 ait_23) rfl (by omega) (by omega) (fun b100a b100b => ?_)
              refine h_intv k_15 rfl ?_
              refine i_ne (kn := kn) (t := 1) (tgt := 152) (np := 121) rfl (by unfold R32; omega) (by unfold R32; omega) (fun e101 => ?_) (fun e101 => ?_)
              · refine h_aload rfl l0 rfl ?_
                refine h_getT rfl o0 hq0 frt_22_7 (fun k102 hk102 rk102 => ?_)
                refine h_iload rfl l0 rfl ?_
                refine h_aload rfl l0 rfl ?_
                refine h_aload rfl l0 rfl ?_
                refine h_aload rfl l0 rfl ?_
                refine h_iload rfl l0 rfl ?_
                obtain ⟨z103, hf103, hz103⟩ := s_sayOfAll (kn := kn) o0.1 (pw_jd o0 pw) hq0 hp hs0 i (by omega)
                have hz1031 := hz103.1
                have hz1032 := hz103.2
                refine h_V4 rfl o0 l0 (cI_of hq0 cit_22) rfl (by simp only [xa_eq, List.all_cons, List.all_nil, Bool.and_true, Bool.and_eq_true]; exact ⟨rfl, tw hk102⟩) hf103 ?_
                refine h_iastj (top) rfl o0 (aI_of hk102 ait_27) rfl rfl (aP_of hk102 apt_27) (by omega) (by omega) (by omega) (by omega) (by omega) (by unfold R32; omega) (fun w104 o104 q105a q105b q105c => ?_)
                refine h_iincv k_1 rfl l0 rfl (fun vl106 l106 => ?_)
                refine h_iincv k_1 rfl l106 rfl (fun vl107 l107 => ?_)
                refine h_goto rfl ?_
                exact ih (i + 1) (top + 1) _ _ _ ((i : Int) + 1) (by omega) (by omega) (by omega) (by omega) o104 l107
              · refine h_iload rfl l0 rfl ?_
                refine h_intv k_1 rfl ?_
                refine i_le (kn := kn) (t := 5) (tgt := 152) (np := 127) rfl (by unfold R32; omega) (by unfold R32; omega) (fun e108 => ?_) (fun e108 => ?_)
                · refine h_aload rfl l0 rfl ?_
                  refine h_getT rfl o0 hq0 frt_22_7 (fun k109 hk109 rk109 => ?_)
                  refine h_iload rfl l0 rfl ?_
                  refine h_aload rfl l0 rfl ?_
                  refine h_aload rfl l0 rfl ?_
                  refine h_aload rfl l0 rfl ?_
                  refine h_iload rfl l0 rfl ?_
                  obtain ⟨z110, hf110, hz110⟩ := s_sayOfAll (kn := kn) o0.1 (pw_jd o0 pw) hq0 hp hs0 i (by omega)
                  have hz1101 := hz110.1
                  have hz1102 := hz110.2
                  refine h_V4 rfl o0 l0 (cI_of hq0 cit_22) rfl (by simp only [xa_eq, List.all_cons, List.all_nil, Bool.and_true, Bool.and_eq_true]; exact ⟨rfl, tw hk109⟩) hf110 ?_
                  refine h_iastj (top) rfl o0 (aI_of hk109 ait_27) rfl rfl (aP_of hk109 apt_27) (by omega) (by omega) (by omega) (by omega) (by omega) (by unfold R32; omega) (fun w111 o111 q112a q112b q112c => ?_)
                  refine h_iincv k_1 rfl l0 rfl (fun vl113 l113 => ?_)
                  refine h_iincv k_1 rfl l113 rfl (fun vl114 l114 => ?_)
                  refine h_goto rfl ?_
                  exact ih (i + 1) (top + 1) _ _ _ ((i : Int) + 1) (by omega) (by omega) (by omega) (by omega) o111 l114
                · refine h_iincv k_n1 rfl l0 rfl (fun vl115 l115 => ?_)
                  refine h_aload rfl l115 rfl ?_
                  refine h_getT rfl o0 hq0 frt_22_7 (fun k116 hk116 rk116 => ?_)
                  refine h_iload rfl l115 rfl ?_
                  refine h_intv k_1 rfl ?_
                  refine h_isub rfl ?_
                  refine h_dup2 rfl rfl rfl ?_
                  refine h_ialdj (top - 1 - 1) rfl o0 (aI_of hk116 ait_27) rfl (by omega) (by omega) (fun b117a b117b => ?_)
                  refine h_aload rfl l115 rfl ?_
                  refine h_getT rfl o0 hq0 frt_22_7 (fun k118 hk118 rk118 => ?_)
                  refine h_iload rfl l115 rfl ?_
                  refine h_ialdj (top - 1) rfl o0 (aI_of hk118 ait_27) rfl (by omega) (by omega) (fun b119a b119b => ?_)
                  refine h_iorv rfl (fun z120 rz120 => ?_)
                  have rz1201 := rz120.1
                  have rz1202 := rz120.2
                  refine h_iastj (top - 1 - 1) rfl o0 (aI_of hk116 ait_27) rfl rfl (aP_of hk116 apt_27) (by omega) (by omega) (by omega) (by omega) (by omega) (by unfold R32; omega) (fun w121 o121 q122a q122b q122c => ?_)
                  refine h_goto rfl ?_
                  refine h_iincv k_1 rfl l115 rfl (fun vl123 l123 => ?_)
                  refine h_goto rfl ?_
                  exact ih (i + 1) (top - 1) _ _ _ ((i : Int) + 1) (by omega) (by omega) (by omega) (by omega) o121 l123
            · refine h_iincv k_n1 rfl l0 rfl (fun vl124 l124 => ?_)
              refine h_aload rfl l124 rfl ?_
              refine h_getT rfl o0 hq0 frt_22_7 (fun k125 hk125 rk125 => ?_)
              refine h_iload rfl l124 rfl ?_
              refine h_intv k_1 rfl ?_
              refine h_isub rfl ?_
              refine h_dup2 rfl rfl rfl ?_
              refine h_ialdj (top - 1 - 1) rfl o0 (aI_of hk125 ait_27) rfl (by omega) (by omega) (fun b126a b126b => ?_)
              refine h_aload rfl l124 rfl ?_
              refine h_getT rfl o0 hq0 frt_22_7 (fun k127 hk127 rk127 => ?_)
              refine h_iload rfl l124 rfl ?_
              refine h_ialdj (top - 1) rfl o0 (aI_of hk127 ait_27) rfl (by omega) (by omega) (fun b128a b128b => ?_)
              refine h_iandv rfl (fun z129 rz129 => ?_)
              have rz1291 := rz129.1
              have rz1292 := rz129.2
              refine h_iastj (top - 1 - 1) rfl o0 (aI_of hk125 ait_27) rfl rfl (aP_of hk125 apt_27) (by omega) (by omega) (by omega) (by omega) (by omega) (by unfold R32; omega) (fun w130 o130 q131a q131b q131c => ?_)
              refine h_goto rfl ?_
              refine h_iincv k_1 rfl l124 rfl (fun vl132 l132 => ?_)
              refine h_goto rfl ?_
              exact ih (i + 1) (top - 1) _ _ _ ((i : Int) + 1) (by omega) (by omega) (by omega) (by omega) o130 l132
        · refine h_aload rfl l0 rfl ?_
          refine h_getT rfl o0 hq0 frt_22_7 (fun k133 hk133 rk133 => ?_)
          refine h_iload rfl l0 rfl ?_
          refine h_intv k_1 rfl ?_
          refine h_isub rfl ?_
          refine h_iload rfl l0 rfl ?_
          refine h_aload rfl l0 rfl ?_
          refine h_getT rfl o0 hq0 frt_22_7 (fun k134 hk134 rk134 => ?_)
          refine h_iload rfl l0 rfl ?_
          refine h_intv k_1 rfl ?_
          refine h_isub rfl ?_
          refine h_ialdj (top - 1) rfl o0 (aI_of hk134 ait_27) rfl (by omega) (by omega) (fun b135a b135b => ?_)
          refine h_intv k_n1 rfl ?_
          refine h_ixorv rfl (fun z136 rz136 => ?_)
          have rz1361 := rz136.1
          have rz1362 := rz136.2
          refine h_iandv rfl (fun z137 rz137 => ?_)
          have rz1371 := rz137.1
          have rz1372 := rz137.2
          refine h_iastj (top - 1) rfl o0 (aI_of hk133 ait_27) rfl rfl (aP_of hk133 apt_27) (by omega) (by omega) (by omega) (by omega) (by omega) (by unfold R32; omega) (fun w138 o138 q139a q139b q139c => ?_)
          refine h_goto rfl ?_
          refine h_iincv k_1 rfl l0 rfl (fun vl140 l140 => ?_)
          refine h_goto rfl ?_
          exact ih (i + 1) (top) _ _ _ ((i : Int) + 1) (by omega) (by omega) (by omega) (by omega) o138 l140
theorem s_judge {kn : sKn} {w0 : sW} (hw : wOk ZZ w0) (pw : PW w0) {q0 p s0 : Nat} (hq0 : ztau q0 = some 22) (hp : ztau p = some 5) (hs0 : ztau s0 = some 15) : ∃ (w' : sW) (b : Int), fX7_judge kn [.ref q0, .ref p, .ref s0] w0 = some (some (hI b), w', 0, 0) ∧ hO dH_jd w0 w' ∧ R32 b := by
  have K : Tp (tX7_judge kn) (fun r => ∃ (w' : sW) (b : Int), r = (some (hI b), w', 0, 0) ∧ hO dH_jd w0 w' ∧ R32 b) 0 (lv_args 0 [.ref q0, .ref p, .ref s0], [], w0, 0, 0) := by
    have l0 : hL (lv_args 0 [.ref q0, .ref p, .ref s0]) (lv_args 0 [.ref q0, .ref p, .ref s0]) := ⟨fun _ _ h => h, fun q hq => by
      rcases List.mem_cons.mp hq with e | hq
      · rw [e]
        exact ⟨rfl, tw hq0⟩
      rcases List.mem_cons.mp hq with e | hq
      · rw [e]
        exact ⟨rfl, tw hp⟩
      rcases List.mem_cons.mp hq with e | hq
      · rw [e]
        exact ⟨rfl, tw hs0⟩
      cases hq⟩
    have o0 : hO dH_jd w0 w0 := hO_rf hw
    refine h_intv k_1 rfl ?_
    refine h_aload rfl l0 rfl ?_
    refine h_getI rfl o0 (fI_of hp fit_5_2) (fun b1a b1b => ?_)
    refine h_ishlv rfl (fun z2 rz2 => ?_)
    have rz21 := rz2.1
    have rz22 := rz2.2
    refine h_intv k_1 rfl ?_
    refine h_isub rfl ?_
    refine h_istore rfl l0 (fun vl3 l3 => ?_)
    refine h_intv k_0 rfl ?_
    refine h_istore rfl l3 (fun vl4 l4 => ?_)
    refine h_intv k_0 rfl ?_
    refine h_istore rfl l4 (fun vl5 l5 => ?_)
    exact jd_l pw hq0 hp hs0 40 0 0 _ _ 0 0 rfl rfl rfl (by omega) o0 l5
  obtain ⟨r, h1, w2, b, h2, h3⟩ := h_meth1 (nL := 6) rfl K
  rw [h2] at h1
  exact ⟨w2, b, h1, h3⟩
theorem sd7_l {kn : sKn} {w0 w : sW} (o0 : hO dH_jd w0 w) (k bt : Int) (hk : R32 k) : ∀ (m s : Nat) (lv : List (Nat × Value)) (bf y : Int), s + m = 10 → y = (s : Int) → (0 ≤ bf ∧ bf ≤ (s : Int)) → hL lv [(0, .ref 0), (1, hI k), (2, hI bt), (3, hI bf), (4, hI y)] → Tp (tX11_said kn) (fun r => ∃ (w' : sW) (b : Int), r = (some (hI b), w', 0, 0) ∧ hO dH_jd w0 w') 48 (lv, [], w, 0, 0) := by
  have hk1 := hk.1
  have hk2 := hk.2
  intro m
  induction m with
  | zero =>
    intro s lv bf y hm hy hb l0
    subst hy
    refine h_iload rfl l0 rfl ?_
    refine h_aload rfl l0 rfl ?_
    refine h_getR rfl o0 frc_0_2 ?_
    refine h_getI rfl o0 (fI_of (show ztau 14 = some 5 from rfl) fit_5_2) (fun b1a b1b => ?_)
    refine i_ge (kn := kn) (t := 3) (tgt := 86) (np := 60) rfl (by unfold R32; omega) (by unfold R32; omega) (fun e2 => ?_) (fun e2 => ?_)
    · refine h_intv k_n1 rfl ?_
      refine h_iret rfl ?_
      exact ⟨_, _, rfl, o0⟩
    · omega
  | succ m ih =>
    intro s lv bf y hm hy hb l0
    subst hy
    refine h_iload rfl l0 rfl ?_
    refine h_aload rfl l0 rfl ?_
    refine h_getR rfl o0 frc_0_2 ?_
    refine h_getI rfl o0 (fI_of (show ztau 14 = some 5 from rfl) fit_5_2) (fun b1a b1b => ?_)
    refine i_ge (kn := kn) (t := 3) (tgt := 86) (np := 60) rfl (by unfold R32; omega) (by unfold R32; omega) (fun e2 => ?_) (fun e2 => ?_)
    · refine h_intv k_n1 rfl ?_
      refine h_iret rfl ?_
      exact ⟨_, _, rfl, o0⟩
    · refine h_iload rfl l0 rfl ?_
      refine h_iload rfl l0 rfl ?_
      refine h_ishrv rfl (fun z3 rz3 => ?_)
      have rz31 := rz3.1
      have rz32 := rz3.2
      refine h_intv k_1 rfl ?_
      refine h_iandv rfl (fun z4 rz4 => ?_)
      have rz41 := rz4.1
      have rz42 := rz4.2
      refine j_eq (kn := kn) (t := 0) (tgt := 80) (np := 69) rfl (by unfold R32; omega) (fun e5 => ?_) (fun e5 => ?_)
      · refine h_iincv k_1 rfl l0 rfl (fun vl6 l6 => ?_)
        refine h_goto rfl ?_
        exact ih (s + 1) _ _ ((s : Int) + 1) (by omega) (by omega) (by omega) l6
      · refine h_iload rfl l0 rfl ?_
        refine h_iload rfl l0 rfl ?_
        refine i_ne (kn := kn) (t := 1) (tgt := 77) (np := 74) rfl (by unfold R32; omega) (by unfold R32; omega) (fun e7 => ?_) (fun e7 => ?_)
        · refine h_iincv k_1 rfl l0 rfl (fun vl8 l8 => ?_)
          refine h_iincv k_1 rfl l8 rfl (fun vl9 l9 => ?_)
          refine h_goto rfl ?_
          exact ih (s + 1) _ _ ((s : Int) + 1) (by omega) (by omega) (by omega) l9
        · refine h_iload rfl l0 rfl ?_
          refine h_iret rfl ?_
          exact ⟨_, _, rfl, o0⟩
theorem s_said7 {kn : sKn} {w0 : sW} (hw : wOk ZZ w0) (pw : PW w0) (k : Int) (hk : R32 k) : ∃ (w' : sW) (b : Int), fX11_said kn [.ref 0, hI k] w0 = some (some (hI b), w', 0, 0) ∧ hO dH_jd w0 w' := by
  have hk1 := hk.1
  have hk2 := hk.2
  have K : Tp (tX11_said kn) (fun r => ∃ (w' : sW) (b : Int), r = (some (hI b), w', 0, 0) ∧ hO dH_jd w0 w') 0 (lv_args 0 [.ref 0, hI k], [], w0, 0, 0) := by
    have l0 : hL (lv_args 0 [.ref 0, hI k]) (lv_args 0 [.ref 0, hI k]) := ⟨fun _ _ h => h, fun q hq => by
      rcases List.mem_cons.mp hq with e | hq
      · rw [e]
        exact ⟨rfl, rfl⟩
      rcases List.mem_cons.mp hq with e | hq
      · rw [e]
        exact ⟨rfl, rfl⟩
      cases hq⟩
    have o0 : hO dH_jd w0 w0 := hO_rf hw
    refine h_aload rfl l0 rfl ?_
    refine h_getT rfl o0 (show ztau 0 = some 1 from rfl) frt_1_4 (fun k1 hk1 rk1 => ?_)
    refine h_getI rfl o0 (fI_of hk1 fit_22_8) (fun b2a b2b => ?_)
    refine j_eq (kn := kn) (t := 0) (tgt := 15) (np := 10) rfl (by unfold R32; omega) (fun e3 => ?_) (fun e3 => ?_)
    · refine h_intv k_n1 rfl ?_
      refine h_iret rfl ?_
      exact ⟨_, _, rfl, o0⟩
    · refine h_iload rfl l0 rfl ?_
      refine h_intv k_n1 rfl ?_
      refine i_ge (kn := kn) (t := 3) (tgt := 17) (np := 15) rfl (by unfold R32; omega) (by unfold R32; omega) (fun e4 => ?_) (fun e4 => ?_)
      · refine h_aload rfl l0 rfl ?_
        refine h_getT rfl o0 (show ztau 0 = some 1 from rfl) frt_1_4 (fun k5 hk5 rk5 => ?_)
        refine h_aload rfl l0 rfl ?_
        refine h_getR rfl o0 frc_0_2 ?_
        refine h_aload rfl l0 rfl ?_
        refine h_getR rfl o0 frc_0_3 ?_
        obtain ⟨wA, bA, hf6, oA', rA⟩ := s_judge (kn := kn) o0.1 (pw_jd o0 pw) hk5 (show ztau 14 = some 5 from rfl) (show ztau 24 = some 15 from rfl)
        have oA : hO dH_jd w0 wA := hO_tr o0 oA'
        have rA1 := rA.1
        have rA2 := rA.2
        refine h_V3 rfl o0 l0 (cI_of hk5 cit_22) rfl rfl hf6 ?_
        refine h_istore rfl l0 (fun vl7 l7 => ?_)
        refine h_iload rfl l7 rfl ?_
        refine h_intv k_n1 rfl ?_
        refine i_ne (kn := kn) (t := 1) (tgt := 43) (np := 38) rfl (by unfold R32; omega) (by unfold R32; omega) (fun e8 => ?_) (fun e8 => ?_)
        · refine h_intv k_0 rfl ?_
          refine h_istore rfl l7 (fun vl9 l9 => ?_)
          refine h_intv k_0 rfl ?_
          refine h_istore rfl l9 (fun vl10 l10 => ?_)
          exact sd7_l oA k bA hk 10 0 _ 0 0 rfl rfl ⟨by omega, by omega⟩ l10
        · refine h_iload rfl l7 rfl ?_
          obtain ⟨z11, hf11, hz11⟩ := s_bitCount (kn := kn) oA.1 bA ⟨by omega, by omega⟩
          refine h_S1 rfl oA l7 rfl rfl hf11 ?_
          refine h_iret rfl ?_
          exact ⟨_, _, rfl, oA⟩
      · refine h_intv k_n1 rfl ?_
        refine h_iret rfl ?_
        exact ⟨_, _, rfl, o0⟩
  obtain ⟨r, h1, w2, b, h2, h3⟩ := h_meth1 (nL := 5) rfl K
  rw [h2] at h1
  exact ⟨w2, b, h1, h3⟩
end
