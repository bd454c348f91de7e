noncomputable section
def fJtt (t ci kf : Nat) : Bool := match fty ZZ t ci kf with
  | some (1, .inl q) => match zle q.1 (-9223372036854775808) with
    | true => zle 9223372036854775807 q.2
    | false => false
  | _ => false
theorem fJ_of {c t ci kf : Nat} (hc : ztau c = some t) (h : fJtt t ci kf = true) : fJt c ci kf = some t := by
  unfold fJt
  rw [hc]
  dsimp only
  unfold fJtt at h
  split at h
  · rename_i q hq
    rw [hq]
    dsimp only
    split at h
    · rename_i c1
      rw [c1]
      dsimp only
      rw [h]
    · cases h
  · cases h
theorem aat_56 : aAt 56 = some (9, 15) := by decide +kernel
theorem ait_29 : aIt 29 = some 40 := by decide +kernel
theorem ait_30 : aIt 30 = some 40 := by decide +kernel
theorem ait_31 : aIt 31 = some 40 := by decide +kernel
theorem ait_32 : aIt 32 = some 40 := by decide +kernel
theorem ait_33 : aIt 33 = some 4 := by decide +kernel
theorem apt_29 : aPt 29 0 40 (-2147483648) 2147483647 = true := by decide +kernel
theorem art_29 : aRt 29 0 40 (-2147483648) 2147483647 = true := by decide +kernel
theorem apt_30 : aPt 30 0 40 (-1) 9 = true := by decide +kernel
theorem art_30 : aRt 30 0 40 (-1) 9 = true := by decide +kernel
theorem apt_31 : aPt 31 0 40 0 60 = true := by decide +kernel
theorem art_31 : aRt 31 0 40 0 60 = true := by decide +kernel
theorem apt_32 : aPt 32 0 40 0 2 = true := by decide +kernel
theorem art_32 : aRt 32 0 40 0 2 = true := by decide +kernel
theorem apt_33 : aPt 33 0 4 (-2147483648) 2147483647 = true := by decide +kernel
theorem art_33 : aRt 33 0 4 (-2147483648) 2147483647 = true := by decide +kernel
theorem cit_2 : cIt 2 = some 10 := by decide +kernel
theorem cit_28 : cIt 28 = some 2 := by decide +kernel
theorem cit_34 : cIt 34 = some 11 := by decide +kernel
theorem fit_1_14 : fIt 1 12 14 = some (0, 8) := by decide +kernel
theorem fit_15_0 : fIt 15 9 0 = some ((-2147483648), 2147483647) := by decide +kernel
theorem fit_2_1 : fIt 2 10 1 = some (0, 940) := by decide +kernel
theorem fit_2_12 : fIt 2 10 12 = some ((-2147483648), 2147483647) := by decide +kernel
theorem fit_2_4 : fIt 2 10 4 = some ((-2147483648), 2147483647) := by decide +kernel
theorem fit_2_6 : fIt 2 10 6 = some ((-2147483648), 2147483647) := by decide +kernel
theorem fit_2_8 : fIt 2 10 8 = some ((-2147483648), 2147483647) := by decide +kernel
theorem fit_28_4 : fIt 28 2 4 = some (0, 41) := by decide +kernel
theorem fit_5_0 : fIt 5 7 0 = some (1, 12) := by decide +kernel
theorem fjt_2_7 : fJtt 2 10 7 = true := by decide +kernel
theorem frc_0_0 : fR 0 12 0 = some 1 := by decide +kernel
theorem frc_0_13 : fR 0 12 13 = some 99 := by decide +kernel
theorem frc_0_6 : fR 0 12 6 = some 43 := by decide +kernel
theorem frc_0_7 : fR 0 12 7 = some 49 := by decide +kernel
theorem frc_43_0 : fR 43 2 0 = some 44 := by decide +kernel
theorem frc_43_1 : fR 43 2 1 = some 45 := by decide +kernel
theorem frc_43_2 : fR 43 2 2 = some 46 := by decide +kernel
theorem frc_43_3 : fR 43 2 3 = some 47 := by decide +kernel
theorem frc_43_5 : fR 43 2 5 = some 48 := by decide +kernel
theorem k_19 : (19 : Int32) = Int32.ofInt (19) := by decide +kernel
theorem k_51 : (51 : Int32) = Int32.ofInt (51) := by decide +kernel
theorem s_isKey9 {kn : sKn} {w : sW} (hw : wOk ZZ w) (x : Int) (hx : R32 x) : ∃ b : Int, fX9_isKey kn [.ref 1, hI x] w = some (some (hI b), w, 0, 0) ∧ ((b = 0 ∨ b = 1) ∧ (b = 1 → gF w 1 4 = 4 ∧ gF w 1 6 = x)) := by
  have hx1 := hx.1
  have hx2 := hx.2
  have K : Tp (tX9_isKey kn) (fun r => ∃ b : Int, r = (some (hI b), w, 0, 0) ∧ (b = 0 ∨ b = 1) ∧ (b = 1 → gF w 1 4 = 4 ∧ gF w 1 6 = x)) 0 (lv_args 0 [.ref 1, hI x], [], w, 0, 0) := by
    have l0 : hL (lv_args 0 [.ref 1, hI x]) (lv_args 0 [.ref 1, hI x]) := ⟨fun _ _ h => h, fun q hq => by
      rcases List.mem_cons.mp hq with e | hq
      · rw [e]
        exact ⟨rfl, rfl⟩
      rcases List.mem_cons.mp hq with e | hq
      · rw [e]
        exact ⟨rfl, rfl⟩
      cases hq⟩
    have o0 : hO [] w w := hO_rf hw
    refine h_aload rfl l0 rfl ?_
    refine h_getI rfl o0 (fI_of (show ztau 1 = some 2 from rfl) fit_2_4) (fun b1a b1b => ?_)
    refine h_intv k_4 rfl ?_
    refine i_ne (kn := kn) (t := 1) (tgt := 20) (np := 8) rfl (by unfold R32; omega) (by unfold R32; omega) (fun e2 => ?_) (fun e2 => ?_)
    · refine h_intv k_0 rfl ?_
      refine h_zret (by omega) rfl ?_
      exact ⟨_, rfl, by omega, by omega⟩
    · refine h_aload rfl l0 rfl ?_
      refine h_getI rfl o0 (fI_of (show ztau 1 = some 2 from rfl) fit_2_6) (fun b3a b3b => ?_)
      refine h_iload rfl l0 rfl ?_
      refine i_ne (kn := kn) (t := 1) (tgt := 20) (np := 16) rfl (by unfold R32; omega) (by unfold R32; omega) (fun e4 => ?_) (fun e4 => ?_)
      · refine h_intv k_0 rfl ?_
        refine h_zret (by omega) rfl ?_
        exact ⟨_, rfl, by omega, by omega⟩
      · refine h_intv k_1 rfl ?_
        refine h_goto rfl ?_
        refine h_zret (by omega) rfl ?_
        exact ⟨_, rfl, by omega, by omega⟩
  obtain ⟨r, h1, b, h2, h3⟩ := h_meth1 (nL := 2) rfl K
  rw [h2] at h1
  exact ⟨b, h1, h3⟩
theorem s_isDeed {kn : sKn} {w : sW} (hw : wOk ZZ w)  : ∃ b : Int, fX1_isSignersDeed kn [.ref 1] w = some (some (hI b), w, 0, 0) ∧ ((b = 0 ∨ b = 1) ∧ (b = 1 → 8 ≤ gF w 1 6 ∧ gF w 1 6 ≤ 11)) := by
  have K : Tp (tX1_isSignersDeed kn) (fun r => ∃ b : Int, r = (some (hI b), w, 0, 0) ∧ (b = 0 ∨ b = 1) ∧ (b = 1 → 8 ≤ gF w 1 6 ∧ gF w 1 6 ≤ 11)) 0 (lv_args 0 [.ref 1], [], w, 0, 0) := by
    have l0 : hL (lv_args 0 [.ref 1]) (lv_args 0 [.ref 1]) := ⟨fun _ _ h => h, fun q hq => by
      rcases List.mem_cons.mp hq with e | hq
      · rw [e]
        exact ⟨rfl, rfl⟩
      cases hq⟩
    have o0 : hO [] w w := hO_rf hw
    refine h_aload rfl l0 rfl ?_
    refine h_intv k_8 rfl ?_
    obtain ⟨z1, hf1, hz1, hq1⟩ := s_isKey9 (kn := kn) hw 8 ⟨by omega, by omega⟩
    refine h_V2 rfl o0 l0 (cI_of (show ztau 1 = some 2 from rfl) cit_2) rfl rfl hf1 ?_
    refine j_ne (kn := kn) (t := 1) (tgt := 36) (np := 9) rfl (by unfold R32; omega) (fun e2 => ?_) (fun e2 => ?_)
    · refine h_intv k_1 rfl ?_
      refine h_goto rfl ?_
      refine h_zret (by omega) rfl ?_
      exact ⟨_, rfl, by omega, by omega⟩
    · refine h_aload rfl l0 rfl ?_
      refine h_intv k_9 rfl ?_
      obtain ⟨z3, hf3, hz3, hq3⟩ := s_isKey9 (kn := kn) hw 9 ⟨by omega, by omega⟩
      refine h_V2 rfl o0 l0 (cI_of (show ztau 1 = some 2 from rfl) cit_2) rfl rfl hf3 ?_
      refine j_ne (kn := kn) (t := 1) (tgt := 36) (np := 18) rfl (by unfold R32; omega) (fun e4 => ?_) (fun e4 => ?_)
      · refine h_intv k_1 rfl ?_
        refine h_goto rfl ?_
        refine h_zret (by omega) rfl ?_
        exact ⟨_, rfl, by omega, by omega⟩
      · refine h_aload rfl l0 rfl ?_
        refine h_intv k_10 rfl ?_
        obtain ⟨z5, hf5, hz5, hq5⟩ := s_isKey9 (kn := kn) hw 10 ⟨by omega, by omega⟩
        refine h_V2 rfl o0 l0 (cI_of (show ztau 1 = some 2 from rfl) cit_2) rfl rfl hf5 ?_
        refine j_ne (kn := kn) (t := 1) (tgt := 36) (np := 27) rfl (by unfold R32; omega) (fun e6 => ?_) (fun e6 => ?_)
        · refine h_intv k_1 rfl ?_
          refine h_goto rfl ?_
          refine h_zret (by omega) rfl ?_
          exact ⟨_, rfl, by omega, by omega⟩
        · refine h_aload rfl l0 rfl ?_
          refine h_intv k_11 rfl ?_
          obtain ⟨z7, hf7, hz7, hq7⟩ := s_isKey9 (kn := kn) hw 11 ⟨by omega, by omega⟩
          refine h_V2 rfl o0 l0 (cI_of (show ztau 1 = some 2 from rfl) cit_2) rfl rfl hf7 ?_
          refine j_eq (kn := kn) (t := 0) (tgt := 40) (np := 36) rfl (by unfold R32; omega) (fun e8 => ?_) (fun e8 => ?_)
          · refine h_intv k_0 rfl ?_
            refine h_zret (by omega) rfl ?_
            exact ⟨_, rfl, by omega, by omega⟩
          · refine h_intv k_1 rfl ?_
            refine h_goto rfl ?_
            refine h_zret (by omega) rfl ?_
            exact ⟨_, rfl, by omega, by omega⟩
  obtain ⟨r, h1, b, h2, h3⟩ := h_meth1 (nL := 1) rfl K
  rw [h2] at h1
  exact ⟨b, h1, h3⟩
theorem s_refuse9 {kn : sKn} {w : sW} (hw : wOk ZZ w) (x1 : Int) (hx1 : (-2147483648) ≤ x1 ∧ x1 ≤ 2147483647) : ∃ (w' : sW) (z : Int), fX9_refuse kn [.ref 1, hI x1] w = some (some (hI z), w', 0, 0) ∧ hO dX9_refuse w w' ∧ (z = 0) := by
  obtain ⟨r, w', h1, h2, q, hq, σ', h3, h4, h5, h6⟩ := con_use (con_X9_refuse_0 kn) (σ := [0, x1]) (av := [.ref 1, hI x1]) (w := w) rfl rfl ⟨av_c (k := 1) rfl, av_i rfl ⟨by omega, by omega⟩, trivial⟩ (fun q hq => by cases hq) (gE_c ⟨_, rfl, hx1⟩ (gE_n)) hw rfl
  rcases List.mem_singleton.mp hq with rfl
  obtain ⟨z, z1, z2, z3⟩ := gS_i h4
  rw [z2] at h1
  have z4 := h3 0 0 rfl
  rw [z4] at z1
  cases z1
  refine ⟨w', _, h1, h2, ?_⟩
  omega
theorem s_adv9 {kn : sKn} {w : sW} (hw : wOk ZZ w)  : ∃ (w' : sW), fX9_advance kn [.ref 1] w = some (none, w', 0, 0) ∧ hO dX9_advance w w' := by
  obtain ⟨r, w', h1, h2, q, hq, σ', h3, h4, h5, h6⟩ := con_use (con_X9_advance kn _ List.mem_cons_self) (σ := [0]) (av := [.ref 1]) (w := w) rfl rfl ⟨av_c (k := 1) rfl, trivial⟩ (fun q hq => by cases hq) (gE_n) hw rfl
  rcases List.mem_singleton.mp hq with rfl
  rw [gS_v h4] at h1
  exact ⟨w', h1, h2⟩
theorem s_sNamed_ {kn : sKn} {w : sW} (hw : wOk ZZ w) {k1 : Nat} (hk1 : ztau k1 = some 5) (x2 : Int64) : ∃ (w' : sW) (z : Int), fX6_signerNamed kn [.ref k1, .long x2] w = some (some (hI z), w', 0, 0) ∧ hO dX6_signerNamed w w' ∧ ((0 ≤ z ∧ z ≤ 9) ∨ z = (-1)) := by
  obtain ⟨r, w', h1, h2, q, hq, σ', h3, h4, h5, h6⟩ := con_use (con_X6_signerNamed_0 kn) (σ := [0, (k1 : Int), x2.toInt]) (av := [.ref k1, .long x2]) (w := w) rfl rfl ⟨av_r rfl, av_l rfl, trivial⟩ (fun q hq => by cases hq) (gE_c ⟨_, rfl, r64 x2⟩ (gE_c ⟨_, rfl, _, rfl, hk1⟩ (gE_n))) hw (by simp only [xa_eq, List.all_cons, List.all_nil, Bool.and_true, Bool.and_eq_true]; exact ⟨tw hk1, rfl⟩)
  rcases List.mem_cons.mp hq with rfl | hq
  · obtain ⟨z, z1, z2, z3⟩ := gS_i h4
    rw [z2] at h1
    have z5 := gE_at (a := 0) (b := 9) h6 (by first | exact List.mem_cons_self | decide) z1
    refine ⟨w', _, h1, h2, ?_⟩
    omega
  rcases List.mem_singleton.mp hq with rfl
  obtain ⟨z, z1, z2, z3⟩ := gS_i h4
  rw [z2] at h1
  have z4 := h3 0 0 rfl
  rw [z4] at z1
  cases z1
  refine ⟨w', _, h1, h2, ?_⟩
  omega
theorem s_sNamed {kn : sKn} {w : sW} (hw : wOk ZZ w) {k1 : Nat} (hk1 : ztau k1 = some 5) (x2 : Int64) : ∃ z : Int, fX6_signerNamed kn [.ref k1, .long x2] w = some (some (hI z), w, 0, 0) ∧ ((0 ≤ z ∧ z ≤ 9) ∨ z = (-1)) := by
  obtain ⟨w', z, h1, h2, h3⟩ := s_sNamed_ (kn := kn) hw hk1 x2
  have e : w' = w := fr_nil hw h2.1 h2.2
  subst e
  exact ⟨z, h1, h3⟩
theorem s_lNamed_ {kn : sKn} {w : sW} (hw : wOk ZZ w) {k1 : Nat} (hk1 : ztau k1 = some 5) (x2 : Int64) : ∃ (w' : sW) (z : Int), fX6_loadNamed kn [.ref k1, .long x2] w = some (some (hI z), w', 0, 0) ∧ hO dX6_loadNamed w w' ∧ ((0 ≤ z ∧ z ≤ 5) ∨ z = (-1)) := by
  obtain ⟨r, w', h1, h2, q, hq, σ', h3, h4, h5, h6⟩ := con_use (con_X6_loadNamed_0 kn) (σ := [0, (k1 : Int), x2.toInt]) (av := [.ref k1, .long x2]) (w := w) rfl rfl ⟨av_r rfl, av_l rfl, trivial⟩ (fun q hq => by cases hq) (gE_c ⟨_, rfl, r64 x2⟩ (gE_c ⟨_, rfl, _, rfl, hk1⟩ (gE_n))) hw (by simp only [xa_eq, List.all_cons, List.all_nil, Bool.and_true, Bool.and_eq_true]; exact ⟨tw hk1, rfl⟩)
  rcases List.mem_cons.mp hq with rfl | hq
  · obtain ⟨z, z1, z2, z3⟩ := gS_i h4
    rw [z2] at h1
    have z5 := gE_at (a := 0) (b := 5) h6 (by first | exact List.mem_cons_self | decide) z1
    refine ⟨w', _, h1, h2, ?_⟩
    omega
  rcases List.mem_singleton.mp hq with rfl
  obtain ⟨z, z1, z2, z3⟩ := gS_i h4
  rw [z2] at h1
  have z4 := h3 0 0 rfl
  rw [z4] at z1
  cases z1
  refine ⟨w', _, h1, h2, ?_⟩
  omega
theorem s_lNamed {kn : sKn} {w : sW} (hw : wOk ZZ w) {k1 : Nat} (hk1 : ztau k1 = some 5) (x2 : Int64) : ∃ z : Int, fX6_loadNamed kn [.ref k1, .long x2] w = some (some (hI z), w, 0, 0) ∧ ((0 ≤ z ∧ z ≤ 5) ∨ z = (-1)) := by
  obtain ⟨w', z, h1, h2, h3⟩ := s_lNamed_ (kn := kn) hw hk1 x2
  have e : w' = w := fr_nil hw h2.1 h2.2
  subst e
  exact ⟨z, h1, h3⟩
theorem s_tn11 {kn : sKn} {w : sW} (hw : wOk ZZ w) (x1 : Int) (hx1 : 0 ≤ x1 ∧ x1 ≤ 0) (x2 : Int) (hx2 : 11 ≤ x2 ∧ x2 ≤ 11) : ∃ (w' : sW) (z : Int), fX9_takeNumber kn [.ref 1, hI x1, hI x2] w = some (some (hI z), w', 0, 0) ∧ hO dX9_takeNumber w w' ∧ (z = 0 ∨ (z = 1 ∧ 0 ≤ gF w' 1 8 ∧ gF w' 1 8 ≤ 11)) := by
  obtain ⟨r, w', h1, h2, q, hq, σ', h3, h4, h5, h6⟩ := con_use (con_X9_takeNumber_0 kn) (σ := [0, x1, x2]) (av := [.ref 1, hI x1, hI x2]) (w := w) rfl rfl ⟨av_c (k := 1) rfl, av_i rfl ⟨by omega, by omega⟩, av_i rfl ⟨by omega, by omega⟩, trivial⟩ (fun q hq => by cases hq) (gE_c ⟨_, rfl, hx2⟩ (gE_c ⟨_, rfl, hx1⟩ (gE_n))) hw rfl
  rcases List.mem_cons.mp hq with rfl | hq
  · obtain ⟨z, z1, z2, z3⟩ := gS_i h4
    rw [z2] at h1
    have z4 := h3 0 0 rfl
    rw [z4] at z1
    cases z1
    refine ⟨w', _, h1, h2, ?_⟩
    omega
  rcases List.mem_singleton.mp hq with rfl
  obtain ⟨z, z1, z2, z3⟩ := gS_i h4
  rw [z2] at h1
  have z4 := h3 0 0 rfl
  rw [z4] at z1
  cases z1
  obtain ⟨m8, n8, p8⟩ := mf_F (c := 1) (kf := 8) (u := 4) (h3 0 0 rfl) (h5 _ (by first | exact List.mem_cons_self | decide))
  have o8 := gE_at (a := 0) (b := 11) h6 (by first | exact List.mem_cons_self | decide) n8
  refine ⟨w', _, h1, h2, ?_⟩
  omega
theorem s_tn2 {kn : sKn} {w : sW} (hw : wOk ZZ w) (x1 : Int) (hx1 : 0 ≤ x1 ∧ x1 ≤ 0) (x2 : Int) (hx2 : 2 ≤ x2 ∧ x2 ≤ 2) : ∃ (w' : sW) (z : Int), fX9_takeNumber kn [.ref 1, hI x1, hI x2] w = some (some (hI z), w', 0, 0) ∧ hO dX9_takeNumber w w' ∧ (z = 0 ∨ (z = 1 ∧ 0 ≤ gF w' 1 8 ∧ gF w' 1 8 ≤ 2)) := by
  obtain ⟨r, w', h1, h2, q, hq, σ', h3, h4, h5, h6⟩ := con_use (con_X9_takeNumber_1 kn) (σ := [0, x1, x2]) (av := [.ref 1, hI x1, hI x2]) (w := w) rfl rfl ⟨av_c (k := 1) rfl, av_i rfl ⟨by omega, by omega⟩, av_i rfl ⟨by omega, by omega⟩, trivial⟩ (fun q hq => by cases hq) (gE_c ⟨_, rfl, hx2⟩ (gE_c ⟨_, rfl, hx1⟩ (gE_n))) hw rfl
  rcases List.mem_cons.mp hq with rfl | hq
  · obtain ⟨z, z1, z2, z3⟩ := gS_i h4
    rw [z2] at h1
    have z4 := h3 0 0 rfl
    rw [z4] at z1
    cases z1
    refine ⟨w', _, h1, h2, ?_⟩
    omega
  rcases List.mem_singleton.mp hq with rfl
  obtain ⟨z, z1, z2, z3⟩ := gS_i h4
  rw [z2] at h1
  have z4 := h3 0 0 rfl
  rw [z4] at z1
  cases z1
  obtain ⟨m8, n8, p8⟩ := mf_F (c := 1) (kf := 8) (u := 4) (h3 0 0 rfl) (h5 _ (by first | exact List.mem_cons_self | decide))
  have o8 := gE_at (a := 0) (b := 2) h6 (by first | exact List.mem_cons_self | decide) n8
  refine ⟨w', _, h1, h2, ?_⟩
  omega
theorem s_tn60 {kn : sKn} {w : sW} (hw : wOk ZZ w) (x1 : Int) (hx1 : 1 ≤ x1 ∧ x1 ≤ 1) (x2 : Int) (hx2 : 60 ≤ x2 ∧ x2 ≤ 60) : ∃ (w' : sW) (z : Int), fX9_takeNumber kn [.ref 1, hI x1, hI x2] w = some (some (hI z), w', 0, 0) ∧ hO dX9_takeNumber w w' ∧ (z = 0 ∨ (z = 1 ∧ 1 ≤ gF w' 1 8 ∧ gF w' 1 8 ≤ 60)) := by
  obtain ⟨r, w', h1, h2, q, hq, σ', h3, h4, h5, h6⟩ := con_use (con_X9_takeNumber_e0 kn) (σ := [0, x1, x2]) (av := [.ref 1, hI x1, hI x2]) (w := w) rfl rfl ⟨av_c (k := 1) rfl, av_i rfl ⟨by omega, by omega⟩, av_i rfl ⟨by omega, by omega⟩, trivial⟩ (fun q hq => by cases hq) (gE_c ⟨_, rfl, hx2⟩ (gE_c ⟨_, rfl, hx1⟩ (gE_n))) hw rfl
  rcases List.mem_cons.mp hq with rfl | hq
  · obtain ⟨z, z1, z2, z3⟩ := gS_i h4
    rw [z2] at h1
    have z4 := h3 0 0 rfl
    rw [z4] at z1
    cases z1
    refine ⟨w', _, h1, h2, ?_⟩
    omega
  rcases List.mem_singleton.mp hq with rfl
  obtain ⟨z, z1, z2, z3⟩ := gS_i h4
  rw [z2] at h1
  have z4 := h3 0 0 rfl
  rw [z4] at z1
  cases z1
  obtain ⟨m8, n8, p8⟩ := mf_F (c := 1) (kf := 8) (u := 4) (h3 0 0 rfl) (h5 _ (by first | exact List.mem_cons_self | decide))
  have o8 := gE_at (a := 1) (b := 60) h6 (by first | exact List.mem_cons_self | decide) n8
  refine ⟨w', _, h1, h2, ?_⟩
  omega
theorem s_begin400 {kn : sKn} {w : sW} (hw : wOk ZZ w) (x1 : Int) (hx1 : 400 ≤ x1 ∧ x1 ≤ 400) : ∃ (w' : sW), fX9_begin kn [.ref 1, hI x1] w = some (none, w', 0, 0) ∧ hO dX9_begin w w' := by
  obtain ⟨r, w', h1, h2, q, hq, σ', h3, h4, h5, h6⟩ := con_use (con_X9_begin_e0 kn) (σ := [0, x1]) (av := [.ref 1, hI x1]) (w := w) rfl rfl ⟨av_c (k := 1) rfl, av_i rfl ⟨by omega, by omega⟩, trivial⟩ (fun q hq => by cases hq) (gE_c ⟨_, rfl, hx1⟩ (gE_n)) hw rfl
  rcases List.mem_singleton.mp hq with rfl
  rw [gS_v h4] at h1
  exact ⟨w', h1, h2⟩
theorem s_takeSign9 {kn : sKn} {w : sW} (hw : wOk ZZ w) (x1 : Int) (hx1 : (-2147483648) ≤ x1 ∧ x1 ≤ 2147483647) : ∃ (w' : sW) (z : Int), fX9_takeSign kn [.ref 1, hI x1] w = some (some (hI z), w', 0, 0) ∧ hO dX9_takeSign w w' ∧ (z = 0 ∨ z = 1) := by
  obtain ⟨r, w', h1, h2, q, hq, σ', h3, h4, h5, h6⟩ := con_use (con_X9_takeSign_0 kn) (σ := [0, x1]) (av := [.ref 1, hI x1]) (w := w) rfl rfl ⟨av_c (k := 1) rfl, av_i rfl ⟨by omega, by omega⟩, trivial⟩ (fun q hq => by cases hq) (gE_c ⟨_, rfl, hx1⟩ (gE_n)) hw rfl
  rcases List.mem_cons.mp hq with rfl | hq
  · obtain ⟨z, z1, z2, z3⟩ := gS_i h4
    rw [z2] at h1
    have z4 := h3 0 0 rfl
    rw [z4] at z1
    cases z1
    refine ⟨w', _, h1, h2, ?_⟩
    omega
  rcases List.mem_singleton.mp hq with rfl
  obtain ⟨z, z1, z2, z3⟩ := gS_i h4
  rw [z2] at h1
  have z4 := h3 0 0 rfl
  rw [z4] at z1
  cases z1
  refine ⟨w', _, h1, h2, ?_⟩
  omega
theorem s_takeEnd9 {kn : sKn} {w : sW} (hw : wOk ZZ w)  : ∃ (w' : sW) (z : Int), fX9_takeEnd kn [.ref 1] w = some (some (hI z), w', 0, 0) ∧ hO dX9_takeEnd w w' ∧ (z = 0 ∨ z = 1) := by
  obtain ⟨r, w', h1, h2, q, hq, σ', h3, h4, h5, h6⟩ := con_use (con_X9_takeEnd_0 kn) (σ := [0]) (av := [.ref 1]) (w := w) rfl rfl ⟨av_c (k := 1) rfl, trivial⟩ (fun q hq => by cases hq) (gE_n) hw rfl
  rcases List.mem_cons.mp hq with rfl | hq
  · obtain ⟨z, z1, z2, z3⟩ := gS_i h4
    rw [z2] at h1
    have z4 := h3 0 0 rfl
    rw [z4] at z1
    cases z1
    refine ⟨w', _, h1, h2, ?_⟩
    omega
  rcases List.mem_singleton.mp hq with rfl
  obtain ⟨z, z1, z2, z3⟩ := gS_i h4
  rw [z2] at h1
  have z4 := h3 0 0 rfl
  rw [z4] at z1
  cases z1
  refine ⟨w', _, h1, h2, ?_⟩
  omega
def dH_bl : List (Nat × Nat) := [(29, 999), (30, 999), (31, 999), (32, 999)] ++ dX9_refuse ++ dX9_advance ++ dX9_takeNumber
theorem dH_bl1 : msub dX9_refuse dH_bl = true := by decide +kernel
theorem dH_bl2 : msub dX9_advance dH_bl = true := by decide +kernel
theorem dH_bl3 : msub dX9_takeNumber dH_bl = true := by decide +kernel
def dH_rp : List (Nat × Nat) := [(31, 999), (32, 999)] ++ dX9_takeNumber
theorem dH_rp1 : msub dX9_takeNumber dH_rp = true := by decide +kernel
theorem dH_rp2 : msub dH_rp dH_bl = true := by decide +kernel
theorem s_readPlace1 {kn : sKn} {w0 : sW} (hw : wOk ZZ w0) (n : Nat) (hn : gF w0 43 4 = (n : Int)) (h39 : n ≤ 39) : ∃ (w' : sW) (b : Int), fX1_readPlace kn [.ref 43, .ref 1] w0 = some (some (hI b), w', 0, 0) ∧ hO dH_rp w0 w' ∧ (b = 0 ∨ b = 1) := by
  have K : Tp (tX1_readPlace kn) (fun r => ∃ (w' : sW) (b : Int), r = (some (hI b), w', 0, 0) ∧ hO dH_rp w0 w' ∧ (b = 0 ∨ b = 1)) 0 (lv_args 0 [.ref 43, .ref 1], [], w0, 0, 0) := by
    have l0 : hL (lv_args 0 [.ref 43, .ref 1]) (lv_args 0 [.ref 43, .ref 1]) := ⟨fun _ _ h => h, fun q hq => by
      rcases List.mem_cons.mp hq with e | hq
      · rw [e]
        exact ⟨rfl, rfl⟩
      rcases List.mem_cons.mp hq with e | hq
      · rw [e]
        exact ⟨rfl, rfl⟩
      cases hq⟩
    have o0 : hO dH_rp w0 w0 := hO_rf hw
    refine h_aload rfl l0 rfl ?_
    refine h_intv k_0 rfl ?_
    refine h_intv k_11 rfl ?_
    obtain ⟨wA, zA, hf1, oA', hzA⟩ := s_tn11 (kn := kn) o0.1 0 ⟨by omega, by omega⟩ 11 ⟨by omega, by omega⟩
    have oA : hO dH_rp w0 wA := hO_tr o0 (hO_mono dH_rp1 oA')
    have hnA : gF wA 43 4 = (n : Int) := by rw [← hn]; exact fr_gF (t := 28) oA'.2 rfl (by decide +kernel) o0.1 (by decide +kernel)
    refine h_V3 rfl o0 l0 (cI_of (show ztau 1 = some 2 from rfl) cit_2) rfl rfl hf1 ?_
    refine j_ne (kn := kn) (t := 1) (tgt := 12) (np := 10) rfl (by unfold R32; omega) (fun e2 => ?_) (fun e2 => ?_)
    · refine h_aload rfl l0 rfl ?_
      refine h_getR rfl oA frc_43_2 ?_
      refine h_aload rfl l0 rfl ?_
      refine h_getI rfl oA (fI_of (show ztau 43 = some 28 from rfl) fit_28_4) (fun b3a b3b => ?_)
      rw [hnA] at b3a b3b ⊢
      refine h_aload rfl l0 rfl ?_
      refine h_getI rfl oA (fI_of (show ztau 1 = some 2 from rfl) fit_2_8) (fun b4a b4b => ?_)
      refine h_iastj (n) rfl oA (aI_of (show ztau 46 = some 31 from rfl) ait_31) rfl rfl (aP_of (show ztau 46 = some 31 from rfl) apt_31) (by omega) (by omega) (by omega) (by omega) (by omega) (by unfold R32; omega) (fun w5 o5 q6a q6b q6c => ?_)
      have hnS : gF w5 43 4 = (n : Int) := by rw [q6c]; exact hnA
      refine h_aload rfl l0 rfl ?_
      refine h_intv k_0 rfl ?_
      refine h_intv k_2 rfl ?_
      obtain ⟨wB, zB, hf7, oB', hzB⟩ := s_tn2 (kn := kn) o5.1 0 ⟨by omega, by omega⟩ 2 ⟨by omega, by omega⟩
      have oB : hO dH_rp w0 wB := hO_tr o5 (hO_mono dH_rp1 oB')
      have hnB : gF wB 43 4 = (n : Int) := by rw [← hnS]; exact fr_gF (t := 28) oB'.2 rfl (by decide +kernel) o5.1 (by decide +kernel)
      refine h_V3 rfl o5 l0 (cI_of (show ztau 1 = some 2 from rfl) cit_2) rfl rfl hf7 ?_
      refine j_ne (kn := kn) (t := 1) (tgt := 36) (np := 34) rfl (by unfold R32; omega) (fun e8 => ?_) (fun e8 => ?_)
      · refine h_aload rfl l0 rfl ?_
        refine h_getR rfl oB frc_43_3 ?_
        refine h_aload rfl l0 rfl ?_
        refine h_getI rfl oB (fI_of (show ztau 43 = some 28 from rfl) fit_28_4) (fun b9a b9b => ?_)
        rw [hnB] at b9a b9b ⊢
        refine h_aload rfl l0 rfl ?_
        refine h_getI rfl oB (fI_of (show ztau 1 = some 2 from rfl) fit_2_8) (fun b10a b10b => ?_)
        refine h_iastj (n) rfl oB (aI_of (show ztau 47 = some 32 from rfl) ait_32) rfl rfl (aP_of (show ztau 47 = some 32 from rfl) apt_32) (by omega) (by omega) (by omega) (by omega) (by omega) (by unfold R32; omega) (fun w11 o11 q12a q12b q12c => ?_)
        refine h_intv k_1 rfl ?_
        refine h_zret (by omega) rfl ?_
        exact ⟨_, _, rfl, o11, by omega⟩
      · refine h_intv k_0 rfl ?_
        refine h_zret (by omega) rfl ?_
        exact ⟨_, _, rfl, oB, by omega⟩
    · refine h_intv k_0 rfl ?_
      refine h_zret (by omega) rfl ?_
      exact ⟨_, _, rfl, oA, by omega⟩
  obtain ⟨r, h1, w2, b, h2, h3⟩ := h_meth1 (nL := 2) rfl K
  rw [h2] at h1
  exact ⟨w2, b, h1, h3⟩
theorem s_readDays1 {kn : sKn} {w0 : sW} (hw : wOk ZZ w0) (n : Nat) (hn : gF w0 43 4 = (n : Int)) (h39 : n ≤ 39) : ∃ (w' : sW) (b : Int), fX1_readDays kn [.ref 43, .ref 1] w0 = some (some (hI b), w', 0, 0) ∧ hO dH_rp w0 w' ∧ (b = 0 ∨ b = 1) := by
  have K : Tp (tX1_readDays kn) (fun r => ∃ (w' : sW) (b : Int), r = (some (hI b), w', 0, 0) ∧ hO dH_rp w0 w' ∧ (b = 0 ∨ b = 1)) 0 (lv_args 0 [.ref 43, .ref 1], [], w0, 0, 0) := by
    have l0 : hL (lv_args 0 [.ref 43, .ref 1]) (lv_args 0 [.ref 43, .ref 1]) := ⟨fun _ _ h => h, fun q hq => by
      rcases List.mem_cons.mp hq with e | hq
      · rw [e]
        exact ⟨rfl, rfl⟩
      rcases List.mem_cons.mp hq with e | hq
      · rw [e]
        exact ⟨rfl, rfl⟩
      cases hq⟩
    have o0 : hO dH_rp w0 w0 := hO_rf hw
    refine h_aload rfl l0 rfl ?_
    refine h_intv k_1 rfl ?_
    refine h_intv k_60 rfl ?_
    obtain ⟨wA, zA, hf1, oA', hzA⟩ := s_tn60 (kn := kn) o0.1 1 ⟨by omega, by omega⟩ 60 ⟨by omega, by omega⟩
    have oA : hO dH_rp w0 wA := hO_tr o0 (hO_mono dH_rp1 oA')
    have hnA : gF wA 43 4 = (n : Int) := by rw [← hn]; exact fr_gF (t := 28) oA'.2 rfl (by decide +kernel) o0.1 (by decide +kernel)
    refine h_V3 rfl o0 l0 (cI_of (show ztau 1 = some 2 from rfl) cit_2) rfl rfl hf1 ?_
    refine j_ne (kn := kn) (t := 1) (tgt := 12) (np := 10) rfl (by unfold R32; omega) (fun e2 => ?_) (fun e2 => ?_)
    · refine h_aload rfl l0 rfl ?_
      refine h_getR rfl oA frc_43_2 ?_
      refine h_aload rfl l0 rfl ?_
      refine h_getI rfl oA (fI_of (show ztau 43 = some 28 from rfl) fit_28_4) (fun b3a b3b => ?_)
      rw [hnA] at b3a b3b ⊢
      refine h_aload rfl l0 rfl ?_
      refine h_getI rfl oA (fI_of (show ztau 1 = some 2 from rfl) fit_2_8) (fun b4a b4b => ?_)
      refine h_iastj (n) rfl oA (aI_of (show ztau 46 = some 31 from rfl) ait_31) rfl rfl (aP_of (show ztau 46 = some 31 from rfl) apt_31) (by omega) (by omega) (by omega) (by omega) (by omega) (by unfold R32; omega) (fun w5 o5 q6a q6b q6c => ?_)
      refine h_intv k_1 rfl ?_
      refine h_zret (by omega) rfl ?_
      exact ⟨_, _, rfl, o5, by omega⟩
    · refine h_intv k_0 rfl ?_
      refine h_zret (by omega) rfl ?_
      exact ⟨_, _, rfl, oA, by omega⟩
  obtain ⟨r, h1, w2, b, h2, h3⟩ := h_meth1 (nL := 2) rfl K
  rw [h2] at h1
  exact ⟨w2, b, h1, h3⟩
/-- a line of a book that can be lived: who goes with the deed -/
def bkG (w : sW) (i : Nat) : Prop := (8 ≤ gX w 44 i ∧ gX w 44 i ≤ 11 → 0 ≤ gX w 45 i) ∧ (gX w 44 i = 13 → 0 ≤ gX w 45 i ∧ gX w 45 i ≤ 5)
theorem bkG_eq {w w' : sW} {i : Nat} (h1 : gX w' 44 i = gX w 44 i) (h2 : gX w' 45 i = gX w 45 i) (h : bkG w i) : bkG w' i := by
  unfold bkG at h ⊢
  rw [h1, h2]
  exact h
def blQ (w0 : sW) (n : Nat) (b : Int) (w' : sW) : Prop := (b = 0 ∨ b = 1) ∧ gF w' 43 4 = (n : Int) ∧ (∀ i, i ≠ n → gX w' 44 i = gX w0 44 i ∧ gX w' 45 i = gX w0 45 i) ∧ (b = 1 → n ≤ 39 ∧ bkG w' n)
def blM (w0 : sW) (n : Nat) (w : sW) : Prop := gF w 43 4 = (n : Int) ∧ ∀ i, i ≠ n → gX w 44 i = gX w0 44 i ∧ gX w 45 i = gX w0 45 i
theorem bl_fr {D : List (Nat × Nat)} {w0 w w' : sW} {n : Nat} (hw : wOk ZZ w) (h : hO D w w') (h1 : mIn D 28 4 = false) (h2 : mIn D 29 999 = false) (h3 : mIn D 30 999 = false) (m : blM w0 n w) : blM w0 n w' ∧ gX w' 44 n = gX w 44 n ∧ gX w' 45 n = gX w 45 n := by
  have e1 := fun j => fr_gX (t := 29) (c := 44) h.2 rfl h2 hw (by decide +kernel) j
  have e2 := fun j => fr_gX (t := 30) (c := 45) h.2 rfl h3 hw (by decide +kernel) j
  refine ⟨⟨by rw [fr_gF (t := 28) (c := 43) h.2 rfl h1 hw (by decide +kernel)]; exact m.1, fun i hi => ?_⟩, e1 n, e2 n⟩
  rw [e1, e2]
  exact m.2 i hi
theorem rl_180 {kn : sKn} {w0 : sW} {n : Nat} (hn40 : n ≤ 41) {w1 : sW} {lv : List (Nat × Value)} {nm s l : Int} (h39 : n ≤ 39) (m1 : blM w0 n w1) (hg : (8 ≤ gF w1 1 6 ∧ gF w1 1 6 ≤ 11 → 0 ≤ gX w1 45 n) ∧ (gF w1 1 6 = 13 → 0 ≤ gX w1 45 n ∧ gX w1 45 n ≤ 5)) (o0 : hO dH_bl w0 w1) (l0 : hL lv [(0, .ref 43), (1, .ref 1), (2, .ref 14), (3, hI nm), (4, hI s), (5, hI l)]) : Tp (tX1_readLine kn) (fun r => ∃ (w' : sW) (b : Int), r = (some (hI b), w', 0, 0) ∧ hO dH_bl w0 w' ∧ blQ w0 n b w') 180 (lv, [], w1, 0, 0) := by
  refine h_aload rfl l0 rfl ?_
  refine h_getR rfl o0 frc_43_0 ?_
  refine h_aload rfl l0 rfl ?_
  refine h_getI rfl o0 (fI_of (show ztau 43 = some 28 from rfl) fit_28_4) (fun b1a b1b => ?_)
  rw [m1.1] at b1a b1b ⊢
  refine h_aload rfl l0 rfl ?_
  refine h_getI rfl o0 (fI_of (show ztau 1 = some 2 from rfl) fit_2_6) (fun b2a b2b => ?_)
  refine h_iastj (n) rfl o0 (aI_of (show ztau 44 = some 29 from rfl) ait_29) rfl rfl (aP_of (show ztau 44 = some 29 from rfl) apt_29) (by omega) (by omega) (by omega) (by omega) (by omega) (by unfold R32; omega) (fun w3 o3 q4a q4b q4c => ?_)
  have mS : blM w0 n w3 := ⟨by rw [q4c]; exact m1.1, fun i hi => by rw [q4b 44 i (fun _ => hi), q4b 45 i (fun z => absurd z (by decide))]; exact m1.2 i hi⟩
  have kS : bkG w3 n := by
    unfold bkG
    rw [q4a, q4b 45 n (fun z => absurd z (by decide))]
    exact hg
  refine h_aload rfl l0 rfl ?_
  obtain ⟨wA, hf5, oA'⟩ := s_adv9 (kn := kn) o3.1
  have oA : hO dH_bl w0 wA := hO_tr o3 (hO_mono dH_bl2 oA')
  obtain ⟨mA, dA, hA⟩ := bl_fr o3.1 oA' (by decide +kernel) (by decide +kernel) (by decide +kernel) mS
  have kA : bkG wA n := bkG_eq dA hA kS
  refine h_W1 rfl o3 l0 (cI_of (show ztau 1 = some 2 from rfl) cit_2) rfl rfl hf5 ?_
  refine h_aload rfl l0 rfl ?_
  refine h_getR rfl oA frc_43_0 ?_
  refine h_aload rfl l0 rfl ?_
  refine h_getI rfl oA (fI_of (show ztau 43 = some 28 from rfl) fit_28_4) (fun b6a b6b => ?_)
  rw [mA.1] at b6a b6b ⊢
  refine h_ialdj (n) rfl oA (aI_of (show ztau 44 = some 29 from rfl) ait_29) rfl (by omega) (by omega) (fun b7a b7b => ?_)
  by_cases e8_0 : (gX wA 44 ((gF wA 43 4))) = 8
  · refine h_look 8 e8_0 (by unfold R32; omega) rfl rfl ?_
    refine h_aload rfl l0 rfl ?_
    refine h_aload rfl l0 rfl ?_
    obtain ⟨wP, zP, hf9, oP', hzP⟩ := s_readPlace1 (kn := kn) oA.1 n mA.1 h39
    have oP : hO dH_bl w0 wP := hO_tr oA (hO_mono dH_rp2 oP')
    obtain ⟨mP, dP, hP⟩ := bl_fr oA.1 oP' (by decide +kernel) (by decide +kernel) (by decide +kernel) mA
    refine h_V2 rfl oA l0 (cI_of (show ztau 43 = some 28 from rfl) cit_28) rfl rfl hf9 ?_
    refine h_zret (by omega) rfl ?_
    exact ⟨_, _, rfl, oP, by omega, mP.1, mP.2, fun _ => ⟨h39, bkG_eq dP hP kA⟩⟩
  by_cases e8_1 : (gX wA 44 ((gF wA 43 4))) = 12
  · refine h_look 12 e8_1 (by unfold R32; omega) rfl rfl ?_
    refine h_aload rfl l0 rfl ?_
    refine h_aload rfl l0 rfl ?_
    obtain ⟨wP, zP, hf10, oP', hzP⟩ := s_readPlace1 (kn := kn) oA.1 n mA.1 h39
    have oP : hO dH_bl w0 wP := hO_tr oA (hO_mono dH_rp2 oP')
    obtain ⟨mP, dP, hP⟩ := bl_fr oA.1 oP' (by decide +kernel) (by decide +kernel) (by decide +kernel) mA
    refine h_V2 rfl oA l0 (cI_of (show ztau 43 = some 28 from rfl) cit_28) rfl rfl hf10 ?_
    refine h_zret (by omega) rfl ?_
    exact ⟨_, _, rfl, oP, by omega, mP.1, mP.2, fun _ => ⟨h39, bkG_eq dP hP kA⟩⟩
  by_cases e8_2 : (gX wA 44 ((gF wA 43 4))) = 14
  · refine h_look 14 e8_2 (by unfold R32; omega) rfl rfl ?_
    refine h_aload rfl l0 rfl ?_
    refine h_aload rfl l0 rfl ?_
    obtain ⟨wP, zP, hf11, oP', hzP⟩ := s_readDays1 (kn := kn) oA.1 n mA.1 h39
    have oP : hO dH_bl w0 wP := hO_tr oA (hO_mono dH_rp2 oP')
    obtain ⟨mP, dP, hP⟩ := bl_fr oA.1 oP' (by decide +kernel) (by decide +kernel) (by decide +kernel) mA
    refine h_V2 rfl oA l0 (cI_of (show ztau 43 = some 28 from rfl) cit_28) rfl rfl hf11 ?_
    refine h_zret (by omega) rfl ?_
    exact ⟨_, _, rfl, oP, by omega, mP.1, mP.2, fun _ => ⟨h39, bkG_eq dP hP kA⟩⟩
  refine h_lookd rfl (by unfold R32; omega) (by simp only [List.mem_cons, List.not_mem_nil, or_false, forall_eq_or_imp, forall_eq]; omega) ?_
  refine h_intv k_1 rfl ?_
  refine h_zret (by omega) rfl ?_
  exact ⟨_, _, rfl, oA, Or.inr rfl, mA.1, mA.2, fun _ => ⟨h39, kA⟩⟩
theorem rl_100 {kn : sKn} {w0 : sW} {n : Nat} (hn40 : n ≤ 41) {w1 : sW} {lv : List (Nat × Value)} {s l : Int} (m1 : blM w0 n w1) (hsl : (0 ≤ s ∧ s ≤ 9 ∧ -1 ≤ l ∧ l ≤ 5) ∨ (s = -1 ∧ 0 ≤ l ∧ l ≤ 5)) (o0 : hO dH_bl w0 w1) (l0 : hL lv [(0, .ref 43), (1, .ref 1), (2, .ref 14), (3, hI 1), (4, hI s), (5, hI l)]) : Tp (tX1_readLine kn) (fun r => ∃ (w' : sW) (b : Int), r = (some (hI b), w', 0, 0) ∧ hO dH_bl w0 w' ∧ blQ w0 n b w') 100 (lv, [], w1, 0, 0) := by
  refine h_aload rfl l0 rfl ?_
  refine h_getI rfl o0 (fI_of (show ztau 43 = some 28 from rfl) fit_28_4) (fun b1a b1b => ?_)
  rw [m1.1] at b1a b1b ⊢
  refine h_intv k_40 rfl ?_
  refine i_lt (kn := kn) (t := 2) (tgt := 115) (np := 109) rfl (by unfold R32; omega) (by unfold R32; omega) (fun e2 => ?_) (fun e2 => ?_)
  · refine h_iload rfl l0 rfl ?_
    refine j_eq (kn := kn) (t := 0) (tgt := 145) (np := 119) rfl (by unfold R32; omega) (fun e3 => ?_) (fun e3 => ?_)
    · omega
    · refine h_aload rfl l0 rfl ?_
      obtain ⟨wA, hf4, oA'⟩ := s_adv9 (kn := kn) o0.1
      have oA : hO dH_bl w0 wA := hO_tr o0 (hO_mono dH_bl2 oA')
      obtain ⟨mA, dA, hA⟩ := bl_fr o0.1 oA' (by decide +kernel) (by decide +kernel) (by decide +kernel) m1
      refine h_W1 rfl o0 l0 (cI_of (show ztau 1 = some 2 from rfl) cit_2) rfl rfl hf4 ?_
      refine h_aload rfl l0 rfl ?_
      refine h_getR rfl oA frc_43_1 ?_
      refine h_aload rfl l0 rfl ?_
      refine h_getI rfl oA (fI_of (show ztau 43 = some 28 from rfl) fit_28_4) (fun b5a b5b => ?_)
      rw [mA.1] at b5a b5b ⊢
      refine h_iload rfl l0 rfl ?_
      refine h_intv k_n1 rfl ?_
      refine i_eq (kn := kn) (t := 0) (tgt := 142) (np := 137) rfl (by unfold R32; omega) (by unfold R32; omega) (fun e6 => ?_) (fun e6 => ?_)
      · refine h_iload rfl l0 rfl ?_
        refine h_iastj (n) rfl oA (aI_of (show ztau 45 = some 30 from rfl) ait_30) rfl rfl aw_45 (by omega) (by omega) (by omega) (by omega) (by omega) (by unfold R32; omega) (fun w7 o7 q8a q8b q8c => ?_)
        have mS : blM w0 n w7 := ⟨by rw [q8c]; exact mA.1, fun i hi => by rw [q8b 45 i (fun _ => hi), q8b 44 i (fun z => absurd z (by decide))]; exact mA.2 i hi⟩
        have qS := q8a
        refine h_iload rfl l0 rfl ?_
        refine j_eq (kn := kn) (t := 0) (tgt := 180) (np := 149) rfl (by unfold R32; omega) (fun e9 => ?_) (fun e9 => ?_)
        · omega
        · refine h_iload rfl l0 rfl ?_
          refine h_intv k_n1 rfl ?_
          refine i_eq (kn := kn) (t := 0) (tgt := 165) (np := 155) rfl (by unfold R32; omega) (by unfold R32; omega) (fun e10 => ?_) (fun e10 => ?_)
          · refine h_aload rfl l0 rfl ?_
            refine h_intv k_13 rfl ?_
            obtain ⟨z11, hf11, hz11, hq11⟩ := s_isKey9 (kn := kn) o7.1 13 ⟨by omega, by omega⟩
            refine h_V2 rfl o7 l0 (cI_of (show ztau 1 = some 2 from rfl) cit_2) rfl rfl hf11 ?_
            refine j_ne (kn := kn) (t := 1) (tgt := 180) (np := 174) rfl (by unfold R32; omega) (fun e12 => ?_) (fun e12 => ?_)
            · exact rl_180 hn40 (by omega) mS (by omega) o7 l0
            · refine h_aload rfl l0 rfl ?_
              refine h_intv k_1 rfl ?_
              obtain ⟨wR, zR, hf13, oR', hzR⟩ := s_refuse9 (kn := kn) o7.1 1 ⟨by omega, by omega⟩
              have oR : hO dH_bl w0 wR := hO_tr o7 (hO_mono dH_bl1 oR')
              have mR := (bl_fr o7.1 oR' (by decide +kernel) (by decide +kernel) (by decide +kernel) mS).1
              refine h_V2 rfl o7 l0 (cI_of (show ztau 1 = some 2 from rfl) cit_2) rfl rfl hf13 ?_
              refine h_zret (by omega) rfl ?_
              exact ⟨_, _, rfl, oR, by omega, mR.1, mR.2, fun z => by omega⟩
          · refine h_aload rfl l0 rfl ?_
            obtain ⟨z14, hf14, hz14, hq14⟩ := s_isDeed (kn := kn) o7.1
            refine h_S1 rfl o7 l0 rfl rfl hf14 ?_
            refine j_eq (kn := kn) (t := 0) (tgt := 174) (np := 162) rfl (by unfold R32; omega) (fun e15 => ?_) (fun e15 => ?_)
            · refine h_aload rfl l0 rfl ?_
              refine h_intv k_1 rfl ?_
              obtain ⟨wR, zR, hf16, oR', hzR⟩ := s_refuse9 (kn := kn) o7.1 1 ⟨by omega, by omega⟩
              have oR : hO dH_bl w0 wR := hO_tr o7 (hO_mono dH_bl1 oR')
              have mR := (bl_fr o7.1 oR' (by decide +kernel) (by decide +kernel) (by decide +kernel) mS).1
              refine h_V2 rfl o7 l0 (cI_of (show ztau 1 = some 2 from rfl) cit_2) rfl rfl hf16 ?_
              refine h_zret (by omega) rfl ?_
              exact ⟨_, _, rfl, oR, by omega, mR.1, mR.2, fun z => by omega⟩
            · refine h_goto rfl ?_
              exact rl_180 hn40 (by omega) mS (by omega) o7 l0
      · refine h_iload rfl l0 rfl ?_
        refine h_goto rfl ?_
        refine h_iastj (n) rfl oA (aI_of (show ztau 45 = some 30 from rfl) ait_30) rfl rfl aw_45 (by omega) (by omega) (by omega) (by omega) (by omega) (by unfold R32; omega) (fun w17 o17 q18a q18b q18c => ?_)
        have mS : blM w0 n w17 := ⟨by rw [q18c]; exact mA.1, fun i hi => by rw [q18b 45 i (fun _ => hi), q18b 44 i (fun z => absurd z (by decide))]; exact mA.2 i hi⟩
        have qS := q18a
        refine h_iload rfl l0 rfl ?_
        refine j_eq (kn := kn) (t := 0) (tgt := 180) (np := 149) rfl (by unfold R32; omega) (fun e19 => ?_) (fun e19 => ?_)
        · omega
        · refine h_iload rfl l0 rfl ?_
          refine h_intv k_n1 rfl ?_
          refine i_eq (kn := kn) (t := 0) (tgt := 165) (np := 155) rfl (by unfold R32; omega) (by unfold R32; omega) (fun e20 => ?_) (fun e20 => ?_)
          · refine h_aload rfl l0 rfl ?_
            refine h_intv k_13 rfl ?_
            obtain ⟨z21, hf21, hz21, hq21⟩ := s_isKey9 (kn := kn) o17.1 13 ⟨by omega, by omega⟩
            refine h_V2 rfl o17 l0 (cI_of (show ztau 1 = some 2 from rfl) cit_2) rfl rfl hf21 ?_
            refine j_ne (kn := kn) (t := 1) (tgt := 180) (np := 174) rfl (by unfold R32; omega) (fun e22 => ?_) (fun e22 => ?_)
            · exact rl_180 hn40 (by omega) mS (by omega) o17 l0
            · refine h_aload rfl l0 rfl ?_
              refine h_intv k_1 rfl ?_
              obtain ⟨wR, zR, hf23, oR', hzR⟩ := s_refuse9 (kn := kn) o17.1 1 ⟨by omega, by omega⟩
              have oR : hO dH_bl w0 wR := hO_tr o17 (hO_mono dH_bl1 oR')
              have mR := (bl_fr o17.1 oR' (by decide +kernel) (by decide +kernel) (by decide +kernel) mS).1
              refine h_V2 rfl o17 l0 (cI_of (show ztau 1 = some 2 from rfl) cit_2) rfl rfl hf23 ?_
              refine h_zret (by omega) rfl ?_
              exact ⟨_, _, rfl, oR, by omega, mR.1, mR.2, fun z => by omega⟩
          · refine h_aload rfl l0 rfl ?_
            obtain ⟨z24, hf24, hz24, hq24⟩ := s_isDeed (kn := kn) o17.1
            refine h_S1 rfl o17 l0 rfl rfl hf24 ?_
            refine j_eq (kn := kn) (t := 0) (tgt := 174) (np := 162) rfl (by unfold R32; omega) (fun e25 => ?_) (fun e25 => ?_)
            · refine h_aload rfl l0 rfl ?_
              refine h_intv k_1 rfl ?_
              obtain ⟨wR, zR, hf26, oR', hzR⟩ := s_refuse9 (kn := kn) o17.1 1 ⟨by omega, by omega⟩
              have oR : hO dH_bl w0 wR := hO_tr o17 (hO_mono dH_bl1 oR')
              have mR := (bl_fr o17.1 oR' (by decide +kernel) (by decide +kernel) (by decide +kernel) mS).1
              refine h_V2 rfl o17 l0 (cI_of (show ztau 1 = some 2 from rfl) cit_2) rfl rfl hf26 ?_
              refine h_zret (by omega) rfl ?_
              exact ⟨_, _, rfl, oR, by omega, mR.1, mR.2, fun z => by omega⟩
            · refine h_goto rfl ?_
              exact rl_180 hn40 (by omega) mS (by omega) o17 l0
  · refine h_aload rfl l0 rfl ?_
    refine h_intv k_4 rfl ?_
    obtain ⟨wR, zR, hf27, oR', hzR⟩ := s_refuse9 (kn := kn) o0.1 4 ⟨by omega, by omega⟩
    have oR : hO dH_bl w0 wR := hO_tr o0 (hO_mono dH_bl1 oR')
    have mR := (bl_fr o0.1 oR' (by decide +kernel) (by decide +kernel) (by decide +kernel) m1).1
    refine h_V2 rfl o0 l0 (cI_of (show ztau 1 = some 2 from rfl) cit_2) rfl rfl hf27 ?_
    refine h_zret (by omega) rfl ?_
    exact ⟨_, _, rfl, oR, by omega, mR.1, mR.2, fun z => by omega⟩
theorem rl_100n {kn : sKn} {w0 : sW} {n : Nat} (hn40 : n ≤ 41) {w1 : sW} {lv : List (Nat × Value)} (m1 : blM w0 n w1) (hv : gF w1 1 6 = 12 ∨ gF w1 1 6 = 14) (o0 : hO dH_bl w0 w1) (l0 : hL lv [(0, .ref 43), (1, .ref 1), (2, .ref 14), (3, hI 0), (4, hI (-1)), (5, hI (-1))]) : Tp (tX1_readLine kn) (fun r => ∃ (w' : sW) (b : Int), r = (some (hI b), w', 0, 0) ∧ hO dH_bl w0 w' ∧ blQ w0 n b w') 100 (lv, [], w1, 0, 0) := by
  refine h_aload rfl l0 rfl ?_
  refine h_getI rfl o0 (fI_of (show ztau 43 = some 28 from rfl) fit_28_4) (fun b1a b1b => ?_)
  rw [m1.1] at b1a b1b ⊢
  refine h_intv k_40 rfl ?_
  refine i_lt (kn := kn) (t := 2) (tgt := 115) (np := 109) rfl (by unfold R32; omega) (by unfold R32; omega) (fun e2 => ?_) (fun e2 => ?_)
  · refine h_iload rfl l0 rfl ?_
    refine j_eq (kn := kn) (t := 0) (tgt := 145) (np := 119) rfl (by unfold R32; omega) (fun e3 => ?_) (fun e3 => ?_)
    · refine h_iload rfl l0 rfl ?_
      refine j_eq (kn := kn) (t := 0) (tgt := 180) (np := 149) rfl (by unfold R32; omega) (fun e4 => ?_) (fun e4 => ?_)
      · exact rl_180 hn40 (by omega) m1 (by omega) o0 l0
      · omega
    · omega
  · refine h_aload rfl l0 rfl ?_
    refine h_intv k_4 rfl ?_
    obtain ⟨wR, zR, hf5, oR', hzR⟩ := s_refuse9 (kn := kn) o0.1 4 ⟨by omega, by omega⟩
    have oR : hO dH_bl w0 wR := hO_tr o0 (hO_mono dH_bl1 oR')
    have mR := (bl_fr o0.1 oR' (by decide +kernel) (by decide +kernel) (by decide +kernel) m1).1
    refine h_V2 rfl o0 l0 (cI_of (show ztau 1 = some 2 from rfl) cit_2) rfl rfl hf5 ?_
    refine h_zret (by omega) rfl ?_
    exact ⟨_, _, rfl, oR, by omega, mR.1, mR.2, fun z => by omega⟩
theorem s_readLine1 {kn : sKn} {w0 : sW} (hw : wOk ZZ w0) (n : Nat) (hn : gF w0 43 4 = (n : Int)) : ∃ (w' : sW) (b : Int), fX1_readLine kn [.ref 43, .ref 1, .ref 14] w0 = some (some (hI b), w', 0, 0) ∧ hO dH_bl w0 w' ∧ blQ w0 n b w' := by
  obtain ⟨_, _, _, _, _, _, _, ha, hb⟩ := fI_ok (hO_rf (D := []) hw) (fI_of (show ztau 43 = some 28 from rfl) fit_28_4)
  have m0 : blM w0 n w0 := ⟨hn, fun i _ => ⟨rfl, rfl⟩⟩
  have K : Tp (tX1_readLine kn) (fun r => ∃ (w' : sW) (b : Int), r = (some (hI b), w', 0, 0) ∧ hO dH_bl w0 w' ∧ blQ w0 n b w') 0 (lv_args 0 [.ref 43, .ref 1, .ref 14], [], w0, 0, 0) := by
    have l0 : hL (lv_args 0 [.ref 43, .ref 1, .ref 14]) (lv_args 0 [.ref 43, .ref 1, .ref 14]) := ⟨fun _ _ h => h, fun q hq => by
      rcases List.mem_cons.mp hq with e | hq
      · rw [e]
        exact ⟨rfl, rfl⟩
      rcases List.mem_cons.mp hq with e | hq
      · rw [e]
        exact ⟨rfl, rfl⟩
      rcases List.mem_cons.mp hq with e | hq
      · rw [e]
        exact ⟨rfl, rfl⟩
      cases hq⟩
    have o0 : hO dH_bl w0 w0 := hO_rf hw
    refine h_aload rfl l0 rfl ?_
    refine h_getI rfl o0 (fI_of (show ztau 1 = some 2 from rfl) fit_2_4) (fun b1a b1b => ?_)
    refine h_intv k_5 rfl ?_
    refine i_ne (kn := kn) (t := 1) (tgt := 12) (np := 8) rfl (by unfold R32; omega) (by unfold R32; omega) (fun e2 => ?_) (fun e2 => ?_)
    · refine h_intv k_0 rfl ?_
      refine h_istore rfl l0 (fun vl3 l3 => ?_)
      refine h_iload rfl l3 rfl ?_
      refine j_ne (kn := kn) (t := 1) (tgt := 42) (np := 18) rfl (by unfold R32; omega) (fun e4 => ?_) (fun e4 => ?_)
      · omega
      · refine h_aload rfl l3 rfl ?_
        refine h_intv k_12 rfl ?_
        obtain ⟨z5, hf5, hz5, hq5⟩ := s_isKey9 (kn := kn) o0.1 12 ⟨by omega, by omega⟩
        refine h_V2 rfl o0 l3 (cI_of (show ztau 1 = some 2 from rfl) cit_2) rfl rfl hf5 ?_
        refine j_ne (kn := kn) (t := 1) (tgt := 42) (np := 27) rfl (by unfold R32; omega) (fun e6 => ?_) (fun e6 => ?_)
        · refine h_iload rfl l3 rfl ?_
          refine j_eq (kn := kn) (t := 0) (tgt := 57) (np := 46) rfl (by unfold R32; omega) (fun e7 => ?_) (fun e7 => ?_)
          · refine h_intv k_n1 rfl ?_
            refine h_istore rfl l3 (fun vl8 l8 => ?_)
            refine h_iload rfl l8 rfl ?_
            refine j_eq (kn := kn) (t := 0) (tgt := 75) (np := 64) rfl (by unfold R32; omega) (fun e9 => ?_) (fun e9 => ?_)
            · refine h_intv k_n1 rfl ?_
              refine h_istore rfl l8 (fun vl10 l10 => ?_)
              refine h_iload rfl l10 rfl ?_
              refine j_eq (kn := kn) (t := 0) (tgt := 100) (np := 82) rfl (by unfold R32; omega) (fun e11 => ?_) (fun e11 => ?_)
              · exact rl_100n (by omega) m0 (by omega) o0 l10
              · omega
            · omega
          · omega
        · refine h_aload rfl l3 rfl ?_
          refine h_intv k_14 rfl ?_
          obtain ⟨z12, hf12, hz12, hq12⟩ := s_isKey9 (kn := kn) o0.1 14 ⟨by omega, by omega⟩
          refine h_V2 rfl o0 l3 (cI_of (show ztau 1 = some 2 from rfl) cit_2) rfl rfl hf12 ?_
          refine j_ne (kn := kn) (t := 1) (tgt := 42) (np := 36) rfl (by unfold R32; omega) (fun e13 => ?_) (fun e13 => ?_)
          · refine h_iload rfl l3 rfl ?_
            refine j_eq (kn := kn) (t := 0) (tgt := 57) (np := 46) rfl (by unfold R32; omega) (fun e14 => ?_) (fun e14 => ?_)
            · refine h_intv k_n1 rfl ?_
              refine h_istore rfl l3 (fun vl15 l15 => ?_)
              refine h_iload rfl l15 rfl ?_
              refine j_eq (kn := kn) (t := 0) (tgt := 75) (np := 64) rfl (by unfold R32; omega) (fun e16 => ?_) (fun e16 => ?_)
              · refine h_intv k_n1 rfl ?_
                refine h_istore rfl l15 (fun vl17 l17 => ?_)
                refine h_iload rfl l17 rfl ?_
                refine j_eq (kn := kn) (t := 0) (tgt := 100) (np := 82) rfl (by unfold R32; omega) (fun e18 => ?_) (fun e18 => ?_)
                · exact rl_100n (by omega) m0 (by omega) o0 l17
                · omega
              · omega
            · omega
          · refine h_aload rfl l3 rfl ?_
            refine h_intv k_1 rfl ?_
            obtain ⟨wR, zR, hf19, oR', hzR⟩ := s_refuse9 (kn := kn) o0.1 1 ⟨by omega, by omega⟩
            have oR : hO dH_bl w0 wR := hO_tr o0 (hO_mono dH_bl1 oR')
            have mR := (bl_fr o0.1 oR' (by decide +kernel) (by decide +kernel) (by decide +kernel) m0).1
            refine h_V2 rfl o0 l3 (cI_of (show ztau 1 = some 2 from rfl) cit_2) rfl rfl hf19 ?_
            refine h_zret (by omega) rfl ?_
            exact ⟨_, _, rfl, oR, by omega, mR.1, mR.2, fun z => by omega⟩
    · refine h_intv k_1 rfl ?_
      refine h_goto rfl ?_
      refine h_istore rfl l0 (fun vl20 l20 => ?_)
      refine h_iload rfl l20 rfl ?_
      refine j_ne (kn := kn) (t := 1) (tgt := 42) (np := 18) rfl (by unfold R32; omega) (fun e21 => ?_) (fun e21 => ?_)
      · refine h_iload rfl l20 rfl ?_
        refine j_eq (kn := kn) (t := 0) (tgt := 57) (np := 46) rfl (by unfold R32; omega) (fun e22 => ?_) (fun e22 => ?_)
        · omega
        · refine h_aload rfl l20 rfl ?_
          refine h_aload rfl l20 rfl ?_
          refine h_getJ rfl o0 (fJ_of (show ztau 1 = some 2 from rfl) fjt_2_7) (fun j23 => ?_)
          obtain ⟨z24, hf24, hz24⟩ := s_sNamed (kn := kn) o0.1 (show ztau 14 = some 5 from rfl) j23
          refine h_V2 rfl o0 l20 (cI_of (show ztau 14 = some 5 from rfl) cit_5) rfl rfl hf24 ?_
          refine h_goto rfl ?_
          refine h_istore rfl l20 (fun vl25 l25 => ?_)
          refine h_iload rfl l25 rfl ?_
          refine j_eq (kn := kn) (t := 0) (tgt := 75) (np := 64) rfl (by unfold R32; omega) (fun e26 => ?_) (fun e26 => ?_)
          · omega
          · refine h_aload rfl l25 rfl ?_
            refine h_aload rfl l25 rfl ?_
            refine h_getJ rfl o0 (fJ_of (show ztau 1 = some 2 from rfl) fjt_2_7) (fun j27 => ?_)
            obtain ⟨z28, hf28, hz28⟩ := s_lNamed (kn := kn) o0.1 (show ztau 14 = some 5 from rfl) j27
            refine h_V2 rfl o0 l25 (cI_of (show ztau 14 = some 5 from rfl) cit_5) rfl rfl hf28 ?_
            refine h_goto rfl ?_
            refine h_istore rfl l25 (fun vl29 l29 => ?_)
            refine h_iload rfl l29 rfl ?_
            refine j_eq (kn := kn) (t := 0) (tgt := 100) (np := 82) rfl (by unfold R32; omega) (fun e30 => ?_) (fun e30 => ?_)
            · omega
            · refine h_iload rfl l29 rfl ?_
              refine h_intv k_n1 rfl ?_
              refine i_ne (kn := kn) (t := 1) (tgt := 100) (np := 88) rfl (by unfold R32; omega) (by unfold R32; omega) (fun e31 => ?_) (fun e31 => ?_)
              · exact rl_100 (by omega) m0 (by omega) o0 l29
              · refine h_iload rfl l29 rfl ?_
                refine h_intv k_n1 rfl ?_
                refine i_ne (kn := kn) (t := 1) (tgt := 100) (np := 94) rfl (by unfold R32; omega) (by unfold R32; omega) (fun e32 => ?_) (fun e32 => ?_)
                · exact rl_100 (by omega) m0 (by omega) o0 l29
                · refine h_aload rfl l29 rfl ?_
                  refine h_intv k_3 rfl ?_
                  obtain ⟨wR, zR, hf33, oR', hzR⟩ := s_refuse9 (kn := kn) o0.1 3 ⟨by omega, by omega⟩
                  have oR : hO dH_bl w0 wR := hO_tr o0 (hO_mono dH_bl1 oR')
                  have mR := (bl_fr o0.1 oR' (by decide +kernel) (by decide +kernel) (by decide +kernel) m0).1
                  refine h_V2 rfl o0 l29 (cI_of (show ztau 1 = some 2 from rfl) cit_2) rfl rfl hf33 ?_
                  refine h_zret (by omega) rfl ?_
                  exact ⟨_, _, rfl, oR, by omega, mR.1, mR.2, fun z => by omega⟩
      · omega
  obtain ⟨r, h1, w2, b, h2, h3⟩ := h_meth1 (nL := 6) rfl K
  rw [h2] at h1
  exact ⟨w2, b, h1, h3⟩
def dH_br : List (Nat × Nat) := (28, 4) :: (dH_bl ++ dX9_begin ++ dX9_takeSign ++ dX9_takeEnd)
theorem dH_br1 : msub dH_bl dH_br = true := by decide +kernel
theorem dH_br2 : msub dX9_begin dH_br = true := by decide +kernel
theorem dH_br3 : msub dX9_takeSign dH_br = true := by decide +kernel
theorem dH_br4 : msub dX9_takeEnd dH_br = true := by decide +kernel
def bkI (w : sW) : Prop := gF w 43 4 ≤ 40 ∧ ∀ i : Nat, (i : Int) < gF w 43 4 → bkG w i
theorem bkI_fr {D : List (Nat × Nat)} {w w' : sW} (hw : wOk ZZ w) (h : hO D w w') (h1 : mIn D 28 4 = false) (h2 : mIn D 29 999 = false) (h3 : mIn D 30 999 = false) (m : bkI w) : bkI w' := by
  have e1 := fun j => fr_gX (t := 29) (c := 44) h.2 rfl h2 hw (by decide +kernel) j
  have e2 := fun j => fr_gX (t := 30) (c := 45) h.2 rfl h3 hw (by decide +kernel) j
  have e3 := fr_gF (t := 28) (c := 43) h.2 rfl h1 hw (by decide +kernel)
  unfold bkI
  rw [e3]
  exact ⟨m.1, fun i hi => bkG_eq (e1 i) (e2 i) (m.2 i hi)⟩
theorem bkI_s {w0 w w' : sW} {n : Nat} (hn : gF w0 43 4 = (n : Int)) (m : bkI w0) (q : blQ w0 n 1 w) (h1 : gF w' 43 4 = (n : Int) + 1) (h2 : ∀ j, gX w' 44 j = gX w 44 j) (h3 : ∀ j, gX w' 45 j = gX w 45 j) : bkI w' := by
  obtain ⟨_, q1, q2, q3⟩ := q
  obtain ⟨q4, q5⟩ := q3 rfl
  refine ⟨by omega, fun i hi => ?_⟩
  rw [h1] at hi
  by_cases e : i = n
  · subst e
    exact bkG_eq (h2 i) (h3 i) q5
  · obtain ⟨a, b⟩ := q2 i e
    exact bkG_eq ((h2 i).trans a) ((h3 i).trans b) (m.2 i (by omega))
theorem br_l {kn : sKn} {w0 : sW} : ∀ (m n : Nat) (w : sW) (lv : List (Nat × Value)), n + m = 41 → gF w 43 4 = (n : Int) → bkI w → hO dH_br w0 w → hL lv [(0, .ref 43), (1, .ref 1), (2, .ref 14)] → Tp (tX1_read kn) (fun r => ∃ (w' : sW) (b : Int), r = (some (hI b), w', 0, 0) ∧ hO dH_br w0 w' ∧ (b = 0 ∨ b = 1) ∧ (b = 1 → bkI w')) 12 (lv, [], w, 0, 0) := by
  intro m
  induction m with
  | zero =>
    intro n w lv hm hn hI o0 l0
    refine h_aload rfl l0 rfl ?_
    refine h_getI rfl o0 (fI_of (show ztau 43 = some 28 from rfl) fit_28_4) (fun b1a b1b => ?_)
    rw [hn] at b1a b1b ⊢
    refine h_intv k_40 rfl ?_
    refine i_gt (kn := kn) (t := 4) (tgt := 61) (np := 21) rfl (by unfold R32; omega) (by unfold R32; omega) (fun e2 => ?_) (fun e2 => ?_)
    · refine h_aload rfl l0 rfl ?_
      obtain ⟨wE, zE, hf3, oE', hzE⟩ := s_takeEnd9 (kn := kn) o0.1
      have oE : hO dH_br w0 wE := hO_tr o0 (hO_mono dH_br4 oE')
      refine h_V1 rfl o0 l0 (cI_of (show ztau 1 = some 2 from rfl) cit_2) rfl rfl hf3 ?_
      refine h_zret (by omega) rfl ?_
      exact ⟨_, _, rfl, oE, by omega, fun _ => bkI_fr o0.1 oE' (by decide +kernel) (by decide +kernel) (by decide +kernel) hI⟩
    · omega
  | succ m ih =>
    intro n w lv hm hn hI o0 l0
    refine h_aload rfl l0 rfl ?_
    refine h_getI rfl o0 (fI_of (show ztau 43 = some 28 from rfl) fit_28_4) (fun b1a b1b => ?_)
    rw [hn] at b1a b1b ⊢
    refine h_intv k_40 rfl ?_
    refine i_gt (kn := kn) (t := 4) (tgt := 61) (np := 21) rfl (by unfold R32; omega) (by unfold R32; omega) (fun e2 => ?_) (fun e2 => ?_)
    · refine h_aload rfl l0 rfl ?_
      obtain ⟨wE, zE, hf3, oE', hzE⟩ := s_takeEnd9 (kn := kn) o0.1
      have oE : hO dH_br w0 wE := hO_tr o0 (hO_mono dH_br4 oE')
      refine h_V1 rfl o0 l0 (cI_of (show ztau 1 = some 2 from rfl) cit_2) rfl rfl hf3 ?_
      refine h_zret (by omega) rfl ?_
      exact ⟨_, _, rfl, oE, by omega, fun _ => bkI_fr o0.1 oE' (by decide +kernel) (by decide +kernel) (by decide +kernel) hI⟩
    · refine h_aload rfl l0 rfl ?_
      refine h_getI rfl o0 (fI_of (show ztau 1 = some 2 from rfl) fit_2_4) (fun b4a b4b => ?_)
      refine j_eq (kn := kn) (t := 0) (tgt := 61) (np := 28) rfl (by unfold R32; omega) (fun e5 => ?_) (fun e5 => ?_)
      · refine h_aload rfl l0 rfl ?_
        obtain ⟨wE, zE, hf6, oE', hzE⟩ := s_takeEnd9 (kn := kn) o0.1
        have oE : hO dH_br w0 wE := hO_tr o0 (hO_mono dH_br4 oE')
        refine h_V1 rfl o0 l0 (cI_of (show ztau 1 = some 2 from rfl) cit_2) rfl rfl hf6 ?_
        refine h_zret (by omega) rfl ?_
        exact ⟨_, _, rfl, oE, by omega, fun _ => bkI_fr o0.1 oE' (by decide +kernel) (by decide +kernel) (by decide +kernel) hI⟩
      · refine h_aload rfl l0 rfl ?_
        refine h_aload rfl l0 rfl ?_
        refine h_aload rfl l0 rfl ?_
        obtain ⟨wA, zA, hf7, oA', qA⟩ := s_readLine1 (kn := kn) o0.1 n hn
        have hzA := qA.1
        have oA : hO dH_br w0 wA := hO_tr o0 (hO_mono dH_br1 oA')
        refine h_V3 rfl o0 l0 (cI_of (show ztau 43 = some 28 from rfl) cit_28) rfl rfl hf7 ?_
        refine j_eq (kn := kn) (t := 0) (tgt := 46) (np := 37) rfl (by unfold R32; omega) (fun e8 => ?_) (fun e8 => ?_)
        · refine h_intv k_0 rfl ?_
          refine h_zret (by omega) rfl ?_
          exact ⟨_, _, rfl, oA, Or.inl rfl, fun z => by omega⟩
        · refine h_aload rfl l0 rfl ?_
          refine h_intv k_59 rfl ?_
          obtain ⟨wB, zB, hf9, oB', hzB⟩ := s_takeSign9 (kn := kn) oA.1 59 ⟨by omega, by omega⟩
          have oB : hO dH_br w0 wB := hO_tr oA (hO_mono dH_br3 oB')
          have eB : gF wB 43 4 = (n : Int) := by rw [fr_gF (t := 28) (c := 43) oB'.2 rfl (by decide +kernel) oA.1 (by decide +kernel)]; exact qA.2.1
          refine h_V2 rfl oA l0 (cI_of (show ztau 1 = some 2 from rfl) cit_2) rfl rfl hf9 ?_
          refine j_ne (kn := kn) (t := 1) (tgt := 48) (np := 46) rfl (by unfold R32; omega) (fun e10 => ?_) (fun e10 => ?_)
          · refine h_aload rfl l0 rfl ?_
            refine h_dup rfl rfl ?_
            refine h_getI rfl oB (fI_of (show ztau 43 = some 28 from rfl) fit_28_4) (fun b11a b11b => ?_)
            rw [eB] at b11a b11b ⊢
            refine h_intv k_1 rfl ?_
            refine h_iadd rfl ?_
            refine h_putI rfl oB (fI_of (show ztau 43 = some 28 from rfl) fit_28_4) rfl (by have := qA.2.2.2 (by omega); omega) (by have := qA.2.2.2 (by omega); omega) (fun w12 o12 q13a q13b q13c => ?_)
            refine h_goto rfl ?_
            have e1 : zA = 1 := by omega
            rw [e1] at qA
            exact ih (n + 1) _ _ (by omega) (by rw [q13a]; omega) (bkI_s hn hI qA q13a (fun j => by rw [q13c]; exact fr_gX (t := 29) (c := 44) oB'.2 rfl (by decide +kernel) oA.1 (by decide +kernel) j) (fun j => by rw [q13c]; exact fr_gX (t := 30) (c := 45) oB'.2 rfl (by decide +kernel) oA.1 (by decide +kernel) j)) o12 l0
          · refine h_intv k_0 rfl ?_
            refine h_zret (by omega) rfl ?_
            exact ⟨_, _, rfl, oB, Or.inl rfl, fun z => by omega⟩
theorem s_read1 {kn : sKn} {w0 : sW} (hw : wOk ZZ w0) : ∃ (w' : sW) (b : Int), fX1_read kn [.ref 43, .ref 1, .ref 14] w0 = some (some (hI b), w', 0, 0) ∧ hO dH_br w0 w' ∧ (b = 0 ∨ b = 1) ∧ (b = 1 → bkI w') := by
  have K : Tp (tX1_read kn) (fun r => ∃ (w' : sW) (b : Int), r = (some (hI b), w', 0, 0) ∧ hO dH_br w0 w' ∧ (b = 0 ∨ b = 1) ∧ (b = 1 → bkI w')) 0 (lv_args 0 [.ref 43, .ref 1, .ref 14], [], w0, 0, 0) := by
    have l0 : hL (lv_args 0 [.ref 43, .ref 1, .ref 14]) (lv_args 0 [.ref 43, .ref 1, .ref 14]) := ⟨fun _ _ h => h, fun q hq => by
      rcases List.mem_cons.mp hq with e | hq
      · rw [e]
        exact ⟨rfl, rfl⟩
      rcases List.mem_cons.mp hq with e | hq
      · rw [e]
        exact ⟨rfl, rfl⟩
      rcases List.mem_cons.mp hq with e | hq
      · rw [e]
        exact ⟨rfl, rfl⟩
      cases hq⟩
    have o0 : hO dH_br w0 w0 := hO_rf hw
    refine h_aload rfl l0 rfl ?_
    refine h_intv k_400 rfl ?_
    obtain ⟨wA, hf1, oA'⟩ := s_begin400 (kn := kn) o0.1 400 ⟨by omega, by omega⟩
    have oA : hO dH_br w0 wA := hO_tr o0 (hO_mono dH_br2 oA')
    refine h_W2 rfl o0 l0 (cI_of (show ztau 1 = some 2 from rfl) cit_2) rfl rfl hf1 ?_
    refine h_aload rfl l0 rfl ?_
    refine h_intv k_0 rfl ?_
    refine h_putI rfl oA (fI_of (show ztau 43 = some 28 from rfl) fit_28_4) rfl (by omega) (by omega) (fun w2 o2 q3a q3b q3c => ?_)
    exact br_l 41 0 _ _ rfl q3a ⟨by rw [q3a]; omega, fun i hi => by rw [q3a] at hi; omega⟩ o2 l0
  obtain ⟨r, h1, w2, b, h2, h3⟩ := h_meth1 (nL := 3) rfl K
  rw [h2] at h1
  exact ⟨w2, b, h1, h3⟩
theorem s_put8 {kn : sKn} {w : sW} (hw : wOk ZZ w) {k1 : Nat} (hk1 : ztau k1 = some 15) (x2 : Int) (hx2 : 0 ≤ x2 ∧ x2 ≤ 9) (x3 : Int) (hx3 : 0 ≤ x3 ∧ x3 ≤ 35) : ∃ (w' : sW) (z : Int), fX8_putPlank kn [.ref k1, hI x2, hI x3] w = some (some (hI z), w', 0, 0) ∧ hO dX8_putPlank w w' ∧ (z = 1 ∨ (2 ≤ z ∧ z ≤ 3) ∨ z = 0) := by
  obtain ⟨r, w', h1, h2, q, hq, σ', h3, h4, h5, h6⟩ := con_use (con_X8_putPlank_0 kn) (σ := [0, (k1 : Int), x2, x3]) (av := [.ref k1, hI x2, hI x3]) (w := w) rfl rfl ⟨av_r rfl, av_i rfl ⟨by omega, by omega⟩, av_i rfl ⟨by omega, by omega⟩, trivial⟩ (fun q hq => by cases hq) (gE_c ⟨_, rfl, hx3⟩ (gE_c ⟨_, rfl, hx2⟩ (gE_c ⟨_, rfl, _, rfl, hk1⟩ (gE_n)))) hw (by simp only [xa_eq, List.all_cons, List.all_nil, Bool.and_true, Bool.and_eq_true]; exact ⟨tw hk1, rfl, rfl⟩)
  rcases List.mem_cons.mp hq with rfl | hq
  · obtain ⟨z, z1, z2, z3⟩ := gS_i h4
    rw [z2] at h1
    have z4 := h3 0 0 rfl
    rw [z4] at z1
    cases z1
    refine ⟨w', _, h1, h2, ?_⟩
    omega
  rcases List.mem_cons.mp hq with rfl | hq
  · obtain ⟨z, z1, z2, z3⟩ := gS_i h4
    rw [z2] at h1
    have z5 := gE_at (a := 2) (b := 3) h6 (by first | exact List.mem_cons_self | decide) z1
    refine ⟨w', _, h1, h2, ?_⟩
    omega
  rcases List.mem_singleton.mp hq with rfl
  obtain ⟨z, z1, z2, z3⟩ := gS_i h4
  rw [z2] at h1
  have z4 := h3 0 0 rfl
  rw [z4] at z1
  cases z1
  refine ⟨w', _, h1, h2, ?_⟩
  omega
theorem s_burn8 {kn : sKn} {w : sW} (hw : wOk ZZ w) {k1 : Nat} (hk1 : ztau k1 = some 15) (x2 : Int) (hx2 : 0 ≤ x2 ∧ x2 ≤ 35) : ∃ (w' : sW) (z : Int), fX8_burnPlank kn [.ref k1, hI x2] w = some (some (hI z), w', 0, 0) ∧ hO dX8_burnPlank w w' ∧ (z = 1 ∨ z = 0) := by
  obtain ⟨r, w', h1, h2, q, hq, σ', h3, h4, h5, h6⟩ := con_use (con_X8_burnPlank_0 kn) (σ := [0, (k1 : Int), x2]) (av := [.ref k1, hI x2]) (w := w) rfl rfl ⟨av_r rfl, av_i rfl ⟨by omega, by omega⟩, trivial⟩ (fun q hq => by cases hq) (gE_c ⟨_, rfl, hx2⟩ (gE_c ⟨_, rfl, _, rfl, hk1⟩ (gE_n))) hw (by simp only [xa_eq, List.all_cons, List.all_nil, Bool.and_true, Bool.and_eq_true]; exact ⟨tw hk1, rfl⟩)
  rcases List.mem_cons.mp hq with rfl | hq
  · obtain ⟨z, z1, z2, z3⟩ := gS_i h4
    rw [z2] at h1
    have z4 := h3 0 0 rfl
    rw [z4] at z1
    cases z1
    refine ⟨w', _, h1, h2, ?_⟩
    omega
  rcases List.mem_singleton.mp hq with rfl
  obtain ⟨z, z1, z2, z3⟩ := gS_i h4
  rw [z2] at h1
  have z4 := h3 0 0 rfl
  rw [z4] at z1
  cases z1
  refine ⟨w', _, h1, h2, ?_⟩
  omega
theorem s_break8 {kn : sKn} {w : sW} (hw : wOk ZZ w) {k1 : Nat} (hk1 : ztau k1 = some 15) (x2 : Int) (hx2 : 0 ≤ x2 ∧ x2 ≤ 9) : ∃ (w' : sW) (z : Int), fX8_breakWord kn [.ref k1, hI x2] w = some (some (hI z), w', 0, 0) ∧ hO dX8_breakWord w w' ∧ (z = 1 ∨ z = 0) := by
  obtain ⟨r, w', h1, h2, q, hq, σ', h3, h4, h5, h6⟩ := con_use (con_X8_breakWord_0 kn) (σ := [0, (k1 : Int), x2]) (av := [.ref k1, hI x2]) (w := w) rfl rfl ⟨av_r rfl, av_i rfl ⟨by omega, by omega⟩, trivial⟩ (fun q hq => by cases hq) (gE_c ⟨_, rfl, hx2⟩ (gE_c ⟨_, rfl, _, rfl, hk1⟩ (gE_n))) hw (by simp only [xa_eq, List.all_cons, List.all_nil, Bool.and_true, Bool.and_eq_true]; exact ⟨tw hk1, rfl⟩)
  rcases List.mem_cons.mp hq with rfl | hq
  · obtain ⟨z, z1, z2, z3⟩ := gS_i h4
    rw [z2] at h1
    have z4 := h3 0 0 rfl
    rw [z4] at z1
    cases z1
    refine ⟨w', _, h1, h2, ?_⟩
    omega
  rcases List.mem_singleton.mp hq with rfl
  obtain ⟨z, z1, z2, z3⟩ := gS_i h4
  rw [z2] at h1
  have z4 := h3 0 0 rfl
  rw [z4] at z1
  cases z1
  refine ⟨w', _, h1, h2, ?_⟩
  omega
theorem s_hold8 {kn : sKn} {w : sW} (hw : wOk ZZ w) {k1 : Nat} (hk1 : ztau k1 = some 15) (x2 : Int) (hx2 : 0 ≤ x2 ∧ x2 ≤ 9) : ∃ (w' : sW) (z : Int), fX8_holdWord kn [.ref k1, hI x2] w = some (some (hI z), w', 0, 0) ∧ hO dX8_holdWord w w' ∧ (z = 1 ∨ z = 2 ∨ z = 0) := by
  obtain ⟨r, w', h1, h2, q, hq, σ', h3, h4, h5, h6⟩ := con_use (con_X8_holdWord_0 kn) (σ := [0, (k1 : Int), x2]) (av := [.ref k1, hI x2]) (w := w) rfl rfl ⟨av_r rfl, av_i rfl ⟨by omega, by omega⟩, trivial⟩ (fun q hq => by cases hq) (gE_c ⟨_, rfl, hx2⟩ (gE_c ⟨_, rfl, _, rfl, hk1⟩ (gE_n))) hw (by simp only [xa_eq, List.all_cons, List.all_nil, Bool.and_true, Bool.and_eq_true]; exact ⟨tw hk1, rfl⟩)
  rcases List.mem_cons.mp hq with rfl | hq
  · obtain ⟨z, z1, z2, z3⟩ := gS_i h4
    rw [z2] at h1
    have z4 := h3 0 0 rfl
    rw [z4] at z1
    cases z1
    refine ⟨w', _, h1, h2, ?_⟩
    omega
  rcases List.mem_cons.mp hq with rfl | hq
  · obtain ⟨z, z1, z2, z3⟩ := gS_i h4
    rw [z2] at h1
    have z4 := h3 0 0 rfl
    rw [z4] at z1
    cases z1
    refine ⟨w', _, h1, h2, ?_⟩
    omega
  rcases List.mem_singleton.mp hq with rfl
  obtain ⟨z, z1, z2, z3⟩ := gS_i h4
  rw [z2] at h1
  have z4 := h3 0 0 rfl
  rw [z4] at z1
  cases z1
  refine ⟨w', _, h1, h2, ?_⟩
  omega
theorem s_end8 {kn : sKn} {w : sW} (hw : wOk ZZ w) {k1 : Nat} (hk1 : ztau k1 = some 15) (x2 : Int) (hx2 : 0 ≤ x2 ∧ x2 ≤ 9) : ∃ (w' : sW) (z : Int), fX8_endLife kn [.ref k1, hI x2] w = some (some (hI z), w', 0, 0) ∧ hO dX8_endLife w w' ∧ (z = 1 ∨ z = 0) := by
  obtain ⟨r, w', h1, h2, q, hq, σ', h3, h4, h5, h6⟩ := con_use (con_X8_endLife_0 kn) (σ := [0, (k1 : Int), x2]) (av := [.ref k1, hI x2]) (w := w) rfl rfl ⟨av_r rfl, av_i rfl ⟨by omega, by omega⟩, trivial⟩ (fun q hq => by cases hq) (gE_c ⟨_, rfl, hx2⟩ (gE_c ⟨_, rfl, _, rfl, hk1⟩ (gE_n))) hw (by simp only [xa_eq, List.all_cons, List.all_nil, Bool.and_true, Bool.and_eq_true]; exact ⟨tw hk1, rfl⟩)
  rcases List.mem_cons.mp hq with rfl | hq
  · obtain ⟨z, z1, z2, z3⟩ := gS_i h4
    rw [z2] at h1
    have z4 := h3 0 0 rfl
    rw [z4] at z1
    cases z1
    refine ⟨w', _, h1, h2, ?_⟩
    omega
  rcases List.mem_singleton.mp hq with rfl
  obtain ⟨z, z1, z2, z3⟩ := gS_i h4
  rw [z2] at h1
  have z4 := h3 0 0 rfl
  rw [z4] at z1
  cases z1
  refine ⟨w', _, h1, h2, ?_⟩
  omega
theorem s_pass8 {kn : sKn} {w : sW} (hw : wOk ZZ w) {k1 : Nat} (hk1 : ztau k1 = some 15) {k2 : Nat} (hk2 : ztau k2 = some 5) (x3 : Int) (hx3 : (-2147483648) ≤ x3 ∧ x3 ≤ 2147483647) : ∃ (w' : sW) (z : Int), fX8_passDays kn [.ref k1, .ref k2, hI x3] w = some (some (hI z), w', 0, 0) ∧ hO dX8_passDays w w' ∧ ((0 ≤ z ∧ z ≤ 2147483647)) := by
  obtain ⟨r, w', h1, h2, q, hq, σ', h3, h4, h5, h6⟩ := con_use (con_X8_passDays_0 kn) (σ := [0, (k1 : Int), (k2 : Int), x3]) (av := [.ref k1, .ref k2, hI x3]) (w := w) rfl rfl ⟨av_r rfl, av_r rfl, av_i rfl ⟨by omega, by omega⟩, trivial⟩ (fun q hq => by cases hq) (gE_c ⟨_, rfl, hx3⟩ (gE_c ⟨_, rfl, _, rfl, hk2⟩ (gE_c ⟨_, rfl, _, rfl, hk1⟩ (gE_n)))) hw (by simp only [xa_eq, List.all_cons, List.all_nil, Bool.and_true, Bool.and_eq_true]; exact ⟨tw hk1, tw hk2, rfl⟩)
  rcases List.mem_singleton.mp hq with rfl
  obtain ⟨z, z1, z2, z3⟩ := gS_i h4
  rw [z2] at h1
  have z5 := gE_at (a := 0) (b := 2147483647) h6 (by first | exact List.mem_cons_self | decide) z1
  refine ⟨w', _, h1, h2, ?_⟩
  omega
theorem s_tryC {kn : sKn} {w : sW} (hw : wOk ZZ w) {k1 : Nat} (hk1 : ztau k1 = some 5) {k2 : Nat} (hk2 : ztau k2 = some 15) (x3 : Int) (hx3 : 0 ≤ x3 ∧ x3 ≤ 5) : ∃ (w' : sW) (z : Int), fX10_tryCrossing kn [.ref 49, .ref k1, .ref k2, hI x3] w = some (some (hI z), w', 0, 0) ∧ hO dX10_tryCrossing w w' ∧ (z = 1 ∨ z = 0 ∨ z = 2) := by
  obtain ⟨r, w', h1, h2, q, hq, σ', h3, h4, h5, h6⟩ := con_use (con_X10_tryCrossing_0 kn) (σ := [0, (k1 : Int), (k2 : Int), x3]) (av := [.ref 49, .ref k1, .ref k2, hI x3]) (w := w) rfl rfl ⟨av_c (k := 49) rfl, av_r rfl, av_r rfl, av_i rfl ⟨by omega, by omega⟩, trivial⟩ (fun q hq => by cases hq) (gE_c ⟨_, rfl, hx3⟩ (gE_c ⟨_, rfl, _, rfl, hk2⟩ (gE_c ⟨_, rfl, _, rfl, hk1⟩ (gE_n)))) hw (by simp only [xa_eq, List.all_cons, List.all_nil, Bool.and_true, Bool.and_eq_true]; exact ⟨rfl, tw hk1, tw hk2, rfl⟩)
  rcases List.mem_cons.mp hq with rfl | hq
  · obtain ⟨z, z1, z2, z3⟩ := gS_i h4
    rw [z2] at h1
    have z4 := h3 0 0 rfl
    rw [z4] at z1
    cases z1
    refine ⟨w', _, h1, h2, ?_⟩
    omega
  rcases List.mem_cons.mp hq with rfl | hq
  · obtain ⟨z, z1, z2, z3⟩ := gS_i h4
    rw [z2] at h1
    have z4 := h3 0 0 rfl
    rw [z4] at z1
    cases z1
    refine ⟨w', _, h1, h2, ?_⟩
    omega
  rcases List.mem_singleton.mp hq with rfl
  obtain ⟨z, z1, z2, z3⟩ := gS_i h4
  rw [z2] at h1
  have z4 := h3 0 0 rfl
  rw [z4] at z1
  cases z1
  refine ⟨w', _, h1, h2, ?_⟩
  omega
theorem s_behind_ {kn : sKn} {w : sW} (hw : wOk ZZ w) (x1 : Int) (hx1 : (-2147483648) ≤ x1 ∧ x1 ≤ 2147483647) (x2 : Int) (hx2 : (-2147483648) ≤ x2 ∧ x2 ≤ 2147483647) : ∃ (w' : sW) (z : Int), fX1_behind kn [hI x1, hI x2] w = some (some (hI z), w', 0, 0) ∧ hO dX1_behind w w' ∧ ((z = 0 ∧ 0 ≤ x2 ∧ x2 ≤ 0) ∨ R32 z) := by
  obtain ⟨r, w', h1, h2, q, hq, σ', h3, h4, h5, h6⟩ := con_use (con_X1_behind_0 kn) (σ := [0, x1, x2]) (av := [hI x1, hI x2]) (w := w) rfl rfl ⟨av_i rfl ⟨by omega, by omega⟩, av_i rfl ⟨by omega, by omega⟩, trivial⟩ (fun q hq => by cases hq) (gE_c ⟨_, rfl, hx2⟩ (gE_c ⟨_, rfl, hx1⟩ (gE_n))) hw rfl
  rcases List.mem_cons.mp hq with rfl | hq
  · obtain ⟨z, z1, z2, z3⟩ := gS_i h4
    rw [z2] at h1
    have z4 := h3 0 0 rfl
    rw [z4] at z1
    cases z1
    have y2 := gE_at (a := 0) (b := 0) h6 (by first | exact List.mem_cons_self | decide) (h3 2 _ rfl)
    refine ⟨w', _, h1, h2, ?_⟩
    exact (Or.inl (by omega))
  rcases List.mem_singleton.mp hq with rfl
  obtain ⟨z, z1, z2, z3⟩ := gS_i h4
  rw [z2] at h1
  have z5 := gE_at (a := (-2147483648)) (b := 2147483647) h6 (by first | exact List.mem_cons_self | decide) z1
  refine ⟨w', _, h1, h2, ?_⟩
  exact (Or.inr (z3))
theorem s_behind {kn : sKn} {w : sW} (hw : wOk ZZ w) (x1 : Int) (hx1 : (-2147483648) ≤ x1 ∧ x1 ≤ 2147483647) (x2 : Int) (hx2 : (-2147483648) ≤ x2 ∧ x2 ≤ 2147483647) : ∃ z : Int, fX1_behind kn [hI x1, hI x2] w = some (some (hI z), w, 0, 0) ∧ ((z = 0 ∧ 0 ≤ x2 ∧ x2 ≤ 0) ∨ R32 z) := by
  obtain ⟨w', z, h1, h2, h3⟩ := s_behind_ (kn := kn) hw x1 hx1 x2 hx2
  have e : w' = w := fr_nil hw h2.1 h2.2
  subst e
  exact ⟨z, h1, h3⟩
def dH_lv : List (Nat × Nat) := dX8_putPlank ++ dX8_burnPlank ++ dX8_breakWord ++ dX8_holdWord ++ dX8_endLife ++ dX8_passDays ++ dX10_tryCrossing
theorem dH_lv0 : msub dX8_putPlank dH_lv = true := by decide +kernel
theorem dH_lv1 : msub dX8_burnPlank dH_lv = true := by decide +kernel
theorem dH_lv2 : msub dX8_breakWord dH_lv = true := by decide +kernel
theorem dH_lv3 : msub dX8_holdWord dH_lv = true := by decide +kernel
theorem dH_lv4 : msub dX8_endLife dH_lv = true := by decide +kernel
theorem dH_lv5 : msub dX8_passDays dH_lv = true := by decide +kernel
theorem dH_lv6 : msub dX10_tryCrossing dH_lv = true := by decide +kernel
theorem s_liveLine {kn : sKn} {w0 : sW} (hw : wOk ZZ w0) (k : Nat) (hk : k ≤ 39) (hg : bkG w0 k) : ∃ (w' : sW) (b : Int), fX1_liveLine kn [.ref 43, .ref 14, .ref 24, .ref 49, hI k] w0 = some (some (hI b), w', 0, 0) ∧ hO dH_lv w0 w' ∧ R32 b := by
  unfold bkG at hg
  have K : Tp (tX1_liveLine kn) (fun r => ∃ (w' : sW) (b : Int), r = (some (hI b), w', 0, 0) ∧ hO dH_lv w0 w' ∧ R32 b) 0 (lv_args 0 [.ref 43, .ref 14, .ref 24, .ref 49, hI k], [], w0, 0, 0) := by
    have l0 : hL (lv_args 0 [.ref 43, .ref 14, .ref 24, .ref 49, hI k]) (lv_args 0 [.ref 43, .ref 14, .ref 24, .ref 49, hI k]) := ⟨fun _ _ h => h, fun q hq => by
      rcases List.mem_cons.mp hq with e | hq
      · rw [e]
        exact ⟨rfl, rfl⟩
      rcases List.mem_cons.mp hq with e | hq
      · rw [e]
        exact ⟨rfl, rfl⟩
      rcases List.mem_cons.mp hq with e | hq
      · rw [e]
        exact ⟨rfl, rfl⟩
      rcases List.mem_cons.mp hq with e | hq
      · rw [e]
        exact ⟨rfl, rfl⟩
      rcases List.mem_cons.mp hq with e | hq
      · rw [e]
        exact ⟨rfl, rfl⟩
      cases hq⟩
    have o0 : hO dH_lv w0 w0 := hO_rf hw
    refine h_aload rfl l0 rfl ?_
    refine h_getR rfl o0 frc_43_2 ?_
    refine h_iload rfl l0 rfl ?_
    refine h_ialdj (k) rfl o0 (aI_of (show ztau 46 = some 31 from rfl) ait_31) rfl (by omega) (by omega) (fun b1a b1b => ?_)
    have b1c := gX_in o0 (aI_of (show ztau 46 = some 31 from rfl) ait_31) (aR_of (show ztau 46 = some 31 from rfl) art_31) (j := k) (by omega) (by omega) (by omega)
    obtain ⟨rw, hrw⟩ : ∃ n : Nat, gX w0 46 k = (n : Int) := ⟨(gX w0 46 k).toNat, by omega⟩
    rw [hrw] at b1a b1b b1c ⊢
    refine h_istore rfl l0 (fun vl2 l2 => ?_)
    refine h_intv k_3 rfl ?_
    refine h_iload rfl l2 rfl ?_
    refine h_imul rfl ?_
    refine h_aload rfl l2 rfl ?_
    refine h_getR rfl o0 frc_43_3 ?_
    refine h_iload rfl l2 rfl ?_
    refine h_ialdj (k) rfl o0 (aI_of (show ztau 47 = some 32 from rfl) ait_32) rfl (by omega) (by omega) (fun b3a b3b => ?_)
    have b3c := gX_in o0 (aI_of (show ztau 47 = some 32 from rfl) ait_32) (aR_of (show ztau 47 = some 32 from rfl) art_32) (j := k) (by omega) (by omega) (by omega)
    obtain ⟨sc, hsc⟩ : ∃ n : Nat, gX w0 47 k = (n : Int) := ⟨(gX w0 47 k).toNat, by omega⟩
    rw [hsc] at b3a b3b b3c ⊢
    refine h_iadd rfl ?_
    refine h_istore rfl l2 (fun vl4 l4 => ?_)
    refine h_aload rfl l4 rfl ?_
    refine h_getR rfl o0 frc_43_0 ?_
    refine h_iload rfl l4 rfl ?_
    refine h_ialdj (k) rfl o0 (aI_of (show ztau 44 = some 29 from rfl) ait_29) rfl (by omega) (by omega) (fun b5a b5b => ?_)
    have g1 := hg.1
    have g2 := hg.2
    by_cases e6_0 : (gX w0 44 (k)) = 8
    · refine h_tab 8 e6_0 (by unfold R32; omega) rfl (by omega) (by omega) rfl ?_
      refine h_iload rfl l4 rfl ?_
      refine h_aload rfl l4 rfl ?_
      refine h_getI rfl o0 (fI_of (show ztau 14 = some 5 from rfl) fit_5_0) (fun b7a b7b => ?_)
      refine i_lt (kn := kn) (t := 2) (tgt := 82) (np := 77) rfl (by unfold R32; omega) (by unfold R32; omega) (fun e8 => ?_) (fun e8 => ?_)
      · refine h_aload rfl l4 rfl ?_
        refine h_aload rfl l4 rfl ?_
        refine h_getR rfl o0 frc_43_1 ?_
        refine h_iload rfl l4 rfl ?_
        refine h_ialdj (k) rfl o0 (aI_of (show ztau 45 = some 30 from rfl) ait_30) rfl (by omega) (by omega) (fun b9a b9b => ?_)
        have b9c := gX_in o0 (aI_of (show ztau 45 = some 30 from rfl) ait_30) (aR_of (show ztau 45 = some 30 from rfl) art_30) (j := k) (by omega) (by omega) (by omega)
        refine h_iload rfl l4 rfl ?_
        obtain ⟨wA, zA, hf10, oA', hzA⟩ := s_put8 (kn := kn) o0.1 (show ztau 24 = some 15 from rfl) (gX w0 45 (k)) ⟨by omega, by omega⟩ ((3 * rw + sc : Nat) : Int) ⟨by omega, by omega⟩
        have oA : hO dH_lv w0 wA := hO_tr o0 (hO_mono dH_lv0 oA')
        refine h_V3 rfl o0 l4 (cI_of (show ztau 24 = some 15 from rfl) cit_15) rfl rfl hf10 ?_
        refine h_iret rfl ?_
        exact ⟨_, _, rfl, oA, by unfold R32 at *; omega⟩
      · refine h_intv k_9 rfl ?_
        refine h_goto rfl ?_
        refine h_iret rfl ?_
        exact ⟨_, _, rfl, o0, by unfold R32 at *; omega⟩
    by_cases e6_1 : (gX w0 44 (k)) = 9
    · refine h_tab 9 e6_1 (by unfold R32; omega) rfl (by omega) (by omega) rfl ?_
      refine h_intv k_20 rfl ?_
      refine h_aload rfl l4 rfl ?_
      refine h_aload rfl l4 rfl ?_
      refine h_getR rfl o0 frc_43_1 ?_
      refine h_iload rfl l4 rfl ?_
      refine h_ialdj (k) rfl o0 (aI_of (show ztau 45 = some 30 from rfl) ait_30) rfl (by omega) (by omega) (fun b11a b11b => ?_)
      have b11c := gX_in o0 (aI_of (show ztau 45 = some 30 from rfl) ait_30) (aR_of (show ztau 45 = some 30 from rfl) art_30) (j := k) (by omega) (by omega) (by omega)
      obtain ⟨wA, zA, hf12, oA', hzA⟩ := s_break8 (kn := kn) o0.1 (show ztau 24 = some 15 from rfl) (gX w0 45 (k)) ⟨by omega, by omega⟩
      have oA : hO dH_lv w0 wA := hO_tr o0 (hO_mono dH_lv2 oA')
      refine h_V2 rfl o0 l4 (cI_of (show ztau 24 = some 15 from rfl) cit_15) rfl rfl hf12 ?_
      have rA : R32 zA := by unfold R32 at *; omega
      obtain ⟨z13, hf13, hz13⟩ := s_behind (kn := kn) oA.1 20 ⟨by omega, by omega⟩ zA ⟨rA.1, rA.2⟩
      have r13 : R32 z13 := by unfold R32 at *; omega
      refine h_S2 rfl oA l4 rfl rfl hf13 ?_
      refine h_iret rfl ?_
      exact ⟨_, _, rfl, oA, by unfold R32 at *; omega⟩
    by_cases e6_2 : (gX w0 44 (k)) = 10
    · refine h_tab 10 e6_2 (by unfold R32; omega) rfl (by omega) (by omega) rfl ?_
      refine h_intv k_30 rfl ?_
      refine h_aload rfl l4 rfl ?_
      refine h_aload rfl l4 rfl ?_
      refine h_getR rfl o0 frc_43_1 ?_
      refine h_iload rfl l4 rfl ?_
      refine h_ialdj (k) rfl o0 (aI_of (show ztau 45 = some 30 from rfl) ait_30) rfl (by omega) (by omega) (fun b14a b14b => ?_)
      have b14c := gX_in o0 (aI_of (show ztau 45 = some 30 from rfl) ait_30) (aR_of (show ztau 45 = some 30 from rfl) art_30) (j := k) (by omega) (by omega) (by omega)
      obtain ⟨wA, zA, hf15, oA', hzA⟩ := s_hold8 (kn := kn) o0.1 (show ztau 24 = some 15 from rfl) (gX w0 45 (k)) ⟨by omega, by omega⟩
      have oA : hO dH_lv w0 wA := hO_tr o0 (hO_mono dH_lv3 oA')
      refine h_V2 rfl o0 l4 (cI_of (show ztau 24 = some 15 from rfl) cit_15) rfl rfl hf15 ?_
      have rA : R32 zA := by unfold R32 at *; omega
      obtain ⟨z16, hf16, hz16⟩ := s_behind (kn := kn) oA.1 30 ⟨by omega, by omega⟩ zA ⟨rA.1, rA.2⟩
      have r16 : R32 z16 := by unfold R32 at *; omega
      refine h_S2 rfl oA l4 rfl rfl hf16 ?_
      refine h_iret rfl ?_
      exact ⟨_, _, rfl, oA, by unfold R32 at *; omega⟩
    by_cases e6_3 : (gX w0 44 (k)) = 11
    · refine h_tab 11 e6_3 (by unfold R32; omega) rfl (by omega) (by omega) rfl ?_
      refine h_intv k_40 rfl ?_
      refine h_aload rfl l4 rfl ?_
      refine h_aload rfl l4 rfl ?_
      refine h_getR rfl o0 frc_43_1 ?_
      refine h_iload rfl l4 rfl ?_
      refine h_ialdj (k) rfl o0 (aI_of (show ztau 45 = some 30 from rfl) ait_30) rfl (by omega) (by omega) (fun b17a b17b => ?_)
      have b17c := gX_in o0 (aI_of (show ztau 45 = some 30 from rfl) ait_30) (aR_of (show ztau 45 = some 30 from rfl) art_30) (j := k) (by omega) (by omega) (by omega)
      obtain ⟨wA, zA, hf18, oA', hzA⟩ := s_end8 (kn := kn) o0.1 (show ztau 24 = some 15 from rfl) (gX w0 45 (k)) ⟨by omega, by omega⟩
      have oA : hO dH_lv w0 wA := hO_tr o0 (hO_mono dH_lv4 oA')
      refine h_V2 rfl o0 l4 (cI_of (show ztau 24 = some 15 from rfl) cit_15) rfl rfl hf18 ?_
      have rA : R32 zA := by unfold R32 at *; omega
      obtain ⟨z19, hf19, hz19⟩ := s_behind (kn := kn) oA.1 40 ⟨by omega, by omega⟩ zA ⟨rA.1, rA.2⟩
      have r19 : R32 z19 := by unfold R32 at *; omega
      refine h_S2 rfl oA l4 rfl rfl hf19 ?_
      refine h_iret rfl ?_
      exact ⟨_, _, rfl, oA, by unfold R32 at *; omega⟩
    by_cases e6_4 : (gX w0 44 (k)) = 12
    · refine h_tab 12 e6_4 (by unfold R32; omega) rfl (by omega) (by omega) rfl ?_
      refine h_iload rfl l4 rfl ?_
      refine h_aload rfl l4 rfl ?_
      refine h_getI rfl o0 (fI_of (show ztau 14 = some 5 from rfl) fit_5_0) (fun b20a b20b => ?_)
      refine i_lt (kn := kn) (t := 2) (tgt := 110) (np := 105) rfl (by unfold R32; omega) (by unfold R32; omega) (fun e21 => ?_) (fun e21 => ?_)
      · refine h_intv k_10 rfl ?_
        refine h_aload rfl l4 rfl ?_
        refine h_iload rfl l4 rfl ?_
        obtain ⟨wA, zA, hf22, oA', hzA⟩ := s_burn8 (kn := kn) o0.1 (show ztau 24 = some 15 from rfl) ((3 * rw + sc : Nat) : Int) ⟨by omega, by omega⟩
        have oA : hO dH_lv w0 wA := hO_tr o0 (hO_mono dH_lv1 oA')
        refine h_V2 rfl o0 l4 (cI_of (show ztau 24 = some 15 from rfl) cit_15) rfl rfl hf22 ?_
        have rA : R32 zA := by unfold R32 at *; omega
        obtain ⟨z23, hf23, hz23⟩ := s_behind (kn := kn) oA.1 10 ⟨by omega, by omega⟩ zA ⟨rA.1, rA.2⟩
        have r23 : R32 z23 := by unfold R32 at *; omega
        refine h_S2 rfl oA l4 rfl rfl hf23 ?_
        refine h_iret rfl ?_
        exact ⟨_, _, rfl, oA, by unfold R32 at *; omega⟩
      · refine h_intv k_19 rfl ?_
        refine h_goto rfl ?_
        refine h_iret rfl ?_
        exact ⟨_, _, rfl, o0, by unfold R32 at *; omega⟩
    by_cases e6_5 : (gX w0 44 (k)) = 13
    · refine h_tab 13 e6_5 (by unfold R32; omega) rfl (by omega) (by omega) rfl ?_
      refine h_aload rfl l4 rfl ?_
      refine h_aload rfl l4 rfl ?_
      refine h_aload rfl l4 rfl ?_
      refine h_aload rfl l4 rfl ?_
      refine h_getR rfl o0 frc_43_1 ?_
      refine h_iload rfl l4 rfl ?_
      refine h_ialdj (k) rfl o0 (aI_of (show ztau 45 = some 30 from rfl) ait_30) rfl (by omega) (by omega) (fun b24a b24b => ?_)
      have b24c := gX_in o0 (aI_of (show ztau 45 = some 30 from rfl) ait_30) (aR_of (show ztau 45 = some 30 from rfl) art_30) (j := k) (by omega) (by omega) (by omega)
      obtain ⟨wA, zA, hf25, oA', hzA⟩ := s_tryC (kn := kn) o0.1 (show ztau 14 = some 5 from rfl) (show ztau 24 = some 15 from rfl) (gX w0 45 (k)) ⟨by omega, by omega⟩
      have oA : hO dH_lv w0 wA := hO_tr o0 (hO_mono dH_lv6 oA')
      refine h_V4 rfl o0 l4 (cI_of (show ztau 49 = some 34 from rfl) cit_34) rfl rfl hf25 ?_
      refine h_intv k_1 rfl ?_
      refine i_ne (kn := kn) (t := 1) (tgt := 195) (np := 190) rfl (by unfold R32; omega) (by unfold R32; omega) (fun e26 => ?_) (fun e26 => ?_)
      · refine h_intv k_0 rfl ?_
        refine h_iret rfl ?_
        exact ⟨_, _, rfl, oA, by unfold R32 at *; omega⟩
      · refine h_intv k_51 rfl ?_
        refine h_goto rfl ?_
        refine h_iret rfl ?_
        exact ⟨_, _, rfl, oA, by unfold R32 at *; omega⟩
    refine h_tabd rfl (by unfold R32; omega) (by omega) ?_
    refine h_aload rfl l4 rfl ?_
    refine h_getI rfl o0 (fI_of (show ztau 24 = some 15 from rfl) fit_15_0) (fun b27a b27b => ?_)
    refine h_aload rfl l4 rfl ?_
    refine h_getR rfl o0 frc_43_2 ?_
    refine h_iload rfl l4 rfl ?_
    refine h_ialdj (k) rfl o0 (aI_of (show ztau 46 = some 31 from rfl) ait_31) rfl (by omega) (by omega) (fun b28a b28b => ?_)
    refine h_iadd rfl ?_
    refine h_intv k_400 rfl ?_
    refine i_le (kn := kn) (t := 5) (tgt := 218) (np := 215) rfl (by unfold R32; omega) (by unfold R32; omega) (fun e29 => ?_) (fun e29 => ?_)
    · refine h_aload rfl l4 rfl ?_
      refine h_aload rfl l4 rfl ?_
      refine h_aload rfl l4 rfl ?_
      refine h_getR rfl o0 frc_43_2 ?_
      refine h_iload rfl l4 rfl ?_
      refine h_ialdj (k) rfl o0 (aI_of (show ztau 46 = some 31 from rfl) ait_31) rfl (by omega) (by omega) (fun b30a b30b => ?_)
      obtain ⟨wA, zA, hf31, oA', hzA⟩ := s_pass8 (kn := kn) o0.1 (show ztau 24 = some 15 from rfl) (show ztau 14 = some 5 from rfl) (gX w0 46 (k)) ⟨by omega, by omega⟩
      have oA : hO dH_lv w0 wA := hO_tr o0 (hO_mono dH_lv5 oA')
      refine h_V3 rfl o0 l4 (cI_of (show ztau 24 = some 15 from rfl) cit_15) rfl rfl hf31 ?_
      refine h_pop rfl rfl ?_
      refine h_intv k_0 rfl ?_
      refine h_iret rfl ?_
      exact ⟨_, _, rfl, oA, by unfold R32 at *; omega⟩
    · refine h_intv k_61 rfl ?_
      refine h_iret rfl ?_
      exact ⟨_, _, rfl, o0, by unfold R32 at *; omega⟩
  obtain ⟨r, h1, w2, b, h2, h3⟩ := h_meth1 (nL := 7) rfl K
  rw [h2] at h1
  exact ⟨w2, b, h1, h3⟩
def dH_lw : List (Nat × Nat) := (33, 999) :: dH_lv
theorem dH_lw1 : msub dH_lv dH_lw = true := by decide +kernel
theorem lv_e {kn : sKn} {w0 w : sW} {lv : List (Nat × Value)} {k : Nat} {why : Int} (hk : k ≤ 41) (hy : R32 why) (o0 : hO dH_lw w0 w) (l0 : hL lv [(0, .ref 43), (1, .ref 14), (2, .ref 24), (3, .ref 49), (4, hI k), (5, hI why)]) : Tp (tX1_live kn) (fun r => ∃ (w' : sW) (b : Int), r = (some (hI b), w', 0, 0) ∧ hO dH_lw w0 w' ∧ R32 b) 42 (lv, [], w, 0, 0) := by
  have hy1 := hy.1
  have hy2 := hy.2
  refine h_aload rfl l0 rfl ?_
  refine h_getR rfl o0 frc_43_5 ?_
  refine h_intv k_0 rfl ?_
  refine h_iload rfl l0 rfl ?_
  refine h_iastj (0) rfl o0 (aI_of (show ztau 48 = some 33 from rfl) ait_33) rfl rfl (aP_of (show ztau 48 = some 33 from rfl) apt_33) (by omega) (by omega) (by omega) (by omega) (by omega) (by unfold R32; omega) (fun w1 o1 q2a q2b q2c => ?_)
  refine h_aload rfl l0 rfl ?_
  refine h_getR rfl o1 frc_43_5 ?_
  refine h_intv k_1 rfl ?_
  refine h_iload rfl l0 rfl ?_
  refine h_iastj (1) rfl o1 (aI_of (show ztau 48 = some 33 from rfl) ait_33) rfl rfl (aP_of (show ztau 48 = some 33 from rfl) apt_33) (by omega) (by omega) (by omega) (by omega) (by omega) (by unfold R32; omega) (fun w3 o3 q4a q4b q4c => ?_)
  refine h_aload rfl l0 rfl ?_
  refine h_getR rfl o3 frc_43_5 ?_
  refine h_intv k_2 rfl ?_
  refine h_aload rfl l0 rfl ?_
  refine h_getI rfl o3 (fI_of (show ztau 24 = some 15 from rfl) fit_15_0) (fun b5a b5b => ?_)
  refine h_iastj (2) rfl o3 (aI_of (show ztau 48 = some 33 from rfl) ait_33) rfl rfl (aP_of (show ztau 48 = some 33 from rfl) apt_33) (by omega) (by omega) (by omega) (by omega) (by omega) (by unfold R32; omega) (fun w6 o6 q7a q7b q7c => ?_)
  refine h_aload rfl l0 rfl ?_
  refine h_getR rfl o6 frc_43_5 ?_
  refine h_intv k_3 rfl ?_
  refine h_aload rfl l0 rfl ?_
  refine h_getI rfl o6 (fI_of (show ztau 24 = some 15 from rfl) fit_15_2) (fun b8a b8b => ?_)
  refine h_iastj (3) rfl o6 (aI_of (show ztau 48 = some 33 from rfl) ait_33) rfl rfl (aP_of (show ztau 48 = some 33 from rfl) apt_33) (by omega) (by omega) (by omega) (by omega) (by omega) (by unfold R32; omega) (fun w9 o9 q10a q10b q10c => ?_)
  refine h_iload rfl l0 rfl ?_
  refine j_ne (kn := kn) (t := 1) (tgt := 87) (np := 83) rfl (by unfold R32; omega) (fun e11 => ?_) (fun e11 => ?_)
  · refine h_iload rfl l0 rfl ?_
    refine h_iret rfl ?_
    exact ⟨_, _, rfl, o9, by unfold R32; omega⟩
  · refine h_intv k_n1 rfl ?_
    refine h_goto rfl ?_
    refine h_iret rfl ?_
    exact ⟨_, _, rfl, o9, by unfold R32; omega⟩
theorem lv_x {kn : sKn} {w0 w : sW} {lv : List (Nat × Value)} {k : Nat} {why : Int} (hk : k ≤ 41) (h0 : why ≠ 0) (hy : R32 why) (h40 : gF w 43 4 ≤ 40) (o0 : hO dH_lw w0 w) (l0 : hL lv [(0, .ref 43), (1, .ref 14), (2, .ref 24), (3, .ref 49), (4, hI k), (5, hI why)]) : Tp (tX1_live kn) (fun r => ∃ (w' : sW) (b : Int), r = (some (hI b), w', 0, 0) ∧ hO dH_lw w0 w' ∧ R32 b) 6 (lv, [], w, 0, 0) := by
  have hy1 := hy.1
  have hy2 := hy.2
  refine h_iload rfl l0 rfl ?_
  refine h_aload rfl l0 rfl ?_
  refine h_getI rfl o0 (fI_of (show ztau 43 = some 28 from rfl) fit_28_4) (fun b1a b1b => ?_)
  refine i_ge (kn := kn) (t := 3) (tgt := 42) (np := 15) rfl (by unfold R32; omega) (by unfold R32; omega) (fun e2 => ?_) (fun e2 => ?_)
  · exact lv_e (by omega) hy o0 l0
  · refine h_iload rfl l0 rfl ?_
    refine j_ne (kn := kn) (t := 1) (tgt := 42) (np := 20) rfl (by unfold R32; omega) (fun e3 => ?_) (fun e3 => ?_)
    · exact lv_e (by omega) hy o0 l0
    · omega
theorem lv_l {kn : sKn} {w0 : sW} : ∀ (m k : Nat) (w : sW) (lv : List (Nat × Value)) (why y : Int), k + m = 40 → y = (k : Int) → why = 0 → bkI w → hO dH_lw w0 w → hL lv [(0, .ref 43), (1, .ref 14), (2, .ref 24), (3, .ref 49), (4, hI y), (5, hI why)] → Tp (tX1_live kn) (fun r => ∃ (w' : sW) (b : Int), r = (some (hI b), w', 0, 0) ∧ hO dH_lw w0 w' ∧ R32 b) 6 (lv, [], w, 0, 0) := by
  intro m
  induction m with
  | zero =>
    intro k w lv why y hm hy hwhy hI o0 l0
    subst hy
    refine h_iload rfl l0 rfl ?_
    refine h_aload rfl l0 rfl ?_
    refine h_getI rfl o0 (fI_of (show ztau 43 = some 28 from rfl) fit_28_4) (fun b1a b1b => ?_)
    have h40 := hI.1
    refine i_ge (kn := kn) (t := 3) (tgt := 42) (np := 15) rfl (by unfold R32; omega) (by unfold R32; omega) (fun e2 => ?_) (fun e2 => ?_)
    · exact lv_e (by omega) ⟨by omega, by omega⟩ o0 l0
    · omega
  | succ m ih =>
    intro k w lv why y hm hy hwhy hI o0 l0
    subst hy
    refine h_iload rfl l0 rfl ?_
    refine h_aload rfl l0 rfl ?_
    refine h_getI rfl o0 (fI_of (show ztau 43 = some 28 from rfl) fit_28_4) (fun b1a b1b => ?_)
    have h40 := hI.1
    refine i_ge (kn := kn) (t := 3) (tgt := 42) (np := 15) rfl (by unfold R32; omega) (by unfold R32; omega) (fun e2 => ?_) (fun e2 => ?_)
    · exact lv_e (by omega) ⟨by omega, by omega⟩ o0 l0
    · refine h_iload rfl l0 rfl ?_
      refine j_ne (kn := kn) (t := 1) (tgt := 42) (np := 20) rfl (by unfold R32; omega) (fun e3 => ?_) (fun e3 => ?_)
      · exact lv_e (by omega) ⟨by omega, by omega⟩ o0 l0
      · refine h_aload rfl l0 rfl ?_
        refine h_aload rfl l0 rfl ?_
        refine h_aload rfl l0 rfl ?_
        refine h_aload rfl l0 rfl ?_
        refine h_iload rfl l0 rfl ?_
        obtain ⟨wA, zA, hf4, oA', rA⟩ := s_liveLine (kn := kn) o0.1 k (by omega) (hI.2 k (by omega))
        have oA : hO dH_lw w0 wA := hO_tr o0 (hO_mono dH_lw1 oA')
        have rA1 := rA.1
        have rA2 := rA.2
        have iA := bkI_fr o0.1 oA' (by decide +kernel) (by decide +kernel) (by decide +kernel) hI
        refine h_V5 rfl o0 l0 (cI_of (show ztau 43 = some 28 from rfl) cit_28) rfl rfl hf4 ?_
        refine h_istore rfl l0 (fun vl5 l5 => ?_)
        refine h_iload rfl l5 rfl ?_
        refine j_ne (kn := kn) (t := 1) (tgt := 6) (np := 36) rfl (by unfold R32; omega) (fun e6 => ?_) (fun e6 => ?_)
        · exact lv_x (by omega) (by omega) rA iA.1 oA l5
        · refine h_iincv k_1 rfl l5 rfl (fun vl7 l7 => ?_)
          refine h_goto rfl ?_
          exact ih (k + 1) _ _ _ ((k : Int) + 1) (by omega) (by omega) (by omega) iA oA l7
theorem s_live {kn : sKn} {w0 : sW} (hw : wOk ZZ w0) (hJ : bkI w0) : ∃ (w' : sW) (b : Int), fX1_live kn [.ref 43, .ref 14, .ref 24, .ref 49] w0 = some (some (hI b), w', 0, 0) ∧ hO dH_lw w0 w' ∧ R32 b := by
  have K : Tp (tX1_live kn) (fun r => ∃ (w' : sW) (b : Int), r = (some (hI b), w', 0, 0) ∧ hO dH_lw w0 w' ∧ R32 b) 0 (lv_args 0 [.ref 43, .ref 14, .ref 24, .ref 49], [], w0, 0, 0) := by
    have l0 : hL (lv_args 0 [.ref 43, .ref 14, .ref 24, .ref 49]) (lv_args 0 [.ref 43, .ref 14, .ref 24, .ref 49]) := ⟨fun _ _ h => h, fun q hq => by
      rcases List.mem_cons.mp hq with e | hq
      · rw [e]
        exact ⟨rfl, rfl⟩
      rcases List.mem_cons.mp hq with e | hq
      · rw [e]
        exact ⟨rfl, rfl⟩
      rcases List.mem_cons.mp hq with e | hq
      · rw [e]
        exact ⟨rfl, rfl⟩
      rcases List.mem_cons.mp hq with e | hq
      · rw [e]
        exact ⟨rfl, rfl⟩
      cases hq⟩
    have o0 : hO dH_lw w0 w0 := hO_rf hw
    refine h_intv k_0 rfl ?_
    refine h_istore rfl l0 (fun vl1 l1 => ?_)
    refine h_intv k_0 rfl ?_
    refine h_istore rfl l1 (fun vl2 l2 => ?_)
    exact lv_l 40 0 _ _ 0 0 rfl rfl rfl hJ o0 l2
  obtain ⟨r, h1, w2, b, h2, h3⟩ := h_meth1 (nL := 6) rfl K
  rw [h2] at h1
  exact ⟨w2, b, h1, h3⟩
theorem s_remember {kn : sKn} {w : sW} (hw : wOk ZZ w)  : ∃ (w' : sW), fX11_rememberState kn [.ref 0] w = some (none, w', 0, 0) ∧ hO dX11_rememberState w w' := by
  obtain ⟨r, w', h1, h2, q, hq, σ', h3, h4, h5, h6⟩ := con_use (con_X11_rememberState_0 kn) (σ := [0]) (av := [.ref 0]) (w := w) rfl rfl ⟨av_c (k := 0) rfl, trivial⟩ (fun q hq => by cases hq) (gE_n) hw rfl
  rcases List.mem_singleton.mp hq with rfl
  rw [gS_v h4] at h1
  exact ⟨w', h1, h2⟩
theorem s_keepR {kn : sKn} {w : sW} (hw : wOk ZZ w)  : ∃ (w' : sW), fX11_keepRemembered kn [.ref 0] w = some (none, w', 0, 0) ∧ hO dX11_keepRemembered w w' := by
  obtain ⟨r, w', h1, h2, q, hq, σ', h3, h4, h5, h6⟩ := con_use (con_X11_keepRemembered_0 kn) (σ := [0]) (av := [.ref 0]) (w := w) rfl rfl ⟨av_c (k := 0) rfl, trivial⟩ (fun q hq => by cases hq) (gE_n) hw rfl
  rcases List.mem_singleton.mp hq with rfl
  rw [gS_v h4] at h1
  exact ⟨w', h1, h2⟩
theorem s_copy8 {kn : sKn} {w : sW} (hw : wOk ZZ w) {k1 : Nat} (hk1 : ztau k1 = some 15) {k2 : Nat} (hk2 : ztau k2 = some 15) : ∃ (w' : sW), fX8_copyOf kn [.ref k1, .ref k2] w = some (none, w', 0, 0) ∧ hO dX8_copyOf w w' := by
  obtain ⟨r, w', h1, h2, q, hq, σ', h3, h4, h5, h6⟩ := con_use (con_X8_copyOf_0 kn) (σ := [0, (k1 : Int), (k2 : Int)]) (av := [.ref k1, .ref k2]) (w := w) rfl rfl ⟨av_r rfl, av_r rfl, trivial⟩ (fun q hq => by cases hq) (gE_c ⟨_, rfl, _, rfl, hk2⟩ (gE_c ⟨_, rfl, _, rfl, hk1⟩ (gE_n))) hw (by simp only [xa_eq, List.all_cons, List.all_nil, Bool.and_true, Bool.and_eq_true]; exact ⟨tw hk1, tw hk2⟩)
  rcases List.mem_singleton.mp hq with rfl
  rw [gS_v h4] at h1
  exact ⟨w', h1, h2⟩
def dH_bk7 : List (Nat × Nat) := (2, 1) :: (dH_br ++ dH_lw ++ dX11_rememberState ++ dX11_keepRemembered ++ dX8_copyOf)
theorem dH_bk70 : msub dH_br dH_bk7 = true := by decide +kernel
theorem dH_bk71 : msub dH_lw dH_bk7 = true := by decide +kernel
theorem dH_bk72 : msub dX11_rememberState dH_bk7 = true := by decide +kernel
theorem dH_bk73 : msub dX11_keepRemembered dH_bk7 = true := by decide +kernel
theorem dH_bk74 : msub dX8_copyOf dH_bk7 = true := by decide +kernel
theorem s_book7 {kn : sKn} {w0 : sW} (hw : wOk ZZ w0) (x : Int) (hx : R32 x) : ∃ (w' : sW) (b : Int), fX11_book kn [.ref 0, hI x] w0 = some (some (hI b), w', 0, 0) ∧ hO dH_bk7 w0 w' ∧ ((x ≠ 0 ∧ x ≠ 1 → w' = w0) ∧ (x = 0 ∨ x = 1 → gF w' 1 1 = 0)) := by
  have hx1 := hx.1
  have hx2 := hx.2
  have K : Tp (tX11_book kn) (fun r => ∃ (w' : sW) (b : Int), r = (some (hI b), w', 0, 0) ∧ hO dH_bk7 w0 w' ∧ ((x ≠ 0 ∧ x ≠ 1 → w' = w0) ∧ (x = 0 ∨ x = 1 → gF w' 1 1 = 0))) 0 (lv_args 0 [.ref 0, hI x], [], w0, 0, 0) := by
    have l0 : hL (lv_args 0 [.ref 0, hI x]) (lv_args 0 [.ref 0, hI x]) := ⟨fun _ _ h => h, fun q hq => by
      rcases List.mem_cons.mp hq with e | hq
      · rw [e]
        exact ⟨rfl, rfl⟩
      rcases List.mem_cons.mp hq with e | hq
      · rw [e]
        exact ⟨rfl, rfl⟩
      cases hq⟩
    have o0 : hO dH_bk7 w0 w0 := hO_rf hw
    refine h_iload rfl l0 rfl ?_
    refine j_eq (kn := kn) (t := 0) (tgt := 13) (np := 4) rfl (by unfold R32; omega) (fun e1 => ?_) (fun e1 => ?_)
    · refine h_aload rfl l0 rfl ?_
      refine h_getR rfl o0 frc_0_6 ?_
      refine h_aload rfl l0 rfl ?_
      refine h_getR rfl o0 frc_0_0 ?_
      refine h_aload rfl l0 rfl ?_
      refine h_getR rfl o0 frc_0_2 ?_
      obtain ⟨wA, zA, hf2, oA', hzA, hI⟩ := s_read1 (kn := kn) o0.1
      have oA : hO dH_bk7 w0 wA := hO_tr o0 (hO_mono dH_bk70 oA')
      refine h_V3 rfl o0 l0 (cI_of (show ztau 43 = some 28 from rfl) cit_28) rfl rfl hf2 ?_
      refine h_istore rfl l0 (fun vl3 l3 => ?_)
      refine h_aload rfl l3 rfl ?_
      refine h_getR rfl oA frc_0_0 ?_
      refine h_intv k_0 rfl ?_
      refine h_putI rfl oA (fI_of (show ztau 1 = some 2 from rfl) fit_2_1) rfl (by omega) (by omega) (fun w4 o4 q5a q5b q5c => ?_)
      refine h_iload rfl l3 rfl ?_
      refine j_ne (kn := kn) (t := 1) (tgt := 52) (np := 41) rfl (by unfold R32; omega) (fun e6 => ?_) (fun e6 => ?_)
      · refine h_aload rfl l3 rfl ?_
        obtain ⟨wB, hf7, oB'⟩ := s_remember (kn := kn) o4.1
        have oB : hO dH_bk7 w0 wB := hO_tr o4 (hO_mono dH_bk72 oB')
        have iS := hI (by omega)
        have iA : bkI w4 := ⟨by rw [q5b 43 4 (fun z => absurd z (by decide))]; exact iS.1, fun i hi => by rw [q5b 43 4 (fun z => absurd z (by decide))] at hi; exact bkG_eq (q5c 44 i) (q5c 45 i) (iS.2 i hi)⟩
        have iB := bkI_fr o4.1 oB' (by decide +kernel) (by decide +kernel) (by decide +kernel) iA
        have fB : gF wB 1 1 = 0 := by rw [fr_gF (t := 2) (c := 1) oB'.2 rfl (by decide +kernel) o4.1 (by decide +kernel)]; exact q5a
        refine h_W1 rfl o4 l3 (cI_of (show ztau 0 = some 1 from rfl) cit_1) rfl rfl hf7 ?_
        refine h_aload rfl l3 rfl ?_
        refine h_getR rfl oB frc_0_6 ?_
        refine h_aload rfl l3 rfl ?_
        refine h_getR rfl oB frc_0_2 ?_
        refine h_aload rfl l3 rfl ?_
        refine h_getR rfl oB frc_0_3 ?_
        refine h_aload rfl l3 rfl ?_
        refine h_getR rfl oB frc_0_7 ?_
        obtain ⟨wC, zC, hf8, oC', rC⟩ := s_live (kn := kn) oB.1 iB
        have oC : hO dH_bk7 w0 wC := hO_tr oB (hO_mono dH_bk71 oC')
        have fC : gF wC 1 1 = 0 := by rw [fr_gF (t := 2) (c := 1) oC'.2 rfl (by decide +kernel) oB.1 (by decide +kernel)]; exact fB
        refine h_V4 rfl oB l3 (cI_of (show ztau 43 = some 28 from rfl) cit_28) rfl rfl hf8 ?_
        refine h_istore rfl l3 (fun vl9 l9 => ?_)
        refine h_iload rfl l9 rfl ?_
        refine h_intv k_1 rfl ?_
        refine i_ne (kn := kn) (t := 1) (tgt := 88) (np := 81) rfl (by unfold R32; omega) (by unfold R32; omega) (fun e10 => ?_) (fun e10 => ?_)
        · refine h_aload rfl l9 rfl ?_
          refine h_getR rfl oC frc_0_3 ?_
          refine h_aload rfl l9 rfl ?_
          refine h_getR rfl oC frc_0_13 ?_
          refine h_aload rfl l9 rfl ?_
          refine h_getI rfl oC (fI_of (show ztau 0 = some 1 from rfl) fit_1_14) (fun b11a b11b => ?_)
          obtain ⟨pn, hpn⟩ : ∃ n : Nat, gF wC 0 14 = (n : Int) := ⟨(gF wC 0 14).toNat, by omega⟩
          rw [hpn] at b11a b11b ⊢
          refine h_aaldT (pn) rfl oC (show ztau 99 = some 56 from rfl) aat_56 (by omega) (by omega) (fun k12 hk12 => ?_)
          obtain ⟨wD, hf13, oD'⟩ := s_copy8 (kn := kn) oC.1 (show ztau 24 = some 15 from rfl) hk12
          have oD : hO dH_bk7 w0 wD := hO_tr oC (hO_mono dH_bk74 oD')
          have fD : gF wD 1 1 = 0 := by rw [fr_gF (t := 2) (c := 1) oD'.2 rfl (by decide +kernel) oC.1 (by decide +kernel)]; exact fC
          refine h_W2 rfl oC l9 (cI_of (show ztau 24 = some 15 from rfl) cit_15) rfl rfl hf13 ?_
          refine h_iload rfl l9 rfl ?_
          refine h_iret rfl ?_
          exact ⟨_, _, rfl, oD, fun z => by omega, fun _ => fD⟩
        · refine h_aload rfl l9 rfl ?_
          obtain ⟨wD, hf14, oD'⟩ := s_keepR (kn := kn) oC.1
          have oD : hO dH_bk7 w0 wD := hO_tr oC (hO_mono dH_bk73 oD')
          have fD : gF wD 1 1 = 0 := by rw [fr_gF (t := 2) (c := 1) oD'.2 rfl (by decide +kernel) oC.1 (by decide +kernel)]; exact fC
          refine h_W1 rfl oC l9 (cI_of (show ztau 0 = some 1 from rfl) cit_1) rfl rfl hf14 ?_
          refine h_goto rfl ?_
          refine h_iload rfl l9 rfl ?_
          refine h_iret rfl ?_
          exact ⟨_, _, rfl, oD, fun z => by omega, fun _ => fD⟩
      · refine h_intv k_n2 rfl ?_
        refine h_aload rfl l3 rfl ?_
        refine h_getR rfl o4 frc_0_0 ?_
        refine h_getI rfl o4 (fI_of (show ztau 1 = some 2 from rfl) fit_2_12) (fun b15a b15b => ?_)
        refine h_isub rfl ?_
        refine h_iret rfl ?_
        exact ⟨_, _, rfl, o4, fun z => by omega, fun _ => q5a⟩
    · refine h_iload rfl l0 rfl ?_
      refine h_intv k_1 rfl ?_
      refine i_eq (kn := kn) (t := 0) (tgt := 13) (np := 9) rfl (by unfold R32; omega) (by unfold R32; omega) (fun e16 => ?_) (fun e16 => ?_)
      · refine h_aload rfl l0 rfl ?_
        refine h_getR rfl o0 frc_0_6 ?_
        refine h_aload rfl l0 rfl ?_
        refine h_getR rfl o0 frc_0_0 ?_
        refine h_aload rfl l0 rfl ?_
        refine h_getR rfl o0 frc_0_2 ?_
        obtain ⟨wA, zA, hf17, oA', hzA, hI⟩ := s_read1 (kn := kn) o0.1
        have oA : hO dH_bk7 w0 wA := hO_tr o0 (hO_mono dH_bk70 oA')
        refine h_V3 rfl o0 l0 (cI_of (show ztau 43 = some 28 from rfl) cit_28) rfl rfl hf17 ?_
        refine h_istore rfl l0 (fun vl18 l18 => ?_)
        refine h_aload rfl l18 rfl ?_
        refine h_getR rfl oA frc_0_0 ?_
        refine h_intv k_0 rfl ?_
        refine h_putI rfl oA (fI_of (show ztau 1 = some 2 from rfl) fit_2_1) rfl (by omega) (by omega) (fun w19 o19 q20a q20b q20c => ?_)
        refine h_iload rfl l18 rfl ?_
        refine j_ne (kn := kn) (t := 1) (tgt := 52) (np := 41) rfl (by unfold R32; omega) (fun e21 => ?_) (fun e21 => ?_)
        · refine h_aload rfl l18 rfl ?_
          obtain ⟨wB, hf22, oB'⟩ := s_remember (kn := kn) o19.1
          have oB : hO dH_bk7 w0 wB := hO_tr o19 (hO_mono dH_bk72 oB')
          have iS := hI (by omega)
          have iA : bkI w19 := ⟨by rw [q20b 43 4 (fun z => absurd z (by decide))]; exact iS.1, fun i hi => by rw [q20b 43 4 (fun z => absurd z (by decide))] at hi; exact bkG_eq (q20c 44 i) (q20c 45 i) (iS.2 i hi)⟩
          have iB := bkI_fr o19.1 oB' (by decide +kernel) (by decide +kernel) (by decide +kernel) iA
          have fB : gF wB 1 1 = 0 := by rw [fr_gF (t := 2) (c := 1) oB'.2 rfl (by decide +kernel) o19.1 (by decide +kernel)]; exact q20a
          refine h_W1 rfl o19 l18 (cI_of (show ztau 0 = some 1 from rfl) cit_1) rfl rfl hf22 ?_
          refine h_aload rfl l18 rfl ?_
          refine h_getR rfl oB frc_0_6 ?_
          refine h_aload rfl l18 rfl ?_
          refine h_getR rfl oB frc_0_2 ?_
          refine h_aload rfl l18 rfl ?_
          refine h_getR rfl oB frc_0_3 ?_
          refine h_aload rfl l18 rfl ?_
          refine h_getR rfl oB frc_0_7 ?_
          obtain ⟨wC, zC, hf23, oC', rC⟩ := s_live (kn := kn) oB.1 iB
          have oC : hO dH_bk7 w0 wC := hO_tr oB (hO_mono dH_bk71 oC')
          have fC : gF wC 1 1 = 0 := by rw [fr_gF (t := 2) (c := 1) oC'.2 rfl (by decide +kernel) oB.1 (by decide +kernel)]; exact fB
          refine h_V4 rfl oB l18 (cI_of (show ztau 43 = some 28 from rfl) cit_28) rfl rfl hf23 ?_
          refine h_istore rfl l18 (fun vl24 l24 => ?_)
          refine h_iload rfl l24 rfl ?_
          refine h_intv k_1 rfl ?_
          refine i_ne (kn := kn) (t := 1) (tgt := 88) (np := 81) rfl (by unfold R32; omega) (by unfold R32; omega) (fun e25 => ?_) (fun e25 => ?_)
          · refine h_aload rfl l24 rfl ?_
            refine h_getR rfl oC frc_0_3 ?_
            refine h_aload rfl l24 rfl ?_
            refine h_getR rfl oC frc_0_13 ?_
            refine h_aload rfl l24 rfl ?_
            refine h_getI rfl oC (fI_of (show ztau 0 = some 1 from rfl) fit_1_14) (fun b26a b26b => ?_)
            obtain ⟨pn, hpn⟩ : ∃ n : Nat, gF wC 0 14 = (n : Int) := ⟨(gF wC 0 14).toNat, by omega⟩
            rw [hpn] at b26a b26b ⊢
            refine h_aaldT (pn) rfl oC (show ztau 99 = some 56 from rfl) aat_56 (by omega) (by omega) (fun k27 hk27 => ?_)
            obtain ⟨wD, hf28, oD'⟩ := s_copy8 (kn := kn) oC.1 (show ztau 24 = some 15 from rfl) hk27
            have oD : hO dH_bk7 w0 wD := hO_tr oC (hO_mono dH_bk74 oD')
            have fD : gF wD 1 1 = 0 := by rw [fr_gF (t := 2) (c := 1) oD'.2 rfl (by decide +kernel) oC.1 (by decide +kernel)]; exact fC
            refine h_W2 rfl oC l24 (cI_of (show ztau 24 = some 15 from rfl) cit_15) rfl rfl hf28 ?_
            refine h_iload rfl l24 rfl ?_
            refine h_iret rfl ?_
            exact ⟨_, _, rfl, oD, fun z => by omega, fun _ => fD⟩
          · refine h_aload rfl l24 rfl ?_
            obtain ⟨wD, hf29, oD'⟩ := s_keepR (kn := kn) oC.1
            have oD : hO dH_bk7 w0 wD := hO_tr oC (hO_mono dH_bk73 oD')
            have fD : gF wD 1 1 = 0 := by rw [fr_gF (t := 2) (c := 1) oD'.2 rfl (by decide +kernel) oC.1 (by decide +kernel)]; exact fC
            refine h_W1 rfl oC l24 (cI_of (show ztau 0 = some 1 from rfl) cit_1) rfl rfl hf29 ?_
            refine h_goto rfl ?_
            refine h_iload rfl l24 rfl ?_
            refine h_iret rfl ?_
            exact ⟨_, _, rfl, oD, fun z => by omega, fun _ => fD⟩
        · refine h_intv k_n2 rfl ?_
          refine h_aload rfl l18 rfl ?_
          refine h_getR rfl o19 frc_0_0 ?_
          refine h_getI rfl o19 (fI_of (show ztau 1 = some 2 from rfl) fit_2_12) (fun b30a b30b => ?_)
          refine h_isub rfl ?_
          refine h_iret rfl ?_
          exact ⟨_, _, rfl, o19, fun z => by omega, fun _ => q20a⟩
      · refine h_intv k_n1000 rfl ?_
        refine h_iret rfl ?_
        exact ⟨_, _, rfl, o0, fun _ => rfl, fun z => by omega⟩
  obtain ⟨r, h1, w2, b, h2, h3⟩ := h_meth1 (nL := 4) rfl K
  rw [h2] at h1
  exact ⟨w2, b, h1, h3⟩
end
