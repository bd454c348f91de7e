noncomputable section
def fJtt (t ci kf : Nat) : Bool := match fty ZZ t ci kf with
  | some (1, .inl q) => match zle q.1 (-9223372036854775808) with
    | true => zle 9223372036854775807 q.2
    | false => false
  | _ => false
theorem fJ_of {c t ci kf : Nat} (hc : ztau c = some t) (h : fJtt t ci kf = true) : fJt c ci kf = some t := by
  unfold fJt
  rw [hc]
  try dsimp only
  unfold fJtt at h
  split at h
  · rename_i q hq
    rw [hq]
    show (match zle q.1 (-9223372036854775808) with
      | true => match zle 9223372036854775807 q.2 with
        | true => some t
        | false => none
      | false => none) = _
    split at h
    · rename_i c1
      try rw [c1]
      try dsimp only
      first | (rw [h]; done) | (rw [h]; rfl)
    · cases h
  · cases h
theorem aat_56 : aAt 56 = some (9, 15) := by decide +kernel
theorem ait_29 : aIt 29 = some 40 := by decide +kernel
theorem ait_30 : aIt 30 = some 40 := by decide +kernel
theorem ait_31 : aIt 31 = some 40 := by decide +kernel
theorem ait_32 : aIt 32 = some 40 := by decide +kernel
theorem ait_33 : aIt 33 = some 4 := by decide +kernel
theorem apt_29 : aPt 29 0 40 (-2147483648) 2147483647 = true := by decide +kernel
theorem art_29 : aRt 29 0 40 (-2147483648) 2147483647 = true := by decide +kernel
theorem apt_30 : aPt 30 0 40 (-1) 9 = true := by decide +kernel
theorem art_30 : aRt 30 0 40 (-1) 9 = true := by decide +kernel
theorem apt_31 : aPt 31 0 40 0 60 = true := by decide +kernel
theorem art_31 : aRt 31 0 40 0 60 = true := by decide +kernel
theorem apt_32 : aPt 32 0 40 0 2 = true := by decide +kernel
theorem art_32 : aRt 32 0 40 0 2 = true := by decide +kernel
theorem apt_33 : aPt 33 0 4 (-2147483648) 2147483647 = true := by decide +kernel
theorem art_33 : aRt 33 0 4 (-2147483648) 2147483647 = true := by decide +kernel
theorem cit_2 : cIt 2 = some 10 := by decide +kernel
theorem cit_28 : cIt 28 = some 2 := by decide +kernel
theorem cit_34 : cIt 34 = some 11 := by decide +kernel
theorem fit_1_14 : fIt 1 12 14 = some (0, 8) := by decide +kernel
theorem fit_15_0 : fIt 15 9 0 = some ((-2147483648), 2147483647) := by decide +kernel
theorem fit_2_1 : fIt 2 10 1 = some (0, 940) := by decide +kernel
theorem fit_2_12 : fIt 2 10 12 = some ((-2147483648), 2147483647) := by decide +kernel
theorem fit_2_4 : fIt 2 10 4 = some ((-2147483648), 2147483647) := by decide +kernel
theorem fit_2_6 : fIt 2 10 6 = some ((-2147483648), 2147483647) := by decide +kernel
theorem fit_2_8 : fIt 2 10 8 = some ((-2147483648), 2147483647) := by decide +kernel
theorem fit_28_4 : fIt 28 2 4 = some (0, 41) := by decide +kernel
theorem fit_5_0 : fIt 5 7 0 = some (1, 12) := by decide +kernel
theorem fjt_2_7 : fJtt 2 10 7 = true := by decide +kernel
theorem frc_0_0 : fR 0 12 0 = some 1 := by decide +kernel
theorem frc_0_13 : fR 0 12 13 = some 99 := by decide +kernel
theorem frc_0_6 : fR 0 12 6 = some 43 := by decide +kernel
theorem frc_0_7 : fR 0 12 7 = some 49 := by decide +kernel
theorem frc_43_0 : fR 43 2 0 = some 44 := by decide +kernel
theorem frc_43_1 : fR 43 2 1 = some 45 := by decide +kernel
theorem frc_43_2 : fR 43 2 2 = some 46 := by decide +kernel
theorem frc_43_3 : fR 43 2 3 = some 47 := by decide +kernel
theorem frc_43_5 : fR 43 2 5 = some 48 := by decide +kernel
theorem k_19 : (19 : Int32) = Int32.ofInt (19) := by decide +kernel
theorem k_51 : (51 : Int32) = Int32.ofInt (51) := by decide +kernel
theorem s_isKey9 {kn : sKn} {w : sW} (hw : wOk ZZ w) (x : Int) (hx : R32 x) : ∃ b : Int, fX9_isKey kn [.ref 1, hI x] w = some (some (hI b), w, 0, 0) ∧ ((b = 0 ∨ b = 1) ∧ (b = 1 → gF w 1 4 = 4 ∧ gF w 1 6 = x)) := by
  have hx1 := hx.1
  have hx2 := hx.2
  have K : Tp (tX9_isKey kn) (fun r => ∃ b : Int, r = (some (hI b), w, 0, 0) ∧ (b = 0 ∨ b = 1) ∧ (b = 1 → gF w 1 4 = 4 ∧ gF w 1 6 = x)) 0 (lv_args 0 [.ref 1, hI x], [], w, 0, 0) := by
    have l0 : hL (lv_args 0 [.ref 1, hI x]) (lv_args 0 [.ref 1, hI x]) := ⟨fun _ _ h => h, fun q hq => by
      rcases List.mem_cons.mp hq with e | hq
      · rw [e]
        exact ⟨rfl, rfl⟩
      rcases List.mem_cons.mp hq with e | hq
      · rw [e]
        exact ⟨rfl, rfl⟩
      cases hq⟩
    have o0 : hO [] w w := hO_rf hw
    refine h_aload rfl l0 rfl ?_
    refine h_getI rfl o0 (fI_of (show ztau 1 = some 2 from rfl) fit_2_4) (fun b41a b41b => ?_)
    refine h_intv k_4 rfl ?_
    refine i_ne (kn := kn) (t := 1) (tgt := 20) (np := 8) rfl (by unfold R32; omega) (by unfold R32; omega) (fun e42 => ?_) (fun e42 => ?_)
    · refine h_intv k_0 rfl ?_
      refine h_zret (by omega) rfl ?_
      exact ⟨_, rfl, by omega, by omega⟩
    · refine h_aload rfl l0 rfl ?_
      refine h_getI rfl o0 (fI_of (show ztau 1 = some 2 from rfl) fit_2_6) (fun b43a b43b => ?_)
      refine h_iload rfl l0 rfl ?_
      refine i_ne (kn := kn) (t := 1) (tgt := 20) (np := 16) rfl (by unfold R32; omega) (by unfold R32; omega) (fun e44 => ?_) (fun e44 => ?_)
      · refine h_intv k_0 rfl ?_
        refine h_zret (by omega) rfl ?_
        exact ⟨_, rfl, by omega, by omega⟩
      · refine h_intv k_1 rfl ?_
        refine h_goto rfl ?_
        refine h_zret (by omega) rfl ?_
        exact ⟨_, rfl, by omega, by omega⟩
  obtain ⟨r, h1, b, h2, h3⟩ := h_meth1 (nL := 2) rfl K
  rw [h2] at h1
  exact ⟨b, h1, h3⟩
theorem s_isDeed {kn : sKn} {w : sW} (hw : wOk ZZ w)  : ∃ b : Int, fX1_isSignersDeed kn [.ref 1] w = some (some (hI b), w, 0, 0) ∧ ((b = 0 ∨ b = 1) ∧ (b = 1 → 8 ≤ gF w 1 6 ∧ gF w 1 6 ≤ 11)) := by
  have K : Tp (tX1_isSignersDeed kn) (fun r => ∃ b : Int, r = (some (hI b), w, 0, 0) ∧ (b = 0 ∨ b = 1) ∧ (b = 1 → 8 ≤ gF w 1 6 ∧ gF w 1 6 ≤ 11)) 0 (lv_args 0 [.ref 1], [], w, 0, 0) := by
    have l0 : hL (lv_args 0 [.ref 1]) (lv_args 0 [.ref 1]) := ⟨fun _ _ h => h, fun q hq => by
      rcases List.mem_cons.mp hq with e | hq
      · rw [e]
        exact ⟨rfl, rfl⟩
      cases hq⟩
    have o0 : hO [] w w := hO_rf hw
    refine h_aload rfl l0 rfl ?_
    refine h_intv k_8 rfl ?_
    obtain ⟨z41, hf41, hz41, hq41⟩ := s_isKey9 (kn := kn) hw 8 ⟨by omega, by omega⟩
    refine h_V2 rfl o0 l0 (cI_of (show ztau 1 = some 2 from rfl) cit_2) rfl rfl hf41 ?_
    refine j_ne (kn := kn) (t := 1) (tgt := 36) (np := 9) rfl (by unfold R32; omega) (fun e42 => ?_) (fun e42 => ?_)
    · refine h_intv k_1 rfl ?_
      refine h_goto rfl ?_
      refine h_zret (by omega) rfl ?_
      exact ⟨_, rfl, by omega, by omega⟩
    · refine h_aload rfl l0 rfl ?_
      refine h_intv k_9 rfl ?_
      obtain ⟨z43, hf43, hz43, hq43⟩ := s_isKey9 (kn := kn) hw 9 ⟨by omega, by omega⟩
      refine h_V2 rfl o0 l0 (cI_of (show ztau 1 = some 2 from rfl) cit_2) rfl rfl hf43 ?_
      refine j_ne (kn := kn) (t := 1) (tgt := 36) (np := 18) rfl (by unfold R32; omega) (fun e44 => ?_) (fun e44 => ?_)
      · refine h_intv k_1 rfl ?_
        refine h_goto rfl ?_
        refine h_zret (by omega) rfl ?_
        exact ⟨_, rfl, by omega, by omega⟩
      · refine h_aload rfl l0 rfl ?_
        refine h_intv k_10 rfl ?_
        obtain ⟨z45, hf45, hz45, hq45⟩ := s_isKey9 (kn := kn) hw 10 ⟨by omega, by omega⟩
        refine h_V2 rfl o0 l0 (cI_of (show ztau 1 = some 2 from rfl) cit_2) rfl rfl hf45 ?_
        refine j_ne (kn := kn) (t := 1) (tgt := 36) (np := 27) rfl (by unfold R32; omega) (fun e46 => ?_) (fun e46 => ?_)
        · refine h_intv k_1 rfl ?_
          refine h_goto rfl ?_
          refine h_zret (by omega) rfl ?_
          exact ⟨_, rfl, by omega, by omega⟩
        · refine h_aload rfl l0 rfl ?_
          refine h_intv k_11 rfl ?_
          obtain ⟨z47, hf47, hz47, hq47⟩ := s_isKey9 (kn := kn) hw 11 ⟨by omega, by omega⟩
          refine h_V2 rfl o0 l0 (cI_of (show ztau 1 = some 2 from rfl) cit_2) rfl rfl hf47 ?_
          refine j_eq (kn := kn) (t := 0) (tgt := 40) (np := 36) rfl (by unfold R32; omega) (fun e48 => ?_) (fun e48 => ?_)
          · refine h_intv k_0 rfl ?_
            refine h_zret (by omega) rfl ?_
            exact ⟨_, rfl, by omega, by omega⟩
          · refine h_intv k_1 rfl ?_
            refine h_goto rfl ?_
            refine h_zret (by omega) rfl ?_
            exact ⟨_, rfl, by omega, by omega⟩
  obtain ⟨r, h1, b, h2, h3⟩ := h_meth1 (nL := 1) rfl K
  rw [h2] at h1
  exact ⟨b, h1, h3⟩
theorem s_refuse9 {kn : sKn} {w : sW} (hw : wOk ZZ w) (x1 : Int) (hx1 : (-2147483648) ≤ x1 ∧ x1 ≤ 2147483647) : ∃ (w' : sW) (z : Int), fX9_refuse kn [.ref 1, hI x1] w = some (some (hI z), w', 0, 0) ∧ hO dX9_refuse w w' ∧ (z = 0) := by
  obtain ⟨r, w', h1, h2, q, hq, σ', h3, h4, h5, h6⟩ := con_use (con_X9_refuse_0 kn) (σ := [0, x1]) (av := [.ref 1, hI x1]) (w := w) rfl rfl ⟨av_c (k := 1) rfl, av_i rfl ⟨by omega, by omega⟩, trivial⟩ (fun q hq => by cases hq) (gE_c ⟨_, rfl, hx1⟩ (gE_n)) hw rfl
  rcases List.mem_singleton.mp hq with rfl
  obtain ⟨z, z1, z2, z3⟩ := gS_i h4
  rw [z2] at h1
  have z4 := h3 0 0 rfl
  rw [z4] at z1
  cases z1
  refine ⟨w', _, h1, h2, ?_⟩
  omega
theorem s_adv9 {kn : sKn} {w : sW} (hw : wOk ZZ w)  : ∃ (w' : sW), fX9_advance kn [.ref 1] w = some (none, w', 0, 0) ∧ hO dX9_advance w w' := by
  obtain ⟨r, w', h1, h2, q, hq, σ', h3, h4, h5, h6⟩ := con_use (con_X9_advance kn _ List.mem_cons_self) (σ := [0]) (av := [.ref 1]) (w := w) rfl rfl ⟨av_c (k := 1) rfl, trivial⟩ (fun q hq => by cases hq) (gE_n) hw rfl
  rcases List.mem_singleton.mp hq with rfl
  rw [gS_v h4] at h1
  exact ⟨w', h1, h2⟩
theorem s_sNamed_ {kn : sKn} {w : sW} (hw : wOk ZZ w) {k1 : Nat} (hk1 : ztau k1 = some 5) (x2 : Int64) : ∃ (w' : sW) (z : Int), fX6_signerNamed kn [.ref k1, .long x2] w = some (some (hI z), w', 0, 0) ∧ hO dX6_signerNamed w w' ∧ ((0 ≤ z ∧ z ≤ 9) ∨ z = (-1)) := by
  obtain ⟨r, w', h1, h2, q, hq, σ', h3, h4, h5, h6⟩ := con_use (con_X6_signerNamed_0 kn) (σ := [0, (k1 : Int), x2.toInt]) (av := [.ref k1, .long x2]) (w := w) rfl rfl ⟨av_r rfl, av_l rfl, trivial⟩ (fun q hq => by cases hq) (gE_c ⟨_, rfl, r64 x2⟩ (gE_c ⟨_, rfl, _, rfl, hk1⟩ (gE_n))) hw (by simp only [xa_eq, List.all_cons, List.all_nil, Bool.and_true, Bool.and_eq_true]; exact ⟨tw hk1, rfl⟩)
  rcases List.mem_cons.mp hq with rfl | hq
  · obtain ⟨z, z1, z2, z3⟩ := gS_i h4
    rw [z2] at h1
    have z5 := gE_at (a := 0) (b := 9) h6 (by first | exact List.mem_cons_self | exact List.mem_cons_of_mem _ List.mem_cons_self | exact List.mem_cons_of_mem _ (List.mem_cons_of_mem _ List.mem_cons_self) | exact List.mem_cons_of_mem _ (List.mem_cons_of_mem _ (List.mem_cons_of_mem _ List.mem_cons_self)) | decide) z1
    refine ⟨w', _, h1, h2, ?_⟩
    omega
  rcases List.mem_singleton.mp hq with rfl
  obtain ⟨z, z1, z2, z3⟩ := gS_i h4
  rw [z2] at h1
  have z4 := h3 0 0 rfl
  rw [z4] at z1
  cases z1
  refine ⟨w', _, h1, h2, ?_⟩
  omega
theorem s_sNamed {kn : sKn} {w : sW} (hw : wOk ZZ w) {k1 : Nat} (hk1 : ztau k1 = some 5) (x2 : Int64) : ∃ z : Int, fX6_signerNamed kn [.ref k1, .long x2] w = some (some (hI z), w, 0, 0) ∧ ((0 ≤ z ∧ z ≤ 9) ∨ z = (-1)) := by
  obtain ⟨w', z, h1, h2, h3⟩ := s_sNamed_ (kn := kn) hw hk1 x2
  have e : w' = w := fr_nil hw h2.1 h2.2
  subst e
  exact ⟨z, h1, h3⟩
theorem s_lNamed_ {kn : sKn} {w : sW} (hw : wOk ZZ w) {k1 : Nat} (hk1 : ztau k1 = some 5) (x2 : Int64) : ∃ (w' : sW) (z : Int), fX6_loadNamed kn [.ref k1, .long x2] w = some (some (hI z), w', 0, 0) ∧ hO dX6_loadNamed w w' ∧ ((0 ≤ z ∧ z ≤ 5) ∨ z = (-1)) := by
  obtain ⟨r, w', h1, h2, q, hq, σ', h3, h4, h5, h6⟩ := con_use (con_X6_loadNamed_0 kn) (σ := [0, (k1 : Int), x2.toInt]) (av := [.ref k1, .long x2]) (w := w) rfl rfl ⟨av_r rfl, av_l rfl, trivial⟩ (fun q hq => by cases hq) (gE_c ⟨_, rfl, r64 x2⟩ (gE_c ⟨_, rfl, _, rfl, hk1⟩ (gE_n))) hw (by simp only [xa_eq, List.all_cons, List.all_nil, Bool.and_true, Bool.and_eq_true]; exact ⟨tw hk1, rfl⟩)
  rcases List.mem_cons.mp hq with rfl | hq
  · obtain ⟨z, z1, z2, z3⟩ := gS_i h4
    rw [z2] at h1
    have z5 := gE_at (a := 0) (b := 5) h6 (by first | exact List.mem_cons_self | exact List.mem_cons_of_mem _ List.mem_cons_self | exact List.mem_cons_of_mem _ (List.mem_cons_of_mem _ List.mem_cons_self) | exact List.mem_cons_of_mem _ (List.mem_cons_of_mem _ (List.mem_cons_of_mem _ List.mem_cons_self)) | decide) z1
    refine ⟨w', _, h1, h2, ?_⟩
    omega
  rcases List.mem_singleton.mp hq with rfl
  obtain ⟨z, z1, z2, z3⟩ := gS_i h4
  rw [z2] at h1
  have z4 := h3 0 0 rfl
  rw [z4] at z1
  cases z1
  refine ⟨w', _, h1, h2, ?_⟩
  omega
theorem s_lNamed {kn : sKn} {w : sW} (hw : wOk ZZ w) {k1 : Nat} (hk1 : ztau k1 = some 5) (x2 : Int64) : ∃ z : Int, fX6_loadNamed kn [.ref k1, .long x2] w = some (some (hI z), w, 0, 0) ∧ ((0 ≤ z ∧ z ≤ 5) ∨ z = (-1)) := by
  obtain ⟨w', z, h1, h2, h3⟩ := s_lNamed_ (kn := kn) hw hk1 x2
  have e : w' = w := fr_nil hw h2.1 h2.2
  subst e
  exact ⟨z, h1, h3⟩
theorem s_tn11 {kn : sKn} {w : sW} (hw : wOk ZZ w) (x1 : Int) (hx1 : 0 ≤ x1 ∧ x1 ≤ 0) (x2 : Int) (hx2 : 11 ≤ x2 ∧ x2 ≤ 11) : ∃ (w' : sW) (z : Int), fX9_takeNumber kn [.ref 1, hI x1, hI x2] w = some (some (hI z), w', 0, 0) ∧ hO dX9_takeNumber w w' ∧ (z = 0 ∨ (z = 1 ∧ 0 ≤ gF w' 1 8 ∧ gF w' 1 8 ≤ 11)) := by
  obtain ⟨r, w', h1, h2, q, hq, σ', h3, h4, h5, h6⟩ := con_use (con_X9_takeNumber_0 kn) (σ := [0, x1, x2]) (av := [.ref 1, hI x1, hI x2]) (w := w) rfl rfl ⟨av_c (k := 1) rfl, av_i rfl ⟨by omega, by omega⟩, av_i rfl ⟨by omega, by omega⟩, trivial⟩ (fun q hq => by cases hq) (gE_c ⟨_, rfl, hx2⟩ (gE_c ⟨_, rfl, hx1⟩ (gE_n))) hw rfl
  rcases List.mem_cons.mp hq with rfl | hq
  · obtain ⟨z, z1, z2, z3⟩ := gS_i h4
    rw [z2] at h1
    have z4 := h3 0 0 rfl
    rw [z4] at z1
    cases z1
    refine ⟨w', _, h1, h2, ?_⟩
    omega
  rcases List.mem_singleton.mp hq with rfl
  obtain ⟨z, z1, z2, z3⟩ := gS_i h4
  rw [z2] at h1
  have z4 := h3 0 0 rfl
  rw [z4] at z1
  cases z1
  obtain ⟨m8, n8, p8⟩ := mf_F (c := 1) (kf := 8) (u := 4) (h3 0 0 rfl) (h5 _ (by first | exact List.mem_cons_self | exact List.mem_cons_of_mem _ List.mem_cons_self | exact List.mem_cons_of_mem _ (List.mem_cons_of_mem _ List.mem_cons_self) | exact List.mem_cons_of_mem _ (List.mem_cons_of_mem _ (List.mem_cons_of_mem _ List.mem_cons_self)) | decide))
  have o8 := gE_at (a := 0) (b := 11) h6 (by first | exact List.mem_cons_self | exact List.mem_cons_of_mem _ List.mem_cons_self | exact List.mem_cons_of_mem _ (List.mem_cons_of_mem _ List.mem_cons_self) | exact List.mem_cons_of_mem _ (List.mem_cons_of_mem _ (List.mem_cons_of_mem _ List.mem_cons_self)) | decide) n8
  refine ⟨w', _, h1, h2, ?_⟩
  omega
theorem s_tn2 {kn : sKn} {w : sW} (hw : wOk ZZ w) (x1 : Int) (hx1 : 0 ≤ x1 ∧ x1 ≤ 0) (x2 : Int) (hx2 : 2 ≤ x2 ∧ x2 ≤ 2) : ∃ (w' : sW) (z : Int), fX9_takeNumber kn [.ref 1, hI x1, hI x2] w = some (some (hI z), w', 0, 0) ∧ hO dX9_takeNumber w w' ∧ (z = 0 ∨ (z = 1 ∧ 0 ≤ gF w' 1 8 ∧ gF w' 1 8 ≤ 2)) := by
  obtain ⟨r, w', h1, h2, q, hq, σ', h3, h4, h5, h6⟩ := con_use (con_X9_takeNumber_1 kn) (σ := [0, x1, x2]) (av := [.ref 1, hI x1, hI x2]) (w := w) rfl rfl ⟨av_c (k := 1) rfl, av_i rfl ⟨by omega, by omega⟩, av_i rfl ⟨by omega, by omega⟩, trivial⟩ (fun q hq => by cases hq) (gE_c ⟨_, rfl, hx2⟩ (gE_c ⟨_, rfl, hx1⟩ (gE_n))) hw rfl
  rcases List.mem_cons.mp hq with rfl | hq
  · obtain ⟨z, z1, z2, z3⟩ := gS_i h4
    rw [z2] at h1
    have z4 := h3 0 0 rfl
    rw [z4] at z1
    cases z1
    refine ⟨w', _, h1, h2, ?_⟩
    omega
  rcases List.mem_singleton.mp hq with rfl
  obtain ⟨z, z1, z2, z3⟩ := gS_i h4
  rw [z2] at h1
  have z4 := h3 0 0 rfl
  rw [z4] at z1
  cases z1
  obtain ⟨m8, n8, p8⟩ := mf_F (c := 1) (kf := 8) (u := 4) (h3 0 0 rfl) (h5 _ (by first | exact List.mem_cons_self | exact List.mem_cons_of_mem _ List.mem_cons_self | exact List.mem_cons_of_mem _ (List.mem_cons_of_mem _ List.mem_cons_self) | exact List.mem_cons_of_mem _ (List.mem_cons_of_mem _ (List.mem_cons_of_mem _ List.mem_cons_self)) | decide))
  have o8 := gE_at (a := 0) (b := 2) h6 (by first | exact List.mem_cons_self | exact List.mem_cons_of_mem _ List.mem_cons_self | exact List.mem_cons_of_mem _ (List.mem_cons_of_mem _ List.mem_cons_self) | exact List.mem_cons_of_mem _ (List.mem_cons_of_mem _ (List.mem_cons_of_mem _ List.mem_cons_self)) | decide) n8
  refine ⟨w', _, h1, h2, ?_⟩
  omega
theorem s_tn60 {kn : sKn} {w : sW} (hw : wOk ZZ w) (x1 : Int) (hx1 : 1 ≤ x1 ∧ x1 ≤ 1) (x2 : Int) (hx2 : 60 ≤ x2 ∧ x2 ≤ 60) : ∃ (w' : sW) (z : Int), fX9_takeNumber kn [.ref 1, hI x1, hI x2] w = some (some (hI z), w', 0, 0) ∧ hO dX9_takeNumber w w' ∧ (z = 0 ∨ (z = 1 ∧ 1 ≤ gF w' 1 8 ∧ gF w' 1 8 ≤ 60)) := by
  obtain ⟨r, w', h1, h2, q, hq, σ', h3, h4, h5, h6⟩ := con_use (con_X9_takeNumber_e0 kn) (σ := [0, x1, x2]) (av := [.ref 1, hI x1, hI x2]) (w := w) rfl rfl ⟨av_c (k := 1) rfl, av_i rfl ⟨by omega, by omega⟩, av_i rfl ⟨by omega, by omega⟩, trivial⟩ (fun q hq => by cases hq) (gE_c ⟨_, rfl, hx2⟩ (gE_c ⟨_, rfl, hx1⟩ (gE_n))) hw rfl
  rcases List.mem_cons.mp hq with rfl | hq
  · obtain ⟨z, z1, z2, z3⟩ := gS_i h4
    rw [z2] at h1
    have z4 := h3 0 0 rfl
    rw [z4] at z1
    cases z1
    refine ⟨w', _, h1, h2, ?_⟩
    omega
  rcases List.mem_singleton.mp hq with rfl
  obtain ⟨z, z1, z2, z3⟩ := gS_i h4
  rw [z2] at h1
  have z4 := h3 0 0 rfl
  rw [z4] at z1
  cases z1
  obtain ⟨m8, n8, p8⟩ := mf_F (c := 1) (kf := 8) (u := 4) (h3 0 0 rfl) (h5 _ (by first | exact List.mem_cons_self | exact List.mem_cons_of_mem _ List.mem_cons_self | exact List.mem_cons_of_mem _ (List.mem_cons_of_mem _ List.mem_cons_self) | exact List.mem_cons_of_mem _ (List.mem_cons_of_mem _ (List.mem_cons_of_mem _ List.mem_cons_self)) | decide))
  have o8 := gE_at (a := 1) (b := 60) h6 (by first | exact List.mem_cons_self | exact List.mem_cons_of_mem _ List.mem_cons_self | exact List.mem_cons_of_mem _ (List.mem_cons_of_mem _ List.mem_cons_self) | exact List.mem_cons_of_mem _ (List.mem_cons_of_mem _ (List.mem_cons_of_mem _ List.mem_cons_self)) | decide) n8
  refine ⟨w', _, h1, h2, ?_⟩
  omega
theorem s_begin400 {kn : sKn} {w : sW} (hw : wOk ZZ w) (x1 : Int) (hx1 : 400 ≤ x1 ∧ x1 ≤ 400) : ∃ (w' : sW), fX9_begin kn [.ref 1, hI x1] w = some (none, w', 0, 0) ∧ hO dX9_begin w w' := by
  obtain ⟨r, w', h1, h2, q, hq, σ', h3, h4, h5, h6⟩ := con_use (con_X9_begin_e0 kn) (σ := [0, x1]) (av := [.ref 1, hI x1]) (w := w) rfl rfl ⟨av_c (k := 1) rfl, av_i rfl ⟨by omega, by omega⟩, trivial⟩ (fun q hq => by cases hq) (gE_c ⟨_, rfl, hx1⟩ (gE_n)) hw rfl
  rcases List.mem_singleton.mp hq with rfl
  rw [gS_v h4] at h1
  exact ⟨w', h1, h2⟩
theorem s_takeSign9 {kn : sKn} {w : sW} (hw : wOk ZZ w) (x1 : Int) (hx1 : (-2147483648) ≤ x1 ∧ x1 ≤ 2147483647) : ∃ (w' : sW) (z : Int), fX9_takeSign kn [.ref 1, hI x1] w = some (some (hI z), w', 0, 0) ∧ hO dX9_takeSign w w' ∧ (z = 0 ∨ z = 1) := by
  obtain ⟨r, w', h1, h2, q, hq, σ', h3, h4, h5, h6⟩ := con_use (con_X9_takeSign_0 kn) (σ := [0, x1]) (av := [.ref 1, hI x1]) (w := w) rfl rfl ⟨av_c (k := 1) rfl, av_i rfl ⟨by omega, by omega⟩, trivial⟩ (fun q hq => by cases hq) (gE_c ⟨_, rfl, hx1⟩ (gE_n)) hw rfl
  rcases List.mem_cons.mp hq with rfl | hq
  · obtain ⟨z, z1, z2, z3⟩ := gS_i h4
    rw [z2] at h1
    have z4 := h3 0 0 rfl
    rw [z4] at z1
    cases z1
    refine ⟨w', _, h1, h2, ?_⟩
    omega
  rcases List.mem_singleton.mp hq with rfl
  obtain ⟨z, z1, z2, z3⟩ := gS_i h4
  rw [z2] at h1
  have z4 := h3 0 0 rfl
  rw [z4] at z1
  cases z1
  refine ⟨w', _, h1, h2, ?_⟩
  omega
theorem s_takeEnd9 {kn : sKn} {w : sW} (hw : wOk ZZ w)  : ∃ (w' : sW) (z : Int), fX9_takeEnd kn [.ref 1] w = some (some (hI z), w', 0, 0) ∧ hO dX9_takeEnd w w' ∧ (z = 0 ∨ z = 1) := by
  obtain ⟨r, w', h1, h2, q, hq, σ', h3, h4, h5, h6⟩ := con_use (con_X9_takeEnd_0 kn) (σ := [0]) (av := [.ref 1]) (w := w) rfl rfl ⟨av_c (k := 1) rfl, trivial⟩ (fun q hq => by cases hq) (gE_n) hw rfl
  rcases List.mem_cons.mp hq with rfl | hq
  · obtain ⟨z, z1, z2, z3⟩ := gS_i h4
    rw [z2] at h1
    have z4 := h3 0 0 rfl
    rw [z4] at z1
    cases z1
    refine ⟨w', _, h1, h2, ?_⟩
    omega
  rcases List.mem_singleton.mp hq with rfl
  obtain ⟨z, z1, z2, z3⟩ := gS_i h4
  rw [z2] at h1
  have z4 := h3 0 0 rfl
  rw [z4] at z1
  cases z1
  refine ⟨w', _, h1, h2, ?_⟩
  omega
def dH_bl : List (Nat × Nat) := [(29, 999), (30, 999), (31, 999), (32, 999)] ++ dX9_refuse ++ dX9_advance ++ dX9_takeNumber
theorem dH_bl1 : msub dX9_refuse dH_bl = true := by decide +kernel
theorem dH_bl2 : msub dX9_advance dH_bl = true := by decide +kernel
theorem dH_bl3 : msub dX9_takeNumber dH_bl = true := by decide +kernel
def dH_rp : List (Nat × Nat) := [(31, 999), (32, 999)] ++ dX9_takeNumber
theorem dH_rp1 : msub dX9_takeNumber dH_rp = true := by decide +kernel
theorem dH_rp2 : msub dH_rp dH_bl = true := by decide +kernel
theorem s_readPlace1 {kn : sKn} {w0 : sW} (hw : wOk ZZ w0) (n : Nat) (hn : gF w0 43 4 = (n : Int)) (h39 : n ≤ 39) : ∃ (w' : sW) (b : Int), fX1_readPlace kn [.ref 43, .ref 1] w0 = some (some (hI b), w', 0, 0) ∧ hO dH_rp w0 w' ∧ (b = 0 ∨ b = 1) := by
  have K : Tp (tX1_readPlace kn) (fun r => ∃ (w' : sW) (b : Int), r = (some (hI b), w', 0, 0) ∧ hO dH_rp w0 w' ∧ (b = 0 ∨ b = 1)) 0 (lv_args 0 [.ref 43, .ref 1], [], w0, 0, 0) := by
    have l0 : hL (lv_args 0 [.ref 43, .ref 1]) (lv_args 0 [.ref 43, .ref 1]) := ⟨fun _ _ h => h, fun q hq => by
      rcases List.mem_cons.mp hq with e | hq
      · rw [e]
        exact ⟨rfl, rfl⟩
      rcases List.mem_cons.mp hq with e | hq
      · rw [e]
        exact ⟨rfl, rfl⟩
      cases hq⟩
    have o0 : hO dH_rp w0 w0 := hO_rf hw
    refine h_aload rfl l0 rfl ?_
    refine h_intv k_0 rfl ?_
    refine h_intv k_11 rfl ?_
    obtain ⟨wA, zA, hf41, oA', hzA⟩ := s_tn11 (kn := kn) o0.1 0 ⟨by omega, by omega⟩ 11 ⟨by omega, by omega⟩
    have oA : hO dH_rp w0 wA := hO_tr o0 (hO_mono dH_rp1 oA')
    have hnA : gF wA 43 4 = (n : Int) := by rw [← hn]; exact fr_gF (t := 28) oA'.2 rfl (by decide +kernel) o0.1 (by decide +kernel)
    refine h_V3 rfl o0 l0 (cI_of (show ztau 1 = some 2 from rfl) cit_2) rfl rfl hf41 ?_
    refine j_ne (kn := kn) (t := 1) (tgt := 12) (np := 10) rfl (by unfold R32; omega) (fun e42 => ?_) (fun e42 => ?_)
    · refine h_aload rfl l0 rfl ?_
      refine h_getR rfl oA frc_43_2 ?_
      refine h_aload rfl l0 rfl ?_
      refine h_getI rfl oA (fI_of (show ztau 43 = some 28 from rfl) fit_28_4) (fun b43a b43b => ?_)
      rw [hnA] at b43a b43b ⊢
      refine h_aload rfl l0 rfl ?_
      refine h_getI rfl oA (fI_of (show ztau 1 = some 2 from rfl) fit_2_8) (fun b44a b44b => ?_)
      refine h_iastj (n) rfl oA (aI_of (show ztau 46 = some 31 from rfl) ait_31) rfl rfl (aP_of (show ztau 46 = some 31 from rfl) apt_31) (by omega) (by omega) (by omega) (by omega) (by omega) (by unfold R32; omega) (fun w45 o45 q46a q46b q46c => ?_)
      have hnS : gF w45 43 4 = (n : Int) := by rw [q46c]; exact hnA
      refine h_aload rfl l0 rfl ?_
      refine h_intv k_0 rfl ?_
      refine h_intv k_2 rfl ?_
      obtain ⟨wB, zB, hf47, oB', hzB⟩ := s_tn2 (kn := kn) o45.1 0 ⟨by omega, by omega⟩ 2 ⟨by omega, by omega⟩
      have oB : hO dH_rp w0 wB := hO_tr o45 (hO_mono dH_rp1 oB')
      have hnB : gF wB 43 4 = (n : Int) := by rw [← hnS]; exact fr_gF (t := 28) oB'.2 rfl (by decide +kernel) o45.1 (by decide +kernel)
      refine h_V3 rfl o45 l0 (cI_of (show ztau 1 = some 2 from rfl) cit_2) rfl rfl hf47 ?_
      refine j_ne (kn := kn) (t := 1) (tgt := 36) (np := 34) rfl (by unfold R32; omega) (fun e48 => ?_) (fun e48 => ?_)
      · refine h_aload rfl l0 rfl ?_
        refine h_getR rfl oB frc_43_3 ?_
        refine h_aload rfl l0 rfl ?_
        refine h_getI rfl oB (fI_of (show ztau 43 = some 28 from rfl) fit_28_4) (fun b49a b49b => ?_)
        rw [hnB] at b49a b49b ⊢
        refine h_aload rfl l0 rfl ?_
        refine h_getI rfl oB (fI_of (show ztau 1 = some 2 from rfl) fit_2_8) (fun b50a b50b => ?_)
        refine h_iastj (n) rfl oB (aI_of (show ztau 47 = some 32 from rfl) ait_32) rfl rfl (aP_of (show ztau 47 = some 32 from rfl) apt_32) (by omega) (by omega) (by omega) (by omega) (by omega) (by unfold R32; omega) (fun w51 o51 q52a q52b q52c => ?_)
        refine h_intv k_1 rfl ?_
        refine h_zret (by omega) rfl ?_
        exact ⟨_, _, rfl, o51, by omega⟩
      · refine h_intv k_0 rfl ?_
        refine h_zret (by omega) rfl ?_
        exact ⟨_, _, rfl, oB, by omega⟩
    · refine h_intv k_0 rfl ?_
      refine h_zret (by omega) rfl ?_
      exact ⟨_, _, rfl, oA, by omega⟩
  obtain ⟨r, h1, w2, b, h2, h3⟩ := h_meth1 (nL := 2) rfl K
  rw [h2] at h1
  exact ⟨w2, b, h1, h3⟩
theorem s_readDays1 {kn : sKn} {w0 : sW} (hw : wOk ZZ w0) (n : Nat) (hn : gF w0 43 4 = (n : Int)) (h39 : n ≤ 39) : ∃ (w' : sW) (b : Int), fX1_readDays kn [.ref 43, .ref 1] w0 = some (some (hI b), w', 0, 0) ∧ hO dH_rp w0 w' ∧ (b = 0 ∨ b = 1) := by
  have K : Tp (tX1_readDays kn) (fun r => ∃ (w' : sW) (b : Int), r = (some (hI b), w', 0, 0) ∧ hO dH_rp w0 w' ∧ (b = 0 ∨ b = 1)) 0 (lv_args 0 [.ref 43, .ref 1], [], w0, 0, 0) := by
    have l0 : hL (lv_args 0 [.ref 43, .ref 1]) (lv_args 0 [.ref 43, .ref 1]) := ⟨fun _ _ h => h, fun q hq => by
      rcases List.mem_cons.mp hq with e | hq
      · rw [e]
        exact ⟨rfl, rfl⟩
      rcases List.mem_cons.mp hq with e | hq
      · rw [e]
        exact ⟨rfl, rfl⟩
      cases hq⟩
    have o0 : hO dH_rp w0 w0 := hO_rf hw
    refine h_aload rfl l0 rfl ?_
    refine h_intv k_1 rfl ?_
    refine h_intv k_60 rfl ?_
    obtain ⟨wA, zA, hf41, oA', hzA⟩ := s_tn60 (kn := kn) o0.1 1 ⟨by omega, by omega⟩ 60 ⟨by omega, by omega⟩
    have oA : hO dH_rp w0 wA := hO_tr o0 (hO_mono dH_rp1 oA')
    have hnA : gF wA 43 4 = (n : Int) := by rw [← hn]; exact fr_gF (t := 28) oA'.2 rfl (by decide +kernel) o0.1 (by decide +kernel)
    refine h_V3 rfl o0 l0 (cI_of (show ztau 1 = some 2 from rfl) cit_2) rfl rfl hf41 ?_
    refine j_ne (kn := kn) (t := 1) (tgt := 12) (np := 10) rfl (by unfold R32; omega) (fun e42 => ?_) (fun e42 => ?_)
    · refine h_aload rfl l0 rfl ?_
      refine h_getR rfl oA frc_43_2 ?_
      refine h_aload rfl l0 rfl ?_
      refine h_getI rfl oA (fI_of (show ztau 43 = some 28 from rfl) fit_28_4) (fun b43a b43b => ?_)
      rw [hnA] at b43a b43b ⊢
      refine h_aload rfl l0 rfl ?_
      refine h_getI rfl oA (fI_of (show ztau 1 = some 2 from rfl) fit_2_8) (fun b44a b44b => ?_)
      refine h_iastj (n) rfl oA (aI_of (show ztau 46 = some 31 from rfl) ait_31) rfl rfl (aP_of (show ztau 46 = some 31 from rfl) apt_31) (by omega) (by omega) (by omega) (by omega) (by omega) (by unfold R32; omega) (fun w45 o45 q46a q46b q46c => ?_)
      refine h_intv k_1 rfl ?_
      refine h_zret (by omega) rfl ?_
      exact ⟨_, _, rfl, o45, by omega⟩
    · refine h_intv k_0 rfl ?_
      refine h_zret (by omega) rfl ?_
      exact ⟨_, _, rfl, oA, by omega⟩
  obtain ⟨r, h1, w2, b, h2, h3⟩ := h_meth1 (nL := 2) rfl K
  rw [h2] at h1
  exact ⟨w2, b, h1, h3⟩
/-- a line of a book that can be lived: who goes with the deed -/
def bkG (w : sW) (i : Nat) : Prop := (8 ≤ gX w 44 i ∧ gX w 44 i ≤ 11 → 0 ≤ gX w 45 i) ∧ (gX w 44 i = 13 → 0 ≤ gX w 45 i ∧ gX w 45 i ≤ 5)
theorem bkG_eq {w w' : sW} {i : Nat} (h1 : gX w' 44 i = gX w 44 i) (h2 : gX w' 45 i = gX w 45 i) (h : bkG w i) : bkG w' i := by
  unfold bkG at h ⊢
  rw [h1, h2]
  exact h
def blQ (w0 : sW) (n : Nat) (b : Int) (w' : sW) : Prop := (b = 0 ∨ b = 1) ∧ gF w' 43 4 = (n : Int) ∧ (∀ i, i ≠ n → gX w' 44 i = gX w0 44 i ∧ gX w' 45 i = gX w0 45 i) ∧ (b = 1 → n ≤ 39 ∧ bkG w' n)
def blM (w0 : sW) (n : Nat) (w : sW) : Prop := gF w 43 4 = (n : Int) ∧ ∀ i, i ≠ n → gX w 44 i = gX w0 44 i ∧ gX w 45 i = gX w0 45 i
theorem bl_fr {D : List (Nat × Nat)} {w0 w w' : sW} {n : Nat} (hw : wOk ZZ w) (h : hO D w w') (h1 : mIn D 28 4 = false) (h2 : mIn D 29 999 = false) (h3 : mIn D 30 999 = false) (m : blM w0 n w) : blM w0 n w' ∧ gX w' 44 n = gX w 44 n ∧ gX w' 45 n = gX w 45 n := by
  have e1 := fun j => fr_gX (t := 29) (c := 44) h.2 rfl h2 hw (by decide +kernel) j
  have e2 := fun j => fr_gX (t := 30) (c := 45) h.2 rfl h3 hw (by decide +kernel) j
  refine ⟨⟨by rw [fr_gF (t := 28) (c := 43) h.2 rfl h1 hw (by decide +kernel)]; exact m.1, fun i hi => ?_⟩, e1 n, e2 n⟩
  rw [e1, e2]
  exact m.2 i hi
theorem rl_180 {kn : sKn} {w0 : sW} {n : Nat} (hn40 : n ≤ 41) {w1 : sW} {lv : List (Nat × Value)} {nm s l : Int} (h39 : n ≤ 39) (m1 : blM w0 n w1) (hg : (8 ≤ gF w1 1 6 ∧ gF w1 1 6 ≤ 11 → 0 ≤ gX w1 45 n) ∧ (gF w1 1 6 = 13 → 0 ≤ gX w1 45 n ∧ gX w1 45 n ≤ 5)) (o0 : hO dH_bl w0 w1) (l0 : hL lv [(0, .ref 43), (1, .ref 1), (2, .ref 14), (3, hI nm), (4, hI s), (5, hI l)]) : Tp (tX1_readLine kn) (fun r => ∃ (w' : sW) (b : Int), r = (some (hI b), w', 0, 0) ∧ hO dH_bl w0 w' ∧ blQ w0 n b w') 180 (lv, [], w1, 0, 0) := by
  refine h_aload rfl l0 rfl ?_
  refine h_getR rfl o0 frc_43_0 ?_
  refine h_aload rfl l0 rfl ?_
  refine h_getI rfl o0 (fI_of (show ztau 43 = some 28 from rfl) fit_28_4) (fun b41a b41b => ?_)
  rw [m1.1] at b41a b41b ⊢
  refine h_aload rfl l0 rfl ?_
  refine h_getI rfl o0 (fI_of (show ztau 1 = some 2 from rfl) fit_2_6) (fun b42a b42b => ?_)
  refine h_iastj (n) rfl o0 (aI_of (show ztau 44 = some 29 from rfl) ait_29) rfl rfl (aP_of (show ztau 44 = some 29 from rfl) apt_29) (by omega) (by omega) (by omega) (by omega) (by omega) (by unfold R32; omega) (fun w43 o43 q44a q44b q44c => ?_)
  have mS : blM w0 n w43 := ⟨by rw [q44c]; exact m1.1, fun i hi => by rw [q44b 44 i (fun _ => hi), q44b 45 i (fun z => absurd z (by decide))]; exact m1.2 i hi⟩
  have kS : bkG w43 n := by
    unfold bkG
    rw [q44a, q44b 45 n (fun z => absurd z (by decide))]
    exact hg
  refine h_aload rfl l0 rfl ?_
  obtain ⟨wA, hf45, oA'⟩ := s_adv9 (kn := kn) o43.1
  have oA : hO dH_bl w0 wA := hO_tr o43 (hO_mono dH_bl2 oA')
  obtain ⟨mA, dA, hA⟩ := bl_fr o43.1 oA' (by decide +kernel) (by decide +kernel) (by decide +kernel) mS
  have kA : bkG wA n := bkG_eq dA hA kS
  refine h_W1 rfl o43 l0 (cI_of (show ztau 1 = some 2 from rfl) cit_2) rfl rfl hf45 ?_
  refine h_aload rfl l0 rfl ?_
  refine h_getR rfl oA frc_43_0 ?_
  refine h_aload rfl l0 rfl ?_
  refine h_getI rfl oA (fI_of (show ztau 43 = some 28 from rfl) fit_28_4) (fun b46a b46b => ?_)
  rw [mA.1] at b46a b46b ⊢
  refine h_ialdj (n) rfl oA (aI_of (show ztau 44 = some 29 from rfl) ait_29) rfl (by omega) (by omega) (fun b47a b47b => ?_)
  by_cases e48_0 : (gX wA 44 n) = 8
  · refine h_look 8 e48_0 (by unfold R32; omega) rfl rfl ?_
    refine h_aload rfl l0 rfl ?_
    refine h_aload rfl l0 rfl ?_
    obtain ⟨wP, zP, hf49, oP', hzP⟩ := s_readPlace1 (kn := kn) oA.1 n mA.1 h39
    have oP : hO dH_bl w0 wP := hO_tr oA (hO_mono dH_rp2 oP')
    obtain ⟨mP, dP, hP⟩ := bl_fr oA.1 oP' (by decide +kernel) (by decide +kernel) (by decide +kernel) mA
    refine h_V2 rfl oA l0 (cI_of (show ztau 43 = some 28 from rfl) cit_28) rfl rfl hf49 ?_
    refine h_zret (by omega) rfl ?_
    exact ⟨_, _, rfl, oP, by omega, mP.1, mP.2, fun _ => ⟨h39, bkG_eq dP hP kA⟩⟩
  by_cases e48_1 : (gX wA 44 n) = 12
  · refine h_look 12 e48_1 (by unfold R32; omega) rfl rfl ?_
    refine h_aload rfl l0 rfl ?_
    refine h_aload rfl l0 rfl ?_
    obtain ⟨wP, zP, hf50, oP', hzP⟩ := s_readPlace1 (kn := kn) oA.1 n mA.1 h39
    have oP : hO dH_bl w0 wP := hO_tr oA (hO_mono dH_rp2 oP')
    obtain ⟨mP, dP, hP⟩ := bl_fr oA.1 oP' (by decide +kernel) (by decide +kernel) (by decide +kernel) mA
    refine h_V2 rfl oA l0 (cI_of (show ztau 43 = some 28 from rfl) cit_28) rfl rfl hf50 ?_
    refine h_zret (by omega) rfl ?_
    exact ⟨_, _, rfl, oP, by omega, mP.1, mP.2, fun _ => ⟨h39, bkG_eq dP hP kA⟩⟩
  by_cases e48_2 : (gX wA 44 n) = 14
  · refine h_look 14 e48_2 (by unfold R32; omega) rfl rfl ?_
    refine h_aload rfl l0 rfl ?_
    refine h_aload rfl l0 rfl ?_
    obtain ⟨wP, zP, hf51, oP', hzP⟩ := s_readDays1 (kn := kn) oA.1 n mA.1 h39
    have oP : hO dH_bl w0 wP := hO_tr oA (hO_mono dH_rp2 oP')
    obtain ⟨mP, dP, hP⟩ := bl_fr oA.1 oP' (by decide +kernel) (by decide +kernel) (by decide +kernel) mA
    refine h_V2 rfl oA l0 (cI_of (show ztau 43 = some 28 from rfl) cit_28) rfl rfl hf51 ?_
    refine h_zret (by omega) rfl ?_
    exact ⟨_, _, rfl, oP, by omega, mP.1, mP.2, fun _ => ⟨h39, bkG_eq dP hP kA⟩⟩
  refine h_lookd rfl (by unfold R32; omega) (by simp only [List.mem_cons, List.not_mem_nil, or_false, forall_eq_or_imp, forall_eq]; omega) ?_
  refine h_intv k_1 rfl ?_
  refine h_zret (by omega) rfl ?_
  exact ⟨_, _, rfl, oA, Or.inr rfl, mA.1, mA.2, fun _ => ⟨h39, kA⟩⟩
theorem rl_100 {kn : sKn} {w0 : sW} {n : Nat} (hn40 : n ≤ 41) {w1 : sW} {lv : List (Nat × Value)} {s l : Int} (m1 : blM w0 n w1) (hsl : (0 ≤ s ∧ s ≤ 9 ∧ -1 ≤ l ∧ l ≤ 5) ∨ (s = -1 ∧ 0 ≤ l ∧ l ≤ 5)) (o0 : hO dH_bl w0 w1) (l0 : hL lv [(0, .ref 43), (1, .ref 1), (2, .ref 14), (3, hI 1), (4, hI s), (5, hI l)]) : Tp (tX1_readLine kn) (fun r => ∃ (w' : sW) (b : Int), r = (some (hI b), w', 0, 0) ∧ hO dH_bl w0 w' ∧ blQ w0 n b w') 100 (lv, [], w1, 0, 0) := by
  refine h_aload rfl l0 rfl ?_
  refine h_getI rfl o0 (fI_of (show ztau 43 = some 28 from rfl) fit_28_4) (fun b41a b41b => ?_)
  rw [m1.1] at b41a b41b ⊢
  refine h_intv k_40 rfl ?_
  refine i_lt (kn := kn) (t := 2) (tgt := 115) (np := 109) rfl (by unfold R32; omega) (by unfold R32; omega) (fun e42 => ?_) (fun e42 => ?_)
  · refine h_iload rfl l0 rfl ?_
    refine j_eq (kn := kn) (t := 0) (tgt := 145) (np := 119) rfl (by unfold R32; omega) (fun e43 => ?_) (fun e43 => ?_)
    · omega
    · refine h_aload rfl l0 rfl ?_
      obtain ⟨wA, hf44, oA'⟩ := s_adv9 (kn := kn) o0.1
      have oA : hO dH_bl w0 wA := hO_tr o0 (hO_mono dH_bl2 oA')
      obtain ⟨mA, dA, hA⟩ := bl_fr o0.1 oA' (by decide +kernel) (by decide +kernel) (by decide +kernel) m1
      refine h_W1 rfl o0 l0 (cI_of (show ztau 1 = some 2 from rfl) cit_2) rfl rfl hf44 ?_
      refine h_aload rfl l0 rfl ?_
      refine h_getR rfl oA frc_43_1 ?_
      refine h_aload rfl l0 rfl ?_
      refine h_getI rfl oA (fI_of (show ztau 43 = some 28 from rfl) fit_28_4) (fun b45a b45b => ?_)
      rw [mA.1] at b45a b45b ⊢
      refine h_iload rfl l0 rfl ?_
      refine h_intv k_n1 rfl ?_
      refine i_eq (kn := kn) (t := 0) (tgt := 142) (np := 137) rfl (by unfold R32; omega) (by unfold R32; omega) (fun e46 => ?_) (fun e46 => ?_)
      · refine h_iload rfl l0 rfl ?_
        refine h_iastj (n) rfl oA (aI_of (show ztau 45 = some 30 from rfl) ait_30) rfl rfl aw_45 (by omega) (by omega) (by omega) (by omega) (by omega) (by unfold R32; omega) (fun w47 o47 q48a q48b q48c => ?_)
        have mS : blM w0 n w47 := ⟨by rw [q48c]; exact mA.1, fun i hi => by rw [q48b 45 i (fun _ => hi), q48b 44 i (fun z => absurd z (by decide))]; exact mA.2 i hi⟩
        have qS := q48a
        refine h_iload rfl l0 rfl ?_
        refine j_eq (kn := kn) (t := 0) (tgt := 180) (np := 149) rfl (by unfold R32; omega) (fun e49 => ?_) (fun e49 => ?_)
        · omega
        · refine h_iload rfl l0 rfl ?_
          refine h_intv k_n1 rfl ?_
          refine i_eq (kn := kn) (t := 0) (tgt := 165) (np := 155) rfl (by unfold R32; omega) (by unfold R32; omega) (fun e50 => ?_) (fun e50 => ?_)
          · refine h_aload rfl l0 rfl ?_
            refine h_intv k_13 rfl ?_
            obtain ⟨z51, hf51, hz51, hq51⟩ := s_isKey9 (kn := kn) o47.1 13 ⟨by omega, by omega⟩
            refine h_V2 rfl o47 l0 (cI_of (show ztau 1 = some 2 from rfl) cit_2) rfl rfl hf51 ?_
            refine j_ne (kn := kn) (t := 1) (tgt := 180) (np := 174) rfl (by unfold R32; omega) (fun e52 => ?_) (fun e52 => ?_)
            · exact rl_180 hn40 (by omega) mS (by omega) o47 l0
            · refine h_aload rfl l0 rfl ?_
              refine h_intv k_1 rfl ?_
              obtain ⟨wR, zR, hf53, oR', hzR⟩ := s_refuse9 (kn := kn) o47.1 1 ⟨by omega, by omega⟩
              have oR : hO dH_bl w0 wR := hO_tr o47 (hO_mono dH_bl1 oR')
              have mR := (bl_fr o47.1 oR' (by decide +kernel) (by decide +kernel) (by decide +kernel) mS).1
              refine h_V2 rfl o47 l0 (cI_of (show ztau 1 = some 2 from rfl) cit_2) rfl rfl hf53 ?_
              refine h_zret (by omega) rfl ?_
              exact ⟨_, _, rfl, oR, by omega, mR.1, mR.2, fun z => by omega⟩
          · refine h_aload rfl l0 rfl ?_
            obtain ⟨z54, hf54, hz54, hq54⟩ := s_isDeed (kn := kn) o47.1
            refine h_S1 rfl o47 l0 rfl rfl hf54 ?_
            refine j_eq (kn := kn) (t := 0) (tgt := 174) (np := 162) rfl (by unfold R32; omega) (fun e55 => ?_) (fun e55 => ?_)
            · refine h_aload rfl l0 rfl ?_
              refine h_intv k_1 rfl ?_
              obtain ⟨wR, zR, hf56, oR', hzR⟩ := s_refuse9 (kn := kn) o47.1 1 ⟨by omega, by omega⟩
              have oR : hO dH_bl w0 wR := hO_tr o47 (hO_mono dH_bl1 oR')
              have mR := (bl_fr o47.1 oR' (by decide +kernel) (by decide +kernel) (by decide +kernel) mS).1
              refine h_V2 rfl o47 l0 (cI_of (show ztau 1 = some 2 from rfl) cit_2) rfl rfl hf56 ?_
              refine h_zret (by omega) rfl ?_
              exact ⟨_, _, rfl, oR, by omega, mR.1, mR.2, fun z => by omega⟩
            · refine h_goto rfl ?_
              exact rl_180 hn40 (by omega) mS (by omega) o47 l0
      · refine h_iload rfl l0 rfl ?_
        refine h_goto rfl ?_
        refine h_iastj (n) rfl oA (aI_of (show ztau 45 = some 30 from rfl) ait_30) rfl rfl aw_45 (by omega) (by omega) (by omega) (by omega) (by omega) (by unfold R32; omega) (fun w57 o57 q58a q58b q58c => ?_)
        have mS : blM w0 n w57 := ⟨by rw [q58c]; exact mA.1, fun i hi => by rw [q58b 45 i (fun _ => hi), q58b 44 i (fun z => absurd z (by decide))]; exact mA.2 i hi⟩
        have qS := q58a
        refine h_iload rfl l0 rfl ?_
        refine j_eq (kn := kn) (t := 0) (tgt := 180) (np := 149) rfl (by unfold R32; omega) (fun e59 => ?_) (fun e59 => ?_)
        · omega
        · refine h_iload rfl l0 rfl ?_
          refine h_intv k_n1 rfl ?_
          refine i_eq (kn := kn) (t := 0) (tgt := 165) (np := 155) rfl (by unfold R32; omega) (by unfold R32; omega) (fun e60 => ?_) (fun e60 => ?_)
          · refine h_aload rfl l0 rfl ?_
            refine h_intv k_13 rfl ?_
            obtain ⟨z61, hf61, hz61, hq61⟩ := s_isKey9 (kn := kn) o57.1 13 ⟨by omega, by omega⟩
            refine h_V2 rfl o57 l0 (cI_of (show ztau 1 = some 2 from rfl) cit_2) rfl rfl hf61 ?_
            refine j_ne (kn := kn) (t := 1) (tgt := 180) (np := 174) rfl (by unfold R32; omega) (fun e62 => ?_) (fun e62 => ?_)
            · exact rl_180 hn40 (by omega) mS (by omega) o57 l0
            · refine h_aload rfl l0 rfl ?_
              refine h_intv k_1 rfl ?_
              obtain ⟨wR, zR, hf63, oR', hzR⟩ := s_refuse9 (kn := kn) o57.1 1 ⟨by omega, by omega⟩
              have oR : hO dH_bl w0 wR := hO_tr o57 (hO_mono dH_bl1 oR')
              have mR := (bl_fr o57.1 oR' (by decide +kernel) (by decide +kernel) (by decide +kernel) mS).1
              refine h_V2 rfl o57 l0 (cI_of (show ztau 1 = some 2 from rfl) cit_2) rfl rfl hf63 ?_
              refine h_zret (by omega) rfl ?_
              exact ⟨_, _, rfl, oR, by omega, mR.1, mR.2, fun z => by omega⟩
          · refine h_aload rfl l0 rfl ?_
            obtain ⟨z64, hf64, hz64, hq64⟩ := s_isDeed (kn := kn) o57.1
            refine h_S1 rfl o57 l0 rfl rfl hf64 ?_
            refine j_eq (kn := kn) (t := 0) (tgt := 174) (np := 162) rfl (by unfold R32; omega) (fun e65 => ?_) (fun e65 => ?_)
            · refine h_aload rfl l0 rfl ?_
              refine h_intv k_1 rfl ?_
              obtain ⟨wR, zR, hf66, oR', hzR⟩ := s_refuse9 (kn := kn) o57.1 1 ⟨by omega, by omega⟩
              have oR : hO dH_bl w0 wR := hO_tr o57 (hO_mono dH_bl1 oR')
              have mR := (bl_fr o57.1 oR' (by decide +kernel) (by decide +kernel) (by decide +kernel) mS).1
              refine h_V2 rfl o57 l0 (cI_of (show ztau 1 = some 2 from rfl) cit_2) rfl rfl hf66 ?_
              refine h_zret (by omega) rfl ?_
              exact ⟨_, _, rfl, oR, by omega, mR.1, mR.2, fun z => by omega⟩
            · refine h_goto rfl ?_
              exact rl_180 hn40 (by omega) mS (by omega) o57 l0
  · refine h_aload rfl l0 rfl ?_
    refine h_intv k_4 rfl ?_
    obtain ⟨wR, zR, hf67, oR', hzR⟩ := s_refuse9 (kn := kn) o0.1 4 ⟨by omega, by omega⟩
    have oR : hO dH_bl w0 wR := hO_tr o0 (hO_mono dH_bl1 oR')
    have mR := (bl_fr o0.1 oR' (by decide +kernel) (by decide +kernel) (by decide +kernel) m1).1
    refine h_V2 rfl o0 l0 (cI_of (show ztau 1 = some 2 from rfl) cit_2) rfl rfl hf67 ?_
    refine h_zret (by omega) rfl ?_
    exact ⟨_, _, rfl, oR, by omega, mR.1, mR.2, fun z => by omega⟩
theorem rl_100n {kn : sKn} {w0 : sW} {n : Nat} (hn40 : n ≤ 41) {w1 : sW} {lv : List (Nat × Value)} (m1 : blM w0 n w1) (hv : gF w1 1 6 = 12 ∨ gF w1 1 6 = 14) (o0 : hO dH_bl w0 w1) (l0 : hL lv [(0, .ref 43), (1, .ref 1), (2, .ref 14), (3, hI 0), (4, hI (-1)), (5, hI (-1))]) : Tp (tX1_readLine kn) (fun r => ∃ (w' : sW) (b : Int), r = (some (hI b), w', 0, 0) ∧ hO dH_bl w0 w' ∧ blQ w0 n b w') 100 (lv, [], w1, 0, 0) := by
  refine h_aload rfl l0 rfl ?_
  refine h_getI rfl o0 (fI_of (show ztau 43 = some 28 from rfl) fit_28_4) (fun b41a b41b => ?_)
  rw [m1.1] at b41a b41b ⊢
  refine h_intv k_40 rfl ?_
  refine i_lt (kn := kn) (t := 2) (tgt := 115) (np := 109) rfl (by unfold R32; omega) (by unfold R32; omega) (fun e42 => ?_) (fun e42 => ?_)
  · refine h_iload rfl l0 rfl ?_
    refine j_eq (kn := kn) (t := 0) (tgt := 145) (np := 119) rfl (by unfold R32; omega) (fun e43 => ?_) (fun e43 => ?_)
    · refine h_iload rfl l0 rfl ?_
      refine j_eq (kn := kn) (t := 0) (tgt := 180) (np := 149) rfl (by unfold R32; omega) (fun e44 => ?_) (fun e44 => ?_)
      · exact rl_180 hn40 (by omega) m1 (by omega) o0 l0
      · omega
    · omega
  · refine h_aload rfl l0 rfl ?_
    refine h_intv k_4 rfl ?_
    obtain ⟨wR, zR, hf45, oR', hzR⟩ := s_refuse9 (kn := kn) o0.1 4 ⟨by omega, by omega⟩
    have oR : hO dH_bl w0 wR := hO_tr o0 (hO_mono dH_bl1 oR')
    have mR := (bl_fr o0.1 oR' (by decide +kernel) (by decide +kernel) (by decide +kernel) m1).1
    refine h_V2 rfl o0 l0 (cI_of (show ztau 1 = some 2 from rfl) cit_2) rfl rfl hf45 ?_
    refine h_zret (by omega) rfl ?_
    exact ⟨_, _, rfl, oR, by omega, mR.1, mR.2, fun z => by omega⟩
theorem s_readLine1 {kn : sKn} {w0 : sW} (hw : wOk ZZ w0) (n : Nat) (hn : gF w0 43 4 = (n : Int)) : ∃ (w' : sW) (b : Int), fX1_readLine kn [.ref 43, .ref 1, .ref 14] w0 = some (some (hI b), w', 0, 0) ∧ hO dH_bl w0 w' ∧ blQ w0 n b w' := by
  obtain ⟨_, _, _, _, _, _, _, ha, hb⟩ := fI_ok (hO_rf (D := []) hw) (fI_of (show ztau 43 = some 28 from rfl) fit_28_4)
  have m0 : blM w0 n w0 := ⟨hn, fun i _ => ⟨rfl, rfl⟩⟩
  have K : Tp (tX1_readLine kn) (fun r => ∃ (w' : sW) (b : Int), r = (some (hI b), w', 0, 0) ∧ hO dH_bl w0 w' ∧ blQ w0 n b w') 0 (lv_args 0 [.ref 43, .ref 1, .ref 14], [], w0, 0, 0) := by
    have l0 : hL (lv_args 0 [.ref 43, .ref 1, .ref 14]) (lv_args 0 [.ref 43, .ref 1, .ref 14]) := ⟨fun _ _ h => h, fun q hq => by
      rcases List.mem_cons.mp hq with e | hq
      · rw [e]
        exact ⟨rfl, rfl⟩
      rcases List.mem_cons.mp hq with e | hq
      · rw [e]
        exact ⟨rfl, rfl⟩
      rcases List.mem_cons.mp hq with e | hq
      · rw [e]
        exact ⟨rfl, rfl⟩
      cases hq⟩
    have o0 : hO dH_bl w0 w0 := hO_rf hw
    refine h_aload rfl l0 rfl ?_
    refine h_getI rfl o0 (fI_of (show ztau 1 = some 2 from rfl) fit_2_4) (fun b41a b41b => ?_)
    refine h_intv k_5 rfl ?_
    refine i_ne (kn := kn) (t := 1) (tgt := 12) (np := 8) rfl (by unfold R32; omega) (by unfold R32; omega) (fun e42 => ?_) (fun e42 => ?_)
    · refine h_intv k_0 rfl ?_
      refine h_istore rfl l0 (fun vl43 l43 => ?_)
      refine h_iload rfl l43 rfl ?_
      refine j_ne (kn := kn) (t := 1) (tgt := 42) (np := 18) rfl (by unfold R32; omega) (fun e44 => ?_) (fun e44 => ?_)
      · omega
      · refine h_aload rfl l43 rfl ?_
        refine h_intv k_12 rfl ?_
        obtain ⟨z45, hf45, hz45, hq45⟩ := s_isKey9 (kn := kn) o0.1 12 ⟨by omega, by omega⟩
        refine h_V2 rfl o0 l43 (cI_of (show ztau 1 = some 2 from rfl) cit_2) rfl rfl hf45 ?_
        refine j_ne (kn := kn) (t := 1) (tgt := 42) (np := 27) rfl (by unfold R32; omega) (fun e46 => ?_) (fun e46 => ?_)
        · refine h_iload rfl l43 rfl ?_
          refine j_eq (kn := kn) (t := 0) (tgt := 57) (np := 46) rfl (by unfold R32; omega) (fun e47 => ?_) (fun e47 => ?_)
          · refine h_intv k_n1 rfl ?_
            refine h_istore rfl l43 (fun vl48 l48 => ?_)
            refine h_iload rfl l48 rfl ?_
            refine j_eq (kn := kn) (t := 0) (tgt := 75) (np := 64) rfl (by unfold R32; omega) (fun e49 => ?_) (fun e49 => ?_)
            · refine h_intv k_n1 rfl ?_
              refine h_istore rfl l48 (fun vl50 l50 => ?_)
              refine h_iload rfl l50 rfl ?_
              refine j_eq (kn := kn) (t := 0) (tgt := 100) (np := 82) rfl (by unfold R32; omega) (fun e51 => ?_) (fun e51 => ?_)
              · exact rl_100n (by omega) m0 (by omega) o0 l50
              · omega
            · omega
          · omega
        · refine h_aload rfl l43 rfl ?_
          refine h_intv k_14 rfl ?_
          obtain ⟨z52, hf52, hz52, hq52⟩ := s_isKey9 (kn := kn) o0.1 14 ⟨by omega, by omega⟩
          refine h_V2 rfl o0 l43 (cI_of (show ztau 1 = some 2 from rfl) cit_2) rfl rfl hf52 ?_
          refine j_ne (kn := kn) (t := 1) (tgt := 42) (np := 36) rfl (by unfold R32; omega) (fun e53 => ?_) (fun e53 => ?_)
          · refine h_iload rfl l43 rfl ?_
            refine j_eq (kn := kn) (t := 0) (tgt := 57) (np := 46) rfl (by unfold R32; omega) (fun e54 => ?_) (fun e54 => ?_)
            · refine h_intv k_n1 rfl ?_
              refine h_istore rfl l43 (fun vl55 l55 => ?_)
              refine h_iload rfl l55 rfl ?_
              refine j_eq (kn := kn) (t := 0) (tgt := 75) (np := 64) rfl (by unfold R32; omega) (fun e56 => ?_) (fun e56 => ?_)
              · refine h_intv k_n1 rfl ?_
                refine h_istore rfl l55 (fun vl57 l57 => ?_)
                refine h_iload rfl l57 rfl ?_
                refine j_eq (kn := kn) (t := 0) (tgt := 100) (np := 82) rfl (by unfold R32; omega) (fun e58 => ?_) (fun e58 => ?_)
                · exact rl_100n (by omega) m0 (by omega) o0 l57
                · omega
              · omega
            · omega
          · refine h_aload rfl l43 rfl ?_
            refine h_intv k_1 rfl ?_
            obtain ⟨wR, zR, hf59, oR', hzR⟩ := s_refuse9 (kn := kn) o0.1 1 ⟨by omega, by omega⟩
            have oR : hO dH_bl w0 wR := hO_tr o0 (hO_mono dH_bl1 oR')
            have mR := (bl_fr o0.1 oR' (by decide +kernel) (by decide +kernel) (by decide +kernel) m0).1
            refine h_V2 rfl o0 l43 (cI_of (show ztau 1 = some 2 from rfl) cit_2) rfl rfl hf59 ?_
            refine h_zret (by omega) rfl ?_
            exact ⟨_, _, rfl, oR, by omega, mR.1, mR.2, fun z => by omega⟩
    · refine h_intv k_1 rfl ?_
      refine h_goto rfl ?_
      refine h_istore rfl l0 (fun vl60 l60 => ?_)
      refine h_iload rfl l60 rfl ?_
      refine j_ne (kn := kn) (t := 1) (tgt := 42) (np := 18) rfl (by unfold R32; omega) (fun e61 => ?_) (fun e61 => ?_)
      · refine h_iload rfl l60 rfl ?_
        refine j_eq (kn := kn) (t := 0) (tgt := 57) (np := 46) rfl (by unfold R32; omega) (fun e62 => ?_) (fun e62 => ?_)
        · omega
        · refine h_aload rfl l60 rfl ?_
          refine h_aload rfl l60 rfl ?_
          refine h_getJ rfl o0 (fJ_of (show ztau 1 = some 2 from rfl) fjt_2_7) (fun j63 => ?_)
          obtain ⟨z64, hf64, hz64⟩ := s_sNamed (kn := kn) o0.1 (show ztau 14 = some 5 from rfl) j63
          refine h_V2 rfl o0 l60 (cI_of (show ztau 14 = some 5 from rfl) cit_5) rfl rfl hf64 ?_
          refine h_goto rfl ?_
          refine h_istore rfl l60 (fun vl65 l65 => ?_)
          refine h_iload rfl l65 rfl ?_
          refine j_eq (kn := kn) (t := 0) (tgt := 75) (np := 64) rfl (by unfold R32; omega) (fun e66 => ?_) (fun e66 => ?_)
          · omega
          · refine h_aload rfl l65 rfl ?_
            refine h_aload rfl l65 rfl ?_
            refine h_getJ rfl o0 (fJ_of (show ztau 1 = some 2 from rfl) fjt_2_7) (fun j67 => ?_)
            obtain ⟨z68, hf68, hz68⟩ := s_lNamed (kn := kn) o0.1 (show ztau 14 = some 5 from rfl) j67
            refine h_V2 rfl o0 l65 (cI_of (show ztau 14 = some 5 from rfl) cit_5) rfl rfl hf68 ?_
            refine h_goto rfl ?_
            refine h_istore rfl l65 (fun vl69 l69 => ?_)
            refine h_iload rfl l69 rfl ?_
            refine j_eq (kn := kn) (t := 0) (tgt := 100) (np := 82) rfl (by unfold R32; omega) (fun e70 => ?_) (fun e70 => ?_)
            · omega
            · refine h_iload rfl l69 rfl ?_
              refine h_intv k_n1 rfl ?_
              refine i_ne (kn := kn) (t := 1) (tgt := 100) (np := 88) rfl (by unfold R32; omega) (by unfold R32; omega) (fun e71 => ?_) (fun e71 => ?_)
              · exact rl_100 (by omega) m0 (by omega) o0 l69
              · refine h_iload rfl l69 rfl ?_
                refine h_intv k_n1 rfl ?_
                refine i_ne (kn := kn) (t := 1) (tgt := 100) (np := 94) rfl (by unfold R32; omega) (by unfold R32; omega) (fun e72 => ?_) (fun e72 => ?_)
                · exact rl_100 (by omega) m0 (by omega) o0 l69
                · refine h_aload rfl l69 rfl ?_
                  refine h_intv k_3 rfl ?_
                  obtain ⟨wR, zR, hf73, oR', hzR⟩ := s_refuse9 (kn := kn) o0.1 3 ⟨by omega, by omega⟩
                  have oR : hO dH_bl w0 wR := hO_tr o0 (hO_mono dH_bl1 oR')
                  have mR := (bl_fr o0.1 oR' (by decide +kernel) (by decide +kernel) (by decide +kernel) m0).1
                  refine h_V2 rfl o0 l69 (cI_of (show ztau 1 = some 2 from rfl) cit_2) rfl rfl hf73 ?_
                  refine h_zret (by omega) rfl ?_
                  exact ⟨_, _, rfl, oR, by omega, mR.1, mR.2, fun z => by omega⟩
      · omega
  obtain ⟨r, h1, w2, b, h2, h3⟩ := h_meth1 (nL := 6) rfl K
  rw [h2] at h1
  exact ⟨w2, b, h1, h3⟩
def dH_rdk : List (Nat × Nat) := (28, 4) :: (dH_bl ++ dX9_begin ++ dX9_takeSign ++ dX9_takeEnd)
theorem dH_rdk1 : msub dH_bl dH_rdk = true := by decide +kernel
theorem dH_rdk2 : msub dX9_begin dH_rdk = true := by decide +kernel
theorem dH_rdk3 : msub dX9_takeSign dH_rdk = true := by decide +kernel
theorem dH_rdk4 : msub dX9_takeEnd dH_rdk = true := by decide +kernel
def bkI (w : sW) : Prop := gF w 43 4 ≤ 40 ∧ ∀ i : Nat, (i : Int) < gF w 43 4 → bkG w i
theorem bkI_fr {D : List (Nat × Nat)} {w w' : sW} (hw : wOk ZZ w) (h : hO D w w') (h1 : mIn D 28 4 = false) (h2 : mIn D 29 999 = false) (h3 : mIn D 30 999 = false) (m : bkI w) : bkI w' := by
  have e1 := fun j => fr_gX (t := 29) (c := 44) h.2 rfl h2 hw (by decide +kernel) j
  have e2 := fun j => fr_gX (t := 30) (c := 45) h.2 rfl h3 hw (by decide +kernel) j
  have e3 := fr_gF (t := 28) (c := 43) h.2 rfl h1 hw (by decide +kernel)
  unfold bkI
  rw [e3]
  exact ⟨m.1, fun i hi => bkG_eq (e1 i) (e2 i) (m.2 i hi)⟩
theorem bkI_s {w0 w w' : sW} {n : Nat} (hn : gF w0 43 4 = (n : Int)) (m : bkI w0) (q : blQ w0 n 1 w) (h1 : gF w' 43 4 = (n : Int) + 1) (h2 : ∀ j, gX w' 44 j = gX w 44 j) (h3 : ∀ j, gX w' 45 j = gX w 45 j) : bkI w' := by
  obtain ⟨_, q1, q2, q3⟩ := q
  obtain ⟨q4, q5⟩ := q3 rfl
  refine ⟨by omega, fun i hi => ?_⟩
  rw [h1] at hi
  by_cases e : i = n
  · subst e
    exact bkG_eq (h2 i) (h3 i) q5
  · obtain ⟨a, b⟩ := q2 i e
    exact bkG_eq ((h2 i).trans a) ((h3 i).trans b) (m.2 i (by omega))
theorem rdk_l {kn : sKn} {w0 : sW} : ∀ (m n : Nat) (w : sW) (lv : List (Nat × Value)), n + m = 41 → gF w 43 4 = (n : Int) → bkI w → hO dH_rdk w0 w → hL lv [(0, .ref 43), (1, .ref 1), (2, .ref 14)] → Tp (tX1_read kn) (fun r => ∃ (w' : sW) (b : Int), r = (some (hI b), w', 0, 0) ∧ hO dH_rdk w0 w' ∧ (b = 0 ∨ b = 1) ∧ (b = 1 → bkI w')) 12 (lv, [], w, 0, 0) := by
  intro m
  induction m with
  | zero =>
    intro n w lv hm hn hI o0 l0
    refine h_aload rfl l0 rfl ?_
    refine h_getI rfl o0 (fI_of (show ztau 43 = some 28 from rfl) fit_28_4) (fun b41a b41b => ?_)
    rw [hn] at b41a b41b ⊢
    refine h_intv k_40 rfl ?_
    refine i_gt (kn := kn) (t := 4) (tgt := 61) (np := 21) rfl (by unfold R32; omega) (by unfold R32; omega) (fun e42 => ?_) (fun e42 => ?_)
    · refine h_aload rfl l0 rfl ?_
      obtain ⟨wE, zE, hf43, oE', hzE⟩ := s_takeEnd9 (kn := kn) o0.1
      have oE : hO dH_rdk w0 wE := hO_tr o0 (hO_mono dH_rdk4 oE')
      refine h_V1 rfl o0 l0 (cI_of (show ztau 1 = some 2 from rfl) cit_2) rfl rfl hf43 ?_
      refine h_zret (by omega) rfl ?_
      exact ⟨_, _, rfl, oE, by omega, fun _ => bkI_fr o0.1 oE' (by decide +kernel) (by decide +kernel) (by decide +kernel) hI⟩
    · omega
  | succ m ih =>
    intro n w lv hm hn hI o0 l0
    refine h_aload rfl l0 rfl ?_
    refine h_getI rfl o0 (fI_of (show ztau 43 = some 28 from rfl) fit_28_4) (fun b41a b41b => ?_)
    rw [hn] at b41a b41b ⊢
    refine h_intv k_40 rfl ?_
    refine i_gt (kn := kn) (t := 4) (tgt := 61) (np := 21) rfl (by unfold R32; omega) (by unfold R32; omega) (fun e42 => ?_) (fun e42 => ?_)
    · refine h_aload rfl l0 rfl ?_
      obtain ⟨wE, zE, hf43, oE', hzE⟩ := s_takeEnd9 (kn := kn) o0.1
      have oE : hO dH_rdk w0 wE := hO_tr o0 (hO_mono dH_rdk4 oE')
      refine h_V1 rfl o0 l0 (cI_of (show ztau 1 = some 2 from rfl) cit_2) rfl rfl hf43 ?_
      refine h_zret (by omega) rfl ?_
      exact ⟨_, _, rfl, oE, by omega, fun _ => bkI_fr o0.1 oE' (by decide +kernel) (by decide +kernel) (by decide +kernel) hI⟩
    · refine h_aload rfl l0 rfl ?_
      refine h_getI rfl o0 (fI_of (show ztau 1 = some 2 from rfl) fit_2_4) (fun b44a b44b => ?_)
      refine j_eq (kn := kn) (t := 0) (tgt := 61) (np := 28) rfl (by unfold R32; omega) (fun e45 => ?_) (fun e45 => ?_)
      · refine h_aload rfl l0 rfl ?_
        obtain ⟨wE, zE, hf46, oE', hzE⟩ := s_takeEnd9 (kn := kn) o0.1
        have oE : hO dH_rdk w0 wE := hO_tr o0 (hO_mono dH_rdk4 oE')
        refine h_V1 rfl o0 l0 (cI_of (show ztau 1 = some 2 from rfl) cit_2) rfl rfl hf46 ?_
        refine h_zret (by omega) rfl ?_
        exact ⟨_, _, rfl, oE, by omega, fun _ => bkI_fr o0.1 oE' (by decide +kernel) (by decide +kernel) (by decide +kernel) hI⟩
      · refine h_aload rfl l0 rfl ?_
        refine h_aload rfl l0 rfl ?_
        refine h_aload rfl l0 rfl ?_
        obtain ⟨wA, zA, hf47, oA', qA⟩ := s_readLine1 (kn := kn) o0.1 n hn
        have hzA := qA.1
        have oA : hO dH_rdk w0 wA := hO_tr o0 (hO_mono dH_rdk1 oA')
        refine h_V3 rfl o0 l0 (cI_of (show ztau 43 = some 28 from rfl) cit_28) rfl rfl hf47 ?_
        refine j_eq (kn := kn) (t := 0) (tgt := 46) (np := 37) rfl (by unfold R32; omega) (fun e48 => ?_) (fun e48 => ?_)
        · refine h_intv k_0 rfl ?_
          refine h_zret (by omega) rfl ?_
          exact ⟨_, _, rfl, oA, Or.inl rfl, fun z => by omega⟩
        · refine h_aload rfl l0 rfl ?_
          refine h_intv k_59 rfl ?_
          obtain ⟨wB, zB, hf49, oB', hzB⟩ := s_takeSign9 (kn := kn) oA.1 59 ⟨by omega, by omega⟩
          have oB : hO dH_rdk w0 wB := hO_tr oA (hO_mono dH_rdk3 oB')
          have eB : gF wB 43 4 = (n : Int) := by rw [fr_gF (t := 28) (c := 43) oB'.2 rfl (by decide +kernel) oA.1 (by decide +kernel)]; exact qA.2.1
          refine h_V2 rfl oA l0 (cI_of (show ztau 1 = some 2 from rfl) cit_2) rfl rfl hf49 ?_
          refine j_ne (kn := kn) (t := 1) (tgt := 48) (np := 46) rfl (by unfold R32; omega) (fun e50 => ?_) (fun e50 => ?_)
          · refine h_aload rfl l0 rfl ?_
            refine h_dup rfl rfl ?_
            refine h_getI rfl oB (fI_of (show ztau 43 = some 28 from rfl) fit_28_4) (fun b51a b51b => ?_)
            rw [eB] at b51a b51b ⊢
            refine h_intv k_1 rfl ?_
            refine h_iadd rfl ?_
            refine h_putI rfl oB (fI_of (show ztau 43 = some 28 from rfl) fit_28_4) rfl (by have := qA.2.2.2 (by omega); omega) (by have := qA.2.2.2 (by omega); omega) (fun w52 o52 q53a q53b q53c => ?_)
            refine h_goto rfl ?_
            have e1 : zA = 1 := by omega
            rw [e1] at qA
            exact ih (n + 1) _ _ (by omega) (by rw [q53a]; omega) (bkI_s hn hI qA q53a (fun j => by rw [q53c]; exact fr_gX (t := 29) (c := 44) oB'.2 rfl (by decide +kernel) oA.1 (by decide +kernel) j) (fun j => by rw [q53c]; exact fr_gX (t := 30) (c := 45) oB'.2 rfl (by decide +kernel) oA.1 (by decide +kernel) j)) o52 l0
          · refine h_intv k_0 rfl ?_
            refine h_zret (by omega) rfl ?_
            exact ⟨_, _, rfl, oB, Or.inl rfl, fun z => by omega⟩
theorem s_read1 {kn : sKn} {w0 : sW} (hw : wOk ZZ w0) : ∃ (w' : sW) (b : Int), fX1_read kn [.ref 43, .ref 1, .ref 14] w0 = some (some (hI b), w', 0, 0) ∧ hO dH_rdk w0 w' ∧ (b = 0 ∨ b = 1) ∧ (b = 1 → bkI w') := by
  have K : Tp (tX1_read kn) (fun r => ∃ (w' : sW) (b : Int), r = (some (hI b), w', 0, 0) ∧ hO dH_rdk w0 w' ∧ (b = 0 ∨ b = 1) ∧ (b = 1 → bkI w')) 0 (lv_args 0 [.ref 43, .ref 1, .ref 14], [], w0, 0, 0) := by
    have l0 : hL (lv_args 0 [.ref 43, .ref 1, .ref 14]) (lv_args 0 [.ref 43, .ref 1, .ref 14]) := ⟨fun _ _ h => h, fun q hq => by
      rcases List.mem_cons.mp hq with e | hq
      · rw [e]
        exact ⟨rfl, rfl⟩
      rcases List.mem_cons.mp hq with e | hq
      · rw [e]
        exact ⟨rfl, rfl⟩
      rcases List.mem_cons.mp hq with e | hq
      · rw [e]
        exact ⟨rfl, rfl⟩
      cases hq⟩
    have o0 : hO dH_rdk w0 w0 := hO_rf hw
    refine h_aload rfl l0 rfl ?_
    refine h_intv k_400 rfl ?_
    obtain ⟨wA, hf41, oA'⟩ := s_begin400 (kn := kn) o0.1 400 ⟨by omega, by omega⟩
    have oA : hO dH_rdk w0 wA := hO_tr o0 (hO_mono dH_rdk2 oA')
    refine h_W2 rfl o0 l0 (cI_of (show ztau 1 = some 2 from rfl) cit_2) rfl rfl hf41 ?_
    refine h_aload rfl l0 rfl ?_
    refine h_intv k_0 rfl ?_
    refine h_putI rfl oA (fI_of (show ztau 43 = some 28 from rfl) fit_28_4) rfl (by omega) (by omega) (fun w42 o42 q43a q43b q43c => ?_)
    exact rdk_l 41 0 _ _ rfl q43a ⟨by rw [q43a]; omega, fun i hi => by rw [q43a] at hi; omega⟩ o42 l0
  obtain ⟨r, h1, w2, b, h2, h3⟩ := h_meth1 (nL := 3) rfl K
  rw [h2] at h1
  exact ⟨w2, b, h1, h3⟩
theorem s_put8 {kn : sKn} {w : sW} (hw : wOk ZZ w) {k1 : Nat} (hk1 : ztau k1 = some 15) (x2 : Int) (hx2 : 0 ≤ x2 ∧ x2 ≤ 9) (x3 : Int) (hx3 : 0 ≤ x3 ∧ x3 ≤ 35) : ∃ (w' : sW) (z : Int), fX8_putPlank kn [.ref k1, hI x2, hI x3] w = some (some (hI z), w', 0, 0) ∧ hO dX8_putPlank w w' ∧ (z = 1 ∨ (2 ≤ z ∧ z ≤ 3) ∨ z = 0) := by
  obtain ⟨r, w', h1, h2, q, hq, σ', h3, h4, h5, h6⟩ := con_use (con_X8_putPlank_0 kn) (σ := [0, (k1 : Int), x2, x3]) (av := [.ref k1, hI x2, hI x3]) (w := w) rfl rfl ⟨av_r rfl, av_i rfl ⟨by omega, by omega⟩, av_i rfl ⟨by omega, by omega⟩, trivial⟩ (fun q hq => by cases hq) (gE_c ⟨_, rfl, hx3⟩ (gE_c ⟨_, rfl, hx2⟩ (gE_c ⟨_, rfl, _, rfl, hk1⟩ (gE_n)))) hw (by simp only [xa_eq, List.all_cons, List.all_nil, Bool.and_true, Bool.and_eq_true]; exact ⟨tw hk1, rfl, rfl⟩)
  rcases List.mem_cons.mp hq with rfl | hq
  · obtain ⟨z, z1, z2, z3⟩ := gS_i h4
    rw [z2] at h1
    have z4 := h3 0 0 rfl
    rw [z4] at z1
    cases z1
    refine ⟨w', _, h1, h2, ?_⟩
    omega
  rcases List.mem_cons.mp hq with rfl | hq
  · obtain ⟨z, z1, z2, z3⟩ := gS_i h4
    rw [z2] at h1
    have z5 := gE_at (a := 2) (b := 3) h6 (by first | exact List.mem_cons_self | exact List.mem_cons_of_mem _ List.mem_cons_self | exact List.mem_cons_of_mem _ (List.mem_cons_of_mem _ List.mem_cons_self) | exact List.mem_cons_of_mem _ (List.mem_cons_of_mem _ (List.mem_cons_of_mem _ List.mem_cons_self)) | decide) z1
    refine ⟨w', _, h1, h2, ?_⟩
    omega
  rcases List.mem_singleton.mp hq with rfl
  obtain ⟨z, z1, z2, z3⟩ := gS_i h4
  rw [z2] at h1
  have z4 := h3 0 0 rfl
  rw [z4] at z1
  cases z1
  refine ⟨w', _, h1, h2, ?_⟩
  omega
theorem s_burn8 {kn : sKn} {w : sW} (hw : wOk ZZ w) {k1 : Nat} (hk1 : ztau k1 = some 15) (x2 : Int) (hx2 : 0 ≤ x2 ∧ x2 ≤ 35) : ∃ (w' : sW) (z : Int), fX8_burnPlank kn [.ref k1, hI x2] w = some (some (hI z), w', 0, 0) ∧ hO dX8_burnPlank w w' ∧ (z = 1 ∨ z = 0) := by
  obtain ⟨r, w', h1, h2, q, hq, σ', h3, h4, h5, h6⟩ := con_use (con_X8_burnPlank_0 kn) (σ := [0, (k1 : Int), x2]) (av := [.ref k1, hI x2]) (w := w) rfl rfl ⟨av_r rfl, av_i rfl ⟨by omega, by omega⟩, trivial⟩ (fun q hq => by cases hq) (gE_c ⟨_, rfl, hx2⟩ (gE_c ⟨_, rfl, _, rfl, hk1⟩ (gE_n))) hw (by simp only [xa_eq, List.all_cons, List.all_nil, Bool.and_true, Bool.and_eq_true]; exact ⟨tw hk1, rfl⟩)
  rcases List.mem_cons.mp hq with rfl | hq
  · obtain ⟨z, z1, z2, z3⟩ := gS_i h4
    rw [z2] at h1
    have z4 := h3 0 0 rfl
    rw [z4] at z1
    cases z1
    refine ⟨w', _, h1, h2, ?_⟩
    omega
  rcases List.mem_singleton.mp hq with rfl
  obtain ⟨z, z1, z2, z3⟩ := gS_i h4
  rw [z2] at h1
  have z4 := h3 0 0 rfl
  rw [z4] at z1
  cases z1
  refine ⟨w', _, h1, h2, ?_⟩
  omega
theorem s_break8 {kn : sKn} {w : sW} (hw : wOk ZZ w) {k1 : Nat} (hk1 : ztau k1 = some 15) (x2 : Int) (hx2 : 0 ≤ x2 ∧ x2 ≤ 9) : ∃ (w' : sW) (z : Int), fX8_breakWord kn [.ref k1, hI x2] w = some (some (hI z), w', 0, 0) ∧ hO dX8_breakWord w w' ∧ (z = 1 ∨ z = 0) := by
  obtain ⟨r, w', h1, h2, q, hq, σ', h3, h4, h5, h6⟩ := con_use (con_X8_breakWord_0 kn) (σ := [0, (k1 : Int), x2]) (av := [.ref k1, hI x2]) (w := w) rfl rfl ⟨av_r rfl, av_i rfl ⟨by omega, by omega⟩, trivial⟩ (fun q hq => by cases hq) (gE_c ⟨_, rfl, hx2⟩ (gE_c ⟨_, rfl, _, rfl, hk1⟩ (gE_n))) hw (by simp only [xa_eq, List.all_cons, List.all_nil, Bool.and_true, Bool.and_eq_true]; exact ⟨tw hk1, rfl⟩)
  rcases List.mem_cons.mp hq with rfl | hq
  · obtain ⟨z, z1, z2, z3⟩ := gS_i h4
    rw [z2] at h1
    have z4 := h3 0 0 rfl
    rw [z4] at z1
    cases z1
    refine ⟨w', _, h1, h2, ?_⟩
    omega
  rcases List.mem_singleton.mp hq with rfl
  obtain ⟨z, z1, z2, z3⟩ := gS_i h4
  rw [z2] at h1
  have z4 := h3 0 0 rfl
  rw [z4] at z1
  cases z1
  refine ⟨w', _, h1, h2, ?_⟩
  omega
theorem s_hold8 {kn : sKn} {w : sW} (hw : wOk ZZ w) {k1 : Nat} (hk1 : ztau k1 = some 15) (x2 : Int) (hx2 : 0 ≤ x2 ∧ x2 ≤ 9) : ∃ (w' : sW) (z : Int), fX8_holdWord kn [.ref k1, hI x2] w = some (some (hI z), w', 0, 0) ∧ hO dX8_holdWord w w' ∧ (z = 1 ∨ z = 2 ∨ z = 0) := by
  obtain ⟨r, w', h1, h2, q, hq, σ', h3, h4, h5, h6⟩ := con_use (con_X8_holdWord_0 kn) (σ := [0, (k1 : Int), x2]) (av := [.ref k1, hI x2]) (w := w) rfl rfl ⟨av_r rfl, av_i rfl ⟨by omega, by omega⟩, trivial⟩ (fun q hq => by cases hq) (gE_c ⟨_, rfl, hx2⟩ (gE_c ⟨_, rfl, _, rfl, hk1⟩ (gE_n))) hw (by simp only [xa_eq, List.all_cons, List.all_nil, Bool.and_true, Bool.and_eq_true]; exact ⟨tw hk1, rfl⟩)
  rcases List.mem_cons.mp hq with rfl | hq
  · obtain ⟨z, z1, z2, z3⟩ := gS_i h4
    rw [z2] at h1
    have z4 := h3 0 0 rfl
    rw [z4] at z1
    cases z1
    refine ⟨w', _, h1, h2, ?_⟩
    omega
  rcases List.mem_cons.mp hq with rfl | hq
  · obtain ⟨z, z1, z2, z3⟩ := gS_i h4
    rw [z2] at h1
    have z4 := h3 0 0 rfl
    rw [z4] at z1
    cases z1
    refine ⟨w', _, h1, h2, ?_⟩
    omega
  rcases List.mem_singleton.mp hq with rfl
  obtain ⟨z, z1, z2, z3⟩ := gS_i h4
  rw [z2] at h1
  have z4 := h3 0 0 rfl
  rw [z4] at z1
  cases z1
  refine ⟨w', _, h1, h2, ?_⟩
  omega
theorem s_end8 {kn : sKn} {w : sW} (hw : wOk ZZ w) {k1 : Nat} (hk1 : ztau k1 = some 15) (x2 : Int) (hx2 : 0 ≤ x2 ∧ x2 ≤ 9) : ∃ (w' : sW) (z : Int), fX8_endLife kn [.ref k1, hI x2] w = some (some (hI z), w', 0, 0) ∧ hO dX8_endLife w w' ∧ (z = 1 ∨ z = 0) := by
  obtain ⟨r, w', h1, h2, q, hq, σ', h3, h4, h5, h6⟩ := con_use (con_X8_endLife_0 kn) (σ := [0, (k1 : Int), x2]) (av := [.ref k1, hI x2]) (w := w) rfl rfl ⟨av_r rfl, av_i rfl ⟨by omega, by omega⟩, trivial⟩ (fun q hq => by cases hq) (gE_c ⟨_, rfl, hx2⟩ (gE_c ⟨_, rfl, _, rfl, hk1⟩ (gE_n))) hw (by simp only [xa_eq, List.all_cons, List.all_nil, Bool.and_true, Bool.and_eq_true]; exact ⟨tw hk1, rfl⟩)
  rcases List.mem_cons.mp hq with rfl | hq
  · obtain ⟨z, z1, z2, z3⟩ := gS_i h4
    rw [z2] at h1
    have z4 := h3 0 0 rfl
    rw [z4] at z1
    cases z1
    refine ⟨w', _, h1, h2, ?_⟩
    omega
  rcases List.mem_singleton.mp hq with rfl
  obtain ⟨z, z1, z2, z3⟩ := gS_i h4
  rw [z2] at h1
  have z4 := h3 0 0 rfl
  rw [z4] at z1
  cases z1
  refine ⟨w', _, h1, h2, ?_⟩
  omega
theorem s_pass8 {kn : sKn} {w : sW} (hw : wOk ZZ w) {k1 : Nat} (hk1 : ztau k1 = some 15) {k2 : Nat} (hk2 : ztau k2 = some 5) (x3 : Int) (hx3 : (-2147483648) ≤ x3 ∧ x3 ≤ 2147483647) : ∃ (w' : sW) (z : Int), fX8_passDays kn [.ref k1, .ref k2, hI x3] w = some (some (hI z), w', 0, 0) ∧ hO dX8_passDays w w' ∧ ((0 ≤ z ∧ z ≤ 2147483647)) := by
  obtain ⟨r, w', h1, h2, q, hq, σ', h3, h4, h5, h6⟩ := con_use (con_X8_passDays_0 kn) (σ := [0, (k1 : Int), (k2 : Int), x3]) (av := [.ref k1, .ref k2, hI x3]) (w := w) rfl rfl ⟨av_r rfl, av_r rfl, av_i rfl ⟨by omega, by omega⟩, trivial⟩ (fun q hq => by cases hq) (gE_c ⟨_, rfl, hx3⟩ (gE_c ⟨_, rfl, _, rfl, hk2⟩ (gE_c ⟨_, rfl, _, rfl, hk1⟩ (gE_n)))) hw (by simp only [xa_eq, List.all_cons, List.all_nil, Bool.and_true, Bool.and_eq_true]; exact ⟨tw hk1, tw hk2, rfl⟩)
  rcases List.mem_singleton.mp hq with rfl
  obtain ⟨z, z1, z2, z3⟩ := gS_i h4
  rw [z2] at h1
  have z5 := gE_at (a := 0) (b := 2147483647) h6 (by first | exact List.mem_cons_self | exact List.mem_cons_of_mem _ List.mem_cons_self | exact List.mem_cons_of_mem _ (List.mem_cons_of_mem _ List.mem_cons_self) | exact List.mem_cons_of_mem _ (List.mem_cons_of_mem _ (List.mem_cons_of_mem _ List.mem_cons_self)) | decide) z1
  refine ⟨w', _, h1, h2, ?_⟩
  omega
theorem s_tryC {kn : sKn} {w : sW} (hw : wOk ZZ w) {k1 : Nat} (hk1 : ztau k1 = some 5) {k2 : Nat} (hk2 : ztau k2 = some 15) (x3 : Int) (hx3 : 0 ≤ x3 ∧ x3 ≤ 5) : ∃ (w' : sW) (z : Int), fX10_tryCrossing kn [.ref 49, .ref k1, .ref k2, hI x3] w = some (some (hI z), w', 0, 0) ∧ hO dX10_tryCrossing w w' ∧ (z = 1 ∨ z = 0 ∨ z = 2) := by
  obtain ⟨r, w', h1, h2, q, hq, σ', h3, h4, h5, h6⟩ := con_use (con_X10_tryCrossing_0 kn) (σ := [0, (k1 : Int), (k2 : Int), x3]) (av := [.ref 49, .ref k1, .ref k2, hI x3]) (w := w) rfl rfl ⟨av_c (k := 49) rfl, av_r rfl, av_r rfl, av_i rfl ⟨by omega, by omega⟩, trivial⟩ (fun q hq => by cases hq) (gE_c ⟨_, rfl, hx3⟩ (gE_c ⟨_, rfl, _, rfl, hk2⟩ (gE_c ⟨_, rfl, _, rfl, hk1⟩ (gE_n)))) hw (by simp only [xa_eq, List.all_cons, List.all_nil, Bool.and_true, Bool.and_eq_true]; exact ⟨rfl, tw hk1, tw hk2, rfl⟩)
  rcases List.mem_cons.mp hq with rfl | hq
  · obtain ⟨z, z1, z2, z3⟩ := gS_i h4
    rw [z2] at h1
    have z4 := h3 0 0 rfl
    rw [z4] at z1
    cases z1
    refine ⟨w', _, h1, h2, ?_⟩
    omega
  rcases List.mem_cons.mp hq with rfl | hq
  · obtain ⟨z, z1, z2, z3⟩ := gS_i h4
    rw [z2] at h1
    have z4 := h3 0 0 rfl
    rw [z4] at z1
    cases z1
    refine ⟨w', _, h1, h2, ?_⟩
    omega
  rcases List.mem_singleton.mp hq with rfl
  obtain ⟨z, z1, z2, z3⟩ := gS_i h4
  rw [z2] at h1
  have z4 := h3 0 0 rfl
  rw [z4] at z1
  cases z1
  refine ⟨w', _, h1, h2, ?_⟩
  omega
theorem s_behind_ {kn : sKn} {w : sW} (hw : wOk ZZ w) (x1 : Int) (hx1 : (-2147483648) ≤ x1 ∧ x1 ≤ 2147483647) (x2 : Int) (hx2 : (-2147483648) ≤ x2 ∧ x2 ≤ 2147483647) : ∃ (w' : sW) (z : Int), fX1_behind kn [hI x1, hI x2] w = some (some (hI z), w', 0, 0) ∧ hO dX1_behind w w' ∧ ((z = 0 ∧ 0 ≤ x2 ∧ x2 ≤ 0) ∨ R32 z) := by
  obtain ⟨r, w', h1, h2, q, hq, σ', h3, h4, h5, h6⟩ := con_use (con_X1_behind_0 kn) (σ := [0, x1, x2]) (av := [hI x1, hI x2]) (w := w) rfl rfl ⟨av_i rfl ⟨by omega, by omega⟩, av_i rfl ⟨by omega, by omega⟩, trivial⟩ (fun q hq => by cases hq) (gE_c ⟨_, rfl, hx2⟩ (gE_c ⟨_, rfl, hx1⟩ (gE_n))) hw rfl
  rcases List.mem_cons.mp hq with rfl | hq
  · obtain ⟨z, z1, z2, z3⟩ := gS_i h4
    rw [z2] at h1
    have z4 := h3 0 0 rfl
    rw [z4] at z1
    cases z1
    have y2 := gE_at (a := 0) (b := 0) h6 (by first | exact List.mem_cons_self | exact List.mem_cons_of_mem _ List.mem_cons_self | exact List.mem_cons_of_mem _ (List.mem_cons_of_mem _ List.mem_cons_self) | exact List.mem_cons_of_mem _ (List.mem_cons_of_mem _ (List.mem_cons_of_mem _ List.mem_cons_self)) | decide) (h3 2 _ rfl)
    refine ⟨w', _, h1, h2, ?_⟩
    exact (Or.inl (by omega))
  rcases List.mem_singleton.mp hq with rfl
  obtain ⟨z, z1, z2, z3⟩ := gS_i h4
  rw [z2] at h1
  have z5 := gE_at (a := (-2147483648)) (b := 2147483647) h6 (by first | exact List.mem_cons_self | exact List.mem_cons_of_mem _ List.mem_cons_self | exact List.mem_cons_of_mem _ (List.mem_cons_of_mem _ List.mem_cons_self) | exact List.mem_cons_of_mem _ (List.mem_cons_of_mem _ (List.mem_cons_of_mem _ List.mem_cons_self)) | decide) z1
  refine ⟨w', _, h1, h2, ?_⟩
  exact (Or.inr (z3))
theorem s_behind {kn : sKn} {w : sW} (hw : wOk ZZ w) (x1 : Int) (hx1 : (-2147483648) ≤ x1 ∧ x1 ≤ 2147483647) (x2 : Int) (hx2 : (-2147483648) ≤ x2 ∧ x2 ≤ 2147483647) : ∃ z : Int, fX1_behind kn [hI x1, hI x2] w = some (some (hI z), w, 0, 0) ∧ ((z = 0 ∧ 0 ≤ x2 ∧ x2 ≤ 0) ∨ R32 z) := by
  obtain ⟨w', z, h1, h2, h3⟩ := s_behind_ (kn := kn) hw x1 hx1 x2 hx2
  have e : w' = w := fr_nil hw h2.1 h2.2
  subst e
  exact ⟨z, h1, h3⟩
def dH_lv : List (Nat × Nat) := dX8_putPlank ++ dX8_burnPlank ++ dX8_breakWord ++ dX8_holdWord ++ dX8_endLife ++ dX8_passDays ++ dX10_tryCrossing
theorem dH_lv0 : msub dX8_putPlank dH_lv = true := by decide +kernel
theorem dH_lv1 : msub dX8_burnPlank dH_lv = true := by decide +kernel
theorem dH_lv2 : msub dX8_breakWord dH_lv = true := by decide +kernel
theorem dH_lv3 : msub dX8_holdWord dH_lv = true := by decide +kernel
theorem dH_lv4 : msub dX8_endLife dH_lv = true := by decide +kernel
theorem dH_lv5 : msub dX8_passDays dH_lv = true := by decide +kernel
theorem dH_lv6 : msub dX10_tryCrossing dH_lv = true := by decide +kernel
theorem s_liveLine {kn : sKn} {w0 : sW} (hw : wOk ZZ w0) (k : Nat) (hk : k ≤ 39) (hg : bkG w0 k) : ∃ (w' : sW) (b : Int), fX1_liveLine kn [.ref 43, .ref 14, .ref 24, .ref 49, hI k] w0 = some (some (hI b), w', 0, 0) ∧ hO dH_lv w0 w' ∧ R32 b := by
  unfold bkG at hg
  have K : Tp (tX1_liveLine kn) (fun r => ∃ (w' : sW) (b : Int), r = (some (hI b), w', 0, 0) ∧ hO dH_lv w0 w' ∧ R32 b) 0 (lv_args 0 [.ref 43, .ref 14, .ref 24, .ref 49, hI k], [], w0, 0, 0) := by
    have l0 : hL (lv_args 0 [.ref 43, .ref 14, .ref 24, .ref 49, hI k]) (lv_args 0 [.ref 43, .ref 14, .ref 24, .ref 49, hI k]) := ⟨fun _ _ h => h, fun q hq => by
      rcases List.mem_cons.mp hq with e | hq
      · rw [e]
        exact ⟨rfl, rfl⟩
      rcases List.mem_cons.mp hq with e | hq
      · rw [e]
        exact ⟨rfl, rfl⟩
      rcases List.mem_cons.mp hq with e | hq
      · rw [e]
        exact ⟨rfl, rfl⟩
      rcases List.mem_cons.mp hq with e | hq
      · rw [e]
        exact ⟨rfl, rfl⟩
      rcases List.mem_cons.mp hq with e | hq
      · rw [e]
        exact ⟨rfl, rfl⟩
      cases hq⟩
    have o0 : hO dH_lv w0 w0 := hO_rf hw
    refine h_aload rfl l0 rfl ?_
    refine h_getR rfl o0 frc_43_2 ?_
    refine h_iload rfl l0 rfl ?_
    refine h_ialdj (k) rfl o0 (aI_of (show ztau 46 = some 31 from rfl) ait_31) rfl (by omega) (by omega) (fun b41a b41b => ?_)
    have b41c := gX_in o0 (aI_of (show ztau 46 = some 31 from rfl) ait_31) (aR_of (show ztau 46 = some 31 from rfl) art_31) (j := k) (by omega) (by omega) (by omega)
    obtain ⟨rw, hrw⟩ : ∃ n : Nat, gX w0 46 k = (n : Int) := ⟨(gX w0 46 k).toNat, by omega⟩
    rw [hrw] at b41a b41b b41c ⊢
    refine h_istore rfl l0 (fun vl42 l42 => ?_)
    refine h_intv k_3 rfl ?_
    refine h_iload rfl l42 rfl ?_
    refine h_imul rfl ?_
    refine h_aload rfl l42 rfl ?_
    refine h_getR rfl o0 frc_43_3 ?_
    refine h_iload rfl l42 rfl ?_
    refine h_ialdj (k) rfl o0 (aI_of (show ztau 47 = some 32 from rfl) ait_32) rfl (by omega) (by omega) (fun b43a b43b => ?_)
    have b43c := gX_in o0 (aI_of (show ztau 47 = some 32 from rfl) ait_32) (aR_of (show ztau 47 = some 32 from rfl) art_32) (j := k) (by omega) (by omega) (by omega)
    obtain ⟨sc, hsc⟩ : ∃ n : Nat, gX w0 47 k = (n : Int) := ⟨(gX w0 47 k).toNat, by omega⟩
    rw [hsc] at b43a b43b b43c ⊢
    refine h_iadd rfl ?_
    refine h_istore rfl l42 (fun vl44 l44 => ?_)
    refine h_aload rfl l44 rfl ?_
    refine h_getR rfl o0 frc_43_0 ?_
    refine h_iload rfl l44 rfl ?_
    refine h_ialdj (k) rfl o0 (aI_of (show ztau 44 = some 29 from rfl) ait_29) rfl (by omega) (by omega) (fun b45a b45b => ?_)
    have g1 := hg.1
    have g2 := hg.2
    by_cases e46_0 : (gX w0 44 (k)) = 8
    · refine h_tab 8 e46_0 (by unfold R32; omega) rfl (by omega) (by omega) rfl ?_
      refine h_iload rfl l44 rfl ?_
      refine h_aload rfl l44 rfl ?_
      refine h_getI rfl o0 (fI_of (show ztau 14 = some 5 from rfl) fit_5_0) (fun b47a b47b => ?_)
      refine i_lt (kn := kn) (t := 2) (tgt := 82) (np := 77) rfl (by unfold R32; omega) (by unfold R32; omega) (fun e48 => ?_) (fun e48 => ?_)
      · refine h_aload rfl l44 rfl ?_
        refine h_aload rfl l44 rfl ?_
        refine h_getR rfl o0 frc_43_1 ?_
        refine h_iload rfl l44 rfl ?_
        refine h_ialdj (k) rfl o0 (aI_of (show ztau 45 = some 30 from rfl) ait_30) rfl (by omega) (by omega) (fun b49a b49b => ?_)
        have b49c := gX_in o0 (aI_of (show ztau 45 = some 30 from rfl) ait_30) (aR_of (show ztau 45 = some 30 from rfl) art_30) (j := k) (by omega) (by omega) (by omega)
        refine h_iload rfl l44 rfl ?_
        obtain ⟨wA, zA, hf50, oA', hzA⟩ := s_put8 (kn := kn) o0.1 (show ztau 24 = some 15 from rfl) (gX w0 45 (k)) ⟨by omega, by omega⟩ ((3 * rw + sc : Nat) : Int) ⟨by omega, by omega⟩
        have oA : hO dH_lv w0 wA := hO_tr o0 (hO_mono dH_lv0 oA')
        refine h_V3 rfl o0 l44 (cI_of (show ztau 24 = some 15 from rfl) cit_15) rfl rfl hf50 ?_
        refine h_iret rfl ?_
        exact ⟨_, _, rfl, oA, by unfold R32 at *; omega⟩
      · refine h_intv k_9 rfl ?_
        refine h_goto rfl ?_
        refine h_iret rfl ?_
        exact ⟨_, _, rfl, o0, by unfold R32 at *; omega⟩
    by_cases e46_1 : (gX w0 44 (k)) = 9
    · refine h_tab 9 e46_1 (by unfold R32; omega) rfl (by omega) (by omega) rfl ?_
      refine h_intv k_20 rfl ?_
      refine h_aload rfl l44 rfl ?_
      refine h_aload rfl l44 rfl ?_
      refine h_getR rfl o0 frc_43_1 ?_
      refine h_iload rfl l44 rfl ?_
      refine h_ialdj (k) rfl o0 (aI_of (show ztau 45 = some 30 from rfl) ait_30) rfl (by omega) (by omega) (fun b51a b51b => ?_)
      have b51c := gX_in o0 (aI_of (show ztau 45 = some 30 from rfl) ait_30) (aR_of (show ztau 45 = some 30 from rfl) art_30) (j := k) (by omega) (by omega) (by omega)
      obtain ⟨wA, zA, hf52, oA', hzA⟩ := s_break8 (kn := kn) o0.1 (show ztau 24 = some 15 from rfl) (gX w0 45 (k)) ⟨by omega, by omega⟩
      have oA : hO dH_lv w0 wA := hO_tr o0 (hO_mono dH_lv2 oA')
      refine h_V2 rfl o0 l44 (cI_of (show ztau 24 = some 15 from rfl) cit_15) rfl rfl hf52 ?_
      have rA : R32 zA := by unfold R32 at *; omega
      obtain ⟨z53, hf53, hz53⟩ := s_behind (kn := kn) oA.1 20 ⟨by omega, by omega⟩ zA ⟨rA.1, rA.2⟩
      have r53 : R32 z53 := by unfold R32 at *; omega
      refine h_S2 rfl oA l44 rfl rfl hf53 ?_
      refine h_iret rfl ?_
      exact ⟨_, _, rfl, oA, by unfold R32 at *; omega⟩
    by_cases e46_2 : (gX w0 44 (k)) = 10
    · refine h_tab 10 e46_2 (by unfold R32; omega) rfl (by omega) (by omega) rfl ?_
      refine h_intv k_30 rfl ?_
      refine h_aload rfl l44 rfl ?_
      refine h_aload rfl l44 rfl ?_
      refine h_getR rfl o0 frc_43_1 ?_
      refine h_iload rfl l44 rfl ?_
      refine h_ialdj (k) rfl o0 (aI_of (show ztau 45 = some 30 from rfl) ait_30) rfl (by omega) (by omega) (fun b54a b54b => ?_)
      have b54c := gX_in o0 (aI_of (show ztau 45 = some 30 from rfl) ait_30) (aR_of (show ztau 45 = some 30 from rfl) art_30) (j := k) (by omega) (by omega) (by omega)
      obtain ⟨wA, zA, hf55, oA', hzA⟩ := s_hold8 (kn := kn) o0.1 (show ztau 24 = some 15 from rfl) (gX w0 45 (k)) ⟨by omega, by omega⟩
      have oA : hO dH_lv w0 wA := hO_tr o0 (hO_mono dH_lv3 oA')
      refine h_V2 rfl o0 l44 (cI_of (show ztau 24 = some 15 from rfl) cit_15) rfl rfl hf55 ?_
      have rA : R32 zA := by unfold R32 at *; omega
      obtain ⟨z56, hf56, hz56⟩ := s_behind (kn := kn) oA.1 30 ⟨by omega, by omega⟩ zA ⟨rA.1, rA.2⟩
      have r56 : R32 z56 := by unfold R32 at *; omega
      refine h_S2 rfl oA l44 rfl rfl hf56 ?_
      refine h_iret rfl ?_
      exact ⟨_, _, rfl, oA, by unfold R32 at *; omega⟩
    by_cases e46_3 : (gX w0 44 (k)) = 11
    · refine h_tab 11 e46_3 (by unfold R32; omega) rfl (by omega) (by omega) rfl ?_
      refine h_intv k_40 rfl ?_
      refine h_aload rfl l44 rfl ?_
      refine h_aload rfl l44 rfl ?_
      refine h_getR rfl o0 frc_43_1 ?_
      refine h_iload rfl l44 rfl ?_
      refine h_ialdj (k) rfl o0 (aI_of (show ztau 45 = some 30 from rfl) ait_30) rfl (by omega) (by omega) (fun b57a b57b => ?_)
      have b57c := gX_in o0 (aI_of (show ztau 45 = some 30 from rfl) ait_30) (aR_of (show ztau 45 = some 30 from rfl) art_30) (j := k) (by omega) (by omega) (by omega)
      obtain ⟨wA, zA, hf58, oA', hzA⟩ := s_end8 (kn := kn) o0.1 (show ztau 24 = some 15 from rfl) (gX w0 45 (k)) ⟨by omega, by omega⟩
      have oA : hO dH_lv w0 wA := hO_tr o0 (hO_mono dH_lv4 oA')
      refine h_V2 rfl o0 l44 (cI_of (show ztau 24 = some 15 from rfl) cit_15) rfl rfl hf58 ?_
      have rA : R32 zA := by unfold R32 at *; omega
      obtain ⟨z59, hf59, hz59⟩ := s_behind (kn := kn) oA.1 40 ⟨by omega, by omega⟩ zA ⟨rA.1, rA.2⟩
      have r59 : R32 z59 := by unfold R32 at *; omega
      refine h_S2 rfl oA l44 rfl rfl hf59 ?_
      refine h_iret rfl ?_
      exact ⟨_, _, rfl, oA, by unfold R32 at *; omega⟩
    by_cases e46_4 : (gX w0 44 (k)) = 12
    · refine h_tab 12 e46_4 (by unfold R32; omega) rfl (by omega) (by omega) rfl ?_
      refine h_iload rfl l44 rfl ?_
      refine h_aload rfl l44 rfl ?_
      refine h_getI rfl o0 (fI_of (show ztau 14 = some 5 from rfl) fit_5_0) (fun b60a b60b => ?_)
      refine i_lt (kn := kn) (t := 2) (tgt := 110) (np := 105) rfl (by unfold R32; omega) (by unfold R32; omega) (fun e61 => ?_) (fun e61 => ?_)
      · refine h_intv k_10 rfl ?_
        refine h_aload rfl l44 rfl ?_
        refine h_iload rfl l44 rfl ?_
        obtain ⟨wA, zA, hf62, oA', hzA⟩ := s_burn8 (kn := kn) o0.1 (show ztau 24 = some 15 from rfl) ((3 * rw + sc : Nat) : Int) ⟨by omega, by omega⟩
        have oA : hO dH_lv w0 wA := hO_tr o0 (hO_mono dH_lv1 oA')
        refine h_V2 rfl o0 l44 (cI_of (show ztau 24 = some 15 from rfl) cit_15) rfl rfl hf62 ?_
        have rA : R32 zA := by unfold R32 at *; omega
        obtain ⟨z63, hf63, hz63⟩ := s_behind (kn := kn) oA.1 10 ⟨by omega, by omega⟩ zA ⟨rA.1, rA.2⟩
        have r63 : R32 z63 := by unfold R32 at *; omega
        refine h_S2 rfl oA l44 rfl rfl hf63 ?_
        refine h_iret rfl ?_
        exact ⟨_, _, rfl, oA, by unfold R32 at *; omega⟩
      · refine h_intv k_19 rfl ?_
        refine h_goto rfl ?_
        refine h_iret rfl ?_
        exact ⟨_, _, rfl, o0, by unfold R32 at *; omega⟩
    by_cases e46_5 : (gX w0 44 (k)) = 13
    · refine h_tab 13 e46_5 (by unfold R32; omega) rfl (by omega) (by omega) rfl ?_
      refine h_aload rfl l44 rfl ?_
      refine h_aload rfl l44 rfl ?_
      refine h_aload rfl l44 rfl ?_
      refine h_aload rfl l44 rfl ?_
      refine h_getR rfl o0 frc_43_1 ?_
      refine h_iload rfl l44 rfl ?_
      refine h_ialdj (k) rfl o0 (aI_of (show ztau 45 = some 30 from rfl) ait_30) rfl (by omega) (by omega) (fun b64a b64b => ?_)
      have b64c := gX_in o0 (aI_of (show ztau 45 = some 30 from rfl) ait_30) (aR_of (show ztau 45 = some 30 from rfl) art_30) (j := k) (by omega) (by omega) (by omega)
      obtain ⟨wA, zA, hf65, oA', hzA⟩ := s_tryC (kn := kn) o0.1 (show ztau 14 = some 5 from rfl) (show ztau 24 = some 15 from rfl) (gX w0 45 (k)) ⟨by omega, by omega⟩
      have oA : hO dH_lv w0 wA := hO_tr o0 (hO_mono dH_lv6 oA')
      refine h_V4 rfl o0 l44 (cI_of (show ztau 49 = some 34 from rfl) cit_34) rfl rfl hf65 ?_
      refine h_intv k_1 rfl ?_
      refine i_ne (kn := kn) (t := 1) (tgt := 195) (np := 190) rfl (by unfold R32; omega) (by unfold R32; omega) (fun e66 => ?_) (fun e66 => ?_)
      · refine h_intv k_0 rfl ?_
        refine h_iret rfl ?_
        exact ⟨_, _, rfl, oA, by unfold R32 at *; omega⟩
      · refine h_intv k_51 rfl ?_
        refine h_goto rfl ?_
        refine h_iret rfl ?_
        exact ⟨_, _, rfl, oA, by unfold R32 at *; omega⟩
    refine h_tabd rfl (by unfold R32; omega) (by omega) ?_
    refine h_aload rfl l44 rfl ?_
    refine h_getI rfl o0 (fI_of (show ztau 24 = some 15 from rfl) fit_15_0) (fun b67a b67b => ?_)
    refine h_aload rfl l44 rfl ?_
    refine h_getR rfl o0 frc_43_2 ?_
    refine h_iload rfl l44 rfl ?_
    refine h_ialdj (k) rfl o0 (aI_of (show ztau 46 = some 31 from rfl) ait_31) rfl (by omega) (by omega) (fun b68a b68b => ?_)
    refine h_iaddv rfl (fun z70 rz70 => ?_)
    have rz1 := rz70.1
    have rz2 := rz70.2
    refine h_intv k_400 rfl ?_
    refine i_le (kn := kn) (t := 5) (tgt := 218) (np := 215) rfl (by unfold R32; omega) (by unfold R32; omega) (fun e69 => ?_) (fun e69 => ?_)
    · refine h_aload rfl l44 rfl ?_
      refine h_aload rfl l44 rfl ?_
      refine h_aload rfl l44 rfl ?_
      refine h_getR rfl o0 frc_43_2 ?_
      refine h_iload rfl l44 rfl ?_
      refine h_ialdj (k) rfl o0 (aI_of (show ztau 46 = some 31 from rfl) ait_31) rfl (by omega) (by omega) (fun b70a b70b => ?_)
      obtain ⟨wA, zA, hf71, oA', hzA⟩ := s_pass8 (kn := kn) o0.1 (show ztau 24 = some 15 from rfl) (show ztau 14 = some 5 from rfl) (gX w0 46 (k)) ⟨by omega, by omega⟩
      have oA : hO dH_lv w0 wA := hO_tr o0 (hO_mono dH_lv5 oA')
      refine h_V3 rfl o0 l44 (cI_of (show ztau 24 = some 15 from rfl) cit_15) rfl rfl hf71 ?_
      refine h_pop rfl rfl ?_
      refine h_intv k_0 rfl ?_
      refine h_iret rfl ?_
      exact ⟨_, _, rfl, oA, by unfold R32 at *; omega⟩
    · refine h_intv k_61 rfl ?_
      refine h_iret rfl ?_
      exact ⟨_, _, rfl, o0, by unfold R32 at *; omega⟩
  obtain ⟨r, h1, w2, b, h2, h3⟩ := h_meth1 (nL := 7) rfl K
  rw [h2] at h1
  exact ⟨w2, b, h1, h3⟩
def dH_lw : List (Nat × Nat) := (33, 999) :: dH_lv
theorem dH_lw1 : msub dH_lv dH_lw = true := by decide +kernel
theorem lv_e {kn : sKn} {w0 w : sW} {lv : List (Nat × Value)} {k : Nat} {why : Int} (hk : k ≤ 41) (hy : R32 why) (o0 : hO dH_lw w0 w) (l0 : hL lv [(0, .ref 43), (1, .ref 14), (2, .ref 24), (3, .ref 49), (4, hI k), (5, hI why)]) : Tp (tX1_live kn) (fun r => ∃ (w' : sW) (b : Int), r = (some (hI b), w', 0, 0) ∧ hO dH_lw w0 w' ∧ R32 b) 42 (lv, [], w, 0, 0) := by
  have hy1 := hy.1
  have hy2 := hy.2
  refine h_aload rfl l0 rfl ?_
  refine h_getR rfl o0 frc_43_5 ?_
  refine h_intv k_0 rfl ?_
  refine h_iload rfl l0 rfl ?_
  refine h_iastj (0) rfl o0 (aI_of (show ztau 48 = some 33 from rfl) ait_33) rfl rfl (aP_of (show ztau 48 = some 33 from rfl) apt_33) (by omega) (by omega) (by omega) (by omega) (by omega) (by unfold R32; omega) (fun w41 o41 q42a q42b q42c => ?_)
  refine h_aload rfl l0 rfl ?_
  refine h_getR rfl o41 frc_43_5 ?_
  refine h_intv k_1 rfl ?_
  refine h_iload rfl l0 rfl ?_
  refine h_iastj (1) rfl o41 (aI_of (show ztau 48 = some 33 from rfl) ait_33) rfl rfl (aP_of (show ztau 48 = some 33 from rfl) apt_33) (by omega) (by omega) (by omega) (by omega) (by omega) (by unfold R32; omega) (fun w43 o43 q44a q44b q44c => ?_)
  refine h_aload rfl l0 rfl ?_
  refine h_getR rfl o43 frc_43_5 ?_
  refine h_intv k_2 rfl ?_
  refine h_aload rfl l0 rfl ?_
  refine h_getI rfl o43 (fI_of (show ztau 24 = some 15 from rfl) fit_15_0) (fun b45a b45b => ?_)
  refine h_iastj (2) rfl o43 (aI_of (show ztau 48 = some 33 from rfl) ait_33) rfl rfl (aP_of (show ztau 48 = some 33 from rfl) apt_33) (by omega) (by omega) (by omega) (by omega) (by omega) (by unfold R32; omega) (fun w46 o46 q47a q47b q47c => ?_)
  refine h_aload rfl l0 rfl ?_
  refine h_getR rfl o46 frc_43_5 ?_
  refine h_intv k_3 rfl ?_
  refine h_aload rfl l0 rfl ?_
  refine h_getI rfl o46 (fI_of (show ztau 24 = some 15 from rfl) fit_15_2) (fun b48a b48b => ?_)
  refine h_iastj (3) rfl o46 (aI_of (show ztau 48 = some 33 from rfl) ait_33) rfl rfl (aP_of (show ztau 48 = some 33 from rfl) apt_33) (by omega) (by omega) (by omega) (by omega) (by omega) (by unfold R32; omega) (fun w49 o49 q50a q50b q50c => ?_)
  refine h_iload rfl l0 rfl ?_
  refine j_ne (kn := kn) (t := 1) (tgt := 87) (np := 83) rfl (by unfold R32; omega) (fun e51 => ?_) (fun e51 => ?_)
  · refine h_iload rfl l0 rfl ?_
    refine h_iret rfl ?_
    exact ⟨_, _, rfl, o49, by unfold R32; omega⟩
  · refine h_intv k_n1 rfl ?_
    refine h_goto rfl ?_
    refine h_iret rfl ?_
    exact ⟨_, _, rfl, o49, by unfold R32; omega⟩
theorem lv_x {kn : sKn} {w0 w : sW} {lv : List (Nat × Value)} {k : Nat} {why : Int} (hk : k ≤ 41) (h0 : why ≠ 0) (hy : R32 why) (h40 : gF w 43 4 ≤ 40) (o0 : hO dH_lw w0 w) (l0 : hL lv [(0, .ref 43), (1, .ref 14), (2, .ref 24), (3, .ref 49), (4, hI k), (5, hI why)]) : Tp (tX1_live kn) (fun r => ∃ (w' : sW) (b : Int), r = (some (hI b), w', 0, 0) ∧ hO dH_lw w0 w' ∧ R32 b) 6 (lv, [], w, 0, 0) := by
  have hy1 := hy.1
  have hy2 := hy.2
  refine h_iload rfl l0 rfl ?_
  refine h_aload rfl l0 rfl ?_
  refine h_getI rfl o0 (fI_of (show ztau 43 = some 28 from rfl) fit_28_4) (fun b41a b41b => ?_)
  refine i_ge (kn := kn) (t := 3) (tgt := 42) (np := 15) rfl (by unfold R32; omega) (by unfold R32; omega) (fun e42 => ?_) (fun e42 => ?_)
  · exact lv_e (by omega) hy o0 l0
  · refine h_iload rfl l0 rfl ?_
    refine j_ne (kn := kn) (t := 1) (tgt := 42) (np := 20) rfl (by unfold R32; omega) (fun e43 => ?_) (fun e43 => ?_)
    · exact lv_e (by omega) hy o0 l0
    · omega
theorem lv_l {kn : sKn} {w0 : sW} : ∀ (m k : Nat) (w : sW) (lv : List (Nat × Value)) (why y : Int), k + m = 40 → y = (k : Int) → why = 0 → bkI w → hO dH_lw w0 w → hL lv [(0, .ref 43), (1, .ref 14), (2, .ref 24), (3, .ref 49), (4, hI y), (5, hI why)] → Tp (tX1_live kn) (fun r => ∃ (w' : sW) (b : Int), r = (some (hI b), w', 0, 0) ∧ hO dH_lw w0 w' ∧ R32 b) 6 (lv, [], w, 0, 0) := by
  intro m
  induction m with
  | zero =>
    intro k w lv why y hm hy hwhy hI o0 l0
    subst hy
    refine h_iload rfl l0 rfl ?_
    refine h_aload rfl l0 rfl ?_
    refine h_getI rfl o0 (fI_of (show ztau 43 = some 28 from rfl) fit_28_4) (fun b41a b41b => ?_)
    have h40 := hI.1
    refine i_ge (kn := kn) (t := 3) (tgt := 42) (np := 15) rfl (by unfold R32; omega) (by unfold R32; omega) (fun e42 => ?_) (fun e42 => ?_)
    · exact lv_e (by omega) ⟨by omega, by omega⟩ o0 l0
    · omega
  | succ m ih =>
    intro k w lv why y hm hy hwhy hI o0 l0
    subst hy
    refine h_iload rfl l0 rfl ?_
    refine h_aload rfl l0 rfl ?_
    refine h_getI rfl o0 (fI_of (show ztau 43 = some 28 from rfl) fit_28_4) (fun b41a b41b => ?_)
    have h40 := hI.1
    refine i_ge (kn := kn) (t := 3) (tgt := 42) (np := 15) rfl (by unfold R32; omega) (by unfold R32; omega) (fun e42 => ?_) (fun e42 => ?_)
    · exact lv_e (by omega) ⟨by omega, by omega⟩ o0 l0
    · refine h_iload rfl l0 rfl ?_
      refine j_ne (kn := kn) (t := 1) (tgt := 42) (np := 20) rfl (by unfold R32; omega) (fun e43 => ?_) (fun e43 => ?_)
      · exact lv_e (by omega) ⟨by omega, by omega⟩ o0 l0
      · refine h_aload rfl l0 rfl ?_
        refine h_aload rfl l0 rfl ?_
        refine h_aload rfl l0 rfl ?_
        refine h_aload rfl l0 rfl ?_
        refine h_iload rfl l0 rfl ?_
        obtain ⟨wA, zA, hf44, oA', rA⟩ := s_liveLine (kn := kn) o0.1 k (by omega) (hI.2 k (by omega))
        have oA : hO dH_lw w0 wA := hO_tr o0 (hO_mono dH_lw1 oA')
        have rA1 := rA.1
        have rA2 := rA.2
        have iA := bkI_fr o0.1 oA' (by decide +kernel) (by decide +kernel) (by decide +kernel) hI
        refine h_V5 rfl o0 l0 (cI_of (show ztau 43 = some 28 from rfl) cit_28) rfl rfl hf44 ?_
        refine h_istore rfl l0 (fun vl45 l45 => ?_)
        refine h_iload rfl l45 rfl ?_
        refine j_ne (kn := kn) (t := 1) (tgt := 6) (np := 36) rfl (by unfold R32; omega) (fun e46 => ?_) (fun e46 => ?_)
        · exact lv_x (by omega) (by omega) rA iA.1 oA l45
        · refine h_iincv k_1 rfl l45 rfl (fun vl47 l47 => ?_)
          refine h_goto rfl ?_
          exact ih (k + 1) _ _ _ ((k : Int) + 1) (by omega) (by omega) (by omega) iA oA l47
theorem s_live {kn : sKn} {w0 : sW} (hw : wOk ZZ w0) (hJ : bkI w0) : ∃ (w' : sW) (b : Int), fX1_live kn [.ref 43, .ref 14, .ref 24, .ref 49] w0 = some (some (hI b), w', 0, 0) ∧ hO dH_lw w0 w' ∧ R32 b := by
  have K : Tp (tX1_live kn) (fun r => ∃ (w' : sW) (b : Int), r = (some (hI b), w', 0, 0) ∧ hO dH_lw w0 w' ∧ R32 b) 0 (lv_args 0 [.ref 43, .ref 14, .ref 24, .ref 49], [], w0, 0, 0) := by
    have l0 : hL (lv_args 0 [.ref 43, .ref 14, .ref 24, .ref 49]) (lv_args 0 [.ref 43, .ref 14, .ref 24, .ref 49]) := ⟨fun _ _ h => h, fun q hq => by
      rcases List.mem_cons.mp hq with e | hq
      · rw [e]
        exact ⟨rfl, rfl⟩
      rcases List.mem_cons.mp hq with e | hq
      · rw [e]
        exact ⟨rfl, rfl⟩
      rcases List.mem_cons.mp hq with e | hq
      · rw [e]
        exact ⟨rfl, rfl⟩
      rcases List.mem_cons.mp hq with e | hq
      · rw [e]
        exact ⟨rfl, rfl⟩
      cases hq⟩
    have o0 : hO dH_lw w0 w0 := hO_rf hw
    refine h_intv k_0 rfl ?_
    refine h_istore rfl l0 (fun vl41 l41 => ?_)
    refine h_intv k_0 rfl ?_
    refine h_istore rfl l41 (fun vl42 l42 => ?_)
    exact lv_l 40 0 _ _ 0 0 rfl rfl rfl hJ o0 l42
  obtain ⟨r, h1, w2, b, h2, h3⟩ := h_meth1 (nL := 6) rfl K
  rw [h2] at h1
  exact ⟨w2, b, h1, h3⟩
theorem s_remember {kn : sKn} {w : sW} (hw : wOk ZZ w)  : ∃ (w' : sW), fX11_rememberState kn [.ref 0] w = some (none, w', 0, 0) ∧ hO dX11_rememberState w w' := by
  obtain ⟨r, w', h1, h2, q, hq, σ', h3, h4, h5, h6⟩ := con_use (con_X11_rememberState_0 kn) (σ := [0]) (av := [.ref 0]) (w := w) rfl rfl ⟨av_c (k := 0) rfl, trivial⟩ (fun q hq => by cases hq) (gE_n) hw rfl
  rcases List.mem_singleton.mp hq with rfl
  rw [gS_v h4] at h1
  exact ⟨w', h1, h2⟩
theorem s_keepR {kn : sKn} {w : sW} (hw : wOk ZZ w)  : ∃ (w' : sW), fX11_keepRemembered kn [.ref 0] w = some (none, w', 0, 0) ∧ hO dX11_keepRemembered w w' := by
  obtain ⟨r, w', h1, h2, q, hq, σ', h3, h4, h5, h6⟩ := con_use (con_X11_keepRemembered_0 kn) (σ := [0]) (av := [.ref 0]) (w := w) rfl rfl ⟨av_c (k := 0) rfl, trivial⟩ (fun q hq => by cases hq) (gE_n) hw rfl
  rcases List.mem_singleton.mp hq with rfl
  rw [gS_v h4] at h1
  exact ⟨w', h1, h2⟩
theorem s_copy8 {kn : sKn} {w : sW} (hw : wOk ZZ w) {k1 : Nat} (hk1 : ztau k1 = some 15) {k2 : Nat} (hk2 : ztau k2 = some 15) : ∃ (w' : sW), fX8_copyOf kn [.ref k1, .ref k2] w = some (none, w', 0, 0) ∧ hO dX8_copyOf w w' := by
  obtain ⟨r, w', h1, h2, q, hq, σ', h3, h4, h5, h6⟩ := con_use (con_X8_copyOf_0 kn) (σ := [0, (k1 : Int), (k2 : Int)]) (av := [.ref k1, .ref k2]) (w := w) rfl rfl ⟨av_r rfl, av_r rfl, trivial⟩ (fun q hq => by cases hq) (gE_c ⟨_, rfl, _, rfl, hk2⟩ (gE_c ⟨_, rfl, _, rfl, hk1⟩ (gE_n))) hw (by simp only [xa_eq, List.all_cons, List.all_nil, Bool.and_true, Bool.and_eq_true]; exact ⟨tw hk1, tw hk2⟩)
  rcases List.mem_singleton.mp hq with rfl
  rw [gS_v h4] at h1
  exact ⟨w', h1, h2⟩
def dH_bk7 : List (Nat × Nat) := (2, 1) :: (dH_rdk ++ dH_lw ++ dX11_rememberState ++ dX11_keepRemembered ++ dX8_copyOf)
theorem dH_bk70 : msub dH_rdk dH_bk7 = true := by decide +kernel
theorem dH_bk71 : msub dH_lw dH_bk7 = true := by decide +kernel
theorem dH_bk72 : msub dX11_rememberState dH_bk7 = true := by decide +kernel
theorem dH_bk73 : msub dX11_keepRemembered dH_bk7 = true := by decide +kernel
theorem dH_bk74 : msub dX8_copyOf dH_bk7 = true := by decide +kernel
theorem s_book7 {kn : sKn} {w0 : sW} (hw : wOk ZZ w0) (x : Int) (hx : R32 x) : ∃ (w' : sW) (b : Int), fX11_book kn [.ref 0, hI x] w0 = some (some (hI b), w', 0, 0) ∧ hO dH_bk7 w0 w' ∧ ((x ≠ 0 ∧ x ≠ 1 → w' = w0) ∧ (x = 0 ∨ x = 1 → gF w' 1 1 = 0)) := by
  have hx1 := hx.1
  have hx2 := hx.2
  have K : Tp (tX11_book kn) (fun r => ∃ (w' : sW) (b : Int), r = (some (hI b), w', 0, 0) ∧ hO dH_bk7 w0 w' ∧ ((x ≠ 0 ∧ x ≠ 1 → w' = w0) ∧ (x = 0 ∨ x = 1 → gF w' 1 1 = 0))) 0 (lv_args 0 [.ref 0, hI x], [], w0, 0, 0) := by
    have l0 : hL (lv_args 0 [.ref 0, hI x]) (lv_args 0 [.ref 0, hI x]) := ⟨fun _ _ h => h, fun q hq => by
      rcases List.mem_cons.mp hq with e | hq
      · rw [e]
        exact ⟨rfl, rfl⟩
      rcases List.mem_cons.mp hq with e | hq
      · rw [e]
        exact ⟨rfl, rfl⟩
      cases hq⟩
    have o0 : hO dH_bk7 w0 w0 := hO_rf hw
    refine h_iload rfl l0 rfl ?_
    refine j_eq (kn := kn) (t := 0) (tgt := 13) (np := 4) rfl (by unfold R32; omega) (fun e41 => ?_) (fun e41 => ?_)
    · refine h_aload rfl l0 rfl ?_
      refine h_getR rfl o0 frc_0_6 ?_
      refine h_aload rfl l0 rfl ?_
      refine h_getR rfl o0 frc_0_0 ?_
      refine h_aload rfl l0 rfl ?_
      refine h_getR rfl o0 frc_0_2 ?_
      obtain ⟨wA, zA, hf42, oA', hzA, hI⟩ := s_read1 (kn := kn) o0.1
      have oA : hO dH_bk7 w0 wA := hO_tr o0 (hO_mono dH_bk70 oA')
      refine h_V3 rfl o0 l0 (cI_of (show ztau 43 = some 28 from rfl) cit_28) rfl rfl hf42 ?_
      refine h_istore rfl l0 (fun vl43 l43 => ?_)
      refine h_aload rfl l43 rfl ?_
      refine h_getR rfl oA frc_0_0 ?_
      refine h_intv k_0 rfl ?_
      refine h_putI rfl oA (fI_of (show ztau 1 = some 2 from rfl) fit_2_1) rfl (by omega) (by omega) (fun w44 o44 q45a q45b q45c => ?_)
      refine h_iload rfl l43 rfl ?_
      refine j_ne (kn := kn) (t := 1) (tgt := 52) (np := 41) rfl (by unfold R32; omega) (fun e46 => ?_) (fun e46 => ?_)
      · refine h_aload rfl l43 rfl ?_
        obtain ⟨wB, hf47, oB'⟩ := s_remember (kn := kn) o44.1
        have oB : hO dH_bk7 w0 wB := hO_tr o44 (hO_mono dH_bk72 oB')
        have iS := hI (by omega)
        have iA : bkI w44 := ⟨by rw [q45b 43 4 (fun z => absurd z (by decide))]; exact iS.1, fun i hi => by rw [q45b 43 4 (fun z => absurd z (by decide))] at hi; exact bkG_eq (q45c 44 i) (q45c 45 i) (iS.2 i hi)⟩
        have iB := bkI_fr o44.1 oB' (by decide +kernel) (by decide +kernel) (by decide +kernel) iA
        have fB : gF wB 1 1 = 0 := by rw [fr_gF (t := 2) (c := 1) oB'.2 rfl (by decide +kernel) o44.1 (by decide +kernel)]; exact q45a
        refine h_W1 rfl o44 l43 (cI_of (show ztau 0 = some 1 from rfl) cit_1) rfl rfl hf47 ?_
        refine h_aload rfl l43 rfl ?_
        refine h_getR rfl oB frc_0_6 ?_
        refine h_aload rfl l43 rfl ?_
        refine h_getR rfl oB frc_0_2 ?_
        refine h_aload rfl l43 rfl ?_
        refine h_getR rfl oB frc_0_3 ?_
        refine h_aload rfl l43 rfl ?_
        refine h_getR rfl oB frc_0_7 ?_
        obtain ⟨wC, zC, hf48, oC', rC⟩ := s_live (kn := kn) oB.1 iB
        have oC : hO dH_bk7 w0 wC := hO_tr oB (hO_mono dH_bk71 oC')
        have fC : gF wC 1 1 = 0 := by rw [fr_gF (t := 2) (c := 1) oC'.2 rfl (by decide +kernel) oB.1 (by decide +kernel)]; exact fB
        refine h_V4 rfl oB l43 (cI_of (show ztau 43 = some 28 from rfl) cit_28) rfl rfl hf48 ?_
        refine h_istore rfl l43 (fun vl49 l49 => ?_)
        refine h_iload rfl l49 rfl ?_
        refine h_intv k_1 rfl ?_
        refine i_ne (kn := kn) (t := 1) (tgt := 88) (np := 81) rfl (by unfold R32; omega) (by unfold R32; omega) (fun e50 => ?_) (fun e50 => ?_)
        · refine h_aload rfl l49 rfl ?_
          refine h_getR rfl oC frc_0_3 ?_
          refine h_aload rfl l49 rfl ?_
          refine h_getR rfl oC frc_0_13 ?_
          refine h_aload rfl l49 rfl ?_
          refine h_getI rfl oC (fI_of (show ztau 0 = some 1 from rfl) fit_1_14) (fun b51a b51b => ?_)
          obtain ⟨pn, hpn⟩ : ∃ n : Nat, gF wC 0 14 = (n : Int) := ⟨(gF wC 0 14).toNat, by omega⟩
          rw [hpn] at b51a b51b ⊢
          refine h_aaldT (pn) rfl oC (show ztau 99 = some 56 from rfl) aat_56 (by omega) (by omega) (fun k52 hk52 => ?_)
          obtain ⟨wD, hf53, oD'⟩ := s_copy8 (kn := kn) oC.1 (show ztau 24 = some 15 from rfl) hk52
          have oD : hO dH_bk7 w0 wD := hO_tr oC (hO_mono dH_bk74 oD')
          have fD : gF wD 1 1 = 0 := by rw [fr_gF (t := 2) (c := 1) oD'.2 rfl (by decide +kernel) oC.1 (by decide +kernel)]; exact fC
          refine h_W2 rfl oC l49 (cI_of (show ztau 24 = some 15 from rfl) cit_15) rfl rfl hf53 ?_
          refine h_iload rfl l49 rfl ?_
          refine h_iret rfl ?_
          exact ⟨_, _, rfl, oD, fun z => by omega, fun _ => fD⟩
        · refine h_aload rfl l49 rfl ?_
          obtain ⟨wD, hf54, oD'⟩ := s_keepR (kn := kn) oC.1
          have oD : hO dH_bk7 w0 wD := hO_tr oC (hO_mono dH_bk73 oD')
          have fD : gF wD 1 1 = 0 := by rw [fr_gF (t := 2) (c := 1) oD'.2 rfl (by decide +kernel) oC.1 (by decide +kernel)]; exact fC
          refine h_W1 rfl oC l49 (cI_of (show ztau 0 = some 1 from rfl) cit_1) rfl rfl hf54 ?_
          refine h_goto rfl ?_
          refine h_iload rfl l49 rfl ?_
          refine h_iret rfl ?_
          exact ⟨_, _, rfl, oD, fun z => by omega, fun _ => fD⟩
      · refine h_intv k_n2 rfl ?_
        refine h_aload rfl l43 rfl ?_
        refine h_getR rfl o44 frc_0_0 ?_
        refine h_getI rfl o44 (fI_of (show ztau 1 = some 2 from rfl) fit_2_12) (fun b55a b55b => ?_)
        refine h_isub rfl ?_
        refine h_iret rfl ?_
        exact ⟨_, _, rfl, o44, fun z => by omega, fun _ => q45a⟩
    · refine h_iload rfl l0 rfl ?_
      refine h_intv k_1 rfl ?_
      refine i_eq (kn := kn) (t := 0) (tgt := 13) (np := 9) rfl (by unfold R32; omega) (by unfold R32; omega) (fun e56 => ?_) (fun e56 => ?_)
      · refine h_aload rfl l0 rfl ?_
        refine h_getR rfl o0 frc_0_6 ?_
        refine h_aload rfl l0 rfl ?_
        refine h_getR rfl o0 frc_0_0 ?_
        refine h_aload rfl l0 rfl ?_
        refine h_getR rfl o0 frc_0_2 ?_
        obtain ⟨wA, zA, hf57, oA', hzA, hI⟩ := s_read1 (kn := kn) o0.1
        have oA : hO dH_bk7 w0 wA := hO_tr o0 (hO_mono dH_bk70 oA')
        refine h_V3 rfl o0 l0 (cI_of (show ztau 43 = some 28 from rfl) cit_28) rfl rfl hf57 ?_
        refine h_istore rfl l0 (fun vl58 l58 => ?_)
        refine h_aload rfl l58 rfl ?_
        refine h_getR rfl oA frc_0_0 ?_
        refine h_intv k_0 rfl ?_
        refine h_putI rfl oA (fI_of (show ztau 1 = some 2 from rfl) fit_2_1) rfl (by omega) (by omega) (fun w59 o59 q60a q60b q60c => ?_)
        refine h_iload rfl l58 rfl ?_
        refine j_ne (kn := kn) (t := 1) (tgt := 52) (np := 41) rfl (by unfold R32; omega) (fun e61 => ?_) (fun e61 => ?_)
        · refine h_aload rfl l58 rfl ?_
          obtain ⟨wB, hf62, oB'⟩ := s_remember (kn := kn) o59.1
          have oB : hO dH_bk7 w0 wB := hO_tr o59 (hO_mono dH_bk72 oB')
          have iS := hI (by omega)
          have iA : bkI w59 := ⟨by rw [q60b 43 4 (fun z => absurd z (by decide))]; exact iS.1, fun i hi => by rw [q60b 43 4 (fun z => absurd z (by decide))] at hi; exact bkG_eq (q60c 44 i) (q60c 45 i) (iS.2 i hi)⟩
          have iB := bkI_fr o59.1 oB' (by decide +kernel) (by decide +kernel) (by decide +kernel) iA
          have fB : gF wB 1 1 = 0 := by rw [fr_gF (t := 2) (c := 1) oB'.2 rfl (by decide +kernel) o59.1 (by decide +kernel)]; exact q60a
          refine h_W1 rfl o59 l58 (cI_of (show ztau 0 = some 1 from rfl) cit_1) rfl rfl hf62 ?_
          refine h_aload rfl l58 rfl ?_
          refine h_getR rfl oB frc_0_6 ?_
          refine h_aload rfl l58 rfl ?_
          refine h_getR rfl oB frc_0_2 ?_
          refine h_aload rfl l58 rfl ?_
          refine h_getR rfl oB frc_0_3 ?_
          refine h_aload rfl l58 rfl ?_
          refine h_getR rfl oB frc_0_7 ?_
          obtain ⟨wC, zC, hf63, oC', rC⟩ := s_live (kn := kn) oB.1 iB
          have oC : hO dH_bk7 w0 wC := hO_tr oB (hO_mono dH_bk71 oC')
          have fC : gF wC 1 1 = 0 := by rw [fr_gF (t := 2) (c := 1) oC'.2 rfl (by decide +kernel) oB.1 (by decide +kernel)]; exact fB
          refine h_V4 rfl oB l58 (cI_of (show ztau 43 = some 28 from rfl) cit_28) rfl rfl hf63 ?_
          refine h_istore rfl l58 (fun vl64 l64 => ?_)
          refine h_iload rfl l64 rfl ?_
          refine h_intv k_1 rfl ?_
          refine i_ne (kn := kn) (t := 1) (tgt := 88) (np := 81) rfl (by unfold R32; omega) (by unfold R32; omega) (fun e65 => ?_) (fun e65 => ?_)
          · refine h_aload rfl l64 rfl ?_
            refine h_getR rfl oC frc_0_3 ?_
            refine h_aload rfl l64 rfl ?_
            refine h_getR rfl oC frc_0_13 ?_
            refine h_aload rfl l64 rfl ?_
            refine h_getI rfl oC (fI_of (show ztau 0 = some 1 from rfl) fit_1_14) (fun b66a b66b => ?_)
            obtain ⟨pn, hpn⟩ : ∃ n : Nat, gF wC 0 14 = (n : Int) := ⟨(gF wC 0 14).toNat, by omega⟩
            rw [hpn] at b66a b66b ⊢
            refine h_aaldT (pn) rfl oC (show ztau 99 = some 56 from rfl) aat_56 (by omega) (by omega) (fun k67 hk67 => ?_)
            obtain ⟨wD, hf68, oD'⟩ := s_copy8 (kn := kn) oC.1 (show ztau 24 = some 15 from rfl) hk67
            have oD : hO dH_bk7 w0 wD := hO_tr oC (hO_mono dH_bk74 oD')
            have fD : gF wD 1 1 = 0 := by rw [fr_gF (t := 2) (c := 1) oD'.2 rfl (by decide +kernel) oC.1 (by decide +kernel)]; exact fC
            refine h_W2 rfl oC l64 (cI_of (show ztau 24 = some 15 from rfl) cit_15) rfl rfl hf68 ?_
            refine h_iload rfl l64 rfl ?_
            refine h_iret rfl ?_
            exact ⟨_, _, rfl, oD, fun z => by omega, fun _ => fD⟩
          · refine h_aload rfl l64 rfl ?_
            obtain ⟨wD, hf69, oD'⟩ := s_keepR (kn := kn) oC.1
            have oD : hO dH_bk7 w0 wD := hO_tr oC (hO_mono dH_bk73 oD')
            have fD : gF wD 1 1 = 0 := by rw [fr_gF (t := 2) (c := 1) oD'.2 rfl (by decide +kernel) oC.1 (by decide +kernel)]; exact fC
            refine h_W1 rfl oC l64 (cI_of (show ztau 0 = some 1 from rfl) cit_1) rfl rfl hf69 ?_
            refine h_goto rfl ?_
            refine h_iload rfl l64 rfl ?_
            refine h_iret rfl ?_
            exact ⟨_, _, rfl, oD, fun z => by omega, fun _ => fD⟩
        · refine h_intv k_n2 rfl ?_
          refine h_aload rfl l58 rfl ?_
          refine h_getR rfl o59 frc_0_0 ?_
          refine h_getI rfl o59 (fI_of (show ztau 1 = some 2 from rfl) fit_2_12) (fun b70a b70b => ?_)
          refine h_isub rfl ?_
          refine h_iret rfl ?_
          exact ⟨_, _, rfl, o59, fun z => by omega, fun _ => q60a⟩
      · refine h_intv k_n1000 rfl ?_
        refine h_iret rfl ?_
        exact ⟨_, _, rfl, o0, fun _ => rfl, fun z => by omega⟩
  obtain ⟨r, h1, w2, b, h2, h3⟩ := h_meth1 (nL := 4) rfl K
  rw [h2] at h1
  exact ⟨w2, b, h1, h3⟩
end
