noncomputable section
/-- the fault, where a reading stands: 0 so far -/
theorem mf0R {σ : List Int} {w : sW} (hw : wOk ZZ w) (h0 : σ[0]? = some 0) (h : gF w 213 10 = 0) : mfOk σ w (((0, 213), 0, 10, 0), (0, 0, 0)) := by
  obtain ⟨fs, _, _, _, _, h1, h2, _, _⟩ := fI_ok (hO_rf (D := []) hw) fi_10
  rw [h] at h2
  exact ⟨0, 213, h0, rfl, 13, fs, hI 0, h1, h2, ⟨0, h0, hI_vOk (show R32 ((0 : Int) + 0) from ⟨by omega, by omega⟩)⟩⟩
theorem mf0C {σ : List Int} {w : sW} (hw : wOk ZZ w) (h0 : σ[0]? = some 0) (h : gF w 1 11 = 0) : mfOk σ w (((0, 1), 0, 11, 0), (0, 0, 0)) := by
  obtain ⟨fs, _, _, _, _, h1, h2, _, _⟩ := fI_ok (hO_rf (D := []) hw) fi_1_11
  rw [h] at h2
  exact ⟨0, 1, h0, rfl, 10, fs, hI 0, h1, h2, ⟨0, h0, hI_vOk (show R32 ((0 : Int) + 0) from ⟨by omega, by omega⟩)⟩⟩
/-- who answers 1 leaves the fault as 0 -/
theorem fz {f : List Value → sW → Option sR} {av : List Value} {w w1 w2 : sW} {b : Int} {r : Option Value} {c k : Nat} (e1 : f av w = some (some (hI b), w1, 0, 0)) (e2 : f av w = some (r, w2, 0, 0)) (h : r = some (hI 0) ∨ gF w2 c k = 0) (hb : b = 1) : gF w1 c k = 0 := by
  have e3 := e1.symm.trans e2
  simp only [Option.some.injEq, Prod.mk.injEq] at e3
  obtain ⟨z1, z2, _⟩ := e3
  subst z2
  subst hb
  rcases h with h | h
  · rw [h] at z1
    exact absurd (Option.some.inj z1) (by decide +kernel)
  · exact h
theorem f_read2 {kn : sKn} {w : sW} (hw : wOk ZZ w) : ∃ (r : Option Value) (w' : sW), fX2_read kn [.ref 3, .ref 1] w = some (r, w', 0, 0) ∧ (r = some (hI 0) ∨ gF w' 1 11 = 0) := by
  obtain ⟨r, w', h1, h2, q, hq, σ', h3, h4, h5, h6⟩ := con_use (con_X2_readF_0 kn) (σ := [0]) (av := [.ref 3, .ref 1]) (w := w) rfl rfl ⟨av_c (k := 3) rfl, av_c (k := 1) rfl, trivial⟩ (fun q hq => by cases hq) (gE_n) hw rfl
  rcases List.mem_cons.mp hq with rfl | hq
  · exact ⟨r, w', h1, Or.inl (gS_c (h3 0 0 rfl) h4)⟩
  · rcases List.mem_singleton.mp hq with rfl
    obtain ⟨z, z1, z2⟩ := mf_F (c := 1) (kf := 11) (u := 0) (x := 0) (h3 0 0 rfl) (h5 _ (by first | exact List.mem_cons_self | exact List.mem_cons_of_mem _ List.mem_cons_self | exact List.mem_cons_of_mem _ (List.mem_cons_of_mem _ List.mem_cons_self) | exact List.mem_cons_of_mem _ (List.mem_cons_of_mem _ (List.mem_cons_of_mem _ List.mem_cons_self)) | exact List.mem_cons_of_mem _ (List.mem_cons_of_mem _ (List.mem_cons_of_mem _ (List.mem_cons_of_mem _ List.mem_cons_self))) | exact List.mem_cons_of_mem _ (List.mem_cons_of_mem _ (List.mem_cons_of_mem _ (List.mem_cons_of_mem _ (List.mem_cons_of_mem _ List.mem_cons_self)))) | exact List.mem_cons_of_mem _ (List.mem_cons_of_mem _ (List.mem_cons_of_mem _ (List.mem_cons_of_mem _ (List.mem_cons_of_mem _ (List.mem_cons_of_mem _ List.mem_cons_self))))) | exact List.mem_cons_of_mem _ (List.mem_cons_of_mem _ (List.mem_cons_of_mem _ (List.mem_cons_of_mem _ (List.mem_cons_of_mem _ (List.mem_cons_of_mem _ (List.mem_cons_of_mem _ List.mem_cons_self)))))) | exact List.mem_cons_of_mem _ (List.mem_cons_of_mem _ (List.mem_cons_of_mem _ (List.mem_cons_of_mem _ (List.mem_cons_of_mem _ (List.mem_cons_of_mem _ (List.mem_cons_of_mem _ (List.mem_cons_of_mem _ List.mem_cons_self))))))) | exact List.mem_cons_of_mem _ (List.mem_cons_of_mem _ (List.mem_cons_of_mem _ (List.mem_cons_of_mem _ (List.mem_cons_of_mem _ (List.mem_cons_of_mem _ (List.mem_cons_of_mem _ (List.mem_cons_of_mem _ (List.mem_cons_of_mem _ List.mem_cons_self))))))))))
    have z3 := h3 0 0 rfl
    rw [z1] at z3
    cases z3
    exact ⟨r, w', h1, Or.inr (by omega)⟩
theorem f_read7 {kn : sKn} {w : sW} (hw : wOk ZZ w) {k1 : Nat} (hk1 : ztau k1 = some 22) {k2 : Nat} (hk2 : ztau k2 = some 5) : ∃ (r : Option Value) (w' : sW), fX7_read kn [.ref k1, .ref 1, .ref k2] w = some (r, w', 0, 0) ∧ (r = some (hI 0) ∨ gF w' 1 11 = 0) := by
  obtain ⟨r, w', h1, h2, q, hq, σ', h3, h4, h5, h6⟩ := con_use (con_X7_readF_0 kn) (σ := [0, (k1 : Int), (k2 : Int)]) (av := [.ref k1, .ref 1, .ref k2]) (w := w) rfl rfl ⟨av_r rfl, av_c (k := 1) rfl, av_r rfl, trivial⟩ (fun q hq => by cases hq) (gE_c ⟨_, rfl, _, rfl, hk2⟩ (gE_c ⟨_, rfl, _, rfl, hk1⟩ (gE_n))) hw (by simp only [xa_eq, List.all_cons, List.all_nil, Bool.and_true, Bool.and_eq_true]; exact ⟨tw hk1, rfl, tw hk2⟩)
  rcases List.mem_cons.mp hq with rfl | hq
  · exact ⟨r, w', h1, Or.inl (gS_c (h3 0 0 rfl) h4)⟩
  · rcases List.mem_singleton.mp hq with rfl
    obtain ⟨z, z1, z2⟩ := mf_F (c := 1) (kf := 11) (u := 0) (x := 0) (h3 0 0 rfl) (h5 _ (by first | exact List.mem_cons_self | exact List.mem_cons_of_mem _ List.mem_cons_self | exact List.mem_cons_of_mem _ (List.mem_cons_of_mem _ List.mem_cons_self) | exact List.mem_cons_of_mem _ (List.mem_cons_of_mem _ (List.mem_cons_of_mem _ List.mem_cons_self)) | exact List.mem_cons_of_mem _ (List.mem_cons_of_mem _ (List.mem_cons_of_mem _ (List.mem_cons_of_mem _ List.mem_cons_self))) | exact List.mem_cons_of_mem _ (List.mem_cons_of_mem _ (List.mem_cons_of_mem _ (List.mem_cons_of_mem _ (List.mem_cons_of_mem _ List.mem_cons_self)))) | exact List.mem_cons_of_mem _ (List.mem_cons_of_mem _ (List.mem_cons_of_mem _ (List.mem_cons_of_mem _ (List.mem_cons_of_mem _ (List.mem_cons_of_mem _ List.mem_cons_self))))) | exact List.mem_cons_of_mem _ (List.mem_cons_of_mem _ (List.mem_cons_of_mem _ (List.mem_cons_of_mem _ (List.mem_cons_of_mem _ (List.mem_cons_of_mem _ (List.mem_cons_of_mem _ List.mem_cons_self)))))) | exact List.mem_cons_of_mem _ (List.mem_cons_of_mem _ (List.mem_cons_of_mem _ (List.mem_cons_of_mem _ (List.mem_cons_of_mem _ (List.mem_cons_of_mem _ (List.mem_cons_of_mem _ (List.mem_cons_of_mem _ List.mem_cons_self))))))) | exact List.mem_cons_of_mem _ (List.mem_cons_of_mem _ (List.mem_cons_of_mem _ (List.mem_cons_of_mem _ (List.mem_cons_of_mem _ (List.mem_cons_of_mem _ (List.mem_cons_of_mem _ (List.mem_cons_of_mem _ (List.mem_cons_of_mem _ List.mem_cons_self))))))))))
    have z3 := h3 0 0 rfl
    rw [z1] at z3
    cases z3
    exact ⟨r, w', h1, Or.inr (by omega)⟩
theorem f_rline {kn : sKn} {w : sW} (hw : wOk ZZ w) (hF : gF w 213 10 = 0) : ∃ (r : Option Value) (w' : sW), fX12_readLine kn [.ref 213] w = some (r, w', 0, 0) ∧ (r = some (hI 0) ∨ gF w' 213 10 = 0) := by
  obtain ⟨r, w', h1, h2, q, hq, σ', h3, h4, h5, h6⟩ := con_use (con_X12_readLineF_0 kn) (σ := [0]) (av := [.ref 213]) (w := w) rfl rfl ⟨av_c (k := 213) rfl, trivial⟩ (fun q hq => by
    rcases List.mem_singleton.mp hq with rfl
    exact mf0R hw rfl hF) (gE_n) hw rfl
  rcases List.mem_cons.mp hq with rfl | hq
  · exact ⟨r, w', h1, Or.inl (gS_c (h3 0 0 rfl) h4)⟩
  · rcases List.mem_singleton.mp hq with rfl
    obtain ⟨z, z1, z2⟩ := mf_F (c := 213) (kf := 10) (u := 0) (x := 0) (h3 0 0 rfl) (h5 _ (by first | exact List.mem_cons_self | exact List.mem_cons_of_mem _ List.mem_cons_self | exact List.mem_cons_of_mem _ (List.mem_cons_of_mem _ List.mem_cons_self) | exact List.mem_cons_of_mem _ (List.mem_cons_of_mem _ (List.mem_cons_of_mem _ List.mem_cons_self)) | exact List.mem_cons_of_mem _ (List.mem_cons_of_mem _ (List.mem_cons_of_mem _ (List.mem_cons_of_mem _ List.mem_cons_self))) | exact List.mem_cons_of_mem _ (List.mem_cons_of_mem _ (List.mem_cons_of_mem _ (List.mem_cons_of_mem _ (List.mem_cons_of_mem _ List.mem_cons_self)))) | exact List.mem_cons_of_mem _ (List.mem_cons_of_mem _ (List.mem_cons_of_mem _ (List.mem_cons_of_mem _ (List.mem_cons_of_mem _ (List.mem_cons_of_mem _ List.mem_cons_self))))) | exact List.mem_cons_of_mem _ (List.mem_cons_of_mem _ (List.mem_cons_of_mem _ (List.mem_cons_of_mem _ (List.mem_cons_of_mem _ (List.mem_cons_of_mem _ (List.mem_cons_of_mem _ List.mem_cons_self)))))) | exact List.mem_cons_of_mem _ (List.mem_cons_of_mem _ (List.mem_cons_of_mem _ (List.mem_cons_of_mem _ (List.mem_cons_of_mem _ (List.mem_cons_of_mem _ (List.mem_cons_of_mem _ (List.mem_cons_of_mem _ List.mem_cons_self))))))) | exact List.mem_cons_of_mem _ (List.mem_cons_of_mem _ (List.mem_cons_of_mem _ (List.mem_cons_of_mem _ (List.mem_cons_of_mem _ (List.mem_cons_of_mem _ (List.mem_cons_of_mem _ (List.mem_cons_of_mem _ (List.mem_cons_of_mem _ List.mem_cons_self))))))))))
    have z3 := h3 0 0 rfl
    rw [z1] at z3
    cases z3
    exact ⟨r, w', h1, Or.inr (by omega)⟩
theorem f_whom {kn : sKn} {w : sW} (hw : wOk ZZ w) (hF : gF w 213 10 = 0) (x : Int) (hx : (-2147483648) ≤ x ∧ x ≤ 2147483647) : ∃ (r : Option Value) (w' : sW), fX12_readWhom kn [.ref 213, hI x] w = some (r, w', 0, 0) ∧ (r = some (hI 0) ∨ gF w' 213 10 = 0) := by
  obtain ⟨r, w', h1, h2, q, hq, σ', h3, h4, h5, h6⟩ := con_use (con_X12_readWhomF_0 kn) (σ := [0, x]) (av := [.ref 213, hI x]) (w := w) rfl rfl ⟨av_c (k := 213) rfl, av_i rfl ⟨by omega, by omega⟩, trivial⟩ (fun q hq => by
    rcases List.mem_singleton.mp hq with rfl
    exact mf0R hw rfl hF) (gE_c ⟨_, rfl, hx⟩ (gE_n)) hw rfl
  rcases List.mem_cons.mp hq with rfl | hq
  · obtain ⟨z, z1, z2⟩ := mf_F (c := 213) (kf := 10) (u := 0) (x := 0) (h3 0 0 rfl) (h5 _ (by first | exact List.mem_cons_self | exact List.mem_cons_of_mem _ List.mem_cons_self | exact List.mem_cons_of_mem _ (List.mem_cons_of_mem _ List.mem_cons_self) | exact List.mem_cons_of_mem _ (List.mem_cons_of_mem _ (List.mem_cons_of_mem _ List.mem_cons_self)) | exact List.mem_cons_of_mem _ (List.mem_cons_of_mem _ (List.mem_cons_of_mem _ (List.mem_cons_of_mem _ List.mem_cons_self))) | exact List.mem_cons_of_mem _ (List.mem_cons_of_mem _ (List.mem_cons_of_mem _ (List.mem_cons_of_mem _ (List.mem_cons_of_mem _ List.mem_cons_self)))) | exact List.mem_cons_of_mem _ (List.mem_cons_of_mem _ (List.mem_cons_of_mem _ (List.mem_cons_of_mem _ (List.mem_cons_of_mem _ (List.mem_cons_of_mem _ List.mem_cons_self))))) | exact List.mem_cons_of_mem _ (List.mem_cons_of_mem _ (List.mem_cons_of_mem _ (List.mem_cons_of_mem _ (List.mem_cons_of_mem _ (List.mem_cons_of_mem _ (List.mem_cons_of_mem _ List.mem_cons_self)))))) | exact List.mem_cons_of_mem _ (List.mem_cons_of_mem _ (List.mem_cons_of_mem _ (List.mem_cons_of_mem _ (List.mem_cons_of_mem _ (List.mem_cons_of_mem _ (List.mem_cons_of_mem _ (List.mem_cons_of_mem _ List.mem_cons_self))))))) | exact List.mem_cons_of_mem _ (List.mem_cons_of_mem _ (List.mem_cons_of_mem _ (List.mem_cons_of_mem _ (List.mem_cons_of_mem _ (List.mem_cons_of_mem _ (List.mem_cons_of_mem _ (List.mem_cons_of_mem _ (List.mem_cons_of_mem _ List.mem_cons_self))))))))))
    have z3 := h3 0 0 rfl
    rw [z1] at z3
    cases z3
    exact ⟨r, w', h1, Or.inr (by omega)⟩
  · rcases List.mem_singleton.mp hq with rfl
    exact ⟨r, w', h1, Or.inl (gS_c (h3 0 0 rfl) h4)⟩
theorem f_rend {kn : sKn} {w : sW} (hw : wOk ZZ w) (hF : gF w 213 10 = 0) : ∃ (r : Option Value) (w' : sW), fX12_readEnd kn [.ref 213] w = some (r, w', 0, 0) ∧ (r = some (hI 0) ∨ gF w' 213 10 = 0) := by
  obtain ⟨r, w', h1, h2, q, hq, σ', h3, h4, h5, h6⟩ := con_use (con_X12_readEndF_0 kn) (σ := [0]) (av := [.ref 213]) (w := w) rfl rfl ⟨av_c (k := 213) rfl, trivial⟩ (fun q hq => by
    rcases List.mem_singleton.mp hq with rfl
    exact mf0R hw rfl hF) (gE_n) hw rfl
  rcases List.mem_cons.mp hq with rfl | hq
  · exact ⟨r, w', h1, Or.inl (gS_c (h3 0 0 rfl) h4)⟩
  · rcases List.mem_singleton.mp hq with rfl
    obtain ⟨z, z1, z2⟩ := mf_F (c := 213) (kf := 10) (u := 0) (x := 0) (h3 0 0 rfl) (h5 _ (by first | exact List.mem_cons_self | exact List.mem_cons_of_mem _ List.mem_cons_self | exact List.mem_cons_of_mem _ (List.mem_cons_of_mem _ List.mem_cons_self) | exact List.mem_cons_of_mem _ (List.mem_cons_of_mem _ (List.mem_cons_of_mem _ List.mem_cons_self)) | exact List.mem_cons_of_mem _ (List.mem_cons_of_mem _ (List.mem_cons_of_mem _ (List.mem_cons_of_mem _ List.mem_cons_self))) | exact List.mem_cons_of_mem _ (List.mem_cons_of_mem _ (List.mem_cons_of_mem _ (List.mem_cons_of_mem _ (List.mem_cons_of_mem _ List.mem_cons_self)))) | exact List.mem_cons_of_mem _ (List.mem_cons_of_mem _ (List.mem_cons_of_mem _ (List.mem_cons_of_mem _ (List.mem_cons_of_mem _ (List.mem_cons_of_mem _ List.mem_cons_self))))) | exact List.mem_cons_of_mem _ (List.mem_cons_of_mem _ (List.mem_cons_of_mem _ (List.mem_cons_of_mem _ (List.mem_cons_of_mem _ (List.mem_cons_of_mem _ (List.mem_cons_of_mem _ List.mem_cons_self)))))) | exact List.mem_cons_of_mem _ (List.mem_cons_of_mem _ (List.mem_cons_of_mem _ (List.mem_cons_of_mem _ (List.mem_cons_of_mem _ (List.mem_cons_of_mem _ (List.mem_cons_of_mem _ (List.mem_cons_of_mem _ List.mem_cons_self))))))) | exact List.mem_cons_of_mem _ (List.mem_cons_of_mem _ (List.mem_cons_of_mem _ (List.mem_cons_of_mem _ (List.mem_cons_of_mem _ (List.mem_cons_of_mem _ (List.mem_cons_of_mem _ (List.mem_cons_of_mem _ (List.mem_cons_of_mem _ List.mem_cons_self))))))))))
    have z3 := h3 0 0 rfl
    rw [z1] at z3
    cases z3
    exact ⟨r, w', h1, Or.inr (by omega)⟩
theorem f_tn_0_11 {kn : sKn} {w : sW} (hw : wOk ZZ w) (hF : gF w 1 11 = 0) : ∃ (r : Option Value) (w' : sW), fX9_takeNumber kn [.ref 1, hI 0, hI 11] w = some (r, w', 0, 0) ∧ (r = some (hI 0) ∨ gF w' 1 11 = 0) := by
  obtain ⟨r, w', h1, h2, q, hq, σ', h3, h4, h5, h6⟩ := con_use (con_X9_takeNumberF_1 kn) (σ := [0, 0, 11]) (av := [.ref 1, hI 0, hI 11]) (w := w) rfl rfl ⟨av_c (k := 1) rfl, av_i rfl ⟨by omega, by omega⟩, av_i rfl ⟨by omega, by omega⟩, trivial⟩ (fun q hq => by
    rcases List.mem_singleton.mp hq with rfl
    exact mf0C hw rfl hF) (gE_c ⟨_, rfl, Int.le_refl _, Int.le_refl _⟩ (gE_c ⟨_, rfl, Int.le_refl _, Int.le_refl _⟩ (gE_n))) hw rfl
  rcases List.mem_cons.mp hq with rfl | hq
  · exact ⟨r, w', h1, Or.inl (gS_c (h3 0 0 rfl) h4)⟩
  · rcases List.mem_singleton.mp hq with rfl
    obtain ⟨z, z1, z2⟩ := mf_F (c := 1) (kf := 11) (u := 0) (x := 0) (h3 0 0 rfl) (h5 _ (by first | exact List.mem_cons_self | exact List.mem_cons_of_mem _ List.mem_cons_self | exact List.mem_cons_of_mem _ (List.mem_cons_of_mem _ List.mem_cons_self) | exact List.mem_cons_of_mem _ (List.mem_cons_of_mem _ (List.mem_cons_of_mem _ List.mem_cons_self)) | exact List.mem_cons_of_mem _ (List.mem_cons_of_mem _ (List.mem_cons_of_mem _ (List.mem_cons_of_mem _ List.mem_cons_self))) | exact List.mem_cons_of_mem _ (List.mem_cons_of_mem _ (List.mem_cons_of_mem _ (List.mem_cons_of_mem _ (List.mem_cons_of_mem _ List.mem_cons_self)))) | exact List.mem_cons_of_mem _ (List.mem_cons_of_mem _ (List.mem_cons_of_mem _ (List.mem_cons_of_mem _ (List.mem_cons_of_mem _ (List.mem_cons_of_mem _ List.mem_cons_self))))) | exact List.mem_cons_of_mem _ (List.mem_cons_of_mem _ (List.mem_cons_of_mem _ (List.mem_cons_of_mem _ (List.mem_cons_of_mem _ (List.mem_cons_of_mem _ (List.mem_cons_of_mem _ List.mem_cons_self)))))) | exact List.mem_cons_of_mem _ (List.mem_cons_of_mem _ (List.mem_cons_of_mem _ (List.mem_cons_of_mem _ (List.mem_cons_of_mem _ (List.mem_cons_of_mem _ (List.mem_cons_of_mem _ (List.mem_cons_of_mem _ List.mem_cons_self))))))) | exact List.mem_cons_of_mem _ (List.mem_cons_of_mem _ (List.mem_cons_of_mem _ (List.mem_cons_of_mem _ (List.mem_cons_of_mem _ (List.mem_cons_of_mem _ (List.mem_cons_of_mem _ (List.mem_cons_of_mem _ (List.mem_cons_of_mem _ List.mem_cons_self))))))))))
    have z3 := h3 0 0 rfl
    rw [z1] at z3
    cases z3
    exact ⟨r, w', h1, Or.inr (by omega)⟩
theorem f_rn_0_11 {kn : sKn} {w : sW} (hw : wOk ZZ w) (hF : gF w 213 10 = 0) : ∃ (r : Option Value) (w' : sW), fX12_readNumber kn [.ref 213, hI 0, hI 11] w = some (r, w', 0, 0) ∧ (r = some (hI 0) ∨ gF w' 213 10 = 0) := by
  obtain ⟨r, w', h1, h2, q, hq, σ', h3, h4, h5, h6⟩ := con_use (con_X12_readNumberF_0 kn) (σ := [0, 0, 11]) (av := [.ref 213, hI 0, hI 11]) (w := w) rfl rfl ⟨av_c (k := 213) rfl, av_i rfl ⟨by omega, by omega⟩, av_i rfl ⟨by omega, by omega⟩, trivial⟩ (fun q hq => by
    rcases List.mem_singleton.mp hq with rfl
    exact mf0R hw rfl hF) (gE_c ⟨_, rfl, Int.le_refl _, Int.le_refl _⟩ (gE_c ⟨_, rfl, Int.le_refl _, Int.le_refl _⟩ (gE_n))) hw rfl
  rcases List.mem_cons.mp hq with rfl | hq
  · exact ⟨r, w', h1, Or.inl (gS_c (h3 0 0 rfl) h4)⟩
  · rcases List.mem_singleton.mp hq with rfl
    obtain ⟨z, z1, z2⟩ := mf_F (c := 213) (kf := 10) (u := 0) (x := 0) (h3 0 0 rfl) (h5 _ (by first | exact List.mem_cons_self | exact List.mem_cons_of_mem _ List.mem_cons_self | exact List.mem_cons_of_mem _ (List.mem_cons_of_mem _ List.mem_cons_self) | exact List.mem_cons_of_mem _ (List.mem_cons_of_mem _ (List.mem_cons_of_mem _ List.mem_cons_self)) | exact List.mem_cons_of_mem _ (List.mem_cons_of_mem _ (List.mem_cons_of_mem _ (List.mem_cons_of_mem _ List.mem_cons_self))) | exact List.mem_cons_of_mem _ (List.mem_cons_of_mem _ (List.mem_cons_of_mem _ (List.mem_cons_of_mem _ (List.mem_cons_of_mem _ List.mem_cons_self)))) | exact List.mem_cons_of_mem _ (List.mem_cons_of_mem _ (List.mem_cons_of_mem _ (List.mem_cons_of_mem _ (List.mem_cons_of_mem _ (List.mem_cons_of_mem _ List.mem_cons_self))))) | exact List.mem_cons_of_mem _ (List.mem_cons_of_mem _ (List.mem_cons_of_mem _ (List.mem_cons_of_mem _ (List.mem_cons_of_mem _ (List.mem_cons_of_mem _ (List.mem_cons_of_mem _ List.mem_cons_self)))))) | exact List.mem_cons_of_mem _ (List.mem_cons_of_mem _ (List.mem_cons_of_mem _ (List.mem_cons_of_mem _ (List.mem_cons_of_mem _ (List.mem_cons_of_mem _ (List.mem_cons_of_mem _ (List.mem_cons_of_mem _ List.mem_cons_self))))))) | exact List.mem_cons_of_mem _ (List.mem_cons_of_mem _ (List.mem_cons_of_mem _ (List.mem_cons_of_mem _ (List.mem_cons_of_mem _ (List.mem_cons_of_mem _ (List.mem_cons_of_mem _ (List.mem_cons_of_mem _ (List.mem_cons_of_mem _ List.mem_cons_self))))))))))
    have z3 := h3 0 0 rfl
    rw [z1] at z3
    cases z3
    exact ⟨r, w', h1, Or.inr (by omega)⟩
theorem f_tn_0_2 {kn : sKn} {w : sW} (hw : wOk ZZ w) (hF : gF w 1 11 = 0) : ∃ (r : Option Value) (w' : sW), fX9_takeNumber kn [.ref 1, hI 0, hI 2] w = some (r, w', 0, 0) ∧ (r = some (hI 0) ∨ gF w' 1 11 = 0) := by
  obtain ⟨r, w', h1, h2, q, hq, σ', h3, h4, h5, h6⟩ := con_use (con_X9_takeNumberF_2 kn) (σ := [0, 0, 2]) (av := [.ref 1, hI 0, hI 2]) (w := w) rfl rfl ⟨av_c (k := 1) rfl, av_i rfl ⟨by omega, by omega⟩, av_i rfl ⟨by omega, by omega⟩, trivial⟩ (fun q hq => by
    rcases List.mem_singleton.mp hq with rfl
    exact mf0C hw rfl hF) (gE_c ⟨_, rfl, Int.le_refl _, Int.le_refl _⟩ (gE_c ⟨_, rfl, Int.le_refl _, Int.le_refl _⟩ (gE_n))) hw rfl
  rcases List.mem_cons.mp hq with rfl | hq
  · exact ⟨r, w', h1, Or.inl (gS_c (h3 0 0 rfl) h4)⟩
  · rcases List.mem_singleton.mp hq with rfl
    obtain ⟨z, z1, z2⟩ := mf_F (c := 1) (kf := 11) (u := 0) (x := 0) (h3 0 0 rfl) (h5 _ (by first | exact List.mem_cons_self | exact List.mem_cons_of_mem _ List.mem_cons_self | exact List.mem_cons_of_mem _ (List.mem_cons_of_mem _ List.mem_cons_self) | exact List.mem_cons_of_mem _ (List.mem_cons_of_mem _ (List.mem_cons_of_mem _ List.mem_cons_self)) | exact List.mem_cons_of_mem _ (List.mem_cons_of_mem _ (List.mem_cons_of_mem _ (List.mem_cons_of_mem _ List.mem_cons_self))) | exact List.mem_cons_of_mem _ (List.mem_cons_of_mem _ (List.mem_cons_of_mem _ (List.mem_cons_of_mem _ (List.mem_cons_of_mem _ List.mem_cons_self)))) | exact List.mem_cons_of_mem _ (List.mem_cons_of_mem _ (List.mem_cons_of_mem _ (List.mem_cons_of_mem _ (List.mem_cons_of_mem _ (List.mem_cons_of_mem _ List.mem_cons_self))))) | exact List.mem_cons_of_mem _ (List.mem_cons_of_mem _ (List.mem_cons_of_mem _ (List.mem_cons_of_mem _ (List.mem_cons_of_mem _ (List.mem_cons_of_mem _ (List.mem_cons_of_mem _ List.mem_cons_self)))))) | exact List.mem_cons_of_mem _ (List.mem_cons_of_mem _ (List.mem_cons_of_mem _ (List.mem_cons_of_mem _ (List.mem_cons_of_mem _ (List.mem_cons_of_mem _ (List.mem_cons_of_mem _ (List.mem_cons_of_mem _ List.mem_cons_self))))))) | exact List.mem_cons_of_mem _ (List.mem_cons_of_mem _ (List.mem_cons_of_mem _ (List.mem_cons_of_mem _ (List.mem_cons_of_mem _ (List.mem_cons_of_mem _ (List.mem_cons_of_mem _ (List.mem_cons_of_mem _ (List.mem_cons_of_mem _ List.mem_cons_self))))))))))
    have z3 := h3 0 0 rfl
    rw [z1] at z3
    cases z3
    exact ⟨r, w', h1, Or.inr (by omega)⟩
theorem f_rn_0_2 {kn : sKn} {w : sW} (hw : wOk ZZ w) (hF : gF w 213 10 = 0) : ∃ (r : Option Value) (w' : sW), fX12_readNumber kn [.ref 213, hI 0, hI 2] w = some (r, w', 0, 0) ∧ (r = some (hI 0) ∨ gF w' 213 10 = 0) := by
  obtain ⟨r, w', h1, h2, q, hq, σ', h3, h4, h5, h6⟩ := con_use (con_X12_readNumberF_1 kn) (σ := [0, 0, 2]) (av := [.ref 213, hI 0, hI 2]) (w := w) rfl rfl ⟨av_c (k := 213) rfl, av_i rfl ⟨by omega, by omega⟩, av_i rfl ⟨by omega, by omega⟩, trivial⟩ (fun q hq => by
    rcases List.mem_singleton.mp hq with rfl
    exact mf0R hw rfl hF) (gE_c ⟨_, rfl, Int.le_refl _, Int.le_refl _⟩ (gE_c ⟨_, rfl, Int.le_refl _, Int.le_refl _⟩ (gE_n))) hw rfl
  rcases List.mem_cons.mp hq with rfl | hq
  · exact ⟨r, w', h1, Or.inl (gS_c (h3 0 0 rfl) h4)⟩
  · rcases List.mem_singleton.mp hq with rfl
    obtain ⟨z, z1, z2⟩ := mf_F (c := 213) (kf := 10) (u := 0) (x := 0) (h3 0 0 rfl) (h5 _ (by first | exact List.mem_cons_self | exact List.mem_cons_of_mem _ List.mem_cons_self | exact List.mem_cons_of_mem _ (List.mem_cons_of_mem _ List.mem_cons_self) | exact List.mem_cons_of_mem _ (List.mem_cons_of_mem _ (List.mem_cons_of_mem _ List.mem_cons_self)) | exact List.mem_cons_of_mem _ (List.mem_cons_of_mem _ (List.mem_cons_of_mem _ (List.mem_cons_of_mem _ List.mem_cons_self))) | exact List.mem_cons_of_mem _ (List.mem_cons_of_mem _ (List.mem_cons_of_mem _ (List.mem_cons_of_mem _ (List.mem_cons_of_mem _ List.mem_cons_self)))) | exact List.mem_cons_of_mem _ (List.mem_cons_of_mem _ (List.mem_cons_of_mem _ (List.mem_cons_of_mem _ (List.mem_cons_of_mem _ (List.mem_cons_of_mem _ List.mem_cons_self))))) | exact List.mem_cons_of_mem _ (List.mem_cons_of_mem _ (List.mem_cons_of_mem _ (List.mem_cons_of_mem _ (List.mem_cons_of_mem _ (List.mem_cons_of_mem _ (List.mem_cons_of_mem _ List.mem_cons_self)))))) | exact List.mem_cons_of_mem _ (List.mem_cons_of_mem _ (List.mem_cons_of_mem _ (List.mem_cons_of_mem _ (List.mem_cons_of_mem _ (List.mem_cons_of_mem _ (List.mem_cons_of_mem _ (List.mem_cons_of_mem _ List.mem_cons_self))))))) | exact List.mem_cons_of_mem _ (List.mem_cons_of_mem _ (List.mem_cons_of_mem _ (List.mem_cons_of_mem _ (List.mem_cons_of_mem _ (List.mem_cons_of_mem _ (List.mem_cons_of_mem _ (List.mem_cons_of_mem _ (List.mem_cons_of_mem _ List.mem_cons_self))))))))))
    have z3 := h3 0 0 rfl
    rw [z1] at z3
    cases z3
    exact ⟨r, w', h1, Or.inr (by omega)⟩
theorem f_tn_1_60 {kn : sKn} {w : sW} (hw : wOk ZZ w) (hF : gF w 1 11 = 0) : ∃ (r : Option Value) (w' : sW), fX9_takeNumber kn [.ref 1, hI 1, hI 60] w = some (r, w', 0, 0) ∧ (r = some (hI 0) ∨ gF w' 1 11 = 0) := by
  obtain ⟨r, w', h1, h2, q, hq, σ', h3, h4, h5, h6⟩ := con_use (con_X9_takeNumberF_0 kn) (σ := [0, 1, 60]) (av := [.ref 1, hI 1, hI 60]) (w := w) rfl rfl ⟨av_c (k := 1) rfl, av_i rfl ⟨by omega, by omega⟩, av_i rfl ⟨by omega, by omega⟩, trivial⟩ (fun q hq => by
    rcases List.mem_singleton.mp hq with rfl
    exact mf0C hw rfl hF) (gE_c ⟨_, rfl, Int.le_refl _, Int.le_refl _⟩ (gE_c ⟨_, rfl, Int.le_refl _, Int.le_refl _⟩ (gE_n))) hw rfl
  rcases List.mem_cons.mp hq with rfl | hq
  · exact ⟨r, w', h1, Or.inl (gS_c (h3 0 0 rfl) h4)⟩
  · rcases List.mem_singleton.mp hq with rfl
    obtain ⟨z, z1, z2⟩ := mf_F (c := 1) (kf := 11) (u := 0) (x := 0) (h3 0 0 rfl) (h5 _ (by first | exact List.mem_cons_self | exact List.mem_cons_of_mem _ List.mem_cons_self | exact List.mem_cons_of_mem _ (List.mem_cons_of_mem _ List.mem_cons_self) | exact List.mem_cons_of_mem _ (List.mem_cons_of_mem _ (List.mem_cons_of_mem _ List.mem_cons_self)) | exact List.mem_cons_of_mem _ (List.mem_cons_of_mem _ (List.mem_cons_of_mem _ (List.mem_cons_of_mem _ List.mem_cons_self))) | exact List.mem_cons_of_mem _ (List.mem_cons_of_mem _ (List.mem_cons_of_mem _ (List.mem_cons_of_mem _ (List.mem_cons_of_mem _ List.mem_cons_self)))) | exact List.mem_cons_of_mem _ (List.mem_cons_of_mem _ (List.mem_cons_of_mem _ (List.mem_cons_of_mem _ (List.mem_cons_of_mem _ (List.mem_cons_of_mem _ List.mem_cons_self))))) | exact List.mem_cons_of_mem _ (List.mem_cons_of_mem _ (List.mem_cons_of_mem _ (List.mem_cons_of_mem _ (List.mem_cons_of_mem _ (List.mem_cons_of_mem _ (List.mem_cons_of_mem _ List.mem_cons_self)))))) | exact List.mem_cons_of_mem _ (List.mem_cons_of_mem _ (List.mem_cons_of_mem _ (List.mem_cons_of_mem _ (List.mem_cons_of_mem _ (List.mem_cons_of_mem _ (List.mem_cons_of_mem _ (List.mem_cons_of_mem _ List.mem_cons_self))))))) | exact List.mem_cons_of_mem _ (List.mem_cons_of_mem _ (List.mem_cons_of_mem _ (List.mem_cons_of_mem _ (List.mem_cons_of_mem _ (List.mem_cons_of_mem _ (List.mem_cons_of_mem _ (List.mem_cons_of_mem _ (List.mem_cons_of_mem _ List.mem_cons_self))))))))))
    have z3 := h3 0 0 rfl
    rw [z1] at z3
    cases z3
    exact ⟨r, w', h1, Or.inr (by omega)⟩
theorem f_rn_1_60 {kn : sKn} {w : sW} (hw : wOk ZZ w) (hF : gF w 213 10 = 0) : ∃ (r : Option Value) (w' : sW), fX12_readNumber kn [.ref 213, hI 1, hI 60] w = some (r, w', 0, 0) ∧ (r = some (hI 0) ∨ gF w' 213 10 = 0) := by
  obtain ⟨r, w', h1, h2, q, hq, σ', h3, h4, h5, h6⟩ := con_use (con_X12_readNumberF_2 kn) (σ := [0, 1, 60]) (av := [.ref 213, hI 1, hI 60]) (w := w) rfl rfl ⟨av_c (k := 213) rfl, av_i rfl ⟨by omega, by omega⟩, av_i rfl ⟨by omega, by omega⟩, trivial⟩ (fun q hq => by
    rcases List.mem_singleton.mp hq with rfl
    exact mf0R hw rfl hF) (gE_c ⟨_, rfl, Int.le_refl _, Int.le_refl _⟩ (gE_c ⟨_, rfl, Int.le_refl _, Int.le_refl _⟩ (gE_n))) hw rfl
  rcases List.mem_cons.mp hq with rfl | hq
  · exact ⟨r, w', h1, Or.inl (gS_c (h3 0 0 rfl) h4)⟩
  · rcases List.mem_singleton.mp hq with rfl
    obtain ⟨z, z1, z2⟩ := mf_F (c := 213) (kf := 10) (u := 0) (x := 0) (h3 0 0 rfl) (h5 _ (by first | exact List.mem_cons_self | exact List.mem_cons_of_mem _ List.mem_cons_self | exact List.mem_cons_of_mem _ (List.mem_cons_of_mem _ List.mem_cons_self) | exact List.mem_cons_of_mem _ (List.mem_cons_of_mem _ (List.mem_cons_of_mem _ List.mem_cons_self)) | exact List.mem_cons_of_mem _ (List.mem_cons_of_mem _ (List.mem_cons_of_mem _ (List.mem_cons_of_mem _ List.mem_cons_self))) | exact List.mem_cons_of_mem _ (List.mem_cons_of_mem _ (List.mem_cons_of_mem _ (List.mem_cons_of_mem _ (List.mem_cons_of_mem _ List.mem_cons_self)))) | exact List.mem_cons_of_mem _ (List.mem_cons_of_mem _ (List.mem_cons_of_mem _ (List.mem_cons_of_mem _ (List.mem_cons_of_mem _ (List.mem_cons_of_mem _ List.mem_cons_self))))) | exact List.mem_cons_of_mem _ (List.mem_cons_of_mem _ (List.mem_cons_of_mem _ (List.mem_cons_of_mem _ (List.mem_cons_of_mem _ (List.mem_cons_of_mem _ (List.mem_cons_of_mem _ List.mem_cons_self)))))) | exact List.mem_cons_of_mem _ (List.mem_cons_of_mem _ (List.mem_cons_of_mem _ (List.mem_cons_of_mem _ (List.mem_cons_of_mem _ (List.mem_cons_of_mem _ (List.mem_cons_of_mem _ (List.mem_cons_of_mem _ List.mem_cons_self))))))) | exact List.mem_cons_of_mem _ (List.mem_cons_of_mem _ (List.mem_cons_of_mem _ (List.mem_cons_of_mem _ (List.mem_cons_of_mem _ (List.mem_cons_of_mem _ (List.mem_cons_of_mem _ (List.mem_cons_of_mem _ (List.mem_cons_of_mem _ List.mem_cons_self))))))))))
    have z3 := h3 0 0 rfl
    rw [z1] at z3
    cases z3
    exact ⟨r, w', h1, Or.inr (by omega)⟩
theorem f_tn_0_999 {kn : sKn} {w : sW} (hw : wOk ZZ w) (hF : gF w 1 11 = 0) : ∃ (r : Option Value) (w' : sW), fX9_takeNumber kn [.ref 1, hI 0, hI 999] w = some (r, w', 0, 0) ∧ (r = some (hI 0) ∨ gF w' 1 11 = 0) := by
  obtain ⟨r, w', h1, h2, q, hq, σ', h3, h4, h5, h6⟩ := con_use (con_X9_takeNumberF_9 kn) (σ := [0, 0, 999]) (av := [.ref 1, hI 0, hI 999]) (w := w) rfl rfl ⟨av_c (k := 1) rfl, av_i rfl ⟨by omega, by omega⟩, av_i rfl ⟨by omega, by omega⟩, trivial⟩ (fun q hq => by
    rcases List.mem_singleton.mp hq with rfl
    exact mf0C hw rfl hF) (gE_c ⟨_, rfl, Int.le_refl _, Int.le_refl _⟩ (gE_c ⟨_, rfl, Int.le_refl _, Int.le_refl _⟩ (gE_n))) hw rfl
  rcases List.mem_cons.mp hq with rfl | hq
  · exact ⟨r, w', h1, Or.inl (gS_c (h3 0 0 rfl) h4)⟩
  · rcases List.mem_singleton.mp hq with rfl
    obtain ⟨z, z1, z2⟩ := mf_F (c := 1) (kf := 11) (u := 0) (x := 0) (h3 0 0 rfl) (h5 _ (by first | exact List.mem_cons_self | exact List.mem_cons_of_mem _ List.mem_cons_self | exact List.mem_cons_of_mem _ (List.mem_cons_of_mem _ List.mem_cons_self) | exact List.mem_cons_of_mem _ (List.mem_cons_of_mem _ (List.mem_cons_of_mem _ List.mem_cons_self)) | exact List.mem_cons_of_mem _ (List.mem_cons_of_mem _ (List.mem_cons_of_mem _ (List.mem_cons_of_mem _ List.mem_cons_self))) | exact List.mem_cons_of_mem _ (List.mem_cons_of_mem _ (List.mem_cons_of_mem _ (List.mem_cons_of_mem _ (List.mem_cons_of_mem _ List.mem_cons_self)))) | exact List.mem_cons_of_mem _ (List.mem_cons_of_mem _ (List.mem_cons_of_mem _ (List.mem_cons_of_mem _ (List.mem_cons_of_mem _ (List.mem_cons_of_mem _ List.mem_cons_self))))) | exact List.mem_cons_of_mem _ (List.mem_cons_of_mem _ (List.mem_cons_of_mem _ (List.mem_cons_of_mem _ (List.mem_cons_of_mem _ (List.mem_cons_of_mem _ (List.mem_cons_of_mem _ List.mem_cons_self)))))) | exact List.mem_cons_of_mem _ (List.mem_cons_of_mem _ (List.mem_cons_of_mem _ (List.mem_cons_of_mem _ (List.mem_cons_of_mem _ (List.mem_cons_of_mem _ (List.mem_cons_of_mem _ (List.mem_cons_of_mem _ List.mem_cons_self))))))) | exact List.mem_cons_of_mem _ (List.mem_cons_of_mem _ (List.mem_cons_of_mem _ (List.mem_cons_of_mem _ (List.mem_cons_of_mem _ (List.mem_cons_of_mem _ (List.mem_cons_of_mem _ (List.mem_cons_of_mem _ (List.mem_cons_of_mem _ List.mem_cons_self))))))))))
    have z3 := h3 0 0 rfl
    rw [z1] at z3
    cases z3
    exact ⟨r, w', h1, Or.inr (by omega)⟩
theorem f_rn_0_999 {kn : sKn} {w : sW} (hw : wOk ZZ w) (hF : gF w 213 10 = 0) : ∃ (r : Option Value) (w' : sW), fX12_readNumber kn [.ref 213, hI 0, hI 999] w = some (r, w', 0, 0) ∧ (r = some (hI 0) ∨ gF w' 213 10 = 0) := by
  obtain ⟨r, w', h1, h2, q, hq, σ', h3, h4, h5, h6⟩ := con_use (con_X12_readNumberF_9 kn) (σ := [0, 0, 999]) (av := [.ref 213, hI 0, hI 999]) (w := w) rfl rfl ⟨av_c (k := 213) rfl, av_i rfl ⟨by omega, by omega⟩, av_i rfl ⟨by omega, by omega⟩, trivial⟩ (fun q hq => by
    rcases List.mem_singleton.mp hq with rfl
    exact mf0R hw rfl hF) (gE_c ⟨_, rfl, Int.le_refl _, Int.le_refl _⟩ (gE_c ⟨_, rfl, Int.le_refl _, Int.le_refl _⟩ (gE_n))) hw rfl
  rcases List.mem_cons.mp hq with rfl | hq
  · exact ⟨r, w', h1, Or.inl (gS_c (h3 0 0 rfl) h4)⟩
  · rcases List.mem_singleton.mp hq with rfl
    obtain ⟨z, z1, z2⟩ := mf_F (c := 213) (kf := 10) (u := 0) (x := 0) (h3 0 0 rfl) (h5 _ (by first | exact List.mem_cons_self | exact List.mem_cons_of_mem _ List.mem_cons_self | exact List.mem_cons_of_mem _ (List.mem_cons_of_mem _ List.mem_cons_self) | exact List.mem_cons_of_mem _ (List.mem_cons_of_mem _ (List.mem_cons_of_mem _ List.mem_cons_self)) | exact List.mem_cons_of_mem _ (List.mem_cons_of_mem _ (List.mem_cons_of_mem _ (List.mem_cons_of_mem _ List.mem_cons_self))) | exact List.mem_cons_of_mem _ (List.mem_cons_of_mem _ (List.mem_cons_of_mem _ (List.mem_cons_of_mem _ (List.mem_cons_of_mem _ List.mem_cons_self)))) | exact List.mem_cons_of_mem _ (List.mem_cons_of_mem _ (List.mem_cons_of_mem _ (List.mem_cons_of_mem _ (List.mem_cons_of_mem _ (List.mem_cons_of_mem _ List.mem_cons_self))))) | exact List.mem_cons_of_mem _ (List.mem_cons_of_mem _ (List.mem_cons_of_mem _ (List.mem_cons_of_mem _ (List.mem_cons_of_mem _ (List.mem_cons_of_mem _ (List.mem_cons_of_mem _ List.mem_cons_self)))))) | exact List.mem_cons_of_mem _ (List.mem_cons_of_mem _ (List.mem_cons_of_mem _ (List.mem_cons_of_mem _ (List.mem_cons_of_mem _ (List.mem_cons_of_mem _ (List.mem_cons_of_mem _ (List.mem_cons_of_mem _ List.mem_cons_self))))))) | exact List.mem_cons_of_mem _ (List.mem_cons_of_mem _ (List.mem_cons_of_mem _ (List.mem_cons_of_mem _ (List.mem_cons_of_mem _ (List.mem_cons_of_mem _ (List.mem_cons_of_mem _ (List.mem_cons_of_mem _ (List.mem_cons_of_mem _ List.mem_cons_self))))))))))
    have z3 := h3 0 0 rfl
    rw [z1] at z3
    cases z3
    exact ⟨r, w', h1, Or.inr (by omega)⟩
theorem f_tsemi {kn : sKn} {w : sW} (hw : wOk ZZ w) (hF : gF w 1 11 = 0) : ∃ (r : Option Value) (w' : sW), fX9_takeSign kn [.ref 1, hI 59] w = some (r, w', 0, 0) ∧ (r = some (hI 0) ∨ gF w' 1 11 = 0) := by
  obtain ⟨r, w', h1, h2, q, hq, σ', h3, h4, h5, h6⟩ := con_use (con_X9_takeSignF_0 kn) (σ := [0, 59]) (av := [.ref 1, hI 59]) (w := w) rfl rfl ⟨av_c (k := 1) rfl, av_i rfl ⟨by omega, by omega⟩, trivial⟩ (fun q hq => by
    rcases List.mem_singleton.mp hq with rfl
    exact mf0C hw rfl hF) (gE_c ⟨_, rfl, Int.le_refl _, Int.le_refl _⟩ (gE_n)) hw rfl
  rcases List.mem_cons.mp hq with rfl | hq
  · exact ⟨r, w', h1, Or.inl (gS_c (h3 0 0 rfl) h4)⟩
  · rcases List.mem_singleton.mp hq with rfl
    obtain ⟨z, z1, z2⟩ := mf_F (c := 1) (kf := 11) (u := 0) (x := 0) (h3 0 0 rfl) (h5 _ (by first | exact List.mem_cons_self | exact List.mem_cons_of_mem _ List.mem_cons_self | exact List.mem_cons_of_mem _ (List.mem_cons_of_mem _ List.mem_cons_self) | exact List.mem_cons_of_mem _ (List.mem_cons_of_mem _ (List.mem_cons_of_mem _ List.mem_cons_self)) | exact List.mem_cons_of_mem _ (List.mem_cons_of_mem _ (List.mem_cons_of_mem _ (List.mem_cons_of_mem _ List.mem_cons_self))) | exact List.mem_cons_of_mem _ (List.mem_cons_of_mem _ (List.mem_cons_of_mem _ (List.mem_cons_of_mem _ (List.mem_cons_of_mem _ List.mem_cons_self)))) | exact List.mem_cons_of_mem _ (List.mem_cons_of_mem _ (List.mem_cons_of_mem _ (List.mem_cons_of_mem _ (List.mem_cons_of_mem _ (List.mem_cons_of_mem _ List.mem_cons_self))))) | exact List.mem_cons_of_mem _ (List.mem_cons_of_mem _ (List.mem_cons_of_mem _ (List.mem_cons_of_mem _ (List.mem_cons_of_mem _ (List.mem_cons_of_mem _ (List.mem_cons_of_mem _ List.mem_cons_self)))))) | exact List.mem_cons_of_mem _ (List.mem_cons_of_mem _ (List.mem_cons_of_mem _ (List.mem_cons_of_mem _ (List.mem_cons_of_mem _ (List.mem_cons_of_mem _ (List.mem_cons_of_mem _ (List.mem_cons_of_mem _ List.mem_cons_self))))))) | exact List.mem_cons_of_mem _ (List.mem_cons_of_mem _ (List.mem_cons_of_mem _ (List.mem_cons_of_mem _ (List.mem_cons_of_mem _ (List.mem_cons_of_mem _ (List.mem_cons_of_mem _ (List.mem_cons_of_mem _ (List.mem_cons_of_mem _ List.mem_cons_self))))))))))
    have z3 := h3 0 0 rfl
    rw [z1] at z3
    cases z3
    exact ⟨r, w', h1, Or.inr (by omega)⟩
/-- the fault behind a reading -/
def zFt {α : Type} (r : zE ⊕ α) : Int := match r with
  | .inl e => e.1
  | .inr _ => 0
theorem zFt_l {α : Type} (e : zE) : zFt (α := α) (.inl e) = e.1 := rfl
theorem zFt_r {α : Type} (a : α) : zFt (.inr a : zE ⊕ α) = 0 := rfl
end
