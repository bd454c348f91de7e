noncomputable section
theorem nci_14 : cIs 14 = some 7 := by decide +kernel
theorem nci_24 : cIs 24 = some 9 := by decide +kernel
theorem nfi_0_15 : fI 0 12 15 = some (1, 0, 8) := by decide +kernel
theorem nfr_0_0 : fR 0 12 0 = some 1 := by decide +kernel
theorem nfr_0_1 : fR 0 12 1 = some 3 := by decide +kernel
theorem nfr_0_2 : fR 0 12 2 = some 14 := by decide +kernel
theorem nfr_0_3 : fR 0 12 3 = some 24 := by decide +kernel
theorem zOK_0 {α : Type} {r : zE ⊕ α} {b : Int} {P : zE → Prop} {Q : α → Prop} (h : zOK r b P Q) (hb : b = 0) : ∃ e, r = .inl e ∧ P e := by
  cases r with
  | inl e => exact ⟨e, rfl, h.2⟩
  | inr a =>
    have := h.1
    omega
theorem zOK_1 {α : Type} {r : zE ⊕ α} {b : Int} {P : zE → Prop} {Q : α → Prop} (h : zOK r b P Q) (hb : b ≠ 0) : ∃ a, r = .inr a ∧ Q a := by
  cases r with
  | inl e => exact absurd h.1 hb
  | inr a => exact ⟨a, rfl, h.2⟩
/-- what bridge answers -/
def zAns (r : zE ⊕ (Int × zZ)) : Int := match r with
  | .inl e => -1 - e.2
  | .inr q => q.1
theorem n_copyOf {kn : sKn} {w : sW} (hw : wOk ZZ w) {k1 : Nat} (hk1 : ztau k1 = some 5) {k2 : Nat} (hk2 : ztau k2 = some 5) : ∃ w', fX6_copyOf kn [.ref k1, .ref k2] w = some (none, w', 0, 0) ∧ hO dX6_copyOf w w' := by
  obtain ⟨r, w', h1, h2, q, hq, σ', h3, h4, h5, h6⟩ := con_use (con_X6_copyOf_0 kn) (σ := [0, (k1 : Int), (k2 : Int)]) (av := [.ref k1, .ref k2]) (w := w) rfl rfl ⟨av_r rfl, av_r rfl, trivial⟩ (fun q hq => by cases hq) (gE_c ⟨_, rfl, _, rfl, hk2⟩ (gE_c ⟨_, rfl, _, rfl, hk1⟩ gE_n)) hw (by simp only [xa_eq, List.all_cons, List.all_nil, Bool.and_true, Bool.and_eq_true]; exact ⟨tw hk1, tw hk2⟩)
  rcases List.mem_singleton.mp hq with rfl
  rw [gS_v h4] at h1
  exact ⟨w', h1, h2⟩
theorem n_begin {kn : sKn} {w : sW} (hw : wOk ZZ w) {k1 : Nat} (hk1 : ztau k1 = some 15) {k2 : Nat} (hk2 : ztau k2 = some 5) : ∃ w', fX8_begin kn [.ref k1, .ref k2] w = some (none, w', 0, 0) ∧ hO dX8_begin w w' := by
  obtain ⟨r, w', h1, h2, q, hq, σ', h3, h4, h5, h6⟩ := con_use (con_X8_begin_0 kn) (σ := [0, (k1 : Int), (k2 : Int)]) (av := [.ref k1, .ref k2]) (w := w) rfl rfl ⟨av_r rfl, av_r rfl, trivial⟩ (fun q hq => by cases hq) (gE_c ⟨_, rfl, _, rfl, hk2⟩ (gE_c ⟨_, rfl, _, rfl, hk1⟩ gE_n)) hw (by simp only [xa_eq, List.all_cons, List.all_nil, Bool.and_true, Bool.and_eq_true]; exact ⟨tw hk1, tw hk2⟩)
  rcases List.mem_singleton.mp hq with rfl
  rw [gS_v h4] at h1
  exact ⟨w', h1, h2⟩
theorem n_forget {kn : sKn} {w : sW} (hw : wOk ZZ w) {k1 : Nat} (hk1 : ztau k1 = some 22) : ∃ w', fX7_forget kn [.ref k1] w = some (none, w', 0, 0) ∧ hO dX7_forget w w' := by
  obtain ⟨r, w', h1, h2, q, hq, σ', h3, h4, h5, h6⟩ := con_use (con_X7_forget_0 kn) (σ := [0, (k1 : Int)]) (av := [.ref k1]) (w := w) rfl rfl ⟨av_r rfl, trivial⟩ (fun q hq => by cases hq) (gE_c ⟨_, rfl, _, rfl, hk1⟩ gE_n) hw (by simp only [xa_eq, List.all_cons, List.all_nil, Bool.and_true, Bool.and_eq_true]; exact tw hk1)
  rcases List.mem_singleton.mp hq with rfl
  rw [gS_v h4] at h1
  exact ⟨w', h1, h2⟩
theorem nm_dBT : msub dBT dX11_bridge = true := by decide +kernel
theorem nm_dX6_copyOf : msub dX6_copyOf dX11_bridge = true := by decide +kernel
theorem nm_dX8_begin : msub dX8_begin dX11_bridge = true := by decide +kernel
theorem nm_dX7_forget : msub dX7_forget dX11_bridge = true := by decide +kernel
theorem x_bridge {kn : sKn} {w0 : sW} {B : Nat → Int} {n : Nat} (N : Nat → Int) (hw : wOk ZZ w0) (hP : pl4 w0) (hB : ∀ i, i < n → gX w0 2 i = B i) (hn1 : gF w0 1 1 = (n : Int)) (hn940 : n ≤ 940) : ∃ (w' : sW) (v : Int), fX11_bridge kn [.ref 0] w0 = some (some (hI v), w', 0, 0) ∧ hO dX11_bridge w0 w' ∧ v = zAns (zBridge B n 900 N) ∧ R32 v := by
  have K : Tp (tX11_bridge kn) (fun r => ∃ (w' : sW) (v : Int), r = (some (hI v), w', 0, 0) ∧ hO dX11_bridge w0 w' ∧ v = zAns (zBridge B n 900 N) ∧ R32 v) 0 (lv_args 0 [.ref 0], [], w0, 0, 0) := by
    have l0 : hL (lv_args 0 [.ref 0]) (lv_args 0 [.ref 0]) := hL_ex rfl
    have o0 : hO dX11_bridge w0 w0 := hO_rf hw
    refine h_aload rfl l0 rfl ?_
    refine h_getR rfl o0 nfr_0_1 ?_
    refine h_aload rfl l0 rfl ?_
    refine h_getR rfl o0 nfr_0_0 ?_
    obtain ⟨wR, bR, hf41, oR', sR, zR⟩ := x_read (kn := kn) N o0.1 hP hB hn1 hn940
    have oR := hO_tr o0 (hO_mono nm_dBT oR')
    have bR1 := zOK_01 zR
    refine h_V2 rfl o0 l0 ci_3 rfl rfl hf41 ?_
    refine h_istore rfl l0 (fun vl42 l42 => ?_)
    refine h_aload rfl l42 rfl ?_
    refine h_getR rfl oR nfr_0_0 ?_
    refine h_intv k_0 rfl ?_
    refine x_putI rfl oR fi_1_1 rfl (by omega) (by omega) (fun w43 o43 q44a q44F q44X q44J q44Y q44R => ?_)
    refine h_iload rfl l42 rfl ?_
    refine j_ne (kn := kn) (t := 1) (tgt := 34) (np := 24) rfl (by unfold R32; omega) (fun e45 => ?_) (fun e45 => ?_)
    · refine h_aload rfl l42 rfl ?_
      refine h_getR rfl o43 nfr_0_2 ?_
      refine h_aload rfl l42 rfl ?_
      refine h_getR rfl o43 nfr_0_1 ?_
      refine h_getR rfl o43 fr_3_0 ?_
      obtain ⟨wn_copyOf46, hf46, on_copyOf46'⟩ := n_copyOf (kn := kn) o43.1 (show ztau 14 = some 5 from rfl) (show ztau 4 = some 5 from rfl)
      have on_copyOf46 := hO_tr o43 (hO_mono nm_dX6_copyOf on_copyOf46')
      refine h_W2 rfl o43 l42 nci_14 rfl rfl hf46 ?_
      refine h_aload rfl l42 rfl ?_
      refine h_getR rfl on_copyOf46 nfr_0_3 ?_
      refine h_aload rfl l42 rfl ?_
      refine h_getR rfl on_copyOf46 nfr_0_2 ?_
      obtain ⟨wn_begin47, hf47, on_begin47'⟩ := n_begin (kn := kn) on_copyOf46.1 (show ztau 24 = some 15 from rfl) (show ztau 14 = some 5 from rfl)
      have on_begin47 := hO_tr on_copyOf46 (hO_mono nm_dX8_begin on_begin47')
      refine h_W2 rfl on_copyOf46 l42 nci_24 rfl rfl hf47 ?_
      refine h_aload rfl l42 rfl ?_
      refine h_getT rfl on_begin47 (show ztau 0 = some 1 from rfl) frt_1_4 (fun kS hkS rkS => ?_)
      obtain ⟨wn_forget48, hf48, on_forget48'⟩ := n_forget (kn := kn) on_begin47.1 hkS
      have on_forget48 := hO_tr on_begin47 (hO_mono nm_dX7_forget on_forget48')
      refine h_W1 rfl on_begin47 l42 (cI_of hkS cit_22) rfl rfl hf48 ?_
      refine h_aload rfl l42 rfl ?_
      refine h_intv k_0 rfl ?_
      refine x_putI rfl on_forget48 nfi_0_15 rfl (by omega) (by omega) (fun w49 o49 q50a q50F q50X q50J q50Y q50R => ?_)
      refine h_aload rfl l42 rfl ?_
      refine h_getR rfl o49 nfr_0_1 ?_
      refine h_getI rfl o49 fi_3_1 (fun b51a b51b => ?_)
      rw [q50F 3 1 (by decide), fr_gF on_forget48'.2 rfl rfl on_begin47.1 (by decide), fr_gF on_begin47'.2 rfl rfl on_copyOf46.1 (by decide), fr_gF on_copyOf46'.2 rfl rfl o43.1 (by decide), q44F 3 1 (by decide)] at b51a b51b ⊢
      refine h_iret rfl ?_
      obtain ⟨q, e1, e2⟩ := zOK_1 zR (by omega)
      refine ⟨_, _, rfl, o49, ?_, by unfold R32; omega⟩
      rw [e1]
      exact e2.1
    · refine h_intv k_n1 rfl ?_
      refine h_aload rfl l42 rfl ?_
      refine h_getR rfl o43 nfr_0_0 ?_
      refine h_getI rfl o43 fi_1_12 (fun b52a b52b => ?_)
      rw [q44F 1 12 (by decide)] at b52a b52b ⊢
      refine h_isub rfl ?_
      refine h_iret rfl ?_
      obtain ⟨e, e1, e2⟩ := zOK_0 zR (by omega)
      have e3 := e2.2
      refine ⟨_, _, rfl, o43, ?_, by unfold R32; omega⟩
      rw [e1]
      show _ = -1 - e.2
      omega
  obtain ⟨r, h1, w2, b, h2, h3⟩ := h_meth1 (nL := 2) rfl K
  rw [h2] at h1
  exact ⟨w2, b, h1, h3⟩
end
