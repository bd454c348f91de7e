noncomputable section
/-- the names of the loads, out of what is carried -/
theorem jc_nlR {w : sW} (hw : wOk ZZ w) (h : JC w) : nlR (rW w) (nW w) w := by
  have g := gX_in (hO_rf (D := []) hw) ai_215 ar_loads (j := 2) (by omega) (by omega) (by omega)
  obtain ⟨_, ⟨_, _, _, n2⟩, _⟩ := h
  refine ⟨⟨rfl, g.1, g.2⟩, fun s hs => ?_⟩
  obtain ⟨N, r, y1, y2⟩ := n2 s hs
  rw [Nat.zero_add] at y1
  have e := nW_e r y1
  rw [e]
  exact ⟨y1, r⟩
theorem jc_nlC {w : sW} (h : JC w) : nlC (rW w) (nW w) w := by
  obtain ⟨⟨s1, _, _⟩, ⟨⟨_, _, a3, _⟩, _, _, n2⟩, _⟩ := h
  refine ⟨s1 14 (Or.inl rfl) 6 (by omega), a3, fun s hs => ?_⟩
  obtain ⟨N, r, y1, y2⟩ := n2 s hs
  rw [Nat.zero_add] at y1
  have e := nW_e r y1
  rw [e]
  exact ⟨y2, r⟩
theorem nlR_kR {R N : Nat → Int} {w w1 : sW} (k : kR w w1) (h : nlR R N w) : nlR R N w1 := by
  refine ⟨⟨(k.1 2 (by omega)).trans h.1.1, h.1.2⟩, fun s hs => ?_⟩
  rw [k.2.2.2.1 (10 + s)]
  exact h.2 s hs
/-- what fault() answers -/
theorem x_faultC {kn : sKn} {w : sW} (hw : wOk ZZ w) : fX11_fault kn [.ref 0] w = some (some (hI (gF w 1 11)), w, 0, 0) ∧ R32 (gF w 1 11) := by
  have o0 : hO [] w w := hO_rf hw
  have K : Tp (tX11_fault kn) (fun r => r = (some (hI (gF w 1 11)), w, 0, 0) ∧ R32 (gF w 1 11)) 0 (lv_args 0 [.ref 0], [], w, 0, 0) := by
    have l0 : hL (lv_args 0 [.ref 0]) (lv_args 0 [.ref 0]) := hL_ex rfl
    refine h_aload rfl l0 rfl ?_
    refine h_getR rfl o0 frc_0_0 ?_
    refine h_getI rfl o0 fi_1_11 (fun b1 b2 => ?_)
    refine h_iret rfl ?_
    exact ⟨rfl, by unfold R32; omega⟩
  obtain ⟨r, h1, h2, h3⟩ := h_meth1 (nL := 1) rfl K
  rw [h2] at h1
  exact ⟨h1, h3⟩
theorem x_faultR {kn : sKn} {w : sW} (hw : wOk ZZ w) : ∃ w', fX12_fault kn [.ref 213] w = some (some (hI (gF w 213 10)), w', 0, 0) ∧ hO [(61, 0)] w w' := by
  have o0 : hO [(61, 0)] w w := hO_rf hw
  have K : Tp (tX12_fault kn) (fun r => ∃ w', r = (some (hI (gF w 213 10)), w', 0, 0) ∧ hO [(61, 0)] w w') 0 (lv_args 0 [.ref 213], [], w, 0, 0) := by
    have l0 : hL (lv_args 0 [.ref 213]) (lv_args 0 [.ref 213]) := hL_ex rfl
    refine h_aload rfl l0 rfl ?_
    refine h_intv k_0 rfl ?_
    refine x_putI rfl o0 fi_0 rfl (by omega) (by omega) (fun w1 o1 qa qF qX qJ qY qR => ?_)
    refine h_aload rfl l0 rfl ?_
    refine h_getI rfl o1 fi_10 (fun b1 b2 => ?_)
    rw [qF 213 10 (by decide)] at b1 b2 ⊢
    refine h_iret rfl ?_
    exact ⟨_, rfl, o1⟩
  obtain ⟨r, h1, w2, h2, h3⟩ := h_meth1 (nL := 1) rfl K
  rw [h2] at h1
  exact ⟨w2, h1, h3⟩
/-- a BOOK with lives that are neither 0 nor 1 leaves the fault -/
theorem b_book7n {kn : sKn} {w0 : sW} (hw : wOk ZZ w0) (x : Int) (hx : R32 x) (hn0 : x ≠ 0) (hn1 : x ≠ 1) : fX11_book kn [.ref 0, hI x] w0 = some (some (hI (-1000)), w0, 0, 0) := by
  have hx1 := hx.1
  have hx2 := hx.2
  have K : Tp (tX11_book kn) (fun r => r = (some (hI (-1000)), w0, 0, 0)) 0 (lv_args 0 [.ref 0, hI x], [], w0, 0, 0) := by
    have l0 : hL (lv_args 0 [.ref 0, hI x]) (lv_args 0 [.ref 0, hI x]) := ⟨fun _ _ h => h, fun q hq => by
      rcases List.mem_cons.mp hq with e | hq
      · rw [e]
        exact ⟨rfl, rfl⟩
      rcases List.mem_cons.mp hq with e | hq
      · rw [e]
        exact ⟨rfl, rfl⟩
      cases hq⟩
    refine h_iload rfl l0 rfl ?_
    refine j_eq (kn := kn) (t := 0) (tgt := 13) (np := 4) rfl (by unfold R32; omega) (fun e41 => ?_) (fun e41 => ?_)
    · omega
    · refine h_iload rfl l0 rfl ?_
      refine h_intv k_1 rfl ?_
      refine i_eq (kn := kn) (t := 0) (tgt := 13) (np := 9) rfl (by unfold R32; omega) (by unfold R32; omega) (fun e56 => ?_) (fun e56 => ?_)
      · omega
      · refine h_intv k_n1000 rfl ?_
        refine h_iret rfl ?_
        rfl
  obtain ⟨r, h1, h2⟩ := h_meth1 (nL := 4) rfl K
  rw [h2] at h1
  exact h1
theorem b_bookRn {kn : sKn} {w0 : sW} (hw : wOk ZZ w0) (x : Int) (hx : R32 x) (hn0 : x ≠ 0) (hn1 : x ≠ 1) : ∃ w', fX12_book kn [.ref 213, hI x] w0 = some (some (hI (-1000)), w', 0, 0) ∧ gF w' 213 10 = gF w0 213 10 := by
  have K : Tp (tX12_book kn) (fun r => ∃ w', r = (some (hI (-1000)), w', 0, 0) ∧ gF w' 213 10 = gF w0 213 10) 0 (lv_args 0 [.ref 213, hI x], [], w0, 0, 0) := by
    have l0 : hL (lv_args 0 [.ref 213, hI x]) (lv_args 0 [.ref 213, hI x]) := hL_ex rfl
    have o0 : hO dBR5 w0 w0 := hO_rf hw
    refine h_aload rfl l0 rfl ?_
    refine h_intv k_0 rfl ?_
    refine x_putI rfl o0 fi_0 rfl (by omega) (by omega) (fun w41 o41 q42a q42F q42X q42J q42Y q42R => ?_)
    refine h_iload rfl l0 rfl ?_
    refine h_intv k_0 rfl ?_
    refine h_intv k_1 rfl ?_
    obtain ⟨z43, hf43, hz43, hq43⟩ := s_isIn (kn := kn) o41.1 x 0 1 hx ⟨by omega, by omega⟩ ⟨by omega, by omega⟩
    refine h_S3 rfl o41 l0 rfl rfl hf43 ?_
    refine j_ne (kn := kn) (t := 1) (tgt := 18) (np := 14) rfl (by unfold R32; omega) (fun e44 => ?_) (fun e44 => ?_)
    · have h01 := hq43.mp (by omega)
      omega
    · refine h_intv k_n1000 rfl ?_
      refine h_iret rfl ?_
      exact ⟨_, rfl, q42F 213 10 (by decide)⟩
  obtain ⟨r, h1, w2, h2, h3⟩ := h_meth1 (nL := 4) rfl K
  rw [h2] at h1
  exact ⟨w2, h1, h3⟩
/-- the fault behind a BOOK: x lives, f the fault before, Z the reading -/
def bkF (x f : Int) (Z : zE ⊕ Int) (f' : Int) : Prop := ((x = 0 ∨ x = 1) → f' = zFt Z) ∧ (x ≠ 0 ∧ x ≠ 1 → f' = f)
theorem bkF_e {x f g a b : Int} {Z : zE ⊕ Int} (h1 : bkF x f Z a) (h2 : bkF x g Z b) (e : f = g) : a = b := by
  by_cases z : x = 0 ∨ x = 1
  · exact (h1.1 z).trans (h2.1 z).symm
  · exact (h1.2 (by omega)).trans (e.trans (h2.2 (by omega)).symm)
end
