noncomputable section
def dH_go : List (Nat × Nat) := [(61, 5), (61, 6), (61, 7), (61, 8), (61, 9), (61, 12)]
def dH_go7 : List (Nat × Nat) := [(61, 777), (61, 5), (61, 6), (61, 7), (61, 8), (61, 9), (61, 12)]
theorem fj_12 : fJt 213 13 12 = some 61 := by decide +kernel
/-- what has not grown need not be said to change -/
theorem fr_J {D : List (Nat × Nat)} {w w' : sW} (hw : wOk ZZ w) (hw' : wOk ZZ w') (h : frOk ZZ ((61, 777) :: D) w w') (hj : jW w w') : frOk ZZ D w w' := by
  refine ⟨h.1, fun k c hc => ⟨(h.2.1 k c hc).1, fun t ht => ?_⟩, fun _ _ => hj, fun hz hm => h.2.2.2.1 hz (fun y => by
    rcases List.mem_cons.mp y with e | e
    · cases e
    · exact hm e), fun hz hm => h.2.2.2.2 hz (fun y => by
    rcases List.mem_cons.mp y with e | e
    · cases e
    · exact hm e)⟩
  have p := (h.2.1 k c hc).2 t ht
  cases c with
  | inl a =>
    intro z
    refine p (fun y => ?_)
    rcases List.mem_cons.mp y with e | e
    · cases e
    · exact z e
  | inr q =>
    obtain ⟨fs', e1, e2⟩ := p
    refine ⟨fs', e1, fun j hj2 => ?_⟩
    by_cases e : (t, j) = (61, 777)
    · cases e
      obtain ⟨ly, c1, a1, a2, a3⟩ := hw.2 k 61 ht
      obtain ⟨ly2, c2, b1, b2, b3⟩ := hw'.2 k 61 ht
      rw [hc] at a2
      cases a2
      rw [e1] at b2
      cases b2
      rw [show ZZ.1 61 = some zL61 from rfl] at a1 b1
      cases a1
      cases b1
      obtain ⟨fs1, f1, f2, _⟩ := a3
      obtain ⟨fs2, g1, g2, _⟩ := b3
      cases f1
      cases g1
      rw [List.getElem?_eq_none (by rw [g2]; decide), List.getElem?_eq_none (by rw [f2]; decide)]
    · refine e2 j (fun y => ?_)
      rcases List.mem_cons.mp y with e3 | e3
      · exact e e3
      · exact hj2 e3
theorem s_rLet {kn : sKn} {w : sW} (hw : wOk ZZ w) (x : Int) (hx : R32 x) : ∃ b : Int, fX12_isLetter kn [hI x] w = some (some (hI b), w, 0, 0) ∧ ((b = 0 ∨ b = 1) ∧ (b = 1 ↔ 97 ≤ x ∧ x ≤ 122)) := by
  have K : Tp (tX12_isLetter kn) (fun r => ∃ b : Int, r = (some (hI b), w, 0, 0) ∧ ((b = 0 ∨ b = 1) ∧ (b = 1 ↔ 97 ≤ x ∧ x ≤ 122))) 0 (lv_args 0 [hI x], [], w, 0, 0) := by
    have l0 : hL (lv_args 0 [hI x]) (lv_args 0 [hI x]) := hL_ex rfl
    have o0 : hO [] w w := hO_rf hw
    have hx1 := hx.1
    have hx2 := hx.2
    refine h_iload rfl l0 rfl ?_
    refine h_intv k_97 rfl ?_
    refine i_lt (kn := kn) (t := 2) (tgt := 16) (np := 6) rfl (by unfold R32; omega) (by unfold R32; omega) (fun e1 => ?_) (fun e1 => ?_)
    · refine h_intv k_0 rfl ?_
      refine h_zret (by omega) rfl ?_
      exact ⟨_, rfl, by omega, by omega⟩
    · refine h_iload rfl l0 rfl ?_
      refine h_intv k_122 rfl ?_
      refine i_gt (kn := kn) (t := 4) (tgt := 16) (np := 12) rfl (by unfold R32; omega) (by unfold R32; omega) (fun e2 => ?_) (fun e2 => ?_)
      · refine h_intv k_0 rfl ?_
        refine h_zret (by omega) rfl ?_
        exact ⟨_, rfl, by omega, by omega⟩
      · refine h_intv k_1 rfl ?_
        refine h_goto rfl ?_
        refine h_zret (by omega) rfl ?_
        exact ⟨_, rfl, by omega, by omega⟩
  obtain ⟨r, h1, b, h2, h3⟩ := h_meth1 (nL := 1) rfl K
  rw [h2] at h1
  exact ⟨b, h1, h3⟩
theorem s_rDig {kn : sKn} {w : sW} (hw : wOk ZZ w) (x : Int) (hx : R32 x) : ∃ b : Int, fX12_isDigit kn [hI x] w = some (some (hI b), w, 0, 0) ∧ ((b = 0 ∨ b = 1) ∧ (b = 1 ↔ 48 ≤ x ∧ x ≤ 57)) := by
  have K : Tp (tX12_isDigit kn) (fun r => ∃ b : Int, r = (some (hI b), w, 0, 0) ∧ ((b = 0 ∨ b = 1) ∧ (b = 1 ↔ 48 ≤ x ∧ x ≤ 57))) 0 (lv_args 0 [hI x], [], w, 0, 0) := by
    have l0 : hL (lv_args 0 [hI x]) (lv_args 0 [hI x]) := hL_ex rfl
    have o0 : hO [] w w := hO_rf hw
    have hx1 := hx.1
    have hx2 := hx.2
    refine h_iload rfl l0 rfl ?_
    refine h_intv k_48 rfl ?_
    refine i_lt (kn := kn) (t := 2) (tgt := 16) (np := 6) rfl (by unfold R32; omega) (by unfold R32; omega) (fun e1 => ?_) (fun e1 => ?_)
    · refine h_intv k_0 rfl ?_
      refine h_zret (by omega) rfl ?_
      exact ⟨_, rfl, by omega, by omega⟩
    · refine h_iload rfl l0 rfl ?_
      refine h_intv k_57 rfl ?_
      refine i_gt (kn := kn) (t := 4) (tgt := 16) (np := 12) rfl (by unfold R32; omega) (by unfold R32; omega) (fun e2 => ?_) (fun e2 => ?_)
      · refine h_intv k_0 rfl ?_
        refine h_zret (by omega) rfl ?_
        exact ⟨_, rfl, by omega, by omega⟩
      · refine h_intv k_1 rfl ?_
        refine h_goto rfl ?_
        refine h_zret (by omega) rfl ?_
        exact ⟨_, rfl, by omega, by omega⟩
  obtain ⟨r, h1, b, h2, h3⟩ := h_meth1 (nL := 1) rfl K
  rw [h2] at h1
  exact ⟨b, h1, h3⟩
theorem s_tapeAt {kn : sKn} {w : sW} (hw : wOk ZZ w) (p : Nat) (hp : p ≤ 940) : ∃ b : Int, fX12_tapeAt kn [.ref 213, hI p] w = some (some (hI b), w, 0, 0) ∧ (((p : Int) < gF w 213 3 ∧ b = gX w 214 p ∧ -2147483648 ≤ b ∧ b ≤ 2147483647) ∨ (gF w 213 3 ≤ p ∧ b = 0)) := by
  have K : Tp (tX12_tapeAt kn) (fun r => ∃ b : Int, r = (some (hI b), w, 0, 0) ∧ (((p : Int) < gF w 213 3 ∧ b = gX w 214 p ∧ -2147483648 ≤ b ∧ b ≤ 2147483647) ∨ (gF w 213 3 ≤ p ∧ b = 0))) 0 (lv_args 0 [.ref 213, hI p], [], w, 0, 0) := by
    have l0 : hL (lv_args 0 [.ref 213, hI p]) (lv_args 0 [.ref 213, hI p]) := hL_ex rfl
    have o0 : hO [] w w := hO_rf hw
    refine h_iload rfl l0 rfl ?_
    refine h_aload rfl l0 rfl ?_
    refine h_getI rfl o0 fi_3 (fun b1a b1b => ?_)
    refine i_ge (kn := kn) (t := 3) (tgt := 17) (np := 8) rfl (by unfold R32; omega) (by unfold R32; omega) (fun e2 => ?_) (fun e2 => ?_)
    · refine h_intv k_0 rfl ?_
      refine h_iret rfl ?_
      exact ⟨_, rfl, by omega⟩
    · refine h_aload rfl l0 rfl ?_
      refine h_getR rfl o0 fr_1 ?_
      refine h_iload rfl l0 rfl ?_
      refine h_ialdj (p) rfl o0 ai_214 rfl (by omega) (by omega) (fun b3a b3b => ?_)
      refine h_goto rfl ?_
      refine h_iret rfl ?_
      exact ⟨_, rfl, by omega⟩
  obtain ⟨r, h1, b, h2, h3⟩ := h_meth1 (nL := 2) rfl K
  rw [h2] at h1
  exact ⟨b, h1, h3⟩
theorem rho_0 {w : sW} {N t k : Int} (h3 : gF w 213 3 = N) (h5 : gF w 213 5 = t) (h7 : gF w 213 7 = k) (hk : k < 2) : rhoV w = N - t := by
  unfold rhoV
  rw [h3, h5, h7, if_neg (by omega)]
  omega
theorem rho_1 {w : sW} {N t : Int} (h3 : gF w 213 3 = N) (h5 : gF w 213 5 = t) : rhoV w ≤ N - t + 1 := by
  unfold rhoV
  rw [h3, h5]
  split <;> omega
theorem go_e {kn : sKn} {w0 : sW} (N t0 : Nat) (hN : N ≤ 940) (F t : Nat) (hF : F + 1 ≤ t) (hFt : t0 ≤ F) (c lt gd : Int) (lv : List (Nat × Value)) (w : sW) (hlt : lt = 0 ∨ lt = 1) (hgd : gd = 0 ∨ gd = 1) (o0 : hO dH_go7 w0 w) (hw3 : gF w 213 3 = (N : Int)) (hw5 : gF w 213 5 = (t : Int)) (hw6 : gF w 213 6 = (F : Int)) (l0 : hL lv [(0, .ref 213), (1, hI c), (2, hI lt), (3, hI gd)]) : Tp (tX12_go kn) (fun r => ∃ w', r = (none, w', 0, 0) ∧ hO dH_go7 w0 w' ∧ gF w' 213 3 = (N : Int) ∧ (t0 : Int) ≤ gF w' 213 5 ∧ rhoV w' ≤ (N : Int) - (t0 : Int)) 350 (lv, [], w, 0, 0) := by
  refine h_aload rfl l0 rfl ?_
  refine h_iload rfl l0 rfl ?_
  refine j_eq (kn := kn) (t := 0) (tgt := 377) (np := 355) rfl (by unfold R32; omega) (fun e1 => ?_) (fun e1 => ?_)
  · refine h_intv k_1 rfl ?_
    refine h_goto rfl ?_
    refine h_putI rfl o0 fi_7 rfl (by omega) (by omega) (fun w2 o2 q3a q3b q3c => ?_)
    refine h_vret rfl ?_
    have r1 := rho_1 (w := w2) (N := N) (t := t) (by rw [q3b 213 3 (by omega)]; exact hw3) (by rw [q3b 213 5 (by omega)]; exact hw5)
    exact ⟨_, rfl, o2, by rw [q3b 213 3 (by omega)]; exact hw3, by rw [q3b 213 5 (by omega)]; omega, by omega⟩
  · refine h_aload rfl l0 rfl ?_
    refine h_getI rfl o0 fi_5 (fun b4a b4b => ?_)
    rw [hw5] at b4a b4b ⊢
    refine h_aload rfl l0 rfl ?_
    refine h_getI rfl o0 fi_6 (fun b5a b5b => ?_)
    rw [hw6] at b5a b5b ⊢
    refine h_isub rfl ?_
    refine h_iload rfl l0 rfl ?_
    refine j_eq (kn := kn) (t := 0) (tgt := 373) (np := 368) rfl (by unfold R32; omega) (fun e6 => ?_) (fun e6 => ?_)
    · refine h_intv k_3 rfl ?_
      refine i_le (kn := kn) (t := 5) (tgt := 381) (np := 377) rfl (by unfold R32; omega) (by unfold R32; omega) (fun e7 => ?_) (fun e7 => ?_)
      · refine h_iload rfl l0 rfl ?_
        refine j_eq (kn := kn) (t := 0) (tgt := 389) (np := 385) rfl (by unfold R32; omega) (fun e8 => ?_) (fun e8 => ?_)
        · refine h_intv k_3 rfl ?_
          refine h_putI rfl o0 fi_7 rfl (by omega) (by omega) (fun w9 o9 q10a q10b q10c => ?_)
          refine h_vret rfl ?_
          have r1 := rho_1 (w := w9) (N := N) (t := t) (by rw [q10b 213 3 (by omega)]; exact hw3) (by rw [q10b 213 5 (by omega)]; exact hw5)
          exact ⟨_, rfl, o9, by rw [q10b 213 3 (by omega)]; exact hw3, by rw [q10b 213 5 (by omega)]; omega, by omega⟩
        · refine h_intv k_2 rfl ?_
          refine h_goto rfl ?_
          refine h_putI rfl o0 fi_7 rfl (by omega) (by omega) (fun w11 o11 q12a q12b q12c => ?_)
          refine h_vret rfl ?_
          have r1 := rho_1 (w := w11) (N := N) (t := t) (by rw [q12b 213 3 (by omega)]; exact hw3) (by rw [q12b 213 5 (by omega)]; exact hw5)
          exact ⟨_, rfl, o11, by rw [q12b 213 3 (by omega)]; exact hw3, by rw [q12b 213 5 (by omega)]; omega, by omega⟩
      · refine h_intv k_1 rfl ?_
        refine h_goto rfl ?_
        refine h_putI rfl o0 fi_7 rfl (by omega) (by omega) (fun w13 o13 q14a q14b q14c => ?_)
        refine h_vret rfl ?_
        have r1 := rho_1 (w := w13) (N := N) (t := t) (by rw [q14b 213 3 (by omega)]; exact hw3) (by rw [q14b 213 5 (by omega)]; exact hw5)
        exact ⟨_, rfl, o13, by rw [q14b 213 3 (by omega)]; exact hw3, by rw [q14b 213 5 (by omega)]; omega, by omega⟩
    · refine h_intv k_7 rfl ?_
      refine h_goto rfl ?_
      refine i_le (kn := kn) (t := 5) (tgt := 381) (np := 377) rfl (by unfold R32; omega) (by unfold R32; omega) (fun e15 => ?_) (fun e15 => ?_)
      · refine h_iload rfl l0 rfl ?_
        refine j_eq (kn := kn) (t := 0) (tgt := 389) (np := 385) rfl (by unfold R32; omega) (fun e16 => ?_) (fun e16 => ?_)
        · refine h_intv k_3 rfl ?_
          refine h_putI rfl o0 fi_7 rfl (by omega) (by omega) (fun w17 o17 q18a q18b q18c => ?_)
          refine h_vret rfl ?_
          have r1 := rho_1 (w := w17) (N := N) (t := t) (by rw [q18b 213 3 (by omega)]; exact hw3) (by rw [q18b 213 5 (by omega)]; exact hw5)
          exact ⟨_, rfl, o17, by rw [q18b 213 3 (by omega)]; exact hw3, by rw [q18b 213 5 (by omega)]; omega, by omega⟩
        · refine h_intv k_2 rfl ?_
          refine h_goto rfl ?_
          refine h_putI rfl o0 fi_7 rfl (by omega) (by omega) (fun w19 o19 q20a q20b q20c => ?_)
          refine h_vret rfl ?_
          have r1 := rho_1 (w := w19) (N := N) (t := t) (by rw [q20b 213 3 (by omega)]; exact hw3) (by rw [q20b 213 5 (by omega)]; exact hw5)
          exact ⟨_, rfl, o19, by rw [q20b 213 3 (by omega)]; exact hw3, by rw [q20b 213 5 (by omega)]; omega, by omega⟩
      · refine h_intv k_1 rfl ?_
        refine h_goto rfl ?_
        refine h_putI rfl o0 fi_7 rfl (by omega) (by omega) (fun w21 o21 q22a q22b q22c => ?_)
        refine h_vret rfl ?_
        have r1 := rho_1 (w := w21) (N := N) (t := t) (by rw [q22b 213 3 (by omega)]; exact hw3) (by rw [q22b 213 5 (by omega)]; exact hw5)
        exact ⟨_, rfl, o21, by rw [q22b 213 3 (by omega)]; exact hw3, by rw [q22b 213 5 (by omega)]; omega, by omega⟩
theorem go_w {kn : sKn} {w0 : sW} (N t0 : Nat) (hN : N ≤ 940) (ht0 : t0 ≤ 940) (F : Nat) (hFt : t0 ≤ F) (c lt : Int) (hlt : lt = 0 ∨ lt = 1) : ∀ (m t : Nat) (w : sW) (lv : List (Nat × Value)) (gd : Int), t + m = 941 → hO dH_go7 w0 w → gF w 213 3 = (N : Int) → gF w 213 5 = (t : Int) → gF w 213 6 = (F : Int) → t ≤ 940 → (gd = 0 ∨ gd = 1) → (F + 1 ≤ t ∨ (t = F ∧ F < N ∧ ((97 ≤ gX w 214 F ∧ gX w 214 F ≤ 122) ∨ (48 ≤ gX w 214 F ∧ gX w 214 F ≤ 57)))) → hL lv [(0, .ref 213), (1, hI c), (2, hI lt), (3, hI gd)] → Tp (tX12_go kn) (fun r => ∃ w', r = (none, w', 0, 0) ∧ hO dH_go7 w0 w' ∧ gF w' 213 3 = (N : Int) ∧ (t0 : Int) ≤ gF w' 213 5 ∧ rhoV w' ≤ (N : Int) - (t0 : Int)) 215 (lv, [], w, 0, 0) := by
  intro m
  induction m with
  | zero =>
    intro t w lv gd hm o0 hw3 hw5 hw6 ht
    omega
  | succ m ih =>
    intro t w lv gd hm o0 hw3 hw5 hw6 ht hgd hiv l0
    refine h_aload rfl l0 rfl ?_
    refine h_aload rfl l0 rfl ?_
    refine h_getI rfl o0 fi_5 (fun b1a b1b => ?_)
    rw [hw5] at b1a b1b ⊢
    obtain ⟨z2, hf2, hz2⟩ := s_tapeAt (kn := kn) o0.1 t (by omega)
    rw [hw3] at hz2
    refine h_V2 rfl o0 l0 ci_213 rfl rfl hf2 ?_
    obtain ⟨z3, hf3, hz3, hq3⟩ := s_rLet (kn := kn) o0.1 z2 ⟨by omega, by omega⟩
    refine h_S1 rfl o0 l0 rfl rfl hf3 ?_
    refine j_ne (kn := kn) (t := 1) (tgt := 243) (np := 229) rfl (by unfold R32; omega) (fun e4 => ?_) (fun e4 => ?_)
    · refine h_aload rfl l0 rfl ?_
      refine h_getR rfl o0 fr_1 ?_
      refine h_aload rfl l0 rfl ?_
      refine h_getI rfl o0 fi_5 (fun b5a b5b => ?_)
      rw [hw5] at b5a b5b ⊢
      refine h_ialdj (t) rfl o0 ai_214 rfl (by omega) (by omega) (fun b6a b6b => ?_)
      refine h_istore rfl l0 (fun vl7 l7 => ?_)
      refine h_iload rfl l7 rfl ?_
      refine j_eq (kn := kn) (t := 0) (tgt := 271) (np := 258) rfl (by unfold R32; omega) (fun e8 => ?_) (fun e8 => ?_)
      · refine h_intv k_0 rfl ?_
        refine h_istore rfl l7 (fun vl9 l9 => ?_)
        refine h_aload rfl l9 rfl ?_
        refine h_getI rfl o0 fi_5 (fun b10a b10b => ?_)
        rw [hw5] at b10a b10b ⊢
        refine h_aload rfl l9 rfl ?_
        refine h_getI rfl o0 fi_6 (fun b11a b11b => ?_)
        rw [hw6] at b11a b11b ⊢
        refine h_isub rfl ?_
        refine h_intv k_7 rfl ?_
        refine i_ge (kn := kn) (t := 3) (tgt := 307) (np := 287) rfl (by unfold R32; omega) (by unfold R32; omega) (fun e12 => ?_) (fun e12 => ?_)
        · refine h_aload rfl l9 rfl ?_
          refine h_getI rfl o0 fi_5 (fun b13a b13b => ?_)
          rw [hw5] at b13a b13b ⊢
          refine h_aload rfl l9 rfl ?_
          refine h_getI rfl o0 fi_6 (fun b14a b14b => ?_)
          rw [hw6] at b14a b14b ⊢
          refine h_isub rfl ?_
          refine h_intv k_3 rfl ?_
          refine i_ge (kn := kn) (t := 3) (tgt := 337) (np := 320) rfl (by unfold R32; omega) (by unfold R32; omega) (fun e15 => ?_) (fun e15 => ?_)
          · refine h_aload rfl l9 rfl ?_
            refine h_dup rfl rfl ?_
            refine h_getI rfl o0 fi_5 (fun b16a b16b => ?_)
            rw [hw5] at b16a b16b ⊢
            refine h_intv k_1 rfl ?_
            refine h_iadd rfl ?_
            refine h_putI rfl o0 fi_5 rfl (by omega) (by omega) (fun w17 o17 q18a q18b q18c => ?_)
            refine h_goto rfl ?_
            exact ih (t + 1) w17 _ _ (by omega) o17 (by rw [q18b 213 3 (by omega)]; exact hw3) (by rw [q18a]; omega) (by rw [q18b 213 6 (by omega)]; exact hw6) (by omega) (by omega) (Or.inl (by omega)) (hL_take 4 l9)
          · refine h_aload rfl l9 rfl ?_
            refine h_intv k_10 rfl ?_
            refine h_aload rfl l9 rfl ?_
            refine h_getI rfl o0 fi_8 (fun b19a b19b => ?_)
            refine h_imul rfl ?_
            refine h_iload rfl l9 rfl ?_
            refine h_iadd rfl ?_
            refine h_intv k_48 rfl ?_
            refine h_isub rfl ?_
            rw [hI_wr (10 * gF w 213 8 + gX w 214 t - 48)]
            refine h_putI rfl o0 fi_8 rfl (wr_R _).1 (wr_R _).2 (fun w20 o20 q21a q21b q21c => ?_)
            refine h_aload rfl l9 rfl ?_
            refine h_dup rfl rfl ?_
            refine h_getI rfl o20 fi_5 (fun b22a b22b => ?_)
            rw [q21b 213 5 (by omega), hw5] at b22a b22b ⊢
            refine h_intv k_1 rfl ?_
            refine h_iadd rfl ?_
            refine h_putI rfl o20 fi_5 rfl (by omega) (by omega) (fun w23 o23 q24a q24b q24c => ?_)
            refine h_goto rfl ?_
            exact ih (t + 1) w23 _ _ (by omega) o23 (by rw [q24b 213 3 (by omega), q21b 213 3 (by omega)]; exact hw3) (by rw [q24a]; omega) (by rw [q24b 213 6 (by omega), q21b 213 6 (by omega)]; exact hw6) (by omega) (by omega) (Or.inl (by omega)) (hL_take 4 l9)
        · refine h_aload rfl l9 rfl ?_
          refine h_long rfl ?_
          refine h_aload rfl l9 rfl ?_
          refine h_getJ rfl o0 fj_12 (fun j25 => ?_)
          refine h_lmul rfl ?_
          refine h_iload rfl l9 rfl ?_
          refine h_i2l rfl (fun j26 => ?_)
          refine h_ladd rfl ?_
          refine h_long rfl ?_
          refine h_lsub rfl ?_
          refine h_putJ rfl o0 fj_12 rfl (fun w27 o27 q28b q28c => ?_)
          refine h_aload rfl l9 rfl ?_
          refine h_getI rfl o27 fi_5 (fun b29a b29b => ?_)
          rw [q28b, hw5] at b29a b29b ⊢
          refine h_aload rfl l9 rfl ?_
          refine h_getI rfl o27 fi_6 (fun b30a b30b => ?_)
          rw [q28b, hw6] at b30a b30b ⊢
          refine h_isub rfl ?_
          refine h_intv k_3 rfl ?_
          refine i_ge (kn := kn) (t := 3) (tgt := 337) (np := 320) rfl (by unfold R32; omega) (by unfold R32; omega) (fun e31 => ?_) (fun e31 => ?_)
          · refine h_aload rfl l9 rfl ?_
            refine h_dup rfl rfl ?_
            refine h_getI rfl o27 fi_5 (fun b32a b32b => ?_)
            rw [q28b, hw5] at b32a b32b ⊢
            refine h_intv k_1 rfl ?_
            refine h_iadd rfl ?_
            refine h_putI rfl o27 fi_5 rfl (by omega) (by omega) (fun w33 o33 q34a q34b q34c => ?_)
            refine h_goto rfl ?_
            exact ih (t + 1) w33 _ _ (by omega) o33 (by rw [q34b 213 3 (by omega), q28b]; exact hw3) (by rw [q34a]; omega) (by rw [q34b 213 6 (by omega), q28b]; exact hw6) (by omega) (by omega) (Or.inl (by omega)) (hL_take 4 l9)
          · refine h_aload rfl l9 rfl ?_
            refine h_intv k_10 rfl ?_
            refine h_aload rfl l9 rfl ?_
            refine h_getI rfl o27 fi_8 (fun b35a b35b => ?_)
            refine h_imul rfl ?_
            refine h_iload rfl l9 rfl ?_
            refine h_iadd rfl ?_
            refine h_intv k_48 rfl ?_
            refine h_isub rfl ?_
            rw [hI_wr (10 * gF w27 213 8 + gX w 214 t - 48)]
            refine h_putI rfl o27 fi_8 rfl (wr_R _).1 (wr_R _).2 (fun w36 o36 q37a q37b q37c => ?_)
            refine h_aload rfl l9 rfl ?_
            refine h_dup rfl rfl ?_
            refine h_getI rfl o36 fi_5 (fun b38a b38b => ?_)
            rw [q37b 213 5 (by omega), q28b, hw5] at b38a b38b ⊢
            refine h_intv k_1 rfl ?_
            refine h_iadd rfl ?_
            refine h_putI rfl o36 fi_5 rfl (by omega) (by omega) (fun w39 o39 q40a q40b q40c => ?_)
            refine h_goto rfl ?_
            exact ih (t + 1) w39 _ _ (by omega) o39 (by rw [q40b 213 3 (by omega), q37b 213 3 (by omega), q28b]; exact hw3) (by rw [q40a]; omega) (by rw [q40b 213 6 (by omega), q37b 213 6 (by omega), q28b]; exact hw6) (by omega) (by omega) (Or.inl (by omega)) (hL_take 4 l9)
      · refine h_iload rfl l7 rfl ?_
        obtain ⟨z41, hf41, hz41, hq41⟩ := s_rLet (kn := kn) o0.1 (gX w 214 (t)) ⟨by omega, by omega⟩
        refine h_S1 rfl o0 l7 rfl rfl hf41 ?_
        refine h_iload rfl l7 rfl ?_
        refine i_ne (kn := kn) (t := 1) (tgt := 271) (np := 267) rfl (by unfold R32; omega) (by unfold R32; omega) (fun e42 => ?_) (fun e42 => ?_)
        · refine h_intv k_0 rfl ?_
          refine h_istore rfl l7 (fun vl43 l43 => ?_)
          refine h_aload rfl l43 rfl ?_
          refine h_getI rfl o0 fi_5 (fun b44a b44b => ?_)
          rw [hw5] at b44a b44b ⊢
          refine h_aload rfl l43 rfl ?_
          refine h_getI rfl o0 fi_6 (fun b45a b45b => ?_)
          rw [hw6] at b45a b45b ⊢
          refine h_isub rfl ?_
          refine h_intv k_7 rfl ?_
          refine i_ge (kn := kn) (t := 3) (tgt := 307) (np := 287) rfl (by unfold R32; omega) (by unfold R32; omega) (fun e46 => ?_) (fun e46 => ?_)
          · refine h_aload rfl l43 rfl ?_
            refine h_getI rfl o0 fi_5 (fun b47a b47b => ?_)
            rw [hw5] at b47a b47b ⊢
            refine h_aload rfl l43 rfl ?_
            refine h_getI rfl o0 fi_6 (fun b48a b48b => ?_)
            rw [hw6] at b48a b48b ⊢
            refine h_isub rfl ?_
            refine h_intv k_3 rfl ?_
            refine i_ge (kn := kn) (t := 3) (tgt := 337) (np := 320) rfl (by unfold R32; omega) (by unfold R32; omega) (fun e49 => ?_) (fun e49 => ?_)
            · refine h_aload rfl l43 rfl ?_
              refine h_dup rfl rfl ?_
              refine h_getI rfl o0 fi_5 (fun b50a b50b => ?_)
              rw [hw5] at b50a b50b ⊢
              refine h_intv k_1 rfl ?_
              refine h_iadd rfl ?_
              refine h_putI rfl o0 fi_5 rfl (by omega) (by omega) (fun w51 o51 q52a q52b q52c => ?_)
              refine h_goto rfl ?_
              exact ih (t + 1) w51 _ _ (by omega) o51 (by rw [q52b 213 3 (by omega)]; exact hw3) (by rw [q52a]; omega) (by rw [q52b 213 6 (by omega)]; exact hw6) (by omega) (by omega) (Or.inl (by omega)) (hL_take 4 l43)
            · refine h_aload rfl l43 rfl ?_
              refine h_intv k_10 rfl ?_
              refine h_aload rfl l43 rfl ?_
              refine h_getI rfl o0 fi_8 (fun b53a b53b => ?_)
              refine h_imul rfl ?_
              refine h_iload rfl l43 rfl ?_
              refine h_iadd rfl ?_
              refine h_intv k_48 rfl ?_
              refine h_isub rfl ?_
              rw [hI_wr (10 * gF w 213 8 + gX w 214 t - 48)]
              refine h_putI rfl o0 fi_8 rfl (wr_R _).1 (wr_R _).2 (fun w54 o54 q55a q55b q55c => ?_)
              refine h_aload rfl l43 rfl ?_
              refine h_dup rfl rfl ?_
              refine h_getI rfl o54 fi_5 (fun b56a b56b => ?_)
              rw [q55b 213 5 (by omega), hw5] at b56a b56b ⊢
              refine h_intv k_1 rfl ?_
              refine h_iadd rfl ?_
              refine h_putI rfl o54 fi_5 rfl (by omega) (by omega) (fun w57 o57 q58a q58b q58c => ?_)
              refine h_goto rfl ?_
              exact ih (t + 1) w57 _ _ (by omega) o57 (by rw [q58b 213 3 (by omega), q55b 213 3 (by omega)]; exact hw3) (by rw [q58a]; omega) (by rw [q58b 213 6 (by omega), q55b 213 6 (by omega)]; exact hw6) (by omega) (by omega) (Or.inl (by omega)) (hL_take 4 l43)
          · refine h_aload rfl l43 rfl ?_
            refine h_long rfl ?_
            refine h_aload rfl l43 rfl ?_
            refine h_getJ rfl o0 fj_12 (fun j59 => ?_)
            refine h_lmul rfl ?_
            refine h_iload rfl l43 rfl ?_
            refine h_i2l rfl (fun j60 => ?_)
            refine h_ladd rfl ?_
            refine h_long rfl ?_
            refine h_lsub rfl ?_
            refine h_putJ rfl o0 fj_12 rfl (fun w61 o61 q62b q62c => ?_)
            refine h_aload rfl l43 rfl ?_
            refine h_getI rfl o61 fi_5 (fun b63a b63b => ?_)
            rw [q62b, hw5] at b63a b63b ⊢
            refine h_aload rfl l43 rfl ?_
            refine h_getI rfl o61 fi_6 (fun b64a b64b => ?_)
            rw [q62b, hw6] at b64a b64b ⊢
            refine h_isub rfl ?_
            refine h_intv k_3 rfl ?_
            refine i_ge (kn := kn) (t := 3) (tgt := 337) (np := 320) rfl (by unfold R32; omega) (by unfold R32; omega) (fun e65 => ?_) (fun e65 => ?_)
            · refine h_aload rfl l43 rfl ?_
              refine h_dup rfl rfl ?_
              refine h_getI rfl o61 fi_5 (fun b66a b66b => ?_)
              rw [q62b, hw5] at b66a b66b ⊢
              refine h_intv k_1 rfl ?_
              refine h_iadd rfl ?_
              refine h_putI rfl o61 fi_5 rfl (by omega) (by omega) (fun w67 o67 q68a q68b q68c => ?_)
              refine h_goto rfl ?_
              exact ih (t + 1) w67 _ _ (by omega) o67 (by rw [q68b 213 3 (by omega), q62b]; exact hw3) (by rw [q68a]; omega) (by rw [q68b 213 6 (by omega), q62b]; exact hw6) (by omega) (by omega) (Or.inl (by omega)) (hL_take 4 l43)
            · refine h_aload rfl l43 rfl ?_
              refine h_intv k_10 rfl ?_
              refine h_aload rfl l43 rfl ?_
              refine h_getI rfl o61 fi_8 (fun b69a b69b => ?_)
              refine h_imul rfl ?_
              refine h_iload rfl l43 rfl ?_
              refine h_iadd rfl ?_
              refine h_intv k_48 rfl ?_
              refine h_isub rfl ?_
              rw [hI_wr (10 * gF w61 213 8 + gX w 214 t - 48)]
              refine h_putI rfl o61 fi_8 rfl (wr_R _).1 (wr_R _).2 (fun w70 o70 q71a q71b q71c => ?_)
              refine h_aload rfl l43 rfl ?_
              refine h_dup rfl rfl ?_
              refine h_getI rfl o70 fi_5 (fun b72a b72b => ?_)
              rw [q71b 213 5 (by omega), q62b, hw5] at b72a b72b ⊢
              refine h_intv k_1 rfl ?_
              refine h_iadd rfl ?_
              refine h_putI rfl o70 fi_5 rfl (by omega) (by omega) (fun w73 o73 q74a q74b q74c => ?_)
              refine h_goto rfl ?_
              exact ih (t + 1) w73 _ _ (by omega) o73 (by rw [q74b 213 3 (by omega), q71b 213 3 (by omega), q62b]; exact hw3) (by rw [q74a]; omega) (by rw [q74b 213 6 (by omega), q71b 213 6 (by omega), q62b]; exact hw6) (by omega) (by omega) (Or.inl (by omega)) (hL_take 4 l43)
        · refine h_intv k_1 rfl ?_
          refine h_goto rfl ?_
          refine h_istore rfl l7 (fun vl75 l75 => ?_)
          refine h_aload rfl l75 rfl ?_
          refine h_getI rfl o0 fi_5 (fun b76a b76b => ?_)
          rw [hw5] at b76a b76b ⊢
          refine h_aload rfl l75 rfl ?_
          refine h_getI rfl o0 fi_6 (fun b77a b77b => ?_)
          rw [hw6] at b77a b77b ⊢
          refine h_isub rfl ?_
          refine h_intv k_7 rfl ?_
          refine i_ge (kn := kn) (t := 3) (tgt := 307) (np := 287) rfl (by unfold R32; omega) (by unfold R32; omega) (fun e78 => ?_) (fun e78 => ?_)
          · refine h_aload rfl l75 rfl ?_
            refine h_getI rfl o0 fi_5 (fun b79a b79b => ?_)
            rw [hw5] at b79a b79b ⊢
            refine h_aload rfl l75 rfl ?_
            refine h_getI rfl o0 fi_6 (fun b80a b80b => ?_)
            rw [hw6] at b80a b80b ⊢
            refine h_isub rfl ?_
            refine h_intv k_3 rfl ?_
            refine i_ge (kn := kn) (t := 3) (tgt := 337) (np := 320) rfl (by unfold R32; omega) (by unfold R32; omega) (fun e81 => ?_) (fun e81 => ?_)
            · refine h_aload rfl l75 rfl ?_
              refine h_dup rfl rfl ?_
              refine h_getI rfl o0 fi_5 (fun b82a b82b => ?_)
              rw [hw5] at b82a b82b ⊢
              refine h_intv k_1 rfl ?_
              refine h_iadd rfl ?_
              refine h_putI rfl o0 fi_5 rfl (by omega) (by omega) (fun w83 o83 q84a q84b q84c => ?_)
              refine h_goto rfl ?_
              exact ih (t + 1) w83 _ _ (by omega) o83 (by rw [q84b 213 3 (by omega)]; exact hw3) (by rw [q84a]; omega) (by rw [q84b 213 6 (by omega)]; exact hw6) (by omega) (by omega) (Or.inl (by omega)) (hL_take 4 l75)
            · refine h_aload rfl l75 rfl ?_
              refine h_intv k_10 rfl ?_
              refine h_aload rfl l75 rfl ?_
              refine h_getI rfl o0 fi_8 (fun b85a b85b => ?_)
              refine h_imul rfl ?_
              refine h_iload rfl l75 rfl ?_
              refine h_iadd rfl ?_
              refine h_intv k_48 rfl ?_
              refine h_isub rfl ?_
              rw [hI_wr (10 * gF w 213 8 + gX w 214 t - 48)]
              refine h_putI rfl o0 fi_8 rfl (wr_R _).1 (wr_R _).2 (fun w86 o86 q87a q87b q87c => ?_)
              refine h_aload rfl l75 rfl ?_
              refine h_dup rfl rfl ?_
              refine h_getI rfl o86 fi_5 (fun b88a b88b => ?_)
              rw [q87b 213 5 (by omega), hw5] at b88a b88b ⊢
              refine h_intv k_1 rfl ?_
              refine h_iadd rfl ?_
              refine h_putI rfl o86 fi_5 rfl (by omega) (by omega) (fun w89 o89 q90a q90b q90c => ?_)
              refine h_goto rfl ?_
              exact ih (t + 1) w89 _ _ (by omega) o89 (by rw [q90b 213 3 (by omega), q87b 213 3 (by omega)]; exact hw3) (by rw [q90a]; omega) (by rw [q90b 213 6 (by omega), q87b 213 6 (by omega)]; exact hw6) (by omega) (by omega) (Or.inl (by omega)) (hL_take 4 l75)
          · refine h_aload rfl l75 rfl ?_
            refine h_long rfl ?_
            refine h_aload rfl l75 rfl ?_
            refine h_getJ rfl o0 fj_12 (fun j91 => ?_)
            refine h_lmul rfl ?_
            refine h_iload rfl l75 rfl ?_
            refine h_i2l rfl (fun j92 => ?_)
            refine h_ladd rfl ?_
            refine h_long rfl ?_
            refine h_lsub rfl ?_
            refine h_putJ rfl o0 fj_12 rfl (fun w93 o93 q94b q94c => ?_)
            refine h_aload rfl l75 rfl ?_
            refine h_getI rfl o93 fi_5 (fun b95a b95b => ?_)
            rw [q94b, hw5] at b95a b95b ⊢
            refine h_aload rfl l75 rfl ?_
            refine h_getI rfl o93 fi_6 (fun b96a b96b => ?_)
            rw [q94b, hw6] at b96a b96b ⊢
            refine h_isub rfl ?_
            refine h_intv k_3 rfl ?_
            refine i_ge (kn := kn) (t := 3) (tgt := 337) (np := 320) rfl (by unfold R32; omega) (by unfold R32; omega) (fun e97 => ?_) (fun e97 => ?_)
            · refine h_aload rfl l75 rfl ?_
              refine h_dup rfl rfl ?_
              refine h_getI rfl o93 fi_5 (fun b98a b98b => ?_)
              rw [q94b, hw5] at b98a b98b ⊢
              refine h_intv k_1 rfl ?_
              refine h_iadd rfl ?_
              refine h_putI rfl o93 fi_5 rfl (by omega) (by omega) (fun w99 o99 q100a q100b q100c => ?_)
              refine h_goto rfl ?_
              exact ih (t + 1) w99 _ _ (by omega) o99 (by rw [q100b 213 3 (by omega), q94b]; exact hw3) (by rw [q100a]; omega) (by rw [q100b 213 6 (by omega), q94b]; exact hw6) (by omega) (by omega) (Or.inl (by omega)) (hL_take 4 l75)
            · refine h_aload rfl l75 rfl ?_
              refine h_intv k_10 rfl ?_
              refine h_aload rfl l75 rfl ?_
              refine h_getI rfl o93 fi_8 (fun b101a b101b => ?_)
              refine h_imul rfl ?_
              refine h_iload rfl l75 rfl ?_
              refine h_iadd rfl ?_
              refine h_intv k_48 rfl ?_
              refine h_isub rfl ?_
              rw [hI_wr (10 * gF w93 213 8 + gX w 214 t - 48)]
              refine h_putI rfl o93 fi_8 rfl (wr_R _).1 (wr_R _).2 (fun w102 o102 q103a q103b q103c => ?_)
              refine h_aload rfl l75 rfl ?_
              refine h_dup rfl rfl ?_
              refine h_getI rfl o102 fi_5 (fun b104a b104b => ?_)
              rw [q103b 213 5 (by omega), q94b, hw5] at b104a b104b ⊢
              refine h_intv k_1 rfl ?_
              refine h_iadd rfl ?_
              refine h_putI rfl o102 fi_5 rfl (by omega) (by omega) (fun w105 o105 q106a q106b q106c => ?_)
              refine h_goto rfl ?_
              exact ih (t + 1) w105 _ _ (by omega) o105 (by rw [q106b 213 3 (by omega), q103b 213 3 (by omega), q94b]; exact hw3) (by rw [q106a]; omega) (by rw [q106b 213 6 (by omega), q103b 213 6 (by omega), q94b]; exact hw6) (by omega) (by omega) (Or.inl (by omega)) (hL_take 4 l75)
    · refine h_aload rfl l0 rfl ?_
      refine h_aload rfl l0 rfl ?_
      refine h_getI rfl o0 fi_5 (fun b107a b107b => ?_)
      rw [hw5] at b107a b107b ⊢
      obtain ⟨z108, hf108, hz108⟩ := s_tapeAt (kn := kn) o0.1 t (by omega)
      rw [hw3] at hz108
      refine h_V2 rfl o0 l0 ci_213 rfl rfl hf108 ?_
      obtain ⟨z109, hf109, hz109, hq109⟩ := s_rDig (kn := kn) o0.1 z108 ⟨by omega, by omega⟩
      refine h_S1 rfl o0 l0 rfl rfl hf109 ?_
      refine j_eq (kn := kn) (t := 0) (tgt := 350) (np := 243) rfl (by unfold R32; omega) (fun e110 => ?_) (fun e110 => ?_)
      · have hF : F + 1 ≤ t := by
          rcases hiv with hiv | ⟨g1, g2, g3⟩
          · exact hiv
          · subst g1
            omega
        exact go_e N t0 hN F t hF hFt c lt gd _ w hlt hgd o0 hw3 hw5 hw6 l0
      · refine h_aload rfl l0 rfl ?_
        refine h_getR rfl o0 fr_1 ?_
        refine h_aload rfl l0 rfl ?_
        refine h_getI rfl o0 fi_5 (fun b111a b111b => ?_)
        rw [hw5] at b111a b111b ⊢
        refine h_ialdj (t) rfl o0 ai_214 rfl (by omega) (by omega) (fun b112a b112b => ?_)
        refine h_istore rfl l0 (fun vl113 l113 => ?_)
        refine h_iload rfl l113 rfl ?_
        refine j_eq (kn := kn) (t := 0) (tgt := 271) (np := 258) rfl (by unfold R32; omega) (fun e114 => ?_) (fun e114 => ?_)
        · refine h_intv k_0 rfl ?_
          refine h_istore rfl l113 (fun vl115 l115 => ?_)
          refine h_aload rfl l115 rfl ?_
          refine h_getI rfl o0 fi_5 (fun b116a b116b => ?_)
          rw [hw5] at b116a b116b ⊢
          refine h_aload rfl l115 rfl ?_
          refine h_getI rfl o0 fi_6 (fun b117a b117b => ?_)
          rw [hw6] at b117a b117b ⊢
          refine h_isub rfl ?_
          refine h_intv k_7 rfl ?_
          refine i_ge (kn := kn) (t := 3) (tgt := 307) (np := 287) rfl (by unfold R32; omega) (by unfold R32; omega) (fun e118 => ?_) (fun e118 => ?_)
          · refine h_aload rfl l115 rfl ?_
            refine h_getI rfl o0 fi_5 (fun b119a b119b => ?_)
            rw [hw5] at b119a b119b ⊢
            refine h_aload rfl l115 rfl ?_
            refine h_getI rfl o0 fi_6 (fun b120a b120b => ?_)
            rw [hw6] at b120a b120b ⊢
            refine h_isub rfl ?_
            refine h_intv k_3 rfl ?_
            refine i_ge (kn := kn) (t := 3) (tgt := 337) (np := 320) rfl (by unfold R32; omega) (by unfold R32; omega) (fun e121 => ?_) (fun e121 => ?_)
            · refine h_aload rfl l115 rfl ?_
              refine h_dup rfl rfl ?_
              refine h_getI rfl o0 fi_5 (fun b122a b122b => ?_)
              rw [hw5] at b122a b122b ⊢
              refine h_intv k_1 rfl ?_
              refine h_iadd rfl ?_
              refine h_putI rfl o0 fi_5 rfl (by omega) (by omega) (fun w123 o123 q124a q124b q124c => ?_)
              refine h_goto rfl ?_
              exact ih (t + 1) w123 _ _ (by omega) o123 (by rw [q124b 213 3 (by omega)]; exact hw3) (by rw [q124a]; omega) (by rw [q124b 213 6 (by omega)]; exact hw6) (by omega) (by omega) (Or.inl (by omega)) (hL_take 4 l115)
            · refine h_aload rfl l115 rfl ?_
              refine h_intv k_10 rfl ?_
              refine h_aload rfl l115 rfl ?_
              refine h_getI rfl o0 fi_8 (fun b125a b125b => ?_)
              refine h_imul rfl ?_
              refine h_iload rfl l115 rfl ?_
              refine h_iadd rfl ?_
              refine h_intv k_48 rfl ?_
              refine h_isub rfl ?_
              rw [hI_wr (10 * gF w 213 8 + gX w 214 t - 48)]
              refine h_putI rfl o0 fi_8 rfl (wr_R _).1 (wr_R _).2 (fun w126 o126 q127a q127b q127c => ?_)
              refine h_aload rfl l115 rfl ?_
              refine h_dup rfl rfl ?_
              refine h_getI rfl o126 fi_5 (fun b128a b128b => ?_)
              rw [q127b 213 5 (by omega), hw5] at b128a b128b ⊢
              refine h_intv k_1 rfl ?_
              refine h_iadd rfl ?_
              refine h_putI rfl o126 fi_5 rfl (by omega) (by omega) (fun w129 o129 q130a q130b q130c => ?_)
              refine h_goto rfl ?_
              exact ih (t + 1) w129 _ _ (by omega) o129 (by rw [q130b 213 3 (by omega), q127b 213 3 (by omega)]; exact hw3) (by rw [q130a]; omega) (by rw [q130b 213 6 (by omega), q127b 213 6 (by omega)]; exact hw6) (by omega) (by omega) (Or.inl (by omega)) (hL_take 4 l115)
          · refine h_aload rfl l115 rfl ?_
            refine h_long rfl ?_
            refine h_aload rfl l115 rfl ?_
            refine h_getJ rfl o0 fj_12 (fun j131 => ?_)
            refine h_lmul rfl ?_
            refine h_iload rfl l115 rfl ?_
            refine h_i2l rfl (fun j132 => ?_)
            refine h_ladd rfl ?_
            refine h_long rfl ?_
            refine h_lsub rfl ?_
            refine h_putJ rfl o0 fj_12 rfl (fun w133 o133 q134b q134c => ?_)
            refine h_aload rfl l115 rfl ?_
            refine h_getI rfl o133 fi_5 (fun b135a b135b => ?_)
            rw [q134b, hw5] at b135a b135b ⊢
            refine h_aload rfl l115 rfl ?_
            refine h_getI rfl o133 fi_6 (fun b136a b136b => ?_)
            rw [q134b, hw6] at b136a b136b ⊢
            refine h_isub rfl ?_
            refine h_intv k_3 rfl ?_
            refine i_ge (kn := kn) (t := 3) (tgt := 337) (np := 320) rfl (by unfold R32; omega) (by unfold R32; omega) (fun e137 => ?_) (fun e137 => ?_)
            · refine h_aload rfl l115 rfl ?_
              refine h_dup rfl rfl ?_
              refine h_getI rfl o133 fi_5 (fun b138a b138b => ?_)
              rw [q134b, hw5] at b138a b138b ⊢
              refine h_intv k_1 rfl ?_
              refine h_iadd rfl ?_
              refine h_putI rfl o133 fi_5 rfl (by omega) (by omega) (fun w139 o139 q140a q140b q140c => ?_)
              refine h_goto rfl ?_
              exact ih (t + 1) w139 _ _ (by omega) o139 (by rw [q140b 213 3 (by omega), q134b]; exact hw3) (by rw [q140a]; omega) (by rw [q140b 213 6 (by omega), q134b]; exact hw6) (by omega) (by omega) (Or.inl (by omega)) (hL_take 4 l115)
            · refine h_aload rfl l115 rfl ?_
              refine h_intv k_10 rfl ?_
              refine h_aload rfl l115 rfl ?_
              refine h_getI rfl o133 fi_8 (fun b141a b141b => ?_)
              refine h_imul rfl ?_
              refine h_iload rfl l115 rfl ?_
              refine h_iadd rfl ?_
              refine h_intv k_48 rfl ?_
              refine h_isub rfl ?_
              rw [hI_wr (10 * gF w133 213 8 + gX w 214 t - 48)]
              refine h_putI rfl o133 fi_8 rfl (wr_R _).1 (wr_R _).2 (fun w142 o142 q143a q143b q143c => ?_)
              refine h_aload rfl l115 rfl ?_
              refine h_dup rfl rfl ?_
              refine h_getI rfl o142 fi_5 (fun b144a b144b => ?_)
              rw [q143b 213 5 (by omega), q134b, hw5] at b144a b144b ⊢
              refine h_intv k_1 rfl ?_
              refine h_iadd rfl ?_
              refine h_putI rfl o142 fi_5 rfl (by omega) (by omega) (fun w145 o145 q146a q146b q146c => ?_)
              refine h_goto rfl ?_
              exact ih (t + 1) w145 _ _ (by omega) o145 (by rw [q146b 213 3 (by omega), q143b 213 3 (by omega), q134b]; exact hw3) (by rw [q146a]; omega) (by rw [q146b 213 6 (by omega), q143b 213 6 (by omega), q134b]; exact hw6) (by omega) (by omega) (Or.inl (by omega)) (hL_take 4 l115)
        · refine h_iload rfl l113 rfl ?_
          obtain ⟨z147, hf147, hz147, hq147⟩ := s_rLet (kn := kn) o0.1 (gX w 214 (t)) ⟨by omega, by omega⟩
          refine h_S1 rfl o0 l113 rfl rfl hf147 ?_
          refine h_iload rfl l113 rfl ?_
          refine i_ne (kn := kn) (t := 1) (tgt := 271) (np := 267) rfl (by unfold R32; omega) (by unfold R32; omega) (fun e148 => ?_) (fun e148 => ?_)
          · refine h_intv k_0 rfl ?_
            refine h_istore rfl l113 (fun vl149 l149 => ?_)
            refine h_aload rfl l149 rfl ?_
            refine h_getI rfl o0 fi_5 (fun b150a b150b => ?_)
            rw [hw5] at b150a b150b ⊢
            refine h_aload rfl l149 rfl ?_
            refine h_getI rfl o0 fi_6 (fun b151a b151b => ?_)
            rw [hw6] at b151a b151b ⊢
            refine h_isub rfl ?_
            refine h_intv k_7 rfl ?_
            refine i_ge (kn := kn) (t := 3) (tgt := 307) (np := 287) rfl (by unfold R32; omega) (by unfold R32; omega) (fun e152 => ?_) (fun e152 => ?_)
            · refine h_aload rfl l149 rfl ?_
              refine h_getI rfl o0 fi_5 (fun b153a b153b => ?_)
              rw [hw5] at b153a b153b ⊢
              refine h_aload rfl l149 rfl ?_
              refine h_getI rfl o0 fi_6 (fun b154a b154b => ?_)
              rw [hw6] at b154a b154b ⊢
              refine h_isub rfl ?_
              refine h_intv k_3 rfl ?_
              refine i_ge (kn := kn) (t := 3) (tgt := 337) (np := 320) rfl (by unfold R32; omega) (by unfold R32; omega) (fun e155 => ?_) (fun e155 => ?_)
              · refine h_aload rfl l149 rfl ?_
                refine h_dup rfl rfl ?_
                refine h_getI rfl o0 fi_5 (fun b156a b156b => ?_)
                rw [hw5] at b156a b156b ⊢
                refine h_intv k_1 rfl ?_
                refine h_iadd rfl ?_
                refine h_putI rfl o0 fi_5 rfl (by omega) (by omega) (fun w157 o157 q158a q158b q158c => ?_)
                refine h_goto rfl ?_
                exact ih (t + 1) w157 _ _ (by omega) o157 (by rw [q158b 213 3 (by omega)]; exact hw3) (by rw [q158a]; omega) (by rw [q158b 213 6 (by omega)]; exact hw6) (by omega) (by omega) (Or.inl (by omega)) (hL_take 4 l149)
              · refine h_aload rfl l149 rfl ?_
                refine h_intv k_10 rfl ?_
                refine h_aload rfl l149 rfl ?_
                refine h_getI rfl o0 fi_8 (fun b159a b159b => ?_)
                refine h_imul rfl ?_
                refine h_iload rfl l149 rfl ?_
                refine h_iadd rfl ?_
                refine h_intv k_48 rfl ?_
                refine h_isub rfl ?_
                rw [hI_wr (10 * gF w 213 8 + gX w 214 t - 48)]
                refine h_putI rfl o0 fi_8 rfl (wr_R _).1 (wr_R _).2 (fun w160 o160 q161a q161b q161c => ?_)
                refine h_aload rfl l149 rfl ?_
                refine h_dup rfl rfl ?_
                refine h_getI rfl o160 fi_5 (fun b162a b162b => ?_)
                rw [q161b 213 5 (by omega), hw5] at b162a b162b ⊢
                refine h_intv k_1 rfl ?_
                refine h_iadd rfl ?_
                refine h_putI rfl o160 fi_5 rfl (by omega) (by omega) (fun w163 o163 q164a q164b q164c => ?_)
                refine h_goto rfl ?_
                exact ih (t + 1) w163 _ _ (by omega) o163 (by rw [q164b 213 3 (by omega), q161b 213 3 (by omega)]; exact hw3) (by rw [q164a]; omega) (by rw [q164b 213 6 (by omega), q161b 213 6 (by omega)]; exact hw6) (by omega) (by omega) (Or.inl (by omega)) (hL_take 4 l149)
            · refine h_aload rfl l149 rfl ?_
              refine h_long rfl ?_
              refine h_aload rfl l149 rfl ?_
              refine h_getJ rfl o0 fj_12 (fun j165 => ?_)
              refine h_lmul rfl ?_
              refine h_iload rfl l149 rfl ?_
              refine h_i2l rfl (fun j166 => ?_)
              refine h_ladd rfl ?_
              refine h_long rfl ?_
              refine h_lsub rfl ?_
              refine h_putJ rfl o0 fj_12 rfl (fun w167 o167 q168b q168c => ?_)
              refine h_aload rfl l149 rfl ?_
              refine h_getI rfl o167 fi_5 (fun b169a b169b => ?_)
              rw [q168b, hw5] at b169a b169b ⊢
              refine h_aload rfl l149 rfl ?_
              refine h_getI rfl o167 fi_6 (fun b170a b170b => ?_)
              rw [q168b, hw6] at b170a b170b ⊢
              refine h_isub rfl ?_
              refine h_intv k_3 rfl ?_
              refine i_ge (kn := kn) (t := 3) (tgt := 337) (np := 320) rfl (by unfold R32; omega) (by unfold R32; omega) (fun e171 => ?_) (fun e171 => ?_)
              · refine h_aload rfl l149 rfl ?_
                refine h_dup rfl rfl ?_
                refine h_getI rfl o167 fi_5 (fun b172a b172b => ?_)
                rw [q168b, hw5] at b172a b172b ⊢
                refine h_intv k_1 rfl ?_
                refine h_iadd rfl ?_
                refine h_putI rfl o167 fi_5 rfl (by omega) (by omega) (fun w173 o173 q174a q174b q174c => ?_)
                refine h_goto rfl ?_
                exact ih (t + 1) w173 _ _ (by omega) o173 (by rw [q174b 213 3 (by omega), q168b]; exact hw3) (by rw [q174a]; omega) (by rw [q174b 213 6 (by omega), q168b]; exact hw6) (by omega) (by omega) (Or.inl (by omega)) (hL_take 4 l149)
              · refine h_aload rfl l149 rfl ?_
                refine h_intv k_10 rfl ?_
                refine h_aload rfl l149 rfl ?_
                refine h_getI rfl o167 fi_8 (fun b175a b175b => ?_)
                refine h_imul rfl ?_
                refine h_iload rfl l149 rfl ?_
                refine h_iadd rfl ?_
                refine h_intv k_48 rfl ?_
                refine h_isub rfl ?_
                rw [hI_wr (10 * gF w167 213 8 + gX w 214 t - 48)]
                refine h_putI rfl o167 fi_8 rfl (wr_R _).1 (wr_R _).2 (fun w176 o176 q177a q177b q177c => ?_)
                refine h_aload rfl l149 rfl ?_
                refine h_dup rfl rfl ?_
                refine h_getI rfl o176 fi_5 (fun b178a b178b => ?_)
                rw [q177b 213 5 (by omega), q168b, hw5] at b178a b178b ⊢
                refine h_intv k_1 rfl ?_
                refine h_iadd rfl ?_
                refine h_putI rfl o176 fi_5 rfl (by omega) (by omega) (fun w179 o179 q180a q180b q180c => ?_)
                refine h_goto rfl ?_
                exact ih (t + 1) w179 _ _ (by omega) o179 (by rw [q180b 213 3 (by omega), q177b 213 3 (by omega), q168b]; exact hw3) (by rw [q180a]; omega) (by rw [q180b 213 6 (by omega), q177b 213 6 (by omega), q168b]; exact hw6) (by omega) (by omega) (Or.inl (by omega)) (hL_take 4 l149)
          · refine h_intv k_1 rfl ?_
            refine h_goto rfl ?_
            refine h_istore rfl l113 (fun vl181 l181 => ?_)
            refine h_aload rfl l181 rfl ?_
            refine h_getI rfl o0 fi_5 (fun b182a b182b => ?_)
            rw [hw5] at b182a b182b ⊢
            refine h_aload rfl l181 rfl ?_
            refine h_getI rfl o0 fi_6 (fun b183a b183b => ?_)
            rw [hw6] at b183a b183b ⊢
            refine h_isub rfl ?_
            refine h_intv k_7 rfl ?_
            refine i_ge (kn := kn) (t := 3) (tgt := 307) (np := 287) rfl (by unfold R32; omega) (by unfold R32; omega) (fun e184 => ?_) (fun e184 => ?_)
            · refine h_aload rfl l181 rfl ?_
              refine h_getI rfl o0 fi_5 (fun b185a b185b => ?_)
              rw [hw5] at b185a b185b ⊢
              refine h_aload rfl l181 rfl ?_
              refine h_getI rfl o0 fi_6 (fun b186a b186b => ?_)
              rw [hw6] at b186a b186b ⊢
              refine h_isub rfl ?_
              refine h_intv k_3 rfl ?_
              refine i_ge (kn := kn) (t := 3) (tgt := 337) (np := 320) rfl (by unfold R32; omega) (by unfold R32; omega) (fun e187 => ?_) (fun e187 => ?_)
              · refine h_aload rfl l181 rfl ?_
                refine h_dup rfl rfl ?_
                refine h_getI rfl o0 fi_5 (fun b188a b188b => ?_)
                rw [hw5] at b188a b188b ⊢
                refine h_intv k_1 rfl ?_
                refine h_iadd rfl ?_
                refine h_putI rfl o0 fi_5 rfl (by omega) (by omega) (fun w189 o189 q190a q190b q190c => ?_)
                refine h_goto rfl ?_
                exact ih (t + 1) w189 _ _ (by omega) o189 (by rw [q190b 213 3 (by omega)]; exact hw3) (by rw [q190a]; omega) (by rw [q190b 213 6 (by omega)]; exact hw6) (by omega) (by omega) (Or.inl (by omega)) (hL_take 4 l181)
              · refine h_aload rfl l181 rfl ?_
                refine h_intv k_10 rfl ?_
                refine h_aload rfl l181 rfl ?_
                refine h_getI rfl o0 fi_8 (fun b191a b191b => ?_)
                refine h_imul rfl ?_
                refine h_iload rfl l181 rfl ?_
                refine h_iadd rfl ?_
                refine h_intv k_48 rfl ?_
                refine h_isub rfl ?_
                rw [hI_wr (10 * gF w 213 8 + gX w 214 t - 48)]
                refine h_putI rfl o0 fi_8 rfl (wr_R _).1 (wr_R _).2 (fun w192 o192 q193a q193b q193c => ?_)
                refine h_aload rfl l181 rfl ?_
                refine h_dup rfl rfl ?_
                refine h_getI rfl o192 fi_5 (fun b194a b194b => ?_)
                rw [q193b 213 5 (by omega), hw5] at b194a b194b ⊢
                refine h_intv k_1 rfl ?_
                refine h_iadd rfl ?_
                refine h_putI rfl o192 fi_5 rfl (by omega) (by omega) (fun w195 o195 q196a q196b q196c => ?_)
                refine h_goto rfl ?_
                exact ih (t + 1) w195 _ _ (by omega) o195 (by rw [q196b 213 3 (by omega), q193b 213 3 (by omega)]; exact hw3) (by rw [q196a]; omega) (by rw [q196b 213 6 (by omega), q193b 213 6 (by omega)]; exact hw6) (by omega) (by omega) (Or.inl (by omega)) (hL_take 4 l181)
            · refine h_aload rfl l181 rfl ?_
              refine h_long rfl ?_
              refine h_aload rfl l181 rfl ?_
              refine h_getJ rfl o0 fj_12 (fun j197 => ?_)
              refine h_lmul rfl ?_
              refine h_iload rfl l181 rfl ?_
              refine h_i2l rfl (fun j198 => ?_)
              refine h_ladd rfl ?_
              refine h_long rfl ?_
              refine h_lsub rfl ?_
              refine h_putJ rfl o0 fj_12 rfl (fun w199 o199 q200b q200c => ?_)
              refine h_aload rfl l181 rfl ?_
              refine h_getI rfl o199 fi_5 (fun b201a b201b => ?_)
              rw [q200b, hw5] at b201a b201b ⊢
              refine h_aload rfl l181 rfl ?_
              refine h_getI rfl o199 fi_6 (fun b202a b202b => ?_)
              rw [q200b, hw6] at b202a b202b ⊢
              refine h_isub rfl ?_
              refine h_intv k_3 rfl ?_
              refine i_ge (kn := kn) (t := 3) (tgt := 337) (np := 320) rfl (by unfold R32; omega) (by unfold R32; omega) (fun e203 => ?_) (fun e203 => ?_)
              · refine h_aload rfl l181 rfl ?_
                refine h_dup rfl rfl ?_
                refine h_getI rfl o199 fi_5 (fun b204a b204b => ?_)
                rw [q200b, hw5] at b204a b204b ⊢
                refine h_intv k_1 rfl ?_
                refine h_iadd rfl ?_
                refine h_putI rfl o199 fi_5 rfl (by omega) (by omega) (fun w205 o205 q206a q206b q206c => ?_)
                refine h_goto rfl ?_
                exact ih (t + 1) w205 _ _ (by omega) o205 (by rw [q206b 213 3 (by omega), q200b]; exact hw3) (by rw [q206a]; omega) (by rw [q206b 213 6 (by omega), q200b]; exact hw6) (by omega) (by omega) (Or.inl (by omega)) (hL_take 4 l181)
              · refine h_aload rfl l181 rfl ?_
                refine h_intv k_10 rfl ?_
                refine h_aload rfl l181 rfl ?_
                refine h_getI rfl o199 fi_8 (fun b207a b207b => ?_)
                refine h_imul rfl ?_
                refine h_iload rfl l181 rfl ?_
                refine h_iadd rfl ?_
                refine h_intv k_48 rfl ?_
                refine h_isub rfl ?_
                rw [hI_wr (10 * gF w199 213 8 + gX w 214 t - 48)]
                refine h_putI rfl o199 fi_8 rfl (wr_R _).1 (wr_R _).2 (fun w208 o208 q209a q209b q209c => ?_)
                refine h_aload rfl l181 rfl ?_
                refine h_dup rfl rfl ?_
                refine h_getI rfl o208 fi_5 (fun b210a b210b => ?_)
                rw [q209b 213 5 (by omega), q200b, hw5] at b210a b210b ⊢
                refine h_intv k_1 rfl ?_
                refine h_iadd rfl ?_
                refine h_putI rfl o208 fi_5 rfl (by omega) (by omega) (fun w211 o211 q212a q212b q212c => ?_)
                refine h_goto rfl ?_
                exact ih (t + 1) w211 _ _ (by omega) o211 (by rw [q212b 213 3 (by omega), q209b 213 3 (by omega), q200b]; exact hw3) (by rw [q212a]; omega) (by rw [q212b 213 6 (by omega), q209b 213 6 (by omega), q200b]; exact hw6) (by omega) (by omega) (Or.inl (by omega)) (hL_take 4 l181)
theorem go_c {kn : sKn} {w0 w : sW} (N t0 : Nat) (hN : N ≤ 940) (ht0 : t0 ≤ 940) (t : Nat) (htt : t0 ≤ t) (ht : t ≤ 940) (lv : List (Nat × Value)) (o0 : hO dH_go7 w0 w) (hw3 : gF w 213 3 = (N : Int)) (hw5 : gF w 213 5 = (t : Int)) (l0 : hL lv [(0, .ref 213)]) : Tp (tX12_go kn) (fun r => ∃ w', r = (none, w', 0, 0) ∧ hO dH_go7 w0 w' ∧ gF w' 213 3 = (N : Int) ∧ (t0 : Int) ≤ gF w' 213 5 ∧ rhoV w' ≤ (N : Int) - (t0 : Int)) 52 (lv, [], w, 0, 0) := by
  refine h_aload rfl l0 rfl ?_
  refine h_aload rfl l0 rfl ?_
  refine h_getI rfl o0 fi_5 (fun b1a b1b => ?_)
  rw [hw5] at b1a b1b ⊢
  refine h_putI rfl o0 fi_6 rfl (by omega) (by omega) (fun w2 o2 q3a q3b q3c => ?_)
  refine h_aload rfl l0 rfl ?_
  refine h_getI rfl o2 fi_3 (fun b4a b4b => ?_)
  rw [q3b 213 3 (by omega), hw3] at b4a b4b ⊢
  refine h_aload rfl l0 rfl ?_
  refine h_getI rfl o2 fi_4 (fun b5a b5b => ?_)
  refine i_le (kn := kn) (t := 5) (tgt := 96) (np := 71) rfl (by unfold R32; omega) (by unfold R32; omega) (fun e6 => ?_) (fun e6 => ?_)
  · refine h_aload rfl l0 rfl ?_
    refine h_getI rfl o2 fi_5 (fun b7a b7b => ?_)
    rw [q3b 213 5 (by omega), hw5] at b7a b7b ⊢
    refine h_aload rfl l0 rfl ?_
    refine h_getI rfl o2 fi_3 (fun b8a b8b => ?_)
    rw [q3b 213 3 (by omega), hw3] at b8a b8b ⊢
    refine i_lt (kn := kn) (t := 2) (tgt := 113) (np := 107) rfl (by unfold R32; omega) (by unfold R32; omega) (fun e9 => ?_) (fun e9 => ?_)
    · refine h_aload rfl l0 rfl ?_
      refine h_getR rfl o2 fr_1 ?_
      refine h_aload rfl l0 rfl ?_
      refine h_getI rfl o2 fi_5 (fun b10a b10b => ?_)
      rw [q3b 213 5 (by omega), hw5] at b10a b10b ⊢
      refine h_ialdj (t) rfl o2 ai_214 rfl (by omega) (by omega) (fun b11a b11b => ?_)
      refine h_istore rfl l0 (fun vl12 l12 => ?_)
      refine h_iload rfl l12 rfl ?_
      obtain ⟨z13, hf13, hz13, hq13⟩ := s_rLet (kn := kn) o2.1 (gX w2 214 (t)) ⟨by omega, by omega⟩
      refine h_S1 rfl o2 l12 rfl rfl hf13 ?_
      refine j_ne (kn := kn) (t := 1) (tgt := 198) (np := 130) rfl (by unfold R32; omega) (fun e14 => ?_) (fun e14 => ?_)
      · refine h_iload rfl l12 rfl ?_
        obtain ⟨z15, hf15, hz15, hq15⟩ := s_rLet (kn := kn) o2.1 (gX w2 214 (t)) ⟨by omega, by omega⟩
        refine h_S1 rfl o2 l12 rfl rfl hf15 ?_
        refine h_istore rfl l12 (fun vl16 l16 => ?_)
        refine h_intv k_1 rfl ?_
        refine h_istore rfl l16 (fun vl17 l17 => ?_)
        refine h_aload rfl l17 rfl ?_
        refine h_long rfl ?_
        refine h_putJ rfl o2 fj_12 rfl (fun w18 o18 q19b q19c => ?_)
        refine h_aload rfl l17 rfl ?_
        refine h_intv k_0 rfl ?_
        refine h_putI rfl o18 fi_8 rfl (by omega) (by omega) (fun w20 o20 q21a q21b q21c => ?_)
        refine go_w N t0 hN ht0 t (by omega) _ _ (by omega) (941 - t) t w20 _ 1 (by omega) o20 (by rw [q21b 213 3 (by omega), q19b, q3b 213 3 (by omega)]; exact hw3) (by rw [q21b 213 5 (by omega), q19b, q3b 213 5 (by omega)]; exact hw5) (by rw [q21b 213 6 (by omega), q19b, q3a]) (by omega) (Or.inr rfl) (Or.inr ⟨rfl, by omega, ?_⟩) l17
        rw [q21c 214 t, q19c 214 t]
        exact Or.inl (hq13.mp (by omega))
      · refine h_iload rfl l12 rfl ?_
        obtain ⟨z22, hf22, hz22, hq22⟩ := s_rDig (kn := kn) o2.1 (gX w2 214 (t)) ⟨by omega, by omega⟩
        refine h_S1 rfl o2 l12 rfl rfl hf22 ?_
        refine j_ne (kn := kn) (t := 1) (tgt := 198) (np := 137) rfl (by unfold R32; omega) (fun e23 => ?_) (fun e23 => ?_)
        · refine h_iload rfl l12 rfl ?_
          obtain ⟨z24, hf24, hz24, hq24⟩ := s_rLet (kn := kn) o2.1 (gX w2 214 (t)) ⟨by omega, by omega⟩
          refine h_S1 rfl o2 l12 rfl rfl hf24 ?_
          refine h_istore rfl l12 (fun vl25 l25 => ?_)
          refine h_intv k_1 rfl ?_
          refine h_istore rfl l25 (fun vl26 l26 => ?_)
          refine h_aload rfl l26 rfl ?_
          refine h_long rfl ?_
          refine h_putJ rfl o2 fj_12 rfl (fun w27 o27 q28b q28c => ?_)
          refine h_aload rfl l26 rfl ?_
          refine h_intv k_0 rfl ?_
          refine h_putI rfl o27 fi_8 rfl (by omega) (by omega) (fun w29 o29 q30a q30b q30c => ?_)
          refine go_w N t0 hN ht0 t (by omega) _ _ (by omega) (941 - t) t w29 _ 1 (by omega) o29 (by rw [q30b 213 3 (by omega), q28b, q3b 213 3 (by omega)]; exact hw3) (by rw [q30b 213 5 (by omega), q28b, q3b 213 5 (by omega)]; exact hw5) (by rw [q30b 213 6 (by omega), q28b, q3a]) (by omega) (Or.inr rfl) (Or.inr ⟨rfl, by omega, ?_⟩) l26
          rw [q30c 214 t, q28c 214 t]
          exact Or.inr (hq22.mp (by omega))
        · refine h_aload rfl l12 rfl ?_
          refine h_iload rfl l12 rfl ?_
          refine h_intv k_59 rfl ?_
          refine i_eq (kn := kn) (t := 0) (tgt := 174) (np := 144) rfl (by unfold R32; omega) (by unfold R32; omega) (fun e31 => ?_) (fun e31 => ?_)
          · refine h_intv k_4 rfl ?_
            refine h_goto rfl ?_
            refine h_putI rfl o2 fi_7 rfl (by omega) (by omega) (fun w32 o32 q33a q33b q33c => ?_)
            refine h_aload rfl l12 rfl ?_
            refine h_iload rfl l12 rfl ?_
            refine h_putI rfl o32 fi_9 rfl (by omega) (by omega) (fun w34 o34 q35a q35b q35c => ?_)
            refine h_aload rfl l12 rfl ?_
            refine h_dup rfl rfl ?_
            refine h_getI rfl o34 fi_5 (fun b36a b36b => ?_)
            rw [q35b 213 5 (by omega), q33b 213 5 (by omega), q3b 213 5 (by omega), hw5] at b36a b36b ⊢
            refine h_intv k_1 rfl ?_
            refine h_iadd rfl ?_
            refine h_putI rfl o34 fi_5 rfl (by omega) (by omega) (fun w37 o37 q38a q38b q38c => ?_)
            refine h_vret rfl ?_
            have r1 := rho_1 (w := w37) (N := N) (t := (t : Int) + 1) (by rw [q38b 213 3 (by omega), q35b 213 3 (by omega), q33b 213 3 (by omega), q3b 213 3 (by omega)]; exact hw3) (by rw [q38a])
            exact ⟨_, rfl, o37, (by rw [q38b 213 3 (by omega), q35b 213 3 (by omega), q33b 213 3 (by omega), q3b 213 3 (by omega)]; exact hw3), by rw [q38a]; omega, by omega⟩
          · refine h_iload rfl l12 rfl ?_
            refine h_intv k_60 rfl ?_
            refine i_eq (kn := kn) (t := 0) (tgt := 174) (np := 150) rfl (by unfold R32; omega) (by unfold R32; omega) (fun e39 => ?_) (fun e39 => ?_)
            · refine h_intv k_4 rfl ?_
              refine h_goto rfl ?_
              refine h_putI rfl o2 fi_7 rfl (by omega) (by omega) (fun w40 o40 q41a q41b q41c => ?_)
              refine h_aload rfl l12 rfl ?_
              refine h_iload rfl l12 rfl ?_
              refine h_putI rfl o40 fi_9 rfl (by omega) (by omega) (fun w42 o42 q43a q43b q43c => ?_)
              refine h_aload rfl l12 rfl ?_
              refine h_dup rfl rfl ?_
              refine h_getI rfl o42 fi_5 (fun b44a b44b => ?_)
              rw [q43b 213 5 (by omega), q41b 213 5 (by omega), q3b 213 5 (by omega), hw5] at b44a b44b ⊢
              refine h_intv k_1 rfl ?_
              refine h_iadd rfl ?_
              refine h_putI rfl o42 fi_5 rfl (by omega) (by omega) (fun w45 o45 q46a q46b q46c => ?_)
              refine h_vret rfl ?_
              have r1 := rho_1 (w := w45) (N := N) (t := (t : Int) + 1) (by rw [q46b 213 3 (by omega), q43b 213 3 (by omega), q41b 213 3 (by omega), q3b 213 3 (by omega)]; exact hw3) (by rw [q46a])
              exact ⟨_, rfl, o45, (by rw [q46b 213 3 (by omega), q43b 213 3 (by omega), q41b 213 3 (by omega), q3b 213 3 (by omega)]; exact hw3), by rw [q46a]; omega, by omega⟩
            · refine h_iload rfl l12 rfl ?_
              refine h_intv k_61 rfl ?_
              refine i_eq (kn := kn) (t := 0) (tgt := 174) (np := 156) rfl (by unfold R32; omega) (by unfold R32; omega) (fun e47 => ?_) (fun e47 => ?_)
              · refine h_intv k_4 rfl ?_
                refine h_goto rfl ?_
                refine h_putI rfl o2 fi_7 rfl (by omega) (by omega) (fun w48 o48 q49a q49b q49c => ?_)
                refine h_aload rfl l12 rfl ?_
                refine h_iload rfl l12 rfl ?_
                refine h_putI rfl o48 fi_9 rfl (by omega) (by omega) (fun w50 o50 q51a q51b q51c => ?_)
                refine h_aload rfl l12 rfl ?_
                refine h_dup rfl rfl ?_
                refine h_getI rfl o50 fi_5 (fun b52a b52b => ?_)
                rw [q51b 213 5 (by omega), q49b 213 5 (by omega), q3b 213 5 (by omega), hw5] at b52a b52b ⊢
                refine h_intv k_1 rfl ?_
                refine h_iadd rfl ?_
                refine h_putI rfl o50 fi_5 rfl (by omega) (by omega) (fun w53 o53 q54a q54b q54c => ?_)
                refine h_vret rfl ?_
                have r1 := rho_1 (w := w53) (N := N) (t := (t : Int) + 1) (by rw [q54b 213 3 (by omega), q51b 213 3 (by omega), q49b 213 3 (by omega), q3b 213 3 (by omega)]; exact hw3) (by rw [q54a])
                exact ⟨_, rfl, o53, (by rw [q54b 213 3 (by omega), q51b 213 3 (by omega), q49b 213 3 (by omega), q3b 213 3 (by omega)]; exact hw3), by rw [q54a]; omega, by omega⟩
              · refine h_iload rfl l12 rfl ?_
                refine h_intv k_62 rfl ?_
                refine i_eq (kn := kn) (t := 0) (tgt := 174) (np := 162) rfl (by unfold R32; omega) (by unfold R32; omega) (fun e55 => ?_) (fun e55 => ?_)
                · refine h_intv k_4 rfl ?_
                  refine h_goto rfl ?_
                  refine h_putI rfl o2 fi_7 rfl (by omega) (by omega) (fun w56 o56 q57a q57b q57c => ?_)
                  refine h_aload rfl l12 rfl ?_
                  refine h_iload rfl l12 rfl ?_
                  refine h_putI rfl o56 fi_9 rfl (by omega) (by omega) (fun w58 o58 q59a q59b q59c => ?_)
                  refine h_aload rfl l12 rfl ?_
                  refine h_dup rfl rfl ?_
                  refine h_getI rfl o58 fi_5 (fun b60a b60b => ?_)
                  rw [q59b 213 5 (by omega), q57b 213 5 (by omega), q3b 213 5 (by omega), hw5] at b60a b60b ⊢
                  refine h_intv k_1 rfl ?_
                  refine h_iadd rfl ?_
                  refine h_putI rfl o58 fi_5 rfl (by omega) (by omega) (fun w61 o61 q62a q62b q62c => ?_)
                  refine h_vret rfl ?_
                  have r1 := rho_1 (w := w61) (N := N) (t := (t : Int) + 1) (by rw [q62b 213 3 (by omega), q59b 213 3 (by omega), q57b 213 3 (by omega), q3b 213 3 (by omega)]; exact hw3) (by rw [q62a])
                  exact ⟨_, rfl, o61, (by rw [q62b 213 3 (by omega), q59b 213 3 (by omega), q57b 213 3 (by omega), q3b 213 3 (by omega)]; exact hw3), by rw [q62a]; omega, by omega⟩
                · refine h_iload rfl l12 rfl ?_
                  refine h_intv k_40 rfl ?_
                  refine i_eq (kn := kn) (t := 0) (tgt := 174) (np := 168) rfl (by unfold R32; omega) (by unfold R32; omega) (fun e63 => ?_) (fun e63 => ?_)
                  · refine h_intv k_4 rfl ?_
                    refine h_goto rfl ?_
                    refine h_putI rfl o2 fi_7 rfl (by omega) (by omega) (fun w64 o64 q65a q65b q65c => ?_)
                    refine h_aload rfl l12 rfl ?_
                    refine h_iload rfl l12 rfl ?_
                    refine h_putI rfl o64 fi_9 rfl (by omega) (by omega) (fun w66 o66 q67a q67b q67c => ?_)
                    refine h_aload rfl l12 rfl ?_
                    refine h_dup rfl rfl ?_
                    refine h_getI rfl o66 fi_5 (fun b68a b68b => ?_)
                    rw [q67b 213 5 (by omega), q65b 213 5 (by omega), q3b 213 5 (by omega), hw5] at b68a b68b ⊢
                    refine h_intv k_1 rfl ?_
                    refine h_iadd rfl ?_
                    refine h_putI rfl o66 fi_5 rfl (by omega) (by omega) (fun w69 o69 q70a q70b q70c => ?_)
                    refine h_vret rfl ?_
                    have r1 := rho_1 (w := w69) (N := N) (t := (t : Int) + 1) (by rw [q70b 213 3 (by omega), q67b 213 3 (by omega), q65b 213 3 (by omega), q3b 213 3 (by omega)]; exact hw3) (by rw [q70a])
                    exact ⟨_, rfl, o69, (by rw [q70b 213 3 (by omega), q67b 213 3 (by omega), q65b 213 3 (by omega), q3b 213 3 (by omega)]; exact hw3), by rw [q70a]; omega, by omega⟩
                  · refine h_iload rfl l12 rfl ?_
                    refine h_intv k_41 rfl ?_
                    refine i_ne (kn := kn) (t := 1) (tgt := 178) (np := 174) rfl (by unfold R32; omega) (by unfold R32; omega) (fun e71 => ?_) (fun e71 => ?_)
                    · refine h_intv k_1 rfl ?_
                      refine h_putI rfl o2 fi_7 rfl (by omega) (by omega) (fun w72 o72 q73a q73b q73c => ?_)
                      refine h_aload rfl l12 rfl ?_
                      refine h_iload rfl l12 rfl ?_
                      refine h_putI rfl o72 fi_9 rfl (by omega) (by omega) (fun w74 o74 q75a q75b q75c => ?_)
                      refine h_aload rfl l12 rfl ?_
                      refine h_dup rfl rfl ?_
                      refine h_getI rfl o74 fi_5 (fun b76a b76b => ?_)
                      rw [q75b 213 5 (by omega), q73b 213 5 (by omega), q3b 213 5 (by omega), hw5] at b76a b76b ⊢
                      refine h_intv k_1 rfl ?_
                      refine h_iadd rfl ?_
                      refine h_putI rfl o74 fi_5 rfl (by omega) (by omega) (fun w77 o77 q78a q78b q78c => ?_)
                      refine h_vret rfl ?_
                      have r1 := rho_1 (w := w77) (N := N) (t := (t : Int) + 1) (by rw [q78b 213 3 (by omega), q75b 213 3 (by omega), q73b 213 3 (by omega), q3b 213 3 (by omega)]; exact hw3) (by rw [q78a])
                      exact ⟨_, rfl, o77, (by rw [q78b 213 3 (by omega), q75b 213 3 (by omega), q73b 213 3 (by omega), q3b 213 3 (by omega)]; exact hw3), by rw [q78a]; omega, by omega⟩
                    · refine h_intv k_4 rfl ?_
                      refine h_goto rfl ?_
                      refine h_putI rfl o2 fi_7 rfl (by omega) (by omega) (fun w79 o79 q80a q80b q80c => ?_)
                      refine h_aload rfl l12 rfl ?_
                      refine h_iload rfl l12 rfl ?_
                      refine h_putI rfl o79 fi_9 rfl (by omega) (by omega) (fun w81 o81 q82a q82b q82c => ?_)
                      refine h_aload rfl l12 rfl ?_
                      refine h_dup rfl rfl ?_
                      refine h_getI rfl o81 fi_5 (fun b83a b83b => ?_)
                      rw [q82b 213 5 (by omega), q80b 213 5 (by omega), q3b 213 5 (by omega), hw5] at b83a b83b ⊢
                      refine h_intv k_1 rfl ?_
                      refine h_iadd rfl ?_
                      refine h_putI rfl o81 fi_5 rfl (by omega) (by omega) (fun w84 o84 q85a q85b q85c => ?_)
                      refine h_vret rfl ?_
                      have r1 := rho_1 (w := w84) (N := N) (t := (t : Int) + 1) (by rw [q85b 213 3 (by omega), q82b 213 3 (by omega), q80b 213 3 (by omega), q3b 213 3 (by omega)]; exact hw3) (by rw [q85a])
                      exact ⟨_, rfl, o84, (by rw [q85b 213 3 (by omega), q82b 213 3 (by omega), q80b 213 3 (by omega), q3b 213 3 (by omega)]; exact hw3), by rw [q85a]; omega, by omega⟩
    · refine h_aload rfl l0 rfl ?_
      refine h_intv k_0 rfl ?_
      refine h_putI rfl o2 fi_7 rfl (by omega) (by omega) (fun w86 o86 q87a q87b q87c => ?_)
      refine h_vret rfl ?_
      have r1 := rho_0 (w := w86) (N := N) (t := t) (k := 0) (by rw [q87b 213 3 (by omega), q3b 213 3 (by omega)]; exact hw3) (by rw [q87b 213 5 (by omega), q3b 213 5 (by omega)]; exact hw5) q87a (by omega)
      have r2 : gF w86 213 5 = (t : Int) := (by rw [q87b 213 5 (by omega), q3b 213 5 (by omega)]; exact hw5)
      exact ⟨_, rfl, o86, (by rw [q87b 213 3 (by omega), q3b 213 3 (by omega)]; exact hw3), by omega, by omega⟩
  · refine h_aload rfl l0 rfl ?_
    refine h_getI rfl o2 fi_6 (fun b88a b88b => ?_)
    rw [q3a] at b88a b88b ⊢
    refine h_aload rfl l0 rfl ?_
    refine h_getI rfl o2 fi_4 (fun b89a b89b => ?_)
    refine i_lt (kn := kn) (t := 2) (tgt := 96) (np := 82) rfl (by unfold R32; omega) (by unfold R32; omega) (fun e90 => ?_) (fun e90 => ?_)
    · refine h_aload rfl l0 rfl ?_
      refine h_getI rfl o2 fi_5 (fun b91a b91b => ?_)
      rw [q3b 213 5 (by omega), hw5] at b91a b91b ⊢
      refine h_aload rfl l0 rfl ?_
      refine h_getI rfl o2 fi_3 (fun b92a b92b => ?_)
      rw [q3b 213 3 (by omega), hw3] at b92a b92b ⊢
      refine i_lt (kn := kn) (t := 2) (tgt := 113) (np := 107) rfl (by unfold R32; omega) (by unfold R32; omega) (fun e93 => ?_) (fun e93 => ?_)
      · refine h_aload rfl l0 rfl ?_
        refine h_getR rfl o2 fr_1 ?_
        refine h_aload rfl l0 rfl ?_
        refine h_getI rfl o2 fi_5 (fun b94a b94b => ?_)
        rw [q3b 213 5 (by omega), hw5] at b94a b94b ⊢
        refine h_ialdj (t) rfl o2 ai_214 rfl (by omega) (by omega) (fun b95a b95b => ?_)
        refine h_istore rfl l0 (fun vl96 l96 => ?_)
        refine h_iload rfl l96 rfl ?_
        obtain ⟨z97, hf97, hz97, hq97⟩ := s_rLet (kn := kn) o2.1 (gX w2 214 (t)) ⟨by omega, by omega⟩
        refine h_S1 rfl o2 l96 rfl rfl hf97 ?_
        refine j_ne (kn := kn) (t := 1) (tgt := 198) (np := 130) rfl (by unfold R32; omega) (fun e98 => ?_) (fun e98 => ?_)
        · refine h_iload rfl l96 rfl ?_
          obtain ⟨z99, hf99, hz99, hq99⟩ := s_rLet (kn := kn) o2.1 (gX w2 214 (t)) ⟨by omega, by omega⟩
          refine h_S1 rfl o2 l96 rfl rfl hf99 ?_
          refine h_istore rfl l96 (fun vl100 l100 => ?_)
          refine h_intv k_1 rfl ?_
          refine h_istore rfl l100 (fun vl101 l101 => ?_)
          refine h_aload rfl l101 rfl ?_
          refine h_long rfl ?_
          refine h_putJ rfl o2 fj_12 rfl (fun w102 o102 q103b q103c => ?_)
          refine h_aload rfl l101 rfl ?_
          refine h_intv k_0 rfl ?_
          refine h_putI rfl o102 fi_8 rfl (by omega) (by omega) (fun w104 o104 q105a q105b q105c => ?_)
          refine go_w N t0 hN ht0 t (by omega) _ _ (by omega) (941 - t) t w104 _ 1 (by omega) o104 (by rw [q105b 213 3 (by omega), q103b, q3b 213 3 (by omega)]; exact hw3) (by rw [q105b 213 5 (by omega), q103b, q3b 213 5 (by omega)]; exact hw5) (by rw [q105b 213 6 (by omega), q103b, q3a]) (by omega) (Or.inr rfl) (Or.inr ⟨rfl, by omega, ?_⟩) l101
          rw [q105c 214 t, q103c 214 t]
          exact Or.inl (hq97.mp (by omega))
        · refine h_iload rfl l96 rfl ?_
          obtain ⟨z106, hf106, hz106, hq106⟩ := s_rDig (kn := kn) o2.1 (gX w2 214 (t)) ⟨by omega, by omega⟩
          refine h_S1 rfl o2 l96 rfl rfl hf106 ?_
          refine j_ne (kn := kn) (t := 1) (tgt := 198) (np := 137) rfl (by unfold R32; omega) (fun e107 => ?_) (fun e107 => ?_)
          · refine h_iload rfl l96 rfl ?_
            obtain ⟨z108, hf108, hz108, hq108⟩ := s_rLet (kn := kn) o2.1 (gX w2 214 (t)) ⟨by omega, by omega⟩
            refine h_S1 rfl o2 l96 rfl rfl hf108 ?_
            refine h_istore rfl l96 (fun vl109 l109 => ?_)
            refine h_intv k_1 rfl ?_
            refine h_istore rfl l109 (fun vl110 l110 => ?_)
            refine h_aload rfl l110 rfl ?_
            refine h_long rfl ?_
            refine h_putJ rfl o2 fj_12 rfl (fun w111 o111 q112b q112c => ?_)
            refine h_aload rfl l110 rfl ?_
            refine h_intv k_0 rfl ?_
            refine h_putI rfl o111 fi_8 rfl (by omega) (by omega) (fun w113 o113 q114a q114b q114c => ?_)
            refine go_w N t0 hN ht0 t (by omega) _ _ (by omega) (941 - t) t w113 _ 1 (by omega) o113 (by rw [q114b 213 3 (by omega), q112b, q3b 213 3 (by omega)]; exact hw3) (by rw [q114b 213 5 (by omega), q112b, q3b 213 5 (by omega)]; exact hw5) (by rw [q114b 213 6 (by omega), q112b, q3a]) (by omega) (Or.inr rfl) (Or.inr ⟨rfl, by omega, ?_⟩) l110
            rw [q114c 214 t, q112c 214 t]
            exact Or.inr (hq106.mp (by omega))
          · refine h_aload rfl l96 rfl ?_
            refine h_iload rfl l96 rfl ?_
            refine h_intv k_59 rfl ?_
            refine i_eq (kn := kn) (t := 0) (tgt := 174) (np := 144) rfl (by unfold R32; omega) (by unfold R32; omega) (fun e115 => ?_) (fun e115 => ?_)
            · refine h_intv k_4 rfl ?_
              refine h_goto rfl ?_
              refine h_putI rfl o2 fi_7 rfl (by omega) (by omega) (fun w116 o116 q117a q117b q117c => ?_)
              refine h_aload rfl l96 rfl ?_
              refine h_iload rfl l96 rfl ?_
              refine h_putI rfl o116 fi_9 rfl (by omega) (by omega) (fun w118 o118 q119a q119b q119c => ?_)
              refine h_aload rfl l96 rfl ?_
              refine h_dup rfl rfl ?_
              refine h_getI rfl o118 fi_5 (fun b120a b120b => ?_)
              rw [q119b 213 5 (by omega), q117b 213 5 (by omega), q3b 213 5 (by omega), hw5] at b120a b120b ⊢
              refine h_intv k_1 rfl ?_
              refine h_iadd rfl ?_
              refine h_putI rfl o118 fi_5 rfl (by omega) (by omega) (fun w121 o121 q122a q122b q122c => ?_)
              refine h_vret rfl ?_
              have r1 := rho_1 (w := w121) (N := N) (t := (t : Int) + 1) (by rw [q122b 213 3 (by omega), q119b 213 3 (by omega), q117b 213 3 (by omega), q3b 213 3 (by omega)]; exact hw3) (by rw [q122a])
              exact ⟨_, rfl, o121, (by rw [q122b 213 3 (by omega), q119b 213 3 (by omega), q117b 213 3 (by omega), q3b 213 3 (by omega)]; exact hw3), by rw [q122a]; omega, by omega⟩
            · refine h_iload rfl l96 rfl ?_
              refine h_intv k_60 rfl ?_
              refine i_eq (kn := kn) (t := 0) (tgt := 174) (np := 150) rfl (by unfold R32; omega) (by unfold R32; omega) (fun e123 => ?_) (fun e123 => ?_)
              · refine h_intv k_4 rfl ?_
                refine h_goto rfl ?_
                refine h_putI rfl o2 fi_7 rfl (by omega) (by omega) (fun w124 o124 q125a q125b q125c => ?_)
                refine h_aload rfl l96 rfl ?_
                refine h_iload rfl l96 rfl ?_
                refine h_putI rfl o124 fi_9 rfl (by omega) (by omega) (fun w126 o126 q127a q127b q127c => ?_)
                refine h_aload rfl l96 rfl ?_
                refine h_dup rfl rfl ?_
                refine h_getI rfl o126 fi_5 (fun b128a b128b => ?_)
                rw [q127b 213 5 (by omega), q125b 213 5 (by omega), q3b 213 5 (by omega), hw5] at b128a b128b ⊢
                refine h_intv k_1 rfl ?_
                refine h_iadd rfl ?_
                refine h_putI rfl o126 fi_5 rfl (by omega) (by omega) (fun w129 o129 q130a q130b q130c => ?_)
                refine h_vret rfl ?_
                have r1 := rho_1 (w := w129) (N := N) (t := (t : Int) + 1) (by rw [q130b 213 3 (by omega), q127b 213 3 (by omega), q125b 213 3 (by omega), q3b 213 3 (by omega)]; exact hw3) (by rw [q130a])
                exact ⟨_, rfl, o129, (by rw [q130b 213 3 (by omega), q127b 213 3 (by omega), q125b 213 3 (by omega), q3b 213 3 (by omega)]; exact hw3), by rw [q130a]; omega, by omega⟩
              · refine h_iload rfl l96 rfl ?_
                refine h_intv k_61 rfl ?_
                refine i_eq (kn := kn) (t := 0) (tgt := 174) (np := 156) rfl (by unfold R32; omega) (by unfold R32; omega) (fun e131 => ?_) (fun e131 => ?_)
                · refine h_intv k_4 rfl ?_
                  refine h_goto rfl ?_
                  refine h_putI rfl o2 fi_7 rfl (by omega) (by omega) (fun w132 o132 q133a q133b q133c => ?_)
                  refine h_aload rfl l96 rfl ?_
                  refine h_iload rfl l96 rfl ?_
                  refine h_putI rfl o132 fi_9 rfl (by omega) (by omega) (fun w134 o134 q135a q135b q135c => ?_)
                  refine h_aload rfl l96 rfl ?_
                  refine h_dup rfl rfl ?_
                  refine h_getI rfl o134 fi_5 (fun b136a b136b => ?_)
                  rw [q135b 213 5 (by omega), q133b 213 5 (by omega), q3b 213 5 (by omega), hw5] at b136a b136b ⊢
                  refine h_intv k_1 rfl ?_
                  refine h_iadd rfl ?_
                  refine h_putI rfl o134 fi_5 rfl (by omega) (by omega) (fun w137 o137 q138a q138b q138c => ?_)
                  refine h_vret rfl ?_
                  have r1 := rho_1 (w := w137) (N := N) (t := (t : Int) + 1) (by rw [q138b 213 3 (by omega), q135b 213 3 (by omega), q133b 213 3 (by omega), q3b 213 3 (by omega)]; exact hw3) (by rw [q138a])
                  exact ⟨_, rfl, o137, (by rw [q138b 213 3 (by omega), q135b 213 3 (by omega), q133b 213 3 (by omega), q3b 213 3 (by omega)]; exact hw3), by rw [q138a]; omega, by omega⟩
                · refine h_iload rfl l96 rfl ?_
                  refine h_intv k_62 rfl ?_
                  refine i_eq (kn := kn) (t := 0) (tgt := 174) (np := 162) rfl (by unfold R32; omega) (by unfold R32; omega) (fun e139 => ?_) (fun e139 => ?_)
                  · refine h_intv k_4 rfl ?_
                    refine h_goto rfl ?_
                    refine h_putI rfl o2 fi_7 rfl (by omega) (by omega) (fun w140 o140 q141a q141b q141c => ?_)
                    refine h_aload rfl l96 rfl ?_
                    refine h_iload rfl l96 rfl ?_
                    refine h_putI rfl o140 fi_9 rfl (by omega) (by omega) (fun w142 o142 q143a q143b q143c => ?_)
                    refine h_aload rfl l96 rfl ?_
                    refine h_dup rfl rfl ?_
                    refine h_getI rfl o142 fi_5 (fun b144a b144b => ?_)
                    rw [q143b 213 5 (by omega), q141b 213 5 (by omega), q3b 213 5 (by omega), hw5] at b144a b144b ⊢
                    refine h_intv k_1 rfl ?_
                    refine h_iadd rfl ?_
                    refine h_putI rfl o142 fi_5 rfl (by omega) (by omega) (fun w145 o145 q146a q146b q146c => ?_)
                    refine h_vret rfl ?_
                    have r1 := rho_1 (w := w145) (N := N) (t := (t : Int) + 1) (by rw [q146b 213 3 (by omega), q143b 213 3 (by omega), q141b 213 3 (by omega), q3b 213 3 (by omega)]; exact hw3) (by rw [q146a])
                    exact ⟨_, rfl, o145, (by rw [q146b 213 3 (by omega), q143b 213 3 (by omega), q141b 213 3 (by omega), q3b 213 3 (by omega)]; exact hw3), by rw [q146a]; omega, by omega⟩
                  · refine h_iload rfl l96 rfl ?_
                    refine h_intv k_40 rfl ?_
                    refine i_eq (kn := kn) (t := 0) (tgt := 174) (np := 168) rfl (by unfold R32; omega) (by unfold R32; omega) (fun e147 => ?_) (fun e147 => ?_)
                    · refine h_intv k_4 rfl ?_
                      refine h_goto rfl ?_
                      refine h_putI rfl o2 fi_7 rfl (by omega) (by omega) (fun w148 o148 q149a q149b q149c => ?_)
                      refine h_aload rfl l96 rfl ?_
                      refine h_iload rfl l96 rfl ?_
                      refine h_putI rfl o148 fi_9 rfl (by omega) (by omega) (fun w150 o150 q151a q151b q151c => ?_)
                      refine h_aload rfl l96 rfl ?_
                      refine h_dup rfl rfl ?_
                      refine h_getI rfl o150 fi_5 (fun b152a b152b => ?_)
                      rw [q151b 213 5 (by omega), q149b 213 5 (by omega), q3b 213 5 (by omega), hw5] at b152a b152b ⊢
                      refine h_intv k_1 rfl ?_
                      refine h_iadd rfl ?_
                      refine h_putI rfl o150 fi_5 rfl (by omega) (by omega) (fun w153 o153 q154a q154b q154c => ?_)
                      refine h_vret rfl ?_
                      have r1 := rho_1 (w := w153) (N := N) (t := (t : Int) + 1) (by rw [q154b 213 3 (by omega), q151b 213 3 (by omega), q149b 213 3 (by omega), q3b 213 3 (by omega)]; exact hw3) (by rw [q154a])
                      exact ⟨_, rfl, o153, (by rw [q154b 213 3 (by omega), q151b 213 3 (by omega), q149b 213 3 (by omega), q3b 213 3 (by omega)]; exact hw3), by rw [q154a]; omega, by omega⟩
                    · refine h_iload rfl l96 rfl ?_
                      refine h_intv k_41 rfl ?_
                      refine i_ne (kn := kn) (t := 1) (tgt := 178) (np := 174) rfl (by unfold R32; omega) (by unfold R32; omega) (fun e155 => ?_) (fun e155 => ?_)
                      · refine h_intv k_1 rfl ?_
                        refine h_putI rfl o2 fi_7 rfl (by omega) (by omega) (fun w156 o156 q157a q157b q157c => ?_)
                        refine h_aload rfl l96 rfl ?_
                        refine h_iload rfl l96 rfl ?_
                        refine h_putI rfl o156 fi_9 rfl (by omega) (by omega) (fun w158 o158 q159a q159b q159c => ?_)
                        refine h_aload rfl l96 rfl ?_
                        refine h_dup rfl rfl ?_
                        refine h_getI rfl o158 fi_5 (fun b160a b160b => ?_)
                        rw [q159b 213 5 (by omega), q157b 213 5 (by omega), q3b 213 5 (by omega), hw5] at b160a b160b ⊢
                        refine h_intv k_1 rfl ?_
                        refine h_iadd rfl ?_
                        refine h_putI rfl o158 fi_5 rfl (by omega) (by omega) (fun w161 o161 q162a q162b q162c => ?_)
                        refine h_vret rfl ?_
                        have r1 := rho_1 (w := w161) (N := N) (t := (t : Int) + 1) (by rw [q162b 213 3 (by omega), q159b 213 3 (by omega), q157b 213 3 (by omega), q3b 213 3 (by omega)]; exact hw3) (by rw [q162a])
                        exact ⟨_, rfl, o161, (by rw [q162b 213 3 (by omega), q159b 213 3 (by omega), q157b 213 3 (by omega), q3b 213 3 (by omega)]; exact hw3), by rw [q162a]; omega, by omega⟩
                      · refine h_intv k_4 rfl ?_
                        refine h_goto rfl ?_
                        refine h_putI rfl o2 fi_7 rfl (by omega) (by omega) (fun w163 o163 q164a q164b q164c => ?_)
                        refine h_aload rfl l96 rfl ?_
                        refine h_iload rfl l96 rfl ?_
                        refine h_putI rfl o163 fi_9 rfl (by omega) (by omega) (fun w165 o165 q166a q166b q166c => ?_)
                        refine h_aload rfl l96 rfl ?_
                        refine h_dup rfl rfl ?_
                        refine h_getI rfl o165 fi_5 (fun b167a b167b => ?_)
                        rw [q166b 213 5 (by omega), q164b 213 5 (by omega), q3b 213 5 (by omega), hw5] at b167a b167b ⊢
                        refine h_intv k_1 rfl ?_
                        refine h_iadd rfl ?_
                        refine h_putI rfl o165 fi_5 rfl (by omega) (by omega) (fun w168 o168 q169a q169b q169c => ?_)
                        refine h_vret rfl ?_
                        have r1 := rho_1 (w := w168) (N := N) (t := (t : Int) + 1) (by rw [q169b 213 3 (by omega), q166b 213 3 (by omega), q164b 213 3 (by omega), q3b 213 3 (by omega)]; exact hw3) (by rw [q169a])
                        exact ⟨_, rfl, o168, (by rw [q169b 213 3 (by omega), q166b 213 3 (by omega), q164b 213 3 (by omega), q3b 213 3 (by omega)]; exact hw3), by rw [q169a]; omega, by omega⟩
      · refine h_aload rfl l0 rfl ?_
        refine h_intv k_0 rfl ?_
        refine h_putI rfl o2 fi_7 rfl (by omega) (by omega) (fun w170 o170 q171a q171b q171c => ?_)
        refine h_vret rfl ?_
        have r1 := rho_0 (w := w170) (N := N) (t := t) (k := 0) (by rw [q171b 213 3 (by omega), q3b 213 3 (by omega)]; exact hw3) (by rw [q171b 213 5 (by omega), q3b 213 5 (by omega)]; exact hw5) q171a (by omega)
        have r2 : gF w170 213 5 = (t : Int) := (by rw [q171b 213 5 (by omega), q3b 213 5 (by omega)]; exact hw5)
        exact ⟨_, rfl, o170, (by rw [q171b 213 3 (by omega), q3b 213 3 (by omega)]; exact hw3), by omega, by omega⟩
    · refine h_aload rfl l0 rfl ?_
      refine h_aload rfl l0 rfl ?_
      refine h_getI rfl o2 fi_4 (fun b172a b172b => ?_)
      refine h_putI rfl o2 fi_6 rfl (by omega) (by omega) (fun w173 o173 q174a q174b q174c => ?_)
      refine h_aload rfl l0 rfl ?_
      refine h_intv k_1 rfl ?_
      refine h_putI rfl o173 fi_7 rfl (by omega) (by omega) (fun w175 o175 q176a q176b q176c => ?_)
      refine h_vret rfl ?_
      have r1 := rho_0 (w := w175) (N := N) (t := t) (k := 1) (by rw [q176b 213 3 (by omega), q174b 213 3 (by omega), q3b 213 3 (by omega)]; exact hw3) (by rw [q176b 213 5 (by omega), q174b 213 5 (by omega), q3b 213 5 (by omega)]; exact hw5) q176a (by omega)
      have r2 : gF w175 213 5 = (t : Int) := (by rw [q176b 213 5 (by omega), q174b 213 5 (by omega), q3b 213 5 (by omega)]; exact hw5)
      exact ⟨_, rfl, o175, (by rw [q176b 213 3 (by omega), q174b 213 3 (by omega), q3b 213 3 (by omega)]; exact hw3), by omega, by omega⟩
theorem go_b {kn : sKn} {w0 : sW} (N t0 : Nat) (hN : N ≤ 940) (ht0 : t0 ≤ 940) : ∀ (m t : Nat) (w : sW) (lv : List (Nat × Value)), t + m = 940 → t0 ≤ t → hO dH_go7 w0 w → gF w 213 3 = (N : Int) → gF w 213 5 = (t : Int) → hL lv [(0, .ref 213)] → Tp (tX12_go kn) (fun r => ∃ w', r = (none, w', 0, 0) ∧ hO dH_go7 w0 w' ∧ gF w' 213 3 = (N : Int) ∧ (t0 : Int) ≤ gF w' 213 5 ∧ rhoV w' ≤ (N : Int) - (t0 : Int)) 0 (lv, [], w, 0, 0) := by
  intro m
  induction m with
  | zero =>
    intro t w lv hm htt o0 hw3 hw5 l0
    refine h_aload rfl l0 rfl ?_
    refine h_getI rfl o0 fi_5 (fun b1a b1b => ?_)
    rw [hw5] at b1a b1b ⊢
    refine h_aload rfl l0 rfl ?_
    refine h_getI rfl o0 fi_3 (fun b2a b2b => ?_)
    rw [hw3] at b2a b2b ⊢
    refine i_ge (kn := kn) (t := 3) (tgt := 52) (np := 11) rfl (by unfold R32; omega) (by unfold R32; omega) (fun e3 => ?_) (fun e3 => ?_)
    · exact go_c N t0 hN ht0 t htt (by omega) _ o0 hw3 hw5 l0
    · omega
  | succ m ih =>
    intro t w lv hm htt o0 hw3 hw5 l0
    refine h_aload rfl l0 rfl ?_
    refine h_getI rfl o0 fi_5 (fun b1a b1b => ?_)
    rw [hw5] at b1a b1b ⊢
    refine h_aload rfl l0 rfl ?_
    refine h_getI rfl o0 fi_3 (fun b2a b2b => ?_)
    rw [hw3] at b2a b2b ⊢
    refine i_ge (kn := kn) (t := 3) (tgt := 52) (np := 11) rfl (by unfold R32; omega) (by unfold R32; omega) (fun e3 => ?_) (fun e3 => ?_)
    · exact go_c N t0 hN ht0 t htt (by omega) _ o0 hw3 hw5 l0
    · refine h_aload rfl l0 rfl ?_
      refine h_getR rfl o0 fr_1 ?_
      refine h_aload rfl l0 rfl ?_
      refine h_getI rfl o0 fi_5 (fun b4a b4b => ?_)
      rw [hw5] at b4a b4b ⊢
      refine h_ialdj (t) rfl o0 ai_214 rfl (by omega) (by omega) (fun b5a b5b => ?_)
      refine h_intv k_32 rfl ?_
      refine i_eq (kn := kn) (t := 0) (tgt := 39) (np := 25) rfl (by unfold R32; omega) (by unfold R32; omega) (fun e6 => ?_) (fun e6 => ?_)
      · refine h_aload rfl l0 rfl ?_
        refine h_dup rfl rfl ?_
        refine h_getI rfl o0 fi_5 (fun b7a b7b => ?_)
        rw [hw5] at b7a b7b ⊢
        refine h_intv k_1 rfl ?_
        refine h_iadd rfl ?_
        refine h_putI rfl o0 fi_5 rfl (by omega) (by omega) (fun w8 o8 q9a q9b q9c => ?_)
        refine h_goto rfl ?_
        exact ih (t + 1) w8 _ (by omega) (by omega) o8 (by rw [q9b 213 3 (by omega)]; exact hw3) (by rw [q9a]; omega) l0
      · refine h_aload rfl l0 rfl ?_
        refine h_getR rfl o0 fr_1 ?_
        refine h_aload rfl l0 rfl ?_
        refine h_getI rfl o0 fi_5 (fun b10a b10b => ?_)
        rw [hw5] at b10a b10b ⊢
        refine h_ialdj (t) rfl o0 ai_214 rfl (by omega) (by omega) (fun b11a b11b => ?_)
        refine h_intv k_10 rfl ?_
        refine i_ne (kn := kn) (t := 1) (tgt := 52) (np := 39) rfl (by unfold R32; omega) (by unfold R32; omega) (fun e12 => ?_) (fun e12 => ?_)
        · exact go_c N t0 hN ht0 t htt (by omega) _ o0 hw3 hw5 l0
        · refine h_aload rfl l0 rfl ?_
          refine h_dup rfl rfl ?_
          refine h_getI rfl o0 fi_5 (fun b13a b13b => ?_)
          rw [hw5] at b13a b13b ⊢
          refine h_intv k_1 rfl ?_
          refine h_iadd rfl ?_
          refine h_putI rfl o0 fi_5 rfl (by omega) (by omega) (fun w14 o14 q15a q15b q15c => ?_)
          refine h_goto rfl ?_
          exact ih (t + 1) w14 _ (by omega) (by omega) o14 (by rw [q15b 213 3 (by omega)]; exact hw3) (by rw [q15a]; omega) l0
theorem s_go {kn : sKn} {w : sW} (hw : wOk ZZ w) : ∃ w', fX12_go kn [.ref 213] w = some (none, w', 0, 0) ∧ hO dH_go w w' ∧ rhoV w' ≤ gF w 213 3 - gF w 213 5 := by
  have o0 : hO dH_go7 w w := hO_rf hw
  obtain ⟨_, _, _, _, _, _, _, a1, a2⟩ := fI_ok o0 fi_3
  obtain ⟨_, _, _, _, _, _, _, b1, b2⟩ := fI_ok o0 fi_5
  obtain ⟨N, hN, hN2⟩ : ∃ n : Nat, gF w 213 3 = (n : Int) ∧ n ≤ 940 := ⟨(gF w 213 3).toNat, by omega, by omega⟩
  obtain ⟨t0, ht, ht2⟩ : ∃ n : Nat, gF w 213 5 = (n : Int) ∧ n ≤ 940 := ⟨(gF w 213 5).toNat, by omega, by omega⟩
  have l0 : hL (lv_args 0 [.ref 213]) (lv_args 0 [.ref 213]) := hL_ex rfl
  obtain ⟨r, h1, w', h2, h3, h4, h5, h6⟩ := h_meth1 (nL := 5) rfl (go_b (kn := kn) (w0 := w) N t0 hN2 ht2 (940 - t0) t0 w _ (by omega) (Nat.le_refl _) o0 hN ht l0)
  rw [h2] at h1
  have hr : rhoV w = (N : Int) - t0 ∨ rhoV w = (N : Int) - t0 + 1 := by
    unfold rhoV
    rw [hN, ht]
    split
    · right; rfl
    · left; omega
  exact ⟨w', h1, ⟨h3.1, fr_J hw h3.1 h3.2 ⟨by rw [h4, hN], by rw [ht]; exact h5, by omega⟩⟩, by rw [hN, ht]; exact h6⟩
def dX12_go : List (Nat × Nat) := dH_go
def xX12_go : List eX := [([(2, 0, 213)], [], [], 1, [([], [], [], [], 1)])]
theorem con_X12_go (kn : sKn) : Cons ZZ dX12_go (fX12_go kn) xX12_go := Cons_c (by
  intro σ0 av w hN h0 hS hM hE hw hwf
  have hS : gS σ0 [(2, 0, 213)] av := hS
  obtain ⟨v1, st1, rfl, ⟨z1, e1, e2⟩, hS1⟩ := gS_1 hS
  rw [gS_0 hS1] at hwf ⊢
  rw [h0] at e1
  cases e1
  obtain ⟨k, rfl, hk⟩ := e2
  have hk : (k : Int) = 0 + 213 := hk
  have hk2 : k = 213 := by omega
  subst hk2
  obtain ⟨w', f1, f2, _⟩ := s_go (kn := kn) hw
  refine ⟨⟨_, f1⟩, fun r hr' => ?_⟩
  rw [f1] at hr'
  cases hr'
  exact ⟨rfl, f2.2, f2.1, _, List.mem_cons_self, σ0, ext_rf σ0, hN, trivial, (fun q hq => by cases hq), (fun q hq => by cases hq)⟩) Cons_n
end
