noncomputable section
theorem s_places {kn : sKn} {w : sW} (hw : wOk ZZ w)  : ∃ b : Int, fX12_places kn [.ref 213] w = some (some (hI b), w, 0, 0) ∧ (3 ≤ b ∧ b ≤ 36) := by
  have K : Tp (tX12_places kn) (fun r => ∃ b : Int, r = (some (hI b), w, 0, 0) ∧ (3 ≤ b ∧ b ≤ 36)) 0 (lv_args 0 [.ref 213], [], w, 0, 0) := by
    have l0 : hL (lv_args 0 [.ref 213]) (lv_args 0 [.ref 213]) := hL_ex rfl
    have o0 : hO [] w w := hO_rf hw
    refine h_intv k_3 rfl ?_
    refine h_aload rfl l0 rfl ?_
    refine h_getR rfl o0 fr_14 ?_
    refine h_intv k_0 rfl ?_
    refine h_ialdj (0) rfl o0 ai_215 rfl (by omega) (by omega) (fun b1a b1b => ?_)
    have b1c := gX_in o0 ai_215 ar_rows (j := 0) (by omega) (by omega) (by omega)
    refine h_imul rfl ?_
    refine h_iret rfl ?_
    exact ⟨_, rfl, by omega⟩
  obtain ⟨r, h1, b, h2, h3⟩ := h_meth1 (nL := 1) rfl K
  rw [h2] at h1
  exact ⟨b, h1, h3⟩
def dH_cut : List (Nat × Nat) := [(72, 999), (79, 999), (73, 999)]
theorem dH_cut1 : msub dH_best dH_cut = true := by decide +kernel
/-- whether there is a path, as it stands -/
theorem s_hasPath0 {kn : sKn} {w : sW} (hw : wOk ZZ w) (l : Nat) (hl : l < 6) : ∃ (w' : sW) (b : Int), fX12_hasPath kn [.ref 213, hI l] w = some (some (hI b), w', 0, 0) ∧ hO dH_best w w' ∧ (b = 0 ∨ b = 1) := by
  obtain ⟨R, hR, hR1, hR2⟩ := rows_of (hO_rf (D := []) hw)
  obtain ⟨wide, hwd, hwd2⟩ := wide_of (hO_rf (D := []) hw) hl
  obtain ⟨w', b, h1, h2, h3, _⟩ := s_hasPath (kn := kn) hw l hl R hR hR1 hR2 wide hwd hwd2
  exact ⟨w', b, h1, h2.1, h3⟩
theorem cc_p {kn : sKn} {g : List Value → sW → Option sR} {w0 : sW} (l i many first : Nat) (hl : l < 6) (hi : i < 3) (ih : ∀ (w : sW) (first : Nat), wOk ZZ w → first ≤ 36 → (∃ (w' : sW) (b : Int), g [.ref 213, hI l, hI ((i : Int) + 1), hI many, hI first] w = some (some (hI b), w', 0, 0) ∧ hO dH_cut w w' ∧ (b = 0 ∨ b = 1))) : ∀ (m p : Nat) (w : sW) (lv : List (Nat × Value)) (x : Int), p + m = 36 → x = (p : Int) → hO dH_cut w0 w → hL lv [(0, .ref 213), (1, hI l), (2, hI i), (3, hI many), (4, hI first), (5, hI x)] → Tp (tX12_canCut_g kn g) (fun r => ∃ (w' : sW) (b : Int), r = (some (hI b), w', 0, 0) ∧ hO dH_cut w0 w' ∧ (b = 0 ∨ b = 1)) 23 (lv, [], w, 0, 0) := by
  intro m
  induction m with
  | zero =>
    intro p w lv x hpm hxp o0 l0
    subst hxp
    refine h_iload rfl l0 rfl ?_
    refine h_aload rfl l0 rfl ?_
    obtain ⟨z1, hf1, hz1⟩ := s_places (kn := kn) o0.1
    refine h_V1 rfl o0 l0 ci_213 rfl rfl hf1 ?_
    refine i_ge (kn := kn) (t := 3) (tgt := 108) (np := 32) rfl (by unfold R32; omega) (by unfold R32; omega) (fun e2 => ?_) (fun e2 => ?_)
    · refine h_intv k_0 rfl ?_
      refine h_zret (by omega) rfl ?_
      exact ⟨_, _, rfl, o0, by omega⟩
    · omega
  | succ m ihm =>
    intro p w lv x hpm hxp o0 l0
    subst hxp
    refine h_iload rfl l0 rfl ?_
    refine h_aload rfl l0 rfl ?_
    obtain ⟨z1, hf1, hz1⟩ := s_places (kn := kn) o0.1
    refine h_V1 rfl o0 l0 ci_213 rfl rfl hf1 ?_
    refine i_ge (kn := kn) (t := 3) (tgt := 108) (np := 32) rfl (by unfold R32; omega) (by unfold R32; omega) (fun e2 => ?_) (fun e2 => ?_)
    · refine h_intv k_0 rfl ?_
      refine h_zret (by omega) rfl ?_
      exact ⟨_, _, rfl, o0, by omega⟩
    · refine h_aload rfl l0 rfl ?_
      refine h_getR rfl o0 fr_27 ?_
      refine h_iload rfl l0 rfl ?_
      refine h_ialdj (p) rfl o0 ai_224 rfl (by omega) (by omega) (fun b3a b3b => ?_)
      have b3c := gX_in o0 ai_224 ar_224 (j := p) (by omega) (by omega) (by omega)
      refine h_intv k_n1 rfl ?_
      refine i_ne (kn := kn) (t := 1) (tgt := 46) (np := 43) rfl (by unfold R32; omega) (by unfold R32; omega) (fun e4 => ?_) (fun e4 => ?_)
      · refine h_aload rfl l0 rfl ?_
        refine h_getR rfl o0 fr_27 ?_
        refine h_iload rfl l0 rfl ?_
        refine h_ialdj (p) rfl o0 ai_224 rfl (by omega) (by omega) (fun b5a b5b => ?_)
        have b5c := gX_in o0 ai_224 ar_224 (j := p) (by omega) (by omega) (by omega)
        refine h_istore rfl l0 (fun vl6 l6 => ?_)
        refine h_aload rfl l6 rfl ?_
        refine h_getR rfl o0 fr_27 ?_
        refine h_iload rfl l6 rfl ?_
        refine h_intv k_n1 rfl ?_
        refine h_iastj (p) rfl o0 ai_224 rfl rfl aw_224 (by omega) (by omega) (by omega) (by omega) (by omega) (by unfold R32; omega) (fun w7 o7 q8a q8b q8c => ?_)
        refine h_aload rfl l6 rfl ?_
        refine h_getR rfl o7 fr_37 ?_
        refine h_iload rfl l6 rfl ?_
        refine h_iload rfl l6 rfl ?_
        refine h_iastj (i) rfl o7 ai_231 rfl rfl aw_231 (by omega) (by omega) (by omega) (by omega) (by omega) (by unfold R32; omega) (fun w9 o9 q10a q10b q10c => ?_)
        refine h_aload rfl l6 rfl ?_
        refine h_iload rfl l6 rfl ?_
        refine h_iload rfl l6 rfl ?_
        refine h_intv k_1 rfl ?_
        refine h_iadd rfl ?_
        refine h_iload rfl l6 rfl ?_
        refine h_iload rfl l6 rfl ?_
        refine h_intv k_1 rfl ?_
        refine h_iadd rfl ?_
        have hp1 : ((p : Int) + 1) = ((p + 1 : Nat) : Int) := by omega
        rw [hp1]
        obtain ⟨wA, bA, hf11, oA', hbA⟩ := ih w9 (p + 1) o9.1 (by omega)
        have oA : hO dH_cut w0 wA := hO_tr o9 oA'
        refine h_V5 rfl o9 l6 ci_213 rfl rfl hf11 ?_
        refine h_istore rfl l6 (fun vl12 l12 => ?_)
        refine h_aload rfl l12 rfl ?_
        refine h_getR rfl oA fr_27 ?_
        refine h_iload rfl l12 rfl ?_
        refine h_iload rfl l12 rfl ?_
        refine h_iastj (p) rfl oA ai_224 rfl rfl aw_224 (by omega) (by omega) (by omega) (by omega) (by omega) (by unfold R32; omega) (fun w13 o13 q14a q14b q14c => ?_)
        refine h_iload rfl l12 rfl ?_
        refine j_eq (kn := kn) (t := 0) (tgt := 102) (np := 100) rfl (by unfold R32; omega) (fun e15 => ?_) (fun e15 => ?_)
        · refine h_iincv k_1 rfl l12 rfl (fun vl16 l16 => ?_)
          refine h_goto rfl ?_
          exact ihm (p + 1) w13 _ ((p : Int) + 1) (by omega) (by omega) o13 (hL_take 6 l16)
        · refine h_intv k_1 rfl ?_
          refine h_zret (by omega) rfl ?_
          exact ⟨_, _, rfl, o13, by omega⟩
      · refine h_goto rfl ?_
        refine h_iincv k_1 rfl l0 rfl (fun vl17 l17 => ?_)
        refine h_goto rfl ?_
        exact ihm (p + 1) w _ ((p : Int) + 1) (by omega) (by omega) o0 (hL_take 6 l17)
theorem cc_g {kn : sKn} {g : List Value → sW → Option sR} {w0 : sW} (hw : wOk ZZ w0) (l i many first : Nat) (hl : l < 6) (hi : i ≤ many) (hm : many ≤ 3) (hf : first ≤ 36) (ih : ∀ (w : sW) (first : Nat), wOk ZZ w → first ≤ 36 → i < many → (∃ (w' : sW) (b : Int), g [.ref 213, hI l, hI ((i : Int) + 1), hI many, hI first] w = some (some (hI b), w', 0, 0) ∧ hO dH_cut w w' ∧ (b = 0 ∨ b = 1))) : (∃ (w' : sW) (b : Int), fX12_canCut_g kn g [.ref 213, hI l, hI i, hI many, hI first] w0 = some (some (hI b), w', 0, 0) ∧ hO dH_cut w0 w' ∧ (b = 0 ∨ b = 1)) := by
  have K : Tp (tX12_canCut_g kn g) (fun r => ∃ (w' : sW) (b : Int), r = (some (hI b), w', 0, 0) ∧ hO dH_cut w0 w' ∧ (b = 0 ∨ b = 1)) 0 (lv_args 0 [.ref 213, hI l, hI i, hI many, hI first], [], w0, 0, 0) := by
    have l0 : hL (lv_args 0 [.ref 213, hI l, hI i, hI many, hI first]) (lv_args 0 [.ref 213, hI l, hI i, hI many, hI first]) := hL_ex rfl
    have o0 : hO dH_cut w0 w0 := hO_rf hw
    refine h_iload rfl l0 rfl ?_
    refine h_iload rfl l0 rfl ?_
    refine i_ne (kn := kn) (t := 1) (tgt := 19) (np := 5) rfl (by unfold R32; omega) (by unfold R32; omega) (fun e1 => ?_) (fun e1 => ?_)
    · refine h_iload rfl l0 rfl ?_
      refine h_istore rfl l0 (fun vl2 l2 => ?_)
      exact cc_p l i many first hl (by omega) (fun w first hw hf => ih w first hw hf (by omega)) (36 - first) first _ _ _ (by omega) rfl o0 l2
    · refine h_aload rfl l0 rfl ?_
      refine h_iload rfl l0 rfl ?_
      obtain ⟨wA, bA, hf3, oA', hbA⟩ := s_hasPath0 (kn := kn) o0.1 l hl
      have oA : hO dH_cut w0 wA := hO_tr o0 (hO_mono dH_cut1 oA')
      refine h_V2 rfl o0 l0 ci_213 rfl rfl hf3 ?_
      refine j_ne (kn := kn) (t := 1) (tgt := 17) (np := 13) rfl (by unfold R32; omega) (fun e4 => ?_) (fun e4 => ?_)
      · refine h_intv k_0 rfl ?_
        refine h_zret (by omega) rfl ?_
        exact ⟨_, _, rfl, oA, by omega⟩
      · refine h_intv k_1 rfl ?_
        refine h_goto rfl ?_
        refine h_zret (by omega) rfl ?_
        exact ⟨_, _, rfl, oA, by omega⟩
  obtain ⟨r, h1, w2, b, h2, h3⟩ := h_meth1 (nL := 8) rfl K
  rw [h2] at h1
  exact ⟨w2, b, h1, h3⟩
theorem cc_n {kn : sKn} (l many : Nat) (hl : l < 6) (hm : many ≤ 3) : ∀ (d i first : Nat) (w : sW), many < i + d → i ≤ many → first ≤ 36 → wOk ZZ w → (∃ (w' : sW) (b : Int), fX12_canCut_n kn d [.ref 213, hI l, hI i, hI many, hI first] w = some (some (hI b), w', 0, 0) ∧ hO dH_cut w w' ∧ (b = 0 ∨ b = 1)) := by
  intro d
  induction d with
  | zero =>
    intro i first w h1 h2
    omega
  | succ d ih =>
    intro i first w h1 h2 h3 hw
    exact cc_g hw l i many first hl h2 hm h3 (fun w first hw hf hi => by
      have k := ih (i + 1) first w (by omega) (by omega) hf hw
      rw [show ((i + 1 : Nat) : Int) = (i : Int) + 1 by omega] at k
      exact k)
theorem s_canCut {kn : sKn} {w : sW} (hw : wOk ZZ w) (l i many first : Nat) (hl : l < 6) (hi : i ≤ many) (hm : many ≤ 3) (hf : first ≤ 36) : (∃ (w' : sW) (b : Int), fX12_canCut kn [.ref 213, hI l, hI i, hI many, hI first] w = some (some (hI b), w', 0, 0) ∧ hO dH_cut w w' ∧ (b = 0 ∨ b = 1)) := cc_n l many hl hm 5 i first w (by omega) hi hf hw
def dH_cuts : List (Nat × Nat) := (61, 0) :: (61, 39) :: (80, 999) :: dH_whose ++ dH_cut
theorem dH_cuts1 : msub dH_cut dH_cuts = true := by decide +kernel
theorem dH_cuts2 : msub dH_whose dH_cuts = true := by decide +kernel
theorem ct_j {kn : sKn} {w0 : sW} (l n : Nat) (hn : n ≤ 3) : ∀ (m j : Nat) (w : sW) (lv : List (Nat × Value)) (x : Int), j + m = 3 → x = (j : Int) → hO dH_cuts w0 w → hL lv [(0, .ref 213), (1, hI l), (2, hI n), (3, hI x)] → Tp (tX12_cut kn) (fun r => ∃ (w' : sW) (v : Int), r = (some (hI v), w', 0, 0) ∧ hO dH_cuts w0 w' ∧ (-1 ≤ v ∧ v ≤ 3)) 47 (lv, [], w, 0, 0) := by
  intro m
  induction m with
  | zero =>
    intro j w lv x hjm hxj o0 l0
    subst hxj
    refine h_iload rfl l0 rfl ?_
    refine h_intv k_3 rfl ?_
    refine i_ge (kn := kn) (t := 3) (tgt := 70) (np := 52) rfl (by unfold R32; omega) (by unfold R32; omega) (fun e1 => ?_) (fun e1 => ?_)
    · refine h_iload rfl l0 rfl ?_
      refine h_iret rfl ?_
      exact ⟨_, _, rfl, o0, by omega⟩
    · omega
  | succ m ih =>
    intro j w lv x hjm hxj o0 l0
    subst hxj
    refine h_iload rfl l0 rfl ?_
    refine h_intv k_3 rfl ?_
    refine i_ge (kn := kn) (t := 3) (tgt := 70) (np := 52) rfl (by unfold R32; omega) (by unfold R32; omega) (fun e1 => ?_) (fun e1 => ?_)
    · refine h_iload rfl l0 rfl ?_
      refine h_iret rfl ?_
      exact ⟨_, _, rfl, o0, by omega⟩
    · refine h_aload rfl l0 rfl ?_
      refine h_getR rfl o0 fr_38 ?_
      refine h_iload rfl l0 rfl ?_
      refine h_aload rfl l0 rfl ?_
      refine h_getR rfl o0 fr_37 ?_
      refine h_iload rfl l0 rfl ?_
      refine h_ialdj (j) rfl o0 ai_231 rfl (by omega) (by omega) (fun b2a b2b => ?_)
      refine h_iastj (j) rfl o0 ai_232 rfl rfl aw_232 (by omega) (by omega) (by omega) (by omega) (by omega) (by unfold R32; omega) (fun w3 o3 q4a q4b q4c => ?_)
      refine h_iincv k_1 rfl l0 rfl (fun vl5 l5 => ?_)
      refine h_goto rfl ?_
      exact ih (j + 1) w3 _ ((j : Int) + 1) (by omega) (by omega) o3 l5
theorem ct_n {kn : sKn} {w0 : sW} (l : Nat) (hl : l < 6) : ∀ (m n : Nat) (w : sW) (lv : List (Nat × Value)) (x : Int), n + m = 4 → x = (n : Int) → hO dH_cuts w0 w → hL lv [(0, .ref 213), (1, hI l), (2, hI x)] → Tp (tX12_cut kn) (fun r => ∃ (w' : sW) (v : Int), r = (some (hI v), w', 0, 0) ∧ hO dH_cuts w0 w' ∧ (-1 ≤ v ∧ v ≤ 3)) 21 (lv, [], w, 0, 0) := by
  intro m
  induction m with
  | zero =>
    intro n w lv x hnm hxn o0 l0
    subst hxn
    refine h_iload rfl l0 rfl ?_
    refine h_intv k_3 rfl ?_
    refine i_gt (kn := kn) (t := 4) (tgt := 78) (np := 26) rfl (by unfold R32; omega) (by unfold R32; omega) (fun e1 => ?_) (fun e1 => ?_)
    · refine h_intv k_n1 rfl ?_
      refine h_iret rfl ?_
      exact ⟨_, _, rfl, o0, by omega⟩
    · omega
  | succ m ih =>
    intro n w lv x hnm hxn o0 l0
    subst hxn
    refine h_iload rfl l0 rfl ?_
    refine h_intv k_3 rfl ?_
    refine i_gt (kn := kn) (t := 4) (tgt := 78) (np := 26) rfl (by unfold R32; omega) (by unfold R32; omega) (fun e1 => ?_) (fun e1 => ?_)
    · refine h_intv k_n1 rfl ?_
      refine h_iret rfl ?_
      exact ⟨_, _, rfl, o0, by omega⟩
    · refine h_aload rfl l0 rfl ?_
      refine h_iload rfl l0 rfl ?_
      refine h_intv k_0 rfl ?_
      refine h_iload rfl l0 rfl ?_
      refine h_intv k_0 rfl ?_
      obtain ⟨wA, bA, hf2, oA', hbA⟩ := s_canCut (kn := kn) o0.1 l 0 n 0 hl (by omega) (by omega) (by omega)
      have oA : hO dH_cuts w0 wA := hO_tr o0 (hO_mono dH_cuts1 oA')
      refine h_V5 rfl o0 l0 ci_213 rfl rfl hf2 ?_
      refine j_ne (kn := kn) (t := 1) (tgt := 40) (np := 37) rfl (by unfold R32; omega) (fun e3 => ?_) (fun e3 => ?_)
      · refine h_aload rfl l0 rfl ?_
        refine h_iload rfl l0 rfl ?_
        refine h_putI rfl oA fi_39 rfl (by omega) (by omega) (fun w4 o4 q5a q5b q5c => ?_)
        refine h_intv k_0 rfl ?_
        refine h_istore rfl l0 (fun vl6 l6 => ?_)
        exact ct_j l n (by omega) 3 0 _ _ 0 rfl rfl o4 l6
      · refine h_goto rfl ?_
        refine h_iincv k_1 rfl l0 rfl (fun vl7 l7 => ?_)
        refine h_goto rfl ?_
        exact ih (n + 1) wA _ ((n : Int) + 1) (by omega) (by omega) oA l7
theorem s_cut {kn : sKn} {w0 : sW} (hw : wOk ZZ w0) (l : Int) (hl : R32 l) : ∃ (w' : sW) (v : Int), fX12_cut kn [.ref 213, hI l] w0 = some (some (hI v), w', 0, 0) ∧ hO dH_cuts w0 w' ∧ (-1 ≤ v ∧ v ≤ 3) := by
  have K : Tp (tX12_cut kn) (fun r => ∃ (w' : sW) (v : Int), r = (some (hI v), w', 0, 0) ∧ hO dH_cuts w0 w' ∧ (-1 ≤ v ∧ v ≤ 3)) 0 (lv_args 0 [.ref 213, hI l], [], w0, 0, 0) := by
    have l0 : hL (lv_args 0 [.ref 213, hI l]) (lv_args 0 [.ref 213, hI l]) := hL_ex rfl
    have o0 : hO dH_cuts w0 w0 := hO_rf hw
    refine h_aload rfl l0 rfl ?_
    refine h_intv k_0 rfl ?_
    refine h_putI rfl o0 fi_0 rfl (by omega) (by omega) (fun w1 o1 q2a q2b q2c => ?_)
    refine h_aload rfl l0 rfl ?_
    refine h_iload rfl l0 rfl ?_
    obtain ⟨z3, hf3, hz3, hq3⟩ := s_isLoad (kn := kn) o1.1 l hl
    refine h_V2 rfl o1 l0 ci_213 rfl rfl hf3 ?_
    refine j_ne (kn := kn) (t := 1) (tgt := 15) (np := 13) rfl (by unfold R32; omega) (fun e4 => ?_) (fun e4 => ?_)
    · refine h_aload rfl l0 rfl ?_
      have hl5 := hq3 (by omega)
      obtain ⟨ln, rfl⟩ : ∃ ln : Nat, l = (ln : Int) := ⟨l.toNat, by omega⟩
      obtain ⟨wA, hf5, oA', _⟩ := s_layWhose2 (kn := kn) o1.1
      have oA : hO dH_cuts w0 wA := hO_tr o1 (hO_mono dH_cuts2 oA')
      refine h_W1 rfl o1 l0 ci_213 rfl rfl hf5 ?_
      refine h_intv k_0 rfl ?_
      refine h_istore rfl l0 (fun vl6 l6 => ?_)
      exact ct_n ln (by omega) 4 0 _ _ 0 rfl rfl oA l6
    · refine h_intv k_n1 rfl ?_
      refine h_iret rfl ?_
      exact ⟨_, _, rfl, o1, by omega⟩
  obtain ⟨r, h1, w2, b, h2, h3⟩ := h_meth1 (nL := 4) rfl K
  rw [h2] at h1
  exact ⟨w2, b, h1, h3⟩
def dX12_cut : List (Nat × Nat) := dH_cuts
def xX12_cut : List eX := [([(2, 0, 213), (0, 1, 0)], [], [(1, fullI)], 2, [([], [(0, 2, 0)], [], [(2, .inl ((-1), 3))], 3)])]
theorem con_X12_cut (kn : sKn) : Cons ZZ dX12_cut (fX12_cut kn) xX12_cut := Cons_c (con_i1 (by omega) (fun w x hw _ _ hx => s_cut (kn := kn) hw x hx)) Cons_n
end
