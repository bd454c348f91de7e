noncomputable section
theorem rn_i {kn : sKn} {w0 : sW} (N A : Nat) (hN : N ≤ 940) (hA : A ≤ N)  : ∀ (m i : Nat) (w : sW) (lv : List (Nat × Value)) (x : Int), i + m = N → x = (i : Int) → hO dH_tok w0 w → gF w 1 3 = (N : Int) ∧ gF w 1 5 = (A : Int) → hL lv [(0, .ref 1), (1, hI x)] → Tp (tX9_readNumber kn) (fun r => ∃ w', r = (none, w', 0, 0) ∧ hO dH_tok w0 w') 10 (lv, [], w, 0, 0) := by
  intro m
  induction m with
  | zero =>
    intro i w lv x hpm hxp o0 hna l0
    subst hxp
    obtain ⟨hn3, hn5⟩ := hna
    refine h_iload rfl l0 rfl ?_
    refine h_aload rfl l0 rfl ?_
    refine h_getI rfl o0 fi_1_3 (fun b1a b1b => ?_)
    rw [hn3] at b1a b1b ⊢
    refine i_ge (kn := kn) (t := 3) (tgt := 45) (np := 18) rfl (by unfold R32; omega) (by unfold R32; omega) (fun e2 => ?_) (fun e2 => ?_)
    · refine h_aload rfl l0 rfl ?_
      refine h_intv k_3 rfl ?_
      refine h_putI rfl o0 fi_1_4 rfl (by omega) (by omega) (fun w3 o3 q4a q4b q4c => ?_)
      refine h_vret rfl ?_
      exact ⟨_, rfl, o3⟩
    · omega
  | succ m ih =>
    intro i w lv x hpm hxp o0 hna l0
    subst hxp
    obtain ⟨hn3, hn5⟩ := hna
    refine h_iload rfl l0 rfl ?_
    refine h_aload rfl l0 rfl ?_
    refine h_getI rfl o0 fi_1_3 (fun b1a b1b => ?_)
    rw [hn3] at b1a b1b ⊢
    refine i_ge (kn := kn) (t := 3) (tgt := 45) (np := 18) rfl (by unfold R32; omega) (by unfold R32; omega) (fun e2 => ?_) (fun e2 => ?_)
    · omega
    · refine h_aload rfl l0 rfl ?_
      refine h_intv k_10 rfl ?_
      refine h_aload rfl l0 rfl ?_
      refine h_getI rfl o0 fi_1_6 (fun b3a b3b => ?_)
      refine h_imul rfl ?_
      refine h_aload rfl l0 rfl ?_
      refine h_getR rfl o0 fr_1_0 ?_
      refine h_iload rfl l0 rfl ?_
      refine h_ialdj (i) rfl o0 ai_2 rfl (by omega) (by omega) (fun b4a b4b => ?_)
      refine h_iadd rfl ?_
      refine h_intv k_48 rfl ?_
      refine h_isub rfl ?_
      rw [hI_wr (10 * gF w 1 6 + gX w 2 i - 48)]
      refine h_putI rfl o0 fi_1_6 rfl (wr_R _).1 (wr_R _).2 (fun w5 o5 q6a q6b q6c => ?_)
      refine h_iincv k_1 rfl l0 rfl (fun vl7 l7 => ?_)
      refine h_goto rfl ?_
      exact ih (i + 1) w5 _ ((i : Int) + 1) (by omega) (by omega) o5 ⟨by rw [q6b 1 3 (by omega)]; exact hn3, by rw [q6b 1 5 (by omega)]; exact hn5⟩ l7
theorem s_readNumber {kn : sKn} {w0 : sW} (hw : wOk ZZ w0) (N A : Nat) (hn3 : gF w0 1 3 = (N : Int)) (hn5 : gF w0 1 5 = (A : Int)) (hN : N ≤ 940) (hA : A ≤ N) : ∃ w', fX9_readNumber kn [.ref 1] w0 = some (none, w', 0, 0) ∧ hO dH_tok w0 w' := by
  have K : Tp (tX9_readNumber kn) (fun r => ∃ w', r = (none, w', 0, 0) ∧ hO dH_tok w0 w') 0 (lv_args 0 [.ref 1], [], w0, 0, 0) := by
    have l0 : hL (lv_args 0 [.ref 1]) (lv_args 0 [.ref 1]) := hL_ex rfl
    have o0 : hO dH_tok w0 w0 := hO_rf hw
    refine h_aload rfl l0 rfl ?_
    refine h_intv k_0 rfl ?_
    refine h_putI rfl o0 fi_1_6 rfl (by omega) (by omega) (fun w1 o1 q2a q2b q2c => ?_)
    refine h_aload rfl l0 rfl ?_
    refine h_getI rfl o1 fi_1_5 (fun b3a b3b => ?_)
    rw [q2b 1 5 (by omega), hn5] at b3a b3b ⊢
    refine h_istore rfl l0 (fun vl4 l4 => ?_)
    exact rn_i N A hN hA (N - A) A _ _ _ (by omega) rfl o1 ⟨by rw [q2b 1 3 (by omega)]; exact hn3, by rw [q2b 1 5 (by omega)]; exact hn5⟩ l4
  obtain ⟨r, h1, w2, h2, h3⟩ := h_meth1 (nL := 2) rfl K
  rw [h2] at h1
  exact ⟨w2, h1, h3⟩
theorem ad_b {kn : sKn} {Po : sR → Prop} {w0 : sW} (e : Int) (he : 0 ≤ e ∧ e ≤ 940) (hx : ∀ (n : Nat) (w : sW) (lv : List (Nat × Value)), n ≤ 940 → hO dH_tok w0 w → gF w 1 3 = (n : Int) → hL lv [(0, .ref 1), (1, hI e)] → Tp (tX9_advance kn) Po 61 (lv, [], w, 0, 0)) : ∀ (m n : Nat) (w : sW) (lv : List (Nat × Value)), n + m = 940 → hO dH_tok w0 w → gF w 1 3 = (n : Int) → hL lv [(0, .ref 1), (1, hI e)] → Tp (tX9_advance kn) Po 12 (lv, [], w, 0, 0) := by
  intro m
  induction m with
  | zero =>
    intro n w lv hnm o0 hn3 l0
    refine h_aload rfl l0 rfl ?_
    refine h_getI rfl o0 fi_1_3 (fun b1a b1b => ?_)
    rw [hn3] at b1a b1b ⊢
    refine h_iload rfl l0 rfl ?_
    refine i_ge (kn := kn) (t := 3) (tgt := 61) (np := 20) rfl (by unfold R32; omega) (by unfold R32; omega) (fun e2 => ?_) (fun e2 => ?_)
    · exact hx n w _ (by omega) o0 hn3 l0
    · omega
  | succ m ih =>
    intro n w lv hnm o0 hn3 l0
    refine h_aload rfl l0 rfl ?_
    refine h_getI rfl o0 fi_1_3 (fun b1a b1b => ?_)
    rw [hn3] at b1a b1b ⊢
    refine h_iload rfl l0 rfl ?_
    refine i_ge (kn := kn) (t := 3) (tgt := 61) (np := 20) rfl (by unfold R32; omega) (by unfold R32; omega) (fun e2 => ?_) (fun e2 => ?_)
    · exact hx n w _ (by omega) o0 hn3 l0
    · refine h_aload rfl l0 rfl ?_
      refine h_getR rfl o0 fr_1_0 ?_
      refine h_aload rfl l0 rfl ?_
      refine h_getI rfl o0 fi_1_3 (fun b3a b3b => ?_)
      rw [hn3] at b3a b3b ⊢
      refine h_ialdj (n) rfl o0 ai_2 rfl (by omega) (by omega) (fun b4a b4b => ?_)
      refine h_intv k_32 rfl ?_
      refine i_eq (kn := kn) (t := 0) (tgt := 48) (np := 34) rfl (by unfold R32; omega) (by unfold R32; omega) (fun e5 => ?_) (fun e5 => ?_)
      · refine h_aload rfl l0 rfl ?_
        refine h_dup rfl rfl ?_
        refine h_getI rfl o0 fi_1_3 (fun b6a b6b => ?_)
        rw [hn3] at b6a b6b ⊢
        refine h_intv k_1 rfl ?_
        refine h_iadd rfl ?_
        refine h_putI rfl o0 fi_1_3 rfl (by omega) (by omega) (fun w7 o7 q8a q8b q8c => ?_)
        refine h_goto rfl ?_
        exact ih (n + 1) w7 _ (by omega) o7 (by rw [q8a]; omega) l0
      · refine h_aload rfl l0 rfl ?_
        refine h_getR rfl o0 fr_1_0 ?_
        refine h_aload rfl l0 rfl ?_
        refine h_getI rfl o0 fi_1_3 (fun b9a b9b => ?_)
        rw [hn3] at b9a b9b ⊢
        refine h_ialdj (n) rfl o0 ai_2 rfl (by omega) (by omega) (fun b10a b10b => ?_)
        refine h_intv k_10 rfl ?_
        refine i_ne (kn := kn) (t := 1) (tgt := 61) (np := 48) rfl (by unfold R32; omega) (by unfold R32; omega) (fun e11 => ?_) (fun e11 => ?_)
        · exact hx n w _ (by omega) o0 hn3 l0
        · refine h_aload rfl l0 rfl ?_
          refine h_dup rfl rfl ?_
          refine h_getI rfl o0 fi_1_3 (fun b12a b12b => ?_)
          rw [hn3] at b12a b12b ⊢
          refine h_intv k_1 rfl ?_
          refine h_iadd rfl ?_
          refine h_putI rfl o0 fi_1_3 rfl (by omega) (by omega) (fun w13 o13 q14a q14b q14c => ?_)
          refine h_goto rfl ?_
          exact ih (n + 1) w13 _ (by omega) o13 (by rw [q14a]; omega) l0
theorem ad_z {kn : sKn} {w0 w : sW} (e lt : Int) (n A : Nat) (lv : List (Nat × Value)) (hn : n ≤ 940) (o0 : hO dH_tok w0 w) (hn3 : gF w 1 3 = (n : Int)) (hn5 : gF w 1 5 = (A : Int)) (hA : A ≤ n) (h0 : 0 ≤ lt) (h1 : lt ≤ (n : Int) + 1) (l0 : hL lv [(0, .ref 1), (1, hI e), (2, hI lt)]) : Tp (tX9_advance kn) (fun r => ∃ w', r = (none, w', 0, 0) ∧ hO dH_tok w0 w') 243 (lv, [], w, 0, 0) := by
  refine h_aload rfl l0 rfl ?_
  refine h_getI rfl o0 fi_1_3 (fun b1a b1b => ?_)
  rw [hn3] at b1a b1b ⊢
  refine h_aload rfl l0 rfl ?_
  refine h_getI rfl o0 fi_1_5 (fun b2a b2b => ?_)
  rw [hn5] at b2a b2b ⊢
  refine h_isub rfl ?_
  refine h_istore rfl l0 (fun vl3 l3 => ?_)
  refine h_iload rfl l3 rfl ?_
  refine h_iload rfl l3 rfl ?_
  refine i_ne (kn := kn) (t := 1) (tgt := 271) (np := 258) rfl (by unfold R32; omega) (by unfold R32; omega) (fun e4 => ?_) (fun e4 => ?_)
  · refine h_iload rfl l3 rfl ?_
    refine j_ne (kn := kn) (t := 1) (tgt := 287) (np := 275) rfl (by unfold R32; omega) (fun e5 => ?_) (fun e5 => ?_)
    · refine h_aload rfl l3 rfl ?_
      refine h_intv k_1 rfl ?_
      refine h_putI rfl o0 fi_1_4 rfl (by omega) (by omega) (fun w6 o6 q7a q7b q7c => ?_)
      refine h_vret rfl ?_
      exact ⟨_, rfl, o6⟩
    · refine h_iload rfl l3 rfl ?_
      refine h_intv k_3 rfl ?_
      refine i_gt (kn := kn) (t := 4) (tgt := 287) (np := 280) rfl (by unfold R32; omega) (by unfold R32; omega) (fun e8 => ?_) (fun e8 => ?_)
      · refine h_aload rfl l3 rfl ?_
        refine h_intv k_1 rfl ?_
        refine h_putI rfl o0 fi_1_4 rfl (by omega) (by omega) (fun w9 o9 q10a q10b q10c => ?_)
        refine h_vret rfl ?_
        exact ⟨_, rfl, o9⟩
      · refine h_aload rfl l3 rfl ?_
        obtain ⟨wA, hf11, oA'⟩ := s_readNumber (kn := kn) o0.1 n A hn3 hn5 (by omega) (by omega)
        have oA : hO dH_tok w0 wA := hO_tr o0 oA'
        refine h_W1 rfl o0 l3 ci_1 rfl rfl hf11 ?_
        refine h_goto rfl ?_
        refine h_vret rfl ?_
        exact ⟨_, rfl, oA⟩
  · refine h_iload rfl l3 rfl ?_
    refine h_intv k_7 rfl ?_
    refine i_gt (kn := kn) (t := 4) (tgt := 271) (np := 264) rfl (by unfold R32; omega) (by unfold R32; omega) (fun e12 => ?_) (fun e12 => ?_)
    · refine h_iload rfl l3 rfl ?_
      refine j_ne (kn := kn) (t := 1) (tgt := 287) (np := 275) rfl (by unfold R32; omega) (fun e13 => ?_) (fun e13 => ?_)
      · refine h_aload rfl l3 rfl ?_
        refine h_intv k_1 rfl ?_
        refine h_putI rfl o0 fi_1_4 rfl (by omega) (by omega) (fun w14 o14 q15a q15b q15c => ?_)
        refine h_vret rfl ?_
        exact ⟨_, rfl, o14⟩
      · refine h_iload rfl l3 rfl ?_
        refine h_intv k_3 rfl ?_
        refine i_gt (kn := kn) (t := 4) (tgt := 287) (np := 280) rfl (by unfold R32; omega) (by unfold R32; omega) (fun e16 => ?_) (fun e16 => ?_)
        · refine h_aload rfl l3 rfl ?_
          refine h_intv k_1 rfl ?_
          refine h_putI rfl o0 fi_1_4 rfl (by omega) (by omega) (fun w17 o17 q18a q18b q18c => ?_)
          refine h_vret rfl ?_
          exact ⟨_, rfl, o17⟩
        · refine h_aload rfl l3 rfl ?_
          obtain ⟨wA, hf19, oA'⟩ := s_readNumber (kn := kn) o0.1 n A hn3 hn5 (by omega) (by omega)
          have oA : hO dH_tok w0 wA := hO_tr o0 oA'
          refine h_W1 rfl o0 l3 ci_1 rfl rfl hf19 ?_
          refine h_goto rfl ?_
          refine h_vret rfl ?_
          exact ⟨_, rfl, oA⟩
    · refine h_aload rfl l3 rfl ?_
      obtain ⟨wA, hf20, oA'⟩ := s_readWord (kn := kn) o0.1 n A hn3 hn5 (by omega) (by omega) (by omega)
      have oA : hO dH_tok w0 wA := hO_tr o0 oA'
      refine h_W1 rfl o0 l3 ci_1 rfl rfl hf20 ?_
      refine h_goto rfl ?_
      refine h_vret rfl ?_
      exact ⟨_, rfl, oA⟩
theorem ad_l {kn : sKn} {w0 : sW} (e : Int) (A : Nat) : ∀ (m n : Nat) (w : sW) (lv : List (Nat × Value)) (lt : Int), n + m = 940 → hO dH_tok w0 w → gF w 1 3 = (n : Int) → gF w 1 5 = (A : Int) → A ≤ n → 0 ≤ lt → lt ≤ (n : Int) + 1 → hL lv [(0, .ref 1), (1, hI e), (2, hI lt)] → Tp (tX9_advance kn) (fun r => ∃ w', r = (none, w', 0, 0) ∧ hO dH_tok w0 w') 166 (lv, [], w, 0, 0) := by
  intro m
  induction m with
  | zero =>
    intro n w lv lt hnm o0 hn3 hn5 hA h0 h1 l0
    refine h_aload rfl l0 rfl ?_
    refine h_getI rfl o0 fi_1_3 (fun b1a b1b => ?_)
    rw [hn3] at b1a b1b ⊢
    refine h_aload rfl l0 rfl ?_
    refine h_getI rfl o0 fi_1_1 (fun b2a b2b => ?_)
    refine i_ge (kn := kn) (t := 3) (tgt := 243) (np := 177) rfl (by unfold R32; omega) (by unfold R32; omega) (fun e3 => ?_) (fun e3 => ?_)
    · exact ad_z e lt n A _ (by omega) o0 hn3 hn5 hA h0 h1 l0
    · omega
  | succ m ih =>
    intro n w lv lt hnm o0 hn3 hn5 hA h0 h1 l0
    refine h_aload rfl l0 rfl ?_
    refine h_getI rfl o0 fi_1_3 (fun b1a b1b => ?_)
    rw [hn3] at b1a b1b ⊢
    refine h_aload rfl l0 rfl ?_
    refine h_getI rfl o0 fi_1_1 (fun b2a b2b => ?_)
    refine i_ge (kn := kn) (t := 3) (tgt := 243) (np := 177) rfl (by unfold R32; omega) (by unfold R32; omega) (fun e3 => ?_) (fun e3 => ?_)
    · exact ad_z e lt n A _ (by omega) o0 hn3 hn5 hA h0 h1 l0
    · refine h_aload rfl l0 rfl ?_
      refine h_getR rfl o0 fr_1_0 ?_
      refine h_aload rfl l0 rfl ?_
      refine h_getI rfl o0 fi_1_3 (fun b4a b4b => ?_)
      rw [hn3] at b4a b4b ⊢
      refine h_ialdj (n) rfl o0 ai_2 rfl (by omega) (by omega) (fun b5a b5b => ?_)
      obtain ⟨z6, hf6, hz6⟩ := s_isLet (kn := kn) o0.1 (gX w 2 (n)) ⟨by omega, by omega⟩
      refine h_S1 rfl o0 l0 rfl rfl hf6 ?_
      refine j_ne (kn := kn) (t := 1) (tgt := 207) (np := 192) rfl (by unfold R32; omega) (fun e7 => ?_) (fun e7 => ?_)
      · refine h_iload rfl l0 rfl ?_
        refine h_aload rfl l0 rfl ?_
        refine h_getR rfl o0 fr_1_0 ?_
        refine h_aload rfl l0 rfl ?_
        refine h_getI rfl o0 fi_1_3 (fun b8a b8b => ?_)
        rw [hn3] at b8a b8b ⊢
        refine h_ialdj (n) rfl o0 ai_2 rfl (by omega) (by omega) (fun b9a b9b => ?_)
        obtain ⟨z10, hf10, hz10⟩ := s_isLet (kn := kn) o0.1 (gX w 2 (n)) ⟨by omega, by omega⟩
        refine h_S1 rfl o0 l0 rfl rfl hf10 ?_
        refine j_eq (kn := kn) (t := 0) (tgt := 227) (np := 223) rfl (by unfold R32; omega) (fun e11 => ?_) (fun e11 => ?_)
        · refine h_intv k_0 rfl ?_
          refine h_iadd rfl ?_
          refine h_istore rfl l0 (fun vl12 l12 => ?_)
          refine h_aload rfl l12 rfl ?_
          refine h_dup rfl rfl ?_
          refine h_getI rfl o0 fi_1_3 (fun b13a b13b => ?_)
          rw [hn3] at b13a b13b ⊢
          refine h_intv k_1 rfl ?_
          refine h_iadd rfl ?_
          refine h_putI rfl o0 fi_1_3 rfl (by omega) (by omega) (fun w14 o14 q15a q15b q15c => ?_)
          refine h_goto rfl ?_
          exact ih (n + 1) w14 _ _ (by omega) o14 (by rw [q15a]; omega) (by rw [q15b 1 5 (by omega)]; exact hn5) (by omega) (by omega) (by omega) l12
        · refine h_intv k_1 rfl ?_
          refine h_goto rfl ?_
          refine h_iadd rfl ?_
          refine h_istore rfl l0 (fun vl16 l16 => ?_)
          refine h_aload rfl l16 rfl ?_
          refine h_dup rfl rfl ?_
          refine h_getI rfl o0 fi_1_3 (fun b17a b17b => ?_)
          rw [hn3] at b17a b17b ⊢
          refine h_intv k_1 rfl ?_
          refine h_iadd rfl ?_
          refine h_putI rfl o0 fi_1_3 rfl (by omega) (by omega) (fun w18 o18 q19a q19b q19c => ?_)
          refine h_goto rfl ?_
          exact ih (n + 1) w18 _ _ (by omega) o18 (by rw [q19a]; omega) (by rw [q19b 1 5 (by omega)]; exact hn5) (by omega) (by omega) (by omega) l16
      · refine h_aload rfl l0 rfl ?_
        refine h_getR rfl o0 fr_1_0 ?_
        refine h_aload rfl l0 rfl ?_
        refine h_getI rfl o0 fi_1_3 (fun b20a b20b => ?_)
        rw [hn3] at b20a b20b ⊢
        refine h_ialdj (n) rfl o0 ai_2 rfl (by omega) (by omega) (fun b21a b21b => ?_)
        obtain ⟨z22, hf22, hz22⟩ := s_isDig (kn := kn) o0.1 (gX w 2 (n)) ⟨by omega, by omega⟩
        refine h_S1 rfl o0 l0 rfl rfl hf22 ?_
        refine j_eq (kn := kn) (t := 0) (tgt := 243) (np := 207) rfl (by unfold R32; omega) (fun e23 => ?_) (fun e23 => ?_)
        · exact ad_z e lt n A _ (by omega) o0 hn3 hn5 hA h0 h1 l0
        · refine h_iload rfl l0 rfl ?_
          refine h_aload rfl l0 rfl ?_
          refine h_getR rfl o0 fr_1_0 ?_
          refine h_aload rfl l0 rfl ?_
          refine h_getI rfl o0 fi_1_3 (fun b24a b24b => ?_)
          rw [hn3] at b24a b24b ⊢
          refine h_ialdj (n) rfl o0 ai_2 rfl (by omega) (by omega) (fun b25a b25b => ?_)
          obtain ⟨z26, hf26, hz26⟩ := s_isLet (kn := kn) o0.1 (gX w 2 (n)) ⟨by omega, by omega⟩
          refine h_S1 rfl o0 l0 rfl rfl hf26 ?_
          refine j_eq (kn := kn) (t := 0) (tgt := 227) (np := 223) rfl (by unfold R32; omega) (fun e27 => ?_) (fun e27 => ?_)
          · refine h_intv k_0 rfl ?_
            refine h_iadd rfl ?_
            refine h_istore rfl l0 (fun vl28 l28 => ?_)
            refine h_aload rfl l28 rfl ?_
            refine h_dup rfl rfl ?_
            refine h_getI rfl o0 fi_1_3 (fun b29a b29b => ?_)
            rw [hn3] at b29a b29b ⊢
            refine h_intv k_1 rfl ?_
            refine h_iadd rfl ?_
            refine h_putI rfl o0 fi_1_3 rfl (by omega) (by omega) (fun w30 o30 q31a q31b q31c => ?_)
            refine h_goto rfl ?_
            exact ih (n + 1) w30 _ _ (by omega) o30 (by rw [q31a]; omega) (by rw [q31b 1 5 (by omega)]; exact hn5) (by omega) (by omega) (by omega) l28
          · refine h_intv k_1 rfl ?_
            refine h_goto rfl ?_
            refine h_iadd rfl ?_
            refine h_istore rfl l0 (fun vl32 l32 => ?_)
            refine h_aload rfl l32 rfl ?_
            refine h_dup rfl rfl ?_
            refine h_getI rfl o0 fi_1_3 (fun b33a b33b => ?_)
            rw [hn3] at b33a b33b ⊢
            refine h_intv k_1 rfl ?_
            refine h_iadd rfl ?_
            refine h_putI rfl o0 fi_1_3 rfl (by omega) (by omega) (fun w34 o34 q35a q35b q35c => ?_)
            refine h_goto rfl ?_
            exact ih (n + 1) w34 _ _ (by omega) o34 (by rw [q35a]; omega) (by rw [q35b 1 5 (by omega)]; exact hn5) (by omega) (by omega) (by omega) l32
theorem ad_c {kn : sKn} {w0 w : sW} (e : Int) (he : 0 ≤ e ∧ e ≤ 940) (n : Nat) (lv : List (Nat × Value)) (hn : n ≤ 940) (o0 : hO dH_tok w0 w) (hn3 : gF w 1 3 = (n : Int)) (l0 : hL lv [(0, .ref 1), (1, hI e)]) : Tp (tX9_advance kn) (fun r => ∃ w', r = (none, w', 0, 0) ∧ hO dH_tok w0 w') 61 (lv, [], w, 0, 0) := by
  refine h_aload rfl l0 rfl ?_
  refine h_aload rfl l0 rfl ?_
  refine h_getI rfl o0 fi_1_3 (fun b1a b1b => ?_)
  rw [hn3] at b1a b1b ⊢
  refine h_iload rfl l0 rfl ?_
  refine h_mmin rfl rfl (by unfold R32; omega) (by unfold R32; omega) (fun m2 hm2 => ?_)
  refine h_putI rfl o0 fi_1_5 rfl (by omega) (by omega) (fun w3 o3 q4a q4b q4c => ?_)
  refine h_aload rfl l0 rfl ?_
  refine h_getI rfl o3 fi_1_3 (fun b5a b5b => ?_)
  rw [q4b 1 3 (by omega), hn3] at b5a b5b ⊢
  refine h_iload rfl l0 rfl ?_
  refine i_lt (kn := kn) (t := 2) (tgt := 87) (np := 81) rfl (by unfold R32; omega) (by unfold R32; omega) (fun e6 => ?_) (fun e6 => ?_)
  · refine h_aload rfl l0 rfl ?_
    refine h_aload rfl l0 rfl ?_
    refine h_getR rfl o3 fr_1_0 ?_
    refine h_aload rfl l0 rfl ?_
    refine h_getI rfl o3 fi_1_3 (fun b7a b7b => ?_)
    rw [q4b 1 3 (by omega), hn3] at b7a b7b ⊢
    refine h_ialdj (n) rfl o3 ai_2 rfl (by omega) (by omega) (fun b8a b8b => ?_)
    refine h_putI rfl o3 fi_1_6 rfl (by omega) (by omega) (fun w9 o9 q10a q10b q10c => ?_)
    refine h_aload rfl l0 rfl ?_
    refine h_dup rfl rfl ?_
    refine h_getI rfl o9 fi_1_3 (fun b11a b11b => ?_)
    rw [q10b 1 3 (by omega), q4b 1 3 (by omega), hn3] at b11a b11b ⊢
    refine h_intv k_1 rfl ?_
    refine h_iadd rfl ?_
    refine h_putI rfl o9 fi_1_3 rfl (by omega) (by omega) (fun w12 o12 q13a q13b q13c => ?_)
    refine h_aload rfl l0 rfl ?_
    refine h_getI rfl o12 fi_1_6 (fun b14a b14b => ?_)
    obtain ⟨z15, hf15, hz15⟩ := s_isLet (kn := kn) o12.1 (gF w12 1 6) ⟨by omega, by omega⟩
    refine h_S1 rfl o12 l0 rfl rfl hf15 ?_
    refine j_ne (kn := kn) (t := 1) (tgt := 150) (np := 120) rfl (by unfold R32; omega) (fun e16 => ?_) (fun e16 => ?_)
    · refine h_aload rfl l0 rfl ?_
      refine h_getI rfl o12 fi_1_6 (fun b17a b17b => ?_)
      obtain ⟨z18, hf18, hz18⟩ := s_isLet (kn := kn) o12.1 (gF w12 1 6) ⟨by omega, by omega⟩
      refine h_S1 rfl o12 l0 rfl rfl hf18 ?_
      refine j_eq (kn := kn) (t := 0) (tgt := 164) (np := 160) rfl (by unfold R32; omega) (fun e19 => ?_) (fun e19 => ?_)
      · refine h_intv k_0 rfl ?_
        refine h_istore rfl l0 (fun vl20 l20 => ?_)
        exact ad_l e n (940 - (n + 1)) (n + 1) w12 _ _ (by omega) o12 (by rw [q13a]; omega) (by rw [q13b 1 5 (by omega), q10b 1 5 (by omega), q4a]; omega) (by omega) (by omega) (by omega) l20
      · refine h_intv k_1 rfl ?_
        refine h_goto rfl ?_
        refine h_istore rfl l0 (fun vl21 l21 => ?_)
        exact ad_l e n (940 - (n + 1)) (n + 1) w12 _ _ (by omega) o12 (by rw [q13a]; omega) (by rw [q13b 1 5 (by omega), q10b 1 5 (by omega), q4a]; omega) (by omega) (by omega) (by omega) l21
    · refine h_aload rfl l0 rfl ?_
      refine h_getI rfl o12 fi_1_6 (fun b22a b22b => ?_)
      obtain ⟨z23, hf23, hz23⟩ := s_isDig (kn := kn) o12.1 (gF w12 1 6) ⟨by omega, by omega⟩
      refine h_S1 rfl o12 l0 rfl rfl hf23 ?_
      refine j_ne (kn := kn) (t := 1) (tgt := 150) (np := 130) rfl (by unfold R32; omega) (fun e24 => ?_) (fun e24 => ?_)
      · refine h_aload rfl l0 rfl ?_
        refine h_getI rfl o12 fi_1_6 (fun b25a b25b => ?_)
        obtain ⟨z26, hf26, hz26⟩ := s_isLet (kn := kn) o12.1 (gF w12 1 6) ⟨by omega, by omega⟩
        refine h_S1 rfl o12 l0 rfl rfl hf26 ?_
        refine j_eq (kn := kn) (t := 0) (tgt := 164) (np := 160) rfl (by unfold R32; omega) (fun e27 => ?_) (fun e27 => ?_)
        · refine h_intv k_0 rfl ?_
          refine h_istore rfl l0 (fun vl28 l28 => ?_)
          exact ad_l e n (940 - (n + 1)) (n + 1) w12 _ _ (by omega) o12 (by rw [q13a]; omega) (by rw [q13b 1 5 (by omega), q10b 1 5 (by omega), q4a]; omega) (by omega) (by omega) (by omega) l28
        · refine h_intv k_1 rfl ?_
          refine h_goto rfl ?_
          refine h_istore rfl l0 (fun vl29 l29 => ?_)
          exact ad_l e n (940 - (n + 1)) (n + 1) w12 _ _ (by omega) o12 (by rw [q13a]; omega) (by rw [q13b 1 5 (by omega), q10b 1 5 (by omega), q4a]; omega) (by omega) (by omega) (by omega) l29
      · refine h_aload rfl l0 rfl ?_
        refine h_aload rfl l0 rfl ?_
        refine h_getI rfl o12 fi_1_6 (fun b30a b30b => ?_)
        obtain ⟨z31, hf31, hz31⟩ := s_isSgn (kn := kn) o12.1 (gF w12 1 6) ⟨by omega, by omega⟩
        refine h_S1 rfl o12 l0 rfl rfl hf31 ?_
        refine j_eq (kn := kn) (t := 0) (tgt := 145) (np := 141) rfl (by unfold R32; omega) (fun e32 => ?_) (fun e32 => ?_)
        · refine h_intv k_1 rfl ?_
          refine h_putI rfl o12 fi_1_4 rfl (by omega) (by omega) (fun w33 o33 q34a q34b q34c => ?_)
          refine h_vret rfl ?_
          exact ⟨_, rfl, o33⟩
        · refine h_intv k_2 rfl ?_
          refine h_goto rfl ?_
          refine h_putI rfl o12 fi_1_4 rfl (by omega) (by omega) (fun w35 o35 q36a q36b q36c => ?_)
          refine h_vret rfl ?_
          exact ⟨_, rfl, o35⟩
  · refine h_aload rfl l0 rfl ?_
    refine h_intv k_0 rfl ?_
    refine h_putI rfl o3 fi_1_4 rfl (by omega) (by omega) (fun w37 o37 q38a q38b q38c => ?_)
    refine h_vret rfl ?_
    exact ⟨_, rfl, o37⟩
theorem s_advance {kn : sKn} {w0 : sW} (hw : wOk ZZ w0) : ∃ w', fX9_advance kn [.ref 1] w0 = some (none, w', 0, 0) ∧ hO dH_tok w0 w' := by
  have K : Tp (tX9_advance kn) (fun r => ∃ w', r = (none, w', 0, 0) ∧ hO dH_tok w0 w') 0 (lv_args 0 [.ref 1], [], w0, 0, 0) := by
    have l0 : hL (lv_args 0 [.ref 1]) (lv_args 0 [.ref 1]) := hL_ex rfl
    have o0 : hO dH_tok w0 w0 := hO_rf hw
    refine h_aload rfl l0 rfl ?_
    refine h_getI rfl o0 fi_1_1 (fun b1a b1b => ?_)
    refine h_aload rfl l0 rfl ?_
    refine h_getI rfl o0 fi_1_2 (fun b2a b2b => ?_)
    refine h_mmin rfl rfl (by unfold R32; omega) (by unfold R32; omega) (fun m3 hm3 => ?_)
    refine h_istore rfl l0 (fun vl4 l4 => ?_)
    obtain ⟨n0, hn0, hn1⟩ : ∃ n : Nat, gF w0 1 3 = (n : Int) ∧ n ≤ 940 := by
      obtain ⟨_, _, _, _, _, _, _, g1, g2⟩ := fI_ok o0 fi_1_3
      exact ⟨(gF w0 1 3).toNat, by omega, by omega⟩
    exact ad_b m3 (by omega) (fun n w lv h1 h2 h3 h4 => ad_c m3 (by omega) n lv h1 h2 h3 h4) (940 - n0) n0 w0 _ (by omega) o0 hn0 l4
  obtain ⟨r, h1, w2, h2, h3⟩ := h_meth1 (nL := 4) rfl K
  rw [h2] at h1
  exact ⟨w2, h1, h3⟩
def dX9_advance : List (Nat × Nat) := dH_tok
def xX9_advance : List eX := [([(2, 0, 1)], [], [], 1, [([], [], [], [], 1)])]
theorem con_X9_advance (kn : sKn) : Cons ZZ dX9_advance (fX9_advance kn) xX9_advance := Cons_c (by
  intro σ0 av w hN h0 hS hM hE hw hwf
  have hS : gS σ0 [(2, 0, 1)] av := hS
  obtain ⟨v1, st1, rfl, ⟨z1, e1, e2⟩, hS1⟩ := gS_1 hS
  rw [gS_0 hS1] at hwf ⊢
  rw [h0] at e1
  cases e1
  obtain ⟨k, rfl, hk⟩ := e2
  have hk : (k : Int) = 0 + 1 := hk
  have hk2 : k = 1 := by omega
  subst hk2
  obtain ⟨w', f1, f2⟩ := s_advance (kn := kn) hw
  refine ⟨⟨_, f1⟩, fun r hr' => ?_⟩
  rw [f1] at hr'
  cases hr'
  exact ⟨rfl, f2.2, f2.1, _, List.mem_cons_self, σ0, ext_rf σ0, hN, trivial, (fun q hq => by cases hq), (fun q hq => by cases hq)⟩) Cons_n
end
