noncomputable section
theorem ci_0 : cIs 0 = some 12 := by decide +kernel
theorem fr_0_0 : fR 0 12 0 = some 1 := by decide +kernel
section HRX
variable {tbl : List (Nat × sA)} {Po : sR → Prop} {pc np : Nat} {lv : List (Nat × Value)} {st : List Value} {w : sW}
theorem h_iand255 {a : Int} (ha : t_get tbl pc = some (a_stk q_iand np)) (g : ∀ z : Int, 0 ≤ z ∧ z ≤ 255 → Tp tbl Po np (lv, hI z :: st, w, 0, 0)) : Tp tbl Po pc (lv, hI 255 :: hI a :: st, w, 0, 0) := r_iand255 (x := Int32.ofInt a) ha g
end HRX
theorem s_put9_l {kn : sKn} {w0 : sW} (x n : Int) (hx : R32 x) (hn : 0 ≤ n ∧ n ≤ 940) : ∀ (m : Nat) (w : sW) (lv : List (Nat × Value)) (z : Int), hO dX9_put w0 w → z = 8 * (m : Int) - 8 ∧ m ≤ 4 → gF w 1 1 + (m : Int) = n → hL lv [(0, .ref 1), (1, hI x), (2, hI z)] → Tp (tX9_put kn) (fun r => ∃ w', r = (none, w', 0, 0) ∧ hO dX9_put w0 w' ∧ gF w' 1 1 = n) 3 (lv, [], w, 0, 0) := by
  have hx1 := hx.1
  have hx2 := hx.2
  intro m
  induction m with
  | zero =>
    intro w lv z o0 hz hn2 l0
    refine h_iload rfl l0 rfl ?_
    refine j_lt (kn := kn) (t := 2) (tgt := 49) (np := 7) rfl (by unfold R32; omega) (fun e41 => ?_) (fun e41 => ?_)
    · refine h_vret rfl ?_
      exact ⟨_, rfl, o0, by omega⟩
    · omega
  | succ m ih =>
    intro w lv z o0 hz hn2 l0
    obtain ⟨k, hk⟩ : ∃ k : Nat, gF w 1 1 = (k : Int) := by
      obtain ⟨_, _, _, _, _, _, _, g1, g2⟩ := fI_ok o0 fi_1_1
      exact ⟨(gF w 1 1).toNat, by omega⟩
    refine h_iload rfl l0 rfl ?_
    refine j_lt (kn := kn) (t := 2) (tgt := 49) (np := 7) rfl (by unfold R32; omega) (fun e41 => ?_) (fun e41 => ?_)
    · refine h_vret rfl ?_
      exact ⟨_, rfl, o0, by omega⟩
    · refine h_aload rfl l0 rfl ?_
      refine h_getI rfl o0 fi_1_1 (fun b42a b42b => ?_)
      refine h_intv k_940 rfl ?_
      refine i_ge (kn := kn) (t := 3) (tgt := 49) (np := 17) rfl (by unfold R32; omega) (by unfold R32; omega) (fun e43 => ?_) (fun e43 => ?_)
      · refine h_vret rfl ?_
        exact ⟨_, rfl, o0, by omega⟩
      · refine h_aload rfl l0 rfl ?_
        refine h_getR rfl o0 fr_1_0 ?_
        refine h_aload rfl l0 rfl ?_
        refine h_getI rfl o0 fi_1_1 (fun b44a b44b => ?_)
        refine h_iload rfl l0 rfl ?_
        refine h_iload rfl l0 rfl ?_
        refine h_iushrv rfl (fun z45 rz45 => ?_)
        have rz451 := rz45.1
        have rz452 := rz45.2
        refine h_intv k_255 rfl ?_
        refine h_iand255 rfl (fun z46 rz46 => ?_)
        have rz461 := rz46.1
        have rz462 := rz46.2
        refine h_iastj (k) rfl o0 ai_2 rfl rfl aw_2 (by omega) (by omega) (by omega) (by omega) (by omega) (by unfold R32; omega) (fun w47 o47 q48a q48b q48c => ?_)
        refine h_aload rfl l0 rfl ?_
        refine h_dup rfl rfl ?_
        refine h_getI rfl o47 fi_1_1 (fun b49a b49b => ?_)
        rw [q48c 1 1, hk] at b49a b49b ⊢
        refine h_intv k_1 rfl ?_
        refine h_iadd rfl ?_
        refine h_putI rfl o47 fi_1_1 rfl (by omega) (by omega) (fun w50 o50 q51a q51b q51c => ?_)
        refine h_iincv k_n8 rfl l0 rfl (fun vl52 l52 => ?_)
        refine h_goto rfl ?_
        exact ih w50 _ _ o50 (by omega) (by rw [q51a]; omega) l52
theorem s_put9 {kn : sKn} {w0 : sW} (hw : wOk ZZ w0) (x n : Int) (hx : R32 x) (hn : 0 ≤ n ∧ n ≤ 940) (hn2 : gF w0 1 1 + 4 = n) : ∃ w', fX9_put kn [.ref 1, hI x] w0 = some (none, w', 0, 0) ∧ hO dX9_put w0 w' ∧ gF w' 1 1 = n := by
  have K : Tp (tX9_put kn) (fun r => ∃ w', r = (none, w', 0, 0) ∧ hO dX9_put w0 w' ∧ gF w' 1 1 = n) 0 (lv_args 0 [.ref 1, hI x], [], w0, 0, 0) := by
    have l0 : hL (lv_args 0 [.ref 1, hI x]) (lv_args 0 [.ref 1, hI x]) := hL_ex rfl
    have o0 : hO dX9_put w0 w0 := hO_rf hw
    refine h_intv k_24 rfl ?_
    refine h_istore rfl l0 (fun vl41 l41 => ?_)
    exact s_put9_l x n hx hn 4 w0 _ _ o0 (by omega) (by omega) l41
  obtain ⟨r, h1, w2, h2, h3⟩ := h_meth1 (nL := 3) rfl K
  rw [h2] at h1
  exact ⟨w2, h1, h3⟩
theorem s_comeN_l {kn : sKn} {w0 : sW} (x n : Int) (hx : R32 x) (hn : 0 ≤ n ∧ n ≤ 940) : ∀ (m : Nat) (w : sW) (lv : List (Nat × Value)) (z : Int), hO dX12_come w0 w → z = 8 * (m : Int) - 8 ∧ m ≤ 4 → gF w 213 2 + (m : Int) = n → hL lv [(0, .ref 213), (1, hI x), (2, hI z)] → Tp (tX12_come kn) (fun r => ∃ w', r = (none, w', 0, 0) ∧ hO dX12_come w0 w' ∧ gF w' 213 2 = n) 3 (lv, [], w, 0, 0) := by
  have hx1 := hx.1
  have hx2 := hx.2
  intro m
  induction m with
  | zero =>
    intro w lv z o0 hz hn2 l0
    refine h_iload rfl l0 rfl ?_
    refine j_lt (kn := kn) (t := 2) (tgt := 39) (np := 7) rfl (by unfold R32; omega) (fun e41 => ?_) (fun e41 => ?_)
    · refine h_vret rfl ?_
      exact ⟨_, rfl, o0, by omega⟩
    · omega
  | succ m ih =>
    intro w lv z o0 hz hn2 l0
    obtain ⟨k, hk⟩ : ∃ k : Nat, gF w 213 2 = (k : Int) := by
      obtain ⟨_, _, _, _, _, _, _, g1, g2⟩ := fI_ok o0 fi_2
      exact ⟨(gF w 213 2).toNat, by omega⟩
    refine h_iload rfl l0 rfl ?_
    refine j_lt (kn := kn) (t := 2) (tgt := 39) (np := 7) rfl (by unfold R32; omega) (fun e41 => ?_) (fun e41 => ?_)
    · refine h_vret rfl ?_
      exact ⟨_, rfl, o0, by omega⟩
    · refine h_aload rfl l0 rfl ?_
      refine h_getR rfl o0 fr_1 ?_
      refine h_aload rfl l0 rfl ?_
      refine h_getI rfl o0 fi_2 (fun b42a b42b => ?_)
      refine h_iload rfl l0 rfl ?_
      refine h_iload rfl l0 rfl ?_
      refine h_iushrv rfl (fun z43 rz43 => ?_)
      have rz431 := rz43.1
      have rz432 := rz43.2
      refine h_intv k_255 rfl ?_
      refine h_iand255 rfl (fun z44 rz44 => ?_)
      have rz441 := rz44.1
      have rz442 := rz44.2
      refine h_iastj (k) rfl o0 ai_214 rfl rfl aw_214 (by omega) (by omega) (by omega) (by omega) (by omega) (by unfold R32; omega) (fun w45 o45 q46a q46b q46c => ?_)
      refine h_aload rfl l0 rfl ?_
      refine h_dup rfl rfl ?_
      refine h_getI rfl o45 fi_2 (fun b47a b47b => ?_)
      rw [q46c 213 2, hk] at b47a b47b ⊢
      refine h_intv k_1 rfl ?_
      refine h_iadd rfl ?_
      refine h_putI rfl o45 fi_2 rfl (by omega) (by omega) (fun w48 o48 q49a q49b q49c => ?_)
      refine h_iincv k_n8 rfl l0 rfl (fun vl50 l50 => ?_)
      refine h_goto rfl ?_
      exact ih w48 _ _ o48 (by omega) (by rw [q49a]; omega) l50
theorem s_comeN {kn : sKn} {w0 : sW} (hw : wOk ZZ w0) (x n : Int) (hx : R32 x) (hn : 0 ≤ n ∧ n ≤ 940) (hn2 : gF w0 213 2 + 4 = n) : ∃ w', fX12_come kn [.ref 213, hI x] w0 = some (none, w', 0, 0) ∧ hO dX12_come w0 w' ∧ gF w' 213 2 = n := by
  have K : Tp (tX12_come kn) (fun r => ∃ w', r = (none, w', 0, 0) ∧ hO dX12_come w0 w' ∧ gF w' 213 2 = n) 0 (lv_args 0 [.ref 213, hI x], [], w0, 0, 0) := by
    have l0 : hL (lv_args 0 [.ref 213, hI x]) (lv_args 0 [.ref 213, hI x]) := hL_ex rfl
    have o0 : hO dX12_come w0 w0 := hO_rf hw
    refine h_intv k_24 rfl ?_
    refine h_istore rfl l0 (fun vl41 l41 => ?_)
    exact s_comeN_l x n hx hn 4 w0 _ _ o0 (by omega) (by omega) l41
  obtain ⟨r, h1, w2, h2, h3⟩ := h_meth1 (nL := 3) rfl K
  rw [h2] at h1
  exact ⟨w2, h1, h3⟩
theorem ms_put9 : msub dX9_put dX11_feed = true := by decide +kernel
theorem ms_come : msub dX12_come dX12_feed = true := by decide +kernel
theorem s_feed7 {kn : sKn} {w0 : sW} (hw : wOk ZZ w0) (x1 : Int) (hx1 : R32 x1) (x2 : Int) (hx2 : R32 x2) (x3 : Int) (hx3 : R32 x3) (x4 : Int) (hx4 : R32 x4) (x5 : Int) (hx5 : R32 x5) : ∃ (w' : sW) (v : Int), fX11_feed kn [.ref 0, hI x1, hI x2, hI x3, hI x4, hI x5] w0 = some (some (hI v), w', 0, 0) ∧ hO dX11_feed w0 w' ∧ ((940 < gF w0 1 1 + 20 ∧ v = -1 ∧ gF w' 1 1 = gF w0 1 1) ∨ (gF w0 1 1 + 20 ≤ 940 ∧ v = gF w0 1 1 + 20 ∧ gF w' 1 1 = gF w0 1 1 + 20)) := by
  have K : Tp (tX11_feed kn) (fun r => ∃ (w' : sW) (v : Int), r = (some (hI v), w', 0, 0) ∧ hO dX11_feed w0 w' ∧ ((940 < gF w0 1 1 + 20 ∧ v = -1 ∧ gF w' 1 1 = gF w0 1 1) ∨ (gF w0 1 1 + 20 ≤ 940 ∧ v = gF w0 1 1 + 20 ∧ gF w' 1 1 = gF w0 1 1 + 20))) 0 (lv_args 0 [.ref 0, hI x1, hI x2, hI x3, hI x4, hI x5], [], w0, 0, 0) := by
    have l0 : hL (lv_args 0 [.ref 0, hI x1, hI x2, hI x3, hI x4, hI x5]) (lv_args 0 [.ref 0, hI x1, hI x2, hI x3, hI x4, hI x5]) := hL_ex rfl
    have o0 : hO dX11_feed w0 w0 := hO_rf hw
    refine h_aload rfl l0 rfl ?_
    refine h_getR rfl o0 fr_0_0 ?_
    refine h_getI rfl o0 fi_1_1 (fun b41a b41b => ?_)
    have hg : gF w0 1 1 = gF w0 1 1 := rfl
    refine h_intv k_20 rfl ?_
    refine h_iadd rfl ?_
    refine h_intv k_940 rfl ?_
    refine i_le (kn := kn) (t := 5) (tgt := 18) (np := 16) rfl (by unfold R32; omega) (by unfold R32; omega) (fun e42 => ?_) (fun e42 => ?_)
    · refine h_aload rfl l0 rfl ?_
      refine h_getR rfl o0 fr_0_0 ?_
      refine h_iload rfl l0 rfl ?_
      obtain ⟨wc1, hf43, oc1', hg1⟩ := s_put9 (kn := kn) o0.1 x1 (gF w0 1 1 + 4) hx1 ⟨by omega, by omega⟩ (by omega)
      have oc1 : hO dX11_feed w0 wc1 := hO_tr o0 (hO_mono ms_put9 oc1')
      refine h_W2 rfl o0 l0 ci_1 rfl rfl hf43 ?_
      refine h_aload rfl l0 rfl ?_
      refine h_getR rfl oc1 fr_0_0 ?_
      refine h_iload rfl l0 rfl ?_
      obtain ⟨wc2, hf44, oc2', hg2⟩ := s_put9 (kn := kn) oc1.1 x2 (gF w0 1 1 + 8) hx2 ⟨by omega, by omega⟩ (by omega)
      have oc2 : hO dX11_feed w0 wc2 := hO_tr oc1 (hO_mono ms_put9 oc2')
      refine h_W2 rfl oc1 l0 ci_1 rfl rfl hf44 ?_
      refine h_aload rfl l0 rfl ?_
      refine h_getR rfl oc2 fr_0_0 ?_
      refine h_iload rfl l0 rfl ?_
      obtain ⟨wc3, hf45, oc3', hg3⟩ := s_put9 (kn := kn) oc2.1 x3 (gF w0 1 1 + 12) hx3 ⟨by omega, by omega⟩ (by omega)
      have oc3 : hO dX11_feed w0 wc3 := hO_tr oc2 (hO_mono ms_put9 oc3')
      refine h_W2 rfl oc2 l0 ci_1 rfl rfl hf45 ?_
      refine h_aload rfl l0 rfl ?_
      refine h_getR rfl oc3 fr_0_0 ?_
      refine h_iload rfl l0 rfl ?_
      obtain ⟨wc4, hf46, oc4', hg4⟩ := s_put9 (kn := kn) oc3.1 x4 (gF w0 1 1 + 16) hx4 ⟨by omega, by omega⟩ (by omega)
      have oc4 : hO dX11_feed w0 wc4 := hO_tr oc3 (hO_mono ms_put9 oc4')
      refine h_W2 rfl oc3 l0 ci_1 rfl rfl hf46 ?_
      refine h_aload rfl l0 rfl ?_
      refine h_getR rfl oc4 fr_0_0 ?_
      refine h_iload rfl l0 rfl ?_
      obtain ⟨wc5, hf47, oc5', hg5⟩ := s_put9 (kn := kn) oc4.1 x5 (gF w0 1 1 + 20) hx5 ⟨by omega, by omega⟩ (by omega)
      have oc5 : hO dX11_feed w0 wc5 := hO_tr oc4 (hO_mono ms_put9 oc5')
      refine h_W2 rfl oc4 l0 ci_1 rfl rfl hf47 ?_
      refine h_aload rfl l0 rfl ?_
      refine h_getR rfl oc5 fr_0_0 ?_
      refine h_getI rfl oc5 fi_1_1 (fun b48a b48b => ?_)
      rw [hg5] at b48a b48b ⊢
      refine h_iret rfl ?_
      exact ⟨_, _, rfl, oc5, Or.inr ⟨by omega, by omega, hg5⟩⟩
    · refine h_intv k_n1 rfl ?_
      refine h_iret rfl ?_
      exact ⟨_, _, rfl, o0, Or.inl ⟨by omega, by omega, hg⟩⟩
  obtain ⟨r, h1, w2, b, h2, h3⟩ := h_meth1 (nL := 6) rfl K
  rw [h2] at h1
  exact ⟨w2, b, h1, h3⟩
theorem s_feedR {kn : sKn} {w0 : sW} (hw : wOk ZZ w0) (x1 : Int) (hx1 : R32 x1) (x2 : Int) (hx2 : R32 x2) (x3 : Int) (hx3 : R32 x3) (x4 : Int) (hx4 : R32 x4) (x5 : Int) (hx5 : R32 x5) : ∃ (w' : sW) (v : Int), fX12_feed kn [.ref 213, hI x1, hI x2, hI x3, hI x4, hI x5] w0 = some (some (hI v), w', 0, 0) ∧ hO dX12_feed w0 w' ∧ ((940 < gF w0 213 2 + 20 ∧ v = -1 ∧ gF w' 213 2 = gF w0 213 2) ∨ (gF w0 213 2 + 20 ≤ 940 ∧ v = gF w0 213 2 + 20 ∧ gF w' 213 2 = gF w0 213 2 + 20)) := by
  have K : Tp (tX12_feed kn) (fun r => ∃ (w' : sW) (v : Int), r = (some (hI v), w', 0, 0) ∧ hO dX12_feed w0 w' ∧ ((940 < gF w0 213 2 + 20 ∧ v = -1 ∧ gF w' 213 2 = gF w0 213 2) ∨ (gF w0 213 2 + 20 ≤ 940 ∧ v = gF w0 213 2 + 20 ∧ gF w' 213 2 = gF w0 213 2 + 20))) 0 (lv_args 0 [.ref 213, hI x1, hI x2, hI x3, hI x4, hI x5], [], w0, 0, 0) := by
    have l0 : hL (lv_args 0 [.ref 213, hI x1, hI x2, hI x3, hI x4, hI x5]) (lv_args 0 [.ref 213, hI x1, hI x2, hI x3, hI x4, hI x5]) := hL_ex rfl
    have o0 : hO dX12_feed w0 w0 := hO_rf hw
    refine h_aload rfl l0 rfl ?_
    refine h_intv k_0 rfl ?_
    refine h_putI rfl o0 fi_0 rfl (by omega) (by omega) (fun w41 o41 q42a q42b q42c => ?_)
    refine h_aload rfl l0 rfl ?_
    refine h_getI rfl o41 fi_2 (fun b43a b43b => ?_)
    have hg : gF w41 213 2 = gF w0 213 2 := q42b 213 2 (fun _ => by decide)
    rw [hg] at b43a b43b ⊢
    refine h_intv k_20 rfl ?_
    refine h_iadd rfl ?_
    refine h_intv k_940 rfl ?_
    refine i_le (kn := kn) (t := 5) (tgt := 20) (np := 18) rfl (by unfold R32; omega) (by unfold R32; omega) (fun e44 => ?_) (fun e44 => ?_)
    · refine h_aload rfl l0 rfl ?_
      refine h_iload rfl l0 rfl ?_
      obtain ⟨wc1, hf45, oc1', hg1⟩ := s_comeN (kn := kn) o41.1 x1 (gF w0 213 2 + 4) hx1 ⟨by omega, by omega⟩ (by omega)
      have oc1 : hO dX12_feed w0 wc1 := hO_tr o41 (hO_mono ms_come oc1')
      refine h_W2 rfl o41 l0 ci_213 rfl rfl hf45 ?_
      refine h_aload rfl l0 rfl ?_
      refine h_iload rfl l0 rfl ?_
      obtain ⟨wc2, hf46, oc2', hg2⟩ := s_comeN (kn := kn) oc1.1 x2 (gF w0 213 2 + 8) hx2 ⟨by omega, by omega⟩ (by omega)
      have oc2 : hO dX12_feed w0 wc2 := hO_tr oc1 (hO_mono ms_come oc2')
      refine h_W2 rfl oc1 l0 ci_213 rfl rfl hf46 ?_
      refine h_aload rfl l0 rfl ?_
      refine h_iload rfl l0 rfl ?_
      obtain ⟨wc3, hf47, oc3', hg3⟩ := s_comeN (kn := kn) oc2.1 x3 (gF w0 213 2 + 12) hx3 ⟨by omega, by omega⟩ (by omega)
      have oc3 : hO dX12_feed w0 wc3 := hO_tr oc2 (hO_mono ms_come oc3')
      refine h_W2 rfl oc2 l0 ci_213 rfl rfl hf47 ?_
      refine h_aload rfl l0 rfl ?_
      refine h_iload rfl l0 rfl ?_
      obtain ⟨wc4, hf48, oc4', hg4⟩ := s_comeN (kn := kn) oc3.1 x4 (gF w0 213 2 + 16) hx4 ⟨by omega, by omega⟩ (by omega)
      have oc4 : hO dX12_feed w0 wc4 := hO_tr oc3 (hO_mono ms_come oc4')
      refine h_W2 rfl oc3 l0 ci_213 rfl rfl hf48 ?_
      refine h_aload rfl l0 rfl ?_
      refine h_iload rfl l0 rfl ?_
      obtain ⟨wc5, hf49, oc5', hg5⟩ := s_comeN (kn := kn) oc4.1 x5 (gF w0 213 2 + 20) hx5 ⟨by omega, by omega⟩ (by omega)
      have oc5 : hO dX12_feed w0 wc5 := hO_tr oc4 (hO_mono ms_come oc5')
      refine h_W2 rfl oc4 l0 ci_213 rfl rfl hf49 ?_
      refine h_aload rfl l0 rfl ?_
      refine h_getI rfl oc5 fi_2 (fun b50a b50b => ?_)
      rw [hg5] at b50a b50b ⊢
      refine h_iret rfl ?_
      exact ⟨_, _, rfl, oc5, Or.inr ⟨by omega, by omega, hg5⟩⟩
    · refine h_intv k_n1 rfl ?_
      refine h_iret rfl ?_
      exact ⟨_, _, rfl, o41, Or.inl ⟨by omega, by omega, hg⟩⟩
  obtain ⟨r, h1, w2, b, h2, h3⟩ := h_meth1 (nL := 6) rfl K
  rw [h2] at h1
  exact ⟨w2, b, h1, h3⟩
theorem s_end7 {kn : sKn} {w0 : sW} (hw : wOk ZZ w0) (x : Int) (hx : R32 x) : ∃ (w' : sW) (v : Int), fX11_end kn [.ref 0, hI x] w0 = some (some (hI v), w', 0, 0) ∧ hO dX11_end w0 w' ∧ ((x < 0 ∨ gF w0 1 1 < x) ∧ v = 0 ∧ gF w' 1 1 = gF w0 1 1 ∨ (0 ≤ x ∧ x ≤ gF w0 1 1) ∧ v = 1 ∧ gF w' 1 1 = x) := by
  have hx1 := hx.1
  have hx2 := hx.2
  have K : Tp (tX11_end kn) (fun r => ∃ (w' : sW) (v : Int), r = (some (hI v), w', 0, 0) ∧ hO dX11_end w0 w' ∧ ((x < 0 ∨ gF w0 1 1 < x) ∧ v = 0 ∧ gF w' 1 1 = gF w0 1 1 ∨ (0 ≤ x ∧ x ≤ gF w0 1 1) ∧ v = 1 ∧ gF w' 1 1 = x)) 0 (lv_args 0 [.ref 0, hI x], [], w0, 0, 0) := by
    have l0 : hL (lv_args 0 [.ref 0, hI x]) (lv_args 0 [.ref 0, hI x]) := hL_ex rfl
    have o0 : hO dX11_end w0 w0 := hO_rf hw
    refine h_iload rfl l0 rfl ?_
    refine j_lt (kn := kn) (t := 2) (tgt := 15) (np := 4) rfl (by unfold R32; omega) (fun e41 => ?_) (fun e41 => ?_)
    · refine h_intv k_0 rfl ?_
      refine h_zret (by omega) rfl ?_
      exact ⟨_, _, rfl, o0, Or.inl ⟨by omega, rfl, rfl⟩⟩
    · refine h_iload rfl l0 rfl ?_
      refine h_aload rfl l0 rfl ?_
      refine h_getR rfl o0 fr_0_0 ?_
      refine h_getI rfl o0 fi_1_1 (fun b42a b42b => ?_)
      refine i_le (kn := kn) (t := 5) (tgt := 17) (np := 15) rfl (by unfold R32; omega) (by unfold R32; omega) (fun e43 => ?_) (fun e43 => ?_)
      · refine h_aload rfl l0 rfl ?_
        refine h_getR rfl o0 fr_0_0 ?_
        refine h_iload rfl l0 rfl ?_
        refine h_putI rfl o0 fi_1_1 rfl (by omega) (by omega) (fun w44 o44 q45a q45b q45c => ?_)
        refine h_intv k_1 rfl ?_
        refine h_zret (by omega) rfl ?_
        exact ⟨_, _, rfl, o44, Or.inr ⟨by omega, rfl, q45a⟩⟩
      · refine h_intv k_0 rfl ?_
        refine h_zret (by omega) rfl ?_
        exact ⟨_, _, rfl, o0, Or.inl ⟨by omega, rfl, rfl⟩⟩
  obtain ⟨r, h1, w2, b, h2, h3⟩ := h_meth1 (nL := 2) rfl K
  rw [h2] at h1
  exact ⟨w2, b, h1, h3⟩
theorem s_endR {kn : sKn} {w0 : sW} (hw : wOk ZZ w0) (x : Int) (hx : R32 x) : ∃ (w' : sW) (v : Int), fX12_end kn [.ref 213, hI x] w0 = some (some (hI v), w', 0, 0) ∧ hO dX12_end w0 w' ∧ ((x < 0 ∨ gF w0 213 2 < x) ∧ v = 0 ∧ gF w' 213 2 = gF w0 213 2 ∨ (0 ≤ x ∧ x ≤ gF w0 213 2) ∧ v = 1 ∧ gF w' 213 2 = x) := by
  have hx1 := hx.1
  have hx2 := hx.2
  have K : Tp (tX12_end kn) (fun r => ∃ (w' : sW) (v : Int), r = (some (hI v), w', 0, 0) ∧ hO dX12_end w0 w' ∧ ((x < 0 ∨ gF w0 213 2 < x) ∧ v = 0 ∧ gF w' 213 2 = gF w0 213 2 ∨ (0 ≤ x ∧ x ≤ gF w0 213 2) ∧ v = 1 ∧ gF w' 213 2 = x)) 0 (lv_args 0 [.ref 213, hI x], [], w0, 0, 0) := by
    have l0 : hL (lv_args 0 [.ref 213, hI x]) (lv_args 0 [.ref 213, hI x]) := hL_ex rfl
    have o0 : hO dX12_end w0 w0 := hO_rf hw
    refine h_aload rfl l0 rfl ?_
    refine h_intv k_0 rfl ?_
    refine h_putI rfl o0 fi_0 rfl (by omega) (by omega) (fun w41 o41 q42a q42b q42c => ?_)
    refine h_iload rfl l0 rfl ?_
    refine j_lt (kn := kn) (t := 2) (tgt := 17) (np := 9) rfl (by unfold R32; omega) (fun e43 => ?_) (fun e43 => ?_)
    · refine h_intv k_0 rfl ?_
      refine h_zret (by omega) rfl ?_
      exact ⟨_, _, rfl, o41, Or.inl ⟨by omega, rfl, q42b 213 2 (fun _ => by decide)⟩⟩
    · refine h_iload rfl l0 rfl ?_
      refine h_aload rfl l0 rfl ?_
      refine h_getI rfl o41 fi_2 (fun b44a b44b => ?_)
      have hg : gF w41 213 2 = gF w0 213 2 := q42b 213 2 (fun _ => by decide)
      rw [hg] at b44a b44b ⊢
      refine i_le (kn := kn) (t := 5) (tgt := 19) (np := 17) rfl (by unfold R32; omega) (by unfold R32; omega) (fun e45 => ?_) (fun e45 => ?_)
      · refine h_aload rfl l0 rfl ?_
        refine h_iload rfl l0 rfl ?_
        refine h_putI rfl o41 fi_2 rfl (by omega) (by omega) (fun w46 o46 q47a q47b q47c => ?_)
        refine h_intv k_1 rfl ?_
        refine h_zret (by omega) rfl ?_
        exact ⟨_, _, rfl, o46, Or.inr ⟨by omega, rfl, q47a⟩⟩
      · refine h_intv k_0 rfl ?_
        refine h_zret (by omega) rfl ?_
        exact ⟨_, _, rfl, o41, Or.inl ⟨by omega, rfl, q42b 213 2 (fun _ => by decide)⟩⟩
  obtain ⟨r, h1, w2, b, h2, h3⟩ := h_meth1 (nL := 2) rfl K
  rw [h2] at h1
  exact ⟨w2, b, h1, h3⟩
end
