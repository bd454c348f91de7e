noncomputable section
def zSp (v c : Int) : Int := if c ≤ 0 then v else 27 * v + c - 96
def l7 (a b c d e f g : Int) (lv : List (Nat × Value)) : Prop := l_get lv 0 = some (hI a) ∧ l_get lv 1 = some (hI b) ∧ l_get lv 2 = some (hI c) ∧ l_get lv 3 = some (hI d) ∧ l_get lv 4 = some (hI e) ∧ l_get lv 5 = some (hI f) ∧ l_get lv 6 = some (hI g)
theorem l7_put {a b c d e f g : Int} {lv : List (Nat × Value)} (x : Int64) (h : l7 a b c d e f g lv) : l7 a b c d e f g (l_put2 lv 7 (.long x)) ∧ l_get (l_put2 lv 7 (.long x)) 7 = some (.long x) := by
  have key : ∀ (j : Nat) (z : Int), j < 7 → l_get lv j = some (hI z) → l_get (l_put2 lv 7 (.long x)) j = some (hI z) := by
    intro j z hj hg
    unfold l_put2
    rw [l_get_skip (by omega)]
    refine l_get_filter hg ?_
    have h1 : (j == 7) = false := by
      rw [beq_eq_false_iff_ne]
      omega
    have h2 : (j == 7 + 1) = false := by
      rw [beq_eq_false_iff_ne]
      omega
    show (!(j == 7) && (!(j == 7 + 1) && !(j + 1 == 7 && (hI z).category == 2))) = true
    rw [h1, h2]
    have h3 : ((hI z).category == 2) = false := rfl
    rw [h3, Bool.and_false]
    rfl
  obtain ⟨h0, h1, h2, h3, h4, h5, h6⟩ := h
  exact ⟨⟨key 0 _ (by omega) h0, key 1 _ (by omega) h1, key 2 _ (by omega) h2, key 3 _ (by omega) h3, key 4 _ (by omega) h4, key 5 _ (by omega) h5, key 6 _ (by omega) h6⟩, l_get_head⟩
theorem sp_120 {kn : sKn} {w : sW} {v : Int} {lv : List (Nat × Value)} (h7 : l_get lv 7 = some (hJ v)) : Tp (tX12_spelt kn) (fun r => r = (some (hJ v), w, 0, 0)) 120 (lv, [], w, 0, 0) := by
  refine r_lload rfl h7 ?_
  exact x_lret rfl rfl
theorem sp_99 {kn : sKn} {w : sW} {v a b c d e f g : Int} {lv : List (Nat × Value)} (hR : R32 g)  (hl : l7 a b c d e f g lv) (h7 : l_get lv 7 = some (hJ v)) : Tp (tX12_spelt kn) (fun r => r = (some (hJ ((zSp v g))), w, 0, 0)) 99 (lv, [], w, 0, 0) := by
  have hx1 := hR.1
  have hx2 := hR.2
  refine r_iload rfl hl.2.2.2.2.2.2 ?_
  refine j_le (kn := kn) (t := 5) (tgt := 120) (np := 104) rfl (by unfold R32; omega) (fun e1 => ?_) (fun e1 => ?_)
  · rw [show zSp v g = v from if_pos e1]
    exact sp_120 h7
  · refine x_long 27 (by decide +kernel) rfl ?_
    refine r_lload rfl h7 ?_
    refine x_lmul rfl ?_
    refine r_iload rfl hl.2.2.2.2.2.2 ?_
    refine x_i2l hR rfl ?_
    refine x_ladd rfl ?_
    refine x_long 96 (by decide +kernel) rfl ?_
    refine x_lsub rfl ?_
    refine x_lstore rfl ?_
    obtain ⟨k1, k2⟩ := l7_put (Int64.ofInt (27 * v + g - 96)) hl
    rw [show zSp v g = 27 * v + g - 96 from if_neg e1]
    exact sp_120 k2
theorem sp_78 {kn : sKn} {w : sW} {v a b c d e f g : Int} {lv : List (Nat × Value)} (hR : R32 f) (hRg : R32 g) (hl : l7 a b c d e f g lv) (h7 : l_get lv 7 = some (hJ v)) : Tp (tX12_spelt kn) (fun r => r = (some (hJ ((zSp (zSp v f) g))), w, 0, 0)) 78 (lv, [], w, 0, 0) := by
  have hx1 := hR.1
  have hx2 := hR.2
  refine r_iload rfl hl.2.2.2.2.2.1 ?_
  refine j_le (kn := kn) (t := 5) (tgt := 99) (np := 83) rfl (by unfold R32; omega) (fun e1 => ?_) (fun e1 => ?_)
  · rw [show zSp v f = v from if_pos e1]
    exact sp_99 hRg hl h7
  · refine x_long 27 (by decide +kernel) rfl ?_
    refine r_lload rfl h7 ?_
    refine x_lmul rfl ?_
    refine r_iload rfl hl.2.2.2.2.2.1 ?_
    refine x_i2l hR rfl ?_
    refine x_ladd rfl ?_
    refine x_long 96 (by decide +kernel) rfl ?_
    refine x_lsub rfl ?_
    refine x_lstore rfl ?_
    obtain ⟨k1, k2⟩ := l7_put (Int64.ofInt (27 * v + f - 96)) hl
    rw [show zSp v f = 27 * v + f - 96 from if_neg e1]
    exact sp_99 hRg k1 k2
theorem sp_57 {kn : sKn} {w : sW} {v a b c d e f g : Int} {lv : List (Nat × Value)} (hR : R32 e) (hRf : R32 f) (hRg : R32 g) (hl : l7 a b c d e f g lv) (h7 : l_get lv 7 = some (hJ v)) : Tp (tX12_spelt kn) (fun r => r = (some (hJ ((zSp (zSp (zSp v e) f) g))), w, 0, 0)) 57 (lv, [], w, 0, 0) := by
  have hx1 := hR.1
  have hx2 := hR.2
  refine r_iload rfl hl.2.2.2.2.1 ?_
  refine j_le (kn := kn) (t := 5) (tgt := 78) (np := 62) rfl (by unfold R32; omega) (fun e1 => ?_) (fun e1 => ?_)
  · rw [show zSp v e = v from if_pos e1]
    exact sp_78 hRf hRg hl h7
  · refine x_long 27 (by decide +kernel) rfl ?_
    refine r_lload rfl h7 ?_
    refine x_lmul rfl ?_
    refine r_iload rfl hl.2.2.2.2.1 ?_
    refine x_i2l hR rfl ?_
    refine x_ladd rfl ?_
    refine x_long 96 (by decide +kernel) rfl ?_
    refine x_lsub rfl ?_
    refine x_lstore rfl ?_
    obtain ⟨k1, k2⟩ := l7_put (Int64.ofInt (27 * v + e - 96)) hl
    rw [show zSp v e = 27 * v + e - 96 from if_neg e1]
    exact sp_78 hRf hRg k1 k2
theorem sp_38 {kn : sKn} {w : sW} {v a b c d e f g : Int} {lv : List (Nat × Value)} (hR : R32 d) (hRe : R32 e) (hRf : R32 f) (hRg : R32 g) (hl : l7 a b c d e f g lv) (h7 : l_get lv 7 = some (hJ v)) : Tp (tX12_spelt kn) (fun r => r = (some (hJ ((zSp (zSp (zSp (zSp v d) e) f) g))), w, 0, 0)) 38 (lv, [], w, 0, 0) := by
  have hx1 := hR.1
  have hx2 := hR.2
  refine r_iload rfl hl.2.2.2.1 ?_
  refine j_le (kn := kn) (t := 5) (tgt := 57) (np := 42) rfl (by unfold R32; omega) (fun e1 => ?_) (fun e1 => ?_)
  · rw [show zSp v d = v from if_pos e1]
    exact sp_57 hRe hRf hRg hl h7
  · refine x_long 27 (by decide +kernel) rfl ?_
    refine r_lload rfl h7 ?_
    refine x_lmul rfl ?_
    refine r_iload rfl hl.2.2.2.1 ?_
    refine x_i2l hR rfl ?_
    refine x_ladd rfl ?_
    refine x_long 96 (by decide +kernel) rfl ?_
    refine x_lsub rfl ?_
    refine x_lstore rfl ?_
    obtain ⟨k1, k2⟩ := l7_put (Int64.ofInt (27 * v + d - 96)) hl
    rw [show zSp v d = 27 * v + d - 96 from if_neg e1]
    exact sp_57 hRe hRf hRg k1 k2
theorem sp_19 {kn : sKn} {w : sW} {v a b c d e f g : Int} {lv : List (Nat × Value)} (hR : R32 c) (hRd : R32 d) (hRe : R32 e) (hRf : R32 f) (hRg : R32 g) (hl : l7 a b c d e f g lv) (h7 : l_get lv 7 = some (hJ v)) : Tp (tX12_spelt kn) (fun r => r = (some (hJ ((zSp (zSp (zSp (zSp (zSp v c) d) e) f) g))), w, 0, 0)) 19 (lv, [], w, 0, 0) := by
  have hx1 := hR.1
  have hx2 := hR.2
  refine r_iload rfl hl.2.2.1 ?_
  refine j_le (kn := kn) (t := 5) (tgt := 38) (np := 23) rfl (by unfold R32; omega) (fun e1 => ?_) (fun e1 => ?_)
  · rw [show zSp v c = v from if_pos e1]
    exact sp_38 hRd hRe hRf hRg hl h7
  · refine x_long 27 (by decide +kernel) rfl ?_
    refine r_lload rfl h7 ?_
    refine x_lmul rfl ?_
    refine r_iload rfl hl.2.2.1 ?_
    refine x_i2l hR rfl ?_
    refine x_ladd rfl ?_
    refine x_long 96 (by decide +kernel) rfl ?_
    refine x_lsub rfl ?_
    refine x_lstore rfl ?_
    obtain ⟨k1, k2⟩ := l7_put (Int64.ofInt (27 * v + c - 96)) hl
    rw [show zSp v c = 27 * v + c - 96 from if_neg e1]
    exact sp_38 hRd hRe hRf hRg k1 k2
theorem x_spelt {kn : sKn} {w : sW} {a b c d e f g : Int} (ha : R32 a) (hb : R32 b) (hc : R32 c) (hd : R32 d) (he : R32 e) (hf : R32 f) (hg : R32 g) : fX12_spelt kn [hI a, hI b, hI c, hI d, hI e, hI f, hI g] w = some (some (hJ ((zSp (zSp (zSp (zSp (zSp (27 * (a - 96) + b - 96) c) d) e) f) g))), w, 0, 0) := by
  have K : Tp (tX12_spelt kn) (fun r => r = (some (hJ ((zSp (zSp (zSp (zSp (zSp (27 * (a - 96) + b - 96) c) d) e) f) g))), w, 0, 0)) 0 (lv_args 0 [hI a, hI b, hI c, hI d, hI e, hI f, hI g], [], w, 0, 0) := by
    have hl : l7 a b c d e f g (lv_args 0 [hI a, hI b, hI c, hI d, hI e, hI f, hI g]) := ⟨rfl, rfl, rfl, rfl, rfl, rfl, rfl⟩
    refine x_long 27 (by decide +kernel) rfl ?_
    refine r_iload rfl hl.1 ?_
    refine x_i2l ha rfl ?_
    refine x_long 96 (by decide +kernel) rfl ?_
    refine x_lsub rfl ?_
    refine x_lmul rfl ?_
    refine r_iload rfl hl.2.1 ?_
    refine x_i2l hb rfl ?_
    refine x_ladd rfl ?_
    refine x_long 96 (by decide +kernel) rfl ?_
    refine x_lsub rfl ?_
    refine x_lstore rfl ?_
    obtain ⟨k1, k2⟩ := l7_put (Int64.ofInt (27 * (a - 96) + b - 96)) hl
    exact sp_19 hc hd he hf hg k1 k2
  obtain ⟨r, h1, h2⟩ := h_meth1 (nL := 9) rfl K
  rw [h2] at h1
  exact h1
theorem x_word_0 {kn : sKn} {w : sW} (hw : wOk ZZ w) : fX12_wordOf kn [hI 0] w = some (some (hJ (KW 0)), w, 0, 0) := by
  have K : Tp (tX12_wordOf kn) (fun r => r = (some (hJ (KW 0)), w, 0, 0)) 0 (lv_args 0 [hI 0], [], w, 0, 0) := by
    have l0 : hL (lv_args 0 [hI 0]) (lv_args 0 [hI 0]) := hL_ex rfl
    have o0 : hO [] w w := hO_rf hw
    refine h_iload rfl l0 rfl ?_
    refine h_tab 0 rfl (by unfold R32; omega) rfl (by omega) (by omega) rfl ?_
    refine h_intv k_114 rfl ?_
    refine h_intv k_111 rfl ?_
    refine h_intv k_119 rfl ?_
    refine h_intv k_115 rfl ?_
    refine h_intv k_0 rfl ?_
    refine h_intv k_0 rfl ?_
    refine h_intv k_0 rfl ?_
    refine h_S7 rfl o0 l0 rfl rfl (x_spelt (show R32 114 from ⟨by omega, by omega⟩) (show R32 111 from ⟨by omega, by omega⟩) (show R32 119 from ⟨by omega, by omega⟩) (show R32 115 from ⟨by omega, by omega⟩) (show R32 0 from ⟨by omega, by omega⟩) (show R32 0 from ⟨by omega, by omega⟩) (show R32 0 from ⟨by omega, by omega⟩)) ?_
    exact x_lret rfl (by rw [show ((zSp (zSp (zSp (zSp (zSp (27 * (114 - 96) + 111 - 96) 119) 115) 0) 0) 0) : Int) = KW 0 from by decide +kernel]; rfl)
  obtain ⟨r, h1, h2⟩ := h_meth1 (nL := 1) rfl K
  rw [h2] at h1
  exact h1
theorem x_word_1 {kn : sKn} {w : sW} (hw : wOk ZZ w) : fX12_wordOf kn [hI 1] w = some (some (hJ (KW 1)), w, 0, 0) := by
  have K : Tp (tX12_wordOf kn) (fun r => r = (some (hJ (KW 1)), w, 0, 0)) 0 (lv_args 0 [hI 1], [], w, 0, 0) := by
    have l0 : hL (lv_args 0 [hI 1]) (lv_args 0 [hI 1]) := hL_ex rfl
    have o0 : hO [] w w := hO_rf hw
    refine h_iload rfl l0 rfl ?_
    refine h_tab 1 rfl (by unfold R32; omega) rfl (by omega) (by omega) rfl ?_
    refine h_intv k_115 rfl ?_
    refine h_intv k_105 rfl ?_
    refine h_intv k_103 rfl ?_
    refine h_intv k_110 rfl ?_
    refine h_intv k_101 rfl ?_
    refine h_intv k_114 rfl ?_
    refine h_intv k_0 rfl ?_
    refine h_S7 rfl o0 l0 rfl rfl (x_spelt (show R32 115 from ⟨by omega, by omega⟩) (show R32 105 from ⟨by omega, by omega⟩) (show R32 103 from ⟨by omega, by omega⟩) (show R32 110 from ⟨by omega, by omega⟩) (show R32 101 from ⟨by omega, by omega⟩) (show R32 114 from ⟨by omega, by omega⟩) (show R32 0 from ⟨by omega, by omega⟩)) ?_
    exact x_lret rfl (by rw [show ((zSp (zSp (zSp (zSp (zSp (27 * (115 - 96) + 105 - 96) 103) 110) 101) 114) 0) : Int) = KW 1 from by decide +kernel]; rfl)
  obtain ⟨r, h1, h2⟩ := h_meth1 (nL := 1) rfl K
  rw [h2] at h1
  exact h1
theorem x_word_2 {kn : sKn} {w : sW} (hw : wOk ZZ w) : fX12_wordOf kn [hI 2] w = some (some (hJ (KW 2)), w, 0, 0) := by
  have K : Tp (tX12_wordOf kn) (fun r => r = (some (hJ (KW 2)), w, 0, 0)) 0 (lv_args 0 [hI 2], [], w, 0, 0) := by
    have l0 : hL (lv_args 0 [hI 2]) (lv_args 0 [hI 2]) := hL_ex rfl
    have o0 : hO [] w w := hO_rf hw
    refine h_iload rfl l0 rfl ?_
    refine h_tab 2 rfl (by unfold R32; omega) rfl (by omega) (by omega) rfl ?_
    refine h_intv k_102 rfl ?_
    refine h_intv k_111 rfl ?_
    refine h_intv k_114 rfl ?_
    refine h_intv k_103 rfl ?_
    refine h_intv k_101 rfl ?_
    refine h_intv k_114 rfl ?_
    refine h_intv k_0 rfl ?_
    refine h_S7 rfl o0 l0 rfl rfl (x_spelt (show R32 102 from ⟨by omega, by omega⟩) (show R32 111 from ⟨by omega, by omega⟩) (show R32 114 from ⟨by omega, by omega⟩) (show R32 103 from ⟨by omega, by omega⟩) (show R32 101 from ⟨by omega, by omega⟩) (show R32 114 from ⟨by omega, by omega⟩) (show R32 0 from ⟨by omega, by omega⟩)) ?_
    exact x_lret rfl (by rw [show ((zSp (zSp (zSp (zSp (zSp (27 * (102 - 96) + 111 - 96) 114) 103) 101) 114) 0) : Int) = KW 2 from by decide +kernel]; rfl)
  obtain ⟨r, h1, h2⟩ := h_meth1 (nL := 1) rfl K
  rw [h2] at h1
  exact h1
theorem x_word_3 {kn : sKn} {w : sW} (hw : wOk ZZ w) : fX12_wordOf kn [hI 3] w = some (some (hJ (KW 3)), w, 0, 0) := by
  have K : Tp (tX12_wordOf kn) (fun r => r = (some (hJ (KW 3)), w, 0, 0)) 0 (lv_args 0 [hI 3], [], w, 0, 0) := by
    have l0 : hL (lv_args 0 [hI 3]) (lv_args 0 [hI 3]) := hL_ex rfl
    have o0 : hO [] w w := hO_rf hw
    refine h_iload rfl l0 rfl ?_
    refine h_tab 3 rfl (by unfold R32; omega) rfl (by omega) (by omega) rfl ?_
    refine h_intv k_104 rfl ?_
    refine h_intv k_101 rfl ?_
    refine h_intv k_105 rfl ?_
    refine h_intv k_114 rfl ?_
    refine h_intv k_0 rfl ?_
    refine h_intv k_0 rfl ?_
    refine h_intv k_0 rfl ?_
    refine h_S7 rfl o0 l0 rfl rfl (x_spelt (show R32 104 from ⟨by omega, by omega⟩) (show R32 101 from ⟨by omega, by omega⟩) (show R32 105 from ⟨by omega, by omega⟩) (show R32 114 from ⟨by omega, by omega⟩) (show R32 0 from ⟨by omega, by omega⟩) (show R32 0 from ⟨by omega, by omega⟩) (show R32 0 from ⟨by omega, by omega⟩)) ?_
    exact x_lret rfl (by rw [show ((zSp (zSp (zSp (zSp (zSp (27 * (104 - 96) + 101 - 96) 105) 114) 0) 0) 0) : Int) = KW 3 from by decide +kernel]; rfl)
  obtain ⟨r, h1, h2⟩ := h_meth1 (nL := 1) rfl K
  rw [h2] at h1
  exact h1
theorem x_word_4 {kn : sKn} {w : sW} (hw : wOk ZZ w) : fX12_wordOf kn [hI 4] w = some (some (hJ (KW 4)), w, 0, 0) := by
  have K : Tp (tX12_wordOf kn) (fun r => r = (some (hJ (KW 4)), w, 0, 0)) 0 (lv_args 0 [hI 4], [], w, 0, 0) := by
    have l0 : hL (lv_args 0 [hI 4]) (lv_args 0 [hI 4]) := hL_ex rfl
    have o0 : hO [] w w := hO_rf hw
    refine h_iload rfl l0 rfl ?_
    refine h_tab 4 rfl (by unfold R32; omega) rfl (by omega) (by omega) rfl ?_
    refine h_intv k_108 rfl ?_
    refine h_intv k_111 rfl ?_
    refine h_intv k_118 rfl ?_
    refine h_intv k_101 rfl ?_
    refine h_intv k_114 rfl ?_
    refine h_intv k_115 rfl ?_
    refine h_intv k_0 rfl ?_
    refine h_S7 rfl o0 l0 rfl rfl (x_spelt (show R32 108 from ⟨by omega, by omega⟩) (show R32 111 from ⟨by omega, by omega⟩) (show R32 118 from ⟨by omega, by omega⟩) (show R32 101 from ⟨by omega, by omega⟩) (show R32 114 from ⟨by omega, by omega⟩) (show R32 115 from ⟨by omega, by omega⟩) (show R32 0 from ⟨by omega, by omega⟩)) ?_
    exact x_lret rfl (by rw [show ((zSp (zSp (zSp (zSp (zSp (27 * (108 - 96) + 111 - 96) 118) 101) 114) 115) 0) : Int) = KW 4 from by decide +kernel]; rfl)
  obtain ⟨r, h1, h2⟩ := h_meth1 (nL := 1) rfl K
  rw [h2] at h1
  exact h1
theorem x_word_5 {kn : sKn} {w : sW} (hw : wOk ZZ w) : fX12_wordOf kn [hI 5] w = some (some (hJ (KW 5)), w, 0, 0) := by
  have K : Tp (tX12_wordOf kn) (fun r => r = (some (hJ (KW 5)), w, 0, 0)) 0 (lv_args 0 [hI 5], [], w, 0, 0) := by
    have l0 : hL (lv_args 0 [hI 5]) (lv_args 0 [hI 5]) := hL_ex rfl
    have o0 : hO [] w w := hO_rf hw
    refine h_iload rfl l0 rfl ?_
    refine h_tab 5 rfl (by unfold R32; omega) rfl (by omega) (by omega) rfl ?_
    refine h_intv k_112 rfl ?_
    refine h_intv k_108 rfl ?_
    refine h_intv k_97 rfl ?_
    refine h_intv k_110 rfl ?_
    refine h_intv k_107 rfl ?_
    refine h_intv k_0 rfl ?_
    refine h_intv k_0 rfl ?_
    refine h_S7 rfl o0 l0 rfl rfl (x_spelt (show R32 112 from ⟨by omega, by omega⟩) (show R32 108 from ⟨by omega, by omega⟩) (show R32 97 from ⟨by omega, by omega⟩) (show R32 110 from ⟨by omega, by omega⟩) (show R32 107 from ⟨by omega, by omega⟩) (show R32 0 from ⟨by omega, by omega⟩) (show R32 0 from ⟨by omega, by omega⟩)) ?_
    exact x_lret rfl (by rw [show ((zSp (zSp (zSp (zSp (zSp (27 * (112 - 96) + 108 - 96) 97) 110) 107) 0) 0) : Int) = KW 5 from by decide +kernel]; rfl)
  obtain ⟨r, h1, h2⟩ := h_meth1 (nL := 1) rfl K
  rw [h2] at h1
  exact h1
theorem x_word_6 {kn : sKn} {w : sW} (hw : wOk ZZ w) : fX12_wordOf kn [hI 6] w = some (some (hJ (KW 6)), w, 0, 0) := by
  have K : Tp (tX12_wordOf kn) (fun r => r = (some (hJ (KW 6)), w, 0, 0)) 0 (lv_args 0 [hI 6], [], w, 0, 0) := by
    have l0 : hL (lv_args 0 [hI 6]) (lv_args 0 [hI 6]) := hL_ex rfl
    have o0 : hO [] w w := hO_rf hw
    refine h_iload rfl l0 rfl ?_
    refine h_tab 6 rfl (by unfold R32; omega) rfl (by omega) (by omega) rfl ?_
    refine h_intv k_108 rfl ?_
    refine h_intv k_111 rfl ?_
    refine h_intv k_97 rfl ?_
    refine h_intv k_100 rfl ?_
    refine h_intv k_0 rfl ?_
    refine h_intv k_0 rfl ?_
    refine h_intv k_0 rfl ?_
    refine h_S7 rfl o0 l0 rfl rfl (x_spelt (show R32 108 from ⟨by omega, by omega⟩) (show R32 111 from ⟨by omega, by omega⟩) (show R32 97 from ⟨by omega, by omega⟩) (show R32 100 from ⟨by omega, by omega⟩) (show R32 0 from ⟨by omega, by omega⟩) (show R32 0 from ⟨by omega, by omega⟩) (show R32 0 from ⟨by omega, by omega⟩)) ?_
    exact x_lret rfl (by rw [show ((zSp (zSp (zSp (zSp (zSp (27 * (108 - 96) + 111 - 96) 97) 100) 0) 0) 0) : Int) = KW 6 from by decide +kernel]; rfl)
  obtain ⟨r, h1, h2⟩ := h_meth1 (nL := 1) rfl K
  rw [h2] at h1
  exact h1
theorem x_word_7 {kn : sKn} {w : sW} (hw : wOk ZZ w) : fX12_wordOf kn [hI 7] w = some (some (hJ (KW 7)), w, 0, 0) := by
  have K : Tp (tX12_wordOf kn) (fun r => r = (some (hJ (KW 7)), w, 0, 0)) 0 (lv_args 0 [hI 7], [], w, 0, 0) := by
    have l0 : hL (lv_args 0 [hI 7]) (lv_args 0 [hI 7]) := hL_ex rfl
    have o0 : hO [] w w := hO_rf hw
    refine h_iload rfl l0 rfl ?_
    refine h_tab 7 rfl (by unfold R32; omega) rfl (by omega) (by omega) rfl ?_
    refine h_intv k_107 rfl ?_
    refine h_intv k_101 rfl ?_
    refine h_intv k_101 rfl ?_
    refine h_intv k_112 rfl ?_
    refine h_intv k_115 rfl ?_
    refine h_intv k_0 rfl ?_
    refine h_intv k_0 rfl ?_
    refine h_S7 rfl o0 l0 rfl rfl (x_spelt (show R32 107 from ⟨by omega, by omega⟩) (show R32 101 from ⟨by omega, by omega⟩) (show R32 101 from ⟨by omega, by omega⟩) (show R32 112 from ⟨by omega, by omega⟩) (show R32 115 from ⟨by omega, by omega⟩) (show R32 0 from ⟨by omega, by omega⟩) (show R32 0 from ⟨by omega, by omega⟩)) ?_
    exact x_lret rfl (by rw [show ((zSp (zSp (zSp (zSp (zSp (27 * (107 - 96) + 101 - 96) 101) 112) 115) 0) 0) : Int) = KW 7 from by decide +kernel]; rfl)
  obtain ⟨r, h1, h2⟩ := h_meth1 (nL := 1) rfl K
  rw [h2] at h1
  exact h1
theorem x_word_8 {kn : sKn} {w : sW} (hw : wOk ZZ w) : fX12_wordOf kn [hI 8] w = some (some (hJ (KW 8)), w, 0, 0) := by
  have K : Tp (tX12_wordOf kn) (fun r => r = (some (hJ (KW 8)), w, 0, 0)) 0 (lv_args 0 [hI 8], [], w, 0, 0) := by
    have l0 : hL (lv_args 0 [hI 8]) (lv_args 0 [hI 8]) := hL_ex rfl
    have o0 : hO [] w w := hO_rf hw
    refine h_iload rfl l0 rfl ?_
    refine h_tab 8 rfl (by unfold R32; omega) rfl (by omega) (by omega) rfl ?_
    refine h_intv k_115 rfl ?_
    refine h_intv k_105 rfl ?_
    refine h_intv k_103 rfl ?_
    refine h_intv k_110 rfl ?_
    refine h_intv k_115 rfl ?_
    refine h_intv k_0 rfl ?_
    refine h_intv k_0 rfl ?_
    refine h_S7 rfl o0 l0 rfl rfl (x_spelt (show R32 115 from ⟨by omega, by omega⟩) (show R32 105 from ⟨by omega, by omega⟩) (show R32 103 from ⟨by omega, by omega⟩) (show R32 110 from ⟨by omega, by omega⟩) (show R32 115 from ⟨by omega, by omega⟩) (show R32 0 from ⟨by omega, by omega⟩) (show R32 0 from ⟨by omega, by omega⟩)) ?_
    exact x_lret rfl (by rw [show ((zSp (zSp (zSp (zSp (zSp (27 * (115 - 96) + 105 - 96) 103) 110) 115) 0) 0) : Int) = KW 8 from by decide +kernel]; rfl)
  obtain ⟨r, h1, h2⟩ := h_meth1 (nL := 1) rfl K
  rw [h2] at h1
  exact h1
theorem x_word_9 {kn : sKn} {w : sW} (hw : wOk ZZ w) : fX12_wordOf kn [hI 9] w = some (some (hJ (KW 9)), w, 0, 0) := by
  have K : Tp (tX12_wordOf kn) (fun r => r = (some (hJ (KW 9)), w, 0, 0)) 0 (lv_args 0 [hI 9], [], w, 0, 0) := by
    have l0 : hL (lv_args 0 [hI 9]) (lv_args 0 [hI 9]) := hL_ex rfl
    have o0 : hO [] w w := hO_rf hw
    refine h_iload rfl l0 rfl ?_
    refine h_tab 9 rfl (by unfold R32; omega) rfl (by omega) (by omega) rfl ?_
    refine h_intv k_98 rfl ?_
    refine h_intv k_114 rfl ?_
    refine h_intv k_101 rfl ?_
    refine h_intv k_97 rfl ?_
    refine h_intv k_107 rfl ?_
    refine h_intv k_115 rfl ?_
    refine h_intv k_0 rfl ?_
    refine h_S7 rfl o0 l0 rfl rfl (x_spelt (show R32 98 from ⟨by omega, by omega⟩) (show R32 114 from ⟨by omega, by omega⟩) (show R32 101 from ⟨by omega, by omega⟩) (show R32 97 from ⟨by omega, by omega⟩) (show R32 107 from ⟨by omega, by omega⟩) (show R32 115 from ⟨by omega, by omega⟩) (show R32 0 from ⟨by omega, by omega⟩)) ?_
    exact x_lret rfl (by rw [show ((zSp (zSp (zSp (zSp (zSp (27 * (98 - 96) + 114 - 96) 101) 97) 107) 115) 0) : Int) = KW 9 from by decide +kernel]; rfl)
  obtain ⟨r, h1, h2⟩ := h_meth1 (nL := 1) rfl K
  rw [h2] at h1
  exact h1
theorem x_word_10 {kn : sKn} {w : sW} (hw : wOk ZZ w) : fX12_wordOf kn [hI 10] w = some (some (hJ (KW 10)), w, 0, 0) := by
  have K : Tp (tX12_wordOf kn) (fun r => r = (some (hJ (KW 10)), w, 0, 0)) 0 (lv_args 0 [hI 10], [], w, 0, 0) := by
    have l0 : hL (lv_args 0 [hI 10]) (lv_args 0 [hI 10]) := hL_ex rfl
    have o0 : hO [] w w := hO_rf hw
    refine h_iload rfl l0 rfl ?_
    refine h_tab 10 rfl (by unfold R32; omega) rfl (by omega) (by omega) rfl ?_
    refine h_intv k_104 rfl ?_
    refine h_intv k_111 rfl ?_
    refine h_intv k_108 rfl ?_
    refine h_intv k_100 rfl ?_
    refine h_intv k_115 rfl ?_
    refine h_intv k_0 rfl ?_
    refine h_intv k_0 rfl ?_
    refine h_S7 rfl o0 l0 rfl rfl (x_spelt (show R32 104 from ⟨by omega, by omega⟩) (show R32 111 from ⟨by omega, by omega⟩) (show R32 108 from ⟨by omega, by omega⟩) (show R32 100 from ⟨by omega, by omega⟩) (show R32 115 from ⟨by omega, by omega⟩) (show R32 0 from ⟨by omega, by omega⟩) (show R32 0 from ⟨by omega, by omega⟩)) ?_
    exact x_lret rfl (by rw [show ((zSp (zSp (zSp (zSp (zSp (27 * (104 - 96) + 111 - 96) 108) 100) 115) 0) 0) : Int) = KW 10 from by decide +kernel]; rfl)
  obtain ⟨r, h1, h2⟩ := h_meth1 (nL := 1) rfl K
  rw [h2] at h1
  exact h1
theorem x_word_11 {kn : sKn} {w : sW} (hw : wOk ZZ w) : fX12_wordOf kn [hI 11] w = some (some (hJ (KW 11)), w, 0, 0) := by
  have K : Tp (tX12_wordOf kn) (fun r => r = (some (hJ (KW 11)), w, 0, 0)) 0 (lv_args 0 [hI 11], [], w, 0, 0) := by
    have l0 : hL (lv_args 0 [hI 11]) (lv_args 0 [hI 11]) := hL_ex rfl
    have o0 : hO [] w w := hO_rf hw
    refine h_iload rfl l0 rfl ?_
    refine h_tab 11 rfl (by unfold R32; omega) rfl (by omega) (by omega) rfl ?_
    refine h_intv k_100 rfl ?_
    refine h_intv k_105 rfl ?_
    refine h_intv k_101 rfl ?_
    refine h_intv k_115 rfl ?_
    refine h_intv k_0 rfl ?_
    refine h_intv k_0 rfl ?_
    refine h_intv k_0 rfl ?_
    refine h_S7 rfl o0 l0 rfl rfl (x_spelt (show R32 100 from ⟨by omega, by omega⟩) (show R32 105 from ⟨by omega, by omega⟩) (show R32 101 from ⟨by omega, by omega⟩) (show R32 115 from ⟨by omega, by omega⟩) (show R32 0 from ⟨by omega, by omega⟩) (show R32 0 from ⟨by omega, by omega⟩) (show R32 0 from ⟨by omega, by omega⟩)) ?_
    exact x_lret rfl (by rw [show ((zSp (zSp (zSp (zSp (zSp (27 * (100 - 96) + 105 - 96) 101) 115) 0) 0) 0) : Int) = KW 11 from by decide +kernel]; rfl)
  obtain ⟨r, h1, h2⟩ := h_meth1 (nL := 1) rfl K
  rw [h2] at h1
  exact h1
theorem x_word_12 {kn : sKn} {w : sW} (hw : wOk ZZ w) : fX12_wordOf kn [hI 12] w = some (some (hJ (KW 12)), w, 0, 0) := by
  have K : Tp (tX12_wordOf kn) (fun r => r = (some (hJ (KW 12)), w, 0, 0)) 0 (lv_args 0 [hI 12], [], w, 0, 0) := by
    have l0 : hL (lv_args 0 [hI 12]) (lv_args 0 [hI 12]) := hL_ex rfl
    have o0 : hO [] w w := hO_rf hw
    refine h_iload rfl l0 rfl ?_
    refine h_tab 12 rfl (by unfold R32; omega) rfl (by omega) (by omega) rfl ?_
    refine h_intv k_98 rfl ?_
    refine h_intv k_117 rfl ?_
    refine h_intv k_114 rfl ?_
    refine h_intv k_110 rfl ?_
    refine h_intv k_115 rfl ?_
    refine h_intv k_0 rfl ?_
    refine h_intv k_0 rfl ?_
    refine h_S7 rfl o0 l0 rfl rfl (x_spelt (show R32 98 from ⟨by omega, by omega⟩) (show R32 117 from ⟨by omega, by omega⟩) (show R32 114 from ⟨by omega, by omega⟩) (show R32 110 from ⟨by omega, by omega⟩) (show R32 115 from ⟨by omega, by omega⟩) (show R32 0 from ⟨by omega, by omega⟩) (show R32 0 from ⟨by omega, by omega⟩)) ?_
    exact x_lret rfl (by rw [show ((zSp (zSp (zSp (zSp (zSp (27 * (98 - 96) + 117 - 96) 114) 110) 115) 0) 0) : Int) = KW 12 from by decide +kernel]; rfl)
  obtain ⟨r, h1, h2⟩ := h_meth1 (nL := 1) rfl K
  rw [h2] at h1
  exact h1
theorem x_word_13 {kn : sKn} {w : sW} (hw : wOk ZZ w) : fX12_wordOf kn [hI 13] w = some (some (hJ (KW 13)), w, 0, 0) := by
  have K : Tp (tX12_wordOf kn) (fun r => r = (some (hJ (KW 13)), w, 0, 0)) 0 (lv_args 0 [hI 13], [], w, 0, 0) := by
    have l0 : hL (lv_args 0 [hI 13]) (lv_args 0 [hI 13]) := hL_ex rfl
    have o0 : hO [] w w := hO_rf hw
    refine h_iload rfl l0 rfl ?_
    refine h_tab 13 rfl (by unfold R32; omega) rfl (by omega) (by omega) rfl ?_
    refine h_intv k_99 rfl ?_
    refine h_intv k_114 rfl ?_
    refine h_intv k_111 rfl ?_
    refine h_intv k_115 rfl ?_
    refine h_intv k_115 rfl ?_
    refine h_intv k_101 rfl ?_
    refine h_intv k_115 rfl ?_
    refine h_S7 rfl o0 l0 rfl rfl (x_spelt (show R32 99 from ⟨by omega, by omega⟩) (show R32 114 from ⟨by omega, by omega⟩) (show R32 111 from ⟨by omega, by omega⟩) (show R32 115 from ⟨by omega, by omega⟩) (show R32 115 from ⟨by omega, by omega⟩) (show R32 101 from ⟨by omega, by omega⟩) (show R32 115 from ⟨by omega, by omega⟩)) ?_
    exact x_lret rfl (by rw [show ((zSp (zSp (zSp (zSp (zSp (27 * (99 - 96) + 114 - 96) 111) 115) 115) 101) 115) : Int) = KW 13 from by decide +kernel]; rfl)
  obtain ⟨r, h1, h2⟩ := h_meth1 (nL := 1) rfl K
  rw [h2] at h1
  exact h1
theorem x_word_14 {kn : sKn} {w : sW} (hw : wOk ZZ w) : fX12_wordOf kn [hI 14] w = some (some (hJ (KW 14)), w, 0, 0) := by
  have K : Tp (tX12_wordOf kn) (fun r => r = (some (hJ (KW 14)), w, 0, 0)) 0 (lv_args 0 [hI 14], [], w, 0, 0) := by
    have l0 : hL (lv_args 0 [hI 14]) (lv_args 0 [hI 14]) := hL_ex rfl
    have o0 : hO [] w w := hO_rf hw
    refine h_iload rfl l0 rfl ?_
    refine h_tab 14 rfl (by unfold R32; omega) rfl (by omega) (by omega) rfl ?_
    refine h_intv k_100 rfl ?_
    refine h_intv k_97 rfl ?_
    refine h_intv k_121 rfl ?_
    refine h_intv k_0 rfl ?_
    refine h_intv k_0 rfl ?_
    refine h_intv k_0 rfl ?_
    refine h_intv k_0 rfl ?_
    refine h_S7 rfl o0 l0 rfl rfl (x_spelt (show R32 100 from ⟨by omega, by omega⟩) (show R32 97 from ⟨by omega, by omega⟩) (show R32 121 from ⟨by omega, by omega⟩) (show R32 0 from ⟨by omega, by omega⟩) (show R32 0 from ⟨by omega, by omega⟩) (show R32 0 from ⟨by omega, by omega⟩) (show R32 0 from ⟨by omega, by omega⟩)) ?_
    exact x_lret rfl (by rw [show ((zSp (zSp (zSp (zSp (zSp (27 * (100 - 96) + 97 - 96) 121) 0) 0) 0) 0) : Int) = KW 14 from by decide +kernel]; rfl)
  obtain ⟨r, h1, h2⟩ := h_meth1 (nL := 1) rfl K
  rw [h2] at h1
  exact h1
theorem x_word_15 {kn : sKn} {w : sW} (hw : wOk ZZ w) : fX12_wordOf kn [hI 15] w = some (some (hJ (KW 15)), w, 0, 0) := by
  have K : Tp (tX12_wordOf kn) (fun r => r = (some (hJ (KW 15)), w, 0, 0)) 0 (lv_args 0 [hI 15], [], w, 0, 0) := by
    have l0 : hL (lv_args 0 [hI 15]) (lv_args 0 [hI 15]) := hL_ex rfl
    have o0 : hO [] w w := hO_rf hw
    refine h_iload rfl l0 rfl ?_
    refine h_tab 15 rfl (by unfold R32; omega) rfl (by omega) (by omega) rfl ?_
    refine h_intv k_111 rfl ?_
    refine h_intv k_114 rfl ?_
    refine h_intv k_0 rfl ?_
    refine h_intv k_0 rfl ?_
    refine h_intv k_0 rfl ?_
    refine h_intv k_0 rfl ?_
    refine h_intv k_0 rfl ?_
    refine h_S7 rfl o0 l0 rfl rfl (x_spelt (show R32 111 from ⟨by omega, by omega⟩) (show R32 114 from ⟨by omega, by omega⟩) (show R32 0 from ⟨by omega, by omega⟩) (show R32 0 from ⟨by omega, by omega⟩) (show R32 0 from ⟨by omega, by omega⟩) (show R32 0 from ⟨by omega, by omega⟩) (show R32 0 from ⟨by omega, by omega⟩)) ?_
    exact x_lret rfl (by rw [show ((zSp (zSp (zSp (zSp (zSp (27 * (111 - 96) + 114 - 96) 0) 0) 0) 0) 0) : Int) = KW 15 from by decide +kernel]; rfl)
  obtain ⟨r, h1, h2⟩ := h_meth1 (nL := 1) rfl K
  rw [h2] at h1
  exact h1
theorem x_word_16 {kn : sKn} {w : sW} (hw : wOk ZZ w) : fX12_wordOf kn [hI 16] w = some (some (hJ (KW 16)), w, 0, 0) := by
  have K : Tp (tX12_wordOf kn) (fun r => r = (some (hJ (KW 16)), w, 0, 0)) 0 (lv_args 0 [hI 16], [], w, 0, 0) := by
    have l0 : hL (lv_args 0 [hI 16]) (lv_args 0 [hI 16]) := hL_ex rfl
    have o0 : hO [] w w := hO_rf hw
    refine h_iload rfl l0 rfl ?_
    refine h_tab 16 rfl (by unfold R32; omega) rfl (by omega) (by omega) rfl ?_
    refine h_intv k_97 rfl ?_
    refine h_intv k_110 rfl ?_
    refine h_intv k_100 rfl ?_
    refine h_intv k_0 rfl ?_
    refine h_intv k_0 rfl ?_
    refine h_intv k_0 rfl ?_
    refine h_intv k_0 rfl ?_
    refine h_S7 rfl o0 l0 rfl rfl (x_spelt (show R32 97 from ⟨by omega, by omega⟩) (show R32 110 from ⟨by omega, by omega⟩) (show R32 100 from ⟨by omega, by omega⟩) (show R32 0 from ⟨by omega, by omega⟩) (show R32 0 from ⟨by omega, by omega⟩) (show R32 0 from ⟨by omega, by omega⟩) (show R32 0 from ⟨by omega, by omega⟩)) ?_
    exact x_lret rfl (by rw [show ((zSp (zSp (zSp (zSp (zSp (27 * (97 - 96) + 110 - 96) 100) 0) 0) 0) 0) : Int) = KW 16 from by decide +kernel]; rfl)
  obtain ⟨r, h1, h2⟩ := h_meth1 (nL := 1) rfl K
  rw [h2] at h1
  exact h1
theorem x_word_17 {kn : sKn} {w : sW} (hw : wOk ZZ w) : fX12_wordOf kn [hI 17] w = some (some (hJ (KW 17)), w, 0, 0) := by
  have K : Tp (tX12_wordOf kn) (fun r => r = (some (hJ (KW 17)), w, 0, 0)) 0 (lv_args 0 [hI 17], [], w, 0, 0) := by
    have l0 : hL (lv_args 0 [hI 17]) (lv_args 0 [hI 17]) := hL_ex rfl
    have o0 : hO [] w w := hO_rf hw
    refine h_iload rfl l0 rfl ?_
    refine h_tab 17 rfl (by unfold R32; omega) rfl (by omega) (by omega) rfl ?_
    refine h_intv k_110 rfl ?_
    refine h_intv k_111 rfl ?_
    refine h_intv k_116 rfl ?_
    refine h_intv k_0 rfl ?_
    refine h_intv k_0 rfl ?_
    refine h_intv k_0 rfl ?_
    refine h_intv k_0 rfl ?_
    refine h_S7 rfl o0 l0 rfl rfl (x_spelt (show R32 110 from ⟨by omega, by omega⟩) (show R32 111 from ⟨by omega, by omega⟩) (show R32 116 from ⟨by omega, by omega⟩) (show R32 0 from ⟨by omega, by omega⟩) (show R32 0 from ⟨by omega, by omega⟩) (show R32 0 from ⟨by omega, by omega⟩) (show R32 0 from ⟨by omega, by omega⟩)) ?_
    exact x_lret rfl (by rw [show ((zSp (zSp (zSp (zSp (zSp (27 * (110 - 96) + 111 - 96) 116) 0) 0) 0) 0) : Int) = KW 17 from by decide +kernel]; rfl)
  obtain ⟨r, h1, h2⟩ := h_meth1 (nL := 1) rfl K
  rw [h2] at h1
  exact h1
theorem x_word_18 {kn : sKn} {w : sW} (hw : wOk ZZ w) : fX12_wordOf kn [hI 18] w = some (some (hJ (KW 18)), w, 0, 0) := by
  have K : Tp (tX12_wordOf kn) (fun r => r = (some (hJ (KW 18)), w, 0, 0)) 0 (lv_args 0 [hI 18], [], w, 0, 0) := by
    have l0 : hL (lv_args 0 [hI 18]) (lv_args 0 [hI 18]) := hL_ex rfl
    have o0 : hO [] w w := hO_rf hw
    refine h_iload rfl l0 rfl ?_
    refine h_tab 18 rfl (by unfold R32; omega) rfl (by omega) (by omega) rfl ?_
    refine h_intv k_100 rfl ?_
    refine h_intv k_101 rfl ?_
    refine h_intv k_97 rfl ?_
    refine h_intv k_100 rfl ?_
    refine h_intv k_0 rfl ?_
    refine h_intv k_0 rfl ?_
    refine h_intv k_0 rfl ?_
    refine h_S7 rfl o0 l0 rfl rfl (x_spelt (show R32 100 from ⟨by omega, by omega⟩) (show R32 101 from ⟨by omega, by omega⟩) (show R32 97 from ⟨by omega, by omega⟩) (show R32 100 from ⟨by omega, by omega⟩) (show R32 0 from ⟨by omega, by omega⟩) (show R32 0 from ⟨by omega, by omega⟩) (show R32 0 from ⟨by omega, by omega⟩)) ?_
    exact x_lret rfl (by rw [show ((zSp (zSp (zSp (zSp (zSp (27 * (100 - 96) + 101 - 96) 97) 100) 0) 0) 0) : Int) = KW 18 from by decide +kernel]; rfl)
  obtain ⟨r, h1, h2⟩ := h_meth1 (nL := 1) rfl K
  rw [h2] at h1
  exact h1
theorem x_word_19 {kn : sKn} {w : sW} (hw : wOk ZZ w) : fX12_wordOf kn [hI 19] w = some (some (hJ (KW 19)), w, 0, 0) := by
  have K : Tp (tX12_wordOf kn) (fun r => r = (some (hJ (KW 19)), w, 0, 0)) 0 (lv_args 0 [hI 19], [], w, 0, 0) := by
    have l0 : hL (lv_args 0 [hI 19]) (lv_args 0 [hI 19]) := hL_ex rfl
    have o0 : hO [] w w := hO_rf hw
    refine h_iload rfl l0 rfl ?_
    refine h_tab 19 rfl (by unfold R32; omega) rfl (by omega) (by omega) rfl ?_
    refine h_intv k_102 rfl ?_
    refine h_intv k_111 rfl ?_
    refine h_intv k_114 rfl ?_
    refine h_intv k_103 rfl ?_
    refine h_intv k_101 rfl ?_
    refine h_intv k_100 rfl ?_
    refine h_intv k_0 rfl ?_
    refine h_S7 rfl o0 l0 rfl rfl (x_spelt (show R32 102 from ⟨by omega, by omega⟩) (show R32 111 from ⟨by omega, by omega⟩) (show R32 114 from ⟨by omega, by omega⟩) (show R32 103 from ⟨by omega, by omega⟩) (show R32 101 from ⟨by omega, by omega⟩) (show R32 100 from ⟨by omega, by omega⟩) (show R32 0 from ⟨by omega, by omega⟩)) ?_
    exact x_lret rfl (by rw [show ((zSp (zSp (zSp (zSp (zSp (27 * (102 - 96) + 111 - 96) 114) 103) 101) 100) 0) : Int) = KW 19 from by decide +kernel]; rfl)
  obtain ⟨r, h1, h2⟩ := h_meth1 (nL := 1) rfl K
  rw [h2] at h1
  exact h1
theorem x_word_20 {kn : sKn} {w : sW} (hw : wOk ZZ w) : fX12_wordOf kn [hI 20] w = some (some (hJ (KW 20)), w, 0, 0) := by
  have K : Tp (tX12_wordOf kn) (fun r => r = (some (hJ (KW 20)), w, 0, 0)) 0 (lv_args 0 [hI 20], [], w, 0, 0) := by
    have l0 : hL (lv_args 0 [hI 20]) (lv_args 0 [hI 20]) := hL_ex rfl
    have o0 : hO [] w w := hO_rf hw
    refine h_iload rfl l0 rfl ?_
    refine h_tab 20 rfl (by unfold R32; omega) rfl (by omega) (by omega) rfl ?_
    refine h_intv k_108 rfl ?_
    refine h_intv k_111 rfl ?_
    refine h_intv k_118 rfl ?_
    refine h_intv k_101 rfl ?_
    refine h_intv k_115 rfl ?_
    refine h_intv k_0 rfl ?_
    refine h_intv k_0 rfl ?_
    refine h_S7 rfl o0 l0 rfl rfl (x_spelt (show R32 108 from ⟨by omega, by omega⟩) (show R32 111 from ⟨by omega, by omega⟩) (show R32 118 from ⟨by omega, by omega⟩) (show R32 101 from ⟨by omega, by omega⟩) (show R32 115 from ⟨by omega, by omega⟩) (show R32 0 from ⟨by omega, by omega⟩) (show R32 0 from ⟨by omega, by omega⟩)) ?_
    exact x_lret rfl (by rw [show ((zSp (zSp (zSp (zSp (zSp (27 * (108 - 96) + 111 - 96) 118) 101) 115) 0) 0) : Int) = KW 20 from by decide +kernel]; rfl)
  obtain ⟨r, h1, h2⟩ := h_meth1 (nL := 1) rfl K
  rw [h2] at h1
  exact h1
theorem x_word_21 {kn : sKn} {w : sW} (hw : wOk ZZ w) : fX12_wordOf kn [hI 21] w = some (some (hJ (KW 21)), w, 0, 0) := by
  have K : Tp (tX12_wordOf kn) (fun r => r = (some (hJ (KW 21)), w, 0, 0)) 0 (lv_args 0 [hI 21], [], w, 0, 0) := by
    have l0 : hL (lv_args 0 [hI 21]) (lv_args 0 [hI 21]) := hL_ex rfl
    have o0 : hO [] w w := hO_rf hw
    refine h_iload rfl l0 rfl ?_
    refine h_tab 21 rfl (by unfold R32; omega) rfl (by omega) (by omega) rfl ?_
    refine h_intv k_102 rfl ?_
    refine h_intv k_111 rfl ?_
    refine h_intv k_108 rfl ?_
    refine h_intv k_108 rfl ?_
    refine h_intv k_111 rfl ?_
    refine h_intv k_119 rfl ?_
    refine h_intv k_115 rfl ?_
    refine h_S7 rfl o0 l0 rfl rfl (x_spelt (show R32 102 from ⟨by omega, by omega⟩) (show R32 111 from ⟨by omega, by omega⟩) (show R32 108 from ⟨by omega, by omega⟩) (show R32 108 from ⟨by omega, by omega⟩) (show R32 111 from ⟨by omega, by omega⟩) (show R32 119 from ⟨by omega, by omega⟩) (show R32 115 from ⟨by omega, by omega⟩)) ?_
    exact x_lret rfl (by rw [show ((zSp (zSp (zSp (zSp (zSp (27 * (102 - 96) + 111 - 96) 108) 108) 111) 119) 115) : Int) = KW 21 from by decide +kernel]; rfl)
  obtain ⟨r, h1, h2⟩ := h_meth1 (nL := 1) rfl K
  rw [h2] at h1
  exact h1
theorem x_word_22 {kn : sKn} {w : sW} (hw : wOk ZZ w) : fX12_wordOf kn [hI 22] w = some (some (hJ (KW 22)), w, 0, 0) := by
  have K : Tp (tX12_wordOf kn) (fun r => r = (some (hJ (KW 22)), w, 0, 0)) 0 (lv_args 0 [hI 22], [], w, 0, 0) := by
    have l0 : hL (lv_args 0 [hI 22]) (lv_args 0 [hI 22]) := hL_ex rfl
    have o0 : hO [] w w := hO_rf hw
    refine h_iload rfl l0 rfl ?_
    refine h_tab 22 rfl (by unfold R32; omega) rfl (by omega) (by omega) rfl ?_
    refine h_intv k_111 rfl ?_
    refine h_intv k_110 rfl ?_
    refine h_intv k_0 rfl ?_
    refine h_intv k_0 rfl ?_
    refine h_intv k_0 rfl ?_
    refine h_intv k_0 rfl ?_
    refine h_intv k_0 rfl ?_
    refine h_S7 rfl o0 l0 rfl rfl (x_spelt (show R32 111 from ⟨by omega, by omega⟩) (show R32 110 from ⟨by omega, by omega⟩) (show R32 0 from ⟨by omega, by omega⟩) (show R32 0 from ⟨by omega, by omega⟩) (show R32 0 from ⟨by omega, by omega⟩) (show R32 0 from ⟨by omega, by omega⟩) (show R32 0 from ⟨by omega, by omega⟩)) ?_
    exact x_lret rfl (by rw [show ((zSp (zSp (zSp (zSp (zSp (27 * (111 - 96) + 110 - 96) 0) 0) 0) 0) 0) : Int) = KW 22 from by decide +kernel]; rfl)
  obtain ⟨r, h1, h2⟩ := h_meth1 (nL := 1) rfl K
  rw [h2] at h1
  exact h1
theorem x_word_23 {kn : sKn} {w : sW} (hw : wOk ZZ w) : fX12_wordOf kn [hI 23] w = some (some (hJ (KW 23)), w, 0, 0) := by
  have K : Tp (tX12_wordOf kn) (fun r => r = (some (hJ (KW 23)), w, 0, 0)) 0 (lv_args 0 [hI 23], [], w, 0, 0) := by
    have l0 : hL (lv_args 0 [hI 23]) (lv_args 0 [hI 23]) := hL_ex rfl
    have o0 : hO [] w w := hO_rf hw
    refine h_iload rfl l0 rfl ?_
    refine h_tab 23 rfl (by unfold R32; omega) rfl (by omega) (by omega) rfl ?_
    refine h_intv k_101 rfl ?_
    refine h_intv k_97 rfl ?_
    refine h_intv k_114 rfl ?_
    refine h_intv k_110 rfl ?_
    refine h_intv k_101 rfl ?_
    refine h_intv k_115 rfl ?_
    refine h_intv k_116 rfl ?_
    refine h_S7 rfl o0 l0 rfl rfl (x_spelt (show R32 101 from ⟨by omega, by omega⟩) (show R32 97 from ⟨by omega, by omega⟩) (show R32 114 from ⟨by omega, by omega⟩) (show R32 110 from ⟨by omega, by omega⟩) (show R32 101 from ⟨by omega, by omega⟩) (show R32 115 from ⟨by omega, by omega⟩) (show R32 116 from ⟨by omega, by omega⟩)) ?_
    exact x_lret rfl (by rw [show ((zSp (zSp (zSp (zSp (zSp (27 * (101 - 96) + 97 - 96) 114) 110) 101) 115) 116) : Int) = KW 23 from by decide +kernel]; rfl)
  obtain ⟨r, h1, h2⟩ := h_meth1 (nL := 1) rfl K
  rw [h2] at h1
  exact h1
theorem x_word_24 {kn : sKn} {w : sW} (hw : wOk ZZ w) : fX12_wordOf kn [hI 24] w = some (some (hJ (KW 24)), w, 0, 0) := by
  have K : Tp (tX12_wordOf kn) (fun r => r = (some (hJ (KW 24)), w, 0, 0)) 0 (lv_args 0 [hI 24], [], w, 0, 0) := by
    have l0 : hL (lv_args 0 [hI 24]) (lv_args 0 [hI 24]) := hL_ex rfl
    have o0 : hO [] w w := hO_rf hw
    refine h_iload rfl l0 rfl ?_
    refine h_tab 24 rfl (by unfold R32; omega) rfl (by omega) (by omega) rfl ?_
    refine h_intv k_112 rfl ?_
    refine h_intv k_108 rfl ?_
    refine h_intv k_97 rfl ?_
    refine h_intv k_110 rfl ?_
    refine h_intv k_107 rfl ?_
    refine h_intv k_115 rfl ?_
    refine h_intv k_0 rfl ?_
    refine h_S7 rfl o0 l0 rfl rfl (x_spelt (show R32 112 from ⟨by omega, by omega⟩) (show R32 108 from ⟨by omega, by omega⟩) (show R32 97 from ⟨by omega, by omega⟩) (show R32 110 from ⟨by omega, by omega⟩) (show R32 107 from ⟨by omega, by omega⟩) (show R32 115 from ⟨by omega, by omega⟩) (show R32 0 from ⟨by omega, by omega⟩)) ?_
    exact x_lret rfl (by rw [show ((zSp (zSp (zSp (zSp (zSp (27 * (112 - 96) + 108 - 96) 97) 110) 107) 115) 0) : Int) = KW 24 from by decide +kernel]; rfl)
  obtain ⟨r, h1, h2⟩ := h_meth1 (nL := 1) rfl K
  rw [h2] at h1
  exact h1
theorem x_word_25 {kn : sKn} {w : sW} (hw : wOk ZZ w) : fX12_wordOf kn [hI 25] w = some (some (hJ (KW 25)), w, 0, 0) := by
  have K : Tp (tX12_wordOf kn) (fun r => r = (some (hJ (KW 25)), w, 0, 0)) 0 (lv_args 0 [hI 25], [], w, 0, 0) := by
    have l0 : hL (lv_args 0 [hI 25]) (lv_args 0 [hI 25]) := hL_ex rfl
    have o0 : hO [] w w := hO_rf hw
    refine h_iload rfl l0 rfl ?_
    refine h_tab 25 rfl (by unfold R32; omega) rfl (by omega) (by omega) rfl ?_
    refine h_intv k_109 rfl ?_
    refine h_intv k_105 rfl ?_
    refine h_intv k_108 rfl ?_
    refine h_intv k_101 rfl ?_
    refine h_intv k_115 rfl ?_
    refine h_intv k_0 rfl ?_
    refine h_intv k_0 rfl ?_
    refine h_S7 rfl o0 l0 rfl rfl (x_spelt (show R32 109 from ⟨by omega, by omega⟩) (show R32 105 from ⟨by omega, by omega⟩) (show R32 108 from ⟨by omega, by omega⟩) (show R32 101 from ⟨by omega, by omega⟩) (show R32 115 from ⟨by omega, by omega⟩) (show R32 0 from ⟨by omega, by omega⟩) (show R32 0 from ⟨by omega, by omega⟩)) ?_
    exact x_lret rfl (by rw [show ((zSp (zSp (zSp (zSp (zSp (27 * (109 - 96) + 105 - 96) 108) 101) 115) 0) 0) : Int) = KW 25 from by decide +kernel]; rfl)
  obtain ⟨r, h1, h2⟩ := h_meth1 (nL := 1) rfl K
  rw [h2] at h1
  exact h1
theorem x_word_26 {kn : sKn} {w : sW} (hw : wOk ZZ w) : fX12_wordOf kn [hI 26] w = some (some (hJ (KW 26)), w, 0, 0) := by
  have K : Tp (tX12_wordOf kn) (fun r => r = (some (hJ (KW 26)), w, 0, 0)) 0 (lv_args 0 [hI 26], [], w, 0, 0) := by
    have l0 : hL (lv_args 0 [hI 26]) (lv_args 0 [hI 26]) := hL_ex rfl
    have o0 : hO [] w w := hO_rf hw
    refine h_iload rfl l0 rfl ?_
    refine h_tabd rfl (by unfold R32; omega) (by omega) ?_
    refine h_intv k_110 rfl ?_
    refine h_intv k_117 rfl ?_
    refine h_intv k_109 rfl ?_
    refine h_intv k_98 rfl ?_
    refine h_intv k_101 rfl ?_
    refine h_intv k_114 rfl ?_
    refine h_intv k_0 rfl ?_
    refine h_S7 rfl o0 l0 rfl rfl (x_spelt (show R32 110 from ⟨by omega, by omega⟩) (show R32 117 from ⟨by omega, by omega⟩) (show R32 109 from ⟨by omega, by omega⟩) (show R32 98 from ⟨by omega, by omega⟩) (show R32 101 from ⟨by omega, by omega⟩) (show R32 114 from ⟨by omega, by omega⟩) (show R32 0 from ⟨by omega, by omega⟩)) ?_
    exact x_lret rfl (by rw [show ((zSp (zSp (zSp (zSp (zSp (27 * (110 - 96) + 117 - 96) 109) 98) 101) 114) 0) : Int) = KW 26 from by decide +kernel]; rfl)
  obtain ⟨r, h1, h2⟩ := h_meth1 (nL := 1) rfl K
  rw [h2] at h1
  exact h1
theorem x_wordOf {kn : sKn} {w : sW} (hw : wOk ZZ w) (k : Nat) (hk : k < 27) : fX12_wordOf kn [hI (k : Int)] w = some (some (hJ (KW k)), w, 0, 0) := by
  match k, hk with
  | 0, _ => exact x_word_0 hw
  | 1, _ => exact x_word_1 hw
  | 2, _ => exact x_word_2 hw
  | 3, _ => exact x_word_3 hw
  | 4, _ => exact x_word_4 hw
  | 5, _ => exact x_word_5 hw
  | 6, _ => exact x_word_6 hw
  | 7, _ => exact x_word_7 hw
  | 8, _ => exact x_word_8 hw
  | 9, _ => exact x_word_9 hw
  | 10, _ => exact x_word_10 hw
  | 11, _ => exact x_word_11 hw
  | 12, _ => exact x_word_12 hw
  | 13, _ => exact x_word_13 hw
  | 14, _ => exact x_word_14 hw
  | 15, _ => exact x_word_15 hw
  | 16, _ => exact x_word_16 hw
  | 17, _ => exact x_word_17 hw
  | 18, _ => exact x_word_18 hw
  | 19, _ => exact x_word_19 hw
  | 20, _ => exact x_word_20 hw
  | 21, _ => exact x_word_21 hw
  | 22, _ => exact x_word_22 hw
  | 23, _ => exact x_word_23 hw
  | 24, _ => exact x_word_24 hw
  | 25, _ => exact x_word_25 hw
  | 26, _ => exact x_word_26 hw
  | k + 27, h => exact absurd h (by omega)
theorem tkU_i {S : tS} {kd fr nu sg to_ : Int} {wd : Int64} (h : tkU S kd fr nu sg wd to_) : fr = S.2.1 ∧ ((S.1 = 0 ∧ kd = 0) ∨ (S.1 = 1 ∧ kd = 1) ∨ (S.1 = 2 ∧ kd = 4 ∧ sg = S.2.2.1) ∨ (S.1 = 3 ∧ kd = 3 ∧ nu = S.2.2.1) ∨ (S.1 = 4 ∧ kd = 2) ∨ (S.1 = 5 ∧ kd = 2)) ∧ (2 ≤ S.1 → to_ = (S.2.2.2.2 : Int)) ∧ (4 ≤ S.1 → wd = Int64.ofInt S.2.2.2.1) := by
  obtain ⟨h1, h2⟩ := h
  refine ⟨h1, ?_, ?_, ?_⟩
  · rcases h2 with h | h | ⟨a, b, c, _⟩ | ⟨a, b, c, _⟩ | ⟨a, b, _⟩ | ⟨a, b, _⟩
    · exact Or.inl h
    · exact Or.inr (Or.inl h)
    · exact Or.inr (Or.inr (Or.inl ⟨a, b, c⟩))
    · exact Or.inr (Or.inr (Or.inr (Or.inl ⟨a, b, c⟩)))
    · exact Or.inr (Or.inr (Or.inr (Or.inr (Or.inl ⟨a, b⟩))))
    · exact Or.inr (Or.inr (Or.inr (Or.inr (Or.inr ⟨a, b⟩))))
  · intro e
    rcases h2 with ⟨a, _⟩ | ⟨a, _⟩ | ⟨_, _, _, d⟩ | ⟨_, _, _, d⟩ | ⟨_, _, _, d⟩ | ⟨_, _, _, d⟩
    · omega
    · omega
    · exact d
    · exact d
    · exact d
    · exact d
  · intro e
    rcases h2 with ⟨a, _⟩ | ⟨a, _⟩ | ⟨a, _⟩ | ⟨a, _⟩ | ⟨_, _, d, _⟩ | ⟨_, _, d, _⟩
    · omega
    · omega
    · omega
    · omega
    · exact d
    · exact d
theorem KW_R (k : Nat) (hk : k < 27) : R60 (KW k) := by
  have h := KW_bd k hk
  have e : (27 : Int) ^ 7 = 10460353203 := by decide +kernel
  rw [e] at h
  exact ⟨by omega, by omega⟩
theorem nm_R {N : Int} (h : 0 ≤ N ∧ N < 27 ^ 7) : R60 N := by
  have e : (27 : Int) ^ 7 = 10460353203 := by decide +kernel
  rw [e] at h
  exact ⟨by omega, by omega⟩
/-- the words and names by their counts -/
theorem tkG_w {B : Nat → Int} {n L : Nat} {S : tS} (h : tkG B n L S) (k : Nat) (hk : k < 27) : (S.1 = 4 → (Int64.ofInt S.2.2.2.1 = Int64.ofInt (KW k) ↔ S.2.2.1 = (k : Int))) ∧ (S.1 = 5 → ¬ Int64.ofInt S.2.2.2.1 = Int64.ofInt (KW k)) := by
  obtain ⟨p, hp, rfl⟩ := h
  obtain ⟨h4, h5⟩ := lexT_wd B n L p
  constructor
  · intro e
    obtain ⟨j, hj, e1, e2⟩ := h4 e
    rw [e1, e2, hJ_inj (KW_R j hj) (KW_R k hk)]
    constructor
    · intro z
      rw [KW_inj j hj k hk z]
    · intro z
      have : j = k := by omega
      rw [this]
  · intro e
    obtain ⟨n1, n2⟩ := h5 e
    rw [hJ_inj (nm_R n2) (KW_R k hk)]
    exact n1 k hk
def dRT : List (Nat × Nat) := [(61, 777), (61, 778), (61, 0), (61, 2), (61, 3), (61, 4), (61, 5), (61, 6), (61, 7), (61, 8), (61, 9), (61, 10), (61, 11), (61, 12), (61, 13), (61, 24), (61, 25), (61, 26), (64, 999), (69, 999)]
theorem dRT_g : msub dH_go7 dRT = true := by decide +kernel
def eRT : List (Nat × Nat × Nat) := [(0, 213, 5), (0, 213, 6), (0, 213, 7), (0, 213, 8), (0, 213, 9), (1, 213, 12), (0, 213, 10), (0, 213, 11), (0, 213, 13)]
theorem x_isWord {kn : sKn} {w : sW} {B : Nat → Int} {n L : Nat} {S : tS} (hw : wOk ZZ w) (ht : tkR B n L S w) (hG : tkG B n L S) (k : Nat) (hk27 : k < 27) : ∃ b : Int, fX12_isWord kn [.ref 213, hI (k : Int)] w = some (some (hI b), w, 0, 0) ∧ ((b = 1 ∧ S.1 = 4 ∧ S.2.2.1 = (k : Int)) ∨ (b = 0 ∧ (S.1 ≠ 4 ∨ S.2.2.1 ≠ (k : Int)))) := by
  obtain ⟨tx, hv⟩ := ht
  obtain ⟨hfr, hkI, hto, hwd⟩ := tkU_i hv
  obtain ⟨g4, g5⟩ := tkG_w hG k hk27
  have K : Tp (tX12_isWord kn) (fun r => ∃ b : Int, r = (some (hI b), w, 0, 0) ∧ ((b = 1 ∧ S.1 = 4 ∧ S.2.2.1 = (k : Int)) ∨ (b = 0 ∧ (S.1 ≠ 4 ∨ S.2.2.1 ≠ (k : Int))))) 0 (lv_args 0 [.ref 213, hI (k : Int)], [], w, 0, 0) := by
    have l0 : hL (lv_args 0 [.ref 213, hI (k : Int)]) (lv_args 0 [.ref 213, hI (k : Int)]) := hL_ex rfl
    have o0 : hO [] w w := hO_rf hw
    refine h_aload rfl l0 rfl ?_
    refine h_getI rfl o0 fi_7 (fun b41a b41b => ?_)
    refine h_intv k_2 rfl ?_
    refine i_ne (kn := kn) (t := 1) (tgt := 24) (np := 8) rfl (by unfold R32; omega) (by unfold R32; omega) (fun e42 => ?_) (fun e42 => ?_)
    · refine h_intv k_0 rfl ?_
      refine h_zret (by omega) rfl ?_
      exact ⟨_, rfl, by omega⟩
    · refine h_aload rfl l0 rfl ?_
      refine h_getJv rfl o0 fj_12 ?_
      refine h_iload rfl l0 rfl ?_
      have hf43 := x_wordOf (kn := kn) o0.1 k hk27
      refine h_S1 rfl o0 l0 rfl rfl hf43 ?_
      refine x_lcmp rfl (fun c44 c44a c44b c44e => ?_)
      have hcw : 4 ≤ S.1 := by omega
      rw [hwd hcw] at c44e
      have cc : (c44 = 0 ∧ S.1 = 4 ∧ S.2.2.1 = (k : Int)) ∨ (c44 ≠ 0 ∧ (S.1 ≠ 4 ∨ S.2.2.1 ≠ (k : Int))) := by
        have s45 : S.1 = 4 ∨ S.1 = 5 := by omega
        rcases s45 with s4 | s5
        · by_cases z : S.2.2.1 = (k : Int)
          · exact Or.inl ⟨c44e.mpr ((g4 s4).mpr z), s4, z⟩
          · exact Or.inr ⟨fun h => z ((g4 s4).mp (c44e.mp h)), Or.inr z⟩
        · exact Or.inr ⟨fun h => g5 s5 (c44e.mp h), Or.inl (by omega)⟩
      refine j_ne (kn := kn) (t := 1) (tgt := 24) (np := 20) rfl (by unfold R32; omega) (fun e45 => ?_) (fun e45 => ?_)
      · refine h_intv k_0 rfl ?_
        refine h_zret (by omega) rfl ?_
        exact ⟨_, rfl, by omega⟩
      · refine h_intv k_1 rfl ?_
        refine h_goto rfl ?_
        refine h_zret (by omega) rfl ?_
        exact ⟨_, rfl, by omega⟩
  obtain ⟨r, h1, b, h2, h3⟩ := h_meth1 (nL := 2) rfl K
  rw [h2] at h1
  exact ⟨b, h1, h3⟩
theorem x_isSignR {kn : sKn} {w : sW} {B : Nat → Int} {n L : Nat} {S : tS} (hw : wOk ZZ w) (ht : tkR B n L S w) (hG : tkG B n L S) (x : Int) (hx : R32 x) : ∃ b : Int, fX12_isSign kn [.ref 213, hI x] w = some (some (hI b), w, 0, 0) ∧ ((b = 1 ∧ S.1 = 2 ∧ S.2.2.1 = x) ∨ (b = 0 ∧ (S.1 ≠ 2 ∨ S.2.2.1 ≠ x))) := by
  obtain ⟨tx, hv⟩ := ht
  obtain ⟨hfr, hkI, hto, hwd⟩ := tkU_i hv
  have hx1 := hx.1
  have hx2 := hx.2
  have K : Tp (tX12_isSign kn) (fun r => ∃ b : Int, r = (some (hI b), w, 0, 0) ∧ ((b = 1 ∧ S.1 = 2 ∧ S.2.2.1 = x) ∨ (b = 0 ∧ (S.1 ≠ 2 ∨ S.2.2.1 ≠ x)))) 0 (lv_args 0 [.ref 213, hI x], [], w, 0, 0) := by
    have l0 : hL (lv_args 0 [.ref 213, hI x]) (lv_args 0 [.ref 213, hI x]) := hL_ex rfl
    have o0 : hO [] w w := hO_rf hw
    refine h_aload rfl l0 rfl ?_
    refine h_getI rfl o0 fi_7 (fun b41a b41b => ?_)
    refine h_intv k_4 rfl ?_
    refine i_ne (kn := kn) (t := 1) (tgt := 20) (np := 8) rfl (by unfold R32; omega) (by unfold R32; omega) (fun e42 => ?_) (fun e42 => ?_)
    · refine h_intv k_0 rfl ?_
      refine h_zret (by omega) rfl ?_
      exact ⟨_, rfl, by omega⟩
    · refine h_aload rfl l0 rfl ?_
      refine h_getI rfl o0 fi_9 (fun b43a b43b => ?_)
      refine h_iload rfl l0 rfl ?_
      refine i_ne (kn := kn) (t := 1) (tgt := 20) (np := 16) rfl (by unfold R32; omega) (by unfold R32; omega) (fun e44 => ?_) (fun e44 => ?_)
      · refine h_intv k_0 rfl ?_
        refine h_zret (by omega) rfl ?_
        exact ⟨_, rfl, by omega⟩
      · refine h_intv k_1 rfl ?_
        refine h_goto rfl ?_
        refine h_zret (by omega) rfl ?_
        exact ⟨_, rfl, by omega⟩
  obtain ⟨r, h1, b, h2, h3⟩ := h_meth1 (nL := 2) rfl K
  rw [h2] at h1
  exact ⟨b, h1, h3⟩
theorem x_isIn {kn : sKn} {w : sW} (hw : wOk ZZ w) (x lo hi : Int) (hx : R32 x) (hlo : R32 lo) (hhi : R32 hi) : ∃ b : Int, fX12_isIn kn [hI x, hI lo, hI hi] w = some (some (hI b), w, 0, 0) ∧ ((b = 1 ∧ lo ≤ x ∧ x ≤ hi) ∨ (b = 0 ∧ (x < lo ∨ hi < x))) := by
  have hx1 := hx.1
  have hx2 := hx.2
  have hl1 := hlo.1
  have hl2 := hlo.2
  have hh1 := hhi.1
  have hh2 := hhi.2
  have K : Tp (tX12_isIn kn) (fun r => ∃ b : Int, r = (some (hI b), w, 0, 0) ∧ ((b = 1 ∧ lo ≤ x ∧ x ≤ hi) ∨ (b = 0 ∧ (x < lo ∨ hi < x)))) 0 (lv_args 0 [hI x, hI lo, hI hi], [], w, 0, 0) := by
    have l0 : hL (lv_args 0 [hI x, hI lo, hI hi]) (lv_args 0 [hI x, hI lo, hI hi]) := hL_ex rfl
    have o0 : hO [] w w := hO_rf hw
    refine h_iload rfl l0 rfl ?_
    refine h_iload rfl l0 rfl ?_
    refine i_lt (kn := kn) (t := 2) (tgt := 14) (np := 5) rfl (by unfold R32; omega) (by unfold R32; omega) (fun e41 => ?_) (fun e41 => ?_)
    · refine h_intv k_0 rfl ?_
      refine h_zret (by omega) rfl ?_
      exact ⟨_, rfl, by omega⟩
    · refine h_iload rfl l0 rfl ?_
      refine h_iload rfl l0 rfl ?_
      refine i_gt (kn := kn) (t := 4) (tgt := 14) (np := 10) rfl (by unfold R32; omega) (by unfold R32; omega) (fun e42 => ?_) (fun e42 => ?_)
      · refine h_intv k_0 rfl ?_
        refine h_zret (by omega) rfl ?_
        exact ⟨_, rfl, by omega⟩
      · refine h_intv k_1 rfl ?_
        refine h_goto rfl ?_
        refine h_zret (by omega) rfl ?_
        exact ⟨_, rfl, by omega⟩
  obtain ⟨r, h1, b, h2, h3⟩ := h_meth1 (nL := 3) rfl K
  rw [h2] at h1
  exact ⟨b, h1, h3⟩
theorem x_isName_l {kn : sKn} {w : sW} {B : Nat → Int} {n L : Nat} {S : tS} (hw : wOk ZZ w) (ht : tkR B n L S w) (hG : tkG B n L S) (h45 : 4 ≤ S.1) : ∀ (d k : Nat) (lv : List (Nat × Value)), k + d = 27 → (S.1 = 4 → ∀ i : Nat, i < k → S.2.2.1 ≠ (i : Int)) → hL lv [(0, .ref 213), (1, hI k)] → Tp (tX12_isName kn) (fun r => ∃ b : Int, r = (some (hI b), w, 0, 0) ∧ ((b = 1 ∧ S.1 = 5) ∨ (b = 0 ∧ S.1 ≠ 5))) 12 (lv, [], w, 0, 0) := by
  obtain ⟨tx, hv⟩ := ht
  obtain ⟨hfr, hkI, hto, hwd⟩ := tkU_i hv
  have o0 : hO [] w w := hO_rf hw
  intro d
  induction d with
  | zero =>
    intro k lv hkd hno l0
    refine h_iload rfl l0 rfl ?_
    refine h_intv k_26 rfl ?_
    refine i_gt (kn := kn) (t := 4) (tgt := 38) (np := 18) rfl (by unfold R32; omega) (by unfold R32; omega) (fun e41 => ?_) (fun e41 => ?_)
    · refine h_intv k_1 rfl ?_
      refine h_zret (by omega) rfl ?_
      refine ⟨_, rfl, Or.inl ⟨rfl, ?_⟩⟩
      have s45 : S.1 = 4 ∨ S.1 = 5 := by omega
      rcases s45 with s4 | s5
      · obtain ⟨p, hp, rfl⟩ := hG
        obtain ⟨j, hj, e1, _⟩ := (lexT_wd B n L p).1 s4
        exact absurd e1 (hno s4 j (by omega))
      · exact s5
    · omega
  | succ d ih =>
    intro k lv hkd hno l0
    have hk27 : k < 27 := by omega
    obtain ⟨g4, g5⟩ := tkG_w hG k hk27
    refine h_iload rfl l0 rfl ?_
    refine h_intv k_26 rfl ?_
    refine i_gt (kn := kn) (t := 4) (tgt := 38) (np := 18) rfl (by unfold R32; omega) (by unfold R32; omega) (fun e41 => ?_) (fun e41 => ?_)
    · omega
    · refine h_aload rfl l0 rfl ?_
      refine h_getJv rfl o0 fj_12 ?_
      refine h_iload rfl l0 rfl ?_
      have hf42 := x_wordOf (kn := kn) o0.1 k hk27
      refine h_S1 rfl o0 l0 rfl rfl hf42 ?_
      refine x_lcmp rfl (fun c43 c43a c43b c43e => ?_)
      rw [hwd h45] at c43e
      have cc : (c43 = 0 ∧ S.1 = 4) ∨ (c43 ≠ 0 ∧ (S.1 = 4 → S.2.2.1 ≠ (k : Int))) := by
        have s45 : S.1 = 4 ∨ S.1 = 5 := by omega
        rcases s45 with s4 | s5
        · by_cases z : S.2.2.1 = (k : Int)
          · exact Or.inl ⟨c43e.mpr ((g4 s4).mpr z), s4⟩
          · exact Or.inr ⟨fun h => z ((g4 s4).mp (c43e.mp h)), fun _ => z⟩
        · exact Or.inr ⟨fun h => g5 s5 (c43e.mp h), fun h => by omega⟩
      refine j_ne (kn := kn) (t := 1) (tgt := 32) (np := 30) rfl (by unfold R32; omega) (fun e44 => ?_) (fun e44 => ?_)
      · refine h_iincv k_1 rfl l0 rfl (fun vl45 l45 => ?_)
        refine h_goto rfl ?_
        refine ih (k + 1) _ (by omega) (fun s4 i hi => ?_) l45
        by_cases e : i = k
        · rw [e]
          have cc2 : S.1 = 4 → S.2.2.1 ≠ (k : Int) := by
            rcases cc with ⟨c0, _⟩ | ⟨_, h⟩
            · omega
            · exact h
          exact cc2 s4
        · exact hno s4 i (by omega)
      · refine h_intv k_0 rfl ?_
        refine h_zret (by omega) rfl ?_
        exact ⟨_, rfl, Or.inr ⟨rfl, by omega⟩⟩
theorem x_isName {kn : sKn} {w : sW} {B : Nat → Int} {n L : Nat} {S : tS} (hw : wOk ZZ w) (ht : tkR B n L S w) (hG : tkG B n L S) : ∃ b : Int, fX12_isName kn [.ref 213] w = some (some (hI b), w, 0, 0) ∧ ((b = 1 ∧ S.1 = 5) ∨ (b = 0 ∧ S.1 ≠ 5)) := by
  obtain ⟨tx, hv⟩ := id ht
  obtain ⟨hfr, hkI, hto, hwd⟩ := tkU_i hv
  have K : Tp (tX12_isName kn) (fun r => ∃ b : Int, r = (some (hI b), w, 0, 0) ∧ ((b = 1 ∧ S.1 = 5) ∨ (b = 0 ∧ S.1 ≠ 5))) 0 (lv_args 0 [.ref 213], [], w, 0, 0) := by
    have l0 : hL (lv_args 0 [.ref 213]) (lv_args 0 [.ref 213]) := hL_ex rfl
    have o0 : hO [] w w := hO_rf hw
    refine h_aload rfl l0 rfl ?_
    refine h_getI rfl o0 fi_7 (fun b41a b41b => ?_)
    refine h_intv k_2 rfl ?_
    refine i_eq (kn := kn) (t := 0) (tgt := 10) (np := 8) rfl (by unfold R32; omega) (by unfold R32; omega) (fun e42 => ?_) (fun e42 => ?_)
    · refine h_intv k_0 rfl ?_
      refine h_istore rfl l0 (fun vl43 l43 => ?_)
      exact x_isName_l hw ht hG (by omega) 27 0 _ rfl (fun _ i hi => by omega) l43
    · refine h_intv k_0 rfl ?_
      refine h_zret (by omega) rfl ?_
      exact ⟨_, rfl, Or.inr ⟨rfl, by omega⟩⟩
  obtain ⟨r, h1, b, h2, h3⟩ := h_meth1 (nL := 2) rfl K
  rw [h2] at h1
  exact ⟨b, h1, h3⟩
theorem x_bad {kn : sKn} {w0 : sW} {B : Nat → Int} {n L : Nat} {S : tS} (hw : wOk ZZ w0) (ht : tkR B n L S w0) (hG : tkG B n L S) (k : Int) (hk : R32 k) : ∃ w', fX12_bad kn [.ref 213, hI k] w0 = some (some (hI 0), w', 0, 0) ∧ hO dRT w0 w' ∧ smW [(0, 213, 10), (0, 213, 11)] w0 w' ∧ gF w' 213 10 = (if S.1 = 1 then 1 else k) ∧ gF w' 213 11 = S.2.1 := by
  obtain ⟨tx, hv⟩ := ht
  obtain ⟨hfr, hkI, hto, hwd⟩ := tkU_i hv
  have hk1 := hk.1
  have hk2 := hk.2
  have gb := tkG_b hG
  have hn9 := tx.2.2.2.1
  have K : Tp (tX12_bad kn) (fun r => ∃ w', r = (some (hI 0), w', 0, 0) ∧ hO dRT w0 w' ∧ smW [(0, 213, 10), (0, 213, 11)] w0 w' ∧ gF w' 213 10 = (if S.1 = 1 then 1 else k) ∧ gF w' 213 11 = S.2.1) 0 (lv_args 0 [.ref 213, hI k], [], w0, 0, 0) := by
    have l0 : hL (lv_args 0 [.ref 213, hI k]) (lv_args 0 [.ref 213, hI k]) := hL_ex rfl
    have o0 : hO dRT w0 w0 := hO_rf hw
    have sm := smW_rf [(0, 213, 10), (0, 213, 11)] w0
    refine h_aload rfl l0 rfl ?_
    refine h_aload rfl l0 rfl ?_
    refine h_getI rfl o0 fi_7 (fun b41a b41b => ?_)
    refine h_intv k_1 rfl ?_
    refine i_ne (kn := kn) (t := 1) (tgt := 13) (np := 9) rfl (by unfold R32; omega) (by unfold R32; omega) (fun e42 => ?_) (fun e42 => ?_)
    · refine h_iload rfl l0 rfl ?_
      refine x_putI rfl o0 fi_10 rfl (by omega) (by omega) (fun w43 o43 q44a q44F q44X q44J q44Y q44R => ?_)
      refine h_aload rfl l0 rfl ?_
      refine h_aload rfl l0 rfl ?_
      refine h_getI rfl o43 fi_6 (fun b45a b45b => ?_)
      rw [q44F 213 6 (by decide), hfr] at b45a b45b ⊢
      refine x_putI rfl o43 fi_11 rfl (by omega) (by omega) (fun w46 o46 q47a q47F q47X q47J q47Y q47R => ?_)
      refine h_intv k_0 rfl ?_
      refine h_zret (by omega) rfl ?_
      exact ⟨_, rfl, o46, smW_tr (smW_tr sm (sm_pI (by decide) q44F q44X q44J q44Y q44R)) (sm_pI (by decide) q47F q47X q47J q47Y q47R), by rw [q47F 213 10 (by decide), q44a]; split <;> omega, by rw [q47a]⟩
    · refine h_intv k_1 rfl ?_
      refine h_goto rfl ?_
      refine x_putI rfl o0 fi_10 rfl (by omega) (by omega) (fun w48 o48 q49a q49F q49X q49J q49Y q49R => ?_)
      refine h_aload rfl l0 rfl ?_
      refine h_aload rfl l0 rfl ?_
      refine h_getI rfl o48 fi_6 (fun b50a b50b => ?_)
      rw [q49F 213 6 (by decide), hfr] at b50a b50b ⊢
      refine x_putI rfl o48 fi_11 rfl (by omega) (by omega) (fun w51 o51 q52a q52F q52X q52J q52Y q52R => ?_)
      refine h_intv k_0 rfl ?_
      refine h_zret (by omega) rfl ?_
      exact ⟨_, rfl, o51, smW_tr (smW_tr sm (sm_pI (by decide) q49F q49X q49J q49Y q49R)) (sm_pI (by decide) q52F q52X q52J q52Y q52R), by rw [q52F 213 10 (by decide), q49a]; split <;> omega, by rw [q52a]⟩
  obtain ⟨r, h1, w2, h2, h3⟩ := h_meth1 (nL := 2) rfl K
  rw [h2] at h1
  exact ⟨w2, h1, h3⟩
theorem x_findIn221_l {kn : sKn} {w : sW} {N : Nat → Int} {X : Int} {b m : Nat} (hw : wOk ZZ w) (hN : ∀ s, s < m → gY w 221 (b + s) = Int64.ofInt (N (b + s)) ∧ 0 ≤ N (b + s) ∧ N (b + s) < 27 ^ 7) (hbm : b + m ≤ 16) (hX : 0 ≤ X ∧ X < 27 ^ 7) : ∀ (d k : Nat) (lv : List (Nat × Value)), k + d = m → l_get lv 0 = some (.ref 221) → l_get lv 1 = some (hI (b : Int)) → l_get lv 2 = some (hI (m : Int)) → l_get lv 3 = some (hJ X) → l_get lv 5 = some (hI (k : Int)) → Tp (tX12_findIn kn) (fun r => r = (some (hI (fnd N b X d k)), w, 0, 0)) 3 (lv, [], w, 0, 0) := by
  have o0 : hO [] w w := hO_rf hw
  intro d
  induction d with
  | zero =>
    intro k lv hkd q0 q1 q2 q3 q5
    refine r_iload rfl q5 ?_
    refine r_iload rfl q2 ?_
    refine i_ge (kn := kn) (t := 3) (tgt := 29) (np := 9) rfl (by unfold R32; omega) (by unfold R32; omega) (fun e1 => ?_) (fun e1 => ?_)
    · refine r_intv k_n1 rfl ?_
      exact r_iret rfl rfl
    · omega
  | succ d ih =>
    intro k lv hkd q0 q1 q2 q3 q5
    obtain ⟨n1, n2, n3⟩ := hN k (by omega)
    refine r_iload rfl q5 ?_
    refine r_iload rfl q2 ?_
    refine i_ge (kn := kn) (t := 3) (tgt := 29) (np := 9) rfl (by unfold R32; omega) (by unfold R32; omega) (fun e1 => ?_) (fun e1 => ?_)
    · omega
    · refine r_aload rfl q0 ?_
      refine r_iload rfl q1 ?_
      refine r_iload rfl q5 ?_
      refine h_iadd rfl ?_
      refine x_lald (b + k) rfl o0 aj_221 rfl (by omega) (by omega) ?_
      rw [n1]
      refine r_lload rfl q3 ?_
      refine x_lcmp rfl (fun cc c1 c2 ce => ?_)
      have ce2 : cc = 0 ↔ N (b + k) = X := by
        rw [ce, hJ_inj (nm_R ⟨n2, n3⟩) (nm_R hX)]
      refine j_ne (kn := kn) (t := 1) (tgt := 23) (np := 20) rfl (by unfold R32; omega) (fun e2 => ?_) (fun e2 => ?_)
      · refine r_iincv k_1 rfl q5 ?_
        refine r_goto rfl ?_
        rw [fnd_n (fun h => e2 (ce2.mpr h))]
        exact ih (k + 1) _ (by omega) (lp_get (by decide) q0 (Or.inl rfl)) (lp_get (by decide) q1 (Or.inl rfl)) (lp_get (by decide) q2 (Or.inl rfl)) (lp_get (by decide) q3 (Or.inr (by decide))) l_get_head
      · refine r_iload rfl q5 ?_
        rw [fnd_y (ce2.mp (by omega))]
        exact r_iret rfl rfl
theorem x_findIn221 {kn : sKn} {w : sW} {N : Nat → Int} {X : Int} {b m : Nat} (hw : wOk ZZ w) (hN : ∀ s, s < m → gY w 221 (b + s) = Int64.ofInt (N (b + s)) ∧ 0 ≤ N (b + s) ∧ N (b + s) < 27 ^ 7) (hbm : b + m ≤ 16) (hX : 0 ≤ X ∧ X < 27 ^ 7) : fX12_findIn kn [.ref 221, hI (b : Int), hI (m : Int), hJ X] w = some (some (hI (fnd N b X m 0)), w, 0, 0) := by
  have K : Tp (tX12_findIn kn) (fun r => r = (some (hI (fnd N b X m 0)), w, 0, 0)) 0 (lv_args 0 [.ref 221, hI (b : Int), hI (m : Int), hJ X], [], w, 0, 0) := by
    refine r_intv k_0 rfl ?_
    refine r_istore rfl ?_
    exact x_findIn221_l hw hN hbm hX m 0 _ (by omega) (lp_get (by decide) rfl (Or.inl rfl)) (lp_get (by decide) rfl (Or.inl rfl)) (lp_get (by decide) rfl (Or.inl rfl)) (lp_get (by decide) rfl (Or.inr (by decide))) l_get_head
  obtain ⟨r, h1, h2⟩ := h_meth1 (nL := 6) rfl K
  rw [h2] at h1
  exact h1
/-- the plan that the reference reads -/
def pR (R N : Nat → Int) (w : sW) : Prop := (∀ j : Nat, j < 94 → gX w 216 j = R j) ∧ (∀ s : Nat, (s : Int) < R 1 → gY w 221 s = Int64.ofInt (N s) ∧ 0 ≤ N s ∧ N s < 27 ^ 7) ∧ (∀ l : Nat, (l : Int) < R 2 → gY w 221 (10 + l) = Int64.ofInt (N (10 + l)) ∧ 0 ≤ N (10 + l) ∧ N (10 + l) < 27 ^ 7)
theorem pR_sm {E : List (Nat × Nat × Nat)} {R N : Nat → Int} {w w' : sW} (h : smW E w w') (h1 : (2, 216, 0) ∉ E ∧ (3, 221, 0) ∉ E) (p : pR R N w) : pR R N w' := by
  obtain ⟨p1, p2, p3⟩ := p
  refine ⟨fun j hj => (h.2.2.1 216 j h1.1).trans (p1 j hj), fun s hs => ?_, fun l hl => ?_⟩
  · rw [h.2.2.2.1 221 s h1.2]
    exact p2 s hs
  · rw [h.2.2.2.1 221 (10 + l) h1.2]
    exact p3 l hl
theorem tkR_sm {E : List (Nat × Nat × Nat)} {B : Nat → Int} {n L : Nat} {S : tS} {w w' : sW} (h : smW E w w') (h1 : ((0, 213, 3) ∉ E ∧ (0, 213, 4) ∉ E) ∧ (2, 214, 0) ∉ E) (t : tkR B n L S w) (h2 : ((0, 213, 5) ∉ E ∧ (0, 213, 6) ∉ E) ∧ (0, 213, 7) ∉ E := by decide) (h3 : ((0, 213, 8) ∉ E ∧ (0, 213, 9) ∉ E) ∧ (1, 213, 12) ∉ E := by decide) : tkR B n L S w' := by
  refine ⟨txR_sm h h1 t.1, ?_⟩
  rw [h.1 213 7 h2.2, h.1 213 6 h2.1.2, h.1 213 8 h3.1.1, h.1 213 9 h3.1.2, h.2.1 213 12 h3.2, h.1 213 5 h2.1.1]
  exact t.2
/-- a fault as the reference has it -/
def erR (e : zE) (w : sW) : Prop := gF w 213 10 = e.1 ∧ gF w 213 11 = e.2
end
