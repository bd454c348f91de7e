noncomputable section
def dH_bq : List (Nat × Nat) := [(61, 779), (61, 23), (61, 24), (61, 25), (61, 26), (63, 999), (68, 999)] ++ dX12_startRead ++ dX12_readLine ++ dH_re ++ dX12_startSo
theorem dH_bq2 : msub dX12_startRead dH_bq = true := by decide +kernel
theorem dH_bq3 : msub dX12_readLine dH_bq = true := by decide +kernel
theorem dH_bq4 : msub dH_re dH_bq = true := by decide +kernel
theorem dH_bq5 : msub dX12_startSo dH_bq = true := by decide +kernel
theorem bq_e {kn : sKn} {w0 w : sW} (n : Int) (lv : List (Nat × Value)) (o0 : hO dH_bq w0 w) (l0 : hL lv [(0, .ref 213), (1, hI n)]) : Tp (tX12_bridge kn) (fun r => ∃ (w' : sW) (v : Int), r = (some (hI v), w', 0, 0) ∧ hO dH_bq w0 w' ∧ (-2147483648 ≤ v ∧ v ≤ 2147483647)) 114 (lv, [], w, 0, 0) := by
  refine h_aload rfl l0 rfl ?_
  obtain ⟨wA, hf1, oA'⟩ := s_startSo (kn := kn) o0.1
  have oA : hO dH_bq w0 wA := hO_tr o0 (hO_mono dH_bq5 oA')
  refine h_W1 rfl o0 l0 ci_213 rfl rfl hf1 ?_
  refine h_aload rfl l0 rfl ?_
  refine h_intv k_0 rfl ?_
  refine h_putI rfl oA fi_23 rfl (by omega) (by omega) (fun w2 o2 q3a q3b q3c => ?_)
  refine h_iload rfl l0 rfl ?_
  refine h_iret rfl ?_
  exact ⟨_, wr n, by rw [← hI_wr], o2, wr_R n⟩
theorem bq_n {kn : sKn} {w0 : sW} (n : Int) : ∀ (m k : Nat) (w : sW) (lv : List (Nat × Value)) (x : Int), k + m = 16 → x = (k : Int) → hO dH_bq w0 w → hL lv [(0, .ref 213), (1, hI n), (2, hI x)] → Tp (tX12_bridge kn) (fun r => ∃ (w' : sW) (v : Int), r = (some (hI v), w', 0, 0) ∧ hO dH_bq w0 w' ∧ (-2147483648 ≤ v ∧ v ≤ 2147483647)) 90 (lv, [], w, 0, 0) := by
  intro m
  induction m with
  | zero =>
    intro k w lv x hkm hxk o0 l0
    subst hxk
    refine h_iload rfl l0 rfl ?_
    refine h_intv k_16 rfl ?_
    refine i_ge (kn := kn) (t := 3) (tgt := 114) (np := 96) rfl (by unfold R32; omega) (by unfold R32; omega) (fun e1 => ?_) (fun e1 => ?_)
    · exact bq_e n _ o0 (hL_take 2 l0)
    · omega
  | succ m ih =>
    intro k w lv x hkm hxk o0 l0
    subst hxk
    refine h_iload rfl l0 rfl ?_
    refine h_intv k_16 rfl ?_
    refine i_ge (kn := kn) (t := 3) (tgt := 114) (np := 96) rfl (by unfold R32; omega) (by unfold R32; omega) (fun e1 => ?_) (fun e1 => ?_)
    · omega
    · refine h_aload rfl l0 rfl ?_
      refine h_getR rfl o0 fr_19 ?_
      refine h_iload rfl l0 rfl ?_
      refine h_aload rfl l0 rfl ?_
      refine h_getR rfl o0 fr_20 ?_
      refine h_iload rfl l0 rfl ?_
      refine h_lald (k) rfl o0 aj_221 rfl (by omega) (by omega) (fun j2 => ?_)
      refine h_last (k) rfl o0 aj_220 rfl rfl (by omega) (by omega) (fun w3 o3 q4b q4c => ?_)
      refine h_iincv k_1 rfl l0 rfl (fun vl5 l5 => ?_)
      refine h_goto rfl ?_
      exact ih (k + 1) w3 _ ((k : Int) + 1) (by omega) (by omega) o3 l5
theorem rd_segT {D : List (Nat × Nat)} {w0 w : sW} (o0 : hO D w0 w) (hr : 1 ≤ gX w 216 0 ∧ gX w 216 0 ≤ 12) {k : Nat} (hk : k < 94) : ∃ e, sga (aSg 215) k = some e ∧ fvOk ZZ (0, e) (hI (gX w 216 k)) := by
  rcases sg_read k hk with e | e
  · subst e
    refine ⟨.inl (1, 12), rfl, gX w 216 0, hI_vOk ⟨by omega, by omega⟩, hr⟩
  · rw [← sgq_ok e]
    exact gX_seg o0 ai_216 (by omega)
theorem bq_r {kn : sKn} {w0 : sW} (n : Int) : ∀ (m k : Nat) (w : sW) (lv : List (Nat × Value)) (x : Int), k + m = 94 → x = (k : Int) → hO dH_bq w0 w → (1 ≤ gX w 216 0 ∧ gX w 216 0 ≤ 12) → hL lv [(0, .ref 213), (1, hI n), (2, hI x)] → Tp (tX12_bridge kn) (fun r => ∃ (w' : sW) (v : Int), r = (some (hI v), w', 0, 0) ∧ hO dH_bq w0 w' ∧ (-2147483648 ≤ v ∧ v ≤ 2147483647)) 64 (lv, [], w, 0, 0) := by
  intro m
  induction m with
  | zero =>
    intro k w lv x hkm hxk o0 hr l0
    subst hxk
    refine h_iload rfl l0 rfl ?_
    refine h_intv k_94 rfl ?_
    refine i_ge (kn := kn) (t := 3) (tgt := 88) (np := 70) rfl (by unfold R32; omega) (by unfold R32; omega) (fun e1 => ?_) (fun e1 => ?_)
    · refine h_intv k_0 rfl ?_
      refine h_istore rfl l0 (fun vl2 l2 => ?_)
      exact bq_n n 16 0 _ _ 0 rfl rfl o0 l2
    · omega
  | succ m ih =>
    intro k w lv x hkm hxk o0 hr l0
    subst hxk
    refine h_iload rfl l0 rfl ?_
    refine h_intv k_94 rfl ?_
    refine i_ge (kn := kn) (t := 3) (tgt := 88) (np := 70) rfl (by unfold R32; omega) (by unfold R32; omega) (fun e1 => ?_) (fun e1 => ?_)
    · omega
    · refine h_aload rfl l0 rfl ?_
      refine h_getR rfl o0 fr_14 ?_
      refine h_iload rfl l0 rfl ?_
      refine h_aload rfl l0 rfl ?_
      refine h_getR rfl o0 fr_15 ?_
      refine h_iload rfl l0 rfl ?_
      refine h_ialdj (k) rfl o0 ai_216 rfl (by omega) (by omega) (fun b2a b2b => ?_)
      refine h_iaste (k) rfl o0 ai_215 rfl rfl (by omega) (by omega) (rd_segT o0 hr (by omega)) (by unfold R32; omega) (fun w3 o3 q4a q4b q4c => ?_)
      refine h_iincv k_1 rfl l0 rfl (fun vl5 l5 => ?_)
      refine h_goto rfl ?_
      exact ih (k + 1) w3 _ ((k : Int) + 1) (by omega) (by omega) o3 (by rw [q4b 216 0 (fun z => absurd z (by decide))]; exact hr) l5
theorem rho_loT {D : List (Nat × Nat)} {w0 w : sW} (o0 : hO D w0 w) : -940 ≤ rhoV w ∧ rhoV w ≤ 941 := by
  obtain ⟨_, _, _, _, _, _, _, a1, a2⟩ := fI_ok o0 fi_3
  obtain ⟨_, _, _, _, _, _, _, b1, b2⟩ := fI_ok o0 fi_5
  unfold rhoV
  split <;> omega
theorem bq_l {kn : sKn} {w0 : sW} : ∀ (m : Nat) (w : sW) (lv : List (Nat × Value)) (n : Int), rhoV w + 2000 ≤ (m : Int) → hO dH_bq w0 w → (1 ≤ gX w 216 0 ∧ gX w 216 0 ≤ 12) → hL lv [(0, .ref 213), (1, hI n)] → Tp (tX12_bridge kn) (fun r => ∃ (w' : sW) (v : Int), r = (some (hI v), w', 0, 0) ∧ hO dH_bq w0 w' ∧ (-2147483648 ≤ v ∧ v ≤ 2147483647)) 28 (lv, [], w, 0, 0) := by
  intro m
  induction m with
  | zero =>
    intro w lv n hm o0
    have := rho_loT o0
    omega
  | succ m ih =>
    intro w lv n hm o0 hr l0
    refine h_aload rfl l0 rfl ?_
    refine h_getI rfl o0 fi_7 (fun b1a b1b => ?_)
    refine j_eq (kn := kn) (t := 0) (tgt := 62) (np := 35) rfl (by unfold R32; omega) (fun e2 => ?_) (fun e2 => ?_)
    · refine h_intv k_0 rfl ?_
      refine h_istore rfl l0 (fun vl3 l3 => ?_)
      exact bq_r n 94 0 _ _ 0 rfl rfl o0 hr l3
    · refine h_aload rfl l0 rfl ?_
      obtain ⟨wA, bA, hf4, oA', hbA, hrA⟩ := s_readLine (kn := kn) o0.1 hr
      have oA : hO dH_bq w0 wA := hO_tr o0 (hO_mono dH_bq3 oA')
      have jA := (jW_of oA' (by decide +kernel)).2.2
      refine h_V1 rfl o0 l0 ci_213 rfl rfl hf4 ?_
      refine j_eq (kn := kn) (t := 0) (tgt := 49) (np := 42) rfl (by unfold R32; omega) (fun e5 => ?_) (fun e5 => ?_)
      · refine h_intv k_n1 rfl ?_
        refine h_aload rfl l0 rfl ?_
        refine h_getI rfl oA fi_11 (fun b6a b6b => ?_)
        refine h_isub rfl ?_
        refine h_iret rfl ?_
        exact ⟨_, _, rfl, oA, by omega⟩
      · refine h_aload rfl l0 rfl ?_
        obtain ⟨wB, bB, hf7, oB', hbB, hsB⟩ := s_readEnd (kn := kn) oA.1
        have oB : hO dH_bq w0 wB := hO_tr oA (hO_mono dH_bq4 oB')
        refine h_V1 rfl oA l0 ci_213 rfl rfl hf7 ?_
        refine j_ne (kn := kn) (t := 1) (tgt := 56) (np := 49) rfl (by unfold R32; omega) (fun e8 => ?_) (fun e8 => ?_)
        · refine h_iincv k_1 rfl l0 rfl (fun vl9 l9 => ?_)
          refine h_goto rfl ?_
          exact ih wB _ _ (by have := hsB (by omega); omega) oB (by rw [fr_gX (t := 64) oB'.2 rfl (by decide +kernel) oA.1 (by decide +kernel) 0]; exact hrA) l9
        · refine h_intv k_n1 rfl ?_
          refine h_aload rfl l0 rfl ?_
          refine h_getI rfl oB fi_11 (fun b10a b10b => ?_)
          refine h_isub rfl ?_
          refine h_iret rfl ?_
          exact ⟨_, _, rfl, oB, by omega⟩

theorem s_beginT9_ {kn : sKn} {w : sW} (hw : wOk ZZ w) (x1 : Int) (hx1 : 900 ≤ x1 ∧ x1 ≤ 900) : ∃ (w' : sW), fX12_begin kn [.ref 213, hI x1] w = some (none, w', 0, 0) ∧ hO dX12_begin w w' ∧ gF w' 213 2 = 0 := by
  obtain ⟨r, w', h1, h2, q, hq, σ', h3, h4, h5, h6⟩ := con_use (con_X12_begin_1 kn) (σ := [0, x1]) (av := [.ref 213, hI x1]) (w := w) rfl rfl ⟨av_c (k := 213) rfl, av_i rfl ⟨by omega, by omega⟩, trivial⟩ (fun q hq => by cases hq) (gE_c ⟨_, rfl, hx1⟩ (gE_n)) hw rfl
  rcases List.mem_singleton.mp hq with rfl
  rw [gS_v h4] at h1
  obtain ⟨m2, n2, p2⟩ := mf_F (c := 213) (kf := 2) (u := 0) (x := 0) (h3 0 0 rfl) (h5 _ (by first | exact List.mem_cons_self | exact List.mem_cons_of_mem _ List.mem_cons_self | exact List.mem_cons_of_mem _ (List.mem_cons_of_mem _ List.mem_cons_self) | exact List.mem_cons_of_mem _ (List.mem_cons_of_mem _ (List.mem_cons_of_mem _ List.mem_cons_self)) | decide))
  have n2' := h3 0 0 rfl
  rw [n2] at n2'
  cases n2'
  exact ⟨w', h1, h2, by omega⟩
theorem s_beginT9 {kn : sKn} {w : sW} (hw : wOk ZZ w) : ∃ w', fX12_begin kn [.ref 213, hI 900] w = some (none, w', 0, 0) ∧ hO dH_begin w w' ∧ gF w' 213 2 = 0 := by
  obtain ⟨w', h1, h2⟩ := s_begin (kn := kn) hw 900 (by omega)
  obtain ⟨w2, k1, _, k2⟩ := s_beginT9_ (kn := kn) hw 900 ⟨by omega, by omega⟩
  rw [h1] at k1
  cases k1
  exact ⟨w', h1, h2, k2⟩
theorem dH_bqbr : msub dH_bq dH_br = true := by decide +kernel
theorem s_bridgeT {kn : sKn} {w0 : sW} (hw : wOk ZZ w0) : ∃ (w' : sW) (v : Int), fX12_bridge kn [.ref 213] w0 = some (some (hI v), w', 0, 0) ∧ hO dH_br w0 w' ∧ gF w' 213 2 = 0 := by
  have K : Tp (tX12_bridge kn) (fun r => ∃ (w' : sW) (v : Int), r = (some (hI v), w', 0, 0) ∧ hO dH_br w0 w' ∧ gF w' 213 2 = 0) 0 (lv_args 0 [.ref 213], [], w0, 0, 0) := by
    have l0 : hL (lv_args 0 [.ref 213]) (lv_args 0 [.ref 213]) := hL_ex rfl
    have o0 : hO dH_br w0 w0 := hO_rf hw
    refine h_aload rfl l0 rfl ?_
    refine h_intv k_900 rfl ?_
    obtain ⟨wA, hf1, oA', tA⟩ := s_beginT9 (kn := kn) o0.1
    have oA : hO dH_br w0 wA := hO_tr o0 (hO_mono dH_br1 oA')
    refine h_W2 rfl o0 l0 ci_213 rfl rfl hf1 ?_
    refine h_aload rfl l0 rfl ?_
    obtain ⟨wB, hf2, oB', hrB⟩ := s_startRead (kn := kn) oA.1
    have oB : hO dH_br w0 wB := hO_tr oA (hO_mono dH_br2 oB')
    refine h_W1 rfl oA l0 ci_213 rfl rfl hf2 ?_
    refine h_aload rfl l0 rfl ?_
    refine h_intv k_0 rfl ?_
    refine h_putK (by decide +kernel) rfl oB fi_24 rfl (by omega) (by omega) (fun w3 o3 q4a q4b q4c => ?_)
    refine h_aload rfl l0 rfl ?_
    refine h_intv k_0 rfl ?_
    refine h_putK (by decide +kernel) rfl o3 fi_25 rfl (by omega) (by omega) (fun w5 o5 q6a q6b q6c => ?_)
    refine h_aload rfl l0 rfl ?_
    refine h_intv k_0 rfl ?_
    refine h_putK (by decide +kernel) rfl o5 fi_26 rfl (by omega) (by omega) (fun w7 o7 q8a q8b q8c => ?_)
    refine h_intv k_0 rfl ?_
    refine h_istore rfl l0 (fun vl9 l9 => ?_)
    refine Tp_mono ?_ (bq_l (w0 := w7) 2941 w7 _ _ (by have := rho_loT o7; omega) (hO_rf o7.1) (by rw [q8c, q6c, q4c, hrB]; omega) l9)
    intro r h
    obtain ⟨w', v, e1, e2, _⟩ := h
    exact ⟨w', v, e1, hO_tr o7 (hO_mono dH_bqbr e2), tp_fr o7.1 e2 (by decide +kernel) (by rw [q8b 213 2 (fun _ => by decide), q6b 213 2 (fun _ => by decide), q4b 213 2 (fun _ => by decide)]; exact tp_fr oA.1 oB' (by decide +kernel) tA)⟩
  obtain ⟨r, h1, w2, b, h2, h3⟩ := h_meth1 (nL := 3) rfl K
  rw [h2] at h1
  exact ⟨w2, b, h1, h3⟩
end
