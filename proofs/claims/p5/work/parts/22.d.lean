noncomputable section
theorem h_isubv {tbl : List (Nat × sA)} {Po : sR → Prop} {pc np : Nat} {lv : List (Nat × Value)} {st : List Value} {w : sW} {a b : Int} (ha : t_get tbl pc = some (a_stk q_isub np)) (g : ∀ z : Int, R32 z → Tp tbl Po np (lv, hI z :: st, w, 0, 0)) : Tp tbl Po pc (lv, hI b :: hI a :: st, w, 0, 0) := h_isub ha (by
  have e : hI (a - b) = hI (Int32.ofInt (a - b)).toInt := hI_of _
  rw [e]
  exact g _ (R32_of _))
theorem pZ_ZZ : pZ ZZ := ⟨rfl, rfl, ⟨rfl, rfl, rfl, rfl⟩, ⟨rfl, rfl, rfl, rfl⟩, rfl, rfl, rfl, rfl⟩
theorem pw_of {D : List (Nat × Nat)} {w w' : sW} (h : hO D w w') (hm : mIn D 61 778 = false) (p : PW w) : PW w' := h.2.2.2.2.1 pZ_ZZ (mIn_no hm) p
theorem hw_of {D : List (Nat × Nat)} {w w' : sW} (h : hO D w w') (hm : mIn D 61 779 = false) {j : Nat} (hj : j < 5) : gX w' 215 j = gX w 215 j := h.2.2.2.2.2 pZ_ZZ (mIn_no hm) j hj
def dH_sa : List (Nat × Nat) := [(61, 56), (61, 57), (61, 58)] ++ dH_begin ++ dH_rs ++ dH_bad
def dH_sb : List (Nat × Nat) := [(61, 778), (63, 999)]
def dH_sc : List (Nat × Nat) := [(63, 999)]
def dH_sen : List (Nat × Nat) := (63, 999) :: dH_sa
theorem dH_sa1 : msub dH_begin dH_sa = true := by decide +kernel
theorem dH_sa2 : msub dH_rs dH_sa = true := by decide +kernel
theorem dH_sa3 : msub dH_bad dH_sa = true := by decide +kernel
theorem dH_sen1 : msub dH_sa dH_sen = true := by decide +kernel
theorem dH_sen2 : msub dH_sc dH_sen = true := by decide +kernel
theorem sg_sen0 : sgc 1 (sga (aSg 215) 196) = true := by decide +kernel
theorem sg_sen1 : aP 215 197 1 0 59 = true := by decide +kernel
theorem sg_sen2 : ∀ k < 240, sgq (sga (aSg 240) k) (sga (aSg 215) (198 + k)) = true := by decide +kernel
def seI (w1 w : sW) (k : Nat) : Prop := hO dH_sb w1 w ∧ gX w 215 197 = gF w1 213 59 ∧ (∀ j, j < k → gX w 215 (198 + j) = gX w1 240 j) ∧ (∀ c j, c ≠ 215 → gX w c j = gX w1 c j)
theorem se_pw {w1 w : sW} (hw : wOk ZZ w1) (h : seI w1 w 240) (nn : NI w1) (ht : gF w1 213 59 < gF w1 213 56) (hn : gF w1 213 59 ≤ 59) (p : PW w1) : PW w := by
  obtain ⟨p0, p1, p2, p3, p4, p5, p6, p7⟩ := p
  obtain ⟨o1, h0, h1, h2⟩ := h
  refine ⟨rfG_eq (fr_rf hw o1.2 (by decide +kernel) (by decide +kernel)) p0, ?_, siG_eq (fun j _ => h2 _ _ (by decide)) p2, siG_eq (fun j _ => h2 _ _ (by decide)) p3, snG_eq (fun j => h2 _ _ (by decide)) (fun j => h2 _ _ (by decide)) p4, snG_eq (fun j => h2 _ _ (by decide)) (fun j => h2 _ _ (by decide)) p5, snG_eq (fun j => h2 _ _ (by decide)) (fun j => h2 _ _ (by decide)) p6, snG_eq (fun j => h2 _ _ (by decide)) (fun j => h2 _ _ (by decide)) p7⟩
  intro i hi
  rw [show (0 + 197 : Nat) = 197 from rfl, h0] at hi
  have q := nn i (by omega)
  unfold ndG at q ⊢
  rw [Nat.zero_add, show 198 + 4 * i + 1 = 198 + (4 * i + 1) by omega, show 198 + 4 * i + 2 = 198 + (4 * i + 2) by omega, h1 _ (by omega), h1 _ (by omega), h1 _ (by omega)]
  rw [Nat.zero_add] at q
  exact q
/-- begin empties the tape -/
theorem s_beginT {kn : sKn} {w : sW} (hw : wOk ZZ w) : ∃ w', fX12_begin kn [.ref 213, hI 200] w = some (none, w', 0, 0) ∧ hO dH_begin w w' ∧ gF w' 213 2 = 0 := by
  obtain ⟨w', h1, h2⟩ := s_begin (kn := kn) hw 200 (by omega)
  obtain ⟨r, w2, k1, _, q, hq, σ', h0, _, h4, _⟩ := con_1m (con_X12_begin_2 kn) hw (x := 200) ⟨by omega, by omega⟩ (by omega) (by omega)
  rw [show fW (tX12_begin kn) 2 [.ref 213, hI 200] w = fX12_begin kn [.ref 213, hI 200] w from rfl, h1] at k1
  cases k1
  rcases List.mem_singleton.mp hq with rfl
  obtain ⟨z, z1, z2⟩ := mf_F (c := 213) (kf := 2) (u := 0) (x := 0) h0 (h4 _ (by first | exact List.mem_cons_self | exact List.mem_cons_of_mem _ List.mem_cons_self | exact List.mem_cons_of_mem _ (List.mem_cons_of_mem _ List.mem_cons_self) | exact List.mem_cons_of_mem _ (List.mem_cons_of_mem _ (List.mem_cons_of_mem _ List.mem_cons_self)) | decide))
  rw [h0] at z1
  cases z1
  exact ⟨w', h1, h2, z2⟩
theorem tp_fr {D : List (Nat × Nat)} {w w' : sW} (hw : wOk ZZ w) (h : hO D w w') (hm : mIn D 61 2 = false) (e : gF w 213 2 = 0) : gF w' 213 2 = 0 := by rw [fr_gF (t := 61) (c := 213) h.2 rfl hm hw (by decide +kernel)]; exact e
theorem sen_l {kn : sKn} {w0 w1 : sW} (oH : hO dH_sa w0 w1) (nn : NI w1) (ht : gF w1 213 59 < gF w1 213 56) (hn : 0 ≤ gF w1 213 59 ∧ gF w1 213 59 ≤ 59) (hT : gF w1 213 2 = 0) : ∀ (m k : Nat) (w : sW) (lv : List (Nat × Value)) (x : Int), k + m = 240 → x = (k : Int) → seI w1 w k → hL lv [(0, .ref 213), (1, hI x)] → Tp (tX12_sentence kn) (fun r => ∃ (w' : sW) (v : Int), r = (some (hI v), w', 0, 0) ∧ hO dH_sen w0 w' ∧ gF w' 213 2 = 0) 79 (lv, [], w, 0, 0) := by
  intro m
  induction m with
  | zero =>
    intro k w lv x hkm hxk hJ l0
    subst hxk
    have o0 := hJ.1
    refine h_iload rfl l0 rfl ?_
    refine h_intv k_240 rfl ?_
    refine i_ge (kn := kn) (t := 3) (tgt := 108) (np := 86) rfl (by unfold R32; omega) (by unfold R32; omega) (fun e41 => ?_) (fun e41 => ?_)
    · refine h_aload rfl l0 rfl ?_
      refine h_getI rfl o0 fi_57 (fun b42a b42b => ?_)
      refine h_iret rfl ?_
      exact ⟨_, _, rfl, hO_tr (hO_mono dH_sen1 oH) (hO_mono dH_sen2 ⟨hJ.1.1, fr_P (D := dH_sc) oH.1 hJ.1.1 hJ.1.2 (se_pw oH.1 (by rw [show (240 : Nat) = k by omega]; exact hJ) nn ht hn.2)⟩), tp_fr oH.1 hJ.1 (by decide +kernel) hT⟩
    · omega
  | succ m ih =>
    intro k w lv x hkm hxk hJ l0
    subst hxk
    have o0 := hJ.1
    refine h_iload rfl l0 rfl ?_
    refine h_intv k_240 rfl ?_
    refine i_ge (kn := kn) (t := 3) (tgt := 108) (np := 86) rfl (by unfold R32; omega) (by unfold R32; omega) (fun e41 => ?_) (fun e41 => ?_)
    · omega
    · refine h_aload rfl l0 rfl ?_
      refine h_getR rfl o0 fr_14 ?_
      refine h_intv k_198 rfl ?_
      refine h_iload rfl l0 rfl ?_
      refine h_iadd rfl ?_
      refine h_aload rfl l0 rfl ?_
      refine h_getR rfl o0 fr_55 ?_
      refine h_iload rfl l0 rfl ?_
      refine h_ialdj (k) rfl o0 ai_240 rfl (by omega) (by omega) (fun b42a b42b => ?_)
      refine h_iaste (198 + k) rfl o0 ai_215 rfl rfl (by omega) (by omega) (by rw [← sgq_ok (sg_sen2 k (by omega))]; exact gX_seg o0 ai_240 (by omega)) (by unfold R32; omega) (fun w43 o43 q44a q44b q44c => ?_)
      refine h_iincv k_1 rfl l0 rfl (fun vl45 l45 => ?_)
      refine h_goto rfl ?_
      refine ih (k + 1) _ _ ((k : Int) + 1) (by omega) (by omega) ⟨o43, ?_, fun j j2 => ?_, fun c j hc => ?_⟩ l45
      · rw [q44b 215 197 (fun _ => by omega)]
        exact hJ.2.1
      · by_cases e : j = k
        · rw [e, q44a]
          exact hJ.2.2.2 240 k (by decide)
        · rw [q44b 215 _ (fun _ => by omega)]
          exact hJ.2.2.1 j (by omega)
      · rw [q44b c j (fun e => absurd e hc)]
        exact hJ.2.2.2 c j hc
theorem sen_56 {kn : sKn} {w0 w1 : sW} (oH : hO dH_sa w0 w1) (nn : NI w1) (ht : gF w1 213 59 < gF w1 213 56) (hn : 0 ≤ gF w1 213 59 ∧ gF w1 213 59 ≤ 59) (hT : gF w1 213 2 = 0) (lv : List (Nat × Value)) (l0 : hL lv [(0, .ref 213)]) : Tp (tX12_sentence kn) (fun r => ∃ (w' : sW) (v : Int), r = (some (hI v), w', 0, 0) ∧ hO dH_sen w0 w' ∧ gF w' 213 2 = 0) 56 (lv, [], w1, 0, 0) := by
  have o0 : hO dH_sb w1 w1 := hO_rf oH.1
  refine h_aload rfl l0 rfl ?_
  refine h_getR rfl o0 fr_14 ?_
  refine h_intv k_196 rfl ?_
  refine h_intv k_1 rfl ?_
  refine h_iaste (196) rfl o0 ai_215 rfl rfl (by omega) (by omega) (sgc_ok sg_sen0 ⟨by omega, by omega⟩) (by unfold R32; omega) (fun w41 o41 q42a q42b q42c => ?_)
  refine h_aload rfl l0 rfl ?_
  refine h_getR rfl o41 fr_14 ?_
  refine h_intv k_197 rfl ?_
  refine h_aload rfl l0 rfl ?_
  refine h_getI rfl o41 fi_59 (fun b43a b43b => ?_)
  rw [q42c] at b43a b43b ⊢
  refine h_iastj (197) rfl o41 ai_215 rfl rfl sg_sen1 (by omega) (by omega) (by omega) (by omega) (by omega) (by unfold R32; omega) (fun w44 o44 q45a q45b q45c => ?_)
  refine h_intv k_0 rfl ?_
  refine h_istore rfl l0 (fun vl46 l46 => ?_)
  exact sen_l oH nn ht hn hT 240 0 _ _ 0 rfl rfl ⟨o44, by rw [q45a], fun j hj => by omega, fun c j hc => by rw [q45b c j (fun e => absurd e hc), q42b c j (fun e => absurd e hc)]⟩ l46
theorem s_sentence {kn : sKn} {w0 : sW} (hw : wOk ZZ w0) : ∃ (w' : sW) (v : Int), fX12_sentence kn [.ref 213] w0 = some (some (hI v), w', 0, 0) ∧ hO dH_sen w0 w' ∧ gF w' 213 2 = 0 := by
  have K : Tp (tX12_sentence kn) (fun r => ∃ (w' : sW) (v : Int), r = (some (hI v), w', 0, 0) ∧ hO dH_sen w0 w' ∧ gF w' 213 2 = 0) 0 (lv_args 0 [.ref 213], [], w0, 0, 0) := by
    have l0 : hL (lv_args 0 [.ref 213]) (lv_args 0 [.ref 213]) := hL_ex rfl
    have o0 : hO dH_sa w0 w0 := hO_rf hw
    refine h_aload rfl l0 rfl ?_
    refine h_intv k_200 rfl ?_
    obtain ⟨wA, hf41, oA', tA⟩ := s_beginT (kn := kn) o0.1
    have oA : hO dH_sa w0 wA := hO_tr o0 (hO_mono dH_sa1 oA')
    refine h_W2 rfl o0 l0 ci_213 rfl rfl hf41 ?_
    refine h_aload rfl l0 rfl ?_
    refine h_intv k_0 rfl ?_
    refine h_putI rfl oA fi_56 rfl (by omega) (by omega) (fun w42 o42 q43a q43b q43c => ?_)
    refine h_aload rfl l0 rfl ?_
    refine h_intv k_0 rfl ?_
    refine h_putI rfl o42 fi_57 rfl (by omega) (by omega) (fun w44 o44 q45a q45b q45c => ?_)
    refine h_aload rfl l0 rfl ?_
    refine h_intv k_0 rfl ?_
    refine h_putI rfl o44 fi_58 rfl (by omega) (by omega) (fun w46 o46 q47a q47b q47c => ?_)
    refine h_aload rfl l0 rfl ?_
    obtain ⟨_, hf48, wC, bC, rfl, oC', fC8, hbC, hqC⟩ := s_readOr (kn := kn) (w := w46) ⟨o46.1, (fun i hi => by rw [q47b 213 56 (fun _ => by decide), q45b 213 56 (fun _ => by decide), q43a] at hi; omega), (by rw [q47b 213 56 (fun _ => by decide), q45b 213 56 (fun _ => by decide), q43a, q47b 213 57 (fun _ => by decide), q45a]; omega)⟩ q47a
    have oC : hO dH_sa w0 wC := hO_tr o46 (hO_mono dH_sa2 oC')
    have tC := tp_fr o46.1 oC' (by decide +kernel) (by rw [q47b 213 2 (fun _ => by decide), q45b 213 2 (fun _ => by decide), q43b 213 2 (fun _ => by decide)]; exact tA)
    obtain ⟨_, _, _, _, _, _, _, c9, d9⟩ := fI_ok oC fi_59
    refine h_V1 rfl o46 l0 ci_213 rfl rfl hf48 ?_
    refine j_ne (kn := kn) (t := 1) (tgt := 36) (np := 29) rfl (by unfold R32; omega) (fun e49 => ?_) (fun e49 => ?_)
    · refine h_aload rfl l0 rfl ?_
      refine h_getI rfl oC fi_7 (fun b50a b50b => ?_)
      refine j_eq (kn := kn) (t := 0) (tgt := 56) (np := 43) rfl (by unfold R32; omega) (fun e51 => ?_) (fun e51 => ?_)
      · obtain ⟨nC, pC, mC, kC⟩ := hqC (by omega)
        exact sen_56 oC nC kC ⟨by omega, by omega⟩ tC _ l0
      · refine h_aload rfl l0 rfl ?_
        refine h_intv k_1 rfl ?_
        obtain ⟨wD, hf52, oD'⟩ := s_bad (kn := kn) oC.1 1 ⟨by omega, by omega⟩
        have oD : hO dH_sa w0 wD := hO_tr oC (hO_mono dH_sa3 oD')
        have tD := tp_fr oC.1 oD' (by decide +kernel) tC
        refine h_V2 rfl oC l0 ci_213 rfl rfl hf52 ?_
        refine h_pop rfl rfl ?_
        refine h_intv k_n1 rfl ?_
        refine h_aload rfl l0 rfl ?_
        refine h_getI rfl oD fi_11 (fun b53a b53b => ?_)
        refine h_isub rfl ?_
        refine h_iret rfl ?_
        exact ⟨_, _, rfl, hO_mono dH_sen1 oD, tD⟩
    · refine h_intv k_n1 rfl ?_
      refine h_aload rfl l0 rfl ?_
      refine h_getI rfl oC fi_11 (fun b54a b54b => ?_)
      refine h_isub rfl ?_
      refine h_iret rfl ?_
      exact ⟨_, _, rfl, hO_mono dH_sen1 oC, tC⟩
  obtain ⟨r, h1, w2, b, h2, h3⟩ := h_meth1 (nL := 2) rfl K
  rw [h2] at h1
  exact ⟨w2, b, h1, h3⟩
theorem s_isDeadA {kn : sKn} {w : sW} (hw : wOk ZZ w) (x : Int) : ∃ b : Int, fX12_isDead kn [.ref 213, hI x] w = some (some (hI b), w, 0, 0) ∧ (b = 0 ∨ b = 1) := by
  have K : Tp (tX12_isDead kn) (fun r => ∃ b : Int, r = (some (hI b), w, 0, 0) ∧ (b = 0 ∨ b = 1)) 0 (lv_args 0 [.ref 213, hI x], [], w, 0, 0) := by
    have l0 : hL (lv_args 0 [.ref 213, hI x]) (lv_args 0 [.ref 213, hI x]) := hL_ex rfl
    have o0 : hO [] w w := hO_rf hw
    refine h_aload rfl l0 rfl ?_
    refine h_getR rfl o0 fr_14 ?_
    refine h_intv k_95 rfl ?_
    refine h_ialdj (95) rfl o0 ai_215 rfl (by omega) (by omega) (fun b41a b41b => ?_)
    refine h_iload rfl l0 rfl ?_
    obtain ⟨z42, hf42, hz42, hq42⟩ := s_has (kn := kn) o0.1 (gX w 215 (95)) x
    refine h_S2 rfl o0 l0 rfl rfl hf42 ?_
    refine h_zret (by omega) rfl ?_
    exact ⟨_, rfl, by omega⟩
  obtain ⟨r, h1, b, h2, h3⟩ := h_meth1 (nL := 2) rfl K
  rw [h2] at h1
  exact ⟨b, h1, h3⟩
theorem s_planksOfA {kn : sKn} {w : sW} (hw : wOk ZZ w) (x : Int) (hx : R32 x) : ∃ b : Int, fX12_planksOf kn [.ref 213, hI x] w = some (some (hI b), w, 0, 0) ∧ R32 b := by
  obtain ⟨r, w', h1, h2, q, hq, σ', h0, h3, h4, h5⟩ := con_1m (con_X12_planksOf_0 kn) hw hx hx.1 hx.2
  have e : w' = w := fr_nil hw h2.1 h2.2
  subst e
  rcases List.mem_singleton.mp hq with rfl
  cases r with
  | none => exact h3.elim
  | some v =>
    obtain ⟨⟨z, d1, d2⟩, _⟩ := h3
    obtain ⟨e, r⟩ := vOk_hI d2
    rw [e] at h1
    exact ⟨_, h1, r⟩
theorem on_l {kn : sKn} {w : sW} (hw : wOk ZZ w) (s : Int) (hs : 0 ≤ s ∧ s ≤ 9) (r0 : Nat) (hr : r0 ≤ 11) : ∀ (m k : Nat) (lv : List (Nat × Value)) (y : Int), k + m = 3 → y = (k : Int) → hL lv [(0, .ref 213), (1, hI s), (2, hI r0), (3, hI y)] → Tp (tX12_isOn kn) (fun r => ∃ b : Int, r = (some (hI b), w, 0, 0) ∧ (b = 0 ∨ b = 1)) 2 (lv, [], w, 0, 0) := by
  have o0 : hO [] w w := hO_rf hw
  intro m
  induction m with
  | zero =>
    intro k lv y hkm hxk l0
    subst hxk
    refine h_iload rfl l0 rfl ?_
    refine h_intv k_3 rfl ?_
    refine i_ge (kn := kn) (t := 3) (tgt := 32) (np := 7) rfl (by unfold R32; omega) (by unfold R32; omega) (fun e41 => ?_) (fun e41 => ?_)
    · refine h_intv k_0 rfl ?_
      refine h_zret (by omega) rfl ?_
      exact ⟨_, rfl, by omega⟩
    · omega
  | succ m ih =>
    intro k lv y hkm hxk l0
    subst hxk
    refine h_iload rfl l0 rfl ?_
    refine h_intv k_3 rfl ?_
    refine i_ge (kn := kn) (t := 3) (tgt := 32) (np := 7) rfl (by unfold R32; omega) (by unfold R32; omega) (fun e41 => ?_) (fun e41 => ?_)
    · omega
    · refine h_aload rfl l0 rfl ?_
      refine h_getR rfl o0 fr_14 ?_
      refine h_intv k_118 rfl ?_
      refine h_intv k_3 rfl ?_
      refine h_iload rfl l0 rfl ?_
      refine h_imul rfl ?_
      refine h_iadd rfl ?_
      refine h_iload rfl l0 rfl ?_
      refine h_iadd rfl ?_
      refine h_ialdj (118 + 3 * r0 + k) rfl o0 ai_215 rfl (by omega) (by omega) (fun b42a b42b => ?_)
      refine h_iload rfl l0 rfl ?_
      refine i_ne (kn := kn) (t := 1) (tgt := 26) (np := 24) rfl (by unfold R32; omega) (by unfold R32; omega) (fun e43 => ?_) (fun e43 => ?_)
      · refine h_iincv k_1 rfl l0 rfl (fun vl44 l44 => ?_)
        refine h_goto rfl ?_
        exact ih (k + 1) _ ((k : Int) + 1) (by omega) (by omega) l44
      · refine h_intv k_1 rfl ?_
        refine h_zret (by omega) rfl ?_
        exact ⟨_, rfl, by omega⟩
theorem s_isOnA {kn : sKn} {w : sW} (hw : wOk ZZ w) (s : Int) (hs : 0 ≤ s ∧ s ≤ 9) (r0 : Nat) (hr : r0 ≤ 11) : ∃ b : Int, fX12_isOn kn [.ref 213, hI s, hI r0] w = some (some (hI b), w, 0, 0) ∧ (b = 0 ∨ b = 1) := by
  have K : Tp (tX12_isOn kn) (fun r => ∃ b : Int, r = (some (hI b), w, 0, 0) ∧ (b = 0 ∨ b = 1)) 0 (lv_args 0 [.ref 213, hI s, hI r0], [], w, 0, 0) := by
    have l0 : hL (lv_args 0 [.ref 213, hI s, hI r0]) (lv_args 0 [.ref 213, hI s, hI r0]) := hL_ex rfl
    have o0 : hO [] w w := hO_rf hw
    refine h_intv k_0 rfl ?_
    refine h_istore rfl l0 (fun vl41 l41 => ?_)
    exact on_l hw s hs r0 hr 3 0 _ 0 rfl rfl l41
  obtain ⟨r, h1, b, h2, h3⟩ := h_meth1 (nL := 4) rfl K
  rw [h2] at h1
  exact ⟨b, h1, h3⟩
def hoH (g : List Value → sW → Option sR) (d : Nat) : Prop := ∀ (w : sW) (k : Nat) (s : Int), wOk ZZ w → (∀ i : Nat, i ≤ k → ndG w 215 198 i) → k < 60 → k < d → (0 ≤ s ∧ s ≤ 9) → ∃ b : Int, g [.ref 213, hI k, hI s] w = some (some (hI b), w, 0, 0) ∧ (b = 0 ∨ b = 1)
theorem s_holds_g {kn : sKn} {g : List Value → sW → Option sR} {d : Nat} (hg : hoH g d) : hoH (fX12_holds__g kn g) (d + 1) := by
  intro w k s hw hA h60 hd hs
  have hN := hA k (Nat.le_refl _)
  unfold ndG at hN
  have K : Tp (tX12_holds__g kn g) (fun r => ∃ b : Int, r = (some (hI b), w, 0, 0) ∧ (b = 0 ∨ b = 1)) 0 (lv_args 0 [.ref 213, hI k, hI s], [], w, 0, 0) := by
    have l0 : hL (lv_args 0 [.ref 213, hI k, hI s]) (lv_args 0 [.ref 213, hI k, hI s]) := hL_ex rfl
    have o0 : hO [] w w := hO_rf hw
    refine h_intv k_198 rfl ?_
    refine h_intv k_4 rfl ?_
    refine h_iload rfl l0 rfl ?_
    refine h_imul rfl ?_
    refine h_iadd rfl ?_
    refine h_istore rfl l0 (fun vl41 l41 => ?_)
    refine h_aload rfl l41 rfl ?_
    refine h_getR rfl o0 fr_14 ?_
    refine h_iload rfl l41 rfl ?_
    refine h_intv k_1 rfl ?_
    refine h_iadd rfl ?_
    refine h_ialdj (198 + 4 * k + 1) rfl o0 ai_215 rfl (by omega) (by omega) (fun b42a b42b => ?_)
    refine h_istore rfl l41 (fun vl43 l43 => ?_)
    refine h_aload rfl l43 rfl ?_
    refine h_getR rfl o0 fr_14 ?_
    refine h_iload rfl l43 rfl ?_
    refine h_intv k_2 rfl ?_
    refine h_iadd rfl ?_
    refine h_ialdj (198 + 4 * k + 2) rfl o0 ai_215 rfl (by omega) (by omega) (fun b44a b44b => ?_)
    refine h_istore rfl l43 (fun vl45 l45 => ?_)
    refine h_aload rfl l45 rfl ?_
    refine h_getR rfl o0 fr_14 ?_
    refine h_iload rfl l45 rfl ?_
    refine h_ialdj (198 + 4 * k) rfl o0 ai_215 rfl (by omega) (by omega) (fun b46a b46b => ?_)
    by_cases e47_0 : (gX w 215 (198 + 4 * k)) = 1
    · refine h_look 1 e47_0 (by unfold R32; omega) rfl rfl ?_
      refine h_aload rfl l45 rfl ?_
      refine h_iload rfl l45 rfl ?_
      refine h_iload rfl l45 rfl ?_
      have hx48 := hN.1 (by omega)
      obtain ⟨n48, hn48⟩ : ∃ n : Nat, (gX w 215 (198 + 4 * k + 1)) = (n : Int) := ⟨((gX w 215 (198 + 4 * k + 1))).toNat, by omega⟩
      obtain ⟨b48, hf48, hb48⟩ := hg w n48 s hw (fun i hi => hA i (by omega)) (by omega) (by omega) hs
      rw [← hn48] at hf48
      refine h_V3 rfl o0 l45 ci_213 rfl rfl hf48 ?_
      refine j_ne (kn := kn) (t := 1) (tgt := 122) (np := 118) rfl (by unfold R32; omega) (fun e49 => ?_) (fun e49 => ?_)
      · refine h_intv k_0 rfl ?_
        refine h_zret (by omega) rfl ?_
        exact ⟨_, rfl, by omega⟩
      · refine h_intv k_1 rfl ?_
        refine h_goto rfl ?_
        refine h_zret (by omega) rfl ?_
        exact ⟨_, rfl, by omega⟩
    by_cases e47_1 : (gX w 215 (198 + 4 * k)) = 2
    · refine h_look 2 e47_1 (by unfold R32; omega) rfl rfl ?_
      refine h_aload rfl l45 rfl ?_
      refine h_iload rfl l45 rfl ?_
      refine h_iload rfl l45 rfl ?_
      have hx50 := (hN.2.1 (by omega)).1
      obtain ⟨n50, hn50⟩ : ∃ n : Nat, (gX w 215 (198 + 4 * k + 1)) = (n : Int) := ⟨((gX w 215 (198 + 4 * k + 1))).toNat, by omega⟩
      obtain ⟨b50, hf50, hb50⟩ := hg w n50 s hw (fun i hi => hA i (by omega)) (by omega) (by omega) hs
      rw [← hn50] at hf50
      refine h_V3 rfl o0 l45 ci_213 rfl rfl hf50 ?_
      refine j_eq (kn := kn) (t := 0) (tgt := 148) (np := 134) rfl (by unfold R32; omega) (fun e51 => ?_) (fun e51 => ?_)
      · refine h_intv k_0 rfl ?_
        refine h_zret (by omega) rfl ?_
        exact ⟨_, rfl, by omega⟩
      · refine h_aload rfl l45 rfl ?_
        refine h_iload rfl l45 rfl ?_
        refine h_iload rfl l45 rfl ?_
        have hx52 := (hN.2.1 (by omega)).2
        obtain ⟨n52, hn52⟩ : ∃ n : Nat, (gX w 215 (198 + 4 * k + 2)) = (n : Int) := ⟨((gX w 215 (198 + 4 * k + 2))).toNat, by omega⟩
        obtain ⟨b52, hf52, hb52⟩ := hg w n52 s hw (fun i hi => hA i (by omega)) (by omega) (by omega) hs
        rw [← hn52] at hf52
        refine h_V3 rfl o0 l45 ci_213 rfl rfl hf52 ?_
        refine j_eq (kn := kn) (t := 0) (tgt := 148) (np := 144) rfl (by unfold R32; omega) (fun e53 => ?_) (fun e53 => ?_)
        · refine h_intv k_0 rfl ?_
          refine h_zret (by omega) rfl ?_
          exact ⟨_, rfl, by omega⟩
        · refine h_intv k_1 rfl ?_
          refine h_goto rfl ?_
          refine h_zret (by omega) rfl ?_
          exact ⟨_, rfl, by omega⟩
    by_cases e47_2 : (gX w 215 (198 + 4 * k)) = 3
    · refine h_look 3 e47_2 (by unfold R32; omega) rfl rfl ?_
      refine h_aload rfl l45 rfl ?_
      refine h_iload rfl l45 rfl ?_
      refine h_iload rfl l45 rfl ?_
      have hx54 := (hN.2.1 (by omega)).1
      obtain ⟨n54, hn54⟩ : ∃ n : Nat, (gX w 215 (198 + 4 * k + 1)) = (n : Int) := ⟨((gX w 215 (198 + 4 * k + 1))).toNat, by omega⟩
      obtain ⟨b54, hf54, hb54⟩ := hg w n54 s hw (fun i hi => hA i (by omega)) (by omega) (by omega) hs
      rw [← hn54] at hf54
      refine h_V3 rfl o0 l45 ci_213 rfl rfl hf54 ?_
      refine j_ne (kn := kn) (t := 1) (tgt := 170) (np := 160) rfl (by unfold R32; omega) (fun e55 => ?_) (fun e55 => ?_)
      · refine h_intv k_1 rfl ?_
        refine h_goto rfl ?_
        refine h_zret (by omega) rfl ?_
        exact ⟨_, rfl, by omega⟩
      · refine h_aload rfl l45 rfl ?_
        refine h_iload rfl l45 rfl ?_
        refine h_iload rfl l45 rfl ?_
        have hx56 := (hN.2.1 (by omega)).2
        obtain ⟨n56, hn56⟩ : ∃ n : Nat, (gX w 215 (198 + 4 * k + 2)) = (n : Int) := ⟨((gX w 215 (198 + 4 * k + 2))).toNat, by omega⟩
        obtain ⟨b56, hf56, hb56⟩ := hg w n56 s hw (fun i hi => hA i (by omega)) (by omega) (by omega) hs
        rw [← hn56] at hf56
        refine h_V3 rfl o0 l45 ci_213 rfl rfl hf56 ?_
        refine j_eq (kn := kn) (t := 0) (tgt := 174) (np := 170) rfl (by unfold R32; omega) (fun e57 => ?_) (fun e57 => ?_)
        · refine h_intv k_0 rfl ?_
          refine h_zret (by omega) rfl ?_
          exact ⟨_, rfl, by omega⟩
        · refine h_intv k_1 rfl ?_
          refine h_goto rfl ?_
          refine h_zret (by omega) rfl ?_
          exact ⟨_, rfl, by omega⟩
    by_cases e47_3 : (gX w 215 (198 + 4 * k)) = 68
    · refine h_look 68 e47_3 (by unfold R32; omega) rfl rfl ?_
      refine h_aload rfl l45 rfl ?_
      refine h_iload rfl l45 rfl ?_
      obtain ⟨b58, hf58, hb58⟩ := s_isDeadA (kn := kn) o0.1 s
      refine h_V2 rfl o0 l45 ci_213 rfl rfl hf58 ?_
      refine h_zret (by omega) rfl ?_
      exact ⟨_, rfl, by omega⟩
    by_cases e47_4 : (gX w 215 (198 + 4 * k)) = 69
    · refine h_look 69 e47_4 (by unfold R32; omega) rfl rfl ?_
      refine h_aload rfl l45 rfl ?_
      refine h_getR rfl o0 fr_14 ?_
      refine h_intv k_25 rfl ?_
      refine h_ialdj (25) rfl o0 ai_215 rfl (by omega) (by omega) (fun b59a b59b => ?_)
      refine h_iload rfl l45 rfl ?_
      obtain ⟨b60, hf60, hb60, _⟩ := s_has (kn := kn) o0.1 (gX w 215 (25)) s
      refine h_S2 rfl o0 l45 rfl rfl hf60 ?_
      refine h_zret (by omega) rfl ?_
      exact ⟨_, rfl, by omega⟩
    by_cases e47_5 : (gX w 215 (198 + 4 * k)) = 70
    · refine h_look 70 e47_5 (by unfold R32; omega) rfl rfl ?_
      skip
      refine h_aload rfl l45 rfl ?_
      refine h_getR rfl o0 fr_14 ?_
      refine h_intv k_36 rfl ?_
      refine h_iload rfl l45 rfl ?_
      refine h_iadd rfl ?_
      refine h_ialdj (36 + s.toNat) rfl o0 ai_215 rfl (by omega) (by omega) (fun b61a b61b => ?_)
      refine h_iload rfl l45 rfl ?_
      obtain ⟨b62, hf62, hb62, _⟩ := s_has (kn := kn) o0.1 (gX w 215 (36 + s.toNat)) (gX w 215 (198 + 4 * k + 1))
      refine h_S2 rfl o0 l45 rfl rfl hf62 ?_
      refine h_zret (by omega) rfl ?_
      exact ⟨_, rfl, by omega⟩
    by_cases e47_6 : (gX w 215 (198 + 4 * k)) = 71
    · refine h_look 71 e47_6 (by unfold R32; omega) rfl rfl ?_
      have hF := hN.2.2 (by omega)
      refine h_aload rfl l45 rfl ?_
      refine h_getR rfl o0 fr_14 ?_
      refine h_intv k_26 rfl ?_
      refine h_iload rfl l45 rfl ?_
      refine h_iadd rfl ?_
      refine h_ialdj (26 + (gX w 215 (198 + 4 * k + 1)).toNat) rfl o0 ai_215 rfl (by omega) (by omega) (fun b63a b63b => ?_)
      refine h_iload rfl l45 rfl ?_
      refine i_ne (kn := kn) (t := 1) (tgt := 227) (np := 223) rfl (by unfold R32; omega) (by unfold R32; omega) (fun e64 => ?_) (fun e64 => ?_)
      · refine h_intv k_0 rfl ?_
        refine h_zret (by omega) rfl ?_
        exact ⟨_, rfl, by omega⟩
      · refine h_intv k_1 rfl ?_
        refine h_goto rfl ?_
        refine h_zret (by omega) rfl ?_
        exact ⟨_, rfl, by omega⟩
    by_cases e47_7 : (gX w 215 (198 + 4 * k)) = 72
    · refine h_look 72 e47_7 (by unfold R32; omega) rfl rfl ?_
      refine h_aload rfl l45 rfl ?_
      refine h_iload rfl l45 rfl ?_
      refine h_iload rfl l45 rfl ?_
      have hF := hN.2.2 (by omega)
      obtain ⟨n65, hn65⟩ : ∃ n : Nat, (gX w 215 (198 + 4 * k + 1)) = (n : Int) := ⟨((gX w 215 (198 + 4 * k + 1))).toNat, by omega⟩
      obtain ⟨b65, hf65, hb65⟩ := s_isOnA (kn := kn) hw s hs n65 (by omega)
      rw [← hn65] at hf65
      refine h_V3 rfl o0 l45 ci_213 rfl rfl hf65 ?_
      refine h_zret (by omega) rfl ?_
      exact ⟨_, rfl, by omega⟩
    refine h_lookd rfl (by unfold R32; omega) (by simp only [List.mem_cons, List.not_mem_nil, or_false, forall_eq_or_imp, forall_eq]; omega) ?_
    refine h_aload rfl l45 rfl ?_
    refine h_getR rfl o0 fr_14 ?_
    refine h_iload rfl l45 rfl ?_
    refine h_ialdj (198 + 4 * k) rfl o0 ai_215 rfl (by omega) (by omega) (fun b66a b66b => ?_)
    refine h_intv k_50 rfl ?_
    refine h_isubv rfl (fun z67 rz67 => ?_)
    have rz671 := rz67.1
    have rz672 := rz67.2
    refine h_istore rfl l45 (fun vl68 l68 => ?_)
    refine h_iload rfl l68 rfl ?_
    refine h_intv k_23 rfl ?_
    refine i_ne (kn := kn) (t := 1) (tgt := 267) (np := 255) rfl (by unfold R32; omega) (by unfold R32; omega) (fun e69 => ?_) (fun e69 => ?_)
    · refine h_iload rfl l68 rfl ?_
      refine h_intv k_24 rfl ?_
      refine i_ne (kn := kn) (t := 1) (tgt := 282) (np := 274) rfl (by unfold R32; omega) (by unfold R32; omega) (fun e70 => ?_) (fun e70 => ?_)
      · refine h_iload rfl l68 rfl ?_
        refine h_intv k_25 rfl ?_
        refine i_ne (kn := kn) (t := 1) (tgt := 301) (np := 289) rfl (by unfold R32; omega) (by unfold R32; omega) (fun e71 => ?_) (fun e71 => ?_)
        · refine h_iload rfl l68 rfl ?_
          refine h_istore rfl l68 (fun vl72 l72 => ?_)
          refine h_aload rfl l72 rfl ?_
          refine h_getR rfl o0 fr_14 ?_
          refine h_iload rfl l72 rfl ?_
          refine h_intv k_3 rfl ?_
          refine h_iadd rfl ?_
          refine h_ialdj (198 + 4 * k + 3) rfl o0 ai_215 rfl (by omega) (by omega) (fun b73a b73b => ?_)
          refine h_intv k_60 rfl ?_
          refine i_ne (kn := kn) (t := 1) (tgt := 332) (np := 317) rfl (by unfold R32; omega) (by unfold R32; omega) (fun e74 => ?_) (fun e74 => ?_)
          · refine h_aload rfl l72 rfl ?_
            refine h_getR rfl o0 fr_14 ?_
            refine h_iload rfl l72 rfl ?_
            refine h_intv k_3 rfl ?_
            refine h_iadd rfl ?_
            refine h_ialdj (198 + 4 * k + 3) rfl o0 ai_215 rfl (by omega) (by omega) (fun b75a b75b => ?_)
            refine h_intv k_61 rfl ?_
            refine i_ne (kn := kn) (t := 1) (tgt := 360) (np := 345) rfl (by unfold R32; omega) (by unfold R32; omega) (fun e76 => ?_) (fun e76 => ?_)
            · refine h_iload rfl l72 rfl ?_
              refine h_iload rfl l72 rfl ?_
              refine i_le (kn := kn) (t := 5) (tgt := 371) (np := 367) rfl (by unfold R32; omega) (by unfold R32; omega) (fun e77 => ?_) (fun e77 => ?_)
              · refine h_intv k_0 rfl ?_
                refine h_zret (by omega) rfl ?_
                exact ⟨_, rfl, by omega⟩
              · refine h_intv k_1 rfl ?_
                refine h_goto rfl ?_
                refine h_zret (by omega) rfl ?_
                exact ⟨_, rfl, by omega⟩
            · refine h_iload rfl l72 rfl ?_
              refine h_iload rfl l72 rfl ?_
              refine i_ne (kn := kn) (t := 1) (tgt := 356) (np := 352) rfl (by unfold R32; omega) (by unfold R32; omega) (fun e78 => ?_) (fun e78 => ?_)
              · refine h_intv k_0 rfl ?_
                refine h_goto rfl ?_
                refine h_zret (by omega) rfl ?_
                exact ⟨_, rfl, by omega⟩
              · refine h_intv k_1 rfl ?_
                refine h_goto rfl ?_
                refine h_zret (by omega) rfl ?_
                exact ⟨_, rfl, by omega⟩
          · refine h_iload rfl l72 rfl ?_
            refine h_iload rfl l72 rfl ?_
            refine i_ge (kn := kn) (t := 3) (tgt := 328) (np := 324) rfl (by unfold R32; omega) (by unfold R32; omega) (fun e79 => ?_) (fun e79 => ?_)
            · refine h_intv k_0 rfl ?_
              refine h_goto rfl ?_
              refine h_zret (by omega) rfl ?_
              exact ⟨_, rfl, by omega⟩
            · refine h_intv k_1 rfl ?_
              refine h_goto rfl ?_
              refine h_zret (by omega) rfl ?_
              exact ⟨_, rfl, by omega⟩
        · refine h_aload rfl l68 rfl ?_
          refine h_getR rfl o0 fr_14 ?_
          refine h_intv k_15 rfl ?_
          refine h_iload rfl l68 rfl ?_
          refine h_iadd rfl ?_
          refine h_ialdj (15 + s.toNat) rfl o0 ai_215 rfl (by omega) (by omega) (fun b80a b80b => ?_)
          refine h_goto rfl ?_
          refine h_istore rfl l68 (fun vl81 l81 => ?_)
          refine h_aload rfl l81 rfl ?_
          refine h_getR rfl o0 fr_14 ?_
          refine h_iload rfl l81 rfl ?_
          refine h_intv k_3 rfl ?_
          refine h_iadd rfl ?_
          refine h_ialdj (198 + 4 * k + 3) rfl o0 ai_215 rfl (by omega) (by omega) (fun b82a b82b => ?_)
          refine h_intv k_60 rfl ?_
          refine i_ne (kn := kn) (t := 1) (tgt := 332) (np := 317) rfl (by unfold R32; omega) (by unfold R32; omega) (fun e83 => ?_) (fun e83 => ?_)
          · refine h_aload rfl l81 rfl ?_
            refine h_getR rfl o0 fr_14 ?_
            refine h_iload rfl l81 rfl ?_
            refine h_intv k_3 rfl ?_
            refine h_iadd rfl ?_
            refine h_ialdj (198 + 4 * k + 3) rfl o0 ai_215 rfl (by omega) (by omega) (fun b84a b84b => ?_)
            refine h_intv k_61 rfl ?_
            refine i_ne (kn := kn) (t := 1) (tgt := 360) (np := 345) rfl (by unfold R32; omega) (by unfold R32; omega) (fun e85 => ?_) (fun e85 => ?_)
            · refine h_iload rfl l81 rfl ?_
              refine h_iload rfl l81 rfl ?_
              refine i_le (kn := kn) (t := 5) (tgt := 371) (np := 367) rfl (by unfold R32; omega) (by unfold R32; omega) (fun e86 => ?_) (fun e86 => ?_)
              · refine h_intv k_0 rfl ?_
                refine h_zret (by omega) rfl ?_
                exact ⟨_, rfl, by omega⟩
              · refine h_intv k_1 rfl ?_
                refine h_goto rfl ?_
                refine h_zret (by omega) rfl ?_
                exact ⟨_, rfl, by omega⟩
            · refine h_iload rfl l81 rfl ?_
              refine h_iload rfl l81 rfl ?_
              refine i_ne (kn := kn) (t := 1) (tgt := 356) (np := 352) rfl (by unfold R32; omega) (by unfold R32; omega) (fun e87 => ?_) (fun e87 => ?_)
              · refine h_intv k_0 rfl ?_
                refine h_goto rfl ?_
                refine h_zret (by omega) rfl ?_
                exact ⟨_, rfl, by omega⟩
              · refine h_intv k_1 rfl ?_
                refine h_goto rfl ?_
                refine h_zret (by omega) rfl ?_
                exact ⟨_, rfl, by omega⟩
          · refine h_iload rfl l81 rfl ?_
            refine h_iload rfl l81 rfl ?_
            refine i_ge (kn := kn) (t := 3) (tgt := 328) (np := 324) rfl (by unfold R32; omega) (by unfold R32; omega) (fun e88 => ?_) (fun e88 => ?_)
            · refine h_intv k_0 rfl ?_
              refine h_goto rfl ?_
              refine h_zret (by omega) rfl ?_
              exact ⟨_, rfl, by omega⟩
            · refine h_intv k_1 rfl ?_
              refine h_goto rfl ?_
              refine h_zret (by omega) rfl ?_
              exact ⟨_, rfl, by omega⟩
      · refine h_aload rfl l68 rfl ?_
        refine h_iload rfl l68 rfl ?_
        obtain ⟨b89, hf89, hb89⟩ := s_planksOfA (kn := kn) hw s ⟨by omega, by omega⟩
        have hb891 := hb89.1
        have hb892 := hb89.2
        refine h_V2 rfl o0 l68 ci_213 rfl rfl hf89 ?_
        refine h_goto rfl ?_
        refine h_istore rfl l68 (fun vl90 l90 => ?_)
        refine h_aload rfl l90 rfl ?_
        refine h_getR rfl o0 fr_14 ?_
        refine h_iload rfl l90 rfl ?_
        refine h_intv k_3 rfl ?_
        refine h_iadd rfl ?_
        refine h_ialdj (198 + 4 * k + 3) rfl o0 ai_215 rfl (by omega) (by omega) (fun b91a b91b => ?_)
        refine h_intv k_60 rfl ?_
        refine i_ne (kn := kn) (t := 1) (tgt := 332) (np := 317) rfl (by unfold R32; omega) (by unfold R32; omega) (fun e92 => ?_) (fun e92 => ?_)
        · refine h_aload rfl l90 rfl ?_
          refine h_getR rfl o0 fr_14 ?_
          refine h_iload rfl l90 rfl ?_
          refine h_intv k_3 rfl ?_
          refine h_iadd rfl ?_
          refine h_ialdj (198 + 4 * k + 3) rfl o0 ai_215 rfl (by omega) (by omega) (fun b93a b93b => ?_)
          refine h_intv k_61 rfl ?_
          refine i_ne (kn := kn) (t := 1) (tgt := 360) (np := 345) rfl (by unfold R32; omega) (by unfold R32; omega) (fun e94 => ?_) (fun e94 => ?_)
          · refine h_iload rfl l90 rfl ?_
            refine h_iload rfl l90 rfl ?_
            refine i_le (kn := kn) (t := 5) (tgt := 371) (np := 367) rfl (by unfold R32; omega) (by unfold R32; omega) (fun e95 => ?_) (fun e95 => ?_)
            · refine h_intv k_0 rfl ?_
              refine h_zret (by omega) rfl ?_
              exact ⟨_, rfl, by omega⟩
            · refine h_intv k_1 rfl ?_
              refine h_goto rfl ?_
              refine h_zret (by omega) rfl ?_
              exact ⟨_, rfl, by omega⟩
          · refine h_iload rfl l90 rfl ?_
            refine h_iload rfl l90 rfl ?_
            refine i_ne (kn := kn) (t := 1) (tgt := 356) (np := 352) rfl (by unfold R32; omega) (by unfold R32; omega) (fun e96 => ?_) (fun e96 => ?_)
            · refine h_intv k_0 rfl ?_
              refine h_goto rfl ?_
              refine h_zret (by omega) rfl ?_
              exact ⟨_, rfl, by omega⟩
            · refine h_intv k_1 rfl ?_
              refine h_goto rfl ?_
              refine h_zret (by omega) rfl ?_
              exact ⟨_, rfl, by omega⟩
        · refine h_iload rfl l90 rfl ?_
          refine h_iload rfl l90 rfl ?_
          refine i_ge (kn := kn) (t := 3) (tgt := 328) (np := 324) rfl (by unfold R32; omega) (by unfold R32; omega) (fun e97 => ?_) (fun e97 => ?_)
          · refine h_intv k_0 rfl ?_
            refine h_goto rfl ?_
            refine h_zret (by omega) rfl ?_
            exact ⟨_, rfl, by omega⟩
          · refine h_intv k_1 rfl ?_
            refine h_goto rfl ?_
            refine h_zret (by omega) rfl ?_
            exact ⟨_, rfl, by omega⟩
    · refine h_aload rfl l68 rfl ?_
      refine h_getR rfl o0 fr_14 ?_
      refine h_intv k_98 rfl ?_
      refine h_iload rfl l68 rfl ?_
      refine h_iadd rfl ?_
      refine h_ialdj (98 + s.toNat) rfl o0 ai_215 rfl (by omega) (by omega) (fun b98a b98b => ?_)
      refine h_goto rfl ?_
      refine h_istore rfl l68 (fun vl99 l99 => ?_)
      refine h_aload rfl l99 rfl ?_
      refine h_getR rfl o0 fr_14 ?_
      refine h_iload rfl l99 rfl ?_
      refine h_intv k_3 rfl ?_
      refine h_iadd rfl ?_
      refine h_ialdj (198 + 4 * k + 3) rfl o0 ai_215 rfl (by omega) (by omega) (fun b100a b100b => ?_)
      refine h_intv k_60 rfl ?_
      refine i_ne (kn := kn) (t := 1) (tgt := 332) (np := 317) rfl (by unfold R32; omega) (by unfold R32; omega) (fun e101 => ?_) (fun e101 => ?_)
      · refine h_aload rfl l99 rfl ?_
        refine h_getR rfl o0 fr_14 ?_
        refine h_iload rfl l99 rfl ?_
        refine h_intv k_3 rfl ?_
        refine h_iadd rfl ?_
        refine h_ialdj (198 + 4 * k + 3) rfl o0 ai_215 rfl (by omega) (by omega) (fun b102a b102b => ?_)
        refine h_intv k_61 rfl ?_
        refine i_ne (kn := kn) (t := 1) (tgt := 360) (np := 345) rfl (by unfold R32; omega) (by unfold R32; omega) (fun e103 => ?_) (fun e103 => ?_)
        · refine h_iload rfl l99 rfl ?_
          refine h_iload rfl l99 rfl ?_
          refine i_le (kn := kn) (t := 5) (tgt := 371) (np := 367) rfl (by unfold R32; omega) (by unfold R32; omega) (fun e104 => ?_) (fun e104 => ?_)
          · refine h_intv k_0 rfl ?_
            refine h_zret (by omega) rfl ?_
            exact ⟨_, rfl, by omega⟩
          · refine h_intv k_1 rfl ?_
            refine h_goto rfl ?_
            refine h_zret (by omega) rfl ?_
            exact ⟨_, rfl, by omega⟩
        · refine h_iload rfl l99 rfl ?_
          refine h_iload rfl l99 rfl ?_
          refine i_ne (kn := kn) (t := 1) (tgt := 356) (np := 352) rfl (by unfold R32; omega) (by unfold R32; omega) (fun e105 => ?_) (fun e105 => ?_)
          · refine h_intv k_0 rfl ?_
            refine h_goto rfl ?_
            refine h_zret (by omega) rfl ?_
            exact ⟨_, rfl, by omega⟩
          · refine h_intv k_1 rfl ?_
            refine h_goto rfl ?_
            refine h_zret (by omega) rfl ?_
            exact ⟨_, rfl, by omega⟩
      · refine h_iload rfl l99 rfl ?_
        refine h_iload rfl l99 rfl ?_
        refine i_ge (kn := kn) (t := 3) (tgt := 328) (np := 324) rfl (by unfold R32; omega) (by unfold R32; omega) (fun e106 => ?_) (fun e106 => ?_)
        · refine h_intv k_0 rfl ?_
          refine h_goto rfl ?_
          refine h_zret (by omega) rfl ?_
          exact ⟨_, rfl, by omega⟩
        · refine h_intv k_1 rfl ?_
          refine h_goto rfl ?_
          refine h_zret (by omega) rfl ?_
          exact ⟨_, rfl, by omega⟩
  obtain ⟨r, h1, b, h2, h3⟩ := h_meth1 (nL := 8) rfl K
  rw [h2] at h1
  exact ⟨b, h1, h3⟩
theorem s_holds_n {kn : sKn} : ∀ d : Nat, hoH (fX12_holds__n kn d) d := by
  intro d
  induction d with
  | zero =>
    intro w k s hw hA h60 hd
    omega
  | succ d ih => exact s_holds_g ih
theorem s_holdsA {kn : sKn} : hoH (fX12_holds_ kn) 61 := s_holds_n 61
theorem ar_top : aR 215 197 1 0 59 = true := by decide +kernel
theorem ar_sig : aR 215 1 1 0 10 = true := by decide +kernel
def dH_t0 : List (Nat × Nat) := [(61, 0)]
theorem sd_e {kn : sKn} {w0 w : sW} {lv : List (Nat × Value)} {x n y : Int} (o0 : hO dH_t0 w0 w) (hx : R32 x) (l0 : hL lv [(0, .ref 213), (1, hI x), (2, hI n), (3, hI y)]) : Tp (tX12_said kn) (fun r => ∃ (w' : sW) (v : Int), r = (some (hI v), w', 0, 0) ∧ hO dH_t0 w0 w') 67 (lv, [], w, 0, 0) := by
  have hx1 := hx.1
  have hx2 := hx.2
  refine h_iload rfl l0 rfl ?_
  refine h_intv k_n1 rfl ?_
  refine i_ne (kn := kn) (t := 1) (tgt := 76) (np := 72) rfl (by unfold R32; omega) (by unfold R32; omega) (fun e41 => ?_) (fun e41 => ?_)
  · refine h_intv k_n1 rfl ?_
    refine h_iret rfl ?_
    exact ⟨_, _, rfl, o0⟩
  · refine h_iload rfl l0 rfl ?_
    refine h_goto rfl ?_
    refine h_iret rfl ?_
    exact ⟨_, _, rfl, o0⟩
theorem sd_l {kn : sKn} {w0 w : sW} (o0 : hO dH_t0 w0 w) (hA : ∀ i : Nat, (i : Int) ≤ gX w 215 197 → ndG w 215 198 i) (x : Int) (hx : R32 x) : ∀ (m s : Nat) (lv : List (Nat × Value)) (n y : Int), s + m = 10 → y = (s : Int) → (0 ≤ n ∧ n ≤ (s : Int)) → hL lv [(0, .ref 213), (1, hI x), (2, hI n), (3, hI y)] → Tp (tX12_said kn) (fun r => ∃ (w' : sW) (v : Int), r = (some (hI v), w', 0, 0) ∧ hO dH_t0 w0 w') 22 (lv, [], w, 0, 0) := by
  have hx1 := hx.1
  have hx2 := hx.2
  intro m
  induction m with
  | zero =>
    intro s lv n y hkm hxk hn l0
    subst hxk
    refine h_iload rfl l0 rfl ?_
    refine h_aload rfl l0 rfl ?_
    refine h_getR rfl o0 fr_14 ?_
    refine h_intv k_1 rfl ?_
    refine h_ialdj (1) rfl o0 ai_215 rfl (by omega) (by omega) (fun b41a b41b => ?_)
    have b41c := gX_in o0 ai_215 ar_sig (j := 1) (by omega) (by omega) (by omega)
    refine i_ge (kn := kn) (t := 3) (tgt := 67) (np := 32) rfl (by unfold R32; omega) (by unfold R32; omega) (fun e42 => ?_) (fun e42 => ?_)
    · exact sd_e o0 hx l0
    · omega
  | succ m ih =>
    intro s lv n y hkm hxk hn l0
    subst hxk
    refine h_iload rfl l0 rfl ?_
    refine h_aload rfl l0 rfl ?_
    refine h_getR rfl o0 fr_14 ?_
    refine h_intv k_1 rfl ?_
    refine h_ialdj (1) rfl o0 ai_215 rfl (by omega) (by omega) (fun b41a b41b => ?_)
    have b41c := gX_in o0 ai_215 ar_sig (j := 1) (by omega) (by omega) (by omega)
    refine i_ge (kn := kn) (t := 3) (tgt := 67) (np := 32) rfl (by unfold R32; omega) (by unfold R32; omega) (fun e42 => ?_) (fun e42 => ?_)
    · exact sd_e o0 hx l0
    · refine h_aload rfl l0 rfl ?_
      refine h_aload rfl l0 rfl ?_
      refine h_getR rfl o0 fr_14 ?_
      refine h_intv k_197 rfl ?_
      refine h_ialdj (197) rfl o0 ai_215 rfl (by omega) (by omega) (fun b43a b43b => ?_)
      have b43c := gX_in o0 ai_215 ar_top (j := 197) (by omega) (by omega) (by omega)
      refine h_iload rfl l0 rfl ?_
      obtain ⟨t44, ht44⟩ : ∃ t : Nat, (gX w 215 (197)) = (t : Int) := ⟨((gX w 215 (197))).toNat, by omega⟩
      obtain ⟨b44, hf44, hb44⟩ := s_holdsA (kn := kn) w t44 s o0.1 (fun i hi => hA i (by omega)) (by omega) (by omega) ⟨by omega, by omega⟩
      rw [← ht44] at hf44
      refine h_V3 rfl o0 l0 ci_213 rfl rfl hf44 ?_
      refine j_ne (kn := kn) (t := 1) (tgt := 51) (np := 48) rfl (by unfold R32; omega) (fun e45 => ?_) (fun e45 => ?_)
      · refine h_iload rfl l0 rfl ?_
        refine h_iload rfl l0 rfl ?_
        refine i_ne (kn := kn) (t := 1) (tgt := 58) (np := 56) rfl (by unfold R32; omega) (by unfold R32; omega) (fun e46 => ?_) (fun e46 => ?_)
        · refine h_iincv k_1 rfl l0 rfl (fun vl47 l47 => ?_)
          refine h_iincv k_1 rfl l47 rfl (fun vl48 l48 => ?_)
          refine h_goto rfl ?_
          exact ih (s + 1) _ _ ((s : Int) + 1) (by omega) (by omega) (by omega) l48
        · refine h_iload rfl l0 rfl ?_
          refine h_iret rfl ?_
          exact ⟨_, _, rfl, o0⟩
      · refine h_goto rfl ?_
        refine h_iincv k_1 rfl l0 rfl (fun vl49 l49 => ?_)
        refine h_goto rfl ?_
        exact ih (s + 1) _ _ ((s : Int) + 1) (by omega) (by omega) (by omega) l49
theorem s_said {kn : sKn} {w0 : sW} (hw : wOk ZZ w0) (hp : PW w0) (x : Int) (hx : R32 x) : ∃ (w' : sW) (v : Int), fX12_said kn [.ref 213, hI x] w0 = some (some (hI v), w', 0, 0) ∧ hO dH_t0 w0 w' := by
  have K : Tp (tX12_said kn) (fun r => ∃ (w' : sW) (v : Int), r = (some (hI v), w', 0, 0) ∧ hO dH_t0 w0 w') 0 (lv_args 0 [.ref 213, hI x], [], w0, 0, 0) := by
    have l0 : hL (lv_args 0 [.ref 213, hI x]) (lv_args 0 [.ref 213, hI x]) := hL_ex rfl
    have o0 : hO dH_t0 w0 w0 := hO_rf hw
    refine h_aload rfl l0 rfl ?_
    refine h_intv k_0 rfl ?_
    refine h_putI rfl o0 fi_0 rfl (by omega) (by omega) (fun w41 o41 q42a q42b q42c => ?_)
    refine h_aload rfl l0 rfl ?_
    refine h_getR rfl o41 fr_14 ?_
    refine h_intv k_196 rfl ?_
    refine h_ialdj (196) rfl o41 ai_215 rfl (by omega) (by omega) (fun b43a b43b => ?_)
    refine j_ne (kn := kn) (t := 1) (tgt := 18) (np := 16) rfl (by unfold R32; omega) (fun e44 => ?_) (fun e44 => ?_)
    · refine h_intv k_0 rfl ?_
      refine h_istore rfl l0 (fun vl45 l45 => ?_)
      refine h_intv k_0 rfl ?_
      refine h_istore rfl l45 (fun vl46 l46 => ?_)
      exact sd_l o41 (by have p := pw_of o41 (by decide +kernel) hp; have := p.2.1; exact fun i hi => this i (by rw [Nat.zero_add]; exact hi)) x hx 10 0 _ 0 0 rfl rfl ⟨by omega, by omega⟩ l46
    · refine h_intv k_n1 rfl ?_
      refine h_iret rfl ?_
      exact ⟨_, _, rfl, o41⟩
  obtain ⟨r, h1, w2, b, h2, h3⟩ := h_meth1 (nL := 4) rfl K
  rw [h2] at h1
  exact ⟨w2, b, h1, h3⟩
end
