noncomputable section
/-- line k of a book of the reference -/
def lnG (w : sW) (k : Nat) : Prop := (0 ≤ gX w 238 (4 * k) ∧ gX w 238 (4 * k) ≤ 6) ∧ (gX w 238 (4 * k) = 0 → (0 ≤ gX w 238 (4 * k + 1) ∧ gX w 238 (4 * k + 1) ≤ 9) ∧ (0 ≤ gX w 238 (4 * k + 2) ∧ gX w 238 (4 * k + 2) ≤ 11) ∧ (0 ≤ gX w 238 (4 * k + 3) ∧ gX w 238 (4 * k + 3) ≤ 2)) ∧ (gX w 238 (4 * k) = 1 → (0 ≤ gX w 238 (4 * k + 2) ∧ gX w 238 (4 * k + 2) ≤ 11) ∧ (0 ≤ gX w 238 (4 * k + 3) ∧ gX w 238 (4 * k + 3) ≤ 2)) ∧ (2 ≤ gX w 238 (4 * k) ∧ gX w 238 (4 * k) ≤ 4 → 0 ≤ gX w 238 (4 * k + 1) ∧ gX w 238 (4 * k + 1) ≤ 9) ∧ (gX w 238 (4 * k) = 5 → 0 ≤ gX w 238 (4 * k + 1) ∧ gX w 238 (4 * k + 1) ≤ 5)
theorem lnG_eq {w w' : sW} {k : Nat} (h : ∀ j, gX w' 238 j = gX w 238 j) (p : lnG w k) : lnG w' k := by
  unfold lnG at p ⊢
  rw [h, h, h, h]
  exact p
def lnQ (w : sW) (n : Nat) (b : Int) (w' : sW) : Prop := (b = 0 ∨ b = 1) ∧ (∀ j, j < 4 * n → gX w' 238 j = gX w 238 j) ∧ (b = 1 → lnG w' n)
def dH_rd : List (Nat × Nat) := (86, 999) :: (dH_go ++ dX12_readNumber ++ dH_bad ++ dH_re)
theorem dH_rd0 : msub dH_go dH_rd = true := by decide +kernel
theorem dH_rd1 : msub dX12_readNumber dH_rd = true := by decide +kernel
theorem dH_rd2 : msub dH_bad dH_rd = true := by decide +kernel
theorem dH_rd3 : msub dH_re dH_rd = true := by decide +kernel
theorem ln_fr {D : List (Nat × Nat)} {w w' : sW} (hw : wOk ZZ w) (h : hO D w w') (h1 : mIn D 86 999 = false) : ∀ j, gX w' 238 j = gX w 238 j := fun j => fr_gX (t := 86) (c := 238) h.2 rfl h1 hw (by decide +kernel) j
theorem s_rn11 {kn : sKn} {w : sW} (hw : wOk ZZ w) (x1 : Int) (hx1 : 0 ≤ x1 ∧ x1 ≤ 0) (x2 : Int) (hx2 : 11 ≤ x2 ∧ x2 ≤ 11) : ∃ (w' : sW) (z : Int), fX12_readNumber kn [.ref 213, hI x1, hI x2] w = some (some (hI z), w', 0, 0) ∧ hO dX12_readNumber w w' ∧ (z = 0 ∨ (z = 1 ∧ 0 ≤ gF w' 213 13 ∧ gF w' 213 13 ≤ 11)) := by
  obtain ⟨r, w', h1, h2, q, hq, σ', h3, h4, h5, h6⟩ := con_use (con_X12_readNumber_0 kn) (σ := [0, x1, x2]) (av := [.ref 213, hI x1, hI x2]) (w := w) rfl rfl ⟨av_c (k := 213) rfl, av_i rfl ⟨by omega, by omega⟩, av_i rfl ⟨by omega, by omega⟩, trivial⟩ (fun q hq => by cases hq) (gE_c ⟨_, rfl, hx2⟩ (gE_c ⟨_, rfl, hx1⟩ (gE_n))) hw rfl
  rcases List.mem_cons.mp hq with rfl | hq
  · obtain ⟨z, z1, z2, z3⟩ := gS_i h4
    rw [z2] at h1
    have z4 := h3 0 0 rfl
    rw [z4] at z1
    cases z1
    refine ⟨w', _, h1, h2, ?_⟩
    omega
  rcases List.mem_singleton.mp hq with rfl
  obtain ⟨z, z1, z2, z3⟩ := gS_i h4
  rw [z2] at h1
  have z4 := h3 0 0 rfl
  rw [z4] at z1
  cases z1
  obtain ⟨m13, n13, p13⟩ := mf_F (c := 213) (kf := 13) (u := 3) (h3 0 0 rfl) (h5 _ (by first | exact List.mem_cons_self | decide))
  have o13 := gE_at (a := 0) (b := 11) h6 (by first | exact List.mem_cons_self | decide) n13
  refine ⟨w', _, h1, h2, ?_⟩
  omega
theorem s_rn2 {kn : sKn} {w : sW} (hw : wOk ZZ w) (x1 : Int) (hx1 : 0 ≤ x1 ∧ x1 ≤ 0) (x2 : Int) (hx2 : 2 ≤ x2 ∧ x2 ≤ 2) : ∃ (w' : sW) (z : Int), fX12_readNumber kn [.ref 213, hI x1, hI x2] w = some (some (hI z), w', 0, 0) ∧ hO dX12_readNumber w w' ∧ (z = 0 ∨ (z = 1 ∧ 0 ≤ gF w' 213 13 ∧ gF w' 213 13 ≤ 2)) := by
  obtain ⟨r, w', h1, h2, q, hq, σ', h3, h4, h5, h6⟩ := con_use (con_X12_readNumber_1 kn) (σ := [0, x1, x2]) (av := [.ref 213, hI x1, hI x2]) (w := w) rfl rfl ⟨av_c (k := 213) rfl, av_i rfl ⟨by omega, by omega⟩, av_i rfl ⟨by omega, by omega⟩, trivial⟩ (fun q hq => by cases hq) (gE_c ⟨_, rfl, hx2⟩ (gE_c ⟨_, rfl, hx1⟩ (gE_n))) hw rfl
  rcases List.mem_cons.mp hq with rfl | hq
  · obtain ⟨z, z1, z2, z3⟩ := gS_i h4
    rw [z2] at h1
    have z4 := h3 0 0 rfl
    rw [z4] at z1
    cases z1
    refine ⟨w', _, h1, h2, ?_⟩
    omega
  rcases List.mem_singleton.mp hq with rfl
  obtain ⟨z, z1, z2, z3⟩ := gS_i h4
  rw [z2] at h1
  have z4 := h3 0 0 rfl
  rw [z4] at z1
  cases z1
  obtain ⟨m13, n13, p13⟩ := mf_F (c := 213) (kf := 13) (u := 3) (h3 0 0 rfl) (h5 _ (by first | exact List.mem_cons_self | decide))
  have o13 := gE_at (a := 0) (b := 2) h6 (by first | exact List.mem_cons_self | decide) n13
  refine ⟨w', _, h1, h2, ?_⟩
  omega
theorem s_rn60 {kn : sKn} {w : sW} (hw : wOk ZZ w) (x1 : Int) (hx1 : 1 ≤ x1 ∧ x1 ≤ 1) (x2 : Int) (hx2 : 60 ≤ x2 ∧ x2 ≤ 60) : ∃ (w' : sW) (z : Int), fX12_readNumber kn [.ref 213, hI x1, hI x2] w = some (some (hI z), w', 0, 0) ∧ hO dX12_readNumber w w' ∧ (z = 0 ∨ (z = 1 ∧ 1 ≤ gF w' 213 13 ∧ gF w' 213 13 ≤ 60)) := by
  obtain ⟨r, w', h1, h2, q, hq, σ', h3, h4, h5, h6⟩ := con_use (con_X12_readNumber_2 kn) (σ := [0, x1, x2]) (av := [.ref 213, hI x1, hI x2]) (w := w) rfl rfl ⟨av_c (k := 213) rfl, av_i rfl ⟨by omega, by omega⟩, av_i rfl ⟨by omega, by omega⟩, trivial⟩ (fun q hq => by cases hq) (gE_c ⟨_, rfl, hx2⟩ (gE_c ⟨_, rfl, hx1⟩ (gE_n))) hw rfl
  rcases List.mem_cons.mp hq with rfl | hq
  · obtain ⟨z, z1, z2, z3⟩ := gS_i h4
    rw [z2] at h1
    have z4 := h3 0 0 rfl
    rw [z4] at z1
    cases z1
    refine ⟨w', _, h1, h2, ?_⟩
    omega
  rcases List.mem_singleton.mp hq with rfl
  obtain ⟨z, z1, z2, z3⟩ := gS_i h4
  rw [z2] at h1
  have z4 := h3 0 0 rfl
  rw [z4] at z1
  cases z1
  obtain ⟨m13, n13, p13⟩ := mf_F (c := 213) (kf := 13) (u := 3) (h3 0 0 rfl) (h5 _ (by first | exact List.mem_cons_self | decide))
  have o13 := gE_at (a := 1) (b := 60) h6 (by first | exact List.mem_cons_self | decide) n13
  refine ⟨w', _, h1, h2, ?_⟩
  omega
theorem s_readSet {kn : sKn} {w : sW} (hw : wOk ZZ w) (n : Nat) (hn : n ≤ 39) (x z : Int) (hx : R32 x) (hz : R32 z) : ∃ (w' : sW) (b : Int), fX12_readSet kn [.ref 213, hI ((4 * n : Nat) : Int), hI x, hI z] w = some (some (hI b), w', 0, 0) ∧ b = 1 ∧ hO dH_rd w w' ∧ (gX w' 238 (4 * n) = x ∧ gX w' 238 (4 * n + 1) = z ∧ ∀ j, j ≠ 4 * n → j ≠ 4 * n + 1 → gX w' 238 j = gX w 238 j) := by
  have hx1 := hx.1
  have hx2 := hx.2
  have hz1 := hz.1
  have hz2 := hz.2
  have K : Tp (tX12_readSet kn) (fun r => ∃ (w' : sW) (b : Int), r = (some (hI b), w', 0, 0) ∧ b = 1 ∧ hO dH_rd w w' ∧ (gX w' 238 (4 * n) = x ∧ gX w' 238 (4 * n + 1) = z ∧ ∀ j, j ≠ 4 * n → j ≠ 4 * n + 1 → gX w' 238 j = gX w 238 j)) 0 (lv_args 0 [.ref 213, hI ((4 * n : Nat) : Int), hI x, hI z], [], w, 0, 0) := by
    have l0 : hL (lv_args 0 [.ref 213, hI ((4 * n : Nat) : Int), hI x, hI z]) (lv_args 0 [.ref 213, hI ((4 * n : Nat) : Int), hI x, hI z]) := hL_ex rfl
    have o0 : hO dH_rd w w := hO_rf hw
    refine h_aload rfl l0 rfl ?_
    refine h_getR rfl o0 fr_51 ?_
    refine h_iload rfl l0 rfl ?_
    refine h_iload rfl l0 rfl ?_
    refine h_iastj (4 * n) rfl o0 ai_238 rfl rfl aw_238 (by omega) (by omega) (by omega) (by omega) (by omega) (by unfold R32; omega) (fun w1 o1 q2a q2b q2c => ?_)
    refine h_aload rfl l0 rfl ?_
    refine h_getR rfl o1 fr_51 ?_
    refine h_iload rfl l0 rfl ?_
    refine h_intv k_1 rfl ?_
    refine h_iadd rfl ?_
    refine h_iload rfl l0 rfl ?_
    refine h_iastj (4 * n + 1) rfl o1 ai_238 rfl rfl aw_238 (by omega) (by omega) (by omega) (by omega) (by omega) (by unfold R32; omega) (fun w3 o3 q4a q4b q4c => ?_)
    refine h_aload rfl l0 rfl ?_
    obtain ⟨wG, hf5, oG', hrG⟩ := s_go (kn := kn) o3.1
    have oG : hO dH_rd w wG := hO_tr o3 (hO_mono dH_rd0 oG')
    have eG := ln_fr o3.1 oG' (by decide +kernel)
    refine h_W1 rfl o3 l0 ci_213 rfl rfl hf5 ?_
    refine h_intv k_1 rfl ?_
    refine h_zret (by omega) rfl ?_
    exact ⟨_, _, rfl, rfl, oG, by rw [eG, q4b 238 _ (fun _ => by omega), q2a], by rw [eG, q4a], fun j h1 h2 => by rw [eG, q4b 238 _ (fun _ => h2), q2b 238 _ (fun _ => h1)]⟩
  obtain ⟨r, h1, w2, b, h2, h3⟩ := h_meth1 (nL := 4) rfl K
  rw [h2] at h1
  exact ⟨w2, b, h1, h3⟩
theorem s_readPlaceR {kn : sKn} {w : sW} (hw : wOk ZZ w) (n : Nat) (hn : n ≤ 39) : ∃ (w' : sW) (b : Int), fX12_readPlace kn [.ref 213, hI ((4 * n : Nat) : Int)] w = some (some (hI b), w', 0, 0) ∧ hO dH_rd w w' ∧ (b = 0 ∨ b = 1) ∧ (∀ j, j ≠ 4 * n + 2 → j ≠ 4 * n + 3 → gX w' 238 j = gX w 238 j) ∧ (b = 1 → (0 ≤ gX w' 238 (4 * n + 2) ∧ gX w' 238 (4 * n + 2) ≤ 11) ∧ (0 ≤ gX w' 238 (4 * n + 3) ∧ gX w' 238 (4 * n + 3) ≤ 2)) := by
  have K : Tp (tX12_readPlace kn) (fun r => ∃ (w' : sW) (b : Int), r = (some (hI b), w', 0, 0) ∧ hO dH_rd w w' ∧ (b = 0 ∨ b = 1) ∧ (∀ j, j ≠ 4 * n + 2 → j ≠ 4 * n + 3 → gX w' 238 j = gX w 238 j) ∧ (b = 1 → (0 ≤ gX w' 238 (4 * n + 2) ∧ gX w' 238 (4 * n + 2) ≤ 11) ∧ (0 ≤ gX w' 238 (4 * n + 3) ∧ gX w' 238 (4 * n + 3) ≤ 2))) 0 (lv_args 0 [.ref 213, hI ((4 * n : Nat) : Int)], [], w, 0, 0) := by
    have l0 : hL (lv_args 0 [.ref 213, hI ((4 * n : Nat) : Int)]) (lv_args 0 [.ref 213, hI ((4 * n : Nat) : Int)]) := hL_ex rfl
    have o0 : hO dH_rd w w := hO_rf hw
    refine h_aload rfl l0 rfl ?_
    refine h_intv k_0 rfl ?_
    refine h_intv k_11 rfl ?_
    obtain ⟨wA, zA, hf1, oA', hzA⟩ := s_rn11 (kn := kn) o0.1 0 ⟨by omega, by omega⟩ 11 ⟨by omega, by omega⟩
    have oA : hO dH_rd w wA := hO_tr o0 (hO_mono dH_rd1 oA')
    have eA := ln_fr o0.1 oA' (by decide +kernel)
    refine h_V3 rfl o0 l0 ci_213 rfl rfl hf1 ?_
    refine j_ne (kn := kn) (t := 1) (tgt := 12) (np := 10) rfl (by unfold R32; omega) (fun e2 => ?_) (fun e2 => ?_)
    · refine h_aload rfl l0 rfl ?_
      refine h_getR rfl oA fr_51 ?_
      refine h_iload rfl l0 rfl ?_
      refine h_intv k_2 rfl ?_
      refine h_iadd rfl ?_
      refine h_aload rfl l0 rfl ?_
      refine h_getI rfl oA fi_13 (fun b3a b3b => ?_)
      refine h_iastj (4 * n + 2) rfl oA ai_238 rfl rfl aw_238 (by omega) (by omega) (by omega) (by omega) (by omega) (by unfold R32; omega) (fun w4 o4 q5a q5b q5c => ?_)
      refine h_aload rfl l0 rfl ?_
      refine h_intv k_0 rfl ?_
      refine h_intv k_2 rfl ?_
      obtain ⟨wB, zB, hf6, oB', hzB⟩ := s_rn2 (kn := kn) o4.1 0 ⟨by omega, by omega⟩ 2 ⟨by omega, by omega⟩
      have oB : hO dH_rd w wB := hO_tr o4 (hO_mono dH_rd1 oB')
      have eB := ln_fr o4.1 oB' (by decide +kernel)
      refine h_V3 rfl o4 l0 ci_213 rfl rfl hf6 ?_
      refine j_ne (kn := kn) (t := 1) (tgt := 35) (np := 33) rfl (by unfold R32; omega) (fun e7 => ?_) (fun e7 => ?_)
      · refine h_aload rfl l0 rfl ?_
        refine h_getR rfl oB fr_51 ?_
        refine h_iload rfl l0 rfl ?_
        refine h_intv k_3 rfl ?_
        refine h_iadd rfl ?_
        refine h_aload rfl l0 rfl ?_
        refine h_getI rfl oB fi_13 (fun b8a b8b => ?_)
        refine h_iastj (4 * n + 3) rfl oB ai_238 rfl rfl aw_238 (by omega) (by omega) (by omega) (by omega) (by omega) (by unfold R32; omega) (fun w9 o9 q10a q10b q10c => ?_)
        refine h_intv k_1 rfl ?_
        refine h_zret (by omega) rfl ?_
        exact ⟨_, _, rfl, o9, Or.inr rfl, fun j h1 h2 => by rw [q10b 238 _ (fun _ => h2), eB, q5b 238 _ (fun _ => h1), eA], fun _ => ⟨by rw [q10b 238 _ (fun _ => by omega), eB, q5a]; omega, by rw [q10a]; omega⟩⟩
      · refine h_intv k_0 rfl ?_
        refine h_zret (by omega) rfl ?_
        exact ⟨_, _, rfl, oB, Or.inl rfl, fun j h1 _ => by rw [eB, q5b 238 _ (fun _ => h1), eA], fun z => by omega⟩
    · refine h_intv k_0 rfl ?_
      refine h_zret (by omega) rfl ?_
      exact ⟨_, _, rfl, oA, Or.inl rfl, fun j _ _ => eA j, fun z => by omega⟩
  obtain ⟨r, h1, w2, b, h2, h3⟩ := h_meth1 (nL := 2) rfl K
  rw [h2] at h1
  exact ⟨w2, b, h1, h3⟩
theorem s_readSD {kn : sKn} {w : sW} (hw : wOk ZZ w) (n : Nat) (hn : n ≤ 39) (s : Int) (hs : 0 ≤ s ∧ s ≤ 9) : ∃ (w' : sW) (b : Int), fX12_readSignerDoes kn [.ref 213, hI ((4 * n : Nat) : Int), hI s] w = some (some (hI b), w', 0, 0) ∧ hO dH_rd w w' ∧ lnQ w n b w' := by
  have K : Tp (tX12_readSignerDoes kn) (fun r => ∃ (w' : sW) (b : Int), r = (some (hI b), w', 0, 0) ∧ hO dH_rd w w' ∧ lnQ w n b w') 0 (lv_args 0 [.ref 213, hI ((4 * n : Nat) : Int), hI s], [], w, 0, 0) := by
    have l0 : hL (lv_args 0 [.ref 213, hI ((4 * n : Nat) : Int), hI s]) (lv_args 0 [.ref 213, hI ((4 * n : Nat) : Int), hI s]) := hL_ex rfl
    have o0 : hO dH_rd w w := hO_rf hw
    refine h_aload rfl l0 rfl ?_
    refine h_intv k_8 rfl ?_
    obtain ⟨z1, hf1, hz1, hq1⟩ := s_isWord (kn := kn) o0.1 8 ⟨by omega, by omega⟩
    refine h_V2 rfl o0 l0 ci_213 rfl rfl hf1 ?_
    refine j_eq (kn := kn) (t := 0) (tgt := 33) (np := 9) rfl (by unfold R32; omega) (fun e2 => ?_) (fun e2 => ?_)
    · refine h_aload rfl l0 rfl ?_
      refine h_intv k_9 rfl ?_
      obtain ⟨z3, hf3, hz3, hq3⟩ := s_isWord (kn := kn) o0.1 9 ⟨by omega, by omega⟩
      refine h_V2 rfl o0 l0 ci_213 rfl rfl hf3 ?_
      refine j_eq (kn := kn) (t := 0) (tgt := 50) (np := 42) rfl (by unfold R32; omega) (fun e4 => ?_) (fun e4 => ?_)
      · refine h_aload rfl l0 rfl ?_
        refine h_intv k_10 rfl ?_
        obtain ⟨z5, hf5, hz5, hq5⟩ := s_isWord (kn := kn) o0.1 10 ⟨by omega, by omega⟩
        refine h_V2 rfl o0 l0 ci_213 rfl rfl hf5 ?_
        refine j_eq (kn := kn) (t := 0) (tgt := 67) (np := 59) rfl (by unfold R32; omega) (fun e6 => ?_) (fun e6 => ?_)
        · refine h_aload rfl l0 rfl ?_
          refine h_intv k_11 rfl ?_
          obtain ⟨z7, hf7, hz7, hq7⟩ := s_isWord (kn := kn) o0.1 11 ⟨by omega, by omega⟩
          refine h_V2 rfl o0 l0 ci_213 rfl rfl hf7 ?_
          refine j_eq (kn := kn) (t := 0) (tgt := 86) (np := 76) rfl (by unfold R32; omega) (fun e8 => ?_) (fun e8 => ?_)
          · refine h_aload rfl l0 rfl ?_
            refine h_intv k_1 rfl ?_
            obtain ⟨wB, hf9, oB'⟩ := s_bad (kn := kn) o0.1 1 ⟨by omega, by omega⟩
            have oB : hO dH_rd w wB := hO_tr o0 (hO_mono dH_rd2 oB')
            have eB := ln_fr o0.1 oB' (by decide +kernel)
            refine h_V2 rfl o0 l0 ci_213 rfl rfl hf9 ?_
            refine h_zret (by omega) rfl ?_
            exact ⟨_, _, rfl, oB, Or.inl rfl, fun j hj => by rw [eB], fun z => by omega⟩
          · refine h_aload rfl l0 rfl ?_
            refine h_iload rfl l0 rfl ?_
            refine h_intv k_4 rfl ?_
            refine h_iload rfl l0 rfl ?_
            obtain ⟨wS, zS, hf10, bS, oS', s1, s2, s3⟩ := s_readSet (kn := kn) o0.1 n hn 4 s ⟨by omega, by omega⟩ ⟨by omega, by omega⟩
            have oS : hO dH_rd w wS := hO_tr o0 oS'
            refine h_V4 rfl o0 l0 ci_213 rfl rfl hf10 ?_
            refine h_goto rfl ?_
            refine h_zret (by omega) rfl ?_
            exact ⟨_, _, rfl, oS, by omega, fun j hj => by rw [s3 _ (by omega) (by omega)], fun _ => by unfold lnG; rw [s1, s2]; omega⟩
        · refine h_aload rfl l0 rfl ?_
          refine h_iload rfl l0 rfl ?_
          refine h_intv k_3 rfl ?_
          refine h_iload rfl l0 rfl ?_
          obtain ⟨wS, zS, hf11, bS, oS', s1, s2, s3⟩ := s_readSet (kn := kn) o0.1 n hn 3 s ⟨by omega, by omega⟩ ⟨by omega, by omega⟩
          have oS : hO dH_rd w wS := hO_tr o0 oS'
          refine h_V4 rfl o0 l0 ci_213 rfl rfl hf11 ?_
          refine h_zret (by omega) rfl ?_
          exact ⟨_, _, rfl, oS, by omega, fun j hj => by rw [s3 _ (by omega) (by omega)], fun _ => by unfold lnG; rw [s1, s2]; omega⟩
      · refine h_aload rfl l0 rfl ?_
        refine h_iload rfl l0 rfl ?_
        refine h_intv k_2 rfl ?_
        refine h_iload rfl l0 rfl ?_
        obtain ⟨wS, zS, hf12, bS, oS', s1, s2, s3⟩ := s_readSet (kn := kn) o0.1 n hn 2 s ⟨by omega, by omega⟩ ⟨by omega, by omega⟩
        have oS : hO dH_rd w wS := hO_tr o0 oS'
        refine h_V4 rfl o0 l0 ci_213 rfl rfl hf12 ?_
        refine h_zret (by omega) rfl ?_
        exact ⟨_, _, rfl, oS, by omega, fun j hj => by rw [s3 _ (by omega) (by omega)], fun _ => by unfold lnG; rw [s1, s2]; omega⟩
    · refine h_aload rfl l0 rfl ?_
      refine h_iload rfl l0 rfl ?_
      refine h_intv k_0 rfl ?_
      refine h_iload rfl l0 rfl ?_
      obtain ⟨wS, zS, hf13, bS, oS', s1, s2, s3⟩ := s_readSet (kn := kn) o0.1 n hn 0 s ⟨by omega, by omega⟩ ⟨by omega, by omega⟩
      have oS : hO dH_rd w wS := hO_tr o0 oS'
      refine h_V4 rfl o0 l0 ci_213 rfl rfl hf13 ?_
      refine j_eq (kn := kn) (t := 0) (tgt := 31) (np := 19) rfl (by unfold R32; omega) (fun e14 => ?_) (fun e14 => ?_)
      · refine h_intv k_0 rfl ?_
        refine h_zret (by omega) rfl ?_
        omega
      · refine h_aload rfl l0 rfl ?_
        refine h_iload rfl l0 rfl ?_
        obtain ⟨wP, zP, hf15, oP', zP1, p1, p2⟩ := s_readPlaceR (kn := kn) oS.1 n hn
        have oP : hO dH_rd w wP := hO_tr oS oP'
        refine h_V2 rfl oS l0 ci_213 rfl rfl hf15 ?_
        refine j_eq (kn := kn) (t := 0) (tgt := 31) (np := 27) rfl (by unfold R32; omega) (fun e16 => ?_) (fun e16 => ?_)
        · refine h_intv k_0 rfl ?_
          refine h_zret (by omega) rfl ?_
          exact ⟨_, _, rfl, oP, Or.inl rfl, fun j hj => by rw [p1 _ (by omega) (by omega), s3 _ (by omega) (by omega)], fun z => by omega⟩
        · refine h_intv k_1 rfl ?_
          refine h_goto rfl ?_
          refine h_zret (by omega) rfl ?_
          exact ⟨_, _, rfl, oP, Or.inr rfl, fun j hj => by rw [p1 _ (by omega) (by omega), s3 _ (by omega) (by omega)], fun _ => by
            have p2 := p2 (by omega)
            unfold lnG
            rw [p1 (4 * n) (by omega) (by omega), p1 (4 * n + 1) (by omega) (by omega), s1, s2]
            omega⟩
  obtain ⟨r, h1, w2, b, h2, h3⟩ := h_meth1 (nL := 3) rfl K
  rw [h2] at h1
  exact ⟨w2, b, h1, h3⟩
theorem s_find0_ {kn : sKn} {w : sW} (hw : wOk ZZ w) (x1 : Int) (hx1 : 0 ≤ x1 ∧ x1 ≤ 0) (x2 : Int) (hx2 : 0 ≤ x2 ∧ x2 ≤ 10) (x3 : Int64) : ∃ (w' : sW) (z : Int), fX12_findIn kn [.ref 220, hI x1, hI x2, .long x3] w = some (some (hI z), w', 0, 0) ∧ hO dX12_findIn w w' ∧ (((0 ≤ z ∧ z ≤ 9) ∧ 1 ≤ x2 ∧ x2 ≤ 10) ∨ z = (-1)) := by
  obtain ⟨r, w', h1, h2, q, hq, σ', h3, h4, h5, h6⟩ := con_use (con_X12_findIn_0 kn) (σ := [0, x1, x2, x3.toInt]) (av := [.ref 220, hI x1, hI x2, .long x3]) (w := w) rfl rfl ⟨av_c (k := 220) rfl, av_i rfl ⟨by omega, by omega⟩, av_i rfl ⟨by omega, by omega⟩, av_l rfl, trivial⟩ (fun q hq => by cases hq) (gE_c ⟨_, rfl, r64 x3⟩ (gE_c ⟨_, rfl, hx2⟩ (gE_c ⟨_, rfl, hx1⟩ (gE_n)))) hw rfl
  rcases List.mem_cons.mp hq with rfl | hq
  · obtain ⟨z, z1, z2, z3⟩ := gS_i h4
    rw [z2] at h1
    have z5 := gE_at (a := 0) (b := 9) h6 (by first | exact List.mem_cons_self | decide) z1
    have y2 := gE_at (a := 1) (b := 10) h6 (by first | exact List.mem_cons_self | decide) (h3 2 _ rfl)
    refine ⟨w', _, h1, h2, ?_⟩
    omega
  rcases List.mem_singleton.mp hq with rfl
  obtain ⟨z, z1, z2, z3⟩ := gS_i h4
  rw [z2] at h1
  have z4 := h3 0 0 rfl
  rw [z4] at z1
  cases z1
  refine ⟨w', _, h1, h2, ?_⟩
  omega
theorem s_find0 {kn : sKn} {w : sW} (hw : wOk ZZ w) (x1 : Int) (hx1 : 0 ≤ x1 ∧ x1 ≤ 0) (x2 : Int) (hx2 : 0 ≤ x2 ∧ x2 ≤ 10) (x3 : Int64) : ∃ z : Int, fX12_findIn kn [.ref 220, hI x1, hI x2, .long x3] w = some (some (hI z), w, 0, 0) ∧ (((0 ≤ z ∧ z ≤ 9) ∧ 1 ≤ x2 ∧ x2 ≤ 10) ∨ z = (-1)) := by
  obtain ⟨w', z, h1, h2, h3⟩ := s_find0_ (kn := kn) hw x1 hx1 x2 hx2 x3
  have e : w' = w := fr_nil hw h2.1 h2.2
  subst e
  exact ⟨z, h1, h3⟩
theorem s_find1_ {kn : sKn} {w : sW} (hw : wOk ZZ w) (x1 : Int) (hx1 : 10 ≤ x1 ∧ x1 ≤ 10) (x2 : Int) (hx2 : 0 ≤ x2 ∧ x2 ≤ 6) (x3 : Int64) : ∃ (w' : sW) (z : Int), fX12_findIn kn [.ref 220, hI x1, hI x2, .long x3] w = some (some (hI z), w', 0, 0) ∧ hO dX12_findIn w w' ∧ (((0 ≤ z ∧ z ≤ 5) ∧ 1 ≤ x2 ∧ x2 ≤ 6) ∨ z = (-1)) := by
  obtain ⟨r, w', h1, h2, q, hq, σ', h3, h4, h5, h6⟩ := con_use (con_X12_findIn_1 kn) (σ := [0, x1, x2, x3.toInt]) (av := [.ref 220, hI x1, hI x2, .long x3]) (w := w) rfl rfl ⟨av_c (k := 220) rfl, av_i rfl ⟨by omega, by omega⟩, av_i rfl ⟨by omega, by omega⟩, av_l rfl, trivial⟩ (fun q hq => by cases hq) (gE_c ⟨_, rfl, r64 x3⟩ (gE_c ⟨_, rfl, hx2⟩ (gE_c ⟨_, rfl, hx1⟩ (gE_n)))) hw rfl
  rcases List.mem_cons.mp hq with rfl | hq
  · obtain ⟨z, z1, z2, z3⟩ := gS_i h4
    rw [z2] at h1
    have z5 := gE_at (a := 0) (b := 5) h6 (by first | exact List.mem_cons_self | decide) z1
    have y2 := gE_at (a := 1) (b := 6) h6 (by first | exact List.mem_cons_self | decide) (h3 2 _ rfl)
    refine ⟨w', _, h1, h2, ?_⟩
    omega
  rcases List.mem_singleton.mp hq with rfl
  obtain ⟨z, z1, z2, z3⟩ := gS_i h4
  rw [z2] at h1
  have z4 := h3 0 0 rfl
  rw [z4] at z1
  cases z1
  refine ⟨w', _, h1, h2, ?_⟩
  omega
theorem s_find1 {kn : sKn} {w : sW} (hw : wOk ZZ w) (x1 : Int) (hx1 : 10 ≤ x1 ∧ x1 ≤ 10) (x2 : Int) (hx2 : 0 ≤ x2 ∧ x2 ≤ 6) (x3 : Int64) : ∃ z : Int, fX12_findIn kn [.ref 220, hI x1, hI x2, .long x3] w = some (some (hI z), w, 0, 0) ∧ (((0 ≤ z ∧ z ≤ 5) ∧ 1 ≤ x2 ∧ x2 ≤ 6) ∨ z = (-1)) := by
  obtain ⟨w', z, h1, h2, h3⟩ := s_find1_ (kn := kn) hw x1 hx1 x2 hx2 x3
  have e : w' = w := fr_nil hw h2.1 h2.2
  subst e
  exact ⟨z, h1, h3⟩
theorem s_readDoes {kn : sKn} {w : sW} (hw : wOk ZZ w) (n : Nat) (hn : n ≤ 39) : ∃ (w' : sW) (b : Int), fX12_readDoes kn [.ref 213, hI ((4 * n : Nat) : Int)] w = some (some (hI b), w', 0, 0) ∧ hO dH_rd w w' ∧ lnQ w n b w' := by
  have K : Tp (tX12_readDoes kn) (fun r => ∃ (w' : sW) (b : Int), r = (some (hI b), w', 0, 0) ∧ hO dH_rd w w' ∧ lnQ w n b w') 0 (lv_args 0 [.ref 213, hI ((4 * n : Nat) : Int)], [], w, 0, 0) := by
    have l0 : hL (lv_args 0 [.ref 213, hI ((4 * n : Nat) : Int)]) (lv_args 0 [.ref 213, hI ((4 * n : Nat) : Int)]) := hL_ex rfl
    have o0 : hO dH_rd w w := hO_rf hw
    refine h_aload rfl l0 rfl ?_
    refine h_intv k_12 rfl ?_
    obtain ⟨z1, hf1, hz1, hq1⟩ := s_isWord (kn := kn) o0.1 12 ⟨by omega, by omega⟩
    refine h_V2 rfl o0 l0 ci_213 rfl rfl hf1 ?_
    refine j_eq (kn := kn) (t := 0) (tgt := 33) (np := 9) rfl (by unfold R32; omega) (fun e2 => ?_) (fun e2 => ?_)
    · refine h_aload rfl l0 rfl ?_
      refine h_intv k_14 rfl ?_
      obtain ⟨z3, hf3, hz3, hq3⟩ := s_isWord (kn := kn) o0.1 14 ⟨by omega, by omega⟩
      refine h_V2 rfl o0 l0 ci_213 rfl rfl hf3 ?_
      refine j_eq (kn := kn) (t := 0) (tgt := 77) (np := 42) rfl (by unfold R32; omega) (fun e4 => ?_) (fun e4 => ?_)
      · refine h_aload rfl l0 rfl ?_
        refine h_getR rfl o0 fr_19 ?_
        refine h_intv k_0 rfl ?_
        refine h_aload rfl l0 rfl ?_
        refine h_getR rfl o0 fr_14 ?_
        refine h_intv k_1 rfl ?_
        refine h_ialdj (1) rfl o0 ai_215 rfl (by omega) (by omega) (fun b5a b5b => ?_)
        have b5c := gX_in o0 ai_215 ar_signers (j := 1) (by omega) (by omega) (by omega)
        refine h_aload rfl l0 rfl ?_
        refine h_getJ rfl o0 fj_12 (fun j6 => ?_)
        obtain ⟨z7, hf7, hz7⟩ := s_find0 (kn := kn) o0.1 0 ⟨by omega, by omega⟩ (gX w 215 (1)) ⟨by omega, by omega⟩ j6
        refine h_S4 rfl o0 l0 rfl rfl hf7 ?_
        refine h_istore rfl l0 (fun vl8 l8 => ?_)
        refine h_aload rfl l8 rfl ?_
        refine h_getR rfl o0 fr_19 ?_
        refine h_intv k_10 rfl ?_
        refine h_aload rfl l8 rfl ?_
        refine h_getR rfl o0 fr_14 ?_
        refine h_intv k_2 rfl ?_
        refine h_ialdj (2) rfl o0 ai_215 rfl (by omega) (by omega) (fun b9a b9b => ?_)
        have b9c := gX_in o0 ai_215 ar_loads (j := 2) (by omega) (by omega) (by omega)
        refine h_aload rfl l8 rfl ?_
        refine h_getJ rfl o0 fj_12 (fun j10 => ?_)
        obtain ⟨z11, hf11, hz11⟩ := s_find1 (kn := kn) o0.1 10 ⟨by omega, by omega⟩ (gX w 215 (2)) ⟨by omega, by omega⟩ j10
        refine h_S4 rfl o0 l8 rfl rfl hf11 ?_
        refine h_istore rfl l8 (fun vl12 l12 => ?_)
        refine h_aload rfl l12 rfl ?_
        obtain ⟨wG, hf13, oG', hrG⟩ := s_go (kn := kn) o0.1
        have oG : hO dH_rd w wG := hO_tr o0 (hO_mono dH_rd0 oG')
        have eG := ln_fr o0.1 oG' (by decide +kernel)
        refine h_W1 rfl o0 l12 ci_213 rfl rfl hf13 ?_
        refine h_iload rfl l12 rfl ?_
        refine h_intv k_n1 rfl ?_
        refine i_eq (kn := kn) (t := 0) (tgt := 132) (np := 125) rfl (by unfold R32; omega) (by unfold R32; omega) (fun e14 => ?_) (fun e14 => ?_)
        · refine h_aload rfl l12 rfl ?_
          refine h_intv k_13 rfl ?_
          obtain ⟨z15, hf15, hz15, hq15⟩ := s_isWord (kn := kn) oG.1 13 ⟨by omega, by omega⟩
          refine h_V2 rfl oG l12 ci_213 rfl rfl hf15 ?_
          refine j_eq (kn := kn) (t := 0) (tgt := 151) (np := 141) rfl (by unfold R32; omega) (fun e16 => ?_) (fun e16 => ?_)
          · refine h_aload rfl l12 rfl ?_
            refine h_intv k_1 rfl ?_
            obtain ⟨wB, hf17, oB'⟩ := s_bad (kn := kn) oG.1 1 ⟨by omega, by omega⟩
            have oB : hO dH_rd w wB := hO_tr oG (hO_mono dH_rd2 oB')
            have eB := ln_fr oG.1 oB' (by decide +kernel)
            refine h_V2 rfl oG l12 ci_213 rfl rfl hf17 ?_
            refine h_zret (by omega) rfl ?_
            exact ⟨_, _, rfl, oB, Or.inl rfl, fun j hj => by rw [eB, eG], fun z => by omega⟩
          · refine h_aload rfl l12 rfl ?_
            refine h_iload rfl l12 rfl ?_
            refine h_intv k_5 rfl ?_
            refine h_iload rfl l12 rfl ?_
            obtain ⟨wS, zS, hf18, bS, oS', s1, s2, s3⟩ := s_readSet (kn := kn) oG.1 n hn 5 z11 ⟨by omega, by omega⟩ ⟨by omega, by omega⟩
            have oS : hO dH_rd w wS := hO_tr oG oS'
            refine h_V4 rfl oG l12 ci_213 rfl rfl hf18 ?_
            refine h_goto rfl ?_
            refine h_zret (by omega) rfl ?_
            exact ⟨_, _, rfl, oS, by omega, fun j hj => by rw [s3 _ (by omega) (by omega), eG], fun _ => by unfold lnG; rw [s1, s2]; omega⟩
        · refine h_aload rfl l12 rfl ?_
          refine h_iload rfl l12 rfl ?_
          refine h_iload rfl l12 rfl ?_
          obtain ⟨wD, zD, hf19, oD', dQ⟩ := s_readSD (kn := kn) oG.1 n hn z7 ⟨by omega, by omega⟩
          have oD : hO dH_rd w wD := hO_tr oG oD'
          have dz := dQ.1
          refine h_V3 rfl oG l12 ci_213 rfl rfl hf19 ?_
          refine h_zret (by omega) rfl ?_
          exact ⟨_, _, rfl, oD, by omega, fun j hj => by rw [dQ.2.1 j hj, eG], dQ.2.2⟩
      · refine h_aload rfl l0 rfl ?_
        refine h_iload rfl l0 rfl ?_
        refine h_intv k_6 rfl ?_
        refine h_intv k_n1 rfl ?_
        obtain ⟨wS, zS, hf20, bS, oS', s1, s2, s3⟩ := s_readSet (kn := kn) o0.1 n hn 6 (-1) ⟨by omega, by omega⟩ ⟨by omega, by omega⟩
        have oS : hO dH_rd w wS := hO_tr o0 oS'
        refine h_V4 rfl o0 l0 ci_213 rfl rfl hf20 ?_
        refine h_pop rfl rfl ?_
        refine h_aload rfl l0 rfl ?_
        refine h_intv k_1 rfl ?_
        refine h_intv k_60 rfl ?_
        obtain ⟨wN, zN, hf21, oN', hzN⟩ := s_rn60 (kn := kn) oS.1 1 ⟨by omega, by omega⟩ 60 ⟨by omega, by omega⟩
        have oN : hO dH_rd w wN := hO_tr oS (hO_mono dH_rd1 oN')
        have eN := ln_fr oS.1 oN' (by decide +kernel)
        refine h_V3 rfl oS l0 ci_213 rfl rfl hf21 ?_
        refine j_ne (kn := kn) (t := 1) (tgt := 63) (np := 61) rfl (by unfold R32; omega) (fun e22 => ?_) (fun e22 => ?_)
        · refine h_aload rfl l0 rfl ?_
          refine h_getR rfl oN fr_51 ?_
          refine h_iload rfl l0 rfl ?_
          refine h_intv k_2 rfl ?_
          refine h_iadd rfl ?_
          refine h_aload rfl l0 rfl ?_
          refine h_getI rfl oN fi_13 (fun b23a b23b => ?_)
          refine h_iastj (4 * n + 2) rfl oN ai_238 rfl rfl aw_238 (by omega) (by omega) (by omega) (by omega) (by omega) (by unfold R32; omega) (fun w24 o24 q25a q25b q25c => ?_)
          refine h_intv k_1 rfl ?_
          refine h_zret (by omega) rfl ?_
          exact ⟨_, _, rfl, o24, Or.inr rfl, fun j hj => by rw [q25b 238 _ (fun _ => by omega), eN, s3 _ (by omega) (by omega)], fun _ => by unfold lnG; rw [q25b 238 _ (fun _ => by omega), q25b 238 _ (fun _ => by omega), eN, eN, s1, s2]; omega⟩
        · refine h_intv k_0 rfl ?_
          refine h_zret (by omega) rfl ?_
          exact ⟨_, _, rfl, oN, Or.inl rfl, fun j hj => by rw [eN, s3 _ (by omega) (by omega)], fun z => by omega⟩
    · refine h_aload rfl l0 rfl ?_
      refine h_iload rfl l0 rfl ?_
      refine h_intv k_1 rfl ?_
      refine h_intv k_n1 rfl ?_
      obtain ⟨wS, zS, hf26, bS, oS', s1, s2, s3⟩ := s_readSet (kn := kn) o0.1 n hn 1 (-1) ⟨by omega, by omega⟩ ⟨by omega, by omega⟩
      have oS : hO dH_rd w wS := hO_tr o0 oS'
      refine h_V4 rfl o0 l0 ci_213 rfl rfl hf26 ?_
      refine j_eq (kn := kn) (t := 0) (tgt := 31) (np := 19) rfl (by unfold R32; omega) (fun e27 => ?_) (fun e27 => ?_)
      · refine h_intv k_0 rfl ?_
        refine h_zret (by omega) rfl ?_
        omega
      · refine h_aload rfl l0 rfl ?_
        refine h_iload rfl l0 rfl ?_
        obtain ⟨wP, zP, hf28, oP', zP1, p1, p2⟩ := s_readPlaceR (kn := kn) oS.1 n hn
        have oP : hO dH_rd w wP := hO_tr oS oP'
        refine h_V2 rfl oS l0 ci_213 rfl rfl hf28 ?_
        refine j_eq (kn := kn) (t := 0) (tgt := 31) (np := 27) rfl (by unfold R32; omega) (fun e29 => ?_) (fun e29 => ?_)
        · refine h_intv k_0 rfl ?_
          refine h_zret (by omega) rfl ?_
          exact ⟨_, _, rfl, oP, Or.inl rfl, fun j hj => by rw [p1 _ (by omega) (by omega), s3 _ (by omega) (by omega)], fun z => by omega⟩
        · refine h_intv k_1 rfl ?_
          refine h_goto rfl ?_
          refine h_zret (by omega) rfl ?_
          exact ⟨_, _, rfl, oP, Or.inr rfl, fun j hj => by rw [p1 _ (by omega) (by omega), s3 _ (by omega) (by omega)], fun _ => by
            have p2 := p2 (by omega)
            unfold lnG
            rw [p1 (4 * n) (by omega) (by omega), p1 (4 * n + 1) (by omega) (by omega), s1, s2]
            omega⟩
  obtain ⟨r, h1, w2, b, h2, h3⟩ := h_meth1 (nL := 4) rfl K
  rw [h2] at h1
  exact ⟨w2, b, h1, h3⟩
theorem s_isName_ {kn : sKn} {w : sW} (hw : wOk ZZ w)  : ∃ (w' : sW) (z : Int), fX12_isName kn [.ref 213] w = some (some (hI z), w', 0, 0) ∧ hO dX12_isName w w' ∧ (z = 0 ∨ z = 1) := by
  obtain ⟨r, w', h1, h2, q, hq, σ', h3, h4, h5, h6⟩ := con_use (con_X12_isName_0 kn) (σ := [0]) (av := [.ref 213]) (w := w) rfl rfl ⟨av_c (k := 213) rfl, trivial⟩ (fun q hq => by cases hq) (gE_n) hw rfl
  rcases List.mem_cons.mp hq with rfl | hq
  · obtain ⟨z, z1, z2, z3⟩ := gS_i h4
    rw [z2] at h1
    have z4 := h3 0 0 rfl
    rw [z4] at z1
    cases z1
    refine ⟨w', _, h1, h2, ?_⟩
    omega
  rcases List.mem_singleton.mp hq with rfl
  obtain ⟨z, z1, z2, z3⟩ := gS_i h4
  rw [z2] at h1
  have z4 := h3 0 0 rfl
  rw [z4] at z1
  cases z1
  refine ⟨w', _, h1, h2, ?_⟩
  omega
theorem s_isName {kn : sKn} {w : sW} (hw : wOk ZZ w)  : ∃ z : Int, fX12_isName kn [.ref 213] w = some (some (hI z), w, 0, 0) ∧ (z = 0 ∨ z = 1) := by
  obtain ⟨w', z, h1, h2, h3⟩ := s_isName_ (kn := kn) hw 
  have e : w' = w := fr_nil hw h2.1 h2.2
  subst e
  exact ⟨z, h1, h3⟩
theorem s_readBL {kn : sKn} {w : sW} (hw : wOk ZZ w) (n : Nat) (hn : gF w 213 53 = (n : Int)) : ∃ (w' : sW) (b : Int), fX12_readBookLine kn [.ref 213] w = some (some (hI b), w', 0, 0) ∧ hO dH_rd w w' ∧ lnQ w n b w' ∧ (b = 1 → n ≤ 39) := by
  have hn40 : n ≤ 40 := by obtain ⟨_, _, _, _, _, _, _, a1, a2⟩ := fI_ok (hO_rf (D := []) hw) fi_53; omega
  have K : Tp (tX12_readBookLine kn) (fun r => ∃ (w' : sW) (b : Int), r = (some (hI b), w', 0, 0) ∧ hO dH_rd w w' ∧ lnQ w n b w' ∧ (b = 1 → n ≤ 39)) 0 (lv_args 0 [.ref 213], [], w, 0, 0) := by
    have l0 : hL (lv_args 0 [.ref 213]) (lv_args 0 [.ref 213]) := hL_ex rfl
    have o0 : hO dH_rd w w := hO_rf hw
    refine h_aload rfl l0 rfl ?_
    refine h_intv k_12 rfl ?_
    obtain ⟨z1, hf1, hz1, hq1⟩ := s_isWord (kn := kn) o0.1 12 ⟨by omega, by omega⟩
    refine h_V2 rfl o0 l0 ci_213 rfl rfl hf1 ?_
    refine j_ne (kn := kn) (t := 1) (tgt := 82) (np := 9) rfl (by unfold R32; omega) (fun e2 => ?_) (fun e2 => ?_)
    · refine h_aload rfl l0 rfl ?_
      refine h_getI rfl o0 fi_53 (fun b3a b3b => ?_)
      rw [hn] at b3a b3b ⊢
      refine h_intv k_40 rfl ?_
      refine i_ne (kn := kn) (t := 1) (tgt := 97) (np := 91) rfl (by unfold R32; omega) (by unfold R32; omega) (fun e4 => ?_) (fun e4 => ?_)
      · refine h_aload rfl l0 rfl ?_
        refine h_intv k_4 rfl ?_
        refine h_aload rfl l0 rfl ?_
        refine h_getI rfl o0 fi_53 (fun b5a b5b => ?_)
        rw [hn] at b5a b5b ⊢
        refine h_imul rfl ?_
        have h40 : n ≤ 39 := by omega
        rw [show (4 * (n : Int)) = ((4 * n : Nat) : Int) by omega]
        obtain ⟨wD, zD, hf6, oD', dQ⟩ := s_readDoes (kn := kn) o0.1 n h40
        have oD : hO dH_rd w wD := hO_tr o0 oD'
        have dz := dQ.1
        refine h_V2 rfl o0 l0 ci_213 rfl rfl hf6 ?_
        refine j_eq (kn := kn) (t := 0) (tgt := 121) (np := 110) rfl (by unfold R32; omega) (fun e7 => ?_) (fun e7 => ?_)
        · refine h_intv k_0 rfl ?_
          refine h_zret (by omega) rfl ?_
          exact ⟨_, _, rfl, oD, ⟨Or.inl rfl, dQ.2.1, fun z => by omega⟩, fun z => by omega⟩
        · refine h_aload rfl l0 rfl ?_
          obtain ⟨wE, zE, hf8, oE', zE1, _⟩ := s_readEnd (kn := kn) oD.1
          have oE : hO dH_rd w wE := hO_tr oD (hO_mono dH_rd3 oE')
          have eE := ln_fr oD.1 oE' (by decide +kernel)
          refine h_V1 rfl oD l0 ci_213 rfl rfl hf8 ?_
          refine j_eq (kn := kn) (t := 0) (tgt := 121) (np := 117) rfl (by unfold R32; omega) (fun e9 => ?_) (fun e9 => ?_)
          · refine h_intv k_0 rfl ?_
            refine h_zret (by omega) rfl ?_
            exact ⟨_, _, rfl, oE, ⟨Or.inl rfl, fun j hj => by rw [eE, dQ.2.1 j hj], fun z => by omega⟩, fun z => by omega⟩
          · refine h_intv k_1 rfl ?_
            refine h_goto rfl ?_
            refine h_zret (by omega) rfl ?_
            exact ⟨_, _, rfl, oE, ⟨Or.inr rfl, fun j hj => by rw [eE, dQ.2.1 j hj], fun _ => lnG_eq eE (dQ.2.2 (by omega))⟩, fun _ => h40⟩
      · refine h_aload rfl l0 rfl ?_
        refine h_intv k_4 rfl ?_
        obtain ⟨wB, hf10, oB'⟩ := s_bad (kn := kn) o0.1 4 ⟨by omega, by omega⟩
        have oB : hO dH_rd w wB := hO_tr o0 (hO_mono dH_rd2 oB')
        have eB := ln_fr o0.1 oB' (by decide +kernel)
        refine h_V2 rfl o0 l0 ci_213 rfl rfl hf10 ?_
        refine h_zret (by omega) rfl ?_
        exact ⟨_, _, rfl, oB, ⟨Or.inl rfl, fun j hj => eB j, fun z => by omega⟩, fun z => by omega⟩
    · refine h_aload rfl l0 rfl ?_
      refine h_intv k_14 rfl ?_
      obtain ⟨z11, hf11, hz11, hq11⟩ := s_isWord (kn := kn) o0.1 14 ⟨by omega, by omega⟩
      refine h_V2 rfl o0 l0 ci_213 rfl rfl hf11 ?_
      refine j_ne (kn := kn) (t := 1) (tgt := 82) (np := 18) rfl (by unfold R32; omega) (fun e12 => ?_) (fun e12 => ?_)
      · refine h_aload rfl l0 rfl ?_
        refine h_getI rfl o0 fi_53 (fun b13a b13b => ?_)
        rw [hn] at b13a b13b ⊢
        refine h_intv k_40 rfl ?_
        refine i_ne (kn := kn) (t := 1) (tgt := 97) (np := 91) rfl (by unfold R32; omega) (by unfold R32; omega) (fun e14 => ?_) (fun e14 => ?_)
        · refine h_aload rfl l0 rfl ?_
          refine h_intv k_4 rfl ?_
          refine h_aload rfl l0 rfl ?_
          refine h_getI rfl o0 fi_53 (fun b15a b15b => ?_)
          rw [hn] at b15a b15b ⊢
          refine h_imul rfl ?_
          have h40 : n ≤ 39 := by omega
          rw [show (4 * (n : Int)) = ((4 * n : Nat) : Int) by omega]
          obtain ⟨wD, zD, hf16, oD', dQ⟩ := s_readDoes (kn := kn) o0.1 n h40
          have oD : hO dH_rd w wD := hO_tr o0 oD'
          have dz := dQ.1
          refine h_V2 rfl o0 l0 ci_213 rfl rfl hf16 ?_
          refine j_eq (kn := kn) (t := 0) (tgt := 121) (np := 110) rfl (by unfold R32; omega) (fun e17 => ?_) (fun e17 => ?_)
          · refine h_intv k_0 rfl ?_
            refine h_zret (by omega) rfl ?_
            exact ⟨_, _, rfl, oD, ⟨Or.inl rfl, dQ.2.1, fun z => by omega⟩, fun z => by omega⟩
          · refine h_aload rfl l0 rfl ?_
            obtain ⟨wE, zE, hf18, oE', zE1, _⟩ := s_readEnd (kn := kn) oD.1
            have oE : hO dH_rd w wE := hO_tr oD (hO_mono dH_rd3 oE')
            have eE := ln_fr oD.1 oE' (by decide +kernel)
            refine h_V1 rfl oD l0 ci_213 rfl rfl hf18 ?_
            refine j_eq (kn := kn) (t := 0) (tgt := 121) (np := 117) rfl (by unfold R32; omega) (fun e19 => ?_) (fun e19 => ?_)
            · refine h_intv k_0 rfl ?_
              refine h_zret (by omega) rfl ?_
              exact ⟨_, _, rfl, oE, ⟨Or.inl rfl, fun j hj => by rw [eE, dQ.2.1 j hj], fun z => by omega⟩, fun z => by omega⟩
            · refine h_intv k_1 rfl ?_
              refine h_goto rfl ?_
              refine h_zret (by omega) rfl ?_
              exact ⟨_, _, rfl, oE, ⟨Or.inr rfl, fun j hj => by rw [eE, dQ.2.1 j hj], fun _ => lnG_eq eE (dQ.2.2 (by omega))⟩, fun _ => h40⟩
        · refine h_aload rfl l0 rfl ?_
          refine h_intv k_4 rfl ?_
          obtain ⟨wB, hf20, oB'⟩ := s_bad (kn := kn) o0.1 4 ⟨by omega, by omega⟩
          have oB : hO dH_rd w wB := hO_tr o0 (hO_mono dH_rd2 oB')
          have eB := ln_fr o0.1 oB' (by decide +kernel)
          refine h_V2 rfl o0 l0 ci_213 rfl rfl hf20 ?_
          refine h_zret (by omega) rfl ?_
          exact ⟨_, _, rfl, oB, ⟨Or.inl rfl, fun j hj => eB j, fun z => by omega⟩, fun z => by omega⟩
      · refine h_aload rfl l0 rfl ?_
        obtain ⟨z21, hf21, hz21⟩ := s_isName (kn := kn) o0.1
        refine h_V1 rfl o0 l0 ci_213 rfl rfl hf21 ?_
        refine j_ne (kn := kn) (t := 1) (tgt := 31) (np := 25) rfl (by unfold R32; omega) (fun e22 => ?_) (fun e22 => ?_)
        · refine h_aload rfl l0 rfl ?_
          refine h_getR rfl o0 fr_19 ?_
          refine h_intv k_0 rfl ?_
          refine h_aload rfl l0 rfl ?_
          refine h_getR rfl o0 fr_14 ?_
          refine h_intv k_1 rfl ?_
          refine h_ialdj (1) rfl o0 ai_215 rfl (by omega) (by omega) (fun b23a b23b => ?_)
          have b23c := gX_in o0 ai_215 ar_signers (j := 1) (by omega) (by omega) (by omega)
          refine h_aload rfl l0 rfl ?_
          refine h_getJ rfl o0 fj_12 (fun j24 => ?_)
          obtain ⟨z25, hf25, hz25⟩ := s_find0 (kn := kn) o0.1 0 ⟨by omega, by omega⟩ (gX w 215 (1)) ⟨by omega, by omega⟩ j24
          refine h_S4 rfl o0 l0 rfl rfl hf25 ?_
          refine h_intv k_n1 rfl ?_
          refine i_ne (kn := kn) (t := 1) (tgt := 82) (np := 53) rfl (by unfold R32; omega) (by unfold R32; omega) (fun e26 => ?_) (fun e26 => ?_)
          · refine h_aload rfl l0 rfl ?_
            refine h_getI rfl o0 fi_53 (fun b27a b27b => ?_)
            rw [hn] at b27a b27b ⊢
            refine h_intv k_40 rfl ?_
            refine i_ne (kn := kn) (t := 1) (tgt := 97) (np := 91) rfl (by unfold R32; omega) (by unfold R32; omega) (fun e28 => ?_) (fun e28 => ?_)
            · refine h_aload rfl l0 rfl ?_
              refine h_intv k_4 rfl ?_
              refine h_aload rfl l0 rfl ?_
              refine h_getI rfl o0 fi_53 (fun b29a b29b => ?_)
              rw [hn] at b29a b29b ⊢
              refine h_imul rfl ?_
              have h40 : n ≤ 39 := by omega
              rw [show (4 * (n : Int)) = ((4 * n : Nat) : Int) by omega]
              obtain ⟨wD, zD, hf30, oD', dQ⟩ := s_readDoes (kn := kn) o0.1 n h40
              have oD : hO dH_rd w wD := hO_tr o0 oD'
              have dz := dQ.1
              refine h_V2 rfl o0 l0 ci_213 rfl rfl hf30 ?_
              refine j_eq (kn := kn) (t := 0) (tgt := 121) (np := 110) rfl (by unfold R32; omega) (fun e31 => ?_) (fun e31 => ?_)
              · refine h_intv k_0 rfl ?_
                refine h_zret (by omega) rfl ?_
                exact ⟨_, _, rfl, oD, ⟨Or.inl rfl, dQ.2.1, fun z => by omega⟩, fun z => by omega⟩
              · refine h_aload rfl l0 rfl ?_
                obtain ⟨wE, zE, hf32, oE', zE1, _⟩ := s_readEnd (kn := kn) oD.1
                have oE : hO dH_rd w wE := hO_tr oD (hO_mono dH_rd3 oE')
                have eE := ln_fr oD.1 oE' (by decide +kernel)
                refine h_V1 rfl oD l0 ci_213 rfl rfl hf32 ?_
                refine j_eq (kn := kn) (t := 0) (tgt := 121) (np := 117) rfl (by unfold R32; omega) (fun e33 => ?_) (fun e33 => ?_)
                · refine h_intv k_0 rfl ?_
                  refine h_zret (by omega) rfl ?_
                  exact ⟨_, _, rfl, oE, ⟨Or.inl rfl, fun j hj => by rw [eE, dQ.2.1 j hj], fun z => by omega⟩, fun z => by omega⟩
                · refine h_intv k_1 rfl ?_
                  refine h_goto rfl ?_
                  refine h_zret (by omega) rfl ?_
                  exact ⟨_, _, rfl, oE, ⟨Or.inr rfl, fun j hj => by rw [eE, dQ.2.1 j hj], fun _ => lnG_eq eE (dQ.2.2 (by omega))⟩, fun _ => h40⟩
            · refine h_aload rfl l0 rfl ?_
              refine h_intv k_4 rfl ?_
              obtain ⟨wB, hf34, oB'⟩ := s_bad (kn := kn) o0.1 4 ⟨by omega, by omega⟩
              have oB : hO dH_rd w wB := hO_tr o0 (hO_mono dH_rd2 oB')
              have eB := ln_fr o0.1 oB' (by decide +kernel)
              refine h_V2 rfl o0 l0 ci_213 rfl rfl hf34 ?_
              refine h_zret (by omega) rfl ?_
              exact ⟨_, _, rfl, oB, ⟨Or.inl rfl, fun j hj => eB j, fun z => by omega⟩, fun z => by omega⟩
          · refine h_aload rfl l0 rfl ?_
            refine h_getR rfl o0 fr_19 ?_
            refine h_intv k_10 rfl ?_
            refine h_aload rfl l0 rfl ?_
            refine h_getR rfl o0 fr_14 ?_
            refine h_intv k_2 rfl ?_
            refine h_ialdj (2) rfl o0 ai_215 rfl (by omega) (by omega) (fun b35a b35b => ?_)
            have b35c := gX_in o0 ai_215 ar_loads (j := 2) (by omega) (by omega) (by omega)
            refine h_aload rfl l0 rfl ?_
            refine h_getJ rfl o0 fj_12 (fun j36 => ?_)
            obtain ⟨z37, hf37, hz37⟩ := s_find1 (kn := kn) o0.1 10 ⟨by omega, by omega⟩ (gX w 215 (2)) ⟨by omega, by omega⟩ j36
            refine h_S4 rfl o0 l0 rfl rfl hf37 ?_
            refine h_intv k_n1 rfl ?_
            refine i_ne (kn := kn) (t := 1) (tgt := 82) (np := 76) rfl (by unfold R32; omega) (by unfold R32; omega) (fun e38 => ?_) (fun e38 => ?_)
            · refine h_aload rfl l0 rfl ?_
              refine h_getI rfl o0 fi_53 (fun b39a b39b => ?_)
              rw [hn] at b39a b39b ⊢
              refine h_intv k_40 rfl ?_
              refine i_ne (kn := kn) (t := 1) (tgt := 97) (np := 91) rfl (by unfold R32; omega) (by unfold R32; omega) (fun e40 => ?_) (fun e40 => ?_)
              · refine h_aload rfl l0 rfl ?_
                refine h_intv k_4 rfl ?_
                refine h_aload rfl l0 rfl ?_
                refine h_getI rfl o0 fi_53 (fun b41a b41b => ?_)
                rw [hn] at b41a b41b ⊢
                refine h_imul rfl ?_
                have h40 : n ≤ 39 := by omega
                rw [show (4 * (n : Int)) = ((4 * n : Nat) : Int) by omega]
                obtain ⟨wD, zD, hf42, oD', dQ⟩ := s_readDoes (kn := kn) o0.1 n h40
                have oD : hO dH_rd w wD := hO_tr o0 oD'
                have dz := dQ.1
                refine h_V2 rfl o0 l0 ci_213 rfl rfl hf42 ?_
                refine j_eq (kn := kn) (t := 0) (tgt := 121) (np := 110) rfl (by unfold R32; omega) (fun e43 => ?_) (fun e43 => ?_)
                · refine h_intv k_0 rfl ?_
                  refine h_zret (by omega) rfl ?_
                  exact ⟨_, _, rfl, oD, ⟨Or.inl rfl, dQ.2.1, fun z => by omega⟩, fun z => by omega⟩
                · refine h_aload rfl l0 rfl ?_
                  obtain ⟨wE, zE, hf44, oE', zE1, _⟩ := s_readEnd (kn := kn) oD.1
                  have oE : hO dH_rd w wE := hO_tr oD (hO_mono dH_rd3 oE')
                  have eE := ln_fr oD.1 oE' (by decide +kernel)
                  refine h_V1 rfl oD l0 ci_213 rfl rfl hf44 ?_
                  refine j_eq (kn := kn) (t := 0) (tgt := 121) (np := 117) rfl (by unfold R32; omega) (fun e45 => ?_) (fun e45 => ?_)
                  · refine h_intv k_0 rfl ?_
                    refine h_zret (by omega) rfl ?_
                    exact ⟨_, _, rfl, oE, ⟨Or.inl rfl, fun j hj => by rw [eE, dQ.2.1 j hj], fun z => by omega⟩, fun z => by omega⟩
                  · refine h_intv k_1 rfl ?_
                    refine h_goto rfl ?_
                    refine h_zret (by omega) rfl ?_
                    exact ⟨_, _, rfl, oE, ⟨Or.inr rfl, fun j hj => by rw [eE, dQ.2.1 j hj], fun _ => lnG_eq eE (dQ.2.2 (by omega))⟩, fun _ => h40⟩
              · refine h_aload rfl l0 rfl ?_
                refine h_intv k_4 rfl ?_
                obtain ⟨wB, hf46, oB'⟩ := s_bad (kn := kn) o0.1 4 ⟨by omega, by omega⟩
                have oB : hO dH_rd w wB := hO_tr o0 (hO_mono dH_rd2 oB')
                have eB := ln_fr o0.1 oB' (by decide +kernel)
                refine h_V2 rfl o0 l0 ci_213 rfl rfl hf46 ?_
                refine h_zret (by omega) rfl ?_
                exact ⟨_, _, rfl, oB, ⟨Or.inl rfl, fun j hj => eB j, fun z => by omega⟩, fun z => by omega⟩
            · refine h_aload rfl l0 rfl ?_
              refine h_intv k_3 rfl ?_
              obtain ⟨wB, hf47, oB'⟩ := s_bad (kn := kn) o0.1 3 ⟨by omega, by omega⟩
              have oB : hO dH_rd w wB := hO_tr o0 (hO_mono dH_rd2 oB')
              have eB := ln_fr o0.1 oB' (by decide +kernel)
              refine h_V2 rfl o0 l0 ci_213 rfl rfl hf47 ?_
              refine h_zret (by omega) rfl ?_
              exact ⟨_, _, rfl, oB, ⟨Or.inl rfl, fun j hj => eB j, fun z => by omega⟩, fun z => by omega⟩
        · refine h_aload rfl l0 rfl ?_
          refine h_intv k_1 rfl ?_
          obtain ⟨wB, hf48, oB'⟩ := s_bad (kn := kn) o0.1 1 ⟨by omega, by omega⟩
          have oB : hO dH_rd w wB := hO_tr o0 (hO_mono dH_rd2 oB')
          have eB := ln_fr o0.1 oB' (by decide +kernel)
          refine h_V2 rfl o0 l0 ci_213 rfl rfl hf48 ?_
          refine h_zret (by omega) rfl ?_
          exact ⟨_, _, rfl, oB, ⟨Or.inl rfl, fun j hj => eB j, fun z => by omega⟩, fun z => by omega⟩
  obtain ⟨r, h1, w2, b, h2, h3⟩ := h_meth1 (nL := 1) rfl K
  rw [h2] at h1
  exact ⟨w2, b, h1, h3⟩
theorem s_isRowR_ {kn : sKn} {w : sW} (hw : wOk ZZ w) (x1 : Int) (hx1 : (-2147483648) ≤ x1 ∧ x1 ≤ 2147483647) : ∃ (w' : sW) (z : Int), fX12_isRow kn [.ref 213, hI x1] w = some (some (hI z), w', 0, 0) ∧ hO dX12_isRow w w' ∧ (z = 0 ∨ (z = 1 ∧ 0 ≤ x1 ∧ x1 ≤ 11)) := by
  obtain ⟨r, w', h1, h2, q, hq, σ', h3, h4, h5, h6⟩ := con_use (con_X12_isRow_0 kn) (σ := [0, x1]) (av := [.ref 213, hI x1]) (w := w) rfl rfl ⟨av_c (k := 213) rfl, av_i rfl ⟨by omega, by omega⟩, trivial⟩ (fun q hq => by cases hq) (gE_c ⟨_, rfl, hx1⟩ (gE_n)) hw rfl
  rcases List.mem_cons.mp hq with rfl | hq
  · obtain ⟨z, z1, z2, z3⟩ := gS_i h4
    rw [z2] at h1
    have z4 := h3 0 0 rfl
    rw [z4] at z1
    cases z1
    refine ⟨w', _, h1, h2, ?_⟩
    omega
  rcases List.mem_singleton.mp hq with rfl
  obtain ⟨z, z1, z2, z3⟩ := gS_i h4
  rw [z2] at h1
  have z4 := h3 0 0 rfl
  rw [z4] at z1
  cases z1
  have y1 := gE_at (a := 0) (b := 11) h6 (by first | exact List.mem_cons_self | decide) (h3 1 _ rfl)
  refine ⟨w', _, h1, h2, ?_⟩
  omega
theorem s_isRowR {kn : sKn} {w : sW} (hw : wOk ZZ w) (x1 : Int) (hx1 : (-2147483648) ≤ x1 ∧ x1 ≤ 2147483647) : ∃ z : Int, fX12_isRow kn [.ref 213, hI x1] w = some (some (hI z), w, 0, 0) ∧ (z = 0 ∨ (z = 1 ∧ 0 ≤ x1 ∧ x1 ≤ 11)) := by
  obtain ⟨w', z, h1, h2, h3⟩ := s_isRowR_ (kn := kn) hw x1 hx1
  have e : w' = w := fr_nil hw h2.1 h2.2
  subst e
  exact ⟨z, h1, h3⟩
theorem s_whySignR_ {kn : sKn} {w : sW} (hw : wOk ZZ w) (x1 : Int) (hx1 : 0 ≤ x1 ∧ x1 ≤ 9) (x2 : Int) (hx2 : 0 ≤ x2 ∧ x2 ≤ 35) : ∃ (w' : sW) (z : Int), fX12_whySign kn [.ref 213, hI x1, hI x2] w = some (some (hI z), w', 0, 0) ∧ hO dX12_whySign w w' ∧ (z = 1 ∨ (2 ≤ z ∧ z ≤ 3) ∨ z = 0) := by
  obtain ⟨r, w', h1, h2, q, hq, σ', h3, h4, h5, h6⟩ := con_use (con_X12_whySign_0 kn) (σ := [0, x1, x2]) (av := [.ref 213, hI x1, hI x2]) (w := w) rfl rfl ⟨av_c (k := 213) rfl, av_i rfl ⟨by omega, by omega⟩, av_i rfl ⟨by omega, by omega⟩, trivial⟩ (fun q hq => by cases hq) (gE_c ⟨_, rfl, hx2⟩ (gE_c ⟨_, rfl, hx1⟩ (gE_n))) hw rfl
  rcases List.mem_cons.mp hq with rfl | hq
  · obtain ⟨z, z1, z2, z3⟩ := gS_i h4
    rw [z2] at h1
    have z4 := h3 0 0 rfl
    rw [z4] at z1
    cases z1
    refine ⟨w', _, h1, h2, ?_⟩
    omega
  rcases List.mem_cons.mp hq with rfl | hq
  · obtain ⟨z, z1, z2, z3⟩ := gS_i h4
    rw [z2] at h1
    have z5 := gE_at (a := 2) (b := 3) h6 (by first | exact List.mem_cons_self | decide) z1
    refine ⟨w', _, h1, h2, ?_⟩
    omega
  rcases List.mem_singleton.mp hq with rfl
  obtain ⟨z, z1, z2, z3⟩ := gS_i h4
  rw [z2] at h1
  have z4 := h3 0 0 rfl
  rw [z4] at z1
  cases z1
  refine ⟨w', _, h1, h2, ?_⟩
  omega
theorem s_whySignR {kn : sKn} {w : sW} (hw : wOk ZZ w) (x1 : Int) (hx1 : 0 ≤ x1 ∧ x1 ≤ 9) (x2 : Int) (hx2 : 0 ≤ x2 ∧ x2 ≤ 35) : ∃ z : Int, fX12_whySign kn [.ref 213, hI x1, hI x2] w = some (some (hI z), w, 0, 0) ∧ (z = 1 ∨ (2 ≤ z ∧ z ≤ 3) ∨ z = 0) := by
  obtain ⟨w', z, h1, h2, h3⟩ := s_whySignR_ (kn := kn) hw x1 hx1 x2 hx2
  have e : w' = w := fr_nil hw h2.1 h2.2
  subst e
  exact ⟨z, h1, h3⟩
theorem s_whyHoldR_ {kn : sKn} {w : sW} (hw : wOk ZZ w) (x1 : Int) (hx1 : 0 ≤ x1 ∧ x1 ≤ 9) : ∃ (w' : sW) (z : Int), fX12_whyHold kn [.ref 213, hI x1] w = some (some (hI z), w', 0, 0) ∧ hO dX12_whyHold w w' ∧ (z = 1 ∨ z = 2 ∨ z = 0) := by
  obtain ⟨r, w', h1, h2, q, hq, σ', h3, h4, h5, h6⟩ := con_use (con_X12_whyHold_0 kn) (σ := [0, x1]) (av := [.ref 213, hI x1]) (w := w) rfl rfl ⟨av_c (k := 213) rfl, av_i rfl ⟨by omega, by omega⟩, trivial⟩ (fun q hq => by cases hq) (gE_c ⟨_, rfl, hx1⟩ (gE_n)) hw rfl
  rcases List.mem_cons.mp hq with rfl | hq
  · obtain ⟨z, z1, z2, z3⟩ := gS_i h4
    rw [z2] at h1
    have z4 := h3 0 0 rfl
    rw [z4] at z1
    cases z1
    refine ⟨w', _, h1, h2, ?_⟩
    omega
  rcases List.mem_cons.mp hq with rfl | hq
  · obtain ⟨z, z1, z2, z3⟩ := gS_i h4
    rw [z2] at h1
    have z4 := h3 0 0 rfl
    rw [z4] at z1
    cases z1
    refine ⟨w', _, h1, h2, ?_⟩
    omega
  rcases List.mem_singleton.mp hq with rfl
  obtain ⟨z, z1, z2, z3⟩ := gS_i h4
  rw [z2] at h1
  have z4 := h3 0 0 rfl
  rw [z4] at z1
  cases z1
  refine ⟨w', _, h1, h2, ?_⟩
  omega
theorem s_whyHoldR {kn : sKn} {w : sW} (hw : wOk ZZ w) (x1 : Int) (hx1 : 0 ≤ x1 ∧ x1 ≤ 9) : ∃ z : Int, fX12_whyHold kn [.ref 213, hI x1] w = some (some (hI z), w, 0, 0) ∧ (z = 1 ∨ z = 2 ∨ z = 0) := by
  obtain ⟨w', z, h1, h2, h3⟩ := s_whyHoldR_ (kn := kn) hw x1 hx1
  have e : w' = w := fr_nil hw h2.1 h2.2
  subst e
  exact ⟨z, h1, h3⟩
theorem s_whyLine {kn : sKn} {w : sW} (hw : wOk ZZ w) (k : Nat) (hk : k ≤ 39) (hg : lnG w k) : ∃ b : Int, fX12_whyLine kn [.ref 213, hI ((4 * k : Nat) : Int)] w = some (some (hI b), w, 0, 0) ∧ (0 ≤ b ∧ b ≤ 9) := by
  unfold lnG at hg
  generalize hwt : gX w 238 (4 * k) = wt at hg
  generalize hwho : gX w 238 (4 * k + 1) = who at hg
  generalize hrow : gX w 238 (4 * k + 2) = rw_ at hg
  generalize hpl : gX w 238 (4 * k + 3) = pl at hg
  have K : Tp (tX12_whyLine kn) (fun r => ∃ b : Int, r = (some (hI b), w, 0, 0) ∧ (0 ≤ b ∧ b ≤ 9)) 0 (lv_args 0 [.ref 213, hI ((4 * k : Nat) : Int)], [], w, 0, 0) := by
    have l0 : hL (lv_args 0 [.ref 213, hI ((4 * k : Nat) : Int)]) (lv_args 0 [.ref 213, hI ((4 * k : Nat) : Int)]) := hL_ex rfl
    have o0 : hO [] w w := hO_rf hw
    refine h_aload rfl l0 rfl ?_
    refine h_getR rfl o0 fr_51 ?_
    refine h_iload rfl l0 rfl ?_
    refine h_intv k_1 rfl ?_
    refine h_iadd rfl ?_
    refine h_ialdj (4 * k + 1) rfl o0 ai_238 rfl (by omega) (by omega) (fun b1a b1b => ?_)
    rw [hwho] at b1a b1b ⊢
    refine h_istore rfl l0 (fun vl2 l2 => ?_)
    refine h_intv k_3 rfl ?_
    refine h_aload rfl l2 rfl ?_
    refine h_getR rfl o0 fr_51 ?_
    refine h_iload rfl l2 rfl ?_
    refine h_intv k_2 rfl ?_
    refine h_iadd rfl ?_
    refine h_ialdj (4 * k + 2) rfl o0 ai_238 rfl (by omega) (by omega) (fun b3a b3b => ?_)
    rw [hrow] at b3a b3b ⊢
    refine h_imul rfl ?_
    refine h_aload rfl l2 rfl ?_
    refine h_getR rfl o0 fr_51 ?_
    refine h_iload rfl l2 rfl ?_
    refine h_intv k_3 rfl ?_
    refine h_iadd rfl ?_
    refine h_ialdj (4 * k + 3) rfl o0 ai_238 rfl (by omega) (by omega) (fun b4a b4b => ?_)
    rw [hpl] at b4a b4b ⊢
    refine h_iadd rfl ?_
    refine h_istore rfl l2 (fun vl5 l5 => ?_)
    refine h_aload rfl l5 rfl ?_
    refine h_getR rfl o0 fr_51 ?_
    refine h_iload rfl l5 rfl ?_
    refine h_ialdj (4 * k) rfl o0 ai_238 rfl (by omega) (by omega) (fun b6a b6b => ?_)
    rw [hwt] at b6a b6b ⊢
    by_cases e7_0 : wt = 0
    · refine h_tab 0 e7_0 (by unfold R32; omega) rfl (by omega) (by omega) rfl ?_
      refine h_aload rfl l5 rfl ?_
      refine h_aload rfl l5 rfl ?_
      refine h_getR rfl o0 fr_51 ?_
      refine h_iload rfl l5 rfl ?_
      refine h_intv k_2 rfl ?_
      refine h_iadd rfl ?_
      refine h_ialdj (4 * k + 2) rfl o0 ai_238 rfl (by omega) (by omega) (fun b8a b8b => ?_)
      rw [hrow] at b8a b8b ⊢
      obtain ⟨z9, hf9, hz9⟩ := s_isRowR (kn := kn) hw rw_ ⟨by omega, by omega⟩
      refine h_V2 rfl o0 l5 ci_213 rfl rfl hf9 ?_
      refine j_ne (kn := kn) (t := 1) (tgt := 92) (np := 87) rfl (by unfold R32; omega) (fun e10 => ?_) (fun e10 => ?_)
      · refine h_aload rfl l5 rfl ?_
        refine h_iload rfl l5 rfl ?_
        refine h_iload rfl l5 rfl ?_
        obtain ⟨z11, hf11, hz11⟩ := s_whySignR (kn := kn) hw who ⟨by omega, by omega⟩ (3 * rw_ + pl) ⟨by omega, by omega⟩
        refine h_V3 rfl o0 l5 ci_213 rfl rfl hf11 ?_
        refine h_iret rfl ?_
        exact ⟨_, rfl, by omega⟩
      · refine h_intv k_9 rfl ?_
        refine h_goto rfl ?_
        refine h_iret rfl ?_
        exact ⟨_, rfl, by omega⟩
    by_cases e7_1 : wt = 1
    · refine h_tab 1 e7_1 (by unfold R32; omega) rfl (by omega) (by omega) rfl ?_
      refine h_aload rfl l5 rfl ?_
      refine h_aload rfl l5 rfl ?_
      refine h_getR rfl o0 fr_51 ?_
      refine h_iload rfl l5 rfl ?_
      refine h_intv k_2 rfl ?_
      refine h_iadd rfl ?_
      refine h_ialdj (4 * k + 2) rfl o0 ai_238 rfl (by omega) (by omega) (fun b12a b12b => ?_)
      rw [hrow] at b12a b12b ⊢
      obtain ⟨z13, hf13, hz13⟩ := s_isRowR (kn := kn) hw rw_ ⟨by omega, by omega⟩
      refine h_V2 rfl o0 l5 ci_213 rfl rfl hf13 ?_
      refine j_ne (kn := kn) (t := 1) (tgt := 119) (np := 114) rfl (by unfold R32; omega) (fun e14 => ?_) (fun e14 => ?_)
      · refine h_aload rfl l5 rfl ?_
        refine h_getR rfl o0 fr_14 ?_
        refine h_intv k_118 rfl ?_
        refine h_iload rfl l5 rfl ?_
        refine h_iadd rfl ?_
        refine h_ialdj (118 + (3 * rw_ + pl).toNat) rfl o0 ai_215 rfl (by omega) (by omega) (fun b15a b15b => ?_)
        refine h_intv k_n1 rfl ?_
        refine i_ne (kn := kn) (t := 1) (tgt := 136) (np := 132) rfl (by unfold R32; omega) (by unfold R32; omega) (fun e16 => ?_) (fun e16 => ?_)
        · refine h_intv k_0 rfl ?_
          refine h_iret rfl ?_
          exact ⟨_, rfl, by omega⟩
        · refine h_intv k_1 rfl ?_
          refine h_goto rfl ?_
          refine h_iret rfl ?_
          exact ⟨_, rfl, by omega⟩
      · refine h_intv k_9 rfl ?_
        refine h_goto rfl ?_
        refine h_iret rfl ?_
        exact ⟨_, rfl, by omega⟩
    by_cases e7_2 : wt = 2
    · refine h_tab 2 e7_2 (by unfold R32; omega) rfl (by omega) (by omega) rfl ?_
      refine h_aload rfl l5 rfl ?_
      refine h_iload rfl l5 rfl ?_
      obtain ⟨z17, hf17, hz17⟩ := s_isDeadA (kn := kn) hw who
      refine h_V2 rfl o0 l5 ci_213 rfl rfl hf17 ?_
      refine j_eq (kn := kn) (t := 0) (tgt := 150) (np := 146) rfl (by unfold R32; omega) (fun e18 => ?_) (fun e18 => ?_)
      · refine h_intv k_0 rfl ?_
        refine h_iret rfl ?_
        exact ⟨_, rfl, by omega⟩
      · refine h_intv k_1 rfl ?_
        refine h_goto rfl ?_
        refine h_iret rfl ?_
        exact ⟨_, rfl, by omega⟩
    by_cases e7_3 : wt = 3
    · refine h_tab 3 e7_3 (by unfold R32; omega) rfl (by omega) (by omega) rfl ?_
      refine h_aload rfl l5 rfl ?_
      refine h_iload rfl l5 rfl ?_
      obtain ⟨z19, hf19, hz19⟩ := s_whyHoldR (kn := kn) hw who ⟨by omega, by omega⟩
      refine h_V2 rfl o0 l5 ci_213 rfl rfl hf19 ?_
      refine h_iret rfl ?_
      exact ⟨_, rfl, by omega⟩
    by_cases e7_4 : wt = 4
    · refine h_tab 4 e7_4 (by unfold R32; omega) rfl (by omega) (by omega) rfl ?_
      refine h_aload rfl l5 rfl ?_
      refine h_iload rfl l5 rfl ?_
      obtain ⟨z20, hf20, hz20⟩ := s_isDeadA (kn := kn) hw who
      refine h_V2 rfl o0 l5 ci_213 rfl rfl hf20 ?_
      refine j_eq (kn := kn) (t := 0) (tgt := 150) (np := 146) rfl (by unfold R32; omega) (fun e21 => ?_) (fun e21 => ?_)
      · refine h_intv k_0 rfl ?_
        refine h_iret rfl ?_
        exact ⟨_, rfl, by omega⟩
      · refine h_intv k_1 rfl ?_
        refine h_goto rfl ?_
        refine h_iret rfl ?_
        exact ⟨_, rfl, by omega⟩
    by_cases e7_5 : wt = 5
    · refine h_tab 5 e7_5 (by unfold R32; omega) rfl (by omega) (by omega) rfl ?_
      refine h_aload rfl l5 rfl ?_
      refine h_getR rfl o0 fr_14 ?_
      refine h_intv k_96 rfl ?_
      refine h_ialdj (96) rfl o0 ai_215 rfl (by omega) (by omega) (fun b22a b22b => ?_)
      refine h_iload rfl l5 rfl ?_
      obtain ⟨z23, hf23, hz23, _⟩ := s_has (kn := kn) hw (gX w 215 (96)) who
      refine h_S2 rfl o0 l5 rfl rfl hf23 ?_
      refine j_eq (kn := kn) (t := 0) (tgt := 176) (np := 172) rfl (by unfold R32; omega) (fun e24 => ?_) (fun e24 => ?_)
      · refine h_intv k_0 rfl ?_
        refine h_iret rfl ?_
        exact ⟨_, rfl, by omega⟩
      · refine h_intv k_1 rfl ?_
        refine h_goto rfl ?_
        refine h_iret rfl ?_
        exact ⟨_, rfl, by omega⟩
    refine h_tabd rfl (by unfold R32; omega) (by omega) ?_
    refine h_aload rfl l5 rfl ?_
    refine h_getR rfl o0 fr_14 ?_
    refine h_intv k_94 rfl ?_
    refine h_ialdj (94) rfl o0 ai_215 rfl (by omega) (by omega) (fun b25a b25b => ?_)
    refine h_aload rfl l5 rfl ?_
    refine h_getR rfl o0 fr_51 ?_
    refine h_iload rfl l5 rfl ?_
    refine h_intv k_2 rfl ?_
    refine h_iadd rfl ?_
    refine h_ialdj (4 * k + 2) rfl o0 ai_238 rfl (by omega) (by omega) (fun b26a b26b => ?_)
    rw [hrow] at b26a b26b ⊢
    refine h_iadd rfl ?_
    refine h_intv k_400 rfl ?_
    refine i_le (kn := kn) (t := 5) (tgt := 204) (np := 200) rfl (by unfold R32; omega) (by unfold R32; omega) (fun e27 => ?_) (fun e27 => ?_)
    · refine h_intv k_0 rfl ?_
      refine h_iret rfl ?_
      exact ⟨_, rfl, by omega⟩
    · refine h_intv k_1 rfl ?_
      refine h_goto rfl ?_
      refine h_iret rfl ?_
      exact ⟨_, rfl, by omega⟩
  obtain ⟨r, h1, b, h2, h3⟩ := h_meth1 (nL := 4) rfl K
  rw [h2] at h1
  exact ⟨b, h1, h3⟩
theorem s_doSignR {kn : sKn} {w : sW} (hw : wOk ZZ w) (x1 : Int) (hx1 : 0 ≤ x1 ∧ x1 ≤ 9) (x2 : Int) (hx2 : 0 ≤ x2 ∧ x2 ≤ 35) : ∃ (w' : sW), fX12_doSign kn [.ref 213, hI x1, hI x2] w = some (none, w', 0, 0) ∧ hO dX12_doSign w w' := by
  obtain ⟨r, w', h1, h2, q, hq, σ', h3, h4, h5, h6⟩ := con_use (con_X12_doSign_0 kn) (σ := [0, x1, x2]) (av := [.ref 213, hI x1, hI x2]) (w := w) rfl rfl ⟨av_c (k := 213) rfl, av_i rfl ⟨by omega, by omega⟩, av_i rfl ⟨by omega, by omega⟩, trivial⟩ (fun q hq => by cases hq) (gE_c ⟨_, rfl, hx2⟩ (gE_c ⟨_, rfl, hx1⟩ (gE_n))) hw rfl
  rcases List.mem_singleton.mp hq with rfl
  rw [gS_v h4] at h1
  exact ⟨w', h1, h2⟩
theorem s_doBurnR {kn : sKn} {w : sW} (hw : wOk ZZ w) (x1 : Int) (hx1 : 0 ≤ x1 ∧ x1 ≤ 35) : ∃ (w' : sW), fX12_doBurn kn [.ref 213, hI x1] w = some (none, w', 0, 0) ∧ hO dX12_doBurn w w' := by
  obtain ⟨r, w', h1, h2, q, hq, σ', h3, h4, h5, h6⟩ := con_use (con_X12_doBurn_0 kn) (σ := [0, x1]) (av := [.ref 213, hI x1]) (w := w) rfl rfl ⟨av_c (k := 213) rfl, av_i rfl ⟨by omega, by omega⟩, trivial⟩ (fun q hq => by cases hq) (gE_c ⟨_, rfl, hx1⟩ (gE_n)) hw rfl
  rcases List.mem_singleton.mp hq with rfl
  rw [gS_v h4] at h1
  exact ⟨w', h1, h2⟩
theorem s_doDieR {kn : sKn} {w : sW} (hw : wOk ZZ w) (x1 : Int) (hx1 : 0 ≤ x1 ∧ x1 ≤ 9) : ∃ (w' : sW), fX12_doDie kn [.ref 213, hI x1] w = some (none, w', 0, 0) ∧ hO dX12_doDie w w' := by
  obtain ⟨r, w', h1, h2, q, hq, σ', h3, h4, h5, h6⟩ := con_use (con_X12_doDie_0 kn) (σ := [0, x1]) (av := [.ref 213, hI x1]) (w := w) rfl rfl ⟨av_c (k := 213) rfl, av_i rfl ⟨by omega, by omega⟩, trivial⟩ (fun q hq => by cases hq) (gE_c ⟨_, rfl, hx1⟩ (gE_n)) hw rfl
  rcases List.mem_singleton.mp hq with rfl
  rw [gS_v h4] at h1
  exact ⟨w', h1, h2⟩
theorem s_passR {kn : sKn} {w : sW} (hw : wOk ZZ w) (x1 : Int) (hx1 : (-2147483648) ≤ x1 ∧ x1 ≤ 2147483647) : ∃ (w' : sW) (z : Int), fX12_passDays kn [.ref 213, hI x1] w = some (some (hI z), w', 0, 0) ∧ hO dX12_passDays w w' ∧ (R32 z) := by
  obtain ⟨r, w', h1, h2, q, hq, σ', h3, h4, h5, h6⟩ := con_use (con_X12_passDays_0 kn) (σ := [0, x1]) (av := [.ref 213, hI x1]) (w := w) rfl rfl ⟨av_c (k := 213) rfl, av_i rfl ⟨by omega, by omega⟩, trivial⟩ (fun q hq => by cases hq) (gE_c ⟨_, rfl, hx1⟩ (gE_n)) hw rfl
  rcases List.mem_singleton.mp hq with rfl
  obtain ⟨z, z1, z2, z3⟩ := gS_i h4
  rw [z2] at h1
  have z5 := gE_at (a := (-2147483648)) (b := 2147483647) h6 (by first | exact List.mem_cons_self | decide) z1
  refine ⟨w', _, h1, h2, ?_⟩
  exact z3
def dH_lR : List (Nat × Nat) := (63, 999) :: (dX12_doSign ++ dX12_doBurn ++ dX12_doDie ++ dX12_passDays ++ dH_cross)
theorem dH_lR0 : msub dX12_doSign dH_lR = true := by decide +kernel
theorem dH_lR1 : msub dX12_doBurn dH_lR = true := by decide +kernel
theorem dH_lR2 : msub dX12_doDie dH_lR = true := by decide +kernel
theorem dH_lR3 : msub dX12_passDays dH_lR = true := by decide +kernel
theorem dH_lR4 : msub dH_cross dH_lR = true := by decide +kernel
theorem ap_earn : aP 215 98 10 (-2147483648) 2147483647 = true := by decide +kernel
theorem h_idiv2 {tbl : List (Nat × sA)} {Po : sR → Prop} {pc np : Nat} {lv : List (Nat × Value)} {st : List Value} {w : sW} {x : Int} (ha : t_get tbl pc = some (a_stk q_idiv np)) (g : ∀ z : Int, R32 z → Tp tbl Po np (lv, hI z :: st, w, 0, 0)) : Tp tbl Po pc (lv, hI 2 :: hI x :: st, w, 0, 0) := by
  refine Tp_step ha (fun k => ?_) (g _ (R32_of (Int32.ofInt x / Int32.ofInt 2)))
  rw [← hI_of (Int32.ofInt x / Int32.ofInt 2)]
  show (match (if Int32.ofInt 2 = 0 then none else some (Value.int (Int32.ofInt x / Int32.ofInt 2) :: st)) with
    | some st' => k np (lv, st', w, 0, 0)
    | none => none) = _
  rw [if_neg (by decide +kernel)]
theorem h_iaddv {tbl : List (Nat × sA)} {Po : sR → Prop} {pc np : Nat} {lv : List (Nat × Value)} {st : List Value} {w : sW} {a b : Int} (ha : t_get tbl pc = some (a_stk q_iadd np)) (g : ∀ z : Int, R32 z → Tp tbl Po np (lv, hI z :: st, w, 0, 0)) : Tp tbl Po pc (lv, hI b :: hI a :: st, w, 0, 0) := h_iadd ha (by
  have e : hI (a + b) = hI (Int32.ofInt (a + b)).toInt := hI_of _
  rw [e]
  exact g _ (R32_of _))
theorem s_liveR {kn : sKn} {w : sW} (hw : wOk ZZ w) (k : Nat) (hk : k ≤ 39) (hg : lnG w k) : ∃ w', fX12_live kn [.ref 213, hI ((4 * k : Nat) : Int)] w = some (none, w', 0, 0) ∧ hO dH_lR w w' := by
  unfold lnG at hg
  generalize hwt : gX w 238 (4 * k) = wt at hg
  generalize hwho : gX w 238 (4 * k + 1) = who at hg
  generalize hrow : gX w 238 (4 * k + 2) = rw_ at hg
  generalize hpl : gX w 238 (4 * k + 3) = pl at hg
  have K : Tp (tX12_live kn) (fun r => ∃ w', r = (none, w', 0, 0) ∧ hO dH_lR w w') 0 (lv_args 0 [.ref 213, hI ((4 * k : Nat) : Int)], [], w, 0, 0) := by
    have l0 : hL (lv_args 0 [.ref 213, hI ((4 * k : Nat) : Int)]) (lv_args 0 [.ref 213, hI ((4 * k : Nat) : Int)]) := hL_ex rfl
    have o0 : hO dH_lR w w := hO_rf hw
    refine h_aload rfl l0 rfl ?_
    refine h_getR rfl o0 fr_51 ?_
    refine h_iload rfl l0 rfl ?_
    refine h_intv k_1 rfl ?_
    refine h_iadd rfl ?_
    refine h_ialdj (4 * k + 1) rfl o0 ai_238 rfl (by omega) (by omega) (fun b1a b1b => ?_)
    rw [hwho] at b1a b1b ⊢
    refine h_istore rfl l0 (fun vl2 l2 => ?_)
    refine h_intv k_3 rfl ?_
    refine h_aload rfl l2 rfl ?_
    refine h_getR rfl o0 fr_51 ?_
    refine h_iload rfl l2 rfl ?_
    refine h_intv k_2 rfl ?_
    refine h_iadd rfl ?_
    refine h_ialdj (4 * k + 2) rfl o0 ai_238 rfl (by omega) (by omega) (fun b3a b3b => ?_)
    rw [hrow] at b3a b3b ⊢
    refine h_imul rfl ?_
    refine h_aload rfl l2 rfl ?_
    refine h_getR rfl o0 fr_51 ?_
    refine h_iload rfl l2 rfl ?_
    refine h_intv k_3 rfl ?_
    refine h_iadd rfl ?_
    refine h_ialdj (4 * k + 3) rfl o0 ai_238 rfl (by omega) (by omega) (fun b4a b4b => ?_)
    rw [hpl] at b4a b4b ⊢
    refine h_iadd rfl ?_
    refine h_istore rfl l2 (fun vl5 l5 => ?_)
    refine h_aload rfl l5 rfl ?_
    refine h_getR rfl o0 fr_51 ?_
    refine h_iload rfl l5 rfl ?_
    refine h_ialdj (4 * k) rfl o0 ai_238 rfl (by omega) (by omega) (fun b6a b6b => ?_)
    rw [hwt] at b6a b6b ⊢
    by_cases e7_0 : wt = 0
    · refine h_tab 0 e7_0 (by unfold R32; omega) rfl (by omega) (by omega) rfl ?_
      refine h_aload rfl l5 rfl ?_
      refine h_iload rfl l5 rfl ?_
      refine h_iload rfl l5 rfl ?_
      obtain ⟨wA, hf8, oA'⟩ := s_doSignR (kn := kn) o0.1 who ⟨by omega, by omega⟩ (3 * rw_ + pl) ⟨by omega, by omega⟩
      have oA : hO dH_lR w wA := hO_tr o0 (hO_mono dH_lR0 oA')
      refine h_W3 rfl o0 l5 ci_213 rfl rfl hf8 ?_
      refine h_vret rfl ?_
      exact ⟨_, rfl, oA⟩
    by_cases e7_1 : wt = 1
    · refine h_tab 1 e7_1 (by unfold R32; omega) rfl (by omega) (by omega) rfl ?_
      refine h_aload rfl l5 rfl ?_
      refine h_iload rfl l5 rfl ?_
      obtain ⟨wA, hf9, oA'⟩ := s_doBurnR (kn := kn) o0.1 (3 * rw_ + pl) ⟨by omega, by omega⟩
      have oA : hO dH_lR w wA := hO_tr o0 (hO_mono dH_lR1 oA')
      refine h_W2 rfl o0 l5 ci_213 rfl rfl hf9 ?_
      refine h_vret rfl ?_
      exact ⟨_, rfl, oA⟩
    by_cases e7_2 : wt = 2
    · refine h_tab 2 e7_2 (by unfold R32; omega) rfl (by omega) (by omega) rfl ?_
      refine h_aload rfl l5 rfl ?_
      refine h_getR rfl o0 fr_14 ?_
      refine h_intv k_98 rfl ?_
      refine h_iload rfl l5 rfl ?_
      refine h_iadd rfl ?_
      refine h_dup2 rfl rfl rfl ?_
      refine h_ialdj (98 + who.toNat) rfl o0 ai_215 rfl (by omega) (by omega) (fun b10a b10b => ?_)
      refine h_intv k_2 rfl ?_
      refine h_idiv2 rfl (fun z9 r9 => ?_)
      have r91 := r9.1
      have r92 := r9.2
      refine h_iastj (98 + who.toNat) rfl o0 ai_215 rfl rfl ap_earn (by omega) (by omega) (by omega) (by omega) (by omega) (by unfold R32; omega) (fun w9 o9 q9a q9b q9c => ?_)
      refine h_vret rfl ?_
      exact ⟨_, rfl, o9⟩
    by_cases e7_3 : wt = 3
    · refine h_tab 3 e7_3 (by unfold R32; omega) rfl (by omega) (by omega) rfl ?_
      refine h_aload rfl l5 rfl ?_
      refine h_getR rfl o0 fr_14 ?_
      refine h_intv k_98 rfl ?_
      refine h_iload rfl l5 rfl ?_
      refine h_iadd rfl ?_
      refine h_dup2 rfl rfl rfl ?_
      refine h_ialdj (98 + who.toNat) rfl o0 ai_215 rfl (by omega) (by omega) (fun b11a b11b => ?_)
      refine h_intv k_1 rfl ?_
      refine h_iaddv rfl (fun z9 r9 => ?_)
      have r91 := r9.1
      have r92 := r9.2
      refine h_iastj (98 + who.toNat) rfl o0 ai_215 rfl rfl ap_earn (by omega) (by omega) (by omega) (by omega) (by omega) (by unfold R32; omega) (fun w9 o9 q9a q9b q9c => ?_)
      refine h_vret rfl ?_
      exact ⟨_, rfl, o9⟩
    by_cases e7_4 : wt = 4
    · refine h_tab 4 e7_4 (by unfold R32; omega) rfl (by omega) (by omega) rfl ?_
      refine h_aload rfl l5 rfl ?_
      refine h_iload rfl l5 rfl ?_
      obtain ⟨wA, hf12, oA'⟩ := s_doDieR (kn := kn) o0.1 who ⟨by omega, by omega⟩
      have oA : hO dH_lR w wA := hO_tr o0 (hO_mono dH_lR2 oA')
      refine h_W2 rfl o0 l5 ci_213 rfl rfl hf12 ?_
      refine h_vret rfl ?_
      exact ⟨_, rfl, oA⟩
    by_cases e7_5 : wt = 5
    · refine h_tab 5 e7_5 (by unfold R32; omega) rfl (by omega) (by omega) rfl ?_
      refine h_aload rfl l5 rfl ?_
      refine h_iload rfl l5 rfl ?_
      obtain ⟨nl, hnl⟩ : ∃ n : Nat, who = (n : Int) := ⟨who.toNat, by omega⟩
      obtain ⟨wA, zA, hf13, oA', hzA⟩ := s_doCross (kn := kn) o0.1 nl (by omega)
      rw [← hnl] at hf13
      have oA : hO dH_lR w wA := hO_tr o0 (hO_mono dH_lR4 oA')
      refine h_V2 rfl o0 l5 ci_213 rfl rfl hf13 ?_
      refine h_pop rfl rfl ?_
      refine h_vret rfl ?_
      exact ⟨_, rfl, oA⟩
    refine h_tabd rfl (by unfold R32; omega) (by omega) ?_
    refine h_aload rfl l5 rfl ?_
    refine h_aload rfl l5 rfl ?_
    refine h_getR rfl o0 fr_51 ?_
    refine h_iload rfl l5 rfl ?_
    refine h_intv k_2 rfl ?_
    refine h_iadd rfl ?_
    refine h_ialdj (4 * k + 2) rfl o0 ai_238 rfl (by omega) (by omega) (fun b14a b14b => ?_)
    rw [hrow] at b14a b14b ⊢
    obtain ⟨wA, zA, hf15, oA', hzA⟩ := s_passR (kn := kn) o0.1 rw_ ⟨by omega, by omega⟩
    have oA : hO dH_lR w wA := hO_tr o0 (hO_mono dH_lR3 oA')
    refine h_V2 rfl o0 l5 ci_213 rfl rfl hf15 ?_
    refine h_pop rfl rfl ?_
    refine h_vret rfl ?_
    exact ⟨_, rfl, oA⟩
  obtain ⟨r, h1, w2, h2, h3⟩ := h_meth1 (nL := 4) rfl K
  rw [h2] at h1
  exact ⟨w2, h1, h3⟩
theorem s_layAsideR {kn : sKn} {w : sW} (hw : wOk ZZ w)  : ∃ (w' : sW), fX12_layAside kn [.ref 213] w = some (none, w', 0, 0) ∧ hO dX12_layAside w w' := by
  obtain ⟨r, w', h1, h2, q, hq, σ', h3, h4, h5, h6⟩ := con_use (con_X12_layAside_0 kn) (σ := [0]) (av := [.ref 213]) (w := w) rfl rfl ⟨av_c (k := 213) rfl, trivial⟩ (fun q hq => by cases hq) (gE_n) hw rfl
  rcases List.mem_singleton.mp hq with rfl
  rw [gS_v h4] at h1
  exact ⟨w', h1, h2⟩
theorem s_stayR {kn : sKn} {w : sW} (hw : wOk ZZ w) (x1 : Int) (hx1 : 0 ≤ x1 ∧ x1 ≤ 1) : ∃ (w' : sW), fX12_stay kn [.ref 213, hI x1] w = some (none, w', 0, 0) ∧ hO dX12_stay w w' := by
  obtain ⟨r, w', h1, h2, q, hq, σ', h3, h4, h5, h6⟩ := con_use (con_X12_stay_0 kn) (σ := [0, x1]) (av := [.ref 213, hI x1]) (w := w) rfl rfl ⟨av_c (k := 213) rfl, av_i rfl ⟨by omega, by omega⟩, trivial⟩ (fun q hq => by cases hq) (gE_c ⟨_, rfl, hx1⟩ (gE_n)) hw rfl
  rcases List.mem_singleton.mp hq with rfl
  rw [gS_v h4] at h1
  exact ⟨w', h1, h2⟩
def dH_bkR : List (Nat × Nat) := (61, 0) :: (61, 53) :: (61, 54) :: (87, 999) :: (dH_rd ++ dH_lR ++ dX12_layAside ++ dX12_stay ++ dH_begin)
theorem dH_bkR0 : msub dH_rd dH_bkR = true := by decide +kernel
theorem dH_bkR1 : msub dH_lR dH_bkR = true := by decide +kernel
theorem dH_bkR2 : msub dX12_layAside dH_bkR = true := by decide +kernel
theorem dH_bkR3 : msub dX12_stay dH_bkR = true := by decide +kernel
theorem dH_bkR4 : msub dH_begin dH_bkR = true := by decide +kernel
def lnI (w : sW) : Prop := ∀ k : Nat, (k : Int) < gF w 213 53 → lnG w k
theorem lnI_fr {D : List (Nat × Nat)} {w w' : sW} (hw : wOk ZZ w) (h : hO D w w') (h1 : mIn D 86 999 = false) (h2 : mIn D 61 53 = false) (p : lnI w) : lnI w' := fun k hk => lnG_eq (ln_fr hw h h1) (p k (by rw [fr_gF (t := 61) (c := 213) h.2 rfl h2 hw (by decide +kernel)] at hk; exact hk))
theorem lnI_s {w0 w w' : sW} {n : Nat} (hn : gF w0 213 53 = (n : Int)) (p : lnI w0) (q : lnQ w0 n 1 w) (h1 : gF w' 213 53 = (n : Int) + 1) (h2 : ∀ j, gX w' 238 j = gX w 238 j) : lnI w' := by
  obtain ⟨_, q2, q3⟩ := q
  intro k hk
  rw [h1] at hk
  refine lnG_eq h2 ?_
  by_cases e : k = n
  · subst e
    exact q3 rfl
  · have := p k (by omega)
    unfold lnG at this ⊢
    rw [q2 _ (by omega), q2 _ (by omega), q2 _ (by omega), q2 _ (by omega)]
    exact this
theorem bk_e {kn : sKn} {w0 w : sW} {lv : List (Nat × Value)} {x wv : Int} {k : Nat} (hk : k ≤ 40) (hx : x = 0 ∨ x = 1) (hwv : 0 ≤ wv ∧ wv ≤ 69) (o0 : hO dH_bkR w0 w) (l0 : hL lv [(0, .ref 213), (1, hI x), (2, hI k), (3, hI wv)]) : Tp (tX12_book kn) (fun r => ∃ (w' : sW) (v : Int), r = (some (hI v), w', 0, 0) ∧ hO dH_bkR w0 w') 127 (lv, [], w, 0, 0) := by
  refine h_aload rfl l0 rfl ?_
  refine h_getR rfl o0 fr_52 ?_
  refine h_intv k_0 rfl ?_
  refine h_iload rfl l0 rfl ?_
  refine h_iastj (0) rfl o0 ai_239 rfl rfl aw_239 (by omega) (by omega) (by omega) (by omega) (by omega) (by unfold R32; omega) (fun w1 o1 q2a q2b q2c => ?_)
  refine h_aload rfl l0 rfl ?_
  refine h_getR rfl o1 fr_52 ?_
  refine h_intv k_1 rfl ?_
  refine h_iload rfl l0 rfl ?_
  refine h_iastj (1) rfl o1 ai_239 rfl rfl aw_239 (by omega) (by omega) (by omega) (by omega) (by omega) (by unfold R32; omega) (fun w3 o3 q4a q4b q4c => ?_)
  refine h_aload rfl l0 rfl ?_
  refine h_getR rfl o3 fr_52 ?_
  refine h_intv k_2 rfl ?_
  refine h_aload rfl l0 rfl ?_
  refine h_getR rfl o3 fr_14 ?_
  refine h_intv k_94 rfl ?_
  refine h_ialdj (94) rfl o3 ai_215 rfl (by omega) (by omega) (fun b5a b5b => ?_)
  refine h_iastj (2) rfl o3 ai_239 rfl rfl aw_239 (by omega) (by omega) (by omega) (by omega) (by omega) (by unfold R32; omega) (fun w6 o6 q7a q7b q7c => ?_)
  refine h_aload rfl l0 rfl ?_
  refine h_getR rfl o6 fr_52 ?_
  refine h_intv k_3 rfl ?_
  refine h_aload rfl l0 rfl ?_
  refine h_getR rfl o6 fr_14 ?_
  refine h_intv k_96 rfl ?_
  refine h_ialdj (96) rfl o6 ai_215 rfl (by omega) (by omega) (fun b8a b8b => ?_)
  refine h_iastj (3) rfl o6 ai_239 rfl rfl aw_239 (by omega) (by omega) (by omega) (by omega) (by omega) (by unfold R32; omega) (fun w9 o9 q10a q10b q10c => ?_)
  refine h_aload rfl l0 rfl ?_
  refine h_intv k_1 rfl ?_
  refine h_putK (by rfl) rfl o9 fi_54 rfl (by omega) (by omega) (fun w11 o11 q12a q12b q12c => ?_)
  refine h_aload rfl l0 rfl ?_
  refine h_iload rfl l0 rfl ?_
  refine h_intv k_1 rfl ?_
  refine i_ne (kn := kn) (t := 1) (tgt := 186) (np := 178) rfl (by unfold R32; omega) (by unfold R32; omega) (fun e13 => ?_) (fun e13 => ?_)
  · refine h_intv k_0 rfl ?_
    obtain ⟨wA, hf14, oA'⟩ := s_stayR (kn := kn) o11.1 0 ⟨by omega, by omega⟩
    have oA : hO dH_bkR w0 wA := hO_tr o11 (hO_mono dH_bkR3 oA')
    refine h_W2 rfl o11 l0 ci_213 rfl rfl hf14 ?_
    refine h_iload rfl l0 rfl ?_
    refine j_ne (kn := kn) (t := 1) (tgt := 198) (np := 194) rfl (by unfold R32; omega) (fun e15 => ?_) (fun e15 => ?_)
    · refine h_iload rfl l0 rfl ?_
      refine h_iret rfl ?_
      exact ⟨_, _, rfl, oA⟩
    · refine h_intv k_n1 rfl ?_
      refine h_goto rfl ?_
      refine h_iret rfl ?_
      exact ⟨_, _, rfl, oA⟩
  · refine h_iload rfl l0 rfl ?_
    refine j_le (kn := kn) (t := 5) (tgt := 186) (np := 182) rfl (by unfold R32; omega) (fun e16 => ?_) (fun e16 => ?_)
    · refine h_intv k_0 rfl ?_
      obtain ⟨wA, hf17, oA'⟩ := s_stayR (kn := kn) o11.1 0 ⟨by omega, by omega⟩
      have oA : hO dH_bkR w0 wA := hO_tr o11 (hO_mono dH_bkR3 oA')
      refine h_W2 rfl o11 l0 ci_213 rfl rfl hf17 ?_
      refine h_iload rfl l0 rfl ?_
      refine j_ne (kn := kn) (t := 1) (tgt := 198) (np := 194) rfl (by unfold R32; omega) (fun e18 => ?_) (fun e18 => ?_)
      · refine h_iload rfl l0 rfl ?_
        refine h_iret rfl ?_
        exact ⟨_, _, rfl, oA⟩
      · refine h_intv k_n1 rfl ?_
        refine h_goto rfl ?_
        refine h_iret rfl ?_
        exact ⟨_, _, rfl, oA⟩
    · refine h_intv k_1 rfl ?_
      refine h_goto rfl ?_
      obtain ⟨wA, hf19, oA'⟩ := s_stayR (kn := kn) o11.1 1 ⟨by omega, by omega⟩
      have oA : hO dH_bkR w0 wA := hO_tr o11 (hO_mono dH_bkR3 oA')
      refine h_W2 rfl o11 l0 ci_213 rfl rfl hf19 ?_
      refine h_iload rfl l0 rfl ?_
      refine j_ne (kn := kn) (t := 1) (tgt := 198) (np := 194) rfl (by unfold R32; omega) (fun e20 => ?_) (fun e20 => ?_)
      · refine h_iload rfl l0 rfl ?_
        refine h_iret rfl ?_
        exact ⟨_, _, rfl, oA⟩
      · refine h_intv k_n1 rfl ?_
        refine h_goto rfl ?_
        refine h_iret rfl ?_
        exact ⟨_, _, rfl, oA⟩
theorem bk_x {kn : sKn} {w0 w : sW} {lv : List (Nat × Value)} {x wv : Int} {k : Nat} (hk : k ≤ 40) (hx : x = 0 ∨ x = 1) (hwv : 0 ≤ wv ∧ wv ≤ 69) (h0 : wv ≠ 0) (o0 : hO dH_bkR w0 w) (l0 : hL lv [(0, .ref 213), (1, hI x), (2, hI k), (3, hI wv)]) : Tp (tX12_book kn) (fun r => ∃ (w' : sW) (v : Int), r = (some (hI v), w', 0, 0) ∧ hO dH_bkR w0 w') 73 (lv, [], w, 0, 0) := by
  refine h_iload rfl l0 rfl ?_
  refine h_aload rfl l0 rfl ?_
  refine h_getI rfl o0 fi_53 (fun b1a b1b => ?_)
  refine i_ge (kn := kn) (t := 3) (tgt := 127) (np := 81) rfl (by unfold R32; omega) (by unfold R32; omega) (fun e2 => ?_) (fun e2 => ?_)
  · exact bk_e (by omega) hx hwv o0 l0
  · refine h_iload rfl l0 rfl ?_
    refine j_ne (kn := kn) (t := 1) (tgt := 127) (np := 85) rfl (by unfold R32; omega) (fun e3 => ?_) (fun e3 => ?_)
    · exact bk_e (by omega) hx hwv o0 l0
    · omega
theorem bk_l {kn : sKn} {w0 : sW} {x : Int} (hx : x = 0 ∨ x = 1) : ∀ (m k : Nat) (w : sW) (lv : List (Nat × Value)) (wv y : Int), k + m = 40 → y = (k : Int) → wv = 0 → lnI w → hO dH_bkR w0 w → hL lv [(0, .ref 213), (1, hI x), (2, hI y), (3, hI wv)] → Tp (tX12_book kn) (fun r => ∃ (w' : sW) (v : Int), r = (some (hI v), w', 0, 0) ∧ hO dH_bkR w0 w') 73 (lv, [], w, 0, 0) := by
  intro m
  induction m with
  | zero =>
    intro k w lv wv y hm hy hwv hI o0 l0
    subst hy
    refine h_iload rfl l0 rfl ?_
    refine h_aload rfl l0 rfl ?_
    refine h_getI rfl o0 fi_53 (fun b1a b1b => ?_)
    refine i_ge (kn := kn) (t := 3) (tgt := 127) (np := 81) rfl (by unfold R32; omega) (by unfold R32; omega) (fun e2 => ?_) (fun e2 => ?_)
    · exact bk_e (by omega) hx (by omega) o0 l0
    · omega
  | succ m ih =>
    intro k w lv wv y hm hy hwv hI o0 l0
    subst hy
    refine h_iload rfl l0 rfl ?_
    refine h_aload rfl l0 rfl ?_
    refine h_getI rfl o0 fi_53 (fun b1a b1b => ?_)
    refine i_ge (kn := kn) (t := 3) (tgt := 127) (np := 81) rfl (by unfold R32; omega) (by unfold R32; omega) (fun e2 => ?_) (fun e2 => ?_)
    · exact bk_e (by omega) hx (by omega) o0 l0
    · refine h_iload rfl l0 rfl ?_
      refine j_ne (kn := kn) (t := 1) (tgt := 127) (np := 85) rfl (by unfold R32; omega) (fun e3 => ?_) (fun e3 => ?_)
      · exact bk_e (by omega) hx (by omega) o0 l0
      · refine h_aload rfl l0 rfl ?_
        refine h_intv k_4 rfl ?_
        refine h_iload rfl l0 rfl ?_
        refine h_imul rfl ?_
        rw [show (4 * (k : Int)) = ((4 * k : Nat) : Int) by omega]
        have gk := hI k (by omega)
        obtain ⟨zW, hf4, hzW⟩ := s_whyLine (kn := kn) o0.1 k (by omega) gk
        refine h_V2 rfl o0 l0 ci_213 rfl rfl hf4 ?_
        refine h_istore rfl l0 (fun vl5 l5 => ?_)
        refine h_iload rfl l5 rfl ?_
        refine j_eq (kn := kn) (t := 0) (tgt := 114) (np := 97) rfl (by unfold R32; omega) (fun e6 => ?_) (fun e6 => ?_)
        · refine h_aload rfl l5 rfl ?_
          refine h_intv k_4 rfl ?_
          refine h_iload rfl l5 rfl ?_
          refine h_imul rfl ?_
          rw [show (4 * (k : Int)) = ((4 * k : Nat) : Int) by omega]
          obtain ⟨wL, hf7, oL'⟩ := s_liveR (kn := kn) o0.1 k (by omega) gk
          have oL : hO dH_bkR w0 wL := hO_tr o0 (hO_mono dH_bkR1 oL')
          have iL := lnI_fr o0.1 oL' (by decide +kernel) (by decide +kernel) hI
          refine h_W2 rfl o0 l5 ci_213 rfl rfl hf7 ?_
          refine h_iincv k_1 rfl l5 rfl (fun vl8 l8 => ?_)
          refine h_goto rfl ?_
          exact ih (k + 1) _ _ zW ((k : Int) + 1) (by omega) (by omega) (by omega) iL oL l8
        · refine h_iload rfl l5 rfl ?_
          refine h_intv k_10 rfl ?_
          refine h_aload rfl l5 rfl ?_
          refine h_getR rfl o0 fr_51 ?_
          refine h_intv k_4 rfl ?_
          refine h_iload rfl l5 rfl ?_
          refine h_imul rfl ?_
          refine h_ialdj (4 * k) rfl o0 ai_238 rfl (by omega) (by omega) (fun b9a b9b => ?_)
          have g2 := gk.1
          obtain ⟨wt, hwt⟩ : ∃ z : Int, gX w 238 (4 * k) = z := ⟨_, rfl⟩
          rw [hwt] at g2 b9a b9b ⊢
          refine h_imul rfl ?_
          refine h_iadd rfl ?_
          refine h_istore rfl l5 (fun vl10 l10 => ?_)
          refine h_goto rfl ?_
          exact bk_x (by omega) hx (by omega) (by omega) o0 l10
theorem bk_65 {kn : sKn} {w0 w : sW} {lv : List (Nat × Value)} {x : Int} (hx : x = 0 ∨ x = 1) (hI : lnI w) (o0 : hO dH_bkR w0 w) (l0 : hL lv [(0, .ref 213), (1, hI x)]) : Tp (tX12_book kn) (fun r => ∃ (w' : sW) (v : Int), r = (some (hI v), w', 0, 0) ∧ hO dH_bkR w0 w') 65 (lv, [], w, 0, 0) := by
  refine h_aload rfl l0 rfl ?_
  obtain ⟨wA, hf1, oA'⟩ := s_layAsideR (kn := kn) o0.1
  have oA : hO dH_bkR w0 wA := hO_tr o0 (hO_mono dH_bkR2 oA')
  have iA := lnI_fr o0.1 oA' (by decide +kernel) (by decide +kernel) hI
  refine h_W1 rfl o0 l0 ci_213 rfl rfl hf1 ?_
  refine h_intv k_0 rfl ?_
  refine h_istore rfl l0 (fun vl2 l2 => ?_)
  refine h_intv k_0 rfl ?_
  refine h_istore rfl l2 (fun vl3 l3 => ?_)
  exact bk_l hx 40 0 _ _ 0 0 rfl rfl rfl iA oA l3
theorem bk_r {kn : sKn} {w0 : sW} {x : Int} (hx : x = 0 ∨ x = 1) : ∀ (m n : Nat) (w : sW) (lv : List (Nat × Value)), n + m = 40 → gF w 213 53 = (n : Int) → lnI w → hO dH_bkR w0 w → hL lv [(0, .ref 213), (1, hI x)] → Tp (tX12_book kn) (fun r => ∃ (w' : sW) (v : Int), r = (some (hI v), w', 0, 0) ∧ hO dH_bkR w0 w') 30 (lv, [], w, 0, 0) := by
  intro m
  induction m with
  | zero =>
    intro n w lv hm hn hI o0 l0
    refine h_aload rfl l0 rfl ?_
    refine h_getI rfl o0 fi_7 (fun b1a b1b => ?_)
    refine j_eq (kn := kn) (t := 0) (tgt := 65) (np := 37) rfl (by unfold R32; omega) (fun e2 => ?_) (fun e2 => ?_)
    · exact bk_65 hx hI o0 l0
    · refine h_aload rfl l0 rfl ?_
      obtain ⟨wA, zA, hf3, oA', qA, n39⟩ := s_readBL (kn := kn) o0.1 n hn
      have oA : hO dH_bkR w0 wA := hO_tr o0 (hO_mono dH_bkR0 oA')
      have hzA := qA.1
      have eN : gF wA 213 53 = (n : Int) := by rw [fr_gF (t := 61) (c := 213) oA'.2 rfl (by decide +kernel) o0.1 (by decide +kernel)]; exact hn
      refine h_V1 rfl o0 l0 ci_213 rfl rfl hf3 ?_
      refine j_ne (kn := kn) (t := 1) (tgt := 52) (np := 44) rfl (by unfold R32; omega) (fun e4 => ?_) (fun e4 => ?_)
      · have := n39 (by omega)
        omega
      · refine h_intv k_n2 rfl ?_
        refine h_aload rfl l0 rfl ?_
        refine h_getI rfl oA fi_11 (fun b5a b5b => ?_)
        refine h_isub rfl ?_
        refine h_iret rfl ?_
        exact ⟨_, _, rfl, oA⟩
  | succ m ih =>
    intro n w lv hm hn hI o0 l0
    refine h_aload rfl l0 rfl ?_
    refine h_getI rfl o0 fi_7 (fun b1a b1b => ?_)
    refine j_eq (kn := kn) (t := 0) (tgt := 65) (np := 37) rfl (by unfold R32; omega) (fun e2 => ?_) (fun e2 => ?_)
    · exact bk_65 hx hI o0 l0
    · refine h_aload rfl l0 rfl ?_
      obtain ⟨wA, zA, hf3, oA', qA, n39⟩ := s_readBL (kn := kn) o0.1 n hn
      have oA : hO dH_bkR w0 wA := hO_tr o0 (hO_mono dH_bkR0 oA')
      have hzA := qA.1
      have eN : gF wA 213 53 = (n : Int) := by rw [fr_gF (t := 61) (c := 213) oA'.2 rfl (by decide +kernel) o0.1 (by decide +kernel)]; exact hn
      refine h_V1 rfl o0 l0 ci_213 rfl rfl hf3 ?_
      refine j_ne (kn := kn) (t := 1) (tgt := 52) (np := 44) rfl (by unfold R32; omega) (fun e4 => ?_) (fun e4 => ?_)
      · refine h_aload rfl l0 rfl ?_
        refine h_dup rfl rfl ?_
        refine h_getI rfl oA fi_53 (fun b5a b5b => ?_)
        rw [eN] at b5a b5b ⊢
        have n39 := n39 (by omega)
        refine h_intv k_1 rfl ?_
        refine h_iadd rfl ?_
        refine h_putI rfl oA fi_53 rfl (by omega) (by omega) (fun w6 o6 q7a q7b q7c => ?_)
        refine h_goto rfl ?_
        have e1 : zA = 1 := by omega
        rw [e1] at qA
        exact ih (n + 1) _ _ (by omega) (by rw [q7a]; omega) (lnI_s hn hI qA q7a (fun j => q7c 238 j)) o6 l0
      · refine h_intv k_n2 rfl ?_
        refine h_aload rfl l0 rfl ?_
        refine h_getI rfl oA fi_11 (fun b8a b8b => ?_)
        refine h_isub rfl ?_
        refine h_iret rfl ?_
        exact ⟨_, _, rfl, oA⟩
theorem s_bookR {kn : sKn} {w0 : sW} (hw : wOk ZZ w0) (x : Int) (hx : R32 x) : ∃ (w' : sW) (v : Int), fX12_book kn [.ref 213, hI x] w0 = some (some (hI v), w', 0, 0) ∧ hO dH_bkR w0 w' := by
  have K : Tp (tX12_book kn) (fun r => ∃ (w' : sW) (v : Int), r = (some (hI v), w', 0, 0) ∧ hO dH_bkR w0 w') 0 (lv_args 0 [.ref 213, hI x], [], w0, 0, 0) := by
    have l0 : hL (lv_args 0 [.ref 213, hI x]) (lv_args 0 [.ref 213, hI x]) := hL_ex rfl
    have o0 : hO dH_bkR w0 w0 := hO_rf hw
    refine h_aload rfl l0 rfl ?_
    refine h_intv k_0 rfl ?_
    refine h_putI rfl o0 fi_0 rfl (by omega) (by omega) (fun w1 o1 q2a q2b q2c => ?_)
    refine h_iload rfl l0 rfl ?_
    refine h_intv k_0 rfl ?_
    refine h_intv k_1 rfl ?_
    obtain ⟨z3, hf3, hz3, hq3⟩ := s_isIn (kn := kn) o1.1 x 0 1 hx ⟨by omega, by omega⟩ ⟨by omega, by omega⟩
    refine h_S3 rfl o1 l0 rfl rfl hf3 ?_
    refine j_ne (kn := kn) (t := 1) (tgt := 18) (np := 14) rfl (by unfold R32; omega) (fun e4 => ?_) (fun e4 => ?_)
    · refine h_aload rfl l0 rfl ?_
      refine h_intv k_400 rfl ?_
      obtain ⟨wA, hf5, oA'⟩ := s_begin (kn := kn) o1.1 400 (by omega)
      have oA : hO dH_bkR w0 wA := hO_tr o1 (hO_mono dH_bkR4 oA')
      refine h_W2 rfl o1 l0 ci_213 rfl rfl hf5 ?_
      refine h_aload rfl l0 rfl ?_
      refine h_intv k_0 rfl ?_
      refine h_putI rfl oA fi_53 rfl (by omega) (by omega) (fun w6 o6 q7a q7b q7c => ?_)
      have h01 := hq3.mp (by omega)
      exact bk_r (by omega) 40 0 _ _ rfl q7a (fun k hk => by rw [q7a] at hk; omega) o6 l0
    · refine h_intv k_n1000 rfl ?_
      refine h_iret rfl ?_
      exact ⟨_, _, rfl, o1⟩
  obtain ⟨r, h1, w2, v, h2, h3⟩ := h_meth1 (nL := 4) rfl K
  rw [h2] at h1
  exact ⟨w2, v, h1, h3⟩
end
