noncomputable section
/-- line k of a book of the reference -/
def lnG (w : sW) (k : Nat) : Prop := (0 ≤ gX w 238 (4 * k) ∧ gX w 238 (4 * k) ≤ 6) ∧ (gX w 238 (4 * k) = 0 → (0 ≤ gX w 238 (4 * k + 1) ∧ gX w 238 (4 * k + 1) ≤ 9) ∧ (0 ≤ gX w 238 (4 * k + 2) ∧ gX w 238 (4 * k + 2) ≤ 11) ∧ (0 ≤ gX w 238 (4 * k + 3) ∧ gX w 238 (4 * k + 3) ≤ 2)) ∧ (gX w 238 (4 * k) = 1 → (0 ≤ gX w 238 (4 * k + 2) ∧ gX w 238 (4 * k + 2) ≤ 11) ∧ (0 ≤ gX w 238 (4 * k + 3) ∧ gX w 238 (4 * k + 3) ≤ 2)) ∧ (2 ≤ gX w 238 (4 * k) ∧ gX w 238 (4 * k) ≤ 4 → 0 ≤ gX w 238 (4 * k + 1) ∧ gX w 238 (4 * k + 1) ≤ 9) ∧ (gX w 238 (4 * k) = 5 → 0 ≤ gX w 238 (4 * k + 1) ∧ gX w 238 (4 * k + 1) ≤ 5)
theorem lnG_eq {w w' : sW} {k : Nat} (h : ∀ j, gX w' 238 j = gX w 238 j) (p : lnG w k) : lnG w' k := by
  unfold lnG at p ⊢
  rw [h, h, h, h]
  exact p
def lnQ (w : sW) (n : Nat) (b : Int) (w' : sW) : Prop := (b = 0 ∨ b = 1) ∧ (∀ j, j < 4 * n → gX w' 238 j = gX w 238 j) ∧ (b = 1 → lnG w' n)
def dH_rd : List (Nat × Nat) := (86, 999) :: (dH_go ++ dX12_readNumber ++ dH_bad ++ dH_re)
theorem dH_rd0 : msub dH_go dH_rd = true := by decide +kernel
theorem dH_rd1 : msub dX12_readNumber dH_rd = true := by decide +kernel
theorem dH_rd2 : msub dH_bad dH_rd = true := by decide +kernel
theorem dH_rd3 : msub dH_re dH_rd = true := by decide +kernel
theorem ln_fr {D : List (Nat × Nat)} {w w' : sW} (hw : wOk ZZ w) (h : hO D w w') (h1 : mIn D 86 999 = false) : ∀ j, gX w' 238 j = gX w 238 j := fun j => fr_gX (t := 86) (c := 238) h.2 rfl h1 hw (by decide +kernel) j
theorem s_rn11 {kn : sKn} {w : sW} (hw : wOk ZZ w) (x1 : Int) (hx1 : 0 ≤ x1 ∧ x1 ≤ 0) (x2 : Int) (hx2 : 11 ≤ x2 ∧ x2 ≤ 11) : ∃ (w' : sW) (z : Int), fX12_readNumber kn [.ref 213, hI x1, hI x2] w = some (some (hI z), w', 0, 0) ∧ hO dX12_readNumber w w' ∧ (z = 0 ∨ (z = 1 ∧ 0 ≤ gF w' 213 13 ∧ gF w' 213 13 ≤ 11)) := by
  obtain ⟨r, w', h1, h2, q, hq, σ', h3, h4, h5, h6⟩ := con_use (con_X12_readNumber_0 kn) (σ := [0, x1, x2]) (av := [.ref 213, hI x1, hI x2]) (w := w) rfl rfl ⟨av_c (k := 213) rfl, av_i rfl ⟨by omega, by omega⟩, av_i rfl ⟨by omega, by omega⟩, trivial⟩ (fun q hq => by cases hq) (gE_c ⟨_, rfl, hx2⟩ (gE_c ⟨_, rfl, hx1⟩ (gE_n))) hw rfl
  rcases List.mem_cons.mp hq with rfl | hq
  · obtain ⟨z, z1, z2, z3⟩ := gS_i h4
    rw [z2] at h1
    have z4 := h3 0 0 rfl
    rw [z4] at z1
    cases z1
    refine ⟨w', _, h1, h2, ?_⟩
    omega
  rcases List.mem_singleton.mp hq with rfl
  obtain ⟨z, z1, z2, z3⟩ := gS_i h4
  rw [z2] at h1
  have z4 := h3 0 0 rfl
  rw [z4] at z1
  cases z1
  obtain ⟨m13, n13, p13⟩ := mf_F (c := 213) (kf := 13) (u := 3) (h3 0 0 rfl) (h5 _ (by first | exact List.mem_cons_self | exact List.mem_cons_of_mem _ List.mem_cons_self | exact List.mem_cons_of_mem _ (List.mem_cons_of_mem _ List.mem_cons_self) | exact List.mem_cons_of_mem _ (List.mem_cons_of_mem _ (List.mem_cons_of_mem _ List.mem_cons_self)) | decide))
  have o13 := gE_at (a := 0) (b := 11) h6 (by first | exact List.mem_cons_self | exact List.mem_cons_of_mem _ List.mem_cons_self | exact List.mem_cons_of_mem _ (List.mem_cons_of_mem _ List.mem_cons_self) | exact List.mem_cons_of_mem _ (List.mem_cons_of_mem _ (List.mem_cons_of_mem _ List.mem_cons_self)) | decide) n13
  refine ⟨w', _, h1, h2, ?_⟩
  omega
theorem s_rn2 {kn : sKn} {w : sW} (hw : wOk ZZ w) (x1 : Int) (hx1 : 0 ≤ x1 ∧ x1 ≤ 0) (x2 : Int) (hx2 : 2 ≤ x2 ∧ x2 ≤ 2) : ∃ (w' : sW) (z : Int), fX12_readNumber kn [.ref 213, hI x1, hI x2] w = some (some (hI z), w', 0, 0) ∧ hO dX12_readNumber w w' ∧ (z = 0 ∨ (z = 1 ∧ 0 ≤ gF w' 213 13 ∧ gF w' 213 13 ≤ 2)) := by
  obtain ⟨r, w', h1, h2, q, hq, σ', h3, h4, h5, h6⟩ := con_use (con_X12_readNumber_1 kn) (σ := [0, x1, x2]) (av := [.ref 213, hI x1, hI x2]) (w := w) rfl rfl ⟨av_c (k := 213) rfl, av_i rfl ⟨by omega, by omega⟩, av_i rfl ⟨by omega, by omega⟩, trivial⟩ (fun q hq => by cases hq) (gE_c ⟨_, rfl, hx2⟩ (gE_c ⟨_, rfl, hx1⟩ (gE_n))) hw rfl
  rcases List.mem_cons.mp hq with rfl | hq
  · obtain ⟨z, z1, z2, z3⟩ := gS_i h4
    rw [z2] at h1
    have z4 := h3 0 0 rfl
    rw [z4] at z1
    cases z1
    refine ⟨w', _, h1, h2, ?_⟩
    omega
  rcases List.mem_singleton.mp hq with rfl
  obtain ⟨z, z1, z2, z3⟩ := gS_i h4
  rw [z2] at h1
  have z4 := h3 0 0 rfl
  rw [z4] at z1
  cases z1
  obtain ⟨m13, n13, p13⟩ := mf_F (c := 213) (kf := 13) (u := 3) (h3 0 0 rfl) (h5 _ (by first | exact List.mem_cons_self | exact List.mem_cons_of_mem _ List.mem_cons_self | exact List.mem_cons_of_mem _ (List.mem_cons_of_mem _ List.mem_cons_self) | exact List.mem_cons_of_mem _ (List.mem_cons_of_mem _ (List.mem_cons_of_mem _ List.mem_cons_self)) | decide))
  have o13 := gE_at (a := 0) (b := 2) h6 (by first | exact List.mem_cons_self | exact List.mem_cons_of_mem _ List.mem_cons_self | exact List.mem_cons_of_mem _ (List.mem_cons_of_mem _ List.mem_cons_self) | exact List.mem_cons_of_mem _ (List.mem_cons_of_mem _ (List.mem_cons_of_mem _ List.mem_cons_self)) | decide) n13
  refine ⟨w', _, h1, h2, ?_⟩
  omega
theorem s_rn60 {kn : sKn} {w : sW} (hw : wOk ZZ w) (x1 : Int) (hx1 : 1 ≤ x1 ∧ x1 ≤ 1) (x2 : Int) (hx2 : 60 ≤ x2 ∧ x2 ≤ 60) : ∃ (w' : sW) (z : Int), fX12_readNumber kn [.ref 213, hI x1, hI x2] w = some (some (hI z), w', 0, 0) ∧ hO dX12_readNumber w w' ∧ (z = 0 ∨ (z = 1 ∧ 1 ≤ gF w' 213 13 ∧ gF w' 213 13 ≤ 60)) := by
  obtain ⟨r, w', h1, h2, q, hq, σ', h3, h4, h5, h6⟩ := con_use (con_X12_readNumber_2 kn) (σ := [0, x1, x2]) (av := [.ref 213, hI x1, hI x2]) (w := w) rfl rfl ⟨av_c (k := 213) rfl, av_i rfl ⟨by omega, by omega⟩, av_i rfl ⟨by omega, by omega⟩, trivial⟩ (fun q hq => by cases hq) (gE_c ⟨_, rfl, hx2⟩ (gE_c ⟨_, rfl, hx1⟩ (gE_n))) hw rfl
  rcases List.mem_cons.mp hq with rfl | hq
  · obtain ⟨z, z1, z2, z3⟩ := gS_i h4
    rw [z2] at h1
    have z4 := h3 0 0 rfl
    rw [z4] at z1
    cases z1
    refine ⟨w', _, h1, h2, ?_⟩
    omega
  rcases List.mem_singleton.mp hq with rfl
  obtain ⟨z, z1, z2, z3⟩ := gS_i h4
  rw [z2] at h1
  have z4 := h3 0 0 rfl
  rw [z4] at z1
  cases z1
  obtain ⟨m13, n13, p13⟩ := mf_F (c := 213) (kf := 13) (u := 3) (h3 0 0 rfl) (h5 _ (by first | exact List.mem_cons_self | exact List.mem_cons_of_mem _ List.mem_cons_self | exact List.mem_cons_of_mem _ (List.mem_cons_of_mem _ List.mem_cons_self) | exact List.mem_cons_of_mem _ (List.mem_cons_of_mem _ (List.mem_cons_of_mem _ List.mem_cons_self)) | decide))
  have o13 := gE_at (a := 1) (b := 60) h6 (by first | exact List.mem_cons_self | exact List.mem_cons_of_mem _ List.mem_cons_self | exact List.mem_cons_of_mem _ (List.mem_cons_of_mem _ List.mem_cons_self) | exact List.mem_cons_of_mem _ (List.mem_cons_of_mem _ (List.mem_cons_of_mem _ List.mem_cons_self)) | decide) n13
  refine ⟨w', _, h1, h2, ?_⟩
  omega
theorem s_readSet {kn : sKn} {w : sW} (hw : wOk ZZ w) (n : Nat) (hn : n ≤ 39) (x z : Int) (hx : R32 x) (hz : R32 z) : ∃ (w' : sW) (b : Int), fX12_readSet kn [.ref 213, hI ((4 * n : Nat) : Int), hI x, hI z] w = some (some (hI b), w', 0, 0) ∧ b = 1 ∧ hO dH_rd w w' ∧ (gX w' 238 (4 * n) = x ∧ gX w' 238 (4 * n + 1) = z ∧ ∀ j, j ≠ 4 * n → j ≠ 4 * n + 1 → gX w' 238 j = gX w 238 j) := by
  have hx1 := hx.1
  have hx2 := hx.2
  have hz1 := hz.1
  have hz2 := hz.2
  have K : Tp (tX12_readSet kn) (fun r => ∃ (w' : sW) (b : Int), r = (some (hI b), w', 0, 0) ∧ b = 1 ∧ hO dH_rd w w' ∧ (gX w' 238 (4 * n) = x ∧ gX w' 238 (4 * n + 1) = z ∧ ∀ j, j ≠ 4 * n → j ≠ 4 * n + 1 → gX w' 238 j = gX w 238 j)) 0 (lv_args 0 [.ref 213, hI ((4 * n : Nat) : Int), hI x, hI z], [], w, 0, 0) := by
    have l0 : hL (lv_args 0 [.ref 213, hI ((4 * n : Nat) : Int), hI x, hI z]) (lv_args 0 [.ref 213, hI ((4 * n : Nat) : Int), hI x, hI z]) := hL_ex rfl
    have o0 : hO dH_rd w w := hO_rf hw
    refine h_aload rfl l0 rfl ?_
    refine h_getR rfl o0 fr_51 ?_
    refine h_iload rfl l0 rfl ?_
    refine h_iload rfl l0 rfl ?_
    refine h_iastj (4 * n) rfl o0 ai_238 rfl rfl aw_238 (by omega) (by omega) (by omega) (by omega) (by omega) (by unfold R32; omega) (fun w41 o41 q42a q42b q42c => ?_)
    refine h_aload rfl l0 rfl ?_
    refine h_getR rfl o41 fr_51 ?_
    refine h_iload rfl l0 rfl ?_
    refine h_intv k_1 rfl ?_
    refine h_iadd rfl ?_
    refine h_iload rfl l0 rfl ?_
    refine h_iastj (4 * n + 1) rfl o41 ai_238 rfl rfl aw_238 (by omega) (by omega) (by omega) (by omega) (by omega) (by unfold R32; omega) (fun w43 o43 q44a q44b q44c => ?_)
    refine h_aload rfl l0 rfl ?_
    obtain ⟨wG, hf45, oG', hrG⟩ := s_go (kn := kn) o43.1
    have oG : hO dH_rd w wG := hO_tr o43 (hO_mono dH_rd0 oG')
    have eG := ln_fr o43.1 oG' (by decide +kernel)
    refine h_W1 rfl o43 l0 ci_213 rfl rfl hf45 ?_
    refine h_intv k_1 rfl ?_
    refine h_zret (by omega) rfl ?_
    exact ⟨_, _, rfl, rfl, oG, by rw [eG, q44b 238 _ (fun _ => by omega), q42a], by rw [eG, q44a], fun j h1 h2 => by rw [eG, q44b 238 _ (fun _ => h2), q42b 238 _ (fun _ => h1)]⟩
  obtain ⟨r, h1, w2, b, h2, h3⟩ := h_meth1 (nL := 4) rfl K
  rw [h2] at h1
  exact ⟨w2, b, h1, h3⟩
theorem s_readPlaceR {kn : sKn} {w : sW} (hw : wOk ZZ w) (n : Nat) (hn : n ≤ 39) : ∃ (w' : sW) (b : Int), fX12_readPlace kn [.ref 213, hI ((4 * n : Nat) : Int)] w = some (some (hI b), w', 0, 0) ∧ hO dH_rd w w' ∧ (b = 0 ∨ b = 1) ∧ (∀ j, j ≠ 4 * n + 2 → j ≠ 4 * n + 3 → gX w' 238 j = gX w 238 j) ∧ (b = 1 → (0 ≤ gX w' 238 (4 * n + 2) ∧ gX w' 238 (4 * n + 2) ≤ 11) ∧ (0 ≤ gX w' 238 (4 * n + 3) ∧ gX w' 238 (4 * n + 3) ≤ 2)) := by
  have K : Tp (tX12_readPlace kn) (fun r => ∃ (w' : sW) (b : Int), r = (some (hI b), w', 0, 0) ∧ hO dH_rd w w' ∧ (b = 0 ∨ b = 1) ∧ (∀ j, j ≠ 4 * n + 2 → j ≠ 4 * n + 3 → gX w' 238 j = gX w 238 j) ∧ (b = 1 → (0 ≤ gX w' 238 (4 * n + 2) ∧ gX w' 238 (4 * n + 2) ≤ 11) ∧ (0 ≤ gX w' 238 (4 * n + 3) ∧ gX w' 238 (4 * n + 3) ≤ 2))) 0 (lv_args 0 [.ref 213, hI ((4 * n : Nat) : Int)], [], w, 0, 0) := by
    have l0 : hL (lv_args 0 [.ref 213, hI ((4 * n : Nat) : Int)]) (lv_args 0 [.ref 213, hI ((4 * n : Nat) : Int)]) := hL_ex rfl
    have o0 : hO dH_rd w w := hO_rf hw
    refine h_aload rfl l0 rfl ?_
    refine h_intv k_0 rfl ?_
    refine h_intv k_11 rfl ?_
    obtain ⟨wA, zA, hf41, oA', hzA⟩ := s_rn11 (kn := kn) o0.1 0 ⟨by omega, by omega⟩ 11 ⟨by omega, by omega⟩
    have oA : hO dH_rd w wA := hO_tr o0 (hO_mono dH_rd1 oA')
    have eA := ln_fr o0.1 oA' (by decide +kernel)
    refine h_V3 rfl o0 l0 ci_213 rfl rfl hf41 ?_
    refine j_ne (kn := kn) (t := 1) (tgt := 12) (np := 10) rfl (by unfold R32; omega) (fun e42 => ?_) (fun e42 => ?_)
    · refine h_aload rfl l0 rfl ?_
      refine h_getR rfl oA fr_51 ?_
      refine h_iload rfl l0 rfl ?_
      refine h_intv k_2 rfl ?_
      refine h_iadd rfl ?_
      refine h_aload rfl l0 rfl ?_
      refine h_getI rfl oA fi_13 (fun b43a b43b => ?_)
      refine h_iastj (4 * n + 2) rfl oA ai_238 rfl rfl aw_238 (by omega) (by omega) (by omega) (by omega) (by omega) (by unfold R32; omega) (fun w44 o44 q45a q45b q45c => ?_)
      refine h_aload rfl l0 rfl ?_
      refine h_intv k_0 rfl ?_
      refine h_intv k_2 rfl ?_
      obtain ⟨wB, zB, hf46, oB', hzB⟩ := s_rn2 (kn := kn) o44.1 0 ⟨by omega, by omega⟩ 2 ⟨by omega, by omega⟩
      have oB : hO dH_rd w wB := hO_tr o44 (hO_mono dH_rd1 oB')
      have eB := ln_fr o44.1 oB' (by decide +kernel)
      refine h_V3 rfl o44 l0 ci_213 rfl rfl hf46 ?_
      refine j_ne (kn := kn) (t := 1) (tgt := 35) (np := 33) rfl (by unfold R32; omega) (fun e47 => ?_) (fun e47 => ?_)
      · refine h_aload rfl l0 rfl ?_
        refine h_getR rfl oB fr_51 ?_
        refine h_iload rfl l0 rfl ?_
        refine h_intv k_3 rfl ?_
        refine h_iadd rfl ?_
        refine h_aload rfl l0 rfl ?_
        refine h_getI rfl oB fi_13 (fun b48a b48b => ?_)
        refine h_iastj (4 * n + 3) rfl oB ai_238 rfl rfl aw_238 (by omega) (by omega) (by omega) (by omega) (by omega) (by unfold R32; omega) (fun w49 o49 q50a q50b q50c => ?_)
        refine h_intv k_1 rfl ?_
        refine h_zret (by omega) rfl ?_
        exact ⟨_, _, rfl, o49, Or.inr rfl, fun j h1 h2 => by rw [q50b 238 _ (fun _ => h2), eB, q45b 238 _ (fun _ => h1), eA], fun _ => ⟨by rw [q50b 238 _ (fun _ => by omega), eB, q45a]; omega, by rw [q50a]; omega⟩⟩
      · refine h_intv k_0 rfl ?_
        refine h_zret (by omega) rfl ?_
        exact ⟨_, _, rfl, oB, Or.inl rfl, fun j h1 _ => by rw [eB, q45b 238 _ (fun _ => h1), eA], fun z => by omega⟩
    · refine h_intv k_0 rfl ?_
      refine h_zret (by omega) rfl ?_
      exact ⟨_, _, rfl, oA, Or.inl rfl, fun j _ _ => eA j, fun z => by omega⟩
  obtain ⟨r, h1, w2, b, h2, h3⟩ := h_meth1 (nL := 2) rfl K
  rw [h2] at h1
  exact ⟨w2, b, h1, h3⟩
theorem s_readSD {kn : sKn} {w : sW} (hw : wOk ZZ w) (n : Nat) (hn : n ≤ 39) (s : Int) (hs : 0 ≤ s ∧ s ≤ 9) : ∃ (w' : sW) (b : Int), fX12_readSignerDoes kn [.ref 213, hI ((4 * n : Nat) : Int), hI s] w = some (some (hI b), w', 0, 0) ∧ hO dH_rd w w' ∧ lnQ w n b w' := by
  have K : Tp (tX12_readSignerDoes kn) (fun r => ∃ (w' : sW) (b : Int), r = (some (hI b), w', 0, 0) ∧ hO dH_rd w w' ∧ lnQ w n b w') 0 (lv_args 0 [.ref 213, hI ((4 * n : Nat) : Int), hI s], [], w, 0, 0) := by
    have l0 : hL (lv_args 0 [.ref 213, hI ((4 * n : Nat) : Int), hI s]) (lv_args 0 [.ref 213, hI ((4 * n : Nat) : Int), hI s]) := hL_ex rfl
    have o0 : hO dH_rd w w := hO_rf hw
    refine h_aload rfl l0 rfl ?_
    refine h_intv k_8 rfl ?_
    obtain ⟨z41, hf41, hz41, hq41⟩ := s_isWord (kn := kn) o0.1 8 ⟨by omega, by omega⟩
    refine h_V2 rfl o0 l0 ci_213 rfl rfl hf41 ?_
    refine j_eq (kn := kn) (t := 0) (tgt := 33) (np := 9) rfl (by unfold R32; omega) (fun e42 => ?_) (fun e42 => ?_)
    · refine h_aload rfl l0 rfl ?_
      refine h_intv k_9 rfl ?_
      obtain ⟨z43, hf43, hz43, hq43⟩ := s_isWord (kn := kn) o0.1 9 ⟨by omega, by omega⟩
      refine h_V2 rfl o0 l0 ci_213 rfl rfl hf43 ?_
      refine j_eq (kn := kn) (t := 0) (tgt := 50) (np := 42) rfl (by unfold R32; omega) (fun e44 => ?_) (fun e44 => ?_)
      · refine h_aload rfl l0 rfl ?_
        refine h_intv k_10 rfl ?_
        obtain ⟨z45, hf45, hz45, hq45⟩ := s_isWord (kn := kn) o0.1 10 ⟨by omega, by omega⟩
        refine h_V2 rfl o0 l0 ci_213 rfl rfl hf45 ?_
        refine j_eq (kn := kn) (t := 0) (tgt := 67) (np := 59) rfl (by unfold R32; omega) (fun e46 => ?_) (fun e46 => ?_)
        · refine h_aload rfl l0 rfl ?_
          refine h_intv k_11 rfl ?_
          obtain ⟨z47, hf47, hz47, hq47⟩ := s_isWord (kn := kn) o0.1 11 ⟨by omega, by omega⟩
          refine h_V2 rfl o0 l0 ci_213 rfl rfl hf47 ?_
          refine j_eq (kn := kn) (t := 0) (tgt := 86) (np := 76) rfl (by unfold R32; omega) (fun e48 => ?_) (fun e48 => ?_)
          · refine h_aload rfl l0 rfl ?_
            refine h_intv k_1 rfl ?_
            obtain ⟨wB, hf49, oB'⟩ := s_bad (kn := kn) o0.1 1 ⟨by omega, by omega⟩
            have oB : hO dH_rd w wB := hO_tr o0 (hO_mono dH_rd2 oB')
            have eB := ln_fr o0.1 oB' (by decide +kernel)
            refine h_V2 rfl o0 l0 ci_213 rfl rfl hf49 ?_
            refine h_zret (by omega) rfl ?_
            exact ⟨_, _, rfl, oB, Or.inl rfl, fun j hj => by rw [eB], fun z => by omega⟩
          · refine h_aload rfl l0 rfl ?_
            refine h_iload rfl l0 rfl ?_
            refine h_intv k_4 rfl ?_
            refine h_iload rfl l0 rfl ?_
            obtain ⟨wS, zS, hf50, bS, oS', s1, s2, s3⟩ := s_readSet (kn := kn) o0.1 n hn 4 s ⟨by omega, by omega⟩ ⟨by omega, by omega⟩
            have oS : hO dH_rd w wS := hO_tr o0 oS'
            refine h_V4 rfl o0 l0 ci_213 rfl rfl hf50 ?_
            refine h_goto rfl ?_
            refine h_zret (by omega) rfl ?_
            exact ⟨_, _, rfl, oS, by omega, fun j hj => by rw [s3 _ (by omega) (by omega)], fun _ => by unfold lnG; rw [s1, s2]; omega⟩
        · refine h_aload rfl l0 rfl ?_
          refine h_iload rfl l0 rfl ?_
          refine h_intv k_3 rfl ?_
          refine h_iload rfl l0 rfl ?_
          obtain ⟨wS, zS, hf51, bS, oS', s1, s2, s3⟩ := s_readSet (kn := kn) o0.1 n hn 3 s ⟨by omega, by omega⟩ ⟨by omega, by omega⟩
          have oS : hO dH_rd w wS := hO_tr o0 oS'
          refine h_V4 rfl o0 l0 ci_213 rfl rfl hf51 ?_
          refine h_zret (by omega) rfl ?_
          exact ⟨_, _, rfl, oS, by omega, fun j hj => by rw [s3 _ (by omega) (by omega)], fun _ => by unfold lnG; rw [s1, s2]; omega⟩
      · refine h_aload rfl l0 rfl ?_
        refine h_iload rfl l0 rfl ?_
        refine h_intv k_2 rfl ?_
        refine h_iload rfl l0 rfl ?_
        obtain ⟨wS, zS, hf52, bS, oS', s1, s2, s3⟩ := s_readSet (kn := kn) o0.1 n hn 2 s ⟨by omega, by omega⟩ ⟨by omega, by omega⟩
        have oS : hO dH_rd w wS := hO_tr o0 oS'
        refine h_V4 rfl o0 l0 ci_213 rfl rfl hf52 ?_
        refine h_zret (by omega) rfl ?_
        exact ⟨_, _, rfl, oS, by omega, fun j hj => by rw [s3 _ (by omega) (by omega)], fun _ => by unfold lnG; rw [s1, s2]; omega⟩
    · refine h_aload rfl l0 rfl ?_
      refine h_iload rfl l0 rfl ?_
      refine h_intv k_0 rfl ?_
      refine h_iload rfl l0 rfl ?_
      obtain ⟨wS, zS, hf53, bS, oS', s1, s2, s3⟩ := s_readSet (kn := kn) o0.1 n hn 0 s ⟨by omega, by omega⟩ ⟨by omega, by omega⟩
      have oS : hO dH_rd w wS := hO_tr o0 oS'
      refine h_V4 rfl o0 l0 ci_213 rfl rfl hf53 ?_
      refine j_eq (kn := kn) (t := 0) (tgt := 31) (np := 19) rfl (by unfold R32; omega) (fun e54 => ?_) (fun e54 => ?_)
      · refine h_intv k_0 rfl ?_
        refine h_zret (by omega) rfl ?_
        omega
      · refine h_aload rfl l0 rfl ?_
        refine h_iload rfl l0 rfl ?_
        obtain ⟨wP, zP, hf55, oP', zP1, p1, p2⟩ := s_readPlaceR (kn := kn) oS.1 n hn
        have oP : hO dH_rd w wP := hO_tr oS oP'
        refine h_V2 rfl oS l0 ci_213 rfl rfl hf55 ?_
        refine j_eq (kn := kn) (t := 0) (tgt := 31) (np := 27) rfl (by unfold R32; omega) (fun e56 => ?_) (fun e56 => ?_)
        · refine h_intv k_0 rfl ?_
          refine h_zret (by omega) rfl ?_
          exact ⟨_, _, rfl, oP, Or.inl rfl, fun j hj => by rw [p1 _ (by omega) (by omega), s3 _ (by omega) (by omega)], fun z => by omega⟩
        · refine h_intv k_1 rfl ?_
          refine h_goto rfl ?_
          refine h_zret (by omega) rfl ?_
          exact ⟨_, _, rfl, oP, Or.inr rfl, fun j hj => by rw [p1 _ (by omega) (by omega), s3 _ (by omega) (by omega)], fun _ => by
            have p2 := p2 (by omega)
            unfold lnG
            rw [p1 (4 * n) (by omega) (by omega), p1 (4 * n + 1) (by omega) (by omega), s1, s2]
            omega⟩
  obtain ⟨r, h1, w2, b, h2, h3⟩ := h_meth1 (nL := 3) rfl K
  rw [h2] at h1
  exact ⟨w2, b, h1, h3⟩
theorem s_find0_ {kn : sKn} {w : sW} (hw : wOk ZZ w) (x1 : Int) (hx1 : 0 ≤ x1 ∧ x1 ≤ 0) (x2 : Int) (hx2 : 0 ≤ x2 ∧ x2 ≤ 10) (x3 : Int64) : ∃ (w' : sW) (z : Int), fX12_findIn kn [.ref 220, hI x1, hI x2, .long x3] w = some (some (hI z), w', 0, 0) ∧ hO dX12_findIn w w' ∧ (((0 ≤ z ∧ z ≤ 9) ∧ 1 ≤ x2 ∧ x2 ≤ 10) ∨ z = (-1)) := by
  obtain ⟨r, w', h1, h2, q, hq, σ', h3, h4, h5, h6⟩ := con_use (con_X12_findIn_0 kn) (σ := [0, x1, x2, x3.toInt]) (av := [.ref 220, hI x1, hI x2, .long x3]) (w := w) rfl rfl ⟨av_c (k := 220) rfl, av_i rfl ⟨by omega, by omega⟩, av_i rfl ⟨by omega, by omega⟩, av_l rfl, trivial⟩ (fun q hq => by cases hq) (gE_c ⟨_, rfl, r64 x3⟩ (gE_c ⟨_, rfl, hx2⟩ (gE_c ⟨_, rfl, hx1⟩ (gE_n)))) hw rfl
  rcases List.mem_cons.mp hq with rfl | hq
  · obtain ⟨z, z1, z2, z3⟩ := gS_i h4
    rw [z2] at h1
    have z5 := gE_at (a := 0) (b := 9) h6 (by first | exact List.mem_cons_self | exact List.mem_cons_of_mem _ List.mem_cons_self | exact List.mem_cons_of_mem _ (List.mem_cons_of_mem _ List.mem_cons_self) | exact List.mem_cons_of_mem _ (List.mem_cons_of_mem _ (List.mem_cons_of_mem _ List.mem_cons_self)) | decide) z1
    have y2 := gE_at (a := 1) (b := 10) h6 (by first | exact List.mem_cons_self | exact List.mem_cons_of_mem _ List.mem_cons_self | exact List.mem_cons_of_mem _ (List.mem_cons_of_mem _ List.mem_cons_self) | exact List.mem_cons_of_mem _ (List.mem_cons_of_mem _ (List.mem_cons_of_mem _ List.mem_cons_self)) | decide) (h3 2 _ rfl)
    refine ⟨w', _, h1, h2, ?_⟩
    omega
  rcases List.mem_singleton.mp hq with rfl
  obtain ⟨z, z1, z2, z3⟩ := gS_i h4
  rw [z2] at h1
  have z4 := h3 0 0 rfl
  rw [z4] at z1
  cases z1
  refine ⟨w', _, h1, h2, ?_⟩
  omega
theorem s_find0 {kn : sKn} {w : sW} (hw : wOk ZZ w) (x1 : Int) (hx1 : 0 ≤ x1 ∧ x1 ≤ 0) (x2 : Int) (hx2 : 0 ≤ x2 ∧ x2 ≤ 10) (x3 : Int64) : ∃ z : Int, fX12_findIn kn [.ref 220, hI x1, hI x2, .long x3] w = some (some (hI z), w, 0, 0) ∧ (((0 ≤ z ∧ z ≤ 9) ∧ 1 ≤ x2 ∧ x2 ≤ 10) ∨ z = (-1)) := by
  obtain ⟨w', z, h1, h2, h3⟩ := s_find0_ (kn := kn) hw x1 hx1 x2 hx2 x3
  have e : w' = w := fr_nil hw h2.1 h2.2
  subst e
  exact ⟨z, h1, h3⟩
theorem s_find1_ {kn : sKn} {w : sW} (hw : wOk ZZ w) (x1 : Int) (hx1 : 10 ≤ x1 ∧ x1 ≤ 10) (x2 : Int) (hx2 : 0 ≤ x2 ∧ x2 ≤ 6) (x3 : Int64) : ∃ (w' : sW) (z : Int), fX12_findIn kn [.ref 220, hI x1, hI x2, .long x3] w = some (some (hI z), w', 0, 0) ∧ hO dX12_findIn w w' ∧ (((0 ≤ z ∧ z ≤ 5) ∧ 1 ≤ x2 ∧ x2 ≤ 6) ∨ z = (-1)) := by
  obtain ⟨r, w', h1, h2, q, hq, σ', h3, h4, h5, h6⟩ := con_use (con_X12_findIn_1 kn) (σ := [0, x1, x2, x3.toInt]) (av := [.ref 220, hI x1, hI x2, .long x3]) (w := w) rfl rfl ⟨av_c (k := 220) rfl, av_i rfl ⟨by omega, by omega⟩, av_i rfl ⟨by omega, by omega⟩, av_l rfl, trivial⟩ (fun q hq => by cases hq) (gE_c ⟨_, rfl, r64 x3⟩ (gE_c ⟨_, rfl, hx2⟩ (gE_c ⟨_, rfl, hx1⟩ (gE_n)))) hw rfl
  rcases List.mem_cons.mp hq with rfl | hq
  · obtain ⟨z, z1, z2, z3⟩ := gS_i h4
    rw [z2] at h1
    have z5 := gE_at (a := 0) (b := 5) h6 (by first | exact List.mem_cons_self | exact List.mem_cons_of_mem _ List.mem_cons_self | exact List.mem_cons_of_mem _ (List.mem_cons_of_mem _ List.mem_cons_self) | exact List.mem_cons_of_mem _ (List.mem_cons_of_mem _ (List.mem_cons_of_mem _ List.mem_cons_self)) | decide) z1
    have y2 := gE_at (a := 1) (b := 6) h6 (by first | exact List.mem_cons_self | exact List.mem_cons_of_mem _ List.mem_cons_self | exact List.mem_cons_of_mem _ (List.mem_cons_of_mem _ List.mem_cons_self) | exact List.mem_cons_of_mem _ (List.mem_cons_of_mem _ (List.mem_cons_of_mem _ List.mem_cons_self)) | decide) (h3 2 _ rfl)
    refine ⟨w', _, h1, h2, ?_⟩
    omega
  rcases List.mem_singleton.mp hq with rfl
  obtain ⟨z, z1, z2, z3⟩ := gS_i h4
  rw [z2] at h1
  have z4 := h3 0 0 rfl
  rw [z4] at z1
  cases z1
  refine ⟨w', _, h1, h2, ?_⟩
  omega
theorem s_find1 {kn : sKn} {w : sW} (hw : wOk ZZ w) (x1 : Int) (hx1 : 10 ≤ x1 ∧ x1 ≤ 10) (x2 : Int) (hx2 : 0 ≤ x2 ∧ x2 ≤ 6) (x3 : Int64) : ∃ z : Int, fX12_findIn kn [.ref 220, hI x1, hI x2, .long x3] w = some (some (hI z), w, 0, 0) ∧ (((0 ≤ z ∧ z ≤ 5) ∧ 1 ≤ x2 ∧ x2 ≤ 6) ∨ z = (-1)) := by
  obtain ⟨w', z, h1, h2, h3⟩ := s_find1_ (kn := kn) hw x1 hx1 x2 hx2 x3
  have e : w' = w := fr_nil hw h2.1 h2.2
  subst e
  exact ⟨z, h1, h3⟩
def gJ (w : sW) (c kf : Nat) : Int64 := match w[c]? with
  | some (.inr q) => match q.2[kf]? with
    | some (.long x) => x
    | _ => 0
  | _ => 0
theorem h_getJv {tbl : List (Nat × sA)} {Po : sR → Prop} {pc np : Nat} {lv : List (Nat × Value)} {st : List Value} {w w0 : sW} {D : List (Nat × Nat)} {ci kf c t : Nat} (ha : t_get tbl pc = some (a_get ci kf np)) (ho : hO D w0 w) (hf : fJt c ci kf = some t) (g : Tp tbl Po np (lv, .long (gJ w c kf) :: st, w, 0, 0)) : Tp tbl Po pc (lv, .ref c :: st, w, 0, 0) := by
  obtain ⟨fs, x, q, _, _, _, _, h1, h2⟩ := fJ_ok ho hf
  have e : gJ w c kf = x := by
    unfold gJ
    rw [h1]
    dsimp only
    rw [h2]
  rw [e] at g
  exact Tp_step ha (fun k => by simp only [a_get, xg_eq, h1, Nat.beq_refl, h2]) g
theorem ans_eq {o : Option sR} {w : sW} {z y : Int} (h : o = some (some (hI z), w, 0, 0)) (h' : o = some (some (hI y), w, 0, 0)) (r : R32 z) (s : R32 y) : z = y := by
  rw [h] at h'
  injection h' with h1
  injection h1 with h2 _
  injection h2 with h3
  injection h3 with h4
  rw [← hI_to r, ← hI_to s, h4]
theorem s_readDoes {kn : sKn} {w : sW} (hw : wOk ZZ w) (n : Nat) (hn : n ≤ 39) (hq : fX12_isWord kn [.ref 213, hI 12] w = some (some (hI 0), w, 0, 0) → fX12_isWord kn [.ref 213, hI 14] w = some (some (hI 0), w, 0, 0) → fX12_findIn kn [.ref 220, hI 0, hI (gX w 215 1), .long (gJ w 213 12)] w = some (some (hI (-1)), w, 0, 0) → fX12_findIn kn [.ref 220, hI 10, hI (gX w 215 2), .long (gJ w 213 12)] w = some (some (hI (-1)), w, 0, 0) → False) : ∃ (w' : sW) (b : Int), fX12_readDoes kn [.ref 213, hI ((4 * n : Nat) : Int)] w = some (some (hI b), w', 0, 0) ∧ hO dH_rd w w' ∧ lnQ w n b w' := by
  have K : Tp (tX12_readDoes kn) (fun r => ∃ (w' : sW) (b : Int), r = (some (hI b), w', 0, 0) ∧ hO dH_rd w w' ∧ lnQ w n b w') 0 (lv_args 0 [.ref 213, hI ((4 * n : Nat) : Int)], [], w, 0, 0) := by
    have l0 : hL (lv_args 0 [.ref 213, hI ((4 * n : Nat) : Int)]) (lv_args 0 [.ref 213, hI ((4 * n : Nat) : Int)]) := hL_ex rfl
    have o0 : hO dH_rd w w := hO_rf hw
    refine h_aload rfl l0 rfl ?_
    refine h_intv k_12 rfl ?_
    obtain ⟨z41, hf41, hz41, hq41⟩ := s_isWord (kn := kn) o0.1 12 ⟨by omega, by omega⟩
    refine h_V2 rfl o0 l0 ci_213 rfl rfl hf41 ?_
    refine j_eq (kn := kn) (t := 0) (tgt := 33) (np := 9) rfl (by unfold R32; omega) (fun e42 => ?_) (fun e42 => ?_)
    · refine h_aload rfl l0 rfl ?_
      refine h_intv k_14 rfl ?_
      obtain ⟨z43, hf43, hz43, hq43⟩ := s_isWord (kn := kn) o0.1 14 ⟨by omega, by omega⟩
      refine h_V2 rfl o0 l0 ci_213 rfl rfl hf43 ?_
      refine j_eq (kn := kn) (t := 0) (tgt := 77) (np := 42) rfl (by unfold R32; omega) (fun e44 => ?_) (fun e44 => ?_)
      · refine h_aload rfl l0 rfl ?_
        refine h_getR rfl o0 fr_19 ?_
        refine h_intv k_0 rfl ?_
        refine h_aload rfl l0 rfl ?_
        refine h_getR rfl o0 fr_14 ?_
        refine h_intv k_1 rfl ?_
        refine h_ialdj (1) rfl o0 ai_215 rfl (by omega) (by omega) (fun b45a b45b => ?_)
        have b45c := gX_in o0 ai_215 ar_signers (j := 1) (by omega) (by omega) (by omega)
        refine h_aload rfl l0 rfl ?_
        refine h_getJv rfl o0 fj_12 ?_
        obtain ⟨z47, hf47, hz47⟩ := s_find0 (kn := kn) o0.1 0 ⟨by omega, by omega⟩ (gX w 215 (1)) ⟨by omega, by omega⟩ (gJ w 213 12)
        refine h_S4 rfl o0 l0 rfl rfl hf47 ?_
        refine h_istore rfl l0 (fun vl48 l48 => ?_)
        refine h_aload rfl l48 rfl ?_
        refine h_getR rfl o0 fr_19 ?_
        refine h_intv k_10 rfl ?_
        refine h_aload rfl l48 rfl ?_
        refine h_getR rfl o0 fr_14 ?_
        refine h_intv k_2 rfl ?_
        refine h_ialdj (2) rfl o0 ai_215 rfl (by omega) (by omega) (fun b49a b49b => ?_)
        have b49c := gX_in o0 ai_215 ar_loads (j := 2) (by omega) (by omega) (by omega)
        refine h_aload rfl l48 rfl ?_
        refine h_getJv rfl o0 fj_12 ?_
        obtain ⟨z51, hf51, hz51⟩ := s_find1 (kn := kn) o0.1 10 ⟨by omega, by omega⟩ (gX w 215 (2)) ⟨by omega, by omega⟩ (gJ w 213 12)
        refine h_S4 rfl o0 l48 rfl rfl hf51 ?_
        refine h_istore rfl l48 (fun vl52 l52 => ?_)
        refine h_aload rfl l52 rfl ?_
        obtain ⟨wG, hf53, oG', hrG⟩ := s_go (kn := kn) o0.1
        have oG : hO dH_rd w wG := hO_tr o0 (hO_mono dH_rd0 oG')
        have eG := ln_fr o0.1 oG' (by decide +kernel)
        refine h_W1 rfl o0 l52 ci_213 rfl rfl hf53 ?_
        refine h_iload rfl l52 rfl ?_
        refine h_intv k_n1 rfl ?_
        refine i_eq (kn := kn) (t := 0) (tgt := 132) (np := 125) rfl (by unfold R32; omega) (by unfold R32; omega) (fun e54 => ?_) (fun e54 => ?_)
        · refine h_aload rfl l52 rfl ?_
          refine h_intv k_13 rfl ?_
          obtain ⟨z55, hf55, hz55, hq55⟩ := s_isWord (kn := kn) oG.1 13 ⟨by omega, by omega⟩
          refine h_V2 rfl oG l52 ci_213 rfl rfl hf55 ?_
          refine j_eq (kn := kn) (t := 0) (tgt := 151) (np := 141) rfl (by unfold R32; omega) (fun e56 => ?_) (fun e56 => ?_)
          · refine h_aload rfl l52 rfl ?_
            refine h_intv k_1 rfl ?_
            obtain ⟨wB, hf57, oB'⟩ := s_bad (kn := kn) oG.1 1 ⟨by omega, by omega⟩
            have oB : hO dH_rd w wB := hO_tr oG (hO_mono dH_rd2 oB')
            have eB := ln_fr oG.1 oB' (by decide +kernel)
            refine h_V2 rfl oG l52 ci_213 rfl rfl hf57 ?_
            refine h_zret (by omega) rfl ?_
            exact ⟨_, _, rfl, oB, Or.inl rfl, fun j hj => by rw [eB, eG], fun z => by omega⟩
          · refine h_aload rfl l52 rfl ?_
            refine h_iload rfl l52 rfl ?_
            refine h_intv k_5 rfl ?_
            refine h_iload rfl l52 rfl ?_
            have h51 : 0 ≤ z51 := by
              rcases hz51 with h | h
              · omega
              · exact (hq (by have q := hf41; rw [e42] at q; exact q) (by have q := hf43; rw [e44] at q; exact q) (by have q := hf47; rw [e54] at q; exact q) (by have q := hf51; rw [h] at q; exact q)).elim
            obtain ⟨wS, zS, hf58, bS, oS', s1, s2, s3⟩ := s_readSet (kn := kn) oG.1 n hn 5 z51 ⟨by omega, by omega⟩ ⟨by omega, by omega⟩
            have oS : hO dH_rd w wS := hO_tr oG oS'
            refine h_V4 rfl oG l52 ci_213 rfl rfl hf58 ?_
            refine h_goto rfl ?_
            refine h_zret (by omega) rfl ?_
            exact ⟨_, _, rfl, oS, by omega, fun j hj => by rw [s3 _ (by omega) (by omega), eG], fun _ => by unfold lnG; rw [s1, s2]; omega⟩
        · refine h_aload rfl l52 rfl ?_
          refine h_iload rfl l52 rfl ?_
          refine h_iload rfl l52 rfl ?_
          obtain ⟨wD, zD, hf59, oD', dQ⟩ := s_readSD (kn := kn) oG.1 n hn z47 ⟨by omega, by omega⟩
          have oD : hO dH_rd w wD := hO_tr oG oD'
          have dz := dQ.1
          refine h_V3 rfl oG l52 ci_213 rfl rfl hf59 ?_
          refine h_zret (by omega) rfl ?_
          exact ⟨_, _, rfl, oD, by omega, fun j hj => by rw [dQ.2.1 j hj, eG], dQ.2.2⟩
      · refine h_aload rfl l0 rfl ?_
        refine h_iload rfl l0 rfl ?_
        refine h_intv k_6 rfl ?_
        refine h_intv k_n1 rfl ?_
        obtain ⟨wS, zS, hf60, bS, oS', s1, s2, s3⟩ := s_readSet (kn := kn) o0.1 n hn 6 (-1) ⟨by omega, by omega⟩ ⟨by omega, by omega⟩
        have oS : hO dH_rd w wS := hO_tr o0 oS'
        refine h_V4 rfl o0 l0 ci_213 rfl rfl hf60 ?_
        refine h_pop rfl rfl ?_
        refine h_aload rfl l0 rfl ?_
        refine h_intv k_1 rfl ?_
        refine h_intv k_60 rfl ?_
        obtain ⟨wN, zN, hf61, oN', hzN⟩ := s_rn60 (kn := kn) oS.1 1 ⟨by omega, by omega⟩ 60 ⟨by omega, by omega⟩
        have oN : hO dH_rd w wN := hO_tr oS (hO_mono dH_rd1 oN')
        have eN := ln_fr oS.1 oN' (by decide +kernel)
        refine h_V3 rfl oS l0 ci_213 rfl rfl hf61 ?_
        refine j_ne (kn := kn) (t := 1) (tgt := 63) (np := 61) rfl (by unfold R32; omega) (fun e62 => ?_) (fun e62 => ?_)
        · refine h_aload rfl l0 rfl ?_
          refine h_getR rfl oN fr_51 ?_
          refine h_iload rfl l0 rfl ?_
          refine h_intv k_2 rfl ?_
          refine h_iadd rfl ?_
          refine h_aload rfl l0 rfl ?_
          refine h_getI rfl oN fi_13 (fun b63a b63b => ?_)
          refine h_iastj (4 * n + 2) rfl oN ai_238 rfl rfl aw_238 (by omega) (by omega) (by omega) (by omega) (by omega) (by unfold R32; omega) (fun w64 o64 q65a q65b q65c => ?_)
          refine h_intv k_1 rfl ?_
          refine h_zret (by omega) rfl ?_
          exact ⟨_, _, rfl, o64, Or.inr rfl, fun j hj => by rw [q65b 238 _ (fun _ => by omega), eN, s3 _ (by omega) (by omega)], fun _ => by unfold lnG; rw [q65b 238 _ (fun _ => by omega), q65b 238 _ (fun _ => by omega), eN, eN, s1, s2]; omega⟩
        · refine h_intv k_0 rfl ?_
          refine h_zret (by omega) rfl ?_
          exact ⟨_, _, rfl, oN, Or.inl rfl, fun j hj => by rw [eN, s3 _ (by omega) (by omega)], fun z => by omega⟩
    · refine h_aload rfl l0 rfl ?_
      refine h_iload rfl l0 rfl ?_
      refine h_intv k_1 rfl ?_
      refine h_intv k_n1 rfl ?_
      obtain ⟨wS, zS, hf66, bS, oS', s1, s2, s3⟩ := s_readSet (kn := kn) o0.1 n hn 1 (-1) ⟨by omega, by omega⟩ ⟨by omega, by omega⟩
      have oS : hO dH_rd w wS := hO_tr o0 oS'
      refine h_V4 rfl o0 l0 ci_213 rfl rfl hf66 ?_
      refine j_eq (kn := kn) (t := 0) (tgt := 31) (np := 19) rfl (by unfold R32; omega) (fun e67 => ?_) (fun e67 => ?_)
      · refine h_intv k_0 rfl ?_
        refine h_zret (by omega) rfl ?_
        omega
      · refine h_aload rfl l0 rfl ?_
        refine h_iload rfl l0 rfl ?_
        obtain ⟨wP, zP, hf68, oP', zP1, p1, p2⟩ := s_readPlaceR (kn := kn) oS.1 n hn
        have oP : hO dH_rd w wP := hO_tr oS oP'
        refine h_V2 rfl oS l0 ci_213 rfl rfl hf68 ?_
        refine j_eq (kn := kn) (t := 0) (tgt := 31) (np := 27) rfl (by unfold R32; omega) (fun e69 => ?_) (fun e69 => ?_)
        · refine h_intv k_0 rfl ?_
          refine h_zret (by omega) rfl ?_
          exact ⟨_, _, rfl, oP, Or.inl rfl, fun j hj => by rw [p1 _ (by omega) (by omega), s3 _ (by omega) (by omega)], fun z => by omega⟩
        · refine h_intv k_1 rfl ?_
          refine h_goto rfl ?_
          refine h_zret (by omega) rfl ?_
          exact ⟨_, _, rfl, oP, Or.inr rfl, fun j hj => by rw [p1 _ (by omega) (by omega), s3 _ (by omega) (by omega)], fun _ => by
            have p2 := p2 (by omega)
            unfold lnG
            rw [p1 (4 * n) (by omega) (by omega), p1 (4 * n + 1) (by omega) (by omega), s1, s2]
            omega⟩
  obtain ⟨r, h1, w2, b, h2, h3⟩ := h_meth1 (nL := 4) rfl K
  rw [h2] at h1
  exact ⟨w2, b, h1, h3⟩
theorem s_isName_ {kn : sKn} {w : sW} (hw : wOk ZZ w)  : ∃ (w' : sW) (z : Int), fX12_isName kn [.ref 213] w = some (some (hI z), w', 0, 0) ∧ hO dX12_isName w w' ∧ (z = 0 ∨ z = 1) := by
  obtain ⟨r, w', h1, h2, q, hq, σ', h3, h4, h5, h6⟩ := con_use (con_X12_isName_0 kn) (σ := [0]) (av := [.ref 213]) (w := w) rfl rfl ⟨av_c (k := 213) rfl, trivial⟩ (fun q hq => by cases hq) (gE_n) hw rfl
  rcases List.mem_cons.mp hq with rfl | hq
  · obtain ⟨z, z1, z2, z3⟩ := gS_i h4
    rw [z2] at h1
    have z4 := h3 0 0 rfl
    rw [z4] at z1
    cases z1
    refine ⟨w', _, h1, h2, ?_⟩
    omega
  rcases List.mem_singleton.mp hq with rfl
  obtain ⟨z, z1, z2, z3⟩ := gS_i h4
  rw [z2] at h1
  have z4 := h3 0 0 rfl
  rw [z4] at z1
  cases z1
  refine ⟨w', _, h1, h2, ?_⟩
  omega
theorem s_isName {kn : sKn} {w : sW} (hw : wOk ZZ w)  : ∃ z : Int, fX12_isName kn [.ref 213] w = some (some (hI z), w, 0, 0) ∧ (z = 0 ∨ z = 1) := by
  obtain ⟨w', z, h1, h2, h3⟩ := s_isName_ (kn := kn) hw 
  have e : w' = w := fr_nil hw h2.1 h2.2
  subst e
  exact ⟨z, h1, h3⟩
theorem s_readBL {kn : sKn} {w : sW} (hw : wOk ZZ w) (n : Nat) (hn : gF w 213 53 = (n : Int)) : ∃ (w' : sW) (b : Int), fX12_readBookLine kn [.ref 213] w = some (some (hI b), w', 0, 0) ∧ hO dH_rd w w' ∧ lnQ w n b w' ∧ (b = 1 → n ≤ 39) := by
  have hn40 : n ≤ 40 := by obtain ⟨_, _, _, _, _, _, _, a1, a2⟩ := fI_ok (hO_rf (D := []) hw) fi_53; omega
  have K : Tp (tX12_readBookLine kn) (fun r => ∃ (w' : sW) (b : Int), r = (some (hI b), w', 0, 0) ∧ hO dH_rd w w' ∧ lnQ w n b w' ∧ (b = 1 → n ≤ 39)) 0 (lv_args 0 [.ref 213], [], w, 0, 0) := by
    have l0 : hL (lv_args 0 [.ref 213]) (lv_args 0 [.ref 213]) := hL_ex rfl
    have o0 : hO dH_rd w w := hO_rf hw
    refine h_aload rfl l0 rfl ?_
    refine h_intv k_12 rfl ?_
    obtain ⟨z41, hf41, hz41, hq41⟩ := s_isWord (kn := kn) o0.1 12 ⟨by omega, by omega⟩
    refine h_V2 rfl o0 l0 ci_213 rfl rfl hf41 ?_
    refine j_ne (kn := kn) (t := 1) (tgt := 82) (np := 9) rfl (by unfold R32; omega) (fun e42 => ?_) (fun e42 => ?_)
    · refine h_aload rfl l0 rfl ?_
      refine h_getI rfl o0 fi_53 (fun b43a b43b => ?_)
      rw [hn] at b43a b43b ⊢
      refine h_intv k_40 rfl ?_
      refine i_ne (kn := kn) (t := 1) (tgt := 97) (np := 91) rfl (by unfold R32; omega) (by unfold R32; omega) (fun e44 => ?_) (fun e44 => ?_)
      · refine h_aload rfl l0 rfl ?_
        refine h_intv k_4 rfl ?_
        refine h_aload rfl l0 rfl ?_
        refine h_getI rfl o0 fi_53 (fun b45a b45b => ?_)
        rw [hn] at b45a b45b ⊢
        refine h_imul rfl ?_
        have h40 : n ≤ 39 := by omega
        rw [show (4 * (n : Int)) = ((4 * n : Nat) : Int) by omega]
        obtain ⟨wD, zD, hf46, oD', dQ⟩ := s_readDoes (kn := kn) o0.1 n h40 (fun q _ _ _ => by have := ans_eq hf41 q (by unfold R32; omega) (by unfold R32; omega); omega)
        have oD : hO dH_rd w wD := hO_tr o0 oD'
        have dz := dQ.1
        refine h_V2 rfl o0 l0 ci_213 rfl rfl hf46 ?_
        refine j_eq (kn := kn) (t := 0) (tgt := 121) (np := 110) rfl (by unfold R32; omega) (fun e47 => ?_) (fun e47 => ?_)
        · refine h_intv k_0 rfl ?_
          refine h_zret (by omega) rfl ?_
          exact ⟨_, _, rfl, oD, ⟨Or.inl rfl, dQ.2.1, fun z => by omega⟩, fun z => by omega⟩
        · refine h_aload rfl l0 rfl ?_
          obtain ⟨wE, zE, hf48, oE', zE1, _⟩ := s_readEnd (kn := kn) oD.1
          have oE : hO dH_rd w wE := hO_tr oD (hO_mono dH_rd3 oE')
          have eE := ln_fr oD.1 oE' (by decide +kernel)
          refine h_V1 rfl oD l0 ci_213 rfl rfl hf48 ?_
          refine j_eq (kn := kn) (t := 0) (tgt := 121) (np := 117) rfl (by unfold R32; omega) (fun e49 => ?_) (fun e49 => ?_)
          · refine h_intv k_0 rfl ?_
            refine h_zret (by omega) rfl ?_
            exact ⟨_, _, rfl, oE, ⟨Or.inl rfl, fun j hj => by rw [eE, dQ.2.1 j hj], fun z => by omega⟩, fun z => by omega⟩
          · refine h_intv k_1 rfl ?_
            refine h_goto rfl ?_
            refine h_zret (by omega) rfl ?_
            exact ⟨_, _, rfl, oE, ⟨Or.inr rfl, fun j hj => by rw [eE, dQ.2.1 j hj], fun _ => lnG_eq eE (dQ.2.2 (by omega))⟩, fun _ => h40⟩
      · refine h_aload rfl l0 rfl ?_
        refine h_intv k_4 rfl ?_
        obtain ⟨wB, hf50, oB'⟩ := s_bad (kn := kn) o0.1 4 ⟨by omega, by omega⟩
        have oB : hO dH_rd w wB := hO_tr o0 (hO_mono dH_rd2 oB')
        have eB := ln_fr o0.1 oB' (by decide +kernel)
        refine h_V2 rfl o0 l0 ci_213 rfl rfl hf50 ?_
        refine h_zret (by omega) rfl ?_
        exact ⟨_, _, rfl, oB, ⟨Or.inl rfl, fun j hj => eB j, fun z => by omega⟩, fun z => by omega⟩
    · refine h_aload rfl l0 rfl ?_
      refine h_intv k_14 rfl ?_
      obtain ⟨z51, hf51, hz51, hq51⟩ := s_isWord (kn := kn) o0.1 14 ⟨by omega, by omega⟩
      refine h_V2 rfl o0 l0 ci_213 rfl rfl hf51 ?_
      refine j_ne (kn := kn) (t := 1) (tgt := 82) (np := 18) rfl (by unfold R32; omega) (fun e52 => ?_) (fun e52 => ?_)
      · refine h_aload rfl l0 rfl ?_
        refine h_getI rfl o0 fi_53 (fun b53a b53b => ?_)
        rw [hn] at b53a b53b ⊢
        refine h_intv k_40 rfl ?_
        refine i_ne (kn := kn) (t := 1) (tgt := 97) (np := 91) rfl (by unfold R32; omega) (by unfold R32; omega) (fun e54 => ?_) (fun e54 => ?_)
        · refine h_aload rfl l0 rfl ?_
          refine h_intv k_4 rfl ?_
          refine h_aload rfl l0 rfl ?_
          refine h_getI rfl o0 fi_53 (fun b55a b55b => ?_)
          rw [hn] at b55a b55b ⊢
          refine h_imul rfl ?_
          have h40 : n ≤ 39 := by omega
          rw [show (4 * (n : Int)) = ((4 * n : Nat) : Int) by omega]
          obtain ⟨wD, zD, hf56, oD', dQ⟩ := s_readDoes (kn := kn) o0.1 n h40 (fun _ q _ _ => by have := ans_eq hf51 q (by unfold R32; omega) (by unfold R32; omega); omega)
          have oD : hO dH_rd w wD := hO_tr o0 oD'
          have dz := dQ.1
          refine h_V2 rfl o0 l0 ci_213 rfl rfl hf56 ?_
          refine j_eq (kn := kn) (t := 0) (tgt := 121) (np := 110) rfl (by unfold R32; omega) (fun e57 => ?_) (fun e57 => ?_)
          · refine h_intv k_0 rfl ?_
            refine h_zret (by omega) rfl ?_
            exact ⟨_, _, rfl, oD, ⟨Or.inl rfl, dQ.2.1, fun z => by omega⟩, fun z => by omega⟩
          · refine h_aload rfl l0 rfl ?_
            obtain ⟨wE, zE, hf58, oE', zE1, _⟩ := s_readEnd (kn := kn) oD.1
            have oE : hO dH_rd w wE := hO_tr oD (hO_mono dH_rd3 oE')
            have eE := ln_fr oD.1 oE' (by decide +kernel)
            refine h_V1 rfl oD l0 ci_213 rfl rfl hf58 ?_
            refine j_eq (kn := kn) (t := 0) (tgt := 121) (np := 117) rfl (by unfold R32; omega) (fun e59 => ?_) (fun e59 => ?_)
            · refine h_intv k_0 rfl ?_
              refine h_zret (by omega) rfl ?_
              exact ⟨_, _, rfl, oE, ⟨Or.inl rfl, fun j hj => by rw [eE, dQ.2.1 j hj], fun z => by omega⟩, fun z => by omega⟩
            · refine h_intv k_1 rfl ?_
              refine h_goto rfl ?_
              refine h_zret (by omega) rfl ?_
              exact ⟨_, _, rfl, oE, ⟨Or.inr rfl, fun j hj => by rw [eE, dQ.2.1 j hj], fun _ => lnG_eq eE (dQ.2.2 (by omega))⟩, fun _ => h40⟩
        · refine h_aload rfl l0 rfl ?_
          refine h_intv k_4 rfl ?_
          obtain ⟨wB, hf60, oB'⟩ := s_bad (kn := kn) o0.1 4 ⟨by omega, by omega⟩
          have oB : hO dH_rd w wB := hO_tr o0 (hO_mono dH_rd2 oB')
          have eB := ln_fr o0.1 oB' (by decide +kernel)
          refine h_V2 rfl o0 l0 ci_213 rfl rfl hf60 ?_
          refine h_zret (by omega) rfl ?_
          exact ⟨_, _, rfl, oB, ⟨Or.inl rfl, fun j hj => eB j, fun z => by omega⟩, fun z => by omega⟩
      · refine h_aload rfl l0 rfl ?_
        obtain ⟨z61, hf61, hz61⟩ := s_isName (kn := kn) o0.1
        refine h_V1 rfl o0 l0 ci_213 rfl rfl hf61 ?_
        refine j_ne (kn := kn) (t := 1) (tgt := 31) (np := 25) rfl (by unfold R32; omega) (fun e62 => ?_) (fun e62 => ?_)
        · refine h_aload rfl l0 rfl ?_
          refine h_getR rfl o0 fr_19 ?_
          refine h_intv k_0 rfl ?_
          refine h_aload rfl l0 rfl ?_
          refine h_getR rfl o0 fr_14 ?_
          refine h_intv k_1 rfl ?_
          refine h_ialdj (1) rfl o0 ai_215 rfl (by omega) (by omega) (fun b63a b63b => ?_)
          have b63c := gX_in o0 ai_215 ar_signers (j := 1) (by omega) (by omega) (by omega)
          refine h_aload rfl l0 rfl ?_
          refine h_getJv rfl o0 fj_12 ?_
          obtain ⟨z65, hf65, hz65⟩ := s_find0 (kn := kn) o0.1 0 ⟨by omega, by omega⟩ (gX w 215 (1)) ⟨by omega, by omega⟩ (gJ w 213 12)
          refine h_S4 rfl o0 l0 rfl rfl hf65 ?_
          refine h_intv k_n1 rfl ?_
          refine i_ne (kn := kn) (t := 1) (tgt := 82) (np := 53) rfl (by unfold R32; omega) (by unfold R32; omega) (fun e66 => ?_) (fun e66 => ?_)
          · refine h_aload rfl l0 rfl ?_
            refine h_getI rfl o0 fi_53 (fun b67a b67b => ?_)
            rw [hn] at b67a b67b ⊢
            refine h_intv k_40 rfl ?_
            refine i_ne (kn := kn) (t := 1) (tgt := 97) (np := 91) rfl (by unfold R32; omega) (by unfold R32; omega) (fun e68 => ?_) (fun e68 => ?_)
            · refine h_aload rfl l0 rfl ?_
              refine h_intv k_4 rfl ?_
              refine h_aload rfl l0 rfl ?_
              refine h_getI rfl o0 fi_53 (fun b69a b69b => ?_)
              rw [hn] at b69a b69b ⊢
              refine h_imul rfl ?_
              have h40 : n ≤ 39 := by omega
              rw [show (4 * (n : Int)) = ((4 * n : Nat) : Int) by omega]
              obtain ⟨wD, zD, hf70, oD', dQ⟩ := s_readDoes (kn := kn) o0.1 n h40 (fun _ _ q _ => by have := ans_eq hf65 q (by unfold R32; omega) (by unfold R32; omega); omega)
              have oD : hO dH_rd w wD := hO_tr o0 oD'
              have dz := dQ.1
              refine h_V2 rfl o0 l0 ci_213 rfl rfl hf70 ?_
              refine j_eq (kn := kn) (t := 0) (tgt := 121) (np := 110) rfl (by unfold R32; omega) (fun e71 => ?_) (fun e71 => ?_)
              · refine h_intv k_0 rfl ?_
                refine h_zret (by omega) rfl ?_
                exact ⟨_, _, rfl, oD, ⟨Or.inl rfl, dQ.2.1, fun z => by omega⟩, fun z => by omega⟩
              · refine h_aload rfl l0 rfl ?_
                obtain ⟨wE, zE, hf72, oE', zE1, _⟩ := s_readEnd (kn := kn) oD.1
                have oE : hO dH_rd w wE := hO_tr oD (hO_mono dH_rd3 oE')
                have eE := ln_fr oD.1 oE' (by decide +kernel)
                refine h_V1 rfl oD l0 ci_213 rfl rfl hf72 ?_
                refine j_eq (kn := kn) (t := 0) (tgt := 121) (np := 117) rfl (by unfold R32; omega) (fun e73 => ?_) (fun e73 => ?_)
                · refine h_intv k_0 rfl ?_
                  refine h_zret (by omega) rfl ?_
                  exact ⟨_, _, rfl, oE, ⟨Or.inl rfl, fun j hj => by rw [eE, dQ.2.1 j hj], fun z => by omega⟩, fun z => by omega⟩
                · refine h_intv k_1 rfl ?_
                  refine h_goto rfl ?_
                  refine h_zret (by omega) rfl ?_
                  exact ⟨_, _, rfl, oE, ⟨Or.inr rfl, fun j hj => by rw [eE, dQ.2.1 j hj], fun _ => lnG_eq eE (dQ.2.2 (by omega))⟩, fun _ => h40⟩
            · refine h_aload rfl l0 rfl ?_
              refine h_intv k_4 rfl ?_
              obtain ⟨wB, hf74, oB'⟩ := s_bad (kn := kn) o0.1 4 ⟨by omega, by omega⟩
              have oB : hO dH_rd w wB := hO_tr o0 (hO_mono dH_rd2 oB')
              have eB := ln_fr o0.1 oB' (by decide +kernel)
              refine h_V2 rfl o0 l0 ci_213 rfl rfl hf74 ?_
              refine h_zret (by omega) rfl ?_
              exact ⟨_, _, rfl, oB, ⟨Or.inl rfl, fun j hj => eB j, fun z => by omega⟩, fun z => by omega⟩
          · refine h_aload rfl l0 rfl ?_
            refine h_getR rfl o0 fr_19 ?_
            refine h_intv k_10 rfl ?_
            refine h_aload rfl l0 rfl ?_
            refine h_getR rfl o0 fr_14 ?_
            refine h_intv k_2 rfl ?_
            refine h_ialdj (2) rfl o0 ai_215 rfl (by omega) (by omega) (fun b75a b75b => ?_)
            have b75c := gX_in o0 ai_215 ar_loads (j := 2) (by omega) (by omega) (by omega)
            refine h_aload rfl l0 rfl ?_
            refine h_getJv rfl o0 fj_12 ?_
            obtain ⟨z77, hf77, hz77⟩ := s_find1 (kn := kn) o0.1 10 ⟨by omega, by omega⟩ (gX w 215 (2)) ⟨by omega, by omega⟩ (gJ w 213 12)
            refine h_S4 rfl o0 l0 rfl rfl hf77 ?_
            refine h_intv k_n1 rfl ?_
            refine i_ne (kn := kn) (t := 1) (tgt := 82) (np := 76) rfl (by unfold R32; omega) (by unfold R32; omega) (fun e78 => ?_) (fun e78 => ?_)
            · refine h_aload rfl l0 rfl ?_
              refine h_getI rfl o0 fi_53 (fun b79a b79b => ?_)
              rw [hn] at b79a b79b ⊢
              refine h_intv k_40 rfl ?_
              refine i_ne (kn := kn) (t := 1) (tgt := 97) (np := 91) rfl (by unfold R32; omega) (by unfold R32; omega) (fun e80 => ?_) (fun e80 => ?_)
              · refine h_aload rfl l0 rfl ?_
                refine h_intv k_4 rfl ?_
                refine h_aload rfl l0 rfl ?_
                refine h_getI rfl o0 fi_53 (fun b81a b81b => ?_)
                rw [hn] at b81a b81b ⊢
                refine h_imul rfl ?_
                have h40 : n ≤ 39 := by omega
                rw [show (4 * (n : Int)) = ((4 * n : Nat) : Int) by omega]
                obtain ⟨wD, zD, hf82, oD', dQ⟩ := s_readDoes (kn := kn) o0.1 n h40 (fun _ _ _ q => by have := ans_eq hf77 q (by unfold R32; omega) (by unfold R32; omega); omega)
                have oD : hO dH_rd w wD := hO_tr o0 oD'
                have dz := dQ.1
                refine h_V2 rfl o0 l0 ci_213 rfl rfl hf82 ?_
                refine j_eq (kn := kn) (t := 0) (tgt := 121) (np := 110) rfl (by unfold R32; omega) (fun e83 => ?_) (fun e83 => ?_)
                · refine h_intv k_0 rfl ?_
                  refine h_zret (by omega) rfl ?_
                  exact ⟨_, _, rfl, oD, ⟨Or.inl rfl, dQ.2.1, fun z => by omega⟩, fun z => by omega⟩
                · refine h_aload rfl l0 rfl ?_
                  obtain ⟨wE, zE, hf84, oE', zE1, _⟩ := s_readEnd (kn := kn) oD.1
                  have oE : hO dH_rd w wE := hO_tr oD (hO_mono dH_rd3 oE')
                  have eE := ln_fr oD.1 oE' (by decide +kernel)
                  refine h_V1 rfl oD l0 ci_213 rfl rfl hf84 ?_
                  refine j_eq (kn := kn) (t := 0) (tgt := 121) (np := 117) rfl (by unfold R32; omega) (fun e85 => ?_) (fun e85 => ?_)
                  · refine h_intv k_0 rfl ?_
                    refine h_zret (by omega) rfl ?_
                    exact ⟨_, _, rfl, oE, ⟨Or.inl rfl, fun j hj => by rw [eE, dQ.2.1 j hj], fun z => by omega⟩, fun z => by omega⟩
                  · refine h_intv k_1 rfl ?_
                    refine h_goto rfl ?_
                    refine h_zret (by omega) rfl ?_
                    exact ⟨_, _, rfl, oE, ⟨Or.inr rfl, fun j hj => by rw [eE, dQ.2.1 j hj], fun _ => lnG_eq eE (dQ.2.2 (by omega))⟩, fun _ => h40⟩
              · refine h_aload rfl l0 rfl ?_
                refine h_intv k_4 rfl ?_
                obtain ⟨wB, hf86, oB'⟩ := s_bad (kn := kn) o0.1 4 ⟨by omega, by omega⟩
                have oB : hO dH_rd w wB := hO_tr o0 (hO_mono dH_rd2 oB')
                have eB := ln_fr o0.1 oB' (by decide +kernel)
                refine h_V2 rfl o0 l0 ci_213 rfl rfl hf86 ?_
                refine h_zret (by omega) rfl ?_
                exact ⟨_, _, rfl, oB, ⟨Or.inl rfl, fun j hj => eB j, fun z => by omega⟩, fun z => by omega⟩
            · refine h_aload rfl l0 rfl ?_
              refine h_intv k_3 rfl ?_
              obtain ⟨wB, hf87, oB'⟩ := s_bad (kn := kn) o0.1 3 ⟨by omega, by omega⟩
              have oB : hO dH_rd w wB := hO_tr o0 (hO_mono dH_rd2 oB')
              have eB := ln_fr o0.1 oB' (by decide +kernel)
              refine h_V2 rfl o0 l0 ci_213 rfl rfl hf87 ?_
              refine h_zret (by omega) rfl ?_
              exact ⟨_, _, rfl, oB, ⟨Or.inl rfl, fun j hj => eB j, fun z => by omega⟩, fun z => by omega⟩
        · refine h_aload rfl l0 rfl ?_
          refine h_intv k_1 rfl ?_
          obtain ⟨wB, hf88, oB'⟩ := s_bad (kn := kn) o0.1 1 ⟨by omega, by omega⟩
          have oB : hO dH_rd w wB := hO_tr o0 (hO_mono dH_rd2 oB')
          have eB := ln_fr o0.1 oB' (by decide +kernel)
          refine h_V2 rfl o0 l0 ci_213 rfl rfl hf88 ?_
          refine h_zret (by omega) rfl ?_
          exact ⟨_, _, rfl, oB, ⟨Or.inl rfl, fun j hj => eB j, fun z => by omega⟩, fun z => by omega⟩
  obtain ⟨r, h1, w2, b, h2, h3⟩ := h_meth1 (nL := 1) rfl K
  rw [h2] at h1
  exact ⟨w2, b, h1, h3⟩
theorem s_isRowR_ {kn : sKn} {w : sW} (hw : wOk ZZ w) (x1 : Int) (hx1 : (-2147483648) ≤ x1 ∧ x1 ≤ 2147483647) : ∃ (w' : sW) (z : Int), fX12_isRow kn [.ref 213, hI x1] w = some (some (hI z), w', 0, 0) ∧ hO dX12_isRow w w' ∧ (z = 0 ∨ (z = 1 ∧ 0 ≤ x1 ∧ x1 ≤ 11)) := by
  obtain ⟨r, w', h1, h2, q, hq, σ', h3, h4, h5, h6⟩ := con_use (con_X12_isRow_0 kn) (σ := [0, x1]) (av := [.ref 213, hI x1]) (w := w) rfl rfl ⟨av_c (k := 213) rfl, av_i rfl ⟨by omega, by omega⟩, trivial⟩ (fun q hq => by cases hq) (gE_c ⟨_, rfl, hx1⟩ (gE_n)) hw rfl
  rcases List.mem_cons.mp hq with rfl | hq
  · obtain ⟨z, z1, z2, z3⟩ := gS_i h4
    rw [z2] at h1
    have z4 := h3 0 0 rfl
    rw [z4] at z1
    cases z1
    refine ⟨w', _, h1, h2, ?_⟩
    omega
  rcases List.mem_singleton.mp hq with rfl
  obtain ⟨z, z1, z2, z3⟩ := gS_i h4
  rw [z2] at h1
  have z4 := h3 0 0 rfl
  rw [z4] at z1
  cases z1
  have y1 := gE_at (a := 0) (b := 11) h6 (by first | exact List.mem_cons_self | exact List.mem_cons_of_mem _ List.mem_cons_self | exact List.mem_cons_of_mem _ (List.mem_cons_of_mem _ List.mem_cons_self) | exact List.mem_cons_of_mem _ (List.mem_cons_of_mem _ (List.mem_cons_of_mem _ List.mem_cons_self)) | decide) (h3 1 _ rfl)
  refine ⟨w', _, h1, h2, ?_⟩
  omega
theorem s_isRowR {kn : sKn} {w : sW} (hw : wOk ZZ w) (x1 : Int) (hx1 : (-2147483648) ≤ x1 ∧ x1 ≤ 2147483647) : ∃ z : Int, fX12_isRow kn [.ref 213, hI x1] w = some (some (hI z), w, 0, 0) ∧ (z = 0 ∨ (z = 1 ∧ 0 ≤ x1 ∧ x1 ≤ 11)) := by
  obtain ⟨w', z, h1, h2, h3⟩ := s_isRowR_ (kn := kn) hw x1 hx1
  have e : w' = w := fr_nil hw h2.1 h2.2
  subst e
  exact ⟨z, h1, h3⟩
theorem s_whySignR_ {kn : sKn} {w : sW} (hw : wOk ZZ w) (x1 : Int) (hx1 : 0 ≤ x1 ∧ x1 ≤ 9) (x2 : Int) (hx2 : 0 ≤ x2 ∧ x2 ≤ 35) : ∃ (w' : sW) (z : Int), fX12_whySign kn [.ref 213, hI x1, hI x2] w = some (some (hI z), w', 0, 0) ∧ hO dX12_whySign w w' ∧ (z = 1 ∨ (2 ≤ z ∧ z ≤ 3) ∨ z = 0) := by
  obtain ⟨r, w', h1, h2, q, hq, σ', h3, h4, h5, h6⟩ := con_use (con_X12_whySign_0 kn) (σ := [0, x1, x2]) (av := [.ref 213, hI x1, hI x2]) (w := w) rfl rfl ⟨av_c (k := 213) rfl, av_i rfl ⟨by omega, by omega⟩, av_i rfl ⟨by omega, by omega⟩, trivial⟩ (fun q hq => by cases hq) (gE_c ⟨_, rfl, hx2⟩ (gE_c ⟨_, rfl, hx1⟩ (gE_n))) hw rfl
  rcases List.mem_cons.mp hq with rfl | hq
  · obtain ⟨z, z1, z2, z3⟩ := gS_i h4
    rw [z2] at h1
    have z4 := h3 0 0 rfl
    rw [z4] at z1
    cases z1
    refine ⟨w', _, h1, h2, ?_⟩
    omega
  rcases List.mem_cons.mp hq with rfl | hq
  · obtain ⟨z, z1, z2, z3⟩ := gS_i h4
    rw [z2] at h1
    have z5 := gE_at (a := 2) (b := 3) h6 (by first | exact List.mem_cons_self | exact List.mem_cons_of_mem _ List.mem_cons_self | exact List.mem_cons_of_mem _ (List.mem_cons_of_mem _ List.mem_cons_self) | exact List.mem_cons_of_mem _ (List.mem_cons_of_mem _ (List.mem_cons_of_mem _ List.mem_cons_self)) | decide) z1
    refine ⟨w', _, h1, h2, ?_⟩
    omega
  rcases List.mem_singleton.mp hq with rfl
  obtain ⟨z, z1, z2, z3⟩ := gS_i h4
  rw [z2] at h1
  have z4 := h3 0 0 rfl
  rw [z4] at z1
  cases z1
  refine ⟨w', _, h1, h2, ?_⟩
  omega
theorem s_whySignR {kn : sKn} {w : sW} (hw : wOk ZZ w) (x1 : Int) (hx1 : 0 ≤ x1 ∧ x1 ≤ 9) (x2 : Int) (hx2 : 0 ≤ x2 ∧ x2 ≤ 35) : ∃ z : Int, fX12_whySign kn [.ref 213, hI x1, hI x2] w = some (some (hI z), w, 0, 0) ∧ (z = 1 ∨ (2 ≤ z ∧ z ≤ 3) ∨ z = 0) := by
  obtain ⟨w', z, h1, h2, h3⟩ := s_whySignR_ (kn := kn) hw x1 hx1 x2 hx2
  have e : w' = w := fr_nil hw h2.1 h2.2
  subst e
  exact ⟨z, h1, h3⟩
theorem s_whyHoldR_ {kn : sKn} {w : sW} (hw : wOk ZZ w) (x1 : Int) (hx1 : 0 ≤ x1 ∧ x1 ≤ 9) : ∃ (w' : sW) (z : Int), fX12_whyHold kn [.ref 213, hI x1] w = some (some (hI z), w', 0, 0) ∧ hO dX12_whyHold w w' ∧ (z = 1 ∨ z = 2 ∨ z = 0) := by
  obtain ⟨r, w', h1, h2, q, hq, σ', h3, h4, h5, h6⟩ := con_use (con_X12_whyHold_0 kn) (σ := [0, x1]) (av := [.ref 213, hI x1]) (w := w) rfl rfl ⟨av_c (k := 213) rfl, av_i rfl ⟨by omega, by omega⟩, trivial⟩ (fun q hq => by cases hq) (gE_c ⟨_, rfl, hx1⟩ (gE_n)) hw rfl
  rcases List.mem_cons.mp hq with rfl | hq
  · obtain ⟨z, z1, z2, z3⟩ := gS_i h4
    rw [z2] at h1
    have z4 := h3 0 0 rfl
    rw [z4] at z1
    cases z1
    refine ⟨w', _, h1, h2, ?_⟩
    omega
  rcases List.mem_cons.mp hq with rfl | hq
  · obtain ⟨z, z1, z2, z3⟩ := gS_i h4
    rw [z2] at h1
    have z4 := h3 0 0 rfl
    rw [z4] at z1
    cases z1
    refine ⟨w', _, h1, h2, ?_⟩
    omega
  rcases List.mem_singleton.mp hq with rfl
  obtain ⟨z, z1, z2, z3⟩ := gS_i h4
  rw [z2] at h1
  have z4 := h3 0 0 rfl
  rw [z4] at z1
  cases z1
  refine ⟨w', _, h1, h2, ?_⟩
  omega
theorem s_whyHoldR {kn : sKn} {w : sW} (hw : wOk ZZ w) (x1 : Int) (hx1 : 0 ≤ x1 ∧ x1 ≤ 9) : ∃ z : Int, fX12_whyHold kn [.ref 213, hI x1] w = some (some (hI z), w, 0, 0) ∧ (z = 1 ∨ z = 2 ∨ z = 0) := by
  obtain ⟨w', z, h1, h2, h3⟩ := s_whyHoldR_ (kn := kn) hw x1 hx1
  have e : w' = w := fr_nil hw h2.1 h2.2
  subst e
  exact ⟨z, h1, h3⟩
theorem s_whyLine {kn : sKn} {w : sW} (hw : wOk ZZ w) (k : Nat) (hk : k ≤ 39) (hg : lnG w k) : ∃ b : Int, fX12_whyLine kn [.ref 213, hI ((4 * k : Nat) : Int)] w = some (some (hI b), w, 0, 0) ∧ (0 ≤ b ∧ b ≤ 9) := by
  unfold lnG at hg
  generalize hwt : gX w 238 (4 * k) = wt at hg
  generalize hwho : gX w 238 (4 * k + 1) = who at hg
  generalize hrow : gX w 238 (4 * k + 2) = rw_ at hg
  generalize hpl : gX w 238 (4 * k + 3) = pl at hg
  have K : Tp (tX12_whyLine kn) (fun r => ∃ b : Int, r = (some (hI b), w, 0, 0) ∧ (0 ≤ b ∧ b ≤ 9)) 0 (lv_args 0 [.ref 213, hI ((4 * k : Nat) : Int)], [], w, 0, 0) := by
    have l0 : hL (lv_args 0 [.ref 213, hI ((4 * k : Nat) : Int)]) (lv_args 0 [.ref 213, hI ((4 * k : Nat) : Int)]) := hL_ex rfl
    have o0 : hO [] w w := hO_rf hw
    refine h_aload rfl l0 rfl ?_
    refine h_getR rfl o0 fr_51 ?_
    refine h_iload rfl l0 rfl ?_
    refine h_intv k_1 rfl ?_
    refine h_iadd rfl ?_
    refine h_ialdj (4 * k + 1) rfl o0 ai_238 rfl (by omega) (by omega) (fun b41a b41b => ?_)
    rw [hwho] at b41a b41b ⊢
    refine h_istore rfl l0 (fun vl42 l42 => ?_)
    refine h_intv k_3 rfl ?_
    refine h_aload rfl l42 rfl ?_
    refine h_getR rfl o0 fr_51 ?_
    refine h_iload rfl l42 rfl ?_
    refine h_intv k_2 rfl ?_
    refine h_iadd rfl ?_
    refine h_ialdj (4 * k + 2) rfl o0 ai_238 rfl (by omega) (by omega) (fun b43a b43b => ?_)
    rw [hrow] at b43a b43b ⊢
    refine h_imul rfl ?_
    refine h_aload rfl l42 rfl ?_
    refine h_getR rfl o0 fr_51 ?_
    refine h_iload rfl l42 rfl ?_
    refine h_intv k_3 rfl ?_
    refine h_iadd rfl ?_
    refine h_ialdj (4 * k + 3) rfl o0 ai_238 rfl (by omega) (by omega) (fun b44a b44b => ?_)
    rw [hpl] at b44a b44b ⊢
    refine h_iadd rfl ?_
    refine h_istore rfl l42 (fun vl45 l45 => ?_)
    refine h_aload rfl l45 rfl ?_
    refine h_getR rfl o0 fr_51 ?_
    refine h_iload rfl l45 rfl ?_
    refine h_ialdj (4 * k) rfl o0 ai_238 rfl (by omega) (by omega) (fun b46a b46b => ?_)
    rw [hwt] at b46a b46b ⊢
    by_cases e47_0 : wt = 0
    · refine h_tab 0 e47_0 (by unfold R32; omega) rfl (by omega) (by omega) rfl ?_
      refine h_aload rfl l45 rfl ?_
      refine h_aload rfl l45 rfl ?_
      refine h_getR rfl o0 fr_51 ?_
      refine h_iload rfl l45 rfl ?_
      refine h_intv k_2 rfl ?_
      refine h_iadd rfl ?_
      refine h_ialdj (4 * k + 2) rfl o0 ai_238 rfl (by omega) (by omega) (fun b48a b48b => ?_)
      rw [hrow] at b48a b48b ⊢
      obtain ⟨z49, hf49, hz49⟩ := s_isRowR (kn := kn) hw rw_ ⟨by omega, by omega⟩
      refine h_V2 rfl o0 l45 ci_213 rfl rfl hf49 ?_
      refine j_ne (kn := kn) (t := 1) (tgt := 92) (np := 87) rfl (by unfold R32; omega) (fun e50 => ?_) (fun e50 => ?_)
      · refine h_aload rfl l45 rfl ?_
        refine h_iload rfl l45 rfl ?_
        refine h_iload rfl l45 rfl ?_
        obtain ⟨z51, hf51, hz51⟩ := s_whySignR (kn := kn) hw who ⟨by omega, by omega⟩ (3 * rw_ + pl) ⟨by omega, by omega⟩
        refine h_V3 rfl o0 l45 ci_213 rfl rfl hf51 ?_
        refine h_iret rfl ?_
        exact ⟨_, rfl, by omega⟩
      · refine h_intv k_9 rfl ?_
        refine h_goto rfl ?_
        refine h_iret rfl ?_
        exact ⟨_, rfl, by omega⟩
    by_cases e47_1 : wt = 1
    · refine h_tab 1 e47_1 (by unfold R32; omega) rfl (by omega) (by omega) rfl ?_
      refine h_aload rfl l45 rfl ?_
      refine h_aload rfl l45 rfl ?_
      refine h_getR rfl o0 fr_51 ?_
      refine h_iload rfl l45 rfl ?_
      refine h_intv k_2 rfl ?_
      refine h_iadd rfl ?_
      refine h_ialdj (4 * k + 2) rfl o0 ai_238 rfl (by omega) (by omega) (fun b52a b52b => ?_)
      rw [hrow] at b52a b52b ⊢
      obtain ⟨z53, hf53, hz53⟩ := s_isRowR (kn := kn) hw rw_ ⟨by omega, by omega⟩
      refine h_V2 rfl o0 l45 ci_213 rfl rfl hf53 ?_
      refine j_ne (kn := kn) (t := 1) (tgt := 119) (np := 114) rfl (by unfold R32; omega) (fun e54 => ?_) (fun e54 => ?_)
      · refine h_aload rfl l45 rfl ?_
        refine h_getR rfl o0 fr_14 ?_
        refine h_intv k_118 rfl ?_
        refine h_iload rfl l45 rfl ?_
        refine h_iadd rfl ?_
        refine h_ialdj (118 + (3 * rw_ + pl).toNat) rfl o0 ai_215 rfl (by omega) (by omega) (fun b55a b55b => ?_)
        refine h_intv k_n1 rfl ?_
        refine i_ne (kn := kn) (t := 1) (tgt := 136) (np := 132) rfl (by unfold R32; omega) (by unfold R32; omega) (fun e56 => ?_) (fun e56 => ?_)
        · refine h_intv k_0 rfl ?_
          refine h_iret rfl ?_
          exact ⟨_, rfl, by omega⟩
        · refine h_intv k_1 rfl ?_
          refine h_goto rfl ?_
          refine h_iret rfl ?_
          exact ⟨_, rfl, by omega⟩
      · refine h_intv k_9 rfl ?_
        refine h_goto rfl ?_
        refine h_iret rfl ?_
        exact ⟨_, rfl, by omega⟩
    by_cases e47_2 : wt = 2
    · refine h_tab 2 e47_2 (by unfold R32; omega) rfl (by omega) (by omega) rfl ?_
      refine h_aload rfl l45 rfl ?_
      refine h_iload rfl l45 rfl ?_
      obtain ⟨z57, hf57, hz57⟩ := s_isDeadA (kn := kn) hw who
      refine h_V2 rfl o0 l45 ci_213 rfl rfl hf57 ?_
      refine j_eq (kn := kn) (t := 0) (tgt := 150) (np := 146) rfl (by unfold R32; omega) (fun e58 => ?_) (fun e58 => ?_)
      · refine h_intv k_0 rfl ?_
        refine h_iret rfl ?_
        exact ⟨_, rfl, by omega⟩
      · refine h_intv k_1 rfl ?_
        refine h_goto rfl ?_
        refine h_iret rfl ?_
        exact ⟨_, rfl, by omega⟩
    by_cases e47_3 : wt = 3
    · refine h_tab 3 e47_3 (by unfold R32; omega) rfl (by omega) (by omega) rfl ?_
      refine h_aload rfl l45 rfl ?_
      refine h_iload rfl l45 rfl ?_
      obtain ⟨z59, hf59, hz59⟩ := s_whyHoldR (kn := kn) hw who ⟨by omega, by omega⟩
      refine h_V2 rfl o0 l45 ci_213 rfl rfl hf59 ?_
      refine h_iret rfl ?_
      exact ⟨_, rfl, by omega⟩
    by_cases e47_4 : wt = 4
    · refine h_tab 4 e47_4 (by unfold R32; omega) rfl (by omega) (by omega) rfl ?_
      refine h_aload rfl l45 rfl ?_
      refine h_iload rfl l45 rfl ?_
      obtain ⟨z60, hf60, hz60⟩ := s_isDeadA (kn := kn) hw who
      refine h_V2 rfl o0 l45 ci_213 rfl rfl hf60 ?_
      refine j_eq (kn := kn) (t := 0) (tgt := 150) (np := 146) rfl (by unfold R32; omega) (fun e61 => ?_) (fun e61 => ?_)
      · refine h_intv k_0 rfl ?_
        refine h_iret rfl ?_
        exact ⟨_, rfl, by omega⟩
      · refine h_intv k_1 rfl ?_
        refine h_goto rfl ?_
        refine h_iret rfl ?_
        exact ⟨_, rfl, by omega⟩
    by_cases e47_5 : wt = 5
    · refine h_tab 5 e47_5 (by unfold R32; omega) rfl (by omega) (by omega) rfl ?_
      refine h_aload rfl l45 rfl ?_
      refine h_getR rfl o0 fr_14 ?_
      refine h_intv k_96 rfl ?_
      refine h_ialdj (96) rfl o0 ai_215 rfl (by omega) (by omega) (fun b62a b62b => ?_)
      refine h_iload rfl l45 rfl ?_
      obtain ⟨z63, hf63, hz63, _⟩ := s_has (kn := kn) hw (gX w 215 (96)) who
      refine h_S2 rfl o0 l45 rfl rfl hf63 ?_
      refine j_eq (kn := kn) (t := 0) (tgt := 176) (np := 172) rfl (by unfold R32; omega) (fun e64 => ?_) (fun e64 => ?_)
      · refine h_intv k_0 rfl ?_
        refine h_iret rfl ?_
        exact ⟨_, rfl, by omega⟩
      · refine h_intv k_1 rfl ?_
        refine h_goto rfl ?_
        refine h_iret rfl ?_
        exact ⟨_, rfl, by omega⟩
    refine h_tabd rfl (by unfold R32; omega) (by omega) ?_
    refine h_aload rfl l45 rfl ?_
    refine h_getR rfl o0 fr_14 ?_
    refine h_intv k_94 rfl ?_
    refine h_ialdj (94) rfl o0 ai_215 rfl (by omega) (by omega) (fun b65a b65b => ?_)
    refine h_aload rfl l45 rfl ?_
    refine h_getR rfl o0 fr_51 ?_
    refine h_iload rfl l45 rfl ?_
    refine h_intv k_2 rfl ?_
    refine h_iadd rfl ?_
    refine h_ialdj (4 * k + 2) rfl o0 ai_238 rfl (by omega) (by omega) (fun b66a b66b => ?_)
    rw [hrow] at b66a b66b ⊢
    refine h_iaddv rfl (fun z70 rz70 => ?_)
    have rz1 := rz70.1
    have rz2 := rz70.2
    refine h_intv k_400 rfl ?_
    refine i_le (kn := kn) (t := 5) (tgt := 204) (np := 200) rfl (by unfold R32; omega) (by unfold R32; omega) (fun e67 => ?_) (fun e67 => ?_)
    · refine h_intv k_0 rfl ?_
      refine h_iret rfl ?_
      exact ⟨_, rfl, by omega⟩
    · refine h_intv k_1 rfl ?_
      refine h_goto rfl ?_
      refine h_iret rfl ?_
      exact ⟨_, rfl, by omega⟩
  obtain ⟨r, h1, b, h2, h3⟩ := h_meth1 (nL := 4) rfl K
  rw [h2] at h1
  exact ⟨b, h1, h3⟩
theorem s_doSignR {kn : sKn} {w : sW} (hw : wOk ZZ w) (x1 : Int) (hx1 : 0 ≤ x1 ∧ x1 ≤ 9) (x2 : Int) (hx2 : 0 ≤ x2 ∧ x2 ≤ 35) : ∃ (w' : sW), fX12_doSign kn [.ref 213, hI x1, hI x2] w = some (none, w', 0, 0) ∧ hO dX12_doSign w w' := by
  obtain ⟨r, w', h1, h2, q, hq, σ', h3, h4, h5, h6⟩ := con_use (con_X12_doSign_0 kn) (σ := [0, x1, x2]) (av := [.ref 213, hI x1, hI x2]) (w := w) rfl rfl ⟨av_c (k := 213) rfl, av_i rfl ⟨by omega, by omega⟩, av_i rfl ⟨by omega, by omega⟩, trivial⟩ (fun q hq => by cases hq) (gE_c ⟨_, rfl, hx2⟩ (gE_c ⟨_, rfl, hx1⟩ (gE_n))) hw rfl
  rcases List.mem_singleton.mp hq with rfl
  rw [gS_v h4] at h1
  exact ⟨w', h1, h2⟩
theorem s_doBurnR {kn : sKn} {w : sW} (hw : wOk ZZ w) (x1 : Int) (hx1 : 0 ≤ x1 ∧ x1 ≤ 35) : ∃ (w' : sW), fX12_doBurn kn [.ref 213, hI x1] w = some (none, w', 0, 0) ∧ hO dX12_doBurn w w' := by
  obtain ⟨r, w', h1, h2, q, hq, σ', h3, h4, h5, h6⟩ := con_use (con_X12_doBurn_0 kn) (σ := [0, x1]) (av := [.ref 213, hI x1]) (w := w) rfl rfl ⟨av_c (k := 213) rfl, av_i rfl ⟨by omega, by omega⟩, trivial⟩ (fun q hq => by cases hq) (gE_c ⟨_, rfl, hx1⟩ (gE_n)) hw rfl
  rcases List.mem_singleton.mp hq with rfl
  rw [gS_v h4] at h1
  exact ⟨w', h1, h2⟩
theorem s_doDieR {kn : sKn} {w : sW} (hw : wOk ZZ w) (x1 : Int) (hx1 : 0 ≤ x1 ∧ x1 ≤ 9) : ∃ (w' : sW), fX12_doDie kn [.ref 213, hI x1] w = some (none, w', 0, 0) ∧ hO dX12_doDie w w' := by
  obtain ⟨r, w', h1, h2, q, hq, σ', h3, h4, h5, h6⟩ := con_use (con_X12_doDie_0 kn) (σ := [0, x1]) (av := [.ref 213, hI x1]) (w := w) rfl rfl ⟨av_c (k := 213) rfl, av_i rfl ⟨by omega, by omega⟩, trivial⟩ (fun q hq => by cases hq) (gE_c ⟨_, rfl, hx1⟩ (gE_n)) hw rfl
  rcases List.mem_singleton.mp hq with rfl
  rw [gS_v h4] at h1
  exact ⟨w', h1, h2⟩
theorem s_passR {kn : sKn} {w : sW} (hw : wOk ZZ w) (x1 : Int) (hx1 : (-2147483648) ≤ x1 ∧ x1 ≤ 2147483647) : ∃ (w' : sW) (z : Int), fX12_passDays kn [.ref 213, hI x1] w = some (some (hI z), w', 0, 0) ∧ hO dX12_passDays w w' ∧ (R32 z) := by
  obtain ⟨r, w', h1, h2, q, hq, σ', h3, h4, h5, h6⟩ := con_use (con_X12_passDays_0 kn) (σ := [0, x1]) (av := [.ref 213, hI x1]) (w := w) rfl rfl ⟨av_c (k := 213) rfl, av_i rfl ⟨by omega, by omega⟩, trivial⟩ (fun q hq => by cases hq) (gE_c ⟨_, rfl, hx1⟩ (gE_n)) hw rfl
  rcases List.mem_singleton.mp hq with rfl
  obtain ⟨z, z1, z2, z3⟩ := gS_i h4
  rw [z2] at h1
  have z5 := gE_at (a := (-2147483648)) (b := 2147483647) h6 (by first | exact List.mem_cons_self | exact List.mem_cons_of_mem _ List.mem_cons_self | exact List.mem_cons_of_mem _ (List.mem_cons_of_mem _ List.mem_cons_self) | exact List.mem_cons_of_mem _ (List.mem_cons_of_mem _ (List.mem_cons_of_mem _ List.mem_cons_self)) | decide) z1
  refine ⟨w', _, h1, h2, ?_⟩
  exact z3
def dH_lR : List (Nat × Nat) := (63, 999) :: (dX12_doSign ++ dX12_doBurn ++ dX12_doDie ++ dX12_passDays ++ dH_cross)
theorem dH_lR0 : msub dX12_doSign dH_lR = true := by decide +kernel
theorem dH_lR1 : msub dX12_doBurn dH_lR = true := by decide +kernel
theorem dH_lR2 : msub dX12_doDie dH_lR = true := by decide +kernel
theorem dH_lR3 : msub dX12_passDays dH_lR = true := by decide +kernel
theorem dH_lR4 : msub dH_cross dH_lR = true := by decide +kernel
theorem ap_earn : aP 215 98 10 (-2147483648) 2147483647 = true := by decide +kernel
theorem h_idiv2 {tbl : List (Nat × sA)} {Po : sR → Prop} {pc np : Nat} {lv : List (Nat × Value)} {st : List Value} {w : sW} {x : Int} (ha : t_get tbl pc = some (a_stk q_idiv np)) (g : ∀ z : Int, R32 z → Tp tbl Po np (lv, hI z :: st, w, 0, 0)) : Tp tbl Po pc (lv, hI 2 :: hI x :: st, w, 0, 0) := by
  refine Tp_step ha (fun k => ?_) (g _ (R32_of (Int32.ofInt x / Int32.ofInt 2)))
  rw [← hI_of (Int32.ofInt x / Int32.ofInt 2)]
  show (match (if Int32.ofInt 2 = 0 then none else some (Value.int (Int32.ofInt x / Int32.ofInt 2) :: st)) with
    | some st' => k np (lv, st', w, 0, 0)
    | none => none) = _
  rw [if_neg (by decide +kernel)]
theorem s_liveR {kn : sKn} {w : sW} (hw : wOk ZZ w) (k : Nat) (hk : k ≤ 39) (hg : lnG w k) : ∃ w', fX12_live kn [.ref 213, hI ((4 * k : Nat) : Int)] w = some (none, w', 0, 0) ∧ hO dH_lR w w' := by
  unfold lnG at hg
  generalize hwt : gX w 238 (4 * k) = wt at hg
  generalize hwho : gX w 238 (4 * k + 1) = who at hg
  generalize hrow : gX w 238 (4 * k + 2) = rw_ at hg
  generalize hpl : gX w 238 (4 * k + 3) = pl at hg
  have K : Tp (tX12_live kn) (fun r => ∃ w', r = (none, w', 0, 0) ∧ hO dH_lR w w') 0 (lv_args 0 [.ref 213, hI ((4 * k : Nat) : Int)], [], w, 0, 0) := by
    have l0 : hL (lv_args 0 [.ref 213, hI ((4 * k : Nat) : Int)]) (lv_args 0 [.ref 213, hI ((4 * k : Nat) : Int)]) := hL_ex rfl
    have o0 : hO dH_lR w w := hO_rf hw
    refine h_aload rfl l0 rfl ?_
    refine h_getR rfl o0 fr_51 ?_
    refine h_iload rfl l0 rfl ?_
    refine h_intv k_1 rfl ?_
    refine h_iadd rfl ?_
    refine h_ialdj (4 * k + 1) rfl o0 ai_238 rfl (by omega) (by omega) (fun b41a b41b => ?_)
    rw [hwho] at b41a b41b ⊢
    refine h_istore rfl l0 (fun vl42 l42 => ?_)
    refine h_intv k_3 rfl ?_
    refine h_aload rfl l42 rfl ?_
    refine h_getR rfl o0 fr_51 ?_
    refine h_iload rfl l42 rfl ?_
    refine h_intv k_2 rfl ?_
    refine h_iadd rfl ?_
    refine h_ialdj (4 * k + 2) rfl o0 ai_238 rfl (by omega) (by omega) (fun b43a b43b => ?_)
    rw [hrow] at b43a b43b ⊢
    refine h_imul rfl ?_
    refine h_aload rfl l42 rfl ?_
    refine h_getR rfl o0 fr_51 ?_
    refine h_iload rfl l42 rfl ?_
    refine h_intv k_3 rfl ?_
    refine h_iadd rfl ?_
    refine h_ialdj (4 * k + 3) rfl o0 ai_238 rfl (by omega) (by omega) (fun b44a b44b => ?_)
    rw [hpl] at b44a b44b ⊢
    refine h_iadd rfl ?_
    refine h_istore rfl l42 (fun vl45 l45 => ?_)
    refine h_aload rfl l45 rfl ?_
    refine h_getR rfl o0 fr_51 ?_
    refine h_iload rfl l45 rfl ?_
    refine h_ialdj (4 * k) rfl o0 ai_238 rfl (by omega) (by omega) (fun b46a b46b => ?_)
    rw [hwt] at b46a b46b ⊢
    by_cases e47_0 : wt = 0
    · refine h_tab 0 e47_0 (by unfold R32; omega) rfl (by omega) (by omega) rfl ?_
      refine h_aload rfl l45 rfl ?_
      refine h_iload rfl l45 rfl ?_
      refine h_iload rfl l45 rfl ?_
      obtain ⟨wA, hf48, oA'⟩ := s_doSignR (kn := kn) o0.1 who ⟨by omega, by omega⟩ (3 * rw_ + pl) ⟨by omega, by omega⟩
      have oA : hO dH_lR w wA := hO_tr o0 (hO_mono dH_lR0 oA')
      refine h_W3 rfl o0 l45 ci_213 rfl rfl hf48 ?_
      refine h_vret rfl ?_
      exact ⟨_, rfl, oA⟩
    by_cases e47_1 : wt = 1
    · refine h_tab 1 e47_1 (by unfold R32; omega) rfl (by omega) (by omega) rfl ?_
      refine h_aload rfl l45 rfl ?_
      refine h_iload rfl l45 rfl ?_
      obtain ⟨wA, hf49, oA'⟩ := s_doBurnR (kn := kn) o0.1 (3 * rw_ + pl) ⟨by omega, by omega⟩
      have oA : hO dH_lR w wA := hO_tr o0 (hO_mono dH_lR1 oA')
      refine h_W2 rfl o0 l45 ci_213 rfl rfl hf49 ?_
      refine h_vret rfl ?_
      exact ⟨_, rfl, oA⟩
    by_cases e47_2 : wt = 2
    · refine h_tab 2 e47_2 (by unfold R32; omega) rfl (by omega) (by omega) rfl ?_
      refine h_aload rfl l45 rfl ?_
      refine h_getR rfl o0 fr_14 ?_
      refine h_intv k_98 rfl ?_
      refine h_iload rfl l45 rfl ?_
      refine h_iadd rfl ?_
      refine h_dup2 rfl rfl rfl ?_
      refine h_ialdj (98 + who.toNat) rfl o0 ai_215 rfl (by omega) (by omega) (fun b50a b50b => ?_)
      refine h_intv k_2 rfl ?_
      refine h_idiv2 rfl (fun z9 r9 => ?_)
      have r91 := r9.1
      have r92 := r9.2
      refine h_iastj (98 + who.toNat) rfl o0 ai_215 rfl rfl ap_earn (by omega) (by omega) (by omega) (by omega) (by omega) (by unfold R32; omega) (fun w9 o9 q9a q9b q9c => ?_)
      refine h_vret rfl ?_
      exact ⟨_, rfl, o9⟩
    by_cases e47_3 : wt = 3
    · refine h_tab 3 e47_3 (by unfold R32; omega) rfl (by omega) (by omega) rfl ?_
      refine h_aload rfl l45 rfl ?_
      refine h_getR rfl o0 fr_14 ?_
      refine h_intv k_98 rfl ?_
      refine h_iload rfl l45 rfl ?_
      refine h_iadd rfl ?_
      refine h_dup2 rfl rfl rfl ?_
      refine h_ialdj (98 + who.toNat) rfl o0 ai_215 rfl (by omega) (by omega) (fun b51a b51b => ?_)
      refine h_intv k_1 rfl ?_
      refine h_iaddv rfl (fun z9 r9 => ?_)
      have r91 := r9.1
      have r92 := r9.2
      refine h_iastj (98 + who.toNat) rfl o0 ai_215 rfl rfl ap_earn (by omega) (by omega) (by omega) (by omega) (by omega) (by unfold R32; omega) (fun w9 o9 q9a q9b q9c => ?_)
      refine h_vret rfl ?_
      exact ⟨_, rfl, o9⟩
    by_cases e47_4 : wt = 4
    · refine h_tab 4 e47_4 (by unfold R32; omega) rfl (by omega) (by omega) rfl ?_
      refine h_aload rfl l45 rfl ?_
      refine h_iload rfl l45 rfl ?_
      obtain ⟨wA, hf52, oA'⟩ := s_doDieR (kn := kn) o0.1 who ⟨by omega, by omega⟩
      have oA : hO dH_lR w wA := hO_tr o0 (hO_mono dH_lR2 oA')
      refine h_W2 rfl o0 l45 ci_213 rfl rfl hf52 ?_
      refine h_vret rfl ?_
      exact ⟨_, rfl, oA⟩
    by_cases e47_5 : wt = 5
    · refine h_tab 5 e47_5 (by unfold R32; omega) rfl (by omega) (by omega) rfl ?_
      refine h_aload rfl l45 rfl ?_
      refine h_iload rfl l45 rfl ?_
      obtain ⟨nl, hnl⟩ : ∃ n : Nat, who = (n : Int) := ⟨who.toNat, by omega⟩
      obtain ⟨wA, zA, hf53, oA', hzA⟩ := s_doCross (kn := kn) o0.1 nl (by omega)
      rw [← hnl] at hf53
      have oA : hO dH_lR w wA := hO_tr o0 (hO_mono dH_lR4 oA')
      refine h_V2 rfl o0 l45 ci_213 rfl rfl hf53 ?_
      refine h_pop rfl rfl ?_
      refine h_vret rfl ?_
      exact ⟨_, rfl, oA⟩
    refine h_tabd rfl (by unfold R32; omega) (by omega) ?_
    refine h_aload rfl l45 rfl ?_
    refine h_aload rfl l45 rfl ?_
    refine h_getR rfl o0 fr_51 ?_
    refine h_iload rfl l45 rfl ?_
    refine h_intv k_2 rfl ?_
    refine h_iadd rfl ?_
    refine h_ialdj (4 * k + 2) rfl o0 ai_238 rfl (by omega) (by omega) (fun b54a b54b => ?_)
    rw [hrow] at b54a b54b ⊢
    obtain ⟨wA, zA, hf55, oA', hzA⟩ := s_passR (kn := kn) o0.1 rw_ ⟨by omega, by omega⟩
    have oA : hO dH_lR w wA := hO_tr o0 (hO_mono dH_lR3 oA')
    refine h_V2 rfl o0 l45 ci_213 rfl rfl hf55 ?_
    refine h_pop rfl rfl ?_
    refine h_vret rfl ?_
    exact ⟨_, rfl, oA⟩
  obtain ⟨r, h1, w2, h2, h3⟩ := h_meth1 (nL := 4) rfl K
  rw [h2] at h1
  exact ⟨w2, h1, h3⟩
theorem s_layAsideR {kn : sKn} {w : sW} (hw : wOk ZZ w)  : ∃ (w' : sW), fX12_layAside kn [.ref 213] w = some (none, w', 0, 0) ∧ hO dX12_layAside w w' := by
  obtain ⟨r, w', h1, h2, q, hq, σ', h3, h4, h5, h6⟩ := con_use (con_X12_layAside_0 kn) (σ := [0]) (av := [.ref 213]) (w := w) rfl rfl ⟨av_c (k := 213) rfl, trivial⟩ (fun q hq => by cases hq) (gE_n) hw rfl
  rcases List.mem_singleton.mp hq with rfl
  rw [gS_v h4] at h1
  exact ⟨w', h1, h2⟩
theorem s_stayR {kn : sKn} {w : sW} (hw : wOk ZZ w) (x1 : Int) (hx1 : 0 ≤ x1 ∧ x1 ≤ 1) : ∃ (w' : sW), fX12_stay kn [.ref 213, hI x1] w = some (none, w', 0, 0) ∧ hO dX12_stay w w' := by
  obtain ⟨r, w', h1, h2, q, hq, σ', h3, h4, h5, h6⟩ := con_use (con_X12_stay_0 kn) (σ := [0, x1]) (av := [.ref 213, hI x1]) (w := w) rfl rfl ⟨av_c (k := 213) rfl, av_i rfl ⟨by omega, by omega⟩, trivial⟩ (fun q hq => by cases hq) (gE_c ⟨_, rfl, hx1⟩ (gE_n)) hw rfl
  rcases List.mem_singleton.mp hq with rfl
  rw [gS_v h4] at h1
  exact ⟨w', h1, h2⟩
def dH_bkR : List (Nat × Nat) := (61, 53) :: (61, 54) :: (87, 999) :: (dH_rd ++ dH_lR ++ dX12_layAside ++ dX12_stay)
theorem dH_bkR0 : msub dH_rd dH_bkR = true := by decide +kernel
theorem dH_bkR1 : msub dH_lR dH_bkR = true := by decide +kernel
theorem dH_bkR2 : msub dX12_layAside dH_bkR = true := by decide +kernel
theorem dH_bkR3 : msub dX12_stay dH_bkR = true := by decide +kernel
def lnI (w : sW) : Prop := ∀ k : Nat, (k : Int) < gF w 213 53 → lnG w k
theorem lnI_fr {D : List (Nat × Nat)} {w w' : sW} (hw : wOk ZZ w) (h : hO D w w') (h1 : mIn D 86 999 = false) (h2 : mIn D 61 53 = false) (p : lnI w) : lnI w' := fun k hk => lnG_eq (ln_fr hw h h1) (p k (by rw [fr_gF (t := 61) (c := 213) h.2 rfl h2 hw (by decide +kernel)] at hk; exact hk))
theorem lnI_s {w0 w w' : sW} {n : Nat} (hn : gF w0 213 53 = (n : Int)) (p : lnI w0) (q : lnQ w0 n 1 w) (h1 : gF w' 213 53 = (n : Int) + 1) (h2 : ∀ j, gX w' 238 j = gX w 238 j) : lnI w' := by
  obtain ⟨_, q2, q3⟩ := q
  intro k hk
  rw [h1] at hk
  refine lnG_eq h2 ?_
  by_cases e : k = n
  · subst e
    exact q3 rfl
  · have := p k (by omega)
    unfold lnG at this ⊢
    rw [q2 _ (by omega), q2 _ (by omega), q2 _ (by omega), q2 _ (by omega)]
    exact this
theorem bk_e {kn : sKn} {w0 w : sW} {lv : List (Nat × Value)} {x wv : Int} {k : Nat} (hk : k ≤ 40) (hx : x = 0 ∨ x = 1) (hwv : 0 ≤ wv ∧ wv ≤ 69) (o0 : hO dH_bkR w0 w) (l0 : hL lv [(0, .ref 213), (1, hI x), (2, hI k), (3, hI wv)]) : Tp (tX12_book kn) (fun r => ∃ (w' : sW) (v : Int), r = (some (hI v), w', 0, 0) ∧ hO dH_bkR w0 w') 127 (lv, [], w, 0, 0) := by
  refine h_aload rfl l0 rfl ?_
  refine h_getR rfl o0 fr_52 ?_
  refine h_intv k_0 rfl ?_
  refine h_iload rfl l0 rfl ?_
  refine h_iastj (0) rfl o0 ai_239 rfl rfl aw_239 (by omega) (by omega) (by omega) (by omega) (by omega) (by unfold R32; omega) (fun w41 o41 q42a q42b q42c => ?_)
  refine h_aload rfl l0 rfl ?_
  refine h_getR rfl o41 fr_52 ?_
  refine h_intv k_1 rfl ?_
  refine h_iload rfl l0 rfl ?_
  refine h_iastj (1) rfl o41 ai_239 rfl rfl aw_239 (by omega) (by omega) (by omega) (by omega) (by omega) (by unfold R32; omega) (fun w43 o43 q44a q44b q44c => ?_)
  refine h_aload rfl l0 rfl ?_
  refine h_getR rfl o43 fr_52 ?_
  refine h_intv k_2 rfl ?_
  refine h_aload rfl l0 rfl ?_
  refine h_getR rfl o43 fr_14 ?_
  refine h_intv k_94 rfl ?_
  refine h_ialdj (94) rfl o43 ai_215 rfl (by omega) (by omega) (fun b45a b45b => ?_)
  refine h_iastj (2) rfl o43 ai_239 rfl rfl aw_239 (by omega) (by omega) (by omega) (by omega) (by omega) (by unfold R32; omega) (fun w46 o46 q47a q47b q47c => ?_)
  refine h_aload rfl l0 rfl ?_
  refine h_getR rfl o46 fr_52 ?_
  refine h_intv k_3 rfl ?_
  refine h_aload rfl l0 rfl ?_
  refine h_getR rfl o46 fr_14 ?_
  refine h_intv k_96 rfl ?_
  refine h_ialdj (96) rfl o46 ai_215 rfl (by omega) (by omega) (fun b48a b48b => ?_)
  refine h_iastj (3) rfl o46 ai_239 rfl rfl aw_239 (by omega) (by omega) (by omega) (by omega) (by omega) (by unfold R32; omega) (fun w49 o49 q50a q50b q50c => ?_)
  refine h_aload rfl l0 rfl ?_
  refine h_intv k_1 rfl ?_
  refine h_putK (by rfl) rfl o49 fi_54 rfl (by omega) (by omega) (fun w51 o51 q52a q52b q52c => ?_)
  refine h_aload rfl l0 rfl ?_
  refine h_iload rfl l0 rfl ?_
  refine h_intv k_1 rfl ?_
  refine i_ne (kn := kn) (t := 1) (tgt := 186) (np := 178) rfl (by unfold R32; omega) (by unfold R32; omega) (fun e53 => ?_) (fun e53 => ?_)
  · refine h_intv k_0 rfl ?_
    obtain ⟨wA, hf54, oA'⟩ := s_stayR (kn := kn) o51.1 0 ⟨by omega, by omega⟩
    have oA : hO dH_bkR w0 wA := hO_tr o51 (hO_mono dH_bkR3 oA')
    refine h_W2 rfl o51 l0 ci_213 rfl rfl hf54 ?_
    refine h_iload rfl l0 rfl ?_
    refine j_ne (kn := kn) (t := 1) (tgt := 198) (np := 194) rfl (by unfold R32; omega) (fun e55 => ?_) (fun e55 => ?_)
    · refine h_iload rfl l0 rfl ?_
      refine h_iret rfl ?_
      exact ⟨_, _, rfl, oA⟩
    · refine h_intv k_n1 rfl ?_
      refine h_goto rfl ?_
      refine h_iret rfl ?_
      exact ⟨_, _, rfl, oA⟩
  · refine h_iload rfl l0 rfl ?_
    refine j_le (kn := kn) (t := 5) (tgt := 186) (np := 182) rfl (by unfold R32; omega) (fun e56 => ?_) (fun e56 => ?_)
    · refine h_intv k_0 rfl ?_
      obtain ⟨wA, hf57, oA'⟩ := s_stayR (kn := kn) o51.1 0 ⟨by omega, by omega⟩
      have oA : hO dH_bkR w0 wA := hO_tr o51 (hO_mono dH_bkR3 oA')
      refine h_W2 rfl o51 l0 ci_213 rfl rfl hf57 ?_
      refine h_iload rfl l0 rfl ?_
      refine j_ne (kn := kn) (t := 1) (tgt := 198) (np := 194) rfl (by unfold R32; omega) (fun e58 => ?_) (fun e58 => ?_)
      · refine h_iload rfl l0 rfl ?_
        refine h_iret rfl ?_
        exact ⟨_, _, rfl, oA⟩
      · refine h_intv k_n1 rfl ?_
        refine h_goto rfl ?_
        refine h_iret rfl ?_
        exact ⟨_, _, rfl, oA⟩
    · refine h_intv k_1 rfl ?_
      refine h_goto rfl ?_
      obtain ⟨wA, hf59, oA'⟩ := s_stayR (kn := kn) o51.1 1 ⟨by omega, by omega⟩
      have oA : hO dH_bkR w0 wA := hO_tr o51 (hO_mono dH_bkR3 oA')
      refine h_W2 rfl o51 l0 ci_213 rfl rfl hf59 ?_
      refine h_iload rfl l0 rfl ?_
      refine j_ne (kn := kn) (t := 1) (tgt := 198) (np := 194) rfl (by unfold R32; omega) (fun e60 => ?_) (fun e60 => ?_)
      · refine h_iload rfl l0 rfl ?_
        refine h_iret rfl ?_
        exact ⟨_, _, rfl, oA⟩
      · refine h_intv k_n1 rfl ?_
        refine h_goto rfl ?_
        refine h_iret rfl ?_
        exact ⟨_, _, rfl, oA⟩
theorem bk_x {kn : sKn} {w0 w : sW} {lv : List (Nat × Value)} {x wv : Int} {k : Nat} (hk : k ≤ 40) (hx : x = 0 ∨ x = 1) (hwv : 0 ≤ wv ∧ wv ≤ 69) (h0 : wv ≠ 0) (o0 : hO dH_bkR w0 w) (l0 : hL lv [(0, .ref 213), (1, hI x), (2, hI k), (3, hI wv)]) : Tp (tX12_book kn) (fun r => ∃ (w' : sW) (v : Int), r = (some (hI v), w', 0, 0) ∧ hO dH_bkR w0 w') 73 (lv, [], w, 0, 0) := by
  refine h_iload rfl l0 rfl ?_
  refine h_aload rfl l0 rfl ?_
  refine h_getI rfl o0 fi_53 (fun b41a b41b => ?_)
  refine i_ge (kn := kn) (t := 3) (tgt := 127) (np := 81) rfl (by unfold R32; omega) (by unfold R32; omega) (fun e42 => ?_) (fun e42 => ?_)
  · exact bk_e (by omega) hx hwv o0 l0
  · refine h_iload rfl l0 rfl ?_
    refine j_ne (kn := kn) (t := 1) (tgt := 127) (np := 85) rfl (by unfold R32; omega) (fun e43 => ?_) (fun e43 => ?_)
    · exact bk_e (by omega) hx hwv o0 l0
    · omega
theorem bk_l {kn : sKn} {w0 : sW} {x : Int} (hx : x = 0 ∨ x = 1) : ∀ (m k : Nat) (w : sW) (lv : List (Nat × Value)) (wv y : Int), k + m = 40 → y = (k : Int) → wv = 0 → lnI w → hO dH_bkR w0 w → hL lv [(0, .ref 213), (1, hI x), (2, hI y), (3, hI wv)] → Tp (tX12_book kn) (fun r => ∃ (w' : sW) (v : Int), r = (some (hI v), w', 0, 0) ∧ hO dH_bkR w0 w') 73 (lv, [], w, 0, 0) := by
  intro m
  induction m with
  | zero =>
    intro k w lv wv y hm hy hwv hI o0 l0
    subst hy
    refine h_iload rfl l0 rfl ?_
    refine h_aload rfl l0 rfl ?_
    refine h_getI rfl o0 fi_53 (fun b41a b41b => ?_)
    refine i_ge (kn := kn) (t := 3) (tgt := 127) (np := 81) rfl (by unfold R32; omega) (by unfold R32; omega) (fun e42 => ?_) (fun e42 => ?_)
    · exact bk_e (by omega) hx (by omega) o0 l0
    · omega
  | succ m ih =>
    intro k w lv wv y hm hy hwv hI o0 l0
    subst hy
    refine h_iload rfl l0 rfl ?_
    refine h_aload rfl l0 rfl ?_
    refine h_getI rfl o0 fi_53 (fun b41a b41b => ?_)
    refine i_ge (kn := kn) (t := 3) (tgt := 127) (np := 81) rfl (by unfold R32; omega) (by unfold R32; omega) (fun e42 => ?_) (fun e42 => ?_)
    · exact bk_e (by omega) hx (by omega) o0 l0
    · refine h_iload rfl l0 rfl ?_
      refine j_ne (kn := kn) (t := 1) (tgt := 127) (np := 85) rfl (by unfold R32; omega) (fun e43 => ?_) (fun e43 => ?_)
      · exact bk_e (by omega) hx (by omega) o0 l0
      · refine h_aload rfl l0 rfl ?_
        refine h_intv k_4 rfl ?_
        refine h_iload rfl l0 rfl ?_
        refine h_imul rfl ?_
        rw [show (4 * (k : Int)) = ((4 * k : Nat) : Int) by omega]
        have gk := hI k (by omega)
        obtain ⟨zW, hf44, hzW⟩ := s_whyLine (kn := kn) o0.1 k (by omega) gk
        refine h_V2 rfl o0 l0 ci_213 rfl rfl hf44 ?_
        refine h_istore rfl l0 (fun vl45 l45 => ?_)
        refine h_iload rfl l45 rfl ?_
        refine j_eq (kn := kn) (t := 0) (tgt := 114) (np := 97) rfl (by unfold R32; omega) (fun e46 => ?_) (fun e46 => ?_)
        · refine h_aload rfl l45 rfl ?_
          refine h_intv k_4 rfl ?_
          refine h_iload rfl l45 rfl ?_
          refine h_imul rfl ?_
          rw [show (4 * (k : Int)) = ((4 * k : Nat) : Int) by omega]
          obtain ⟨wL, hf47, oL'⟩ := s_liveR (kn := kn) o0.1 k (by omega) gk
          have oL : hO dH_bkR w0 wL := hO_tr o0 (hO_mono dH_bkR1 oL')
          have iL := lnI_fr o0.1 oL' (by decide +kernel) (by decide +kernel) hI
          refine h_W2 rfl o0 l45 ci_213 rfl rfl hf47 ?_
          refine h_iincv k_1 rfl l45 rfl (fun vl48 l48 => ?_)
          refine h_goto rfl ?_
          exact ih (k + 1) _ _ zW ((k : Int) + 1) (by omega) (by omega) (by omega) iL oL l48
        · refine h_iload rfl l45 rfl ?_
          refine h_intv k_10 rfl ?_
          refine h_aload rfl l45 rfl ?_
          refine h_getR rfl o0 fr_51 ?_
          refine h_intv k_4 rfl ?_
          refine h_iload rfl l45 rfl ?_
          refine h_imul rfl ?_
          refine h_ialdj (4 * k) rfl o0 ai_238 rfl (by omega) (by omega) (fun b49a b49b => ?_)
          have g2 := gk.1
          obtain ⟨wt, hwt⟩ : ∃ z : Int, gX w 238 (4 * k) = z := ⟨_, rfl⟩
          rw [hwt] at g2 b49a b49b ⊢
          refine h_imul rfl ?_
          refine h_iadd rfl ?_
          refine h_istore rfl l45 (fun vl50 l50 => ?_)
          refine h_goto rfl ?_
          exact bk_x (by omega) hx (by omega) (by omega) o0 l50
theorem bk_65 {kn : sKn} {w0 w : sW} {lv : List (Nat × Value)} {x : Int} (hx : x = 0 ∨ x = 1) (hLI : lnI w) (o0 : hO dH_bkR w0 w) (l0 : hL lv [(0, .ref 213), (1, hI x)]) : Tp (tX12_book kn) (fun r => ∃ (w' : sW) (v : Int), r = (some (hI v), w', 0, 0) ∧ hO dH_bkR w0 w') 65 (lv, [], w, 0, 0) := by
  refine h_aload rfl l0 rfl ?_
  obtain ⟨wA, hf41, oA'⟩ := s_layAsideR (kn := kn) o0.1
  have oA : hO dH_bkR w0 wA := hO_tr o0 (hO_mono dH_bkR2 oA')
  have iA := lnI_fr o0.1 oA' (by decide +kernel) (by decide +kernel) hLI
  refine h_W1 rfl o0 l0 ci_213 rfl rfl hf41 ?_
  refine h_intv k_0 rfl ?_
  refine h_istore rfl l0 (fun vl42 l42 => ?_)
  refine h_intv k_0 rfl ?_
  refine h_istore rfl l42 (fun vl43 l43 => ?_)
  exact bk_l hx 40 0 _ _ 0 0 rfl rfl rfl iA oA l43
theorem bk_r {kn : sKn} {w0 : sW} {x : Int} (hx : x = 0 ∨ x = 1) : ∀ (m n : Nat) (w : sW) (lv : List (Nat × Value)), n + m = 40 → gF w 213 53 = (n : Int) → lnI w → hO dH_bkR w0 w → hL lv [(0, .ref 213), (1, hI x)] → Tp (tX12_book kn) (fun r => ∃ (w' : sW) (v : Int), r = (some (hI v), w', 0, 0) ∧ hO dH_bkR w0 w') 30 (lv, [], w, 0, 0) := by
  intro m
  induction m with
  | zero =>
    intro n w lv hm hn hLI o0 l0
    refine h_aload rfl l0 rfl ?_
    refine h_getI rfl o0 fi_7 (fun b41a b41b => ?_)
    refine j_eq (kn := kn) (t := 0) (tgt := 65) (np := 37) rfl (by unfold R32; omega) (fun e42 => ?_) (fun e42 => ?_)
    · exact bk_65 hx hLI o0 l0
    · refine h_aload rfl l0 rfl ?_
      obtain ⟨wA, zA, hf43, oA', qA, n39⟩ := s_readBL (kn := kn) o0.1 n hn
      have oA : hO dH_bkR w0 wA := hO_tr o0 (hO_mono dH_bkR0 oA')
      have hzA := qA.1
      have eN : gF wA 213 53 = (n : Int) := by rw [fr_gF (t := 61) (c := 213) oA'.2 rfl (by decide +kernel) o0.1 (by decide +kernel)]; exact hn
      refine h_V1 rfl o0 l0 ci_213 rfl rfl hf43 ?_
      refine j_ne (kn := kn) (t := 1) (tgt := 52) (np := 44) rfl (by unfold R32; omega) (fun e44 => ?_) (fun e44 => ?_)
      · have := n39 (by omega)
        omega
      · refine h_intv k_n2 rfl ?_
        refine h_aload rfl l0 rfl ?_
        refine h_getI rfl oA fi_11 (fun b45a b45b => ?_)
        refine h_isub rfl ?_
        refine h_iret rfl ?_
        exact ⟨_, _, rfl, oA⟩
  | succ m ih =>
    intro n w lv hm hn hLI o0 l0
    refine h_aload rfl l0 rfl ?_
    refine h_getI rfl o0 fi_7 (fun b41a b41b => ?_)
    refine j_eq (kn := kn) (t := 0) (tgt := 65) (np := 37) rfl (by unfold R32; omega) (fun e42 => ?_) (fun e42 => ?_)
    · exact bk_65 hx hLI o0 l0
    · refine h_aload rfl l0 rfl ?_
      obtain ⟨wA, zA, hf43, oA', qA, n39⟩ := s_readBL (kn := kn) o0.1 n hn
      have oA : hO dH_bkR w0 wA := hO_tr o0 (hO_mono dH_bkR0 oA')
      have hzA := qA.1
      have eN : gF wA 213 53 = (n : Int) := by rw [fr_gF (t := 61) (c := 213) oA'.2 rfl (by decide +kernel) o0.1 (by decide +kernel)]; exact hn
      refine h_V1 rfl o0 l0 ci_213 rfl rfl hf43 ?_
      refine j_ne (kn := kn) (t := 1) (tgt := 52) (np := 44) rfl (by unfold R32; omega) (fun e44 => ?_) (fun e44 => ?_)
      · refine h_aload rfl l0 rfl ?_
        refine h_dup rfl rfl ?_
        refine h_getI rfl oA fi_53 (fun b45a b45b => ?_)
        rw [eN] at b45a b45b ⊢
        have n39 := n39 (by omega)
        refine h_intv k_1 rfl ?_
        refine h_iadd rfl ?_
        refine h_putI rfl oA fi_53 rfl (by omega) (by omega) (fun w46 o46 q47a q47b q47c => ?_)
        refine h_goto rfl ?_
        have e1 : zA = 1 := by omega
        rw [e1] at qA
        exact ih (n + 1) _ _ (by omega) (by rw [q47a]; omega) (lnI_s hn hLI qA q47a (fun j => q47c 238 j)) o46 l0
      · refine h_intv k_n2 rfl ?_
        refine h_aload rfl l0 rfl ?_
        refine h_getI rfl oA fi_11 (fun b48a b48b => ?_)
        refine h_isub rfl ?_
        refine h_iret rfl ?_
        exact ⟨_, _, rfl, oA⟩
theorem s_beginT4_ {kn : sKn} {w : sW} (hw : wOk ZZ w) (x1 : Int) (hx1 : 400 ≤ x1 ∧ x1 ≤ 400) : ∃ (w' : sW), fX12_begin kn [.ref 213, hI x1] w = some (none, w', 0, 0) ∧ hO dX12_begin w w' ∧ gF w' 213 2 = 0 := by
  obtain ⟨r, w', h1, h2, q, hq, σ', h3, h4, h5, h6⟩ := con_use (con_X12_begin_0 kn) (σ := [0, x1]) (av := [.ref 213, hI x1]) (w := w) rfl rfl ⟨av_c (k := 213) rfl, av_i rfl ⟨by omega, by omega⟩, trivial⟩ (fun q hq => by cases hq) (gE_c ⟨_, rfl, hx1⟩ (gE_n)) hw rfl
  rcases List.mem_singleton.mp hq with rfl
  rw [gS_v h4] at h1
  obtain ⟨m2, n2, p2⟩ := mf_F (c := 213) (kf := 2) (u := 0) (x := 0) (h3 0 0 rfl) (h5 _ (by first | exact List.mem_cons_self | exact List.mem_cons_of_mem _ List.mem_cons_self | exact List.mem_cons_of_mem _ (List.mem_cons_of_mem _ List.mem_cons_self) | exact List.mem_cons_of_mem _ (List.mem_cons_of_mem _ (List.mem_cons_of_mem _ List.mem_cons_self)) | decide))
  have n2' := h3 0 0 rfl
  rw [n2] at n2'
  cases n2'
  exact ⟨w', h1, h2, by omega⟩
theorem s_beginT4 {kn : sKn} {w : sW} (hw : wOk ZZ w) : ∃ w', fX12_begin kn [.ref 213, hI 400] w = some (none, w', 0, 0) ∧ hO dH_begin w w' ∧ gF w' 213 2 = 0 := by
  obtain ⟨w', h1, h2⟩ := s_begin (kn := kn) hw 400 (by omega)
  obtain ⟨w2, k1, _, k2⟩ := s_beginT4_ (kn := kn) hw 400 ⟨by omega, by omega⟩
  rw [h1] at k1
  cases k1
  exact ⟨w', h1, h2, k2⟩
def dH_bkS : List (Nat × Nat) := (61, 0) :: (61, 53) :: dH_begin
theorem dH_bkS1 : msub dH_begin dH_bkS = true := by decide +kernel
def dH_bkT : List (Nat × Nat) := dH_bkS ++ dH_bkR
theorem dH_bkT1 : msub dH_bkS dH_bkT = true := by decide +kernel
theorem dH_bkT2 : msub dH_bkR dH_bkT = true := by decide +kernel
theorem Tp_mono {tbl : List (Nat × sA)} {Po Po' : sR → Prop} {pc : Nat} {ss : sS} (h : ∀ r, Po r → Po' r) (g : Tp tbl Po pc ss) : Tp tbl Po' pc ss := ⟨g.1, fun n r hr => h r (g.2 n r hr)⟩
theorem s_bookR {kn : sKn} {w0 : sW} (hw : wOk ZZ w0) (x : Int) (hx : R32 x) : ∃ (w' : sW) (v : Int), fX12_book kn [.ref 213, hI x] w0 = some (some (hI v), w', 0, 0) ∧ hO dH_bkT w0 w' ∧ ((x ≠ 0 ∧ x ≠ 1 → gF w' 213 2 = gF w0 213 2) ∧ (x = 0 ∨ x = 1 → gF w' 213 2 = 0)) := by
  have K : Tp (tX12_book kn) (fun r => ∃ (w' : sW) (v : Int), r = (some (hI v), w', 0, 0) ∧ hO dH_bkT w0 w' ∧ ((x ≠ 0 ∧ x ≠ 1 → gF w' 213 2 = gF w0 213 2) ∧ (x = 0 ∨ x = 1 → gF w' 213 2 = 0))) 0 (lv_args 0 [.ref 213, hI x], [], w0, 0, 0) := by
    have l0 : hL (lv_args 0 [.ref 213, hI x]) (lv_args 0 [.ref 213, hI x]) := hL_ex rfl
    have o0 : hO dH_bkS w0 w0 := hO_rf hw
    refine h_aload rfl l0 rfl ?_
    refine h_intv k_0 rfl ?_
    refine h_putI rfl o0 fi_0 rfl (by omega) (by omega) (fun w41 o41 q42a q42b q42c => ?_)
    refine h_iload rfl l0 rfl ?_
    refine h_intv k_0 rfl ?_
    refine h_intv k_1 rfl ?_
    obtain ⟨z43, hf43, hz43, hq43⟩ := s_isIn (kn := kn) o41.1 x 0 1 hx ⟨by omega, by omega⟩ ⟨by omega, by omega⟩
    refine h_S3 rfl o41 l0 rfl rfl hf43 ?_
    refine j_ne (kn := kn) (t := 1) (tgt := 18) (np := 14) rfl (by unfold R32; omega) (fun e44 => ?_) (fun e44 => ?_)
    · refine h_aload rfl l0 rfl ?_
      refine h_intv k_400 rfl ?_
      obtain ⟨wA, hf45, oA', tA⟩ := s_beginT4 (kn := kn) o41.1
      have oA : hO dH_bkS w0 wA := hO_tr o41 (hO_mono dH_bkS1 oA')
      refine h_W2 rfl o41 l0 ci_213 rfl rfl hf45 ?_
      refine h_aload rfl l0 rfl ?_
      refine h_intv k_0 rfl ?_
      refine h_putI rfl oA fi_53 rfl (by omega) (by omega) (fun w46 o46 q47a q47b q47c => ?_)
      have h01 := hq43.mp (by omega)
      refine Tp_mono ?_ (bk_r (w0 := w46) (x := x) (by omega) 40 0 _ _ rfl q47a (fun k hk => by rw [q47a] at hk; omega) (hO_rf o46.1) l0)
      intro r h
      obtain ⟨w', v, e1, e2⟩ := h
      exact ⟨w', v, e1, hO_tr (hO_mono dH_bkT1 o46) (hO_mono dH_bkT2 e2), fun z => by omega, fun _ => tp_fr o46.1 e2 (by decide +kernel) (by rw [q47b 213 2 (fun _ => by decide)]; exact tA)⟩
    · refine h_intv k_n1000 rfl ?_
      refine h_iret rfl ?_
      exact ⟨_, _, rfl, hO_mono dH_bkT1 o41, fun _ => q42b 213 2 (fun _ => by decide), fun z => by have := hq43.mpr (by omega); omega⟩
  obtain ⟨r, h1, w2, v, h2, h3⟩ := h_meth1 (nL := 4) rfl K
  rw [h2] at h1
  exact ⟨w2, v, h1, h3⟩
end
