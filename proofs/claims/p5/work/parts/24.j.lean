noncomputable section
theorem tkV_i {n L : Nat} {S : tS} {kd at_ v nx : Int} {nm : Int64} (h : tkV n L S kd at_ v nm nx) : at_ = S.2.1 ∧ nx = (S.2.2.2.2 : Int) ∧ ((S.1 = 0 ∧ kd = 0 ∧ n ≤ L) ∨ (S.1 = 1 ∧ (kd = 1 ∨ (kd = 0 ∧ L < n))) ∨ (S.1 = 2 ∧ kd = 2 ∧ v = S.2.2.1) ∨ (S.1 = 3 ∧ kd = 3 ∧ v = S.2.2.1) ∨ (S.1 = 4 ∧ kd = 4 ∧ v = S.2.2.1) ∨ (S.1 = 5 ∧ kd = 5)) ∧ (S.1 = 5 → nm = Int64.ofInt (c32 7 S.2.2.2.1)) := by
  obtain ⟨h1, h2, h3⟩ := h
  refine ⟨h1, h2, ?_, ?_⟩
  · rcases h3 with h | h | h | h | h | ⟨a, b, _⟩
    · exact Or.inl h
    · exact Or.inr (Or.inl h)
    · exact Or.inr (Or.inr (Or.inl h))
    · exact Or.inr (Or.inr (Or.inr (Or.inl h)))
    · exact Or.inr (Or.inr (Or.inr (Or.inr (Or.inl h))))
    · exact Or.inr (Or.inr (Or.inr (Or.inr (Or.inr ⟨a, b⟩))))
  · intro e
    rcases h3 with ⟨a, _⟩ | ⟨a, _⟩ | ⟨a, _⟩ | ⟨a, _⟩ | ⟨a, _⟩ | ⟨_, _, c⟩
    · omega
    · omega
    · omega
    · omega
    · omega
    · exact c
def dTk : List (Nat × Nat) := [(2, 2), (2, 3), (2, 4), (2, 5), (2, 6), (2, 7), (2, 8), (2, 9), (2, 10), (2, 11), (2, 12)]
theorem dTk_t : msub dH_tok dTk = true := by decide +kernel
def eTT : List (Nat × Nat × Nat) := [(0, 1, 3), (0, 1, 4), (0, 1, 5), (0, 1, 6), (1, 1, 7), (0, 1, 8), (0, 1, 10), (0, 1, 11), (0, 1, 12), (1, 1, 9)]
theorem x_refuseAt {kn : sKn} {w0 : sW} (hw : wOk ZZ w0) (f p : Int) (hf : R32 f) (hp : R32 p) : ∃ w', fX9_refuseAt kn [.ref 1, hI f, hI p] w0 = some (some (hI 0), w', 0, 0) ∧ hO dTk w0 w' ∧ smW [(0, 1, 11), (0, 1, 12)] w0 w' ∧ gF w' 1 11 = f ∧ gF w' 1 12 = p := by
  have hf1 := hf.1
  have hf2 := hf.2
  have hp1 := hp.1
  have hp2 := hp.2
  have K : Tp (tX9_refuseAt kn) (fun r => ∃ w', r = (some (hI 0), w', 0, 0) ∧ hO dTk w0 w' ∧ smW [(0, 1, 11), (0, 1, 12)] w0 w' ∧ gF w' 1 11 = f ∧ gF w' 1 12 = p) 0 (lv_args 0 [.ref 1, hI f, hI p], [], w0, 0, 0) := by
    have l0 : hL (lv_args 0 [.ref 1, hI f, hI p]) (lv_args 0 [.ref 1, hI f, hI p]) := hL_ex rfl
    have o0 : hO dTk w0 w0 := hO_rf hw
    have sm := smW_rf [(0, 1, 11), (0, 1, 12)] w0
    refine h_aload rfl l0 rfl ?_
    refine h_iload rfl l0 rfl ?_
    refine x_putI rfl o0 fi_1_11 rfl (by omega) (by omega) (fun w41 o41 q42a q42F q42X q42J q42Y q42R => ?_)
    refine h_aload rfl l0 rfl ?_
    refine h_iload rfl l0 rfl ?_
    refine x_putI rfl o41 fi_1_12 rfl (by omega) (by omega) (fun w43 o43 q44a q44F q44X q44J q44Y q44R => ?_)
    refine h_intv k_0 rfl ?_
    refine h_zret (by omega) rfl ?_
    exact ⟨_, rfl, o43, smW_tr (smW_tr sm (sm_pI (by decide) q42F q42X q42J q42Y q42R)) (sm_pI (by decide) q44F q44X q44J q44Y q44R), by rw [q44F 1 11 (by decide), q42a], by rw [q44a]⟩
  obtain ⟨r, h1, w2, h2, h3⟩ := h_meth1 (nL := 3) rfl K
  rw [h2] at h1
  exact ⟨w2, h1, h3⟩
theorem x_refuse {kn : sKn} {w0 : sW} (hw : wOk ZZ w0) (f : Int) (hf : R32 f) : ∃ w', fX9_refuse kn [.ref 1, hI f] w0 = some (some (hI 0), w', 0, 0) ∧ hO dTk w0 w' ∧ smW [(0, 1, 11), (0, 1, 12)] w0 w' ∧ gF w' 1 11 = f ∧ gF w' 1 12 = gF w0 1 5 := by
  have hf1 := hf.1
  have hf2 := hf.2
  have K : Tp (tX9_refuse kn) (fun r => ∃ w', r = (some (hI 0), w', 0, 0) ∧ hO dTk w0 w' ∧ smW [(0, 1, 11), (0, 1, 12)] w0 w' ∧ gF w' 1 11 = f ∧ gF w' 1 12 = gF w0 1 5) 0 (lv_args 0 [.ref 1, hI f], [], w0, 0, 0) := by
    have l0 : hL (lv_args 0 [.ref 1, hI f]) (lv_args 0 [.ref 1, hI f]) := hL_ex rfl
    have o0 : hO dTk w0 w0 := hO_rf hw
    have sm := smW_rf [(0, 1, 11), (0, 1, 12)] w0
    refine h_aload rfl l0 rfl ?_
    refine h_iload rfl l0 rfl ?_
    refine h_aload rfl l0 rfl ?_
    refine h_getI rfl o0 fi_1_5 (fun b41a b41b => ?_)
    obtain ⟨wR42, hf42, oR42', sR42, rA42, rB42⟩ := x_refuseAt (kn := kn) o0.1 f (gF w0 1 5) ⟨by omega, by omega⟩ ⟨by omega, by omega⟩
    have oR42 := hO_tr o0 oR42'
    refine h_V3 rfl o0 l0 ci_1 rfl rfl hf42 ?_
    refine h_zret (by omega) rfl ?_
    exact ⟨_, rfl, oR42, smW_tr sm (smW_mono (by decide) sR42), by rw [rA42], by rw [rB42]⟩
  obtain ⟨r, h1, w2, h2, h3⟩ := h_meth1 (nL := 2) rfl K
  rw [h2] at h1
  exact ⟨w2, h1, h3⟩
theorem x_isKey {kn : sKn} {w : sW} (hw : wOk ZZ w) (x : Int) (hx : R32 x) : ∃ b : Int, fX9_isKey kn [.ref 1, hI x] w = some (some (hI b), w, 0, 0) ∧ ((b = 1 ∧ gF w 1 4 = 4 ∧ gF w 1 6 = x) ∨ (b = 0 ∧ (gF w 1 4 ≠ 4 ∨ gF w 1 6 ≠ x))) := by
  have hx1 := hx.1
  have hx2 := hx.2
  have K : Tp (tX9_isKey kn) (fun r => ∃ b : Int, r = (some (hI b), w, 0, 0) ∧ ((b = 1 ∧ gF w 1 4 = 4 ∧ gF w 1 6 = x) ∨ (b = 0 ∧ (gF w 1 4 ≠ 4 ∨ gF w 1 6 ≠ x)))) 0 (lv_args 0 [.ref 1, hI x], [], w, 0, 0) := by
    have l0 : hL (lv_args 0 [.ref 1, hI x]) (lv_args 0 [.ref 1, hI x]) := hL_ex rfl
    have o0 : hO [] w w := hO_rf hw
    refine h_aload rfl l0 rfl ?_
    refine h_getI rfl o0 fi_1_4 (fun b41a b41b => ?_)
    refine h_intv k_4 rfl ?_
    refine i_ne (kn := kn) (t := 1) (tgt := 20) (np := 8) rfl (by unfold R32; omega) (by unfold R32; omega) (fun e42 => ?_) (fun e42 => ?_)
    · refine h_intv k_0 rfl ?_
      refine h_zret (by omega) rfl ?_
      exact ⟨_, rfl, by omega⟩
    · refine h_aload rfl l0 rfl ?_
      refine h_getI rfl o0 fi_1_6 (fun b43a b43b => ?_)
      refine h_iload rfl l0 rfl ?_
      refine i_ne (kn := kn) (t := 1) (tgt := 20) (np := 16) rfl (by unfold R32; omega) (by unfold R32; omega) (fun e44 => ?_) (fun e44 => ?_)
      · refine h_intv k_0 rfl ?_
        refine h_zret (by omega) rfl ?_
        exact ⟨_, rfl, by omega⟩
      · refine h_intv k_1 rfl ?_
        refine h_goto rfl ?_
        refine h_zret (by omega) rfl ?_
        exact ⟨_, rfl, by omega⟩
  obtain ⟨r, h1, b, h2, h3⟩ := h_meth1 (nL := 2) rfl K
  rw [h2] at h1
  exact ⟨b, h1, h3⟩
theorem x_isSignOf {kn : sKn} {w : sW} (hw : wOk ZZ w) (x : Int) (hx : R32 x) : ∃ b : Int, fX9_isSignOf kn [.ref 1, hI x] w = some (some (hI b), w, 0, 0) ∧ ((b = 1 ∧ gF w 1 4 = 2 ∧ gF w 1 6 = x) ∨ (b = 0 ∧ (gF w 1 4 ≠ 2 ∨ gF w 1 6 ≠ x))) := by
  have hx1 := hx.1
  have hx2 := hx.2
  have K : Tp (tX9_isSignOf kn) (fun r => ∃ b : Int, r = (some (hI b), w, 0, 0) ∧ ((b = 1 ∧ gF w 1 4 = 2 ∧ gF w 1 6 = x) ∨ (b = 0 ∧ (gF w 1 4 ≠ 2 ∨ gF w 1 6 ≠ x)))) 0 (lv_args 0 [.ref 1, hI x], [], w, 0, 0) := by
    have l0 : hL (lv_args 0 [.ref 1, hI x]) (lv_args 0 [.ref 1, hI x]) := hL_ex rfl
    have o0 : hO [] w w := hO_rf hw
    refine h_aload rfl l0 rfl ?_
    refine h_getI rfl o0 fi_1_4 (fun b41a b41b => ?_)
    refine h_intv k_2 rfl ?_
    refine i_ne (kn := kn) (t := 1) (tgt := 20) (np := 8) rfl (by unfold R32; omega) (by unfold R32; omega) (fun e42 => ?_) (fun e42 => ?_)
    · refine h_intv k_0 rfl ?_
      refine h_zret (by omega) rfl ?_
      exact ⟨_, rfl, by omega⟩
    · refine h_aload rfl l0 rfl ?_
      refine h_getI rfl o0 fi_1_6 (fun b43a b43b => ?_)
      refine h_iload rfl l0 rfl ?_
      refine i_ne (kn := kn) (t := 1) (tgt := 20) (np := 16) rfl (by unfold R32; omega) (by unfold R32; omega) (fun e44 => ?_) (fun e44 => ?_)
      · refine h_intv k_0 rfl ?_
        refine h_zret (by omega) rfl ?_
        exact ⟨_, rfl, by omega⟩
      · refine h_intv k_1 rfl ?_
        refine h_goto rfl ?_
        refine h_zret (by omega) rfl ?_
        exact ⟨_, rfl, by omega⟩
  obtain ⟨r, h1, b, h2, h3⟩ := h_meth1 (nL := 2) rfl K
  rw [h2] at h1
  exact ⟨b, h1, h3⟩
theorem x_takeSemi {kn : sKn} {w0 : sW} {B : Nat → Int} {n L : Nat} {S : tS} (hw : wOk ZZ w0) (ht : tkC B n L S w0) (hSn : S.2.2.2.2 ≤ n)  : ∃ (w' : sW) (b : Int), fX9_takeSign kn [.ref 1, hI 59] w0 = some (some (hI b), w', 0, 0) ∧ hO dTk w0 w' ∧ smW eTT w0 w' ∧ zOK (zEnd B n L S) b (fun e => gF w' 1 11 = e.1 ∧ gF w' 1 12 = e.2) (fun S' => tkC B n L S' w') := by
  obtain ⟨tx, hv⟩ := id ht
  obtain ⟨hat, hnx, hkI, hkN⟩ := tkV_i hv
  obtain ⟨hB, hn1, hn2, hn940, hL940⟩ := tx
  have tx : txC B n L w0 := ht.1
  have K : Tp (tX9_takeSign kn) (fun r => ∃ (w' : sW) (b : Int), r = (some (hI b), w', 0, 0) ∧ hO dTk w0 w' ∧ smW eTT w0 w' ∧ zOK (zEnd B n L S) b (fun e => gF w' 1 11 = e.1 ∧ gF w' 1 12 = e.2) (fun S' => tkC B n L S' w')) 0 (lv_args 0 [.ref 1, hI 59], [], w0, 0, 0) := by
    have l0 : hL (lv_args 0 [.ref 1, hI 59]) (lv_args 0 [.ref 1, hI 59]) := hL_ex rfl
    have o0 : hO dTk w0 w0 := hO_rf hw
    have sm := smW_rf eTT w0
    refine h_aload rfl l0 rfl ?_
    refine h_iload rfl l0 rfl ?_
    obtain ⟨z41, hf41, hz41⟩ := x_isSignOf (kn := kn) o0.1 59 ⟨by omega, by omega⟩
    refine h_V2 rfl o0 l0 ci_1 rfl rfl hf41 ?_
    refine j_ne (kn := kn) (t := 1) (tgt := 14) (np := 8) rfl (by unfold R32; omega) (fun e42 => ?_) (fun e42 => ?_)
    · refine h_aload rfl l0 rfl ?_
      obtain ⟨wA43, hf43, oA43', sA43, tA43⟩ := x_advance (kn := kn) (txC_sm (sm) (by decide) tx) o0.1 (p := S.2.2.2.2) hSn (by rw [hnx])
      have oA43 := hO_tr o0 (hO_mono dTk_t oA43')
      refine h_W1 rfl o0 l0 ci_1 rfl rfl hf43 ?_
      refine h_intv k_1 rfl ?_
      refine h_zret (by omega) rfl ?_
      refine ⟨_, _, rfl, oA43, smW_tr sm (smW_mono (by decide) sA43), ?_⟩
      rw [show zEnd B n L S = .inr (nxT B n L S) from if_pos (by omega), zOK_r]
      exact ⟨rfl, tA43⟩
    · refine h_aload rfl l0 rfl ?_
      refine h_intv k_1 rfl ?_
      obtain ⟨wR44, hf44, oR44', sR44, rA44, rB44⟩ := x_refuse (kn := kn) o0.1 1 ⟨by omega, by omega⟩
      have oR44 := hO_tr o0 oR44'
      rw [hat] at rB44
      refine h_V2 rfl o0 l0 ci_1 rfl rfl hf44 ?_
      refine h_zret (by omega) rfl ?_
      refine ⟨_, _, rfl, oR44, smW_tr sm (smW_mono (by decide) sR44), ?_⟩
      rw [show zEnd B n L S = .inl (1, S.2.1) from if_neg (by omega), zOK_l]
      exact ⟨rfl, by rw [rA44], by rw [rB44]⟩
  obtain ⟨r, h1, w2, b, h2, h3⟩ := h_meth1 (nL := 2) rfl K
  rw [h2] at h1
  exact ⟨w2, b, h1, h3⟩
theorem x_takeNumber {kn : sKn} {w0 : sW} {B : Nat → Int} {n L : Nat} {S : tS} (hw : wOk ZZ w0) (ht : tkC B n L S w0) (hSn : S.2.2.2.2 ≤ n) (lo hi : Int) (hlo : R32 lo) (hhi : R32 hi) : ∃ (w' : sW) (b : Int), fX9_takeNumber kn [.ref 1, hI lo, hI hi] w0 = some (some (hI b), w', 0, 0) ∧ hO dTk w0 w' ∧ smW eTT w0 w' ∧ zOK (zNum B n L lo hi S) b (fun e => gF w' 1 11 = e.1 ∧ gF w' 1 12 = e.2) (fun q => gF w' 1 8 = q.1 ∧ gF w' 1 10 = S.2.1 ∧ tkC B n L q.2 w') := by
  obtain ⟨tx, hv⟩ := id ht
  obtain ⟨hat, hnx, hkI, hkN⟩ := tkV_i hv
  obtain ⟨hB, hn1, hn2, hn940, hL940⟩ := tx
  have tx : txC B n L w0 := ht.1
  have hlo1 := hlo.1
  have hlo2 := hlo.2
  have hhi1 := hhi.1
  have hhi2 := hhi.2
  have K : Tp (tX9_takeNumber kn) (fun r => ∃ (w' : sW) (b : Int), r = (some (hI b), w', 0, 0) ∧ hO dTk w0 w' ∧ smW eTT w0 w' ∧ zOK (zNum B n L lo hi S) b (fun e => gF w' 1 11 = e.1 ∧ gF w' 1 12 = e.2) (fun q => gF w' 1 8 = q.1 ∧ gF w' 1 10 = S.2.1 ∧ tkC B n L q.2 w')) 0 (lv_args 0 [.ref 1, hI lo, hI hi], [], w0, 0, 0) := by
    have l0 : hL (lv_args 0 [.ref 1, hI lo, hI hi]) (lv_args 0 [.ref 1, hI lo, hI hi]) := hL_ex rfl
    have o0 : hO dTk w0 w0 := hO_rf hw
    have sm := smW_rf eTT w0
    refine h_aload rfl l0 rfl ?_
    refine h_getI rfl o0 fi_1_4 (fun b41a b41b => ?_)
    refine h_intv k_3 rfl ?_
    refine i_eq (kn := kn) (t := 0) (tgt := 14) (np := 8) rfl (by unfold R32; omega) (by unfold R32; omega) (fun e42 => ?_) (fun e42 => ?_)
    · refine h_aload rfl l0 rfl ?_
      refine h_getI rfl o0 fi_1_6 (fun b43a b43b => ?_)
      refine h_iload rfl l0 rfl ?_
      refine i_lt (kn := kn) (t := 2) (tgt := 30) (np := 22) rfl (by unfold R32; omega) (by unfold R32; omega) (fun e44 => ?_) (fun e44 => ?_)
      · refine h_aload rfl l0 rfl ?_
        refine h_intv k_2 rfl ?_
        obtain ⟨wR45, hf45, oR45', sR45, rA45, rB45⟩ := x_refuse (kn := kn) o0.1 2 ⟨by omega, by omega⟩
        have oR45 := hO_tr o0 oR45'
        rw [hat] at rB45
        refine h_V2 rfl o0 l0 ci_1 rfl rfl hf45 ?_
        refine h_zret (by omega) rfl ?_
        refine ⟨_, _, rfl, oR45, smW_tr sm (smW_mono (by decide) sR45), ?_⟩
        rw [show zNum B n L lo hi S = .inl (2, S.2.1) from by
          unfold zNum
          rw [if_neg (by omega), if_pos (by omega)], zOK_l]
        exact ⟨rfl, by rw [rA45], by rw [rB45]⟩
      · refine h_aload rfl l0 rfl ?_
        refine h_getI rfl o0 fi_1_6 (fun b46a b46b => ?_)
        refine h_iload rfl l0 rfl ?_
        refine i_le (kn := kn) (t := 5) (tgt := 36) (np := 30) rfl (by unfold R32; omega) (by unfold R32; omega) (fun e47 => ?_) (fun e47 => ?_)
        · refine h_aload rfl l0 rfl ?_
          refine h_aload rfl l0 rfl ?_
          refine h_getI rfl o0 fi_1_6 (fun b48a b48b => ?_)
          refine x_putI rfl o0 fi_1_8 rfl (by omega) (by omega) (fun w49 o49 q50a q50F q50X q50J q50Y q50R => ?_)
          refine h_aload rfl l0 rfl ?_
          refine h_aload rfl l0 rfl ?_
          refine h_getI rfl o49 fi_1_5 (fun b51a b51b => ?_)
          rw [q50F 1 5 (by decide), hat] at b51a b51b ⊢
          refine x_putI rfl o49 fi_1_10 rfl (by omega) (by omega) (fun w52 o52 q53a q53F q53X q53J q53Y q53R => ?_)
          refine h_aload rfl l0 rfl ?_
          obtain ⟨wA54, hf54, oA54', sA54, tA54⟩ := x_advance (kn := kn) (txC_sm (smW_tr (smW_tr sm (sm_pI (by decide) q50F q50X q50J q50Y q50R)) (sm_pI (by decide) q53F q53X q53J q53Y q53R)) (by decide) tx) o52.1 (p := S.2.2.2.2) hSn (by rw [q53F 1 3 (by decide), q50F 1 3 (by decide), hnx])
          have oA54 := hO_tr o52 (hO_mono dTk_t oA54')
          refine h_W1 rfl o52 l0 ci_1 rfl rfl hf54 ?_
          refine h_intv k_1 rfl ?_
          refine h_zret (by omega) rfl ?_
          refine ⟨_, _, rfl, oA54, smW_tr (smW_tr (smW_tr sm (sm_pI (by decide) q50F q50X q50J q50Y q50R)) (sm_pI (by decide) q53F q53X q53J q53Y q53R)) (smW_mono (by decide) sA54), ?_⟩
          rw [show zNum B n L lo hi S = .inr (S.2.2.1, nxT B n L S) from by
            unfold zNum
            rw [if_neg (by omega), if_neg (by omega)], zOK_r]
          exact ⟨rfl, by rw [sA54.1 1 8 (by decide), q53F 1 8 (by decide), q50a]; show _ = S.2.2.1; omega, by rw [sA54.1 1 10 (by decide), q53a], tA54⟩
        · refine h_aload rfl l0 rfl ?_
          refine h_intv k_2 rfl ?_
          obtain ⟨wR55, hf55, oR55', sR55, rA55, rB55⟩ := x_refuse (kn := kn) o0.1 2 ⟨by omega, by omega⟩
          have oR55 := hO_tr o0 oR55'
          rw [hat] at rB55
          refine h_V2 rfl o0 l0 ci_1 rfl rfl hf55 ?_
          refine h_zret (by omega) rfl ?_
          refine ⟨_, _, rfl, oR55, smW_tr sm (smW_mono (by decide) sR55), ?_⟩
          rw [show zNum B n L lo hi S = .inl (2, S.2.1) from by
            unfold zNum
            rw [if_neg (by omega), if_pos (by omega)], zOK_l]
          exact ⟨rfl, by rw [rA55], by rw [rB55]⟩
    · refine h_aload rfl l0 rfl ?_
      refine h_intv k_1 rfl ?_
      obtain ⟨wR56, hf56, oR56', sR56, rA56, rB56⟩ := x_refuse (kn := kn) o0.1 1 ⟨by omega, by omega⟩
      have oR56 := hO_tr o0 oR56'
      rw [hat] at rB56
      refine h_V2 rfl o0 l0 ci_1 rfl rfl hf56 ?_
      refine h_zret (by omega) rfl ?_
      refine ⟨_, _, rfl, oR56, smW_tr sm (smW_mono (by decide) sR56), ?_⟩
      rw [show zNum B n L lo hi S = .inl (1, S.2.1) from if_pos (by omega), zOK_l]
      exact ⟨rfl, by rw [rA56], by rw [rB56]⟩
  obtain ⟨r, h1, w2, b, h2, h3⟩ := h_meth1 (nL := 3) rfl K
  rw [h2] at h1
  exact ⟨w2, b, h1, h3⟩
def eBg : List (Nat × Nat × Nat) := [(0, 1, 2), (0, 1, 3), (0, 1, 4), (0, 1, 5), (0, 1, 6), (1, 1, 7), (0, 1, 11)]
theorem x_begin900 {kn : sKn} {w0 : sW} {B : Nat → Int} {n : Nat} (hw : wOk ZZ w0) (hB : ∀ i, i < n → gX w0 2 i = B i) (hn1 : gF w0 1 1 = (n : Int)) (hn940 : n ≤ 940) : ∃ w', fX9_begin kn [.ref 1, hI 900] w0 = some (none, w', 0, 0) ∧ hO dTk w0 w' ∧ smW eBg w0 w' ∧ gF w' 1 11 = 0 ∧ tkC B n 900 (lexT B n 900 0) w' := by
  have K : Tp (tX9_begin kn) (fun r => ∃ w', r = (none, w', 0, 0) ∧ hO dTk w0 w' ∧ smW eBg w0 w' ∧ gF w' 1 11 = 0 ∧ tkC B n 900 (lexT B n 900 0) w') 0 (lv_args 0 [.ref 1, hI 900], [], w0, 0, 0) := by
    have l0 : hL (lv_args 0 [.ref 1, hI 900]) (lv_args 0 [.ref 1, hI 900]) := hL_ex rfl
    have o0 : hO dTk w0 w0 := hO_rf hw
    have sm := smW_rf eBg w0
    refine h_aload rfl l0 rfl ?_
    refine h_iload rfl l0 rfl ?_
    refine x_putI rfl o0 fi_1_2 rfl (by omega) (by omega) (fun w41 o41 q42a q42F q42X q42J q42Y q42R => ?_)
    refine h_aload rfl l0 rfl ?_
    refine h_intv k_0 rfl ?_
    refine x_putI rfl o41 fi_1_3 rfl (by omega) (by omega) (fun w43 o43 q44a q44F q44X q44J q44Y q44R => ?_)
    refine h_aload rfl l0 rfl ?_
    refine h_intv k_0 rfl ?_
    refine x_putI rfl o43 fi_1_11 rfl (by omega) (by omega) (fun w45 o45 q46a q46F q46X q46J q46Y q46R => ?_)
    refine h_aload rfl l0 rfl ?_
    have txb : txC B n 900 w45 := ⟨fun i hi => by rw [q46X 2 i, q44X 2 i, q42X 2 i, hB i hi], by rw [q46F 1 1 (by decide), q44F 1 1 (by decide), q42F 1 1 (by decide), hn1], by rw [q46F 1 2 (by decide), q44F 1 2 (by decide), q42a] <;> rfl, by omega, by omega⟩
    obtain ⟨wA47, hf47, oA47', sA47, tA47⟩ := x_advance (kn := kn) txb o45.1 (p := 0) (by omega) (by rw [q46F 1 3 (by decide), q44a] <;> rfl)
    have oA47 := hO_tr o45 (hO_mono dTk_t oA47')
    refine h_W1 rfl o45 l0 ci_1 rfl rfl hf47 ?_
    refine h_vret rfl ?_
    exact ⟨_, rfl, oA47, smW_tr (smW_tr (smW_tr (smW_tr sm (sm_pI (by decide) q42F q42X q42J q42Y q42R)) (sm_pI (by decide) q44F q44X q44J q44Y q44R)) (sm_pI (by decide) q46F q46X q46J q46Y q46R)) (smW_mono (by decide) sA47), by rw [sA47.1 1 11 (by decide), q46a], tA47⟩
  obtain ⟨r, h1, w2, h2, h3⟩ := h_meth1 (nL := 2) rfl K
  rw [h2] at h1
  exact ⟨w2, h1, h3⟩
theorem c32_hi : ∀ (f : Nat) (N : Int), 0 ≤ N → N < 27 ^ f → c32 f N < 32 ^ f := by
  intro f
  induction f with
  | zero =>
    intro N _ _
    rw [Int.pow_zero]
    exact Int.one_pos
  | succ f ih =>
    intro N h1 h2
    rw [Int.pow_succ] at h2 ⊢
    have h3 := ih (N / 27) (by omega) (by omega)
    show 32 * c32 f (N / 27) + N % 27 < 32 ^ f * 32
    omega
theorem c32_e7 {N X : Int} (h1 : 0 ≤ N) (h2 : N < 27 ^ 7) (h3 : 0 ≤ X) (h4 : X < 27 ^ 7) : Int64.ofInt (c32 7 N) = Int64.ofInt (c32 7 X) ↔ N = X := by
  have a1 := c32_lo 7 N h1
  have a2 := c32_hi 7 N h1 h2
  have b1 := c32_lo 7 X h3
  have b2 := c32_hi 7 X h3 h4
  have e : (32 : Int) ^ 7 = 34359738368 := by decide +kernel
  rw [e] at a2 b2
  rw [hJ_inj ⟨by omega, by omega⟩ ⟨by omega, by omega⟩]
  exact ⟨fun h => c32_inj 7 N X h1 h3 h2 h4 h, fun h => by rw [h]⟩
theorem fi_4_0 : fI 4 7 0 = some (5, 1, 12) := by decide +kernel
theorem fi_4_1 : fI 4 7 1 = some (5, (-2147483648), 2147483647) := by decide +kernel
theorem fi_4_2 : fI 4 7 2 = some (5, 0, 10) := by decide +kernel
theorem fi_4_3 : fI 4 7 3 = some (5, 0, 6) := by decide +kernel
theorem fi_4_4 : fI 4 7 4 = some (5, (-2147483648), 2147483647) := by decide +kernel
theorem fi_4_5 : fI 4 7 5 = some (5, (-2147483648), 2147483647) := by decide +kernel
theorem frt_5_6 : fRt 5 7 6 = some 6 := by decide +kernel
theorem frt_5_7 : fRt 5 7 7 = some 7 := by decide +kernel
theorem frt_5_11 : fRt 5 7 11 = some 11 := by decide +kernel
theorem frt_5_12 : fRt 5 7 12 = some 12 := by decide +kernel
theorem ci_4 : cIs 4 = some 7 := by decide +kernel
theorem aj_5 : aJ 5 = some (6, 10) := by decide +kernel
theorem ai_6 : aI 6 = some (7, 10) := by decide +kernel
theorem aw_6 : aP 6 0 10 (-2147483648) 2147483647 = true := by decide +kernel
theorem ar_6 : aR 6 0 10 (-2147483648) 2147483647 = true := by decide +kernel
theorem ai_7 : aI 7 = some (8, 10) := by decide +kernel
theorem aw_7 : aP 7 0 10 (-2147483648) 2147483647 = true := by decide +kernel
theorem ar_7 : aR 7 0 10 (-2147483648) 2147483647 = true := by decide +kernel
theorem ai_8 : aI 8 = some (9, 10) := by decide +kernel
theorem aw_8 : aP 8 0 10 (-1) 9 = true := by decide +kernel
theorem ar_8 : aR 8 0 10 (-1) 9 = true := by decide +kernel
theorem ai_9 : aI 9 = some (10, 10) := by decide +kernel
theorem aw_9 : aP 9 0 10 (-2147483648) 2147483647 = true := by decide +kernel
theorem ar_9 : aR 9 0 10 (-2147483648) 2147483647 = true := by decide +kernel
theorem ai_10 : aI 10 = some (11, 36) := by decide +kernel
theorem aw_10 : aP 10 0 36 (-1) 9 = true := by decide +kernel
theorem ar_10 : aR 10 0 36 (-1) 9 = true := by decide +kernel
theorem aj_11 : aJ 11 = some (12, 6) := by decide +kernel
theorem ai_12 : aI 12 = some (13, 6) := by decide +kernel
theorem aw_12 : aP 12 0 6 (-2147483648) 2147483647 = true := by decide +kernel
theorem ar_12 : aR 12 0 6 (-2147483648) 2147483647 = true := by decide +kernel
theorem ai_13 : aI 13 = some (14, 6) := by decide +kernel
theorem aw_13 : aP 13 0 6 0 3 = true := by decide +kernel
theorem ar_13 : aR 13 0 6 0 3 = true := by decide +kernel
theorem fi_3_1 : fI 3 3 1 = some (4, (-2147483648), 2147483647) := by decide +kernel
theorem fi_3_2 : fI 3 3 2 = some (4, 0, 1) := by decide +kernel
theorem fi_3_3 : fI 3 3 3 = some (4, 0, 1) := by decide +kernel
theorem fi_3_4 : fI 3 3 4 = some (4, 0, 1) := by decide +kernel
theorem fr_3_0 : fR 3 3 0 = some 4 := by decide +kernel
theorem ci_3 : cIs 3 = some 3 := by decide +kernel
theorem x_signerNamed_l {kn : sKn} {w : sW} {N : Nat → Int} {X : Int} {m : Nat} (hw : wOk ZZ w) (hP : gR w 4 6 = 5) (hm : gF w 4 2 = (m : Int)) (hN : ∀ s, s < m → gY w 5 s = Int64.ofInt (c32 7 (N (0 + s))) ∧ 0 ≤ N (0 + s) ∧ N (0 + s) < 27 ^ 7) (hX : 0 ≤ X ∧ X < 27 ^ 7) : ∀ (d k : Nat) (lv : List (Nat × Value)), k + d = m → l_get lv 0 = some (.ref 4) → l_get lv 1 = some (hJ (c32 7 X)) → l_get lv 3 = some (hI (k : Int)) → Tp (tX6_signerNamed kn) (fun r => r = (some (hI (fnd N 0 X d k)), w, 0, 0)) 2 (lv, [], w, 0, 0) := by
  have o0 : hO [] w w := hO_rf hw
  have hm2 : m ≤ 10 := by
    obtain ⟨_, _, _, _, _, _, _, g1, g2⟩ := fI_ok o0 fi_4_2
    omega
  intro d
  induction d with
  | zero =>
    intro k lv hkd q0 q1 q3
    refine r_iload rfl q3 ?_
    refine r_aload rfl q0 ?_
    refine h_getI rfl o0 fi_4_2 (fun b1 b2 => ?_)
    rw [hm] at b1 b2 ⊢
    refine i_ge (kn := kn) (t := 3) (tgt := 29) (np := 10) rfl (by unfold R32; omega) (by unfold R32; omega) (fun e1 => ?_) (fun e1 => ?_)
    · refine r_intv k_n1 rfl ?_
      exact r_iret rfl rfl
    · omega
  | succ d ih =>
    intro k lv hkd q0 q1 q3
    obtain ⟨n1, n2, n3⟩ := hN k (by omega)
    refine r_iload rfl q3 ?_
    refine r_aload rfl q0 ?_
    refine h_getI rfl o0 fi_4_2 (fun b1 b2 => ?_)
    rw [hm] at b1 b2 ⊢
    refine i_ge (kn := kn) (t := 3) (tgt := 29) (np := 10) rfl (by unfold R32; omega) (by unfold R32; omega) (fun e1 => ?_) (fun e1 => ?_)
    · omega
    · refine r_aload rfl q0 ?_
      refine h_getT rfl o0 (show ztau 4 = some 5 from rfl) frt_5_6 (fun kk hk rk => ?_)
      have hkk : kk = 5 := by omega
      subst hkk
      refine r_iload rfl q3 ?_
      refine x_lald k rfl o0 aj_5 rfl rfl (by omega) ?_
      rw [n1]
      refine r_lload rfl q1 ?_
      refine x_lcmp rfl (fun cc c1 c2 ce => ?_)
      have ce2 : cc = 0 ↔ N (0 + k) = X := by
        rw [ce, c32_e7 n2 n3 hX.1 hX.2]
      refine j_ne (kn := kn) (t := 1) (tgt := 23) (np := 21) rfl (by unfold R32; omega) (fun e2 => ?_) (fun e2 => ?_)
      · refine r_iincv k_1 rfl q3 ?_
        refine r_goto rfl ?_
        rw [fnd_n (fun h => e2 (ce2.mpr h))]
        exact ih (k + 1) _ (by omega) (lp_get (by decide) q0 (Or.inl rfl)) (lp_get (by decide) q1 (Or.inr (by decide))) l_get_head
      · refine r_iload rfl q3 ?_
        rw [fnd_y (ce2.mp (by omega))]
        exact r_iret rfl rfl
theorem x_signerNamed {kn : sKn} {w : sW} {N : Nat → Int} {X : Int} {m : Nat} (hw : wOk ZZ w) (hP : gR w 4 6 = 5) (hm : gF w 4 2 = (m : Int)) (hN : ∀ s, s < m → gY w 5 s = Int64.ofInt (c32 7 (N (0 + s))) ∧ 0 ≤ N (0 + s) ∧ N (0 + s) < 27 ^ 7) (hX : 0 ≤ X ∧ X < 27 ^ 7) : fX6_signerNamed kn [.ref 4, hJ (c32 7 X)] w = some (some (hI (fnd N 0 X m 0)), w, 0, 0) := by
  have K : Tp (tX6_signerNamed kn) (fun r => r = (some (hI (fnd N 0 X m 0)), w, 0, 0)) 0 (lv_args 0 [.ref 4, hJ (c32 7 X)], [], w, 0, 0) := by
    refine r_intv k_0 rfl ?_
    refine r_istore rfl ?_
    exact x_signerNamed_l hw hP hm hN hX m 0 _ (by omega) (lp_get (by decide) rfl (Or.inl rfl)) (lp_get (by decide) rfl (Or.inr (by decide))) l_get_head
  obtain ⟨r, h1, h2⟩ := h_meth1 (nL := 4) rfl K
  rw [h2] at h1
  exact h1
theorem x_loadNamed_l {kn : sKn} {w : sW} {N : Nat → Int} {X : Int} {m : Nat} (hw : wOk ZZ w) (hP : gR w 4 12 = 11) (hm : gF w 4 3 = (m : Int)) (hN : ∀ s, s < m → gY w 11 s = Int64.ofInt (c32 7 (N (10 + s))) ∧ 0 ≤ N (10 + s) ∧ N (10 + s) < 27 ^ 7) (hX : 0 ≤ X ∧ X < 27 ^ 7) : ∀ (d k : Nat) (lv : List (Nat × Value)), k + d = m → l_get lv 0 = some (.ref 4) → l_get lv 1 = some (hJ (c32 7 X)) → l_get lv 3 = some (hI (k : Int)) → Tp (tX6_loadNamed kn) (fun r => r = (some (hI (fnd N 10 X d k)), w, 0, 0)) 2 (lv, [], w, 0, 0) := by
  have o0 : hO [] w w := hO_rf hw
  have hm2 : m ≤ 6 := by
    obtain ⟨_, _, _, _, _, _, _, g1, g2⟩ := fI_ok o0 fi_4_3
    omega
  intro d
  induction d with
  | zero =>
    intro k lv hkd q0 q1 q3
    refine r_iload rfl q3 ?_
    refine r_aload rfl q0 ?_
    refine h_getI rfl o0 fi_4_3 (fun b1 b2 => ?_)
    rw [hm] at b1 b2 ⊢
    refine i_ge (kn := kn) (t := 3) (tgt := 29) (np := 10) rfl (by unfold R32; omega) (by unfold R32; omega) (fun e1 => ?_) (fun e1 => ?_)
    · refine r_intv k_n1 rfl ?_
      exact r_iret rfl rfl
    · omega
  | succ d ih =>
    intro k lv hkd q0 q1 q3
    obtain ⟨n1, n2, n3⟩ := hN k (by omega)
    refine r_iload rfl q3 ?_
    refine r_aload rfl q0 ?_
    refine h_getI rfl o0 fi_4_3 (fun b1 b2 => ?_)
    rw [hm] at b1 b2 ⊢
    refine i_ge (kn := kn) (t := 3) (tgt := 29) (np := 10) rfl (by unfold R32; omega) (by unfold R32; omega) (fun e1 => ?_) (fun e1 => ?_)
    · omega
    · refine r_aload rfl q0 ?_
      refine h_getT rfl o0 (show ztau 4 = some 5 from rfl) frt_5_12 (fun kk hk rk => ?_)
      have hkk : kk = 11 := by omega
      subst hkk
      refine r_iload rfl q3 ?_
      refine x_lald k rfl o0 aj_11 rfl rfl (by omega) ?_
      rw [n1]
      refine r_lload rfl q1 ?_
      refine x_lcmp rfl (fun cc c1 c2 ce => ?_)
      have ce2 : cc = 0 ↔ N (10 + k) = X := by
        rw [ce, c32_e7 n2 n3 hX.1 hX.2]
      refine j_ne (kn := kn) (t := 1) (tgt := 23) (np := 21) rfl (by unfold R32; omega) (fun e2 => ?_) (fun e2 => ?_)
      · refine r_iincv k_1 rfl q3 ?_
        refine r_goto rfl ?_
        rw [fnd_n (fun h => e2 (ce2.mpr h))]
        exact ih (k + 1) _ (by omega) (lp_get (by decide) q0 (Or.inl rfl)) (lp_get (by decide) q1 (Or.inr (by decide))) l_get_head
      · refine r_iload rfl q3 ?_
        rw [fnd_y (ce2.mp (by omega))]
        exact r_iret rfl rfl
theorem x_loadNamed {kn : sKn} {w : sW} {N : Nat → Int} {X : Int} {m : Nat} (hw : wOk ZZ w) (hP : gR w 4 12 = 11) (hm : gF w 4 3 = (m : Int)) (hN : ∀ s, s < m → gY w 11 s = Int64.ofInt (c32 7 (N (10 + s))) ∧ 0 ≤ N (10 + s) ∧ N (10 + s) < 27 ^ 7) (hX : 0 ≤ X ∧ X < 27 ^ 7) : fX6_loadNamed kn [.ref 4, hJ (c32 7 X)] w = some (some (hI (fnd N 10 X m 0)), w, 0, 0) := by
  have K : Tp (tX6_loadNamed kn) (fun r => r = (some (hI (fnd N 10 X m 0)), w, 0, 0)) 0 (lv_args 0 [.ref 4, hJ (c32 7 X)], [], w, 0, 0) := by
    refine r_intv k_0 rfl ?_
    refine r_istore rfl ?_
    exact x_loadNamed_l hw hP hm hN hX m 0 _ (by omega) (lp_get (by decide) rfl (Or.inl rfl)) (lp_get (by decide) rfl (Or.inr (by decide))) l_get_head
  obtain ⟨r, h1, h2⟩ := h_meth1 (nL := 4) rfl K
  rw [h2] at h1
  exact h1
/-- the plan in cell 4 by its references -/
def pl4 (w : sW) : Prop := gR w 4 6 = 5 ∧ gR w 4 7 = 6 ∧ gR w 4 8 = 7 ∧ gR w 4 9 = 8 ∧ gR w 4 10 = 9 ∧ gR w 4 11 = 10 ∧ gR w 4 12 = 11 ∧ gR w 4 13 = 12 ∧ gR w 4 14 = 13
theorem pl4_sm {E : List (Nat × Nat × Nat)} {w w' : sW} (h : smW E w w') (p : pl4 w) : pl4 w' := by
  obtain ⟨_, _, _, _, r⟩ := h
  unfold pl4 at *
  rw [r 4 6, r 4 7, r 4 8, r 4 9, r 4 10, r 4 11, r 4 12, r 4 13, r 4 14]
  exact p
/-- names: as many as there are signers, loads; each of seven letters at most -/
def nm4 (R N : Nat → Int) (w : sW) : Prop := (gF w 4 2 = R 1 ∧ gF w 4 3 = R 2) ∧ (∀ s : Nat, (s : Int) < R 1 → gY w 5 s = Int64.ofInt (c32 7 (N s)) ∧ 0 ≤ N s ∧ N s < 27 ^ 7) ∧ (∀ l : Nat, (l : Int) < R 2 → gY w 11 l = Int64.ofInt (c32 7 (N (10 + l))) ∧ 0 ≤ N (10 + l) ∧ N (10 + l) < 27 ^ 7)
theorem nm4_sm {E : List (Nat × Nat × Nat)} {R N : Nat → Int} {w w' : sW} (h : smW E w w') (h1 : (((0, 4, 2) ∉ E ∧ (0, 4, 3) ∉ E) ∧ (3, 5, 0) ∉ E) ∧ (3, 11, 0) ∉ E) (p : nm4 R N w) : nm4 R N w' := by
  obtain ⟨⟨p1, p2⟩, p3, p4⟩ := p
  obtain ⟨f, _, _, y, _⟩ := h
  refine ⟨⟨(f 4 2 h1.1.1.1).trans p1, (f 4 3 h1.1.1.2).trans p2⟩, fun s hs => ?_, fun l hl => ?_⟩
  · rw [y 5 s h1.1.2]
    exact p3 s hs
  · rw [y 11 l h1.2]
    exact p4 l hl
theorem nm4_s {kn : sKn} {R N : Nat → Int} {w : sW} {X : Int} (hw : wOk ZZ w) (hP : pl4 w) (p : nm4 R N w) (hX : 0 ≤ X ∧ X < 27 ^ 7) : fX6_signerNamed kn [.ref 4, hJ (c32 7 X)] w = some (some (hI (fnd N 0 X (R 1).toNat 0)), w, 0, 0) ∧ 0 ≤ R 1 ∧ R 1 ≤ 10 := by
  obtain ⟨_, _, _, _, _, _, _, g1, g2⟩ := fI_ok (hO_rf (D := []) hw) fi_4_2
  rw [p.1.1] at g1 g2
  refine ⟨x_signerNamed hw hP.1 (m := (R 1).toNat) (by rw [p.1.1]; omega) (fun s hs => ?_) hX, g1, g2⟩
  rw [Nat.zero_add]
  exact p.2.1 s (by omega)
theorem nm4_l {kn : sKn} {R N : Nat → Int} {w : sW} {X : Int} (hw : wOk ZZ w) (hP : pl4 w) (p : nm4 R N w) (hX : 0 ≤ X ∧ X < 27 ^ 7) : fX6_loadNamed kn [.ref 4, hJ (c32 7 X)] w = some (some (hI (fnd N 10 X (R 2).toNat 0)), w, 0, 0) ∧ 0 ≤ R 2 ∧ R 2 ≤ 6 := by
  obtain ⟨_, _, _, _, _, _, _, g1, g2⟩ := fI_ok (hO_rf (D := []) hw) fi_4_3
  rw [p.1.2] at g1 g2
  exact ⟨x_loadNamed hw hP.2.2.2.2.2.2.1 (m := (R 2).toNat) (by rw [p.1.2]; omega) (fun l hl => p.2.2 l (by omega)) hX, g1, g2⟩
theorem x_takeSigner {kn : sKn} {w0 : sW} {B : Nat → Int} {n L : Nat} {S : tS} {R N : Nat → Int} (hw : wOk ZZ w0) (ht : tkC B n L S w0) (hSn : S.2.2.2.2 ≤ n) (hP : pl4 w0) (hN : nm4 R N w0) (hX : S.1 = 5 → 0 ≤ S.2.2.2.1 ∧ S.2.2.2.1 < 27 ^ 7) : ∃ (w' : sW) (b : Int), fX9_takeSigner kn [.ref 1, .ref 4] w0 = some (some (hI b), w', 0, 0) ∧ hO dTk w0 w' ∧ smW eTT w0 w' ∧ zOK (zSig B n L R N S) b (fun e => gF w' 1 11 = e.1 ∧ gF w' 1 12 = e.2) (fun q => gF w' 1 8 = q.1 ∧ gF w' 1 10 = S.2.1 ∧ tkC B n L q.2 w' ∧ 0 ≤ q.1 ∧ q.1 < R 1) := by
  obtain ⟨tx, hv⟩ := id ht
  obtain ⟨hat, hnx, hkI, hkN⟩ := tkV_i hv
  obtain ⟨hB, hn1, hn2, hn940, hL940⟩ := tx
  have tx : txC B n L w0 := ht.1
  have K : Tp (tX9_takeSigner kn) (fun r => ∃ (w' : sW) (b : Int), r = (some (hI b), w', 0, 0) ∧ hO dTk w0 w' ∧ smW eTT w0 w' ∧ zOK (zSig B n L R N S) b (fun e => gF w' 1 11 = e.1 ∧ gF w' 1 12 = e.2) (fun q => gF w' 1 8 = q.1 ∧ gF w' 1 10 = S.2.1 ∧ tkC B n L q.2 w' ∧ 0 ≤ q.1 ∧ q.1 < R 1)) 0 (lv_args 0 [.ref 1, .ref 4], [], w0, 0, 0) := by
    have l0 : hL (lv_args 0 [.ref 1, .ref 4]) (lv_args 0 [.ref 1, .ref 4]) := hL_ex rfl
    have o0 : hO dTk w0 w0 := hO_rf hw
    have sm := smW_rf eTT w0
    refine h_aload rfl l0 rfl ?_
    refine h_getI rfl o0 fi_1_4 (fun b41a b41b => ?_)
    refine h_intv k_5 rfl ?_
    refine i_eq (kn := kn) (t := 0) (tgt := 14) (np := 8) rfl (by unfold R32; omega) (by unfold R32; omega) (fun e42 => ?_) (fun e42 => ?_)
    · have h5 : S.1 = 5 := by omega
      have hX5 := hX h5
      have hnm := hkN h5
      refine h_aload rfl l0 rfl ?_
      refine h_aload rfl l0 rfl ?_
      refine h_getJv rfl o0 fj_1_7 ?_
      rw [hnm]
      obtain ⟨hf43, r43a, r43b⟩ := nm4_s (kn := kn) o0.1 (pl4_sm (sm) hP) (nm4_sm (sm) (by decide) hN) hX5
      have z43 := fnd_b N 0 S.2.2.2.1 (R 1).toNat 0
      refine h_V2 rfl o0 l0 ci_4 rfl rfl hf43 ?_
      refine h_istore rfl l0 (fun vl44 l44 => ?_)
      refine h_iload rfl l44 rfl ?_
      refine h_intv k_n1 rfl ?_
      refine i_ne (kn := kn) (t := 1) (tgt := 34) (np := 28) rfl (by unfold R32; omega) (by unfold R32; omega) (fun e45 => ?_) (fun e45 => ?_)
      · refine h_aload rfl l44 rfl ?_
        refine h_iload rfl l44 rfl ?_
        refine x_putI rfl o0 fi_1_8 rfl (by omega) (by omega) (fun w46 o46 q47a q47F q47X q47J q47Y q47R => ?_)
        refine h_aload rfl l44 rfl ?_
        refine h_aload rfl l44 rfl ?_
        refine h_getI rfl o46 fi_1_5 (fun b48a b48b => ?_)
        rw [q47F 1 5 (by decide), hat] at b48a b48b ⊢
        refine x_putI rfl o46 fi_1_10 rfl (by omega) (by omega) (fun w49 o49 q50a q50F q50X q50J q50Y q50R => ?_)
        refine h_aload rfl l44 rfl ?_
        obtain ⟨wA51, hf51, oA51', sA51, tA51⟩ := x_advance (kn := kn) (txC_sm (smW_tr (smW_tr sm (sm_pI (by decide) q47F q47X q47J q47Y q47R)) (sm_pI (by decide) q50F q50X q50J q50Y q50R)) (by decide) tx) o49.1 (p := S.2.2.2.2) hSn (by rw [q50F 1 3 (by decide), q47F 1 3 (by decide), hnx])
        have oA51 := hO_tr o49 (hO_mono dTk_t oA51')
        refine h_W1 rfl o49 l44 ci_1 rfl rfl hf51 ?_
        refine h_intv k_1 rfl ?_
        refine h_zret (by omega) rfl ?_
        refine ⟨_, _, rfl, oA51, smW_tr (smW_tr (smW_tr sm (sm_pI (by decide) q47F q47X q47J q47Y q47R)) (sm_pI (by decide) q50F q50X q50J q50Y q50R)) (smW_mono (by decide) sA51), ?_⟩
        rw [show zSig B n L R N S = .inr (fnd N 0 S.2.2.2.1 (R 1).toNat 0, nxT B n L S) from by
          unfold zSig
          rw [if_neg (by omega), if_neg (by omega)], zOK_r]
        exact ⟨rfl, by rw [sA51.1 1 8 (by decide), q50F 1 8 (by decide), q47a], by rw [sA51.1 1 10 (by decide), q50a], tA51, by show 0 ≤ fnd N 0 S.2.2.2.1 (R 1).toNat 0 ∧ (fnd N 0 S.2.2.2.1 (R 1).toNat 0) < R 1; omega⟩
      · refine h_aload rfl l44 rfl ?_
        refine h_intv k_3 rfl ?_
        obtain ⟨wR52, hf52, oR52', sR52, rA52, rB52⟩ := x_refuse (kn := kn) o0.1 3 ⟨by omega, by omega⟩
        have oR52 := hO_tr o0 oR52'
        rw [hat] at rB52
        refine h_V2 rfl o0 l44 ci_1 rfl rfl hf52 ?_
        refine h_zret (by omega) rfl ?_
        refine ⟨_, _, rfl, oR52, smW_tr sm (smW_mono (by decide) sR52), ?_⟩
        rw [show zSig B n L R N S = .inl (3, S.2.1) from by
          unfold zSig
          rw [if_neg (by omega), if_pos (by omega)], zOK_l]
        exact ⟨rfl, by rw [rA52], by rw [rB52]⟩
    · refine h_aload rfl l0 rfl ?_
      refine h_intv k_1 rfl ?_
      obtain ⟨wR53, hf53, oR53', sR53, rA53, rB53⟩ := x_refuse (kn := kn) o0.1 1 ⟨by omega, by omega⟩
      have oR53 := hO_tr o0 oR53'
      rw [hat] at rB53
      refine h_V2 rfl o0 l0 ci_1 rfl rfl hf53 ?_
      refine h_zret (by omega) rfl ?_
      refine ⟨_, _, rfl, oR53, smW_tr sm (smW_mono (by decide) sR53), ?_⟩
      rw [show zSig B n L R N S = .inl (1, S.2.1) from if_pos (by omega), zOK_l]
      exact ⟨rfl, by rw [rA53], by rw [rB53]⟩
  obtain ⟨r, h1, w2, b, h2, h3⟩ := h_meth1 (nL := 3) rfl K
  rw [h2] at h1
  exact ⟨w2, b, h1, h3⟩
theorem x_takeNewName {kn : sKn} {w0 : sW} {B : Nat → Int} {n L : Nat} {S : tS} {R N : Nat → Int} (hw : wOk ZZ w0) (ht : tkC B n L S w0) (hSn : S.2.2.2.2 ≤ n) (hP : pl4 w0) (hN : nm4 R N w0) (hX : S.1 = 5 → 0 ≤ S.2.2.2.1 ∧ S.2.2.2.1 < 27 ^ 7) : ∃ (w' : sW) (b : Int), fX9_takeNewName kn [.ref 1, .ref 4] w0 = some (some (hI b), w', 0, 0) ∧ hO dTk w0 w' ∧ smW eTT w0 w' ∧ zOK (zNew B n L R N S) b (fun e => gF w' 1 11 = e.1 ∧ gF w' 1 12 = e.2) (fun q => gJ w' 1 9 = Int64.ofInt (c32 7 q.1) ∧ tkC B n L q.2 w' ∧ 0 ≤ q.1 ∧ q.1 < 27 ^ 7) := by
  obtain ⟨tx, hv⟩ := id ht
  obtain ⟨hat, hnx, hkI, hkN⟩ := tkV_i hv
  obtain ⟨hB, hn1, hn2, hn940, hL940⟩ := tx
  have tx : txC B n L w0 := ht.1
  have K : Tp (tX9_takeNewName kn) (fun r => ∃ (w' : sW) (b : Int), r = (some (hI b), w', 0, 0) ∧ hO dTk w0 w' ∧ smW eTT w0 w' ∧ zOK (zNew B n L R N S) b (fun e => gF w' 1 11 = e.1 ∧ gF w' 1 12 = e.2) (fun q => gJ w' 1 9 = Int64.ofInt (c32 7 q.1) ∧ tkC B n L q.2 w' ∧ 0 ≤ q.1 ∧ q.1 < 27 ^ 7)) 0 (lv_args 0 [.ref 1, .ref 4], [], w0, 0, 0) := by
    have l0 : hL (lv_args 0 [.ref 1, .ref 4]) (lv_args 0 [.ref 1, .ref 4]) := hL_ex rfl
    have o0 : hO dTk w0 w0 := hO_rf hw
    have sm := smW_rf eTT w0
    refine h_aload rfl l0 rfl ?_
    refine h_getI rfl o0 fi_1_4 (fun b41a b41b => ?_)
    refine h_intv k_5 rfl ?_
    refine i_eq (kn := kn) (t := 0) (tgt := 14) (np := 8) rfl (by unfold R32; omega) (by unfold R32; omega) (fun e42 => ?_) (fun e42 => ?_)
    · have h5 : S.1 = 5 := by omega
      have hX5 := hX h5
      have hnm := hkN h5
      refine h_aload rfl l0 rfl ?_
      refine h_aload rfl l0 rfl ?_
      refine h_getJv rfl o0 fj_1_7 ?_
      rw [hnm]
      obtain ⟨hf43, r43a, r43b⟩ := nm4_s (kn := kn) o0.1 (pl4_sm (sm) hP) (nm4_sm (sm) (by decide) hN) hX5
      have z43 := fnd_b N 0 S.2.2.2.1 (R 1).toNat 0
      refine h_V2 rfl o0 l0 ci_4 rfl rfl hf43 ?_
      refine h_intv k_n1 rfl ?_
      refine i_ne (kn := kn) (t := 1) (tgt := 38) (np := 26) rfl (by unfold R32; omega) (by unfold R32; omega) (fun e44 => ?_) (fun e44 => ?_)
      · refine h_aload rfl l0 rfl ?_
        refine h_intv k_3 rfl ?_
        obtain ⟨wR45, hf45, oR45', sR45, rA45, rB45⟩ := x_refuse (kn := kn) o0.1 3 ⟨by omega, by omega⟩
        have oR45 := hO_tr o0 oR45'
        rw [hat] at rB45
        refine h_V2 rfl o0 l0 ci_1 rfl rfl hf45 ?_
        refine h_zret (by omega) rfl ?_
        refine ⟨_, _, rfl, oR45, smW_tr sm (smW_mono (by decide) sR45), ?_⟩
        rw [show zNew B n L R N S = .inl (3, S.2.1) from by
          unfold zNew
          rw [if_neg (by omega), if_pos (by omega)], zOK_l]
        exact ⟨rfl, by rw [rA45], by rw [rB45]⟩
      · refine h_aload rfl l0 rfl ?_
        refine h_aload rfl l0 rfl ?_
        refine h_getJv rfl o0 fj_1_7 ?_
        rw [hnm]
        obtain ⟨hf46, r46a, r46b⟩ := nm4_l (kn := kn) o0.1 (pl4_sm (sm) hP) (nm4_sm (sm) (by decide) hN) hX5
        have z46 := fnd_b N 10 S.2.2.2.1 (R 2).toNat 0
        refine h_V2 rfl o0 l0 ci_4 rfl rfl hf46 ?_
        refine h_intv k_n1 rfl ?_
        refine i_eq (kn := kn) (t := 0) (tgt := 44) (np := 38) rfl (by unfold R32; omega) (by unfold R32; omega) (fun e47 => ?_) (fun e47 => ?_)
        · refine h_aload rfl l0 rfl ?_
          refine h_aload rfl l0 rfl ?_
          refine h_getJv rfl o0 fj_1_7 ?_
          rw [hnm]
          refine x_putJ rfl o0 fj_1_9 rfl (fun w48 o48 q49a q49J q49X q49F q49Y q49R => ?_)
          refine h_aload rfl l0 rfl ?_
          obtain ⟨wA50, hf50, oA50', sA50, tA50⟩ := x_advance (kn := kn) (txC_sm (smW_tr sm (sm_pJ (by decide) q49J q49X q49F q49Y q49R)) (by decide) tx) o48.1 (p := S.2.2.2.2) hSn (by rw [q49F 1 3, hnx])
          have oA50 := hO_tr o48 (hO_mono dTk_t oA50')
          refine h_W1 rfl o48 l0 ci_1 rfl rfl hf50 ?_
          refine h_intv k_1 rfl ?_
          refine h_zret (by omega) rfl ?_
          refine ⟨_, _, rfl, oA50, smW_tr (smW_tr sm (sm_pJ (by decide) q49J q49X q49F q49Y q49R)) (smW_mono (by decide) sA50), ?_⟩
          rw [show zNew B n L R N S = .inr (S.2.2.2.1, nxT B n L S) from by
            unfold zNew
            rw [if_neg (by omega), if_neg (by omega)], zOK_r]
          exact ⟨rfl, by rw [sA50.2.1 1 9 (by decide), q49a], tA50, hX5⟩
        · refine h_aload rfl l0 rfl ?_
          refine h_intv k_3 rfl ?_
          obtain ⟨wR51, hf51, oR51', sR51, rA51, rB51⟩ := x_refuse (kn := kn) o0.1 3 ⟨by omega, by omega⟩
          have oR51 := hO_tr o0 oR51'
          rw [hat] at rB51
          refine h_V2 rfl o0 l0 ci_1 rfl rfl hf51 ?_
          refine h_zret (by omega) rfl ?_
          refine ⟨_, _, rfl, oR51, smW_tr sm (smW_mono (by decide) sR51), ?_⟩
          rw [show zNew B n L R N S = .inl (3, S.2.1) from by
            unfold zNew
            rw [if_neg (by omega), if_pos (by omega)], zOK_l]
          exact ⟨rfl, by rw [rA51], by rw [rB51]⟩
    · refine h_aload rfl l0 rfl ?_
      refine h_intv k_1 rfl ?_
      obtain ⟨wR52, hf52, oR52', sR52, rA52, rB52⟩ := x_refuse (kn := kn) o0.1 1 ⟨by omega, by omega⟩
      have oR52 := hO_tr o0 oR52'
      rw [hat] at rB52
      refine h_V2 rfl o0 l0 ci_1 rfl rfl hf52 ?_
      refine h_zret (by omega) rfl ?_
      refine ⟨_, _, rfl, oR52, smW_tr sm (smW_mono (by decide) sR52), ?_⟩
      rw [show zNew B n L R N S = .inl (1, S.2.1) from if_pos (by omega), zOK_l]
      exact ⟨rfl, by rw [rA52], by rw [rB52]⟩
  obtain ⟨r, h1, w2, b, h2, h3⟩ := h_meth1 (nL := 2) rfl K
  rw [h2] at h1
  exact ⟨w2, b, h1, h3⟩
end
