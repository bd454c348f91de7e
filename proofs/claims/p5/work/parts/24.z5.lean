noncomputable section
theorem x_readNumberB {kn : sKn} {w0 : sW} {B : Nat → Int} {n : Nat} {S : tS} (hw : wOk ZZ w0) (htk : tkR B n 400 S w0) (hG : tkG B n 400 S) (lo hi : Int) (hlo : R32 lo) (hhi : R32 hi) : ∃ (w' : sW) (b : Int), fX12_readNumber kn [.ref 213, hI lo, hI hi] w0 = some (some (hI b), w', 0, 0) ∧ hO dRT w0 w' ∧ smW eRT w0 w' ∧ (zOK (zNum B n 400 lo hi S) b (fun e => erR e w') (fun q => gF w' 213 13 = q.1 ∧ tkR B n 400 q.2 w')) := by
  obtain ⟨hfr, hkI, hto, hwd⟩ := tkU_i htk.2
  have htx := htk.1
  have gbS := tkG_b hG
  have hn9 := htk.1.2.2.2.1
  have hlo1 := hlo.1
  have hlo2 := hlo.2
  have hhi1 := hhi.1
  have hhi2 := hhi.2
  have K : Tp (tX12_readNumber kn) (fun r => ∃ (w' : sW) (b : Int), r = (some (hI b), w', 0, 0) ∧ hO dRT w0 w' ∧ smW eRT w0 w' ∧ (zOK (zNum B n 400 lo hi S) b (fun e => erR e w') (fun q => gF w' 213 13 = q.1 ∧ tkR B n 400 q.2 w'))) 0 (lv_args 0 [.ref 213, hI lo, hI hi], [], w0, 0, 0) := by
    have l0 : hL (lv_args 0 [.ref 213, hI lo, hI hi]) (lv_args 0 [.ref 213, hI lo, hI hi]) := hL_ex rfl
    have o0 : hO dRT w0 w0 := hO_rf hw
    have sm := smW_rf eRT w0
    refine h_aload rfl l0 rfl ?_
    refine h_getI rfl o0 fi_7 (fun b41a b41b => ?_)
    refine h_intv k_3 rfl ?_
    refine i_eq (kn := kn) (t := 0) (tgt := 14) (np := 8) rfl (by unfold R32; omega) (by unfold R32; omega) (fun e42 => ?_) (fun e42 => ?_)
    · refine h_aload rfl l0 rfl ?_
      refine h_getI rfl o0 fi_8 (fun b43a b43b => ?_)
      refine h_iload rfl l0 rfl ?_
      refine h_iload rfl l0 rfl ?_
      obtain ⟨z44, hf44, hz44⟩ := x_isIn (kn := kn) o0.1 (gF w0 213 8) lo hi ⟨by omega, by omega⟩ ⟨by omega, by omega⟩ ⟨by omega, by omega⟩
      refine h_S3 rfl o0 l0 rfl rfl hf44 ?_
      refine j_ne (kn := kn) (t := 1) (tgt := 32) (np := 26) rfl (by unfold R32; omega) (fun e45 => ?_) (fun e45 => ?_)
      · refine h_aload rfl l0 rfl ?_
        refine h_aload rfl l0 rfl ?_
        refine h_getI rfl o0 fi_8 (fun b46a b46b => ?_)
        refine x_putI rfl o0 fi_13 rfl (by omega) (by omega) (fun w47 o47 q48a q48F q48X q48J q48Y q48R => ?_)
        refine h_aload rfl l0 rfl ?_
        obtain ⟨wG49, hf49, oG49', sG49, tG49⟩ := x_go (kn := kn) (tkR_sm (smW_tr (smW_rf eRQ _) (sm_pI (by decide) q48F q48X q48J q48Y q48R)) (by decide) htk).1 o47.1 (p := S.2.2.2.2) (tkG_n hG) ((tkU_i (tkR_sm (smW_tr (smW_rf eRQ _) (sm_pI (by decide) q48F q48X q48J q48Y q48R)) (by decide) htk).2).2.2.1 (by omega))
        have oG49 := hO_tr o47 (hO_mono dRT_g oG49')
        have tG49 : tkR B n 400 (nxT B n 400 S) wG49 := tG49
        refine h_W1 rfl o47 l0 ci_213 rfl rfl hf49 ?_
        refine h_intv k_1 rfl ?_
        refine h_zret (by omega) rfl ?_
        refine ⟨_, _, rfl, oG49, smW_tr (smW_tr sm (sm_pI (by decide) q48F q48X q48J q48Y q48R)) (smW_mono (by decide) sG49), ?_⟩
        rw [show zNum B n 400 lo hi S = .inr (S.2.2.1, nxT B n 400 S) from by
          unfold zNum
          rw [if_neg (by omega), if_neg (by omega)], zOK_r]
        exact ⟨rfl, by rw [sG49.1 213 13 (by decide), q48a]; show _ = S.2.2.1; omega, tG49⟩
      · refine h_aload rfl l0 rfl ?_
        refine h_intv k_2 rfl ?_
        obtain ⟨wR50, hf50, oR50', sR50, rA50, rB50⟩ := x_bad (kn := kn) o0.1 htk hG 2 ⟨by omega, by omega⟩
        have oR50 := hO_tr o0 oR50'
        rw [if_k (by omega)] at rA50
        refine h_V2 rfl o0 l0 ci_213 rfl rfl hf50 ?_
        refine h_zret (by omega) rfl ?_
        refine ⟨_, _, rfl, oR50, smW_tr sm (smW_mono (by decide) sR50), ?_⟩
        rw [show zNum B n 400 lo hi S = .inl (2, S.2.1) from by
          unfold zNum
          rw [if_neg (by omega), if_pos (by omega)], zOK_l]
        exact ⟨rfl, ⟨by rw [rA50], by rw [rB50]⟩⟩
    · refine h_aload rfl l0 rfl ?_
      refine h_intv k_1 rfl ?_
      obtain ⟨wR51, hf51, oR51', sR51, rA51, rB51⟩ := x_bad (kn := kn) o0.1 htk hG 1 ⟨by omega, by omega⟩
      have oR51 := hO_tr o0 oR51'
      rw [if_k (by omega)] at rA51
      refine h_V2 rfl o0 l0 ci_213 rfl rfl hf51 ?_
      refine h_zret (by omega) rfl ?_
      refine ⟨_, _, rfl, oR51, smW_tr sm (smW_mono (by decide) sR51), ?_⟩
      rw [show zNum B n 400 lo hi S = .inl (1, S.2.1) from if_pos (by omega), zOK_l]
      exact ⟨rfl, ⟨by rw [rA51], by rw [rB51]⟩⟩
  obtain ⟨r, h1, w2, b, h2, h3⟩ := h_meth1 (nL := 3) rfl K
  rw [h2] at h1
  exact ⟨w2, b, h1, h3⟩
theorem x_readEndB {kn : sKn} {w0 : sW} {B : Nat → Int} {n : Nat} {S : tS} (hw : wOk ZZ w0) (htk : tkR B n 400 S w0) (hG : tkG B n 400 S)  : ∃ (w' : sW) (b : Int), fX12_readEnd kn [.ref 213] w0 = some (some (hI b), w', 0, 0) ∧ hO dRT w0 w' ∧ smW eRT w0 w' ∧ (zOK (zEnd B n 400 S) b (fun e => erR e w') (fun T => tkR B n 400 T w')) := by
  obtain ⟨hfr, hkI, hto, hwd⟩ := tkU_i htk.2
  have htx := htk.1
  have gbS := tkG_b hG
  have hn9 := htk.1.2.2.2.1
  have K : Tp (tX12_readEnd kn) (fun r => ∃ (w' : sW) (b : Int), r = (some (hI b), w', 0, 0) ∧ hO dRT w0 w' ∧ smW eRT w0 w' ∧ (zOK (zEnd B n 400 S) b (fun e => erR e w') (fun T => tkR B n 400 T w'))) 0 (lv_args 0 [.ref 213], [], w0, 0, 0) := by
    have l0 : hL (lv_args 0 [.ref 213]) (lv_args 0 [.ref 213]) := hL_ex rfl
    have o0 : hO dRT w0 w0 := hO_rf hw
    have sm := smW_rf eRT w0
    refine h_aload rfl l0 rfl ?_
    refine h_intv k_59 rfl ?_
    obtain ⟨z41, hf41, hz41⟩ := x_isSignR (kn := kn) o0.1 htk hG 59 ⟨by omega, by omega⟩
    refine h_V2 rfl o0 l0 ci_213 rfl rfl hf41 ?_
    refine j_ne (kn := kn) (t := 1) (tgt := 15) (np := 9) rfl (by unfold R32; omega) (fun e42 => ?_) (fun e42 => ?_)
    · refine h_aload rfl l0 rfl ?_
      obtain ⟨wG43, hf43, oG43', sG43, tG43⟩ := x_go (kn := kn) htk.1 o0.1 (p := S.2.2.2.2) (tkG_n hG) ((tkU_i htk.2).2.2.1 (by omega))
      have oG43 := hO_tr o0 (hO_mono dRT_g oG43')
      have tG43 : tkR B n 400 (nxT B n 400 S) wG43 := tG43
      refine h_W1 rfl o0 l0 ci_213 rfl rfl hf43 ?_
      refine h_intv k_1 rfl ?_
      refine h_zret (by omega) rfl ?_
      refine ⟨_, _, rfl, oG43, smW_tr sm (smW_mono (by decide) sG43), ?_⟩
      rw [show zEnd B n 400 S = .inr (nxT B n 400 S) from if_pos (by omega), zOK_r]
      exact ⟨rfl, tG43⟩
    · refine h_aload rfl l0 rfl ?_
      refine h_intv k_1 rfl ?_
      obtain ⟨wR44, hf44, oR44', sR44, rA44, rB44⟩ := x_bad (kn := kn) o0.1 htk hG 1 ⟨by omega, by omega⟩
      have oR44 := hO_tr o0 oR44'
      rw [if_k (by omega)] at rA44
      refine h_V2 rfl o0 l0 ci_213 rfl rfl hf44 ?_
      refine h_zret (by omega) rfl ?_
      refine ⟨_, _, rfl, oR44, smW_tr sm (smW_mono (by decide) sR44), ?_⟩
      rw [show zEnd B n 400 S = .inl (1, S.2.1) from if_neg (by omega), zOK_l]
      exact ⟨rfl, ⟨by rw [rA44], by rw [rB44]⟩⟩
  obtain ⟨r, h1, w2, b, h2, h3⟩ := h_meth1 (nL := 1) rfl K
  rw [h2] at h1
  exact ⟨w2, b, h1, h3⟩
def dBR : List (Nat × Nat) := (86, 999) :: (dRT ++ dH_rd)
theorem dBR_t : msub dRT dBR = true := by decide +kernel
theorem dBR_g : msub dH_go7 dBR = true := by decide +kernel
/-- how many loads there are, and their names -/
def nlR (R N : Nat → Int) (w : sW) : Prop := (gX w 215 2 = R 2 ∧ 0 ≤ R 2 ∧ R 2 ≤ 6) ∧ ∀ s : Nat, (s : Int) < R 2 → gY w 220 (10 + s) = Int64.ofInt (N (10 + s)) ∧ 0 ≤ N (10 + s) ∧ N (10 + s) < 27 ^ 7
theorem nlR_hO {D : List (Nat × Nat)} {R N : Nat → Int} {w w' : sW} (o : hO D w w') (h : (mIn D 61 779 || mIn D 68 999) = false) (p : nlR R N w) : nlR R N w' := by
  rw [Bool.or_eq_false_iff] at h
  refine ⟨⟨(hw_of o h.1 (by omega)).trans p.1.1, p.1.2⟩, fun s hs => ?_⟩
  rw [fr_gY o.2 (show ztau 220 = some 68 from rfl) h.2 (10 + s)]
  exact p.2 s hs
theorem nlR_s {kn : sKn} {R N : Nat → Int} {w : sW} {X : Int} (hw : wOk ZZ w) (p : nlR R N w) (hX : 0 ≤ X ∧ X < 27 ^ 7) : fX12_findIn kn [.ref 220, hI 10, hI (R 2), hJ X] w = some (some (hI (fnd N 10 X (R 2).toNat 0)), w, 0, 0) := by
  have h1 := p.1.2.1
  have h2 := p.1.2.2
  have h := x_findIn220 (kn := kn) (w := w) (N := N) (X := X) (b := 10) (m := (R 2).toNat) hw (fun s hs => p.2 s (by omega)) (by omega) hX
  rw [show (((R 2).toNat : Nat) : Int) = R 2 by omega] at h
  exact h
/-- a token of a book as the reference has it, and no fault so far -/
def bR (B : Nat → Int) (n : Nat) (S : tS) (w : sW) : Prop := tkR B n 400 S w ∧ tkG B n 400 S ∧ gF w 213 10 = 0
def bRO (B : Nat → Int) (n : Nat) (sp : zE ⊕ tS) (b : Int) (w' : sW) : Prop := zOK sp b (fun e => gF w' 213 10 = e.1) (fun T => bR B n T w')
def eB8 : List (Nat × Nat × Nat) := [(2, 238, 0), (0, 213, 53)]
theorem bR_sm {B : Nat → Int} {n : Nat} {S : tS} {w w' : sW} (s : smW eB8 w w') (h : bR B n S w) : bR B n S w' := ⟨tkR_sm s (by decide) h.1, h.2.1, (s.1 213 10 (by decide)).trans h.2.2⟩
theorem bR_go {kn : sKn} {w : sW} {B : Nat → Int} {n : Nat} {S : tS} (hw : wOk ZZ w) (h : bR B n S w) (h2 : 2 ≤ S.1) : ∃ w', fX12_go kn [.ref 213] w = some (none, w', 0, 0) ∧ hO dBR w w' ∧ bR B n (nxT B n 400 S) w' := by
  obtain ⟨w', e, o, t⟩ := x_goS (kn := kn) hw h.1 h.2.1 h2
  exact ⟨w', e, hO_mono dBR_g o, t, tkG_nx h.2.1, (fr_gF (t := 61) (c := 213) (kf := 10) o.2 rfl (by decide +kernel) hw (by decide +kernel)).trans h.2.2⟩
theorem bR_end {kn : sKn} {w : sW} {B : Nat → Int} {n : Nat} {S : tS} (hw : wOk ZZ w) (h : bR B n S w) : ∃ (w' : sW) (b : Int), fX12_readEnd kn [.ref 213] w = some (some (hI b), w', 0, 0) ∧ hO dBR w w' ∧ bRO B n (zEnd B n 400 S) b w' := by
  obtain ⟨w', b, e, o, s, z⟩ := x_readEndB (kn := kn) hw h.1 h.2.1
  obtain ⟨rF, wF, hfF, hzF⟩ := f_rend (kn := kn) hw h.2.2
  refine ⟨w', b, e, hO_mono dBR_t o, ?_⟩
  unfold bRO
  rcases hr : zEnd B n 400 S with er | T
  · rw [hr, zOK_l] at z
    rw [zOK_l]
    exact ⟨z.1, z.2.1⟩
  · rw [hr, zOK_r] at z
    rw [zOK_r]
    obtain ⟨p, p1, p2, p3⟩ := zEnd_i h.2.1 hr
    exact ⟨z.1, z.2, ⟨p, p2, p3⟩, fz e hfF hzF z.1⟩
theorem bR_num_0_11 {kn : sKn} {w : sW} {B : Nat → Int} {n : Nat} {S : tS} (hw : wOk ZZ w) (h : bR B n S w) : ∃ (w' : sW) (b : Int), fX12_readNumber kn [.ref 213, hI 0, hI 11] w = some (some (hI b), w', 0, 0) ∧ hO dBR w w' ∧ zOK (zNum B n 400 0 11 S) b (fun e => gF w' 213 10 = e.1) (fun q => (0 ≤ gF w' 213 13 ∧ gF w' 213 13 ≤ 11) ∧ bR B n q.2 w') := by
  obtain ⟨w', b, e, o, s, z⟩ := x_readNumberB (kn := kn) hw h.1 h.2.1 0 11 ⟨by omega, by omega⟩ ⟨by omega, by omega⟩
  obtain ⟨rF, wF, hfF, hzF⟩ := f_rn_0_11 (kn := kn) hw h.2.2
  refine ⟨w', b, e, hO_mono dBR_t o, ?_⟩
  rcases hr : zNum B n 400 0 11 S with er | q
  · rw [hr, zOK_l] at z
    rw [zOK_l]
    exact ⟨z.1, z.2.1⟩
  · rw [hr, zOK_r] at z
    rw [zOK_r]
    obtain ⟨z1, z2, z3⟩ := z
    obtain ⟨q1, q2, q3⟩ := zNum_r hr
    exact ⟨z1, ⟨by omega, by omega⟩, z3, by rw [q1]; exact tkG_nx h.2.1, fz e hfF hzF z1⟩
theorem bR_num_0_2 {kn : sKn} {w : sW} {B : Nat → Int} {n : Nat} {S : tS} (hw : wOk ZZ w) (h : bR B n S w) : ∃ (w' : sW) (b : Int), fX12_readNumber kn [.ref 213, hI 0, hI 2] w = some (some (hI b), w', 0, 0) ∧ hO dBR w w' ∧ zOK (zNum B n 400 0 2 S) b (fun e => gF w' 213 10 = e.1) (fun q => (0 ≤ gF w' 213 13 ∧ gF w' 213 13 ≤ 2) ∧ bR B n q.2 w') := by
  obtain ⟨w', b, e, o, s, z⟩ := x_readNumberB (kn := kn) hw h.1 h.2.1 0 2 ⟨by omega, by omega⟩ ⟨by omega, by omega⟩
  obtain ⟨rF, wF, hfF, hzF⟩ := f_rn_0_2 (kn := kn) hw h.2.2
  refine ⟨w', b, e, hO_mono dBR_t o, ?_⟩
  rcases hr : zNum B n 400 0 2 S with er | q
  · rw [hr, zOK_l] at z
    rw [zOK_l]
    exact ⟨z.1, z.2.1⟩
  · rw [hr, zOK_r] at z
    rw [zOK_r]
    obtain ⟨z1, z2, z3⟩ := z
    obtain ⟨q1, q2, q3⟩ := zNum_r hr
    exact ⟨z1, ⟨by omega, by omega⟩, z3, by rw [q1]; exact tkG_nx h.2.1, fz e hfF hzF z1⟩
theorem bR_num_1_60 {kn : sKn} {w : sW} {B : Nat → Int} {n : Nat} {S : tS} (hw : wOk ZZ w) (h : bR B n S w) : ∃ (w' : sW) (b : Int), fX12_readNumber kn [.ref 213, hI 1, hI 60] w = some (some (hI b), w', 0, 0) ∧ hO dBR w w' ∧ zOK (zNum B n 400 1 60 S) b (fun e => gF w' 213 10 = e.1) (fun q => (1 ≤ gF w' 213 13 ∧ gF w' 213 13 ≤ 60) ∧ bR B n q.2 w') := by
  obtain ⟨w', b, e, o, s, z⟩ := x_readNumberB (kn := kn) hw h.1 h.2.1 1 60 ⟨by omega, by omega⟩ ⟨by omega, by omega⟩
  obtain ⟨rF, wF, hfF, hzF⟩ := f_rn_1_60 (kn := kn) hw h.2.2
  refine ⟨w', b, e, hO_mono dBR_t o, ?_⟩
  rcases hr : zNum B n 400 1 60 S with er | q
  · rw [hr, zOK_l] at z
    rw [zOK_l]
    exact ⟨z.1, z.2.1⟩
  · rw [hr, zOK_r] at z
    rw [zOK_r]
    obtain ⟨z1, z2, z3⟩ := z
    obtain ⟨q1, q2, q3⟩ := zNum_r hr
    exact ⟨z1, ⟨by omega, by omega⟩, z3, by rw [q1]; exact tkG_nx h.2.1, fz e hfF hzF z1⟩
theorem r_set {kn : sKn} {w : sW} {B : Nat → Int} {n m : Nat} {S : tS} (hw : wOk ZZ w) (hS : bR B n S w) (h2 : 2 ≤ S.1) (hm : m ≤ 39) (x z : Int) (hx : R32 x) (hz : R32 z) : ∃ w', fX12_readSet kn [.ref 213, hI ((4 * m : Nat) : Int), hI x, hI z] w = some (some (hI 1), w', 0, 0) ∧ hO dBR w w' ∧ bR B n (nxT B n 400 S) w' := by
  have hx1 := hx.1
  have hx2 := hx.2
  have hz1 := hz.1
  have hz2 := hz.2
  have K : Tp (tX12_readSet kn) (fun r => ∃ w', r = (some (hI 1), w', 0, 0) ∧ hO dBR w w' ∧ bR B n (nxT B n 400 S) w') 0 (lv_args 0 [.ref 213, hI ((4 * m : Nat) : Int), hI x, hI z], [], w, 0, 0) := by
    have l0 : hL (lv_args 0 [.ref 213, hI ((4 * m : Nat) : Int), hI x, hI z]) (lv_args 0 [.ref 213, hI ((4 * m : Nat) : Int), hI x, hI z]) := hL_ex rfl
    have o0 : hO dBR w w := hO_rf hw
    refine h_aload rfl l0 rfl ?_
    refine h_getR rfl o0 fr_51 ?_
    refine h_iload rfl l0 rfl ?_
    refine h_iload rfl l0 rfl ?_
    refine x_iast (4 * m) rfl o0 ai_238 rfl rfl aw_238 (by omega) (by omega) (by omega) (by omega) (by omega) (by omega) (by unfold R32; omega) (fun w41 o41 q42a q42X q42F q42J q42Y q42R => ?_)
    refine h_aload rfl l0 rfl ?_
    refine h_getR rfl o41 fr_51 ?_
    refine h_iload rfl l0 rfl ?_
    refine h_intv k_1 rfl ?_
    refine h_iadd rfl ?_
    refine h_iload rfl l0 rfl ?_
    refine x_iast (4 * m + 1) rfl o41 ai_238 rfl rfl aw_238 (by omega) (by omega) (by omega) (by omega) (by omega) (by omega) (by unfold R32; omega) (fun w43 o43 q44a q44X q44F q44J q44Y q44R => ?_)
    refine h_aload rfl l0 rfl ?_
    obtain ⟨wG, hf45, oG', hG⟩ := bR_go (kn := kn) o43.1 (bR_sm (smW_tr (smW_tr (smW_rf eB8 _) (sm_pX (by decide) q42X q42F q42J q42Y q42R)) (sm_pX (by decide) q44X q44F q44J q44Y q44R)) hS) (by omega)
    have oG := hO_tr o43 oG'
    refine h_W1 rfl o43 l0 ci_213 rfl rfl hf45 ?_
    refine h_intv k_1 rfl ?_
    refine h_zret (by omega) rfl ?_
    exact ⟨_, rfl, oG, hG⟩
  obtain ⟨r, h1, w2, h2', h3⟩ := h_meth1 (nL := 4) rfl K
  rw [h2'] at h1
  exact ⟨w2, h1, h3⟩
theorem r_place {kn : sKn} {w : sW} {B : Nat → Int} {n m : Nat} {S : tS} (hw : wOk ZZ w) (hS : bR B n S w) (hm : m ≤ 39) : ∃ (w' : sW) (b : Int), fX12_readPlace kn [.ref 213, hI ((4 * m : Nat) : Int)] w = some (some (hI b), w', 0, 0) ∧ hO dBR w w' ∧ bRO B n (zPlc B n 400 S) b w' := by
  have K : Tp (tX12_readPlace kn) (fun r => ∃ (w' : sW) (b : Int), r = (some (hI b), w', 0, 0) ∧ hO dBR w w' ∧ bRO B n (zPlc B n 400 S) b w') 0 (lv_args 0 [.ref 213, hI ((4 * m : Nat) : Int)], [], w, 0, 0) := by
    have l0 : hL (lv_args 0 [.ref 213, hI ((4 * m : Nat) : Int)]) (lv_args 0 [.ref 213, hI ((4 * m : Nat) : Int)]) := hL_ex rfl
    have o0 : hO dBR w w := hO_rf hw
    refine h_aload rfl l0 rfl ?_
    refine h_intv k_0 rfl ?_
    refine h_intv k_11 rfl ?_
    obtain ⟨wA, bA, hf41, oA', hzA⟩ := bR_num_0_11 (kn := kn) o0.1 hS
    have oA := hO_tr o0 oA'
    rcases hrA : zNum B n 400 0 11 S with eA | qA
    · rw [hrA, zOK_l] at hzA
      obtain ⟨hbA, heA⟩ := hzA
      subst hbA
      refine h_V3 rfl o0 l0 ci_213 rfl rfl hf41 ?_
      refine j_ne (kn := kn) (t := 1) (tgt := 12) (np := 10) rfl (by unfold R32; omega) (fun e42 => ?_) (fun e42 => ?_)
      · omega
      · refine h_intv k_0 rfl ?_
        refine h_zret (by omega) rfl ?_
        refine ⟨_, _, rfl, oA, ?_⟩
        unfold bRO zPlc
        rw [hrA, zB_l, zOK_l]
        exact ⟨rfl, heA⟩
    · rw [hrA, zOK_r] at hzA
      obtain ⟨hbA, htA, hcA⟩ := hzA
      subst hbA
      refine h_V3 rfl o0 l0 ci_213 rfl rfl hf41 ?_
      refine j_ne (kn := kn) (t := 1) (tgt := 12) (np := 10) rfl (by unfold R32; omega) (fun e43 => ?_) (fun e43 => ?_)
      · refine h_aload rfl l0 rfl ?_
        refine h_getR rfl oA fr_51 ?_
        refine h_iload rfl l0 rfl ?_
        refine h_intv k_2 rfl ?_
        refine h_iadd rfl ?_
        refine h_aload rfl l0 rfl ?_
        refine h_getI rfl oA fi_13 (fun b44a b44b => ?_)
        refine x_iast (4 * m + 2) rfl oA ai_238 rfl rfl aw_238 (by omega) (by omega) (by omega) (by omega) (by omega) (by omega) (by unfold R32; omega) (fun w45 o45 q46a q46X q46F q46J q46Y q46R => ?_)
        refine h_aload rfl l0 rfl ?_
        refine h_intv k_0 rfl ?_
        refine h_intv k_2 rfl ?_
        obtain ⟨wE, bE, hf47, oE', hzE⟩ := bR_num_0_2 (kn := kn) o45.1 (bR_sm (smW_tr (smW_rf eB8 _) (sm_pX (by decide) q46X q46F q46J q46Y q46R)) hcA)
        have oE := hO_tr o45 oE'
        rcases hrE : zNum B n 400 0 2 qA.2 with eE | qE
        · rw [hrE, zOK_l] at hzE
          obtain ⟨hbE, heE⟩ := hzE
          subst hbE
          refine h_V3 rfl o45 l0 ci_213 rfl rfl hf47 ?_
          refine j_ne (kn := kn) (t := 1) (tgt := 35) (np := 33) rfl (by unfold R32; omega) (fun e48 => ?_) (fun e48 => ?_)
          · omega
          · refine h_intv k_0 rfl ?_
            refine h_zret (by omega) rfl ?_
            refine ⟨_, _, rfl, oE, ?_⟩
            unfold bRO zPlc
            rw [hrA, zB_r, hrE, zB_l, zOK_l]
            exact ⟨rfl, heE⟩
        · rw [hrE, zOK_r] at hzE
          obtain ⟨hbE, htE, hcE⟩ := hzE
          subst hbE
          refine h_V3 rfl o45 l0 ci_213 rfl rfl hf47 ?_
          refine j_ne (kn := kn) (t := 1) (tgt := 35) (np := 33) rfl (by unfold R32; omega) (fun e49 => ?_) (fun e49 => ?_)
          · refine h_aload rfl l0 rfl ?_
            refine h_getR rfl oE fr_51 ?_
            refine h_iload rfl l0 rfl ?_
            refine h_intv k_3 rfl ?_
            refine h_iadd rfl ?_
            refine h_aload rfl l0 rfl ?_
            refine h_getI rfl oE fi_13 (fun b50a b50b => ?_)
            refine x_iast (4 * m + 3) rfl oE ai_238 rfl rfl aw_238 (by omega) (by omega) (by omega) (by omega) (by omega) (by omega) (by unfold R32; omega) (fun w51 o51 q52a q52X q52F q52J q52Y q52R => ?_)
            refine h_intv k_1 rfl ?_
            refine h_zret (by omega) rfl ?_
            refine ⟨_, _, rfl, o51, ?_⟩
            unfold bRO zPlc
            rw [hrA, zB_r, hrE, zB_r, zOK_r]
            exact ⟨rfl, (bR_sm (smW_tr (smW_rf eB8 _) (sm_pX (by decide) q52X q52F q52J q52Y q52R)) hcE)⟩
          · omega
      · omega
  obtain ⟨r, h1, w2, b2, h2, h3, h4⟩ := h_meth1 (nL := 2) rfl K
  rw [h2] at h1
  exact ⟨w2, b2, h1, h3, h4⟩
theorem r_sdoes {kn : sKn} {w : sW} {B : Nat → Int} {n m : Nat} {S : tS} (hw : wOk ZZ w) (hS : bR B n S w) (hm : m ≤ 39) (s : Int) (hs : R32 s) : ∃ (w' : sW) (b : Int), fX12_readSignerDoes kn [.ref 213, hI ((4 * m : Nat) : Int), hI s] w = some (some (hI b), w', 0, 0) ∧ hO dBR w w' ∧ bRO B n (zSdo B n 400 S) b w' := by
  have hs1 := hs.1
  have hs2 := hs.2
  have K : Tp (tX12_readSignerDoes kn) (fun r => ∃ (w' : sW) (b : Int), r = (some (hI b), w', 0, 0) ∧ hO dBR w w' ∧ bRO B n (zSdo B n 400 S) b w') 0 (lv_args 0 [.ref 213, hI ((4 * m : Nat) : Int), hI s], [], w, 0, 0) := by
    have l0 : hL (lv_args 0 [.ref 213, hI ((4 * m : Nat) : Int), hI s]) (lv_args 0 [.ref 213, hI ((4 * m : Nat) : Int), hI s]) := hL_ex rfl
    have o0 : hO dBR w w := hO_rf hw
    refine h_aload rfl l0 rfl ?_
    refine h_intv k_8 rfl ?_
    obtain ⟨z41, hf41, hz41⟩ := x_isWord (kn := kn) o0.1 hS.1 hS.2.1 8 (by omega)
    refine h_V2 rfl o0 l0 ci_213 rfl rfl hf41 ?_
    refine j_eq (kn := kn) (t := 0) (tgt := 33) (np := 9) rfl (by unfold R32; omega) (fun e42 => ?_) (fun e42 => ?_)
    · refine h_aload rfl l0 rfl ?_
      refine h_intv k_9 rfl ?_
      obtain ⟨z43, hf43, hz43⟩ := x_isWord (kn := kn) o0.1 hS.1 hS.2.1 9 (by omega)
      refine h_V2 rfl o0 l0 ci_213 rfl rfl hf43 ?_
      refine j_eq (kn := kn) (t := 0) (tgt := 50) (np := 42) rfl (by unfold R32; omega) (fun e44 => ?_) (fun e44 => ?_)
      · refine h_aload rfl l0 rfl ?_
        refine h_intv k_10 rfl ?_
        obtain ⟨z45, hf45, hz45⟩ := x_isWord (kn := kn) o0.1 hS.1 hS.2.1 10 (by omega)
        refine h_V2 rfl o0 l0 ci_213 rfl rfl hf45 ?_
        refine j_eq (kn := kn) (t := 0) (tgt := 67) (np := 59) rfl (by unfold R32; omega) (fun e46 => ?_) (fun e46 => ?_)
        · refine h_aload rfl l0 rfl ?_
          refine h_intv k_11 rfl ?_
          obtain ⟨z47, hf47, hz47⟩ := x_isWord (kn := kn) o0.1 hS.1 hS.2.1 11 (by omega)
          refine h_V2 rfl o0 l0 ci_213 rfl rfl hf47 ?_
          refine j_eq (kn := kn) (t := 0) (tgt := 86) (np := 76) rfl (by unfold R32; omega) (fun e48 => ?_) (fun e48 => ?_)
          · refine h_aload rfl l0 rfl ?_
            refine h_intv k_1 rfl ?_
            obtain ⟨wD, hf49, oD', sD, fD, pD⟩ := x_bad (kn := kn) o0.1 hS.1 hS.2.1 1 ⟨by omega, by omega⟩
            have oD := hO_tr o0 (hO_mono dBR_t oD')
            rw [if_k (by omega)] at fD
            refine h_V2 rfl o0 l0 ci_213 rfl rfl hf49 ?_
            refine h_zret (by omega) rfl ?_
            refine ⟨_, _, rfl, oD, ?_⟩
            unfold bRO
            rw [sdo_b (by omega), zOK_l]
            exact ⟨rfl, fD⟩
          · refine h_aload rfl l0 rfl ?_
            refine h_iload rfl l0 rfl ?_
            refine h_intv k_4 rfl ?_
            refine h_iload rfl l0 rfl ?_
            obtain ⟨wA, hf50, oA', hA⟩ := r_set (kn := kn) o0.1 hS (by omega) hm 4 s ⟨by omega, by omega⟩ ⟨by omega, by omega⟩
            have oA := hO_tr o0 oA'
            refine h_V4 rfl o0 l0 ci_213 rfl rfl hf50 ?_
            refine h_goto rfl ?_
            refine h_zret (by omega) rfl ?_
            refine ⟨_, _, rfl, oA, ?_⟩
            unfold bRO
            rw [sdo_o (by omega), zOK_r]
            exact ⟨rfl, hA⟩
        · refine h_aload rfl l0 rfl ?_
          refine h_iload rfl l0 rfl ?_
          refine h_intv k_3 rfl ?_
          refine h_iload rfl l0 rfl ?_
          obtain ⟨wA, hf51, oA', hA⟩ := r_set (kn := kn) o0.1 hS (by omega) hm 3 s ⟨by omega, by omega⟩ ⟨by omega, by omega⟩
          have oA := hO_tr o0 oA'
          refine h_V4 rfl o0 l0 ci_213 rfl rfl hf51 ?_
          refine h_zret (by omega) rfl ?_
          refine ⟨_, _, rfl, oA, ?_⟩
          unfold bRO
          rw [sdo_o (by omega), zOK_r]
          exact ⟨rfl, hA⟩
      · refine h_aload rfl l0 rfl ?_
        refine h_iload rfl l0 rfl ?_
        refine h_intv k_2 rfl ?_
        refine h_iload rfl l0 rfl ?_
        obtain ⟨wA, hf52, oA', hA⟩ := r_set (kn := kn) o0.1 hS (by omega) hm 2 s ⟨by omega, by omega⟩ ⟨by omega, by omega⟩
        have oA := hO_tr o0 oA'
        refine h_V4 rfl o0 l0 ci_213 rfl rfl hf52 ?_
        refine h_zret (by omega) rfl ?_
        refine ⟨_, _, rfl, oA, ?_⟩
        unfold bRO
        rw [sdo_o (by omega), zOK_r]
        exact ⟨rfl, hA⟩
    · refine h_aload rfl l0 rfl ?_
      refine h_iload rfl l0 rfl ?_
      refine h_intv k_0 rfl ?_
      refine h_iload rfl l0 rfl ?_
      obtain ⟨wA, hf53, oA', hA⟩ := r_set (kn := kn) o0.1 hS (by omega) hm 0 s ⟨by omega, by omega⟩ ⟨by omega, by omega⟩
      have oA := hO_tr o0 oA'
      refine h_V4 rfl o0 l0 ci_213 rfl rfl hf53 ?_
      refine j_eq (kn := kn) (t := 0) (tgt := 31) (np := 19) rfl (by unfold R32; omega) (fun e54 => ?_) (fun e54 => ?_)
      · omega
      · refine h_aload rfl l0 rfl ?_
        refine h_iload rfl l0 rfl ?_
        obtain ⟨wP, bP, hf55, oP', hP⟩ := r_place (kn := kn) oA.1 hA hm
        have oP := hO_tr oA oP'
        have hb01 := zOK_01 hP
        refine h_V2 rfl oA l0 ci_213 rfl rfl hf55 ?_
        refine j_eq (kn := kn) (t := 0) (tgt := 31) (np := 27) rfl (by unfold R32; omega) (fun e56 => ?_) (fun e56 => ?_)
        · refine h_intv k_0 rfl ?_
          refine h_zret (by omega) rfl ?_
          refine ⟨_, _, rfl, oP, ?_⟩
          rw [sdo_p (by omega)]
          first
            | exact hP
            | (rw [show bP = 0 by omega] at hP; exact hP)
            | (rw [show bP = 1 by omega] at hP; exact hP)
        · refine h_intv k_1 rfl ?_
          refine h_goto rfl ?_
          refine h_zret (by omega) rfl ?_
          refine ⟨_, _, rfl, oP, ?_⟩
          rw [sdo_p (by omega)]
          first
            | exact hP
            | (rw [show bP = 0 by omega] at hP; exact hP)
            | (rw [show bP = 1 by omega] at hP; exact hP)
  obtain ⟨r, h1, w2, b2, h2, h3, h4⟩ := h_meth1 (nL := 3) rfl K
  rw [h2] at h1
  exact ⟨w2, b2, h1, h3, h4⟩
theorem r_does {kn : sKn} {w : sW} {B : Nat → Int} {n m : Nat} {R N : Nat → Int} {k : Int} {S : tS} (hw : wOk ZZ w) (hS : bR B n S w) (hNs : nmS R N w) (hNl : nlR R N w) (hm : m ≤ 39) (hk : k ≠ 40) (hg : (S.1 = 4 ∧ (S.2.2.1 = 12 ∨ S.2.2.1 = 14)) ∨ (S.1 = 5 ∧ ¬ (fnd N 0 S.2.2.2.1 (R 1).toNat 0 = -1 ∧ fnd N 10 S.2.2.2.1 (R 2).toNat 0 = -1))) : ∃ (w' : sW) (b : Int), fX12_readDoes kn [.ref 213, hI ((4 * m : Nat) : Int)] w = some (some (hI b), w', 0, 0) ∧ hO dBR w w' ∧ bRO B n (zBkl B n 400 R N k S) b w' := by
  obtain ⟨_, hkI, hto, hwd⟩ := tkU_i hS.1.2
  have gbS := tkG_b hS.2.1
  have hr1 := hNs.1.2.1
  have hr2 := hNs.1.2.2
  have hr3 := hNl.1.2.1
  have hr4 := hNl.1.2.2
  have K : Tp (tX12_readDoes kn) (fun r => ∃ (w' : sW) (b : Int), r = (some (hI b), w', 0, 0) ∧ hO dBR w w' ∧ bRO B n (zBkl B n 400 R N k S) b w') 0 (lv_args 0 [.ref 213, hI ((4 * m : Nat) : Int)], [], w, 0, 0) := by
    have l0 : hL (lv_args 0 [.ref 213, hI ((4 * m : Nat) : Int)]) (lv_args 0 [.ref 213, hI ((4 * m : Nat) : Int)]) := hL_ex rfl
    have o0 : hO dBR w w := hO_rf hw
    refine h_aload rfl l0 rfl ?_
    refine h_intv k_12 rfl ?_
    obtain ⟨z41, hf41, hz41⟩ := x_isWord (kn := kn) o0.1 hS.1 hS.2.1 12 (by omega)
    refine h_V2 rfl o0 l0 ci_213 rfl rfl hf41 ?_
    refine j_eq (kn := kn) (t := 0) (tgt := 33) (np := 9) rfl (by unfold R32; omega) (fun e42 => ?_) (fun e42 => ?_)
    · refine h_aload rfl l0 rfl ?_
      refine h_intv k_14 rfl ?_
      obtain ⟨z43, hf43, hz43⟩ := x_isWord (kn := kn) o0.1 hS.1 hS.2.1 14 (by omega)
      refine h_V2 rfl o0 l0 ci_213 rfl rfl hf43 ?_
      refine j_eq (kn := kn) (t := 0) (tgt := 77) (np := 42) rfl (by unfold R32; omega) (fun e44 => ?_) (fun e44 => ?_)
      · have h5 : S.1 = 5 := by omega
        have hwd5 := hwd (by omega)
        refine h_aload rfl l0 rfl ?_
        refine h_getR rfl o0 fr_19 ?_
        refine h_intv k_0 rfl ?_
        refine h_aload rfl l0 rfl ?_
        refine h_getR rfl o0 fr_14 ?_
        refine h_intv k_1 rfl ?_
        refine h_ialdj (1) rfl o0 ai_215 rfl (by omega) (by omega) (fun b45a b45b => ?_)
        rw [hNs.1.1] at b45a b45b ⊢
        refine h_aload rfl l0 rfl ?_
        refine h_getJv rfl o0 fj_12 ?_
        rw [hwd5]
        have hf46 := nmS_s (kn := kn) (N := N) (X := S.2.2.2.1) o0.1 hNs (tkG_X hS.2.1 h5)
        have y1 := fnd_b N 0 S.2.2.2.1 (R 1).toNat 0
        refine h_S4 rfl o0 l0 rfl rfl hf46 ?_
        refine h_istore rfl l0 (fun vl47 l47 => ?_)
        refine h_aload rfl l47 rfl ?_
        refine h_getR rfl o0 fr_19 ?_
        refine h_intv k_10 rfl ?_
        refine h_aload rfl l47 rfl ?_
        refine h_getR rfl o0 fr_14 ?_
        refine h_intv k_2 rfl ?_
        refine h_ialdj (2) rfl o0 ai_215 rfl (by omega) (by omega) (fun b48a b48b => ?_)
        rw [hNl.1.1] at b48a b48b ⊢
        refine h_aload rfl l47 rfl ?_
        refine h_getJv rfl o0 fj_12 ?_
        rw [hwd5]
        have hf49 := nlR_s (kn := kn) (N := N) (X := S.2.2.2.1) o0.1 hNl (tkG_X hS.2.1 h5)
        have y2 := fnd_b N 10 S.2.2.2.1 (R 2).toNat 0
        refine h_S4 rfl o0 l47 rfl rfl hf49 ?_
        refine h_istore rfl l47 (fun vl50 l50 => ?_)
        refine h_aload rfl l50 rfl ?_
        obtain ⟨wG, hf51, oG', hG⟩ := bR_go (kn := kn) o0.1 hS (by omega)
        have oG := hO_tr o0 oG'
        refine h_W1 rfl o0 l50 ci_213 rfl rfl hf51 ?_
        refine h_iload rfl l50 rfl ?_
        refine h_intv k_n1 rfl ?_
        refine i_eq (kn := kn) (t := 0) (tgt := 132) (np := 125) rfl (by unfold R32; omega) (by unfold R32; omega) (fun e52 => ?_) (fun e52 => ?_)
        · refine h_aload rfl l50 rfl ?_
          refine h_intv k_13 rfl ?_
          obtain ⟨z53, hf53, hz53⟩ := x_isWord (kn := kn) oG.1 hG.1 hG.2.1 13 (by omega)
          refine h_V2 rfl oG l50 ci_213 rfl rfl hf53 ?_
          refine j_eq (kn := kn) (t := 0) (tgt := 151) (np := 141) rfl (by unfold R32; omega) (fun e54 => ?_) (fun e54 => ?_)
          · refine h_aload rfl l50 rfl ?_
            refine h_intv k_1 rfl ?_
            obtain ⟨wD, hf55, oD', sD, fD, pD⟩ := x_bad (kn := kn) oG.1 hG.1 hG.2.1 1 ⟨by omega, by omega⟩
            have oD := hO_tr oG (hO_mono dBR_t oD')
            rw [if_k (by omega)] at fD
            refine h_V2 rfl oG l50 ci_213 rfl rfl hf55 ?_
            refine h_zret (by omega) rfl ?_
            refine ⟨_, _, rfl, oD, ?_⟩
            unfold bRO
            rw [bkl_l (by omega) (by omega) (by omega), show zLdo B n 400 (nxT B n 400 S) = .inl (1, (nxT B n 400 S).2.1) from if_neg (by omega), zOK_l]
            exact ⟨rfl, fD⟩
          · refine h_aload rfl l50 rfl ?_
            refine h_iload rfl l50 rfl ?_
            refine h_intv k_5 rfl ?_
            refine h_iload rfl l50 rfl ?_
            obtain ⟨wA, hf56, oA', hA⟩ := r_set (kn := kn) oG.1 hG (by omega) hm 5 (fnd N 10 S.2.2.2.1 (R 2).toNat 0) ⟨by omega, by omega⟩ ⟨by omega, by omega⟩
            have oA := hO_tr oG oA'
            refine h_V4 rfl oG l50 ci_213 rfl rfl hf56 ?_
            refine h_goto rfl ?_
            refine h_zret (by omega) rfl ?_
            refine ⟨_, _, rfl, oA, ?_⟩
            unfold bRO
            rw [bkl_l (by omega) (by omega) (by omega), show zLdo B n 400 (nxT B n 400 S) = .inr (nxT B n 400 (nxT B n 400 S)) from if_pos (by omega), zOK_r]
            exact ⟨rfl, hA⟩
        · refine h_aload rfl l50 rfl ?_
          refine h_iload rfl l50 rfl ?_
          refine h_iload rfl l50 rfl ?_
          obtain ⟨wP, bP, hf57, oP', hP⟩ := r_sdoes (kn := kn) oG.1 hG hm (fnd N 0 S.2.2.2.1 (R 1).toNat 0) ⟨by omega, by omega⟩
          have oP := hO_tr oG oP'
          have hb01 := zOK_01 hP
          refine h_V3 rfl oG l50 ci_213 rfl rfl hf57 ?_
          refine h_zret (by omega) rfl ?_
          refine ⟨_, _, rfl, oP, ?_⟩
          rw [bkl_s (by omega) (by omega) (by omega)]
          exact hP
      · refine h_aload rfl l0 rfl ?_
        refine h_iload rfl l0 rfl ?_
        refine h_intv k_6 rfl ?_
        refine h_intv k_n1 rfl ?_
        obtain ⟨wA, hf58, oA', hA⟩ := r_set (kn := kn) o0.1 hS (by omega) hm 6 (-1) ⟨by omega, by omega⟩ ⟨by omega, by omega⟩
        have oA := hO_tr o0 oA'
        refine h_V4 rfl o0 l0 ci_213 rfl rfl hf58 ?_
        refine h_pop rfl rfl ?_
        refine h_aload rfl l0 rfl ?_
        refine h_intv k_1 rfl ?_
        refine h_intv k_60 rfl ?_
        obtain ⟨wE, bE, hf59, oE', hzE⟩ := bR_num_1_60 (kn := kn) oA.1 hA
        have oE := hO_tr oA oE'
        rcases hrE : zNum B n 400 1 60 (nxT B n 400 S) with eE | qE
        · rw [hrE, zOK_l] at hzE
          obtain ⟨hbE, heE⟩ := hzE
          subst hbE
          refine h_V3 rfl oA l0 ci_213 rfl rfl hf59 ?_
          refine j_ne (kn := kn) (t := 1) (tgt := 63) (np := 61) rfl (by unfold R32; omega) (fun e60 => ?_) (fun e60 => ?_)
          · omega
          · refine h_intv k_0 rfl ?_
            refine h_zret (by omega) rfl ?_
            refine ⟨_, _, rfl, oE, ?_⟩
            unfold bRO
            rw [bkl_d (by omega) (by omega), hrE, zB_l, zOK_l]
            exact ⟨rfl, heE⟩
        · rw [hrE, zOK_r] at hzE
          obtain ⟨hbE, htE, hcE⟩ := hzE
          subst hbE
          refine h_V3 rfl oA l0 ci_213 rfl rfl hf59 ?_
          refine j_ne (kn := kn) (t := 1) (tgt := 63) (np := 61) rfl (by unfold R32; omega) (fun e61 => ?_) (fun e61 => ?_)
          · refine h_aload rfl l0 rfl ?_
            refine h_getR rfl oE fr_51 ?_
            refine h_iload rfl l0 rfl ?_
            refine h_intv k_2 rfl ?_
            refine h_iadd rfl ?_
            refine h_aload rfl l0 rfl ?_
            refine h_getI rfl oE fi_13 (fun b62a b62b => ?_)
            refine x_iast (4 * m + 2) rfl oE ai_238 rfl rfl aw_238 (by omega) (by omega) (by omega) (by omega) (by omega) (by omega) (by unfold R32; omega) (fun w63 o63 q64a q64X q64F q64J q64Y q64R => ?_)
            refine h_intv k_1 rfl ?_
            refine h_zret (by omega) rfl ?_
            refine ⟨_, _, rfl, o63, ?_⟩
            unfold bRO
            rw [bkl_d (by omega) (by omega), hrE, zB_r, zOK_r]
            exact ⟨rfl, (bR_sm (smW_tr (smW_rf eB8 _) (sm_pX (by decide) q64X q64F q64J q64Y q64R)) hcE)⟩
          · omega
    · refine h_aload rfl l0 rfl ?_
      refine h_iload rfl l0 rfl ?_
      refine h_intv k_1 rfl ?_
      refine h_intv k_n1 rfl ?_
      obtain ⟨wA, hf65, oA', hA⟩ := r_set (kn := kn) o0.1 hS (by omega) hm 1 (-1) ⟨by omega, by omega⟩ ⟨by omega, by omega⟩
      have oA := hO_tr o0 oA'
      refine h_V4 rfl o0 l0 ci_213 rfl rfl hf65 ?_
      refine j_eq (kn := kn) (t := 0) (tgt := 31) (np := 19) rfl (by unfold R32; omega) (fun e66 => ?_) (fun e66 => ?_)
      · omega
      · refine h_aload rfl l0 rfl ?_
        refine h_iload rfl l0 rfl ?_
        obtain ⟨wP, bP, hf67, oP', hP⟩ := r_place (kn := kn) oA.1 hA hm
        have oP := hO_tr oA oP'
        have hb01 := zOK_01 hP
        refine h_V2 rfl oA l0 ci_213 rfl rfl hf67 ?_
        refine j_eq (kn := kn) (t := 0) (tgt := 31) (np := 27) rfl (by unfold R32; omega) (fun e68 => ?_) (fun e68 => ?_)
        · refine h_intv k_0 rfl ?_
          refine h_zret (by omega) rfl ?_
          refine ⟨_, _, rfl, oP, ?_⟩
          rw [bkl_b (by omega) (by omega)]
          first
            | exact hP
            | (rw [show bP = 0 by omega] at hP; exact hP)
            | (rw [show bP = 1 by omega] at hP; exact hP)
        · refine h_intv k_1 rfl ?_
          refine h_goto rfl ?_
          refine h_zret (by omega) rfl ?_
          refine ⟨_, _, rfl, oP, ?_⟩
          rw [bkl_b (by omega) (by omega)]
          first
            | exact hP
            | (rw [show bP = 0 by omega] at hP; exact hP)
            | (rw [show bP = 1 by omega] at hP; exact hP)
  obtain ⟨r, h1, w2, b2, h2, h3, h4⟩ := h_meth1 (nL := 4) rfl K
  rw [h2] at h1
  exact ⟨w2, b2, h1, h3, h4⟩
theorem r_line {kn : sKn} {w : sW} {B : Nat → Int} {n m : Nat} {R N : Nat → Int} {S : tS} (hw : wOk ZZ w) (hS : bR B n S w) (hNs : nmS R N w) (hNl : nlR R N w) (hn : gF w 213 53 = (m : Int)) (hm : m ≤ 40) : ∃ (w' : sW) (b : Int), fX12_readBookLine kn [.ref 213] w = some (some (hI b), w', 0, 0) ∧ hO dBR w w' ∧ bRO B n (zB (zBkl B n 400 R N (m : Int) S) (zEnd B n 400)) b w' := by
  obtain ⟨_, hkI, hto, hwd⟩ := tkU_i hS.1.2
  have gbS := tkG_b hS.2.1
  have hr1 := hNs.1.2.1
  have hr2 := hNs.1.2.2
  have hr3 := hNl.1.2.1
  have hr4 := hNl.1.2.2
  have K : Tp (tX12_readBookLine kn) (fun r => ∃ (w' : sW) (b : Int), r = (some (hI b), w', 0, 0) ∧ hO dBR w w' ∧ bRO B n (zB (zBkl B n 400 R N (m : Int) S) (zEnd B n 400)) b w') 0 (lv_args 0 [.ref 213], [], w, 0, 0) := by
    have l0 : hL (lv_args 0 [.ref 213]) (lv_args 0 [.ref 213]) := hL_ex rfl
    have o0 : hO dBR w w := hO_rf hw
    refine h_aload rfl l0 rfl ?_
    refine h_intv k_12 rfl ?_
    obtain ⟨z41, hf41, hz41⟩ := x_isWord (kn := kn) o0.1 hS.1 hS.2.1 12 (by omega)
    refine h_V2 rfl o0 l0 ci_213 rfl rfl hf41 ?_
    refine j_ne (kn := kn) (t := 1) (tgt := 82) (np := 9) rfl (by unfold R32; omega) (fun e42 => ?_) (fun e42 => ?_)
    · refine h_aload rfl l0 rfl ?_
      refine h_getI rfl o0 fi_53 (fun b43a b43b => ?_)
      rw [hn] at b43a b43b ⊢
      refine h_intv k_40 rfl ?_
      refine i_ne (kn := kn) (t := 1) (tgt := 97) (np := 91) rfl (by unfold R32; omega) (by unfold R32; omega) (fun e44 => ?_) (fun e44 => ?_)
      · refine h_aload rfl l0 rfl ?_
        refine h_intv k_4 rfl ?_
        refine h_aload rfl l0 rfl ?_
        refine h_getI rfl o0 fi_53 (fun b45a b45b => ?_)
        rw [hn] at b45a b45b ⊢
        refine h_imul rfl ?_
        rw [show 4 * (m : Int) = ((4 * m : Nat) : Int) by omega]
        obtain ⟨wA, bA, hf46, oA', hA⟩ := r_does (kn := kn) (k := (m : Int)) o0.1 hS hNs hNl (m := m) (by omega) (by omega) (by omega)
        have oA := hO_tr o0 oA'
        unfold bRO at hA
        rcases hrA : zBkl B n 400 R N (m : Int) S with eA | T
        · rw [hrA, zOK_l] at hA
          obtain ⟨hbA, heA⟩ := hA
          subst hbA
          refine h_V2 rfl o0 l0 ci_213 rfl rfl hf46 ?_
          refine j_eq (kn := kn) (t := 0) (tgt := 121) (np := 110) rfl (by unfold R32; omega) (fun e47 => ?_) (fun e47 => ?_)
          · refine h_intv k_0 rfl ?_
            refine h_zret (by omega) rfl ?_
            refine ⟨_, _, rfl, oA, ?_⟩
            unfold bRO
            rw [zB_l, zOK_l]
            exact ⟨rfl, heA⟩
          · omega
        · rw [hrA, zOK_r] at hA
          obtain ⟨hbA, hT⟩ := hA
          subst hbA
          refine h_V2 rfl o0 l0 ci_213 rfl rfl hf46 ?_
          refine j_eq (kn := kn) (t := 0) (tgt := 121) (np := 110) rfl (by unfold R32; omega) (fun e48 => ?_) (fun e48 => ?_)
          · omega
          · refine h_aload rfl l0 rfl ?_
            obtain ⟨wE, bE, hf49, oE', hE⟩ := bR_end (kn := kn) oA.1 hT
            have oE := hO_tr oA oE'
            unfold bRO at hE
            rcases hrE : zEnd B n 400 T with eE | U
            · rw [hrE, zOK_l] at hE
              obtain ⟨hbE, heE⟩ := hE
              subst hbE
              refine h_V1 rfl oA l0 ci_213 rfl rfl hf49 ?_
              refine j_eq (kn := kn) (t := 0) (tgt := 121) (np := 117) rfl (by unfold R32; omega) (fun e50 => ?_) (fun e50 => ?_)
              · refine h_intv k_0 rfl ?_
                refine h_zret (by omega) rfl ?_
                refine ⟨_, _, rfl, oE, ?_⟩
                unfold bRO
                rw [zB_r, hrE, zOK_l]
                exact ⟨rfl, heE⟩
              · omega
            · rw [hrE, zOK_r] at hE
              obtain ⟨hbE, hU⟩ := hE
              subst hbE
              refine h_V1 rfl oA l0 ci_213 rfl rfl hf49 ?_
              refine j_eq (kn := kn) (t := 0) (tgt := 121) (np := 117) rfl (by unfold R32; omega) (fun e51 => ?_) (fun e51 => ?_)
              · omega
              · refine h_intv k_1 rfl ?_
                refine h_goto rfl ?_
                refine h_zret (by omega) rfl ?_
                refine ⟨_, _, rfl, oE, ?_⟩
                unfold bRO
                rw [zB_r, hrE, zOK_r]
                exact ⟨rfl, hU⟩
      · refine h_aload rfl l0 rfl ?_
        refine h_intv k_4 rfl ?_
        obtain ⟨wD, hf52, oD', sD, fD, pD⟩ := x_bad (kn := kn) o0.1 hS.1 hS.2.1 4 ⟨by omega, by omega⟩
        have oD := hO_tr o0 (hO_mono dBR_t oD')
        rw [if_k (by omega)] at fD
        refine h_V2 rfl o0 l0 ci_213 rfl rfl hf52 ?_
        refine h_zret (by omega) rfl ?_
        refine ⟨_, _, rfl, oD, ?_⟩
        unfold bRO
        first
          | (rw [bkl_n40 (by omega) (by omega) (by omega), zB_l, zOK_l]; exact ⟨rfl, fD⟩)
          | (rw [bkl_w40 (by omega) (by omega), zB_l, zOK_l]; exact ⟨rfl, fD⟩)
    · refine h_aload rfl l0 rfl ?_
      refine h_intv k_14 rfl ?_
      obtain ⟨z53, hf53, hz53⟩ := x_isWord (kn := kn) o0.1 hS.1 hS.2.1 14 (by omega)
      refine h_V2 rfl o0 l0 ci_213 rfl rfl hf53 ?_
      refine j_ne (kn := kn) (t := 1) (tgt := 82) (np := 18) rfl (by unfold R32; omega) (fun e54 => ?_) (fun e54 => ?_)
      · refine h_aload rfl l0 rfl ?_
        refine h_getI rfl o0 fi_53 (fun b55a b55b => ?_)
        rw [hn] at b55a b55b ⊢
        refine h_intv k_40 rfl ?_
        refine i_ne (kn := kn) (t := 1) (tgt := 97) (np := 91) rfl (by unfold R32; omega) (by unfold R32; omega) (fun e56 => ?_) (fun e56 => ?_)
        · refine h_aload rfl l0 rfl ?_
          refine h_intv k_4 rfl ?_
          refine h_aload rfl l0 rfl ?_
          refine h_getI rfl o0 fi_53 (fun b57a b57b => ?_)
          rw [hn] at b57a b57b ⊢
          refine h_imul rfl ?_
          rw [show 4 * (m : Int) = ((4 * m : Nat) : Int) by omega]
          obtain ⟨wA, bA, hf58, oA', hA⟩ := r_does (kn := kn) (k := (m : Int)) o0.1 hS hNs hNl (m := m) (by omega) (by omega) (by omega)
          have oA := hO_tr o0 oA'
          unfold bRO at hA
          rcases hrA : zBkl B n 400 R N (m : Int) S with eA | T
          · rw [hrA, zOK_l] at hA
            obtain ⟨hbA, heA⟩ := hA
            subst hbA
            refine h_V2 rfl o0 l0 ci_213 rfl rfl hf58 ?_
            refine j_eq (kn := kn) (t := 0) (tgt := 121) (np := 110) rfl (by unfold R32; omega) (fun e59 => ?_) (fun e59 => ?_)
            · refine h_intv k_0 rfl ?_
              refine h_zret (by omega) rfl ?_
              refine ⟨_, _, rfl, oA, ?_⟩
              unfold bRO
              rw [zB_l, zOK_l]
              exact ⟨rfl, heA⟩
            · omega
          · rw [hrA, zOK_r] at hA
            obtain ⟨hbA, hT⟩ := hA
            subst hbA
            refine h_V2 rfl o0 l0 ci_213 rfl rfl hf58 ?_
            refine j_eq (kn := kn) (t := 0) (tgt := 121) (np := 110) rfl (by unfold R32; omega) (fun e60 => ?_) (fun e60 => ?_)
            · omega
            · refine h_aload rfl l0 rfl ?_
              obtain ⟨wE, bE, hf61, oE', hE⟩ := bR_end (kn := kn) oA.1 hT
              have oE := hO_tr oA oE'
              unfold bRO at hE
              rcases hrE : zEnd B n 400 T with eE | U
              · rw [hrE, zOK_l] at hE
                obtain ⟨hbE, heE⟩ := hE
                subst hbE
                refine h_V1 rfl oA l0 ci_213 rfl rfl hf61 ?_
                refine j_eq (kn := kn) (t := 0) (tgt := 121) (np := 117) rfl (by unfold R32; omega) (fun e62 => ?_) (fun e62 => ?_)
                · refine h_intv k_0 rfl ?_
                  refine h_zret (by omega) rfl ?_
                  refine ⟨_, _, rfl, oE, ?_⟩
                  unfold bRO
                  rw [zB_r, hrE, zOK_l]
                  exact ⟨rfl, heE⟩
                · omega
              · rw [hrE, zOK_r] at hE
                obtain ⟨hbE, hU⟩ := hE
                subst hbE
                refine h_V1 rfl oA l0 ci_213 rfl rfl hf61 ?_
                refine j_eq (kn := kn) (t := 0) (tgt := 121) (np := 117) rfl (by unfold R32; omega) (fun e63 => ?_) (fun e63 => ?_)
                · omega
                · refine h_intv k_1 rfl ?_
                  refine h_goto rfl ?_
                  refine h_zret (by omega) rfl ?_
                  refine ⟨_, _, rfl, oE, ?_⟩
                  unfold bRO
                  rw [zB_r, hrE, zOK_r]
                  exact ⟨rfl, hU⟩
        · refine h_aload rfl l0 rfl ?_
          refine h_intv k_4 rfl ?_
          obtain ⟨wD, hf64, oD', sD, fD, pD⟩ := x_bad (kn := kn) o0.1 hS.1 hS.2.1 4 ⟨by omega, by omega⟩
          have oD := hO_tr o0 (hO_mono dBR_t oD')
          rw [if_k (by omega)] at fD
          refine h_V2 rfl o0 l0 ci_213 rfl rfl hf64 ?_
          refine h_zret (by omega) rfl ?_
          refine ⟨_, _, rfl, oD, ?_⟩
          unfold bRO
          first
            | (rw [bkl_n40 (by omega) (by omega) (by omega), zB_l, zOK_l]; exact ⟨rfl, fD⟩)
            | (rw [bkl_w40 (by omega) (by omega), zB_l, zOK_l]; exact ⟨rfl, fD⟩)
      · refine h_aload rfl l0 rfl ?_
        obtain ⟨z65, hf65, hz65⟩ := x_isName (kn := kn) o0.1 hS.1 hS.2.1
        refine h_V1 rfl o0 l0 ci_213 rfl rfl hf65 ?_
        refine j_ne (kn := kn) (t := 1) (tgt := 31) (np := 25) rfl (by unfold R32; omega) (fun e66 => ?_) (fun e66 => ?_)
        · have h5 : S.1 = 5 := by omega
          have hwd5 := hwd (by omega)
          refine h_aload rfl l0 rfl ?_
          refine h_getR rfl o0 fr_19 ?_
          refine h_intv k_0 rfl ?_
          refine h_aload rfl l0 rfl ?_
          refine h_getR rfl o0 fr_14 ?_
          refine h_intv k_1 rfl ?_
          refine h_ialdj (1) rfl o0 ai_215 rfl (by omega) (by omega) (fun b67a b67b => ?_)
          rw [hNs.1.1] at b67a b67b ⊢
          refine h_aload rfl l0 rfl ?_
          refine h_getJv rfl o0 fj_12 ?_
          rw [hwd5]
          have hf68 := nmS_s (kn := kn) (N := N) (X := S.2.2.2.1) o0.1 hNs (tkG_X hS.2.1 h5)
          have y1 := fnd_b N 0 S.2.2.2.1 (R 1).toNat 0
          refine h_S4 rfl o0 l0 rfl rfl hf68 ?_
          refine h_intv k_n1 rfl ?_
          refine i_ne (kn := kn) (t := 1) (tgt := 82) (np := 53) rfl (by unfold R32; omega) (by unfold R32; omega) (fun e69 => ?_) (fun e69 => ?_)
          · refine h_aload rfl l0 rfl ?_
            refine h_getI rfl o0 fi_53 (fun b70a b70b => ?_)
            rw [hn] at b70a b70b ⊢
            refine h_intv k_40 rfl ?_
            refine i_ne (kn := kn) (t := 1) (tgt := 97) (np := 91) rfl (by unfold R32; omega) (by unfold R32; omega) (fun e71 => ?_) (fun e71 => ?_)
            · refine h_aload rfl l0 rfl ?_
              refine h_intv k_4 rfl ?_
              refine h_aload rfl l0 rfl ?_
              refine h_getI rfl o0 fi_53 (fun b72a b72b => ?_)
              rw [hn] at b72a b72b ⊢
              refine h_imul rfl ?_
              rw [show 4 * (m : Int) = ((4 * m : Nat) : Int) by omega]
              obtain ⟨wA, bA, hf73, oA', hA⟩ := r_does (kn := kn) (k := (m : Int)) o0.1 hS hNs hNl (m := m) (by omega) (by omega) (by omega)
              have oA := hO_tr o0 oA'
              unfold bRO at hA
              rcases hrA : zBkl B n 400 R N (m : Int) S with eA | T
              · rw [hrA, zOK_l] at hA
                obtain ⟨hbA, heA⟩ := hA
                subst hbA
                refine h_V2 rfl o0 l0 ci_213 rfl rfl hf73 ?_
                refine j_eq (kn := kn) (t := 0) (tgt := 121) (np := 110) rfl (by unfold R32; omega) (fun e74 => ?_) (fun e74 => ?_)
                · refine h_intv k_0 rfl ?_
                  refine h_zret (by omega) rfl ?_
                  refine ⟨_, _, rfl, oA, ?_⟩
                  unfold bRO
                  rw [zB_l, zOK_l]
                  exact ⟨rfl, heA⟩
                · omega
              · rw [hrA, zOK_r] at hA
                obtain ⟨hbA, hT⟩ := hA
                subst hbA
                refine h_V2 rfl o0 l0 ci_213 rfl rfl hf73 ?_
                refine j_eq (kn := kn) (t := 0) (tgt := 121) (np := 110) rfl (by unfold R32; omega) (fun e75 => ?_) (fun e75 => ?_)
                · omega
                · refine h_aload rfl l0 rfl ?_
                  obtain ⟨wE, bE, hf76, oE', hE⟩ := bR_end (kn := kn) oA.1 hT
                  have oE := hO_tr oA oE'
                  unfold bRO at hE
                  rcases hrE : zEnd B n 400 T with eE | U
                  · rw [hrE, zOK_l] at hE
                    obtain ⟨hbE, heE⟩ := hE
                    subst hbE
                    refine h_V1 rfl oA l0 ci_213 rfl rfl hf76 ?_
                    refine j_eq (kn := kn) (t := 0) (tgt := 121) (np := 117) rfl (by unfold R32; omega) (fun e77 => ?_) (fun e77 => ?_)
                    · refine h_intv k_0 rfl ?_
                      refine h_zret (by omega) rfl ?_
                      refine ⟨_, _, rfl, oE, ?_⟩
                      unfold bRO
                      rw [zB_r, hrE, zOK_l]
                      exact ⟨rfl, heE⟩
                    · omega
                  · rw [hrE, zOK_r] at hE
                    obtain ⟨hbE, hU⟩ := hE
                    subst hbE
                    refine h_V1 rfl oA l0 ci_213 rfl rfl hf76 ?_
                    refine j_eq (kn := kn) (t := 0) (tgt := 121) (np := 117) rfl (by unfold R32; omega) (fun e78 => ?_) (fun e78 => ?_)
                    · omega
                    · refine h_intv k_1 rfl ?_
                      refine h_goto rfl ?_
                      refine h_zret (by omega) rfl ?_
                      refine ⟨_, _, rfl, oE, ?_⟩
                      unfold bRO
                      rw [zB_r, hrE, zOK_r]
                      exact ⟨rfl, hU⟩
            · refine h_aload rfl l0 rfl ?_
              refine h_intv k_4 rfl ?_
              obtain ⟨wD, hf79, oD', sD, fD, pD⟩ := x_bad (kn := kn) o0.1 hS.1 hS.2.1 4 ⟨by omega, by omega⟩
              have oD := hO_tr o0 (hO_mono dBR_t oD')
              rw [if_k (by omega)] at fD
              refine h_V2 rfl o0 l0 ci_213 rfl rfl hf79 ?_
              refine h_zret (by omega) rfl ?_
              refine ⟨_, _, rfl, oD, ?_⟩
              unfold bRO
              first
                | (rw [bkl_n40 (by omega) (by omega) (by omega), zB_l, zOK_l]; exact ⟨rfl, fD⟩)
                | (rw [bkl_w40 (by omega) (by omega), zB_l, zOK_l]; exact ⟨rfl, fD⟩)
          · refine h_aload rfl l0 rfl ?_
            refine h_getR rfl o0 fr_19 ?_
            refine h_intv k_10 rfl ?_
            refine h_aload rfl l0 rfl ?_
            refine h_getR rfl o0 fr_14 ?_
            refine h_intv k_2 rfl ?_
            refine h_ialdj (2) rfl o0 ai_215 rfl (by omega) (by omega) (fun b80a b80b => ?_)
            rw [hNl.1.1] at b80a b80b ⊢
            refine h_aload rfl l0 rfl ?_
            refine h_getJv rfl o0 fj_12 ?_
            rw [hwd5]
            have hf81 := nlR_s (kn := kn) (N := N) (X := S.2.2.2.1) o0.1 hNl (tkG_X hS.2.1 h5)
            have y2 := fnd_b N 10 S.2.2.2.1 (R 2).toNat 0
            refine h_S4 rfl o0 l0 rfl rfl hf81 ?_
            refine h_intv k_n1 rfl ?_
            refine i_ne (kn := kn) (t := 1) (tgt := 82) (np := 76) rfl (by unfold R32; omega) (by unfold R32; omega) (fun e82 => ?_) (fun e82 => ?_)
            · refine h_aload rfl l0 rfl ?_
              refine h_getI rfl o0 fi_53 (fun b83a b83b => ?_)
              rw [hn] at b83a b83b ⊢
              refine h_intv k_40 rfl ?_
              refine i_ne (kn := kn) (t := 1) (tgt := 97) (np := 91) rfl (by unfold R32; omega) (by unfold R32; omega) (fun e84 => ?_) (fun e84 => ?_)
              · refine h_aload rfl l0 rfl ?_
                refine h_intv k_4 rfl ?_
                refine h_aload rfl l0 rfl ?_
                refine h_getI rfl o0 fi_53 (fun b85a b85b => ?_)
                rw [hn] at b85a b85b ⊢
                refine h_imul rfl ?_
                rw [show 4 * (m : Int) = ((4 * m : Nat) : Int) by omega]
                obtain ⟨wA, bA, hf86, oA', hA⟩ := r_does (kn := kn) (k := (m : Int)) o0.1 hS hNs hNl (m := m) (by omega) (by omega) (by omega)
                have oA := hO_tr o0 oA'
                unfold bRO at hA
                rcases hrA : zBkl B n 400 R N (m : Int) S with eA | T
                · rw [hrA, zOK_l] at hA
                  obtain ⟨hbA, heA⟩ := hA
                  subst hbA
                  refine h_V2 rfl o0 l0 ci_213 rfl rfl hf86 ?_
                  refine j_eq (kn := kn) (t := 0) (tgt := 121) (np := 110) rfl (by unfold R32; omega) (fun e87 => ?_) (fun e87 => ?_)
                  · refine h_intv k_0 rfl ?_
                    refine h_zret (by omega) rfl ?_
                    refine ⟨_, _, rfl, oA, ?_⟩
                    unfold bRO
                    rw [zB_l, zOK_l]
                    exact ⟨rfl, heA⟩
                  · omega
                · rw [hrA, zOK_r] at hA
                  obtain ⟨hbA, hT⟩ := hA
                  subst hbA
                  refine h_V2 rfl o0 l0 ci_213 rfl rfl hf86 ?_
                  refine j_eq (kn := kn) (t := 0) (tgt := 121) (np := 110) rfl (by unfold R32; omega) (fun e88 => ?_) (fun e88 => ?_)
                  · omega
                  · refine h_aload rfl l0 rfl ?_
                    obtain ⟨wE, bE, hf89, oE', hE⟩ := bR_end (kn := kn) oA.1 hT
                    have oE := hO_tr oA oE'
                    unfold bRO at hE
                    rcases hrE : zEnd B n 400 T with eE | U
                    · rw [hrE, zOK_l] at hE
                      obtain ⟨hbE, heE⟩ := hE
                      subst hbE
                      refine h_V1 rfl oA l0 ci_213 rfl rfl hf89 ?_
                      refine j_eq (kn := kn) (t := 0) (tgt := 121) (np := 117) rfl (by unfold R32; omega) (fun e90 => ?_) (fun e90 => ?_)
                      · refine h_intv k_0 rfl ?_
                        refine h_zret (by omega) rfl ?_
                        refine ⟨_, _, rfl, oE, ?_⟩
                        unfold bRO
                        rw [zB_r, hrE, zOK_l]
                        exact ⟨rfl, heE⟩
                      · omega
                    · rw [hrE, zOK_r] at hE
                      obtain ⟨hbE, hU⟩ := hE
                      subst hbE
                      refine h_V1 rfl oA l0 ci_213 rfl rfl hf89 ?_
                      refine j_eq (kn := kn) (t := 0) (tgt := 121) (np := 117) rfl (by unfold R32; omega) (fun e91 => ?_) (fun e91 => ?_)
                      · omega
                      · refine h_intv k_1 rfl ?_
                        refine h_goto rfl ?_
                        refine h_zret (by omega) rfl ?_
                        refine ⟨_, _, rfl, oE, ?_⟩
                        unfold bRO
                        rw [zB_r, hrE, zOK_r]
                        exact ⟨rfl, hU⟩
              · refine h_aload rfl l0 rfl ?_
                refine h_intv k_4 rfl ?_
                obtain ⟨wD, hf92, oD', sD, fD, pD⟩ := x_bad (kn := kn) o0.1 hS.1 hS.2.1 4 ⟨by omega, by omega⟩
                have oD := hO_tr o0 (hO_mono dBR_t oD')
                rw [if_k (by omega)] at fD
                refine h_V2 rfl o0 l0 ci_213 rfl rfl hf92 ?_
                refine h_zret (by omega) rfl ?_
                refine ⟨_, _, rfl, oD, ?_⟩
                unfold bRO
                first
                  | (rw [bkl_n40 (by omega) (by omega) (by omega), zB_l, zOK_l]; exact ⟨rfl, fD⟩)
                  | (rw [bkl_w40 (by omega) (by omega), zB_l, zOK_l]; exact ⟨rfl, fD⟩)
            · refine h_aload rfl l0 rfl ?_
              refine h_intv k_3 rfl ?_
              obtain ⟨wD, hf93, oD', sD, fD, pD⟩ := x_bad (kn := kn) o0.1 hS.1 hS.2.1 3 ⟨by omega, by omega⟩
              have oD := hO_tr o0 (hO_mono dBR_t oD')
              rw [if_k (by omega)] at fD
              refine h_V2 rfl o0 l0 ci_213 rfl rfl hf93 ?_
              refine h_zret (by omega) rfl ?_
              refine ⟨_, _, rfl, oD, ?_⟩
              unfold bRO
              rw [bkl_nn (by omega) (by omega), zB_l, zOK_l]
              exact ⟨rfl, fD⟩
        · refine h_aload rfl l0 rfl ?_
          refine h_intv k_1 rfl ?_
          obtain ⟨wD, hf94, oD', sD, fD, pD⟩ := x_bad (kn := kn) o0.1 hS.1 hS.2.1 1 ⟨by omega, by omega⟩
          have oD := hO_tr o0 (hO_mono dBR_t oD')
          rw [if_k (by omega)] at fD
          refine h_V2 rfl o0 l0 ci_213 rfl rfl hf94 ?_
          refine h_zret (by omega) rfl ?_
          refine ⟨_, _, rfl, oD, ?_⟩
          unfold bRO
          rw [bkl_bad (by omega) (by omega), zB_l, zOK_l]
          exact ⟨rfl, fD⟩
  obtain ⟨r, h1, w2, b2, h2, h3, h4⟩ := h_meth1 (nL := 1) rfl K
  rw [h2] at h1
  exact ⟨w2, b2, h1, h3, h4⟩
def dBT9 : List (Nat × Nat) := (61, 54) :: (87, 999) :: (dH_lR ++ dX12_layAside ++ dX12_stay)
theorem dBT91 : msub dH_lR dBT9 = true := by decide +kernel
theorem dBT92 : msub dX12_layAside dBT9 = true := by decide +kernel
theorem dBT93 : msub dX12_stay dBT9 = true := by decide +kernel
theorem b9_e {kn : sKn} {w0 w : sW} {lv : List (Nat × Value)} {x wv : Int} {k : Nat} (hk : k ≤ 40) (hx : x = 0 ∨ x = 1) (hwv : 0 ≤ wv ∧ wv ≤ 69) (o0 : hO dBT9 w0 w) (l0 : hL lv [(0, .ref 213), (1, hI x), (2, hI k), (3, hI wv)]) : Tp (tX12_book kn) (fun r => ∃ (w' : sW) (v : Int), r = (some (hI v), w', 0, 0) ∧ hO dBT9 w0 w') 127 (lv, [], w, 0, 0) := by
  refine h_aload rfl l0 rfl ?_
  refine h_getR rfl o0 fr_52 ?_
  refine h_intv k_0 rfl ?_
  refine h_iload rfl l0 rfl ?_
  refine h_iastj (0) rfl o0 ai_239 rfl rfl aw_239 (by omega) (by omega) (by omega) (by omega) (by omega) (by unfold R32; omega) (fun w41 o41 q42a q42b q42c => ?_)
  refine h_aload rfl l0 rfl ?_
  refine h_getR rfl o41 fr_52 ?_
  refine h_intv k_1 rfl ?_
  refine h_iload rfl l0 rfl ?_
  refine h_iastj (1) rfl o41 ai_239 rfl rfl aw_239 (by omega) (by omega) (by omega) (by omega) (by omega) (by unfold R32; omega) (fun w43 o43 q44a q44b q44c => ?_)
  refine h_aload rfl l0 rfl ?_
  refine h_getR rfl o43 fr_52 ?_
  refine h_intv k_2 rfl ?_
  refine h_aload rfl l0 rfl ?_
  refine h_getR rfl o43 fr_14 ?_
  refine h_intv k_94 rfl ?_
  refine h_ialdj (94) rfl o43 ai_215 rfl (by omega) (by omega) (fun b45a b45b => ?_)
  refine h_iastj (2) rfl o43 ai_239 rfl rfl aw_239 (by omega) (by omega) (by omega) (by omega) (by omega) (by unfold R32; omega) (fun w46 o46 q47a q47b q47c => ?_)
  refine h_aload rfl l0 rfl ?_
  refine h_getR rfl o46 fr_52 ?_
  refine h_intv k_3 rfl ?_
  refine h_aload rfl l0 rfl ?_
  refine h_getR rfl o46 fr_14 ?_
  refine h_intv k_96 rfl ?_
  refine h_ialdj (96) rfl o46 ai_215 rfl (by omega) (by omega) (fun b48a b48b => ?_)
  refine h_iastj (3) rfl o46 ai_239 rfl rfl aw_239 (by omega) (by omega) (by omega) (by omega) (by omega) (by unfold R32; omega) (fun w49 o49 q50a q50b q50c => ?_)
  refine h_aload rfl l0 rfl ?_
  refine h_intv k_1 rfl ?_
  refine h_putK (by rfl) rfl o49 fi_54 rfl (by omega) (by omega) (fun w51 o51 q52a q52b q52c => ?_)
  refine h_aload rfl l0 rfl ?_
  refine h_iload rfl l0 rfl ?_
  refine h_intv k_1 rfl ?_
  refine i_ne (kn := kn) (t := 1) (tgt := 186) (np := 178) rfl (by unfold R32; omega) (by unfold R32; omega) (fun e53 => ?_) (fun e53 => ?_)
  · refine h_intv k_0 rfl ?_
    obtain ⟨wA, hf54, oA'⟩ := s_stayR (kn := kn) o51.1 0 ⟨by omega, by omega⟩
    have oA : hO dBT9 w0 wA := hO_tr o51 (hO_mono dBT93 oA')
    refine h_W2 rfl o51 l0 ci_213 rfl rfl hf54 ?_
    refine h_iload rfl l0 rfl ?_
    refine j_ne (kn := kn) (t := 1) (tgt := 198) (np := 194) rfl (by unfold R32; omega) (fun e55 => ?_) (fun e55 => ?_)
    · refine h_iload rfl l0 rfl ?_
      refine h_iret rfl ?_
      exact ⟨_, _, rfl, oA⟩
    · refine h_intv k_n1 rfl ?_
      refine h_goto rfl ?_
      refine h_iret rfl ?_
      exact ⟨_, _, rfl, oA⟩
  · refine h_iload rfl l0 rfl ?_
    refine j_le (kn := kn) (t := 5) (tgt := 186) (np := 182) rfl (by unfold R32; omega) (fun e56 => ?_) (fun e56 => ?_)
    · refine h_intv k_0 rfl ?_
      obtain ⟨wA, hf57, oA'⟩ := s_stayR (kn := kn) o51.1 0 ⟨by omega, by omega⟩
      have oA : hO dBT9 w0 wA := hO_tr o51 (hO_mono dBT93 oA')
      refine h_W2 rfl o51 l0 ci_213 rfl rfl hf57 ?_
      refine h_iload rfl l0 rfl ?_
      refine j_ne (kn := kn) (t := 1) (tgt := 198) (np := 194) rfl (by unfold R32; omega) (fun e58 => ?_) (fun e58 => ?_)
      · refine h_iload rfl l0 rfl ?_
        refine h_iret rfl ?_
        exact ⟨_, _, rfl, oA⟩
      · refine h_intv k_n1 rfl ?_
        refine h_goto rfl ?_
        refine h_iret rfl ?_
        exact ⟨_, _, rfl, oA⟩
    · refine h_intv k_1 rfl ?_
      refine h_goto rfl ?_
      obtain ⟨wA, hf59, oA'⟩ := s_stayR (kn := kn) o51.1 1 ⟨by omega, by omega⟩
      have oA : hO dBT9 w0 wA := hO_tr o51 (hO_mono dBT93 oA')
      refine h_W2 rfl o51 l0 ci_213 rfl rfl hf59 ?_
      refine h_iload rfl l0 rfl ?_
      refine j_ne (kn := kn) (t := 1) (tgt := 198) (np := 194) rfl (by unfold R32; omega) (fun e60 => ?_) (fun e60 => ?_)
      · refine h_iload rfl l0 rfl ?_
        refine h_iret rfl ?_
        exact ⟨_, _, rfl, oA⟩
      · refine h_intv k_n1 rfl ?_
        refine h_goto rfl ?_
        refine h_iret rfl ?_
        exact ⟨_, _, rfl, oA⟩
theorem b9_x {kn : sKn} {w0 w : sW} {lv : List (Nat × Value)} {x wv : Int} {k : Nat} (hk : k ≤ 40) (hx : x = 0 ∨ x = 1) (hwv : 0 ≤ wv ∧ wv ≤ 69) (h0 : wv ≠ 0) (o0 : hO dBT9 w0 w) (l0 : hL lv [(0, .ref 213), (1, hI x), (2, hI k), (3, hI wv)]) : Tp (tX12_book kn) (fun r => ∃ (w' : sW) (v : Int), r = (some (hI v), w', 0, 0) ∧ hO dBT9 w0 w') 73 (lv, [], w, 0, 0) := by
  refine h_iload rfl l0 rfl ?_
  refine h_aload rfl l0 rfl ?_
  refine h_getI rfl o0 fi_53 (fun b41a b41b => ?_)
  refine i_ge (kn := kn) (t := 3) (tgt := 127) (np := 81) rfl (by unfold R32; omega) (by unfold R32; omega) (fun e42 => ?_) (fun e42 => ?_)
  · exact b9_e (by omega) hx hwv o0 l0
  · refine h_iload rfl l0 rfl ?_
    refine j_ne (kn := kn) (t := 1) (tgt := 127) (np := 85) rfl (by unfold R32; omega) (fun e43 => ?_) (fun e43 => ?_)
    · exact b9_e (by omega) hx hwv o0 l0
    · omega
theorem b9_l {kn : sKn} {w0 : sW} {x : Int} (hx : x = 0 ∨ x = 1) : ∀ (m k : Nat) (w : sW) (lv : List (Nat × Value)) (wv y : Int), k + m = 40 → y = (k : Int) → wv = 0 → lnI w → hO dBT9 w0 w → hL lv [(0, .ref 213), (1, hI x), (2, hI y), (3, hI wv)] → Tp (tX12_book kn) (fun r => ∃ (w' : sW) (v : Int), r = (some (hI v), w', 0, 0) ∧ hO dBT9 w0 w') 73 (lv, [], w, 0, 0) := by
  intro m
  induction m with
  | zero =>
    intro k w lv wv y hm hy hwv hI o0 l0
    subst hy
    refine h_iload rfl l0 rfl ?_
    refine h_aload rfl l0 rfl ?_
    refine h_getI rfl o0 fi_53 (fun b41a b41b => ?_)
    refine i_ge (kn := kn) (t := 3) (tgt := 127) (np := 81) rfl (by unfold R32; omega) (by unfold R32; omega) (fun e42 => ?_) (fun e42 => ?_)
    · exact b9_e (by omega) hx (by omega) o0 l0
    · omega
  | succ m ih =>
    intro k w lv wv y hm hy hwv hI o0 l0
    subst hy
    refine h_iload rfl l0 rfl ?_
    refine h_aload rfl l0 rfl ?_
    refine h_getI rfl o0 fi_53 (fun b41a b41b => ?_)
    refine i_ge (kn := kn) (t := 3) (tgt := 127) (np := 81) rfl (by unfold R32; omega) (by unfold R32; omega) (fun e42 => ?_) (fun e42 => ?_)
    · exact b9_e (by omega) hx (by omega) o0 l0
    · refine h_iload rfl l0 rfl ?_
      refine j_ne (kn := kn) (t := 1) (tgt := 127) (np := 85) rfl (by unfold R32; omega) (fun e43 => ?_) (fun e43 => ?_)
      · exact b9_e (by omega) hx (by omega) o0 l0
      · refine h_aload rfl l0 rfl ?_
        refine h_intv k_4 rfl ?_
        refine h_iload rfl l0 rfl ?_
        refine h_imul rfl ?_
        rw [show (4 * (k : Int)) = ((4 * k : Nat) : Int) by omega]
        have gk := hI k (by omega)
        obtain ⟨zW, hf44, hzW⟩ := s_whyLine (kn := kn) o0.1 k (by omega) gk
        refine h_V2 rfl o0 l0 ci_213 rfl rfl hf44 ?_
        refine h_istore rfl l0 (fun vl45 l45 => ?_)
        refine h_iload rfl l45 rfl ?_
        refine j_eq (kn := kn) (t := 0) (tgt := 114) (np := 97) rfl (by unfold R32; omega) (fun e46 => ?_) (fun e46 => ?_)
        · refine h_aload rfl l45 rfl ?_
          refine h_intv k_4 rfl ?_
          refine h_iload rfl l45 rfl ?_
          refine h_imul rfl ?_
          rw [show (4 * (k : Int)) = ((4 * k : Nat) : Int) by omega]
          obtain ⟨wL, hf47, oL'⟩ := s_liveR (kn := kn) o0.1 k (by omega) gk
          have oL : hO dBT9 w0 wL := hO_tr o0 (hO_mono dBT91 oL')
          have iL := lnI_fr o0.1 oL' (by decide +kernel) (by decide +kernel) hI
          refine h_W2 rfl o0 l45 ci_213 rfl rfl hf47 ?_
          refine h_iincv k_1 rfl l45 rfl (fun vl48 l48 => ?_)
          refine h_goto rfl ?_
          exact ih (k + 1) _ _ zW ((k : Int) + 1) (by omega) (by omega) (by omega) iL oL l48
        · refine h_iload rfl l45 rfl ?_
          refine h_intv k_10 rfl ?_
          refine h_aload rfl l45 rfl ?_
          refine h_getR rfl o0 fr_51 ?_
          refine h_intv k_4 rfl ?_
          refine h_iload rfl l45 rfl ?_
          refine h_imul rfl ?_
          refine h_ialdj (4 * k) rfl o0 ai_238 rfl (by omega) (by omega) (fun b49a b49b => ?_)
          have g2 := gk.1
          obtain ⟨wt, hwt⟩ : ∃ z : Int, gX w 238 (4 * k) = z := ⟨_, rfl⟩
          rw [hwt] at g2 b49a b49b ⊢
          refine h_imul rfl ?_
          refine h_iadd rfl ?_
          refine h_istore rfl l45 (fun vl50 l50 => ?_)
          refine h_goto rfl ?_
          exact b9_x (by omega) hx (by omega) (by omega) o0 l50
theorem b9_65 {kn : sKn} {w0 w : sW} {lv : List (Nat × Value)} {x : Int} (hx : x = 0 ∨ x = 1) (hLI : lnI w) (o0 : hO dBT9 w0 w) (l0 : hL lv [(0, .ref 213), (1, hI x)]) : Tp (tX12_book kn) (fun r => ∃ (w' : sW) (v : Int), r = (some (hI v), w', 0, 0) ∧ hO dBT9 w0 w') 65 (lv, [], w, 0, 0) := by
  refine h_aload rfl l0 rfl ?_
  obtain ⟨wA, hf41, oA'⟩ := s_layAsideR (kn := kn) o0.1
  have oA : hO dBT9 w0 wA := hO_tr o0 (hO_mono dBT92 oA')
  have iA := lnI_fr o0.1 oA' (by decide +kernel) (by decide +kernel) hLI
  refine h_W1 rfl o0 l0 ci_213 rfl rfl hf41 ?_
  refine h_intv k_0 rfl ?_
  refine h_istore rfl l0 (fun vl42 l42 => ?_)
  refine h_intv k_0 rfl ?_
  refine h_istore rfl l42 (fun vl43 l43 => ?_)
  exact b9_l hx 40 0 _ _ 0 0 rfl rfl rfl iA oA l43
def dBR2 : List (Nat × Nat) := (61, 53) :: dBR
theorem dBR2_k : msub dBR dBR2 = true := by decide +kernel
theorem b_bkR_l {kn : sKn} {w0 : sW} {B : Nat → Int} {n : Nat} {R N : Nat → Int} {Z : zE ⊕ Int} {x : Int} (hx : x = 0 ∨ x = 1) (hN0 : nmS R N w0) (hL0 : nlR R N w0) : ∀ (f k : Nat) (S : tS) (w : sW) (lv : List (Nat × Value)), k + f = 42 → k ≤ 40 → zBk B n 400 R N f S (k : Int) = Z → hO dBR2 w0 w → bR B n S w → gF w 213 53 = (k : Int) → lnI w → hL lv [(0, .ref 213), (1, hI x)] → Tp (tX12_book kn) (fun r => ∃ (w' : sW) (v : Int), r = (some (hI v), w', 0, 0) ∧ gF w' 213 10 = zFt Z) 30 (lv, [], w, 0, 0) := by
  intro f
  induction f with
  | zero =>
    intro k S w lv hkf hk
    omega
  | succ f ih =>
    intro k S w lv hkf hk hZ oW hS hn hLI l0
    have o0 : hO dBR2 w w := hO_rf oW.1
    have hNs := nmS_hO oW (by decide +kernel) hN0
    have hNl := nlR_hO oW (by decide +kernel) hL0
    obtain ⟨_, hkI, hto, hwd⟩ := tkU_i hS.1.2
    refine h_aload rfl l0 rfl ?_
    refine h_getI rfl o0 fi_7 (fun b41a b41b => ?_)
    refine j_eq (kn := kn) (t := 0) (tgt := 65) (np := 37) rfl (by unfold R32; omega) (fun e42 => ?_) (fun e42 => ?_)
    · refine Tp_mono ?_ (b9_65 (w0 := w) hx hLI (hO_rf oW.1) l0)
      intro r h
      obtain ⟨w', v, e1, e2⟩ := h
      refine ⟨w', v, e1, ?_⟩
      rw [← hZ, bk_0 (by omega), zFt_r, fr_gF (t := 61) (c := 213) (kf := 10) e2.2 rfl (by decide +kernel) oW.1 (by decide +kernel)]
      exact hS.2.2
    · have hS0 : S.1 ≠ 0 := by omega
      refine h_aload rfl l0 rfl ?_
      obtain ⟨wA, zA, hf43, oA', hA⟩ := r_line (kn := kn) o0.1 hS hNs hNl hn hk
      obtain ⟨wQ, zQ, hfQ, oQ', qQ, n39⟩ := s_readBL (kn := kn) o0.1 k hn
      obtain ⟨ew, ez⟩ := one_r2 hf43 hfQ
      subst ew
      have hzQ := qQ.1
      have hz01 := zOK_01 hA
      have ez := hI_ne ez (by unfold R32; omega) (by unfold R32; omega)
      subst ez
      have oA := hO_tr o0 (hO_mono dBR2_k oA')
      have eN : gF wQ 213 53 = (k : Int) := by rw [fr_gF (t := 61) (c := 213) oA'.2 rfl (by decide +kernel) o0.1 (by decide +kernel)]; exact hn
      unfold bRO at hA
      refine h_V1 rfl o0 l0 ci_213 rfl rfl hf43 ?_
      refine j_ne (kn := kn) (t := 1) (tgt := 52) (np := 44) rfl (by unfold R32; omega) (fun e44 => ?_) (fun e44 => ?_)
      · refine h_aload rfl l0 rfl ?_
        refine h_dup rfl rfl ?_
        refine h_getI rfl oA fi_53 (fun b45a b45b => ?_)
        rw [eN] at b45a b45b ⊢
        have n39 := n39 (by omega)
        refine h_intv k_1 rfl ?_
        refine h_iadd rfl ?_
        refine x_putI rfl oA fi_53 rfl (by omega) (by omega) (fun w46 o46 q47a q47F q47X q47J q47Y q47R => ?_)
        refine h_goto rfl ?_
        obtain ⟨U, hr9, hU⟩ := zOK_1 hA (by omega)
        rcases hr : zBkl B n 400 R N (k : Int) S with e | T
        · rw [hr, zB_l] at hr9
          cases hr9
        · rw [hr, zB_r] at hr9
          have qQ1 := qQ
          rw [show zQ = 1 by omega] at qQ1
          exact ih (k + 1) U w46 lv (by omega) (by omega) (by rw [← hZ, bk_s hS0, hr, zB_r, hr9, zB_r]; rfl) (hO_tr oW o46) (bR_sm (smW_tr (smW_rf eB8 _) (sm_pI (by decide) q47F q47X q47J q47Y q47R)) hU) (by rw [q47a]; omega) (lnI_s hn hLI qQ1 q47a (fun j => q47X 238 j)) l0
      · refine h_intv k_n2 rfl ?_
        refine h_aload rfl l0 rfl ?_
        refine h_getI rfl oA fi_11 (fun b48a b48b => ?_)
        refine h_isub rfl ?_
        refine h_iret rfl ?_
        refine ⟨_, _, rfl, ?_⟩
        obtain ⟨e9, hr9, he9⟩ := zOK_0 hA (by omega)
        rw [he9, ← hZ, bk_s hS0]
        rcases hr : zBkl B n 400 R N (k : Int) S with e | T
        · rw [hr, zB_l] at hr9
          rw [zB_l]
          cases hr9
          exact zFt_l _ |>.symm
        · rw [hr, zB_r] at hr9
          rw [zB_r, hr9, zB_l]
          exact (zFt_l _).symm
def dBR5 : List (Nat × Nat) := (61, 0) :: (61, 53) :: dBG
theorem dBR5_G : msub dBG dBR5 = true := by decide +kernel
def eBR5 : List (Nat × Nat × Nat) := [(0, 213, 0), (0, 213, 53)]
theorem b_bookR {kn : sKn} {w0 : sW} {B : Nat → Int} {n : Nat} {R N : Nat → Int} (hw : wOk ZZ w0) (hN : nmS R N w0) (hLn : nlR R N w0) (h2 : gF w0 213 2 = (n : Int)) (hB : ∀ i, i < n → gX w0 214 i = B i) (hn940 : n ≤ 940) (hbb : ∀ i, i < n → 0 ≤ B i ∧ B i ≤ 255) (x : Int) (hx : R32 x) (hx01 : x = 0 ∨ x = 1) : ∃ (w' : sW) (v : Int), fX12_book kn [.ref 213, hI x] w0 = some (some (hI v), w', 0, 0) ∧ gF w' 213 10 = zFt (zBook B n R N) := by
  have K : Tp (tX12_book kn) (fun r => ∃ (w' : sW) (v : Int), r = (some (hI v), w', 0, 0) ∧ gF w' 213 10 = zFt (zBook B n R N)) 0 (lv_args 0 [.ref 213, hI x], [], w0, 0, 0) := by
    have l0 : hL (lv_args 0 [.ref 213, hI x]) (lv_args 0 [.ref 213, hI x]) := hL_ex rfl
    have o0 : hO dBR5 w0 w0 := hO_rf hw
    refine h_aload rfl l0 rfl ?_
    refine h_intv k_0 rfl ?_
    refine x_putI rfl o0 fi_0 rfl (by omega) (by omega) (fun w41 o41 q42a q42F q42X q42J q42Y q42R => ?_)
    refine h_iload rfl l0 rfl ?_
    refine h_intv k_0 rfl ?_
    refine h_intv k_1 rfl ?_
    obtain ⟨z43, hf43, hz43, hq43⟩ := s_isIn (kn := kn) o41.1 x 0 1 hx ⟨by omega, by omega⟩ ⟨by omega, by omega⟩
    refine h_S3 rfl o41 l0 rfl rfl hf43 ?_
    refine j_ne (kn := kn) (t := 1) (tgt := 18) (np := 14) rfl (by unfold R32; omega) (fun e44 => ?_) (fun e44 => ?_)
    · refine h_aload rfl l0 rfl ?_
      refine h_intv k_400 rfl ?_
      obtain ⟨wA, hf45, oA', sA, tA⟩ := x_beginR (kn := kn) 400 o41.1 ((q42F 213 2 (by decide)).trans h2) (fun i hi => (q42X 214 i).trans (hB i hi)) hn940 (by omega) hbb
      have fA := f_begR400 o41.1 hf45
      have oA : hO dBR5 w0 wA := hO_tr o41 (hO_mono dBR5_G oA')
      refine h_W2 rfl o41 l0 ci_213 rfl rfl hf45 ?_
      refine h_aload rfl l0 rfl ?_
      refine h_intv k_0 rfl ?_
      refine x_putI rfl oA fi_53 rfl (by omega) (by omega) (fun w46 o46 q47a q47F q47X q47J q47Y q47R => ?_)
      have h01 := hq43.mp (by omega)
      exact b_bkR_l (w0 := w46) (x := x) hx01 (nmS_hO o46 (by decide +kernel) hN) (nlR_hO o46 (by decide +kernel) hLn) 42 0 (lexT B n 400 0) w46 _ rfl (by omega) rfl (hO_rf o46.1) ⟨tkR_sm (smW_tr (smW_rf eB8 _) (sm_pI (by decide) q47F q47X q47J q47Y q47R)) (by decide) tA, ⟨0, by omega, rfl⟩, (q47F 213 10 (by decide)).trans fA⟩ (by rw [q47a]; rfl) (fun k hk => by rw [q47a] at hk; omega) l0
    · have := hq43.mpr (by omega)
      omega
  obtain ⟨r, h1, w2, v, h2', h3⟩ := h_meth1 (nL := 4) rfl K
  rw [h2'] at h1
  exact ⟨w2, v, h1, h3⟩
end
