noncomputable section
/-- all that the takes write; all that they and the flags write; all but tokens -/
def eRS : List (Nat × Nat × Nat) := eRT ++ [(0, 213, 24), (0, 213, 25), (0, 213, 26)]
def eRQ : List (Nat × Nat × Nat) := [(0, 213, 10), (0, 213, 11), (0, 213, 13), (0, 213, 24), (0, 213, 25), (0, 213, 26), (2, 216, 0), (3, 221, 0)]
def eRA : List (Nat × Nat × Nat) := eRS ++ [(2, 216, 0), (3, 221, 0)]
def rpR (B : Nat → Int) (n : Nat) (Z : zZ) (w : sW) : Prop := tkR B n 900 Z.1 w ∧ tkG B n 900 Z.1 ∧ pR Z.2.1 Z.2.2.1 w ∧ gF w 213 24 = Z.2.2.2.1 ∧ gF w 213 25 = Z.2.2.2.2.1 ∧ gF w 213 26 = Z.2.2.2.2.2
theorem if_k {a k : Int} (h : a ≠ 1 ∨ k = 1) : (if a = 1 then (1 : Int) else k) = k := by
  split
  · omega
  · rfl
theorem x_readEnd {kn : sKn} {w0 : sW} {B : Nat → Int} {n : Nat} {S : tS} (hw : wOk ZZ w0) (htk : tkR B n 900 S w0) (hG : tkG B n 900 S)  : ∃ (w' : sW) (b : Int), fX12_readEnd kn [.ref 213] w0 = some (some (hI b), w', 0, 0) ∧ hO dRT w0 w' ∧ smW eRT w0 w' ∧ (zOK (zEnd B n 900 S) b (fun e => erR e w') (fun T => tkR B n 900 T w')) := by
  obtain ⟨hfr, hkI, hto, hwd⟩ := tkU_i htk.2
  have htx := htk.1
  have gbS := tkG_b hG
  have hn9 := htk.1.2.2.2.1
  have K : Tp (tX12_readEnd kn) (fun r => ∃ (w' : sW) (b : Int), r = (some (hI b), w', 0, 0) ∧ hO dRT w0 w' ∧ smW eRT w0 w' ∧ (zOK (zEnd B n 900 S) b (fun e => erR e w') (fun T => tkR B n 900 T w'))) 0 (lv_args 0 [.ref 213], [], w0, 0, 0) := by
    have l0 : hL (lv_args 0 [.ref 213]) (lv_args 0 [.ref 213]) := hL_ex rfl
    have o0 : hO dRT w0 w0 := hO_rf hw
    have sm := smW_rf eRT w0
    refine h_aload rfl l0 rfl ?_
    refine h_intv k_59 rfl ?_
    obtain ⟨z41, hf41, hz41⟩ := x_isSignR (kn := kn) o0.1 htk hG 59 ⟨by omega, by omega⟩
    refine h_V2 rfl o0 l0 ci_213 rfl rfl hf41 ?_
    refine j_ne (kn := kn) (t := 1) (tgt := 15) (np := 9) rfl (by unfold R32; omega) (fun e42 => ?_) (fun e42 => ?_)
    · refine h_aload rfl l0 rfl ?_
      obtain ⟨wG43, hf43, oG43', sG43, tG43⟩ := x_go (kn := kn) htk.1 o0.1 (p := S.2.2.2.2) (tkG_n hG) ((tkU_i htk.2).2.2.1 (by omega))
      have oG43 := hO_tr o0 (hO_mono dRT_g oG43')
      have tG43 : tkR B n 900 (nxT B n 900 S) wG43 := tG43
      refine h_W1 rfl o0 l0 ci_213 rfl rfl hf43 ?_
      refine h_intv k_1 rfl ?_
      refine h_zret (by omega) rfl ?_
      refine ⟨_, _, rfl, oG43, smW_tr sm (smW_mono (by decide) sG43), ?_⟩
      rw [show zEnd B n 900 S = .inr (nxT B n 900 S) from if_pos (by omega), zOK_r]
      exact ⟨rfl, tG43⟩
    · refine h_aload rfl l0 rfl ?_
      refine h_intv k_1 rfl ?_
      obtain ⟨wR44, hf44, oR44', sR44, rA44, rB44⟩ := x_bad (kn := kn) o0.1 htk hG 1 ⟨by omega, by omega⟩
      have oR44 := hO_tr o0 oR44'
      rw [if_k (by omega)] at rA44
      refine h_V2 rfl o0 l0 ci_213 rfl rfl hf44 ?_
      refine h_zret (by omega) rfl ?_
      refine ⟨_, _, rfl, oR44, smW_tr sm (smW_mono (by decide) sR44), ?_⟩
      rw [show zEnd B n 900 S = .inl (1, S.2.1) from if_neg (by omega), zOK_l]
      exact ⟨rfl, ⟨by rw [rA44], by rw [rB44]⟩⟩
  obtain ⟨r, h1, w2, b, h2, h3⟩ := h_meth1 (nL := 1) rfl K
  rw [h2] at h1
  exact ⟨w2, b, h1, h3⟩
theorem x_readNumberR {kn : sKn} {w0 : sW} {B : Nat → Int} {n : Nat} {S : tS} (hw : wOk ZZ w0) (htk : tkR B n 900 S w0) (hG : tkG B n 900 S) (lo hi : Int) (hlo : R32 lo) (hhi : R32 hi) : ∃ (w' : sW) (b : Int), fX12_readNumber kn [.ref 213, hI lo, hI hi] w0 = some (some (hI b), w', 0, 0) ∧ hO dRT w0 w' ∧ smW eRT w0 w' ∧ (zOK (zNum B n 900 lo hi S) b (fun e => erR e w') (fun q => gF w' 213 13 = q.1 ∧ tkR B n 900 q.2 w')) := by
  obtain ⟨hfr, hkI, hto, hwd⟩ := tkU_i htk.2
  have htx := htk.1
  have gbS := tkG_b hG
  have hn9 := htk.1.2.2.2.1
  have hlo1 := hlo.1
  have hlo2 := hlo.2
  have hhi1 := hhi.1
  have hhi2 := hhi.2
  have K : Tp (tX12_readNumber kn) (fun r => ∃ (w' : sW) (b : Int), r = (some (hI b), w', 0, 0) ∧ hO dRT w0 w' ∧ smW eRT w0 w' ∧ (zOK (zNum B n 900 lo hi S) b (fun e => erR e w') (fun q => gF w' 213 13 = q.1 ∧ tkR B n 900 q.2 w'))) 0 (lv_args 0 [.ref 213, hI lo, hI hi], [], w0, 0, 0) := by
    have l0 : hL (lv_args 0 [.ref 213, hI lo, hI hi]) (lv_args 0 [.ref 213, hI lo, hI hi]) := hL_ex rfl
    have o0 : hO dRT w0 w0 := hO_rf hw
    have sm := smW_rf eRT w0
    refine h_aload rfl l0 rfl ?_
    refine h_getI rfl o0 fi_7 (fun b41a b41b => ?_)
    refine h_intv k_3 rfl ?_
    refine i_eq (kn := kn) (t := 0) (tgt := 14) (np := 8) rfl (by unfold R32; omega) (by unfold R32; omega) (fun e42 => ?_) (fun e42 => ?_)
    · refine h_aload rfl l0 rfl ?_
      refine h_getI rfl o0 fi_8 (fun b43a b43b => ?_)
      refine h_iload rfl l0 rfl ?_
      refine h_iload rfl l0 rfl ?_
      obtain ⟨z44, hf44, hz44⟩ := x_isIn (kn := kn) o0.1 (gF w0 213 8) lo hi ⟨by omega, by omega⟩ ⟨by omega, by omega⟩ ⟨by omega, by omega⟩
      refine h_S3 rfl o0 l0 rfl rfl hf44 ?_
      refine j_ne (kn := kn) (t := 1) (tgt := 32) (np := 26) rfl (by unfold R32; omega) (fun e45 => ?_) (fun e45 => ?_)
      · refine h_aload rfl l0 rfl ?_
        refine h_aload rfl l0 rfl ?_
        refine h_getI rfl o0 fi_8 (fun b46a b46b => ?_)
        refine x_putI rfl o0 fi_13 rfl (by omega) (by omega) (fun w47 o47 q48a q48F q48X q48J q48Y q48R => ?_)
        refine h_aload rfl l0 rfl ?_
        obtain ⟨wG49, hf49, oG49', sG49, tG49⟩ := x_go (kn := kn) (tkR_sm (smW_tr (smW_rf eRQ _) (sm_pI (by decide) q48F q48X q48J q48Y q48R)) (by decide) htk).1 o47.1 (p := S.2.2.2.2) (tkG_n hG) ((tkU_i (tkR_sm (smW_tr (smW_rf eRQ _) (sm_pI (by decide) q48F q48X q48J q48Y q48R)) (by decide) htk).2).2.2.1 (by omega))
        have oG49 := hO_tr o47 (hO_mono dRT_g oG49')
        have tG49 : tkR B n 900 (nxT B n 900 S) wG49 := tG49
        refine h_W1 rfl o47 l0 ci_213 rfl rfl hf49 ?_
        refine h_intv k_1 rfl ?_
        refine h_zret (by omega) rfl ?_
        refine ⟨_, _, rfl, oG49, smW_tr (smW_tr sm (sm_pI (by decide) q48F q48X q48J q48Y q48R)) (smW_mono (by decide) sG49), ?_⟩
        rw [show zNum B n 900 lo hi S = .inr (S.2.2.1, nxT B n 900 S) from by
          unfold zNum
          rw [if_neg (by omega), if_neg (by omega)], zOK_r]
        exact ⟨rfl, by rw [sG49.1 213 13 (by decide), q48a]; show _ = S.2.2.1; omega, tG49⟩
      · refine h_aload rfl l0 rfl ?_
        refine h_intv k_2 rfl ?_
        obtain ⟨wR50, hf50, oR50', sR50, rA50, rB50⟩ := x_bad (kn := kn) o0.1 htk hG 2 ⟨by omega, by omega⟩
        have oR50 := hO_tr o0 oR50'
        rw [if_k (by omega)] at rA50
        refine h_V2 rfl o0 l0 ci_213 rfl rfl hf50 ?_
        refine h_zret (by omega) rfl ?_
        refine ⟨_, _, rfl, oR50, smW_tr sm (smW_mono (by decide) sR50), ?_⟩
        rw [show zNum B n 900 lo hi S = .inl (2, S.2.1) from by
          unfold zNum
          rw [if_neg (by omega), if_pos (by omega)], zOK_l]
        exact ⟨rfl, ⟨by rw [rA50], by rw [rB50]⟩⟩
    · refine h_aload rfl l0 rfl ?_
      refine h_intv k_1 rfl ?_
      obtain ⟨wR51, hf51, oR51', sR51, rA51, rB51⟩ := x_bad (kn := kn) o0.1 htk hG 1 ⟨by omega, by omega⟩
      have oR51 := hO_tr o0 oR51'
      rw [if_k (by omega)] at rA51
      refine h_V2 rfl o0 l0 ci_213 rfl rfl hf51 ?_
      refine h_zret (by omega) rfl ?_
      refine ⟨_, _, rfl, oR51, smW_tr sm (smW_mono (by decide) sR51), ?_⟩
      rw [show zNum B n 900 lo hi S = .inl (1, S.2.1) from if_pos (by omega), zOK_l]
      exact ⟨rfl, ⟨by rw [rA51], by rw [rB51]⟩⟩
  obtain ⟨r, h1, w2, b, h2, h3⟩ := h_meth1 (nL := 3) rfl K
  rw [h2] at h1
  exact ⟨w2, b, h1, h3⟩
theorem pR_b {R N : Nat → Int} {w : sW} (p : pR R N w) (hw : wOk ZZ w) : (0 ≤ R 0 ∧ R 0 ≤ 12) ∧ (0 ≤ R 1 ∧ R 1 ≤ 10) ∧ (0 ≤ R 2 ∧ R 2 ≤ 6) ∧ 0 ≤ R 3 ∧ R 3 ≤ 8 := by
  have o0 := hO_rf (D := []) hw
  have g0 := gX_in o0 ai_216 (show aR 216 0 1 0 12 = true by decide +kernel) (j := 0) (by omega) (by omega) (by omega)
  have g1 := gX_in o0 ai_216 (show aR 216 1 1 0 10 = true by decide +kernel) (j := 1) (by omega) (by omega) (by omega)
  have g2 := gX_in o0 ai_216 (show aR 216 2 1 0 6 = true by decide +kernel) (j := 2) (by omega) (by omega) (by omega)
  have g3 := gX_in o0 ai_216 (show aR 216 3 1 0 8 = true by decide +kernel) (j := 3) (by omega) (by omega) (by omega)
  rw [p.1 0 (by omega)] at g0
  rw [p.1 1 (by omega)] at g1
  rw [p.1 2 (by omega)] at g2
  rw [p.1 3 (by omega)] at g3
  exact ⟨g0, g1, g2, g3⟩
theorem pR_s {kn : sKn} {R N : Nat → Int} {w : sW} {X : Int} (hw : wOk ZZ w) (p : pR R N w) (hX : 0 ≤ X ∧ X < 27 ^ 7) : fX12_findIn kn [.ref 221, hI 0, hI (R 1), hJ X] w = some (some (hI (fnd N 0 X (R 1).toNat 0)), w, 0, 0) := by
  have hb := pR_b p hw
  have h := x_findIn221 (kn := kn) (w := w) (N := N) (X := X) (b := 0) (m := (R 1).toNat) hw (fun s hs => by
    rw [Nat.zero_add]
    exact p.2.1 s (by omega)) (by omega) hX
  rw [show (((R 1).toNat : Nat) : Int) = R 1 by omega] at h
  exact h
theorem pR_l {kn : sKn} {R N : Nat → Int} {w : sW} {X : Int} (hw : wOk ZZ w) (p : pR R N w) (hX : 0 ≤ X ∧ X < 27 ^ 7) : fX12_findIn kn [.ref 221, hI 10, hI (R 2), hJ X] w = some (some (hI (fnd N 10 X (R 2).toNat 0)), w, 0, 0) := by
  have hb := pR_b p hw
  have h := x_findIn221 (kn := kn) (w := w) (N := N) (X := X) (b := 10) (m := (R 2).toNat) hw (fun s hs => p.2.2 s (by omega)) (by omega) hX
  rw [show (((R 2).toNat : Nat) : Int) = R 2 by omega] at h
  exact h
theorem x_isSignerTold {kn : sKn} {w0 : sW} {B : Nat → Int} {n : Nat} {S : tS} {R N : Nat → Int} (hw : wOk ZZ w0) (htk : tkR B n 900 S w0) (hG : tkG B n 900 S) (hpR : pR R N w0)  : ∃ (w' : sW) (b : Int), fX12_isSignerTold kn [.ref 213] w0 = some (some (hI b), w', 0, 0) ∧ hO dRT w0 w' ∧ smW [(0, 213, 10), (0, 213, 11), (0, 213, 13)] w0 w' ∧ (zOK (zSig B n 900 R N S) b (fun e => erR e w') (fun q => gF w' 213 13 = q.1 ∧ S.1 = 5)) := by
  obtain ⟨hfr, hkI, hto, hwd⟩ := tkU_i htk.2
  have htx := htk.1
  have gbS := tkG_b hG
  have hn9 := htk.1.2.2.2.1
  have K : Tp (tX12_isSignerTold kn) (fun r => ∃ (w' : sW) (b : Int), r = (some (hI b), w', 0, 0) ∧ hO dRT w0 w' ∧ smW [(0, 213, 10), (0, 213, 11), (0, 213, 13)] w0 w' ∧ (zOK (zSig B n 900 R N S) b (fun e => erR e w') (fun q => gF w' 213 13 = q.1 ∧ S.1 = 5))) 0 (lv_args 0 [.ref 213], [], w0, 0, 0) := by
    have l0 : hL (lv_args 0 [.ref 213]) (lv_args 0 [.ref 213]) := hL_ex rfl
    have o0 : hO dRT w0 w0 := hO_rf hw
    have sm := smW_rf [(0, 213, 10), (0, 213, 11), (0, 213, 13)] w0
    refine h_aload rfl l0 rfl ?_
    obtain ⟨z41, hf41, hz41⟩ := x_isName (kn := kn) o0.1 htk hG
    refine h_V1 rfl o0 l0 ci_213 rfl rfl hf41 ?_
    refine j_ne (kn := kn) (t := 1) (tgt := 13) (np := 7) rfl (by unfold R32; omega) (fun e42 => ?_) (fun e42 => ?_)
    · have h5 : S.1 = 5 := by omega
      have hX5 := tkG_X hG h5
      have hwd5 := hwd (by omega)
      have hb5 := pR_b hpR hw
      refine h_aload rfl l0 rfl ?_
      refine h_aload rfl l0 rfl ?_
      refine h_getR rfl o0 fr_20 ?_
      refine h_intv k_0 rfl ?_
      refine h_aload rfl l0 rfl ?_
      refine h_getR rfl o0 fr_15 ?_
      refine h_intv k_1 rfl ?_
      refine h_ialdj (1) rfl o0 ai_216 rfl (by omega) (by omega) (fun b43a b43b => ?_)
      rw [hpR.1 1 (by omega)] at b43a b43b ⊢
      refine h_aload rfl l0 rfl ?_
      refine h_getJv rfl o0 fj_12 ?_
      rw [hwd5]
      have hf44 := pR_s (kn := kn) o0.1 (pR_sm (smW_rf eRS _) (by decide) hpR) hX5
      have z44 := fnd_b N 0 S.2.2.2.1 (R 1).toNat 0
      refine h_S4 rfl o0 l0 rfl rfl hf44 ?_
      refine x_putI rfl o0 fi_13 rfl (by omega) (by omega) (fun w45 o45 q46a q46F q46X q46J q46Y q46R => ?_)
      refine h_aload rfl l0 rfl ?_
      refine h_getI rfl o45 fi_13 (fun b47a b47b => ?_)
      rw [q46a] at b47a b47b ⊢
      refine h_intv k_n1 rfl ?_
      refine i_ne (kn := kn) (t := 1) (tgt := 51) (np := 43) rfl (by unfold R32; omega) (by unfold R32; omega) (fun e48 => ?_) (fun e48 => ?_)
      · refine h_intv k_1 rfl ?_
        refine h_goto rfl ?_
        refine h_zret (by omega) rfl ?_
        refine ⟨_, _, rfl, o45, smW_tr sm (sm_pI (by decide) q46F q46X q46J q46Y q46R), ?_⟩
        rw [show zSig B n 900 R N S = .inr (fnd N 0 S.2.2.2.1 (R 1).toNat 0, nxT B n 900 S) from by
          unfold zSig
          rw [if_neg (by omega), if_neg (by omega)], zOK_r]
        exact ⟨rfl, by rw [q46a], h5⟩
      · refine h_aload rfl l0 rfl ?_
        refine h_intv k_3 rfl ?_
        obtain ⟨wR49, hf49, oR49', sR49, rA49, rB49⟩ := x_bad (kn := kn) o45.1 (tkR_sm (smW_tr (smW_rf eRQ _) (sm_pI (by decide) q46F q46X q46J q46Y q46R)) (by decide) htk) hG 3 ⟨by omega, by omega⟩
        have oR49 := hO_tr o45 oR49'
        rw [if_k (by omega)] at rA49
        refine h_V2 rfl o45 l0 ci_213 rfl rfl hf49 ?_
        refine j_eq (kn := kn) (t := 0) (tgt := 55) (np := 51) rfl (by unfold R32; omega) (fun e50 => ?_) (fun e50 => ?_)
        · refine h_intv k_0 rfl ?_
          refine h_zret (by omega) rfl ?_
          refine ⟨_, _, rfl, oR49, smW_tr (smW_tr sm (sm_pI (by decide) q46F q46X q46J q46Y q46R)) (smW_mono (by decide) sR49), ?_⟩
          rw [show zSig B n 900 R N S = .inl (3, S.2.1) from by
            unfold zSig
            rw [if_neg (by omega), if_pos (by omega)], zOK_l]
          exact ⟨rfl, ⟨by rw [rA49], by rw [rB49]⟩⟩
        · omega
    · refine h_aload rfl l0 rfl ?_
      refine h_intv k_1 rfl ?_
      obtain ⟨wR51, hf51, oR51', sR51, rA51, rB51⟩ := x_bad (kn := kn) o0.1 htk hG 1 ⟨by omega, by omega⟩
      have oR51 := hO_tr o0 oR51'
      rw [if_k (by omega)] at rA51
      refine h_V2 rfl o0 l0 ci_213 rfl rfl hf51 ?_
      refine h_zret (by omega) rfl ?_
      refine ⟨_, _, rfl, oR51, smW_tr sm (smW_mono (by decide) sR51), ?_⟩
      rw [show zSig B n 900 R N S = .inl (1, S.2.1) from if_pos (by omega), zOK_l]
      exact ⟨rfl, ⟨by rw [rA51], by rw [rB51]⟩⟩
  obtain ⟨r, h1, w2, b, h2, h3⟩ := h_meth1 (nL := 1) rfl K
  rw [h2] at h1
  exact ⟨w2, b, h1, h3⟩
theorem x_readNew {kn : sKn} {w0 : sW} {B : Nat → Int} {n : Nat} {S : tS} {R N : Nat → Int} (hw : wOk ZZ w0) (htk : tkR B n 900 S w0) (hG : tkG B n 900 S) (hpR : pR R N w0) (j : Nat) (hj : j < 16) : ∃ (w' : sW) (b : Int), fX12_readNew kn [.ref 213, hI (j : Int)] w0 = some (some (hI b), w', 0, 0) ∧ hO dRT w0 w' ∧ smW (eRT ++ [(3, 221, 0)]) w0 w' ∧ (zOK (zNew B n 900 R N S) b (fun e => erR e w') (fun q => gY w' 221 j = Int64.ofInt q.1 ∧ (∀ i, i ≠ j → gY w' 221 i = gY w0 221 i) ∧ tkR B n 900 q.2 w' ∧ 0 ≤ q.1 ∧ q.1 < 27 ^ 7)) := by
  obtain ⟨hfr, hkI, hto, hwd⟩ := tkU_i htk.2
  have htx := htk.1
  have gbS := tkG_b hG
  have hn9 := htk.1.2.2.2.1
  have K : Tp (tX12_readNew kn) (fun r => ∃ (w' : sW) (b : Int), r = (some (hI b), w', 0, 0) ∧ hO dRT w0 w' ∧ smW (eRT ++ [(3, 221, 0)]) w0 w' ∧ (zOK (zNew B n 900 R N S) b (fun e => erR e w') (fun q => gY w' 221 j = Int64.ofInt q.1 ∧ (∀ i, i ≠ j → gY w' 221 i = gY w0 221 i) ∧ tkR B n 900 q.2 w' ∧ 0 ≤ q.1 ∧ q.1 < 27 ^ 7))) 0 (lv_args 0 [.ref 213, hI (j : Int)], [], w0, 0, 0) := by
    have l0 : hL (lv_args 0 [.ref 213, hI (j : Int)]) (lv_args 0 [.ref 213, hI (j : Int)]) := hL_ex rfl
    have o0 : hO dRT w0 w0 := hO_rf hw
    have sm := smW_rf (eRT ++ [(3, 221, 0)]) w0
    refine h_aload rfl l0 rfl ?_
    obtain ⟨z41, hf41, hz41⟩ := x_isName (kn := kn) o0.1 htk hG
    refine h_V1 rfl o0 l0 ci_213 rfl rfl hf41 ?_
    refine j_ne (kn := kn) (t := 1) (tgt := 13) (np := 7) rfl (by unfold R32; omega) (fun e42 => ?_) (fun e42 => ?_)
    · have h5 : S.1 = 5 := by omega
      have hX5 := tkG_X hG h5
      have hwd5 := hwd (by omega)
      have hb5 := pR_b hpR hw
      refine h_aload rfl l0 rfl ?_
      refine h_getR rfl o0 fr_20 ?_
      refine h_intv k_0 rfl ?_
      refine h_aload rfl l0 rfl ?_
      refine h_getR rfl o0 fr_15 ?_
      refine h_intv k_1 rfl ?_
      refine h_ialdj (1) rfl o0 ai_216 rfl (by omega) (by omega) (fun b43a b43b => ?_)
      rw [hpR.1 1 (by omega)] at b43a b43b ⊢
      refine h_aload rfl l0 rfl ?_
      refine h_getJv rfl o0 fj_12 ?_
      rw [hwd5]
      have hf44 := pR_s (kn := kn) o0.1 (pR_sm (smW_rf eRS _) (by decide) hpR) hX5
      have z44 := fnd_b N 0 S.2.2.2.1 (R 1).toNat 0
      refine h_S4 rfl o0 l0 rfl rfl hf44 ?_
      refine h_intv k_n1 rfl ?_
      refine i_ne (kn := kn) (t := 1) (tgt := 58) (np := 35) rfl (by unfold R32; omega) (by unfold R32; omega) (fun e45 => ?_) (fun e45 => ?_)
      · refine h_aload rfl l0 rfl ?_
        refine h_intv k_3 rfl ?_
        obtain ⟨wR46, hf46, oR46', sR46, rA46, rB46⟩ := x_bad (kn := kn) o0.1 htk hG 3 ⟨by omega, by omega⟩
        have oR46 := hO_tr o0 oR46'
        rw [if_k (by omega)] at rA46
        refine h_V2 rfl o0 l0 ci_213 rfl rfl hf46 ?_
        refine h_zret (by omega) rfl ?_
        refine ⟨_, _, rfl, oR46, smW_tr sm (smW_mono (by decide) sR46), ?_⟩
        rw [show zNew B n 900 R N S = .inl (3, S.2.1) from by
          unfold zNew
          rw [if_neg (by omega), if_pos (by omega)], zOK_l]
        exact ⟨rfl, ⟨by rw [rA46], by rw [rB46]⟩⟩
      · refine h_aload rfl l0 rfl ?_
        refine h_getR rfl o0 fr_20 ?_
        refine h_intv k_10 rfl ?_
        refine h_aload rfl l0 rfl ?_
        refine h_getR rfl o0 fr_15 ?_
        refine h_intv k_2 rfl ?_
        refine h_ialdj (2) rfl o0 ai_216 rfl (by omega) (by omega) (fun b47a b47b => ?_)
        rw [hpR.1 2 (by omega)] at b47a b47b ⊢
        refine h_aload rfl l0 rfl ?_
        refine h_getJv rfl o0 fj_12 ?_
        rw [hwd5]
        have hf48 := pR_l (kn := kn) o0.1 (pR_sm (smW_rf eRS _) (by decide) hpR) hX5
        have z48 := fnd_b N 10 S.2.2.2.1 (R 2).toNat 0
        refine h_S4 rfl o0 l0 rfl rfl hf48 ?_
        refine h_intv k_n1 rfl ?_
        refine i_eq (kn := kn) (t := 0) (tgt := 64) (np := 58) rfl (by unfold R32; omega) (by unfold R32; omega) (fun e49 => ?_) (fun e49 => ?_)
        · refine h_aload rfl l0 rfl ?_
          refine h_getR rfl o0 fr_20 ?_
          refine h_iload rfl l0 rfl ?_
          refine h_aload rfl l0 rfl ?_
          refine h_getJv rfl o0 fj_12 ?_
          rw [hwd5]
          refine x_last (j) rfl o0 aj_221 rfl rfl (by omega) (by omega) (fun w50 o50 q51a q51Y q51F q51X q51J q51R => ?_)
          refine h_aload rfl l0 rfl ?_
          obtain ⟨wG52, hf52, oG52', sG52, tG52⟩ := x_go (kn := kn) (tkR_sm (smW_tr (smW_rf eRQ _) (sm_pY (by decide) q51Y q51F q51X q51J q51R)) (by decide) htk).1 o50.1 (p := S.2.2.2.2) (tkG_n hG) ((tkU_i (tkR_sm (smW_tr (smW_rf eRQ _) (sm_pY (by decide) q51Y q51F q51X q51J q51R)) (by decide) htk).2).2.2.1 (by omega))
          have oG52 := hO_tr o50 (hO_mono dRT_g oG52')
          have tG52 : tkR B n 900 (nxT B n 900 S) wG52 := tG52
          refine h_W1 rfl o50 l0 ci_213 rfl rfl hf52 ?_
          refine h_intv k_1 rfl ?_
          refine h_zret (by omega) rfl ?_
          refine ⟨_, _, rfl, oG52, smW_tr (smW_tr sm (sm_pY (by decide) q51Y q51F q51X q51J q51R)) (smW_mono (by decide) sG52), ?_⟩
          rw [show zNew B n 900 R N S = .inr (S.2.2.2.1, nxT B n 900 S) from by
            unfold zNew
            rw [if_neg (by omega), if_neg (by omega)], zOK_r]
          exact ⟨rfl, by rw [sG52.2.2.2.1 221 j (by decide), q51a], fun i hi => by rw [sG52.2.2.2.1 221 i (by decide), q51Y 221 i (fun _ => hi)], tG52, hX5⟩
        · refine h_aload rfl l0 rfl ?_
          refine h_intv k_3 rfl ?_
          obtain ⟨wR53, hf53, oR53', sR53, rA53, rB53⟩ := x_bad (kn := kn) o0.1 htk hG 3 ⟨by omega, by omega⟩
          have oR53 := hO_tr o0 oR53'
          rw [if_k (by omega)] at rA53
          refine h_V2 rfl o0 l0 ci_213 rfl rfl hf53 ?_
          refine h_zret (by omega) rfl ?_
          refine ⟨_, _, rfl, oR53, smW_tr sm (smW_mono (by decide) sR53), ?_⟩
          rw [show zNew B n 900 R N S = .inl (3, S.2.1) from by
            unfold zNew
            rw [if_neg (by omega), if_pos (by omega)], zOK_l]
          exact ⟨rfl, ⟨by rw [rA53], by rw [rB53]⟩⟩
    · refine h_aload rfl l0 rfl ?_
      refine h_intv k_1 rfl ?_
      obtain ⟨wR54, hf54, oR54', sR54, rA54, rB54⟩ := x_bad (kn := kn) o0.1 htk hG 1 ⟨by omega, by omega⟩
      have oR54 := hO_tr o0 oR54'
      rw [if_k (by omega)] at rA54
      refine h_V2 rfl o0 l0 ci_213 rfl rfl hf54 ?_
      refine h_zret (by omega) rfl ?_
      refine ⟨_, _, rfl, oR54, smW_tr sm (smW_mono (by decide) sR54), ?_⟩
      rw [show zNew B n 900 R N S = .inl (1, S.2.1) from if_pos (by omega), zOK_l]
      exact ⟨rfl, ⟨by rw [rA54], by rw [rB54]⟩⟩
  obtain ⟨r, h1, w2, b, h2, h3⟩ := h_meth1 (nL := 2) rfl K
  rw [h2] at h1
  exact ⟨w2, b, h1, h3⟩
theorem ap216_0 : aP 216 0 1 0 12 = true := by decide +kernel
theorem ap216_1 : aP 216 1 1 0 10 = true := by decide +kernel
theorem ap216_2 : aP 216 2 1 0 6 = true := by decide +kernel
theorem ap216_3 : aP 216 3 1 0 8 = true := by decide +kernel
theorem ap216_4 : aP 216 4 11 (-2147483648) 2147483647 = true := by decide +kernel
theorem ap216_15 : aP 216 15 10 0 9 = true := by decide +kernel
theorem ap216_25 : aP 216 25 1 (-2147483648) 2147483647 = true := by decide +kernel
theorem ap216_26 : aP 216 26 10 (-1) 9 = true := by decide +kernel
theorem ap216_36 : aP 216 36 10 (-2147483648) 2147483647 = true := by decide +kernel
theorem ap216_46 : aP 216 46 36 (-1) 9 = true := by decide +kernel
theorem ap216_82 : aP 216 82 6 0 300 = true := by decide +kernel
theorem ap216_88 : aP 216 88 6 0 3 = true := by decide +kernel
theorem pX_set {R : Nat → Int} {w w' : sW} {i : Nat} {v : Int} (h : ∀ j, j < 94 → gX w 216 j = R j) (ha : gX w' 216 i = v) (hn : ∀ j, j ≠ i → gX w' 216 j = gX w 216 j) : ∀ j, j < 94 → gX w' 216 j = zU R i v j := by
  intro j hj
  by_cases e : j = i
  · rw [e, zU_s]
    exact ha
  · rw [zU_n _ _ e, hn j e]
    exact h j hj
theorem pX_sm {E : List (Nat × Nat × Nat)} {R : Nat → Int} {w w' : sW} (hs : smW E w w') (hE : (2, 216, 0) ∉ E) (h : ∀ j, j < 94 → gX w 216 j = R j) : ∀ j, j < 94 → gX w' 216 j = R j := fun j hj => (hs.2.2.1 216 j hE).trans (h j hj)
theorem pR_mk {R R' N : Nat → Int} {w w' : sW} (h : ∀ j, j < 94 → gX w' 216 j = R' j) (h1 : R' 1 = R 1) (h2 : R' 2 = R 2) (hY : ∀ i, gY w' 221 i = gY w 221 i) (p : pR R N w) : pR R' N w' := by
  refine ⟨h, fun s hs => ?_, fun l hl => ?_⟩
  · rw [hY s]
    exact p.2.1 s (by omega)
  · rw [hY (10 + l)]
    exact p.2.2 l (by omega)
theorem pR_sg {R R' N : Nat → Int} {w w' : sW} {k : Nat} {x : Int} (h : ∀ j, j < 94 → gX w' 216 j = R' j) (hk : R 1 = (k : Int)) (hk10 : k < 10) (h1 : R' 1 = R 1 + 1) (h2 : R' 2 = R 2) (hx : 0 ≤ x ∧ x < 27 ^ 7) (hv : gY w' 221 k = Int64.ofInt x) (hY : ∀ i, i ≠ k → gY w' 221 i = gY w 221 i) (p : pR R N w) : pR R' (zU N (R 1).toNat x) w' := by
  have ht : (R 1).toNat = k := by omega
  rw [ht]
  refine ⟨h, fun s hs => ?_, fun l hl => ?_⟩
  · by_cases e : s = k
    · rw [e, zU_s]
      exact ⟨hv, hx⟩
    · rw [hY s e, zU_n _ _ e]
      exact p.2.1 s (by omega)
  · rw [hY (10 + l) (by omega), zU_n _ _ (by omega)]
    exact p.2.2 l (by omega)
theorem pR_ld {R R' N : Nat → Int} {w w' : sW} {k : Nat} {x : Int} (h : ∀ j, j < 94 → gX w' 216 j = R' j) (hk : R 2 = (k : Int)) (hk6 : k < 6) (hb : R 1 ≤ 10) (h1 : R' 1 = R 1) (h2 : R' 2 = R 2 + 1) (hx : 0 ≤ x ∧ x < 27 ^ 7) (hv : gY w' 221 (10 + k) = Int64.ofInt x) (hY : ∀ i, i ≠ 10 + k → gY w' 221 i = gY w 221 i) (p : pR R N w) : pR R' (zU N (10 + (R 2).toNat) x) w' := by
  have ht : (R 2).toNat = k := by omega
  rw [ht]
  refine ⟨h, fun s hs => ?_, fun l hl => ?_⟩
  · rw [hY s (by omega), zU_n _ _ (by omega)]
    exact p.2.1 s (by omega)
  · by_cases e : l = k
    · rw [e, zU_s]
      exact ⟨hv, hx⟩
    · rw [hY (10 + l) (by omega), zU_n _ _ (by omega)]
      exact p.2.2 l (by omega)
theorem x_put0 {kn : sKn} {w : sW} (hw : wOk ZZ w) (a : Int) : fX12_put kn [.ref 213, hI a, hI 0] w = some (some (hI 0), w, 0, 0) := by
  have K : Tp (tX12_put kn) (fun r => r = (some (hI 0), w, 0, 0)) 0 (lv_args 0 [.ref 213, hI a, hI 0], [], w, 0, 0) := by
    have l0 : hL (lv_args 0 [.ref 213, hI a, hI 0]) (lv_args 0 [.ref 213, hI a, hI 0]) := hL_ex rfl
    have o0 : hO [] w w := hO_rf hw
    refine h_iload rfl l0 rfl ?_
    refine j_eq (kn := kn) (t := 0) (tgt := 14) (np := 4) rfl (by unfold R32; omega) (fun e41 => ?_) (fun e41 => ?_)
    · refine h_iload rfl l0 rfl ?_
      refine h_zret (by omega) rfl ?_
      exact rfl
    · omega
  obtain ⟨r, h1, h2⟩ := h_meth1 (nL := 3) rfl K
  rw [h2] at h1
  exact h1
theorem x_put1 {kn : sKn} {w0 : sW} (hw : wOk ZZ w0) (a A m : Nat) (lo hi : Int) (hp : aP 216 A m lo hi = true) (hA : A ≤ a) (hm : a < A + m) (h94 : a < 94) (h1 : lo ≤ gF w0 213 13) (h2 : gF w0 213 13 ≤ hi) : ∃ w', fX12_put kn [.ref 213, hI (a : Int), hI 1] w0 = some (some (hI 1), w', 0, 0) ∧ hO dRT w0 w' ∧ smW [(2, 216, 0)] w0 w' ∧ gX w' 216 a = gF w0 213 13 ∧ ∀ j, j ≠ a → gX w' 216 j = gX w0 216 j := by
  have K : Tp (tX12_put kn) (fun r => ∃ w', r = (some (hI 1), w', 0, 0) ∧ hO dRT w0 w' ∧ smW [(2, 216, 0)] w0 w' ∧ gX w' 216 a = gF w0 213 13 ∧ ∀ j, j ≠ a → gX w' 216 j = gX w0 216 j) 0 (lv_args 0 [.ref 213, hI (a : Int), hI 1], [], w0, 0, 0) := by
    have l0 : hL (lv_args 0 [.ref 213, hI (a : Int), hI 1]) (lv_args 0 [.ref 213, hI (a : Int), hI 1]) := hL_ex rfl
    have o0 : hO dRT w0 w0 := hO_rf hw
    have sm := smW_rf [(2, 216, 0)] w0
    refine h_iload rfl l0 rfl ?_
    refine j_eq (kn := kn) (t := 0) (tgt := 14) (np := 4) rfl (by unfold R32; omega) (fun e41 => ?_) (fun e41 => ?_)
    · omega
    · refine h_aload rfl l0 rfl ?_
      refine h_getR rfl o0 fr_15 ?_
      refine h_iload rfl l0 rfl ?_
      refine h_aload rfl l0 rfl ?_
      refine h_getI rfl o0 fi_13 (fun b42a b42b => ?_)
      refine x_iast (a) rfl o0 ai_216 rfl rfl hp (by omega) (by omega) (by omega) (by omega) h1 h2 (by unfold R32; omega) (fun w43 o43 q44a q44X q44F q44J q44Y q44R => ?_)
      refine h_iload rfl l0 rfl ?_
      refine h_zret (by omega) rfl ?_
      exact ⟨_, rfl, o43, smW_tr sm (sm_pX (by decide) q44X q44F q44J q44Y q44R), by rw [q44a], fun j hj => by rw [q44X 216 j (fun _ => hj)]⟩
  obtain ⟨r, h3, w2, h4, h5⟩ := h_meth1 (nL := 3) rfl K
  rw [h4] at h3
  exact ⟨w2, h3, h5⟩
def eRWx : List (Nat × Nat × Nat) := eRS ++ [(3, 221, 0)]
theorem x_readRowsR {kn : sKn} {w0 : sW} {B : Nat → Int} {n : Nat} {S : tS} {R N : Nat → Int} {hr hk hp : Int} (hw : wOk ZZ w0) (hz : rpR B n (S, R, N, hr, hk, hp) w0) (h4 : S.1 = 4) : ∃ (w' : sW) (b : Int), fX12_readRows kn [.ref 213] w0 = some (some (hI b), w', 0, 0) ∧ hO dRT w0 w' ∧ smW eRA w0 w' ∧ zOK (zRows B n 900 (S, R, N, hr, hk, hp)) b (fun e => erR e w') (fun Y => rpR B n Y w') := by
  obtain ⟨htk, hG, hpR, hf2, hf3, hf4⟩ := id hz
  have htk : tkR B n 900 S w0 := htk
  have hG : tkG B n 900 S := hG
  have hpR : pR R N w0 := hpR
  have hf2 : gF w0 213 24 = hr := hf2
  have hf3 : gF w0 213 25 = hk := hf3
  have hf4 : gF w0 213 26 = hp := hf4
  have hnb := pR_b hpR hw
  have gbS := tkG_b hG
  obtain ⟨_, hkI, hto, _⟩ := tkU_i htk.2
  have hn9 := htk.1.2.2.2.1
  have K : Tp (tX12_readRows kn) (fun r => ∃ (w' : sW) (b : Int), r = (some (hI b), w', 0, 0) ∧ hO dRT w0 w' ∧ smW eRA w0 w' ∧ zOK (zRows B n 900 (S, R, N, hr, hk, hp)) b (fun e => erR e w') (fun Y => rpR B n Y w')) 0 (lv_args 0 [.ref 213], [], w0, 0, 0) := by
    have l0 : hL (lv_args 0 [.ref 213]) (lv_args 0 [.ref 213]) := hL_ex rfl
    have o0 : hO dRT w0 w0 := hO_rf hw
    have sm := smW_rf eRA w0
    refine h_aload rfl l0 rfl ?_
    refine h_getI rfl o0 fi_24 (fun b41a b41b => ?_)
    rw [hf2] at b41a b41b ⊢
    refine j_ne (kn := kn) (t := 1) (tgt := 14) (np := 7) rfl (by unfold R32; omega) (fun e42 => ?_) (fun e42 => ?_)
    · refine h_aload rfl l0 rfl ?_
      refine h_intv k_3 rfl ?_
      obtain ⟨wR43, hf43, oR43', sR43, rA43, rB43⟩ := x_bad (kn := kn) o0.1 htk hG 3 ⟨by omega, by omega⟩
      have oR43 := hO_tr o0 oR43'
      rw [if_k (by omega)] at rA43
      refine h_V2 rfl o0 l0 ci_213 rfl rfl hf43 ?_
      refine h_zret (by omega) rfl ?_
      refine ⟨_, _, rfl, oR43, smW_tr sm (smW_mono (by decide) sR43), ?_⟩
      rw [show zRows B n 900 (S, R, N, hr, hk, hp) = .inl (3, S.2.1) from by
        unfold zRows
        try dsimp only
        rw [if_pos (by omega)]
        try dsimp only
        first | done | rfl, zOK_l]
      exact ⟨rfl, ⟨by rw [rA43], by rw [rB43]⟩⟩
    · refine h_aload rfl l0 rfl ?_
      refine h_getI rfl o0 fi_26 (fun b44a b44b => ?_)
      rw [hf4] at b44a b44b ⊢
      refine j_eq (kn := kn) (t := 0) (tgt := 20) (np := 14) rfl (by unfold R32; omega) (fun e45 => ?_) (fun e45 => ?_)
      · refine h_aload rfl l0 rfl ?_
        refine h_intv k_1 rfl ?_
        refine x_putK (by rfl) rfl o0 fi_24 rfl (by omega) (by omega) (fun w46 o46 q47a q47F q47X q47J q47Y q47R => ?_)
        refine h_aload rfl l0 rfl ?_
        obtain ⟨wG48, hf48, oG48', sG48, tG48⟩ := x_go (kn := kn) (tkR_sm (smW_tr (smW_rf eRQ _) (sm_pI (by decide) q47F q47X q47J q47Y q47R)) (by decide) htk).1 o46.1 (p := S.2.2.2.2) (tkG_n hG) ((tkU_i (tkR_sm (smW_tr (smW_rf eRQ _) (sm_pI (by decide) q47F q47X q47J q47Y q47R)) (by decide) htk).2).2.2.1 (by omega))
        have oG48 := hO_tr o46 (hO_mono dRT_g oG48')
        have tG48 : tkR B n 900 (nxT B n 900 S) wG48 := tG48
        refine h_W1 rfl o46 l0 ci_213 rfl rfl hf48 ?_
        refine h_aload rfl l0 rfl ?_
        refine h_intv k_0 rfl ?_
        refine h_aload rfl l0 rfl ?_
        refine h_intv k_1 rfl ?_
        refine h_intv k_12 rfl ?_
        obtain ⟨wN49, bN49, hf49, oN49', sN49, hz49⟩ := x_readNumberR (kn := kn) oG48.1 tG48 (tkG_nx hG) 1 12 ⟨by omega, by omega⟩ ⟨by omega, by omega⟩
        have oN49 := hO_tr oG48 oN49'
        rcases hr49 : zNum B n 900 1 12 (nxT B n 900 S) with eN49 | qN49
        · rw [hr49, zOK_l] at hz49
          obtain ⟨hb49, he149, he249⟩ := hz49
          subst hb49
          refine h_V3 rfl oG48 l0 ci_213 rfl rfl hf49 ?_
          have hf50 := x_put0 (kn := kn) oN49.1 0
          refine h_V3 rfl oN49 l0 ci_213 rfl rfl hf50 ?_
          refine h_zret (by omega) rfl ?_
          refine ⟨_, _, rfl, oN49, smW_tr (smW_tr (smW_tr sm (sm_pI (by decide) q47F q47X q47J q47Y q47R)) (smW_mono (by decide) sG48)) (smW_mono (by decide) sN49), ?_⟩
          rw [show zRows B n 900 (S, R, N, hr, hk, hp) = .inl eN49 from by
            unfold zRows
            try dsimp only
            rw [if_neg (by omega)]
            try dsimp only
            rw [hr49, zB_l]
            try dsimp only
            first | done | rfl, zOK_l]
          exact ⟨rfl, ⟨by rw [he149], by rw [he249]⟩⟩
        · rw [hr49, zOK_r] at hz49
          obtain ⟨hb49, hv49, ht49⟩ := hz49
          subst hb49
          obtain ⟨hq49, hlo49, hhi49⟩ := zNum_r hr49
          have G49 : tkG B n 900 qN49.2 := by
            rw [hq49]
            exact tkG_nx (tkG_nx hG)
          refine h_V3 rfl oG48 l0 ci_213 rfl rfl hf49 ?_
          have tv51 : gF wN49 213 13 = qN49.1 := by rw [hv49]
          obtain ⟨wP51, hf51, oP51', sP51, pa51, pn51⟩ := x_put1 (kn := kn) oN49.1 (0) 0 1 0 12 ap216_0 (by omega) (by omega) (by omega) (by omega) (by omega)
          have oP51 := hO_tr oN49 oP51'
          rw [tv51] at pa51
          refine h_V3 rfl oN49 l0 ci_213 rfl rfl hf51 ?_
          refine h_zret (by omega) rfl ?_
          refine ⟨_, _, rfl, oP51, smW_tr (smW_tr (smW_tr (smW_tr sm (sm_pI (by decide) q47F q47X q47J q47Y q47R)) (smW_mono (by decide) sG48)) (smW_mono (by decide) sN49)) (smW_mono (by decide) sP51), ?_⟩
          rw [show zRows B n 900 (S, R, N, hr, hk, hp) = .inr (qN49.2, zU R 0 qN49.1, N, 1, hk, hp) from by
            unfold zRows
            try dsimp only
            rw [if_neg (by omega)]
            try dsimp only
            rw [hr49, zB_r]
            try dsimp only
            first | done | rfl, zOK_r]
          exact ⟨rfl, (tkR_sm (smW_tr (smW_rf eRQ _) (smW_mono (by decide) sP51)) (by decide) ht49), G49, pR_mk (R' := zU R 0 qN49.1) (pX_set (pX_sm (smW_tr (smW_tr (smW_tr (smW_rf eRWx _) (sm_pI (by decide) q47F q47X q47J q47Y q47R)) (smW_mono (by decide) sG48)) (smW_mono (by decide) sN49)) (by decide) (hpR.1)) pa51 pn51) (zU_n _ _ (by omega)) (zU_n _ _ (by omega)) (fun i => by rw [sP51.2.2.2.1 221 i (by decide), sN49.2.2.2.1 221 i (by decide), sG48.2.2.2.1 221 i (by decide), q47Y 221 i]) hpR, by rw [sP51.1 213 24 (by decide), sN49.1 213 24 (by decide), sG48.1 213 24 (by decide), q47a], by rw [sP51.1 213 25 (by decide), sN49.1 213 25 (by decide), sG48.1 213 25 (by decide), q47F 213 25 (by decide), hf3], by rw [sP51.1 213 26 (by decide), sN49.1 213 26 (by decide), sG48.1 213 26 (by decide), q47F 213 26 (by decide), hf4]⟩
      · refine h_aload rfl l0 rfl ?_
        refine h_intv k_3 rfl ?_
        obtain ⟨wR52, hf52, oR52', sR52, rA52, rB52⟩ := x_bad (kn := kn) o0.1 htk hG 3 ⟨by omega, by omega⟩
        have oR52 := hO_tr o0 oR52'
        rw [if_k (by omega)] at rA52
        refine h_V2 rfl o0 l0 ci_213 rfl rfl hf52 ?_
        refine h_zret (by omega) rfl ?_
        refine ⟨_, _, rfl, oR52, smW_tr sm (smW_mono (by decide) sR52), ?_⟩
        rw [show zRows B n 900 (S, R, N, hr, hk, hp) = .inl (3, S.2.1) from by
          unfold zRows
          try dsimp only
          rw [if_pos (by omega)]
          try dsimp only
          first | done | rfl, zOK_l]
        exact ⟨rfl, ⟨by rw [rA52], by rw [rB52]⟩⟩
  obtain ⟨r, h1, w2, b, h2, h3⟩ := h_meth1 (nL := 1) rfl K
  rw [h2] at h1
  exact ⟨w2, b, h1, h3⟩
theorem x_readHeirR {kn : sKn} {w0 : sW} {B : Nat → Int} {n : Nat} {S : tS} {R N : Nat → Int} {hr hk hp : Int} (hw : wOk ZZ w0) (hz : rpR B n (S, R, N, hr, hk, hp) w0) (h4 : S.1 = 4) : ∃ (w' : sW) (b : Int), fX12_readHeir kn [.ref 213] w0 = some (some (hI b), w', 0, 0) ∧ hO dRT w0 w' ∧ smW eRA w0 w' ∧ zOK (zHeir B n 900 (S, R, N, hr, hk, hp)) b (fun e => erR e w') (fun Y => rpR B n Y w') := by
  obtain ⟨htk, hG, hpR, hf2, hf3, hf4⟩ := id hz
  have htk : tkR B n 900 S w0 := htk
  have hG : tkG B n 900 S := hG
  have hpR : pR R N w0 := hpR
  have hf2 : gF w0 213 24 = hr := hf2
  have hf3 : gF w0 213 25 = hk := hf3
  have hf4 : gF w0 213 26 = hp := hf4
  have hnb := pR_b hpR hw
  have gbS := tkG_b hG
  obtain ⟨_, hkI, hto, _⟩ := tkU_i htk.2
  have hn9 := htk.1.2.2.2.1
  have K : Tp (tX12_readHeir kn) (fun r => ∃ (w' : sW) (b : Int), r = (some (hI b), w', 0, 0) ∧ hO dRT w0 w' ∧ smW eRA w0 w' ∧ zOK (zHeir B n 900 (S, R, N, hr, hk, hp)) b (fun e => erR e w') (fun Y => rpR B n Y w')) 0 (lv_args 0 [.ref 213], [], w0, 0, 0) := by
    have l0 : hL (lv_args 0 [.ref 213]) (lv_args 0 [.ref 213]) := hL_ex rfl
    have o0 : hO dRT w0 w0 := hO_rf hw
    have sm := smW_rf eRA w0
    refine h_aload rfl l0 rfl ?_
    obtain ⟨wG41, hf41, oG41', sG41, tG41⟩ := x_go (kn := kn) htk.1 o0.1 (p := S.2.2.2.2) (tkG_n hG) ((tkU_i htk.2).2.2.1 (by omega))
    have oG41 := hO_tr o0 (hO_mono dRT_g oG41')
    have tG41 : tkR B n 900 (nxT B n 900 S) wG41 := tG41
    refine h_W1 rfl o0 l0 ci_213 rfl rfl hf41 ?_
    refine h_aload rfl l0 rfl ?_
    obtain ⟨wN42, bN42, hf42, oN42', sN42, hz42⟩ := x_isSignerTold (kn := kn) oG41.1 tG41 (tkG_nx hG) (pR_sm (smW_tr (smW_rf eRS _) (smW_mono (by decide) sG41)) (by decide) hpR)
    have oN42 := hO_tr oG41 oN42'
    rcases hr42 : zSig B n 900 R N (nxT B n 900 S) with eN42 | qN42
    · rw [hr42, zOK_l] at hz42
      obtain ⟨hb42, he142, he242⟩ := hz42
      subst hb42
      refine h_V1 rfl oG41 l0 ci_213 rfl rfl hf42 ?_
      refine j_ne (kn := kn) (t := 1) (tgt := 13) (np := 11) rfl (by unfold R32; omega) (fun e43 => ?_) (fun e43 => ?_)
      · omega
      · refine h_intv k_0 rfl ?_
        refine h_zret (by omega) rfl ?_
        refine ⟨_, _, rfl, oN42, smW_tr (smW_tr sm (smW_mono (by decide) sG41)) (smW_mono (by decide) sN42), ?_⟩
        rw [show zHeir B n 900 (S, R, N, hr, hk, hp) = .inl eN42 from by
          unfold zHeir
          try dsimp only
          rw [hr42, zB_l]
          try dsimp only
          first | done | rfl, zOK_l]
        exact ⟨rfl, ⟨by rw [he142], by rw [he242]⟩⟩
    · rw [hr42, zOK_r] at hz42
      obtain ⟨hb42, hv42, h542⟩ := hz42
      subst hb42
      have hq42 := zSig_r hr42
      obtain ⟨hlo42, hhi42⟩ := zSig_b hr42
      obtain ⟨s42, hs42⟩ : ∃ s : Nat, qN42.1 = (s : Int) := ⟨qN42.1.toNat, by omega⟩
      have hn42 : qN42.1.toNat = s42 := by omega
      rw [hs42] at hv42
      have ht42 := tkR_sm sN42 (by decide) tG41
      refine h_V1 rfl oG41 l0 ci_213 rfl rfl hf42 ?_
      refine j_ne (kn := kn) (t := 1) (tgt := 13) (np := 11) rfl (by unfold R32; omega) (fun e44 => ?_) (fun e44 => ?_)
      · refine h_aload rfl l0 rfl ?_
        refine h_getI rfl oN42 fi_13 (fun b45a b45b => ?_)
        rw [hv42] at b45a b45b ⊢
        refine h_istore rfl l0 (fun vl46 l46 => ?_)
        refine h_aload rfl l46 rfl ?_
        refine h_getR rfl oN42 fr_15 ?_
        refine h_intv k_26 rfl ?_
        refine h_iload rfl l46 rfl ?_
        refine h_iadd rfl ?_
        refine h_ialdj (26 + s42) rfl oN42 ai_216 rfl (by omega) (by omega) (fun b47a b47b => ?_)
        rw [sN42.2.2.1 216 (26 + s42) (by decide), sG41.2.2.1 216 (26 + s42) (by decide), hpR.1 (26 + s42) (by omega)] at b47a b47b ⊢
        refine h_intv k_n1 rfl ?_
        refine i_eq (kn := kn) (t := 0) (tgt := 37) (np := 31) rfl (by unfold R32; omega) (by unfold R32; omega) (fun e48 => ?_) (fun e48 => ?_)
        · refine h_aload rfl l46 rfl ?_
          obtain ⟨wG49, hf49, oG49', sG49, tG49⟩ := x_go (kn := kn) ht42.1 oN42.1 (p := (nxT B n 900 S).2.2.2.2) (tkG_n (tkG_nx hG)) ((tkU_i ht42.2).2.2.1 (by omega))
          have oG49 := hO_tr oN42 (hO_mono dRT_g oG49')
          have tG49 : tkR B n 900 (nxT B n 900 (nxT B n 900 S)) wG49 := tG49
          refine h_W1 rfl oN42 l46 ci_213 rfl rfl hf49 ?_
          refine h_aload rfl l46 rfl ?_
          obtain ⟨wN50, bN50, hf50, oN50', sN50, hz50⟩ := x_isSignerTold (kn := kn) oG49.1 tG49 (tkG_nx (tkG_nx hG)) (pR_sm (smW_tr (smW_tr (smW_tr (smW_rf eRS _) (smW_mono (by decide) sG41)) (smW_mono (by decide) sN42)) (smW_mono (by decide) sG49)) (by decide) hpR)
          have oN50 := hO_tr oG49 oN50'
          rcases hr50 : zSig B n 900 R N (nxT B n 900 (nxT B n 900 S)) with eN50 | qN50
          · rw [hr50, zOK_l] at hz50
            obtain ⟨hb50, he150, he250⟩ := hz50
            subst hb50
            refine h_V1 rfl oG49 l46 ci_213 rfl rfl hf50 ?_
            refine j_ne (kn := kn) (t := 1) (tgt := 50) (np := 48) rfl (by unfold R32; omega) (fun e51 => ?_) (fun e51 => ?_)
            · omega
            · refine h_intv k_0 rfl ?_
              refine h_zret (by omega) rfl ?_
              refine ⟨_, _, rfl, oN50, smW_tr (smW_tr (smW_tr (smW_tr sm (smW_mono (by decide) sG41)) (smW_mono (by decide) sN42)) (smW_mono (by decide) sG49)) (smW_mono (by decide) sN50), ?_⟩
              rw [show zHeir B n 900 (S, R, N, hr, hk, hp) = .inl eN50 from by
                unfold zHeir
                try dsimp only
                rw [hr42, zB_r]
                try dsimp only
                rw [hq42]
                try dsimp only
                rw [hn42, if_neg (by omega)]
                try dsimp only
                rw [hr50, zB_l]
                try dsimp only
                first | done | rfl, zOK_l]
              exact ⟨rfl, ⟨by rw [he150], by rw [he250]⟩⟩
          · rw [hr50, zOK_r] at hz50
            obtain ⟨hb50, hv50, h550⟩ := hz50
            subst hb50
            have hq50 := zSig_r hr50
            obtain ⟨hlo50, hhi50⟩ := zSig_b hr50
            obtain ⟨s50, hs50⟩ : ∃ s : Nat, qN50.1 = (s : Int) := ⟨qN50.1.toNat, by omega⟩
            have hn50 : qN50.1.toNat = s50 := by omega
            rw [hs50] at hv50
            have ht50 := tkR_sm sN50 (by decide) tG49
            refine h_V1 rfl oG49 l46 ci_213 rfl rfl hf50 ?_
            refine j_ne (kn := kn) (t := 1) (tgt := 50) (np := 48) rfl (by unfold R32; omega) (fun e52 => ?_) (fun e52 => ?_)
            · refine h_aload rfl l46 rfl ?_
              refine h_getI rfl oN50 fi_13 (fun b53a b53b => ?_)
              rw [hv50] at b53a b53b ⊢
              refine h_iload rfl l46 rfl ?_
              refine i_ne (kn := kn) (t := 1) (tgt := 64) (np := 58) rfl (by unfold R32; omega) (by unfold R32; omega) (fun e54 => ?_) (fun e54 => ?_)
              · refine h_aload rfl l46 rfl ?_
                refine h_getR rfl oN50 fr_15 ?_
                refine h_intv k_26 rfl ?_
                refine h_iload rfl l46 rfl ?_
                refine h_iadd rfl ?_
                refine h_aload rfl l46 rfl ?_
                refine h_getI rfl oN50 fi_13 (fun b55a b55b => ?_)
                rw [hv50] at b55a b55b ⊢
                refine x_iast (26 + s42) rfl oN50 ai_216 rfl rfl ap216_26 (by omega) (by omega) (by omega) (by omega) (by omega) (by omega) (by unfold R32; omega) (fun w56 o56 q57a q57X q57F q57J q57Y q57R => ?_)
                refine h_aload rfl l46 rfl ?_
                obtain ⟨wG58, hf58, oG58', sG58, tG58⟩ := x_go (kn := kn) (tkR_sm (smW_tr (smW_rf eRQ _) (sm_pX (by decide) q57X q57F q57J q57Y q57R)) (by decide) ht50).1 o56.1 (p := (nxT B n 900 (nxT B n 900 S)).2.2.2.2) (tkG_n (tkG_nx (tkG_nx hG))) ((tkU_i (tkR_sm (smW_tr (smW_rf eRQ _) (sm_pX (by decide) q57X q57F q57J q57Y q57R)) (by decide) ht50).2).2.2.1 (by omega))
                have oG58 := hO_tr o56 (hO_mono dRT_g oG58')
                have tG58 : tkR B n 900 (nxT B n 900 (nxT B n 900 (nxT B n 900 S))) wG58 := tG58
                refine h_W1 rfl o56 l46 ci_213 rfl rfl hf58 ?_
                refine h_intv k_1 rfl ?_
                refine h_zret (by omega) rfl ?_
                refine ⟨_, _, rfl, oG58, smW_tr (smW_tr (smW_tr (smW_tr (smW_tr (smW_tr sm (smW_mono (by decide) sG41)) (smW_mono (by decide) sN42)) (smW_mono (by decide) sG49)) (smW_mono (by decide) sN50)) (sm_pX (by decide) q57X q57F q57J q57Y q57R)) (smW_mono (by decide) sG58), ?_⟩
                rw [show zHeir B n 900 (S, R, N, hr, hk, hp) = .inr ((nxT B n 900 (nxT B n 900 (nxT B n 900 S))), zU R (26 + s42) qN50.1, N, hr, hk, hp) from by
                  unfold zHeir
                  try dsimp only
                  rw [hr42, zB_r]
                  try dsimp only
                  rw [hq42]
                  try dsimp only
                  rw [hn42, if_neg (by omega)]
                  try dsimp only
                  rw [hr50, zB_r]
                  try dsimp only
                  rw [hq50]
                  try dsimp only
                  rw [if_neg (by omega)]
                  try dsimp only
                  first | done | rfl, zOK_r]
                exact ⟨rfl, tG58, (tkG_nx (tkG_nx (tkG_nx hG))), pR_mk (R' := zU R (26 + s42) qN50.1) (pX_sm (smW_tr (smW_rf eRWx _) (smW_mono (by decide) sG58)) (by decide) (pX_set (pX_sm (smW_tr (smW_tr (smW_tr (smW_tr (smW_rf eRWx _) (smW_mono (by decide) sG41)) (smW_mono (by decide) sN42)) (smW_mono (by decide) sG49)) (smW_mono (by decide) sN50)) (by decide) (hpR.1)) (q57a.trans hs50.symm) (fun j hj => q57X 216 j (fun _ => hj)))) (zU_n _ _ (by omega)) (zU_n _ _ (by omega)) (fun i => by rw [sG58.2.2.2.1 221 i (by decide), q57Y 221 i, sN50.2.2.2.1 221 i (by decide), sG49.2.2.2.1 221 i (by decide), sN42.2.2.2.1 221 i (by decide), sG41.2.2.2.1 221 i (by decide)]) hpR, by rw [sG58.1 213 24 (by decide), q57F 213 24, sN50.1 213 24 (by decide), sG49.1 213 24 (by decide), sN42.1 213 24 (by decide), sG41.1 213 24 (by decide), hf2], by rw [sG58.1 213 25 (by decide), q57F 213 25, sN50.1 213 25 (by decide), sG49.1 213 25 (by decide), sN42.1 213 25 (by decide), sG41.1 213 25 (by decide), hf3], by rw [sG58.1 213 26 (by decide), q57F 213 26, sN50.1 213 26 (by decide), sG49.1 213 26 (by decide), sN42.1 213 26 (by decide), sG41.1 213 26 (by decide), hf4]⟩
              · refine h_aload rfl l46 rfl ?_
                refine h_intv k_3 rfl ?_
                obtain ⟨wR59, hf59, oR59', sR59, rA59, rB59⟩ := x_bad (kn := kn) oN50.1 ht50 (tkG_nx (tkG_nx hG)) 3 ⟨by omega, by omega⟩
                have oR59 := hO_tr oN50 oR59'
                rw [if_k (by omega)] at rA59
                refine h_V2 rfl oN50 l46 ci_213 rfl rfl hf59 ?_
                refine h_zret (by omega) rfl ?_
                refine ⟨_, _, rfl, oR59, smW_tr (smW_tr (smW_tr (smW_tr (smW_tr sm (smW_mono (by decide) sG41)) (smW_mono (by decide) sN42)) (smW_mono (by decide) sG49)) (smW_mono (by decide) sN50)) (smW_mono (by decide) sR59), ?_⟩
                rw [show zHeir B n 900 (S, R, N, hr, hk, hp) = .inl (3, (nxT B n 900 (nxT B n 900 S)).2.1) from by
                  unfold zHeir
                  try dsimp only
                  rw [hr42, zB_r]
                  try dsimp only
                  rw [hq42]
                  try dsimp only
                  rw [hn42, if_neg (by omega)]
                  try dsimp only
                  rw [hr50, zB_r]
                  try dsimp only
                  rw [hq50]
                  try dsimp only
                  rw [if_pos (by omega)]
                  try dsimp only
                  first | done | rfl, zOK_l]
                exact ⟨rfl, ⟨by rw [rA59], by rw [rB59]⟩⟩
            · omega
        · refine h_aload rfl l46 rfl ?_
          refine h_intv k_3 rfl ?_
          obtain ⟨wR60, hf60, oR60', sR60, rA60, rB60⟩ := x_bad (kn := kn) oN42.1 ht42 (tkG_nx hG) 3 ⟨by omega, by omega⟩
          have oR60 := hO_tr oN42 oR60'
          rw [if_k (by omega)] at rA60
          refine h_V2 rfl oN42 l46 ci_213 rfl rfl hf60 ?_
          refine h_zret (by omega) rfl ?_
          refine ⟨_, _, rfl, oR60, smW_tr (smW_tr (smW_tr sm (smW_mono (by decide) sG41)) (smW_mono (by decide) sN42)) (smW_mono (by decide) sR60), ?_⟩
          rw [show zHeir B n 900 (S, R, N, hr, hk, hp) = .inl (3, (nxT B n 900 S).2.1) from by
            unfold zHeir
            try dsimp only
            rw [hr42, zB_r]
            try dsimp only
            rw [hq42]
            try dsimp only
            rw [hn42, if_pos (by omega)]
            try dsimp only
            first | done | rfl, zOK_l]
          exact ⟨rfl, ⟨by rw [rA60], by rw [rB60]⟩⟩
      · omega
  obtain ⟨r, h1, w2, b, h2, h3⟩ := h_meth1 (nL := 2) rfl K
  rw [h2] at h1
  exact ⟨w2, b, h1, h3⟩
theorem x_readFirst {kn : sKn} {w0 : sW} {B : Nat → Int} {n : Nat} {S : tS} {R N : Nat → Int} (hw : wOk ZZ w0) (htk : tkR B n 900 S w0) (hG : tkG B n 900 S) (hpR : pR R N w0) (h4 : S.1 = 4) (i : Nat) (hi : i < 94) (m : Int) (hm : R32 m) : ∃ (w' : sW) (b : Int), fX12_readFirst kn [.ref 213, hI (i : Int), hI m] w0 = some (some (hI b), w', 0, 0) ∧ hO dRT w0 w' ∧ smW eRT w0 w' ∧ ((R i = m → b = 0 ∧ erR (4, S.2.1) w') ∧ (R i ≠ m → b = 1 ∧ tkR B n 900 (nxT B n 900 S) w')) := by
  obtain ⟨hfr, hkI, hto, hwd⟩ := tkU_i htk.2
  have htx := htk.1
  have gbS := tkG_b hG
  have hn9 := htk.1.2.2.2.1
  have hm1 := hm.1
  have hm2 := hm.2
  have K : Tp (tX12_readFirst kn) (fun r => ∃ (w' : sW) (b : Int), r = (some (hI b), w', 0, 0) ∧ hO dRT w0 w' ∧ smW eRT w0 w' ∧ ((R i = m → b = 0 ∧ erR (4, S.2.1) w') ∧ (R i ≠ m → b = 1 ∧ tkR B n 900 (nxT B n 900 S) w'))) 0 (lv_args 0 [.ref 213, hI (i : Int), hI m], [], w0, 0, 0) := by
    have l0 : hL (lv_args 0 [.ref 213, hI (i : Int), hI m]) (lv_args 0 [.ref 213, hI (i : Int), hI m]) := hL_ex rfl
    have o0 : hO dRT w0 w0 := hO_rf hw
    have sm := smW_rf eRT w0
    refine h_aload rfl l0 rfl ?_
    refine h_getR rfl o0 fr_15 ?_
    refine h_iload rfl l0 rfl ?_
    refine h_ialdj (i) rfl o0 ai_216 rfl (by omega) (by omega) (fun b41a b41b => ?_)
    rw [hpR.1 i (by omega)] at b41a b41b ⊢
    refine h_iload rfl l0 rfl ?_
    refine i_ne (kn := kn) (t := 1) (tgt := 16) (np := 10) rfl (by unfold R32; omega) (by unfold R32; omega) (fun e42 => ?_) (fun e42 => ?_)
    · refine h_aload rfl l0 rfl ?_
      obtain ⟨wG43, hf43, oG43', sG43, tG43⟩ := x_go (kn := kn) htk.1 o0.1 (p := S.2.2.2.2) (tkG_n hG) ((tkU_i htk.2).2.2.1 (by omega))
      have oG43 := hO_tr o0 (hO_mono dRT_g oG43')
      have tG43 : tkR B n 900 (nxT B n 900 S) wG43 := tG43
      refine h_W1 rfl o0 l0 ci_213 rfl rfl hf43 ?_
      refine h_intv k_1 rfl ?_
      refine h_zret (by omega) rfl ?_
      exact ⟨_, _, rfl, oG43, smW_tr sm (smW_mono (by decide) sG43), fun h => absurd h (by omega), fun _ => ⟨rfl, tG43⟩⟩
    · refine h_aload rfl l0 rfl ?_
      refine h_intv k_4 rfl ?_
      obtain ⟨wR44, hf44, oR44', sR44, rA44, rB44⟩ := x_bad (kn := kn) o0.1 htk hG 4 ⟨by omega, by omega⟩
      have oR44 := hO_tr o0 oR44'
      rw [if_k (by omega)] at rA44
      refine h_V2 rfl o0 l0 ci_213 rfl rfl hf44 ?_
      refine h_zret (by omega) rfl ?_
      exact ⟨_, _, rfl, oR44, smW_tr sm (smW_mono (by decide) sR44), fun _ => ⟨rfl, ⟨by rw [rA44], by rw [rB44]⟩⟩, fun h => absurd (by omega) h⟩
  obtain ⟨r, h1, w2, b, h2, h3⟩ := h_meth1 (nL := 3) rfl K
  rw [h2] at h1
  exact ⟨w2, b, h1, h3⟩
theorem x_has {kn : sKn} {w : sW} (hw : wOk ZZ w) (a b : Int) : fX12_has kn [hI a, hI b] w = some (some (hI (zHas a b)), w, 0, 0) := by
  have K : Tp (tX12_has kn) (fun r => r = (some (hI (zHas a b)), w, 0, 0)) 0 (lv_args 0 [hI a, hI b], [], w, 0, 0) := by
    have l0 : hL (lv_args 0 [hI a, hI b]) (lv_args 0 [hI a, hI b]) := hL_ex rfl
    have o0 : hO [] w w := hO_rf hw
    refine h_iload rfl l0 rfl ?_
    refine h_iload rfl l0 rfl ?_
    refine x_ishr rfl ?_
    refine h_intv k_1 rfl ?_
    refine x_iand rfl ?_
    refine h_intv k_1 rfl ?_
    have hz : zAnd (zShr a b) 1 = 0 ∨ zAnd (zShr a b) 1 = 1 := zHas_01 a b
    refine i_ne (kn := kn) (t := 1) (tgt := 13) (np := 9) rfl (by unfold R32; omega) (by unfold R32; omega) (fun e41 => ?_) (fun e41 => ?_)
    · refine h_intv k_0 rfl ?_
      refine h_zret (by omega) rfl ?_
      show _ = (some (hI (zAnd (zShr a b) 1)), w, 0, 0)
      rw [show zAnd (zShr a b) 1 = 0 by omega]
    · refine h_intv k_1 rfl ?_
      refine h_goto rfl ?_
      refine h_zret (by omega) rfl ?_
      show _ = (some (hI (zAnd (zShr a b) 1)), w, 0, 0)
      rw [show zAnd (zShr a b) 1 = 1 by omega]
  obtain ⟨r, h1, h2⟩ := h_meth1 (nL := 2) rfl K
  rw [h2] at h1
  exact h1
theorem x_readLoversR {kn : sKn} {w0 : sW} {B : Nat → Int} {n : Nat} {S : tS} {R N : Nat → Int} {hr hk hp : Int} (hw : wOk ZZ w0) (hz : rpR B n (S, R, N, hr, hk, hp) w0) (h4 : S.1 = 4) : ∃ (w' : sW) (b : Int), fX12_readLovers kn [.ref 213] w0 = some (some (hI b), w', 0, 0) ∧ hO dRT w0 w' ∧ smW eRA w0 w' ∧ zOK (zLovers B n 900 (S, R, N, hr, hk, hp)) b (fun e => erR e w') (fun Y => rpR B n Y w') := by
  obtain ⟨htk, hG, hpR, hf2, hf3, hf4⟩ := id hz
  have htk : tkR B n 900 S w0 := htk
  have hG : tkG B n 900 S := hG
  have hpR : pR R N w0 := hpR
  have hf2 : gF w0 213 24 = hr := hf2
  have hf3 : gF w0 213 25 = hk := hf3
  have hf4 : gF w0 213 26 = hp := hf4
  have hnb := pR_b hpR hw
  have gbS := tkG_b hG
  obtain ⟨_, hkI, hto, _⟩ := tkU_i htk.2
  have hn9 := htk.1.2.2.2.1
  have K : Tp (tX12_readLovers kn) (fun r => ∃ (w' : sW) (b : Int), r = (some (hI b), w', 0, 0) ∧ hO dRT w0 w' ∧ smW eRA w0 w' ∧ zOK (zLovers B n 900 (S, R, N, hr, hk, hp)) b (fun e => erR e w') (fun Y => rpR B n Y w')) 0 (lv_args 0 [.ref 213], [], w0, 0, 0) := by
    have l0 : hL (lv_args 0 [.ref 213]) (lv_args 0 [.ref 213]) := hL_ex rfl
    have o0 : hO dRT w0 w0 := hO_rf hw
    have sm := smW_rf eRA w0
    refine h_aload rfl l0 rfl ?_
    refine h_intv k_3 rfl ?_
    refine h_intv k_8 rfl ?_
    obtain ⟨wN41, bN41, hf41, oN41', sN41, hz41⟩ := x_readFirst (kn := kn) o0.1 htk hG hpR h4 3 (by omega) 8 ⟨by omega, by omega⟩
    have oN41 := hO_tr o0 oN41'
    by_cases hm41 : R 3 = 8
    · obtain ⟨hb41, he41⟩ := hz41.1 hm41
      subst hb41
      obtain ⟨he141, he241⟩ := he41
      refine h_V3 rfl o0 l0 ci_213 rfl rfl hf41 ?_
      refine j_eq (kn := kn) (t := 0) (tgt := 17) (np := 10) rfl (by unfold R32; omega) (fun e42 => ?_) (fun e42 => ?_)
      · refine h_intv k_0 rfl ?_
        refine h_zret (by omega) rfl ?_
        refine ⟨_, _, rfl, oN41, smW_tr sm (smW_mono (by decide) sN41), ?_⟩
        rw [show zLovers B n 900 (S, R, N, hr, hk, hp) = .inl (4, S.2.1) from by
          unfold zLovers
          try dsimp only
          rw [if_pos hm41]
          try dsimp only
          first | done | rfl, zOK_l]
        exact ⟨rfl, ⟨by rw [he141], by rw [he241]⟩⟩
      · omega
    · obtain ⟨hb41, ht41⟩ := hz41.2 hm41
      subst hb41
      refine h_V3 rfl o0 l0 ci_213 rfl rfl hf41 ?_
      refine j_eq (kn := kn) (t := 0) (tgt := 17) (np := 10) rfl (by unfold R32; omega) (fun e43 => ?_) (fun e43 => ?_)
      · omega
      · refine h_aload rfl l0 rfl ?_
        obtain ⟨wN44, bN44, hf44, oN44', sN44, hz44⟩ := x_isSignerTold (kn := kn) oN41.1 ht41 (tkG_nx hG) (pR_sm (smW_tr (smW_rf eRS _) (smW_mono (by decide) sN41)) (by decide) hpR)
        have oN44 := hO_tr oN41 oN44'
        rcases hr44 : zSig B n 900 R N (nxT B n 900 S) with eN44 | qN44
        · rw [hr44, zOK_l] at hz44
          obtain ⟨hb44, he144, he244⟩ := hz44
          subst hb44
          refine h_V1 rfl oN41 l0 ci_213 rfl rfl hf44 ?_
          refine j_ne (kn := kn) (t := 1) (tgt := 19) (np := 17) rfl (by unfold R32; omega) (fun e45 => ?_) (fun e45 => ?_)
          · omega
          · refine h_intv k_0 rfl ?_
            refine h_zret (by omega) rfl ?_
            refine ⟨_, _, rfl, oN44, smW_tr (smW_tr sm (smW_mono (by decide) sN41)) (smW_mono (by decide) sN44), ?_⟩
            rw [show zLovers B n 900 (S, R, N, hr, hk, hp) = .inl eN44 from by
              unfold zLovers
              try dsimp only
              rw [if_neg hm41]
              try dsimp only
              rw [hr44, zB_l]
              try dsimp only
              first | done | rfl, zOK_l]
            exact ⟨rfl, ⟨by rw [he144], by rw [he244]⟩⟩
        · rw [hr44, zOK_r] at hz44
          obtain ⟨hb44, hv44, h544⟩ := hz44
          subst hb44
          have hq44 := zSig_r hr44
          obtain ⟨hlo44, hhi44⟩ := zSig_b hr44
          obtain ⟨s44, hs44⟩ : ∃ s : Nat, qN44.1 = (s : Int) := ⟨qN44.1.toNat, by omega⟩
          have hn44 : qN44.1.toNat = s44 := by omega
          rw [hs44] at hv44
          have ht44 := tkR_sm sN44 (by decide) ht41
          refine h_V1 rfl oN41 l0 ci_213 rfl rfl hf44 ?_
          refine j_ne (kn := kn) (t := 1) (tgt := 19) (np := 17) rfl (by unfold R32; omega) (fun e46 => ?_) (fun e46 => ?_)
          · refine h_aload rfl l0 rfl ?_
            refine h_getI rfl oN44 fi_13 (fun b47a b47b => ?_)
            rw [hv44] at b47a b47b ⊢
            refine h_istore rfl l0 (fun vl48 l48 => ?_)
            refine h_aload rfl l48 rfl ?_
            obtain ⟨wG49, hf49, oG49', sG49, tG49⟩ := x_go (kn := kn) ht44.1 oN44.1 (p := (nxT B n 900 S).2.2.2.2) (tkG_n (tkG_nx hG)) ((tkU_i ht44.2).2.2.1 (by omega))
            have oG49 := hO_tr oN44 (hO_mono dRT_g oG49')
            have tG49 : tkR B n 900 (nxT B n 900 (nxT B n 900 S)) wG49 := tG49
            refine h_W1 rfl oN44 l48 ci_213 rfl rfl hf49 ?_
            refine h_aload rfl l48 rfl ?_
            obtain ⟨wN50, bN50, hf50, oN50', sN50, hz50⟩ := x_isSignerTold (kn := kn) oG49.1 tG49 (tkG_nx (tkG_nx hG)) (pR_sm (smW_tr (smW_tr (smW_tr (smW_rf eRS _) (smW_mono (by decide) sN41)) (smW_mono (by decide) sN44)) (smW_mono (by decide) sG49)) (by decide) hpR)
            have oN50 := hO_tr oG49 oN50'
            rcases hr50 : zSig B n 900 R N (nxT B n 900 (nxT B n 900 S)) with eN50 | qN50
            · rw [hr50, zOK_l] at hz50
              obtain ⟨hb50, he150, he250⟩ := hz50
              subst hb50
              refine h_V1 rfl oG49 l48 ci_213 rfl rfl hf50 ?_
              refine j_ne (kn := kn) (t := 1) (tgt := 37) (np := 35) rfl (by unfold R32; omega) (fun e51 => ?_) (fun e51 => ?_)
              · omega
              · refine h_intv k_0 rfl ?_
                refine h_zret (by omega) rfl ?_
                refine ⟨_, _, rfl, oN50, smW_tr (smW_tr (smW_tr (smW_tr sm (smW_mono (by decide) sN41)) (smW_mono (by decide) sN44)) (smW_mono (by decide) sG49)) (smW_mono (by decide) sN50), ?_⟩
                rw [show zLovers B n 900 (S, R, N, hr, hk, hp) = .inl eN50 from by
                  unfold zLovers
                  try dsimp only
                  rw [if_neg hm41]
                  try dsimp only
                  rw [hr44, zB_r]
                  try dsimp only
                  rw [hq44]
                  try dsimp only
                  rw [hr50, zB_l]
                  try dsimp only
                  first | done | rfl, zOK_l]
                exact ⟨rfl, ⟨by rw [he150], by rw [he250]⟩⟩
            · rw [hr50, zOK_r] at hz50
              obtain ⟨hb50, hv50, h550⟩ := hz50
              subst hb50
              have hq50 := zSig_r hr50
              obtain ⟨hlo50, hhi50⟩ := zSig_b hr50
              obtain ⟨s50, hs50⟩ : ∃ s : Nat, qN50.1 = (s : Int) := ⟨qN50.1.toNat, by omega⟩
              have hn50 : qN50.1.toNat = s50 := by omega
              rw [hs50] at hv50
              have ht50 := tkR_sm sN50 (by decide) tG49
              refine h_V1 rfl oG49 l48 ci_213 rfl rfl hf50 ?_
              refine j_ne (kn := kn) (t := 1) (tgt := 37) (np := 35) rfl (by unfold R32; omega) (fun e52 => ?_) (fun e52 => ?_)
              · refine h_aload rfl l48 rfl ?_
                refine h_getI rfl oN50 fi_13 (fun b53a b53b => ?_)
                rw [hv50] at b53a b53b ⊢
                refine h_iload rfl l48 rfl ?_
                refine i_eq (kn := kn) (t := 0) (tgt := 64) (np := 45) rfl (by unfold R32; omega) (by unfold R32; omega) (fun e54 => ?_) (fun e54 => ?_)
                · refine h_aload rfl l48 rfl ?_
                  refine h_intv k_3 rfl ?_
                  obtain ⟨wR55, hf55, oR55', sR55, rA55, rB55⟩ := x_bad (kn := kn) oN50.1 ht50 (tkG_nx (tkG_nx hG)) 3 ⟨by omega, by omega⟩
                  have oR55 := hO_tr oN50 oR55'
                  rw [if_k (by omega)] at rA55
                  refine h_V2 rfl oN50 l48 ci_213 rfl rfl hf55 ?_
                  refine h_zret (by omega) rfl ?_
                  refine ⟨_, _, rfl, oR55, smW_tr (smW_tr (smW_tr (smW_tr (smW_tr sm (smW_mono (by decide) sN41)) (smW_mono (by decide) sN44)) (smW_mono (by decide) sG49)) (smW_mono (by decide) sN50)) (smW_mono (by decide) sR55), ?_⟩
                  rw [show zLovers B n 900 (S, R, N, hr, hk, hp) = .inl (3, (nxT B n 900 (nxT B n 900 S)).2.1) from by
                    unfold zLovers
                    try dsimp only
                    rw [if_neg hm41]
                    try dsimp only
                    rw [hr44, zB_r]
                    try dsimp only
                    rw [hq44]
                    try dsimp only
                    rw [hr50, zB_r]
                    try dsimp only
                    rw [hq50]
                    try dsimp only
                    rw [hn44]
                    try dsimp only
                    rw [hn50]
                    try dsimp only
                    rw [hs44]
                    try dsimp only
                    rw [hs50]
                    try dsimp only
                    rw [if_pos (by omega)]
                    try dsimp only
                    first | done | rfl, zOK_l]
                  exact ⟨rfl, ⟨by rw [rA55], by rw [rB55]⟩⟩
                · refine h_aload rfl l48 rfl ?_
                  refine h_getR rfl oN50 fr_15 ?_
                  refine h_intv k_36 rfl ?_
                  refine h_iload rfl l48 rfl ?_
                  refine h_iadd rfl ?_
                  refine h_ialdj (36 + s44) rfl oN50 ai_216 rfl (by omega) (by omega) (fun b56a b56b => ?_)
                  rw [sN50.2.2.1 216 (36 + s44) (by decide), sG49.2.2.1 216 (36 + s44) (by decide), sN44.2.2.1 216 (36 + s44) (by decide), sN41.2.2.1 216 (36 + s44) (by decide), hpR.1 (36 + s44) (by omega)] at b56a b56b ⊢
                  refine h_aload rfl l48 rfl ?_
                  refine h_getI rfl oN50 fi_13 (fun b57a b57b => ?_)
                  rw [hv50] at b57a b57b ⊢
                  have hf58 := x_has (kn := kn) oN50.1 (R (36 + s44)) s50
                  have z58 := zHas_01 (R (36 + s44)) s50
                  refine h_S2 rfl oN50 l48 rfl rfl hf58 ?_
                  refine j_eq (kn := kn) (t := 0) (tgt := 70) (np := 64) rfl (by unfold R32; omega) (fun e59 => ?_) (fun e59 => ?_)
                  · refine h_aload rfl l48 rfl ?_
                    refine h_getR rfl oN50 fr_15 ?_
                    refine h_intv k_36 rfl ?_
                    refine h_iload rfl l48 rfl ?_
                    refine h_iadd rfl ?_
                    refine h_dup2 rfl rfl rfl ?_
                    refine h_ialdj (36 + s44) rfl oN50 ai_216 rfl (by omega) (by omega) (fun b60a b60b => ?_)
                    rw [sN50.2.2.1 216 (36 + s44) (by decide), sG49.2.2.1 216 (36 + s44) (by decide), sN44.2.2.1 216 (36 + s44) (by decide), sN41.2.2.1 216 (36 + s44) (by decide), hpR.1 (36 + s44) (by omega)] at b60a b60b ⊢
                    refine h_intv k_1 rfl ?_
                    refine h_aload rfl l48 rfl ?_
                    refine h_getI rfl oN50 fi_13 (fun b61a b61b => ?_)
                    rw [hv50] at b61a b61b ⊢
                    refine x_ishl rfl ?_
                    refine x_ior rfl ?_
                    refine x_iast (36 + s44) rfl oN50 ai_216 rfl rfl ap216_36 (by omega) (by omega) (by omega) (by omega) (zOr_R _ _).1 (zOr_R _ _).2 (zOr_R _ _) (fun w62 o62 q63a q63X q63F q63J q63Y q63R => ?_)
                    refine h_aload rfl l48 rfl ?_
                    refine h_getR rfl o62 fr_15 ?_
                    refine h_intv k_36 rfl ?_
                    refine h_aload rfl l48 rfl ?_
                    refine h_getI rfl o62 fi_13 (fun b64a b64b => ?_)
                    rw [q63F 213 13, hv50] at b64a b64b ⊢
                    refine h_iadd rfl ?_
                    refine h_dup2 rfl rfl rfl ?_
                    refine h_ialdj (36 + s50) rfl o62 ai_216 rfl (by omega) (by omega) (fun b65a b65b => ?_)
                    rw [q63X 216 (36 + s50) (fun _ => by omega), sN50.2.2.1 216 (36 + s50) (by decide), sG49.2.2.1 216 (36 + s50) (by decide), sN44.2.2.1 216 (36 + s50) (by decide), sN41.2.2.1 216 (36 + s50) (by decide), hpR.1 (36 + s50) (by omega)] at b65a b65b ⊢
                    refine h_intv k_1 rfl ?_
                    refine h_iload rfl l48 rfl ?_
                    refine x_ishl rfl ?_
                    refine x_ior rfl ?_
                    refine x_iast (36 + s50) rfl o62 ai_216 rfl rfl ap216_36 (by omega) (by omega) (by omega) (by omega) (zOr_R _ _).1 (zOr_R _ _).2 (zOr_R _ _) (fun w66 o66 q67a q67X q67F q67J q67Y q67R => ?_)
                    refine h_aload rfl l48 rfl ?_
                    refine h_getR rfl o66 fr_15 ?_
                    refine h_intv k_3 rfl ?_
                    refine h_dup2 rfl rfl rfl ?_
                    refine h_ialdj (3) rfl o66 ai_216 rfl (by omega) (by omega) (fun b68a b68b => ?_)
                    rw [q67X 216 3 (fun _ => by omega), q63X 216 3 (fun _ => by omega), sN50.2.2.1 216 3 (by decide), sG49.2.2.1 216 3 (by decide), sN44.2.2.1 216 3 (by decide), sN41.2.2.1 216 3 (by decide), hpR.1 3 (by omega)] at b68a b68b ⊢
                    refine h_intv k_1 rfl ?_
                    refine h_iadd rfl ?_
                    refine x_iast (3) rfl o66 ai_216 rfl rfl ap216_3 (by omega) (by omega) (by omega) (by omega) (by omega) (by omega) (by unfold R32; omega) (fun w69 o69 q70a q70X q70F q70J q70Y q70R => ?_)
                    refine h_aload rfl l48 rfl ?_
                    obtain ⟨wG71, hf71, oG71', sG71, tG71⟩ := x_go (kn := kn) (tkR_sm (smW_tr (smW_tr (smW_tr (smW_rf eRQ _) (sm_pX (by decide) q63X q63F q63J q63Y q63R)) (sm_pX (by decide) q67X q67F q67J q67Y q67R)) (sm_pX (by decide) q70X q70F q70J q70Y q70R)) (by decide) ht50).1 o69.1 (p := (nxT B n 900 (nxT B n 900 S)).2.2.2.2) (tkG_n (tkG_nx (tkG_nx hG))) ((tkU_i (tkR_sm (smW_tr (smW_tr (smW_tr (smW_rf eRQ _) (sm_pX (by decide) q63X q63F q63J q63Y q63R)) (sm_pX (by decide) q67X q67F q67J q67Y q67R)) (sm_pX (by decide) q70X q70F q70J q70Y q70R)) (by decide) ht50).2).2.2.1 (by omega))
                    have oG71 := hO_tr o69 (hO_mono dRT_g oG71')
                    have tG71 : tkR B n 900 (nxT B n 900 (nxT B n 900 (nxT B n 900 S))) wG71 := tG71
                    refine h_W1 rfl o69 l48 ci_213 rfl rfl hf71 ?_
                    refine h_intv k_1 rfl ?_
                    refine h_zret (by omega) rfl ?_
                    refine ⟨_, _, rfl, oG71, smW_tr (smW_tr (smW_tr (smW_tr (smW_tr (smW_tr (smW_tr (smW_tr sm (smW_mono (by decide) sN41)) (smW_mono (by decide) sN44)) (smW_mono (by decide) sG49)) (smW_mono (by decide) sN50)) (sm_pX (by decide) q63X q63F q63J q63Y q63R)) (sm_pX (by decide) q67X q67F q67J q67Y q67R)) (sm_pX (by decide) q70X q70F q70J q70Y q70R)) (smW_mono (by decide) sG71), ?_⟩
                    rw [show zLovers B n 900 (S, R, N, hr, hk, hp) = .inr ((nxT B n 900 (nxT B n 900 (nxT B n 900 S))), zU (zU (zU R (36 + s44) (zOr (R (36 + s44)) (zSh 1 s50))) (36 + s50) (zOr (R (36 + s50)) (zSh 1 s44))) 3 (R 3 + 1), N, hr, hk, hp) from by
                      unfold zLovers
                      try dsimp only
                      rw [if_neg hm41]
                      try dsimp only
                      rw [hr44, zB_r]
                      try dsimp only
                      rw [hq44]
                      try dsimp only
                      rw [hr50, zB_r]
                      try dsimp only
                      rw [hq50]
                      try dsimp only
                      rw [hn44]
                      try dsimp only
                      rw [hn50]
                      try dsimp only
                      rw [hs44]
                      try dsimp only
                      rw [hs50]
                      try dsimp only
                      rw [if_neg (by omega)]
                      try dsimp only
                      first | done | rfl, zOK_r]
                    exact ⟨rfl, tG71, (tkG_nx (tkG_nx (tkG_nx hG))), pR_mk (R' := zU (zU (zU R (36 + s44) (zOr (R (36 + s44)) (zSh 1 s50))) (36 + s50) (zOr (R (36 + s50)) (zSh 1 s44))) 3 (R 3 + 1)) (pX_sm (smW_tr (smW_rf eRWx _) (smW_mono (by decide) sG71)) (by decide) (pX_set (pX_set (pX_set (pX_sm (smW_tr (smW_tr (smW_tr (smW_tr (smW_rf eRWx _) (smW_mono (by decide) sN41)) (smW_mono (by decide) sN44)) (smW_mono (by decide) sG49)) (smW_mono (by decide) sN50)) (by decide) (hpR.1)) q63a (fun j hj => q63X 216 j (fun _ => hj))) q67a (fun j hj => q67X 216 j (fun _ => hj))) q70a (fun j hj => q70X 216 j (fun _ => hj)))) (by rw [zU_n _ _ (by omega), zU_n _ _ (by omega), zU_n _ _ (by omega)]) (by rw [zU_n _ _ (by omega), zU_n _ _ (by omega), zU_n _ _ (by omega)]) (fun i => by rw [sG71.2.2.2.1 221 i (by decide), q70Y 221 i, q67Y 221 i, q63Y 221 i, sN50.2.2.2.1 221 i (by decide), sG49.2.2.2.1 221 i (by decide), sN44.2.2.2.1 221 i (by decide), sN41.2.2.2.1 221 i (by decide)]) hpR, by rw [sG71.1 213 24 (by decide), q70F 213 24, q67F 213 24, q63F 213 24, sN50.1 213 24 (by decide), sG49.1 213 24 (by decide), sN44.1 213 24 (by decide), sN41.1 213 24 (by decide), hf2], by rw [sG71.1 213 25 (by decide), q70F 213 25, q67F 213 25, q63F 213 25, sN50.1 213 25 (by decide), sG49.1 213 25 (by decide), sN44.1 213 25 (by decide), sN41.1 213 25 (by decide), hf3], by rw [sG71.1 213 26 (by decide), q70F 213 26, q67F 213 26, q63F 213 26, sN50.1 213 26 (by decide), sG49.1 213 26 (by decide), sN44.1 213 26 (by decide), sN41.1 213 26 (by decide), hf4]⟩
                  · refine h_aload rfl l48 rfl ?_
                    refine h_intv k_3 rfl ?_
                    obtain ⟨wR72, hf72, oR72', sR72, rA72, rB72⟩ := x_bad (kn := kn) oN50.1 ht50 (tkG_nx (tkG_nx hG)) 3 ⟨by omega, by omega⟩
                    have oR72 := hO_tr oN50 oR72'
                    rw [if_k (by omega)] at rA72
                    refine h_V2 rfl oN50 l48 ci_213 rfl rfl hf72 ?_
                    refine h_zret (by omega) rfl ?_
                    refine ⟨_, _, rfl, oR72, smW_tr (smW_tr (smW_tr (smW_tr (smW_tr sm (smW_mono (by decide) sN41)) (smW_mono (by decide) sN44)) (smW_mono (by decide) sG49)) (smW_mono (by decide) sN50)) (smW_mono (by decide) sR72), ?_⟩
                    rw [show zLovers B n 900 (S, R, N, hr, hk, hp) = .inl (3, (nxT B n 900 (nxT B n 900 S)).2.1) from by
                      unfold zLovers
                      try dsimp only
                      rw [if_neg hm41]
                      try dsimp only
                      rw [hr44, zB_r]
                      try dsimp only
                      rw [hq44]
                      try dsimp only
                      rw [hr50, zB_r]
                      try dsimp only
                      rw [hq50]
                      try dsimp only
                      rw [hn44]
                      try dsimp only
                      rw [hn50]
                      try dsimp only
                      rw [hs44]
                      try dsimp only
                      rw [hs50]
                      try dsimp only
                      rw [if_pos (by omega)]
                      try dsimp only
                      first | done | rfl, zOK_l]
                    exact ⟨rfl, ⟨by rw [rA72], by rw [rB72]⟩⟩
              · omega
          · omega
  obtain ⟨r, h1, w2, b, h2, h3⟩ := h_meth1 (nL := 2) rfl K
  rw [h2] at h1
  exact ⟨w2, b, h1, h3⟩
theorem x_readLoadR {kn : sKn} {w0 : sW} {B : Nat → Int} {n : Nat} {S : tS} {R N : Nat → Int} {hr hk hp : Int} (hw : wOk ZZ w0) (hz : rpR B n (S, R, N, hr, hk, hp) w0) (h4 : S.1 = 4) : ∃ (w' : sW) (b : Int), fX12_readLoad kn [.ref 213] w0 = some (some (hI b), w', 0, 0) ∧ hO dRT w0 w' ∧ smW eRA w0 w' ∧ zOK (zLoad B n 900 (S, R, N, hr, hk, hp)) b (fun e => erR e w') (fun Y => rpR B n Y w') := by
  obtain ⟨htk, hG, hpR, hf2, hf3, hf4⟩ := id hz
  have htk : tkR B n 900 S w0 := htk
  have hG : tkG B n 900 S := hG
  have hpR : pR R N w0 := hpR
  have hf2 : gF w0 213 24 = hr := hf2
  have hf3 : gF w0 213 25 = hk := hf3
  have hf4 : gF w0 213 26 = hp := hf4
  have hnb := pR_b hpR hw
  have gbS := tkG_b hG
  obtain ⟨_, hkI, hto, _⟩ := tkU_i htk.2
  have hn9 := htk.1.2.2.2.1
  obtain ⟨l, hl⟩ : ∃ l : Nat, R 2 = (l : Int) := ⟨(R 2).toNat, by omega⟩
  have K : Tp (tX12_readLoad kn) (fun r => ∃ (w' : sW) (b : Int), r = (some (hI b), w', 0, 0) ∧ hO dRT w0 w' ∧ smW eRA w0 w' ∧ zOK (zLoad B n 900 (S, R, N, hr, hk, hp)) b (fun e => erR e w') (fun Y => rpR B n Y w')) 0 (lv_args 0 [.ref 213], [], w0, 0, 0) := by
    have l0 : hL (lv_args 0 [.ref 213]) (lv_args 0 [.ref 213]) := hL_ex rfl
    have o0 : hO dRT w0 w0 := hO_rf hw
    have sm := smW_rf eRA w0
    refine h_aload rfl l0 rfl ?_
    refine h_intv k_2 rfl ?_
    refine h_intv k_6 rfl ?_
    obtain ⟨wN41, bN41, hf41, oN41', sN41, hz41⟩ := x_readFirst (kn := kn) o0.1 htk hG hpR h4 2 (by omega) 6 ⟨by omega, by omega⟩
    have oN41 := hO_tr o0 oN41'
    by_cases hm41 : R 2 = 6
    · obtain ⟨hb41, he41⟩ := hz41.1 hm41
      subst hb41
      obtain ⟨he141, he241⟩ := he41
      refine h_V3 rfl o0 l0 ci_213 rfl rfl hf41 ?_
      refine j_ne (kn := kn) (t := 1) (tgt := 12) (np := 10) rfl (by unfold R32; omega) (fun e42 => ?_) (fun e42 => ?_)
      · omega
      · refine h_intv k_0 rfl ?_
        refine h_zret (by omega) rfl ?_
        refine ⟨_, _, rfl, oN41, smW_tr sm (smW_mono (by decide) sN41), ?_⟩
        rw [show zLoad B n 900 (S, R, N, hr, hk, hp) = .inl (4, S.2.1) from by
          unfold zLoad
          try dsimp only
          rw [if_pos hm41]
          try dsimp only
          first | done | rfl, zOK_l]
        exact ⟨rfl, ⟨by rw [he141], by rw [he241]⟩⟩
    · obtain ⟨hb41, ht41⟩ := hz41.2 hm41
      subst hb41
      refine h_V3 rfl o0 l0 ci_213 rfl rfl hf41 ?_
      refine j_ne (kn := kn) (t := 1) (tgt := 12) (np := 10) rfl (by unfold R32; omega) (fun e43 => ?_) (fun e43 => ?_)
      · refine h_aload rfl l0 rfl ?_
        refine h_getR rfl oN41 fr_15 ?_
        refine h_intv k_2 rfl ?_
        refine h_ialdj (2) rfl oN41 ai_216 rfl (by omega) (by omega) (fun b44a b44b => ?_)
        rw [sN41.2.2.1 216 2 (by decide), hpR.1 2 (by omega)] at b44a b44b ⊢
        refine h_istore rfl l0 (fun vl45 l45 => ?_)
        refine h_aload rfl l45 rfl ?_
        refine h_intv k_10 rfl ?_
        refine h_iload rfl l45 rfl ?_
        refine h_iadd rfl ?_
        rw [show (10 + R 2) = ((10 + l : Nat) : Int) by omega]
        obtain ⟨wN46, bN46, hf46, oN46', sN46, hz46⟩ := x_readNew (kn := kn) oN41.1 ht41 (tkG_nx hG) (pR_sm (smW_tr (smW_rf eRS _) (smW_mono (by decide) sN41)) (by decide) hpR) (10 + l) (by omega)
        have oN46 := hO_tr oN41 oN46'
        rcases hr46 : zNew B n 900 R N (nxT B n 900 S) with eN46 | qN46
        · rw [hr46, zOK_l] at hz46
          obtain ⟨hb46, he146, he246⟩ := hz46
          subst hb46
          refine h_V2 rfl oN41 l45 ci_213 rfl rfl hf46 ?_
          refine j_eq (kn := kn) (t := 0) (tgt := 66) (np := 30) rfl (by unfold R32; omega) (fun e47 => ?_) (fun e47 => ?_)
          · refine h_intv k_0 rfl ?_
            refine h_zret (by omega) rfl ?_
            refine ⟨_, _, rfl, oN46, smW_tr (smW_tr sm (smW_mono (by decide) sN41)) (smW_mono (by decide) sN46), ?_⟩
            rw [show zLoad B n 900 (S, R, N, hr, hk, hp) = .inl eN46 from by
              unfold zLoad
              try dsimp only
              rw [if_neg hm41]
              try dsimp only
              rw [hr46, zB_l]
              try dsimp only
              first | done | rfl, zOK_l]
            exact ⟨rfl, ⟨by rw [he146], by rw [he246]⟩⟩
          · omega
        · rw [hr46, zOK_r] at hz46
          obtain ⟨hb46, hy46, hyn46, ht46, hlo46, hhi46⟩ := hz46
          subst hb46
          have G46 : tkG B n 900 qN46.2 := by
            rw [zNew_r hr46]
            exact tkG_nx (tkG_nx hG)
          refine h_V2 rfl oN41 l45 ci_213 rfl rfl hf46 ?_
          refine j_eq (kn := kn) (t := 0) (tgt := 66) (np := 30) rfl (by unfold R32; omega) (fun e48 => ?_) (fun e48 => ?_)
          · omega
          · refine h_aload rfl l45 rfl ?_
            refine h_intv k_82 rfl ?_
            refine h_iload rfl l45 rfl ?_
            refine h_iadd rfl ?_
            refine h_aload rfl l45 rfl ?_
            refine h_intv k_1 rfl ?_
            refine h_intv k_300 rfl ?_
            obtain ⟨wN49, bN49, hf49, oN49', sN49, hz49⟩ := x_readNumberR (kn := kn) oN46.1 ht46 G46 1 300 ⟨by omega, by omega⟩ ⟨by omega, by omega⟩
            have oN49 := hO_tr oN46 oN49'
            rcases hr49 : zNum B n 900 1 300 qN46.2 with eN49 | qN49
            · rw [hr49, zOK_l] at hz49
              obtain ⟨hb49, he149, he249⟩ := hz49
              subst hb49
              refine h_V3 rfl oN46 l45 ci_213 rfl rfl hf49 ?_
              have hf50 := x_put0 (kn := kn) oN49.1 (82 + R 2)
              refine h_V3 rfl oN49 l45 ci_213 rfl rfl hf50 ?_
              refine j_eq (kn := kn) (t := 0) (tgt := 66) (np := 49) rfl (by unfold R32; omega) (fun e51 => ?_) (fun e51 => ?_)
              · refine h_intv k_0 rfl ?_
                refine h_zret (by omega) rfl ?_
                refine ⟨_, _, rfl, oN49, smW_tr (smW_tr (smW_tr sm (smW_mono (by decide) sN41)) (smW_mono (by decide) sN46)) (smW_mono (by decide) sN49), ?_⟩
                rw [show zLoad B n 900 (S, R, N, hr, hk, hp) = .inl eN49 from by
                  unfold zLoad
                  try dsimp only
                  rw [if_neg hm41]
                  try dsimp only
                  rw [hr46, zB_r]
                  try dsimp only
                  rw [hr49, zB_l]
                  try dsimp only
                  first | done | rfl, zOK_l]
                exact ⟨rfl, ⟨by rw [he149], by rw [he249]⟩⟩
              · omega
            · rw [hr49, zOK_r] at hz49
              obtain ⟨hb49, hv49, ht49⟩ := hz49
              subst hb49
              obtain ⟨hq49, hlo49, hhi49⟩ := zNum_r hr49
              have G49 : tkG B n 900 qN49.2 := by
                rw [hq49]
                exact tkG_nx G46
              refine h_V3 rfl oN46 l45 ci_213 rfl rfl hf49 ?_
              rw [show (82 + R 2) = ((82 + l : Nat) : Int) by omega]
              have tv52 : gF wN49 213 13 = qN49.1 := by rw [hv49]
              obtain ⟨wP52, hf52, oP52', sP52, pa52, pn52⟩ := x_put1 (kn := kn) oN49.1 (82 + l) 82 6 0 300 ap216_82 (by omega) (by omega) (by omega) (by omega) (by omega)
              have oP52 := hO_tr oN49 oP52'
              rw [tv52] at pa52
              refine h_V3 rfl oN49 l45 ci_213 rfl rfl hf52 ?_
              refine j_eq (kn := kn) (t := 0) (tgt := 66) (np := 49) rfl (by unfold R32; omega) (fun e53 => ?_) (fun e53 => ?_)
              · omega
              · refine h_aload rfl l45 rfl ?_
                refine h_intv k_88 rfl ?_
                refine h_iload rfl l45 rfl ?_
                refine h_iadd rfl ?_
                refine h_aload rfl l45 rfl ?_
                refine h_intv k_1 rfl ?_
                refine h_intv k_3 rfl ?_
                obtain ⟨wN54, bN54, hf54, oN54', sN54, hz54⟩ := x_readNumberR (kn := kn) oP52.1 (tkR_sm (smW_tr (smW_rf eRQ _) (smW_mono (by decide) sP52)) (by decide) ht49) G49 1 3 ⟨by omega, by omega⟩ ⟨by omega, by omega⟩
                have oN54 := hO_tr oP52 oN54'
                rcases hr54 : zNum B n 900 1 3 qN49.2 with eN54 | qN54
                · rw [hr54, zOK_l] at hz54
                  obtain ⟨hb54, he154, he254⟩ := hz54
                  subst hb54
                  refine h_V3 rfl oP52 l45 ci_213 rfl rfl hf54 ?_
                  have hf55 := x_put0 (kn := kn) oN54.1 (88 + R 2)
                  refine h_V3 rfl oN54 l45 ci_213 rfl rfl hf55 ?_
                  refine j_ne (kn := kn) (t := 1) (tgt := 68) (np := 66) rfl (by unfold R32; omega) (fun e56 => ?_) (fun e56 => ?_)
                  · omega
                  · refine h_intv k_0 rfl ?_
                    refine h_zret (by omega) rfl ?_
                    refine ⟨_, _, rfl, oN54, smW_tr (smW_tr (smW_tr (smW_tr (smW_tr sm (smW_mono (by decide) sN41)) (smW_mono (by decide) sN46)) (smW_mono (by decide) sN49)) (smW_mono (by decide) sP52)) (smW_mono (by decide) sN54), ?_⟩
                    rw [show zLoad B n 900 (S, R, N, hr, hk, hp) = .inl eN54 from by
                      unfold zLoad
                      try dsimp only
                      rw [if_neg hm41]
                      try dsimp only
                      rw [hr46, zB_r]
                      try dsimp only
                      rw [hr49, zB_r]
                      try dsimp only
                      rw [hr54, zB_l]
                      try dsimp only
                      first | done | rfl, zOK_l]
                    exact ⟨rfl, ⟨by rw [he154], by rw [he254]⟩⟩
                · rw [hr54, zOK_r] at hz54
                  obtain ⟨hb54, hv54, ht54⟩ := hz54
                  subst hb54
                  obtain ⟨hq54, hlo54, hhi54⟩ := zNum_r hr54
                  have G54 : tkG B n 900 qN54.2 := by
                    rw [hq54]
                    exact tkG_nx G49
                  refine h_V3 rfl oP52 l45 ci_213 rfl rfl hf54 ?_
                  rw [show (88 + R 2) = ((88 + l : Nat) : Int) by omega]
                  have tv57 : gF wN54 213 13 = qN54.1 := by rw [hv54]
                  obtain ⟨wP57, hf57, oP57', sP57, pa57, pn57⟩ := x_put1 (kn := kn) oN54.1 (88 + l) 88 6 0 3 ap216_88 (by omega) (by omega) (by omega) (by omega) (by omega)
                  have oP57 := hO_tr oN54 oP57'
                  rw [tv57] at pa57
                  refine h_V3 rfl oN54 l45 ci_213 rfl rfl hf57 ?_
                  refine j_ne (kn := kn) (t := 1) (tgt := 68) (np := 66) rfl (by unfold R32; omega) (fun e58 => ?_) (fun e58 => ?_)
                  · refine h_aload rfl l45 rfl ?_
                    refine h_getR rfl oP57 fr_15 ?_
                    refine h_intv k_2 rfl ?_
                    refine h_dup2 rfl rfl rfl ?_
                    refine h_ialdj (2) rfl oP57 ai_216 rfl (by omega) (by omega) (fun b59a b59b => ?_)
                    rw [pn57 2 (by omega), sN54.2.2.1 216 2 (by decide), pn52 2 (by omega), sN49.2.2.1 216 2 (by decide), sN46.2.2.1 216 2 (by decide), sN41.2.2.1 216 2 (by decide), hpR.1 2 (by omega)] at b59a b59b ⊢
                    refine h_intv k_1 rfl ?_
                    refine h_iadd rfl ?_
                    refine x_iast (2) rfl oP57 ai_216 rfl rfl ap216_2 (by omega) (by omega) (by omega) (by omega) (by omega) (by omega) (by unfold R32; omega) (fun w60 o60 q61a q61X q61F q61J q61Y q61R => ?_)
                    refine h_intv k_1 rfl ?_
                    refine h_zret (by omega) rfl ?_
                    have hlt : (R 2).toNat = l := by omega
                    have hpX := pX_set (pX_set (pX_sm (smW_tr (smW_rf eRWx _) (smW_mono (by decide) sN54)) (by decide) (pX_set (pX_sm (smW_tr (smW_tr (smW_tr (smW_rf eRWx _) (smW_mono (by decide) sN41)) (smW_mono (by decide) sN46)) (smW_mono (by decide) sN49)) (by decide) (hpR.1)) pa52 pn52)) pa57 pn57) q61a (fun j hj => q61X 216 j (fun _ => hj))
                    have hpl9 := pR_ld (N := N) (x := qN46.1) hpX hl (by omega) (by omega) (by rw [zU_n _ _ (by omega), zU_n _ _ (by omega), zU_n _ _ (by omega)]) (zU_s _ _ _) ⟨hlo46, hhi46⟩ (by rw [q61Y 221 (10 + l), sP57.2.2.2.1 221 (10 + l) (by decide), sN54.2.2.2.1 221 (10 + l) (by decide), sP52.2.2.2.1 221 (10 + l) (by decide), sN49.2.2.2.1 221 (10 + l) (by decide), hy46]) (fun i hi => by rw [q61Y 221 i, sP57.2.2.2.1 221 i (by decide), sN54.2.2.2.1 221 i (by decide), sP52.2.2.2.1 221 i (by decide), sN49.2.2.2.1 221 i (by decide), hyn46 i (by omega), sN41.2.2.2.1 221 i (by decide)]) hpR
                    refine ⟨_, _, rfl, o60, smW_tr (smW_tr (smW_tr (smW_tr (smW_tr (smW_tr (smW_tr sm (smW_mono (by decide) sN41)) (smW_mono (by decide) sN46)) (smW_mono (by decide) sN49)) (smW_mono (by decide) sP52)) (smW_mono (by decide) sN54)) (smW_mono (by decide) sP57)) (sm_pX (by decide) q61X q61F q61J q61Y q61R), ?_⟩
                    rw [show zLoad B n 900 (S, R, N, hr, hk, hp) = .inr (qN54.2, zU (zU (zU R (82 + l) qN49.1) (88 + l) qN54.1) 2 (R 2 + 1), zU N (10 + (R 2).toNat) qN46.1, hr, hk, hp) from by
                      unfold zLoad
                      try dsimp only
                      rw [show zU (zU (zU R (82 + l) qN49.1) (88 + l) qN54.1) 2 (R 2 + 1) = zU (zU (zU R (82 + (R 2).toNat) qN49.1) (88 + (R 2).toNat) qN54.1) 2 (R 2 + 1) by rw [hlt]]
                      try dsimp only
                      rw [if_neg hm41]
                      try dsimp only
                      rw [hr46, zB_r]
                      try dsimp only
                      rw [hr49, zB_r]
                      try dsimp only
                      rw [hr54, zB_r]
                      try dsimp only
                      first | done | rfl, zOK_r]
                    exact ⟨rfl, (tkR_sm (smW_tr (smW_tr (smW_rf eRQ _) (smW_mono (by decide) sP57)) (sm_pX (by decide) q61X q61F q61J q61Y q61R)) (by decide) ht54), G54, hpl9, by rw [q61F 213 24, sP57.1 213 24 (by decide), sN54.1 213 24 (by decide), sP52.1 213 24 (by decide), sN49.1 213 24 (by decide), sN46.1 213 24 (by decide), sN41.1 213 24 (by decide), hf2], by rw [q61F 213 25, sP57.1 213 25 (by decide), sN54.1 213 25 (by decide), sP52.1 213 25 (by decide), sN49.1 213 25 (by decide), sN46.1 213 25 (by decide), sN41.1 213 25 (by decide), hf3], by rw [q61F 213 26, sP57.1 213 26 (by decide), sN54.1 213 26 (by decide), sP52.1 213 26 (by decide), sN49.1 213 26 (by decide), sN46.1 213 26 (by decide), sN41.1 213 26 (by decide), hf4]⟩
                  · omega
      · omega
  obtain ⟨r, h1, w2, b, h2, h3⟩ := h_meth1 (nL := 2) rfl K
  rw [h2] at h1
  exact ⟨w2, b, h1, h3⟩
theorem x_readSignerR {kn : sKn} {w0 : sW} {B : Nat → Int} {n : Nat} {S : tS} {R N : Nat → Int} {hr hk hp : Int} (hw : wOk ZZ w0) (hz : rpR B n (S, R, N, hr, hk, hp) w0) (h4 : S.1 = 4) : ∃ (w' : sW) (b : Int), fX12_readSigner kn [.ref 213] w0 = some (some (hI b), w', 0, 0) ∧ hO dRT w0 w' ∧ smW eRA w0 w' ∧ zOK (zSigner B n 900 (S, R, N, hr, hk, hp)) b (fun e => erR e w') (fun Y => rpR B n Y w') := by
  obtain ⟨htk, hG, hpR, hf2, hf3, hf4⟩ := id hz
  have htk : tkR B n 900 S w0 := htk
  have hG : tkG B n 900 S := hG
  have hpR : pR R N w0 := hpR
  have hf2 : gF w0 213 24 = hr := hf2
  have hf3 : gF w0 213 25 = hk := hf3
  have hf4 : gF w0 213 26 = hp := hf4
  have hnb := pR_b hpR hw
  have gbS := tkG_b hG
  obtain ⟨_, hkI, hto, _⟩ := tkU_i htk.2
  have hn9 := htk.1.2.2.2.1
  obtain ⟨k, hk2⟩ : ∃ k : Nat, R 1 = (k : Int) := ⟨(R 1).toNat, by omega⟩
  have K : Tp (tX12_readSigner kn) (fun r => ∃ (w' : sW) (b : Int), r = (some (hI b), w', 0, 0) ∧ hO dRT w0 w' ∧ smW eRA w0 w' ∧ zOK (zSigner B n 900 (S, R, N, hr, hk, hp)) b (fun e => erR e w') (fun Y => rpR B n Y w')) 0 (lv_args 0 [.ref 213], [], w0, 0, 0) := by
    have l0 : hL (lv_args 0 [.ref 213]) (lv_args 0 [.ref 213]) := hL_ex rfl
    have o0 : hO dRT w0 w0 := hO_rf hw
    have sm := smW_rf eRA w0
    refine h_aload rfl l0 rfl ?_
    refine h_intv k_1 rfl ?_
    refine h_intv k_10 rfl ?_
    obtain ⟨wN41, bN41, hf41, oN41', sN41, hz41⟩ := x_readFirst (kn := kn) o0.1 htk hG hpR h4 1 (by omega) 10 ⟨by omega, by omega⟩
    have oN41 := hO_tr o0 oN41'
    by_cases hm41 : R 1 = 10
    · obtain ⟨hb41, he41⟩ := hz41.1 hm41
      subst hb41
      obtain ⟨he141, he241⟩ := he41
      refine h_V3 rfl o0 l0 ci_213 rfl rfl hf41 ?_
      refine j_ne (kn := kn) (t := 1) (tgt := 12) (np := 10) rfl (by unfold R32; omega) (fun e42 => ?_) (fun e42 => ?_)
      · omega
      · refine h_intv k_0 rfl ?_
        refine h_zret (by omega) rfl ?_
        refine ⟨_, _, rfl, oN41, smW_tr sm (smW_mono (by decide) sN41), ?_⟩
        rw [show zSigner B n 900 (S, R, N, hr, hk, hp) = .inl (4, S.2.1) from by
          unfold zSigner
          try dsimp only
          rw [if_pos hm41]
          try dsimp only
          first | done | rfl, zOK_l]
        exact ⟨rfl, ⟨by rw [he141], by rw [he241]⟩⟩
    · obtain ⟨hb41, ht41⟩ := hz41.2 hm41
      subst hb41
      refine h_V3 rfl o0 l0 ci_213 rfl rfl hf41 ?_
      refine j_ne (kn := kn) (t := 1) (tgt := 12) (np := 10) rfl (by unfold R32; omega) (fun e43 => ?_) (fun e43 => ?_)
      · refine h_aload rfl l0 rfl ?_
        refine h_getR rfl oN41 fr_15 ?_
        refine h_intv k_1 rfl ?_
        refine h_ialdj (1) rfl oN41 ai_216 rfl (by omega) (by omega) (fun b44a b44b => ?_)
        rw [sN41.2.2.1 216 1 (by decide), hpR.1 1 (by omega)] at b44a b44b ⊢
        refine h_istore rfl l0 (fun vl45 l45 => ?_)
        refine h_aload rfl l45 rfl ?_
        refine h_iload rfl l45 rfl ?_
        rw [show (R 1) = ((k : Nat) : Int) by omega]
        obtain ⟨wN46, bN46, hf46, oN46', sN46, hz46⟩ := x_readNew (kn := kn) oN41.1 ht41 (tkG_nx hG) (pR_sm (smW_tr (smW_rf eRS _) (smW_mono (by decide) sN41)) (by decide) hpR) (k) (by omega)
        have oN46 := hO_tr oN41 oN46'
        rcases hr46 : zNew B n 900 R N (nxT B n 900 S) with eN46 | qN46
        · rw [hr46, zOK_l] at hz46
          obtain ⟨hb46, he146, he246⟩ := hz46
          subst hb46
          refine h_V2 rfl oN41 l45 ci_213 rfl rfl hf46 ?_
          refine j_eq (kn := kn) (t := 0) (tgt := 62) (np := 27) rfl (by unfold R32; omega) (fun e47 => ?_) (fun e47 => ?_)
          · refine h_intv k_0 rfl ?_
            refine h_zret (by omega) rfl ?_
            refine ⟨_, _, rfl, oN46, smW_tr (smW_tr sm (smW_mono (by decide) sN41)) (smW_mono (by decide) sN46), ?_⟩
            rw [show zSigner B n 900 (S, R, N, hr, hk, hp) = .inl eN46 from by
              unfold zSigner
              try dsimp only
              rw [if_neg hm41]
              try dsimp only
              rw [hr46, zB_l]
              try dsimp only
              first | done | rfl, zOK_l]
            exact ⟨rfl, ⟨by rw [he146], by rw [he246]⟩⟩
          · omega
        · rw [hr46, zOK_r] at hz46
          obtain ⟨hb46, hy46, hyn46, ht46, hlo46, hhi46⟩ := hz46
          subst hb46
          have G46 : tkG B n 900 qN46.2 := by
            rw [zNew_r hr46]
            exact tkG_nx (tkG_nx hG)
          refine h_V2 rfl oN41 l45 ci_213 rfl rfl hf46 ?_
          refine j_eq (kn := kn) (t := 0) (tgt := 62) (np := 27) rfl (by unfold R32; omega) (fun e48 => ?_) (fun e48 => ?_)
          · omega
          · refine h_aload rfl l45 rfl ?_
            refine h_intv k_5 rfl ?_
            refine h_iload rfl l45 rfl ?_
            refine h_iadd rfl ?_
            refine h_aload rfl l45 rfl ?_
            refine h_intv k_0 rfl ?_
            refine h_intv k_9 rfl ?_
            obtain ⟨wN49, bN49, hf49, oN49', sN49, hz49⟩ := x_readNumberR (kn := kn) oN46.1 ht46 G46 0 9 ⟨by omega, by omega⟩ ⟨by omega, by omega⟩
            have oN49 := hO_tr oN46 oN49'
            rcases hr49 : zNum B n 900 0 9 qN46.2 with eN49 | qN49
            · rw [hr49, zOK_l] at hz49
              obtain ⟨hb49, he149, he249⟩ := hz49
              subst hb49
              refine h_V3 rfl oN46 l45 ci_213 rfl rfl hf49 ?_
              have hf50 := x_put0 (kn := kn) oN49.1 (5 + R 1)
              refine h_V3 rfl oN49 l45 ci_213 rfl rfl hf50 ?_
              refine j_eq (kn := kn) (t := 0) (tgt := 62) (np := 44) rfl (by unfold R32; omega) (fun e51 => ?_) (fun e51 => ?_)
              · refine h_intv k_0 rfl ?_
                refine h_zret (by omega) rfl ?_
                refine ⟨_, _, rfl, oN49, smW_tr (smW_tr (smW_tr sm (smW_mono (by decide) sN41)) (smW_mono (by decide) sN46)) (smW_mono (by decide) sN49), ?_⟩
                rw [show zSigner B n 900 (S, R, N, hr, hk, hp) = .inl eN49 from by
                  unfold zSigner
                  try dsimp only
                  rw [if_neg hm41]
                  try dsimp only
                  rw [hr46, zB_r]
                  try dsimp only
                  rw [hr49, zB_l]
                  try dsimp only
                  first | done | rfl, zOK_l]
                exact ⟨rfl, ⟨by rw [he149], by rw [he249]⟩⟩
              · omega
            · rw [hr49, zOK_r] at hz49
              obtain ⟨hb49, hv49, ht49⟩ := hz49
              subst hb49
              obtain ⟨hq49, hlo49, hhi49⟩ := zNum_r hr49
              have G49 : tkG B n 900 qN49.2 := by
                rw [hq49]
                exact tkG_nx G46
              refine h_V3 rfl oN46 l45 ci_213 rfl rfl hf49 ?_
              rw [show (5 + R 1) = ((5 + k : Nat) : Int) by omega]
              have tv52 : gF wN49 213 13 = qN49.1 := by rw [hv49]
              obtain ⟨wP52, hf52, oP52', sP52, pa52, pn52⟩ := x_put1 (kn := kn) oN49.1 (5 + k) 4 11 (-2147483648) 2147483647 ap216_4 (by omega) (by omega) (by omega) (by omega) (by omega)
              have oP52 := hO_tr oN49 oP52'
              rw [tv52] at pa52
              refine h_V3 rfl oN49 l45 ci_213 rfl rfl hf52 ?_
              refine j_eq (kn := kn) (t := 0) (tgt := 62) (np := 44) rfl (by unfold R32; omega) (fun e53 => ?_) (fun e53 => ?_)
              · omega
              · refine h_aload rfl l45 rfl ?_
                refine h_intv k_15 rfl ?_
                refine h_iload rfl l45 rfl ?_
                refine h_iadd rfl ?_
                refine h_aload rfl l45 rfl ?_
                refine h_intv k_1 rfl ?_
                refine h_intv k_9 rfl ?_
                obtain ⟨wN54, bN54, hf54, oN54', sN54, hz54⟩ := x_readNumberR (kn := kn) oP52.1 (tkR_sm (smW_tr (smW_rf eRQ _) (smW_mono (by decide) sP52)) (by decide) ht49) G49 1 9 ⟨by omega, by omega⟩ ⟨by omega, by omega⟩
                have oN54 := hO_tr oP52 oN54'
                rcases hr54 : zNum B n 900 1 9 qN49.2 with eN54 | qN54
                · rw [hr54, zOK_l] at hz54
                  obtain ⟨hb54, he154, he254⟩ := hz54
                  subst hb54
                  refine h_V3 rfl oP52 l45 ci_213 rfl rfl hf54 ?_
                  have hf55 := x_put0 (kn := kn) oN54.1 (15 + R 1)
                  refine h_V3 rfl oN54 l45 ci_213 rfl rfl hf55 ?_
                  refine j_ne (kn := kn) (t := 1) (tgt := 64) (np := 62) rfl (by unfold R32; omega) (fun e56 => ?_) (fun e56 => ?_)
                  · omega
                  · refine h_intv k_0 rfl ?_
                    refine h_zret (by omega) rfl ?_
                    refine ⟨_, _, rfl, oN54, smW_tr (smW_tr (smW_tr (smW_tr (smW_tr sm (smW_mono (by decide) sN41)) (smW_mono (by decide) sN46)) (smW_mono (by decide) sN49)) (smW_mono (by decide) sP52)) (smW_mono (by decide) sN54), ?_⟩
                    rw [show zSigner B n 900 (S, R, N, hr, hk, hp) = .inl eN54 from by
                      unfold zSigner
                      try dsimp only
                      rw [if_neg hm41]
                      try dsimp only
                      rw [hr46, zB_r]
                      try dsimp only
                      rw [hr49, zB_r]
                      try dsimp only
                      rw [hr54, zB_l]
                      try dsimp only
                      first | done | rfl, zOK_l]
                    exact ⟨rfl, ⟨by rw [he154], by rw [he254]⟩⟩
                · rw [hr54, zOK_r] at hz54
                  obtain ⟨hb54, hv54, ht54⟩ := hz54
                  subst hb54
                  obtain ⟨hq54, hlo54, hhi54⟩ := zNum_r hr54
                  have G54 : tkG B n 900 qN54.2 := by
                    rw [hq54]
                    exact tkG_nx G49
                  refine h_V3 rfl oP52 l45 ci_213 rfl rfl hf54 ?_
                  rw [show (15 + R 1) = ((15 + k : Nat) : Int) by omega]
                  have tv57 : gF wN54 213 13 = qN54.1 := by rw [hv54]
                  obtain ⟨wP57, hf57, oP57', sP57, pa57, pn57⟩ := x_put1 (kn := kn) oN54.1 (15 + k) 15 10 0 9 ap216_15 (by omega) (by omega) (by omega) (by omega) (by omega)
                  have oP57 := hO_tr oN54 oP57'
                  rw [tv57] at pa57
                  refine h_V3 rfl oN54 l45 ci_213 rfl rfl hf57 ?_
                  refine j_ne (kn := kn) (t := 1) (tgt := 64) (np := 62) rfl (by unfold R32; omega) (fun e58 => ?_) (fun e58 => ?_)
                  · refine h_aload rfl l45 rfl ?_
                    refine h_intv k_2 rfl ?_
                    obtain ⟨z59, hf59, hz59⟩ := x_isWord (kn := kn) oP57.1 (tkR_sm (smW_tr (smW_rf eRQ _) (smW_mono (by decide) sP57)) (by decide) ht54) G54 2 (by omega)
                    refine h_V2 rfl oP57 l45 ci_213 rfl rfl hf59 ?_
                    refine j_eq (kn := kn) (t := 0) (tgt := 89) (np := 72) rfl (by unfold R32; omega) (fun e60 => ?_) (fun e60 => ?_)
                    · refine h_aload rfl l45 rfl ?_
                      refine h_getR rfl oP57 fr_15 ?_
                      refine h_intv k_1 rfl ?_
                      refine h_dup2 rfl rfl rfl ?_
                      refine h_ialdj (1) rfl oP57 ai_216 rfl (by omega) (by omega) (fun b61a b61b => ?_)
                      rw [pn57 1 (by omega), sN54.2.2.1 216 1 (by decide), pn52 1 (by omega), sN49.2.2.1 216 1 (by decide), sN46.2.2.1 216 1 (by decide), sN41.2.2.1 216 1 (by decide), hpR.1 1 (by omega)] at b61a b61b ⊢
                      refine h_intv k_1 rfl ?_
                      refine h_iadd rfl ?_
                      refine x_iast (1) rfl oP57 ai_216 rfl rfl ap216_1 (by omega) (by omega) (by omega) (by omega) (by omega) (by omega) (by unfold R32; omega) (fun w62 o62 q63a q63X q63F q63J q63Y q63R => ?_)
                      refine h_intv k_1 rfl ?_
                      refine h_zret (by omega) rfl ?_
                      have hkt : (R 1).toNat = k := by omega
                      have hpX := pX_set (pX_set (pX_sm (smW_tr (smW_rf eRWx _) (smW_mono (by decide) sN54)) (by decide) (pX_set (pX_sm (smW_tr (smW_tr (smW_tr (smW_rf eRWx _) (smW_mono (by decide) sN41)) (smW_mono (by decide) sN46)) (smW_mono (by decide) sN49)) (by decide) (hpR.1)) pa52 pn52)) pa57 pn57) q63a (fun j hj => q63X 216 j (fun _ => hj))
                      have hpE : ∀ j, j < 94 → gX w62 216 j = zSgR R qN49.1 qN54.1 false j := fun j hj => by
                        rw [hpX j hj]
                        show _ = zU (zU (zU R (5 + (R 1).toNat) qN49.1) (15 + (R 1).toNat) qN54.1) 1 (R 1 + 1) j
                        rw [hkt]
                      have hps9 := pR_sg (N := N) (x := qN46.1) hpE hk2 (by omega) zSgR_1 (zSgR_o (by omega) (by omega) (by omega) (by omega)) ⟨hlo46, hhi46⟩ (by rw [q63Y 221 k, sP57.2.2.2.1 221 k (by decide), sN54.2.2.2.1 221 k (by decide), sP52.2.2.2.1 221 k (by decide), sN49.2.2.2.1 221 k (by decide), hy46]) (fun i hi => by rw [q63Y 221 i, sP57.2.2.2.1 221 i (by decide), sN54.2.2.2.1 221 i (by decide), sP52.2.2.2.1 221 i (by decide), sN49.2.2.2.1 221 i (by decide), hyn46 i (by omega), sN41.2.2.2.1 221 i (by decide)]) hpR
                      refine ⟨_, _, rfl, o62, smW_tr (smW_tr (smW_tr (smW_tr (smW_tr (smW_tr (smW_tr sm (smW_mono (by decide) sN41)) (smW_mono (by decide) sN46)) (smW_mono (by decide) sN49)) (smW_mono (by decide) sP52)) (smW_mono (by decide) sN54)) (smW_mono (by decide) sP57)) (sm_pX (by decide) q63X q63F q63J q63Y q63R), ?_⟩
                      rw [show zSigner B n 900 (S, R, N, hr, hk, hp) = .inr (qN54.2, zSgR R qN49.1 qN54.1 false, zU N (R 1).toNat qN46.1, hr, hk, hp) from by
                        unfold zSigner
                        try dsimp only
                        rw [if_neg hm41]
                        try dsimp only
                        rw [hr46, zB_r]
                        try dsimp only
                        rw [hr49, zB_r]
                        try dsimp only
                        rw [hr54, zB_r]
                        try dsimp only
                        rw [if_neg (by omega)]
                        try dsimp only
                        first | done | rfl, zOK_r]
                      exact ⟨rfl, (tkR_sm (smW_tr (smW_tr (smW_rf eRQ _) (smW_mono (by decide) sP57)) (sm_pX (by decide) q63X q63F q63J q63Y q63R)) (by decide) ht54), G54, hps9, by rw [q63F 213 24, sP57.1 213 24 (by decide), sN54.1 213 24 (by decide), sP52.1 213 24 (by decide), sN49.1 213 24 (by decide), sN46.1 213 24 (by decide), sN41.1 213 24 (by decide), hf2], by rw [q63F 213 25, sP57.1 213 25 (by decide), sN54.1 213 25 (by decide), sP52.1 213 25 (by decide), sN49.1 213 25 (by decide), sN46.1 213 25 (by decide), sN41.1 213 25 (by decide), hf3], by rw [q63F 213 26, sP57.1 213 26 (by decide), sN54.1 213 26 (by decide), sP52.1 213 26 (by decide), sN49.1 213 26 (by decide), sN46.1 213 26 (by decide), sN41.1 213 26 (by decide), hf4]⟩
                    · refine h_aload rfl l45 rfl ?_
                      refine h_getR rfl oP57 fr_15 ?_
                      refine h_intv k_25 rfl ?_
                      refine h_dup2 rfl rfl rfl ?_
                      refine h_ialdj (25) rfl oP57 ai_216 rfl (by omega) (by omega) (fun b64a b64b => ?_)
                      rw [pn57 25 (by omega), sN54.2.2.1 216 25 (by decide), pn52 25 (by omega), sN49.2.2.1 216 25 (by decide), sN46.2.2.1 216 25 (by decide), sN41.2.2.1 216 25 (by decide), hpR.1 25 (by omega)] at b64a b64b ⊢
                      refine h_intv k_1 rfl ?_
                      refine h_iload rfl l45 rfl ?_
                      refine x_ishl rfl ?_
                      refine x_ior rfl ?_
                      refine x_iast (25) rfl oP57 ai_216 rfl rfl ap216_25 (by omega) (by omega) (by omega) (by omega) (zOr_R _ _).1 (zOr_R _ _).2 (zOr_R _ _) (fun w65 o65 q66a q66X q66F q66J q66Y q66R => ?_)
                      refine h_aload rfl l45 rfl ?_
                      obtain ⟨wG67, hf67, oG67', sG67, tG67⟩ := x_go (kn := kn) (tkR_sm (smW_tr (smW_tr (smW_rf eRQ _) (smW_mono (by decide) sP57)) (sm_pX (by decide) q66X q66F q66J q66Y q66R)) (by decide) ht54).1 o65.1 (p := qN54.2.2.2.2.2) (tkG_n G54) ((tkU_i (tkR_sm (smW_tr (smW_tr (smW_rf eRQ _) (smW_mono (by decide) sP57)) (sm_pX (by decide) q66X q66F q66J q66Y q66R)) (by decide) ht54).2).2.2.1 (by omega))
                      have oG67 := hO_tr o65 (hO_mono dRT_g oG67')
                      have tG67 : tkR B n 900 (nxT B n 900 qN54.2) wG67 := tG67
                      refine h_W1 rfl o65 l45 ci_213 rfl rfl hf67 ?_
                      refine h_aload rfl l45 rfl ?_
                      refine h_getR rfl oG67 fr_15 ?_
                      refine h_intv k_1 rfl ?_
                      refine h_dup2 rfl rfl rfl ?_
                      refine h_ialdj (1) rfl oG67 ai_216 rfl (by omega) (by omega) (fun b68a b68b => ?_)
                      rw [sG67.2.2.1 216 1 (by decide), q66X 216 1 (fun _ => by omega), pn57 1 (by omega), sN54.2.2.1 216 1 (by decide), pn52 1 (by omega), sN49.2.2.1 216 1 (by decide), sN46.2.2.1 216 1 (by decide), sN41.2.2.1 216 1 (by decide), hpR.1 1 (by omega)] at b68a b68b ⊢
                      refine h_intv k_1 rfl ?_
                      refine h_iadd rfl ?_
                      refine x_iast (1) rfl oG67 ai_216 rfl rfl ap216_1 (by omega) (by omega) (by omega) (by omega) (by omega) (by omega) (by unfold R32; omega) (fun w69 o69 q70a q70X q70F q70J q70Y q70R => ?_)
                      refine h_intv k_1 rfl ?_
                      refine h_zret (by omega) rfl ?_
                      have hkt : (R 1).toNat = k := by omega
                      have hpX := pX_set (pX_sm (smW_tr (smW_rf eRWx _) (smW_mono (by decide) sG67)) (by decide) (pX_set (pX_set (pX_sm (smW_tr (smW_rf eRWx _) (smW_mono (by decide) sN54)) (by decide) (pX_set (pX_sm (smW_tr (smW_tr (smW_tr (smW_rf eRWx _) (smW_mono (by decide) sN41)) (smW_mono (by decide) sN46)) (smW_mono (by decide) sN49)) (by decide) (hpR.1)) pa52 pn52)) pa57 pn57) q66a (fun j hj => q66X 216 j (fun _ => hj)))) q70a (fun j hj => q70X 216 j (fun _ => hj))
                      have hpE : ∀ j, j < 94 → gX w69 216 j = zSgR R qN49.1 qN54.1 true j := fun j hj => by
                        rw [hpX j hj]
                        show _ = zU (zU (zU (zU R (5 + (R 1).toNat) qN49.1) (15 + (R 1).toNat) qN54.1) 25 (zOr (R 25) (zSh 1 (R 1)))) 1 (R 1 + 1) j
                        rw [hkt]
                      have hps9 := pR_sg (N := N) (x := qN46.1) hpE hk2 (by omega) zSgR_1 (zSgR_o (by omega) (by omega) (by omega) (by omega)) ⟨hlo46, hhi46⟩ (by rw [q70Y 221 k, sG67.2.2.2.1 221 k (by decide), q66Y 221 k, sP57.2.2.2.1 221 k (by decide), sN54.2.2.2.1 221 k (by decide), sP52.2.2.2.1 221 k (by decide), sN49.2.2.2.1 221 k (by decide), hy46]) (fun i hi => by rw [q70Y 221 i, sG67.2.2.2.1 221 i (by decide), q66Y 221 i, sP57.2.2.2.1 221 i (by decide), sN54.2.2.2.1 221 i (by decide), sP52.2.2.2.1 221 i (by decide), sN49.2.2.2.1 221 i (by decide), hyn46 i (by omega), sN41.2.2.2.1 221 i (by decide)]) hpR
                      refine ⟨_, _, rfl, o69, smW_tr (smW_tr (smW_tr (smW_tr (smW_tr (smW_tr (smW_tr (smW_tr (smW_tr sm (smW_mono (by decide) sN41)) (smW_mono (by decide) sN46)) (smW_mono (by decide) sN49)) (smW_mono (by decide) sP52)) (smW_mono (by decide) sN54)) (smW_mono (by decide) sP57)) (sm_pX (by decide) q66X q66F q66J q66Y q66R)) (smW_mono (by decide) sG67)) (sm_pX (by decide) q70X q70F q70J q70Y q70R), ?_⟩
                      rw [show zSigner B n 900 (S, R, N, hr, hk, hp) = .inr ((nxT B n 900 qN54.2), zSgR R qN49.1 qN54.1 true, zU N (R 1).toNat qN46.1, hr, hk, hp) from by
                        unfold zSigner
                        try dsimp only
                        rw [if_neg hm41]
                        try dsimp only
                        rw [hr46, zB_r]
                        try dsimp only
                        rw [hr49, zB_r]
                        try dsimp only
                        rw [hr54, zB_r]
                        try dsimp only
                        rw [if_pos (by omega)]
                        try dsimp only
                        first | done | rfl, zOK_r]
                      exact ⟨rfl, (tkR_sm (smW_tr (smW_rf eRQ _) (sm_pX (by decide) q70X q70F q70J q70Y q70R)) (by decide) tG67), (tkG_nx G54), hps9, by rw [q70F 213 24, sG67.1 213 24 (by decide), q66F 213 24, sP57.1 213 24 (by decide), sN54.1 213 24 (by decide), sP52.1 213 24 (by decide), sN49.1 213 24 (by decide), sN46.1 213 24 (by decide), sN41.1 213 24 (by decide), hf2], by rw [q70F 213 25, sG67.1 213 25 (by decide), q66F 213 25, sP57.1 213 25 (by decide), sN54.1 213 25 (by decide), sP52.1 213 25 (by decide), sN49.1 213 25 (by decide), sN46.1 213 25 (by decide), sN41.1 213 25 (by decide), hf3], by rw [q70F 213 26, sG67.1 213 26 (by decide), q66F 213 26, sP57.1 213 26 (by decide), sN54.1 213 26 (by decide), sP52.1 213 26 (by decide), sN49.1 213 26 (by decide), sN46.1 213 26 (by decide), sN41.1 213 26 (by decide), hf4]⟩
                  · omega
      · omega
  obtain ⟨r, h1, w2, b, h2, h3⟩ := h_meth1 (nL := 2) rfl K
  rw [h2] at h1
  exact ⟨w2, b, h1, h3⟩
theorem x_cntR {kn : sKn} {Po : sR → Prop} {D : List (Nat × Nat)} {w0 w : sW} {R : Nat → Int} (o0 : hO D w0 w) (hp216 : ∀ j, j < 94 → gX w 216 j = R j) (s : Int) (hs : R32 s) (hx : ∀ lv, hL lv [(0, .ref 213), (1, hI s), (2, hI (zCn R s 36)), (3, hI (36 : Nat))] → Tp (tX12_readPlank kn) Po 50 (lv, [], w, 0, 0)) : ∀ (d k : Nat) (lv : List (Nat × Value)), k + d = 36 → hL lv [(0, .ref 213), (1, hI s), (2, hI (zCn R s k)), (3, hI k)] → Tp (tX12_readPlank kn) Po 22 (lv, [], w, 0, 0) := by
  have hs1 := hs.1
  have hs2 := hs.2
  intro d
  induction d with
  | zero =>
    intro k lv hkd l0
    refine h_iload rfl l0 rfl ?_
    refine h_intv k_36 rfl ?_
    refine i_ge (kn := kn) (t := 3) (tgt := 50) (np := 28) rfl (by unfold R32; omega) (by unfold R32; omega) (fun e41 => ?_) (fun e41 => ?_)
    · exact hx _ (by rw [show 36 = k by omega]; exact l0)
    · omega
  | succ d ih =>
    intro k lv hkd l0
    refine h_iload rfl l0 rfl ?_
    refine h_intv k_36 rfl ?_
    refine i_ge (kn := kn) (t := 3) (tgt := 50) (np := 28) rfl (by unfold R32; omega) (by unfold R32; omega) (fun e41 => ?_) (fun e41 => ?_)
    · omega
    · refine h_aload rfl l0 rfl ?_
      refine h_getR rfl o0 fr_15 ?_
      refine h_intv k_46 rfl ?_
      refine h_iload rfl l0 rfl ?_
      refine h_iadd rfl ?_
      refine h_ialdj (46 + k) rfl o0 ai_216 rfl (by omega) (by omega) (fun b42a b42b => ?_)
      rw [hp216 (46 + k) (by omega)] at b42a b42b ⊢
      refine h_iload rfl l0 rfl ?_
      refine i_ne (kn := kn) (t := 1) (tgt := 44) (np := 41) rfl (by unfold R32; omega) (by unfold R32; omega) (fun e43 => ?_) (fun e43 => ?_)
      · refine h_iincv k_1 rfl l0 rfl (fun vl44 l44 => ?_)
        refine h_goto rfl ?_
        have ec : zCn R s (k + 1) = zCn R s k := by
          show zCn R s k + (if R (46 + k) = s then 1 else 0) = _
          rw [if_neg (by omega), Int.add_zero]
        rw [← ec] at l44
        exact ih (k + 1) _ (by omega) l44
      · refine h_iincv k_1 rfl l0 rfl (fun vl45 l45 => ?_)
        refine h_iincv k_1 rfl l45 rfl (fun vl46 l46 => ?_)
        refine h_goto rfl ?_
        have ec : zCn R s (k + 1) = zCn R s k + 1 := by
          show zCn R s k + (if R (46 + k) = s then 1 else 0) = _
          rw [if_pos (by omega)]
        rw [← ec] at l46
        exact ih (k + 1) _ (by omega) l46
theorem x_readPlankR {kn : sKn} {w0 : sW} {B : Nat → Int} {n : Nat} {S : tS} {R N : Nat → Int} {hr hk hp : Int} (hw : wOk ZZ w0) (hz : rpR B n (S, R, N, hr, hk, hp) w0) (h4 : S.1 = 4) (hI6 : ∀ s : Int, 0 ≤ s → zCn R s 36 ≤ 6) (hR0 : 1 ≤ R 0) : ∃ (w' : sW) (b : Int), fX12_readPlank kn [.ref 213] w0 = some (some (hI b), w', 0, 0) ∧ hO dRT w0 w' ∧ smW eRA w0 w' ∧ zOK (zPlank B n 900 (S, R, N, hr, hk, hp)) b (fun e => erR e w') (fun Y => rpR B n Y w') := by
  obtain ⟨htk, hG, hpR, hf2, hf3, hf4⟩ := id hz
  have htk : tkR B n 900 S w0 := htk
  have hG : tkG B n 900 S := hG
  have hpR : pR R N w0 := hpR
  have hf2 : gF w0 213 24 = hr := hf2
  have hf3 : gF w0 213 25 = hk := hf3
  have hf4 : gF w0 213 26 = hp := hf4
  have hnb := pR_b hpR hw
  have gbS := tkG_b hG
  obtain ⟨_, hkI, hto, _⟩ := tkU_i htk.2
  have hn9 := htk.1.2.2.2.1
  have K : Tp (tX12_readPlank kn) (fun r => ∃ (w' : sW) (b : Int), r = (some (hI b), w', 0, 0) ∧ hO dRT w0 w' ∧ smW eRA w0 w' ∧ zOK (zPlank B n 900 (S, R, N, hr, hk, hp)) b (fun e => erR e w') (fun Y => rpR B n Y w')) 0 (lv_args 0 [.ref 213], [], w0, 0, 0) := by
    have l0 : hL (lv_args 0 [.ref 213]) (lv_args 0 [.ref 213]) := hL_ex rfl
    have o0 : hO dRT w0 w0 := hO_rf hw
    have sm := smW_rf eRA w0
    refine h_aload rfl l0 rfl ?_
    obtain ⟨wG41, hf41, oG41', sG41, tG41⟩ := x_go (kn := kn) htk.1 o0.1 (p := S.2.2.2.2) (tkG_n hG) ((tkU_i htk.2).2.2.1 (by omega))
    have oG41 := hO_tr o0 (hO_mono dRT_g oG41')
    have tG41 : tkR B n 900 (nxT B n 900 S) wG41 := tG41
    refine h_W1 rfl o0 l0 ci_213 rfl rfl hf41 ?_
    refine h_aload rfl l0 rfl ?_
    obtain ⟨wN42, bN42, hf42, oN42', sN42, hz42⟩ := x_isSignerTold (kn := kn) oG41.1 tG41 (tkG_nx hG) (pR_sm (smW_tr (smW_rf eRS _) (smW_mono (by decide) sG41)) (by decide) hpR)
    have oN42 := hO_tr oG41 oN42'
    rcases hr42 : zSig B n 900 R N (nxT B n 900 S) with eN42 | qN42
    · rw [hr42, zOK_l] at hz42
      obtain ⟨hb42, he142, he242⟩ := hz42
      subst hb42
      refine h_V1 rfl oG41 l0 ci_213 rfl rfl hf42 ?_
      refine j_ne (kn := kn) (t := 1) (tgt := 13) (np := 11) rfl (by unfold R32; omega) (fun e43 => ?_) (fun e43 => ?_)
      · omega
      · refine h_intv k_0 rfl ?_
        refine h_zret (by omega) rfl ?_
        refine ⟨_, _, rfl, oN42, smW_tr (smW_tr sm (smW_mono (by decide) sG41)) (smW_mono (by decide) sN42), ?_⟩
        rw [show zPlank B n 900 (S, R, N, hr, hk, hp) = .inl eN42 from by
          unfold zPlank
          try dsimp only
          rw [hr42, zB_l]
          try dsimp only
          first | done | rfl, zOK_l]
        exact ⟨rfl, ⟨by rw [he142], by rw [he242]⟩⟩
    · rw [hr42, zOK_r] at hz42
      obtain ⟨hb42, hv42, h542⟩ := hz42
      subst hb42
      have hq42 := zSig_r hr42
      obtain ⟨hlo42, hhi42⟩ := zSig_b hr42
      obtain ⟨s42, hs42⟩ : ∃ s : Nat, qN42.1 = (s : Int) := ⟨qN42.1.toNat, by omega⟩
      have hn42 : qN42.1.toNat = s42 := by omega
      rw [hs42] at hv42
      have ht42 := tkR_sm sN42 (by decide) tG41
      refine h_V1 rfl oG41 l0 ci_213 rfl rfl hf42 ?_
      refine j_ne (kn := kn) (t := 1) (tgt := 13) (np := 11) rfl (by unfold R32; omega) (fun e44 => ?_) (fun e44 => ?_)
      · refine h_aload rfl l0 rfl ?_
        refine h_getI rfl oN42 fi_13 (fun b45a b45b => ?_)
        rw [hv42] at b45a b45b ⊢
        refine h_istore rfl l0 (fun vl46 l46 => ?_)
        refine h_intv k_0 rfl ?_
        refine h_istore rfl l46 (fun vl47 l47 => ?_)
        refine h_intv k_0 rfl ?_
        refine h_istore rfl l47 (fun vl48 l48 => ?_)
        refine x_cntR oN42 (pX_sm (smW_tr (smW_tr (smW_rf eRWx _) (smW_mono (by decide) sG41)) (smW_mono (by decide) sN42)) (by decide) (hpR.1)) (s42 : Int) ⟨by omega, by omega⟩ ?_ 36 0 _ rfl l48
        intro lv l0
        have zb := zCn_b R (s42 : Int) 36
        refine h_iload rfl l0 rfl ?_
        refine h_intv k_6 rfl ?_
        refine i_ne (kn := kn) (t := 1) (tgt := 62) (np := 56) rfl (by unfold R32; omega) (by unfold R32; omega) (fun e49 => ?_) (fun e49 => ?_)
        · have hc6 := hI6 _ (show (0 : Int) ≤ (s42 : Int) by omega)
          refine h_aload rfl l0 rfl ?_
          obtain ⟨wG50, hf50, oG50', sG50, tG50⟩ := x_go (kn := kn) ht42.1 oN42.1 (p := (nxT B n 900 S).2.2.2.2) (tkG_n (tkG_nx hG)) ((tkU_i ht42.2).2.2.1 (by omega))
          have oG50 := hO_tr oN42 (hO_mono dRT_g oG50')
          have tG50 : tkR B n 900 (nxT B n 900 (nxT B n 900 S)) wG50 := tG50
          refine h_W1 rfl oN42 l0 ci_213 rfl rfl hf50 ?_
          refine h_aload rfl l0 rfl ?_
          refine h_intv k_0 rfl ?_
          refine h_aload rfl l0 rfl ?_
          refine h_getR rfl oG50 fr_15 ?_
          refine h_intv k_0 rfl ?_
          refine h_ialdj (0) rfl oG50 ai_216 rfl (by omega) (by omega) (fun b51a b51b => ?_)
          rw [sG50.2.2.1 216 0 (by decide), sN42.2.2.1 216 0 (by decide), sG41.2.2.1 216 0 (by decide), hpR.1 0 (by omega)] at b51a b51b ⊢
          refine h_intv k_1 rfl ?_
          refine h_isub rfl ?_
          obtain ⟨wN52, bN52, hf52, oN52', sN52, hz52⟩ := x_readNumberR (kn := kn) oG50.1 tG50 (tkG_nx (tkG_nx hG)) 0 (R 0 - 1) ⟨by omega, by omega⟩ ⟨by omega, by omega⟩
          have oN52 := hO_tr oG50 oN52'
          rcases hr52 : zNum B n 900 0 (R 0 - 1) (nxT B n 900 (nxT B n 900 S)) with eN52 | qN52
          · rw [hr52, zOK_l] at hz52
            obtain ⟨hb52, he152, he252⟩ := hz52
            subst hb52
            refine h_V3 rfl oG50 l0 ci_213 rfl rfl hf52 ?_
            refine j_ne (kn := kn) (t := 1) (tgt := 84) (np := 82) rfl (by unfold R32; omega) (fun e53 => ?_) (fun e53 => ?_)
            · omega
            · refine h_intv k_0 rfl ?_
              refine h_zret (by omega) rfl ?_
              refine ⟨_, _, rfl, oN52, smW_tr (smW_tr (smW_tr (smW_tr sm (smW_mono (by decide) sG41)) (smW_mono (by decide) sN42)) (smW_mono (by decide) sG50)) (smW_mono (by decide) sN52), ?_⟩
              rw [show zPlank B n 900 (S, R, N, hr, hk, hp) = .inl eN52 from by
                unfold zPlank
                try dsimp only
                rw [hr42, zB_r]
                try dsimp only
                rw [hq42]
                try dsimp only
                rw [hs42]
                try dsimp only
                rw [if_neg (by omega)]
                try dsimp only
                rw [hr52, zB_l]
                try dsimp only
                first | done | rfl, zOK_l]
              exact ⟨rfl, ⟨by rw [he152], by rw [he252]⟩⟩
          · rw [hr52, zOK_r] at hz52
            obtain ⟨hb52, hv52, ht52⟩ := hz52
            subst hb52
            obtain ⟨hq52, hlo52, hhi52⟩ := zNum_r hr52
            have G52 : tkG B n 900 qN52.2 := by
              rw [hq52]
              exact tkG_nx (tkG_nx (tkG_nx hG))
            refine h_V3 rfl oG50 l0 ci_213 rfl rfl hf52 ?_
            refine j_ne (kn := kn) (t := 1) (tgt := 84) (np := 82) rfl (by unfold R32; omega) (fun e54 => ?_) (fun e54 => ?_)
            · refine h_aload rfl l0 rfl ?_
              refine h_getI rfl oN52 fi_13 (fun b55a b55b => ?_)
              rw [hv52] at b55a b55b ⊢
              refine h_istore rfl l0 (fun vl56 l56 => ?_)
              obtain ⟨_, tK, _, _⟩ := tkU_i ht52.2
              refine h_aload rfl l56 rfl ?_
              refine h_getI rfl oN52 fi_7 (fun b57a b57b => ?_)
              refine h_intv k_3 rfl ?_
              refine i_eq (kn := kn) (t := 0) (tgt := 103) (np := 97) rfl (by unfold R32; omega) (by unfold R32; omega) (fun e58 => ?_) (fun e58 => ?_)
              · refine h_aload rfl l56 rfl ?_
                refine h_getI rfl oN52 fi_8 (fun b59a b59b => ?_)
                refine h_intv k_0 rfl ?_
                refine h_intv k_2 rfl ?_
                obtain ⟨z60, hf60, hz60⟩ := x_isIn (kn := kn) oN52.1 (gF wN52 213 8) 0 2 ⟨by omega, by omega⟩ ⟨by omega, by omega⟩ ⟨by omega, by omega⟩
                refine h_S3 rfl oN52 l56 rfl rfl hf60 ?_
                refine j_ne (kn := kn) (t := 1) (tgt := 121) (np := 115) rfl (by unfold R32; omega) (fun e61 => ?_) (fun e61 => ?_)
                · obtain ⟨pl, hpl⟩ : ∃ pl : Nat, 3 * qN52.1 + qN52.2.2.2.1 = (pl : Int) := ⟨(3 * qN52.1 + qN52.2.2.2.1).toNat, by omega⟩
                  have hpn : (3 * qN52.1 + qN52.2.2.2.1).toNat = pl := by omega
                  refine h_aload rfl l56 rfl ?_
                  refine h_getR rfl oN52 fr_15 ?_
                  refine h_intv k_46 rfl ?_
                  refine h_intv k_3 rfl ?_
                  refine h_iload rfl l56 rfl ?_
                  refine h_imul rfl ?_
                  refine h_iadd rfl ?_
                  refine h_aload rfl l56 rfl ?_
                  refine h_getI rfl oN52 fi_8 (fun b62a b62b => ?_)
                  refine h_iadd rfl ?_
                  refine h_ialdj (46 + pl) rfl oN52 ai_216 rfl (by omega) (by omega) (fun b63a b63b => ?_)
                  rw [sN52.2.2.1 216 (46 + pl) (by decide), sG50.2.2.1 216 (46 + pl) (by decide), sN42.2.2.1 216 (46 + pl) (by decide), sG41.2.2.1 216 (46 + pl) (by decide), hpR.1 (46 + pl) (by omega)] at b63a b63b ⊢
                  refine h_intv k_n1 rfl ?_
                  refine i_eq (kn := kn) (t := 0) (tgt := 147) (np := 141) rfl (by unfold R32; omega) (by unfold R32; omega) (fun e64 => ?_) (fun e64 => ?_)
                  · refine h_aload rfl l56 rfl ?_
                    refine h_getR rfl oN52 fr_15 ?_
                    refine h_intv k_46 rfl ?_
                    refine h_intv k_3 rfl ?_
                    refine h_iload rfl l56 rfl ?_
                    refine h_imul rfl ?_
                    refine h_iadd rfl ?_
                    refine h_aload rfl l56 rfl ?_
                    refine h_getI rfl oN52 fi_8 (fun b65a b65b => ?_)
                    refine h_iadd rfl ?_
                    refine h_iload rfl l56 rfl ?_
                    refine x_iast (46 + pl) rfl oN52 ai_216 rfl rfl ap216_46 (by omega) (by omega) (by omega) (by omega) (by omega) (by omega) (by unfold R32; omega) (fun w66 o66 q67a q67X q67F q67J q67Y q67R => ?_)
                    refine h_aload rfl l56 rfl ?_
                    refine h_intv k_1 rfl ?_
                    refine x_putK (by rfl) rfl o66 fi_26 rfl (by omega) (by omega) (fun w68 o68 q69a q69F q69X q69J q69Y q69R => ?_)
                    refine h_aload rfl l56 rfl ?_
                    obtain ⟨wG70, hf70, oG70', sG70, tG70⟩ := x_go (kn := kn) (tkR_sm (smW_tr (smW_tr (smW_rf eRQ _) (sm_pX (by decide) q67X q67F q67J q67Y q67R)) (sm_pI (by decide) q69F q69X q69J q69Y q69R)) (by decide) ht52).1 o68.1 (p := qN52.2.2.2.2.2) (tkG_n G52) ((tkU_i (tkR_sm (smW_tr (smW_tr (smW_rf eRQ _) (sm_pX (by decide) q67X q67F q67J q67Y q67R)) (sm_pI (by decide) q69F q69X q69J q69Y q69R)) (by decide) ht52).2).2.2.1 (by omega))
                    have oG70 := hO_tr o68 (hO_mono dRT_g oG70')
                    have tG70 : tkR B n 900 (nxT B n 900 qN52.2) wG70 := tG70
                    refine h_W1 rfl o68 l56 ci_213 rfl rfl hf70 ?_
                    refine h_intv k_1 rfl ?_
                    refine h_zret (by omega) rfl ?_
                    refine ⟨_, _, rfl, oG70, smW_tr (smW_tr (smW_tr (smW_tr (smW_tr (smW_tr (smW_tr sm (smW_mono (by decide) sG41)) (smW_mono (by decide) sN42)) (smW_mono (by decide) sG50)) (smW_mono (by decide) sN52)) (sm_pX (by decide) q67X q67F q67J q67Y q67R)) (sm_pI (by decide) q69F q69X q69J q69Y q69R)) (smW_mono (by decide) sG70), ?_⟩
                    rw [show zPlank B n 900 (S, R, N, hr, hk, hp) = .inr ((nxT B n 900 qN52.2), zU R (46 + pl) s42, N, hr, hk, 1) from by
                      unfold zPlank
                      try dsimp only
                      rw [hr42, zB_r]
                      try dsimp only
                      rw [hq42]
                      try dsimp only
                      rw [hs42]
                      try dsimp only
                      rw [if_neg (by omega)]
                      try dsimp only
                      rw [hr52, zB_r]
                      try dsimp only
                      rw [show zNum B n 900 0 2 qN52.2 = .inr (qN52.2.2.2.1, nxT B n 900 qN52.2) from by
                        unfold zNum
                        rw [if_neg (by omega), if_neg (by omega)], zB_r]
                      try dsimp only
                      rw [hpn]
                      try dsimp only
                      rw [if_neg (by omega)]
                      try dsimp only
                      first | done | rfl, zOK_r]
                    exact ⟨rfl, tG70, (tkG_nx G52), pR_mk (R' := zU R (46 + pl) s42) (pX_sm (smW_tr (smW_tr (smW_rf eRWx _) (sm_pI (by decide) q69F q69X q69J q69Y q69R)) (smW_mono (by decide) sG70)) (by decide) (pX_set (pX_sm (smW_tr (smW_tr (smW_tr (smW_tr (smW_rf eRWx _) (smW_mono (by decide) sG41)) (smW_mono (by decide) sN42)) (smW_mono (by decide) sG50)) (smW_mono (by decide) sN52)) (by decide) (hpR.1)) q67a (fun j hj => q67X 216 j (fun _ => hj)))) (zU_n _ _ (by omega)) (zU_n _ _ (by omega)) (fun i => by rw [sG70.2.2.2.1 221 i (by decide), q69Y 221 i, q67Y 221 i, sN52.2.2.2.1 221 i (by decide), sG50.2.2.2.1 221 i (by decide), sN42.2.2.2.1 221 i (by decide), sG41.2.2.2.1 221 i (by decide)]) hpR, by rw [sG70.1 213 24 (by decide), q69F 213 24 (by decide), q67F 213 24, sN52.1 213 24 (by decide), sG50.1 213 24 (by decide), sN42.1 213 24 (by decide), sG41.1 213 24 (by decide), hf2], by rw [sG70.1 213 25 (by decide), q69F 213 25 (by decide), q67F 213 25, sN52.1 213 25 (by decide), sG50.1 213 25 (by decide), sN42.1 213 25 (by decide), sG41.1 213 25 (by decide), hf3], by rw [sG70.1 213 26 (by decide), q69a]⟩
                  · refine h_aload rfl l56 rfl ?_
                    refine h_intv k_3 rfl ?_
                    obtain ⟨wR71, hf71, oR71', sR71, rA71, rB71⟩ := x_bad (kn := kn) oN52.1 ht52 G52 3 ⟨by omega, by omega⟩
                    have oR71 := hO_tr oN52 oR71'
                    rw [if_k (by omega)] at rA71
                    refine h_V2 rfl oN52 l56 ci_213 rfl rfl hf71 ?_
                    refine h_zret (by omega) rfl ?_
                    refine ⟨_, _, rfl, oR71, smW_tr (smW_tr (smW_tr (smW_tr (smW_tr sm (smW_mono (by decide) sG41)) (smW_mono (by decide) sN42)) (smW_mono (by decide) sG50)) (smW_mono (by decide) sN52)) (smW_mono (by decide) sR71), ?_⟩
                    rw [show zPlank B n 900 (S, R, N, hr, hk, hp) = .inl (3, qN52.2.2.1) from by
                      unfold zPlank
                      try dsimp only
                      rw [hr42, zB_r]
                      try dsimp only
                      rw [hq42]
                      try dsimp only
                      rw [hs42]
                      try dsimp only
                      rw [if_neg (by omega)]
                      try dsimp only
                      rw [hr52, zB_r]
                      try dsimp only
                      rw [show zNum B n 900 0 2 qN52.2 = .inr (qN52.2.2.2.1, nxT B n 900 qN52.2) from by
                        unfold zNum
                        rw [if_neg (by omega), if_neg (by omega)], zB_r]
                      try dsimp only
                      rw [hpn]
                      try dsimp only
                      rw [if_pos (by omega)]
                      try dsimp only
                      first | done | rfl, zOK_l]
                    exact ⟨rfl, ⟨by rw [rA71], by rw [rB71]⟩⟩
                · refine h_aload rfl l56 rfl ?_
                  refine h_intv k_2 rfl ?_
                  obtain ⟨wR72, hf72, oR72', sR72, rA72, rB72⟩ := x_bad (kn := kn) oN52.1 ht52 G52 2 ⟨by omega, by omega⟩
                  have oR72 := hO_tr oN52 oR72'
                  rw [if_k (by omega)] at rA72
                  refine h_V2 rfl oN52 l56 ci_213 rfl rfl hf72 ?_
                  refine h_zret (by omega) rfl ?_
                  refine ⟨_, _, rfl, oR72, smW_tr (smW_tr (smW_tr (smW_tr (smW_tr sm (smW_mono (by decide) sG41)) (smW_mono (by decide) sN42)) (smW_mono (by decide) sG50)) (smW_mono (by decide) sN52)) (smW_mono (by decide) sR72), ?_⟩
                  rw [show zPlank B n 900 (S, R, N, hr, hk, hp) = .inl (2, qN52.2.2.1) from by
                    unfold zPlank
                    try dsimp only
                    rw [hr42, zB_r]
                    try dsimp only
                    rw [hq42]
                    try dsimp only
                    rw [hs42]
                    try dsimp only
                    rw [if_neg (by omega)]
                    try dsimp only
                    rw [hr52, zB_r]
                    try dsimp only
                    rw [show zNum B n 900 0 2 qN52.2 = .inl (2, qN52.2.2.1) from by
                      unfold zNum
                      rw [if_neg (by omega), if_pos (by omega)], zB_l]
                    try dsimp only
                    first | done | rfl, zOK_l]
                  exact ⟨rfl, ⟨by rw [rA72], by rw [rB72]⟩⟩
              · refine h_aload rfl l56 rfl ?_
                refine h_intv k_1 rfl ?_
                obtain ⟨wR73, hf73, oR73', sR73, rA73, rB73⟩ := x_bad (kn := kn) oN52.1 ht52 G52 1 ⟨by omega, by omega⟩
                have oR73 := hO_tr oN52 oR73'
                rw [if_k (by omega)] at rA73
                refine h_V2 rfl oN52 l56 ci_213 rfl rfl hf73 ?_
                refine h_zret (by omega) rfl ?_
                refine ⟨_, _, rfl, oR73, smW_tr (smW_tr (smW_tr (smW_tr (smW_tr sm (smW_mono (by decide) sG41)) (smW_mono (by decide) sN42)) (smW_mono (by decide) sG50)) (smW_mono (by decide) sN52)) (smW_mono (by decide) sR73), ?_⟩
                rw [show zPlank B n 900 (S, R, N, hr, hk, hp) = .inl (1, qN52.2.2.1) from by
                  unfold zPlank
                  try dsimp only
                  rw [hr42, zB_r]
                  try dsimp only
                  rw [hq42]
                  try dsimp only
                  rw [hs42]
                  try dsimp only
                  rw [if_neg (by omega)]
                  try dsimp only
                  rw [hr52, zB_r]
                  try dsimp only
                  rw [show zNum B n 900 0 2 qN52.2 = .inl (1, qN52.2.2.1) from if_pos (by omega), zB_l]
                  try dsimp only
                  first | done | rfl, zOK_l]
                exact ⟨rfl, ⟨by rw [rA73], by rw [rB73]⟩⟩
            · omega
        · have hc6 := hI6 _ (show (0 : Int) ≤ (s42 : Int) by omega)
          refine h_aload rfl l0 rfl ?_
          refine h_intv k_3 rfl ?_
          obtain ⟨wR74, hf74, oR74', sR74, rA74, rB74⟩ := x_bad (kn := kn) oN42.1 ht42 (tkG_nx hG) 3 ⟨by omega, by omega⟩
          have oR74 := hO_tr oN42 oR74'
          rw [if_k (by omega)] at rA74
          refine h_V2 rfl oN42 l0 ci_213 rfl rfl hf74 ?_
          refine h_zret (by omega) rfl ?_
          refine ⟨_, _, rfl, oR74, smW_tr (smW_tr (smW_tr sm (smW_mono (by decide) sG41)) (smW_mono (by decide) sN42)) (smW_mono (by decide) sR74), ?_⟩
          rw [show zPlank B n 900 (S, R, N, hr, hk, hp) = .inl (3, (nxT B n 900 S).2.1) from by
            unfold zPlank
            try dsimp only
            rw [hr42, zB_r]
            try dsimp only
            rw [hq42]
            try dsimp only
            rw [hs42]
            try dsimp only
            rw [if_pos (by omega)]
            try dsimp only
            first | done | rfl, zOK_l]
          exact ⟨rfl, ⟨by rw [rA74], by rw [rB74]⟩⟩
      · omega
  obtain ⟨r, h1, w2, b, h2, h3⟩ := h_meth1 (nL := 4) rfl K
  rw [h2] at h1
  exact ⟨w2, b, h1, h3⟩
end
