noncomputable section
def ePl : List (Nat × Nat × Nat) := [(0, 4, 0), (0, 4, 1), (0, 4, 2), (0, 4, 3), (0, 4, 4), (0, 4, 5), (3, 5, 0), (2, 6, 0), (2, 7, 0), (2, 8, 0), (2, 9, 0), (2, 10, 0), (3, 11, 0), (2, 12, 0), (2, 13, 0)]
def ePF : List (Nat × Nat × Nat) := [(0, 3, 1), (0, 3, 2), (0, 3, 3), (0, 3, 4), (0, 4, 0), (0, 4, 1), (0, 4, 2), (0, 4, 3), (0, 4, 4), (0, 4, 5), (3, 5, 0), (2, 6, 0), (2, 7, 0), (2, 8, 0), (2, 9, 0), (2, 10, 0), (3, 11, 0), (2, 12, 0), (2, 13, 0)]
def eBT : List (Nat × Nat × Nat) := [(0, 1, 3), (0, 1, 4), (0, 1, 5), (0, 1, 6), (1, 1, 7), (0, 1, 8), (0, 1, 10), (0, 1, 11), (0, 1, 12), (1, 1, 9), (0, 3, 1), (0, 3, 2), (0, 3, 3), (0, 3, 4), (0, 4, 0), (0, 4, 1), (0, 4, 2), (0, 4, 3), (0, 4, 4), (0, 4, 5), (3, 5, 0), (2, 6, 0), (2, 7, 0), (2, 8, 0), (2, 9, 0), (2, 10, 0), (3, 11, 0), (2, 12, 0), (2, 13, 0)]
def dBT : List (Nat × Nat) := dTk ++ [(4, 1), (4, 2), (4, 3), (4, 4), (5, 0), (5, 1), (5, 2), (5, 3), (5, 4), (5, 5), (6, 999), (7, 999), (8, 999), (9, 999), (10, 999), (11, 999), (12, 999), (13, 999), (14, 999)]
theorem dBT_k : msub dTk dBT = true := by decide +kernel
theorem dBT_t : msub dH_tok dBT = true := by decide +kernel
theorem tkC_sm {E : List (Nat × Nat × Nat)} {B : Nat → Int} {n L : Nat} {S : tS} {w w' : sW} (h : smW E w w') (h1 : ((((((((0, 1, 1) ∉ E ∧ (0, 1, 2) ∉ E) ∧ (2, 2, 0) ∉ E) ∧ (0, 1, 3) ∉ E) ∧ (0, 1, 4) ∉ E) ∧ (0, 1, 5) ∉ E) ∧ (0, 1, 6) ∉ E) ∧ (1, 1, 7) ∉ E)) (t : tkC B n L S w) : tkC B n L S w' := by
  refine ⟨txC_sm h h1.1.1.1.1.1 t.1, ?_⟩
  rw [h.1 1 4 h1.1.1.1.2, h.1 1 5 h1.1.1.2, h.1 1 6 h1.1.2, h.2.1 1 7 h1.2, h.1 1 3 h1.1.1.1.1.2]
  exact t.2
/-- the plan in cell 4 -/
def pC (R N : Nat → Int) (w : sW) : Prop := pl4 w ∧ nm4 R N w ∧ (gF w 4 0 = R 0 ∧ gF w 4 1 = R 4 ∧ gF w 4 4 = R 3 ∧ gF w 4 5 = R 25) ∧ (∀ s : Nat, (s : Int) < R 1 → gX w 6 s = R (5 + s) ∧ gX w 7 s = R (15 + s)) ∧ (∀ s : Nat, s < 10 → gX w 8 s = R (26 + s) ∧ gX w 9 s = R (36 + s)) ∧ (∀ p : Nat, p < 36 → gX w 10 p = R (46 + p)) ∧ (∀ l : Nat, (l : Int) < R 2 → gX w 12 l = R (82 + l) ∧ gX w 13 l = R (88 + l))
theorem pC_sm {E : List (Nat × Nat × Nat)} {R N : Nat → Int} {w w' : sW} (h : smW E w w') (h1 : ∀ q ∈ ePl, q ∉ E) (p : pC R N w) : pC R N w' := by
  have z : ∀ q, q ∈ ePl → q ∉ E := h1
  obtain ⟨p1, p2, p3, p4, p5, p6, p7⟩ := p
  refine ⟨pl4_sm h p1, nm4_sm h ⟨⟨⟨z _ (by decide), z _ (by decide)⟩, z _ (by decide)⟩, z _ (by decide)⟩ p2, ⟨(h.1 4 0 (z _ (by decide))).trans p3.1, (h.1 4 1 (z _ (by decide))).trans p3.2.1, (h.1 4 4 (z _ (by decide))).trans p3.2.2.1, (h.1 4 5 (z _ (by decide))).trans p3.2.2.2⟩, fun s hs => ?_, fun s hs => ?_, fun s hs => ?_, fun s hs => ?_⟩
  · rw [h.2.2.1 6 s (z _ (by decide)), h.2.2.1 7 s (z _ (by decide))]
    exact p4 s hs
  · rw [h.2.2.1 8 s (z _ (by decide)), h.2.2.1 9 s (z _ (by decide))]
    exact p5 s hs
  · rw [h.2.2.1 10 s (z _ (by decide))]
    exact p6 s hs
  · rw [h.2.2.1 12 s (z _ (by decide)), h.2.2.1 13 s (z _ (by decide))]
    exact p7 s hs
def rpC (B : Nat → Int) (n : Nat) (Z : zZ) (w : sW) : Prop := tkC B n 900 Z.1 w ∧ tkG B n 900 Z.1 ∧ pC Z.2.1 Z.2.2.1 w ∧ gF w 3 2 = Z.2.2.2.1 ∧ gF w 3 3 = Z.2.2.2.2.1 ∧ gF w 3 4 = Z.2.2.2.2.2
theorem nm4_b {R N : Nat → Int} {w : sW} (p : nm4 R N w) (hw : wOk ZZ w) : (0 ≤ R 1 ∧ R 1 ≤ 10) ∧ 0 ≤ R 2 ∧ R 2 ≤ 6 := by
  obtain ⟨_, _, _, _, _, _, _, g1, g2⟩ := fI_ok (hO_rf (D := []) hw) fi_4_2
  obtain ⟨_, _, _, _, _, _, _, g3, g4⟩ := fI_ok (hO_rf (D := []) hw) fi_4_3
  rw [p.1.1] at g1 g2
  rw [p.1.2] at g3 g4
  exact ⟨⟨g1, g2⟩, g3, g4⟩
theorem pC_rows {R N : Nat → Int} {w w' : sW} {v : Int} (h : smW [(0, 4, 0)] w w') (hv : gF w' 4 0 = v) (hw : wOk ZZ w) (p : pC R N w) : pC (zU R 0 v) N w' := by
  obtain ⟨p1, ⟨⟨n1, n2⟩, n3, n4⟩, p3, p4, p5, p6, p7⟩ := p
  have u : ∀ j, j ≠ 0 → zU R 0 v j = R j := fun j hj => zU_n R v hj
  refine ⟨pl4_sm h p1, ⟨⟨by rw [u 1 (by omega)]; exact (h.1 4 2 (by decide)).trans n1, by rw [u 2 (by omega)]; exact (h.1 4 3 (by decide)).trans n2⟩, fun s hs => ?_, fun s hs => ?_⟩, ⟨by rw [zU_s]; exact hv, by rw [u 4 (by omega)]; exact (h.1 4 1 (by decide)).trans p3.2.1, by rw [u 3 (by omega)]; exact (h.1 4 4 (by decide)).trans p3.2.2.1, by rw [u 25 (by omega)]; exact (h.1 4 5 (by decide)).trans p3.2.2.2⟩, fun s hs => ?_, fun s hs => ?_, fun s hs => ?_, fun s hs => ?_⟩
  · rw [u 1 (by omega)] at hs
    rw [h.2.2.2.1 5 s (by decide)]
    exact n3 s hs
  · rw [u 2 (by omega)] at hs
    rw [h.2.2.2.1 11 s (by decide)]
    exact n4 s hs
  · have hs2 : (s : Int) < R 1 := by
      rw [u 1 (by omega)] at hs
      exact hs
    have hb := nm4_b ⟨⟨n1, n2⟩, n3, n4⟩ hw
    rw [h.2.2.1 6 s (by decide), h.2.2.1 7 s (by decide), u _ (by omega), u _ (by omega)]
    exact p4 s hs2
  · rw [h.2.2.1 8 s (by decide), h.2.2.1 9 s (by decide), u _ (by omega), u _ (by omega)]
    exact p5 s hs
  · rw [h.2.2.1 10 s (by decide), u _ (by omega)]
    exact p6 s hs
  · have hs2 : (s : Int) < R 2 := by
      rw [u 2 (by omega)] at hs
      exact hs
    have hb := nm4_b ⟨⟨n1, n2⟩, n3, n4⟩ hw
    rw [h.2.2.1 12 s (by decide), h.2.2.1 13 s (by decide), u _ (by omega), u _ (by omega)]
    exact p7 s hs2
theorem pC_keeps {R N : Nat → Int} {w w' : sW} {v : Int} (h : smW [(0, 4, 1)] w w') (hv : gF w' 4 1 = v) (hw : wOk ZZ w) (p : pC R N w) : pC (zU R 4 v) N w' := by
  obtain ⟨p1, ⟨⟨n1, n2⟩, n3, n4⟩, p3, p4, p5, p6, p7⟩ := p
  have u : ∀ j, j ≠ 4 → zU R 4 v j = R j := fun j hj => zU_n R v hj
  refine ⟨pl4_sm h p1, ⟨⟨by rw [u 1 (by omega)]; exact (h.1 4 2 (by decide)).trans n1, by rw [u 2 (by omega)]; exact (h.1 4 3 (by decide)).trans n2⟩, fun s hs => ?_, fun s hs => ?_⟩, ⟨by rw [u 0 (by omega)]; exact (h.1 4 0 (by decide)).trans p3.1, by rw [zU_s]; exact hv, by rw [u 3 (by omega)]; exact (h.1 4 4 (by decide)).trans p3.2.2.1, by rw [u 25 (by omega)]; exact (h.1 4 5 (by decide)).trans p3.2.2.2⟩, fun s hs => ?_, fun s hs => ?_, fun s hs => ?_, fun s hs => ?_⟩
  · rw [u 1 (by omega)] at hs
    rw [h.2.2.2.1 5 s (by decide)]
    exact n3 s hs
  · rw [u 2 (by omega)] at hs
    rw [h.2.2.2.1 11 s (by decide)]
    exact n4 s hs
  · have hs2 : (s : Int) < R 1 := by
      rw [u 1 (by omega)] at hs
      exact hs
    have hb := nm4_b ⟨⟨n1, n2⟩, n3, n4⟩ hw
    rw [h.2.2.1 6 s (by decide), h.2.2.1 7 s (by decide), u _ (by omega), u _ (by omega)]
    exact p4 s hs2
  · rw [h.2.2.1 8 s (by decide), h.2.2.1 9 s (by decide), u _ (by omega), u _ (by omega)]
    exact p5 s hs
  · rw [h.2.2.1 10 s (by decide), u _ (by omega)]
    exact p6 s hs
  · have hs2 : (s : Int) < R 2 := by
      rw [u 2 (by omega)] at hs
      exact hs
    have hb := nm4_b ⟨⟨n1, n2⟩, n3, n4⟩ hw
    rw [h.2.2.1 12 s (by decide), h.2.2.1 13 s (by decide), u _ (by omega), u _ (by omega)]
    exact p7 s hs2
theorem x_readRows {kn : sKn} {w0 : sW} {B : Nat → Int} {n : Nat} {S : tS} {R N : Nat → Int} {hr hk hp : Int} (hw : wOk ZZ w0) (hz : rpC B n (S, R, N, hr, hk, hp) w0) : ∃ (w' : sW) (b : Int), fX2_readRows kn [.ref 3, .ref 1] w0 = some (some (hI b), w', 0, 0) ∧ hO dBT w0 w' ∧ smW eBT w0 w' ∧ gF w' 3 1 = gF w0 3 1 ∧ zOK (zRows B n 900 (S, R, N, hr, hk, hp)) b (fun e => gF w' 1 11 = e.1 ∧ gF w' 1 12 = e.2) (fun Y => rpC B n Y w') := by
  obtain ⟨htk, hG, hpC, hf2, hf3, hf4⟩ := hz
  have htk : tkC B n 900 S w0 := htk
  have hG : tkG B n 900 S := hG
  have hpC : pC R N w0 := hpC
  have hf2 : gF w0 3 2 = hr := hf2
  have hf3 : gF w0 3 3 = hk := hf3
  have hf4 : gF w0 3 4 = hp := hf4
  have hP := hpC.1
  have hnb := nm4_b hpC.2.1 hw
  have gbS := tkG_b hG
  have htx := htk.1.2.2.2
  have K : Tp (tX2_readRows kn) (fun r => ∃ (w' : sW) (b : Int), r = (some (hI b), w', 0, 0) ∧ hO dBT w0 w' ∧ smW eBT w0 w' ∧ gF w' 3 1 = gF w0 3 1 ∧ zOK (zRows B n 900 (S, R, N, hr, hk, hp)) b (fun e => gF w' 1 11 = e.1 ∧ gF w' 1 12 = e.2) (fun Y => rpC B n Y w')) 0 (lv_args 0 [.ref 3, .ref 1], [], w0, 0, 0) := by
    have l0 : hL (lv_args 0 [.ref 3, .ref 1]) (lv_args 0 [.ref 3, .ref 1]) := hL_ex rfl
    have o0 : hO dBT w0 w0 := hO_rf hw
    have sm := smW_rf eBT w0
    refine h_aload rfl l0 rfl ?_
    refine h_getI rfl o0 fi_3_2 (fun b41a b41b => ?_)
    rw [hf2] at b41a b41b ⊢
    refine j_ne (kn := kn) (t := 1) (tgt := 14) (np := 7) rfl (by unfold R32; omega) (fun e42 => ?_) (fun e42 => ?_)
    · refine h_aload rfl l0 rfl ?_
      refine h_intv k_3 rfl ?_
      obtain ⟨wR43, hf43, oR43', sR43, rA43, rB43⟩ := x_refuse (kn := kn) o0.1 3 ⟨by omega, by omega⟩
      have oR43 := hO_tr o0 (hO_mono dBT_k oR43')
      rw [(tkV_i htk.2).1] at rB43
      refine h_V2 rfl o0 l0 ci_1 rfl rfl hf43 ?_
      refine h_zret (by omega) rfl ?_
      refine ⟨_, _, rfl, oR43, smW_tr sm (smW_mono (by decide) sR43), by rw [sR43.1 3 1 (by decide)], ?_⟩
      rw [show zRows B n 900 (S, R, N, hr, hk, hp) = .inl (3, S.2.1) from by
        unfold zRows
        try dsimp only
        rw [if_pos (by omega)]
        try dsimp only
        first | done | rfl, zOK_l]
      exact ⟨rfl, by rw [rA43], by rw [rB43]⟩
    · refine h_aload rfl l0 rfl ?_
      refine h_getI rfl o0 fi_3_4 (fun b44a b44b => ?_)
      rw [hf4] at b44a b44b ⊢
      refine j_eq (kn := kn) (t := 0) (tgt := 20) (np := 14) rfl (by unfold R32; omega) (fun e45 => ?_) (fun e45 => ?_)
      · refine h_aload rfl l0 rfl ?_
        obtain ⟨wA46, hf46, oA46', sA46, tA46⟩ := x_advance (kn := kn) htk.1 o0.1 (p := S.2.2.2.2) (tkG_n hG) (tkV_i htk.2).2.1
        have oA46 := hO_tr o0 (hO_mono dBT_t oA46')
        have tA46 : tkC B n 900 (nxT B n 900 S) wA46 := tA46
        refine h_W1 rfl o0 l0 ci_1 rfl rfl hf46 ?_
        refine h_aload rfl l0 rfl ?_
        refine h_intv k_1 rfl ?_
        refine h_intv k_12 rfl ?_
        obtain ⟨wN47, bN47, hf47, oN47', sN47, hz47⟩ := x_takeNumber (kn := kn) oA46.1 tA46 (tkG_n (tkG_nx hG)) 1 12 ⟨by omega, by omega⟩ ⟨by omega, by omega⟩
        have oN47 := hO_tr oA46 (hO_mono dBT_k oN47')
        have gb47 := tkG_b (tkG_nx hG)
        rcases hr47 : zNum B n 900 1 12 (nxT B n 900 S) with eN47 | qN47
        · rw [hr47, zOK_l] at hz47
          obtain ⟨hb47, he147, he247⟩ := hz47
          subst hb47
          refine h_V3 rfl oA46 l0 ci_1 rfl rfl hf47 ?_
          refine j_ne (kn := kn) (t := 1) (tgt := 36) (np := 34) rfl (by unfold R32; omega) (fun e48 => ?_) (fun e48 => ?_)
          · omega
          · refine h_intv k_0 rfl ?_
            refine h_zret (by omega) rfl ?_
            refine ⟨_, _, rfl, oN47, smW_tr (smW_tr sm (smW_mono (by decide) sA46)) (smW_mono (by decide) sN47), by rw [sN47.1 3 1 (by decide), sA46.1 3 1 (by decide)], ?_⟩
            rw [show zRows B n 900 (S, R, N, hr, hk, hp) = .inl eN47 from by
              unfold zRows
              try dsimp only
              rw [if_neg (by omega)]
              try dsimp only
              rw [hr47, zB_l]
              try dsimp only
              first | done | rfl, zOK_l]
            exact ⟨rfl, by rw [he147], by rw [he247]⟩
        · rw [hr47, zOK_r] at hz47
          obtain ⟨hb47, hv47, ha47, ht47⟩ := hz47
          subst hb47
          obtain ⟨hq47, hlo47, hhi47⟩ := zNum_r hr47
          have G47 : tkG B n 900 qN47.2 := by
            rw [hq47]
            exact tkG_nx (tkG_nx hG)
          refine h_V3 rfl oA46 l0 ci_1 rfl rfl hf47 ?_
          refine j_ne (kn := kn) (t := 1) (tgt := 36) (np := 34) rfl (by unfold R32; omega) (fun e49 => ?_) (fun e49 => ?_)
          · refine h_aload rfl l0 rfl ?_
            refine h_getR rfl oN47 fr_3_0 ?_
            refine h_aload rfl l0 rfl ?_
            refine h_getI rfl oN47 fi_1_8 (fun b50a b50b => ?_)
            rw [hv47] at b50a b50b ⊢
            refine x_putI rfl oN47 fi_4_0 rfl (by omega) (by omega) (fun w51 o51 q52a q52F q52X q52J q52Y q52R => ?_)
            refine h_aload rfl l0 rfl ?_
            refine h_intv k_1 rfl ?_
            refine x_putK (by rfl) rfl o51 fi_3_2 rfl (by omega) (by omega) (fun w53 o53 q54a q54F q54X q54J q54Y q54R => ?_)
            refine h_intv k_1 rfl ?_
            refine h_zret (by omega) rfl ?_
            refine ⟨_, _, rfl, o53, smW_tr (smW_tr (smW_tr (smW_tr sm (smW_mono (by decide) sA46)) (smW_mono (by decide) sN47)) (sm_pI (by decide) q52F q52X q52J q52Y q52R)) (sm_pI (by decide) q54F q54X q54J q54Y q54R), by rw [q54F 3 1 (by decide), q52F 3 1 (by decide), sN47.1 3 1 (by decide), sA46.1 3 1 (by decide)], ?_⟩
            rw [show zRows B n 900 (S, R, N, hr, hk, hp) = .inr (qN47.2, zU R 0 qN47.1, N, 1, hk, hp) from by
              unfold zRows
              try dsimp only
              rw [if_neg (by omega)]
              try dsimp only
              rw [hr47, zB_r]
              try dsimp only
              first | done | rfl, zOK_r]
            exact ⟨rfl, (tkC_sm (smW_tr (smW_tr (smW_rf ePF _) (sm_pI (by decide) q52F q52X q52J q52Y q52R)) (sm_pI (by decide) q54F q54X q54J q54Y q54R)) (by decide) ht47), G47, (pC_sm (smW_tr (smW_rf [(0, 3, 2), (0, 3, 3), (0, 3, 4)] _) (sm_pI (by decide) q54F q54X q54J q54Y q54R)) (by decide) (pC_rows (smW_tr (smW_rf [(0, 4, 0)] _) (smW_tr (smW_rf [(0, 4, 0)] _) (sm_pI (by decide) q52F q52X q52J q52Y q52R))) q52a oN47.1 (pC_sm (smW_tr (smW_tr (smW_rf eTT _) (smW_mono (by decide) sA46)) (smW_mono (by decide) sN47)) (by decide) hpC))), by rw [q54a], by rw [q54F 3 3 (by decide), q52F 3 3 (by decide), sN47.1 3 3 (by decide), sA46.1 3 3 (by decide), hf3], by rw [q54F 3 4 (by decide), q52F 3 4 (by decide), sN47.1 3 4 (by decide), sA46.1 3 4 (by decide), hf4]⟩
          · omega
      · refine h_aload rfl l0 rfl ?_
        refine h_intv k_3 rfl ?_
        obtain ⟨wR55, hf55, oR55', sR55, rA55, rB55⟩ := x_refuse (kn := kn) o0.1 3 ⟨by omega, by omega⟩
        have oR55 := hO_tr o0 (hO_mono dBT_k oR55')
        rw [(tkV_i htk.2).1] at rB55
        refine h_V2 rfl o0 l0 ci_1 rfl rfl hf55 ?_
        refine h_zret (by omega) rfl ?_
        refine ⟨_, _, rfl, oR55, smW_tr sm (smW_mono (by decide) sR55), by rw [sR55.1 3 1 (by decide)], ?_⟩
        rw [show zRows B n 900 (S, R, N, hr, hk, hp) = .inl (3, S.2.1) from by
          unfold zRows
          try dsimp only
          rw [if_pos (by omega)]
          try dsimp only
          first | done | rfl, zOK_l]
        exact ⟨rfl, by rw [rA55], by rw [rB55]⟩
  obtain ⟨r, h1, w2, b, h2, h3⟩ := h_meth1 (nL := 2) rfl K
  rw [h2] at h1
  exact ⟨w2, b, h1, h3⟩
theorem x_readKeeps {kn : sKn} {w0 : sW} {B : Nat → Int} {n : Nat} {S : tS} {R N : Nat → Int} {hr hk hp : Int} (hw : wOk ZZ w0) (hz : rpC B n (S, R, N, hr, hk, hp) w0) : ∃ (w' : sW) (b : Int), fX2_readKeeps kn [.ref 3, .ref 1] w0 = some (some (hI b), w', 0, 0) ∧ hO dBT w0 w' ∧ smW eBT w0 w' ∧ gF w' 3 1 = gF w0 3 1 ∧ zOK (zKeeps B n 900 (S, R, N, hr, hk, hp)) b (fun e => gF w' 1 11 = e.1 ∧ gF w' 1 12 = e.2) (fun Y => rpC B n Y w') := by
  obtain ⟨htk, hG, hpC, hf2, hf3, hf4⟩ := hz
  have htk : tkC B n 900 S w0 := htk
  have hG : tkG B n 900 S := hG
  have hpC : pC R N w0 := hpC
  have hf2 : gF w0 3 2 = hr := hf2
  have hf3 : gF w0 3 3 = hk := hf3
  have hf4 : gF w0 3 4 = hp := hf4
  have hP := hpC.1
  have hnb := nm4_b hpC.2.1 hw
  have gbS := tkG_b hG
  have htx := htk.1.2.2.2
  have K : Tp (tX2_readKeeps kn) (fun r => ∃ (w' : sW) (b : Int), r = (some (hI b), w', 0, 0) ∧ hO dBT w0 w' ∧ smW eBT w0 w' ∧ gF w' 3 1 = gF w0 3 1 ∧ zOK (zKeeps B n 900 (S, R, N, hr, hk, hp)) b (fun e => gF w' 1 11 = e.1 ∧ gF w' 1 12 = e.2) (fun Y => rpC B n Y w')) 0 (lv_args 0 [.ref 3, .ref 1], [], w0, 0, 0) := by
    have l0 : hL (lv_args 0 [.ref 3, .ref 1]) (lv_args 0 [.ref 3, .ref 1]) := hL_ex rfl
    have o0 : hO dBT w0 w0 := hO_rf hw
    have sm := smW_rf eBT w0
    refine h_aload rfl l0 rfl ?_
    refine h_getI rfl o0 fi_3_3 (fun b41a b41b => ?_)
    rw [hf3] at b41a b41b ⊢
    refine j_eq (kn := kn) (t := 0) (tgt := 13) (np := 7) rfl (by unfold R32; omega) (fun e42 => ?_) (fun e42 => ?_)
    · refine h_aload rfl l0 rfl ?_
      obtain ⟨wA43, hf43, oA43', sA43, tA43⟩ := x_advance (kn := kn) htk.1 o0.1 (p := S.2.2.2.2) (tkG_n hG) (tkV_i htk.2).2.1
      have oA43 := hO_tr o0 (hO_mono dBT_t oA43')
      have tA43 : tkC B n 900 (nxT B n 900 S) wA43 := tA43
      refine h_W1 rfl o0 l0 ci_1 rfl rfl hf43 ?_
      refine h_aload rfl l0 rfl ?_
      refine h_intv k_0 rfl ?_
      refine h_intv k_30 rfl ?_
      obtain ⟨wN44, bN44, hf44, oN44', sN44, hz44⟩ := x_takeNumber (kn := kn) oA43.1 tA43 (tkG_n (tkG_nx hG)) 0 30 ⟨by omega, by omega⟩ ⟨by omega, by omega⟩
      have oN44 := hO_tr oA43 (hO_mono dBT_k oN44')
      have gb44 := tkG_b (tkG_nx hG)
      rcases hr44 : zNum B n 900 0 30 (nxT B n 900 S) with eN44 | qN44
      · rw [hr44, zOK_l] at hz44
        obtain ⟨hb44, he144, he244⟩ := hz44
        subst hb44
        refine h_V3 rfl oA43 l0 ci_1 rfl rfl hf44 ?_
        refine j_ne (kn := kn) (t := 1) (tgt := 29) (np := 27) rfl (by unfold R32; omega) (fun e45 => ?_) (fun e45 => ?_)
        · omega
        · refine h_intv k_0 rfl ?_
          refine h_zret (by omega) rfl ?_
          refine ⟨_, _, rfl, oN44, smW_tr (smW_tr sm (smW_mono (by decide) sA43)) (smW_mono (by decide) sN44), by rw [sN44.1 3 1 (by decide), sA43.1 3 1 (by decide)], ?_⟩
          rw [show zKeeps B n 900 (S, R, N, hr, hk, hp) = .inl eN44 from by
            unfold zKeeps
            try dsimp only
            rw [if_neg (by omega)]
            try dsimp only
            rw [hr44, zB_l]
            try dsimp only
            first | done | rfl, zOK_l]
          exact ⟨rfl, by rw [he144], by rw [he244]⟩
      · rw [hr44, zOK_r] at hz44
        obtain ⟨hb44, hv44, ha44, ht44⟩ := hz44
        subst hb44
        obtain ⟨hq44, hlo44, hhi44⟩ := zNum_r hr44
        have G44 : tkG B n 900 qN44.2 := by
          rw [hq44]
          exact tkG_nx (tkG_nx hG)
        refine h_V3 rfl oA43 l0 ci_1 rfl rfl hf44 ?_
        refine j_ne (kn := kn) (t := 1) (tgt := 29) (np := 27) rfl (by unfold R32; omega) (fun e46 => ?_) (fun e46 => ?_)
        · refine h_aload rfl l0 rfl ?_
          refine h_getR rfl oN44 fr_3_0 ?_
          refine h_aload rfl l0 rfl ?_
          refine h_getI rfl oN44 fi_1_8 (fun b47a b47b => ?_)
          rw [hv44] at b47a b47b ⊢
          refine x_putI rfl oN44 fi_4_1 rfl (by omega) (by omega) (fun w48 o48 q49a q49F q49X q49J q49Y q49R => ?_)
          refine h_aload rfl l0 rfl ?_
          refine h_intv k_1 rfl ?_
          refine x_putK (by rfl) rfl o48 fi_3_3 rfl (by omega) (by omega) (fun w50 o50 q51a q51F q51X q51J q51Y q51R => ?_)
          refine h_intv k_1 rfl ?_
          refine h_zret (by omega) rfl ?_
          refine ⟨_, _, rfl, o50, smW_tr (smW_tr (smW_tr (smW_tr sm (smW_mono (by decide) sA43)) (smW_mono (by decide) sN44)) (sm_pI (by decide) q49F q49X q49J q49Y q49R)) (sm_pI (by decide) q51F q51X q51J q51Y q51R), by rw [q51F 3 1 (by decide), q49F 3 1 (by decide), sN44.1 3 1 (by decide), sA43.1 3 1 (by decide)], ?_⟩
          rw [show zKeeps B n 900 (S, R, N, hr, hk, hp) = .inr (qN44.2, zU R 4 qN44.1, N, hr, 1, hp) from by
            unfold zKeeps
            try dsimp only
            rw [if_neg (by omega)]
            try dsimp only
            rw [hr44, zB_r]
            try dsimp only
            first | done | rfl, zOK_r]
          exact ⟨rfl, (tkC_sm (smW_tr (smW_tr (smW_rf ePF _) (sm_pI (by decide) q49F q49X q49J q49Y q49R)) (sm_pI (by decide) q51F q51X q51J q51Y q51R)) (by decide) ht44), G44, (pC_sm (smW_tr (smW_rf [(0, 3, 2), (0, 3, 3), (0, 3, 4)] _) (sm_pI (by decide) q51F q51X q51J q51Y q51R)) (by decide) (pC_keeps (smW_tr (smW_rf [(0, 4, 1)] _) (smW_tr (smW_rf [(0, 4, 1)] _) (sm_pI (by decide) q49F q49X q49J q49Y q49R))) q49a oN44.1 (pC_sm (smW_tr (smW_tr (smW_rf eTT _) (smW_mono (by decide) sA43)) (smW_mono (by decide) sN44)) (by decide) hpC))), by rw [q51F 3 2 (by decide), q49F 3 2 (by decide), sN44.1 3 2 (by decide), sA43.1 3 2 (by decide), hf2], by rw [q51a], by rw [q51F 3 4 (by decide), q49F 3 4 (by decide), sN44.1 3 4 (by decide), sA43.1 3 4 (by decide), hf4]⟩
        · omega
    · refine h_aload rfl l0 rfl ?_
      refine h_intv k_3 rfl ?_
      obtain ⟨wR52, hf52, oR52', sR52, rA52, rB52⟩ := x_refuse (kn := kn) o0.1 3 ⟨by omega, by omega⟩
      have oR52 := hO_tr o0 (hO_mono dBT_k oR52')
      rw [(tkV_i htk.2).1] at rB52
      refine h_V2 rfl o0 l0 ci_1 rfl rfl hf52 ?_
      refine h_zret (by omega) rfl ?_
      refine ⟨_, _, rfl, oR52, smW_tr sm (smW_mono (by decide) sR52), by rw [sR52.1 3 1 (by decide)], ?_⟩
      rw [show zKeeps B n 900 (S, R, N, hr, hk, hp) = .inl (3, S.2.1) from by
        unfold zKeeps
        try dsimp only
        rw [if_pos (by omega)]
        try dsimp only
        first | done | rfl, zOK_l]
      exact ⟨rfl, by rw [rA52], by rw [rB52]⟩
  obtain ⟨r, h1, w2, b, h2, h3⟩ := h_meth1 (nL := 2) rfl K
  rw [h2] at h1
  exact ⟨w2, b, h1, h3⟩
theorem pC_heir {R N : Nat → Int} {w w' : sW} {a : Nat} {v : Int} (hw : wOk ZZ w) (h : smW [(2, 8, 0)] w w') (ha : a < 10) (hv : gX w' 8 a = v) (hn : ∀ j, j ≠ a → gX w' 8 j = gX w 8 j) (p : pC R N w) : pC (zU R (26 + a) v) (N) w' := by
  have hb := nm4_b p.2.1 hw
  obtain ⟨p1, ⟨⟨n1, n2⟩, n3, n4⟩, p3, p4, p5, p6, p7⟩ := p
  have u : ∀ j, j ≠ 26 + a → zU R (26 + a) v j = R j := fun j hj => zU_n R v hj
  refine ⟨pl4_sm h p1, ⟨⟨by rw [u 1 (by omega)]; exact (h.1 4 2 (by decide)).trans n1, by rw [u 2 (by omega)]; exact (h.1 4 3 (by decide)).trans n2⟩, fun s hs => ?_, fun s hs => ?_⟩, ⟨by rw [u 0 (by omega)]; exact (h.1 4 0 (by decide)).trans p3.1, by rw [u 4 (by omega)]; exact (h.1 4 1 (by decide)).trans p3.2.1, by rw [u 3 (by omega)]; exact (h.1 4 4 (by decide)).trans p3.2.2.1, by rw [u 25 (by omega)]; exact (h.1 4 5 (by decide)).trans p3.2.2.2⟩, fun s hs => ?_, fun s hs => ?_, fun s hs => ?_, fun s hs => ?_⟩
  · rw [u 1 (by omega)] at hs
    rw [h.2.2.2.1 5 s (by decide)]
    exact n3 s hs
  · rw [u 2 (by omega)] at hs
    rw [h.2.2.2.1 11 s (by decide)]
    exact n4 s hs
  · rw [u 1 (by omega)] at hs
    rw [h.2.2.1 6 s (by decide), h.2.2.1 7 s (by decide), u (5 + s) (by omega), u (15 + s) (by omega)]
    exact p4 s hs
  · by_cases e : s = a
    · rw [e, zU_s, hv, h.2.2.1 9 a (by decide), u (36 + a) (by omega)]
      exact ⟨rfl, (p5 a ha).2⟩
    · rw [hn s e, h.2.2.1 9 s (by decide), u (26 + s) (by omega), u (36 + s) (by omega)]
      exact p5 s hs
  · rw [h.2.2.1 10 s (by decide), u (46 + s) (by omega)]
    exact p6 s hs
  · rw [u 2 (by omega)] at hs
    rw [h.2.2.1 12 s (by decide), h.2.2.1 13 s (by decide), u (82 + s) (by omega), u (88 + s) (by omega)]
    exact p7 s hs
theorem pC_own {R N : Nat → Int} {w w' : sW} {a : Nat} {v : Int} (hw : wOk ZZ w) (h : smW [(2, 10, 0)] w w') (ha : a < 36) (hv : gX w' 10 a = v) (hn : ∀ j, j ≠ a → gX w' 10 j = gX w 10 j) (p : pC R N w) : pC (zU R (46 + a) v) (N) w' := by
  have hb := nm4_b p.2.1 hw
  obtain ⟨p1, ⟨⟨n1, n2⟩, n3, n4⟩, p3, p4, p5, p6, p7⟩ := p
  have u : ∀ j, j ≠ 46 + a → zU R (46 + a) v j = R j := fun j hj => zU_n R v hj
  refine ⟨pl4_sm h p1, ⟨⟨by rw [u 1 (by omega)]; exact (h.1 4 2 (by decide)).trans n1, by rw [u 2 (by omega)]; exact (h.1 4 3 (by decide)).trans n2⟩, fun s hs => ?_, fun s hs => ?_⟩, ⟨by rw [u 0 (by omega)]; exact (h.1 4 0 (by decide)).trans p3.1, by rw [u 4 (by omega)]; exact (h.1 4 1 (by decide)).trans p3.2.1, by rw [u 3 (by omega)]; exact (h.1 4 4 (by decide)).trans p3.2.2.1, by rw [u 25 (by omega)]; exact (h.1 4 5 (by decide)).trans p3.2.2.2⟩, fun s hs => ?_, fun s hs => ?_, fun s hs => ?_, fun s hs => ?_⟩
  · rw [u 1 (by omega)] at hs
    rw [h.2.2.2.1 5 s (by decide)]
    exact n3 s hs
  · rw [u 2 (by omega)] at hs
    rw [h.2.2.2.1 11 s (by decide)]
    exact n4 s hs
  · rw [u 1 (by omega)] at hs
    rw [h.2.2.1 6 s (by decide), h.2.2.1 7 s (by decide), u (5 + s) (by omega), u (15 + s) (by omega)]
    exact p4 s hs
  · rw [h.2.2.1 8 s (by decide), h.2.2.1 9 s (by decide), u (26 + s) (by omega), u (36 + s) (by omega)]
    exact p5 s hs
  · by_cases e : s = a
    · rw [e, zU_s]
      exact hv
    · rw [hn s e, u (46 + s) (by omega)]
      exact p6 s hs
  · rw [u 2 (by omega)] at hs
    rw [h.2.2.1 12 s (by decide), h.2.2.1 13 s (by decide), u (82 + s) (by omega), u (88 + s) (by omega)]
    exact p7 s hs
theorem pC_lov {R N : Nat → Int} {w w' : sW} {a b : Nat} {x y : Int} (hw : wOk ZZ w) (h : smW [(2, 9, 0), (0, 4, 4)] w w') (ha : a < 10) (hb2 : b < 10) (hab : a ≠ b) (hv : gX w' 9 a = x) (hv2 : gX w' 9 b = y) (hn : ∀ j, j ≠ a → j ≠ b → gX w' 9 j = gX w 9 j) (h3 : gF w' 4 4 = R 3 + 1) (p : pC R N w) : pC (zU (zU (zU R (36 + a) x) (36 + b) y) 3 (R 3 + 1)) (N) w' := by
  have hb := nm4_b p.2.1 hw
  obtain ⟨p1, ⟨⟨n1, n2⟩, n3, n4⟩, p3, p4, p5, p6, p7⟩ := p
  have u : ∀ j, j ≠ 36 + a → j ≠ 36 + b → j ≠ 3 → zU (zU (zU R (36 + a) x) (36 + b) y) 3 (R 3 + 1) j = R j := fun j h1 h2 h3 => by rw [zU_n _ _ h3, zU_n _ _ h2, zU_n _ _ h1]
  refine ⟨pl4_sm h p1, ⟨⟨by rw [u 1 (by omega) (by omega) (by omega)]; exact (h.1 4 2 (by decide)).trans n1, by rw [u 2 (by omega) (by omega) (by omega)]; exact (h.1 4 3 (by decide)).trans n2⟩, fun s hs => ?_, fun s hs => ?_⟩, ⟨by rw [u 0 (by omega) (by omega) (by omega)]; exact (h.1 4 0 (by decide)).trans p3.1, by rw [u 4 (by omega) (by omega) (by omega)]; exact (h.1 4 1 (by decide)).trans p3.2.1, by rw [zU_s]; exact h3, by rw [u 25 (by omega) (by omega) (by omega)]; exact (h.1 4 5 (by decide)).trans p3.2.2.2⟩, fun s hs => ?_, fun s hs => ?_, fun s hs => ?_, fun s hs => ?_⟩
  · rw [u 1 (by omega) (by omega) (by omega)] at hs
    rw [h.2.2.2.1 5 s (by decide)]
    exact n3 s hs
  · rw [u 2 (by omega) (by omega) (by omega)] at hs
    rw [h.2.2.2.1 11 s (by decide)]
    exact n4 s hs
  · rw [u 1 (by omega) (by omega) (by omega)] at hs
    rw [h.2.2.1 6 s (by decide), h.2.2.1 7 s (by decide), u (5 + s) (by omega) (by omega) (by omega), u (15 + s) (by omega) (by omega) (by omega)]
    exact p4 s hs
  · by_cases e : s = b
    · rw [e, hv2, h.2.2.1 8 b (by decide), u (26 + b) (by omega) (by omega) (by omega), zU_n _ _ (show 36 + b ≠ 3 by omega), zU_s]
      exact ⟨(p5 b hb2).1, rfl⟩
    · by_cases e2 : s = a
      · rw [e2, hv, h.2.2.1 8 a (by decide), u (26 + a) (by omega) (by omega) (by omega), zU_n _ _ (show 36 + a ≠ 3 by omega), zU_n _ _ (show 36 + a ≠ 36 + b by omega), zU_s]
        exact ⟨(p5 a ha).1, rfl⟩
      · rw [hn s e2 e, h.2.2.1 8 s (by decide), u (26 + s) (by omega) (by omega) (by omega), u (36 + s) (by omega) (by omega) (by omega)]
        exact p5 s hs
  · rw [h.2.2.1 10 s (by decide), u (46 + s) (by omega) (by omega) (by omega)]
    exact p6 s hs
  · rw [u 2 (by omega) (by omega) (by omega)] at hs
    rw [h.2.2.1 12 s (by decide), h.2.2.1 13 s (by decide), u (82 + s) (by omega) (by omega) (by omega), u (88 + s) (by omega) (by omega) (by omega)]
    exact p7 s hs
def eLd : List (Nat × Nat × Nat) := [(0, 1, 3), (0, 1, 4), (0, 1, 5), (0, 1, 6), (1, 1, 7), (0, 1, 8), (0, 1, 10), (0, 1, 11), (0, 1, 12), (1, 1, 9), (3, 11, 0), (2, 12, 0), (2, 13, 0), (0, 4, 3)]
def eSg : List (Nat × Nat × Nat) := [(0, 1, 3), (0, 1, 4), (0, 1, 5), (0, 1, 6), (1, 1, 7), (0, 1, 8), (0, 1, 10), (0, 1, 11), (0, 1, 12), (1, 1, 9), (3, 5, 0), (2, 6, 0), (2, 7, 0), (0, 4, 2), (0, 4, 5)]
theorem pC_load {R N : Nat → Int} {w w' : sW} {l : Nat} {x e m : Int} (hw : wOk ZZ w) (h : smW eLd w w') (hl : R 2 = (l : Int)) (hl6 : l < 6) (hx : 0 ≤ x ∧ x < 27 ^ 7) (hY : gY w' 11 l = Int64.ofInt (c32 7 x)) (hYn : ∀ j, j ≠ l → gY w' 11 j = gY w 11 j) (h12 : gX w' 12 l = e) (h12n : ∀ j, j ≠ l → gX w' 12 j = gX w 12 j) (h13 : gX w' 13 l = m) (h13n : ∀ j, j ≠ l → gX w' 13 j = gX w 13 j) (h2 : gF w' 4 3 = R 2 + 1) (p : pC R N w) : pC (zU (zU (zU R (82 + (R 2).toNat) e) (88 + (R 2).toNat) m) 2 (R 2 + 1)) (zU N (10 + (R 2).toNat) x) w' := by
  have hb := nm4_b p.2.1 hw
  obtain ⟨p1, ⟨⟨n1, n2⟩, n3, n4⟩, p3, p4, p5, p6, p7⟩ := p
  have ht : (R 2).toNat = l := by omega
  rw [ht]
  have u : ∀ j, j ≠ 82 + l → j ≠ 88 + l → j ≠ 2 → zU (zU (zU R (82 + l) e) (88 + l) m) 2 (R 2 + 1) j = R j := fun j h1 h2 h3 => by rw [zU_n _ _ h3, zU_n _ _ h2, zU_n _ _ h1]
  have u2 : zU (zU (zU R (82 + l) e) (88 + l) m) 2 (R 2 + 1) 2 = R 2 + 1 := zU_s _ _ _
  refine ⟨pl4_sm h p1, ⟨⟨by rw [u 1 (by omega) (by omega) (by omega)]; exact (h.1 4 2 (by decide)).trans n1, by rw [u2]; exact h2⟩, fun s hs => ?_, fun s hs => ?_⟩, ⟨by rw [u 0 (by omega) (by omega) (by omega)]; exact (h.1 4 0 (by decide)).trans p3.1, by rw [u 4 (by omega) (by omega) (by omega)]; exact (h.1 4 1 (by decide)).trans p3.2.1, by rw [u 3 (by omega) (by omega) (by omega)]; exact (h.1 4 4 (by decide)).trans p3.2.2.1, by rw [u 25 (by omega) (by omega) (by omega)]; exact (h.1 4 5 (by decide)).trans p3.2.2.2⟩, fun s hs => ?_, fun s hs => ?_, fun s hs => ?_, fun s hs => ?_⟩
  · rw [u 1 (by omega) (by omega) (by omega)] at hs
    rw [h.2.2.2.1 5 s (by decide), zU_n _ _ (show s ≠ 10 + l by omega)]
    exact n3 s hs
  · rw [u2] at hs
    by_cases e1 : s = l
    · rw [e1, hY, zU_s]
      exact ⟨rfl, hx⟩
    · rw [hYn s e1, zU_n _ _ (show 10 + s ≠ 10 + l by omega)]
      exact n4 s (by omega)
  · rw [u 1 (by omega) (by omega) (by omega)] at hs
    rw [h.2.2.1 6 s (by decide), h.2.2.1 7 s (by decide), u (5 + s) (by omega) (by omega) (by omega), u (15 + s) (by omega) (by omega) (by omega)]
    exact p4 s hs
  · rw [h.2.2.1 8 s (by decide), h.2.2.1 9 s (by decide), u (26 + s) (by omega) (by omega) (by omega), u (36 + s) (by omega) (by omega) (by omega)]
    exact p5 s hs
  · rw [h.2.2.1 10 s (by decide), u (46 + s) (by omega) (by omega) (by omega)]
    exact p6 s hs
  · rw [u2] at hs
    by_cases e1 : s = l
    · rw [e1, h12, h13, zU_n _ _ (show 82 + l ≠ 2 by omega), zU_n _ _ (show 82 + l ≠ 88 + l by omega), zU_s, zU_n _ _ (show 88 + l ≠ 2 by omega), zU_s]
      exact ⟨rfl, rfl⟩
    · rw [h12n s e1, h13n s e1, u (82 + s) (by omega) (by omega) (by omega), u (88 + s) (by omega) (by omega) (by omega)]
      exact p7 s (by omega)
def zS5 (R : Nat → Int) (fg : Bool) : Int := match fg with
  | true => zOr (R 25) (zSh 1 (R 1))
  | false => R 25
theorem pC_sgn {R N : Nat → Int} {w w' : sW} {k : Nat} {x e m : Int} {fg : Bool} (hw : wOk ZZ w) (h : smW eSg w w') (hk : R 1 = (k : Int)) (hk10 : k < 10) (hx : 0 ≤ x ∧ x < 27 ^ 7) (hY : gY w' 5 k = Int64.ofInt (c32 7 x)) (hYn : ∀ j, j ≠ k → gY w' 5 j = gY w 5 j) (h6 : gX w' 6 k = e) (h6n : ∀ j, j ≠ k → gX w' 6 j = gX w 6 j) (h7 : gX w' 7 k = m) (h7n : ∀ j, j ≠ k → gX w' 7 j = gX w 7 j) (h2 : gF w' 4 2 = R 1 + 1) (h5 : gF w' 4 5 = zS5 R fg) (p : pC R N w) : pC (zSgR R e m fg) (zU N (R 1).toNat x) w' := by
  have hb := nm4_b p.2.1 hw
  obtain ⟨p1, ⟨⟨n1, n2⟩, n3, n4⟩, p3, p4, p5, p6, p7⟩ := p
  have ht : (R 1).toNat = k := by omega
  have u1 : zSgR R e m fg 1 = R 1 + 1 := by
    cases fg <;> exact zU_s _ _ _
  have u : ∀ j, j ≠ 1 → j ≠ 25 → j ≠ 5 + k → j ≠ 15 + k → zSgR R e m fg j = R j := fun j h1 h2 h3 h4 => by
    cases fg
    · show zU (zU (zU R (5 + (R 1).toNat) e) (15 + (R 1).toNat) m) 1 (R 1 + 1) j = R j
      rw [ht, zU_n _ _ h1, zU_n _ _ h4, zU_n _ _ h3]
    · show zU (zU (zU (zU R (5 + (R 1).toNat) e) (15 + (R 1).toNat) m) 25 (zOr (R 25) (zSh 1 (R 1)))) 1 (R 1 + 1) j = R j
      rw [ht, zU_n _ _ h1, zU_n _ _ h2, zU_n _ _ h4, zU_n _ _ h3]
  have u5 : zSgR R e m fg (5 + k) = e := by
    cases fg
    · show zU (zU (zU R (5 + (R 1).toNat) e) (15 + (R 1).toNat) m) 1 (R 1 + 1) (5 + k) = e
      rw [ht, zU_n _ _ (show 5 + k ≠ 1 by omega), zU_n _ _ (show 5 + k ≠ 15 + k by omega), zU_s]
    · show zU (zU (zU (zU R (5 + (R 1).toNat) e) (15 + (R 1).toNat) m) 25 (zOr (R 25) (zSh 1 (R 1)))) 1 (R 1 + 1) (5 + k) = e
      rw [ht, zU_n _ _ (show 5 + k ≠ 1 by omega), zU_n _ _ (show 5 + k ≠ 25 by omega), zU_n _ _ (show 5 + k ≠ 15 + k by omega), zU_s]
  have u15 : zSgR R e m fg (15 + k) = m := by
    cases fg
    · show zU (zU (zU R (5 + (R 1).toNat) e) (15 + (R 1).toNat) m) 1 (R 1 + 1) (15 + k) = m
      rw [ht, zU_n _ _ (show 15 + k ≠ 1 by omega), zU_s]
    · show zU (zU (zU (zU R (5 + (R 1).toNat) e) (15 + (R 1).toNat) m) 25 (zOr (R 25) (zSh 1 (R 1)))) 1 (R 1 + 1) (15 + k) = m
      rw [ht, zU_n _ _ (show 15 + k ≠ 1 by omega), zU_n _ _ (show 15 + k ≠ 25 by omega), zU_s]
  have u25 : zSgR R e m fg 25 = zS5 R fg := by
    cases fg
    · show zU (zU (zU R (5 + (R 1).toNat) e) (15 + (R 1).toNat) m) 1 (R 1 + 1) 25 = R 25
      rw [ht, zU_n _ _ (show 25 ≠ 1 by omega), zU_n _ _ (show 25 ≠ 15 + k by omega), zU_n _ _ (show 25 ≠ 5 + k by omega)]
    · show zU (zU (zU (zU R (5 + (R 1).toNat) e) (15 + (R 1).toNat) m) 25 (zOr (R 25) (zSh 1 (R 1)))) 1 (R 1 + 1) 25 = zOr (R 25) (zSh 1 (R 1))
      rw [zU_n _ _ (show 25 ≠ 1 by omega), zU_s]
  rw [ht]
  refine ⟨pl4_sm h p1, ⟨⟨by rw [u1]; exact h2, by rw [u 2 (by omega) (by omega) (by omega) (by omega)]; exact (h.1 4 3 (by decide)).trans n2⟩, fun s hs => ?_, fun s hs => ?_⟩, ⟨by rw [u 0 (by omega) (by omega) (by omega) (by omega)]; exact (h.1 4 0 (by decide)).trans p3.1, by rw [u 4 (by omega) (by omega) (by omega) (by omega)]; exact (h.1 4 1 (by decide)).trans p3.2.1, by rw [u 3 (by omega) (by omega) (by omega) (by omega)]; exact (h.1 4 4 (by decide)).trans p3.2.2.1, by rw [u25]; exact h5⟩, fun s hs => ?_, fun s hs => ?_, fun s hs => ?_, fun s hs => ?_⟩
  · rw [u1] at hs
    by_cases e1 : s = k
    · rw [e1, hY, zU_s]
      exact ⟨rfl, hx⟩
    · rw [hYn s e1, zU_n _ _ e1]
      exact n3 s (by omega)
  · rw [u 2 (by omega) (by omega) (by omega) (by omega)] at hs
    rw [h.2.2.2.1 11 s (by decide), zU_n _ _ (show 10 + s ≠ k by omega)]
    exact n4 s hs
  · rw [u1] at hs
    by_cases e1 : s = k
    · rw [e1, h6, h7, u5, u15]
      exact ⟨rfl, rfl⟩
    · rw [h6n s e1, h7n s e1, u (5 + s) (by omega) (by omega) (by omega) (by omega), u (15 + s) (by omega) (by omega) (by omega) (by omega)]
      exact p4 s (by omega)
  · rw [h.2.2.1 8 s (by decide), h.2.2.1 9 s (by decide), u (26 + s) (by omega) (by omega) (by omega) (by omega), u (36 + s) (by omega) (by omega) (by omega) (by omega)]
    exact p5 s hs
  · rw [h.2.2.1 10 s (by decide), u (46 + s) (by omega) (by omega) (by omega) (by omega)]
    exact p6 s hs
  · rw [u 2 (by omega) (by omega) (by omega) (by omega)] at hs
    rw [h.2.2.1 12 s (by decide), h.2.2.1 13 s (by decide), u (82 + s) (by omega) (by omega) (by omega) (by omega), u (88 + s) (by omega) (by omega) (by omega) (by omega)]
    exact p7 s hs
theorem x_areLovers {kn : sKn} {w : sW} {R N : Nat → Int} (hw : wOk ZZ w) (hpC : pC R N w) (a b : Nat) (ha : a < 10) (hb : b < 10) : ∃ z : Int, fX6_areLovers kn [.ref 4, hI a, hI b] w = some (some (hI z), w, 0, 0) ∧ ((z = 1 ∧ zHas (R (36 + a)) b = 1) ∨ (z = 0 ∧ zHas (R (36 + a)) b = 0)) := by
  have hP := hpC.1
  have K : Tp (tX6_areLovers kn) (fun r => ∃ z : Int, r = (some (hI z), w, 0, 0) ∧ ((z = 1 ∧ zHas (R (36 + a)) b = 1) ∨ (z = 0 ∧ zHas (R (36 + a)) b = 0))) 0 (lv_args 0 [.ref 4, hI a, hI b], [], w, 0, 0) := by
    have l0 : hL (lv_args 0 [.ref 4, hI a, hI b]) (lv_args 0 [.ref 4, hI a, hI b]) := hL_ex rfl
    have o0 : hO [] w w := hO_rf hw
    refine h_iload rfl l0 rfl ?_
    refine h_intv k_n1 rfl ?_
    refine i_eq (kn := kn) (t := 0) (tgt := 27) (np := 5) rfl (by unfold R32; omega) (by unfold R32; omega) (fun e41 => ?_) (fun e41 => ?_)
    · omega
    · refine h_iload rfl l0 rfl ?_
      refine h_intv k_n1 rfl ?_
      refine i_eq (kn := kn) (t := 0) (tgt := 27) (np := 10) rfl (by unfold R32; omega) (by unfold R32; omega) (fun e42 => ?_) (fun e42 => ?_)
      · omega
      · refine h_aload rfl l0 rfl ?_
        refine h_getT rfl o0 (show ztau 4 = some 5 from rfl) frt_5_10 (fun kk43 hkk43 rkk43 => ?_)
        have ekk43 : kk43 = 9 := by
          have := (pl4_sm ((smW_rf [] w)) hP).2.2.2.2.1
          omega
        subst ekk43
        refine h_iload rfl l0 rfl ?_
        refine h_ialdj (a) rfl o0 ai_9 rfl (by omega) (by omega) (fun b44a b44b => ?_)
        rw [(hpC.2.2.2.2.1 a (by omega)).2] at b44a b44b ⊢
        refine h_iload rfl l0 rfl ?_
        refine x_ishr rfl ?_
        refine h_intv k_1 rfl ?_
        refine x_iand rfl ?_
        have hz : zAnd (zShr (R (36 + a)) b) 1 = 0 ∨ zAnd (zShr (R (36 + a)) b) 1 = 1 := zHas_01 _ _
        refine j_eq (kn := kn) (t := 0) (tgt := 27) (np := 23) rfl (by unfold R32; omega) (fun e45 => ?_) (fun e45 => ?_)
        · refine h_intv k_0 rfl ?_
          refine h_zret (by omega) rfl ?_
          exact ⟨_, rfl, by unfold zHas; omega⟩
        · refine h_intv k_1 rfl ?_
          refine h_goto rfl ?_
          refine h_zret (by omega) rfl ?_
          exact ⟨_, rfl, by unfold zHas; omega⟩
  obtain ⟨r, h1, b2, h2, h3⟩ := h_meth1 (nL := 3) rfl K
  rw [h2] at h1
  exact ⟨b2, h1, h3⟩
theorem x_cntP_l {kn : sKn} {w : sW} {R N : Nat → Int} (hw : wOk ZZ w) (hpC : pC R N w) (s : Int) (hs : R32 s) : ∀ (d k : Nat) (lv : List (Nat × Value)), k + d = 36 → hL lv [(0, .ref 4), (1, hI s), (2, hI (zCn R s k)), (3, hI k)] → Tp (tX6_countPlanksOf kn) (fun r => r = (some (hI (zCn R s 36)), w, 0, 0)) 4 (lv, [], w, 0, 0) := by
  have hP := hpC.1
  have hs1 := hs.1
  have hs2 := hs.2
  have o0 : hO [] w w := hO_rf hw
  intro d
  induction d with
  | zero =>
    intro k lv hkd l0
    refine h_iload rfl l0 rfl ?_
    refine h_intv k_36 rfl ?_
    refine i_ge (kn := kn) (t := 3) (tgt := 29) (np := 10) rfl (by unfold R32; omega) (by unfold R32; omega) (fun e41 => ?_) (fun e41 => ?_)
    · refine h_iload rfl l0 rfl ?_
      refine h_iret rfl ?_
      rw [show k = 36 by omega]
    · omega
  | succ d ih =>
    intro k lv hkd l0
    refine h_iload rfl l0 rfl ?_
    refine h_intv k_36 rfl ?_
    refine i_ge (kn := kn) (t := 3) (tgt := 29) (np := 10) rfl (by unfold R32; omega) (by unfold R32; omega) (fun e41 => ?_) (fun e41 => ?_)
    · omega
    · refine h_aload rfl l0 rfl ?_
      refine h_getT rfl o0 (show ztau 4 = some 5 from rfl) frt_5_11 (fun kk42 hkk42 rkk42 => ?_)
      have ekk42 : kk42 = 10 := by
        have := (pl4_sm ((smW_rf [] w)) hP).2.2.2.2.2.1
        omega
      subst ekk42
      refine h_iload rfl l0 rfl ?_
      refine h_ialdj (k) rfl o0 ai_10 rfl (by omega) (by omega) (fun b43a b43b => ?_)
      rw [hpC.2.2.2.2.2.1 k (by omega)] at b43a b43b ⊢
      refine h_iload rfl l0 rfl ?_
      refine i_ne (kn := kn) (t := 1) (tgt := 23) (np := 20) rfl (by unfold R32; omega) (by unfold R32; omega) (fun e44 => ?_) (fun e44 => ?_)
      · refine h_iincv k_1 rfl l0 rfl (fun vl45 l45 => ?_)
        refine h_goto rfl ?_
        have ec : zCn R s (k + 1) = zCn R s k := by
          show zCn R s k + (if R (46 + k) = s then 1 else 0) = _
          rw [if_neg (by omega), Int.add_zero]
        rw [← ec] at l45
        exact ih (k + 1) _ (by omega) l45
      · refine h_iincv k_1 rfl l0 rfl (fun vl46 l46 => ?_)
        refine h_iincv k_1 rfl l46 rfl (fun vl47 l47 => ?_)
        refine h_goto rfl ?_
        have ec : zCn R s (k + 1) = zCn R s k + 1 := by
          show zCn R s k + (if R (46 + k) = s then 1 else 0) = _
          rw [if_pos (by omega)]
        rw [← ec] at l47
        exact ih (k + 1) _ (by omega) l47
theorem x_countPlanksOf {kn : sKn} {w : sW} {R N : Nat → Int} (hw : wOk ZZ w) (hpC : pC R N w) (s : Int) (hs : R32 s) : fX6_countPlanksOf kn [.ref 4, hI s] w = some (some (hI (zCn R s 36)), w, 0, 0) := by
  have K : Tp (tX6_countPlanksOf kn) (fun r => r = (some (hI (zCn R s 36)), w, 0, 0)) 0 (lv_args 0 [.ref 4, hI s], [], w, 0, 0) := by
    have l0 : hL (lv_args 0 [.ref 4, hI s]) (lv_args 0 [.ref 4, hI s]) := hL_ex rfl
    have o0 : hO [] w w := hO_rf hw
    refine h_intv k_0 rfl ?_
    refine h_istore rfl l0 (fun vl41 l41 => ?_)
    refine h_intv k_0 rfl ?_
    refine h_istore rfl l41 (fun vl42 l42 => ?_)
    exact x_cntP_l hw hpC s hs 36 0 _ rfl l42
  obtain ⟨r, h1, h2⟩ := h_meth1 (nL := 4) rfl K
  rw [h2] at h1
  exact h1
theorem zCn_b (R : Nat → Int) (s : Int) : ∀ k, 0 ≤ zCn R s k ∧ zCn R s k ≤ (k : Int) := by
  intro k
  induction k with
  | zero => exact ⟨Int.le_refl 0, Int.le_refl 0⟩
  | succ k ih =>
    show 0 ≤ zCn R s k + (if R (46 + k) = s then 1 else 0) ∧ zCn R s k + (if R (46 + k) = s then 1 else 0) ≤ ((k + 1 : Nat) : Int)
    by_cases h : R (46 + k) = s
    · rw [if_pos h]
      omega
    · rw [if_neg h]
      omega
theorem x_readHeir {kn : sKn} {w0 : sW} {B : Nat → Int} {n : Nat} {S : tS} {R N : Nat → Int} {hr hk hp : Int} (hw : wOk ZZ w0) (hz : rpC B n (S, R, N, hr, hk, hp) w0) : ∃ (w' : sW) (b : Int), fX2_readHeir kn [.ref 3, .ref 1] w0 = some (some (hI b), w', 0, 0) ∧ hO dBT w0 w' ∧ smW eBT w0 w' ∧ gF w' 3 1 = gF w0 3 1 ∧ zOK (zHeir B n 900 (S, R, N, hr, hk, hp)) b (fun e => gF w' 1 11 = e.1 ∧ gF w' 1 12 = e.2) (fun Y => rpC B n Y w') := by
  obtain ⟨htk, hG, hpC, hf2, hf3, hf4⟩ := hz
  have htk : tkC B n 900 S w0 := htk
  have hG : tkG B n 900 S := hG
  have hpC : pC R N w0 := hpC
  have hf2 : gF w0 3 2 = hr := hf2
  have hf3 : gF w0 3 3 = hk := hf3
  have hf4 : gF w0 3 4 = hp := hf4
  have hP := hpC.1
  have hnb := nm4_b hpC.2.1 hw
  have gbS := tkG_b hG
  have htx := htk.1.2.2.2
  have K : Tp (tX2_readHeir kn) (fun r => ∃ (w' : sW) (b : Int), r = (some (hI b), w', 0, 0) ∧ hO dBT w0 w' ∧ smW eBT w0 w' ∧ gF w' 3 1 = gF w0 3 1 ∧ zOK (zHeir B n 900 (S, R, N, hr, hk, hp)) b (fun e => gF w' 1 11 = e.1 ∧ gF w' 1 12 = e.2) (fun Y => rpC B n Y w')) 0 (lv_args 0 [.ref 3, .ref 1], [], w0, 0, 0) := by
    have l0 : hL (lv_args 0 [.ref 3, .ref 1]) (lv_args 0 [.ref 3, .ref 1]) := hL_ex rfl
    have o0 : hO dBT w0 w0 := hO_rf hw
    have sm := smW_rf eBT w0
    refine h_aload rfl l0 rfl ?_
    obtain ⟨wA41, hf41, oA41', sA41, tA41⟩ := x_advance (kn := kn) htk.1 o0.1 (p := S.2.2.2.2) (tkG_n hG) (tkV_i htk.2).2.1
    have oA41 := hO_tr o0 (hO_mono dBT_t oA41')
    have tA41 : tkC B n 900 (nxT B n 900 S) wA41 := tA41
    refine h_W1 rfl o0 l0 ci_1 rfl rfl hf41 ?_
    refine h_aload rfl l0 rfl ?_
    refine h_aload rfl l0 rfl ?_
    refine h_getR rfl oA41 fr_3_0 ?_
    obtain ⟨wN42, bN42, hf42, oN42', sN42, hz42⟩ := x_takeSigner (kn := kn) oA41.1 tA41 (tkG_n (tkG_nx hG)) (pC_sm (smW_tr (smW_rf eTT _) (smW_mono (by decide) sA41)) (by decide) hpC).1 (pC_sm (smW_tr (smW_rf eTT _) (smW_mono (by decide) sA41)) (by decide) hpC).2.1 (tkG_X (tkG_nx hG))
    have oN42 := hO_tr oA41 (hO_mono dBT_k oN42')
    have gb42 := tkG_b (tkG_nx hG)
    rcases hr42 : zSig B n 900 R N (nxT B n 900 S) with eN42 | qN42
    · rw [hr42, zOK_l] at hz42
      obtain ⟨hb42, he142, he242⟩ := hz42
      subst hb42
      refine h_V2 rfl oA41 l0 ci_1 rfl rfl hf42 ?_
      refine j_ne (kn := kn) (t := 1) (tgt := 17) (np := 15) rfl (by unfold R32; omega) (fun e43 => ?_) (fun e43 => ?_)
      · omega
      · refine h_intv k_0 rfl ?_
        refine h_zret (by omega) rfl ?_
        refine ⟨_, _, rfl, oN42, smW_tr (smW_tr sm (smW_mono (by decide) sA41)) (smW_mono (by decide) sN42), by rw [sN42.1 3 1 (by decide), sA41.1 3 1 (by decide)], ?_⟩
        rw [show zHeir B n 900 (S, R, N, hr, hk, hp) = .inl eN42 from by
          unfold zHeir
          try dsimp only
          rw [hr42, zB_l]
          try dsimp only
          first | done | rfl, zOK_l]
        exact ⟨rfl, by rw [he142], by rw [he242]⟩
    · rw [hr42, zOK_r] at hz42
      obtain ⟨hb42, hv42, ha42, ht42, hlo42, hhi42⟩ := hz42
      subst hb42
      have G42 : tkG B n 900 qN42.2 := by
        rw [zSig_r hr42]
        exact tkG_nx (tkG_nx hG)
      obtain ⟨s42, hs42⟩ : ∃ s : Nat, qN42.1 = (s : Int) := ⟨qN42.1.toNat, by omega⟩
      have hn42 : qN42.1.toNat = s42 := by omega
      rw [hs42] at hv42
      refine h_V2 rfl oA41 l0 ci_1 rfl rfl hf42 ?_
      refine j_ne (kn := kn) (t := 1) (tgt := 17) (np := 15) rfl (by unfold R32; omega) (fun e44 => ?_) (fun e44 => ?_)
      · refine h_aload rfl l0 rfl ?_
        refine h_getI rfl oN42 fi_1_8 (fun b45a b45b => ?_)
        rw [hv42] at b45a b45b ⊢
        refine h_istore rfl l0 (fun vl46 l46 => ?_)
        refine h_aload rfl l46 rfl ?_
        refine h_getR rfl oN42 fr_3_0 ?_
        refine h_getT rfl oN42 (show ztau 4 = some 5 from rfl) frt_5_9 (fun kk47 hkk47 rkk47 => ?_)
        have ekk47 : kk47 = 8 := by
          have := (pl4_sm (smW_tr (smW_tr sm (smW_mono (by decide) sA41)) (smW_mono (by decide) sN42)) hP).2.2.2.1
          omega
        subst ekk47
        refine h_iload rfl l46 rfl ?_
        refine h_ialdj (s42) rfl oN42 ai_8 rfl (by omega) (by omega) (fun b48a b48b => ?_)
        rw [sN42.2.2.1 8 s42 (by decide), sA41.2.2.1 8 s42 (by decide), (hpC.2.2.2.2.1 s42 (by omega)).1] at b48a b48b ⊢
        refine h_intv k_n1 rfl ?_
        refine i_eq (kn := kn) (t := 0) (tgt := 45) (np := 35) rfl (by unfold R32; omega) (by unfold R32; omega) (fun e49 => ?_) (fun e49 => ?_)
        · refine h_aload rfl l46 rfl ?_
          refine h_aload rfl l46 rfl ?_
          refine h_getR rfl oN42 fr_3_0 ?_
          obtain ⟨wN50, bN50, hf50, oN50', sN50, hz50⟩ := x_takeSigner (kn := kn) oN42.1 ht42 (tkG_n G42) (pC_sm (smW_tr (smW_tr (smW_rf eTT _) (smW_mono (by decide) sA41)) (smW_mono (by decide) sN42)) (by decide) hpC).1 (pC_sm (smW_tr (smW_tr (smW_rf eTT _) (smW_mono (by decide) sA41)) (smW_mono (by decide) sN42)) (by decide) hpC).2.1 (tkG_X G42)
          have oN50 := hO_tr oN42 (hO_mono dBT_k oN50')
          have gb50 := tkG_b G42
          rcases hr50 : zSig B n 900 R N qN42.2 with eN50 | qN50
          · rw [hr50, zOK_l] at hz50
            obtain ⟨hb50, he150, he250⟩ := hz50
            subst hb50
            refine h_V2 rfl oN42 l46 ci_1 rfl rfl hf50 ?_
            refine j_ne (kn := kn) (t := 1) (tgt := 58) (np := 56) rfl (by unfold R32; omega) (fun e51 => ?_) (fun e51 => ?_)
            · omega
            · refine h_intv k_0 rfl ?_
              refine h_zret (by omega) rfl ?_
              refine ⟨_, _, rfl, oN50, smW_tr (smW_tr (smW_tr sm (smW_mono (by decide) sA41)) (smW_mono (by decide) sN42)) (smW_mono (by decide) sN50), by rw [sN50.1 3 1 (by decide), sN42.1 3 1 (by decide), sA41.1 3 1 (by decide)], ?_⟩
              rw [show zHeir B n 900 (S, R, N, hr, hk, hp) = .inl eN50 from by
                unfold zHeir
                try dsimp only
                rw [hr42, zB_r]
                try dsimp only
                rw [hn42, if_neg (by omega)]
                try dsimp only
                rw [hr50, zB_l]
                try dsimp only
                first | done | rfl, zOK_l]
              exact ⟨rfl, by rw [he150], by rw [he250]⟩
          · rw [hr50, zOK_r] at hz50
            obtain ⟨hb50, hv50, ha50, ht50, hlo50, hhi50⟩ := hz50
            subst hb50
            have G50 : tkG B n 900 qN50.2 := by
              rw [zSig_r hr50]
              exact tkG_nx G42
            obtain ⟨s50, hs50⟩ : ∃ s : Nat, qN50.1 = (s : Int) := ⟨qN50.1.toNat, by omega⟩
            have hn50 : qN50.1.toNat = s50 := by omega
            rw [hs50] at hv50
            refine h_V2 rfl oN42 l46 ci_1 rfl rfl hf50 ?_
            refine j_ne (kn := kn) (t := 1) (tgt := 58) (np := 56) rfl (by unfold R32; omega) (fun e52 => ?_) (fun e52 => ?_)
            · refine h_aload rfl l46 rfl ?_
              refine h_getI rfl oN50 fi_1_8 (fun b53a b53b => ?_)
              rw [hv50] at b53a b53b ⊢
              refine h_iload rfl l46 rfl ?_
              refine i_ne (kn := kn) (t := 1) (tgt := 76) (np := 66) rfl (by unfold R32; omega) (by unfold R32; omega) (fun e54 => ?_) (fun e54 => ?_)
              · refine h_aload rfl l46 rfl ?_
                refine h_getR rfl oN50 fr_3_0 ?_
                refine h_getT rfl oN50 (show ztau 4 = some 5 from rfl) frt_5_9 (fun kk55 hkk55 rkk55 => ?_)
                have ekk55 : kk55 = 8 := by
                  have := (pl4_sm (smW_tr (smW_tr (smW_tr sm (smW_mono (by decide) sA41)) (smW_mono (by decide) sN42)) (smW_mono (by decide) sN50)) hP).2.2.2.1
                  omega
                subst ekk55
                refine h_iload rfl l46 rfl ?_
                refine h_aload rfl l46 rfl ?_
                refine h_getI rfl oN50 fi_1_8 (fun b56a b56b => ?_)
                rw [hv50] at b56a b56b ⊢
                refine x_iast (s42) rfl oN50 ai_8 rfl rfl aw_8 (by omega) (by omega) (by omega) (by omega) (by omega) (by omega) (by unfold R32; omega) (fun w57 o57 q58a q58X q58F q58J q58Y q58R => ?_)
                refine h_intv k_1 rfl ?_
                refine h_zret (by omega) rfl ?_
                refine ⟨_, _, rfl, o57, smW_tr (smW_tr (smW_tr (smW_tr sm (smW_mono (by decide) sA41)) (smW_mono (by decide) sN42)) (smW_mono (by decide) sN50)) (sm_pX (by decide) q58X q58F q58J q58Y q58R), by rw [q58F 3 1, sN50.1 3 1 (by decide), sN42.1 3 1 (by decide), sA41.1 3 1 (by decide)], ?_⟩
                rw [show zHeir B n 900 (S, R, N, hr, hk, hp) = .inr (qN50.2, zU R (26 + s42) qN50.1, N, hr, hk, hp) from by
                  unfold zHeir
                  try dsimp only
                  rw [hr42, zB_r]
                  try dsimp only
                  rw [hn42, if_neg (by omega)]
                  try dsimp only
                  rw [hr50, zB_r]
                  try dsimp only
                  rw [if_neg (by omega)]
                  try dsimp only
                  first | done | rfl, zOK_r]
                exact ⟨rfl, (tkC_sm (smW_tr (smW_rf ePF _) (sm_pX (by decide) q58X q58F q58J q58Y q58R)) (by decide) ht50), G50, (pC_heir oN50.1 (sm_pX (by decide) q58X q58F q58J q58Y q58R) (by omega) (by rw [q58a, hs50]) (fun j hj => q58X 8 j (fun _ => hj)) (pC_sm (smW_tr (smW_tr (smW_tr (smW_rf eTT _) (smW_mono (by decide) sA41)) (smW_mono (by decide) sN42)) (smW_mono (by decide) sN50)) (by decide) hpC)), by rw [q58F 3 2, sN50.1 3 2 (by decide), sN42.1 3 2 (by decide), sA41.1 3 2 (by decide), hf2], by rw [q58F 3 3, sN50.1 3 3 (by decide), sN42.1 3 3 (by decide), sA41.1 3 3 (by decide), hf3], by rw [q58F 3 4, sN50.1 3 4 (by decide), sN42.1 3 4 (by decide), sA41.1 3 4 (by decide), hf4]⟩
              · refine h_aload rfl l46 rfl ?_
                refine h_intv k_3 rfl ?_
                refine h_aload rfl l46 rfl ?_
                refine h_getI rfl oN50 fi_1_10 (fun b59a b59b => ?_)
                rw [ha50] at b59a b59b ⊢
                obtain ⟨wR60, hf60, oR60', sR60, rA60, rB60⟩ := x_refuseAt (kn := kn) oN50.1 3 qN42.2.2.1 ⟨by omega, by omega⟩ ⟨by omega, by omega⟩
                have oR60 := hO_tr oN50 (hO_mono dBT_k oR60')
                refine h_V3 rfl oN50 l46 ci_1 rfl rfl hf60 ?_
                refine h_zret (by omega) rfl ?_
                refine ⟨_, _, rfl, oR60, smW_tr (smW_tr (smW_tr (smW_tr sm (smW_mono (by decide) sA41)) (smW_mono (by decide) sN42)) (smW_mono (by decide) sN50)) (smW_mono (by decide) sR60), by rw [sR60.1 3 1 (by decide), sN50.1 3 1 (by decide), sN42.1 3 1 (by decide), sA41.1 3 1 (by decide)], ?_⟩
                rw [show zHeir B n 900 (S, R, N, hr, hk, hp) = .inl (3, qN42.2.2.1) from by
                  unfold zHeir
                  try dsimp only
                  rw [hr42, zB_r]
                  try dsimp only
                  rw [hn42, if_neg (by omega)]
                  try dsimp only
                  rw [hr50, zB_r]
                  try dsimp only
                  rw [if_pos (by omega)]
                  try dsimp only
                  first | done | rfl, zOK_l]
                exact ⟨rfl, by rw [rA60], by rw [rB60]⟩
            · omega
        · refine h_aload rfl l46 rfl ?_
          refine h_intv k_3 rfl ?_
          refine h_aload rfl l46 rfl ?_
          refine h_getI rfl oN42 fi_1_10 (fun b61a b61b => ?_)
          rw [ha42] at b61a b61b ⊢
          obtain ⟨wR62, hf62, oR62', sR62, rA62, rB62⟩ := x_refuseAt (kn := kn) oN42.1 3 ((nxT B n 900 S).2.1) ⟨by omega, by omega⟩ ⟨by omega, by omega⟩
          have oR62 := hO_tr oN42 (hO_mono dBT_k oR62')
          refine h_V3 rfl oN42 l46 ci_1 rfl rfl hf62 ?_
          refine h_zret (by omega) rfl ?_
          refine ⟨_, _, rfl, oR62, smW_tr (smW_tr (smW_tr sm (smW_mono (by decide) sA41)) (smW_mono (by decide) sN42)) (smW_mono (by decide) sR62), by rw [sR62.1 3 1 (by decide), sN42.1 3 1 (by decide), sA41.1 3 1 (by decide)], ?_⟩
          rw [show zHeir B n 900 (S, R, N, hr, hk, hp) = .inl (3, ((nxT B n 900 S).2.1)) from by
            unfold zHeir
            try dsimp only
            rw [hr42, zB_r]
            try dsimp only
            rw [hn42, if_pos (by omega)]
            try dsimp only
            first | done | rfl, zOK_l]
          exact ⟨rfl, by rw [rA62], by rw [rB62]⟩
      · omega
  obtain ⟨r, h1, w2, b, h2, h3⟩ := h_meth1 (nL := 3) rfl K
  rw [h2] at h1
  exact ⟨w2, b, h1, h3⟩
theorem x_readLovers {kn : sKn} {w0 : sW} {B : Nat → Int} {n : Nat} {S : tS} {R N : Nat → Int} {hr hk hp : Int} (hw : wOk ZZ w0) (h38 : R 3 ≤ 8) (hz : rpC B n (S, R, N, hr, hk, hp) w0) : ∃ (w' : sW) (b : Int), fX2_readLovers kn [.ref 3, .ref 1] w0 = some (some (hI b), w', 0, 0) ∧ hO dBT w0 w' ∧ smW eBT w0 w' ∧ gF w' 3 1 = gF w0 3 1 ∧ zOK (zLovers B n 900 (S, R, N, hr, hk, hp)) b (fun e => gF w' 1 11 = e.1 ∧ gF w' 1 12 = e.2) (fun Y => rpC B n Y w') := by
  obtain ⟨htk, hG, hpC, hf2, hf3, hf4⟩ := hz
  have htk : tkC B n 900 S w0 := htk
  have hG : tkG B n 900 S := hG
  have hpC : pC R N w0 := hpC
  have hf2 : gF w0 3 2 = hr := hf2
  have hf3 : gF w0 3 3 = hk := hf3
  have hf4 : gF w0 3 4 = hp := hf4
  have hP := hpC.1
  have hnb := nm4_b hpC.2.1 hw
  have gbS := tkG_b hG
  have htx := htk.1.2.2.2
  have K : Tp (tX2_readLovers kn) (fun r => ∃ (w' : sW) (b : Int), r = (some (hI b), w', 0, 0) ∧ hO dBT w0 w' ∧ smW eBT w0 w' ∧ gF w' 3 1 = gF w0 3 1 ∧ zOK (zLovers B n 900 (S, R, N, hr, hk, hp)) b (fun e => gF w' 1 11 = e.1 ∧ gF w' 1 12 = e.2) (fun Y => rpC B n Y w')) 0 (lv_args 0 [.ref 3, .ref 1], [], w0, 0, 0) := by
    have l0 : hL (lv_args 0 [.ref 3, .ref 1]) (lv_args 0 [.ref 3, .ref 1]) := hL_ex rfl
    have o0 : hO dBT w0 w0 := hO_rf hw
    have sm := smW_rf eBT w0
    refine h_aload rfl l0 rfl ?_
    refine h_getR rfl o0 fr_3_0 ?_
    refine h_getI rfl o0 fi_4_4 (fun b41a b41b => ?_)
    rw [hpC.2.2.1.2.2.1] at b41a b41b ⊢
    refine h_intv k_8 rfl ?_
    refine i_lt (kn := kn) (t := 2) (tgt := 18) (np := 12) rfl (by unfold R32; omega) (by unfold R32; omega) (fun e42 => ?_) (fun e42 => ?_)
    · refine h_aload rfl l0 rfl ?_
      obtain ⟨wA43, hf43, oA43', sA43, tA43⟩ := x_advance (kn := kn) htk.1 o0.1 (p := S.2.2.2.2) (tkG_n hG) (tkV_i htk.2).2.1
      have oA43 := hO_tr o0 (hO_mono dBT_t oA43')
      have tA43 : tkC B n 900 (nxT B n 900 S) wA43 := tA43
      refine h_W1 rfl o0 l0 ci_1 rfl rfl hf43 ?_
      refine h_aload rfl l0 rfl ?_
      refine h_aload rfl l0 rfl ?_
      refine h_getR rfl oA43 fr_3_0 ?_
      obtain ⟨wN44, bN44, hf44, oN44', sN44, hz44⟩ := x_takeSigner (kn := kn) oA43.1 tA43 (tkG_n (tkG_nx hG)) (pC_sm (smW_tr (smW_rf eTT _) (smW_mono (by decide) sA43)) (by decide) hpC).1 (pC_sm (smW_tr (smW_rf eTT _) (smW_mono (by decide) sA43)) (by decide) hpC).2.1 (tkG_X (tkG_nx hG))
      have oN44 := hO_tr oA43 (hO_mono dBT_k oN44')
      have gb44 := tkG_b (tkG_nx hG)
      rcases hr44 : zSig B n 900 R N (nxT B n 900 S) with eN44 | qN44
      · rw [hr44, zOK_l] at hz44
        obtain ⟨hb44, he144, he244⟩ := hz44
        subst hb44
        refine h_V2 rfl oA43 l0 ci_1 rfl rfl hf44 ?_
        refine j_ne (kn := kn) (t := 1) (tgt := 35) (np := 33) rfl (by unfold R32; omega) (fun e45 => ?_) (fun e45 => ?_)
        · omega
        · refine h_intv k_0 rfl ?_
          refine h_zret (by omega) rfl ?_
          refine ⟨_, _, rfl, oN44, smW_tr (smW_tr sm (smW_mono (by decide) sA43)) (smW_mono (by decide) sN44), by rw [sN44.1 3 1 (by decide), sA43.1 3 1 (by decide)], ?_⟩
          rw [show zLovers B n 900 (S, R, N, hr, hk, hp) = .inl eN44 from by
            unfold zLovers
            try dsimp only
            rw [if_neg (by omega)]
            try dsimp only
            rw [hr44, zB_l]
            try dsimp only
            first | done | rfl, zOK_l]
          exact ⟨rfl, by rw [he144], by rw [he244]⟩
      · rw [hr44, zOK_r] at hz44
        obtain ⟨hb44, hv44, ha44, ht44, hlo44, hhi44⟩ := hz44
        subst hb44
        have G44 : tkG B n 900 qN44.2 := by
          rw [zSig_r hr44]
          exact tkG_nx (tkG_nx hG)
        obtain ⟨s44, hs44⟩ : ∃ s : Nat, qN44.1 = (s : Int) := ⟨qN44.1.toNat, by omega⟩
        have hn44 : qN44.1.toNat = s44 := by omega
        rw [hs44] at hv44
        refine h_V2 rfl oA43 l0 ci_1 rfl rfl hf44 ?_
        refine j_ne (kn := kn) (t := 1) (tgt := 35) (np := 33) rfl (by unfold R32; omega) (fun e46 => ?_) (fun e46 => ?_)
        · refine h_aload rfl l0 rfl ?_
          refine h_getI rfl oN44 fi_1_8 (fun b47a b47b => ?_)
          rw [hv44] at b47a b47b ⊢
          refine h_istore rfl l0 (fun vl48 l48 => ?_)
          refine h_aload rfl l48 rfl ?_
          refine h_aload rfl l48 rfl ?_
          refine h_getR rfl oN44 fr_3_0 ?_
          obtain ⟨wN49, bN49, hf49, oN49', sN49, hz49⟩ := x_takeSigner (kn := kn) oN44.1 ht44 (tkG_n G44) (pC_sm (smW_tr (smW_tr (smW_rf eTT _) (smW_mono (by decide) sA43)) (smW_mono (by decide) sN44)) (by decide) hpC).1 (pC_sm (smW_tr (smW_tr (smW_rf eTT _) (smW_mono (by decide) sA43)) (smW_mono (by decide) sN44)) (by decide) hpC).2.1 (tkG_X G44)
          have oN49 := hO_tr oN44 (hO_mono dBT_k oN49')
          have gb49 := tkG_b G44
          rcases hr49 : zSig B n 900 R N qN44.2 with eN49 | qN49
          · rw [hr49, zOK_l] at hz49
            obtain ⟨hb49, he149, he249⟩ := hz49
            subst hb49
            refine h_V2 rfl oN44 l48 ci_1 rfl rfl hf49 ?_
            refine j_ne (kn := kn) (t := 1) (tgt := 53) (np := 51) rfl (by unfold R32; omega) (fun e50 => ?_) (fun e50 => ?_)
            · omega
            · refine h_intv k_0 rfl ?_
              refine h_zret (by omega) rfl ?_
              refine ⟨_, _, rfl, oN49, smW_tr (smW_tr (smW_tr sm (smW_mono (by decide) sA43)) (smW_mono (by decide) sN44)) (smW_mono (by decide) sN49), by rw [sN49.1 3 1 (by decide), sN44.1 3 1 (by decide), sA43.1 3 1 (by decide)], ?_⟩
              rw [show zLovers B n 900 (S, R, N, hr, hk, hp) = .inl eN49 from by
                unfold zLovers
                try dsimp only
                rw [if_neg (by omega)]
                try dsimp only
                rw [hr44, zB_r]
                try dsimp only
                rw [hr49, zB_l]
                try dsimp only
                first | done | rfl, zOK_l]
              exact ⟨rfl, by rw [he149], by rw [he249]⟩
          · rw [hr49, zOK_r] at hz49
            obtain ⟨hb49, hv49, ha49, ht49, hlo49, hhi49⟩ := hz49
            subst hb49
            have G49 : tkG B n 900 qN49.2 := by
              rw [zSig_r hr49]
              exact tkG_nx G44
            obtain ⟨s49, hs49⟩ : ∃ s : Nat, qN49.1 = (s : Int) := ⟨qN49.1.toNat, by omega⟩
            have hn49 : qN49.1.toNat = s49 := by omega
            rw [hs49] at hv49
            refine h_V2 rfl oN44 l48 ci_1 rfl rfl hf49 ?_
            refine j_ne (kn := kn) (t := 1) (tgt := 53) (np := 51) rfl (by unfold R32; omega) (fun e51 => ?_) (fun e51 => ?_)
            · refine h_aload rfl l48 rfl ?_
              refine h_getI rfl oN49 fi_1_8 (fun b52a b52b => ?_)
              rw [hv49] at b52a b52b ⊢
              refine h_istore rfl l48 (fun vl53 l53 => ?_)
              refine h_iload rfl l53 rfl ?_
              refine h_iload rfl l53 rfl ?_
              refine i_eq (kn := kn) (t := 0) (tgt := 75) (np := 63) rfl (by unfold R32; omega) (by unfold R32; omega) (fun e54 => ?_) (fun e54 => ?_)
              · refine h_aload rfl l53 rfl ?_
                refine h_intv k_3 rfl ?_
                refine h_aload rfl l53 rfl ?_
                refine h_getI rfl oN49 fi_1_10 (fun b55a b55b => ?_)
                rw [ha49] at b55a b55b ⊢
                obtain ⟨wR56, hf56, oR56', sR56, rA56, rB56⟩ := x_refuseAt (kn := kn) oN49.1 3 qN44.2.2.1 ⟨by omega, by omega⟩ ⟨by omega, by omega⟩
                have oR56 := hO_tr oN49 (hO_mono dBT_k oR56')
                refine h_V3 rfl oN49 l53 ci_1 rfl rfl hf56 ?_
                refine h_zret (by omega) rfl ?_
                refine ⟨_, _, rfl, oR56, smW_tr (smW_tr (smW_tr (smW_tr sm (smW_mono (by decide) sA43)) (smW_mono (by decide) sN44)) (smW_mono (by decide) sN49)) (smW_mono (by decide) sR56), by rw [sR56.1 3 1 (by decide), sN49.1 3 1 (by decide), sN44.1 3 1 (by decide), sA43.1 3 1 (by decide)], ?_⟩
                rw [show zLovers B n 900 (S, R, N, hr, hk, hp) = .inl (3, qN44.2.2.1) from by
                  unfold zLovers
                  try dsimp only
                  rw [if_neg (by omega)]
                  try dsimp only
                  rw [hr44, zB_r]
                  try dsimp only
                  rw [hr49, zB_r]
                  try dsimp only
                  rw [hn44, hn49, hs44, hs49, if_pos (by omega)]
                  try dsimp only
                  first | done | rfl, zOK_l]
                exact ⟨rfl, by rw [rA56], by rw [rB56]⟩
              · refine h_aload rfl l53 rfl ?_
                refine h_getR rfl oN49 fr_3_0 ?_
                refine h_iload rfl l53 rfl ?_
                refine h_iload rfl l53 rfl ?_
                obtain ⟨z57, hf57, hz57⟩ := x_areLovers (kn := kn) oN49.1 (pC_sm (smW_tr (smW_tr (smW_tr (smW_rf eTT _) (smW_mono (by decide) sA43)) (smW_mono (by decide) sN44)) (smW_mono (by decide) sN49)) (by decide) hpC) s44 s49 (by omega) (by omega)
                refine h_V3 rfl oN49 l53 ci_4 rfl rfl hf57 ?_
                refine j_eq (kn := kn) (t := 0) (tgt := 85) (np := 75) rfl (by unfold R32; omega) (fun e58 => ?_) (fun e58 => ?_)
                · refine h_aload rfl l53 rfl ?_
                  refine h_getR rfl oN49 fr_3_0 ?_
                  refine h_getT rfl oN49 (show ztau 4 = some 5 from rfl) frt_5_10 (fun kk59 hkk59 rkk59 => ?_)
                  have ekk59 : kk59 = 9 := by
                    have := (pl4_sm (smW_tr (smW_tr (smW_tr sm (smW_mono (by decide) sA43)) (smW_mono (by decide) sN44)) (smW_mono (by decide) sN49)) hP).2.2.2.2.1
                    omega
                  subst ekk59
                  refine h_iload rfl l53 rfl ?_
                  refine h_dup2 rfl rfl rfl ?_
                  refine h_ialdj (s44) rfl oN49 ai_9 rfl (by omega) (by omega) (fun b60a b60b => ?_)
                  rw [sN49.2.2.1 9 s44 (by decide), sN44.2.2.1 9 s44 (by decide), sA43.2.2.1 9 s44 (by decide), (hpC.2.2.2.2.1 s44 (by omega)).2] at b60a b60b ⊢
                  refine h_intv k_1 rfl ?_
                  refine h_iload rfl l53 rfl ?_
                  refine x_ishl rfl ?_
                  refine x_ior rfl ?_
                  refine x_iast (s44) rfl oN49 ai_9 rfl rfl aw_9 (by omega) (by omega) (by omega) (by omega) (zOr_R _ _).1 (zOr_R _ _).2 (zOr_R _ _) (fun w61 o61 q62a q62X q62F q62J q62Y q62R => ?_)
                  refine h_aload rfl l53 rfl ?_
                  refine h_getR rfl o61 fr_3_0 ?_
                  refine h_getT rfl o61 (show ztau 4 = some 5 from rfl) frt_5_10 (fun kk63 hkk63 rkk63 => ?_)
                  have ekk63 : kk63 = 9 := by
                    have := (pl4_sm (smW_tr (smW_tr (smW_tr (smW_tr sm (smW_mono (by decide) sA43)) (smW_mono (by decide) sN44)) (smW_mono (by decide) sN49)) (sm_pX (by decide) q62X q62F q62J q62Y q62R)) hP).2.2.2.2.1
                    omega
                  subst ekk63
                  refine h_iload rfl l53 rfl ?_
                  refine h_dup2 rfl rfl rfl ?_
                  refine h_ialdj (s49) rfl o61 ai_9 rfl (by omega) (by omega) (fun b64a b64b => ?_)
                  rw [q62X 9 s49 (fun _ => by omega), sN49.2.2.1 9 s49 (by decide), sN44.2.2.1 9 s49 (by decide), sA43.2.2.1 9 s49 (by decide), (hpC.2.2.2.2.1 s49 (by omega)).2] at b64a b64b ⊢
                  refine h_intv k_1 rfl ?_
                  refine h_iload rfl l53 rfl ?_
                  refine x_ishl rfl ?_
                  refine x_ior rfl ?_
                  refine x_iast (s49) rfl o61 ai_9 rfl rfl aw_9 (by omega) (by omega) (by omega) (by omega) (zOr_R _ _).1 (zOr_R _ _).2 (zOr_R _ _) (fun w65 o65 q66a q66X q66F q66J q66Y q66R => ?_)
                  refine h_aload rfl l53 rfl ?_
                  refine h_getR rfl o65 fr_3_0 ?_
                  refine h_dup rfl rfl ?_
                  refine h_getI rfl o65 fi_4_4 (fun b67a b67b => ?_)
                  rw [q66F 4 4, q62F 4 4, sN49.1 4 4 (by decide), sN44.1 4 4 (by decide), sA43.1 4 4 (by decide), hpC.2.2.1.2.2.1] at b67a b67b ⊢
                  refine h_intv k_1 rfl ?_
                  refine h_iadd rfl ?_
                  refine x_putI rfl o65 fi_4_4 rfl (by omega) (by omega) (fun w68 o68 q69a q69F q69X q69J q69Y q69R => ?_)
                  refine h_intv k_1 rfl ?_
                  refine h_zret (by omega) rfl ?_
                  refine ⟨_, _, rfl, o68, smW_tr (smW_tr (smW_tr (smW_tr (smW_tr (smW_tr sm (smW_mono (by decide) sA43)) (smW_mono (by decide) sN44)) (smW_mono (by decide) sN49)) (sm_pX (by decide) q62X q62F q62J q62Y q62R)) (sm_pX (by decide) q66X q66F q66J q66Y q66R)) (sm_pI (by decide) q69F q69X q69J q69Y q69R), by rw [q69F 3 1 (by decide), q66F 3 1, q62F 3 1, sN49.1 3 1 (by decide), sN44.1 3 1 (by decide), sA43.1 3 1 (by decide)], ?_⟩
                  rw [show zLovers B n 900 (S, R, N, hr, hk, hp) = .inr (qN49.2, zU (zU (zU R (36 + s44) (zOr (R (36 + s44)) (zSh 1 s49))) (36 + s49) (zOr (R (36 + s49)) (zSh 1 s44))) 3 (R 3 + 1), N, hr, hk, hp) from by
                    unfold zLovers
                    try dsimp only
                    rw [if_neg (by omega)]
                    try dsimp only
                    rw [hr44, zB_r]
                    try dsimp only
                    rw [hr49, zB_r]
                    try dsimp only
                    rw [hn44, hn49, hs44, hs49, if_neg (by omega)]
                    try dsimp only
                    first | done | rfl, zOK_r]
                  exact ⟨rfl, (tkC_sm (smW_tr (smW_tr (smW_tr (smW_rf ePF _) (sm_pX (by decide) q62X q62F q62J q62Y q62R)) (sm_pX (by decide) q66X q66F q66J q66Y q66R)) (sm_pI (by decide) q69F q69X q69J q69Y q69R)) (by decide) ht49), G49, (pC_lov oN49.1 (smW_tr (smW_tr (smW_tr (smW_rf [(2, 9, 0), (0, 4, 4)] _) (sm_pX (by decide) q62X q62F q62J q62Y q62R)) (sm_pX (by decide) q66X q66F q66J q66Y q66R)) (sm_pI (by decide) q69F q69X q69J q69Y q69R)) (by omega) (by omega) (by omega) (by rw [q69X 9 s44, q66X 9 s44 (fun _ => by omega), q62a]) (by rw [q69X 9 s49, q66a]) (fun j hj hj2 => by rw [q69X 9 j, q66X 9 j (fun _ => by omega), q62X 9 j (fun _ => by omega)]) (by rw [q69a]) (pC_sm (smW_tr (smW_tr (smW_tr (smW_rf eTT _) (smW_mono (by decide) sA43)) (smW_mono (by decide) sN44)) (smW_mono (by decide) sN49)) (by decide) hpC)), by rw [q69F 3 2 (by decide), q66F 3 2, q62F 3 2, sN49.1 3 2 (by decide), sN44.1 3 2 (by decide), sA43.1 3 2 (by decide), hf2], by rw [q69F 3 3 (by decide), q66F 3 3, q62F 3 3, sN49.1 3 3 (by decide), sN44.1 3 3 (by decide), sA43.1 3 3 (by decide), hf3], by rw [q69F 3 4 (by decide), q66F 3 4, q62F 3 4, sN49.1 3 4 (by decide), sN44.1 3 4 (by decide), sA43.1 3 4 (by decide), hf4]⟩
                · refine h_aload rfl l53 rfl ?_
                  refine h_intv k_3 rfl ?_
                  refine h_aload rfl l53 rfl ?_
                  refine h_getI rfl oN49 fi_1_10 (fun b70a b70b => ?_)
                  rw [ha49] at b70a b70b ⊢
                  obtain ⟨wR71, hf71, oR71', sR71, rA71, rB71⟩ := x_refuseAt (kn := kn) oN49.1 3 qN44.2.2.1 ⟨by omega, by omega⟩ ⟨by omega, by omega⟩
                  have oR71 := hO_tr oN49 (hO_mono dBT_k oR71')
                  refine h_V3 rfl oN49 l53 ci_1 rfl rfl hf71 ?_
                  refine h_zret (by omega) rfl ?_
                  refine ⟨_, _, rfl, oR71, smW_tr (smW_tr (smW_tr (smW_tr sm (smW_mono (by decide) sA43)) (smW_mono (by decide) sN44)) (smW_mono (by decide) sN49)) (smW_mono (by decide) sR71), by rw [sR71.1 3 1 (by decide), sN49.1 3 1 (by decide), sN44.1 3 1 (by decide), sA43.1 3 1 (by decide)], ?_⟩
                  rw [show zLovers B n 900 (S, R, N, hr, hk, hp) = .inl (3, qN44.2.2.1) from by
                    unfold zLovers
                    try dsimp only
                    rw [if_neg (by omega)]
                    try dsimp only
                    rw [hr44, zB_r]
                    try dsimp only
                    rw [hr49, zB_r]
                    try dsimp only
                    rw [hn44, hn49, hs44, hs49, if_pos (by omega)]
                    try dsimp only
                    first | done | rfl, zOK_l]
                  exact ⟨rfl, by rw [rA71], by rw [rB71]⟩
            · omega
        · omega
    · refine h_aload rfl l0 rfl ?_
      refine h_intv k_4 rfl ?_
      obtain ⟨wR72, hf72, oR72', sR72, rA72, rB72⟩ := x_refuse (kn := kn) o0.1 4 ⟨by omega, by omega⟩
      have oR72 := hO_tr o0 (hO_mono dBT_k oR72')
      rw [(tkV_i htk.2).1] at rB72
      refine h_V2 rfl o0 l0 ci_1 rfl rfl hf72 ?_
      refine h_zret (by omega) rfl ?_
      refine ⟨_, _, rfl, oR72, smW_tr sm (smW_mono (by decide) sR72), by rw [sR72.1 3 1 (by decide)], ?_⟩
      rw [show zLovers B n 900 (S, R, N, hr, hk, hp) = .inl (4, S.2.1) from by
        unfold zLovers
        try dsimp only
        rw [if_pos (by omega)]
        try dsimp only
        first | done | rfl, zOK_l]
      exact ⟨rfl, by rw [rA72], by rw [rB72]⟩
  obtain ⟨r, h1, w2, b, h2, h3⟩ := h_meth1 (nL := 4) rfl K
  rw [h2] at h1
  exact ⟨w2, b, h1, h3⟩
theorem x_readPlank {kn : sKn} {w0 : sW} {B : Nat → Int} {n : Nat} {S : tS} {R N : Nat → Int} {hr hk hp : Int} (hw : wOk ZZ w0) (hz : rpC B n (S, R, N, hr, hk, hp) w0) : ∃ (w' : sW) (b : Int), fX2_readPlank kn [.ref 3, .ref 1] w0 = some (some (hI b), w', 0, 0) ∧ hO dBT w0 w' ∧ smW eBT w0 w' ∧ gF w' 3 1 = gF w0 3 1 ∧ zOK (zPlank B n 900 (S, R, N, hr, hk, hp)) b (fun e => gF w' 1 11 = e.1 ∧ gF w' 1 12 = e.2) (fun Y => rpC B n Y w') := by
  obtain ⟨htk, hG, hpC, hf2, hf3, hf4⟩ := hz
  have htk : tkC B n 900 S w0 := htk
  have hG : tkG B n 900 S := hG
  have hpC : pC R N w0 := hpC
  have hf2 : gF w0 3 2 = hr := hf2
  have hf3 : gF w0 3 3 = hk := hf3
  have hf4 : gF w0 3 4 = hp := hf4
  have hP := hpC.1
  have hnb := nm4_b hpC.2.1 hw
  have gbS := tkG_b hG
  have htx := htk.1.2.2.2
  have K : Tp (tX2_readPlank kn) (fun r => ∃ (w' : sW) (b : Int), r = (some (hI b), w', 0, 0) ∧ hO dBT w0 w' ∧ smW eBT w0 w' ∧ gF w' 3 1 = gF w0 3 1 ∧ zOK (zPlank B n 900 (S, R, N, hr, hk, hp)) b (fun e => gF w' 1 11 = e.1 ∧ gF w' 1 12 = e.2) (fun Y => rpC B n Y w')) 0 (lv_args 0 [.ref 3, .ref 1], [], w0, 0, 0) := by
    have l0 : hL (lv_args 0 [.ref 3, .ref 1]) (lv_args 0 [.ref 3, .ref 1]) := hL_ex rfl
    have o0 : hO dBT w0 w0 := hO_rf hw
    have sm := smW_rf eBT w0
    refine h_aload rfl l0 rfl ?_
    obtain ⟨wA41, hf41, oA41', sA41, tA41⟩ := x_advance (kn := kn) htk.1 o0.1 (p := S.2.2.2.2) (tkG_n hG) (tkV_i htk.2).2.1
    have oA41 := hO_tr o0 (hO_mono dBT_t oA41')
    have tA41 : tkC B n 900 (nxT B n 900 S) wA41 := tA41
    refine h_W1 rfl o0 l0 ci_1 rfl rfl hf41 ?_
    refine h_aload rfl l0 rfl ?_
    refine h_aload rfl l0 rfl ?_
    refine h_getR rfl oA41 fr_3_0 ?_
    obtain ⟨wN42, bN42, hf42, oN42', sN42, hz42⟩ := x_takeSigner (kn := kn) oA41.1 tA41 (tkG_n (tkG_nx hG)) (pC_sm (smW_tr (smW_rf eTT _) (smW_mono (by decide) sA41)) (by decide) hpC).1 (pC_sm (smW_tr (smW_rf eTT _) (smW_mono (by decide) sA41)) (by decide) hpC).2.1 (tkG_X (tkG_nx hG))
    have oN42 := hO_tr oA41 (hO_mono dBT_k oN42')
    have gb42 := tkG_b (tkG_nx hG)
    rcases hr42 : zSig B n 900 R N (nxT B n 900 S) with eN42 | qN42
    · rw [hr42, zOK_l] at hz42
      obtain ⟨hb42, he142, he242⟩ := hz42
      subst hb42
      refine h_V2 rfl oA41 l0 ci_1 rfl rfl hf42 ?_
      refine j_ne (kn := kn) (t := 1) (tgt := 17) (np := 15) rfl (by unfold R32; omega) (fun e43 => ?_) (fun e43 => ?_)
      · omega
      · refine h_intv k_0 rfl ?_
        refine h_zret (by omega) rfl ?_
        refine ⟨_, _, rfl, oN42, smW_tr (smW_tr sm (smW_mono (by decide) sA41)) (smW_mono (by decide) sN42), by rw [sN42.1 3 1 (by decide), sA41.1 3 1 (by decide)], ?_⟩
        rw [show zPlank B n 900 (S, R, N, hr, hk, hp) = .inl eN42 from by
          unfold zPlank
          try dsimp only
          rw [hr42, zB_l]
          try dsimp only
          first | done | rfl, zOK_l]
        exact ⟨rfl, by rw [he142], by rw [he242]⟩
    · rw [hr42, zOK_r] at hz42
      obtain ⟨hb42, hv42, ha42, ht42, hlo42, hhi42⟩ := hz42
      subst hb42
      have G42 : tkG B n 900 qN42.2 := by
        rw [zSig_r hr42]
        exact tkG_nx (tkG_nx hG)
      obtain ⟨s42, hs42⟩ : ∃ s : Nat, qN42.1 = (s : Int) := ⟨qN42.1.toNat, by omega⟩
      have hn42 : qN42.1.toNat = s42 := by omega
      rw [hs42] at hv42
      refine h_V2 rfl oA41 l0 ci_1 rfl rfl hf42 ?_
      refine j_ne (kn := kn) (t := 1) (tgt := 17) (np := 15) rfl (by unfold R32; omega) (fun e44 => ?_) (fun e44 => ?_)
      · refine h_aload rfl l0 rfl ?_
        refine h_getI rfl oN42 fi_1_8 (fun b45a b45b => ?_)
        rw [hv42] at b45a b45b ⊢
        refine h_istore rfl l0 (fun vl46 l46 => ?_)
        refine h_aload rfl l46 rfl ?_
        refine h_getR rfl oN42 fr_3_0 ?_
        refine h_iload rfl l46 rfl ?_
        have hf47 := x_countPlanksOf (kn := kn) oN42.1 (pC_sm (smW_tr (smW_tr (smW_rf eTT _) (smW_mono (by decide) sA41)) (smW_mono (by decide) sN42)) (by decide) hpC) s42 ⟨by omega, by omega⟩
        have zb47 := zCn_b R s42 36
        refine h_V2 rfl oN42 l46 ci_4 rfl rfl hf47 ?_
        refine h_intv k_6 rfl ?_
        refine i_lt (kn := kn) (t := 2) (tgt := 45) (np := 35) rfl (by unfold R32; omega) (by unfold R32; omega) (fun e48 => ?_) (fun e48 => ?_)
        · refine h_aload rfl l46 rfl ?_
          refine h_intv k_0 rfl ?_
          refine h_aload rfl l46 rfl ?_
          refine h_getR rfl oN42 fr_3_0 ?_
          refine h_getI rfl oN42 fi_4_0 (fun b49a b49b => ?_)
          rw [sN42.1 4 0 (by decide), sA41.1 4 0 (by decide), hpC.2.2.1.1] at b49a b49b ⊢
          refine h_intv k_1 rfl ?_
          refine h_isub rfl ?_
          obtain ⟨wN50, bN50, hf50, oN50', sN50, hz50⟩ := x_takeNumber (kn := kn) oN42.1 ht42 (tkG_n G42) 0 (R 0 - 1) ⟨by omega, by omega⟩ ⟨by omega, by omega⟩
          have oN50 := hO_tr oN42 (hO_mono dBT_k oN50')
          have gb50 := tkG_b G42
          rcases hr50 : zNum B n 900 0 (R 0 - 1) qN42.2 with eN50 | qN50
          · rw [hr50, zOK_l] at hz50
            obtain ⟨hb50, he150, he250⟩ := hz50
            subst hb50
            refine h_V3 rfl oN42 l46 ci_1 rfl rfl hf50 ?_
            refine j_ne (kn := kn) (t := 1) (tgt := 64) (np := 62) rfl (by unfold R32; omega) (fun e51 => ?_) (fun e51 => ?_)
            · omega
            · refine h_intv k_0 rfl ?_
              refine h_zret (by omega) rfl ?_
              refine ⟨_, _, rfl, oN50, smW_tr (smW_tr (smW_tr sm (smW_mono (by decide) sA41)) (smW_mono (by decide) sN42)) (smW_mono (by decide) sN50), by rw [sN50.1 3 1 (by decide), sN42.1 3 1 (by decide), sA41.1 3 1 (by decide)], ?_⟩
              rw [show zPlank B n 900 (S, R, N, hr, hk, hp) = .inl eN50 from by
                unfold zPlank
                try dsimp only
                rw [hr42, zB_r]
                try dsimp only
                rw [hs42, if_neg (by omega)]
                try dsimp only
                rw [hr50, zB_l]
                try dsimp only
                first | done | rfl, zOK_l]
              exact ⟨rfl, by rw [he150], by rw [he250]⟩
          · rw [hr50, zOK_r] at hz50
            obtain ⟨hb50, hv50, ha50, ht50⟩ := hz50
            subst hb50
            obtain ⟨hq50, hlo50, hhi50⟩ := zNum_r hr50
            have G50 : tkG B n 900 qN50.2 := by
              rw [hq50]
              exact tkG_nx G42
            refine h_V3 rfl oN42 l46 ci_1 rfl rfl hf50 ?_
            refine j_ne (kn := kn) (t := 1) (tgt := 64) (np := 62) rfl (by unfold R32; omega) (fun e52 => ?_) (fun e52 => ?_)
            · refine h_aload rfl l46 rfl ?_
              refine h_getI rfl oN50 fi_1_8 (fun b53a b53b => ?_)
              rw [hv50] at b53a b53b ⊢
              refine h_istore rfl l46 (fun vl54 l54 => ?_)
              refine h_aload rfl l54 rfl ?_
              refine h_intv k_0 rfl ?_
              refine h_intv k_2 rfl ?_
              obtain ⟨wN55, bN55, hf55, oN55', sN55, hz55⟩ := x_takeNumber (kn := kn) oN50.1 ht50 (tkG_n G50) 0 2 ⟨by omega, by omega⟩ ⟨by omega, by omega⟩
              have oN55 := hO_tr oN50 (hO_mono dBT_k oN55')
              have gb55 := tkG_b G50
              rcases hr55 : zNum B n 900 0 2 qN50.2 with eN55 | qN55
              · rw [hr55, zOK_l] at hz55
                obtain ⟨hb55, he155, he255⟩ := hz55
                subst hb55
                refine h_V3 rfl oN50 l54 ci_1 rfl rfl hf55 ?_
                refine j_ne (kn := kn) (t := 1) (tgt := 80) (np := 78) rfl (by unfold R32; omega) (fun e56 => ?_) (fun e56 => ?_)
                · omega
                · refine h_intv k_0 rfl ?_
                  refine h_zret (by omega) rfl ?_
                  refine ⟨_, _, rfl, oN55, smW_tr (smW_tr (smW_tr (smW_tr sm (smW_mono (by decide) sA41)) (smW_mono (by decide) sN42)) (smW_mono (by decide) sN50)) (smW_mono (by decide) sN55), by rw [sN55.1 3 1 (by decide), sN50.1 3 1 (by decide), sN42.1 3 1 (by decide), sA41.1 3 1 (by decide)], ?_⟩
                  rw [show zPlank B n 900 (S, R, N, hr, hk, hp) = .inl eN55 from by
                    unfold zPlank
                    try dsimp only
                    rw [hr42, zB_r]
                    try dsimp only
                    rw [hs42, if_neg (by omega)]
                    try dsimp only
                    rw [hr50, zB_r]
                    try dsimp only
                    rw [hr55, zB_l]
                    try dsimp only
                    first | done | rfl, zOK_l]
                  exact ⟨rfl, by rw [he155], by rw [he255]⟩
              · rw [hr55, zOK_r] at hz55
                obtain ⟨hb55, hv55, ha55, ht55⟩ := hz55
                subst hb55
                obtain ⟨hq55, hlo55, hhi55⟩ := zNum_r hr55
                have G55 : tkG B n 900 qN55.2 := by
                  rw [hq55]
                  exact tkG_nx G50
                refine h_V3 rfl oN50 l54 ci_1 rfl rfl hf55 ?_
                refine j_ne (kn := kn) (t := 1) (tgt := 80) (np := 78) rfl (by unfold R32; omega) (fun e57 => ?_) (fun e57 => ?_)
                · refine h_intv k_3 rfl ?_
                  refine h_iload rfl l54 rfl ?_
                  refine h_imul rfl ?_
                  refine h_aload rfl l54 rfl ?_
                  refine h_getI rfl oN55 fi_1_8 (fun b58a b58b => ?_)
                  rw [hv55] at b58a b58b ⊢
                  refine h_iadd rfl ?_
                  refine h_istore rfl l54 (fun vl59 l59 => ?_)
                  refine h_aload rfl l59 rfl ?_
                  refine h_getR rfl oN55 fr_3_0 ?_
                  refine h_getT rfl oN55 (show ztau 4 = some 5 from rfl) frt_5_11 (fun kk60 hkk60 rkk60 => ?_)
                  have ekk60 : kk60 = 10 := by
                    have := (pl4_sm (smW_tr (smW_tr (smW_tr (smW_tr sm (smW_mono (by decide) sA41)) (smW_mono (by decide) sN42)) (smW_mono (by decide) sN50)) (smW_mono (by decide) sN55)) hP).2.2.2.2.2.1
                    omega
                  subst ekk60
                  obtain ⟨pl, hpl⟩ : ∃ pl : Nat, 3 * qN50.1 + qN55.1 = (pl : Int) := ⟨(3 * qN50.1 + qN55.1).toNat, by omega⟩
                  have hpn : (3 * qN50.1 + qN55.1).toNat = pl := by omega
                  refine h_iload rfl l59 rfl ?_
                  refine h_ialdj (pl) rfl oN55 ai_10 rfl (by omega) (by omega) (fun b61a b61b => ?_)
                  rw [sN55.2.2.1 10 pl (by decide), sN50.2.2.1 10 pl (by decide), sN42.2.2.1 10 pl (by decide), sA41.2.2.1 10 pl (by decide), hpC.2.2.2.2.2.1 pl (by omega)] at b61a b61b ⊢
                  refine h_intv k_n1 rfl ?_
                  refine i_eq (kn := kn) (t := 0) (tgt := 114) (np := 104) rfl (by unfold R32; omega) (by unfold R32; omega) (fun e62 => ?_) (fun e62 => ?_)
                  · refine h_aload rfl l59 rfl ?_
                    refine h_getR rfl oN55 fr_3_0 ?_
                    refine h_getT rfl oN55 (show ztau 4 = some 5 from rfl) frt_5_11 (fun kk63 hkk63 rkk63 => ?_)
                    have ekk63 : kk63 = 10 := by
                      have := (pl4_sm (smW_tr (smW_tr (smW_tr (smW_tr sm (smW_mono (by decide) sA41)) (smW_mono (by decide) sN42)) (smW_mono (by decide) sN50)) (smW_mono (by decide) sN55)) hP).2.2.2.2.2.1
                      omega
                    subst ekk63
                    refine h_iload rfl l59 rfl ?_
                    refine h_iload rfl l59 rfl ?_
                    refine x_iast (pl) rfl oN55 ai_10 rfl rfl aw_10 (by omega) (by omega) (by omega) (by omega) (by omega) (by omega) (by unfold R32; omega) (fun w64 o64 q65a q65X q65F q65J q65Y q65R => ?_)
                    refine h_aload rfl l59 rfl ?_
                    refine h_intv k_1 rfl ?_
                    refine x_putK (by rfl) rfl o64 fi_3_4 rfl (by omega) (by omega) (fun w66 o66 q67a q67F q67X q67J q67Y q67R => ?_)
                    refine h_intv k_1 rfl ?_
                    refine h_zret (by omega) rfl ?_
                    refine ⟨_, _, rfl, o66, smW_tr (smW_tr (smW_tr (smW_tr (smW_tr (smW_tr sm (smW_mono (by decide) sA41)) (smW_mono (by decide) sN42)) (smW_mono (by decide) sN50)) (smW_mono (by decide) sN55)) (sm_pX (by decide) q65X q65F q65J q65Y q65R)) (sm_pI (by decide) q67F q67X q67J q67Y q67R), by rw [q67F 3 1 (by decide), q65F 3 1, sN55.1 3 1 (by decide), sN50.1 3 1 (by decide), sN42.1 3 1 (by decide), sA41.1 3 1 (by decide)], ?_⟩
                    rw [show zPlank B n 900 (S, R, N, hr, hk, hp) = .inr (qN55.2, zU R (46 + pl) s42, N, hr, hk, 1) from by
                      unfold zPlank
                      try dsimp only
                      rw [hr42, zB_r]
                      try dsimp only
                      rw [hs42, if_neg (by omega)]
                      try dsimp only
                      rw [hr50, zB_r]
                      try dsimp only
                      rw [hr55, zB_r]
                      try dsimp only
                      rw [hpn, if_neg (by omega)]
                      try dsimp only
                      first | done | rfl, zOK_r]
                    exact ⟨rfl, (tkC_sm (smW_tr (smW_tr (smW_rf ePF _) (sm_pX (by decide) q65X q65F q65J q65Y q65R)) (sm_pI (by decide) q67F q67X q67J q67Y q67R)) (by decide) ht55), G55, (pC_sm (smW_tr (smW_rf [(0, 3, 2), (0, 3, 3), (0, 3, 4)] _) (sm_pI (by decide) q67F q67X q67J q67Y q67R)) (by decide) (pC_own oN55.1 (sm_pX (by decide) q65X q65F q65J q65Y q65R) (by omega) q65a (fun j hj => q65X 10 j (fun _ => hj)) (pC_sm (smW_tr (smW_tr (smW_tr (smW_tr (smW_rf eTT _) (smW_mono (by decide) sA41)) (smW_mono (by decide) sN42)) (smW_mono (by decide) sN50)) (smW_mono (by decide) sN55)) (by decide) hpC))), by rw [q67F 3 2 (by decide), q65F 3 2, sN55.1 3 2 (by decide), sN50.1 3 2 (by decide), sN42.1 3 2 (by decide), sA41.1 3 2 (by decide), hf2], by rw [q67F 3 3 (by decide), q65F 3 3, sN55.1 3 3 (by decide), sN50.1 3 3 (by decide), sN42.1 3 3 (by decide), sA41.1 3 3 (by decide), hf3], by rw [q67a]⟩
                  · refine h_aload rfl l59 rfl ?_
                    refine h_intv k_3 rfl ?_
                    refine h_aload rfl l59 rfl ?_
                    refine h_getI rfl oN55 fi_1_10 (fun b68a b68b => ?_)
                    rw [ha55] at b68a b68b ⊢
                    obtain ⟨wR69, hf69, oR69', sR69, rA69, rB69⟩ := x_refuseAt (kn := kn) oN55.1 3 qN50.2.2.1 ⟨by omega, by omega⟩ ⟨by omega, by omega⟩
                    have oR69 := hO_tr oN55 (hO_mono dBT_k oR69')
                    refine h_V3 rfl oN55 l59 ci_1 rfl rfl hf69 ?_
                    refine h_zret (by omega) rfl ?_
                    refine ⟨_, _, rfl, oR69, smW_tr (smW_tr (smW_tr (smW_tr (smW_tr sm (smW_mono (by decide) sA41)) (smW_mono (by decide) sN42)) (smW_mono (by decide) sN50)) (smW_mono (by decide) sN55)) (smW_mono (by decide) sR69), by rw [sR69.1 3 1 (by decide), sN55.1 3 1 (by decide), sN50.1 3 1 (by decide), sN42.1 3 1 (by decide), sA41.1 3 1 (by decide)], ?_⟩
                    rw [show zPlank B n 900 (S, R, N, hr, hk, hp) = .inl (3, qN50.2.2.1) from by
                      unfold zPlank
                      try dsimp only
                      rw [hr42, zB_r]
                      try dsimp only
                      rw [hs42, if_neg (by omega)]
                      try dsimp only
                      rw [hr50, zB_r]
                      try dsimp only
                      rw [hr55, zB_r]
                      try dsimp only
                      rw [hpn, if_pos (by omega)]
                      try dsimp only
                      first | done | rfl, zOK_l]
                    exact ⟨rfl, by rw [rA69], by rw [rB69]⟩
                · omega
            · omega
        · refine h_aload rfl l46 rfl ?_
          refine h_intv k_3 rfl ?_
          refine h_aload rfl l46 rfl ?_
          refine h_getI rfl oN42 fi_1_10 (fun b70a b70b => ?_)
          rw [ha42] at b70a b70b ⊢
          obtain ⟨wR71, hf71, oR71', sR71, rA71, rB71⟩ := x_refuseAt (kn := kn) oN42.1 3 ((nxT B n 900 S).2.1) ⟨by omega, by omega⟩ ⟨by omega, by omega⟩
          have oR71 := hO_tr oN42 (hO_mono dBT_k oR71')
          refine h_V3 rfl oN42 l46 ci_1 rfl rfl hf71 ?_
          refine h_zret (by omega) rfl ?_
          refine ⟨_, _, rfl, oR71, smW_tr (smW_tr (smW_tr sm (smW_mono (by decide) sA41)) (smW_mono (by decide) sN42)) (smW_mono (by decide) sR71), by rw [sR71.1 3 1 (by decide), sN42.1 3 1 (by decide), sA41.1 3 1 (by decide)], ?_⟩
          rw [show zPlank B n 900 (S, R, N, hr, hk, hp) = .inl (3, ((nxT B n 900 S).2.1)) from by
            unfold zPlank
            try dsimp only
            rw [hr42, zB_r]
            try dsimp only
            rw [hs42, if_pos (by omega)]
            try dsimp only
            first | done | rfl, zOK_l]
          exact ⟨rfl, by rw [rA71], by rw [rB71]⟩
      · omega
  obtain ⟨r, h1, w2, b, h2, h3⟩ := h_meth1 (nL := 5) rfl K
  rw [h2] at h1
  exact ⟨w2, b, h1, h3⟩
theorem x_readLoad {kn : sKn} {w0 : sW} {B : Nat → Int} {n : Nat} {S : tS} {R N : Nat → Int} {hr hk hp : Int} (hw : wOk ZZ w0) (hz : rpC B n (S, R, N, hr, hk, hp) w0) : ∃ (w' : sW) (b : Int), fX2_readLoad kn [.ref 3, .ref 1] w0 = some (some (hI b), w', 0, 0) ∧ hO dBT w0 w' ∧ smW eBT w0 w' ∧ gF w' 3 1 = gF w0 3 1 ∧ zOK (zLoad B n 900 (S, R, N, hr, hk, hp)) b (fun e => gF w' 1 11 = e.1 ∧ gF w' 1 12 = e.2) (fun Y => rpC B n Y w') := by
  obtain ⟨htk, hG, hpC, hf2, hf3, hf4⟩ := hz
  have htk : tkC B n 900 S w0 := htk
  have hG : tkG B n 900 S := hG
  have hpC : pC R N w0 := hpC
  have hf2 : gF w0 3 2 = hr := hf2
  have hf3 : gF w0 3 3 = hk := hf3
  have hf4 : gF w0 3 4 = hp := hf4
  have hP := hpC.1
  have hnb := nm4_b hpC.2.1 hw
  have gbS := tkG_b hG
  have htx := htk.1.2.2.2
  obtain ⟨l, hl⟩ : ∃ l : Nat, R 2 = (l : Int) := ⟨(R 2).toNat, by omega⟩
  have K : Tp (tX2_readLoad kn) (fun r => ∃ (w' : sW) (b : Int), r = (some (hI b), w', 0, 0) ∧ hO dBT w0 w' ∧ smW eBT w0 w' ∧ gF w' 3 1 = gF w0 3 1 ∧ zOK (zLoad B n 900 (S, R, N, hr, hk, hp)) b (fun e => gF w' 1 11 = e.1 ∧ gF w' 1 12 = e.2) (fun Y => rpC B n Y w')) 0 (lv_args 0 [.ref 3, .ref 1], [], w0, 0, 0) := by
    have l0 : hL (lv_args 0 [.ref 3, .ref 1]) (lv_args 0 [.ref 3, .ref 1]) := hL_ex rfl
    have o0 : hO dBT w0 w0 := hO_rf hw
    have sm := smW_rf eBT w0
    refine h_aload rfl l0 rfl ?_
    refine h_getR rfl o0 fr_3_0 ?_
    refine h_getI rfl o0 fi_4_3 (fun b41a b41b => ?_)
    rw [hpC.2.1.1.2] at b41a b41b ⊢
    refine h_istore rfl l0 (fun vl42 l42 => ?_)
    refine h_iload rfl l42 rfl ?_
    refine h_intv k_6 rfl ?_
    refine i_lt (kn := kn) (t := 2) (tgt := 20) (np := 14) rfl (by unfold R32; omega) (by unfold R32; omega) (fun e43 => ?_) (fun e43 => ?_)
    · refine h_aload rfl l42 rfl ?_
      obtain ⟨wA44, hf44, oA44', sA44, tA44⟩ := x_advance (kn := kn) htk.1 o0.1 (p := S.2.2.2.2) (tkG_n hG) (tkV_i htk.2).2.1
      have oA44 := hO_tr o0 (hO_mono dBT_t oA44')
      have tA44 : tkC B n 900 (nxT B n 900 S) wA44 := tA44
      refine h_W1 rfl o0 l42 ci_1 rfl rfl hf44 ?_
      refine h_aload rfl l42 rfl ?_
      refine h_aload rfl l42 rfl ?_
      refine h_getR rfl oA44 fr_3_0 ?_
      obtain ⟨wN45, bN45, hf45, oN45', sN45, hz45⟩ := x_takeNewName (kn := kn) oA44.1 tA44 (tkG_n (tkG_nx hG)) (pC_sm (smW_tr (smW_rf eTT _) (smW_mono (by decide) sA44)) (by decide) hpC).1 (pC_sm (smW_tr (smW_rf eTT _) (smW_mono (by decide) sA44)) (by decide) hpC).2.1 (tkG_X (tkG_nx hG))
      have oN45 := hO_tr oA44 (hO_mono dBT_k oN45')
      have gb45 := tkG_b (tkG_nx hG)
      rcases hr45 : zNew B n 900 R N (nxT B n 900 S) with eN45 | qN45
      · rw [hr45, zOK_l] at hz45
        obtain ⟨hb45, he145, he245⟩ := hz45
        subst hb45
        refine h_V2 rfl oA44 l42 ci_1 rfl rfl hf45 ?_
        refine j_ne (kn := kn) (t := 1) (tgt := 37) (np := 35) rfl (by unfold R32; omega) (fun e46 => ?_) (fun e46 => ?_)
        · omega
        · refine h_intv k_0 rfl ?_
          refine h_zret (by omega) rfl ?_
          refine ⟨_, _, rfl, oN45, smW_tr (smW_tr sm (smW_mono (by decide) sA44)) (smW_mono (by decide) sN45), by rw [sN45.1 3 1 (by decide), sA44.1 3 1 (by decide)], ?_⟩
          rw [show zLoad B n 900 (S, R, N, hr, hk, hp) = .inl eN45 from by
            unfold zLoad
            try dsimp only
            rw [if_neg (by omega)]
            try dsimp only
            rw [hr45, zB_l]
            try dsimp only
            first | done | rfl, zOK_l]
          exact ⟨rfl, by rw [he145], by rw [he245]⟩
      · rw [hr45, zOK_r] at hz45
        obtain ⟨hb45, hv45, ht45, hlo45, hhi45⟩ := hz45
        subst hb45
        have G45 : tkG B n 900 qN45.2 := by
          rw [zNew_r hr45]
          exact tkG_nx (tkG_nx hG)
        refine h_V2 rfl oA44 l42 ci_1 rfl rfl hf45 ?_
        refine j_ne (kn := kn) (t := 1) (tgt := 37) (np := 35) rfl (by unfold R32; omega) (fun e47 => ?_) (fun e47 => ?_)
        · refine h_aload rfl l42 rfl ?_
          refine h_getR rfl oN45 fr_3_0 ?_
          refine h_getT rfl oN45 (show ztau 4 = some 5 from rfl) frt_5_12 (fun kk48 hkk48 rkk48 => ?_)
          have ekk48 : kk48 = 11 := by
            have := (pl4_sm (smW_tr (smW_tr sm (smW_mono (by decide) sA44)) (smW_mono (by decide) sN45)) hP).2.2.2.2.2.2.1
            omega
          subst ekk48
          refine h_iload rfl l42 rfl ?_
          refine h_aload rfl l42 rfl ?_
          refine h_getJv rfl oN45 fj_1_9 ?_
          rw [hv45]
          refine x_last (l) rfl oN45 aj_11 rfl rfl (by omega) (by omega) (fun w49 o49 q50a q50Y q50F q50X q50J q50R => ?_)
          refine h_aload rfl l42 rfl ?_
          refine h_intv k_1 rfl ?_
          refine h_intv k_300 rfl ?_
          obtain ⟨wN51, bN51, hf51, oN51', sN51, hz51⟩ := x_takeNumber (kn := kn) o49.1 (tkC_sm (smW_tr (smW_rf ePF _) (sm_pY (by decide) q50Y q50F q50X q50J q50R)) (by decide) ht45) (tkG_n G45) 1 300 ⟨by omega, by omega⟩ ⟨by omega, by omega⟩
          have oN51 := hO_tr o49 (hO_mono dBT_k oN51')
          have gb51 := tkG_b G45
          rcases hr51 : zNum B n 900 1 300 qN45.2 with eN51 | qN51
          · rw [hr51, zOK_l] at hz51
            obtain ⟨hb51, he151, he251⟩ := hz51
            subst hb51
            refine h_V3 rfl o49 l42 ci_1 rfl rfl hf51 ?_
            refine j_ne (kn := kn) (t := 1) (tgt := 63) (np := 61) rfl (by unfold R32; omega) (fun e52 => ?_) (fun e52 => ?_)
            · omega
            · refine h_intv k_0 rfl ?_
              refine h_zret (by omega) rfl ?_
              refine ⟨_, _, rfl, oN51, smW_tr (smW_tr (smW_tr (smW_tr sm (smW_mono (by decide) sA44)) (smW_mono (by decide) sN45)) (sm_pY (by decide) q50Y q50F q50X q50J q50R)) (smW_mono (by decide) sN51), by rw [sN51.1 3 1 (by decide), q50F 3 1, sN45.1 3 1 (by decide), sA44.1 3 1 (by decide)], ?_⟩
              rw [show zLoad B n 900 (S, R, N, hr, hk, hp) = .inl eN51 from by
                unfold zLoad
                try dsimp only
                rw [if_neg (by omega)]
                try dsimp only
                rw [hr45, zB_r]
                try dsimp only
                rw [hr51, zB_l]
                try dsimp only
                first | done | rfl, zOK_l]
              exact ⟨rfl, by rw [he151], by rw [he251]⟩
          · rw [hr51, zOK_r] at hz51
            obtain ⟨hb51, hv51, ha51, ht51⟩ := hz51
            subst hb51
            obtain ⟨hq51, hlo51, hhi51⟩ := zNum_r hr51
            have G51 : tkG B n 900 qN51.2 := by
              rw [hq51]
              exact tkG_nx G45
            refine h_V3 rfl o49 l42 ci_1 rfl rfl hf51 ?_
            refine j_ne (kn := kn) (t := 1) (tgt := 63) (np := 61) rfl (by unfold R32; omega) (fun e53 => ?_) (fun e53 => ?_)
            · refine h_aload rfl l42 rfl ?_
              refine h_getR rfl oN51 fr_3_0 ?_
              refine h_getT rfl oN51 (show ztau 4 = some 5 from rfl) frt_5_13 (fun kk54 hkk54 rkk54 => ?_)
              have ekk54 : kk54 = 12 := by
                have := (pl4_sm (smW_tr (smW_tr (smW_tr (smW_tr sm (smW_mono (by decide) sA44)) (smW_mono (by decide) sN45)) (sm_pY (by decide) q50Y q50F q50X q50J q50R)) (smW_mono (by decide) sN51)) hP).2.2.2.2.2.2.2.1
                omega
              subst ekk54
              refine h_iload rfl l42 rfl ?_
              refine h_aload rfl l42 rfl ?_
              refine h_getI rfl oN51 fi_1_8 (fun b55a b55b => ?_)
              rw [hv51] at b55a b55b ⊢
              refine x_iast (l) rfl oN51 ai_12 rfl rfl aw_12 (by omega) (by omega) (by omega) (by omega) (by omega) (by omega) (by unfold R32; omega) (fun w56 o56 q57a q57X q57F q57J q57Y q57R => ?_)
              refine h_aload rfl l42 rfl ?_
              refine h_intv k_1 rfl ?_
              refine h_intv k_3 rfl ?_
              obtain ⟨wN58, bN58, hf58, oN58', sN58, hz58⟩ := x_takeNumber (kn := kn) o56.1 (tkC_sm (smW_tr (smW_rf ePF _) (sm_pX (by decide) q57X q57F q57J q57Y q57R)) (by decide) ht51) (tkG_n G51) 1 3 ⟨by omega, by omega⟩ ⟨by omega, by omega⟩
              have oN58 := hO_tr o56 (hO_mono dBT_k oN58')
              have gb58 := tkG_b G51
              rcases hr58 : zNum B n 900 1 3 qN51.2 with eN58 | qN58
              · rw [hr58, zOK_l] at hz58
                obtain ⟨hb58, he158, he258⟩ := hz58
                subst hb58
                refine h_V3 rfl o56 l42 ci_1 rfl rfl hf58 ?_
                refine j_ne (kn := kn) (t := 1) (tgt := 87) (np := 85) rfl (by unfold R32; omega) (fun e59 => ?_) (fun e59 => ?_)
                · omega
                · refine h_intv k_0 rfl ?_
                  refine h_zret (by omega) rfl ?_
                  refine ⟨_, _, rfl, oN58, smW_tr (smW_tr (smW_tr (smW_tr (smW_tr (smW_tr sm (smW_mono (by decide) sA44)) (smW_mono (by decide) sN45)) (sm_pY (by decide) q50Y q50F q50X q50J q50R)) (smW_mono (by decide) sN51)) (sm_pX (by decide) q57X q57F q57J q57Y q57R)) (smW_mono (by decide) sN58), by rw [sN58.1 3 1 (by decide), q57F 3 1, sN51.1 3 1 (by decide), q50F 3 1, sN45.1 3 1 (by decide), sA44.1 3 1 (by decide)], ?_⟩
                  rw [show zLoad B n 900 (S, R, N, hr, hk, hp) = .inl eN58 from by
                    unfold zLoad
                    try dsimp only
                    rw [if_neg (by omega)]
                    try dsimp only
                    rw [hr45, zB_r]
                    try dsimp only
                    rw [hr51, zB_r]
                    try dsimp only
                    rw [hr58, zB_l]
                    try dsimp only
                    first | done | rfl, zOK_l]
                  exact ⟨rfl, by rw [he158], by rw [he258]⟩
              · rw [hr58, zOK_r] at hz58
                obtain ⟨hb58, hv58, ha58, ht58⟩ := hz58
                subst hb58
                obtain ⟨hq58, hlo58, hhi58⟩ := zNum_r hr58
                have G58 : tkG B n 900 qN58.2 := by
                  rw [hq58]
                  exact tkG_nx G51
                refine h_V3 rfl o56 l42 ci_1 rfl rfl hf58 ?_
                refine j_ne (kn := kn) (t := 1) (tgt := 87) (np := 85) rfl (by unfold R32; omega) (fun e60 => ?_) (fun e60 => ?_)
                · refine h_aload rfl l42 rfl ?_
                  refine h_getR rfl oN58 fr_3_0 ?_
                  refine h_getT rfl oN58 (show ztau 4 = some 5 from rfl) frt_5_14 (fun kk61 hkk61 rkk61 => ?_)
                  have ekk61 : kk61 = 13 := by
                    have := (pl4_sm (smW_tr (smW_tr (smW_tr (smW_tr (smW_tr (smW_tr sm (smW_mono (by decide) sA44)) (smW_mono (by decide) sN45)) (sm_pY (by decide) q50Y q50F q50X q50J q50R)) (smW_mono (by decide) sN51)) (sm_pX (by decide) q57X q57F q57J q57Y q57R)) (smW_mono (by decide) sN58)) hP).2.2.2.2.2.2.2.2
                    omega
                  subst ekk61
                  refine h_iload rfl l42 rfl ?_
                  refine h_aload rfl l42 rfl ?_
                  refine h_getI rfl oN58 fi_1_8 (fun b62a b62b => ?_)
                  rw [hv58] at b62a b62b ⊢
                  refine x_iast (l) rfl oN58 ai_13 rfl rfl aw_13 (by omega) (by omega) (by omega) (by omega) (by omega) (by omega) (by unfold R32; omega) (fun w63 o63 q64a q64X q64F q64J q64Y q64R => ?_)
                  refine h_aload rfl l42 rfl ?_
                  refine h_getR rfl o63 fr_3_0 ?_
                  refine h_dup rfl rfl ?_
                  refine h_getI rfl o63 fi_4_3 (fun b65a b65b => ?_)
                  rw [q64F 4 3, sN58.1 4 3 (by decide), q57F 4 3, sN51.1 4 3 (by decide), q50F 4 3, sN45.1 4 3 (by decide), sA44.1 4 3 (by decide), hpC.2.1.1.2] at b65a b65b ⊢
                  refine h_intv k_1 rfl ?_
                  refine h_iadd rfl ?_
                  refine x_putI rfl o63 fi_4_3 rfl (by omega) (by omega) (fun w66 o66 q67a q67F q67X q67J q67Y q67R => ?_)
                  refine h_intv k_1 rfl ?_
                  refine h_zret (by omega) rfl ?_
                  refine ⟨_, _, rfl, o66, smW_tr (smW_tr (smW_tr (smW_tr (smW_tr (smW_tr (smW_tr (smW_tr sm (smW_mono (by decide) sA44)) (smW_mono (by decide) sN45)) (sm_pY (by decide) q50Y q50F q50X q50J q50R)) (smW_mono (by decide) sN51)) (sm_pX (by decide) q57X q57F q57J q57Y q57R)) (smW_mono (by decide) sN58)) (sm_pX (by decide) q64X q64F q64J q64Y q64R)) (sm_pI (by decide) q67F q67X q67J q67Y q67R), by rw [q67F 3 1 (by decide), q64F 3 1, sN58.1 3 1 (by decide), q57F 3 1, sN51.1 3 1 (by decide), q50F 3 1, sN45.1 3 1 (by decide), sA44.1 3 1 (by decide)], ?_⟩
                  rw [show zLoad B n 900 (S, R, N, hr, hk, hp) = .inr (qN58.2, zU (zU (zU R (82 + (R 2).toNat) qN51.1) (88 + (R 2).toNat) qN58.1) 2 (R 2 + 1), zU N (10 + (R 2).toNat) qN45.1, hr, hk, hp) from by
                    unfold zLoad
                    try dsimp only
                    rw [if_neg (by omega)]
                    try dsimp only
                    rw [hr45, zB_r]
                    try dsimp only
                    rw [hr51, zB_r]
                    try dsimp only
                    rw [hr58, zB_r]
                    try dsimp only
                    first | done | rfl, zOK_r]
                  exact ⟨rfl, (tkC_sm (smW_tr (smW_tr (smW_rf ePF _) (sm_pX (by decide) q64X q64F q64J q64Y q64R)) (sm_pI (by decide) q67F q67X q67J q67Y q67R)) (by decide) ht58), G58, (pC_load hw (smW_tr (smW_tr (smW_tr (smW_tr (smW_tr (smW_tr (smW_tr (smW_tr (smW_rf eLd _) (smW_mono (by decide) sA44)) (smW_mono (by decide) sN45)) (sm_pY (by decide) q50Y q50F q50X q50J q50R)) (smW_mono (by decide) sN51)) (sm_pX (by decide) q57X q57F q57J q57Y q57R)) (smW_mono (by decide) sN58)) (sm_pX (by decide) q64X q64F q64J q64Y q64R)) (sm_pI (by decide) q67F q67X q67J q67Y q67R)) hl (by omega) ⟨hlo45, hhi45⟩ (by rw [q67Y 11 l, q64Y 11 l, sN58.2.2.2.1 11 l (by decide), q57Y 11 l, sN51.2.2.2.1 11 l (by decide), q50a]) (fun j hj => by rw [q67Y 11 j, q64Y 11 j, sN58.2.2.2.1 11 j (by decide), q57Y 11 j, sN51.2.2.2.1 11 j (by decide), q50Y 11 j (fun _ => by omega), sN45.2.2.2.1 11 j (by decide), sA44.2.2.2.1 11 j (by decide)]) (by rw [q67X 12 l, q64X 12 l (fun e => absurd e (by decide)), sN58.2.2.1 12 l (by decide), q57a]) (fun j hj => by rw [q67X 12 j, q64X 12 j (fun e => absurd e (by decide)), sN58.2.2.1 12 j (by decide), q57X 12 j (fun _ => by omega), sN51.2.2.1 12 j (by decide), q50X 12 j, sN45.2.2.1 12 j (by decide), sA44.2.2.1 12 j (by decide)]) (by rw [q67X 13 l, q64a]) (fun j hj => by rw [q67X 13 j, q64X 13 j (fun _ => by omega), sN58.2.2.1 13 j (by decide), q57X 13 j (fun e => absurd e (by decide)), sN51.2.2.1 13 j (by decide), q50X 13 j, sN45.2.2.1 13 j (by decide), sA44.2.2.1 13 j (by decide)]) (by rw [q67a]) hpC), by rw [q67F 3 2 (by decide), q64F 3 2, sN58.1 3 2 (by decide), q57F 3 2, sN51.1 3 2 (by decide), q50F 3 2, sN45.1 3 2 (by decide), sA44.1 3 2 (by decide), hf2], by rw [q67F 3 3 (by decide), q64F 3 3, sN58.1 3 3 (by decide), q57F 3 3, sN51.1 3 3 (by decide), q50F 3 3, sN45.1 3 3 (by decide), sA44.1 3 3 (by decide), hf3], by rw [q67F 3 4 (by decide), q64F 3 4, sN58.1 3 4 (by decide), q57F 3 4, sN51.1 3 4 (by decide), q50F 3 4, sN45.1 3 4 (by decide), sA44.1 3 4 (by decide), hf4]⟩
                · omega
            · omega
        · omega
    · refine h_aload rfl l42 rfl ?_
      refine h_intv k_4 rfl ?_
      obtain ⟨wR68, hf68, oR68', sR68, rA68, rB68⟩ := x_refuse (kn := kn) o0.1 4 ⟨by omega, by omega⟩
      have oR68 := hO_tr o0 (hO_mono dBT_k oR68')
      rw [(tkV_i htk.2).1] at rB68
      refine h_V2 rfl o0 l42 ci_1 rfl rfl hf68 ?_
      refine h_zret (by omega) rfl ?_
      refine ⟨_, _, rfl, oR68, smW_tr sm (smW_mono (by decide) sR68), by rw [sR68.1 3 1 (by decide)], ?_⟩
      rw [show zLoad B n 900 (S, R, N, hr, hk, hp) = .inl (4, S.2.1) from by
        unfold zLoad
        try dsimp only
        rw [if_pos (by omega)]
        try dsimp only
        first | done | rfl, zOK_l]
      exact ⟨rfl, by rw [rA68], by rw [rB68]⟩
  obtain ⟨r, h1, w2, b, h2, h3⟩ := h_meth1 (nL := 3) rfl K
  rw [h2] at h1
  exact ⟨w2, b, h1, h3⟩
theorem x_readSigner {kn : sKn} {w0 : sW} {B : Nat → Int} {n : Nat} {S : tS} {R N : Nat → Int} {hr hk hp : Int} (hw : wOk ZZ w0) (hz : rpC B n (S, R, N, hr, hk, hp) w0) : ∃ (w' : sW) (b : Int), fX2_readSigner kn [.ref 3, .ref 1] w0 = some (some (hI b), w', 0, 0) ∧ hO dBT w0 w' ∧ smW eBT w0 w' ∧ gF w' 3 1 = gF w0 3 1 ∧ zOK (zSigner B n 900 (S, R, N, hr, hk, hp)) b (fun e => gF w' 1 11 = e.1 ∧ gF w' 1 12 = e.2) (fun Y => rpC B n Y w') := by
  obtain ⟨htk, hG, hpC, hf2, hf3, hf4⟩ := hz
  have htk : tkC B n 900 S w0 := htk
  have hG : tkG B n 900 S := hG
  have hpC : pC R N w0 := hpC
  have hf2 : gF w0 3 2 = hr := hf2
  have hf3 : gF w0 3 3 = hk := hf3
  have hf4 : gF w0 3 4 = hp := hf4
  have hP := hpC.1
  have hnb := nm4_b hpC.2.1 hw
  have gbS := tkG_b hG
  have htx := htk.1.2.2.2
  obtain ⟨k, hk2⟩ : ∃ k : Nat, R 1 = (k : Int) := ⟨(R 1).toNat, by omega⟩
  have K : Tp (tX2_readSigner kn) (fun r => ∃ (w' : sW) (b : Int), r = (some (hI b), w', 0, 0) ∧ hO dBT w0 w' ∧ smW eBT w0 w' ∧ gF w' 3 1 = gF w0 3 1 ∧ zOK (zSigner B n 900 (S, R, N, hr, hk, hp)) b (fun e => gF w' 1 11 = e.1 ∧ gF w' 1 12 = e.2) (fun Y => rpC B n Y w')) 0 (lv_args 0 [.ref 3, .ref 1], [], w0, 0, 0) := by
    have l0 : hL (lv_args 0 [.ref 3, .ref 1]) (lv_args 0 [.ref 3, .ref 1]) := hL_ex rfl
    have o0 : hO dBT w0 w0 := hO_rf hw
    have sm := smW_rf eBT w0
    refine h_aload rfl l0 rfl ?_
    refine h_getR rfl o0 fr_3_0 ?_
    refine h_getI rfl o0 fi_4_2 (fun b41a b41b => ?_)
    rw [hpC.2.1.1.1] at b41a b41b ⊢
    refine h_istore rfl l0 (fun vl42 l42 => ?_)
    refine h_iload rfl l42 rfl ?_
    refine h_intv k_10 rfl ?_
    refine i_lt (kn := kn) (t := 2) (tgt := 20) (np := 14) rfl (by unfold R32; omega) (by unfold R32; omega) (fun e43 => ?_) (fun e43 => ?_)
    · refine h_aload rfl l42 rfl ?_
      obtain ⟨wA44, hf44, oA44', sA44, tA44⟩ := x_advance (kn := kn) htk.1 o0.1 (p := S.2.2.2.2) (tkG_n hG) (tkV_i htk.2).2.1
      have oA44 := hO_tr o0 (hO_mono dBT_t oA44')
      have tA44 : tkC B n 900 (nxT B n 900 S) wA44 := tA44
      refine h_W1 rfl o0 l42 ci_1 rfl rfl hf44 ?_
      refine h_aload rfl l42 rfl ?_
      refine h_aload rfl l42 rfl ?_
      refine h_getR rfl oA44 fr_3_0 ?_
      obtain ⟨wN45, bN45, hf45, oN45', sN45, hz45⟩ := x_takeNewName (kn := kn) oA44.1 tA44 (tkG_n (tkG_nx hG)) (pC_sm (smW_tr (smW_rf eTT _) (smW_mono (by decide) sA44)) (by decide) hpC).1 (pC_sm (smW_tr (smW_rf eTT _) (smW_mono (by decide) sA44)) (by decide) hpC).2.1 (tkG_X (tkG_nx hG))
      have oN45 := hO_tr oA44 (hO_mono dBT_k oN45')
      have gb45 := tkG_b (tkG_nx hG)
      rcases hr45 : zNew B n 900 R N (nxT B n 900 S) with eN45 | qN45
      · rw [hr45, zOK_l] at hz45
        obtain ⟨hb45, he145, he245⟩ := hz45
        subst hb45
        refine h_V2 rfl oA44 l42 ci_1 rfl rfl hf45 ?_
        refine j_ne (kn := kn) (t := 1) (tgt := 37) (np := 35) rfl (by unfold R32; omega) (fun e46 => ?_) (fun e46 => ?_)
        · omega
        · refine h_intv k_0 rfl ?_
          refine h_zret (by omega) rfl ?_
          refine ⟨_, _, rfl, oN45, smW_tr (smW_tr sm (smW_mono (by decide) sA44)) (smW_mono (by decide) sN45), by rw [sN45.1 3 1 (by decide), sA44.1 3 1 (by decide)], ?_⟩
          rw [show zSigner B n 900 (S, R, N, hr, hk, hp) = .inl eN45 from by
            unfold zSigner
            try dsimp only
            rw [if_neg (by omega)]
            try dsimp only
            rw [hr45, zB_l]
            try dsimp only
            first | done | rfl, zOK_l]
          exact ⟨rfl, by rw [he145], by rw [he245]⟩
      · rw [hr45, zOK_r] at hz45
        obtain ⟨hb45, hv45, ht45, hlo45, hhi45⟩ := hz45
        subst hb45
        have G45 : tkG B n 900 qN45.2 := by
          rw [zNew_r hr45]
          exact tkG_nx (tkG_nx hG)
        refine h_V2 rfl oA44 l42 ci_1 rfl rfl hf45 ?_
        refine j_ne (kn := kn) (t := 1) (tgt := 37) (np := 35) rfl (by unfold R32; omega) (fun e47 => ?_) (fun e47 => ?_)
        · refine h_aload rfl l42 rfl ?_
          refine h_getR rfl oN45 fr_3_0 ?_
          refine h_getT rfl oN45 (show ztau 4 = some 5 from rfl) frt_5_6 (fun kk48 hkk48 rkk48 => ?_)
          have ekk48 : kk48 = 5 := by
            have := (pl4_sm (smW_tr (smW_tr sm (smW_mono (by decide) sA44)) (smW_mono (by decide) sN45)) hP).1
            omega
          subst ekk48
          refine h_iload rfl l42 rfl ?_
          refine h_aload rfl l42 rfl ?_
          refine h_getJv rfl oN45 fj_1_9 ?_
          rw [hv45]
          refine x_last (k) rfl oN45 aj_5 rfl rfl (by omega) (by omega) (fun w49 o49 q50a q50Y q50F q50X q50J q50R => ?_)
          refine h_aload rfl l42 rfl ?_
          refine h_intv k_0 rfl ?_
          refine h_intv k_9 rfl ?_
          obtain ⟨wN51, bN51, hf51, oN51', sN51, hz51⟩ := x_takeNumber (kn := kn) o49.1 (tkC_sm (smW_tr (smW_rf ePF _) (sm_pY (by decide) q50Y q50F q50X q50J q50R)) (by decide) ht45) (tkG_n G45) 0 9 ⟨by omega, by omega⟩ ⟨by omega, by omega⟩
          have oN51 := hO_tr o49 (hO_mono dBT_k oN51')
          have gb51 := tkG_b G45
          rcases hr51 : zNum B n 900 0 9 qN45.2 with eN51 | qN51
          · rw [hr51, zOK_l] at hz51
            obtain ⟨hb51, he151, he251⟩ := hz51
            subst hb51
            refine h_V3 rfl o49 l42 ci_1 rfl rfl hf51 ?_
            refine j_ne (kn := kn) (t := 1) (tgt := 62) (np := 60) rfl (by unfold R32; omega) (fun e52 => ?_) (fun e52 => ?_)
            · omega
            · refine h_intv k_0 rfl ?_
              refine h_zret (by omega) rfl ?_
              refine ⟨_, _, rfl, oN51, smW_tr (smW_tr (smW_tr (smW_tr sm (smW_mono (by decide) sA44)) (smW_mono (by decide) sN45)) (sm_pY (by decide) q50Y q50F q50X q50J q50R)) (smW_mono (by decide) sN51), by rw [sN51.1 3 1 (by decide), q50F 3 1, sN45.1 3 1 (by decide), sA44.1 3 1 (by decide)], ?_⟩
              rw [show zSigner B n 900 (S, R, N, hr, hk, hp) = .inl eN51 from by
                unfold zSigner
                try dsimp only
                rw [if_neg (by omega)]
                try dsimp only
                rw [hr45, zB_r]
                try dsimp only
                rw [hr51, zB_l]
                try dsimp only
                first | done | rfl, zOK_l]
              exact ⟨rfl, by rw [he151], by rw [he251]⟩
          · rw [hr51, zOK_r] at hz51
            obtain ⟨hb51, hv51, ha51, ht51⟩ := hz51
            subst hb51
            obtain ⟨hq51, hlo51, hhi51⟩ := zNum_r hr51
            have G51 : tkG B n 900 qN51.2 := by
              rw [hq51]
              exact tkG_nx G45
            refine h_V3 rfl o49 l42 ci_1 rfl rfl hf51 ?_
            refine j_ne (kn := kn) (t := 1) (tgt := 62) (np := 60) rfl (by unfold R32; omega) (fun e53 => ?_) (fun e53 => ?_)
            · refine h_aload rfl l42 rfl ?_
              refine h_getR rfl oN51 fr_3_0 ?_
              refine h_getT rfl oN51 (show ztau 4 = some 5 from rfl) frt_5_7 (fun kk54 hkk54 rkk54 => ?_)
              have ekk54 : kk54 = 6 := by
                have := (pl4_sm (smW_tr (smW_tr (smW_tr (smW_tr sm (smW_mono (by decide) sA44)) (smW_mono (by decide) sN45)) (sm_pY (by decide) q50Y q50F q50X q50J q50R)) (smW_mono (by decide) sN51)) hP).2.1
                omega
              subst ekk54
              refine h_iload rfl l42 rfl ?_
              refine h_aload rfl l42 rfl ?_
              refine h_getI rfl oN51 fi_1_8 (fun b55a b55b => ?_)
              rw [hv51] at b55a b55b ⊢
              refine x_iast (k) rfl oN51 ai_6 rfl rfl aw_6 (by omega) (by omega) (by omega) (by omega) (by omega) (by omega) (by unfold R32; omega) (fun w56 o56 q57a q57X q57F q57J q57Y q57R => ?_)
              refine h_aload rfl l42 rfl ?_
              refine h_intv k_1 rfl ?_
              refine h_intv k_9 rfl ?_
              obtain ⟨wN58, bN58, hf58, oN58', sN58, hz58⟩ := x_takeNumber (kn := kn) o56.1 (tkC_sm (smW_tr (smW_rf ePF _) (sm_pX (by decide) q57X q57F q57J q57Y q57R)) (by decide) ht51) (tkG_n G51) 1 9 ⟨by omega, by omega⟩ ⟨by omega, by omega⟩
              have oN58 := hO_tr o56 (hO_mono dBT_k oN58')
              have gb58 := tkG_b G51
              rcases hr58 : zNum B n 900 1 9 qN51.2 with eN58 | qN58
              · rw [hr58, zOK_l] at hz58
                obtain ⟨hb58, he158, he258⟩ := hz58
                subst hb58
                refine h_V3 rfl o56 l42 ci_1 rfl rfl hf58 ?_
                refine j_ne (kn := kn) (t := 1) (tgt := 87) (np := 85) rfl (by unfold R32; omega) (fun e59 => ?_) (fun e59 => ?_)
                · omega
                · refine h_intv k_0 rfl ?_
                  refine h_zret (by omega) rfl ?_
                  refine ⟨_, _, rfl, oN58, smW_tr (smW_tr (smW_tr (smW_tr (smW_tr (smW_tr sm (smW_mono (by decide) sA44)) (smW_mono (by decide) sN45)) (sm_pY (by decide) q50Y q50F q50X q50J q50R)) (smW_mono (by decide) sN51)) (sm_pX (by decide) q57X q57F q57J q57Y q57R)) (smW_mono (by decide) sN58), by rw [sN58.1 3 1 (by decide), q57F 3 1, sN51.1 3 1 (by decide), q50F 3 1, sN45.1 3 1 (by decide), sA44.1 3 1 (by decide)], ?_⟩
                  rw [show zSigner B n 900 (S, R, N, hr, hk, hp) = .inl eN58 from by
                    unfold zSigner
                    try dsimp only
                    rw [if_neg (by omega)]
                    try dsimp only
                    rw [hr45, zB_r]
                    try dsimp only
                    rw [hr51, zB_r]
                    try dsimp only
                    rw [hr58, zB_l]
                    try dsimp only
                    first | done | rfl, zOK_l]
                  exact ⟨rfl, by rw [he158], by rw [he258]⟩
              · rw [hr58, zOK_r] at hz58
                obtain ⟨hb58, hv58, ha58, ht58⟩ := hz58
                subst hb58
                obtain ⟨hq58, hlo58, hhi58⟩ := zNum_r hr58
                have G58 : tkG B n 900 qN58.2 := by
                  rw [hq58]
                  exact tkG_nx G51
                refine h_V3 rfl o56 l42 ci_1 rfl rfl hf58 ?_
                refine j_ne (kn := kn) (t := 1) (tgt := 87) (np := 85) rfl (by unfold R32; omega) (fun e60 => ?_) (fun e60 => ?_)
                · refine h_aload rfl l42 rfl ?_
                  refine h_getR rfl oN58 fr_3_0 ?_
                  refine h_getT rfl oN58 (show ztau 4 = some 5 from rfl) frt_5_8 (fun kk61 hkk61 rkk61 => ?_)
                  have ekk61 : kk61 = 7 := by
                    have := (pl4_sm (smW_tr (smW_tr (smW_tr (smW_tr (smW_tr (smW_tr sm (smW_mono (by decide) sA44)) (smW_mono (by decide) sN45)) (sm_pY (by decide) q50Y q50F q50X q50J q50R)) (smW_mono (by decide) sN51)) (sm_pX (by decide) q57X q57F q57J q57Y q57R)) (smW_mono (by decide) sN58)) hP).2.2.1
                    omega
                  subst ekk61
                  refine h_iload rfl l42 rfl ?_
                  refine h_aload rfl l42 rfl ?_
                  refine h_getI rfl oN58 fi_1_8 (fun b62a b62b => ?_)
                  rw [hv58] at b62a b62b ⊢
                  refine x_iast (k) rfl oN58 ai_7 rfl rfl aw_7 (by omega) (by omega) (by omega) (by omega) (by omega) (by omega) (by unfold R32; omega) (fun w63 o63 q64a q64X q64F q64J q64Y q64R => ?_)
                  refine h_aload rfl l42 rfl ?_
                  refine h_intv k_2 rfl ?_
                  obtain ⟨z65, hf65, hz65⟩ := x_isKey (kn := kn) o63.1 2 ⟨by omega, by omega⟩
                  obtain ⟨_, _, tv65, _⟩ := tkV_i (tkC_sm (smW_tr (smW_rf ePF _) (sm_pX (by decide) q64X q64F q64J q64Y q64R)) (by decide) ht58).2
                  refine h_V2 rfl o63 l42 ci_1 rfl rfl hf65 ?_
                  refine j_eq (kn := kn) (t := 0) (tgt := 127) (np := 108) rfl (by unfold R32; omega) (fun e66 => ?_) (fun e66 => ?_)
                  · refine h_aload rfl l42 rfl ?_
                    refine h_getR rfl o63 fr_3_0 ?_
                    refine h_dup rfl rfl ?_
                    refine h_getI rfl o63 fi_4_2 (fun b67a b67b => ?_)
                    rw [q64F 4 2, sN58.1 4 2 (by decide), q57F 4 2, sN51.1 4 2 (by decide), q50F 4 2, sN45.1 4 2 (by decide), sA44.1 4 2 (by decide), hpC.2.1.1.1] at b67a b67b ⊢
                    refine h_intv k_1 rfl ?_
                    refine h_iadd rfl ?_
                    refine x_putI rfl o63 fi_4_2 rfl (by omega) (by omega) (fun w68 o68 q69a q69F q69X q69J q69Y q69R => ?_)
                    refine h_intv k_1 rfl ?_
                    refine h_zret (by omega) rfl ?_
                    refine ⟨_, _, rfl, o68, smW_tr (smW_tr (smW_tr (smW_tr (smW_tr (smW_tr (smW_tr (smW_tr sm (smW_mono (by decide) sA44)) (smW_mono (by decide) sN45)) (sm_pY (by decide) q50Y q50F q50X q50J q50R)) (smW_mono (by decide) sN51)) (sm_pX (by decide) q57X q57F q57J q57Y q57R)) (smW_mono (by decide) sN58)) (sm_pX (by decide) q64X q64F q64J q64Y q64R)) (sm_pI (by decide) q69F q69X q69J q69Y q69R), by rw [q69F 3 1 (by decide), q64F 3 1, sN58.1 3 1 (by decide), q57F 3 1, sN51.1 3 1 (by decide), q50F 3 1, sN45.1 3 1 (by decide), sA44.1 3 1 (by decide)], ?_⟩
                    rw [show zSigner B n 900 (S, R, N, hr, hk, hp) = .inr (qN58.2, zSgR R qN51.1 qN58.1 false, zU N (R 1).toNat qN45.1, hr, hk, hp) from by
                      unfold zSigner
                      try dsimp only
                      rw [if_neg (by omega)]
                      try dsimp only
                      rw [hr45, zB_r]
                      try dsimp only
                      rw [hr51, zB_r]
                      try dsimp only
                      rw [hr58, zB_r]
                      try dsimp only
                      rw [if_neg (by omega)]
                      try dsimp only
                      first | done | rfl, zOK_r]
                    exact ⟨rfl, (tkC_sm (smW_tr (smW_tr (smW_rf ePF _) (sm_pX (by decide) q64X q64F q64J q64Y q64R)) (sm_pI (by decide) q69F q69X q69J q69Y q69R)) (by decide) ht58), G58, (pC_sgn (fg := false) hw (smW_tr (smW_tr (smW_tr (smW_tr (smW_tr (smW_tr (smW_tr (smW_tr (smW_rf eSg _) (smW_mono (by decide) sA44)) (smW_mono (by decide) sN45)) (sm_pY (by decide) q50Y q50F q50X q50J q50R)) (smW_mono (by decide) sN51)) (sm_pX (by decide) q57X q57F q57J q57Y q57R)) (smW_mono (by decide) sN58)) (sm_pX (by decide) q64X q64F q64J q64Y q64R)) (sm_pI (by decide) q69F q69X q69J q69Y q69R)) hk2 (by omega) ⟨hlo45, hhi45⟩ (by rw [q69Y 5 k, q64Y 5 k, sN58.2.2.2.1 5 k (by decide), q57Y 5 k, sN51.2.2.2.1 5 k (by decide), q50a]) (fun j hj => by rw [q69Y 5 j, q64Y 5 j, sN58.2.2.2.1 5 j (by decide), q57Y 5 j, sN51.2.2.2.1 5 j (by decide), q50Y 5 j (fun _ => by omega), sN45.2.2.2.1 5 j (by decide), sA44.2.2.2.1 5 j (by decide)]) (by rw [q69X 6 k, q64X 6 k (fun e => absurd e (by decide)), sN58.2.2.1 6 k (by decide), q57a]) (fun j hj => by rw [q69X 6 j, q64X 6 j (fun e => absurd e (by decide)), sN58.2.2.1 6 j (by decide), q57X 6 j (fun _ => by omega), sN51.2.2.1 6 j (by decide), q50X 6 j, sN45.2.2.1 6 j (by decide), sA44.2.2.1 6 j (by decide)]) (by rw [q69X 7 k, q64a]) (fun j hj => by rw [q69X 7 j, q64X 7 j (fun _ => by omega), sN58.2.2.1 7 j (by decide), q57X 7 j (fun e => absurd e (by decide)), sN51.2.2.1 7 j (by decide), q50X 7 j, sN45.2.2.1 7 j (by decide), sA44.2.2.1 7 j (by decide)]) (by rw [q69a]) (by show _ = R 25; rw [q69F 4 5 (by decide), q64F 4 5, sN58.1 4 5 (by decide), q57F 4 5, sN51.1 4 5 (by decide), q50F 4 5, sN45.1 4 5 (by decide), sA44.1 4 5 (by decide), hpC.2.2.1.2.2.2]) hpC), by rw [q69F 3 2 (by decide), q64F 3 2, sN58.1 3 2 (by decide), q57F 3 2, sN51.1 3 2 (by decide), q50F 3 2, sN45.1 3 2 (by decide), sA44.1 3 2 (by decide), hf2], by rw [q69F 3 3 (by decide), q64F 3 3, sN58.1 3 3 (by decide), q57F 3 3, sN51.1 3 3 (by decide), q50F 3 3, sN45.1 3 3 (by decide), sA44.1 3 3 (by decide), hf3], by rw [q69F 3 4 (by decide), q64F 3 4, sN58.1 3 4 (by decide), q57F 3 4, sN51.1 3 4 (by decide), q50F 3 4, sN45.1 3 4 (by decide), sA44.1 3 4 (by decide), hf4]⟩
                  · refine h_aload rfl l42 rfl ?_
                    refine h_getR rfl o63 fr_3_0 ?_
                    refine h_dup rfl rfl ?_
                    refine h_getI rfl o63 fi_4_5 (fun b70a b70b => ?_)
                    rw [q64F 4 5, sN58.1 4 5 (by decide), q57F 4 5, sN51.1 4 5 (by decide), q50F 4 5, sN45.1 4 5 (by decide), sA44.1 4 5 (by decide), hpC.2.2.1.2.2.2] at b70a b70b ⊢
                    refine h_intv k_1 rfl ?_
                    refine h_iload rfl l42 rfl ?_
                    refine x_ishl rfl ?_
                    refine x_ior rfl ?_
                    refine x_putI rfl o63 fi_4_5 rfl (zOr_R _ _).1 (zOr_R _ _).2 (fun w71 o71 q72a q72F q72X q72J q72Y q72R => ?_)
                    refine h_aload rfl l42 rfl ?_
                    obtain ⟨wA73, hf73, oA73', sA73, tA73⟩ := x_advance (kn := kn) (tkC_sm (smW_tr (smW_tr (smW_rf ePF _) (sm_pX (by decide) q64X q64F q64J q64Y q64R)) (sm_pI (by decide) q72F q72X q72J q72Y q72R)) (by decide) ht58).1 o71.1 (p := qN58.2.2.2.2.2) (tkG_n G58) (tkV_i (tkC_sm (smW_tr (smW_tr (smW_rf ePF _) (sm_pX (by decide) q64X q64F q64J q64Y q64R)) (sm_pI (by decide) q72F q72X q72J q72Y q72R)) (by decide) ht58).2).2.1
                    have oA73 := hO_tr o71 (hO_mono dBT_t oA73')
                    have tA73 : tkC B n 900 (nxT B n 900 qN58.2) wA73 := tA73
                    refine h_W1 rfl o71 l42 ci_1 rfl rfl hf73 ?_
                    refine h_aload rfl l42 rfl ?_
                    refine h_getR rfl oA73 fr_3_0 ?_
                    refine h_dup rfl rfl ?_
                    refine h_getI rfl oA73 fi_4_2 (fun b74a b74b => ?_)
                    rw [sA73.1 4 2 (by decide), q72F 4 2 (by decide), q64F 4 2, sN58.1 4 2 (by decide), q57F 4 2, sN51.1 4 2 (by decide), q50F 4 2, sN45.1 4 2 (by decide), sA44.1 4 2 (by decide), hpC.2.1.1.1] at b74a b74b ⊢
                    refine h_intv k_1 rfl ?_
                    refine h_iadd rfl ?_
                    refine x_putI rfl oA73 fi_4_2 rfl (by omega) (by omega) (fun w75 o75 q76a q76F q76X q76J q76Y q76R => ?_)
                    refine h_intv k_1 rfl ?_
                    refine h_zret (by omega) rfl ?_
                    refine ⟨_, _, rfl, o75, smW_tr (smW_tr (smW_tr (smW_tr (smW_tr (smW_tr (smW_tr (smW_tr (smW_tr (smW_tr sm (smW_mono (by decide) sA44)) (smW_mono (by decide) sN45)) (sm_pY (by decide) q50Y q50F q50X q50J q50R)) (smW_mono (by decide) sN51)) (sm_pX (by decide) q57X q57F q57J q57Y q57R)) (smW_mono (by decide) sN58)) (sm_pX (by decide) q64X q64F q64J q64Y q64R)) (sm_pI (by decide) q72F q72X q72J q72Y q72R)) (smW_mono (by decide) sA73)) (sm_pI (by decide) q76F q76X q76J q76Y q76R), by rw [q76F 3 1 (by decide), sA73.1 3 1 (by decide), q72F 3 1 (by decide), q64F 3 1, sN58.1 3 1 (by decide), q57F 3 1, sN51.1 3 1 (by decide), q50F 3 1, sN45.1 3 1 (by decide), sA44.1 3 1 (by decide)], ?_⟩
                    rw [show zSigner B n 900 (S, R, N, hr, hk, hp) = .inr (nxT B n 900 qN58.2, zSgR R qN51.1 qN58.1 true, zU N (R 1).toNat qN45.1, hr, hk, hp) from by
                      unfold zSigner
                      try dsimp only
                      rw [if_neg (by omega)]
                      try dsimp only
                      rw [hr45, zB_r]
                      try dsimp only
                      rw [hr51, zB_r]
                      try dsimp only
                      rw [hr58, zB_r]
                      try dsimp only
                      rw [if_pos (by omega)]
                      try dsimp only
                      first | done | rfl, zOK_r]
                    exact ⟨rfl, (tkC_sm (smW_tr (smW_rf ePF _) (sm_pI (by decide) q76F q76X q76J q76Y q76R)) (by decide) tA73), (tkG_nx G58), (pC_sgn (fg := true) hw (smW_tr (smW_tr (smW_tr (smW_tr (smW_tr (smW_tr (smW_tr (smW_tr (smW_tr (smW_tr (smW_rf eSg _) (smW_mono (by decide) sA44)) (smW_mono (by decide) sN45)) (sm_pY (by decide) q50Y q50F q50X q50J q50R)) (smW_mono (by decide) sN51)) (sm_pX (by decide) q57X q57F q57J q57Y q57R)) (smW_mono (by decide) sN58)) (sm_pX (by decide) q64X q64F q64J q64Y q64R)) (sm_pI (by decide) q72F q72X q72J q72Y q72R)) (smW_mono (by decide) sA73)) (sm_pI (by decide) q76F q76X q76J q76Y q76R)) hk2 (by omega) ⟨hlo45, hhi45⟩ (by rw [q76Y 5 k, sA73.2.2.2.1 5 k (by decide), q72Y 5 k, q64Y 5 k, sN58.2.2.2.1 5 k (by decide), q57Y 5 k, sN51.2.2.2.1 5 k (by decide), q50a]) (fun j hj => by rw [q76Y 5 j, sA73.2.2.2.1 5 j (by decide), q72Y 5 j, q64Y 5 j, sN58.2.2.2.1 5 j (by decide), q57Y 5 j, sN51.2.2.2.1 5 j (by decide), q50Y 5 j (fun _ => by omega), sN45.2.2.2.1 5 j (by decide), sA44.2.2.2.1 5 j (by decide)]) (by rw [q76X 6 k, sA73.2.2.1 6 k (by decide), q72X 6 k, q64X 6 k (fun e => absurd e (by decide)), sN58.2.2.1 6 k (by decide), q57a]) (fun j hj => by rw [q76X 6 j, sA73.2.2.1 6 j (by decide), q72X 6 j, q64X 6 j (fun e => absurd e (by decide)), sN58.2.2.1 6 j (by decide), q57X 6 j (fun _ => by omega), sN51.2.2.1 6 j (by decide), q50X 6 j, sN45.2.2.1 6 j (by decide), sA44.2.2.1 6 j (by decide)]) (by rw [q76X 7 k, sA73.2.2.1 7 k (by decide), q72X 7 k, q64a]) (fun j hj => by rw [q76X 7 j, sA73.2.2.1 7 j (by decide), q72X 7 j, q64X 7 j (fun _ => by omega), sN58.2.2.1 7 j (by decide), q57X 7 j (fun e => absurd e (by decide)), sN51.2.2.1 7 j (by decide), q50X 7 j, sN45.2.2.1 7 j (by decide), sA44.2.2.1 7 j (by decide)]) (by rw [q76a]) (by show _ = zOr (R 25) (zSh 1 (R 1)); rw [q76F 4 5 (by decide), sA73.1 4 5 (by decide), q72a]) hpC), by rw [q76F 3 2 (by decide), sA73.1 3 2 (by decide), q72F 3 2 (by decide), q64F 3 2, sN58.1 3 2 (by decide), q57F 3 2, sN51.1 3 2 (by decide), q50F 3 2, sN45.1 3 2 (by decide), sA44.1 3 2 (by decide), hf2], by rw [q76F 3 3 (by decide), sA73.1 3 3 (by decide), q72F 3 3 (by decide), q64F 3 3, sN58.1 3 3 (by decide), q57F 3 3, sN51.1 3 3 (by decide), q50F 3 3, sN45.1 3 3 (by decide), sA44.1 3 3 (by decide), hf3], by rw [q76F 3 4 (by decide), sA73.1 3 4 (by decide), q72F 3 4 (by decide), q64F 3 4, sN58.1 3 4 (by decide), q57F 3 4, sN51.1 3 4 (by decide), q50F 3 4, sN45.1 3 4 (by decide), sA44.1 3 4 (by decide), hf4]⟩
                · omega
            · omega
        · omega
    · refine h_aload rfl l42 rfl ?_
      refine h_intv k_4 rfl ?_
      obtain ⟨wR77, hf77, oR77', sR77, rA77, rB77⟩ := x_refuse (kn := kn) o0.1 4 ⟨by omega, by omega⟩
      have oR77 := hO_tr o0 (hO_mono dBT_k oR77')
      rw [(tkV_i htk.2).1] at rB77
      refine h_V2 rfl o0 l42 ci_1 rfl rfl hf77 ?_
      refine h_zret (by omega) rfl ?_
      refine ⟨_, _, rfl, oR77, smW_tr sm (smW_mono (by decide) sR77), by rw [sR77.1 3 1 (by decide)], ?_⟩
      rw [show zSigner B n 900 (S, R, N, hr, hk, hp) = .inl (4, S.2.1) from by
        unfold zSigner
        try dsimp only
        rw [if_pos (by omega)]
        try dsimp only
        first | done | rfl, zOK_l]
      exact ⟨rfl, by rw [rA77], by rw [rB77]⟩
  obtain ⟨r, h1, w2, b, h2, h3⟩ := h_meth1 (nL := 3) rfl K
  rw [h2] at h1
  exact ⟨w2, b, h1, h3⟩
end
