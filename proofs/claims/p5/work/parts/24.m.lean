noncomputable section
theorem x_readLine {kn : sKn} {w0 : sW} {B : Nat → Int} {n : Nat} {S : tS} {R N : Nat → Int} {hr hk hp : Int} (hw : wOk ZZ w0) (h38 : R 3 ≤ 8) (hz : rpC B n (S, R, N, hr, hk, hp) w0) : ∃ (w' : sW) (b : Int), fX2_readLine kn [.ref 3, .ref 1] w0 = some (some (hI b), w', 0, 0) ∧ hO dBT w0 w' ∧ smW eBT w0 w' ∧ gF w' 3 1 = gF w0 3 1 ∧ zOK (zLine B n 900 (S, R, N, hr, hk, hp)) b (fun e => gF w' 1 11 = e.1 ∧ gF w' 1 12 = e.2) (fun Y => rpC B n Y w') := by
  obtain ⟨htk, hG, hpC, hf2, hf3, hf4⟩ := id hz
  have htk : tkC B n 900 S w0 := htk
  have hG : tkG B n 900 S := hG
  have hpC : pC R N w0 := hpC
  have hf2 : gF w0 3 2 = hr := hf2
  have hf3 : gF w0 3 3 = hk := hf3
  have hf4 : gF w0 3 4 = hp := hf4
  have hP := hpC.1
  have hnb := nm4_b hpC.2.1 hw
  have gbS := tkG_b hG
  have htx := htk.1.2.2.2
  obtain ⟨_, _, tvk, _⟩ := tkV_i htk.2
  have K : Tp (tX2_readLine kn) (fun r => ∃ (w' : sW) (b : Int), r = (some (hI b), w', 0, 0) ∧ hO dBT w0 w' ∧ smW eBT w0 w' ∧ gF w' 3 1 = gF w0 3 1 ∧ zOK (zLine B n 900 (S, R, N, hr, hk, hp)) b (fun e => gF w' 1 11 = e.1 ∧ gF w' 1 12 = e.2) (fun Y => rpC B n Y w')) 0 (lv_args 0 [.ref 3, .ref 1], [], w0, 0, 0) := by
    have l0 : hL (lv_args 0 [.ref 3, .ref 1]) (lv_args 0 [.ref 3, .ref 1]) := hL_ex rfl
    have o0 : hO dBT w0 w0 := hO_rf hw
    have sm := smW_rf eBT w0
    refine h_aload rfl l0 rfl ?_
    refine h_getI rfl o0 fi_1_4 (fun b41a b41b => ?_)
    refine h_intv k_4 rfl ?_
    refine i_eq (kn := kn) (t := 0) (tgt := 14) (np := 8) rfl (by unfold R32; omega) (by unfold R32; omega) (fun e42 => ?_) (fun e42 => ?_)
    · refine h_aload rfl l0 rfl ?_
      refine h_getI rfl o0 fi_1_6 (fun b43a b43b => ?_)
      by_cases e44_0 : (gF w0 1 6) = 0
      · refine h_tab 0 e44_0 (by unfold R32; omega) rfl (by omega) (by omega) rfl ?_
        refine h_aload rfl l0 rfl ?_
        refine h_aload rfl l0 rfl ?_
        obtain ⟨wL45, bL45, hf45, oL45', sL45, h3145, hz45⟩ := x_readRows (kn := kn) o0.1 hz
        have oL45 := hO_tr o0 oL45'
        have hb45 := zOK_01 hz45
        refine h_V2 rfl o0 l0 ci_3 rfl rfl hf45 ?_
        refine h_zret (by omega) rfl ?_
        refine ⟨_, _, rfl, oL45, smW_tr sm (sL45), by rw [h3145], ?_⟩
        rw [show zLine B n 900 (S, R, N, hr, hk, hp) = zRows B n 900 (S, R, N, hr, hk, hp) from by
          unfold zLine
          dsimp only
          rw [if_neg (by omega), if_pos (by omega)]]
        exact hz45
      by_cases e44_1 : (gF w0 1 6) = 1
      · refine h_tab 1 e44_1 (by unfold R32; omega) rfl (by omega) (by omega) rfl ?_
        refine h_aload rfl l0 rfl ?_
        refine h_aload rfl l0 rfl ?_
        obtain ⟨wL46, bL46, hf46, oL46', sL46, h3146, hz46⟩ := x_readSigner (kn := kn) o0.1 hz
        have oL46 := hO_tr o0 oL46'
        have hb46 := zOK_01 hz46
        refine h_V2 rfl o0 l0 ci_3 rfl rfl hf46 ?_
        refine h_zret (by omega) rfl ?_
        refine ⟨_, _, rfl, oL46, smW_tr sm (sL46), by rw [h3146], ?_⟩
        rw [show zLine B n 900 (S, R, N, hr, hk, hp) = zSigner B n 900 (S, R, N, hr, hk, hp) from by
          unfold zLine
          dsimp only
          rw [if_neg (by omega), if_neg (by omega), if_pos (by omega)]]
        exact hz46
      by_cases e44_2 : (gF w0 1 6) = 2
      · refine h_tab 2 e44_2 (by unfold R32; omega) rfl (by omega) (by omega) rfl ?_
        refine h_aload rfl l0 rfl ?_
        refine h_intv k_1 rfl ?_
        obtain ⟨wR47, hf47, oR47', sR47, rA47, rB47⟩ := x_refuse (kn := kn) o0.1 1 ⟨by omega, by omega⟩
        have oR47 := hO_tr o0 (hO_mono dBT_k oR47')
        rw [(tkV_i htk.2).1] at rB47
        refine h_V2 rfl o0 l0 ci_1 rfl rfl hf47 ?_
        refine h_zret (by omega) rfl ?_
        refine ⟨_, _, rfl, oR47, smW_tr sm (smW_mono (by decide) sR47), by rw [sR47.1 3 1 (by decide)], ?_⟩
        rw [show zLine B n 900 (S, R, N, hr, hk, hp) = .inl (1, S.2.1) from by
          unfold zLine
          dsimp only
          by_cases c4 : S.1 = 4
          · rw [if_neg (by omega), if_neg (by omega), if_neg (by omega), if_neg (by omega), if_neg (by omega), if_neg (by omega), if_neg (by omega), if_neg (by omega)]
          · rw [if_pos (by omega)], zOK_l]
        exact ⟨rfl, by rw [rA47], by rw [rB47]⟩
      by_cases e44_3 : (gF w0 1 6) = 3
      · refine h_tab 3 e44_3 (by unfold R32; omega) rfl (by omega) (by omega) rfl ?_
        refine h_aload rfl l0 rfl ?_
        refine h_aload rfl l0 rfl ?_
        obtain ⟨wL48, bL48, hf48, oL48', sL48, h3148, hz48⟩ := x_readHeir (kn := kn) o0.1 hz
        have oL48 := hO_tr o0 oL48'
        have hb48 := zOK_01 hz48
        refine h_V2 rfl o0 l0 ci_3 rfl rfl hf48 ?_
        refine h_zret (by omega) rfl ?_
        refine ⟨_, _, rfl, oL48, smW_tr sm (sL48), by rw [h3148], ?_⟩
        rw [show zLine B n 900 (S, R, N, hr, hk, hp) = zHeir B n 900 (S, R, N, hr, hk, hp) from by
          unfold zLine
          dsimp only
          rw [if_neg (by omega), if_neg (by omega), if_neg (by omega), if_pos (by omega)]]
        exact hz48
      by_cases e44_4 : (gF w0 1 6) = 4
      · refine h_tab 4 e44_4 (by unfold R32; omega) rfl (by omega) (by omega) rfl ?_
        refine h_aload rfl l0 rfl ?_
        refine h_aload rfl l0 rfl ?_
        obtain ⟨wL49, bL49, hf49, oL49', sL49, h3149, hz49⟩ := x_readLovers (kn := kn) o0.1 h38 hz
        have oL49 := hO_tr o0 oL49'
        have hb49 := zOK_01 hz49
        refine h_V2 rfl o0 l0 ci_3 rfl rfl hf49 ?_
        refine h_zret (by omega) rfl ?_
        refine ⟨_, _, rfl, oL49, smW_tr sm (sL49), by rw [h3149], ?_⟩
        rw [show zLine B n 900 (S, R, N, hr, hk, hp) = zLovers B n 900 (S, R, N, hr, hk, hp) from by
          unfold zLine
          dsimp only
          rw [if_neg (by omega), if_neg (by omega), if_neg (by omega), if_neg (by omega), if_pos (by omega)]]
        exact hz49
      by_cases e44_5 : (gF w0 1 6) = 5
      · refine h_tab 5 e44_5 (by unfold R32; omega) rfl (by omega) (by omega) rfl ?_
        refine h_aload rfl l0 rfl ?_
        refine h_aload rfl l0 rfl ?_
        obtain ⟨wL50, bL50, hf50, oL50', sL50, h3150, hz50⟩ := x_readPlank (kn := kn) o0.1 hz
        have oL50 := hO_tr o0 oL50'
        have hb50 := zOK_01 hz50
        refine h_V2 rfl o0 l0 ci_3 rfl rfl hf50 ?_
        refine h_zret (by omega) rfl ?_
        refine ⟨_, _, rfl, oL50, smW_tr sm (sL50), by rw [h3150], ?_⟩
        rw [show zLine B n 900 (S, R, N, hr, hk, hp) = zPlank B n 900 (S, R, N, hr, hk, hp) from by
          unfold zLine
          dsimp only
          rw [if_neg (by omega), if_neg (by omega), if_neg (by omega), if_neg (by omega), if_neg (by omega), if_pos (by omega)]]
        exact hz50
      by_cases e44_6 : (gF w0 1 6) = 6
      · refine h_tab 6 e44_6 (by unfold R32; omega) rfl (by omega) (by omega) rfl ?_
        refine h_aload rfl l0 rfl ?_
        refine h_aload rfl l0 rfl ?_
        obtain ⟨wL51, bL51, hf51, oL51', sL51, h3151, hz51⟩ := x_readLoad (kn := kn) o0.1 hz
        have oL51 := hO_tr o0 oL51'
        have hb51 := zOK_01 hz51
        refine h_V2 rfl o0 l0 ci_3 rfl rfl hf51 ?_
        refine h_zret (by omega) rfl ?_
        refine ⟨_, _, rfl, oL51, smW_tr sm (sL51), by rw [h3151], ?_⟩
        rw [show zLine B n 900 (S, R, N, hr, hk, hp) = zLoad B n 900 (S, R, N, hr, hk, hp) from by
          unfold zLine
          dsimp only
          rw [if_neg (by omega), if_neg (by omega), if_neg (by omega), if_neg (by omega), if_neg (by omega), if_neg (by omega), if_pos (by omega)]]
        exact hz51
      by_cases e44_7 : (gF w0 1 6) = 7
      · refine h_tab 7 e44_7 (by unfold R32; omega) rfl (by omega) (by omega) rfl ?_
        refine h_aload rfl l0 rfl ?_
        refine h_aload rfl l0 rfl ?_
        obtain ⟨wL52, bL52, hf52, oL52', sL52, h3152, hz52⟩ := x_readKeeps (kn := kn) o0.1 hz
        have oL52 := hO_tr o0 oL52'
        have hb52 := zOK_01 hz52
        refine h_V2 rfl o0 l0 ci_3 rfl rfl hf52 ?_
        refine h_zret (by omega) rfl ?_
        refine ⟨_, _, rfl, oL52, smW_tr sm (sL52), by rw [h3152], ?_⟩
        rw [show zLine B n 900 (S, R, N, hr, hk, hp) = zKeeps B n 900 (S, R, N, hr, hk, hp) from by
          unfold zLine
          dsimp only
          rw [if_neg (by omega), if_neg (by omega), if_neg (by omega), if_neg (by omega), if_neg (by omega), if_neg (by omega), if_neg (by omega), if_pos (by omega)]]
        exact hz52
      refine h_tabd rfl (by unfold R32; omega) (by omega) ?_
      refine h_aload rfl l0 rfl ?_
      refine h_intv k_1 rfl ?_
      obtain ⟨wR53, hf53, oR53', sR53, rA53, rB53⟩ := x_refuse (kn := kn) o0.1 1 ⟨by omega, by omega⟩
      have oR53 := hO_tr o0 (hO_mono dBT_k oR53')
      rw [(tkV_i htk.2).1] at rB53
      refine h_V2 rfl o0 l0 ci_1 rfl rfl hf53 ?_
      refine h_zret (by omega) rfl ?_
      refine ⟨_, _, rfl, oR53, smW_tr sm (smW_mono (by decide) sR53), by rw [sR53.1 3 1 (by decide)], ?_⟩
      rw [show zLine B n 900 (S, R, N, hr, hk, hp) = .inl (1, S.2.1) from by
        unfold zLine
        dsimp only
        by_cases c4 : S.1 = 4
        · rw [if_neg (by omega), if_neg (by omega), if_neg (by omega), if_neg (by omega), if_neg (by omega), if_neg (by omega), if_neg (by omega), if_neg (by omega)]
        · rw [if_pos (by omega)], zOK_l]
      exact ⟨rfl, by rw [rA53], by rw [rB53]⟩
    · refine h_aload rfl l0 rfl ?_
      refine h_intv k_1 rfl ?_
      obtain ⟨wR54, hf54, oR54', sR54, rA54, rB54⟩ := x_refuse (kn := kn) o0.1 1 ⟨by omega, by omega⟩
      have oR54 := hO_tr o0 (hO_mono dBT_k oR54')
      rw [(tkV_i htk.2).1] at rB54
      refine h_V2 rfl o0 l0 ci_1 rfl rfl hf54 ?_
      refine h_zret (by omega) rfl ?_
      refine ⟨_, _, rfl, oR54, smW_tr sm (smW_mono (by decide) sR54), by rw [sR54.1 3 1 (by decide)], ?_⟩
      rw [show zLine B n 900 (S, R, N, hr, hk, hp) = .inl (1, S.2.1) from by
        unfold zLine
        dsimp only
        by_cases c4 : S.1 = 4
        · rw [if_neg (by omega), if_neg (by omega), if_neg (by omega), if_neg (by omega), if_neg (by omega), if_neg (by omega), if_neg (by omega), if_neg (by omega)]
        · rw [if_pos (by omega)], zOK_l]
      exact ⟨rfl, by rw [rA54], by rw [rB54]⟩
  obtain ⟨r, h1, w2, b, h2, h3⟩ := h_meth1 (nL := 2) rfl K
  rw [h2] at h1
  exact ⟨w2, b, h1, h3⟩
theorem x_takeEnd {kn : sKn} {w0 : sW} {B : Nat → Int} {n L : Nat} {S : tS} (hw : wOk ZZ w0) (ht : tkC B n L S w0) : ∃ (w' : sW) (b : Int), fX9_takeEnd kn [.ref 1] w0 = some (some (hI b), w', 0, 0) ∧ hO dTk w0 w' ∧ smW eTT w0 w' ∧ ((b = 0 ∧ S.1 ≠ 0 ∧ gF w' 1 11 = 1 ∧ gF w' 1 12 = S.2.1) ∨ (b = 1 ∧ S.1 = 0)) := by
  obtain ⟨tx, hv⟩ := ht
  obtain ⟨hat, hnx, hkI, hkN⟩ := tkV_i hv
  obtain ⟨hB, hn1, hn2, hn940, hL940⟩ := tx
  have K : Tp (tX9_takeEnd kn) (fun r => ∃ (w' : sW) (b : Int), r = (some (hI b), w', 0, 0) ∧ hO dTk w0 w' ∧ smW eTT w0 w' ∧ ((b = 0 ∧ S.1 ≠ 0 ∧ gF w' 1 11 = 1 ∧ gF w' 1 12 = S.2.1) ∨ (b = 1 ∧ S.1 = 0))) 0 (lv_args 0 [.ref 1], [], w0, 0, 0) := by
    have l0 : hL (lv_args 0 [.ref 1]) (lv_args 0 [.ref 1]) := hL_ex rfl
    have o0 : hO dTk w0 w0 := hO_rf hw
    have sm := smW_rf eTT w0
    refine h_aload rfl l0 rfl ?_
    refine h_getI rfl o0 fi_1_4 (fun b41a b41b => ?_)
    refine j_ne (kn := kn) (t := 1) (tgt := 18) (np := 7) rfl (by unfold R32; omega) (fun e42 => ?_) (fun e42 => ?_)
    · refine h_aload rfl l0 rfl ?_
      refine h_intv k_1 rfl ?_
      obtain ⟨wR43, hf43, oR43', sR43, rA43, rB43⟩ := x_refuse (kn := kn) o0.1 1 ⟨by omega, by omega⟩
      have oR43 := hO_tr o0 oR43'
      rw [hat] at rB43
      refine h_V2 rfl o0 l0 ci_1 rfl rfl hf43 ?_
      refine h_zret (by omega) rfl ?_
      exact ⟨_, _, rfl, oR43, smW_tr sm (smW_mono (by decide) sR43), Or.inl ⟨rfl, by omega, by rw [rA43], by rw [rB43]⟩⟩
    · refine h_aload rfl l0 rfl ?_
      refine h_getI rfl o0 fi_1_1 (fun b44a b44b => ?_)
      rw [hn1] at b44a b44b ⊢
      refine h_aload rfl l0 rfl ?_
      refine h_getI rfl o0 fi_1_2 (fun b45a b45b => ?_)
      rw [hn2] at b45a b45b ⊢
      refine i_le (kn := kn) (t := 5) (tgt := 24) (np := 18) rfl (by unfold R32; omega) (by unfold R32; omega) (fun e46 => ?_) (fun e46 => ?_)
      · refine h_intv k_1 rfl ?_
        refine h_zret (by omega) rfl ?_
        exact ⟨_, _, rfl, o0, sm, Or.inr ⟨rfl, by omega⟩⟩
      · refine h_aload rfl l0 rfl ?_
        refine h_intv k_1 rfl ?_
        obtain ⟨wR47, hf47, oR47', sR47, rA47, rB47⟩ := x_refuse (kn := kn) o0.1 1 ⟨by omega, by omega⟩
        have oR47 := hO_tr o0 oR47'
        rw [hat] at rB47
        refine h_V2 rfl o0 l0 ci_1 rfl rfl hf47 ?_
        refine h_zret (by omega) rfl ?_
        exact ⟨_, _, rfl, oR47, smW_tr sm (smW_mono (by decide) sR47), Or.inl ⟨rfl, by omega, by rw [rA47], by rw [rB47]⟩⟩
  obtain ⟨r, h1, w2, b, h2, h3⟩ := h_meth1 (nL := 1) rfl K
  rw [h2] at h1
  exact ⟨w2, b, h1, h3⟩
theorem zEnd_i {B : Nat → Int} {n L : Nat} {S T : tS} (hG : tkG B n L S) (h : zEnd B n L S = .inr T) : ∃ p, S.2.2.2.2 ≤ p ∧ p ≤ n ∧ T = lexT B n L p := by
  unfold zEnd at h
  split at h
  · cases h
    exact ⟨_, Nat.le_refl _, tkG_n hG, rfl⟩
  · cases h
theorem zEnd_2 {B : Nat → Int} {n L : Nat} {S T : tS} (h : zEnd B n L S = .inr T) : S.1 = 2 := by
  unfold zEnd at h
  split at h
  · rename_i c
    exact c.1
  · cases h
theorem rd_p {B : Nat → Int} {n p p1 p9 : Nat} {S T : tS} (hp : p ≤ n) (hS : S = lexT B n 900 p) (h4 : S.1 = 4) (h1 : S.2.2.2.2 ≤ p1) (hp1 : p1 ≤ n) (hT : T = lexT B n 900 p1) (h2 : T.1 = 2) (h9 : T.2.2.2.2 ≤ p9) : p + 2 ≤ p9 := by
  have a := (lexT_nx B (L := 900) hp).2.2.1
  rw [← hS] at a
  have b := (lexT_nx B (L := 900) hp1).2.2.1
  rw [← hT] at b
  have a1 := a (by omega)
  have b1 := b (by omega)
  omega
theorem dBT_rf : msub dBT dBT = true := by decide +kernel
theorem x_rdEnd {kn : sKn} {w0 w : sW} {B : Nat → Int} {n f : Nat} {S : tS} {R N : Nat → Int} {hr hk hp l : Int} {lv : List (Nat × Value)} (hk0 : gF w 1 4 = 0) (hz : rpC B n (S, R, N, hr, hk, hp) w) (o0 : hO dBT w0 w) (sm : smW eBT w0 w) (h31 : gF w 3 1 = l) (l0 : hL lv [(0, .ref 3), (1, .ref 1)]) : Tp (tX2_read kn) (fun r => ∃ (w' : sW) (b : Int), r = (some (hI b), w', 0, 0) ∧ hO dBT w0 w' ∧ smW eBT w0 w' ∧ zOK (zLoop B n 900 (f + 1) (S, R, N, hr, hk, hp) l) b (fun e => gF w' 1 11 = e.1 ∧ gF w' 1 12 = e.2) (fun q => gF w' 3 1 = q.1 ∧ pC q.2.2.1 q.2.2.2.1 w')) 83 (lv, [], w, 0, 0) := by
  obtain ⟨htk, hG, hpC, _⟩ := hz
  have htk : tkC B n 900 S w := htk
  have hpC : pC R N w := hpC
  obtain ⟨_, _, tvk, _⟩ := tkV_i htk.2
  refine h_aload rfl l0 rfl ?_
  obtain ⟨wE41, bE41, hf41, oE41', sE41, hz41⟩ := x_takeEnd (kn := kn) o0.1 htk
  have oE41 := hO_tr o0 (hO_mono dBT_k oE41')
  refine h_V1 rfl o0 l0 ci_1 rfl rfl hf41 ?_
  refine h_zret (by omega) rfl ?_
  rcases hz41 with ⟨hb, hs, h11, h12⟩ | ⟨hb, hs⟩
  · refine ⟨_, _, rfl, oE41, smW_tr sm (smW_mono (by decide) sE41), ?_⟩
    rw [show zLoop B n 900 (f + 1) (S, R, N, hr, hk, hp) l = .inl (1, S.2.1) from by
      show (if S.1 = 0 then _ else _) = _
      rw [if_neg hs, show zLine B n 900 (S, R, N, hr, hk, hp) = .inl (1, S.2.1) from if_pos (by show S.1 ≠ 4; omega), zB_l], zOK_l]
    exact ⟨hb, h11, h12⟩
  · refine ⟨_, _, rfl, oE41, smW_tr sm (smW_mono (by decide) sE41), ?_⟩
    rw [show zLoop B n 900 (f + 1) (S, R, N, hr, hk, hp) l = .inr (l, (S, R, N, hr, hk, hp)) from if_pos hs, zOK_r]
    exact ⟨hb, by rw [sE41.1 3 1 (by decide), h31], pC_sm (smW_tr (smW_rf eTT _) (smW_mono (by decide) sE41)) (by decide) hpC⟩
theorem x_rdLoop {kn : sKn} {w0 : sW} {B : Nat → Int} {n : Nat} : ∀ (f : Nat) (S : tS) (R N : Nat → Int) (hr hk hp l : Int) (w : sW) (lv : List (Nat × Value)) (p : Nat), l + (f : Int) = 942 → 0 ≤ l → 2 * l ≤ (p : Int) → p ≤ n → S = lexT B n 900 p → rpC B n (S, R, N, hr, hk, hp) w → zI R → hO dBT w0 w → smW eBT w0 w → gF w 3 1 = l → hL lv [(0, .ref 3), (1, .ref 1)] → Tp (tX2_read kn) (fun r => ∃ (w' : sW) (b : Int), r = (some (hI b), w', 0, 0) ∧ hO dBT w0 w' ∧ smW eBT w0 w' ∧ zOK (zLoop B n 900 f (S, R, N, hr, hk, hp) l) b (fun e => gF w' 1 11 = e.1 ∧ gF w' 1 12 = e.2) (fun q => gF w' 3 1 = q.1 ∧ pC q.2.2.1 q.2.2.2.1 w')) 34 (lv, [], w, 0, 0) := by
  intro f
  induction f with
  | zero =>
    intro S R N hr hk hp l w lv p hlf hl hlp hpn hpS hz zIR o0 sm h31 l0
    have := hz.1.1.2.2.2.1
    omega
  | succ f ih =>
    intro S R N hr hk hp l w lv p hlf hl hlp hpn hpS hz zIR o0 sm h31 l0
    have hn9 := hz.1.1.2.2.2.1
    have hI3 := zIR.2.2.2.1.2
    have hG : tkG B n 900 S := ⟨p, hpn, hpS⟩
    obtain ⟨_, _, tvk, _⟩ := tkV_i hz.1.2
    have tvk : (S.1 = 0 ∧ gF w 1 4 = 0 ∧ n ≤ 900) ∨ (S.1 = 1 ∧ (gF w 1 4 = 1 ∨ (gF w 1 4 = 0 ∧ 900 < n))) ∨ (S.1 = 2 ∧ gF w 1 4 = 2 ∧ gF w 1 6 = S.2.2.1) ∨ (S.1 = 3 ∧ gF w 1 4 = 3 ∧ gF w 1 6 = S.2.2.1) ∨ (S.1 = 4 ∧ gF w 1 4 = 4 ∧ gF w 1 6 = S.2.2.1) ∨ (S.1 = 5 ∧ gF w 1 4 = 5) := tvk
    refine h_aload rfl l0 rfl ?_
    refine h_getI rfl o0 fi_3_1 (fun b41a b41b => ?_)
    rw [h31] at b41a b41b ⊢
    refine h_intv k_940 rfl ?_
    refine i_ge (kn := kn) (t := 3) (tgt := 83) (np := 44) rfl (by unfold R32; omega) (by unfold R32; omega) (fun e42 => ?_) (fun e42 => ?_)
    · omega
    · refine h_aload rfl l0 rfl ?_
      refine h_getI rfl o0 fi_1_4 (fun b43a b43b => ?_)
      refine j_eq (kn := kn) (t := 0) (tgt := 83) (np := 51) rfl (by unfold R32; omega) (fun e44 => ?_) (fun e44 => ?_)
      · exact x_rdEnd (by omega) hz o0 sm h31 l0
      · refine h_aload rfl l0 rfl ?_
        refine h_aload rfl l0 rfl ?_
        obtain ⟨wL45, bL45, hf45, oL45', sL45, h3145, hz45⟩ := x_readLine (kn := kn) o0.1 hI3 hz
        have oL45 := hO_tr o0 oL45'
        rcases hr45 : zLine B n 900 (S, R, N, hr, hk, hp) with eN45 | qN45
        · rw [hr45, zOK_l] at hz45
          obtain ⟨hb45, he145, he245⟩ := hz45
          subst hb45
          refine h_V2 rfl o0 l0 ci_3 rfl rfl hf45 ?_
          refine j_eq (kn := kn) (t := 0) (tgt := 68) (np := 59) rfl (by unfold R32; omega) (fun e46 => ?_) (fun e46 => ?_)
          · refine h_intv k_0 rfl ?_
            refine h_zret (by omega) rfl ?_
            refine ⟨_, _, rfl, oL45, smW_tr sm (sL45), ?_⟩
            rw [show zLoop B n 900 (f + 1) (S, R, N, hr, hk, hp) l = .inl eN45 from by
              show (if S.1 = 0 then _ else _) = _
              rw [if_neg (by omega)]
              rw [hr45, zB_l]
              try dsimp only
              first | done | rfl, zOK_l]
            exact ⟨rfl, by rw [he145], by rw [he245]⟩
          · omega
        · rw [hr45, zOK_r] at hz45
          obtain ⟨hb45, hy45⟩ := hz45
          subst hb45
          obtain ⟨tM45, zI45⟩ := zLine_i hG zIR hr45
          have k445 := zLine_4 hr45
          refine h_V2 rfl o0 l0 ci_3 rfl rfl hf45 ?_
          refine j_eq (kn := kn) (t := 0) (tgt := 68) (np := 59) rfl (by unfold R32; omega) (fun e47 => ?_) (fun e47 => ?_)
          · omega
          · refine h_aload rfl l0 rfl ?_
            refine h_intv k_59 rfl ?_
            obtain ⟨wN48, bN48, hf48, oN48', sN48, hz48⟩ := x_takeSemi (kn := kn) oL45.1 hy45.1 (tkG_n hy45.2.1)
            have oN48 := hO_tr oL45 (hO_mono dBT_k oN48')
            rcases hr48 : zEnd B n 900 qN45.1 with eN48 | qN48
            · rw [hr48, zOK_l] at hz48
              obtain ⟨hb48, he148, he248⟩ := hz48
              subst hb48
              refine h_V2 rfl oL45 l0 ci_1 rfl rfl hf48 ?_
              refine j_ne (kn := kn) (t := 1) (tgt := 70) (np := 68) rfl (by unfold R32; omega) (fun e49 => ?_) (fun e49 => ?_)
              · omega
              · refine h_intv k_0 rfl ?_
                refine h_zret (by omega) rfl ?_
                refine ⟨_, _, rfl, oN48, smW_tr (smW_tr sm (sL45)) (smW_mono (by decide) sN48), ?_⟩
                rw [show zLoop B n 900 (f + 1) (S, R, N, hr, hk, hp) l = .inl eN48 from by
                  show (if S.1 = 0 then _ else _) = _
                  rw [if_neg (by omega)]
                  rw [hr45, zB_r]
                  try dsimp only
                  rw [hr48, zB_l]
                  try dsimp only
                  first | done | rfl, zOK_l]
                exact ⟨rfl, by rw [he148], by rw [he248]⟩
            · rw [hr48, zOK_r] at hz48
              obtain ⟨hb48, ht48⟩ := hz48
              subst hb48
              refine h_V2 rfl oL45 l0 ci_1 rfl rfl hf48 ?_
              refine j_ne (kn := kn) (t := 1) (tgt := 70) (np := 68) rfl (by unfold R32; omega) (fun e50 => ?_) (fun e50 => ?_)
              · refine h_aload rfl l0 rfl ?_
                refine h_dup rfl rfl ?_
                refine h_getI rfl oN48 fi_3_1 (fun b51a b51b => ?_)
                rw [sN48.1 3 1 (by decide), h3145, h31] at b51a b51b ⊢
                refine h_intv k_1 rfl ?_
                refine h_iadd rfl ?_
                refine x_putI rfl oN48 fi_3_1 rfl (by omega) (by omega) (fun w52 o52 q53a q53F q53X q53J q53Y q53R => ?_)
                refine h_goto rfl ?_
                obtain ⟨p1, hp1, hp2, hp3⟩ := tM45
                obtain ⟨p9, hp91, hp92, hp93⟩ := zEnd_i hy45.2.1 hr48
                have hp29 := rd_p hpn hpS k445 hp1 hp2 hp3 (zEnd_2 hr48) hp91
                rw [show zLoop B n 900 (f + 1) (S, R, N, hr, hk, hp) l = zLoop B n 900 f (qN48, qN45.2) (l + 1) from by
                  show (if S.1 = 0 then _ else _) = _
                  rw [if_neg (by omega), hr45, zB_r]
                  try dsimp only
                  rw [hr48, zB_r]]
                exact ih qN48 qN45.2.1 qN45.2.2.1 qN45.2.2.2.1 qN45.2.2.2.2.1 qN45.2.2.2.2.2 (l + 1) w52 _ p9 (by omega) (by omega) (by omega) hp92 hp93 ⟨(tkC_sm (smW_tr (smW_rf ePF _) (sm_pI (by decide) q53F q53X q53J q53Y q53R)) (by decide) ht48), ⟨p9, hp92, hp93⟩, (pC_sm (smW_tr (smW_rf [(0, 3, 1)] _) (sm_pI (by decide) q53F q53X q53J q53Y q53R)) (by decide) (pC_sm (smW_tr (smW_rf eTT _) (smW_mono (by decide) sN48)) (by decide) hy45.2.2.1)), (by rw [q53F 3 2 (by decide), sN48.1 3 2 (by decide)]; exact hy45.2.2.2.1), (by rw [q53F 3 3 (by decide), sN48.1 3 3 (by decide)]; exact hy45.2.2.2.2.1), (by rw [q53F 3 4 (by decide), sN48.1 3 4 (by decide)]; exact hy45.2.2.2.2.2)⟩ zI45 o52 (smW_tr (smW_tr (smW_tr sm (sL45)) (smW_mono (by decide) sN48)) (sm_pI (by decide) q53F q53X q53J q53Y q53R)) (by rw [q53a]) l0
              · omega
end
