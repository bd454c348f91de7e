noncomputable section
def dBr : List (Nat × Nat) := [(61, 779), (61, 23), (61, 24), (61, 25), (61, 26), (63, 999), (68, 999)] ++ dH_begin ++ dRT ++ dX12_startRead ++ dX12_readLine ++ dH_re ++ dX12_startSo
theorem x_take {kn : sKn} {w0 : sW} {n : Nat} (hw : wOk ZZ w0) (h2 : gF w0 213 2 = (n : Int)) : ∃ w', fX12_take kn [.ref 213] w0 = some (some (hI (n : Int)), w', 0, 0) ∧ hO dH_take w0 w' ∧ smW [(0, 213, 2)] w0 w' := by
  have K : Tp (tX12_take kn) (fun r => ∃ w', r = (some (hI (n : Int)), w', 0, 0) ∧ hO dH_take w0 w' ∧ smW [(0, 213, 2)] w0 w') 0 (lv_args 0 [.ref 213], [], w0, 0, 0) := by
    have l0 : hL (lv_args 0 [.ref 213]) (lv_args 0 [.ref 213]) := hL_ex rfl
    have o0 : hO dH_take w0 w0 := hO_rf hw
    have sm := smW_rf [(0, 213, 2)] w0
    refine h_aload rfl l0 rfl ?_
    refine h_getI rfl o0 fi_2 (fun b41a b41b => ?_)
    rw [h2] at b41a b41b ⊢
    refine h_istore rfl l0 (fun vl42 l42 => ?_)
    refine h_aload rfl l42 rfl ?_
    refine h_intv k_0 rfl ?_
    refine x_putI rfl o0 fi_2 rfl (by omega) (by omega) (fun w43 o43 q44a q44F q44X q44J q44Y q44R => ?_)
    refine h_iload rfl l42 rfl ?_
    refine h_iret rfl ?_
    exact ⟨_, rfl, o43, smW_tr sm (sm_pI (by decide) q44F q44X q44J q44Y q44R)⟩
  obtain ⟨r, h3, w2, h4, h5⟩ := h_meth1 (nL := 2) rfl K
  rw [h4] at h3
  exact ⟨w2, h3, h5⟩
def dBG : List (Nat × Nat) := dH_begin ++ dRT
theorem dBG_t : msub dH_take dBG = true := by decide +kernel
theorem dBG_g : msub dH_go7 dBG = true := by decide +kernel
def eBG : List (Nat × Nat × Nat) := [(0, 213, 0), (0, 213, 2), (0, 213, 3), (0, 213, 4), (0, 213, 10), (0, 213, 5), (0, 213, 6), (0, 213, 7), (0, 213, 8), (0, 213, 9), (1, 213, 12)]
theorem ar214 : aR 214 0 940 0 255 = true := by decide +kernel
theorem x_beginR {kn : sKn} {w0 : sW} {B : Nat → Int} {n : Nat} (L : Nat) (hw : wOk ZZ w0) (h2 : gF w0 213 2 = (n : Int)) (hB : ∀ i, i < n → gX w0 214 i = B i) (hn940 : n ≤ 940) (hL940 : L ≤ 940) (hbb : ∀ i, i < n → 0 ≤ B i ∧ B i ≤ 255) : ∃ w', fX12_begin kn [.ref 213, hI (L : Int)] w0 = some (none, w', 0, 0) ∧ hO dBG w0 w' ∧ smW eBG w0 w' ∧ tkR B n L (lexT B n L 0) w' := by
  have K : Tp (tX12_begin kn) (fun r => ∃ w', r = (none, w', 0, 0) ∧ hO dBG w0 w' ∧ smW eBG w0 w' ∧ tkR B n L (lexT B n L 0) w') 0 (lv_args 0 [.ref 213, hI (L : Int)], [], w0, 0, 0) := by
    have l0 : hL (lv_args 0 [.ref 213, hI (L : Int)]) (lv_args 0 [.ref 213, hI (L : Int)]) := hL_ex rfl
    have o0 : hO dBG w0 w0 := hO_rf hw
    have sm := smW_rf eBG w0
    refine h_aload rfl l0 rfl ?_
    refine h_intv k_0 rfl ?_
    refine x_putI rfl o0 fi_0 rfl (by omega) (by omega) (fun w41 o41 q42a q42F q42X q42J q42Y q42R => ?_)
    refine h_aload rfl l0 rfl ?_
    refine h_aload rfl l0 rfl ?_
    obtain ⟨wT, hf43, oT', sT⟩ := x_take (kn := kn) (n := n) o41.1 (by rw [q42F 213 2 (by decide), h2])
    have oT := hO_tr o41 (hO_mono dBG_t oT')
    refine h_V1 rfl o41 l0 ci_213 rfl rfl hf43 ?_
    refine x_putI rfl oT fi_3 rfl (by omega) (by omega) (fun w44 o44 q45a q45F q45X q45J q45Y q45R => ?_)
    refine h_aload rfl l0 rfl ?_
    refine h_iload rfl l0 rfl ?_
    refine x_putI rfl o44 fi_4 rfl (by omega) (by omega) (fun w46 o46 q47a q47F q47X q47J q47Y q47R => ?_)
    refine h_aload rfl l0 rfl ?_
    refine h_intv k_0 rfl ?_
    refine x_putI rfl o46 fi_10 rfl (by omega) (by omega) (fun w48 o48 q49a q49F q49X q49J q49Y q49R => ?_)
    refine h_aload rfl l0 rfl ?_
    refine h_intv k_0 rfl ?_
    refine x_putI rfl o48 fi_5 rfl (by omega) (by omega) (fun w50 o50 q51a q51F q51X q51J q51Y q51R => ?_)
    refine h_aload rfl l0 rfl ?_
    obtain ⟨wG, hf52, oG', sG, tG⟩ := x_go (kn := kn) (B := B) (n := n) (L := L) ⟨fun i hi => by rw [q51X 214 i, q49X 214 i, q47X 214 i, q45X 214 i, sT.2.2.1 214 i (by decide), q42X 214 i]; exact hB i hi, by rw [q51F 213 3 (by decide), q49F 213 3 (by decide), q47F 213 3 (by decide), q45a], by rw [q51F 213 4 (by decide), q49F 213 4 (by decide), q47a], hn940, hL940, hbb⟩ o50.1 (p := 0) (Nat.zero_le _) (by rw [q51a]; rfl)
    have oG := hO_tr o50 (hO_mono dBG_g oG')
    refine h_W1 rfl o50 l0 ci_213 rfl rfl hf52 ?_
    refine h_vret rfl ?_
    exact ⟨_, rfl, oG, smW_tr (smW_tr (smW_tr (smW_tr (smW_tr (smW_tr (smW_tr sm (sm_pI (by decide) q42F q42X q42J q42Y q42R)) (smW_mono (by decide) sT)) (sm_pI (by decide) q45F q45X q45J q45Y q45R)) (sm_pI (by decide) q47F q47X q47J q47Y q47R)) (sm_pI (by decide) q49F q49X q49J q49Y q49R)) (sm_pI (by decide) q51F q51X q51J q51Y q51R)) (smW_mono (by decide) sG), tG⟩
  obtain ⟨r, h3, w2, h4, h5⟩ := h_meth1 (nL := 2) rfl K
  rw [h4] at h3
  exact ⟨w2, h3, h5⟩
theorem zl_0 {B : Nat → Int} {n L : Nat} {S : tS} {R N : Nat → Int} {hr hk hp : Int} (h4 : S.1 = 4) (h : S.2.2.1 = 0) : zLine B n L (S, R, N, hr, hk, hp) = zRows B n L (S, R, N, hr, hk, hp) := by
  unfold zLine
  dsimp only
  rw [if_neg (by omega), if_pos (by omega)]
theorem zl_1 {B : Nat → Int} {n L : Nat} {S : tS} {R N : Nat → Int} {hr hk hp : Int} (h4 : S.1 = 4) (h : S.2.2.1 = 1) : zLine B n L (S, R, N, hr, hk, hp) = zSigner B n L (S, R, N, hr, hk, hp) := by
  unfold zLine
  dsimp only
  rw [if_neg (by omega), if_neg (by omega), if_pos (by omega)]
theorem zl_3 {B : Nat → Int} {n L : Nat} {S : tS} {R N : Nat → Int} {hr hk hp : Int} (h4 : S.1 = 4) (h : S.2.2.1 = 3) : zLine B n L (S, R, N, hr, hk, hp) = zHeir B n L (S, R, N, hr, hk, hp) := by
  unfold zLine
  dsimp only
  rw [if_neg (by omega), if_neg (by omega), if_neg (by omega), if_pos (by omega)]
theorem zl_4 {B : Nat → Int} {n L : Nat} {S : tS} {R N : Nat → Int} {hr hk hp : Int} (h4 : S.1 = 4) (h : S.2.2.1 = 4) : zLine B n L (S, R, N, hr, hk, hp) = zLovers B n L (S, R, N, hr, hk, hp) := by
  unfold zLine
  dsimp only
  rw [if_neg (by omega), if_neg (by omega), if_neg (by omega), if_neg (by omega), if_pos (by omega)]
theorem zl_5 {B : Nat → Int} {n L : Nat} {S : tS} {R N : Nat → Int} {hr hk hp : Int} (h4 : S.1 = 4) (h : S.2.2.1 = 5) : zLine B n L (S, R, N, hr, hk, hp) = zPlank B n L (S, R, N, hr, hk, hp) := by
  unfold zLine
  dsimp only
  rw [if_neg (by omega), if_neg (by omega), if_neg (by omega), if_neg (by omega), if_neg (by omega), if_pos (by omega)]
theorem zl_6 {B : Nat → Int} {n L : Nat} {S : tS} {R N : Nat → Int} {hr hk hp : Int} (h4 : S.1 = 4) (h : S.2.2.1 = 6) : zLine B n L (S, R, N, hr, hk, hp) = zLoad B n L (S, R, N, hr, hk, hp) := by
  unfold zLine
  dsimp only
  rw [if_neg (by omega), if_neg (by omega), if_neg (by omega), if_neg (by omega), if_neg (by omega), if_neg (by omega), if_pos (by omega)]
theorem zl_7 {B : Nat → Int} {n L : Nat} {S : tS} {R N : Nat → Int} {hr hk hp : Int} (h4 : S.1 = 4) (h : S.2.2.1 = 7) : zLine B n L (S, R, N, hr, hk, hp) = zKeeps B n L (S, R, N, hr, hk, hp) := by
  unfold zLine
  dsimp only
  rw [if_neg (by omega), if_neg (by omega), if_neg (by omega), if_neg (by omega), if_neg (by omega), if_neg (by omega), if_neg (by omega), if_pos (by omega)]
theorem zl_b {B : Nat → Int} {n L : Nat} {S : tS} {R N : Nat → Int} {hr hk hp : Int} (h : S.1 ≠ 4 ∨ (S.2.2.1 ≠ 0 ∧ S.2.2.1 ≠ 1 ∧ S.2.2.1 ≠ 3 ∧ S.2.2.1 ≠ 4 ∧ S.2.2.1 ≠ 5 ∧ S.2.2.1 ≠ 6 ∧ S.2.2.1 ≠ 7)) : zLine B n L (S, R, N, hr, hk, hp) = .inl (1, S.2.1) := by
  unfold zLine
  dsimp only
  by_cases c4 : S.1 = 4
  · rw [if_neg (by omega), if_neg (by omega), if_neg (by omega), if_neg (by omega), if_neg (by omega), if_neg (by omega), if_neg (by omega), if_neg (by omega)]
  · rw [if_pos (by omega)]
theorem x_readLineR {kn : sKn} {w0 : sW} {B : Nat → Int} {n : Nat} {S : tS} {R N : Nat → Int} {hr hk hp : Int} (hw : wOk ZZ w0) (hz : rpR B n (S, R, N, hr, hk, hp) w0) (zIR : zI R) : ∃ (w' : sW) (b : Int), fX12_readLine kn [.ref 213] w0 = some (some (hI b), w', 0, 0) ∧ hO dRT w0 w' ∧ smW eRA w0 w' ∧ zOK (zLine B n 900 (S, R, N, hr, hk, hp)) b (fun e => erR e w') (fun Y => rpR B n Y w') := by
  obtain ⟨htk, hG, hpR, hf2, hf3, hf4⟩ := id hz
  have htk : tkR B n 900 S w0 := htk
  have hG : tkG B n 900 S := hG
  have hpR : pR R N w0 := hpR
  have hf2 : gF w0 213 24 = hr := hf2
  have hf3 : gF w0 213 25 = hk := hf3
  have hf4 : gF w0 213 26 = hp := hf4
  have hnb := pR_b hpR hw
  have gbS := tkG_b hG
  obtain ⟨_, hkI, hto, _⟩ := tkU_i htk.2
  have hn9 := htk.1.2.2.2.1
  have K : Tp (tX12_readLine kn) (fun r => ∃ (w' : sW) (b : Int), r = (some (hI b), w', 0, 0) ∧ hO dRT w0 w' ∧ smW eRA w0 w' ∧ zOK (zLine B n 900 (S, R, N, hr, hk, hp)) b (fun e => erR e w') (fun Y => rpR B n Y w')) 0 (lv_args 0 [.ref 213], [], w0, 0, 0) := by
    have l0 : hL (lv_args 0 [.ref 213]) (lv_args 0 [.ref 213]) := hL_ex rfl
    have o0 : hO dRT w0 w0 := hO_rf hw
    have sm := smW_rf eRA w0
    refine h_aload rfl l0 rfl ?_
    refine h_intv k_0 rfl ?_
    obtain ⟨z41, hf41, hz41⟩ := x_isWord (kn := kn) o0.1 htk hG 0 (by omega)
    refine h_V2 rfl o0 l0 ci_213 rfl rfl hf41 ?_
    refine j_eq (kn := kn) (t := 0) (tgt := 13) (np := 8) rfl (by unfold R32; omega) (fun e42 => ?_) (fun e42 => ?_)
    · refine h_aload rfl l0 rfl ?_
      refine h_intv k_1 rfl ?_
      obtain ⟨z43, hf43, hz43⟩ := x_isWord (kn := kn) o0.1 htk hG 1 (by omega)
      refine h_V2 rfl o0 l0 ci_213 rfl rfl hf43 ?_
      refine j_eq (kn := kn) (t := 0) (tgt := 26) (np := 21) rfl (by unfold R32; omega) (fun e44 => ?_) (fun e44 => ?_)
      · refine h_aload rfl l0 rfl ?_
        refine h_intv k_3 rfl ?_
        obtain ⟨z45, hf45, hz45⟩ := x_isWord (kn := kn) o0.1 htk hG 3 (by omega)
        refine h_V2 rfl o0 l0 ci_213 rfl rfl hf45 ?_
        refine j_eq (kn := kn) (t := 0) (tgt := 39) (np := 34) rfl (by unfold R32; omega) (fun e46 => ?_) (fun e46 => ?_)
        · refine h_aload rfl l0 rfl ?_
          refine h_intv k_4 rfl ?_
          obtain ⟨z47, hf47, hz47⟩ := x_isWord (kn := kn) o0.1 htk hG 4 (by omega)
          refine h_V2 rfl o0 l0 ci_213 rfl rfl hf47 ?_
          refine j_eq (kn := kn) (t := 0) (tgt := 52) (np := 47) rfl (by unfold R32; omega) (fun e48 => ?_) (fun e48 => ?_)
          · refine h_aload rfl l0 rfl ?_
            refine h_intv k_5 rfl ?_
            obtain ⟨z49, hf49, hz49⟩ := x_isWord (kn := kn) o0.1 htk hG 5 (by omega)
            refine h_V2 rfl o0 l0 ci_213 rfl rfl hf49 ?_
            refine j_eq (kn := kn) (t := 0) (tgt := 65) (np := 60) rfl (by unfold R32; omega) (fun e50 => ?_) (fun e50 => ?_)
            · refine h_aload rfl l0 rfl ?_
              refine h_intv k_6 rfl ?_
              obtain ⟨z51, hf51, hz51⟩ := x_isWord (kn := kn) o0.1 htk hG 6 (by omega)
              refine h_V2 rfl o0 l0 ci_213 rfl rfl hf51 ?_
              refine j_eq (kn := kn) (t := 0) (tgt := 79) (np := 74) rfl (by unfold R32; omega) (fun e52 => ?_) (fun e52 => ?_)
              · refine h_aload rfl l0 rfl ?_
                refine h_intv k_7 rfl ?_
                obtain ⟨z53, hf53, hz53⟩ := x_isWord (kn := kn) o0.1 htk hG 7 (by omega)
                refine h_V2 rfl o0 l0 ci_213 rfl rfl hf53 ?_
                refine j_ne (kn := kn) (t := 1) (tgt := 94) (np := 88) rfl (by unfold R32; omega) (fun e54 => ?_) (fun e54 => ?_)
                · refine h_aload rfl l0 rfl ?_
                  refine h_getI rfl o0 fi_25 (fun b55a b55b => ?_)
                  rw [hf3] at b55a b55b ⊢
                  refine j_eq (kn := kn) (t := 0) (tgt := 107) (np := 101) rfl (by unfold R32; omega) (fun e56 => ?_) (fun e56 => ?_)
                  · refine h_aload rfl l0 rfl ?_
                    refine h_intv k_1 rfl ?_
                    refine x_putK (by rfl) rfl o0 fi_25 rfl (by omega) (by omega) (fun w57 o57 q58a q58F q58X q58J q58Y q58R => ?_)
                    refine h_aload rfl l0 rfl ?_
                    obtain ⟨wG59, hf59, oG59', sG59, tG59⟩ := x_go (kn := kn) (tkR_sm (smW_tr (smW_rf eRQ _) (sm_pI (by decide) q58F q58X q58J q58Y q58R)) (by decide) htk).1 o57.1 (p := S.2.2.2.2) (tkG_n hG) ((tkU_i (tkR_sm (smW_tr (smW_rf eRQ _) (sm_pI (by decide) q58F q58X q58J q58Y q58R)) (by decide) htk).2).2.2.1 (by omega))
                    have oG59 := hO_tr o57 (hO_mono dRT_g oG59')
                    have tG59 : tkR B n 900 (nxT B n 900 S) wG59 := tG59
                    refine h_W1 rfl o57 l0 ci_213 rfl rfl hf59 ?_
                    refine h_aload rfl l0 rfl ?_
                    refine h_intv k_4 rfl ?_
                    refine h_aload rfl l0 rfl ?_
                    refine h_intv k_0 rfl ?_
                    refine h_intv k_30 rfl ?_
                    obtain ⟨wN60, bN60, hf60, oN60', sN60, hz60⟩ := x_readNumberR (kn := kn) oG59.1 tG59 (tkG_nx hG) 0 30 ⟨by omega, by omega⟩ ⟨by omega, by omega⟩
                    have oN60 := hO_tr oG59 oN60'
                    rcases hr60 : zNum B n 900 0 30 (nxT B n 900 S) with eN60 | qN60
                    · rw [hr60, zOK_l] at hz60
                      obtain ⟨hb60, he160, he260⟩ := hz60
                      subst hb60
                      refine h_V3 rfl oG59 l0 ci_213 rfl rfl hf60 ?_
                      have hf61 := x_put0 (kn := kn) oN60.1 4
                      refine h_V3 rfl oN60 l0 ci_213 rfl rfl hf61 ?_
                      refine h_zret (by omega) rfl ?_
                      refine ⟨_, _, rfl, oN60, smW_tr (smW_tr (smW_tr sm (sm_pI (by decide) q58F q58X q58J q58Y q58R)) (smW_mono (by decide) sG59)) (smW_mono (by decide) sN60), ?_⟩
                      rw [zl_7 (by omega) (by omega)]
                      rw [show zKeeps B n 900 (S, R, N, hr, hk, hp) = .inl eN60 from by
                        unfold zKeeps
                        try dsimp only
                        rw [if_neg (by omega)]
                        try dsimp only
                        rw [hr60, zB_l]
                        try dsimp only
                        first | done | rfl, zOK_l]
                      exact ⟨rfl, ⟨by rw [he160], by rw [he260]⟩⟩
                    · rw [hr60, zOK_r] at hz60
                      obtain ⟨hb60, hv60, ht60⟩ := hz60
                      subst hb60
                      obtain ⟨hq60, hlo60, hhi60⟩ := zNum_r hr60
                      have G60 : tkG B n 900 qN60.2 := by
                        rw [hq60]
                        exact tkG_nx (tkG_nx hG)
                      refine h_V3 rfl oG59 l0 ci_213 rfl rfl hf60 ?_
                      have tv62 : gF wN60 213 13 = qN60.1 := by rw [hv60]
                      obtain ⟨wP62, hf62, oP62', sP62, pa62, pn62⟩ := x_put1 (kn := kn) oN60.1 (4) 4 11 (-2147483648) 2147483647 ap216_4 (by omega) (by omega) (by omega) (by omega) (by omega)
                      have oP62 := hO_tr oN60 oP62'
                      rw [tv62] at pa62
                      refine h_V3 rfl oN60 l0 ci_213 rfl rfl hf62 ?_
                      refine h_zret (by omega) rfl ?_
                      refine ⟨_, _, rfl, oP62, smW_tr (smW_tr (smW_tr (smW_tr sm (sm_pI (by decide) q58F q58X q58J q58Y q58R)) (smW_mono (by decide) sG59)) (smW_mono (by decide) sN60)) (smW_mono (by decide) sP62), ?_⟩
                      rw [zl_7 (by omega) (by omega)]
                      rw [show zKeeps B n 900 (S, R, N, hr, hk, hp) = .inr (qN60.2, zU R 4 qN60.1, N, hr, 1, hp) from by
                        unfold zKeeps
                        try dsimp only
                        rw [if_neg (by omega)]
                        try dsimp only
                        rw [hr60, zB_r]
                        try dsimp only
                        first | done | rfl, zOK_r]
                      exact ⟨rfl, (tkR_sm (smW_tr (smW_rf eRQ _) (smW_mono (by decide) sP62)) (by decide) ht60), G60, pR_mk (R' := zU R 4 qN60.1) (pX_set (pX_sm (smW_tr (smW_tr (smW_tr (smW_rf eRWx _) (sm_pI (by decide) q58F q58X q58J q58Y q58R)) (smW_mono (by decide) sG59)) (smW_mono (by decide) sN60)) (by decide) (hpR.1)) pa62 pn62) (zU_n _ _ (by omega)) (zU_n _ _ (by omega)) (fun i => by rw [sP62.2.2.2.1 221 i (by decide), sN60.2.2.2.1 221 i (by decide), sG59.2.2.2.1 221 i (by decide), q58Y 221 i]) hpR, by rw [sP62.1 213 24 (by decide), sN60.1 213 24 (by decide), sG59.1 213 24 (by decide), q58F 213 24 (by decide), hf2], by rw [sP62.1 213 25 (by decide), sN60.1 213 25 (by decide), sG59.1 213 25 (by decide), q58a], by rw [sP62.1 213 26 (by decide), sN60.1 213 26 (by decide), sG59.1 213 26 (by decide), q58F 213 26 (by decide), hf4]⟩
                  · refine h_aload rfl l0 rfl ?_
                    refine h_intv k_3 rfl ?_
                    obtain ⟨wR63, hf63, oR63', sR63, rA63, rB63⟩ := x_bad (kn := kn) o0.1 htk hG 3 ⟨by omega, by omega⟩
                    have oR63 := hO_tr o0 oR63'
                    rw [if_k (by omega)] at rA63
                    refine h_V2 rfl o0 l0 ci_213 rfl rfl hf63 ?_
                    refine h_zret (by omega) rfl ?_
                    refine ⟨_, _, rfl, oR63, smW_tr sm (smW_mono (by decide) sR63), ?_⟩
                    rw [zl_7 (by omega) (by omega)]
                    rw [show zKeeps B n 900 (S, R, N, hr, hk, hp) = .inl (3, S.2.1) from by
                      unfold zKeeps
                      try dsimp only
                      rw [if_pos (by omega)]
                      try dsimp only
                      first | done | rfl, zOK_l]
                    exact ⟨rfl, ⟨by rw [rA63], by rw [rB63]⟩⟩
                · refine h_aload rfl l0 rfl ?_
                  refine h_intv k_1 rfl ?_
                  obtain ⟨wR64, hf64, oR64', sR64, rA64, rB64⟩ := x_bad (kn := kn) o0.1 htk hG 1 ⟨by omega, by omega⟩
                  have oR64 := hO_tr o0 oR64'
                  rw [if_k (by omega)] at rA64
                  refine h_V2 rfl o0 l0 ci_213 rfl rfl hf64 ?_
                  refine h_zret (by omega) rfl ?_
                  refine ⟨_, _, rfl, oR64, smW_tr sm (smW_mono (by decide) sR64), ?_⟩
                  rw [zl_b (by omega), zOK_l]
                  exact ⟨rfl, ⟨by rw [rA64], by rw [rB64]⟩⟩
              · refine h_aload rfl l0 rfl ?_
                obtain ⟨wL65, bL65, hf65, oL65', sL65, hz65⟩ := x_readLoadR (kn := kn) o0.1 hz (by omega)
                have oL65 := hO_tr o0 oL65'
                have hb65 := zOK_01 hz65
                refine h_V1 rfl o0 l0 ci_213 rfl rfl hf65 ?_
                refine h_zret (by omega) rfl ?_
                refine ⟨_, _, rfl, oL65, smW_tr sm (sL65), ?_⟩
                rw [zl_6 (by omega) (by omega)]
                exact hz65
            · refine h_aload rfl l0 rfl ?_
              obtain ⟨wL66, bL66, hf66, oL66', sL66, hz66⟩ := x_readPlankR (kn := kn) o0.1 hz (by omega) zIR.2.2.2.2 zIR.1.1
              have oL66 := hO_tr o0 oL66'
              have hb66 := zOK_01 hz66
              refine h_V1 rfl o0 l0 ci_213 rfl rfl hf66 ?_
              refine h_zret (by omega) rfl ?_
              refine ⟨_, _, rfl, oL66, smW_tr sm (sL66), ?_⟩
              rw [zl_5 (by omega) (by omega)]
              exact hz66
          · refine h_aload rfl l0 rfl ?_
            obtain ⟨wL67, bL67, hf67, oL67', sL67, hz67⟩ := x_readLoversR (kn := kn) o0.1 hz (by omega)
            have oL67 := hO_tr o0 oL67'
            have hb67 := zOK_01 hz67
            refine h_V1 rfl o0 l0 ci_213 rfl rfl hf67 ?_
            refine h_zret (by omega) rfl ?_
            refine ⟨_, _, rfl, oL67, smW_tr sm (sL67), ?_⟩
            rw [zl_4 (by omega) (by omega)]
            exact hz67
        · refine h_aload rfl l0 rfl ?_
          obtain ⟨wL68, bL68, hf68, oL68', sL68, hz68⟩ := x_readHeirR (kn := kn) o0.1 hz (by omega)
          have oL68 := hO_tr o0 oL68'
          have hb68 := zOK_01 hz68
          refine h_V1 rfl o0 l0 ci_213 rfl rfl hf68 ?_
          refine h_zret (by omega) rfl ?_
          refine ⟨_, _, rfl, oL68, smW_tr sm (sL68), ?_⟩
          rw [zl_3 (by omega) (by omega)]
          exact hz68
      · refine h_aload rfl l0 rfl ?_
        obtain ⟨wL69, bL69, hf69, oL69', sL69, hz69⟩ := x_readSignerR (kn := kn) o0.1 hz (by omega)
        have oL69 := hO_tr o0 oL69'
        have hb69 := zOK_01 hz69
        refine h_V1 rfl o0 l0 ci_213 rfl rfl hf69 ?_
        refine h_zret (by omega) rfl ?_
        refine ⟨_, _, rfl, oL69, smW_tr sm (sL69), ?_⟩
        rw [zl_1 (by omega) (by omega)]
        exact hz69
    · refine h_aload rfl l0 rfl ?_
      obtain ⟨wL70, bL70, hf70, oL70', sL70, hz70⟩ := x_readRowsR (kn := kn) o0.1 hz (by omega)
      have oL70 := hO_tr o0 oL70'
      have hb70 := zOK_01 hz70
      refine h_V1 rfl o0 l0 ci_213 rfl rfl hf70 ?_
      refine h_zret (by omega) rfl ?_
      refine ⟨_, _, rfl, oL70, smW_tr sm (sL70), ?_⟩
      rw [zl_0 (by omega) (by omega)]
      exact hz70
  obtain ⟨r, h1, w2, b, h2, h3⟩ := h_meth1 (nL := 1) rfl K
  rw [h2] at h1
  exact ⟨w2, b, h1, h3⟩
theorem bx_e {kn : sKn} {w0 w : sW} (n : Int) (lv : List (Nat × Value)) (o0 : hO dH_br w0 w) (l0 : hL lv [(0, .ref 213), (1, hI n)]) : Tp (tX12_bridge kn) (fun r => ∃ w', r = (some (hI n), w', 0, 0)) 114 (lv, [], w, 0, 0) := by
  refine h_aload rfl l0 rfl ?_
  obtain ⟨wA, hf1, oA'⟩ := s_startSo (kn := kn) o0.1
  have oA : hO dH_br w0 wA := hO_tr o0 (hO_mono dH_br5 oA')
  refine h_W1 rfl o0 l0 ci_213 rfl rfl hf1 ?_
  refine h_aload rfl l0 rfl ?_
  refine h_intv k_0 rfl ?_
  refine h_putI rfl oA fi_23 rfl (by omega) (by omega) (fun w2 o2 q3a q3b q3c => ?_)
  refine h_iload rfl l0 rfl ?_
  refine h_iret rfl ?_
  exact ⟨_, rfl⟩
theorem bx_n {kn : sKn} {w0 : sW} (n : Int) : ∀ (m k : Nat) (w : sW) (lv : List (Nat × Value)) (x : Int), k + m = 16 → x = (k : Int) → hO dH_br w0 w → hL lv [(0, .ref 213), (1, hI n), (2, hI x)] → Tp (tX12_bridge kn) (fun r => ∃ w', r = (some (hI n), w', 0, 0)) 90 (lv, [], w, 0, 0) := by
  intro m
  induction m with
  | zero =>
    intro k w lv x hkm hxk o0 l0
    subst hxk
    refine h_iload rfl l0 rfl ?_
    refine h_intv k_16 rfl ?_
    refine i_ge (kn := kn) (t := 3) (tgt := 114) (np := 96) rfl (by unfold R32; omega) (by unfold R32; omega) (fun e1 => ?_) (fun e1 => ?_)
    · exact bx_e n _ o0 (hL_take 2 l0)
    · omega
  | succ m ih =>
    intro k w lv x hkm hxk o0 l0
    subst hxk
    refine h_iload rfl l0 rfl ?_
    refine h_intv k_16 rfl ?_
    refine i_ge (kn := kn) (t := 3) (tgt := 114) (np := 96) rfl (by unfold R32; omega) (by unfold R32; omega) (fun e1 => ?_) (fun e1 => ?_)
    · omega
    · refine h_aload rfl l0 rfl ?_
      refine h_getR rfl o0 fr_19 ?_
      refine h_iload rfl l0 rfl ?_
      refine h_aload rfl l0 rfl ?_
      refine h_getR rfl o0 fr_20 ?_
      refine h_iload rfl l0 rfl ?_
      refine h_lald (k) rfl o0 aj_221 rfl (by omega) (by omega) (fun j2 => ?_)
      refine h_last (k) rfl o0 aj_220 rfl rfl (by omega) (by omega) (fun w3 o3 q4b q4c => ?_)
      refine h_iincv k_1 rfl l0 rfl (fun vl5 l5 => ?_)
      refine h_goto rfl ?_
      exact ih (k + 1) w3 _ ((k : Int) + 1) (by omega) (by omega) o3 l5
theorem bx_r {kn : sKn} {w0 : sW} (n : Int) : ∀ (m k : Nat) (w : sW) (lv : List (Nat × Value)) (x : Int), k + m = 94 → x = (k : Int) → hO dH_br w0 w → (1 ≤ gX w 216 0 ∧ gX w 216 0 ≤ 12) → hL lv [(0, .ref 213), (1, hI n), (2, hI x)] → Tp (tX12_bridge kn) (fun r => ∃ w', r = (some (hI n), w', 0, 0)) 64 (lv, [], w, 0, 0) := by
  intro m
  induction m with
  | zero =>
    intro k w lv x hkm hxk o0 hr l0
    subst hxk
    refine h_iload rfl l0 rfl ?_
    refine h_intv k_94 rfl ?_
    refine i_ge (kn := kn) (t := 3) (tgt := 88) (np := 70) rfl (by unfold R32; omega) (by unfold R32; omega) (fun e1 => ?_) (fun e1 => ?_)
    · refine h_intv k_0 rfl ?_
      refine h_istore rfl l0 (fun vl2 l2 => ?_)
      exact bx_n n 16 0 _ _ 0 rfl rfl o0 l2
    · omega
  | succ m ih =>
    intro k w lv x hkm hxk o0 hr l0
    subst hxk
    refine h_iload rfl l0 rfl ?_
    refine h_intv k_94 rfl ?_
    refine i_ge (kn := kn) (t := 3) (tgt := 88) (np := 70) rfl (by unfold R32; omega) (by unfold R32; omega) (fun e1 => ?_) (fun e1 => ?_)
    · omega
    · refine h_aload rfl l0 rfl ?_
      refine h_getR rfl o0 fr_14 ?_
      refine h_iload rfl l0 rfl ?_
      refine h_aload rfl l0 rfl ?_
      refine h_getR rfl o0 fr_15 ?_
      refine h_iload rfl l0 rfl ?_
      refine h_ialdj (k) rfl o0 ai_216 rfl (by omega) (by omega) (fun b2a b2b => ?_)
      refine h_iaste (k) rfl o0 ai_215 rfl rfl (by omega) (by omega) (rd_seg o0 hr (by omega)) (by unfold R32; omega) (fun w3 o3 q4a q4b q4c => ?_)
      refine h_iincv k_1 rfl l0 rfl (fun vl5 l5 => ?_)
      refine h_goto rfl ?_
      exact ih (k + 1) w3 _ ((k : Int) + 1) (by omega) (by omega) o3 (by rw [q4b 216 0 (fun z => absurd z (by decide))]; exact hr) l5
theorem dBr_R : msub dRT dBr = true := by decide +kernel
theorem dBr_G : msub dBG dBr = true := by decide +kernel
theorem x_brLoop {kn : sKn} {B : Nat → Int} {n : Nat} : ∀ (f : Nat) (S : tS) (R N : Nat → Int) (hr hk hp l : Int) (w : sW) (lv : List (Nat × Value)) (p : Nat), l + (f : Int) = 942 → 0 ≤ l → 2 * l ≤ (p : Int) → p ≤ n → S = lexT B n 900 p → rpR B n (S, R, N, hr, hk, hp) w → zI R → wOk ZZ w → hL lv [(0, .ref 213), (1, hI l)] → Tp (tX12_bridge kn) (fun r => ∃ (w' : sW) (v : Int), r = (some (hI v), w', 0, 0) ∧ v = zAns (zLoop B n 900 f (S, R, N, hr, hk, hp) l)) 28 (lv, [], w, 0, 0) := by
  intro f
  induction f with
  | zero =>
    intro S R N hr hk hp l w lv p hlf hl hlp hpn hpS hz zIR hw l0
    have := hz.1.1.2.2.2.1
    omega
  | succ f ih =>
    intro S R N hr hk hp l w lv p hlf hl hlp hpn hpS hz zIR hw l0
    have o0 : hO dBr w w := hO_rf hw
    have htk : tkR B n 900 S w := hz.1
    have hn9 := htk.1.2.2.2.1
    have hG : tkG B n 900 S := ⟨p, hpn, hpS⟩
    obtain ⟨_, hkI, hto, _⟩ := tkU_i htk.2
    refine h_aload rfl l0 rfl ?_
    refine h_getI rfl o0 fi_7 (fun b41a b41b => ?_)
    refine j_eq (kn := kn) (t := 0) (tgt := 62) (np := 35) rfl (by unfold R32; omega) (fun e42 => ?_) (fun e42 => ?_)
    · rw [show zLoop B n 900 (f + 1) (S, R, N, hr, hk, hp) l = .inr (l, (S, R, N, hr, hk, hp)) from if_pos (by show S.1 = 0; omega)]
      refine h_intv k_0 rfl ?_
      refine h_istore rfl l0 (fun v9 l9 => ?_)
      refine Tp_mono ?_ (bx_r (kn := kn) (w0 := w) l 94 0 w _ 0 rfl rfl (hO_rf o0.1) (by rw [hz.2.2.1.1 0 (by omega)]; exact zIR.1) l9)
      intro r hr9
      obtain ⟨w', e9⟩ := hr9
      exact ⟨w', _, e9, rfl⟩
    · refine h_aload rfl l0 rfl ?_
      obtain ⟨wL43, bL43, hf43, oL43', sL43, hz43⟩ := x_readLineR (kn := kn) o0.1 hz zIR
      have oL43 := hO_tr o0 (hO_mono dBr_R oL43')
      rcases hr43 : zLine B n 900 (S, R, N, hr, hk, hp) with eN43 | qN43
      · rw [hr43, zOK_l] at hz43
        obtain ⟨hb43, he143, he243⟩ := hz43
        subst hb43
        refine h_V1 rfl o0 l0 ci_213 rfl rfl hf43 ?_
        refine j_eq (kn := kn) (t := 0) (tgt := 49) (np := 42) rfl (by unfold R32; omega) (fun e44 => ?_) (fun e44 => ?_)
        · refine h_intv k_n1 rfl ?_
          refine h_aload rfl l0 rfl ?_
          refine h_getI rfl oL43 fi_11 (fun b45a b45b => ?_)
          rw [he243] at b45a b45b ⊢
          refine h_isub rfl ?_
          refine h_iret rfl ?_
          refine ⟨_, _, rfl, ?_⟩
          rw [show zLoop B n 900 (f + 1) (S, R, N, hr, hk, hp) l = .inl eN43 from by
            show (if S.1 = 0 then _ else _) = _
            rw [if_neg (by omega)]
            rw [hr43, zB_l]
            try dsimp only
            first | done | rfl]
          rfl
        · omega
      · rw [hr43, zOK_r] at hz43
        obtain ⟨hb43, hy43⟩ := hz43
        subst hb43
        obtain ⟨tM43, zI43⟩ := zLine_i hG zIR hr43
        have k443 := zLine_4 hr43
        refine h_V1 rfl o0 l0 ci_213 rfl rfl hf43 ?_
        refine j_eq (kn := kn) (t := 0) (tgt := 49) (np := 42) rfl (by unfold R32; omega) (fun e46 => ?_) (fun e46 => ?_)
        · omega
        · refine h_aload rfl l0 rfl ?_
          obtain ⟨wN47, bN47, hf47, oN47', sN47, hz47⟩ := x_readEnd (kn := kn) oL43.1 hy43.1 hy43.2.1
          have oN47 := hO_tr oL43 (hO_mono dBr_R oN47')
          rcases hr47 : zEnd B n 900 qN43.1 with eN47 | qN47
          · rw [hr47, zOK_l] at hz47
            obtain ⟨hb47, he147, he247⟩ := hz47
            subst hb47
            refine h_V1 rfl oL43 l0 ci_213 rfl rfl hf47 ?_
            refine j_ne (kn := kn) (t := 1) (tgt := 56) (np := 49) rfl (by unfold R32; omega) (fun e48 => ?_) (fun e48 => ?_)
            · omega
            · refine h_intv k_n1 rfl ?_
              refine h_aload rfl l0 rfl ?_
              refine h_getI rfl oN47 fi_11 (fun b49a b49b => ?_)
              rw [he247] at b49a b49b ⊢
              refine h_isub rfl ?_
              refine h_iret rfl ?_
              refine ⟨_, _, rfl, ?_⟩
              rw [show zLoop B n 900 (f + 1) (S, R, N, hr, hk, hp) l = .inl eN47 from by
                show (if S.1 = 0 then _ else _) = _
                rw [if_neg (by omega)]
                rw [hr43, zB_r]
                try dsimp only
                rw [hr47, zB_l]
                try dsimp only
                first | done | rfl]
              rfl
          · rw [hr47, zOK_r] at hz47
            obtain ⟨hb47, ht47⟩ := hz47
            subst hb47
            refine h_V1 rfl oL43 l0 ci_213 rfl rfl hf47 ?_
            refine j_ne (kn := kn) (t := 1) (tgt := 56) (np := 49) rfl (by unfold R32; omega) (fun e50 => ?_) (fun e50 => ?_)
            · refine h_iincv k_1 rfl l0 rfl (fun vl51 l51 => ?_)
              refine h_goto rfl ?_
              obtain ⟨p1, hp1, hp2, hp3⟩ := tM43
              obtain ⟨p9, hp91, hp92, hp93⟩ := zEnd_i hy43.2.1 hr47
              have hp29 := rd_p hpn hpS k443 hp1 hp2 hp3 (zEnd_2 hr47) hp91
              rw [show zLoop B n 900 (f + 1) (S, R, N, hr, hk, hp) l = zLoop B n 900 f (qN47, qN43.2) (l + 1) from by
                show (if S.1 = 0 then _ else _) = _
                rw [if_neg (by omega), hr43, zB_r]
                try dsimp only
                rw [hr47, zB_r]]
              exact ih qN47 qN43.2.1 qN43.2.2.1 qN43.2.2.2.1 qN43.2.2.2.2.1 qN43.2.2.2.2.2 (l + 1) wN47 _ p9 (by omega) (by omega) (by omega) hp92 hp93 ⟨ht47, ⟨p9, hp92, hp93⟩, (pR_sm sN47 (by decide) hy43.2.2.1), (by rw [sN47.1 213 24 (by decide)]; exact hy43.2.2.2.1), (by rw [sN47.1 213 25 (by decide)]; exact hy43.2.2.2.2.1), (by rw [sN47.1 213 26 (by decide)]; exact hy43.2.2.2.2.2)⟩ zI43 oN47.1 l51
            · omega
def eRX : List (Nat × Nat × Nat) := [(0, 213, 10), (0, 213, 11), (0, 213, 13), (0, 213, 24), (0, 213, 25), (0, 213, 26), (2, 216, 0)]
theorem x_bridgeR {kn : sKn} {w0 : sW} {B : Nat → Int} {n : Nat} (N : Nat → Int) (hw : wOk ZZ w0) (h2 : gF w0 213 2 = (n : Int)) (hB : ∀ i, i < n → gX w0 214 i = B i) (hn940 : n ≤ 940) (hbb : ∀ i, i < n → 0 ≤ B i ∧ B i ≤ 255) : ∃ (w' : sW) (v : Int), fX12_bridge kn [.ref 213] w0 = some (some (hI v), w', 0, 0) ∧ v = zAns (zBridge B n 900 N) := by
  have K : Tp (tX12_bridge kn) (fun r => ∃ (w' : sW) (v : Int), r = (some (hI v), w', 0, 0) ∧ v = zAns (zBridge B n 900 N)) 0 (lv_args 0 [.ref 213], [], w0, 0, 0) := by
    have l0 : hL (lv_args 0 [.ref 213]) (lv_args 0 [.ref 213]) := hL_ex rfl
    have o0 : hO dBr w0 w0 := hO_rf hw
    refine h_aload rfl l0 rfl ?_
    refine h_intv k_900 rfl ?_
    obtain ⟨wB, hf41, oB', sB, tB⟩ := x_beginR (kn := kn) 900 o0.1 h2 hB hn940 (by omega) hbb
    have oB := hO_tr o0 (hO_mono dBr_G oB')
    refine h_W2 rfl o0 l0 ci_213 rfl rfl hf41 ?_
    refine h_aload rfl l0 rfl ?_
    obtain ⟨wS, hf42, oS', sS, xS⟩ := x_startRead (kn := kn) oB.1
    have oS := hO_tr oB (hO_mono dBr_R oS')
    refine h_W1 rfl oB l0 ci_213 rfl rfl hf42 ?_
    refine h_aload rfl l0 rfl ?_
    refine h_intv k_0 rfl ?_
    refine x_putK (by rfl) rfl oS fi_24 rfl (by omega) (by omega) (fun w43 o43 q44a q44F q44X q44J q44Y q44R => ?_)
    refine h_aload rfl l0 rfl ?_
    refine h_intv k_0 rfl ?_
    refine x_putK (by rfl) rfl o43 fi_25 rfl (by omega) (by omega) (fun w45 o45 q46a q46F q46X q46J q46Y q46R => ?_)
    refine h_aload rfl l0 rfl ?_
    refine h_intv k_0 rfl ?_
    refine x_putK (by rfl) rfl o45 fi_26 rfl (by omega) (by omega) (fun w47 o47 q48a q48F q48X q48J q48Y q48R => ?_)
    refine h_intv k_0 rfl ?_
    refine h_istore rfl l0 (fun vl49 l49 => ?_)
    refine Tp_mono ?_ (x_brLoop (kn := kn) (B := B) (n := n) 942 (lexT B n 900 0) zR0 N 0 0 0 0 w47 _ 0 rfl (by omega) (by omega) (by omega) rfl ⟨(tkR_sm (smW_tr (smW_tr (smW_tr (smW_tr (smW_rf eRX _) (smW_mono (by decide) sS)) (sm_pI (by decide) q44F q44X q44J q44Y q44R)) (sm_pI (by decide) q46F q46X q46J q46Y q46R)) (sm_pI (by decide) q48F q48X q48J q48Y q48R)) (by decide) tB), ⟨0, by omega, rfl⟩, ⟨fun j hj => ((smW_tr (smW_tr (smW_tr (smW_rf eRS _) (sm_pI (by decide) q44F q44X q44J q44Y q44R)) (sm_pI (by decide) q46F q46X q46J q46Y q46R)) (sm_pI (by decide) q48F q48X q48J q48Y q48R)).2.2.1 216 j (by decide)).trans (xS j hj), fun s hs => absurd hs (by show ¬ ((s : Int) < 0); omega), fun s hs => absurd hs (by show ¬ ((s : Int) < 0); omega)⟩, by rw [q48F 213 24 (by decide), q46F 213 24 (by decide), q44a], by rw [q48F 213 25 (by decide), q46a], by rw [q48a]⟩ zI_0 o47.1 l49)
    intro r hr
    obtain ⟨w', v, e1, e2⟩ := hr
    exact ⟨w', v, e1, e2⟩
  obtain ⟨r, h3, w2, v, h4, h5⟩ := h_meth1 (nL := 3) rfl K
  rw [h4] at h3
  exact ⟨w2, v, h3, h5⟩
end
