noncomputable section
theorem x_bridgeF {kn : sKn} {w0 : sW} {B : Nat → Int} {n : Nat} (N : Nat → Int) (hw : wOk ZZ w0) (hP : pl4 w0) (hB : ∀ i, i < n → gX w0 2 i = B i) (hn1 : gF w0 1 1 = (n : Int)) (hn940 : n ≤ 940) : ∃ (w' : sW) (v : Int), fX11_bridge kn [.ref 0] w0 = some (some (hI v), w', 0, 0) ∧ gF w' 1 11 = zFt (zBridge B n 900 N) := by
  have K : Tp (tX11_bridge kn) (fun r => ∃ (w' : sW) (v : Int), r = (some (hI v), w', 0, 0) ∧ gF w' 1 11 = zFt (zBridge B n 900 N)) 0 (lv_args 0 [.ref 0], [], w0, 0, 0) := by
    have l0 : hL (lv_args 0 [.ref 0]) (lv_args 0 [.ref 0]) := hL_ex rfl
    have o0 : hO dX11_bridge w0 w0 := hO_rf hw
    refine h_aload rfl l0 rfl ?_
    refine h_getR rfl o0 nfr_0_1 ?_
    refine h_aload rfl l0 rfl ?_
    refine h_getR rfl o0 nfr_0_0 ?_
    obtain ⟨wR, bR, hf41, oR', sR, zR⟩ := x_read (kn := kn) N o0.1 hP hB hn1 hn940
    have oR := hO_tr o0 (hO_mono nm_dBT oR')
    have bR1 := zOK_01 zR
    obtain ⟨rF, wF, hfF, hzF⟩ := f_read2 (kn := kn) o0.1
    refine h_V2 rfl o0 l0 ci_3 rfl rfl hf41 ?_
    refine h_istore rfl l0 (fun vl42 l42 => ?_)
    refine h_aload rfl l42 rfl ?_
    refine h_getR rfl oR nfr_0_0 ?_
    refine h_intv k_0 rfl ?_
    refine x_putI rfl oR fi_1_1 rfl (by omega) (by omega) (fun w43 o43 q44a q44F q44X q44J q44Y q44R => ?_)
    refine h_iload rfl l42 rfl ?_
    refine j_ne (kn := kn) (t := 1) (tgt := 34) (np := 24) rfl (by unfold R32; omega) (fun e45 => ?_) (fun e45 => ?_)
    · refine h_aload rfl l42 rfl ?_
      refine h_getR rfl o43 nfr_0_2 ?_
      refine h_aload rfl l42 rfl ?_
      refine h_getR rfl o43 nfr_0_1 ?_
      refine h_getR rfl o43 fr_3_0 ?_
      obtain ⟨wn_copyOf46, hf46, on_copyOf46'⟩ := n_copyOf (kn := kn) o43.1 (show ztau 14 = some 5 from rfl) (show ztau 4 = some 5 from rfl)
      have on_copyOf46 := hO_tr o43 (hO_mono nm_dX6_copyOf on_copyOf46')
      refine h_W2 rfl o43 l42 nci_14 rfl rfl hf46 ?_
      refine h_aload rfl l42 rfl ?_
      refine h_getR rfl on_copyOf46 nfr_0_3 ?_
      refine h_aload rfl l42 rfl ?_
      refine h_getR rfl on_copyOf46 nfr_0_2 ?_
      obtain ⟨wn_begin47, hf47, on_begin47'⟩ := n_begin (kn := kn) on_copyOf46.1 (show ztau 24 = some 15 from rfl) (show ztau 14 = some 5 from rfl)
      have on_begin47 := hO_tr on_copyOf46 (hO_mono nm_dX8_begin on_begin47')
      refine h_W2 rfl on_copyOf46 l42 nci_24 rfl rfl hf47 ?_
      refine h_aload rfl l42 rfl ?_
      refine h_getT rfl on_begin47 (show ztau 0 = some 1 from rfl) frt_1_4 (fun kS hkS rkS => ?_)
      obtain ⟨wn_forget48, hf48, on_forget48'⟩ := n_forget (kn := kn) on_begin47.1 hkS
      have on_forget48 := hO_tr on_begin47 (hO_mono nm_dX7_forget on_forget48')
      refine h_W1 rfl on_begin47 l42 (cI_of hkS cit_22) rfl rfl hf48 ?_
      refine h_aload rfl l42 rfl ?_
      refine h_intv k_0 rfl ?_
      refine x_putI rfl on_forget48 nfi_0_15 rfl (by omega) (by omega) (fun w49 o49 q50a q50F q50X q50J q50Y q50R => ?_)
      refine h_aload rfl l42 rfl ?_
      refine h_getR rfl o49 nfr_0_1 ?_
      refine h_getI rfl o49 fi_3_1 (fun b51a b51b => ?_)
      rw [q50F 3 1 (by decide), fr_gF on_forget48'.2 rfl rfl on_begin47.1 (by decide), fr_gF on_begin47'.2 rfl rfl on_copyOf46.1 (by decide), fr_gF on_copyOf46'.2 rfl rfl o43.1 (by decide), q44F 3 1 (by decide)] at b51a b51b ⊢
      refine h_iret rfl ?_
      obtain ⟨q, e1, e2⟩ := zOK_1 zR (by omega)
      refine ⟨_, _, rfl, ?_⟩
      rw [e1, zFt_r, q50F 1 11 (by decide), fr_gF (t := 2) (c := 1) (kf := 11) on_forget48'.2 rfl (by decide +kernel) on_begin47.1 (by decide +kernel), fr_gF (t := 2) (c := 1) (kf := 11) on_begin47'.2 rfl (by decide +kernel) on_copyOf46.1 (by decide +kernel), fr_gF (t := 2) (c := 1) (kf := 11) on_copyOf46'.2 rfl (by decide +kernel) o43.1 (by decide +kernel), q44F 1 11 (by decide)]
      exact fz hf41 hfF hzF (by omega)
    · refine h_intv k_n1 rfl ?_
      refine h_aload rfl l42 rfl ?_
      refine h_getR rfl o43 nfr_0_0 ?_
      refine h_getI rfl o43 fi_1_12 (fun b52a b52b => ?_)
      rw [q44F 1 12 (by decide)] at b52a b52b ⊢
      refine h_isub rfl ?_
      refine h_iret rfl ?_
      obtain ⟨e, e1, e2⟩ := zOK_0 zR (by omega)
      have e3 := e2.2
      refine ⟨_, _, rfl, ?_⟩
      rw [e1, zFt_l, q44F 1 11 (by decide)]
      exact e2.1
  obtain ⟨r, h1, w2, b, h2, h3⟩ := h_meth1 (nL := 2) rfl K
  rw [h2] at h1
  exact ⟨w2, b, h1, h3⟩
theorem bz_e {kn : sKn} {w0 w : sW} {φ : Int} (n : Int) (lv : List (Nat × Value)) (o0 : hO dH_br w0 w) (hQ : gF w 213 10 = φ) (l0 : hL lv [(0, .ref 213), (1, hI n)]) : Tp (tX12_bridge kn) (fun r => ∃ w', r = (some (hI n), w', 0, 0) ∧ gF w' 213 10 = φ) 114 (lv, [], w, 0, 0) := by
  refine h_aload rfl l0 rfl ?_
  obtain ⟨wA, hf1, oA'⟩ := s_startSo (kn := kn) o0.1
  have oA : hO dH_br w0 wA := hO_tr o0 (hO_mono dH_br5 oA')
  refine h_W1 rfl o0 l0 ci_213 rfl rfl hf1 ?_
  refine h_aload rfl l0 rfl ?_
  refine h_intv k_0 rfl ?_
  refine x_putI rfl oA fi_23 rfl (by omega) (by omega) (fun w2 o2 q3a q3F q3X q3J q3Y q3R => ?_)
  refine h_iload rfl l0 rfl ?_
  refine h_iret rfl ?_
  exact ⟨_, rfl, ((q3F 213 10 (by decide)).trans (fr_gF (t := 61) (c := 213) (kf := 10) oA'.2 rfl (by decide +kernel) o0.1 (by decide +kernel))).trans hQ⟩
theorem bz_n {kn : sKn} {w0 : sW} {φ : Int} (n : Int) : ∀ (m k : Nat) (w : sW) (lv : List (Nat × Value)) (x : Int), k + m = 16 → x = (k : Int) → hO dH_br w0 w → gF w 213 10 = φ → hL lv [(0, .ref 213), (1, hI n), (2, hI x)] → Tp (tX12_bridge kn) (fun r => ∃ w', r = (some (hI n), w', 0, 0) ∧ gF w' 213 10 = φ) 90 (lv, [], w, 0, 0) := by
  intro m
  induction m with
  | zero =>
    intro k w lv x hkm hxk o0 hQ l0
    subst hxk
    refine h_iload rfl l0 rfl ?_
    refine h_intv k_16 rfl ?_
    refine i_ge (kn := kn) (t := 3) (tgt := 114) (np := 96) rfl (by unfold R32; omega) (by unfold R32; omega) (fun e1 => ?_) (fun e1 => ?_)
    · exact bz_e n _ o0 hQ (hL_take 2 l0)
    · omega
  | succ m ih =>
    intro k w lv x hkm hxk o0 hQ l0
    subst hxk
    refine h_iload rfl l0 rfl ?_
    refine h_intv k_16 rfl ?_
    refine i_ge (kn := kn) (t := 3) (tgt := 114) (np := 96) rfl (by unfold R32; omega) (by unfold R32; omega) (fun e1 => ?_) (fun e1 => ?_)
    · omega
    · refine h_aload rfl l0 rfl ?_
      refine h_getR rfl o0 fr_19 ?_
      refine h_iload rfl l0 rfl ?_
      refine h_aload rfl l0 rfl ?_
      refine h_getR rfl o0 fr_20 ?_
      refine h_iload rfl l0 rfl ?_
      refine x_lald (k) rfl o0 aj_221 rfl (by omega) (by omega) ?_
      refine x_last (k) rfl o0 aj_220 rfl rfl (by omega) (by omega) (fun w3 o3 q4a q4Y q4F q4X q4J q4R => ?_)
      refine h_iincv k_1 rfl l0 rfl (fun vl5 l5 => ?_)
      refine h_goto rfl ?_
      exact ih (k + 1) w3 _ ((k : Int) + 1) (by omega) (by omega) o3 ((q4F 213 10).trans hQ) l5
theorem bz_r {kn : sKn} {w0 : sW} {φ : Int} (n : Int) : ∀ (m k : Nat) (w : sW) (lv : List (Nat × Value)) (x : Int), k + m = 94 → x = (k : Int) → hO dH_br w0 w → (1 ≤ gX w 216 0 ∧ gX w 216 0 ≤ 12) → gF w 213 10 = φ → hL lv [(0, .ref 213), (1, hI n), (2, hI x)] → Tp (tX12_bridge kn) (fun r => ∃ w', r = (some (hI n), w', 0, 0) ∧ gF w' 213 10 = φ) 64 (lv, [], w, 0, 0) := by
  intro m
  induction m with
  | zero =>
    intro k w lv x hkm hxk o0 hr hQ l0
    subst hxk
    refine h_iload rfl l0 rfl ?_
    refine h_intv k_94 rfl ?_
    refine i_ge (kn := kn) (t := 3) (tgt := 88) (np := 70) rfl (by unfold R32; omega) (by unfold R32; omega) (fun e1 => ?_) (fun e1 => ?_)
    · refine h_intv k_0 rfl ?_
      refine h_istore rfl l0 (fun vl2 l2 => ?_)
      exact bz_n n 16 0 _ _ 0 rfl rfl o0 hQ l2
    · omega
  | succ m ih =>
    intro k w lv x hkm hxk o0 hr hQ l0
    subst hxk
    refine h_iload rfl l0 rfl ?_
    refine h_intv k_94 rfl ?_
    refine i_ge (kn := kn) (t := 3) (tgt := 88) (np := 70) rfl (by unfold R32; omega) (by unfold R32; omega) (fun e1 => ?_) (fun e1 => ?_)
    · omega
    · refine h_aload rfl l0 rfl ?_
      refine h_getR rfl o0 fr_14 ?_
      refine h_iload rfl l0 rfl ?_
      refine h_aload rfl l0 rfl ?_
      refine h_getR rfl o0 fr_15 ?_
      refine h_iload rfl l0 rfl ?_
      refine h_ialdj (k) rfl o0 ai_216 rfl (by omega) (by omega) (fun b2a b2b => ?_)
      refine x_iaste (k) rfl o0 ai_215 rfl rfl (by omega) (by omega) (rd_seg o0 hr (by omega)) (by unfold R32; omega) (fun w3 o3 q4a q4b q4c q4Y => ?_)
      refine h_iincv k_1 rfl l0 rfl (fun vl5 l5 => ?_)
      refine h_goto rfl ?_
      exact ih (k + 1) w3 _ ((k : Int) + 1) (by omega) (by omega) o3 (by rw [q4b 216 0 (fun z => absurd z (by decide))]; exact hr) ((q4c 213 10).trans hQ) l5
theorem z_brLoop {kn : sKn} {B : Nat → Int} {n : Nat} : ∀ (f : Nat) (S : tS) (R N : Nat → Int) (hr hk hp l : Int) (w : sW) (lv : List (Nat × Value)) (p : Nat), l + (f : Int) = 942 → 0 ≤ l → 2 * l ≤ (p : Int) → p ≤ n → S = lexT B n 900 p → rpR B n (S, R, N, hr, hk, hp) w → zI R → wOk ZZ w → gF w 213 10 = 0 → hL lv [(0, .ref 213), (1, hI l)] → Tp (tX12_bridge kn) (fun r => ∃ (w' : sW) (v : Int), r = (some (hI v), w', 0, 0) ∧ gF w' 213 10 = zFt (zLoop B n 900 f (S, R, N, hr, hk, hp) l)) 28 (lv, [], w, 0, 0) := by
  intro f
  induction f with
  | zero =>
    intro S R N hr hk hp l w lv p hlf hl hlp hpn hpS hz zIR hw hF l0
    have := hz.1.1.2.2.2.1
    omega
  | succ f ih =>
    intro S R N hr hk hp l w lv p hlf hl hlp hpn hpS hz zIR hw hF l0
    have o0 : hO dBr w w := hO_rf hw
    have htk : tkR B n 900 S w := hz.1
    have hn9 := htk.1.2.2.2.1
    have hG : tkG B n 900 S := ⟨p, hpn, hpS⟩
    obtain ⟨_, hkI, hto, _⟩ := tkU_i htk.2
    refine h_aload rfl l0 rfl ?_
    refine h_getI rfl o0 fi_7 (fun b41a b41b => ?_)
    refine j_eq (kn := kn) (t := 0) (tgt := 62) (np := 35) rfl (by unfold R32; omega) (fun e42 => ?_) (fun e42 => ?_)
    · rw [show zLoop B n 900 (f + 1) (S, R, N, hr, hk, hp) l = .inr (l, (S, R, N, hr, hk, hp)) from if_pos (by show S.1 = 0; omega)]
      refine h_intv k_0 rfl ?_
      refine h_istore rfl l0 (fun v9 l9 => ?_)
      refine Tp_mono ?_ (bz_r (kn := kn) (w0 := w) (φ := 0) l 94 0 w _ 0 rfl rfl (hO_rf o0.1) (by rw [hz.2.2.1.1 0 (by omega)]; exact zIR.1) hF l9)
      intro r hr9
      obtain ⟨w', e9, e10⟩ := hr9
      exact ⟨w', _, e9, e10⟩
    · refine h_aload rfl l0 rfl ?_
      obtain ⟨wL43, bL43, hf43, oL43', sL43, hz43⟩ := x_readLineR (kn := kn) o0.1 hz zIR
      obtain ⟨rF, wF, hfF, hzF⟩ := f_rline (kn := kn) o0.1 hF
      have oL43 := hO_tr o0 (hO_mono dBr_R oL43')
      rcases hr43 : zLine B n 900 (S, R, N, hr, hk, hp) with eN43 | qN43
      · rw [hr43, zOK_l] at hz43
        obtain ⟨hb43, he143, he243⟩ := hz43
        subst hb43
        refine h_V1 rfl o0 l0 ci_213 rfl rfl hf43 ?_
        refine j_eq (kn := kn) (t := 0) (tgt := 49) (np := 42) rfl (by unfold R32; omega) (fun e44 => ?_) (fun e44 => ?_)
        · refine h_intv k_n1 rfl ?_
          refine h_aload rfl l0 rfl ?_
          refine h_getI rfl oL43 fi_11 (fun b45a b45b => ?_)
          rw [he243] at b45a b45b ⊢
          refine h_isub rfl ?_
          refine h_iret rfl ?_
          refine ⟨_, _, rfl, ?_⟩
          rw [show zLoop B n 900 (f + 1) (S, R, N, hr, hk, hp) l = .inl eN43 from by
            show (if S.1 = 0 then _ else _) = _
            rw [if_neg (by omega)]
            rw [hr43, zB_l]
            try dsimp only
            first | done | rfl]
          exact he143
        · omega
      · rw [hr43, zOK_r] at hz43
        obtain ⟨hb43, hy43⟩ := hz43
        subst hb43
        obtain ⟨tM43, zI43⟩ := zLine_i hG zIR hr43
        have k443 := zLine_4 hr43
        refine h_V1 rfl o0 l0 ci_213 rfl rfl hf43 ?_
        refine j_eq (kn := kn) (t := 0) (tgt := 49) (np := 42) rfl (by unfold R32; omega) (fun e46 => ?_) (fun e46 => ?_)
        · omega
        · refine h_aload rfl l0 rfl ?_
          obtain ⟨wN47, bN47, hf47, oN47', sN47, hz47⟩ := x_readEnd (kn := kn) oL43.1 hy43.1 hy43.2.1
          have hFL := fz hf43 hfF hzF rfl
          obtain ⟨rG, wG, hfG, hzG⟩ := f_rend (kn := kn) oL43.1 hFL
          have oN47 := hO_tr oL43 (hO_mono dBr_R oN47')
          rcases hr47 : zEnd B n 900 qN43.1 with eN47 | qN47
          · rw [hr47, zOK_l] at hz47
            obtain ⟨hb47, he147, he247⟩ := hz47
            subst hb47
            refine h_V1 rfl oL43 l0 ci_213 rfl rfl hf47 ?_
            refine j_ne (kn := kn) (t := 1) (tgt := 56) (np := 49) rfl (by unfold R32; omega) (fun e48 => ?_) (fun e48 => ?_)
            · omega
            · refine h_intv k_n1 rfl ?_
              refine h_aload rfl l0 rfl ?_
              refine h_getI rfl oN47 fi_11 (fun b49a b49b => ?_)
              rw [he247] at b49a b49b ⊢
              refine h_isub rfl ?_
              refine h_iret rfl ?_
              refine ⟨_, _, rfl, ?_⟩
              rw [show zLoop B n 900 (f + 1) (S, R, N, hr, hk, hp) l = .inl eN47 from by
                show (if S.1 = 0 then _ else _) = _
                rw [if_neg (by omega)]
                rw [hr43, zB_r]
                try dsimp only
                rw [hr47, zB_l]
                try dsimp only
                first | done | rfl]
              exact he147
          · rw [hr47, zOK_r] at hz47
            obtain ⟨hb47, ht47⟩ := hz47
            subst hb47
            refine h_V1 rfl oL43 l0 ci_213 rfl rfl hf47 ?_
            refine j_ne (kn := kn) (t := 1) (tgt := 56) (np := 49) rfl (by unfold R32; omega) (fun e50 => ?_) (fun e50 => ?_)
            · refine h_iincv k_1 rfl l0 rfl (fun vl51 l51 => ?_)
              refine h_goto rfl ?_
              obtain ⟨p1, hp1, hp2, hp3⟩ := tM43
              obtain ⟨p9, hp91, hp92, hp93⟩ := zEnd_i hy43.2.1 hr47
              have hp29 := rd_p hpn hpS k443 hp1 hp2 hp3 (zEnd_2 hr47) hp91
              rw [show zLoop B n 900 (f + 1) (S, R, N, hr, hk, hp) l = zLoop B n 900 f (qN47, qN43.2) (l + 1) from by
                show (if S.1 = 0 then _ else _) = _
                rw [if_neg (by omega), hr43, zB_r]
                try dsimp only
                rw [hr47, zB_r]]
              exact ih qN47 qN43.2.1 qN43.2.2.1 qN43.2.2.2.1 qN43.2.2.2.2.1 qN43.2.2.2.2.2 (l + 1) wN47 _ p9 (by omega) (by omega) (by omega) hp92 hp93 ⟨ht47, ⟨p9, hp92, hp93⟩, (pR_sm sN47 (by decide) hy43.2.2.1), (by rw [sN47.1 213 24 (by decide)]; exact hy43.2.2.2.1), (by rw [sN47.1 213 25 (by decide)]; exact hy43.2.2.2.2.1), (by rw [sN47.1 213 26 (by decide)]; exact hy43.2.2.2.2.2)⟩ zI43 oN47.1 (fz hf47 hfG hzG rfl) l51
            · omega
theorem f_begR400_ {kn : sKn} {w : sW} (hw : wOk ZZ w) (x1 : Int) (hx1 : 400 ≤ x1 ∧ x1 ≤ 400) : ∃ (w' : sW), fX12_begin kn [.ref 213, hI x1] w = some (none, w', 0, 0) ∧ hO dX12_begin w w' ∧ gF w' 213 10 = 0 := by
  obtain ⟨r, w', h1, h2, q, hq, σ', h3, h4, h5, h6⟩ := con_use (con_X12_begin_0 kn) (σ := [0, x1]) (av := [.ref 213, hI x1]) (w := w) rfl rfl ⟨av_c (k := 213) rfl, av_i rfl ⟨by omega, by omega⟩, trivial⟩ (fun q hq => by cases hq) (gE_c ⟨_, rfl, hx1⟩ (gE_n)) hw rfl
  rcases List.mem_singleton.mp hq with rfl
  rw [gS_v h4] at h1
  obtain ⟨m10, n10, p10⟩ := mf_F (c := 213) (kf := 10) (u := 0) (x := 0) (h3 0 0 rfl) (h5 _ (by first | exact List.mem_cons_self | exact List.mem_cons_of_mem _ List.mem_cons_self | exact List.mem_cons_of_mem _ (List.mem_cons_of_mem _ List.mem_cons_self) | exact List.mem_cons_of_mem _ (List.mem_cons_of_mem _ (List.mem_cons_of_mem _ List.mem_cons_self)) | decide))
  have n10' := h3 0 0 rfl
  rw [n10] at n10'
  cases n10'
  exact ⟨w', h1, h2, by omega⟩
theorem f_begR900_ {kn : sKn} {w : sW} (hw : wOk ZZ w) (x1 : Int) (hx1 : 900 ≤ x1 ∧ x1 ≤ 900) : ∃ (w' : sW), fX12_begin kn [.ref 213, hI x1] w = some (none, w', 0, 0) ∧ hO dX12_begin w w' ∧ gF w' 213 10 = 0 := by
  obtain ⟨r, w', h1, h2, q, hq, σ', h3, h4, h5, h6⟩ := con_use (con_X12_begin_1 kn) (σ := [0, x1]) (av := [.ref 213, hI x1]) (w := w) rfl rfl ⟨av_c (k := 213) rfl, av_i rfl ⟨by omega, by omega⟩, trivial⟩ (fun q hq => by cases hq) (gE_c ⟨_, rfl, hx1⟩ (gE_n)) hw rfl
  rcases List.mem_singleton.mp hq with rfl
  rw [gS_v h4] at h1
  obtain ⟨m10, n10, p10⟩ := mf_F (c := 213) (kf := 10) (u := 0) (x := 0) (h3 0 0 rfl) (h5 _ (by first | exact List.mem_cons_self | exact List.mem_cons_of_mem _ List.mem_cons_self | exact List.mem_cons_of_mem _ (List.mem_cons_of_mem _ List.mem_cons_self) | exact List.mem_cons_of_mem _ (List.mem_cons_of_mem _ (List.mem_cons_of_mem _ List.mem_cons_self)) | decide))
  have n10' := h3 0 0 rfl
  rw [n10] at n10'
  cases n10'
  exact ⟨w', h1, h2, by omega⟩
theorem f_begR200_ {kn : sKn} {w : sW} (hw : wOk ZZ w) (x1 : Int) (hx1 : 200 ≤ x1 ∧ x1 ≤ 200) : ∃ (w' : sW), fX12_begin kn [.ref 213, hI x1] w = some (none, w', 0, 0) ∧ hO dX12_begin w w' ∧ gF w' 213 10 = 0 := by
  obtain ⟨r, w', h1, h2, q, hq, σ', h3, h4, h5, h6⟩ := con_use (con_X12_begin_2 kn) (σ := [0, x1]) (av := [.ref 213, hI x1]) (w := w) rfl rfl ⟨av_c (k := 213) rfl, av_i rfl ⟨by omega, by omega⟩, trivial⟩ (fun q hq => by cases hq) (gE_c ⟨_, rfl, hx1⟩ (gE_n)) hw rfl
  rcases List.mem_singleton.mp hq with rfl
  rw [gS_v h4] at h1
  obtain ⟨m10, n10, p10⟩ := mf_F (c := 213) (kf := 10) (u := 0) (x := 0) (h3 0 0 rfl) (h5 _ (by first | exact List.mem_cons_self | exact List.mem_cons_of_mem _ List.mem_cons_self | exact List.mem_cons_of_mem _ (List.mem_cons_of_mem _ List.mem_cons_self) | exact List.mem_cons_of_mem _ (List.mem_cons_of_mem _ (List.mem_cons_of_mem _ List.mem_cons_self)) | decide))
  have n10' := h3 0 0 rfl
  rw [n10] at n10'
  cases n10'
  exact ⟨w', h1, h2, by omega⟩
theorem f_begR400 {kn : sKn} {w w1 : sW} (hw : wOk ZZ w) (e : fX12_begin kn [.ref 213, hI 400] w = some (none, w1, 0, 0)) : gF w1 213 10 = 0 := by
  obtain ⟨w2, k1, _, k2⟩ := f_begR400_ (kn := kn) hw 400 ⟨by omega, by omega⟩
  rw [e] at k1
  cases k1
  exact k2
theorem f_begR900 {kn : sKn} {w w1 : sW} (hw : wOk ZZ w) (e : fX12_begin kn [.ref 213, hI 900] w = some (none, w1, 0, 0)) : gF w1 213 10 = 0 := by
  obtain ⟨w2, k1, _, k2⟩ := f_begR900_ (kn := kn) hw 900 ⟨by omega, by omega⟩
  rw [e] at k1
  cases k1
  exact k2
theorem f_begR200 {kn : sKn} {w w1 : sW} (hw : wOk ZZ w) (e : fX12_begin kn [.ref 213, hI 200] w = some (none, w1, 0, 0)) : gF w1 213 10 = 0 := by
  obtain ⟨w2, k1, _, k2⟩ := f_begR200_ (kn := kn) hw 200 ⟨by omega, by omega⟩
  rw [e] at k1
  cases k1
  exact k2
theorem z_bridgeR {kn : sKn} {w0 : sW} {B : Nat → Int} {n : Nat} (N : Nat → Int) (hw : wOk ZZ w0) (h2 : gF w0 213 2 = (n : Int)) (hB : ∀ i, i < n → gX w0 214 i = B i) (hn940 : n ≤ 940) (hbb : ∀ i, i < n → 0 ≤ B i ∧ B i ≤ 255) : ∃ (w' : sW) (v : Int), fX12_bridge kn [.ref 213] w0 = some (some (hI v), w', 0, 0) ∧ gF w' 213 10 = zFt (zBridge B n 900 N) := by
  have K : Tp (tX12_bridge kn) (fun r => ∃ (w' : sW) (v : Int), r = (some (hI v), w', 0, 0) ∧ gF w' 213 10 = zFt (zBridge B n 900 N)) 0 (lv_args 0 [.ref 213], [], w0, 0, 0) := by
    have l0 : hL (lv_args 0 [.ref 213]) (lv_args 0 [.ref 213]) := hL_ex rfl
    have o0 : hO dBr w0 w0 := hO_rf hw
    refine h_aload rfl l0 rfl ?_
    refine h_intv k_900 rfl ?_
    obtain ⟨wB, hf41, oB', sB, tB⟩ := x_beginR (kn := kn) 900 o0.1 h2 hB hn940 (by omega) hbb
    have oB := hO_tr o0 (hO_mono dBr_G oB')
    refine h_W2 rfl o0 l0 ci_213 rfl rfl hf41 ?_
    refine h_aload rfl l0 rfl ?_
    obtain ⟨wS, hf42, oS', sS, xS⟩ := x_startRead (kn := kn) oB.1
    have oS := hO_tr oB (hO_mono dBr_R oS')
    refine h_W1 rfl oB l0 ci_213 rfl rfl hf42 ?_
    refine h_aload rfl l0 rfl ?_
    refine h_intv k_0 rfl ?_
    refine x_putK (by rfl) rfl oS fi_24 rfl (by omega) (by omega) (fun w43 o43 q44a q44F q44X q44J q44Y q44R => ?_)
    refine h_aload rfl l0 rfl ?_
    refine h_intv k_0 rfl ?_
    refine x_putK (by rfl) rfl o43 fi_25 rfl (by omega) (by omega) (fun w45 o45 q46a q46F q46X q46J q46Y q46R => ?_)
    refine h_aload rfl l0 rfl ?_
    refine h_intv k_0 rfl ?_
    refine x_putK (by rfl) rfl o45 fi_26 rfl (by omega) (by omega) (fun w47 o47 q48a q48F q48X q48J q48Y q48R => ?_)
    refine h_intv k_0 rfl ?_
    refine h_istore rfl l0 (fun vl49 l49 => ?_)
    refine Tp_mono ?_ (z_brLoop (kn := kn) (B := B) (n := n) 942 (lexT B n 900 0) zR0 N 0 0 0 0 w47 _ 0 rfl (by omega) (by omega) (by omega) rfl ⟨(tkR_sm (smW_tr (smW_tr (smW_tr (smW_tr (smW_rf eRX _) (smW_mono (by decide) sS)) (sm_pI (by decide) q44F q44X q44J q44Y q44R)) (sm_pI (by decide) q46F q46X q46J q46Y q46R)) (sm_pI (by decide) q48F q48X q48J q48Y q48R)) (by decide) tB), ⟨0, by omega, rfl⟩, ⟨fun j hj => ((smW_tr (smW_tr (smW_tr (smW_rf eRS _) (sm_pI (by decide) q44F q44X q44J q44Y q44R)) (sm_pI (by decide) q46F q46X q46J q46Y q46R)) (sm_pI (by decide) q48F q48X q48J q48Y q48R)).2.2.1 216 j (by decide)).trans (xS j hj), fun s hs => absurd hs (by show ¬ ((s : Int) < 0); omega), fun s hs => absurd hs (by show ¬ ((s : Int) < 0); omega)⟩, by rw [q48F 213 24 (by decide), q46F 213 24 (by decide), q44a], by rw [q48F 213 25 (by decide), q46a], by rw [q48a]⟩ zI_0 o47.1 ((((q48F 213 10 (by decide)).trans (q46F 213 10 (by decide))).trans (q44F 213 10 (by decide))).trans ((sS.1 213 10 (by decide)).trans (f_begR900 o0.1 hf41))) l49)
    intro r hr
    obtain ⟨w', v, e1, e2⟩ := hr
    exact ⟨w', v, e1, e2⟩
  obtain ⟨r, h3, w2, v, h4, h5⟩ := h_meth1 (nL := 3) rfl K
  rw [h4] at h3
  exact ⟨w2, v, h3, h5⟩
end
