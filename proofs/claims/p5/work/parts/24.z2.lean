noncomputable section
/-- a sentence's answer -/
def zAnS (r : zE ⊕ Int) : Int := match r with
  | .inl e => -1 - e.2
  | .inr o => o
theorem h_putT {tbl : List (Nat × sA)} {Po : sR → Prop} {pc np : Nat} {lv : List (Nat × Value)} {st : List Value} {w w0 : sW} {D : List (Nat × Nat)} {ci kf c t t2 k : Nat} (ha : t_get tbl pc = some (a_put ci kf ckR np)) (ho : hO D w0 w) (hc : ztau c = some t) (hf : fRt t ci kf = some t2) (hk : ztau k = some t2) (hm : mJn D t kf = true) (g : ∀ w', hO D w0 w' → (∀ c', c' ≠ c → w'[c']? = w[c']?) → gR w' c kf = k → (∀ k', k' ≠ kf → gR w' c k' = gR w c k') → Tp tbl Po np (lv, st, w', 0, 0)) : Tp tbl Po pc (lv, .ref k :: .ref c :: st, w, 0, 0) := by
  unfold fRt at hf
  split at hf
  · rename_i t3 hq
    cases hf
    obtain ⟨fs, v, w1, w2, _, _⟩ := fty_ok ho.1 (show ZZ.2 c = some _ from hc) hq
    have hl := (List.getElem?_eq_some_iff.mp w1).1
    have hkf := (List.getElem?_eq_some_iff.mp w2).1
    have e1 : (w.set c (.inr (ci, fs.set kf (.ref k))))[c]? = some (.inr (ci, fs.set kf (.ref k))) := List.getElem?_set_self hl
    have hfv : fvOk ZZ (2, .inr t2) (.ref k) := ⟨(k : Int), ⟨k, rfl, rfl⟩, ⟨k, rfl, hk⟩⟩
    refine Tp_step ha (fun kk => ?_) (g _ ⟨wOk_put ho.1 hc w1 hq hfv, frOk_put ho.2 hc w1 (mJn_1 hm) (mJn_2 hm)⟩ ?_ ?_ ?_)
    · simp only [a_put, xg_eq, xs_eq, w1, Nat.beq_refl, w2, ckR]
    · intro c' hc'
      exact List.getElem?_set_ne (fun z => hc' z.symm)
    · unfold gR
      rw [e1]
      dsimp only
      rw [List.getElem?_set_self hkf]
    · intro k' hk'
      unfold gR
      rw [e1, w1]
      dsimp only
      rw [List.getElem?_set_ne (fun z => hk' z.symm)]
  · cases hf
theorem frt_1_5 : fRt 1 12 5 = some 22 := by decide +kernel
theorem dSn_r : msub dX7_read dX11_sentence = true := by decide +kernel
theorem x_sentenceF {kn : sKn} {w : sW} (hw : wOk ZZ w) {B : Nat → Int} {n : Nat} {R N : Nat → Int} (hN : nmC R N w) (hB : ∀ i, i < n → gX w 2 i = B i) (hn1 : gF w 1 1 = (n : Int)) (hn940 : n ≤ 940) : ∃ (w' : sW) (v : Int), fX11_sentence kn [.ref 0] w = some (some (hI v), w', 0, 0) ∧ gF w' 1 11 = zFt (zSent B n 200 R N) := by
  have K : Tp (tX11_sentence kn) (fun r => ∃ (w' : sW) (v : Int), r = (some (hI v), w', 0, 0) ∧ gF w' 1 11 = zFt (zSent B n 200 R N)) 0 (lv_args 0 [.ref 0], [], w, 0, 0) := by
    have l0 : hL (lv_args 0 [.ref 0]) (lv_args 0 [.ref 0]) := hL_ex rfl
    have o0 : hO dX11_sentence w w := hO_rf hw
    refine h_aload rfl l0 rfl ?_
    refine h_getT rfl o0 (show ztau 0 = some 1 from rfl) frt_1_5 (fun c hc rc => ?_)
    have hc0 : c ≠ 0 := fun z => by
      subst z
      cases hc
    have hc1 : c ≠ 1 := fun z => by
      subst z
      cases hc
    refine h_aload rfl l0 rfl ?_
    refine h_getR rfl o0 fq_0_0 ?_
    refine h_aload rfl l0 rfl ?_
    refine h_getR rfl o0 fq_0_2 ?_
    obtain ⟨wA, bA, hfA, oA', hA⟩ := x_read7 (kn := kn) o0.1 hc hN hB hn1 hn940
    have oA := hO_tr o0 (hO_mono dSn_r oA')
    have hb : bA = 0 ∨ bA = 1 := hA.imp (fun z => z.1) (fun z => z.1)
    obtain ⟨rF, wF, hfF, hzF⟩ := f_read7 (kn := kn) o0.1 hc (k2 := 14) rfl
    refine h_V3 rfl o0 l0 (cI_of hc cit_22) rfl rfl hfA ?_
    refine h_istore rfl l0 (fun v1 l1 => ?_)
    refine h_aload rfl l1 rfl ?_
    refine h_getR rfl oA fq_0_0 ?_
    refine h_intv k_0 rfl ?_
    refine x_putI rfl oA fi_1_1 rfl (by omega) (by omega) (fun w2 o2 q2a q2F q2X q2J q2Y q2R => ?_)
    refine h_iload rfl l1 rfl ?_
    refine j_ne (kn := kn) (t := 1) (tgt := 38) (np := 28) rfl (by unfold R32; omega) (fun e1 => ?_) (fun e1 => ?_)
    · rcases hA with ⟨z1, _⟩ | ⟨z1, z2⟩
      · omega
      · refine h_aload rfl l1 rfl ?_
        refine h_getT rfl o2 (show ztau 0 = some 1 from rfl) frt_1_4 (fun c2 hc2 rc2 => ?_)
        refine h_astore rfl l1 (tw hc2) (fun v3 l3 => ?_)
        refine h_aload rfl l3 rfl ?_
        refine h_aload rfl l3 rfl ?_
        refine h_getT rfl o2 (show ztau 0 = some 1 from rfl) frt_1_5 (fun c3 hc3 rc3 => ?_)
        have e3 : c3 = c := by
          rw [← rc3, q2R 0 5, fr_gR (t := 1) (c := 0) oA'.2 rfl (by decide +kernel) (by decide +kernel) hw]
          exact rc
        subst e3
        refine h_putT rfl o2 (show ztau 0 = some 1 from rfl) frt_1_4 hc3 rfl (fun w4 o4 q4 q4a q4b => ?_)
        refine h_aload rfl l3 rfl ?_
        refine h_aload rfl l3 rfl ?_
        refine h_putT rfl o4 (show ztau 0 = some 1 from rfl) frt_1_5 hc2 rfl (fun w5 o5 q5 q5a q5b => ?_)
        refine h_aload rfl l3 rfl ?_
        refine h_getT rfl o5 (show ztau 0 = some 1 from rfl) frt_1_4 (fun c6 hc6 rc6 => ?_)
        have e6 : c6 = c3 := by
          rw [← rc6, q5b 4 (by decide), q4a]
        subst e6
        refine h_getI rfl o5 (fI_of hc6 fit_22_8) (fun b7 b8 => ?_)
        refine h_iret rfl ?_
        refine ⟨_, _, rfl, ?_⟩
        rw [z2, zFt_r, show gF w5 1 11 = gF w2 1 11 from by
          unfold gF
          rw [q5 1 (by decide), q4 1 (by decide)], q2F 1 11 (by decide)]
        exact fz hfA hfF hzF z1
    · rcases hA with ⟨z1, e, z2, z3, z4⟩ | ⟨z1, _⟩
      · refine h_intv k_n1 rfl ?_
        refine h_aload rfl l1 rfl ?_
        refine h_getR rfl o2 fq_0_0 ?_
        refine h_getI rfl o2 fi_1_12 (fun b5 b6 => ?_)
        rw [q2F 1 12 (by decide), z4] at b5 b6 ⊢
        refine h_isub rfl ?_
        refine h_iret rfl ?_
        refine ⟨_, _, rfl, ?_⟩
        rw [z2, zFt_l, q2F 1 11 (by decide)]
        exact z3
      · omega
  obtain ⟨r, h1, w', v, h2, h3⟩ := h_meth1 (nL := 3) rfl K
  rw [h2] at h1
  exact ⟨w', v, h1, h3⟩
theorem yfn_l {kn : sKn} {w1 : sW} {o φ : Int} : ∀ (m k : Nat) (w : sW) (lv : List (Nat × Value)) (x : Int), k + m = 240 → x = (k : Int) → hO dH_sb w1 w → gF w 213 57 = o → gF w 213 10 = φ → hL lv [(0, .ref 213), (1, hI x)] → Tp (tX12_sentence kn) (fun r => ∃ w', r = (some (hI o), w', 0, 0) ∧ gF w' 213 10 = φ) 79 (lv, [], w, 0, 0) := by
  intro m
  induction m with
  | zero =>
    intro k w lv x hkm hxk o0 h57 h10 l0
    subst hxk
    refine h_iload rfl l0 rfl ?_
    refine h_intv k_240 rfl ?_
    refine i_ge (kn := kn) (t := 3) (tgt := 108) (np := 86) rfl (by unfold R32; omega) (by unfold R32; omega) (fun e41 => ?_) (fun e41 => ?_)
    · refine h_aload rfl l0 rfl ?_
      refine h_getI rfl o0 fi_57 (fun b42a b42b => ?_)
      rw [h57]
      refine h_iret rfl ?_
      exact ⟨_, rfl, h10⟩
    · omega
  | succ m ih =>
    intro k w lv x hkm hxk o0 h57 h10 l0
    subst hxk
    refine h_iload rfl l0 rfl ?_
    refine h_intv k_240 rfl ?_
    refine i_ge (kn := kn) (t := 3) (tgt := 108) (np := 86) rfl (by unfold R32; omega) (by unfold R32; omega) (fun e41 => ?_) (fun e41 => ?_)
    · omega
    · refine h_aload rfl l0 rfl ?_
      refine h_getR rfl o0 fr_14 ?_
      refine h_intv k_198 rfl ?_
      refine h_iload rfl l0 rfl ?_
      refine h_iadd rfl ?_
      refine h_aload rfl l0 rfl ?_
      refine h_getR rfl o0 fr_55 ?_
      refine h_iload rfl l0 rfl ?_
      refine h_ialdj (k) rfl o0 ai_240 rfl (by omega) (by omega) (fun b42a b42b => ?_)
      refine h_iaste (198 + k) rfl o0 ai_215 rfl rfl (by omega) (by omega) (by rw [← sgq_ok (sg_sen2 k (by omega))]; exact gX_seg o0 ai_240 (by omega)) (by unfold R32; omega) (fun w43 o43 q44a q44b q44c => ?_)
      refine h_iincv k_1 rfl l0 rfl (fun vl45 l45 => ?_)
      refine h_goto rfl ?_
      exact ih (k + 1) _ _ ((k : Int) + 1) (by omega) (by omega) o43 ((q44c 213 57).trans h57) ((q44c 213 10).trans h10) l45
theorem yfn_56 {kn : sKn} {w1 : sW} (hw : wOk ZZ w1) (hn : 0 ≤ gF w1 213 59 ∧ gF w1 213 59 ≤ 59) (lv : List (Nat × Value)) (l0 : hL lv [(0, .ref 213)]) : Tp (tX12_sentence kn) (fun r => ∃ w', r = (some (hI (gF w1 213 57)), w', 0, 0) ∧ gF w' 213 10 = gF w1 213 10) 56 (lv, [], w1, 0, 0) := by
  have o0 : hO dH_sb w1 w1 := hO_rf hw
  refine h_aload rfl l0 rfl ?_
  refine h_getR rfl o0 fr_14 ?_
  refine h_intv k_196 rfl ?_
  refine h_intv k_1 rfl ?_
  refine h_iaste (196) rfl o0 ai_215 rfl rfl (by omega) (by omega) (sgc_ok sg_sen0 ⟨by omega, by omega⟩) (by unfold R32; omega) (fun w41 o41 q42a q42b q42c => ?_)
  refine h_aload rfl l0 rfl ?_
  refine h_getR rfl o41 fr_14 ?_
  refine h_intv k_197 rfl ?_
  refine h_aload rfl l0 rfl ?_
  refine h_getI rfl o41 fi_59 (fun b43a b43b => ?_)
  rw [q42c] at b43a b43b ⊢
  refine h_iastj (197) rfl o41 ai_215 rfl rfl sg_sen1 (by omega) (by omega) (by omega) (by omega) (by omega) (by unfold R32; omega) (fun w44 o44 q45a q45b q45c => ?_)
  refine h_intv k_0 rfl ?_
  refine h_istore rfl l0 (fun vl46 l46 => ?_)
  exact yfn_l 240 0 _ _ 0 rfl rfl o44 (by rw [q45c 213 57, q42c 213 57]) (by rw [q45c 213 10, q42c 213 10]) l46
def eR6 : List (Nat × Nat × Nat) := [(0, 213, 56), (0, 213, 57), (0, 213, 58)]
def dSN : List (Nat × Nat) := dZ ++ dBG
theorem dSN_z : msub dZ dSN = true := by decide +kernel
theorem dSN_rs : msub dH_rs dSN = true := by decide +kernel
theorem dSN_g : msub dBG dSN = true := by decide +kernel
theorem dSN_R : msub dRT dSN = true := by decide +kernel
theorem z_sentenceR {kn : sKn} {w0 : sW} {B : Nat → Int} {n : Nat} {R N : Nat → Int} (hw : wOk ZZ w0) (hN : nmS R N w0) (h2 : gF w0 213 2 = (n : Int)) (hB : ∀ i, i < n → gX w0 214 i = B i) (hn940 : n ≤ 940) (hbb : ∀ i, i < n → 0 ≤ B i ∧ B i ≤ 255) : ∃ (w' : sW) (v : Int), fX12_sentence kn [.ref 213] w0 = some (some (hI v), w', 0, 0) ∧ gF w' 213 10 = zFt (zSent B n 200 R N) := by
  have K : Tp (tX12_sentence kn) (fun r => ∃ (w' : sW) (v : Int), r = (some (hI v), w', 0, 0) ∧ gF w' 213 10 = zFt (zSent B n 200 R N)) 0 (lv_args 0 [.ref 213], [], w0, 0, 0) := by
    have l0 : hL (lv_args 0 [.ref 213]) (lv_args 0 [.ref 213]) := hL_ex rfl
    have o0 : hO dSN w0 w0 := hO_rf hw
    refine h_aload rfl l0 rfl ?_
    refine h_intv k_200 rfl ?_
    obtain ⟨wB, hf41, oB', sB, tB⟩ := x_beginR (kn := kn) 200 o0.1 h2 hB hn940 (by omega) hbb
    have oB := hO_tr o0 (hO_mono dSN_g oB')
    refine h_W2 rfl o0 l0 ci_213 rfl rfl hf41 ?_
    refine h_aload rfl l0 rfl ?_
    refine h_intv k_0 rfl ?_
    refine x_putI rfl oB fi_56 rfl (by omega) (by omega) (fun w42 o42 q43a q43F q43X q43J q43Y q43R => ?_)
    refine h_aload rfl l0 rfl ?_
    refine h_intv k_0 rfl ?_
    refine x_putI rfl o42 fi_57 rfl (by omega) (by omega) (fun w44 o44 q45a q45F q45X q45J q45Y q45R => ?_)
    refine h_aload rfl l0 rfl ?_
    refine h_intv k_0 rfl ?_
    refine x_putI rfl o44 fi_58 rfl (by omega) (by omega) (fun w46 o46 q47a q47F q47X q47J q47Y q47R => ?_)
    refine h_aload rfl l0 rfl ?_
    have t46 : tkR B n 200 (lexT B n 200 0) w46 := tkR_sm (smW_tr (smW_tr (smW_tr (smW_rf eR6 _) (sm_pI (by decide) q43F q43X q43J q43Y q43R)) (sm_pI (by decide) q45F q45X q45J q45Y q45R)) (sm_pI (by decide) q47F q47X q47J q47Y q47R)) (by decide) tB
    have e10 : gF w46 213 10 = 0 := (((q47F 213 10 (by decide)).trans (q45F 213 10 (by decide))).trans (q43F 213 10 (by decide))).trans (f_begR200 o0.1 hf41)
    have e57 : gF w46 213 57 = 0 := (q47F 213 57 (by decide)).trans q45a
    have e56 : gF w46 213 56 = 0 := ((q47F 213 56 (by decide)).trans (q45F 213 56 (by decide))).trans q43a
    obtain ⟨wC, bC, hf48, oC', fC8, hqC, hzC⟩ := z_readOr (kn := kn) (w := w46) (S := lexT B n 200 0) ⟨o46.1, fun i hi => by omega, by omega⟩ ⟨t46, ⟨0, by omega, rfl⟩, nmS_hO o46 (by decide +kernel) hN, e10⟩ q47a
    have oC := hO_tr o46 (hO_mono dSN_rs oC')
    have hb01 := zOK_01 hzC
    rw [e57] at hzC
    obtain ⟨_, _, _, _, _, _, _, c9, d9⟩ := fI_ok oC fi_59
    have hS : zSent B n 200 R N = zB (zOrL B n 200 (zSaid B n 200 R N 8) 21 (lexT B n 200 0) 0) (fun q => if q.1.1 = 0 then .inr q.2 else .inl (1, q.1.2.1)) := rfl
    refine h_V1 rfl o46 l0 ci_213 rfl rfl hf48 ?_
    rcases hr : zOrL B n 200 (zSaid B n 200 R N 8) 21 (lexT B n 200 0) 0 with e | q
    · rw [hr, zOK_l] at hzC
      obtain ⟨hbC, he1, he2⟩ := hzC
      subst hbC
      refine j_ne (kn := kn) (t := 1) (tgt := 36) (np := 29) rfl (by unfold R32; omega) (fun e49 => ?_) (fun e49 => ?_)
      · omega
      · refine h_intv k_n1 rfl ?_
        refine h_aload rfl l0 rfl ?_
        refine h_getI rfl oC fi_11 (fun b54a b54b => ?_)
        refine h_isub rfl ?_
        refine h_iret rfl ?_
        refine ⟨_, _, rfl, ?_⟩
        rw [hS, hr, zB_l, zFt_l]
        exact he1
    · rw [hr, zOK_r] at hzC
      obtain ⟨hbC, tC, GC, f57, f10⟩ := hzC
      subst hbC
      obtain ⟨_, kkC, toC, _⟩ := tkU_i tC.2
      have gb := tkG_b GC
      refine j_ne (kn := kn) (t := 1) (tgt := 36) (np := 29) rfl (by unfold R32; omega) (fun e49 => ?_) (fun e49 => ?_)
      · refine h_aload rfl l0 rfl ?_
        refine h_getI rfl oC fi_7 (fun b50a b50b => ?_)
        refine j_eq (kn := kn) (t := 0) (tgt := 56) (np := 43) rfl (by unfold R32; omega) (fun e51 => ?_) (fun e51 => ?_)
        · refine Tp_mono ?_ (yfn_56 (kn := kn) oC.1 ⟨by omega, by omega⟩ _ l0)
          intro r hr9
          obtain ⟨w', e9, e10⟩ := hr9
          refine ⟨w', _, e9, ?_⟩
          rw [hS, hr, zB_r, if_pos (by omega), zFt_r, e10]
          exact f10
        · refine h_aload rfl l0 rfl ?_
          refine h_intv k_1 rfl ?_
          obtain ⟨wD, hf52, oD', sD, fD1, fD2⟩ := x_bad (kn := kn) oC.1 tC GC 1 ⟨by omega, by omega⟩
          have oD := hO_tr oC (hO_mono dSN_R oD')
          refine h_V2 rfl oC l0 ci_213 rfl rfl hf52 ?_
          refine h_pop rfl rfl ?_
          refine h_intv k_n1 rfl ?_
          refine h_aload rfl l0 rfl ?_
          refine h_getI rfl oD fi_11 (fun b53a b53b => ?_)
          refine h_isub rfl ?_
          refine h_iret rfl ?_
          refine ⟨_, _, rfl, ?_⟩
          rw [hS, hr, zB_r, if_neg (by omega), zFt_l, fD1]
          exact if_k (by omega)
      · omega
  obtain ⟨r, h3, w2, v, h4, h5⟩ := h_meth1 (nL := 2) rfl K
  rw [h4] at h3
  exact ⟨w2, v, h3, h5⟩
end
