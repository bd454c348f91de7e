noncomputable section
theorem x_readNumberS {kn : sKn} {w0 : sW} {B : Nat → Int} {n : Nat} {S : tS} (hw : wOk ZZ w0) (htk : tkR B n 200 S w0) (hG : tkG B n 200 S) (lo hi : Int) (hlo : R32 lo) (hhi : R32 hi) : ∃ (w' : sW) (b : Int), fX12_readNumber kn [.ref 213, hI lo, hI hi] w0 = some (some (hI b), w', 0, 0) ∧ hO dRT w0 w' ∧ smW eRT w0 w' ∧ (zOK (zNum B n 200 lo hi S) b (fun e => erR e w') (fun q => gF w' 213 13 = q.1 ∧ tkR B n 200 q.2 w')) := by
  obtain ⟨hfr, hkI, hto, hwd⟩ := tkU_i htk.2
  have htx := htk.1
  have gbS := tkG_b hG
  have hn9 := htk.1.2.2.2.1
  have hlo1 := hlo.1
  have hlo2 := hlo.2
  have hhi1 := hhi.1
  have hhi2 := hhi.2
  have K : Tp (tX12_readNumber kn) (fun r => ∃ (w' : sW) (b : Int), r = (some (hI b), w', 0, 0) ∧ hO dRT w0 w' ∧ smW eRT w0 w' ∧ (zOK (zNum B n 200 lo hi S) b (fun e => erR e w') (fun q => gF w' 213 13 = q.1 ∧ tkR B n 200 q.2 w'))) 0 (lv_args 0 [.ref 213, hI lo, hI hi], [], w0, 0, 0) := by
    have l0 : hL (lv_args 0 [.ref 213, hI lo, hI hi]) (lv_args 0 [.ref 213, hI lo, hI hi]) := hL_ex rfl
    have o0 : hO dRT w0 w0 := hO_rf hw
    have sm := smW_rf eRT w0
    refine h_aload rfl l0 rfl ?_
    refine h_getI rfl o0 fi_7 (fun b41a b41b => ?_)
    refine h_intv k_3 rfl ?_
    refine i_eq (kn := kn) (t := 0) (tgt := 14) (np := 8) rfl (by unfold R32; omega) (by unfold R32; omega) (fun e42 => ?_) (fun e42 => ?_)
    · refine h_aload rfl l0 rfl ?_
      refine h_getI rfl o0 fi_8 (fun b43a b43b => ?_)
      refine h_iload rfl l0 rfl ?_
      refine h_iload rfl l0 rfl ?_
      obtain ⟨z44, hf44, hz44⟩ := x_isIn (kn := kn) o0.1 (gF w0 213 8) lo hi ⟨by omega, by omega⟩ ⟨by omega, by omega⟩ ⟨by omega, by omega⟩
      refine h_S3 rfl o0 l0 rfl rfl hf44 ?_
      refine j_ne (kn := kn) (t := 1) (tgt := 32) (np := 26) rfl (by unfold R32; omega) (fun e45 => ?_) (fun e45 => ?_)
      · refine h_aload rfl l0 rfl ?_
        refine h_aload rfl l0 rfl ?_
        refine h_getI rfl o0 fi_8 (fun b46a b46b => ?_)
        refine x_putI rfl o0 fi_13 rfl (by omega) (by omega) (fun w47 o47 q48a q48F q48X q48J q48Y q48R => ?_)
        refine h_aload rfl l0 rfl ?_
        obtain ⟨wG49, hf49, oG49', sG49, tG49⟩ := x_go (kn := kn) (tkR_sm (smW_tr (smW_rf eRQ _) (sm_pI (by decide) q48F q48X q48J q48Y q48R)) (by decide) htk).1 o47.1 (p := S.2.2.2.2) (tkG_n hG) ((tkU_i (tkR_sm (smW_tr (smW_rf eRQ _) (sm_pI (by decide) q48F q48X q48J q48Y q48R)) (by decide) htk).2).2.2.1 (by omega))
        have oG49 := hO_tr o47 (hO_mono dRT_g oG49')
        have tG49 : tkR B n 200 (nxT B n 200 S) wG49 := tG49
        refine h_W1 rfl o47 l0 ci_213 rfl rfl hf49 ?_
        refine h_intv k_1 rfl ?_
        refine h_zret (by omega) rfl ?_
        refine ⟨_, _, rfl, oG49, smW_tr (smW_tr sm (sm_pI (by decide) q48F q48X q48J q48Y q48R)) (smW_mono (by decide) sG49), ?_⟩
        rw [show zNum B n 200 lo hi S = .inr (S.2.2.1, nxT B n 200 S) from by
          unfold zNum
          rw [if_neg (by omega), if_neg (by omega)], zOK_r]
        exact ⟨rfl, by rw [sG49.1 213 13 (by decide), q48a]; show _ = S.2.2.1; omega, tG49⟩
      · refine h_aload rfl l0 rfl ?_
        refine h_intv k_2 rfl ?_
        obtain ⟨wR50, hf50, oR50', sR50, rA50, rB50⟩ := x_bad (kn := kn) o0.1 htk hG 2 ⟨by omega, by omega⟩
        have oR50 := hO_tr o0 oR50'
        rw [if_k (by omega)] at rA50
        refine h_V2 rfl o0 l0 ci_213 rfl rfl hf50 ?_
        refine h_zret (by omega) rfl ?_
        refine ⟨_, _, rfl, oR50, smW_tr sm (smW_mono (by decide) sR50), ?_⟩
        rw [show zNum B n 200 lo hi S = .inl (2, S.2.1) from by
          unfold zNum
          rw [if_neg (by omega), if_pos (by omega)], zOK_l]
        exact ⟨rfl, ⟨by rw [rA50], by rw [rB50]⟩⟩
    · refine h_aload rfl l0 rfl ?_
      refine h_intv k_1 rfl ?_
      obtain ⟨wR51, hf51, oR51', sR51, rA51, rB51⟩ := x_bad (kn := kn) o0.1 htk hG 1 ⟨by omega, by omega⟩
      have oR51 := hO_tr o0 oR51'
      rw [if_k (by omega)] at rA51
      refine h_V2 rfl o0 l0 ci_213 rfl rfl hf51 ?_
      refine h_zret (by omega) rfl ?_
      refine ⟨_, _, rfl, oR51, smW_tr sm (smW_mono (by decide) sR51), ?_⟩
      rw [show zNum B n 200 lo hi S = .inl (1, S.2.1) from if_pos (by omega), zOK_l]
      exact ⟨rfl, ⟨by rw [rA51], by rw [rB51]⟩⟩
  obtain ⟨r, h1, w2, b, h2, h3⟩ := h_meth1 (nL := 3) rfl K
  rw [h2] at h1
  exact ⟨w2, b, h1, h3⟩
theorem x_findIn220_l {kn : sKn} {w : sW} {N : Nat → Int} {X : Int} {b m : Nat} (hw : wOk ZZ w) (hN : ∀ s, s < m → gY w 220 (b + s) = Int64.ofInt (N (b + s)) ∧ 0 ≤ N (b + s) ∧ N (b + s) < 27 ^ 7) (hbm : b + m ≤ 16) (hX : 0 ≤ X ∧ X < 27 ^ 7) : ∀ (d k : Nat) (lv : List (Nat × Value)), k + d = m → l_get lv 0 = some (.ref 220) → l_get lv 1 = some (hI (b : Int)) → l_get lv 2 = some (hI (m : Int)) → l_get lv 3 = some (hJ X) → l_get lv 5 = some (hI (k : Int)) → Tp (tX12_findIn kn) (fun r => r = (some (hI (fnd N b X d k)), w, 0, 0)) 3 (lv, [], w, 0, 0) := by
  have o0 : hO [] w w := hO_rf hw
  intro d
  induction d with
  | zero =>
    intro k lv hkd q0 q1 q2 q3 q5
    refine r_iload rfl q5 ?_
    refine r_iload rfl q2 ?_
    refine i_ge (kn := kn) (t := 3) (tgt := 29) (np := 9) rfl (by unfold R32; omega) (by unfold R32; omega) (fun e1 => ?_) (fun e1 => ?_)
    · refine r_intv k_n1 rfl ?_
      exact r_iret rfl rfl
    · omega
  | succ d ih =>
    intro k lv hkd q0 q1 q2 q3 q5
    obtain ⟨n1, n2, n3⟩ := hN k (by omega)
    refine r_iload rfl q5 ?_
    refine r_iload rfl q2 ?_
    refine i_ge (kn := kn) (t := 3) (tgt := 29) (np := 9) rfl (by unfold R32; omega) (by unfold R32; omega) (fun e1 => ?_) (fun e1 => ?_)
    · omega
    · refine r_aload rfl q0 ?_
      refine r_iload rfl q1 ?_
      refine r_iload rfl q5 ?_
      refine h_iadd rfl ?_
      refine x_lald (b + k) rfl o0 aj_220 rfl (by omega) (by omega) ?_
      rw [n1]
      refine r_lload rfl q3 ?_
      refine x_lcmp rfl (fun cc c1 c2 ce => ?_)
      have ce2 : cc = 0 ↔ N (b + k) = X := by
        rw [ce, hJ_inj (nm_R ⟨n2, n3⟩) (nm_R hX)]
      refine j_ne (kn := kn) (t := 1) (tgt := 23) (np := 20) rfl (by unfold R32; omega) (fun e2 => ?_) (fun e2 => ?_)
      · refine r_iincv k_1 rfl q5 ?_
        refine r_goto rfl ?_
        rw [fnd_n (fun h => e2 (ce2.mpr h))]
        exact ih (k + 1) _ (by omega) (lp_get (by decide) q0 (Or.inl rfl)) (lp_get (by decide) q1 (Or.inl rfl)) (lp_get (by decide) q2 (Or.inl rfl)) (lp_get (by decide) q3 (Or.inr (by decide))) l_get_head
      · refine r_iload rfl q5 ?_
        rw [fnd_y (ce2.mp (by omega))]
        exact r_iret rfl rfl
theorem x_findIn220 {kn : sKn} {w : sW} {N : Nat → Int} {X : Int} {b m : Nat} (hw : wOk ZZ w) (hN : ∀ s, s < m → gY w 220 (b + s) = Int64.ofInt (N (b + s)) ∧ 0 ≤ N (b + s) ∧ N (b + s) < 27 ^ 7) (hbm : b + m ≤ 16) (hX : 0 ≤ X ∧ X < 27 ^ 7) : fX12_findIn kn [.ref 220, hI (b : Int), hI (m : Int), hJ X] w = some (some (hI (fnd N b X m 0)), w, 0, 0) := by
  have K : Tp (tX12_findIn kn) (fun r => r = (some (hI (fnd N b X m 0)), w, 0, 0)) 0 (lv_args 0 [.ref 220, hI (b : Int), hI (m : Int), hJ X], [], w, 0, 0) := by
    refine r_intv k_0 rfl ?_
    refine r_istore rfl ?_
    exact x_findIn220_l hw hN hbm hX m 0 _ (by omega) (lp_get (by decide) rfl (Or.inl rfl)) (lp_get (by decide) rfl (Or.inl rfl)) (lp_get (by decide) rfl (Or.inl rfl)) (lp_get (by decide) rfl (Or.inr (by decide))) l_get_head
  obtain ⟨r, h1, h2⟩ := h_meth1 (nL := 6) rfl K
  rw [h2] at h1
  exact h1
theorem fr_gJ {D : List (Nat × Nat)} {w w' : sW} {c t kf : Nat} (h : frOk ZZ D w w') (hc : ztau c = some t) (hm : mIn D t kf = false) (hw : wOk ZZ w) (hx : cIs c ≠ none) : gJ w' c kf = gJ w c kf := by
  cases e : cIs c with
  | none => exact absurd e hx
  | some q =>
    obtain ⟨fs, w1⟩ := cIs_ok (hO_rf (D := []) hw) e
    obtain ⟨fs', k1, k2⟩ := (h.2.1 c _ w1).2 t hc
    unfold gJ
    rw [k1, w1]
    dsimp only
    rw [k2 kf (mIn_no hm)]
/-- a call that leaves the token alone -/
def tkF (D : List (Nat × Nat)) : Bool := mIn D 62 999 || (mIn D 61 3 || (mIn D 61 4 || (mIn D 61 5 || (mIn D 61 6 || (mIn D 61 7 || (mIn D 61 8 || (mIn D 61 9 || mIn D 61 12)))))))
theorem tkR_hO {D : List (Nat × Nat)} {B : Nat → Int} {n L : Nat} {S : tS} {w w' : sW} (hw : wOk ZZ w) (o : hO D w w') (h : tkF D = false) (t : tkR B n L S w) : tkR B n L S w' := by
  unfold tkF at h
  simp only [Bool.or_eq_false_iff] at h
  obtain ⟨h62, h3, h4, h5, h6, h7, h8, h9, h12⟩ := h
  have F : ∀ k, mIn D 61 k = false → gF w' 213 k = gF w 213 k := fun k hk => fr_gF (t := 61) (c := 213) o.2 rfl hk hw (by decide +kernel)
  obtain ⟨⟨t1, t2, t3, t4, t5, t6⟩, u⟩ := t
  refine ⟨⟨fun i hi => (fr_gX2 o.2 (show ztau 214 = some 62 from rfl) h62 i).trans (t1 i hi), (F 3 h3).trans t2, (F 4 h4).trans t3, t4, t5, t6⟩, ?_⟩
  rw [F 7 h7, F 6 h6, F 8 h8, F 9 h9, F 5 h5, fr_gJ (t := 61) (c := 213) o.2 rfl h12 hw (by decide +kernel)]
  exact u
/-- how many signers there are, and their names -/
def nmS (R N : Nat → Int) (w : sW) : Prop := (gX w 215 1 = R 1 ∧ 0 ≤ R 1 ∧ R 1 ≤ 10) ∧ ∀ s : Nat, (s : Int) < R 1 → gY w 220 s = Int64.ofInt (N s) ∧ 0 ≤ N s ∧ N s < 27 ^ 7
theorem nmS_hO {D : List (Nat × Nat)} {R N : Nat → Int} {w w' : sW} (o : hO D w w') (h : (mIn D 61 779 || mIn D 68 999) = false) (p : nmS R N w) : nmS R N w' := by
  rw [Bool.or_eq_false_iff] at h
  refine ⟨⟨(hw_of o h.1 (by omega)).trans p.1.1, p.1.2⟩, fun s hs => ?_⟩
  rw [fr_gY o.2 (show ztau 220 = some 68 from rfl) h.2 s]
  exact p.2 s hs
theorem nmS_s {kn : sKn} {R N : Nat → Int} {w : sW} {X : Int} (hw : wOk ZZ w) (p : nmS R N w) (hX : 0 ≤ X ∧ X < 27 ^ 7) : fX12_findIn kn [.ref 220, hI 0, hI (R 1), hJ X] w = some (some (hI (fnd N 0 X (R 1).toNat 0)), w, 0, 0) := by
  have h1 := p.1.2.1
  have h2 := p.1.2.2
  have h := x_findIn220 (kn := kn) (w := w) (N := N) (X := X) (b := 0) (m := (R 1).toNat) hw (fun s hs => by
    rw [Nat.zero_add]
    exact p.2 s (by omega)) (by omega) hX
  rw [show (((R 1).toNat : Nat) : Int) = R 1 by omega] at h
  exact h
def sX (B : Nat → Int) (n : Nat) (R N : Nat → Int) (S : tS) (w : sW) : Prop := tkR B n 200 S w ∧ tkG B n 200 S ∧ nmS R N w ∧ gF w 213 10 = 0
theorem x_goS {kn : sKn} {w : sW} {B : Nat → Int} {n L : Nat} {S : tS} (hw : wOk ZZ w) (ht : tkR B n L S w) (hG : tkG B n L S) (h2 : 2 ≤ S.1) : ∃ w', fX12_go kn [.ref 213] w = some (none, w', 0, 0) ∧ hO dH_go7 w w' ∧ tkR B n L (nxT B n L S) w' := by
  obtain ⟨w', e, o, _, t⟩ := x_go (kn := kn) ht.1 hw (p := S.2.2.2.2) (tkG_n hG) ((tkU_i ht.2).2.2.1 h2)
  exact ⟨w', e, o, t⟩
/-- one result behind one call -/
theorem one_r {f : List Value → sW → Option sR} {av : List Value} {w : sW} {r1 r2 : sR} (e1 : f av w = some r1) (e2 : f av w = some r2) : r1 = r2 := by
  have e3 := e1.symm.trans e2
  simp only [Option.some.injEq] at e3
  exact e3
theorem hI_ne {x y : Int} (h : hI x = hI y) (hx : R32 x) (hy : R32 y) : x = y := by
  have h : Value.int (Int32.ofInt x) = Value.int (Int32.ofInt y) := h
  have h : Int32.ofInt x = Int32.ofInt y := by injection h
  have h1 := hI_to hx
  have h2 := hI_to hy
  rw [h] at h1
  exact h1.symm.trans h2
def dZ : List (Nat × Nat) := dH_rs ++ dRT
theorem dZ_rs : msub dH_rs dZ = true := by decide +kernel
theorem dZ_R : msub dRT dZ = true := by decide +kernel
theorem dZ_g : msub dH_go7 dZ = true := by decide +kernel
theorem dZ_w : msub dX12_readWhom dZ = true := by decide +kernel
theorem dZ_so : msub dH_so dZ = true := by decide +kernel
section SENTR
variable {B : Nat → Int} {n : Nat} {R N : Nat → Int}
def rsT (B : Nat → Int) (n : Nat) (sp : zE ⊕ (tS × Int)) (r : sR) : Prop := ∃ (w' : sW) (b : Int), r = (some (hI b), w', 0, 0) ∧ zOK sp b (fun e => erR e w') (fun q => tkR B n 200 q.1 w' ∧ tkG B n 200 q.1 ∧ gF w' 213 57 = q.2 ∧ gF w' 213 10 = 0)
theorem z_readWhom {kn : sKn} {w : sW} {S : tS} (hw : wOk ZZ w) (hS : sX B n R N S w) (x : Int) (hx : 20 ≤ x ∧ x ≤ 22) : ∃ (w' : sW) (b : Int), fX12_readWhom kn [.ref 213, hI x] w = some (some (hI b), w', 0, 0) ∧ hO dX12_readWhom w w' ∧ (b = 1 → 0 ≤ gF w' 213 13 ∧ gF w' 213 13 ≤ 11) ∧ zOK (zSay B n 200 R N x S) b (fun e => erR e w') (fun T => tkR B n 200 T w' ∧ tkG B n 200 T) ∧ (b = 1 → gF w' 213 10 = 0) := by
  obtain ⟨htk, hG, hNm, hF0⟩ := hS
  obtain ⟨_, hkI, hto, hwd⟩ := tkU_i htk.2
  have gbS := tkG_b hG
  have hn9 := htk.1.2.2.2.1
  have hr1 := hNm.1.2.1
  have hr2 := hNm.1.2.2
  have K : Tp (tX12_readWhom kn) (fun r => ∃ (w' : sW) (b : Int), r = (some (hI b), w', 0, 0) ∧ zOK (zSay B n 200 R N x S) b (fun e => erR e w') (fun T => tkR B n 200 T w' ∧ tkG B n 200 T)) 0 (lv_args 0 [.ref 213, hI x], [], w, 0, 0) := by
    have l0 : hL (lv_args 0 [.ref 213, hI x]) (lv_args 0 [.ref 213, hI x]) := hL_ex rfl
    have o0 : hO dZ w w := hO_rf hw
    refine h_iload rfl l0 rfl ?_
    refine h_intv k_22 rfl ?_
    refine i_ne (kn := kn) (t := 1) (tgt := 14) (np := 6) rfl (by unfold R32; omega) (by unfold R32; omega) (fun e41 => ?_) (fun e41 => ?_)
    · refine h_aload rfl l0 rfl ?_
      obtain ⟨b42, hf42, hz42⟩ := x_isName (kn := kn) o0.1 htk hG
      refine h_V1 rfl o0 l0 ci_213 rfl rfl hf42 ?_
      refine j_ne (kn := kn) (t := 1) (tgt := 27) (np := 21) rfl (by unfold R32; omega) (fun e43 => ?_) (fun e43 => ?_)
      · have h5 : S.1 = 5 := by omega
        have hwd5 := hwd (by omega)
        refine h_aload rfl l0 rfl ?_
        refine h_aload rfl l0 rfl ?_
        refine h_getR rfl o0 fr_19 ?_
        refine h_intv k_0 rfl ?_
        refine h_aload rfl l0 rfl ?_
        refine h_getR rfl o0 fr_14 ?_
        refine h_intv k_1 rfl ?_
        refine h_ialdj (1) rfl o0 ai_215 rfl (by omega) (by omega) (fun b44a b44b => ?_)
        rw [hNm.1.1] at b44a b44b ⊢
        refine h_aload rfl l0 rfl ?_
        refine h_getJv rfl o0 fj_12 ?_
        rw [hwd5]
        have hf45 := nmS_s (kn := kn) (N := N) (X := S.2.2.2.1) o0.1 hNm (tkG_X hG (by omega))
        have hfb := fnd_b N 0 S.2.2.2.1 (R 1).toNat 0
        refine h_S4 rfl o0 l0 rfl rfl hf45 ?_
        refine x_putI rfl o0 fi_13 rfl (by omega) (by omega) (fun w46 o46 q47a q47F q47X q47J q47Y q47R => ?_)
        refine h_aload rfl l0 rfl ?_
        refine h_getI rfl o46 fi_13 (fun b48a b48b => ?_)
        rw [q47a] at b48a b48b ⊢
        refine h_intv k_n1 rfl ?_
        refine i_ne (kn := kn) (t := 1) (tgt := 63) (np := 57) rfl (by unfold R32; omega) (by unfold R32; omega) (fun e49 => ?_) (fun e49 => ?_)
        · refine h_aload rfl l0 rfl ?_
          obtain ⟨wG, hf50, oG', tG⟩ := x_goS (kn := kn) o46.1 (tkR_sm (smW_tr (smW_rf eRQ _) (sm_pI (by decide) q47F q47X q47J q47Y q47R)) (by decide) htk) hG (by omega)
          have oG := hO_tr o46 (hO_mono dZ_g oG')
          refine h_W1 rfl o46 l0 ci_213 rfl rfl hf50 ?_
          refine h_intv k_1 rfl ?_
          refine h_zret (by omega) rfl ?_
          refine ⟨_, _, rfl, ?_⟩
          rw [show zSay B n 200 R N x S = zB (zSig B n 200 R N S) (fun q => .inr q.2) from if_pos (by omega)]
          rw [show zSig B n 200 R N S = .inr (fnd N 0 S.2.2.2.1 (R 1).toNat 0, nxT B n 200 S) from (if_neg (by omega)).trans (if_neg (by omega)), zB_r, zOK_r]
          exact ⟨rfl, tG, tkG_nx hG⟩
        · refine h_aload rfl l0 rfl ?_
          refine h_intv k_3 rfl ?_
          obtain ⟨wD51, hf51, oD51', sD51, fD51, pD51⟩ := x_bad (kn := kn) o46.1 (tkR_sm (smW_tr (smW_rf eRQ _) (sm_pI (by decide) q47F q47X q47J q47Y q47R)) (by decide) htk) hG 3 ⟨by omega, by omega⟩
          have oD51 := hO_tr o46 (hO_mono dZ_R oD51')
          rw [if_k (by omega)] at fD51
          refine h_V2 rfl o46 l0 ci_213 rfl rfl hf51 ?_
          refine h_zret (by omega) rfl ?_
          refine ⟨_, _, rfl, ?_⟩
          rw [show zSay B n 200 R N x S = zB (zSig B n 200 R N S) (fun q => .inr q.2) from if_pos (by omega)]
          rw [show zSig B n 200 R N S = .inl (3, S.2.1) from (if_neg (by omega)).trans (if_pos (by omega)), zB_l, zOK_l]
          exact ⟨rfl, fD51, pD51⟩
      · refine h_aload rfl l0 rfl ?_
        refine h_intv k_1 rfl ?_
        obtain ⟨wD52, hf52, oD52', sD52, fD52, pD52⟩ := x_bad (kn := kn) o0.1 htk hG 1 ⟨by omega, by omega⟩
        have oD52 := hO_tr o0 (hO_mono dZ_R oD52')
        rw [if_k (by omega)] at fD52
        refine h_V2 rfl o0 l0 ci_213 rfl rfl hf52 ?_
        refine h_zret (by omega) rfl ?_
        refine ⟨_, _, rfl, ?_⟩
        rw [show zSay B n 200 R N x S = zB (zSig B n 200 R N S) (fun q => .inr q.2) from if_pos (by omega)]
        rw [show zSig B n 200 R N S = .inl (1, S.2.1) from if_pos (by omega), zB_l, zOK_l]
        exact ⟨rfl, fD52, pD52⟩
    · refine h_aload rfl l0 rfl ?_
      refine h_intv k_0 rfl ?_
      refine h_intv k_11 rfl ?_
      obtain ⟨wA, bA, hf53, oA', sA, hz⟩ := x_readNumberS (kn := kn) o0.1 htk hG 0 11 ⟨by omega, by omega⟩ ⟨by omega, by omega⟩
      have oA := hO_tr o0 (hO_mono dZ_R oA')
      have hb01 := zOK_01 hz
      refine h_V3 rfl o0 l0 ci_213 rfl rfl hf53 ?_
      refine h_zret (by omega) rfl ?_
      refine ⟨_, _, rfl, ?_⟩
      rw [show zSay B n 200 R N x S = zB (zNum B n 200 0 11 S) (fun q => .inr q.2) from (if_neg (by omega)).trans (if_pos (by omega))]
      rcases hr : zNum B n 200 0 11 S with e | q
      · rw [hr, zOK_l] at hz
        rw [zB_l, zOK_l]
        exact hz
      · rw [hr, zOK_r] at hz
        rw [zB_r, zOK_r]
        exact ⟨hz.1, hz.2.2, by rw [(zNum_r hr).1]; exact tkG_nx hG⟩
  obtain ⟨r, h1, w2, b2, h2, h3⟩ := h_meth1 (nL := 2) rfl K
  obtain ⟨w1, b1, g1, g2, g3, g4⟩ := s_readWhom (kn := kn) hw x ⟨by omega, by omega⟩
  rw [h2] at h1
  have e := one_r g1 h1
  simp only [Prod.mk.injEq, Option.some.injEq] at e
  obtain ⟨e1, e2, _⟩ := e
  have hb := zOK_01 h3
  have e1 := hI_ne e1 (by unfold R32; omega) (by unfold R32; omega)
  subst e2
  subst e1
  obtain ⟨rF, wF, hfF, hzF⟩ := f_whom (kn := kn) hw hF0 x ⟨by omega, by omega⟩
  exact ⟨w1, b1, g1, g2, g4, h3, fun z => fz g1 hfF hzF z⟩
theorem z_says {kn : sKn} {w : sW} {S : tS} (hw : wOk ZZ w) (ht : tkR B n 200 S w) (nn : NI w) (k x y z : Int) (hk : R32 k) (hx : R32 x) (hy : R32 y) (hz : R32 z) (h40 : gF w 213 56 ≤ 40) (c1 : k = 1 → 0 ≤ x ∧ x < gF w 213 56) (c2 : k = 2 ∨ k = 3 → (0 ≤ x ∧ x < gF w 213 56) ∧ (0 ≤ y ∧ y < gF w 213 56)) (c3 : 70 ≤ k ∧ k ≤ 72 → 0 ≤ x ∧ x ≤ 11) : ∃ w', fX12_saysOne kn [.ref 213, hI k, hI x, hI y, hI z] w = some (some (hI (gF w 213 56)), w', 0, 0) ∧ hO dH_rs w w' ∧ NI w' ∧ gF w' 213 56 = gF w 213 56 + 1 ∧ (∀ kf, kf ≠ 56 → gF w' 213 kf = gF w 213 kf) ∧ tkR B n 200 S w' := by
  obtain ⟨w1, h1, h2, h3, h4, h5⟩ := s_says (kn := kn) hw nn k x y z hk hx hy hz h40 c1 c2 c3
  obtain ⟨_, _, _, _, _, _, _, a1, a2⟩ := fI_ok (hO_rf (D := []) hw) fi_56
  obtain ⟨m, hm⟩ : ∃ m : Nat, gF w 213 56 = (m : Int) := ⟨(gF w 213 56).toNat, by omega⟩
  obtain ⟨w2, g1, g2, _⟩ := s_saysOne (kn := kn) hw k x y z hk hx hy hz m hm (by omega)
  have e := one_r h1 g1
  simp only [Prod.mk.injEq] at e
  obtain ⟨_, e2, _⟩ := e
  subst e2
  exact ⟨w1, h1, h2, h3, h4, h5, tkR_hO hw g2 (by decide +kernel) ht⟩
/-- what a reader of a SENTENCE answers: as the run over all says, and as the spec says -/
def rsB (B : Nat → Int) (n : Nat) (e : Int) (sp : zE ⊕ (tS × Int)) (f : List Value → sW → Option sR) (args : List Value) (w : sW) : Prop := ∃ (w' : sW) (b : Int), f args w = some (some (hI b), w', 0, 0) ∧ hO dH_rs w w' ∧ gF w' 213 58 = gF w 213 58 ∧ (b = 1 → rsG e w w') ∧ zOK sp b (fun e => erR e w') (fun q => tkR B n 200 q.1 w' ∧ tkG B n 200 q.1 ∧ gF w' 213 57 = q.2 ∧ gF w' 213 10 = 0)
theorem rsB_mk {e : Int} {sp : zE ⊕ (tS × Int)} {f : List Value → sW → Option sR} {args : List Value} {w : sW} (h : rsR e f args w) {r : sR} (h1 : f args w = some r) (h2 : rsT B n sp r) : rsB B n e sp f args w := by
  obtain ⟨r1, g1, w1, b1, rfl, g2, g3, g4, g5⟩ := h
  obtain ⟨w2, b2, rfl, h3⟩ := h2
  have e := one_r g1 h1
  simp only [Prod.mk.injEq, Option.some.injEq] at e
  obtain ⟨e1, e2, _⟩ := e
  have hb := zOK_01 h3
  have e1 := hI_ne e1 (by unfold R32; omega) (by unfold R32; omega)
  subst e2
  subst e1
  exact ⟨w1, b1, g1, g2, g3, g5, h3⟩
def eR9 : List (Nat × Nat × Nat) := [(0, 213, 56), (0, 213, 57), (0, 213, 58), (0, 213, 59)]
theorem z_readOf {kn : sKn} {w : sW} {S : tS} (hI0 : rsI w) (hS : sX B n R N S w) (x : Int) (hx : 20 ≤ x ∧ x ≤ 22) : rsB B n (-1) (zB (zSay B n 200 R N x S) (fun T => .inr (T, gF w 213 57))) (fX12_readOf kn) [.ref 213, hI x] w := by
  have hQ := s_readOf (kn := kn) hI0 x hx
  obtain ⟨hw, nn, hp⟩ := hI0
  obtain ⟨htk, hG, hNm, hF0⟩ := hS
  obtain ⟨_, hkI, hto, hwd⟩ := tkU_i htk.2
  have gbS := tkG_b hG
  have hn9 := htk.1.2.2.2.1
  obtain ⟨_, _, _, _, _, _, _, a7, b7⟩ := fI_ok (hO_rf (D := []) hw) fi_57
  obtain ⟨_, _, _, _, _, _, _, a6, b6⟩ := fI_ok (hO_rf (D := []) hw) fi_56
  obtain ⟨_, _, _, _, _, _, _, a8, b8⟩ := fI_ok (hO_rf (D := []) hw) fi_58
  have K : Tp (tX12_readOf kn) (rsT B n (zB (zSay B n 200 R N x S) (fun T => .inr (T, gF w 213 57)))) 0 (lv_args 0 [.ref 213, hI x], [], w, 0, 0) := by
    have l0 : hL (lv_args 0 [.ref 213, hI x]) (lv_args 0 [.ref 213, hI x]) := hL_ex rfl
    have o0 : hO dZ w w := hO_rf hw
    refine h_aload rfl l0 rfl ?_
    refine h_iload rfl l0 rfl ?_
    obtain ⟨wA, bA, hf41, oA', hqA, hzA, hFA⟩ := z_readWhom (kn := kn) o0.1 ⟨htk, hG, hNm, hF0⟩ x hx
    have oA : hO dZ w wA := hO_tr o0 (hO_mono dZ_w oA')
    have nA := ni_fr o0.1 oA' (by decide +kernel) (by decide +kernel) nn
    obtain ⟨fA6, fA7, fA8⟩ := ff_fr o0.1 oA' (by decide +kernel) (by decide +kernel) (by decide +kernel)
    have hb01 := zOK_01 hzA
    rcases hr : zSay B n 200 R N x S with eA | qA
    · rw [hr, zOK_l] at hzA
      obtain ⟨hbA, he1, he2⟩ := hzA
      subst hbA
      refine h_V2 rfl o0 l0 ci_213 rfl rfl hf41 ?_
      refine j_ne (kn := kn) (t := 1) (tgt := 10) (np := 8) rfl (by unfold R32; omega) (fun e42 => ?_) (fun e42 => ?_)
      · omega
      · refine h_intv k_0 rfl ?_
        refine h_zret (by omega) rfl ?_
        refine ⟨_, _, rfl, ?_⟩
        rw [zB_l, zOK_l]
        exact ⟨rfl, he1, he2⟩
    · rw [hr, zOK_r] at hzA
      obtain ⟨hbA, tA, GA⟩ := hzA
      subst hbA
      have hA := hqA rfl
      have FA10 := hFA rfl
      refine h_V2 rfl o0 l0 ci_213 rfl rfl hf41 ?_
      refine j_ne (kn := kn) (t := 1) (tgt := 10) (np := 8) rfl (by unfold R32; omega) (fun e43 => ?_) (fun e43 => ?_)
      · refine h_aload rfl l0 rfl ?_
        refine h_aload rfl l0 rfl ?_
        refine h_intv k_50 rfl ?_
        refine h_iload rfl l0 rfl ?_
        refine h_iadd rfl ?_
        refine h_aload rfl l0 rfl ?_
        refine h_getI rfl oA fi_13 (fun b44a b44b => ?_)
        refine h_intv k_0 rfl ?_
        refine h_intv k_0 rfl ?_
        obtain ⟨wB, hf45, oB', nB, gB, hB, tB⟩ := z_says (kn := kn) oA.1 tA nA (50 + x) (gF wA 213 13) 0 0 ⟨by omega, by omega⟩ ⟨by omega, by omega⟩ ⟨by omega, by omega⟩ ⟨by omega, by omega⟩ (by omega) (fun z => by omega) (fun z => by omega) (fun _ => hA)
        have oB : hO dZ w wB := hO_tr oA (hO_mono dZ_rs oB')
        have hB7 := hB 57 (by decide)
        have hB8 := hB 58 (by decide)
        have hB9 := hB 59 (by decide)
        refine h_V5 rfl oA l0 ci_213 rfl rfl hf45 ?_
        refine x_putI rfl oB fi_59 rfl (by omega) (by omega) (fun w46 o46 q47a q47F q47X q47J q47Y q47R => ?_)
        refine h_intv k_1 rfl ?_
        refine h_zret (by omega) rfl ?_
        refine ⟨_, _, rfl, ?_⟩
        rw [zB_r, zOK_r]
        exact ⟨rfl, (tkR_sm (smW_tr (smW_rf eR9 _) (sm_pI (by decide) q47F q47X q47J q47Y q47R)) (by decide) tB), GA, by rw [q47F 213 57 (by decide)]; omega, by rw [q47F 213 10 (by decide), hB 10 (by decide)]; exact FA10⟩
      · omega
  obtain ⟨r, h1, h2⟩ := h_meth1 (nL := 2) rfl K
  exact rsB_mk hQ h1 h2
theorem z_readCompare {kn : sKn} {w : sW} {S : tS} (hI0 : rsI w) (hS : sX B n R N S w) (x : Int) (hx : 23 ≤ x ∧ x ≤ 26) : rsB B n (-1) (zB (zSay B n 200 R N x S) (fun T => .inr (T, gF w 213 57))) (fX12_readCompare kn) [.ref 213, hI x] w := by
  have hQ := s_readCompare (kn := kn) hI0 x hx
  obtain ⟨hw, nn, hp⟩ := hI0
  obtain ⟨htk, hG, hNm, hF0⟩ := hS
  obtain ⟨_, hkI, hto, hwd⟩ := tkU_i htk.2
  have gbS := tkG_b hG
  have hn9 := htk.1.2.2.2.1
  obtain ⟨_, _, _, _, _, _, _, s9a, s9b⟩ := fI_ok (hO_rf (D := []) hw) fi_9
  obtain ⟨_, _, _, _, _, _, _, a7, b7⟩ := fI_ok (hO_rf (D := []) hw) fi_57
  obtain ⟨_, _, _, _, _, _, _, a6, b6⟩ := fI_ok (hO_rf (D := []) hw) fi_56
  obtain ⟨_, _, _, _, _, _, _, a8, b8⟩ := fI_ok (hO_rf (D := []) hw) fi_58
  have K : Tp (tX12_readCompare kn) (rsT B n (zB (zSay B n 200 R N x S) (fun T => .inr (T, gF w 213 57)))) 0 (lv_args 0 [.ref 213, hI x], [], w, 0, 0) := by
    have l0 : hL (lv_args 0 [.ref 213, hI x]) (lv_args 0 [.ref 213, hI x]) := hL_ex rfl
    have o0 : hO dZ w w := hO_rf hw
    refine h_aload rfl l0 rfl ?_
    refine h_intv k_60 rfl ?_
    obtain ⟨z41, hf41, hz41⟩ := x_isSignR (kn := kn) o0.1 htk hG 60 ⟨by omega, by omega⟩
    refine h_V2 rfl o0 l0 ci_213 rfl rfl hf41 ?_
    refine j_ne (kn := kn) (t := 1) (tgt := 33) (np := 9) rfl (by unfold R32; omega) (fun e42 => ?_) (fun e42 => ?_)
    · refine h_aload rfl l0 rfl ?_
      refine h_getI rfl o0 fi_9 (fun b43a b43b => ?_)
      refine h_istore rfl l0 (fun vl44 l44 => ?_)
      refine h_aload rfl l44 rfl ?_
      obtain ⟨wA, hf45, oA', tA⟩ := x_goS (kn := kn) o0.1 htk hG (by omega)
      have oA := hO_tr o0 (hO_mono dZ_g oA')
      have FA10 : gF wA 213 10 = 0 := (fr_gF (t := 61) (c := 213) (kf := 10) oA'.2 rfl (by decide +kernel) o0.1 (by decide +kernel)).trans hF0
      have nA := ni_fr o0.1 oA' (by decide +kernel) (by decide +kernel) nn
      obtain ⟨fA6, fA7, fA8⟩ := ff_fr o0.1 oA' (by decide +kernel) (by decide +kernel) (by decide +kernel)
      refine h_W1 rfl o0 l44 ci_213 rfl rfl hf45 ?_
      refine h_aload rfl l44 rfl ?_
      refine h_intv k_0 rfl ?_
      refine h_intv k_999 rfl ?_
      obtain ⟨wC, bC, hf46, oC', sC, hzC⟩ := x_readNumberS (kn := kn) oA.1 tA (tkG_nx hG) 0 999 ⟨by omega, by omega⟩ ⟨by omega, by omega⟩
      have oC := hO_tr oA (hO_mono dZ_R oC')
      have nC := ni_fr oA.1 oC' (by decide +kernel) (by decide +kernel) nA
      obtain ⟨fC6, fC7, fC8⟩ := ff_fr oA.1 oC' (by decide +kernel) (by decide +kernel) (by decide +kernel)
      have hb01 := zOK_01 hzC
      rcases hr : zNum B n 200 0 999 (nxT B n 200 S) with eC | qC
      · rw [hr, zOK_l] at hzC
        obtain ⟨hbC, he1, he2⟩ := hzC
        subst hbC
        refine h_V3 rfl oA l44 ci_213 rfl rfl hf46 ?_
        refine j_ne (kn := kn) (t := 1) (tgt := 55) (np := 53) rfl (by unfold R32; omega) (fun e47 => ?_) (fun e47 => ?_)
        · omega
        · refine h_intv k_0 rfl ?_
          refine h_zret (by omega) rfl ?_
          refine ⟨_, _, rfl, ?_⟩
          rw [show zSay B n 200 R N x S = zB (zNum B n 200 0 999 (nxT B n 200 S)) (fun q => .inr q.2) from (if_neg (by omega)).trans ((if_neg (by omega)).trans ((if_pos (by omega)).trans (if_pos ⟨by omega, by omega⟩))), hr, zB_l, zB_l, zOK_l]
          exact ⟨rfl, he1, he2⟩
      · rw [hr, zOK_r] at hzC
        obtain ⟨hbC, hvC, tC⟩ := hzC
        subst hbC
        obtain ⟨rF, wF, hfF, hzF⟩ := f_rn_0_999 (kn := kn) oA.1 FA10
        have FC10 := fz hf46 hfF hzF rfl
        obtain ⟨hq1, hlo, hhi⟩ := zNum_r hr
        have GC : tkG B n 200 qC.2 := by
          rw [hq1]
          exact tkG_nx (tkG_nx hG)
        refine h_V3 rfl oA l44 ci_213 rfl rfl hf46 ?_
        refine j_ne (kn := kn) (t := 1) (tgt := 55) (np := 53) rfl (by unfold R32; omega) (fun e48 => ?_) (fun e48 => ?_)
        · refine h_aload rfl l44 rfl ?_
          refine h_aload rfl l44 rfl ?_
          refine h_intv k_50 rfl ?_
          refine h_iload rfl l44 rfl ?_
          refine h_iadd rfl ?_
          refine h_intv k_0 rfl ?_
          refine h_aload rfl l44 rfl ?_
          refine h_getI rfl oC fi_13 (fun b49a b49b => ?_)
          refine h_iload rfl l44 rfl ?_
          obtain ⟨wB, hf50, oB', nB, gB, hB, tB⟩ := z_says (kn := kn) oC.1 tC nC (50 + x) 0 (gF wC 213 13) (gF w 213 9) ⟨by omega, by omega⟩ ⟨by omega, by omega⟩ ⟨by omega, by omega⟩ ⟨by omega, by omega⟩ (by omega) (fun z => by omega) (fun z => by omega) (fun z => by omega)
          have oB : hO dZ w wB := hO_tr oC (hO_mono dZ_rs oB')
          have hB7 := hB 57 (by decide)
          have hB8 := hB 58 (by decide)
          have hB9 := hB 59 (by decide)
          refine h_V5 rfl oC l44 ci_213 rfl rfl hf50 ?_
          refine x_putI rfl oB fi_59 rfl (by omega) (by omega) (fun w51 o51 q52a q52F q52X q52J q52Y q52R => ?_)
          refine h_intv k_1 rfl ?_
          refine h_zret (by omega) rfl ?_
          refine ⟨_, _, rfl, ?_⟩
          rw [show zSay B n 200 R N x S = zB (zNum B n 200 0 999 (nxT B n 200 S)) (fun q => .inr q.2) from (if_neg (by omega)).trans ((if_neg (by omega)).trans ((if_pos (by omega)).trans (if_pos ⟨by omega, by omega⟩))), hr, zB_r, zB_r, zOK_r]
          exact ⟨rfl, (tkR_sm (smW_tr (smW_rf eR9 _) (sm_pI (by decide) q52F q52X q52J q52Y q52R)) (by decide) tB), GC, by rw [q52F 213 57 (by decide)]; omega, by rw [q52F 213 10 (by decide), hB 10 (by decide)]; exact FC10⟩
        · omega
    · refine h_aload rfl l0 rfl ?_
      refine h_intv k_61 rfl ?_
      obtain ⟨z53, hf53, hz53⟩ := x_isSignR (kn := kn) o0.1 htk hG 61 ⟨by omega, by omega⟩
      refine h_V2 rfl o0 l0 ci_213 rfl rfl hf53 ?_
      refine j_ne (kn := kn) (t := 1) (tgt := 33) (np := 18) rfl (by unfold R32; omega) (fun e54 => ?_) (fun e54 => ?_)
      · refine h_aload rfl l0 rfl ?_
        refine h_getI rfl o0 fi_9 (fun b55a b55b => ?_)
        refine h_istore rfl l0 (fun vl56 l56 => ?_)
        refine h_aload rfl l56 rfl ?_
        obtain ⟨wA, hf57, oA', tA⟩ := x_goS (kn := kn) o0.1 htk hG (by omega)
        have oA := hO_tr o0 (hO_mono dZ_g oA')
        have FA10 : gF wA 213 10 = 0 := (fr_gF (t := 61) (c := 213) (kf := 10) oA'.2 rfl (by decide +kernel) o0.1 (by decide +kernel)).trans hF0
        have nA := ni_fr o0.1 oA' (by decide +kernel) (by decide +kernel) nn
        obtain ⟨fA6, fA7, fA8⟩ := ff_fr o0.1 oA' (by decide +kernel) (by decide +kernel) (by decide +kernel)
        refine h_W1 rfl o0 l56 ci_213 rfl rfl hf57 ?_
        refine h_aload rfl l56 rfl ?_
        refine h_intv k_0 rfl ?_
        refine h_intv k_999 rfl ?_
        obtain ⟨wC, bC, hf58, oC', sC, hzC⟩ := x_readNumberS (kn := kn) oA.1 tA (tkG_nx hG) 0 999 ⟨by omega, by omega⟩ ⟨by omega, by omega⟩
        have oC := hO_tr oA (hO_mono dZ_R oC')
        have nC := ni_fr oA.1 oC' (by decide +kernel) (by decide +kernel) nA
        obtain ⟨fC6, fC7, fC8⟩ := ff_fr oA.1 oC' (by decide +kernel) (by decide +kernel) (by decide +kernel)
        have hb01 := zOK_01 hzC
        rcases hr : zNum B n 200 0 999 (nxT B n 200 S) with eC | qC
        · rw [hr, zOK_l] at hzC
          obtain ⟨hbC, he1, he2⟩ := hzC
          subst hbC
          refine h_V3 rfl oA l56 ci_213 rfl rfl hf58 ?_
          refine j_ne (kn := kn) (t := 1) (tgt := 55) (np := 53) rfl (by unfold R32; omega) (fun e59 => ?_) (fun e59 => ?_)
          · omega
          · refine h_intv k_0 rfl ?_
            refine h_zret (by omega) rfl ?_
            refine ⟨_, _, rfl, ?_⟩
            rw [show zSay B n 200 R N x S = zB (zNum B n 200 0 999 (nxT B n 200 S)) (fun q => .inr q.2) from (if_neg (by omega)).trans ((if_neg (by omega)).trans ((if_pos (by omega)).trans (if_pos ⟨by omega, by omega⟩))), hr, zB_l, zB_l, zOK_l]
            exact ⟨rfl, he1, he2⟩
        · rw [hr, zOK_r] at hzC
          obtain ⟨hbC, hvC, tC⟩ := hzC
          subst hbC
          obtain ⟨rF, wF, hfF, hzF⟩ := f_rn_0_999 (kn := kn) oA.1 FA10
          have FC10 := fz hf58 hfF hzF rfl
          obtain ⟨hq1, hlo, hhi⟩ := zNum_r hr
          have GC : tkG B n 200 qC.2 := by
            rw [hq1]
            exact tkG_nx (tkG_nx hG)
          refine h_V3 rfl oA l56 ci_213 rfl rfl hf58 ?_
          refine j_ne (kn := kn) (t := 1) (tgt := 55) (np := 53) rfl (by unfold R32; omega) (fun e60 => ?_) (fun e60 => ?_)
          · refine h_aload rfl l56 rfl ?_
            refine h_aload rfl l56 rfl ?_
            refine h_intv k_50 rfl ?_
            refine h_iload rfl l56 rfl ?_
            refine h_iadd rfl ?_
            refine h_intv k_0 rfl ?_
            refine h_aload rfl l56 rfl ?_
            refine h_getI rfl oC fi_13 (fun b61a b61b => ?_)
            refine h_iload rfl l56 rfl ?_
            obtain ⟨wB, hf62, oB', nB, gB, hB, tB⟩ := z_says (kn := kn) oC.1 tC nC (50 + x) 0 (gF wC 213 13) (gF w 213 9) ⟨by omega, by omega⟩ ⟨by omega, by omega⟩ ⟨by omega, by omega⟩ ⟨by omega, by omega⟩ (by omega) (fun z => by omega) (fun z => by omega) (fun z => by omega)
            have oB : hO dZ w wB := hO_tr oC (hO_mono dZ_rs oB')
            have hB7 := hB 57 (by decide)
            have hB8 := hB 58 (by decide)
            have hB9 := hB 59 (by decide)
            refine h_V5 rfl oC l56 ci_213 rfl rfl hf62 ?_
            refine x_putI rfl oB fi_59 rfl (by omega) (by omega) (fun w63 o63 q64a q64F q64X q64J q64Y q64R => ?_)
            refine h_intv k_1 rfl ?_
            refine h_zret (by omega) rfl ?_
            refine ⟨_, _, rfl, ?_⟩
            rw [show zSay B n 200 R N x S = zB (zNum B n 200 0 999 (nxT B n 200 S)) (fun q => .inr q.2) from (if_neg (by omega)).trans ((if_neg (by omega)).trans ((if_pos (by omega)).trans (if_pos ⟨by omega, by omega⟩))), hr, zB_r, zB_r, zOK_r]
            exact ⟨rfl, (tkR_sm (smW_tr (smW_rf eR9 _) (sm_pI (by decide) q64F q64X q64J q64Y q64R)) (by decide) tB), GC, by rw [q64F 213 57 (by decide)]; omega, by rw [q64F 213 10 (by decide), hB 10 (by decide)]; exact FC10⟩
          · omega
      · refine h_aload rfl l0 rfl ?_
        refine h_intv k_62 rfl ?_
        obtain ⟨z65, hf65, hz65⟩ := x_isSignR (kn := kn) o0.1 htk hG 62 ⟨by omega, by omega⟩
        refine h_V2 rfl o0 l0 ci_213 rfl rfl hf65 ?_
        refine j_ne (kn := kn) (t := 1) (tgt := 33) (np := 27) rfl (by unfold R32; omega) (fun e66 => ?_) (fun e66 => ?_)
        · refine h_aload rfl l0 rfl ?_
          refine h_getI rfl o0 fi_9 (fun b67a b67b => ?_)
          refine h_istore rfl l0 (fun vl68 l68 => ?_)
          refine h_aload rfl l68 rfl ?_
          obtain ⟨wA, hf69, oA', tA⟩ := x_goS (kn := kn) o0.1 htk hG (by omega)
          have oA := hO_tr o0 (hO_mono dZ_g oA')
          have FA10 : gF wA 213 10 = 0 := (fr_gF (t := 61) (c := 213) (kf := 10) oA'.2 rfl (by decide +kernel) o0.1 (by decide +kernel)).trans hF0
          have nA := ni_fr o0.1 oA' (by decide +kernel) (by decide +kernel) nn
          obtain ⟨fA6, fA7, fA8⟩ := ff_fr o0.1 oA' (by decide +kernel) (by decide +kernel) (by decide +kernel)
          refine h_W1 rfl o0 l68 ci_213 rfl rfl hf69 ?_
          refine h_aload rfl l68 rfl ?_
          refine h_intv k_0 rfl ?_
          refine h_intv k_999 rfl ?_
          obtain ⟨wC, bC, hf70, oC', sC, hzC⟩ := x_readNumberS (kn := kn) oA.1 tA (tkG_nx hG) 0 999 ⟨by omega, by omega⟩ ⟨by omega, by omega⟩
          have oC := hO_tr oA (hO_mono dZ_R oC')
          have nC := ni_fr oA.1 oC' (by decide +kernel) (by decide +kernel) nA
          obtain ⟨fC6, fC7, fC8⟩ := ff_fr oA.1 oC' (by decide +kernel) (by decide +kernel) (by decide +kernel)
          have hb01 := zOK_01 hzC
          rcases hr : zNum B n 200 0 999 (nxT B n 200 S) with eC | qC
          · rw [hr, zOK_l] at hzC
            obtain ⟨hbC, he1, he2⟩ := hzC
            subst hbC
            refine h_V3 rfl oA l68 ci_213 rfl rfl hf70 ?_
            refine j_ne (kn := kn) (t := 1) (tgt := 55) (np := 53) rfl (by unfold R32; omega) (fun e71 => ?_) (fun e71 => ?_)
            · omega
            · refine h_intv k_0 rfl ?_
              refine h_zret (by omega) rfl ?_
              refine ⟨_, _, rfl, ?_⟩
              rw [show zSay B n 200 R N x S = zB (zNum B n 200 0 999 (nxT B n 200 S)) (fun q => .inr q.2) from (if_neg (by omega)).trans ((if_neg (by omega)).trans ((if_pos (by omega)).trans (if_pos ⟨by omega, by omega⟩))), hr, zB_l, zB_l, zOK_l]
              exact ⟨rfl, he1, he2⟩
          · rw [hr, zOK_r] at hzC
            obtain ⟨hbC, hvC, tC⟩ := hzC
            subst hbC
            obtain ⟨rF, wF, hfF, hzF⟩ := f_rn_0_999 (kn := kn) oA.1 FA10
            have FC10 := fz hf70 hfF hzF rfl
            obtain ⟨hq1, hlo, hhi⟩ := zNum_r hr
            have GC : tkG B n 200 qC.2 := by
              rw [hq1]
              exact tkG_nx (tkG_nx hG)
            refine h_V3 rfl oA l68 ci_213 rfl rfl hf70 ?_
            refine j_ne (kn := kn) (t := 1) (tgt := 55) (np := 53) rfl (by unfold R32; omega) (fun e72 => ?_) (fun e72 => ?_)
            · refine h_aload rfl l68 rfl ?_
              refine h_aload rfl l68 rfl ?_
              refine h_intv k_50 rfl ?_
              refine h_iload rfl l68 rfl ?_
              refine h_iadd rfl ?_
              refine h_intv k_0 rfl ?_
              refine h_aload rfl l68 rfl ?_
              refine h_getI rfl oC fi_13 (fun b73a b73b => ?_)
              refine h_iload rfl l68 rfl ?_
              obtain ⟨wB, hf74, oB', nB, gB, hB, tB⟩ := z_says (kn := kn) oC.1 tC nC (50 + x) 0 (gF wC 213 13) (gF w 213 9) ⟨by omega, by omega⟩ ⟨by omega, by omega⟩ ⟨by omega, by omega⟩ ⟨by omega, by omega⟩ (by omega) (fun z => by omega) (fun z => by omega) (fun z => by omega)
              have oB : hO dZ w wB := hO_tr oC (hO_mono dZ_rs oB')
              have hB7 := hB 57 (by decide)
              have hB8 := hB 58 (by decide)
              have hB9 := hB 59 (by decide)
              refine h_V5 rfl oC l68 ci_213 rfl rfl hf74 ?_
              refine x_putI rfl oB fi_59 rfl (by omega) (by omega) (fun w75 o75 q76a q76F q76X q76J q76Y q76R => ?_)
              refine h_intv k_1 rfl ?_
              refine h_zret (by omega) rfl ?_
              refine ⟨_, _, rfl, ?_⟩
              rw [show zSay B n 200 R N x S = zB (zNum B n 200 0 999 (nxT B n 200 S)) (fun q => .inr q.2) from (if_neg (by omega)).trans ((if_neg (by omega)).trans ((if_pos (by omega)).trans (if_pos ⟨by omega, by omega⟩))), hr, zB_r, zB_r, zOK_r]
              exact ⟨rfl, (tkR_sm (smW_tr (smW_rf eR9 _) (sm_pI (by decide) q76F q76X q76J q76Y q76R)) (by decide) tB), GC, by rw [q76F 213 57 (by decide)]; omega, by rw [q76F 213 10 (by decide), hB 10 (by decide)]; exact FC10⟩
            · omega
        · refine h_aload rfl l0 rfl ?_
          refine h_intv k_1 rfl ?_
          obtain ⟨wD77, hf77, oD77', sD77, fD77, pD77⟩ := x_bad (kn := kn) o0.1 htk hG 1 ⟨by omega, by omega⟩
          have oD77 := hO_tr o0 (hO_mono dZ_R oD77')
          rw [if_k (by omega)] at fD77
          refine h_V2 rfl o0 l0 ci_213 rfl rfl hf77 ?_
          refine h_zret (by omega) rfl ?_
          refine ⟨_, _, rfl, ?_⟩
          rw [show zSay B n 200 R N x S = .inl (1, S.2.1) from (if_neg (by omega)).trans ((if_neg (by omega)).trans ((if_pos (by omega)).trans (if_neg (by omega)))), zB_l, zOK_l]
          exact ⟨rfl, fD77, pD77⟩
  obtain ⟨r, h1, h2⟩ := h_meth1 (nL := 3) rfl K
  exact rsB_mk hQ h1 h2
/-- the reader that a reader of ONES calls -/
def zsH (B : Nat → Int) (n : Nat) (R N : Nat → Int) (g : List Value → sW → Option sR) (d : Nat) : Prop := ∀ (w : sW) (S : tS) (e : Nat), rsI w → sX B n R N S w → gF w 213 58 + (e : Int) = 8 → e < d → rsB B n 1 (zSaid B n 200 R N e S (gF w 213 57)) g [.ref 213] w
theorem rsH_d {g : List Value → sW → Option sR} {d : Nat} (hs : rsH g d) {w : sW} (hI0 : rsI w) {e : Nat} (h8 : gF w 213 58 + (e : Int) = 8) (hd : e < d) : 9 ≤ gF w 213 58 + (d : Int) := by omega
theorem z_readNot_g {kn : sKn} {g : List Value → sW → Option sR} {d e : Nat} (hs : rsH g d) (hg : zsH B n R N g d) {w : sW} {S : tS} (hI0 : rsI w) (hS : sX B n R N S w) (h8 : gF w 213 58 + (e : Int) = 8) (hd : e < d) : rsB B n (0) (zSaid B n 200 R N e S (gF w 213 57)) (fX12_readNot_g kn g) [.ref 213] w := by
  have hQ := s_readNot_g (kn := kn) hs hI0 (rsH_d hs hI0 h8 hd)
  obtain ⟨hw, nn, hp⟩ := hI0
  obtain ⟨htk, hG, hNm, hF0⟩ := hS
  obtain ⟨_, hkI, hto, hwd⟩ := tkU_i htk.2
  have gbS := tkG_b hG
  have hn9 := htk.1.2.2.2.1
  obtain ⟨_, _, _, _, _, _, _, a7, b7⟩ := fI_ok (hO_rf (D := []) hw) fi_57
  obtain ⟨_, _, _, _, _, _, _, a6, b6⟩ := fI_ok (hO_rf (D := []) hw) fi_56
  obtain ⟨_, _, _, _, _, _, _, a8, b8⟩ := fI_ok (hO_rf (D := []) hw) fi_58
  have K : Tp (tX12_readNot_g kn g) (rsT B n (zSaid B n 200 R N e S (gF w 213 57))) 0 (lv_args 0 [.ref 213], [], w, 0, 0) := by
    have l0 : hL (lv_args 0 [.ref 213]) (lv_args 0 [.ref 213]) := hL_ex rfl
    have o0 : hO dZ w w := hO_rf hw
    refine h_aload rfl l0 rfl ?_
    obtain ⟨wA, bA, hf41, oA', fA8, hqA, hzA⟩ := hg w S e ⟨hw, nn, hp⟩ ⟨htk, hG, hNm, hF0⟩ h8 hd
    have oA : hO dZ w wA := hO_tr o0 (hO_mono dZ_rs oA')
    have hb01A := zOK_01 hzA
    rcases hrA : zSaid B n 200 R N e S (gF w 213 57) with eA | qA
    · rw [hrA, zOK_l] at hzA
      obtain ⟨hbA, he1A, he2A⟩ := hzA
      subst hbA
      refine h_V1 rfl o0 l0 ci_213 rfl rfl hf41 ?_
      refine j_ne (kn := kn) (t := 1) (tgt := 9) (np := 7) rfl (by unfold R32; omega) (fun e42 => ?_) (fun e42 => ?_)
      · omega
      · refine h_intv k_0 rfl ?_
        refine h_zret (by omega) rfl ?_
        refine ⟨_, _, rfl, ?_⟩
        rw [zOK_l]
        exact ⟨rfl, he1A, he2A⟩
    · rw [hrA, zOK_r] at hzA
      obtain ⟨hbA, tA, GA, fA7, FA10⟩ := hzA
      subst hbA
      obtain ⟨nA, pA, mA, kA⟩ := hqA rfl
      obtain ⟨_, _, _, _, _, _, _, cA7, dA7⟩ := fI_ok oA fi_57
      refine h_V1 rfl o0 l0 ci_213 rfl rfl hf41 ?_
      refine j_ne (kn := kn) (t := 1) (tgt := 9) (np := 7) rfl (by unfold R32; omega) (fun e43 => ?_) (fun e43 => ?_)
      · refine h_aload rfl l0 rfl ?_
        refine h_aload rfl l0 rfl ?_
        refine h_intv k_1 rfl ?_
        refine h_aload rfl l0 rfl ?_
        refine h_getI rfl oA fi_59 (fun b44a b44b => ?_)
        refine h_intv k_0 rfl ?_
        refine h_intv k_0 rfl ?_
        obtain ⟨wB, hf45, oB', nB, gB, hB, tB⟩ := z_says (kn := kn) oA.1 tA nA 1 (gF wA 213 59) 0 0 ⟨by omega, by omega⟩ ⟨by omega, by omega⟩ ⟨by omega, by omega⟩ ⟨by omega, by omega⟩ (by omega) (fun _ => by omega) (fun z => by omega) (fun z => by omega)
        have oB : hO dZ w wB := hO_tr oA (hO_mono dZ_rs oB')
        have hB7 := hB 57 (by decide)
        have hB8 := hB 58 (by decide)
        have hB9 := hB 59 (by decide)
        refine h_V5 rfl oA l0 ci_213 rfl rfl hf45 ?_
        refine x_putI rfl oB fi_59 rfl (by omega) (by omega) (fun w46 o46 q47a q47F q47X q47J q47Y q47R => ?_)
        refine h_intv k_1 rfl ?_
        refine h_zret (by omega) rfl ?_
        refine ⟨_, _, rfl, ?_⟩
        rw [zOK_r]
        exact ⟨rfl, (tkR_sm (smW_tr (smW_rf eR9 _) (sm_pI (by decide) q47F q47X q47J q47Y q47R)) (by decide) tB), GA, by rw [q47F 213 57 (by decide), hB7]; exact fA7, by rw [q47F 213 10 (by decide), hB 10 (by decide)]; exact FA10⟩
      · omega
  obtain ⟨r, h1, h2⟩ := h_meth1 (nL := 1) rfl K
  exact rsB_mk hQ h1 h2
theorem z_readAnd_g_l {kn : sKn} {g : List Value → sW → Option sR} {d e : Nat} (hs : rsH g d) (hg : zsH B n R N g d) {w : sW} {S : tS} (hI0 : rsI w) (hS : sX B n R N S w) (h8 : gF w 213 58 + (e : Int) = 8) (hd : e < d) : ∀ (j : Nat) (w1 : sW) (lv : List (Nat × Value)) (p : Int) (S1 : tS), 20 - gF w1 213 57 < (j : Int) → hO dZ w w1 → gF w1 213 58 = gF w 213 58 → raG w w1 p → tkR B n 200 S1 w1 → tkG B n 200 S1 → gF w1 213 10 = 0 → hL lv [(0, .ref 213), (1, hI p)] → Tp (tX12_readAnd_g kn g) (rsT B n (if S1.1 = 4 ∧ S1.2.2.1 = 16 then zAndL B n 200 (zSaid B n 200 R N e) j (nxT B n 200 S1) (gF w1 213 57) else .inr (S1, gF w1 213 57))) 14 (lv, [], w1, 0, 0) := by
  obtain ⟨hw, nn, hp⟩ := hI0
  obtain ⟨htk, hG, hNm, hF0⟩ := hS
  have hn9 := htk.1.2.2.2.1
  intro j
  induction j with
  | zero =>
    intro w1 lv p S1 hj o0
    obtain ⟨_, _, _, _, _, _, _, a7, b7⟩ := fI_ok o0 fi_57
    omega
  | succ j ih =>
    intro w1 lv p S1 hj o0 h81 hG1 t1 G1 hF1 l0
    obtain ⟨n1, p1, m1, x1, x2⟩ := hG1
    obtain ⟨_, _, _, _, _, _, _, a7, b7⟩ := fI_ok o0 fi_57
    obtain ⟨_, _, _, _, _, _, _, a6, b6⟩ := fI_ok o0 fi_56
    obtain ⟨_, hkI, hto, hwd⟩ := tkU_i t1.2
    have gbS := tkG_b G1
    refine h_aload rfl l0 rfl ?_
    refine h_intv k_16 rfl ?_
    obtain ⟨z41, hf41, hz41⟩ := x_isWord (kn := kn) o0.1 t1 G1 16 (by omega)
    refine h_V2 rfl o0 l0 ci_213 rfl rfl hf41 ?_
    refine j_eq (kn := kn) (t := 0) (tgt := 51) (np := 23) rfl (by unfold R32; omega) (fun e42 => ?_) (fun e42 => ?_)
    · refine h_aload rfl l0 rfl ?_
      refine h_iload rfl l0 rfl ?_
      refine x_putI rfl o0 fi_59 rfl (by omega) (by omega) (fun w43 o43 q44a q44F q44X q44J q44Y q44R => ?_)
      refine h_intv k_1 rfl ?_
      refine h_zret (by omega) rfl ?_
      refine ⟨_, _, rfl, ?_⟩
      rw [if_neg (by omega), zOK_r]
      exact ⟨rfl, (tkR_sm (smW_tr (smW_rf eR9 _) (sm_pI (by decide) q44F q44X q44J q44Y q44R)) (by decide) t1), G1, q44F 213 57 (by decide), (q44F 213 10 (by decide)).trans hF1⟩
    · refine h_aload rfl l0 rfl ?_
      obtain ⟨wA, hf45, oA', tA⟩ := x_goS (kn := kn) o0.1 t1 G1 (by omega)
      have oA := hO_tr o0 (hO_mono dZ_g oA')
      have nA := ni_fr o0.1 oA' (by decide +kernel) (by decide +kernel) n1
      obtain ⟨fA6, fA7, fA8⟩ := ff_fr o0.1 oA' (by decide +kernel) (by decide +kernel) (by decide +kernel)
      have NA := nmS_hO oA (by decide +kernel) hNm
      have FA10 : gF wA 213 10 = 0 := (fr_gF (t := 61) (c := 213) (kf := 10) oA'.2 rfl (by decide +kernel) o0.1 (by decide +kernel)).trans hF1
      refine h_W1 rfl o0 l0 ci_213 rfl rfl hf45 ?_
      refine h_aload rfl l0 rfl ?_
      obtain ⟨wC, bC, hf46, oC', fC8, hqC, hzC⟩ := hg wA (nxT B n 200 S1) e ⟨oA.1, nA, by omega⟩ ⟨tA, tkG_nx G1, NA, FA10⟩ (by omega) hd
      have oC : hO dZ w wC := hO_tr oA (hO_mono dZ_rs oC')
      have hb01C := zOK_01 hzC
      rcases hrC : zSaid B n 200 R N e (nxT B n 200 S1) (gF wA 213 57) with eC | qC
      · rw [hrC, zOK_l] at hzC
        obtain ⟨hbC, he1C, he2C⟩ := hzC
        subst hbC
        refine h_V1 rfl oA l0 ci_213 rfl rfl hf46 ?_
        refine j_ne (kn := kn) (t := 1) (tgt := 36) (np := 34) rfl (by unfold R32; omega) (fun e47 => ?_) (fun e47 => ?_)
        · omega
        · refine h_intv k_0 rfl ?_
          refine h_zret (by omega) rfl ?_
          refine ⟨_, _, rfl, ?_⟩
          rw [if_pos ⟨by omega, by omega⟩, show zAndL B n 200 (zSaid B n 200 R N e) (j + 1) (nxT B n 200 S1) (gF w1 213 57) = zB (zSaid B n 200 R N e (nxT B n 200 S1) (gF wA 213 57)) (fun q => if q.1.1 = 4 ∧ q.1.2.2.1 = 16 then zAndL B n 200 (zSaid B n 200 R N e) j (nxT B n 200 q.1) q.2 else .inr q) from by rw [fA7]; rfl, hrC, zB_l, zOK_l]
          exact ⟨rfl, he1C, he2C⟩
      · rw [hrC, zOK_r] at hzC
        obtain ⟨hbC, tC, GC, fC7, FC10⟩ := hzC
        subst hbC
        obtain ⟨nC, pC, mC, kC⟩ := hqC rfl
        obtain ⟨_, _, _, _, _, _, _, cC7, dC7⟩ := fI_ok oC fi_57
        refine h_V1 rfl oA l0 ci_213 rfl rfl hf46 ?_
        refine j_ne (kn := kn) (t := 1) (tgt := 36) (np := 34) rfl (by unfold R32; omega) (fun e48 => ?_) (fun e48 => ?_)
        · refine h_aload rfl l0 rfl ?_
          refine h_intv k_2 rfl ?_
          refine h_iload rfl l0 rfl ?_
          refine h_aload rfl l0 rfl ?_
          refine h_getI rfl oC fi_59 (fun b49a b49b => ?_)
          refine h_intv k_0 rfl ?_
          obtain ⟨wB, hf50, oB', nB, gB, hB, tB⟩ := z_says (kn := kn) oC.1 tC nC 2 p (gF wC 213 59) 0 ⟨by omega, by omega⟩ ⟨by omega, by omega⟩ ⟨by omega, by omega⟩ ⟨by omega, by omega⟩ (by omega) (fun z => by omega) (fun _ => by omega) (fun z => by omega)
          have oB : hO dZ w wB := hO_tr oC (hO_mono dZ_rs oB')
          have hB7 := hB 57 (by decide)
          have hB8 := hB 58 (by decide)
          have hB9 := hB 59 (by decide)
          refine h_V5 rfl oC l0 ci_213 rfl rfl hf50 ?_
          refine h_istore rfl l0 (fun vl51 l51 => ?_)
          refine h_goto rfl ?_
          obtain ⟨i1, i2⟩ := saidP e _ _ _ (by omega) hrC
          rw [if_pos ⟨by omega, by omega⟩, show zAndL B n 200 (zSaid B n 200 R N e) (j + 1) (nxT B n 200 S1) (gF w1 213 57) = zB (zSaid B n 200 R N e (nxT B n 200 S1) (gF wA 213 57)) (fun q => if q.1.1 = 4 ∧ q.1.2.2.1 = 16 then zAndL B n 200 (zSaid B n 200 R N e) j (nxT B n 200 q.1) q.2 else .inr q) from by rw [fA7]; rfl, hrC, zB_r]
          have hC := ih wB _ _ qC.1 (by omega) oB (by omega) ⟨nB, by omega, by omega, by omega, by omega⟩ tB GC ((hB 10 (by decide)).trans FC10) l51
          rw [show gF wB 213 57 = qC.2 by omega] at hC
          exact hC
        · omega
theorem z_readAnd_g {kn : sKn} {g : List Value → sW → Option sR} {d e : Nat} (hs : rsH g d) (hg : zsH B n R N g d) {w : sW} {S : tS} (hI0 : rsI w) (hS : sX B n R N S w) (h8 : gF w 213 58 + (e : Int) = 8) (hd : e < d) : rsB B n (1) (zAndL B n 200 (zSaid B n 200 R N e) 21 S (gF w 213 57)) (fX12_readAnd_g kn g) [.ref 213] w := by
  have hQ := s_readAnd_g (kn := kn) hs hI0 (rsH_d hs hI0 h8 hd)
  obtain ⟨hw, nn, hp⟩ := hI0
  obtain ⟨htk, hG, hNm, hF0⟩ := hS
  obtain ⟨_, hkI, hto, hwd⟩ := tkU_i htk.2
  have gbS := tkG_b hG
  have hn9 := htk.1.2.2.2.1
  obtain ⟨_, _, _, _, _, _, _, a7, b7⟩ := fI_ok (hO_rf (D := []) hw) fi_57
  obtain ⟨_, _, _, _, _, _, _, a6, b6⟩ := fI_ok (hO_rf (D := []) hw) fi_56
  obtain ⟨_, _, _, _, _, _, _, a8, b8⟩ := fI_ok (hO_rf (D := []) hw) fi_58
  have K : Tp (tX12_readAnd_g kn g) (rsT B n (zAndL B n 200 (zSaid B n 200 R N e) 21 S (gF w 213 57))) 0 (lv_args 0 [.ref 213], [], w, 0, 0) := by
    have l0 : hL (lv_args 0 [.ref 213]) (lv_args 0 [.ref 213]) := hL_ex rfl
    have o0 : hO dZ w w := hO_rf hw
    refine h_aload rfl l0 rfl ?_
    obtain ⟨wA, bA, hf41, oA', fA8, hqA, hzA⟩ := hg w S e ⟨hw, nn, hp⟩ ⟨htk, hG, hNm, hF0⟩ h8 hd
    have oA : hO dZ w wA := hO_tr o0 (hO_mono dZ_rs oA')
    have hb01A := zOK_01 hzA
    rcases hrA : zSaid B n 200 R N e S (gF w 213 57) with eA | qA
    · rw [hrA, zOK_l] at hzA
      obtain ⟨hbA, he1A, he2A⟩ := hzA
      subst hbA
      refine h_V1 rfl o0 l0 ci_213 rfl rfl hf41 ?_
      refine j_ne (kn := kn) (t := 1) (tgt := 9) (np := 7) rfl (by unfold R32; omega) (fun e42 => ?_) (fun e42 => ?_)
      · omega
      · refine h_intv k_0 rfl ?_
        refine h_zret (by omega) rfl ?_
        refine ⟨_, _, rfl, ?_⟩
        rw [show zAndL B n 200 (zSaid B n 200 R N e) 21 S (gF w 213 57) = zB (zSaid B n 200 R N e S (gF w 213 57)) (fun q => if q.1.1 = 4 ∧ q.1.2.2.1 = 16 then zAndL B n 200 (zSaid B n 200 R N e) 20 (nxT B n 200 q.1) q.2 else .inr q) from rfl, hrA, zB_l, zOK_l]
        exact ⟨rfl, he1A, he2A⟩
    · rw [hrA, zOK_r] at hzA
      obtain ⟨hbA, tA, GA, fA7, FA10⟩ := hzA
      subst hbA
      obtain ⟨nA, pA, mA, kA⟩ := hqA rfl
      obtain ⟨_, _, _, _, _, _, _, cA7, dA7⟩ := fI_ok oA fi_57
      refine h_V1 rfl o0 l0 ci_213 rfl rfl hf41 ?_
      refine j_ne (kn := kn) (t := 1) (tgt := 9) (np := 7) rfl (by unfold R32; omega) (fun e43 => ?_) (fun e43 => ?_)
      · refine h_aload rfl l0 rfl ?_
        refine h_getI rfl oA fi_59 (fun b44a b44b => ?_)
        refine h_istore rfl l0 (fun vl45 l45 => ?_)
        obtain ⟨i1, i2⟩ := saidP e _ _ _ (by omega) hrA
        rw [show zAndL B n 200 (zSaid B n 200 R N e) 21 S (gF w 213 57) = zB (zSaid B n 200 R N e S (gF w 213 57)) (fun q => if q.1.1 = 4 ∧ q.1.2.2.1 = 16 then zAndL B n 200 (zSaid B n 200 R N e) 20 (nxT B n 200 q.1) q.2 else .inr q) from rfl, hrA, zB_r]
        have hC := z_readAnd_g_l (kn := kn) hs hg ⟨hw, nn, hp⟩ ⟨htk, hG, hNm, hF0⟩ h8 hd 20 wA _ _ qA.1 (by omega) oA fA8 ⟨nA, pA, mA, by omega, kA⟩ tA GA FA10 l45
        rw [fA7] at hC
        exact hC
      · omega
  obtain ⟨r, h1, h2⟩ := h_meth1 (nL := 2) rfl K
  exact rsB_mk hQ h1 h2
theorem z_readOr_g_l {kn : sKn} {g : List Value → sW → Option sR} {d e : Nat} (hs : rsH g d) (hg : zsH B n R N g d) {w : sW} {S : tS} (hI0 : rsI w) (hS : sX B n R N S w) (h8 : gF w 213 58 + (e : Int) = 8) (hd : e < d) : ∀ (j : Nat) (w1 : sW) (lv : List (Nat × Value)) (p : Int) (S1 : tS), 20 - gF w1 213 57 < (j : Int) → hO dZ w w1 → gF w1 213 58 = gF w 213 58 → raG w w1 p → tkR B n 200 S1 w1 → tkG B n 200 S1 → gF w1 213 10 = 0 → hL lv [(0, .ref 213), (1, hI p)] → Tp (tX12_readOr_g kn g) (rsT B n (if S1.1 = 4 ∧ S1.2.2.1 = 15 then zOrL B n 200 (zSaid B n 200 R N e) j (nxT B n 200 S1) (gF w1 213 57) else .inr (S1, gF w1 213 57))) 14 (lv, [], w1, 0, 0) := by
  obtain ⟨hw, nn, hp⟩ := hI0
  obtain ⟨htk, hG, hNm, hF0⟩ := hS
  have hn9 := htk.1.2.2.2.1
  intro j
  induction j with
  | zero =>
    intro w1 lv p S1 hj o0
    obtain ⟨_, _, _, _, _, _, _, a7, b7⟩ := fI_ok o0 fi_57
    omega
  | succ j ih =>
    intro w1 lv p S1 hj o0 h81 hG1 t1 G1 hF1 l0
    obtain ⟨n1, p1, m1, x1, x2⟩ := hG1
    obtain ⟨_, _, _, _, _, _, _, a7, b7⟩ := fI_ok o0 fi_57
    obtain ⟨_, _, _, _, _, _, _, a6, b6⟩ := fI_ok o0 fi_56
    obtain ⟨_, hkI, hto, hwd⟩ := tkU_i t1.2
    have gbS := tkG_b G1
    refine h_aload rfl l0 rfl ?_
    refine h_intv k_15 rfl ?_
    obtain ⟨z41, hf41, hz41⟩ := x_isWord (kn := kn) o0.1 t1 G1 15 (by omega)
    refine h_V2 rfl o0 l0 ci_213 rfl rfl hf41 ?_
    refine j_eq (kn := kn) (t := 0) (tgt := 51) (np := 23) rfl (by unfold R32; omega) (fun e42 => ?_) (fun e42 => ?_)
    · refine h_aload rfl l0 rfl ?_
      refine h_iload rfl l0 rfl ?_
      refine x_putI rfl o0 fi_59 rfl (by omega) (by omega) (fun w43 o43 q44a q44F q44X q44J q44Y q44R => ?_)
      refine h_intv k_1 rfl ?_
      refine h_zret (by omega) rfl ?_
      refine ⟨_, _, rfl, ?_⟩
      rw [if_neg (by omega), zOK_r]
      exact ⟨rfl, (tkR_sm (smW_tr (smW_rf eR9 _) (sm_pI (by decide) q44F q44X q44J q44Y q44R)) (by decide) t1), G1, q44F 213 57 (by decide), (q44F 213 10 (by decide)).trans hF1⟩
    · refine h_aload rfl l0 rfl ?_
      obtain ⟨wA, hf45, oA', tA⟩ := x_goS (kn := kn) o0.1 t1 G1 (by omega)
      have oA := hO_tr o0 (hO_mono dZ_g oA')
      have nA := ni_fr o0.1 oA' (by decide +kernel) (by decide +kernel) n1
      obtain ⟨fA6, fA7, fA8⟩ := ff_fr o0.1 oA' (by decide +kernel) (by decide +kernel) (by decide +kernel)
      have NA := nmS_hO oA (by decide +kernel) hNm
      have FA10 : gF wA 213 10 = 0 := (fr_gF (t := 61) (c := 213) (kf := 10) oA'.2 rfl (by decide +kernel) o0.1 (by decide +kernel)).trans hF1
      refine h_W1 rfl o0 l0 ci_213 rfl rfl hf45 ?_
      refine h_aload rfl l0 rfl ?_
      obtain ⟨wC, bC, hf46, oC', fC8, hqC, hzC⟩ := z_readAnd_g (kn := kn) (w := wA) (S := (nxT B n 200 S1)) (e := e) hs hg ⟨oA.1, nA, by omega⟩ ⟨tA, tkG_nx G1, NA, FA10⟩ (by omega) hd
      have oC : hO dZ w wC := hO_tr oA (hO_mono dZ_rs oC')
      have hb01C := zOK_01 hzC
      rcases hrC : zAndL B n 200 (zSaid B n 200 R N e) 21 (nxT B n 200 S1) (gF wA 213 57) with eC | qC
      · rw [hrC, zOK_l] at hzC
        obtain ⟨hbC, he1C, he2C⟩ := hzC
        subst hbC
        refine h_V1 rfl oA l0 ci_213 rfl rfl hf46 ?_
        refine j_ne (kn := kn) (t := 1) (tgt := 36) (np := 34) rfl (by unfold R32; omega) (fun e47 => ?_) (fun e47 => ?_)
        · omega
        · refine h_intv k_0 rfl ?_
          refine h_zret (by omega) rfl ?_
          refine ⟨_, _, rfl, ?_⟩
          rw [if_pos ⟨by omega, by omega⟩, show zOrL B n 200 (zSaid B n 200 R N e) (j + 1) (nxT B n 200 S1) (gF w1 213 57) = zB (zAndL B n 200 (zSaid B n 200 R N e) 21 (nxT B n 200 S1) (gF wA 213 57)) (fun q => if q.1.1 = 4 ∧ q.1.2.2.1 = 15 then zOrL B n 200 (zSaid B n 200 R N e) j (nxT B n 200 q.1) q.2 else .inr q) from by rw [fA7]; rfl, hrC, zB_l, zOK_l]
          exact ⟨rfl, he1C, he2C⟩
      · rw [hrC, zOK_r] at hzC
        obtain ⟨hbC, tC, GC, fC7, FC10⟩ := hzC
        subst hbC
        obtain ⟨nC, pC, mC, kC⟩ := hqC rfl
        obtain ⟨_, _, _, _, _, _, _, cC7, dC7⟩ := fI_ok oC fi_57
        refine h_V1 rfl oA l0 ci_213 rfl rfl hf46 ?_
        refine j_ne (kn := kn) (t := 1) (tgt := 36) (np := 34) rfl (by unfold R32; omega) (fun e48 => ?_) (fun e48 => ?_)
        · refine h_aload rfl l0 rfl ?_
          refine h_intv k_3 rfl ?_
          refine h_iload rfl l0 rfl ?_
          refine h_aload rfl l0 rfl ?_
          refine h_getI rfl oC fi_59 (fun b49a b49b => ?_)
          refine h_intv k_0 rfl ?_
          obtain ⟨wB, hf50, oB', nB, gB, hB, tB⟩ := z_says (kn := kn) oC.1 tC nC 3 p (gF wC 213 59) 0 ⟨by omega, by omega⟩ ⟨by omega, by omega⟩ ⟨by omega, by omega⟩ ⟨by omega, by omega⟩ (by omega) (fun z => by omega) (fun _ => by omega) (fun z => by omega)
          have oB : hO dZ w wB := hO_tr oC (hO_mono dZ_rs oB')
          have hB7 := hB 57 (by decide)
          have hB8 := hB 58 (by decide)
          have hB9 := hB 59 (by decide)
          refine h_V5 rfl oC l0 ci_213 rfl rfl hf50 ?_
          refine h_istore rfl l0 (fun vl51 l51 => ?_)
          refine h_goto rfl ?_
          obtain ⟨i1, i2⟩ := andP (saidP e) 21 _ _ _ (by omega) hrC
          rw [if_pos ⟨by omega, by omega⟩, show zOrL B n 200 (zSaid B n 200 R N e) (j + 1) (nxT B n 200 S1) (gF w1 213 57) = zB (zAndL B n 200 (zSaid B n 200 R N e) 21 (nxT B n 200 S1) (gF wA 213 57)) (fun q => if q.1.1 = 4 ∧ q.1.2.2.1 = 15 then zOrL B n 200 (zSaid B n 200 R N e) j (nxT B n 200 q.1) q.2 else .inr q) from by rw [fA7]; rfl, hrC, zB_r]
          have hC := ih wB _ _ qC.1 (by omega) oB (by omega) ⟨nB, by omega, by omega, by omega, by omega⟩ tB GC ((hB 10 (by decide)).trans FC10) l51
          rw [show gF wB 213 57 = qC.2 by omega] at hC
          exact hC
        · omega
theorem z_readOr_g {kn : sKn} {g : List Value → sW → Option sR} {d e : Nat} (hs : rsH g d) (hg : zsH B n R N g d) {w : sW} {S : tS} (hI0 : rsI w) (hS : sX B n R N S w) (h8 : gF w 213 58 + (e : Int) = 8) (hd : e < d) : rsB B n (1) (zOrL B n 200 (zSaid B n 200 R N e) 21 S (gF w 213 57)) (fX12_readOr_g kn g) [.ref 213] w := by
  have hQ := s_readOr_g (kn := kn) hs hI0 (rsH_d hs hI0 h8 hd)
  obtain ⟨hw, nn, hp⟩ := hI0
  obtain ⟨htk, hG, hNm, hF0⟩ := hS
  obtain ⟨_, hkI, hto, hwd⟩ := tkU_i htk.2
  have gbS := tkG_b hG
  have hn9 := htk.1.2.2.2.1
  obtain ⟨_, _, _, _, _, _, _, a7, b7⟩ := fI_ok (hO_rf (D := []) hw) fi_57
  obtain ⟨_, _, _, _, _, _, _, a6, b6⟩ := fI_ok (hO_rf (D := []) hw) fi_56
  obtain ⟨_, _, _, _, _, _, _, a8, b8⟩ := fI_ok (hO_rf (D := []) hw) fi_58
  have K : Tp (tX12_readOr_g kn g) (rsT B n (zOrL B n 200 (zSaid B n 200 R N e) 21 S (gF w 213 57))) 0 (lv_args 0 [.ref 213], [], w, 0, 0) := by
    have l0 : hL (lv_args 0 [.ref 213]) (lv_args 0 [.ref 213]) := hL_ex rfl
    have o0 : hO dZ w w := hO_rf hw
    refine h_aload rfl l0 rfl ?_
    obtain ⟨wA, bA, hf41, oA', fA8, hqA, hzA⟩ := z_readAnd_g (kn := kn) (w := w) (S := S) (e := e) hs hg ⟨hw, nn, hp⟩ ⟨htk, hG, hNm, hF0⟩ h8 hd
    have oA : hO dZ w wA := hO_tr o0 (hO_mono dZ_rs oA')
    have hb01A := zOK_01 hzA
    rcases hrA : zAndL B n 200 (zSaid B n 200 R N e) 21 S (gF w 213 57) with eA | qA
    · rw [hrA, zOK_l] at hzA
      obtain ⟨hbA, he1A, he2A⟩ := hzA
      subst hbA
      refine h_V1 rfl o0 l0 ci_213 rfl rfl hf41 ?_
      refine j_ne (kn := kn) (t := 1) (tgt := 9) (np := 7) rfl (by unfold R32; omega) (fun e42 => ?_) (fun e42 => ?_)
      · omega
      · refine h_intv k_0 rfl ?_
        refine h_zret (by omega) rfl ?_
        refine ⟨_, _, rfl, ?_⟩
        rw [show zOrL B n 200 (zSaid B n 200 R N e) 21 S (gF w 213 57) = zB (zAndL B n 200 (zSaid B n 200 R N e) 21 S (gF w 213 57)) (fun q => if q.1.1 = 4 ∧ q.1.2.2.1 = 15 then zOrL B n 200 (zSaid B n 200 R N e) 20 (nxT B n 200 q.1) q.2 else .inr q) from rfl, hrA, zB_l, zOK_l]
        exact ⟨rfl, he1A, he2A⟩
    · rw [hrA, zOK_r] at hzA
      obtain ⟨hbA, tA, GA, fA7, FA10⟩ := hzA
      subst hbA
      obtain ⟨nA, pA, mA, kA⟩ := hqA rfl
      obtain ⟨_, _, _, _, _, _, _, cA7, dA7⟩ := fI_ok oA fi_57
      refine h_V1 rfl o0 l0 ci_213 rfl rfl hf41 ?_
      refine j_ne (kn := kn) (t := 1) (tgt := 9) (np := 7) rfl (by unfold R32; omega) (fun e43 => ?_) (fun e43 => ?_)
      · refine h_aload rfl l0 rfl ?_
        refine h_getI rfl oA fi_59 (fun b44a b44b => ?_)
        refine h_istore rfl l0 (fun vl45 l45 => ?_)
        obtain ⟨i1, i2⟩ := andP (saidP e) 21 _ _ _ (by omega) hrA
        rw [show zOrL B n 200 (zSaid B n 200 R N e) 21 S (gF w 213 57) = zB (zAndL B n 200 (zSaid B n 200 R N e) 21 S (gF w 213 57)) (fun q => if q.1.1 = 4 ∧ q.1.2.2.1 = 15 then zOrL B n 200 (zSaid B n 200 R N e) 20 (nxT B n 200 q.1) q.2 else .inr q) from rfl, hrA, zB_r]
        have hC := z_readOr_g_l (kn := kn) hs hg ⟨hw, nn, hp⟩ ⟨htk, hG, hNm, hF0⟩ h8 hd 20 wA _ _ qA.1 (by omega) oA fA8 ⟨nA, pA, mA, by omega, kA⟩ tA GA FA10 l45
        rw [fA7] at hC
        exact hC
      · omega
  obtain ⟨r, h1, h2⟩ := h_meth1 (nL := 2) rfl K
  exact rsB_mk hQ h1 h2
theorem z_readBracket_g {kn : sKn} {g : List Value → sW → Option sR} {d e : Nat} (hs : rsH g d) (hg : zsH B n R N g d) {w : sW} {S : tS} (hI0 : rsI w) (hS : sX B n R N S w) (h8 : gF w 213 58 + (e : Int) = 8) (hd : e < d) : rsB B n (1) (zB (zOrL B n 200 (zSaid B n 200 R N e) 21 S (gF w 213 57)) (zClose B n 200)) (fX12_readBracket_g kn g) [.ref 213] w := by
  have hQ := s_readBracket_g (kn := kn) hs hI0 (rsH_d hs hI0 h8 hd)
  obtain ⟨hw, nn, hp⟩ := hI0
  obtain ⟨htk, hG, hNm, hF0⟩ := hS
  obtain ⟨_, hkI, hto, hwd⟩ := tkU_i htk.2
  have gbS := tkG_b hG
  have hn9 := htk.1.2.2.2.1
  obtain ⟨_, _, _, _, _, _, _, a7, b7⟩ := fI_ok (hO_rf (D := []) hw) fi_57
  obtain ⟨_, _, _, _, _, _, _, a6, b6⟩ := fI_ok (hO_rf (D := []) hw) fi_56
  obtain ⟨_, _, _, _, _, _, _, a8, b8⟩ := fI_ok (hO_rf (D := []) hw) fi_58
  have K : Tp (tX12_readBracket_g kn g) (rsT B n (zB (zOrL B n 200 (zSaid B n 200 R N e) 21 S (gF w 213 57)) (zClose B n 200))) 0 (lv_args 0 [.ref 213], [], w, 0, 0) := by
    have l0 : hL (lv_args 0 [.ref 213]) (lv_args 0 [.ref 213]) := hL_ex rfl
    have o0 : hO dZ w w := hO_rf hw
    refine h_aload rfl l0 rfl ?_
    obtain ⟨wA, bA, hf41, oA', fA8, hqA, hzA⟩ := z_readOr_g (kn := kn) hs hg ⟨hw, nn, hp⟩ ⟨htk, hG, hNm, hF0⟩ h8 hd
    have oA : hO dZ w wA := hO_tr o0 (hO_mono dZ_rs oA')
    have hb01A := zOK_01 hzA
    rcases hrA : zOrL B n 200 (zSaid B n 200 R N e) 21 S (gF w 213 57) with eA | qA
    · rw [hrA, zOK_l] at hzA
      obtain ⟨hbA, he1A, he2A⟩ := hzA
      subst hbA
      refine h_V1 rfl o0 l0 ci_213 rfl rfl hf41 ?_
      refine j_ne (kn := kn) (t := 1) (tgt := 9) (np := 7) rfl (by unfold R32; omega) (fun e42 => ?_) (fun e42 => ?_)
      · omega
      · refine h_intv k_0 rfl ?_
        refine h_zret (by omega) rfl ?_
        refine ⟨_, _, rfl, ?_⟩
        rw [zB_l, zOK_l]
        exact ⟨rfl, he1A, he2A⟩
    · rw [hrA, zOK_r] at hzA
      obtain ⟨hbA, tA, GA, fA7, FA10⟩ := hzA
      subst hbA
      obtain ⟨nA, pA, mA, kA⟩ := hqA rfl
      obtain ⟨_, _, _, _, _, _, _, cA7, dA7⟩ := fI_ok oA fi_57
      have gbA := tkG_b GA
      obtain ⟨_, kkA, toA, _⟩ := tkU_i tA.2
      refine h_V1 rfl o0 l0 ci_213 rfl rfl hf41 ?_
      refine j_ne (kn := kn) (t := 1) (tgt := 9) (np := 7) rfl (by unfold R32; omega) (fun e43 => ?_) (fun e43 => ?_)
      · refine h_aload rfl l0 rfl ?_
        refine h_intv k_41 rfl ?_
        obtain ⟨z44, hf44, hz44⟩ := x_isSignR (kn := kn) oA.1 tA GA 41 ⟨by omega, by omega⟩
        refine h_V2 rfl oA l0 ci_213 rfl rfl hf44 ?_
        refine j_ne (kn := kn) (t := 1) (tgt := 24) (np := 18) rfl (by unfold R32; omega) (fun e45 => ?_) (fun e45 => ?_)
        · refine h_aload rfl l0 rfl ?_
          obtain ⟨wC, hf46, oC', tC⟩ := x_goS (kn := kn) oA.1 tA GA (by omega)
          have oC := hO_tr oA (hO_mono dZ_g oC')
          have fC7 : gF wC 213 57 = gF wA 213 57 := fr_gF (t := 61) oC'.2 rfl (by decide +kernel) oA.1 (by decide +kernel)
          have FC10 : gF wC 213 10 = 0 := (fr_gF (t := 61) (c := 213) (kf := 10) oC'.2 rfl (by decide +kernel) oA.1 (by decide +kernel)).trans FA10
          refine h_W1 rfl oA l0 ci_213 rfl rfl hf46 ?_
          refine h_intv k_1 rfl ?_
          refine h_zret (by omega) rfl ?_
          refine ⟨_, _, rfl, ?_⟩
          rw [zB_r, show zClose B n 200 qA = .inr (nxT B n 200 qA.1, qA.2) from if_pos ⟨by omega, by omega⟩, zOK_r]
          exact ⟨rfl, tC, tkG_nx GA, fC7.trans fA7, FC10⟩
        · refine h_aload rfl l0 rfl ?_
          refine h_intv k_1 rfl ?_
          obtain ⟨wD47, hf47, oD47', sD47, fD47, pD47⟩ := x_bad (kn := kn) oA.1 tA GA 1 ⟨by omega, by omega⟩
          have oD47 := hO_tr oA (hO_mono dZ_R oD47')
          rw [if_k (by omega)] at fD47
          refine h_V2 rfl oA l0 ci_213 rfl rfl hf47 ?_
          refine h_zret (by omega) rfl ?_
          refine ⟨_, _, rfl, ?_⟩
          rw [zB_r, show zClose B n 200 qA = .inl (1, qA.1.2.1) from if_neg (by omega), zOK_l]
          exact ⟨rfl, fD47, pD47⟩
      · omega
  obtain ⟨r, h1, h2⟩ := h_meth1 (nL := 1) rfl K
  exact rsB_mk hQ h1 h2
theorem zs_166 {kn : sKn} {g : List Value → sW → Option sR} {sp : zE ⊕ (tS × Int)} {w w1 : sW} {lv : List (Nat × Value)} {s i b : Int} (o0 : hO dZ w w1) (h8 : 1 ≤ gF w1 213 58 ∧ gF w1 213 58 ≤ 8) (hz : zOK sp b (fun e => erR e w1) (fun q => tkR B n 200 q.1 w1 ∧ tkG B n 200 q.1 ∧ gF w1 213 57 = q.2 ∧ gF w1 213 10 = 0)) (l0 : hL lv [(0, .ref 213), (1, hI s), (2, hI i), (3, hI b)]) : Tp (tX12_readSaid_g kn g) (rsT B n sp) 166 (lv, [], w1, 0, 0) := by
  have hb := zOK_01 hz
  refine h_aload rfl l0 rfl ?_
  refine h_dup rfl rfl ?_
  refine h_getI rfl o0 fi_58 (fun b41a b41b => ?_)
  refine h_intv k_1 rfl ?_
  refine h_isub rfl ?_
  refine x_putI rfl o0 fi_58 rfl (by omega) (by omega) (fun w42 o42 q43a q43F q43X q43J q43Y q43R => ?_)
  refine h_iload rfl l0 rfl ?_
  refine h_zret (by omega) rfl ?_
  refine ⟨_, _, rfl, ?_⟩
  cases sp with
  | inl e =>
    rw [zOK_l] at hz ⊢
    exact ⟨hz.1, (q43F 213 10 (by decide)).trans hz.2.1, (q43F 213 11 (by decide)).trans hz.2.2⟩
  | inr q =>
    rw [zOK_r] at hz ⊢
    obtain ⟨z1, T, G, z2, z10⟩ := hz
    exact ⟨z1, (tkR_sm (smW_tr (smW_rf eR9 _) (sm_pI (by decide) q43F q43X q43J q43Y q43R)) (by decide) T), G, (q43F 213 57 (by decide)).trans z2, (q43F 213 10 (by decide)).trans z10⟩
theorem zs_30 {kn : sKn} {g : List Value → sW → Option sR} {d e : Nat} (hs : rsH g d) (hg : zsH B n R N g d) {w : sW} {S : tS} (hI0 : rsI w) (hS : sX B n R N S w) (h8 : gF w 213 58 + (e : Int) = 8) (hd : e < d + 1) {lv : List (Nat × Value)} {s i : Int} (hs01 : (s = 1 ∧ S.1 = 2 ∧ S.2.2.1 = 40) ∨ (s = 0 ∧ (S.1 ≠ 2 ∨ S.2.2.1 ≠ 40))) (hi : (17 ≤ i ∧ i ≤ 26 ∧ S.1 = 4 ∧ S.2.2.1 = i) ∨ (i = 27 ∧ (S.1 ≠ 4 ∨ S.2.2.1 < 17 ∨ 26 < S.2.2.1))) (l0 : hL lv [(0, .ref 213), (1, hI s), (2, hI i)]) : Tp (tX12_readSaid_g kn g) (rsT B n (zSaid B n 200 R N e S (gF w 213 57))) 30 (lv, [], w, 0, 0) := by
  obtain ⟨hw, nn, hp⟩ := hI0
  obtain ⟨htk, hG, hNm, hF0⟩ := hS
  obtain ⟨_, hkI, hto, hwd⟩ := tkU_i htk.2
  have gbS := tkG_b hG
  have hn9 := htk.1.2.2.2.1
  have o0 : hO dZ w w := hO_rf hw
  obtain ⟨_, _, _, _, _, _, _, a7, b7⟩ := fI_ok (hO_rf (D := []) hw) fi_57
  obtain ⟨_, _, _, _, _, _, _, a6, b6⟩ := fI_ok (hO_rf (D := []) hw) fi_56
  obtain ⟨_, _, _, _, _, _, _, a8, b8⟩ := fI_ok (hO_rf (D := []) hw) fi_58
  refine h_iload rfl l0 rfl ?_
  refine j_ne (kn := kn) (t := 1) (tgt := 46) (np := 34) rfl (by unfold R32; omega) (fun e41 => ?_) (fun e41 => ?_)
  · have hbeg : zBeg S := by
      unfold zBeg
      omega
    refine h_aload rfl l0 rfl ?_
    refine h_getI rfl o0 fi_57 (fun b42a b42b => ?_)
    refine h_intv k_20 rfl ?_
    refine i_eq (kn := kn) (t := 0) (tgt := 64) (np := 55) rfl (by unfold R32; omega) (by unfold R32; omega) (fun e43 => ?_) (fun e43 => ?_)
    · refine h_aload rfl l0 rfl ?_
      refine h_intv k_4 rfl ?_
      obtain ⟨wD44, hf44, oD44', sD44, fD44, pD44⟩ := x_bad (kn := kn) o0.1 htk hG 4 ⟨by omega, by omega⟩
      have oD44 := hO_tr o0 (hO_mono dZ_R oD44')
      rw [if_k (by omega)] at fD44
      refine h_V2 rfl o0 l0 ci_213 rfl rfl hf44 ?_
      refine h_zret (by omega) rfl ?_
      refine ⟨_, _, rfl, ?_⟩
      rw [said_many hbeg (by omega), zOK_l]
      exact ⟨rfl, fD44, pD44⟩
    · refine h_aload rfl l0 rfl ?_
      refine h_getI rfl o0 fi_58 (fun b45a b45b => ?_)
      refine h_intv k_8 rfl ?_
      refine i_ne (kn := kn) (t := 1) (tgt := 70) (np := 64) rfl (by unfold R32; omega) (by unfold R32; omega) (fun e46 => ?_) (fun e46 => ?_)
      · refine h_aload rfl l0 rfl ?_
        refine h_dup rfl rfl ?_
        refine h_getI rfl o0 fi_57 (fun b47a b47b => ?_)
        refine h_intv k_1 rfl ?_
        refine h_iadd rfl ?_
        refine x_putI rfl o0 fi_57 rfl (by omega) (by omega) (fun w48 o48 q49a q49F q49X q49J q49Y q49R => ?_)
        refine h_aload rfl l0 rfl ?_
        refine h_dup rfl rfl ?_
        refine h_getI rfl o48 fi_58 (fun b50a b50b => ?_)
        rw [q49F 213 58 (by decide)] at b50a b50b ⊢
        refine h_intv k_1 rfl ?_
        refine h_iadd rfl ?_
        refine x_putI rfl o48 fi_58 rfl (by omega) (by omega) (fun w51 o51 q52a q52F q52X q52J q52Y q52R => ?_)
        refine h_aload rfl l0 rfl ?_
        have r6 : gF w51 213 56 = gF w 213 56 := by rw [q52F 213 56 (by decide), q49F 213 56 (by decide)]
        have r7 : gF w51 213 57 = gF w 213 57 + 1 := by rw [q52F 213 57 (by decide), q49a]
        have r8 : gF w51 213 58 = gF w 213 58 + 1 := q52a
        have n2 : NI w51 := ni_eq r6 (fun j => by rw [q52X, q49X]) nn
        obtain ⟨wA, hf53, oA', tA⟩ := x_goS (kn := kn) o51.1 (tkR_sm (smW_tr (smW_tr (smW_rf eR9 _) (sm_pI (by decide) q49F q49X q49J q49Y q49R)) (sm_pI (by decide) q52F q52X q52J q52Y q52R)) (by decide) htk) hG (by omega)
        have oA := hO_tr o51 (hO_mono dZ_g oA')
        have nA := ni_fr o51.1 oA' (by decide +kernel) (by decide +kernel) n2
        obtain ⟨fA6, fA7, fA8⟩ := ff_fr o51.1 oA' (by decide +kernel) (by decide +kernel) (by decide +kernel)
        have NA := nmS_hO oA (by decide +kernel) hNm
        have FA10 : gF wA 213 10 = 0 := (fr_gF (t := 61) (c := 213) (kf := 10) oA'.2 rfl (by decide +kernel) o51.1 (by decide +kernel)).trans ((q52F 213 10 (by decide)).trans ((q49F 213 10 (by decide)).trans hF0))
        obtain ⟨e', rfl⟩ : ∃ e' : Nat, e = e' + 1 := ⟨e - 1, by omega⟩
        refine h_W1 rfl o51 l0 ci_213 rfl rfl hf53 ?_
        refine h_intv k_1 rfl ?_
        refine h_istore rfl l0 (fun vl54 l54 => ?_)
        refine h_iload rfl l54 rfl ?_
        refine j_eq (kn := kn) (t := 0) (tgt := 108) (np := 100) rfl (by unfold R32; omega) (fun e55 => ?_) (fun e55 => ?_)
        · refine h_iload rfl l54 rfl ?_
          refine h_intv k_17 rfl ?_
          refine i_ne (kn := kn) (t := 1) (tgt := 122) (np := 114) rfl (by unfold R32; omega) (by unfold R32; omega) (fun e56 => ?_) (fun e56 => ?_)
          · refine h_iload rfl l54 rfl ?_
            refine h_intv k_20 rfl ?_
            refine i_ge (kn := kn) (t := 3) (tgt := 146) (np := 128) rfl (by unfold R32; omega) (by unfold R32; omega) (fun e57 => ?_) (fun e57 => ?_)
            · refine h_iload rfl l54 rfl ?_
              refine h_intv k_23 rfl ?_
              refine i_ge (kn := kn) (t := 3) (tgt := 160) (np := 152) rfl (by unfold R32; omega) (by unfold R32; omega) (fun e58 => ?_) (fun e58 => ?_)
              · refine h_aload rfl l54 rfl ?_
                refine h_iload rfl l54 rfl ?_
                obtain ⟨wC, bC, hf59, oC', fC8, hqC, hzC⟩ := z_readCompare (kn := kn) (w := wA) (S := nxT B n 200 S) ⟨oA.1, nA, by omega⟩ ⟨tA, tkG_nx hG, NA, FA10⟩ i (by omega)
                have oC : hO dZ w wC := hO_tr oA (hO_mono dZ_rs oC')
                have hb01C := zOK_01 hzC
                rw [show gF wA 213 57 = gF w 213 57 + 1 by omega, ← (show zSaid B n 200 R N (e' + 1) S (gF w 213 57) = zB (zSay B n 200 R N i (nxT B n 200 S)) (fun T => .inr (T, gF w 213 57 + 1)) from by rw [said_say (by omega) ⟨by omega, by omega, by omega⟩, show S.2.2.1 = i by omega])] at hzC
                refine h_V2 rfl oA l54 ci_213 rfl rfl hf59 ?_
                refine h_istore rfl l54 (fun vl60 l60 => ?_)
                exact zs_166 oC (by omega) hzC l60
              · refine h_aload rfl l54 rfl ?_
                refine h_iload rfl l54 rfl ?_
                obtain ⟨wC, bC, hf61, oC', fC8, hqC, hzC⟩ := z_readOf (kn := kn) (w := wA) (S := nxT B n 200 S) ⟨oA.1, nA, by omega⟩ ⟨tA, tkG_nx hG, NA, FA10⟩ i (by omega)
                have oC : hO dZ w wC := hO_tr oA (hO_mono dZ_rs oC')
                have hb01C := zOK_01 hzC
                rw [show gF wA 213 57 = gF w 213 57 + 1 by omega, ← (show zSaid B n 200 R N (e' + 1) S (gF w 213 57) = zB (zSay B n 200 R N i (nxT B n 200 S)) (fun T => .inr (T, gF w 213 57 + 1)) from by rw [said_say (by omega) ⟨by omega, by omega, by omega⟩, show S.2.2.1 = i by omega])] at hzC
                refine h_V2 rfl oA l54 ci_213 rfl rfl hf61 ?_
                refine h_goto rfl ?_
                refine h_istore rfl l54 (fun vl62 l62 => ?_)
                exact zs_166 oC (by omega) hzC l62
            · refine h_aload rfl l54 rfl ?_
              refine h_aload rfl l54 rfl ?_
              refine h_intv k_50 rfl ?_
              refine h_iload rfl l54 rfl ?_
              refine h_iadd rfl ?_
              refine h_intv k_0 rfl ?_
              refine h_intv k_0 rfl ?_
              refine h_intv k_0 rfl ?_
              obtain ⟨wB, hf63, oB', nB, gB, hB, tB⟩ := z_says (kn := kn) oA.1 tA nA (50 + i) 0 0 0 ⟨by omega, by omega⟩ ⟨by omega, by omega⟩ ⟨by omega, by omega⟩ ⟨by omega, by omega⟩ (by omega) (fun z => by omega) (fun z => by omega) (fun z => by omega)
              have oB : hO dZ w wB := hO_tr oA (hO_mono dZ_rs oB')
              have hB7 := hB 57 (by decide)
              have hB8 := hB 58 (by decide)
              have hB9 := hB 59 (by decide)
              refine h_V5 rfl oA l54 ci_213 rfl rfl hf63 ?_
              refine x_putI rfl oB fi_59 rfl (by omega) (by omega) (fun w64 o64 q65a q65F q65X q65J q65Y q65R => ?_)
              refine h_goto rfl ?_
              refine zs_166 o64 (by rw [q65F 213 58 (by decide)]; omega) ?_ l54
              rw [(show zSaid B n 200 R N (e' + 1) S (gF w 213 57) = zB (zSay B n 200 R N i (nxT B n 200 S)) (fun T => .inr (T, gF w 213 57 + 1)) from by rw [said_say (by omega) ⟨by omega, by omega, by omega⟩, show S.2.2.1 = i by omega]), show zSay B n 200 R N i (nxT B n 200 S) = .inr (nxT B n 200 S) from (if_neg (by omega)).trans ((if_neg (by omega)).trans (if_neg (by omega))), zB_r, zOK_r]
              exact ⟨rfl, (tkR_sm (smW_tr (smW_rf eR9 _) (sm_pI (by decide) q65F q65X q65J q65Y q65R)) (by decide) tB), tkG_nx hG, by rw [q65F 213 57 (by decide)]; omega, by rw [q65F 213 10 (by decide), hB 10 (by decide)]; exact FA10⟩
          · refine h_aload rfl l54 rfl ?_
            obtain ⟨wC, bC, hf66, oC', fC8, hqC, hzC⟩ := z_readNot_g (kn := kn) (w := wA) (S := nxT B n 200 S) (e := e') hs hg ⟨oA.1, nA, by omega⟩ ⟨tA, tkG_nx hG, NA, FA10⟩ (by omega) (by omega)
            have oC : hO dZ w wC := hO_tr oA (hO_mono dZ_rs oC')
            have hb01C := zOK_01 hzC
            rw [show gF wA 213 57 = gF w 213 57 + 1 by omega, ← (said_not (B := B) (n := n) (L := 200) (R := R) (N := N) (d := e') (S := S) (o := gF w 213 57) (by omega) ⟨by omega, by omega⟩)] at hzC
            refine h_V1 rfl oA l54 ci_213 rfl rfl hf66 ?_
            refine h_istore rfl l54 (fun vl67 l67 => ?_)
            refine h_goto rfl ?_
            exact zs_166 oC (by omega) hzC l67
        · refine h_aload rfl l54 rfl ?_
          obtain ⟨wC, bC, hf68, oC', fC8, hqC, hzC⟩ := z_readBracket_g (kn := kn) (w := wA) (S := nxT B n 200 S) (e := e') hs hg ⟨oA.1, nA, by omega⟩ ⟨tA, tkG_nx hG, NA, FA10⟩ (by omega) (by omega)
          have oC : hO dZ w wC := hO_tr oA (hO_mono dZ_rs oC')
          have hb01C := zOK_01 hzC
          rw [show gF wA 213 57 = gF w 213 57 + 1 by omega, ← (show zSaid B n 200 R N (e' + 1) S (gF w 213 57) = zB (zOrL B n 200 (zSaid B n 200 R N e') 21 (nxT B n 200 S) (gF w 213 57 + 1)) (zClose B n 200) from (if_pos (Or.inl ⟨by omega, by omega⟩)).trans ((if_neg (by omega)).trans (if_pos (by omega))))] at hzC
          refine h_V1 rfl oA l54 ci_213 rfl rfl hf68 ?_
          refine h_istore rfl l54 (fun vl69 l69 => ?_)
          refine h_goto rfl ?_
          exact zs_166 oC (by omega) hzC l69
      · refine h_aload rfl l0 rfl ?_
        refine h_intv k_4 rfl ?_
        obtain ⟨wD70, hf70, oD70', sD70, fD70, pD70⟩ := x_bad (kn := kn) o0.1 htk hG 4 ⟨by omega, by omega⟩
        have oD70 := hO_tr o0 (hO_mono dZ_R oD70')
        rw [if_k (by omega)] at fD70
        refine h_V2 rfl o0 l0 ci_213 rfl rfl hf70 ?_
        refine h_zret (by omega) rfl ?_
        refine ⟨_, _, rfl, ?_⟩
        rw [said_many hbeg (by omega), zOK_l]
        exact ⟨rfl, fD70, pD70⟩
  · refine h_iload rfl l0 rfl ?_
    refine h_intv k_26 rfl ?_
    refine i_le (kn := kn) (t := 5) (tgt := 46) (np := 40) rfl (by unfold R32; omega) (by unfold R32; omega) (fun e71 => ?_) (fun e71 => ?_)
    · have hbeg : zBeg S := by
        unfold zBeg
        omega
      refine h_aload rfl l0 rfl ?_
      refine h_getI rfl o0 fi_57 (fun b72a b72b => ?_)
      refine h_intv k_20 rfl ?_
      refine i_eq (kn := kn) (t := 0) (tgt := 64) (np := 55) rfl (by unfold R32; omega) (by unfold R32; omega) (fun e73 => ?_) (fun e73 => ?_)
      · refine h_aload rfl l0 rfl ?_
        refine h_intv k_4 rfl ?_
        obtain ⟨wD74, hf74, oD74', sD74, fD74, pD74⟩ := x_bad (kn := kn) o0.1 htk hG 4 ⟨by omega, by omega⟩
        have oD74 := hO_tr o0 (hO_mono dZ_R oD74')
        rw [if_k (by omega)] at fD74
        refine h_V2 rfl o0 l0 ci_213 rfl rfl hf74 ?_
        refine h_zret (by omega) rfl ?_
        refine ⟨_, _, rfl, ?_⟩
        rw [said_many hbeg (by omega), zOK_l]
        exact ⟨rfl, fD74, pD74⟩
      · refine h_aload rfl l0 rfl ?_
        refine h_getI rfl o0 fi_58 (fun b75a b75b => ?_)
        refine h_intv k_8 rfl ?_
        refine i_ne (kn := kn) (t := 1) (tgt := 70) (np := 64) rfl (by unfold R32; omega) (by unfold R32; omega) (fun e76 => ?_) (fun e76 => ?_)
        · refine h_aload rfl l0 rfl ?_
          refine h_dup rfl rfl ?_
          refine h_getI rfl o0 fi_57 (fun b77a b77b => ?_)
          refine h_intv k_1 rfl ?_
          refine h_iadd rfl ?_
          refine x_putI rfl o0 fi_57 rfl (by omega) (by omega) (fun w78 o78 q79a q79F q79X q79J q79Y q79R => ?_)
          refine h_aload rfl l0 rfl ?_
          refine h_dup rfl rfl ?_
          refine h_getI rfl o78 fi_58 (fun b80a b80b => ?_)
          rw [q79F 213 58 (by decide)] at b80a b80b ⊢
          refine h_intv k_1 rfl ?_
          refine h_iadd rfl ?_
          refine x_putI rfl o78 fi_58 rfl (by omega) (by omega) (fun w81 o81 q82a q82F q82X q82J q82Y q82R => ?_)
          refine h_aload rfl l0 rfl ?_
          have r6 : gF w81 213 56 = gF w 213 56 := by rw [q82F 213 56 (by decide), q79F 213 56 (by decide)]
          have r7 : gF w81 213 57 = gF w 213 57 + 1 := by rw [q82F 213 57 (by decide), q79a]
          have r8 : gF w81 213 58 = gF w 213 58 + 1 := q82a
          have n2 : NI w81 := ni_eq r6 (fun j => by rw [q82X, q79X]) nn
          obtain ⟨wA, hf83, oA', tA⟩ := x_goS (kn := kn) o81.1 (tkR_sm (smW_tr (smW_tr (smW_rf eR9 _) (sm_pI (by decide) q79F q79X q79J q79Y q79R)) (sm_pI (by decide) q82F q82X q82J q82Y q82R)) (by decide) htk) hG (by omega)
          have oA := hO_tr o81 (hO_mono dZ_g oA')
          have nA := ni_fr o81.1 oA' (by decide +kernel) (by decide +kernel) n2
          obtain ⟨fA6, fA7, fA8⟩ := ff_fr o81.1 oA' (by decide +kernel) (by decide +kernel) (by decide +kernel)
          have NA := nmS_hO oA (by decide +kernel) hNm
          have FA10 : gF wA 213 10 = 0 := (fr_gF (t := 61) (c := 213) (kf := 10) oA'.2 rfl (by decide +kernel) o81.1 (by decide +kernel)).trans ((q82F 213 10 (by decide)).trans ((q79F 213 10 (by decide)).trans hF0))
          obtain ⟨e', rfl⟩ : ∃ e' : Nat, e = e' + 1 := ⟨e - 1, by omega⟩
          refine h_W1 rfl o81 l0 ci_213 rfl rfl hf83 ?_
          refine h_intv k_1 rfl ?_
          refine h_istore rfl l0 (fun vl84 l84 => ?_)
          refine h_iload rfl l84 rfl ?_
          refine j_eq (kn := kn) (t := 0) (tgt := 108) (np := 100) rfl (by unfold R32; omega) (fun e85 => ?_) (fun e85 => ?_)
          · refine h_iload rfl l84 rfl ?_
            refine h_intv k_17 rfl ?_
            refine i_ne (kn := kn) (t := 1) (tgt := 122) (np := 114) rfl (by unfold R32; omega) (by unfold R32; omega) (fun e86 => ?_) (fun e86 => ?_)
            · refine h_iload rfl l84 rfl ?_
              refine h_intv k_20 rfl ?_
              refine i_ge (kn := kn) (t := 3) (tgt := 146) (np := 128) rfl (by unfold R32; omega) (by unfold R32; omega) (fun e87 => ?_) (fun e87 => ?_)
              · refine h_iload rfl l84 rfl ?_
                refine h_intv k_23 rfl ?_
                refine i_ge (kn := kn) (t := 3) (tgt := 160) (np := 152) rfl (by unfold R32; omega) (by unfold R32; omega) (fun e88 => ?_) (fun e88 => ?_)
                · refine h_aload rfl l84 rfl ?_
                  refine h_iload rfl l84 rfl ?_
                  obtain ⟨wC, bC, hf89, oC', fC8, hqC, hzC⟩ := z_readCompare (kn := kn) (w := wA) (S := nxT B n 200 S) ⟨oA.1, nA, by omega⟩ ⟨tA, tkG_nx hG, NA, FA10⟩ i (by omega)
                  have oC : hO dZ w wC := hO_tr oA (hO_mono dZ_rs oC')
                  have hb01C := zOK_01 hzC
                  rw [show gF wA 213 57 = gF w 213 57 + 1 by omega, ← (show zSaid B n 200 R N (e' + 1) S (gF w 213 57) = zB (zSay B n 200 R N i (nxT B n 200 S)) (fun T => .inr (T, gF w 213 57 + 1)) from by rw [said_say (by omega) ⟨by omega, by omega, by omega⟩, show S.2.2.1 = i by omega])] at hzC
                  refine h_V2 rfl oA l84 ci_213 rfl rfl hf89 ?_
                  refine h_istore rfl l84 (fun vl90 l90 => ?_)
                  exact zs_166 oC (by omega) hzC l90
                · refine h_aload rfl l84 rfl ?_
                  refine h_iload rfl l84 rfl ?_
                  obtain ⟨wC, bC, hf91, oC', fC8, hqC, hzC⟩ := z_readOf (kn := kn) (w := wA) (S := nxT B n 200 S) ⟨oA.1, nA, by omega⟩ ⟨tA, tkG_nx hG, NA, FA10⟩ i (by omega)
                  have oC : hO dZ w wC := hO_tr oA (hO_mono dZ_rs oC')
                  have hb01C := zOK_01 hzC
                  rw [show gF wA 213 57 = gF w 213 57 + 1 by omega, ← (show zSaid B n 200 R N (e' + 1) S (gF w 213 57) = zB (zSay B n 200 R N i (nxT B n 200 S)) (fun T => .inr (T, gF w 213 57 + 1)) from by rw [said_say (by omega) ⟨by omega, by omega, by omega⟩, show S.2.2.1 = i by omega])] at hzC
                  refine h_V2 rfl oA l84 ci_213 rfl rfl hf91 ?_
                  refine h_goto rfl ?_
                  refine h_istore rfl l84 (fun vl92 l92 => ?_)
                  exact zs_166 oC (by omega) hzC l92
              · refine h_aload rfl l84 rfl ?_
                refine h_aload rfl l84 rfl ?_
                refine h_intv k_50 rfl ?_
                refine h_iload rfl l84 rfl ?_
                refine h_iadd rfl ?_
                refine h_intv k_0 rfl ?_
                refine h_intv k_0 rfl ?_
                refine h_intv k_0 rfl ?_
                obtain ⟨wB, hf93, oB', nB, gB, hB, tB⟩ := z_says (kn := kn) oA.1 tA nA (50 + i) 0 0 0 ⟨by omega, by omega⟩ ⟨by omega, by omega⟩ ⟨by omega, by omega⟩ ⟨by omega, by omega⟩ (by omega) (fun z => by omega) (fun z => by omega) (fun z => by omega)
                have oB : hO dZ w wB := hO_tr oA (hO_mono dZ_rs oB')
                have hB7 := hB 57 (by decide)
                have hB8 := hB 58 (by decide)
                have hB9 := hB 59 (by decide)
                refine h_V5 rfl oA l84 ci_213 rfl rfl hf93 ?_
                refine x_putI rfl oB fi_59 rfl (by omega) (by omega) (fun w94 o94 q95a q95F q95X q95J q95Y q95R => ?_)
                refine h_goto rfl ?_
                refine zs_166 o94 (by rw [q95F 213 58 (by decide)]; omega) ?_ l84
                rw [(show zSaid B n 200 R N (e' + 1) S (gF w 213 57) = zB (zSay B n 200 R N i (nxT B n 200 S)) (fun T => .inr (T, gF w 213 57 + 1)) from by rw [said_say (by omega) ⟨by omega, by omega, by omega⟩, show S.2.2.1 = i by omega]), show zSay B n 200 R N i (nxT B n 200 S) = .inr (nxT B n 200 S) from (if_neg (by omega)).trans ((if_neg (by omega)).trans (if_neg (by omega))), zB_r, zOK_r]
                exact ⟨rfl, (tkR_sm (smW_tr (smW_rf eR9 _) (sm_pI (by decide) q95F q95X q95J q95Y q95R)) (by decide) tB), tkG_nx hG, by rw [q95F 213 57 (by decide)]; omega, by rw [q95F 213 10 (by decide), hB 10 (by decide)]; exact FA10⟩
            · refine h_aload rfl l84 rfl ?_
              obtain ⟨wC, bC, hf96, oC', fC8, hqC, hzC⟩ := z_readNot_g (kn := kn) (w := wA) (S := nxT B n 200 S) (e := e') hs hg ⟨oA.1, nA, by omega⟩ ⟨tA, tkG_nx hG, NA, FA10⟩ (by omega) (by omega)
              have oC : hO dZ w wC := hO_tr oA (hO_mono dZ_rs oC')
              have hb01C := zOK_01 hzC
              rw [show gF wA 213 57 = gF w 213 57 + 1 by omega, ← (said_not (B := B) (n := n) (L := 200) (R := R) (N := N) (d := e') (S := S) (o := gF w 213 57) (by omega) ⟨by omega, by omega⟩)] at hzC
              refine h_V1 rfl oA l84 ci_213 rfl rfl hf96 ?_
              refine h_istore rfl l84 (fun vl97 l97 => ?_)
              refine h_goto rfl ?_
              exact zs_166 oC (by omega) hzC l97
          · refine h_aload rfl l84 rfl ?_
            obtain ⟨wC, bC, hf98, oC', fC8, hqC, hzC⟩ := z_readBracket_g (kn := kn) (w := wA) (S := nxT B n 200 S) (e := e') hs hg ⟨oA.1, nA, by omega⟩ ⟨tA, tkG_nx hG, NA, FA10⟩ (by omega) (by omega)
            have oC : hO dZ w wC := hO_tr oA (hO_mono dZ_rs oC')
            have hb01C := zOK_01 hzC
            rw [show gF wA 213 57 = gF w 213 57 + 1 by omega, ← (show zSaid B n 200 R N (e' + 1) S (gF w 213 57) = zB (zOrL B n 200 (zSaid B n 200 R N e') 21 (nxT B n 200 S) (gF w 213 57 + 1)) (zClose B n 200) from (if_pos (Or.inl ⟨by omega, by omega⟩)).trans ((if_neg (by omega)).trans (if_pos (by omega))))] at hzC
            refine h_V1 rfl oA l84 ci_213 rfl rfl hf98 ?_
            refine h_istore rfl l84 (fun vl99 l99 => ?_)
            refine h_goto rfl ?_
            exact zs_166 oC (by omega) hzC l99
        · refine h_aload rfl l0 rfl ?_
          refine h_intv k_4 rfl ?_
          obtain ⟨wD100, hf100, oD100', sD100, fD100, pD100⟩ := x_bad (kn := kn) o0.1 htk hG 4 ⟨by omega, by omega⟩
          have oD100 := hO_tr o0 (hO_mono dZ_R oD100')
          rw [if_k (by omega)] at fD100
          refine h_V2 rfl o0 l0 ci_213 rfl rfl hf100 ?_
          refine h_zret (by omega) rfl ?_
          refine ⟨_, _, rfl, ?_⟩
          rw [said_many hbeg (by omega), zOK_l]
          exact ⟨rfl, fD100, pD100⟩
    · have hnb : ¬ zBeg S := fun z => by
        rcases z with ⟨z1, z2⟩ | ⟨z1, z2, z3⟩
        · omega
        · omega
      refine h_aload rfl l0 rfl ?_
      refine h_intv k_1 rfl ?_
      obtain ⟨wD101, hf101, oD101', sD101, fD101, pD101⟩ := x_bad (kn := kn) o0.1 htk hG 1 ⟨by omega, by omega⟩
      have oD101 := hO_tr o0 (hO_mono dZ_R oD101')
      rw [if_k (by omega)] at fD101
      refine h_V2 rfl o0 l0 ci_213 rfl rfl hf101 ?_
      refine h_zret (by omega) rfl ?_
      refine ⟨_, _, rfl, ?_⟩
      rw [said_bad hnb, zOK_l]
      exact ⟨rfl, fD101, pD101⟩
theorem zs_10 {kn : sKn} {g : List Value → sW → Option sR} {d e : Nat} (hs : rsH g d) (hg : zsH B n R N g d) {w : sW} {S : tS} (hI0 : rsI w) (hS : sX B n R N S w) (h8 : gF w 213 58 + (e : Int) = 8) (hd : e < d + 1) {s : Int} (hs01 : (s = 1 ∧ S.1 = 2 ∧ S.2.2.1 = 40) ∨ (s = 0 ∧ (S.1 ≠ 2 ∨ S.2.2.1 ≠ 40))) : ∀ (m k : Nat) (lv : List (Nat × Value)) (i : Int), k + m = 27 → i = (k : Int) → 17 ≤ k → (S.1 = 4 → S.2.2.1 < 17 ∨ (k : Int) ≤ S.2.2.1) → hL lv [(0, .ref 213), (1, hI s), (2, hI i)] → Tp (tX12_readSaid_g kn g) (rsT B n (zSaid B n 200 R N e S (gF w 213 57))) 10 (lv, [], w, 0, 0) := by
  obtain ⟨hw, nn, hp⟩ := hI0
  obtain ⟨htk, hG, hNm, hF0⟩ := hS
  obtain ⟨_, hkI, hto, hwd⟩ := tkU_i htk.2
  have gbS := tkG_b hG
  have hn9 := htk.1.2.2.2.1
  have o0 : hO dZ w w := hO_rf hw
  obtain ⟨_, _, _, _, _, _, _, a7, b7⟩ := fI_ok (hO_rf (D := []) hw) fi_57
  obtain ⟨_, _, _, _, _, _, _, a6, b6⟩ := fI_ok (hO_rf (D := []) hw) fi_56
  obtain ⟨_, _, _, _, _, _, _, a8, b8⟩ := fI_ok (hO_rf (D := []) hw) fi_58
  intro m
  induction m with
  | zero =>
    intro k lv i hm hik hi hnw l0
    subst hik
    refine h_iload rfl l0 rfl ?_
    refine h_intv k_26 rfl ?_
    refine i_gt (kn := kn) (t := 4) (tgt := 30) (np := 16) rfl (by unfold R32; omega) (by unfold R32; omega) (fun e41 => ?_) (fun e41 => ?_)
    · exact zs_30 hs hg ⟨hw, nn, hp⟩ ⟨htk, hG, hNm, hF0⟩ h8 hd hs01 (by omega) l0
    · omega
  | succ m ih =>
    intro k lv i hm hik hi hnw l0
    subst hik
    refine h_iload rfl l0 rfl ?_
    refine h_intv k_26 rfl ?_
    refine i_gt (kn := kn) (t := 4) (tgt := 30) (np := 16) rfl (by unfold R32; omega) (by unfold R32; omega) (fun e41 => ?_) (fun e41 => ?_)
    · exact zs_30 hs hg ⟨hw, nn, hp⟩ ⟨htk, hG, hNm, hF0⟩ h8 hd hs01 (by omega) l0
    · refine h_aload rfl l0 rfl ?_
      refine h_iload rfl l0 rfl ?_
      obtain ⟨z42, hf42, hz42⟩ := x_isWord (kn := kn) o0.1 htk hG k (by omega)
      refine h_V2 rfl o0 l0 ci_213 rfl rfl hf42 ?_
      refine j_ne (kn := kn) (t := 1) (tgt := 30) (np := 24) rfl (by unfold R32; omega) (fun e43 => ?_) (fun e43 => ?_)
      · exact zs_30 hs hg ⟨hw, nn, hp⟩ ⟨htk, hG, hNm, hF0⟩ h8 hd hs01 (by omega) l0
      · refine h_iincv k_1 rfl l0 rfl (fun vl44 l44 => ?_)
        refine h_goto rfl ?_
        exact ih (k + 1) _ _ (by omega) (by omega) (by omega) (fun z => by have := hnw z; omega) l44
theorem z_readSaid_g {kn : sKn} {g : List Value → sW → Option sR} {d e : Nat} (hs : rsH g d) (hg : zsH B n R N g d) {w : sW} {S : tS} (hI0 : rsI w) (hS : sX B n R N S w) (h8 : gF w 213 58 + (e : Int) = 8) (hd : e < d + 1) : rsB B n (1) (zSaid B n 200 R N e S (gF w 213 57)) (fX12_readSaid_g kn g) [.ref 213] w := by
  have hQ := s_readSaid_g (kn := kn) hs hI0 (by omega)
  obtain ⟨hw, nn, hp⟩ := hI0
  obtain ⟨htk, hG, hNm, hF0⟩ := hS
  obtain ⟨_, hkI, hto, hwd⟩ := tkU_i htk.2
  have gbS := tkG_b hG
  have hn9 := htk.1.2.2.2.1
  obtain ⟨_, _, _, _, _, _, _, a7, b7⟩ := fI_ok (hO_rf (D := []) hw) fi_57
  obtain ⟨_, _, _, _, _, _, _, a6, b6⟩ := fI_ok (hO_rf (D := []) hw) fi_56
  obtain ⟨_, _, _, _, _, _, _, a8, b8⟩ := fI_ok (hO_rf (D := []) hw) fi_58
  have K : Tp (tX12_readSaid_g kn g) (rsT B n (zSaid B n 200 R N e S (gF w 213 57))) 0 (lv_args 0 [.ref 213], [], w, 0, 0) := by
    have l0 : hL (lv_args 0 [.ref 213]) (lv_args 0 [.ref 213]) := hL_ex rfl
    have o0 : hO dZ w w := hO_rf hw
    refine h_aload rfl l0 rfl ?_
    refine h_intv k_40 rfl ?_
    obtain ⟨z41, hf41, hz41⟩ := x_isSignR (kn := kn) o0.1 htk hG 40 ⟨by omega, by omega⟩
    refine h_V2 rfl o0 l0 ci_213 rfl rfl hf41 ?_
    refine h_istore rfl l0 (fun vl42 l42 => ?_)
    refine h_intv k_17 rfl ?_
    refine h_istore rfl l42 (fun vl43 l43 => ?_)
    exact zs_10 hs hg ⟨hw, nn, hp⟩ ⟨htk, hG, hNm, hF0⟩ h8 hd hz41 10 17 _ _ (by omega) rfl (by omega) (fun _ => by omega) l43
  obtain ⟨r, h1, h2⟩ := h_meth1 (nL := 4) rfl K
  exact rsB_mk hQ h1 h2
theorem z_readSaid_n {kn : sKn} : ∀ d : Nat, zsH B n R N (fX12_readSaid_n kn d) d := by
  intro d
  induction d with
  | zero =>
    intro w S e hI0 hS h8 hd
    omega
  | succ d ih =>
    intro w S e hI0 hS h8 hd
    exact z_readSaid_g (s_readSaid_n d) ih hI0 hS h8 hd
theorem z_readOr {kn : sKn} {w : sW} {S : tS} (hI0 : rsI w) (hS : sX B n R N S w) (h : gF w 213 58 = 0) : rsB B n 1 (zOrL B n 200 (zSaid B n 200 R N 8) 21 S (gF w 213 57)) (fX12_readOr kn) [.ref 213] w := z_readOr_g (s_readSaid_n 10) (z_readSaid_n 10) hI0 hS (by omega) (by omega)
end SENTR
end
