noncomputable section
section BK
variable (B : Nat → Int) (n L : Nat) (R N : Nat → Int)
/-- a row and a place of it -/
def zPlc (S : tS) : zE ⊕ tS := zB (zNum B n L 0 11 S) (fun q => zB (zNum B n L 0 2 q.2) (fun r => .inr r.2))
/-- what a signer does -/
def zSdo (T : tS) : zE ⊕ tS := if T.1 = 4 ∧ T.2.2.1 = 8 then zPlc B n L (nxT B n L T) else if T.1 = 4 ∧ (9 ≤ T.2.2.1 ∧ T.2.2.1 ≤ 11) then .inr (nxT B n L T) else .inl (1, T.2.1)
/-- what a load does -/
def zLdo (T : tS) : zE ⊕ tS := if T.1 = 4 ∧ T.2.2.1 = 13 then .inr (nxT B n L T) else .inl (1, T.2.1)
/-- a line of a BOOK; k were before it -/
def zBkl (k : Int) (S : tS) : zE ⊕ tS := if S.1 = 5 then (if fnd N 0 S.2.2.2.1 (R 1).toNat 0 = -1 ∧ fnd N 10 S.2.2.2.1 (R 2).toNat 0 = -1 then .inl (3, S.2.1) else if k = 40 then .inl (4, S.2.1) else if fnd N 0 S.2.2.2.1 (R 1).toNat 0 = -1 then zLdo B n L (nxT B n L S) else zSdo B n L (nxT B n L S)) else if S.1 = 4 ∧ (S.2.2.1 = 12 ∨ S.2.2.1 = 14) then (if k = 40 then .inl (4, S.2.1) else if S.2.2.1 = 12 then zPlc B n L (nxT B n L S) else zB (zNum B n L 1 60 (nxT B n L S)) (fun q => .inr q.2)) else .inl (1, S.2.1)
def zBk : Nat → tS → Int → zE ⊕ Int
  | 0, _, k => .inr k
  | f + 1, S, k => if S.1 = 0 then .inr k else zB (zBkl B n L R N k S) (fun T => zB (zEnd B n L T) (fun U => zBk f U (k + 1)))
end BK
section BK2
variable {B : Nat → Int} {n L : Nat} {R N : Nat → Int} {k : Int} {S : tS}
theorem bkl_bad (h : S.1 ≠ 5) (h2 : ¬ (S.1 = 4 ∧ (S.2.2.1 = 12 ∨ S.2.2.1 = 14))) : zBkl B n L R N k S = .inl (1, S.2.1) := (if_neg h).trans (if_neg h2)
theorem bkl_nn (h : S.1 = 5) (h2 : fnd N 0 S.2.2.2.1 (R 1).toNat 0 = -1 ∧ fnd N 10 S.2.2.2.1 (R 2).toNat 0 = -1) : zBkl B n L R N k S = .inl (3, S.2.1) := (if_pos h).trans (if_pos h2)
theorem bkl_n40 (h : S.1 = 5) (h2 : ¬ (fnd N 0 S.2.2.2.1 (R 1).toNat 0 = -1 ∧ fnd N 10 S.2.2.2.1 (R 2).toNat 0 = -1)) (h3 : k = 40) : zBkl B n L R N k S = .inl (4, S.2.1) := (if_pos h).trans ((if_neg h2).trans (if_pos h3))
theorem bkl_w40 (h : S.1 = 4 ∧ (S.2.2.1 = 12 ∨ S.2.2.1 = 14)) (h3 : k = 40) : zBkl B n L R N k S = .inl (4, S.2.1) := (if_neg (by omega)).trans ((if_pos h).trans (if_pos h3))
theorem bkl_l (h : S.1 = 5) (h2 : fnd N 0 S.2.2.2.1 (R 1).toNat 0 = -1 ∧ fnd N 10 S.2.2.2.1 (R 2).toNat 0 ≠ -1) (h3 : k ≠ 40) : zBkl B n L R N k S = zLdo B n L (nxT B n L S) := (if_pos h).trans ((if_neg (by omega)).trans ((if_neg h3).trans (if_pos h2.1)))
theorem bkl_s (h : S.1 = 5) (h2 : fnd N 0 S.2.2.2.1 (R 1).toNat 0 ≠ -1) (h3 : k ≠ 40) : zBkl B n L R N k S = zSdo B n L (nxT B n L S) := (if_pos h).trans ((if_neg (by omega)).trans ((if_neg h3).trans (if_neg h2)))
theorem bkl_b (h : S.1 = 4 ∧ S.2.2.1 = 12) (h3 : k ≠ 40) : zBkl B n L R N k S = zPlc B n L (nxT B n L S) := (if_neg (by omega)).trans ((if_pos (by omega)).trans ((if_neg h3).trans (if_pos h.2)))
theorem bkl_d (h : S.1 = 4 ∧ S.2.2.1 = 14) (h3 : k ≠ 40) : zBkl B n L R N k S = zB (zNum B n L 1 60 (nxT B n L S)) (fun q => .inr q.2) := (if_neg (by omega)).trans ((if_pos (by omega)).trans ((if_neg h3).trans (if_neg (by omega))))
theorem sdo_p {T : tS} (h : T.1 = 4 ∧ T.2.2.1 = 8) : zSdo B n L T = zPlc B n L (nxT B n L T) := if_pos h
theorem sdo_o {T : tS} (h : T.1 = 4 ∧ (9 ≤ T.2.2.1 ∧ T.2.2.1 ≤ 11)) : zSdo B n L T = .inr (nxT B n L T) := (if_neg (by omega)).trans (if_pos h)
theorem sdo_b {T : tS} (h : ¬ (T.1 = 4 ∧ (8 ≤ T.2.2.1 ∧ T.2.2.1 ≤ 11))) : zSdo B n L T = .inl (1, T.2.1) := (if_neg (by omega)).trans (if_neg (by omega))
end BK2
theorem x_loadNamed14_l {kn : sKn} {w : sW} {N : Nat → Int} {X : Int} {m : Nat} (hw : wOk ZZ w) (hP : gR w 14 12 = 21) (hm : gF w 14 3 = (m : Int)) (hN : ∀ s, s < m → gY w 21 s = Int64.ofInt (c32 7 (N (10 + s))) ∧ 0 ≤ N (10 + s) ∧ N (10 + s) < 27 ^ 7) (hX : 0 ≤ X ∧ X < 27 ^ 7) : ∀ (d k : Nat) (lv : List (Nat × Value)), k + d = m → l_get lv 0 = some (.ref 14) → l_get lv 1 = some (hJ (c32 7 X)) → l_get lv 3 = some (hI (k : Int)) → Tp (tX6_loadNamed kn) (fun r => r = (some (hI (fnd N 10 X d k)), w, 0, 0)) 2 (lv, [], w, 0, 0) := by
  have o0 : hO [] w w := hO_rf hw
  have hm2 : m ≤ 6 := by
    obtain ⟨_, _, _, _, _, _, _, g1, g2⟩ := fI_ok o0 fq_14_3
    omega
  intro d
  induction d with
  | zero =>
    intro k lv hkd q0 q1 q3
    refine r_iload rfl q3 ?_
    refine r_aload rfl q0 ?_
    refine h_getI rfl o0 fq_14_3 (fun b1 b2 => ?_)
    rw [hm] at b1 b2 ⊢
    refine i_ge (kn := kn) (t := 3) (tgt := 29) (np := 10) rfl (by unfold R32; omega) (by unfold R32; omega) (fun e1 => ?_) (fun e1 => ?_)
    · refine r_intv k_n1 rfl ?_
      exact r_iret rfl rfl
    · omega
  | succ d ih =>
    intro k lv hkd q0 q1 q3
    obtain ⟨n1, n2, n3⟩ := hN k (by omega)
    refine r_iload rfl q3 ?_
    refine r_aload rfl q0 ?_
    refine h_getI rfl o0 fq_14_3 (fun b1 b2 => ?_)
    rw [hm] at b1 b2 ⊢
    refine i_ge (kn := kn) (t := 3) (tgt := 29) (np := 10) rfl (by unfold R32; omega) (by unfold R32; omega) (fun e1 => ?_) (fun e1 => ?_)
    · omega
    · refine r_aload rfl q0 ?_
      refine h_getT rfl o0 (show ztau 14 = some 5 from rfl) frt_5_12 (fun kk hk rk => ?_)
      have hkk : kk = 21 := by omega
      subst hkk
      refine r_iload rfl q3 ?_
      refine x_lald k rfl o0 aj_21 rfl rfl (by omega) ?_
      rw [n1]
      refine r_lload rfl q1 ?_
      refine x_lcmp rfl (fun cc c1 c2 ce => ?_)
      have ce2 : cc = 0 ↔ N (10 + k) = X := by
        rw [ce, c32_e7 n2 n3 hX.1 hX.2]
      refine j_ne (kn := kn) (t := 1) (tgt := 23) (np := 21) rfl (by unfold R32; omega) (fun e2 => ?_) (fun e2 => ?_)
      · refine r_iincv k_1 rfl q3 ?_
        refine r_goto rfl ?_
        rw [fnd_n (fun h => e2 (ce2.mpr h))]
        exact ih (k + 1) _ (by omega) (lp_get (by decide) q0 (Or.inl rfl)) (lp_get (by decide) q1 (Or.inr (by decide))) l_get_head
      · refine r_iload rfl q3 ?_
        rw [fnd_y (ce2.mp (by omega))]
        exact r_iret rfl rfl
theorem x_loadNamed14 {kn : sKn} {w : sW} {N : Nat → Int} {X : Int} {m : Nat} (hw : wOk ZZ w) (hP : gR w 14 12 = 21) (hm : gF w 14 3 = (m : Int)) (hN : ∀ s, s < m → gY w 21 s = Int64.ofInt (c32 7 (N (10 + s))) ∧ 0 ≤ N (10 + s) ∧ N (10 + s) < 27 ^ 7) (hX : 0 ≤ X ∧ X < 27 ^ 7) : fX6_loadNamed kn [.ref 14, hJ (c32 7 X)] w = some (some (hI (fnd N 10 X m 0)), w, 0, 0) := by
  have K : Tp (tX6_loadNamed kn) (fun r => r = (some (hI (fnd N 10 X m 0)), w, 0, 0)) 0 (lv_args 0 [.ref 14, hJ (c32 7 X)], [], w, 0, 0) := by
    refine r_intv k_0 rfl ?_
    refine r_istore rfl ?_
    exact x_loadNamed14_l hw hP hm hN hX m 0 _ (by omega) (lp_get (by decide) rfl (Or.inl rfl)) (lp_get (by decide) rfl (Or.inr (by decide))) l_get_head
  obtain ⟨r, h1, h2⟩ := h_meth1 (nL := 4) rfl K
  rw [h2] at h1
  exact h1
def nlC (R N : Nat → Int) (w : sW) : Prop := gR w 14 12 = 21 ∧ gF w 14 3 = R 2 ∧ ∀ s : Nat, (s : Int) < R 2 → gY w 21 s = Int64.ofInt (c32 7 (N (10 + s))) ∧ 0 ≤ N (10 + s) ∧ N (10 + s) < 27 ^ 7
theorem nlC_s {kn : sKn} {R N : Nat → Int} {w : sW} {X : Int} (hw : wOk ZZ w) (p : nlC R N w) (hX : 0 ≤ X ∧ X < 27 ^ 7) : fX6_loadNamed kn [.ref 14, hJ (c32 7 X)] w = some (some (hI (fnd N 10 X (R 2).toNat 0)), w, 0, 0) ∧ 0 ≤ R 2 ∧ R 2 ≤ 6 := by
  obtain ⟨_, _, _, _, _, _, _, g1, g2⟩ := fI_ok (hO_rf (D := []) hw) fq_14_3
  rw [p.2.1] at g1 g2
  exact ⟨x_loadNamed14 hw p.1 (m := (R 2).toNat) (by rw [p.2.1]; omega) (fun s hs => p.2.2 s (by omega)) hX, g1, g2⟩
theorem nlC_hO {D : List (Nat × Nat)} {R N : Nat → Int} {w w' : sW} (hw : wOk ZZ w) (o : hO D w w') (h : (mIn D 5 12 || (mIn D 5 3 || mIn D 12 999)) = false) (p : nlC R N w) : nlC R N w' := by
  rw [Bool.or_eq_false_iff, Bool.or_eq_false_iff] at h
  refine ⟨(fr_gR (t := 5) (c := 14) o.2 rfl h.1 (by decide +kernel) hw).trans p.1, (fr_gF (t := 5) (c := 14) o.2 rfl h.2.1 hw (by decide +kernel)).trans p.2.1, fun s hs => ?_⟩
  rw [fr_gY o.2 (show ztau 21 = some 12 from rfl) h.2.2 s]
  exact p.2.2 s hs
def dBk : List (Nat × Nat) := dTk ++ [(29, 999), (30, 999), (31, 999), (32, 999)]
theorem dBk_t : msub dTk dBk = true := by decide +kernel
theorem dBk_k : msub dH_tok dBk = true := by decide +kernel
/-- a token of a book as the class has it, with k lines before, and no fault so far -/
def bC (B : Nat → Int) (n : Nat) (k : Int) (S : tS) (w : sW) : Prop := tkC B n 400 S w ∧ tkG B n 400 S ∧ gF w 1 11 = 0 ∧ gF w 43 4 = k
def bCO (B : Nat → Int) (n : Nat) (k : Int) (sp : zE ⊕ tS) (b : Int) (w' : sW) : Prop := zOK sp b (fun e => gF w' 1 11 = e.1) (fun T => bC B n k T w')
def eB4 : List (Nat × Nat × Nat) := [(2, 44, 0), (2, 45, 0), (2, 46, 0), (2, 47, 0)]
theorem bC_sm {B : Nat → Int} {n : Nat} {k : Int} {S : tS} {w w' : sW} (s : smW eB4 w w') (h : bC B n k S w) : bC B n k S w' := ⟨tkC_sm s (by decide) h.1, h.2.1, (s.1 1 11 (by decide)).trans h.2.2.1, (s.1 43 4 (by decide)).trans h.2.2.2⟩
theorem bC_adv {kn : sKn} {w : sW} {B : Nat → Int} {n : Nat} {k : Int} {S : tS} (hw : wOk ZZ w) (h : bC B n k S w) : ∃ w', fX9_advance kn [.ref 1] w = some (none, w', 0, 0) ∧ hO dH_tok w w' ∧ smW eTk w w' ∧ bC B n k (nxT B n 400 S) w' := by
  obtain ⟨w', e, o, s, t⟩ := x_advS (kn := kn) hw h.1 h.2.1
  exact ⟨w', e, o, s, t, tkG_nx h.2.1, (s.1 1 11 (by decide)).trans h.2.2.1, (s.1 43 4 (by decide)).trans h.2.2.2⟩
theorem bC_num_0_11 {kn : sKn} {w : sW} {B : Nat → Int} {n : Nat} {k : Int} {S : tS} (hw : wOk ZZ w) (h : bC B n k S w) : ∃ (w' : sW) (b : Int), fX9_takeNumber kn [.ref 1, hI 0, hI 11] w = some (some (hI b), w', 0, 0) ∧ hO dTk w w' ∧ zOK (zNum B n 400 0 11 S) b (fun e => gF w' 1 11 = e.1) (fun q => (0 ≤ gF w' 1 8 ∧ gF w' 1 8 ≤ 11) ∧ bC B n k q.2 w') := by
  obtain ⟨w', b, e, o, s, z⟩ := x_takeNumber (kn := kn) hw h.1 (tkG_n h.2.1) 0 11 ⟨by omega, by omega⟩ ⟨by omega, by omega⟩
  obtain ⟨rF, wF, hfF, hzF⟩ := f_tn_0_11 (kn := kn) hw h.2.2.1
  refine ⟨w', b, e, o, ?_⟩
  rcases hr : zNum B n 400 0 11 S with er | q
  · rw [hr, zOK_l] at z
    rw [zOK_l]
    exact ⟨z.1, z.2.1⟩
  · rw [hr, zOK_r] at z
    rw [zOK_r]
    obtain ⟨z1, z2, z3, z4⟩ := z
    obtain ⟨q1, q2, q3⟩ := zNum_r hr
    exact ⟨z1, ⟨by omega, by omega⟩, z4, by rw [q1]; exact tkG_nx h.2.1, fz e hfF hzF z1, (s.1 43 4 (by decide)).trans h.2.2.2⟩
theorem bC_num_0_2 {kn : sKn} {w : sW} {B : Nat → Int} {n : Nat} {k : Int} {S : tS} (hw : wOk ZZ w) (h : bC B n k S w) : ∃ (w' : sW) (b : Int), fX9_takeNumber kn [.ref 1, hI 0, hI 2] w = some (some (hI b), w', 0, 0) ∧ hO dTk w w' ∧ zOK (zNum B n 400 0 2 S) b (fun e => gF w' 1 11 = e.1) (fun q => (0 ≤ gF w' 1 8 ∧ gF w' 1 8 ≤ 2) ∧ bC B n k q.2 w') := by
  obtain ⟨w', b, e, o, s, z⟩ := x_takeNumber (kn := kn) hw h.1 (tkG_n h.2.1) 0 2 ⟨by omega, by omega⟩ ⟨by omega, by omega⟩
  obtain ⟨rF, wF, hfF, hzF⟩ := f_tn_0_2 (kn := kn) hw h.2.2.1
  refine ⟨w', b, e, o, ?_⟩
  rcases hr : zNum B n 400 0 2 S with er | q
  · rw [hr, zOK_l] at z
    rw [zOK_l]
    exact ⟨z.1, z.2.1⟩
  · rw [hr, zOK_r] at z
    rw [zOK_r]
    obtain ⟨z1, z2, z3, z4⟩ := z
    obtain ⟨q1, q2, q3⟩ := zNum_r hr
    exact ⟨z1, ⟨by omega, by omega⟩, z4, by rw [q1]; exact tkG_nx h.2.1, fz e hfF hzF z1, (s.1 43 4 (by decide)).trans h.2.2.2⟩
theorem bC_num_1_60 {kn : sKn} {w : sW} {B : Nat → Int} {n : Nat} {k : Int} {S : tS} (hw : wOk ZZ w) (h : bC B n k S w) : ∃ (w' : sW) (b : Int), fX9_takeNumber kn [.ref 1, hI 1, hI 60] w = some (some (hI b), w', 0, 0) ∧ hO dTk w w' ∧ zOK (zNum B n 400 1 60 S) b (fun e => gF w' 1 11 = e.1) (fun q => (1 ≤ gF w' 1 8 ∧ gF w' 1 8 ≤ 60) ∧ bC B n k q.2 w') := by
  obtain ⟨w', b, e, o, s, z⟩ := x_takeNumber (kn := kn) hw h.1 (tkG_n h.2.1) 1 60 ⟨by omega, by omega⟩ ⟨by omega, by omega⟩
  obtain ⟨rF, wF, hfF, hzF⟩ := f_tn_1_60 (kn := kn) hw h.2.2.1
  refine ⟨w', b, e, o, ?_⟩
  rcases hr : zNum B n 400 1 60 S with er | q
  · rw [hr, zOK_l] at z
    rw [zOK_l]
    exact ⟨z.1, z.2.1⟩
  · rw [hr, zOK_r] at z
    rw [zOK_r]
    obtain ⟨z1, z2, z3, z4⟩ := z
    obtain ⟨q1, q2, q3⟩ := zNum_r hr
    exact ⟨z1, ⟨by omega, by omega⟩, z4, by rw [q1]; exact tkG_nx h.2.1, fz e hfF hzF z1, (s.1 43 4 (by decide)).trans h.2.2.2⟩
theorem b_place7 {kn : sKn} {w : sW} {B : Nat → Int} {n k : Nat} {S : tS} (hw : wOk ZZ w) (hS : bC B n (k : Int) S w) (hk : k < 40) : ∃ (w' : sW) (b : Int), fX1_readPlace kn [.ref 43, .ref 1] w = some (some (hI b), w', 0, 0) ∧ hO dBk w w' ∧ bCO B n (k : Int) (zPlc B n 400 S) b w' := by
  have K : Tp (tX1_readPlace kn) (fun r => ∃ (w' : sW) (b : Int), r = (some (hI b), w', 0, 0) ∧ hO dBk w w' ∧ bCO B n (k : Int) (zPlc B n 400 S) b w') 0 (lv_args 0 [.ref 43, .ref 1], [], w, 0, 0) := by
    have l0 : hL (lv_args 0 [.ref 43, .ref 1]) (lv_args 0 [.ref 43, .ref 1]) := hL_ex rfl
    have o0 : hO dBk w w := hO_rf hw
    refine h_aload rfl l0 rfl ?_
    refine h_intv k_0 rfl ?_
    refine h_intv k_11 rfl ?_
    obtain ⟨wA, bA, hf41, oA', hzA⟩ := bC_num_0_11 (kn := kn) o0.1 hS
    have oA := hO_tr o0 (hO_mono dBk_t oA')
    rcases hrA : zNum B n 400 0 11 S with eA | qA
    · rw [hrA, zOK_l] at hzA
      obtain ⟨hbA, heA⟩ := hzA
      subst hbA
      refine h_V3 rfl o0 l0 ci_1 rfl rfl hf41 ?_
      refine j_ne (kn := kn) (t := 1) (tgt := 12) (np := 10) rfl (by unfold R32; omega) (fun e42 => ?_) (fun e42 => ?_)
      · omega
      · refine h_intv k_0 rfl ?_
        refine h_zret (by omega) rfl ?_
        refine ⟨_, _, rfl, oA, ?_⟩
        unfold bCO zPlc
        rw [hrA, zB_l, zOK_l]
        exact ⟨rfl, heA⟩
    · rw [hrA, zOK_r] at hzA
      obtain ⟨hbA, htA, hcA⟩ := hzA
      subst hbA
      have hkA := hcA.2.2.2
      refine h_V3 rfl o0 l0 ci_1 rfl rfl hf41 ?_
      refine j_ne (kn := kn) (t := 1) (tgt := 12) (np := 10) rfl (by unfold R32; omega) (fun e43 => ?_) (fun e43 => ?_)
      · refine h_aload rfl l0 rfl ?_
        refine h_getR rfl oA fr_43_2 ?_
        refine h_aload rfl l0 rfl ?_
        refine h_getI rfl oA fi_43_4 (fun b44a b44b => ?_)
        rw [hkA] at b44a b44b ⊢
        refine h_aload rfl l0 rfl ?_
        refine h_getI rfl oA fi_1_8 (fun b45a b45b => ?_)
        refine x_iast (k) rfl oA ai_46 rfl rfl aw_46 (by omega) (by omega) (by omega) (by omega) (by omega) (by omega) (by unfold R32; omega) (fun w46 o46 q47a q47X q47F q47J q47Y q47R => ?_)
        refine h_aload rfl l0 rfl ?_
        refine h_intv k_0 rfl ?_
        refine h_intv k_2 rfl ?_
        obtain ⟨wE, bE, hf48, oE', hzE⟩ := bC_num_0_2 (kn := kn) o46.1 (bC_sm (smW_tr (smW_rf eB4 _) (sm_pX (by decide) q47X q47F q47J q47Y q47R)) hcA)
        have oE := hO_tr o46 (hO_mono dBk_t oE')
        rcases hrE : zNum B n 400 0 2 qA.2 with eE | qE
        · rw [hrE, zOK_l] at hzE
          obtain ⟨hbE, heE⟩ := hzE
          subst hbE
          refine h_V3 rfl o46 l0 ci_1 rfl rfl hf48 ?_
          refine j_ne (kn := kn) (t := 1) (tgt := 36) (np := 34) rfl (by unfold R32; omega) (fun e49 => ?_) (fun e49 => ?_)
          · omega
          · refine h_intv k_0 rfl ?_
            refine h_zret (by omega) rfl ?_
            refine ⟨_, _, rfl, oE, ?_⟩
            unfold bCO zPlc
            rw [hrA, zB_r, hrE, zB_l, zOK_l]
            exact ⟨rfl, heE⟩
        · rw [hrE, zOK_r] at hzE
          obtain ⟨hbE, htE, hcE⟩ := hzE
          subst hbE
          have hkE := hcE.2.2.2
          refine h_V3 rfl o46 l0 ci_1 rfl rfl hf48 ?_
          refine j_ne (kn := kn) (t := 1) (tgt := 36) (np := 34) rfl (by unfold R32; omega) (fun e50 => ?_) (fun e50 => ?_)
          · refine h_aload rfl l0 rfl ?_
            refine h_getR rfl oE fr_43_3 ?_
            refine h_aload rfl l0 rfl ?_
            refine h_getI rfl oE fi_43_4 (fun b51a b51b => ?_)
            rw [hkE] at b51a b51b ⊢
            refine h_aload rfl l0 rfl ?_
            refine h_getI rfl oE fi_1_8 (fun b52a b52b => ?_)
            refine x_iast (k) rfl oE ai_47 rfl rfl aw_47 (by omega) (by omega) (by omega) (by omega) (by omega) (by omega) (by unfold R32; omega) (fun w53 o53 q54a q54X q54F q54J q54Y q54R => ?_)
            refine h_intv k_1 rfl ?_
            refine h_zret (by omega) rfl ?_
            refine ⟨_, _, rfl, o53, ?_⟩
            unfold bCO zPlc
            rw [hrA, zB_r, hrE, zB_r, zOK_r]
            exact ⟨rfl, (bC_sm (smW_tr (smW_rf eB4 _) (sm_pX (by decide) q54X q54F q54J q54Y q54R)) hcE)⟩
          · omega
      · omega
  obtain ⟨r, h1, w2, b2, h2, h3, h4⟩ := h_meth1 (nL := 2) rfl K
  rw [h2] at h1
  exact ⟨w2, b2, h1, h3, h4⟩
theorem b_days7 {kn : sKn} {w : sW} {B : Nat → Int} {n k : Nat} {S : tS} (hw : wOk ZZ w) (hS : bC B n (k : Int) S w) (hk : k < 40) : ∃ (w' : sW) (b : Int), fX1_readDays kn [.ref 43, .ref 1] w = some (some (hI b), w', 0, 0) ∧ hO dBk w w' ∧ bCO B n (k : Int) (zB (zNum B n 400 1 60 S) (fun q => .inr q.2)) b w' := by
  have K : Tp (tX1_readDays kn) (fun r => ∃ (w' : sW) (b : Int), r = (some (hI b), w', 0, 0) ∧ hO dBk w w' ∧ bCO B n (k : Int) (zB (zNum B n 400 1 60 S) (fun q => .inr q.2)) b w') 0 (lv_args 0 [.ref 43, .ref 1], [], w, 0, 0) := by
    have l0 : hL (lv_args 0 [.ref 43, .ref 1]) (lv_args 0 [.ref 43, .ref 1]) := hL_ex rfl
    have o0 : hO dBk w w := hO_rf hw
    refine h_aload rfl l0 rfl ?_
    refine h_intv k_1 rfl ?_
    refine h_intv k_60 rfl ?_
    obtain ⟨wA, bA, hf41, oA', hzA⟩ := bC_num_1_60 (kn := kn) o0.1 hS
    have oA := hO_tr o0 (hO_mono dBk_t oA')
    rcases hrA : zNum B n 400 1 60 S with eA | qA
    · rw [hrA, zOK_l] at hzA
      obtain ⟨hbA, heA⟩ := hzA
      subst hbA
      refine h_V3 rfl o0 l0 ci_1 rfl rfl hf41 ?_
      refine j_ne (kn := kn) (t := 1) (tgt := 12) (np := 10) rfl (by unfold R32; omega) (fun e42 => ?_) (fun e42 => ?_)
      · omega
      · refine h_intv k_0 rfl ?_
        refine h_zret (by omega) rfl ?_
        refine ⟨_, _, rfl, oA, ?_⟩
        unfold bCO
        rw [zB_l, zOK_l]
        exact ⟨rfl, heA⟩
    · rw [hrA, zOK_r] at hzA
      obtain ⟨hbA, htA, hcA⟩ := hzA
      subst hbA
      have hkA := hcA.2.2.2
      refine h_V3 rfl o0 l0 ci_1 rfl rfl hf41 ?_
      refine j_ne (kn := kn) (t := 1) (tgt := 12) (np := 10) rfl (by unfold R32; omega) (fun e43 => ?_) (fun e43 => ?_)
      · refine h_aload rfl l0 rfl ?_
        refine h_getR rfl oA fr_43_2 ?_
        refine h_aload rfl l0 rfl ?_
        refine h_getI rfl oA fi_43_4 (fun b44a b44b => ?_)
        rw [hkA] at b44a b44b ⊢
        refine h_aload rfl l0 rfl ?_
        refine h_getI rfl oA fi_1_8 (fun b45a b45b => ?_)
        refine x_iast (k) rfl oA ai_46 rfl rfl aw_46 (by omega) (by omega) (by omega) (by omega) (by omega) (by omega) (by unfold R32; omega) (fun w46 o46 q47a q47X q47F q47J q47Y q47R => ?_)
        refine h_intv k_1 rfl ?_
        refine h_zret (by omega) rfl ?_
        refine ⟨_, _, rfl, o46, ?_⟩
        unfold bCO
        rw [zB_r, zOK_r]
        exact ⟨rfl, (bC_sm (smW_tr (smW_rf eB4 _) (sm_pX (by decide) q47X q47F q47J q47Y q47R)) hcA)⟩
      · omega
  obtain ⟨r, h1, w2, b2, h2, h3, h4⟩ := h_meth1 (nL := 2) rfl K
  rw [h2] at h1
  exact ⟨w2, b2, h1, h3, h4⟩
theorem b_isSD {kn : sKn} {w : sW} (hw : wOk ZZ w) : ∃ b : Int, fX1_isSignersDeed kn [.ref 1] w = some (some (hI b), w, 0, 0) ∧ ((b = 1 ∧ gF w 1 4 = 4 ∧ (8 ≤ gF w 1 6 ∧ gF w 1 6 ≤ 11)) ∨ (b = 0 ∧ ¬ (gF w 1 4 = 4 ∧ (8 ≤ gF w 1 6 ∧ gF w 1 6 ≤ 11)))) := by
  have K : Tp (tX1_isSignersDeed kn) (fun r => ∃ b : Int, r = (some (hI b), w, 0, 0) ∧ ((b = 1 ∧ gF w 1 4 = 4 ∧ (8 ≤ gF w 1 6 ∧ gF w 1 6 ≤ 11)) ∨ (b = 0 ∧ ¬ (gF w 1 4 = 4 ∧ (8 ≤ gF w 1 6 ∧ gF w 1 6 ≤ 11))))) 0 (lv_args 0 [.ref 1], [], w, 0, 0) := by
    have l0 : hL (lv_args 0 [.ref 1]) (lv_args 0 [.ref 1]) := hL_ex rfl
    have o0 : hO [] w w := hO_rf hw
    refine h_aload rfl l0 rfl ?_
    refine h_intv k_8 rfl ?_
    obtain ⟨z41, hf41, hz41⟩ := x_isKey (kn := kn) o0.1 8 ⟨by omega, by omega⟩
    refine h_V2 rfl o0 l0 ci_1 rfl rfl hf41 ?_
    refine j_ne (kn := kn) (t := 1) (tgt := 36) (np := 9) rfl (by unfold R32; omega) (fun e42 => ?_) (fun e42 => ?_)
    · refine h_intv k_1 rfl ?_
      refine h_goto rfl ?_
      refine h_zret (by omega) rfl ?_
      exact ⟨_, rfl, by omega⟩
    · refine h_aload rfl l0 rfl ?_
      refine h_intv k_9 rfl ?_
      obtain ⟨z43, hf43, hz43⟩ := x_isKey (kn := kn) o0.1 9 ⟨by omega, by omega⟩
      refine h_V2 rfl o0 l0 ci_1 rfl rfl hf43 ?_
      refine j_ne (kn := kn) (t := 1) (tgt := 36) (np := 18) rfl (by unfold R32; omega) (fun e44 => ?_) (fun e44 => ?_)
      · refine h_intv k_1 rfl ?_
        refine h_goto rfl ?_
        refine h_zret (by omega) rfl ?_
        exact ⟨_, rfl, by omega⟩
      · refine h_aload rfl l0 rfl ?_
        refine h_intv k_10 rfl ?_
        obtain ⟨z45, hf45, hz45⟩ := x_isKey (kn := kn) o0.1 10 ⟨by omega, by omega⟩
        refine h_V2 rfl o0 l0 ci_1 rfl rfl hf45 ?_
        refine j_ne (kn := kn) (t := 1) (tgt := 36) (np := 27) rfl (by unfold R32; omega) (fun e46 => ?_) (fun e46 => ?_)
        · refine h_intv k_1 rfl ?_
          refine h_goto rfl ?_
          refine h_zret (by omega) rfl ?_
          exact ⟨_, rfl, by omega⟩
        · refine h_aload rfl l0 rfl ?_
          refine h_intv k_11 rfl ?_
          obtain ⟨z47, hf47, hz47⟩ := x_isKey (kn := kn) o0.1 11 ⟨by omega, by omega⟩
          refine h_V2 rfl o0 l0 ci_1 rfl rfl hf47 ?_
          refine j_eq (kn := kn) (t := 0) (tgt := 40) (np := 36) rfl (by unfold R32; omega) (fun e48 => ?_) (fun e48 => ?_)
          · refine h_intv k_0 rfl ?_
            refine h_zret (by omega) rfl ?_
            exact ⟨_, rfl, by omega⟩
          · refine h_intv k_1 rfl ?_
            refine h_goto rfl ?_
            refine h_zret (by omega) rfl ?_
            exact ⟨_, rfl, by omega⟩
  obtain ⟨r, h1, b, h2, h3⟩ := h_meth1 (nL := 1) rfl K
  rw [h2] at h1
  exact ⟨b, h1, h3⟩
theorem b_line7 {kn : sKn} {w : sW} {B : Nat → Int} {n k : Nat} {R N : Nat → Int} {S : tS} (hw : wOk ZZ w) (hS : bC B n (k : Int) S w) (hNs : nmC R N w) (hNl : nlC R N w) (hk : k ≤ 40) : ∃ (w' : sW) (b : Int), fX1_readLine kn [.ref 43, .ref 1, .ref 14] w = some (some (hI b), w', 0, 0) ∧ hO dBk w w' ∧ bCO B n (k : Int) (zBkl B n 400 R N (k : Int) S) b w' := by
  obtain ⟨hat, hnx, hkI, hkN⟩ := tkV_i hS.1.2
  have K : Tp (tX1_readLine kn) (fun r => ∃ (w' : sW) (b : Int), r = (some (hI b), w', 0, 0) ∧ hO dBk w w' ∧ bCO B n (k : Int) (zBkl B n 400 R N (k : Int) S) b w') 0 (lv_args 0 [.ref 43, .ref 1, .ref 14], [], w, 0, 0) := by
    have l0 : hL (lv_args 0 [.ref 43, .ref 1, .ref 14]) (lv_args 0 [.ref 43, .ref 1, .ref 14]) := hL_ex rfl
    have o0 : hO dBk w w := hO_rf hw
    refine h_aload rfl l0 rfl ?_
    refine h_getI rfl o0 fi_1_4 (fun b41a b41b => ?_)
    refine h_intv k_5 rfl ?_
    refine i_ne (kn := kn) (t := 1) (tgt := 12) (np := 8) rfl (by unfold R32; omega) (by unfold R32; omega) (fun e42 => ?_) (fun e42 => ?_)
    · refine h_intv k_0 rfl ?_
      refine h_istore rfl l0 (fun vl43 l43 => ?_)
      refine h_iload rfl l43 rfl ?_
      refine j_ne (kn := kn) (t := 1) (tgt := 42) (np := 18) rfl (by unfold R32; omega) (fun e44 => ?_) (fun e44 => ?_)
      · omega
      · refine h_aload rfl l43 rfl ?_
        refine h_intv k_12 rfl ?_
        obtain ⟨z45, hf45, hz45⟩ := x_isKey (kn := kn) o0.1 12 ⟨by omega, by omega⟩
        refine h_V2 rfl o0 l43 ci_1 rfl rfl hf45 ?_
        refine j_ne (kn := kn) (t := 1) (tgt := 42) (np := 27) rfl (by unfold R32; omega) (fun e46 => ?_) (fun e46 => ?_)
        · refine h_iload rfl l43 rfl ?_
          refine j_eq (kn := kn) (t := 0) (tgt := 57) (np := 46) rfl (by unfold R32; omega) (fun e47 => ?_) (fun e47 => ?_)
          · refine h_intv k_n1 rfl ?_
            refine h_istore rfl l43 (fun vl48 l48 => ?_)
            refine h_iload rfl l48 rfl ?_
            refine j_eq (kn := kn) (t := 0) (tgt := 75) (np := 64) rfl (by unfold R32; omega) (fun e49 => ?_) (fun e49 => ?_)
            · refine h_intv k_n1 rfl ?_
              refine h_istore rfl l48 (fun vl50 l50 => ?_)
              refine h_iload rfl l50 rfl ?_
              refine j_eq (kn := kn) (t := 0) (tgt := 100) (np := 82) rfl (by unfold R32; omega) (fun e51 => ?_) (fun e51 => ?_)
              · refine h_aload rfl l50 rfl ?_
                refine h_getI rfl o0 fi_43_4 (fun b52a b52b => ?_)
                rw [hS.2.2.2] at b52a b52b ⊢
                refine h_intv k_40 rfl ?_
                refine i_lt (kn := kn) (t := 2) (tgt := 115) (np := 109) rfl (by unfold R32; omega) (by unfold R32; omega) (fun e53 => ?_) (fun e53 => ?_)
                · refine h_iload rfl l50 rfl ?_
                  refine j_eq (kn := kn) (t := 0) (tgt := 145) (np := 119) rfl (by unfold R32; omega) (fun e54 => ?_) (fun e54 => ?_)
                  · refine h_iload rfl l50 rfl ?_
                    refine j_eq (kn := kn) (t := 0) (tgt := 180) (np := 149) rfl (by unfold R32; omega) (fun e55 => ?_) (fun e55 => ?_)
                    · refine h_aload rfl l50 rfl ?_
                      refine h_getR rfl o0 fr_43_0 ?_
                      refine h_aload rfl l50 rfl ?_
                      refine h_getI rfl o0 fi_43_4 (fun b56a b56b => ?_)
                      rw [hS.2.2.2] at b56a b56b ⊢
                      refine h_aload rfl l50 rfl ?_
                      refine h_getI rfl o0 fi_1_6 (fun b57a b57b => ?_)
                      refine x_iast (k) rfl o0 ai_44 rfl rfl aw_44 (by omega) (by omega) (by omega) (by omega) (by omega) (by omega) (by unfold R32; omega) (fun w58 o58 q59a q59X q59F q59J q59Y q59R => ?_)
                      refine h_aload rfl l50 rfl ?_
                      obtain ⟨wE, hf60, oE', sE, hE⟩ := bC_adv (kn := kn) o58.1 (bC_sm (smW_tr (smW_rf eB4 _) (sm_pX (by decide) q59X q59F q59J q59Y q59R)) hS)
                      have oE := hO_tr o58 (hO_mono dBk_k oE')
                      refine h_W1 rfl o58 l50 ci_1 rfl rfl hf60 ?_
                      refine h_aload rfl l50 rfl ?_
                      refine h_getR rfl oE fr_43_0 ?_
                      refine h_aload rfl l50 rfl ?_
                      refine h_getI rfl oE fi_43_4 (fun b61a b61b => ?_)
                      rw [hE.2.2.2] at b61a b61b ⊢
                      refine h_ialdj (k) rfl oE ai_44 rfl (by omega) (by omega) (fun b62a b62b => ?_)
                      rw [sE.2.2.1 44 k (by decide), q59a] at b62a b62b ⊢
                      by_cases e63_0 : (gF w 1 6) = 8
                      · refine h_look 8 e63_0 (by unfold R32; omega) rfl rfl ?_
                        refine h_aload rfl l50 rfl ?_
                        refine h_aload rfl l50 rfl ?_
                        obtain ⟨wG, bG, hf64, oG', hG⟩ := b_place7 (kn := kn) oE.1 hE (by omega)
                        have oG := hO_tr oE oG'
                        have hb01 := zOK_01 hG
                        refine h_V2 rfl oE l50 ci_43 rfl rfl hf64 ?_
                        refine h_zret (by omega) rfl ?_
                        refine ⟨_, _, rfl, oG, ?_⟩
                        rw [bkl_b (by omega) (by omega)]
                        exact hG
                      by_cases e63_1 : (gF w 1 6) = 12
                      · refine h_look 12 e63_1 (by unfold R32; omega) rfl rfl ?_
                        refine h_aload rfl l50 rfl ?_
                        refine h_aload rfl l50 rfl ?_
                        obtain ⟨wG, bG, hf65, oG', hG⟩ := b_place7 (kn := kn) oE.1 hE (by omega)
                        have oG := hO_tr oE oG'
                        have hb01 := zOK_01 hG
                        refine h_V2 rfl oE l50 ci_43 rfl rfl hf65 ?_
                        refine h_zret (by omega) rfl ?_
                        refine ⟨_, _, rfl, oG, ?_⟩
                        rw [bkl_b (by omega) (by omega)]
                        exact hG
                      by_cases e63_2 : (gF w 1 6) = 14
                      · refine h_look 14 e63_2 (by unfold R32; omega) rfl rfl ?_
                        refine h_aload rfl l50 rfl ?_
                        refine h_aload rfl l50 rfl ?_
                        obtain ⟨wG, bG, hf66, oG', hG⟩ := b_days7 (kn := kn) oE.1 hE (by omega)
                        have oG := hO_tr oE oG'
                        have hb01 := zOK_01 hG
                        refine h_V2 rfl oE l50 ci_43 rfl rfl hf66 ?_
                        refine h_zret (by omega) rfl ?_
                        refine ⟨_, _, rfl, oG, ?_⟩
                        rw [bkl_d (by omega) (by omega)]
                        exact hG
                      refine h_lookd rfl (by unfold R32; omega) (by simp only [List.mem_cons, List.not_mem_nil, or_false, forall_eq_or_imp, forall_eq]; omega) ?_
                      refine h_intv k_1 rfl ?_
                      refine h_zret (by omega) rfl ?_
                      refine ⟨_, _, rfl, oE, ?_⟩
                      unfold bCO
                      first
                        | (rw [bkl_s h5 (by omega) (by omega), sdo_o (by omega), zOK_r]; exact ⟨rfl, hE⟩)
                        | (rw [bkl_l h5 ⟨by omega, by omega⟩ (by omega), show zLdo B n 400 (nxT B n 400 S) = .inr (nxT B n 400 (nxT B n 400 S)) from if_pos (by omega), zOK_r]; exact ⟨rfl, hE⟩)
                        | (exfalso; omega)
                    · omega
                  · omega
                · refine h_aload rfl l50 rfl ?_
                  refine h_intv k_4 rfl ?_
                  obtain ⟨wR, hf67, oR', sR, fR1, fR2⟩ := x_refuse (kn := kn) o0.1 4 ⟨by omega, by omega⟩
                  have oR := hO_tr o0 (hO_mono dBk_t oR')
                  refine h_V2 rfl o0 l50 ci_1 rfl rfl hf67 ?_
                  refine h_zret (by omega) rfl ?_
                  refine ⟨_, _, rfl, oR, ?_⟩
                  unfold bCO
                  first
                    | (rw [bkl_n40 (by omega) (by omega) (by omega), zOK_l]; exact ⟨rfl, fR1⟩)
                    | (rw [bkl_w40 (by omega) (by omega), zOK_l]; exact ⟨rfl, fR1⟩)
              · omega
            · omega
          · omega
        · refine h_aload rfl l43 rfl ?_
          refine h_intv k_14 rfl ?_
          obtain ⟨z68, hf68, hz68⟩ := x_isKey (kn := kn) o0.1 14 ⟨by omega, by omega⟩
          refine h_V2 rfl o0 l43 ci_1 rfl rfl hf68 ?_
          refine j_ne (kn := kn) (t := 1) (tgt := 42) (np := 36) rfl (by unfold R32; omega) (fun e69 => ?_) (fun e69 => ?_)
          · refine h_iload rfl l43 rfl ?_
            refine j_eq (kn := kn) (t := 0) (tgt := 57) (np := 46) rfl (by unfold R32; omega) (fun e70 => ?_) (fun e70 => ?_)
            · refine h_intv k_n1 rfl ?_
              refine h_istore rfl l43 (fun vl71 l71 => ?_)
              refine h_iload rfl l71 rfl ?_
              refine j_eq (kn := kn) (t := 0) (tgt := 75) (np := 64) rfl (by unfold R32; omega) (fun e72 => ?_) (fun e72 => ?_)
              · refine h_intv k_n1 rfl ?_
                refine h_istore rfl l71 (fun vl73 l73 => ?_)
                refine h_iload rfl l73 rfl ?_
                refine j_eq (kn := kn) (t := 0) (tgt := 100) (np := 82) rfl (by unfold R32; omega) (fun e74 => ?_) (fun e74 => ?_)
                · refine h_aload rfl l73 rfl ?_
                  refine h_getI rfl o0 fi_43_4 (fun b75a b75b => ?_)
                  rw [hS.2.2.2] at b75a b75b ⊢
                  refine h_intv k_40 rfl ?_
                  refine i_lt (kn := kn) (t := 2) (tgt := 115) (np := 109) rfl (by unfold R32; omega) (by unfold R32; omega) (fun e76 => ?_) (fun e76 => ?_)
                  · refine h_iload rfl l73 rfl ?_
                    refine j_eq (kn := kn) (t := 0) (tgt := 145) (np := 119) rfl (by unfold R32; omega) (fun e77 => ?_) (fun e77 => ?_)
                    · refine h_iload rfl l73 rfl ?_
                      refine j_eq (kn := kn) (t := 0) (tgt := 180) (np := 149) rfl (by unfold R32; omega) (fun e78 => ?_) (fun e78 => ?_)
                      · refine h_aload rfl l73 rfl ?_
                        refine h_getR rfl o0 fr_43_0 ?_
                        refine h_aload rfl l73 rfl ?_
                        refine h_getI rfl o0 fi_43_4 (fun b79a b79b => ?_)
                        rw [hS.2.2.2] at b79a b79b ⊢
                        refine h_aload rfl l73 rfl ?_
                        refine h_getI rfl o0 fi_1_6 (fun b80a b80b => ?_)
                        refine x_iast (k) rfl o0 ai_44 rfl rfl aw_44 (by omega) (by omega) (by omega) (by omega) (by omega) (by omega) (by unfold R32; omega) (fun w81 o81 q82a q82X q82F q82J q82Y q82R => ?_)
                        refine h_aload rfl l73 rfl ?_
                        obtain ⟨wE, hf83, oE', sE, hE⟩ := bC_adv (kn := kn) o81.1 (bC_sm (smW_tr (smW_rf eB4 _) (sm_pX (by decide) q82X q82F q82J q82Y q82R)) hS)
                        have oE := hO_tr o81 (hO_mono dBk_k oE')
                        refine h_W1 rfl o81 l73 ci_1 rfl rfl hf83 ?_
                        refine h_aload rfl l73 rfl ?_
                        refine h_getR rfl oE fr_43_0 ?_
                        refine h_aload rfl l73 rfl ?_
                        refine h_getI rfl oE fi_43_4 (fun b84a b84b => ?_)
                        rw [hE.2.2.2] at b84a b84b ⊢
                        refine h_ialdj (k) rfl oE ai_44 rfl (by omega) (by omega) (fun b85a b85b => ?_)
                        rw [sE.2.2.1 44 k (by decide), q82a] at b85a b85b ⊢
                        by_cases e86_0 : (gF w 1 6) = 8
                        · refine h_look 8 e86_0 (by unfold R32; omega) rfl rfl ?_
                          refine h_aload rfl l73 rfl ?_
                          refine h_aload rfl l73 rfl ?_
                          obtain ⟨wG, bG, hf87, oG', hG⟩ := b_place7 (kn := kn) oE.1 hE (by omega)
                          have oG := hO_tr oE oG'
                          have hb01 := zOK_01 hG
                          refine h_V2 rfl oE l73 ci_43 rfl rfl hf87 ?_
                          refine h_zret (by omega) rfl ?_
                          refine ⟨_, _, rfl, oG, ?_⟩
                          rw [bkl_b (by omega) (by omega)]
                          exact hG
                        by_cases e86_1 : (gF w 1 6) = 12
                        · refine h_look 12 e86_1 (by unfold R32; omega) rfl rfl ?_
                          refine h_aload rfl l73 rfl ?_
                          refine h_aload rfl l73 rfl ?_
                          obtain ⟨wG, bG, hf88, oG', hG⟩ := b_place7 (kn := kn) oE.1 hE (by omega)
                          have oG := hO_tr oE oG'
                          have hb01 := zOK_01 hG
                          refine h_V2 rfl oE l73 ci_43 rfl rfl hf88 ?_
                          refine h_zret (by omega) rfl ?_
                          refine ⟨_, _, rfl, oG, ?_⟩
                          rw [bkl_b (by omega) (by omega)]
                          exact hG
                        by_cases e86_2 : (gF w 1 6) = 14
                        · refine h_look 14 e86_2 (by unfold R32; omega) rfl rfl ?_
                          refine h_aload rfl l73 rfl ?_
                          refine h_aload rfl l73 rfl ?_
                          obtain ⟨wG, bG, hf89, oG', hG⟩ := b_days7 (kn := kn) oE.1 hE (by omega)
                          have oG := hO_tr oE oG'
                          have hb01 := zOK_01 hG
                          refine h_V2 rfl oE l73 ci_43 rfl rfl hf89 ?_
                          refine h_zret (by omega) rfl ?_
                          refine ⟨_, _, rfl, oG, ?_⟩
                          rw [bkl_d (by omega) (by omega)]
                          exact hG
                        refine h_lookd rfl (by unfold R32; omega) (by simp only [List.mem_cons, List.not_mem_nil, or_false, forall_eq_or_imp, forall_eq]; omega) ?_
                        refine h_intv k_1 rfl ?_
                        refine h_zret (by omega) rfl ?_
                        refine ⟨_, _, rfl, oE, ?_⟩
                        unfold bCO
                        first
                          | (rw [bkl_s h5 (by omega) (by omega), sdo_o (by omega), zOK_r]; exact ⟨rfl, hE⟩)
                          | (rw [bkl_l h5 ⟨by omega, by omega⟩ (by omega), show zLdo B n 400 (nxT B n 400 S) = .inr (nxT B n 400 (nxT B n 400 S)) from if_pos (by omega), zOK_r]; exact ⟨rfl, hE⟩)
                          | (exfalso; omega)
                      · omega
                    · omega
                  · refine h_aload rfl l73 rfl ?_
                    refine h_intv k_4 rfl ?_
                    obtain ⟨wR, hf90, oR', sR, fR1, fR2⟩ := x_refuse (kn := kn) o0.1 4 ⟨by omega, by omega⟩
                    have oR := hO_tr o0 (hO_mono dBk_t oR')
                    refine h_V2 rfl o0 l73 ci_1 rfl rfl hf90 ?_
                    refine h_zret (by omega) rfl ?_
                    refine ⟨_, _, rfl, oR, ?_⟩
                    unfold bCO
                    first
                      | (rw [bkl_n40 (by omega) (by omega) (by omega), zOK_l]; exact ⟨rfl, fR1⟩)
                      | (rw [bkl_w40 (by omega) (by omega), zOK_l]; exact ⟨rfl, fR1⟩)
                · omega
              · omega
            · omega
          · refine h_aload rfl l43 rfl ?_
            refine h_intv k_1 rfl ?_
            obtain ⟨wR, hf91, oR', sR, fR1, fR2⟩ := x_refuse (kn := kn) o0.1 1 ⟨by omega, by omega⟩
            have oR := hO_tr o0 (hO_mono dBk_t oR')
            refine h_V2 rfl o0 l43 ci_1 rfl rfl hf91 ?_
            refine h_zret (by omega) rfl ?_
            refine ⟨_, _, rfl, oR, ?_⟩
            unfold bCO
            rw [bkl_bad (by omega) (by omega), zOK_l]
            exact ⟨rfl, fR1⟩
    · have h5 : S.1 = 5 := by omega
      have hnm := hkN h5
      refine h_intv k_1 rfl ?_
      refine h_goto rfl ?_
      refine h_istore rfl l0 (fun vl92 l92 => ?_)
      refine h_iload rfl l92 rfl ?_
      refine j_ne (kn := kn) (t := 1) (tgt := 42) (np := 18) rfl (by unfold R32; omega) (fun e93 => ?_) (fun e93 => ?_)
      · refine h_iload rfl l92 rfl ?_
        refine j_eq (kn := kn) (t := 0) (tgt := 57) (np := 46) rfl (by unfold R32; omega) (fun e94 => ?_) (fun e94 => ?_)
        · omega
        · refine h_aload rfl l92 rfl ?_
          refine h_aload rfl l92 rfl ?_
          refine h_getJv rfl o0 fj_1_7 ?_
          rw [hnm]
          obtain ⟨hf95, r1a, r1b⟩ := nmC_s (kn := kn) o0.1 hNs (tkG_X hS.2.1 h5)
          have y1 := fnd_b N 0 S.2.2.2.1 (R 1).toNat 0
          refine h_V2 rfl o0 l92 ci_14 rfl rfl hf95 ?_
          refine h_goto rfl ?_
          refine h_istore rfl l92 (fun vl96 l96 => ?_)
          refine h_iload rfl l96 rfl ?_
          refine j_eq (kn := kn) (t := 0) (tgt := 75) (np := 64) rfl (by unfold R32; omega) (fun e97 => ?_) (fun e97 => ?_)
          · omega
          · refine h_aload rfl l96 rfl ?_
            refine h_aload rfl l96 rfl ?_
            refine h_getJv rfl o0 fj_1_7 ?_
            rw [hnm]
            obtain ⟨hf98, r2a, r2b⟩ := nlC_s (kn := kn) o0.1 hNl (tkG_X hS.2.1 h5)
            have y2 := fnd_b N 10 S.2.2.2.1 (R 2).toNat 0
            refine h_V2 rfl o0 l96 ci_14 rfl rfl hf98 ?_
            refine h_goto rfl ?_
            refine h_istore rfl l96 (fun vl99 l99 => ?_)
            refine h_iload rfl l99 rfl ?_
            refine j_eq (kn := kn) (t := 0) (tgt := 100) (np := 82) rfl (by unfold R32; omega) (fun e100 => ?_) (fun e100 => ?_)
            · omega
            · refine h_iload rfl l99 rfl ?_
              refine h_intv k_n1 rfl ?_
              refine i_ne (kn := kn) (t := 1) (tgt := 100) (np := 88) rfl (by unfold R32; omega) (by unfold R32; omega) (fun e101 => ?_) (fun e101 => ?_)
              · refine h_aload rfl l99 rfl ?_
                refine h_getI rfl o0 fi_43_4 (fun b102a b102b => ?_)
                rw [hS.2.2.2] at b102a b102b ⊢
                refine h_intv k_40 rfl ?_
                refine i_lt (kn := kn) (t := 2) (tgt := 115) (np := 109) rfl (by unfold R32; omega) (by unfold R32; omega) (fun e103 => ?_) (fun e103 => ?_)
                · refine h_iload rfl l99 rfl ?_
                  refine j_eq (kn := kn) (t := 0) (tgt := 145) (np := 119) rfl (by unfold R32; omega) (fun e104 => ?_) (fun e104 => ?_)
                  · omega
                  · refine h_aload rfl l99 rfl ?_
                    obtain ⟨wA, hf105, oA', sA, hA⟩ := bC_adv (kn := kn) o0.1 hS
                    have oA := hO_tr o0 (hO_mono dBk_k oA')
                    obtain ⟨hatA, hnxA, hkA, hnA⟩ := tkV_i hA.1.2
                    refine h_W1 rfl o0 l99 ci_1 rfl rfl hf105 ?_
                    refine h_aload rfl l99 rfl ?_
                    refine h_getR rfl oA fr_43_1 ?_
                    refine h_aload rfl l99 rfl ?_
                    refine h_getI rfl oA fi_43_4 (fun b106a b106b => ?_)
                    rw [hA.2.2.2] at b106a b106b ⊢
                    refine h_iload rfl l99 rfl ?_
                    refine h_intv k_n1 rfl ?_
                    refine i_eq (kn := kn) (t := 0) (tgt := 142) (np := 137) rfl (by unfold R32; omega) (by unfold R32; omega) (fun e107 => ?_) (fun e107 => ?_)
                    · refine h_iload rfl l99 rfl ?_
                      refine x_iast (k) rfl oA ai_45 rfl rfl aw_45 (by omega) (by omega) (by omega) (by omega) (by omega) (by omega) (by unfold R32; omega) (fun w108 o108 q109a q109X q109F q109J q109Y q109R => ?_)
                      refine h_iload rfl l99 rfl ?_
                      refine j_eq (kn := kn) (t := 0) (tgt := 180) (np := 149) rfl (by unfold R32; omega) (fun e110 => ?_) (fun e110 => ?_)
                      · omega
                      · refine h_iload rfl l99 rfl ?_
                        refine h_intv k_n1 rfl ?_
                        refine i_eq (kn := kn) (t := 0) (tgt := 165) (np := 155) rfl (by unfold R32; omega) (by unfold R32; omega) (fun e111 => ?_) (fun e111 => ?_)
                        · refine h_aload rfl l99 rfl ?_
                          refine h_intv k_13 rfl ?_
                          obtain ⟨z112, hf112, hz112⟩ := x_isKey (kn := kn) o108.1 13 ⟨by omega, by omega⟩
                          rw [q109F 1 4, q109F 1 6] at hz112
                          refine h_V2 rfl o108 l99 ci_1 rfl rfl hf112 ?_
                          refine j_ne (kn := kn) (t := 1) (tgt := 180) (np := 174) rfl (by unfold R32; omega) (fun e113 => ?_) (fun e113 => ?_)
                          · refine h_aload rfl l99 rfl ?_
                            refine h_getR rfl o108 fr_43_0 ?_
                            refine h_aload rfl l99 rfl ?_
                            refine h_getI rfl o108 fi_43_4 (fun b114a b114b => ?_)
                            rw [q109F 43 4, hA.2.2.2] at b114a b114b ⊢
                            refine h_aload rfl l99 rfl ?_
                            refine h_getI rfl o108 fi_1_6 (fun b115a b115b => ?_)
                            rw [q109F 1 6] at b115a b115b ⊢
                            refine x_iast (k) rfl o108 ai_44 rfl rfl aw_44 (by omega) (by omega) (by omega) (by omega) (by omega) (by omega) (by unfold R32; omega) (fun w116 o116 q117a q117X q117F q117J q117Y q117R => ?_)
                            refine h_aload rfl l99 rfl ?_
                            obtain ⟨wE, hf118, oE', sE, hE⟩ := bC_adv (kn := kn) o116.1 (bC_sm (smW_tr (smW_tr (smW_rf eB4 _) (sm_pX (by decide) q109X q109F q109J q109Y q109R)) (sm_pX (by decide) q117X q117F q117J q117Y q117R)) hA)
                            have oE := hO_tr o116 (hO_mono dBk_k oE')
                            refine h_W1 rfl o116 l99 ci_1 rfl rfl hf118 ?_
                            refine h_aload rfl l99 rfl ?_
                            refine h_getR rfl oE fr_43_0 ?_
                            refine h_aload rfl l99 rfl ?_
                            refine h_getI rfl oE fi_43_4 (fun b119a b119b => ?_)
                            rw [hE.2.2.2] at b119a b119b ⊢
                            refine h_ialdj (k) rfl oE ai_44 rfl (by omega) (by omega) (fun b120a b120b => ?_)
                            rw [sE.2.2.1 44 k (by decide), q117a] at b120a b120b ⊢
                            by_cases e121_0 : (gF wA 1 6) = 8
                            · refine h_look 8 e121_0 (by unfold R32; omega) rfl rfl ?_
                              refine h_aload rfl l99 rfl ?_
                              refine h_aload rfl l99 rfl ?_
                              obtain ⟨wG, bG, hf122, oG', hG⟩ := b_place7 (kn := kn) oE.1 hE (by omega)
                              have oG := hO_tr oE oG'
                              have hb01 := zOK_01 hG
                              refine h_V2 rfl oE l99 ci_43 rfl rfl hf122 ?_
                              refine h_zret (by omega) rfl ?_
                              refine ⟨_, _, rfl, oG, ?_⟩
                              rw [bkl_s h5 (by omega) (by omega), sdo_p (by omega)]
                              exact hG
                            by_cases e121_1 : (gF wA 1 6) = 12
                            · refine h_look 12 e121_1 (by unfold R32; omega) rfl rfl ?_
                              refine h_aload rfl l99 rfl ?_
                              refine h_aload rfl l99 rfl ?_
                              obtain ⟨wG, bG, hf123, oG', hG⟩ := b_place7 (kn := kn) oE.1 hE (by omega)
                              have oG := hO_tr oE oG'
                              have hb01 := zOK_01 hG
                              refine h_V2 rfl oE l99 ci_43 rfl rfl hf123 ?_
                              refine h_zret (by omega) rfl ?_
                              refine ⟨_, _, rfl, oG, ?_⟩
                              rw [bkl_s h5 (by omega) (by omega), sdo_p (by omega)]
                              exact hG
                            by_cases e121_2 : (gF wA 1 6) = 14
                            · refine h_look 14 e121_2 (by unfold R32; omega) rfl rfl ?_
                              refine h_aload rfl l99 rfl ?_
                              refine h_aload rfl l99 rfl ?_
                              obtain ⟨wG, bG, hf124, oG', hG⟩ := b_days7 (kn := kn) oE.1 hE (by omega)
                              have oG := hO_tr oE oG'
                              have hb01 := zOK_01 hG
                              refine h_V2 rfl oE l99 ci_43 rfl rfl hf124 ?_
                              refine h_zret (by omega) rfl ?_
                              exfalso
                              omega
                            refine h_lookd rfl (by unfold R32; omega) (by simp only [List.mem_cons, List.not_mem_nil, or_false, forall_eq_or_imp, forall_eq]; omega) ?_
                            refine h_intv k_1 rfl ?_
                            refine h_zret (by omega) rfl ?_
                            refine ⟨_, _, rfl, oE, ?_⟩
                            unfold bCO
                            first
                              | (rw [bkl_s h5 (by omega) (by omega), sdo_o (by omega), zOK_r]; exact ⟨rfl, hE⟩)
                              | (rw [bkl_l h5 ⟨by omega, by omega⟩ (by omega), show zLdo B n 400 (nxT B n 400 S) = .inr (nxT B n 400 (nxT B n 400 S)) from if_pos (by omega), zOK_r]; exact ⟨rfl, hE⟩)
                              | (exfalso; omega)
                          · refine h_aload rfl l99 rfl ?_
                            refine h_intv k_1 rfl ?_
                            obtain ⟨wR, hf125, oR', sR, fR1, fR2⟩ := x_refuse (kn := kn) o108.1 1 ⟨by omega, by omega⟩
                            have oR := hO_tr o108 (hO_mono dBk_t oR')
                            refine h_V2 rfl o108 l99 ci_1 rfl rfl hf125 ?_
                            refine h_zret (by omega) rfl ?_
                            refine ⟨_, _, rfl, oR, ?_⟩
                            unfold bCO
                            first
                              | (rw [bkl_s h5 (by omega) (by omega), sdo_b (by omega), zOK_l]; exact ⟨rfl, fR1⟩)
                              | (rw [bkl_l h5 ⟨by omega, by omega⟩ (by omega), show zLdo B n 400 (nxT B n 400 S) = .inl (1, (nxT B n 400 S).2.1) from if_neg (by omega), zOK_l]; exact ⟨rfl, fR1⟩)
                        · refine h_aload rfl l99 rfl ?_
                          obtain ⟨z126, hf126, hz126⟩ := b_isSD (kn := kn) o108.1
                          rw [q109F 1 4, q109F 1 6] at hz126
                          refine h_S1 rfl o108 l99 rfl rfl hf126 ?_
                          refine j_eq (kn := kn) (t := 0) (tgt := 174) (np := 162) rfl (by unfold R32; omega) (fun e127 => ?_) (fun e127 => ?_)
                          · refine h_aload rfl l99 rfl ?_
                            refine h_intv k_1 rfl ?_
                            obtain ⟨wR, hf128, oR', sR, fR1, fR2⟩ := x_refuse (kn := kn) o108.1 1 ⟨by omega, by omega⟩
                            have oR := hO_tr o108 (hO_mono dBk_t oR')
                            refine h_V2 rfl o108 l99 ci_1 rfl rfl hf128 ?_
                            refine h_zret (by omega) rfl ?_
                            refine ⟨_, _, rfl, oR, ?_⟩
                            unfold bCO
                            first
                              | (rw [bkl_s h5 (by omega) (by omega), sdo_b (by omega), zOK_l]; exact ⟨rfl, fR1⟩)
                              | (rw [bkl_l h5 ⟨by omega, by omega⟩ (by omega), show zLdo B n 400 (nxT B n 400 S) = .inl (1, (nxT B n 400 S).2.1) from if_neg (by omega), zOK_l]; exact ⟨rfl, fR1⟩)
                          · refine h_goto rfl ?_
                            refine h_aload rfl l99 rfl ?_
                            refine h_getR rfl o108 fr_43_0 ?_
                            refine h_aload rfl l99 rfl ?_
                            refine h_getI rfl o108 fi_43_4 (fun b129a b129b => ?_)
                            rw [q109F 43 4, hA.2.2.2] at b129a b129b ⊢
                            refine h_aload rfl l99 rfl ?_
                            refine h_getI rfl o108 fi_1_6 (fun b130a b130b => ?_)
                            rw [q109F 1 6] at b130a b130b ⊢
                            refine x_iast (k) rfl o108 ai_44 rfl rfl aw_44 (by omega) (by omega) (by omega) (by omega) (by omega) (by omega) (by unfold R32; omega) (fun w131 o131 q132a q132X q132F q132J q132Y q132R => ?_)
                            refine h_aload rfl l99 rfl ?_
                            obtain ⟨wE, hf133, oE', sE, hE⟩ := bC_adv (kn := kn) o131.1 (bC_sm (smW_tr (smW_tr (smW_rf eB4 _) (sm_pX (by decide) q109X q109F q109J q109Y q109R)) (sm_pX (by decide) q132X q132F q132J q132Y q132R)) hA)
                            have oE := hO_tr o131 (hO_mono dBk_k oE')
                            refine h_W1 rfl o131 l99 ci_1 rfl rfl hf133 ?_
                            refine h_aload rfl l99 rfl ?_
                            refine h_getR rfl oE fr_43_0 ?_
                            refine h_aload rfl l99 rfl ?_
                            refine h_getI rfl oE fi_43_4 (fun b134a b134b => ?_)
                            rw [hE.2.2.2] at b134a b134b ⊢
                            refine h_ialdj (k) rfl oE ai_44 rfl (by omega) (by omega) (fun b135a b135b => ?_)
                            rw [sE.2.2.1 44 k (by decide), q132a] at b135a b135b ⊢
                            by_cases e136_0 : (gF wA 1 6) = 8
                            · refine h_look 8 e136_0 (by unfold R32; omega) rfl rfl ?_
                              refine h_aload rfl l99 rfl ?_
                              refine h_aload rfl l99 rfl ?_
                              obtain ⟨wG, bG, hf137, oG', hG⟩ := b_place7 (kn := kn) oE.1 hE (by omega)
                              have oG := hO_tr oE oG'
                              have hb01 := zOK_01 hG
                              refine h_V2 rfl oE l99 ci_43 rfl rfl hf137 ?_
                              refine h_zret (by omega) rfl ?_
                              refine ⟨_, _, rfl, oG, ?_⟩
                              rw [bkl_s h5 (by omega) (by omega), sdo_p (by omega)]
                              exact hG
                            by_cases e136_1 : (gF wA 1 6) = 12
                            · refine h_look 12 e136_1 (by unfold R32; omega) rfl rfl ?_
                              refine h_aload rfl l99 rfl ?_
                              refine h_aload rfl l99 rfl ?_
                              obtain ⟨wG, bG, hf138, oG', hG⟩ := b_place7 (kn := kn) oE.1 hE (by omega)
                              have oG := hO_tr oE oG'
                              have hb01 := zOK_01 hG
                              refine h_V2 rfl oE l99 ci_43 rfl rfl hf138 ?_
                              refine h_zret (by omega) rfl ?_
                              refine ⟨_, _, rfl, oG, ?_⟩
                              rw [bkl_s h5 (by omega) (by omega), sdo_p (by omega)]
                              exact hG
                            by_cases e136_2 : (gF wA 1 6) = 14
                            · refine h_look 14 e136_2 (by unfold R32; omega) rfl rfl ?_
                              refine h_aload rfl l99 rfl ?_
                              refine h_aload rfl l99 rfl ?_
                              obtain ⟨wG, bG, hf139, oG', hG⟩ := b_days7 (kn := kn) oE.1 hE (by omega)
                              have oG := hO_tr oE oG'
                              have hb01 := zOK_01 hG
                              refine h_V2 rfl oE l99 ci_43 rfl rfl hf139 ?_
                              refine h_zret (by omega) rfl ?_
                              exfalso
                              omega
                            refine h_lookd rfl (by unfold R32; omega) (by simp only [List.mem_cons, List.not_mem_nil, or_false, forall_eq_or_imp, forall_eq]; omega) ?_
                            refine h_intv k_1 rfl ?_
                            refine h_zret (by omega) rfl ?_
                            refine ⟨_, _, rfl, oE, ?_⟩
                            unfold bCO
                            first
                              | (rw [bkl_s h5 (by omega) (by omega), sdo_o (by omega), zOK_r]; exact ⟨rfl, hE⟩)
                              | (rw [bkl_l h5 ⟨by omega, by omega⟩ (by omega), show zLdo B n 400 (nxT B n 400 S) = .inr (nxT B n 400 (nxT B n 400 S)) from if_pos (by omega), zOK_r]; exact ⟨rfl, hE⟩)
                              | (exfalso; omega)
                    · refine h_iload rfl l99 rfl ?_
                      refine h_goto rfl ?_
                      refine x_iast (k) rfl oA ai_45 rfl rfl aw_45 (by omega) (by omega) (by omega) (by omega) (by omega) (by omega) (by unfold R32; omega) (fun w140 o140 q141a q141X q141F q141J q141Y q141R => ?_)
                      refine h_iload rfl l99 rfl ?_
                      refine j_eq (kn := kn) (t := 0) (tgt := 180) (np := 149) rfl (by unfold R32; omega) (fun e142 => ?_) (fun e142 => ?_)
                      · omega
                      · refine h_iload rfl l99 rfl ?_
                        refine h_intv k_n1 rfl ?_
                        refine i_eq (kn := kn) (t := 0) (tgt := 165) (np := 155) rfl (by unfold R32; omega) (by unfold R32; omega) (fun e143 => ?_) (fun e143 => ?_)
                        · refine h_aload rfl l99 rfl ?_
                          refine h_intv k_13 rfl ?_
                          obtain ⟨z144, hf144, hz144⟩ := x_isKey (kn := kn) o140.1 13 ⟨by omega, by omega⟩
                          rw [q141F 1 4, q141F 1 6] at hz144
                          refine h_V2 rfl o140 l99 ci_1 rfl rfl hf144 ?_
                          refine j_ne (kn := kn) (t := 1) (tgt := 180) (np := 174) rfl (by unfold R32; omega) (fun e145 => ?_) (fun e145 => ?_)
                          · refine h_aload rfl l99 rfl ?_
                            refine h_getR rfl o140 fr_43_0 ?_
                            refine h_aload rfl l99 rfl ?_
                            refine h_getI rfl o140 fi_43_4 (fun b146a b146b => ?_)
                            rw [q141F 43 4, hA.2.2.2] at b146a b146b ⊢
                            refine h_aload rfl l99 rfl ?_
                            refine h_getI rfl o140 fi_1_6 (fun b147a b147b => ?_)
                            rw [q141F 1 6] at b147a b147b ⊢
                            refine x_iast (k) rfl o140 ai_44 rfl rfl aw_44 (by omega) (by omega) (by omega) (by omega) (by omega) (by omega) (by unfold R32; omega) (fun w148 o148 q149a q149X q149F q149J q149Y q149R => ?_)
                            refine h_aload rfl l99 rfl ?_
                            obtain ⟨wE, hf150, oE', sE, hE⟩ := bC_adv (kn := kn) o148.1 (bC_sm (smW_tr (smW_tr (smW_rf eB4 _) (sm_pX (by decide) q141X q141F q141J q141Y q141R)) (sm_pX (by decide) q149X q149F q149J q149Y q149R)) hA)
                            have oE := hO_tr o148 (hO_mono dBk_k oE')
                            refine h_W1 rfl o148 l99 ci_1 rfl rfl hf150 ?_
                            refine h_aload rfl l99 rfl ?_
                            refine h_getR rfl oE fr_43_0 ?_
                            refine h_aload rfl l99 rfl ?_
                            refine h_getI rfl oE fi_43_4 (fun b151a b151b => ?_)
                            rw [hE.2.2.2] at b151a b151b ⊢
                            refine h_ialdj (k) rfl oE ai_44 rfl (by omega) (by omega) (fun b152a b152b => ?_)
                            rw [sE.2.2.1 44 k (by decide), q149a] at b152a b152b ⊢
                            by_cases e153_0 : (gF wA 1 6) = 8
                            · refine h_look 8 e153_0 (by unfold R32; omega) rfl rfl ?_
                              refine h_aload rfl l99 rfl ?_
                              refine h_aload rfl l99 rfl ?_
                              obtain ⟨wG, bG, hf154, oG', hG⟩ := b_place7 (kn := kn) oE.1 hE (by omega)
                              have oG := hO_tr oE oG'
                              have hb01 := zOK_01 hG
                              refine h_V2 rfl oE l99 ci_43 rfl rfl hf154 ?_
                              refine h_zret (by omega) rfl ?_
                              refine ⟨_, _, rfl, oG, ?_⟩
                              rw [bkl_s h5 (by omega) (by omega), sdo_p (by omega)]
                              exact hG
                            by_cases e153_1 : (gF wA 1 6) = 12
                            · refine h_look 12 e153_1 (by unfold R32; omega) rfl rfl ?_
                              refine h_aload rfl l99 rfl ?_
                              refine h_aload rfl l99 rfl ?_
                              obtain ⟨wG, bG, hf155, oG', hG⟩ := b_place7 (kn := kn) oE.1 hE (by omega)
                              have oG := hO_tr oE oG'
                              have hb01 := zOK_01 hG
                              refine h_V2 rfl oE l99 ci_43 rfl rfl hf155 ?_
                              refine h_zret (by omega) rfl ?_
                              refine ⟨_, _, rfl, oG, ?_⟩
                              rw [bkl_s h5 (by omega) (by omega), sdo_p (by omega)]
                              exact hG
                            by_cases e153_2 : (gF wA 1 6) = 14
                            · refine h_look 14 e153_2 (by unfold R32; omega) rfl rfl ?_
                              refine h_aload rfl l99 rfl ?_
                              refine h_aload rfl l99 rfl ?_
                              obtain ⟨wG, bG, hf156, oG', hG⟩ := b_days7 (kn := kn) oE.1 hE (by omega)
                              have oG := hO_tr oE oG'
                              have hb01 := zOK_01 hG
                              refine h_V2 rfl oE l99 ci_43 rfl rfl hf156 ?_
                              refine h_zret (by omega) rfl ?_
                              exfalso
                              omega
                            refine h_lookd rfl (by unfold R32; omega) (by simp only [List.mem_cons, List.not_mem_nil, or_false, forall_eq_or_imp, forall_eq]; omega) ?_
                            refine h_intv k_1 rfl ?_
                            refine h_zret (by omega) rfl ?_
                            refine ⟨_, _, rfl, oE, ?_⟩
                            unfold bCO
                            first
                              | (rw [bkl_s h5 (by omega) (by omega), sdo_o (by omega), zOK_r]; exact ⟨rfl, hE⟩)
                              | (rw [bkl_l h5 ⟨by omega, by omega⟩ (by omega), show zLdo B n 400 (nxT B n 400 S) = .inr (nxT B n 400 (nxT B n 400 S)) from if_pos (by omega), zOK_r]; exact ⟨rfl, hE⟩)
                              | (exfalso; omega)
                          · refine h_aload rfl l99 rfl ?_
                            refine h_intv k_1 rfl ?_
                            obtain ⟨wR, hf157, oR', sR, fR1, fR2⟩ := x_refuse (kn := kn) o140.1 1 ⟨by omega, by omega⟩
                            have oR := hO_tr o140 (hO_mono dBk_t oR')
                            refine h_V2 rfl o140 l99 ci_1 rfl rfl hf157 ?_
                            refine h_zret (by omega) rfl ?_
                            refine ⟨_, _, rfl, oR, ?_⟩
                            unfold bCO
                            first
                              | (rw [bkl_s h5 (by omega) (by omega), sdo_b (by omega), zOK_l]; exact ⟨rfl, fR1⟩)
                              | (rw [bkl_l h5 ⟨by omega, by omega⟩ (by omega), show zLdo B n 400 (nxT B n 400 S) = .inl (1, (nxT B n 400 S).2.1) from if_neg (by omega), zOK_l]; exact ⟨rfl, fR1⟩)
                        · refine h_aload rfl l99 rfl ?_
                          obtain ⟨z158, hf158, hz158⟩ := b_isSD (kn := kn) o140.1
                          rw [q141F 1 4, q141F 1 6] at hz158
                          refine h_S1 rfl o140 l99 rfl rfl hf158 ?_
                          refine j_eq (kn := kn) (t := 0) (tgt := 174) (np := 162) rfl (by unfold R32; omega) (fun e159 => ?_) (fun e159 => ?_)
                          · refine h_aload rfl l99 rfl ?_
                            refine h_intv k_1 rfl ?_
                            obtain ⟨wR, hf160, oR', sR, fR1, fR2⟩ := x_refuse (kn := kn) o140.1 1 ⟨by omega, by omega⟩
                            have oR := hO_tr o140 (hO_mono dBk_t oR')
                            refine h_V2 rfl o140 l99 ci_1 rfl rfl hf160 ?_
                            refine h_zret (by omega) rfl ?_
                            refine ⟨_, _, rfl, oR, ?_⟩
                            unfold bCO
                            first
                              | (rw [bkl_s h5 (by omega) (by omega), sdo_b (by omega), zOK_l]; exact ⟨rfl, fR1⟩)
                              | (rw [bkl_l h5 ⟨by omega, by omega⟩ (by omega), show zLdo B n 400 (nxT B n 400 S) = .inl (1, (nxT B n 400 S).2.1) from if_neg (by omega), zOK_l]; exact ⟨rfl, fR1⟩)
                          · refine h_goto rfl ?_
                            refine h_aload rfl l99 rfl ?_
                            refine h_getR rfl o140 fr_43_0 ?_
                            refine h_aload rfl l99 rfl ?_
                            refine h_getI rfl o140 fi_43_4 (fun b161a b161b => ?_)
                            rw [q141F 43 4, hA.2.2.2] at b161a b161b ⊢
                            refine h_aload rfl l99 rfl ?_
                            refine h_getI rfl o140 fi_1_6 (fun b162a b162b => ?_)
                            rw [q141F 1 6] at b162a b162b ⊢
                            refine x_iast (k) rfl o140 ai_44 rfl rfl aw_44 (by omega) (by omega) (by omega) (by omega) (by omega) (by omega) (by unfold R32; omega) (fun w163 o163 q164a q164X q164F q164J q164Y q164R => ?_)
                            refine h_aload rfl l99 rfl ?_
                            obtain ⟨wE, hf165, oE', sE, hE⟩ := bC_adv (kn := kn) o163.1 (bC_sm (smW_tr (smW_tr (smW_rf eB4 _) (sm_pX (by decide) q141X q141F q141J q141Y q141R)) (sm_pX (by decide) q164X q164F q164J q164Y q164R)) hA)
                            have oE := hO_tr o163 (hO_mono dBk_k oE')
                            refine h_W1 rfl o163 l99 ci_1 rfl rfl hf165 ?_
                            refine h_aload rfl l99 rfl ?_
                            refine h_getR rfl oE fr_43_0 ?_
                            refine h_aload rfl l99 rfl ?_
                            refine h_getI rfl oE fi_43_4 (fun b166a b166b => ?_)
                            rw [hE.2.2.2] at b166a b166b ⊢
                            refine h_ialdj (k) rfl oE ai_44 rfl (by omega) (by omega) (fun b167a b167b => ?_)
                            rw [sE.2.2.1 44 k (by decide), q164a] at b167a b167b ⊢
                            by_cases e168_0 : (gF wA 1 6) = 8
                            · refine h_look 8 e168_0 (by unfold R32; omega) rfl rfl ?_
                              refine h_aload rfl l99 rfl ?_
                              refine h_aload rfl l99 rfl ?_
                              obtain ⟨wG, bG, hf169, oG', hG⟩ := b_place7 (kn := kn) oE.1 hE (by omega)
                              have oG := hO_tr oE oG'
                              have hb01 := zOK_01 hG
                              refine h_V2 rfl oE l99 ci_43 rfl rfl hf169 ?_
                              refine h_zret (by omega) rfl ?_
                              refine ⟨_, _, rfl, oG, ?_⟩
                              rw [bkl_s h5 (by omega) (by omega), sdo_p (by omega)]
                              exact hG
                            by_cases e168_1 : (gF wA 1 6) = 12
                            · refine h_look 12 e168_1 (by unfold R32; omega) rfl rfl ?_
                              refine h_aload rfl l99 rfl ?_
                              refine h_aload rfl l99 rfl ?_
                              obtain ⟨wG, bG, hf170, oG', hG⟩ := b_place7 (kn := kn) oE.1 hE (by omega)
                              have oG := hO_tr oE oG'
                              have hb01 := zOK_01 hG
                              refine h_V2 rfl oE l99 ci_43 rfl rfl hf170 ?_
                              refine h_zret (by omega) rfl ?_
                              refine ⟨_, _, rfl, oG, ?_⟩
                              rw [bkl_s h5 (by omega) (by omega), sdo_p (by omega)]
                              exact hG
                            by_cases e168_2 : (gF wA 1 6) = 14
                            · refine h_look 14 e168_2 (by unfold R32; omega) rfl rfl ?_
                              refine h_aload rfl l99 rfl ?_
                              refine h_aload rfl l99 rfl ?_
                              obtain ⟨wG, bG, hf171, oG', hG⟩ := b_days7 (kn := kn) oE.1 hE (by omega)
                              have oG := hO_tr oE oG'
                              have hb01 := zOK_01 hG
                              refine h_V2 rfl oE l99 ci_43 rfl rfl hf171 ?_
                              refine h_zret (by omega) rfl ?_
                              exfalso
                              omega
                            refine h_lookd rfl (by unfold R32; omega) (by simp only [List.mem_cons, List.not_mem_nil, or_false, forall_eq_or_imp, forall_eq]; omega) ?_
                            refine h_intv k_1 rfl ?_
                            refine h_zret (by omega) rfl ?_
                            refine ⟨_, _, rfl, oE, ?_⟩
                            unfold bCO
                            first
                              | (rw [bkl_s h5 (by omega) (by omega), sdo_o (by omega), zOK_r]; exact ⟨rfl, hE⟩)
                              | (rw [bkl_l h5 ⟨by omega, by omega⟩ (by omega), show zLdo B n 400 (nxT B n 400 S) = .inr (nxT B n 400 (nxT B n 400 S)) from if_pos (by omega), zOK_r]; exact ⟨rfl, hE⟩)
                              | (exfalso; omega)
                · refine h_aload rfl l99 rfl ?_
                  refine h_intv k_4 rfl ?_
                  obtain ⟨wR, hf172, oR', sR, fR1, fR2⟩ := x_refuse (kn := kn) o0.1 4 ⟨by omega, by omega⟩
                  have oR := hO_tr o0 (hO_mono dBk_t oR')
                  refine h_V2 rfl o0 l99 ci_1 rfl rfl hf172 ?_
                  refine h_zret (by omega) rfl ?_
                  refine ⟨_, _, rfl, oR, ?_⟩
                  unfold bCO
                  first
                    | (rw [bkl_n40 (by omega) (by omega) (by omega), zOK_l]; exact ⟨rfl, fR1⟩)
                    | (rw [bkl_w40 (by omega) (by omega), zOK_l]; exact ⟨rfl, fR1⟩)
              · refine h_iload rfl l99 rfl ?_
                refine h_intv k_n1 rfl ?_
                refine i_ne (kn := kn) (t := 1) (tgt := 100) (np := 94) rfl (by unfold R32; omega) (by unfold R32; omega) (fun e173 => ?_) (fun e173 => ?_)
                · refine h_aload rfl l99 rfl ?_
                  refine h_getI rfl o0 fi_43_4 (fun b174a b174b => ?_)
                  rw [hS.2.2.2] at b174a b174b ⊢
                  refine h_intv k_40 rfl ?_
                  refine i_lt (kn := kn) (t := 2) (tgt := 115) (np := 109) rfl (by unfold R32; omega) (by unfold R32; omega) (fun e175 => ?_) (fun e175 => ?_)
                  · refine h_iload rfl l99 rfl ?_
                    refine j_eq (kn := kn) (t := 0) (tgt := 145) (np := 119) rfl (by unfold R32; omega) (fun e176 => ?_) (fun e176 => ?_)
                    · omega
                    · refine h_aload rfl l99 rfl ?_
                      obtain ⟨wA, hf177, oA', sA, hA⟩ := bC_adv (kn := kn) o0.1 hS
                      have oA := hO_tr o0 (hO_mono dBk_k oA')
                      obtain ⟨hatA, hnxA, hkA, hnA⟩ := tkV_i hA.1.2
                      refine h_W1 rfl o0 l99 ci_1 rfl rfl hf177 ?_
                      refine h_aload rfl l99 rfl ?_
                      refine h_getR rfl oA fr_43_1 ?_
                      refine h_aload rfl l99 rfl ?_
                      refine h_getI rfl oA fi_43_4 (fun b178a b178b => ?_)
                      rw [hA.2.2.2] at b178a b178b ⊢
                      refine h_iload rfl l99 rfl ?_
                      refine h_intv k_n1 rfl ?_
                      refine i_eq (kn := kn) (t := 0) (tgt := 142) (np := 137) rfl (by unfold R32; omega) (by unfold R32; omega) (fun e179 => ?_) (fun e179 => ?_)
                      · refine h_iload rfl l99 rfl ?_
                        refine x_iast (k) rfl oA ai_45 rfl rfl aw_45 (by omega) (by omega) (by omega) (by omega) (by omega) (by omega) (by unfold R32; omega) (fun w180 o180 q181a q181X q181F q181J q181Y q181R => ?_)
                        refine h_iload rfl l99 rfl ?_
                        refine j_eq (kn := kn) (t := 0) (tgt := 180) (np := 149) rfl (by unfold R32; omega) (fun e182 => ?_) (fun e182 => ?_)
                        · omega
                        · refine h_iload rfl l99 rfl ?_
                          refine h_intv k_n1 rfl ?_
                          refine i_eq (kn := kn) (t := 0) (tgt := 165) (np := 155) rfl (by unfold R32; omega) (by unfold R32; omega) (fun e183 => ?_) (fun e183 => ?_)
                          · refine h_aload rfl l99 rfl ?_
                            refine h_intv k_13 rfl ?_
                            obtain ⟨z184, hf184, hz184⟩ := x_isKey (kn := kn) o180.1 13 ⟨by omega, by omega⟩
                            rw [q181F 1 4, q181F 1 6] at hz184
                            refine h_V2 rfl o180 l99 ci_1 rfl rfl hf184 ?_
                            refine j_ne (kn := kn) (t := 1) (tgt := 180) (np := 174) rfl (by unfold R32; omega) (fun e185 => ?_) (fun e185 => ?_)
                            · refine h_aload rfl l99 rfl ?_
                              refine h_getR rfl o180 fr_43_0 ?_
                              refine h_aload rfl l99 rfl ?_
                              refine h_getI rfl o180 fi_43_4 (fun b186a b186b => ?_)
                              rw [q181F 43 4, hA.2.2.2] at b186a b186b ⊢
                              refine h_aload rfl l99 rfl ?_
                              refine h_getI rfl o180 fi_1_6 (fun b187a b187b => ?_)
                              rw [q181F 1 6] at b187a b187b ⊢
                              refine x_iast (k) rfl o180 ai_44 rfl rfl aw_44 (by omega) (by omega) (by omega) (by omega) (by omega) (by omega) (by unfold R32; omega) (fun w188 o188 q189a q189X q189F q189J q189Y q189R => ?_)
                              refine h_aload rfl l99 rfl ?_
                              obtain ⟨wE, hf190, oE', sE, hE⟩ := bC_adv (kn := kn) o188.1 (bC_sm (smW_tr (smW_tr (smW_rf eB4 _) (sm_pX (by decide) q181X q181F q181J q181Y q181R)) (sm_pX (by decide) q189X q189F q189J q189Y q189R)) hA)
                              have oE := hO_tr o188 (hO_mono dBk_k oE')
                              refine h_W1 rfl o188 l99 ci_1 rfl rfl hf190 ?_
                              refine h_aload rfl l99 rfl ?_
                              refine h_getR rfl oE fr_43_0 ?_
                              refine h_aload rfl l99 rfl ?_
                              refine h_getI rfl oE fi_43_4 (fun b191a b191b => ?_)
                              rw [hE.2.2.2] at b191a b191b ⊢
                              refine h_ialdj (k) rfl oE ai_44 rfl (by omega) (by omega) (fun b192a b192b => ?_)
                              rw [sE.2.2.1 44 k (by decide), q189a] at b192a b192b ⊢
                              by_cases e193_0 : (gF wA 1 6) = 8
                              · refine h_look 8 e193_0 (by unfold R32; omega) rfl rfl ?_
                                refine h_aload rfl l99 rfl ?_
                                refine h_aload rfl l99 rfl ?_
                                obtain ⟨wG, bG, hf194, oG', hG⟩ := b_place7 (kn := kn) oE.1 hE (by omega)
                                have oG := hO_tr oE oG'
                                have hb01 := zOK_01 hG
                                refine h_V2 rfl oE l99 ci_43 rfl rfl hf194 ?_
                                refine h_zret (by omega) rfl ?_
                                refine ⟨_, _, rfl, oG, ?_⟩
                                rw [bkl_s h5 (by omega) (by omega), sdo_p (by omega)]
                                exact hG
                              by_cases e193_1 : (gF wA 1 6) = 12
                              · refine h_look 12 e193_1 (by unfold R32; omega) rfl rfl ?_
                                refine h_aload rfl l99 rfl ?_
                                refine h_aload rfl l99 rfl ?_
                                obtain ⟨wG, bG, hf195, oG', hG⟩ := b_place7 (kn := kn) oE.1 hE (by omega)
                                have oG := hO_tr oE oG'
                                have hb01 := zOK_01 hG
                                refine h_V2 rfl oE l99 ci_43 rfl rfl hf195 ?_
                                refine h_zret (by omega) rfl ?_
                                refine ⟨_, _, rfl, oG, ?_⟩
                                rw [bkl_s h5 (by omega) (by omega), sdo_p (by omega)]
                                exact hG
                              by_cases e193_2 : (gF wA 1 6) = 14
                              · refine h_look 14 e193_2 (by unfold R32; omega) rfl rfl ?_
                                refine h_aload rfl l99 rfl ?_
                                refine h_aload rfl l99 rfl ?_
                                obtain ⟨wG, bG, hf196, oG', hG⟩ := b_days7 (kn := kn) oE.1 hE (by omega)
                                have oG := hO_tr oE oG'
                                have hb01 := zOK_01 hG
                                refine h_V2 rfl oE l99 ci_43 rfl rfl hf196 ?_
                                refine h_zret (by omega) rfl ?_
                                exfalso
                                omega
                              refine h_lookd rfl (by unfold R32; omega) (by simp only [List.mem_cons, List.not_mem_nil, or_false, forall_eq_or_imp, forall_eq]; omega) ?_
                              refine h_intv k_1 rfl ?_
                              refine h_zret (by omega) rfl ?_
                              refine ⟨_, _, rfl, oE, ?_⟩
                              unfold bCO
                              first
                                | (rw [bkl_s h5 (by omega) (by omega), sdo_o (by omega), zOK_r]; exact ⟨rfl, hE⟩)
                                | (rw [bkl_l h5 ⟨by omega, by omega⟩ (by omega), show zLdo B n 400 (nxT B n 400 S) = .inr (nxT B n 400 (nxT B n 400 S)) from if_pos (by omega), zOK_r]; exact ⟨rfl, hE⟩)
                                | (exfalso; omega)
                            · refine h_aload rfl l99 rfl ?_
                              refine h_intv k_1 rfl ?_
                              obtain ⟨wR, hf197, oR', sR, fR1, fR2⟩ := x_refuse (kn := kn) o180.1 1 ⟨by omega, by omega⟩
                              have oR := hO_tr o180 (hO_mono dBk_t oR')
                              refine h_V2 rfl o180 l99 ci_1 rfl rfl hf197 ?_
                              refine h_zret (by omega) rfl ?_
                              refine ⟨_, _, rfl, oR, ?_⟩
                              unfold bCO
                              first
                                | (rw [bkl_s h5 (by omega) (by omega), sdo_b (by omega), zOK_l]; exact ⟨rfl, fR1⟩)
                                | (rw [bkl_l h5 ⟨by omega, by omega⟩ (by omega), show zLdo B n 400 (nxT B n 400 S) = .inl (1, (nxT B n 400 S).2.1) from if_neg (by omega), zOK_l]; exact ⟨rfl, fR1⟩)
                          · refine h_aload rfl l99 rfl ?_
                            obtain ⟨z198, hf198, hz198⟩ := b_isSD (kn := kn) o180.1
                            rw [q181F 1 4, q181F 1 6] at hz198
                            refine h_S1 rfl o180 l99 rfl rfl hf198 ?_
                            refine j_eq (kn := kn) (t := 0) (tgt := 174) (np := 162) rfl (by unfold R32; omega) (fun e199 => ?_) (fun e199 => ?_)
                            · refine h_aload rfl l99 rfl ?_
                              refine h_intv k_1 rfl ?_
                              obtain ⟨wR, hf200, oR', sR, fR1, fR2⟩ := x_refuse (kn := kn) o180.1 1 ⟨by omega, by omega⟩
                              have oR := hO_tr o180 (hO_mono dBk_t oR')
                              refine h_V2 rfl o180 l99 ci_1 rfl rfl hf200 ?_
                              refine h_zret (by omega) rfl ?_
                              refine ⟨_, _, rfl, oR, ?_⟩
                              unfold bCO
                              first
                                | (rw [bkl_s h5 (by omega) (by omega), sdo_b (by omega), zOK_l]; exact ⟨rfl, fR1⟩)
                                | (rw [bkl_l h5 ⟨by omega, by omega⟩ (by omega), show zLdo B n 400 (nxT B n 400 S) = .inl (1, (nxT B n 400 S).2.1) from if_neg (by omega), zOK_l]; exact ⟨rfl, fR1⟩)
                            · refine h_goto rfl ?_
                              refine h_aload rfl l99 rfl ?_
                              refine h_getR rfl o180 fr_43_0 ?_
                              refine h_aload rfl l99 rfl ?_
                              refine h_getI rfl o180 fi_43_4 (fun b201a b201b => ?_)
                              rw [q181F 43 4, hA.2.2.2] at b201a b201b ⊢
                              refine h_aload rfl l99 rfl ?_
                              refine h_getI rfl o180 fi_1_6 (fun b202a b202b => ?_)
                              rw [q181F 1 6] at b202a b202b ⊢
                              refine x_iast (k) rfl o180 ai_44 rfl rfl aw_44 (by omega) (by omega) (by omega) (by omega) (by omega) (by omega) (by unfold R32; omega) (fun w203 o203 q204a q204X q204F q204J q204Y q204R => ?_)
                              refine h_aload rfl l99 rfl ?_
                              obtain ⟨wE, hf205, oE', sE, hE⟩ := bC_adv (kn := kn) o203.1 (bC_sm (smW_tr (smW_tr (smW_rf eB4 _) (sm_pX (by decide) q181X q181F q181J q181Y q181R)) (sm_pX (by decide) q204X q204F q204J q204Y q204R)) hA)
                              have oE := hO_tr o203 (hO_mono dBk_k oE')
                              refine h_W1 rfl o203 l99 ci_1 rfl rfl hf205 ?_
                              refine h_aload rfl l99 rfl ?_
                              refine h_getR rfl oE fr_43_0 ?_
                              refine h_aload rfl l99 rfl ?_
                              refine h_getI rfl oE fi_43_4 (fun b206a b206b => ?_)
                              rw [hE.2.2.2] at b206a b206b ⊢
                              refine h_ialdj (k) rfl oE ai_44 rfl (by omega) (by omega) (fun b207a b207b => ?_)
                              rw [sE.2.2.1 44 k (by decide), q204a] at b207a b207b ⊢
                              by_cases e208_0 : (gF wA 1 6) = 8
                              · refine h_look 8 e208_0 (by unfold R32; omega) rfl rfl ?_
                                refine h_aload rfl l99 rfl ?_
                                refine h_aload rfl l99 rfl ?_
                                obtain ⟨wG, bG, hf209, oG', hG⟩ := b_place7 (kn := kn) oE.1 hE (by omega)
                                have oG := hO_tr oE oG'
                                have hb01 := zOK_01 hG
                                refine h_V2 rfl oE l99 ci_43 rfl rfl hf209 ?_
                                refine h_zret (by omega) rfl ?_
                                refine ⟨_, _, rfl, oG, ?_⟩
                                rw [bkl_s h5 (by omega) (by omega), sdo_p (by omega)]
                                exact hG
                              by_cases e208_1 : (gF wA 1 6) = 12
                              · refine h_look 12 e208_1 (by unfold R32; omega) rfl rfl ?_
                                refine h_aload rfl l99 rfl ?_
                                refine h_aload rfl l99 rfl ?_
                                obtain ⟨wG, bG, hf210, oG', hG⟩ := b_place7 (kn := kn) oE.1 hE (by omega)
                                have oG := hO_tr oE oG'
                                have hb01 := zOK_01 hG
                                refine h_V2 rfl oE l99 ci_43 rfl rfl hf210 ?_
                                refine h_zret (by omega) rfl ?_
                                refine ⟨_, _, rfl, oG, ?_⟩
                                rw [bkl_s h5 (by omega) (by omega), sdo_p (by omega)]
                                exact hG
                              by_cases e208_2 : (gF wA 1 6) = 14
                              · refine h_look 14 e208_2 (by unfold R32; omega) rfl rfl ?_
                                refine h_aload rfl l99 rfl ?_
                                refine h_aload rfl l99 rfl ?_
                                obtain ⟨wG, bG, hf211, oG', hG⟩ := b_days7 (kn := kn) oE.1 hE (by omega)
                                have oG := hO_tr oE oG'
                                have hb01 := zOK_01 hG
                                refine h_V2 rfl oE l99 ci_43 rfl rfl hf211 ?_
                                refine h_zret (by omega) rfl ?_
                                exfalso
                                omega
                              refine h_lookd rfl (by unfold R32; omega) (by simp only [List.mem_cons, List.not_mem_nil, or_false, forall_eq_or_imp, forall_eq]; omega) ?_
                              refine h_intv k_1 rfl ?_
                              refine h_zret (by omega) rfl ?_
                              refine ⟨_, _, rfl, oE, ?_⟩
                              unfold bCO
                              first
                                | (rw [bkl_s h5 (by omega) (by omega), sdo_o (by omega), zOK_r]; exact ⟨rfl, hE⟩)
                                | (rw [bkl_l h5 ⟨by omega, by omega⟩ (by omega), show zLdo B n 400 (nxT B n 400 S) = .inr (nxT B n 400 (nxT B n 400 S)) from if_pos (by omega), zOK_r]; exact ⟨rfl, hE⟩)
                                | (exfalso; omega)
                      · refine h_iload rfl l99 rfl ?_
                        refine h_goto rfl ?_
                        refine x_iast (k) rfl oA ai_45 rfl rfl aw_45 (by omega) (by omega) (by omega) (by omega) (by omega) (by omega) (by unfold R32; omega) (fun w212 o212 q213a q213X q213F q213J q213Y q213R => ?_)
                        refine h_iload rfl l99 rfl ?_
                        refine j_eq (kn := kn) (t := 0) (tgt := 180) (np := 149) rfl (by unfold R32; omega) (fun e214 => ?_) (fun e214 => ?_)
                        · omega
                        · refine h_iload rfl l99 rfl ?_
                          refine h_intv k_n1 rfl ?_
                          refine i_eq (kn := kn) (t := 0) (tgt := 165) (np := 155) rfl (by unfold R32; omega) (by unfold R32; omega) (fun e215 => ?_) (fun e215 => ?_)
                          · refine h_aload rfl l99 rfl ?_
                            refine h_intv k_13 rfl ?_
                            obtain ⟨z216, hf216, hz216⟩ := x_isKey (kn := kn) o212.1 13 ⟨by omega, by omega⟩
                            rw [q213F 1 4, q213F 1 6] at hz216
                            refine h_V2 rfl o212 l99 ci_1 rfl rfl hf216 ?_
                            refine j_ne (kn := kn) (t := 1) (tgt := 180) (np := 174) rfl (by unfold R32; omega) (fun e217 => ?_) (fun e217 => ?_)
                            · refine h_aload rfl l99 rfl ?_
                              refine h_getR rfl o212 fr_43_0 ?_
                              refine h_aload rfl l99 rfl ?_
                              refine h_getI rfl o212 fi_43_4 (fun b218a b218b => ?_)
                              rw [q213F 43 4, hA.2.2.2] at b218a b218b ⊢
                              refine h_aload rfl l99 rfl ?_
                              refine h_getI rfl o212 fi_1_6 (fun b219a b219b => ?_)
                              rw [q213F 1 6] at b219a b219b ⊢
                              refine x_iast (k) rfl o212 ai_44 rfl rfl aw_44 (by omega) (by omega) (by omega) (by omega) (by omega) (by omega) (by unfold R32; omega) (fun w220 o220 q221a q221X q221F q221J q221Y q221R => ?_)
                              refine h_aload rfl l99 rfl ?_
                              obtain ⟨wE, hf222, oE', sE, hE⟩ := bC_adv (kn := kn) o220.1 (bC_sm (smW_tr (smW_tr (smW_rf eB4 _) (sm_pX (by decide) q213X q213F q213J q213Y q213R)) (sm_pX (by decide) q221X q221F q221J q221Y q221R)) hA)
                              have oE := hO_tr o220 (hO_mono dBk_k oE')
                              refine h_W1 rfl o220 l99 ci_1 rfl rfl hf222 ?_
                              refine h_aload rfl l99 rfl ?_
                              refine h_getR rfl oE fr_43_0 ?_
                              refine h_aload rfl l99 rfl ?_
                              refine h_getI rfl oE fi_43_4 (fun b223a b223b => ?_)
                              rw [hE.2.2.2] at b223a b223b ⊢
                              refine h_ialdj (k) rfl oE ai_44 rfl (by omega) (by omega) (fun b224a b224b => ?_)
                              rw [sE.2.2.1 44 k (by decide), q221a] at b224a b224b ⊢
                              by_cases e225_0 : (gF wA 1 6) = 8
                              · refine h_look 8 e225_0 (by unfold R32; omega) rfl rfl ?_
                                refine h_aload rfl l99 rfl ?_
                                refine h_aload rfl l99 rfl ?_
                                obtain ⟨wG, bG, hf226, oG', hG⟩ := b_place7 (kn := kn) oE.1 hE (by omega)
                                have oG := hO_tr oE oG'
                                have hb01 := zOK_01 hG
                                refine h_V2 rfl oE l99 ci_43 rfl rfl hf226 ?_
                                refine h_zret (by omega) rfl ?_
                                refine ⟨_, _, rfl, oG, ?_⟩
                                rw [bkl_s h5 (by omega) (by omega), sdo_p (by omega)]
                                exact hG
                              by_cases e225_1 : (gF wA 1 6) = 12
                              · refine h_look 12 e225_1 (by unfold R32; omega) rfl rfl ?_
                                refine h_aload rfl l99 rfl ?_
                                refine h_aload rfl l99 rfl ?_
                                obtain ⟨wG, bG, hf227, oG', hG⟩ := b_place7 (kn := kn) oE.1 hE (by omega)
                                have oG := hO_tr oE oG'
                                have hb01 := zOK_01 hG
                                refine h_V2 rfl oE l99 ci_43 rfl rfl hf227 ?_
                                refine h_zret (by omega) rfl ?_
                                refine ⟨_, _, rfl, oG, ?_⟩
                                rw [bkl_s h5 (by omega) (by omega), sdo_p (by omega)]
                                exact hG
                              by_cases e225_2 : (gF wA 1 6) = 14
                              · refine h_look 14 e225_2 (by unfold R32; omega) rfl rfl ?_
                                refine h_aload rfl l99 rfl ?_
                                refine h_aload rfl l99 rfl ?_
                                obtain ⟨wG, bG, hf228, oG', hG⟩ := b_days7 (kn := kn) oE.1 hE (by omega)
                                have oG := hO_tr oE oG'
                                have hb01 := zOK_01 hG
                                refine h_V2 rfl oE l99 ci_43 rfl rfl hf228 ?_
                                refine h_zret (by omega) rfl ?_
                                exfalso
                                omega
                              refine h_lookd rfl (by unfold R32; omega) (by simp only [List.mem_cons, List.not_mem_nil, or_false, forall_eq_or_imp, forall_eq]; omega) ?_
                              refine h_intv k_1 rfl ?_
                              refine h_zret (by omega) rfl ?_
                              refine ⟨_, _, rfl, oE, ?_⟩
                              unfold bCO
                              first
                                | (rw [bkl_s h5 (by omega) (by omega), sdo_o (by omega), zOK_r]; exact ⟨rfl, hE⟩)
                                | (rw [bkl_l h5 ⟨by omega, by omega⟩ (by omega), show zLdo B n 400 (nxT B n 400 S) = .inr (nxT B n 400 (nxT B n 400 S)) from if_pos (by omega), zOK_r]; exact ⟨rfl, hE⟩)
                                | (exfalso; omega)
                            · refine h_aload rfl l99 rfl ?_
                              refine h_intv k_1 rfl ?_
                              obtain ⟨wR, hf229, oR', sR, fR1, fR2⟩ := x_refuse (kn := kn) o212.1 1 ⟨by omega, by omega⟩
                              have oR := hO_tr o212 (hO_mono dBk_t oR')
                              refine h_V2 rfl o212 l99 ci_1 rfl rfl hf229 ?_
                              refine h_zret (by omega) rfl ?_
                              refine ⟨_, _, rfl, oR, ?_⟩
                              unfold bCO
                              first
                                | (rw [bkl_s h5 (by omega) (by omega), sdo_b (by omega), zOK_l]; exact ⟨rfl, fR1⟩)
                                | (rw [bkl_l h5 ⟨by omega, by omega⟩ (by omega), show zLdo B n 400 (nxT B n 400 S) = .inl (1, (nxT B n 400 S).2.1) from if_neg (by omega), zOK_l]; exact ⟨rfl, fR1⟩)
                          · refine h_aload rfl l99 rfl ?_
                            obtain ⟨z230, hf230, hz230⟩ := b_isSD (kn := kn) o212.1
                            rw [q213F 1 4, q213F 1 6] at hz230
                            refine h_S1 rfl o212 l99 rfl rfl hf230 ?_
                            refine j_eq (kn := kn) (t := 0) (tgt := 174) (np := 162) rfl (by unfold R32; omega) (fun e231 => ?_) (fun e231 => ?_)
                            · refine h_aload rfl l99 rfl ?_
                              refine h_intv k_1 rfl ?_
                              obtain ⟨wR, hf232, oR', sR, fR1, fR2⟩ := x_refuse (kn := kn) o212.1 1 ⟨by omega, by omega⟩
                              have oR := hO_tr o212 (hO_mono dBk_t oR')
                              refine h_V2 rfl o212 l99 ci_1 rfl rfl hf232 ?_
                              refine h_zret (by omega) rfl ?_
                              refine ⟨_, _, rfl, oR, ?_⟩
                              unfold bCO
                              first
                                | (rw [bkl_s h5 (by omega) (by omega), sdo_b (by omega), zOK_l]; exact ⟨rfl, fR1⟩)
                                | (rw [bkl_l h5 ⟨by omega, by omega⟩ (by omega), show zLdo B n 400 (nxT B n 400 S) = .inl (1, (nxT B n 400 S).2.1) from if_neg (by omega), zOK_l]; exact ⟨rfl, fR1⟩)
                            · refine h_goto rfl ?_
                              refine h_aload rfl l99 rfl ?_
                              refine h_getR rfl o212 fr_43_0 ?_
                              refine h_aload rfl l99 rfl ?_
                              refine h_getI rfl o212 fi_43_4 (fun b233a b233b => ?_)
                              rw [q213F 43 4, hA.2.2.2] at b233a b233b ⊢
                              refine h_aload rfl l99 rfl ?_
                              refine h_getI rfl o212 fi_1_6 (fun b234a b234b => ?_)
                              rw [q213F 1 6] at b234a b234b ⊢
                              refine x_iast (k) rfl o212 ai_44 rfl rfl aw_44 (by omega) (by omega) (by omega) (by omega) (by omega) (by omega) (by unfold R32; omega) (fun w235 o235 q236a q236X q236F q236J q236Y q236R => ?_)
                              refine h_aload rfl l99 rfl ?_
                              obtain ⟨wE, hf237, oE', sE, hE⟩ := bC_adv (kn := kn) o235.1 (bC_sm (smW_tr (smW_tr (smW_rf eB4 _) (sm_pX (by decide) q213X q213F q213J q213Y q213R)) (sm_pX (by decide) q236X q236F q236J q236Y q236R)) hA)
                              have oE := hO_tr o235 (hO_mono dBk_k oE')
                              refine h_W1 rfl o235 l99 ci_1 rfl rfl hf237 ?_
                              refine h_aload rfl l99 rfl ?_
                              refine h_getR rfl oE fr_43_0 ?_
                              refine h_aload rfl l99 rfl ?_
                              refine h_getI rfl oE fi_43_4 (fun b238a b238b => ?_)
                              rw [hE.2.2.2] at b238a b238b ⊢
                              refine h_ialdj (k) rfl oE ai_44 rfl (by omega) (by omega) (fun b239a b239b => ?_)
                              rw [sE.2.2.1 44 k (by decide), q236a] at b239a b239b ⊢
                              by_cases e240_0 : (gF wA 1 6) = 8
                              · refine h_look 8 e240_0 (by unfold R32; omega) rfl rfl ?_
                                refine h_aload rfl l99 rfl ?_
                                refine h_aload rfl l99 rfl ?_
                                obtain ⟨wG, bG, hf241, oG', hG⟩ := b_place7 (kn := kn) oE.1 hE (by omega)
                                have oG := hO_tr oE oG'
                                have hb01 := zOK_01 hG
                                refine h_V2 rfl oE l99 ci_43 rfl rfl hf241 ?_
                                refine h_zret (by omega) rfl ?_
                                refine ⟨_, _, rfl, oG, ?_⟩
                                rw [bkl_s h5 (by omega) (by omega), sdo_p (by omega)]
                                exact hG
                              by_cases e240_1 : (gF wA 1 6) = 12
                              · refine h_look 12 e240_1 (by unfold R32; omega) rfl rfl ?_
                                refine h_aload rfl l99 rfl ?_
                                refine h_aload rfl l99 rfl ?_
                                obtain ⟨wG, bG, hf242, oG', hG⟩ := b_place7 (kn := kn) oE.1 hE (by omega)
                                have oG := hO_tr oE oG'
                                have hb01 := zOK_01 hG
                                refine h_V2 rfl oE l99 ci_43 rfl rfl hf242 ?_
                                refine h_zret (by omega) rfl ?_
                                refine ⟨_, _, rfl, oG, ?_⟩
                                rw [bkl_s h5 (by omega) (by omega), sdo_p (by omega)]
                                exact hG
                              by_cases e240_2 : (gF wA 1 6) = 14
                              · refine h_look 14 e240_2 (by unfold R32; omega) rfl rfl ?_
                                refine h_aload rfl l99 rfl ?_
                                refine h_aload rfl l99 rfl ?_
                                obtain ⟨wG, bG, hf243, oG', hG⟩ := b_days7 (kn := kn) oE.1 hE (by omega)
                                have oG := hO_tr oE oG'
                                have hb01 := zOK_01 hG
                                refine h_V2 rfl oE l99 ci_43 rfl rfl hf243 ?_
                                refine h_zret (by omega) rfl ?_
                                exfalso
                                omega
                              refine h_lookd rfl (by unfold R32; omega) (by simp only [List.mem_cons, List.not_mem_nil, or_false, forall_eq_or_imp, forall_eq]; omega) ?_
                              refine h_intv k_1 rfl ?_
                              refine h_zret (by omega) rfl ?_
                              refine ⟨_, _, rfl, oE, ?_⟩
                              unfold bCO
                              first
                                | (rw [bkl_s h5 (by omega) (by omega), sdo_o (by omega), zOK_r]; exact ⟨rfl, hE⟩)
                                | (rw [bkl_l h5 ⟨by omega, by omega⟩ (by omega), show zLdo B n 400 (nxT B n 400 S) = .inr (nxT B n 400 (nxT B n 400 S)) from if_pos (by omega), zOK_r]; exact ⟨rfl, hE⟩)
                                | (exfalso; omega)
                  · refine h_aload rfl l99 rfl ?_
                    refine h_intv k_4 rfl ?_
                    obtain ⟨wR, hf244, oR', sR, fR1, fR2⟩ := x_refuse (kn := kn) o0.1 4 ⟨by omega, by omega⟩
                    have oR := hO_tr o0 (hO_mono dBk_t oR')
                    refine h_V2 rfl o0 l99 ci_1 rfl rfl hf244 ?_
                    refine h_zret (by omega) rfl ?_
                    refine ⟨_, _, rfl, oR, ?_⟩
                    unfold bCO
                    first
                      | (rw [bkl_n40 (by omega) (by omega) (by omega), zOK_l]; exact ⟨rfl, fR1⟩)
                      | (rw [bkl_w40 (by omega) (by omega), zOK_l]; exact ⟨rfl, fR1⟩)
                · refine h_aload rfl l99 rfl ?_
                  refine h_intv k_3 rfl ?_
                  obtain ⟨wR, hf245, oR', sR, fR1, fR2⟩ := x_refuse (kn := kn) o0.1 3 ⟨by omega, by omega⟩
                  have oR := hO_tr o0 (hO_mono dBk_t oR')
                  refine h_V2 rfl o0 l99 ci_1 rfl rfl hf245 ?_
                  refine h_zret (by omega) rfl ?_
                  refine ⟨_, _, rfl, oR, ?_⟩
                  unfold bCO
                  rw [bkl_nn (by omega) (by omega), zOK_l]
                  exact ⟨rfl, fR1⟩
      · omega
  obtain ⟨r, h1, w2, b2, h2, h3, h4⟩ := h_meth1 (nL := 6) rfl K
  rw [h2] at h1
  exact ⟨w2, b2, h1, h3, h4⟩
theorem f_tend {kn : sKn} {w w1 : sW} {b : Int} (hw : wOk ZZ w) (hF : gF w 1 11 = 0) (e : fX9_takeEnd kn [.ref 1] w = some (some (hI b), w1, 0, 0)) (hb : b = 1) : gF w1 1 11 = 0 := by
  have K : Tp (tX9_takeEnd kn) (fun r => ∃ (w' : sW) (z : Int), r = (some (hI z), w', 0, 0) ∧ ((z = 0 ∨ z = 1) ∧ (z = 1 → gF w' 1 11 = 0))) 0 (lv_args 0 [.ref 1], [], w, 0, 0) := by
    have l0 : hL (lv_args 0 [.ref 1]) (lv_args 0 [.ref 1]) := hL_ex rfl
    have o0 : hO dTk w w := hO_rf hw
    refine h_aload rfl l0 rfl ?_
    refine h_getI rfl o0 fi_1_4 (fun b41a b41b => ?_)
    refine j_ne (kn := kn) (t := 1) (tgt := 18) (np := 7) rfl (by unfold R32; omega) (fun e42 => ?_) (fun e42 => ?_)
    · refine h_aload rfl l0 rfl ?_
      refine h_intv k_1 rfl ?_
      obtain ⟨wR, hf43, oR', sR, fR1, fR2⟩ := x_refuse (kn := kn) o0.1 1 ⟨by omega, by omega⟩
      refine h_V2 rfl o0 l0 ci_1 rfl rfl hf43 ?_
      refine h_zret (by omega) rfl ?_
      exact ⟨_, _, rfl, Or.inl rfl, fun z => by omega⟩
    · refine h_aload rfl l0 rfl ?_
      refine h_getI rfl o0 fi_1_1 (fun b44a b44b => ?_)
      refine h_aload rfl l0 rfl ?_
      refine h_getI rfl o0 fi_1_2 (fun b45a b45b => ?_)
      refine i_le (kn := kn) (t := 5) (tgt := 24) (np := 18) rfl (by unfold R32; omega) (by unfold R32; omega) (fun e46 => ?_) (fun e46 => ?_)
      · refine h_intv k_1 rfl ?_
        refine h_zret (by omega) rfl ?_
        exact ⟨_, _, rfl, Or.inr rfl, fun _ => hF⟩
      · refine h_aload rfl l0 rfl ?_
        refine h_intv k_1 rfl ?_
        obtain ⟨wR, hf47, oR', sR, fR1, fR2⟩ := x_refuse (kn := kn) o0.1 1 ⟨by omega, by omega⟩
        refine h_V2 rfl o0 l0 ci_1 rfl rfl hf47 ?_
        refine h_zret (by omega) rfl ?_
        exact ⟨_, _, rfl, Or.inl rfl, fun z => by omega⟩
  obtain ⟨r, h1, w2, z, h2, h3⟩ := h_meth1 (nL := 1) rfl K
  rw [h2] at h1
  refine fz e h1 ?_ hb
  rcases h3.1 with hz | hz
  · exact Or.inl (by rw [hz])
  · exact Or.inr (h3.2 hz)
theorem x_begin400 {kn : sKn} {w0 : sW} {B : Nat → Int} {n : Nat} (hw : wOk ZZ w0) (hB : ∀ i, i < n → gX w0 2 i = B i) (hn1 : gF w0 1 1 = (n : Int)) (hn940 : n ≤ 940) : ∃ w', fX9_begin kn [.ref 1, hI 400] w0 = some (none, w', 0, 0) ∧ hO dTk w0 w' ∧ smW eBg w0 w' ∧ gF w' 1 11 = 0 ∧ tkC B n 400 (lexT B n 400 0) w' := by
  have K : Tp (tX9_begin kn) (fun r => ∃ w', r = (none, w', 0, 0) ∧ hO dTk w0 w' ∧ smW eBg w0 w' ∧ gF w' 1 11 = 0 ∧ tkC B n 400 (lexT B n 400 0) w') 0 (lv_args 0 [.ref 1, hI 400], [], w0, 0, 0) := by
    have l0 : hL (lv_args 0 [.ref 1, hI 400]) (lv_args 0 [.ref 1, hI 400]) := hL_ex rfl
    have o0 : hO dTk w0 w0 := hO_rf hw
    have sm := smW_rf eBg w0
    refine h_aload rfl l0 rfl ?_
    refine h_iload rfl l0 rfl ?_
    refine x_putI rfl o0 fi_1_2 rfl (by omega) (by omega) (fun w41 o41 q42a q42F q42X q42J q42Y q42R => ?_)
    refine h_aload rfl l0 rfl ?_
    refine h_intv k_0 rfl ?_
    refine x_putI rfl o41 fi_1_3 rfl (by omega) (by omega) (fun w43 o43 q44a q44F q44X q44J q44Y q44R => ?_)
    refine h_aload rfl l0 rfl ?_
    refine h_intv k_0 rfl ?_
    refine x_putI rfl o43 fi_1_11 rfl (by omega) (by omega) (fun w45 o45 q46a q46F q46X q46J q46Y q46R => ?_)
    refine h_aload rfl l0 rfl ?_
    have txb : txC B n 400 w45 := ⟨fun i hi => by rw [q46X 2 i, q44X 2 i, q42X 2 i, hB i hi], by rw [q46F 1 1 (by decide), q44F 1 1 (by decide), q42F 1 1 (by decide), hn1], by rw [q46F 1 2 (by decide), q44F 1 2 (by decide), q42a] <;> rfl, by omega, by omega⟩
    obtain ⟨wA47, hf47, oA47', sA47, tA47⟩ := x_advance (kn := kn) txb o45.1 (p := 0) (by omega) (by rw [q46F 1 3 (by decide), q44a] <;> rfl)
    have oA47 := hO_tr o45 (hO_mono dTk_t oA47')
    refine h_W1 rfl o45 l0 ci_1 rfl rfl hf47 ?_
    refine h_vret rfl ?_
    exact ⟨_, rfl, oA47, smW_tr (smW_tr (smW_tr (smW_tr sm (sm_pI (by decide) q42F q42X q42J q42Y q42R)) (sm_pI (by decide) q44F q44X q44J q44Y q44R)) (sm_pI (by decide) q46F q46X q46J q46Y q46R)) (smW_mono (by decide) sA47), by rw [sA47.1 1 11 (by decide), q46a], tA47⟩
  obtain ⟨r, h1, w2, h2, h3⟩ := h_meth1 (nL := 2) rfl K
  rw [h2] at h1
  exact ⟨w2, h1, h3⟩
def zBook (B : Nat → Int) (n : Nat) (R N : Nat → Int) : zE ⊕ Int := zBk B n 400 R N 42 (lexT B n 400 0) 0
theorem bk_s {B : Nat → Int} {n L : Nat} {R N : Nat → Int} {f : Nat} {S : tS} {k : Int} (h : S.1 ≠ 0) : zBk B n L R N (f + 1) S k = zB (zBkl B n L R N k S) (fun T => zB (zEnd B n L T) (fun U => zBk B n L R N f U (k + 1))) := if_neg h
theorem bk_0 {B : Nat → Int} {n L : Nat} {R N : Nat → Int} {f : Nat} {S : tS} {k : Int} (h : S.1 = 0) : zBk B n L R N (f + 1) S k = .inr k := if_pos h
theorem bkl_40 {B : Nat → Int} {n L : Nat} {R N : Nat → Int} {S T : tS} : zBkl B n L R N 40 S ≠ .inr T := by
  unfold zBkl
  intro h
  split at h
  · split at h
    · cases h
    · rw [if_pos rfl] at h
      cases h
  · split at h
    · rw [if_pos rfl] at h
      cases h
    · cases h
def dBr9 : List (Nat × Nat) := dBk ++ [(28, 4)]
theorem dBr9_k : msub dBk dBr9 = true := by decide +kernel
theorem dBr9_t : msub dTk dBr9 = true := by decide +kernel
def bDn (Z : zE ⊕ Int) (b : Int) (w' : sW) : Prop := (b = 0 ∧ ∃ e, Z = .inl e ∧ gF w' 1 11 = e.1) ∨ (b = 1 ∧ (∃ m, Z = .inr m) ∧ gF w' 1 11 = 0)
theorem b_read_l {kn : sKn} {w0 : sW} {B : Nat → Int} {n : Nat} {R N : Nat → Int} {Z : zE ⊕ Int} (hw0 : wOk ZZ w0) (hN0 : nmC R N w0) (hL0 : nlC R N w0) : ∀ (f k : Nat) (S : tS) (w : sW) (lv : List (Nat × Value)), k + f = 42 → k ≤ 40 → zBk B n 400 R N f S (k : Int) = Z → hO dBr9 w0 w → bC B n (k : Int) S w → hL lv [(0, .ref 43), (1, .ref 1), (2, .ref 14)] → Tp (tX1_read kn) (fun r => ∃ (w' : sW) (b : Int), r = (some (hI b), w', 0, 0) ∧ bDn Z b w') 12 (lv, [], w, 0, 0) := by
  intro f
  induction f with
  | zero =>
    intro k S w lv hkf hk
    omega
  | succ f ih =>
    intro k S w lv hkf hk hZ oW hS l0
    have o0 : hO dBr9 w w := hO_rf oW.1
    have hN := nmC_hO hw0 oW (by decide +kernel) hN0
    have hLn := nlC_hO hw0 oW (by decide +kernel) hL0
    obtain ⟨hat, hnx, hkI, hkN⟩ := tkV_i hS.1.2
    have gb := tkG_b hS.2.1
    have fin : S.1 ≠ 0 → S.1 ≠ 4 → S.1 ≠ 5 → Z = .inl (1, S.2.1) := fun z0 z4 z5 => by rw [← hZ, bk_s z0, bkl_bad z5 (by omega), zB_l]
    have TE : (S.1 = 0 ∨ S.1 = 1) → Tp (tX1_read kn) (fun r => ∃ (w' : sW) (b : Int), r = (some (hI b), w', 0, 0) ∧ bDn Z b w') 61 (lv, [], w, 0, 0) := by
      intro hS01
      refine h_aload rfl l0 rfl ?_
      obtain ⟨wB, bB, hfB, oB', sB, hB⟩ := x_takeEnd (kn := kn) o0.1 hS.1
      have hb01 : bB = 0 ∨ bB = 1 := by omega
      refine h_V1 rfl o0 l0 ci_1 rfl rfl hfB ?_
      refine h_zret (by omega) rfl ?_
      rcases hB with ⟨z1, z2, z3, z4⟩ | ⟨z1, z2⟩
      · exact ⟨_, _, rfl, Or.inl ⟨z1, (1, S.2.1), fin z2 (by omega) (by omega), z3⟩⟩
      · refine ⟨_, _, rfl, Or.inr ⟨z1, ⟨(k : Int), by rw [← hZ, bk_0 z2]⟩, ?_⟩⟩
        exact f_tend (kn := kn) o0.1 hS.2.2.1 hfB z1
    refine h_aload rfl l0 rfl ?_
    refine h_getI rfl o0 fi_43_4 (fun b41a b41b => ?_)
    rw [hS.2.2.2] at b41a b41b ⊢
    refine h_intv k_40 rfl ?_
    refine i_gt (kn := kn) (t := 4) (tgt := 61) (np := 21) rfl (by unfold R32; omega) (by unfold R32; omega) (fun e1 => ?_) (fun e1 => ?_)
    · omega
    · refine h_aload rfl l0 rfl ?_
      refine h_getI rfl o0 fi_1_4 (fun b42a b42b => ?_)
      refine j_eq (kn := kn) (t := 0) (tgt := 61) (np := 28) rfl (by unfold R32; omega) (fun e2 => ?_) (fun e2 => ?_)
      · exact TE (by omega)
      · have hS0 : S.1 ≠ 0 := by omega
        refine h_aload rfl l0 rfl ?_
        refine h_aload rfl l0 rfl ?_
        refine h_aload rfl l0 rfl ?_
        obtain ⟨wA, bA, hfA, oA', hA⟩ := b_line7 (kn := kn) (R := R) (N := N) o0.1 hS hN hLn hk
        have oA := hO_tr o0 (hO_mono dBr9_k oA')
        unfold bCO at hA
        rcases hr : zBkl B n 400 R N (k : Int) S with e | T
        · rw [hr, zOK_l] at hA
          obtain ⟨z1, z2⟩ := hA
          subst z1
          refine h_V3 rfl o0 l0 ci_43 rfl rfl hfA ?_
          refine j_eq (kn := kn) (t := 0) (tgt := 46) (np := 37) rfl (by unfold R32; omega) (fun e3 => ?_) (fun e3 => ?_)
          · refine h_intv k_0 rfl ?_
            refine h_zret (by omega) rfl ?_
            exact ⟨_, _, rfl, Or.inl ⟨rfl, e, by rw [← hZ, bk_s hS0, hr, zB_l], z2⟩⟩
          · omega
        · rw [hr, zOK_r] at hA
          obtain ⟨z1, hT⟩ := hA
          subst z1
          have hk39 : k ≠ 40 := fun z => by
            subst z
            exact bkl_40 hr
          refine h_V3 rfl o0 l0 ci_43 rfl rfl hfA ?_
          refine j_eq (kn := kn) (t := 0) (tgt := 46) (np := 37) rfl (by unfold R32; omega) (fun e3 => ?_) (fun e3 => ?_)
          · omega
          · refine h_aload rfl l0 rfl ?_
            refine h_intv k_59 rfl ?_
            obtain ⟨wB, bB, hfB, oB', sB, hB⟩ := x_takeSemi (kn := kn) oA.1 hT.1 (tkG_n hT.2.1)
            have oB := hO_tr oA (hO_mono dBr9_t oB')
            obtain ⟨rF, wF, hfF, hzF⟩ := f_tsemi (kn := kn) oA.1 hT.2.2.1
            rcases hr2 : zEnd B n 400 T with e | U
            · rw [hr2, zOK_l] at hB
              obtain ⟨z1, z2, z3⟩ := hB
              subst z1
              refine h_V2 rfl oA l0 ci_1 rfl rfl hfB ?_
              refine j_ne (kn := kn) (t := 1) (tgt := 48) (np := 46) rfl (by unfold R32; omega) (fun e4 => ?_) (fun e4 => ?_)
              · omega
              · refine h_intv k_0 rfl ?_
                refine h_zret (by omega) rfl ?_
                exact ⟨_, _, rfl, Or.inl ⟨rfl, e, by rw [← hZ, bk_s hS0, hr, zB_r, hr2, zB_l], z2⟩⟩
            · rw [hr2, zOK_r] at hB
              obtain ⟨z1, hU⟩ := hB
              subst z1
              have fU : gF wB 1 11 = 0 := fz hfB hfF hzF rfl
              obtain ⟨p9, p91, p92, p93⟩ := zEnd_i hT.2.1 hr2
              have e434 : gF wB 43 4 = (k : Int) := (sB.1 43 4 (by decide)).trans hT.2.2.2
              refine h_V2 rfl oA l0 ci_1 rfl rfl hfB ?_
              refine j_ne (kn := kn) (t := 1) (tgt := 48) (np := 46) rfl (by unfold R32; omega) (fun e4 => ?_) (fun e4 => ?_)
              · refine h_aload rfl l0 rfl ?_
                refine h_dup rfl rfl ?_
                refine h_getI rfl oB fi_43_4 (fun b45a b45b => ?_)
                rw [e434] at b45a b45b ⊢
                refine h_intv k_1 rfl ?_
                refine h_iadd rfl ?_
                refine x_putI rfl oB fi_43_4 rfl (by omega) (by omega) (fun w5 o5 q5a q5F q5X q5J q5Y q5R => ?_)
                refine h_goto rfl ?_
                refine ih (k + 1) U w5 lv (by omega) (by omega) (by rw [← hZ, bk_s hS0, hr, zB_r, hr2, zB_r]; rfl) (hO_tr oW o5) ⟨tkC_sm (smW_tr (smW_rf [(0, 43, 4)] _) (sm_pI (by decide) q5F q5X q5J q5Y q5R)) (by decide) hU, ⟨p9, p92, p93⟩, (q5F 1 11 (by decide)).trans fU, by rw [q5a]; omega⟩ l0
              · omega
theorem b_read7 {kn : sKn} {w : sW} {B : Nat → Int} {n : Nat} {R N : Nat → Int} (hw : wOk ZZ w) (hN : nmC R N w) (hLn : nlC R N w) (hB : ∀ i, i < n → gX w 2 i = B i) (hn1 : gF w 1 1 = (n : Int)) (hn940 : n ≤ 940) : ∃ (w' : sW) (b : Int), fX1_read kn [.ref 43, .ref 1, .ref 14] w = some (some (hI b), w', 0, 0) ∧ bDn (zBook B n R N) b w' := by
  have K : Tp (tX1_read kn) (fun r => ∃ (w' : sW) (b : Int), r = (some (hI b), w', 0, 0) ∧ bDn (zBook B n R N) b w') 0 (lv_args 0 [.ref 43, .ref 1, .ref 14], [], w, 0, 0) := by
    have l0 : hL (lv_args 0 [.ref 43, .ref 1, .ref 14]) (lv_args 0 [.ref 43, .ref 1, .ref 14]) := hL_ex rfl
    have o0 : hO dBr9 w w := hO_rf hw
    refine h_aload rfl l0 rfl ?_
    refine h_intv k_400 rfl ?_
    obtain ⟨wB, hfB, oB', sB, fB11, tB⟩ := x_begin400 (kn := kn) (B := B) (n := n) o0.1 hB hn1 hn940
    have oB := hO_tr o0 (hO_mono dBr9_t oB')
    refine h_W2 rfl o0 l0 ci_1 rfl rfl hfB ?_
    refine h_aload rfl l0 rfl ?_
    refine h_intv k_0 rfl ?_
    refine x_putI rfl oB fi_43_4 rfl (by omega) (by omega) (fun w5 o5 q5a q5F q5X q5J q5Y q5R => ?_)
    exact b_read_l hw hN hLn 42 0 (lexT B n 400 0) w5 _ rfl (by omega) rfl o5 ⟨tkC_sm (smW_tr (smW_rf [(0, 43, 4)] _) (sm_pI (by decide) q5F q5X q5J q5Y q5R)) (by decide) tB, ⟨0, by omega, rfl⟩, (q5F 1 11 (by decide)).trans fB11, q5a⟩ l0
  obtain ⟨r, h1, w2, b2, h2, h3⟩ := h_meth1 (nL := 3) rfl K
  rw [h2] at h1
  exact ⟨w2, b2, h1, h3⟩
theorem one_r2 {f : List Value → sW → Option sR} {av : List Value} {w w1 w2 : sW} {v1 v2 : Int} (e1 : f av w = some (some (hI v1), w1, 0, 0)) (e2 : f av w = some (some (hI v2), w2, 0, 0)) : w2 = w1 ∧ hI v2 = hI v1 := by
  have e3 := e2.symm.trans e1
  simp only [Option.some.injEq, Prod.mk.injEq] at e3
  exact ⟨e3.2.1, e3.1⟩
theorem b_book7 {kn : sKn} {w0 : sW} {B : Nat → Int} {n : Nat} {R N : Nat → Int} (hw : wOk ZZ w0) (hN : nmC R N w0) (hLn : nlC R N w0) (hB : ∀ i, i < n → gX w0 2 i = B i) (hn1 : gF w0 1 1 = (n : Int)) (hn940 : n ≤ 940) (x : Int) (hx : R32 x) (hx01 : x = 0 ∨ x = 1) : ∃ (w' : sW) (b : Int), fX11_book kn [.ref 0, hI x] w0 = some (some (hI b), w', 0, 0) ∧ gF w' 1 11 = zFt (zBook B n R N) := by
  have hx1 := hx.1
  have hx2 := hx.2
  have K : Tp (tX11_book kn) (fun r => ∃ (w' : sW) (b : Int), r = (some (hI b), w', 0, 0) ∧ gF w' 1 11 = zFt (zBook B n R N)) 0 (lv_args 0 [.ref 0, hI x], [], w0, 0, 0) := by
    have l0 : hL (lv_args 0 [.ref 0, hI x]) (lv_args 0 [.ref 0, hI x]) := ⟨fun _ _ h => h, fun q hq => by
      rcases List.mem_cons.mp hq with e | hq
      · rw [e]
        exact ⟨rfl, rfl⟩
      rcases List.mem_cons.mp hq with e | hq
      · rw [e]
        exact ⟨rfl, rfl⟩
      cases hq⟩
    have o0 : hO dH_bk7 w0 w0 := hO_rf hw
    refine h_iload rfl l0 rfl ?_
    refine j_eq (kn := kn) (t := 0) (tgt := 13) (np := 4) rfl (by unfold R32; omega) (fun e41 => ?_) (fun e41 => ?_)
    · refine h_aload rfl l0 rfl ?_
      refine h_getR rfl o0 frc_0_6 ?_
      refine h_aload rfl l0 rfl ?_
      refine h_getR rfl o0 frc_0_0 ?_
      refine h_aload rfl l0 rfl ?_
      refine h_getR rfl o0 frc_0_2 ?_
      obtain ⟨wA, zA, hf42, oA', hzA, hI⟩ := s_read1 (kn := kn) o0.1
      obtain ⟨wZ, bZ, hfZ, hZ⟩ := b_read7 (kn := kn) (B := B) (n := n) o0.1 hN hLn hB hn1 hn940
      obtain ⟨ew, eb⟩ := one_r2 hfZ hf42
      subst ew
      have eb := hI_ne eb (by unfold R32; omega) (by rcases hZ with ⟨z, _⟩ | ⟨z, _⟩ <;> (unfold R32; omega))
      subst eb
      have oA : hO dH_bk7 w0 wA := hO_tr o0 (hO_mono dH_bk70 oA')
      refine h_V3 rfl o0 l0 (cI_of (show ztau 43 = some 28 from rfl) cit_28) rfl rfl hf42 ?_
      refine h_istore rfl l0 (fun vl43 l43 => ?_)
      refine h_aload rfl l43 rfl ?_
      refine h_getR rfl oA frc_0_0 ?_
      refine h_intv k_0 rfl ?_
      refine h_putI rfl oA (fI_of (show ztau 1 = some 2 from rfl) fit_2_1) rfl (by omega) (by omega) (fun w44 o44 q45a q45b q45c => ?_)
      refine h_iload rfl l43 rfl ?_
      refine j_ne (kn := kn) (t := 1) (tgt := 52) (np := 41) rfl (by unfold R32; omega) (fun e46 => ?_) (fun e46 => ?_)
      · refine h_aload rfl l43 rfl ?_
        obtain ⟨wB, hf47, oB'⟩ := s_remember (kn := kn) o44.1
        have oB : hO dH_bk7 w0 wB := hO_tr o44 (hO_mono dH_bk72 oB')
        have iS := hI (by omega)
        have iA : bkI w44 := ⟨by rw [q45b 43 4 (fun z => absurd z (by decide))]; exact iS.1, fun i hi => by rw [q45b 43 4 (fun z => absurd z (by decide))] at hi; exact bkG_eq (q45c 44 i) (q45c 45 i) (iS.2 i hi)⟩
        have iB := bkI_fr o44.1 oB' (by decide +kernel) (by decide +kernel) (by decide +kernel) iA
        have fB : gF wB 1 11 = gF wA 1 11 := (fr_gF (t := 2) (c := 1) (kf := 11) oB'.2 rfl (by decide +kernel) o44.1 (by decide +kernel)).trans (q45b 1 11 (fun _ => by decide))
        refine h_W1 rfl o44 l43 (cI_of (show ztau 0 = some 1 from rfl) cit_1) rfl rfl hf47 ?_
        refine h_aload rfl l43 rfl ?_
        refine h_getR rfl oB frc_0_6 ?_
        refine h_aload rfl l43 rfl ?_
        refine h_getR rfl oB frc_0_2 ?_
        refine h_aload rfl l43 rfl ?_
        refine h_getR rfl oB frc_0_3 ?_
        refine h_aload rfl l43 rfl ?_
        refine h_getR rfl oB frc_0_7 ?_
        obtain ⟨wC, zC, hf48, oC', rC⟩ := s_live (kn := kn) oB.1 iB
        have oC : hO dH_bk7 w0 wC := hO_tr oB (hO_mono dH_bk71 oC')
        have fC : gF wC 1 11 = gF wA 1 11 := (fr_gF (t := 2) (c := 1) (kf := 11) oC'.2 rfl (by decide +kernel) oB.1 (by decide +kernel)).trans fB
        refine h_V4 rfl oB l43 (cI_of (show ztau 43 = some 28 from rfl) cit_28) rfl rfl hf48 ?_
        refine h_istore rfl l43 (fun vl49 l49 => ?_)
        refine h_iload rfl l49 rfl ?_
        refine h_intv k_1 rfl ?_
        refine i_ne (kn := kn) (t := 1) (tgt := 88) (np := 81) rfl (by unfold R32; omega) (by unfold R32; omega) (fun e50 => ?_) (fun e50 => ?_)
        · refine h_aload rfl l49 rfl ?_
          refine h_getR rfl oC frc_0_3 ?_
          refine h_aload rfl l49 rfl ?_
          refine h_getR rfl oC frc_0_13 ?_
          refine h_aload rfl l49 rfl ?_
          refine h_getI rfl oC (fI_of (show ztau 0 = some 1 from rfl) fit_1_14) (fun b51a b51b => ?_)
          obtain ⟨pn, hpn⟩ : ∃ n : Nat, gF wC 0 14 = (n : Int) := ⟨(gF wC 0 14).toNat, by omega⟩
          rw [hpn] at b51a b51b ⊢
          refine h_aaldT (pn) rfl oC (show ztau 99 = some 56 from rfl) aat_56 (by omega) (by omega) (fun k52 hk52 => ?_)
          obtain ⟨wD, hf53, oD'⟩ := s_copy8 (kn := kn) oC.1 (show ztau 24 = some 15 from rfl) hk52
          have oD : hO dH_bk7 w0 wD := hO_tr oC (hO_mono dH_bk74 oD')
          have fD : gF wD 1 11 = gF wA 1 11 := (fr_gF (t := 2) (c := 1) (kf := 11) oD'.2 rfl (by decide +kernel) oC.1 (by decide +kernel)).trans fC
          refine h_W2 rfl oC l49 (cI_of (show ztau 24 = some 15 from rfl) cit_15) rfl rfl hf53 ?_
          refine h_iload rfl l49 rfl ?_
          refine h_iret rfl ?_
          refine ⟨_, _, rfl, ?_⟩
          rcases hZ with ⟨z1, _⟩ | ⟨z1, ⟨m9, z2⟩, z3⟩
          · omega
          · rw [z2, zFt_r, fD]
            exact z3
        · refine h_aload rfl l49 rfl ?_
          obtain ⟨wD, hf54, oD'⟩ := s_keepR (kn := kn) oC.1
          have oD : hO dH_bk7 w0 wD := hO_tr oC (hO_mono dH_bk73 oD')
          have fD : gF wD 1 11 = gF wA 1 11 := (fr_gF (t := 2) (c := 1) (kf := 11) oD'.2 rfl (by decide +kernel) oC.1 (by decide +kernel)).trans fC
          refine h_W1 rfl oC l49 (cI_of (show ztau 0 = some 1 from rfl) cit_1) rfl rfl hf54 ?_
          refine h_goto rfl ?_
          refine h_iload rfl l49 rfl ?_
          refine h_iret rfl ?_
          refine ⟨_, _, rfl, ?_⟩
          rcases hZ with ⟨z1, _⟩ | ⟨z1, ⟨m9, z2⟩, z3⟩
          · omega
          · rw [z2, zFt_r, fD]
            exact z3
      · refine h_intv k_n2 rfl ?_
        refine h_aload rfl l43 rfl ?_
        refine h_getR rfl o44 frc_0_0 ?_
        refine h_getI rfl o44 (fI_of (show ztau 1 = some 2 from rfl) fit_2_12) (fun b55a b55b => ?_)
        refine h_isub rfl ?_
        refine h_iret rfl ?_
        refine ⟨_, _, rfl, ?_⟩
        rcases hZ with ⟨z1, e9, z2, z3⟩ | ⟨z1, _⟩
        · rw [z2, zFt_l, q45b 1 11 (fun _ => by decide)]
          exact z3
        · omega
    · refine h_iload rfl l0 rfl ?_
      refine h_intv k_1 rfl ?_
      refine i_eq (kn := kn) (t := 0) (tgt := 13) (np := 9) rfl (by unfold R32; omega) (by unfold R32; omega) (fun e56 => ?_) (fun e56 => ?_)
      · refine h_aload rfl l0 rfl ?_
        refine h_getR rfl o0 frc_0_6 ?_
        refine h_aload rfl l0 rfl ?_
        refine h_getR rfl o0 frc_0_0 ?_
        refine h_aload rfl l0 rfl ?_
        refine h_getR rfl o0 frc_0_2 ?_
        obtain ⟨wA, zA, hf57, oA', hzA, hI⟩ := s_read1 (kn := kn) o0.1
        obtain ⟨wZ, bZ, hfZ, hZ⟩ := b_read7 (kn := kn) (B := B) (n := n) o0.1 hN hLn hB hn1 hn940
        obtain ⟨ew, eb⟩ := one_r2 hfZ hf57
        subst ew
        have eb := hI_ne eb (by unfold R32; omega) (by rcases hZ with ⟨z, _⟩ | ⟨z, _⟩ <;> (unfold R32; omega))
        subst eb
        have oA : hO dH_bk7 w0 wA := hO_tr o0 (hO_mono dH_bk70 oA')
        refine h_V3 rfl o0 l0 (cI_of (show ztau 43 = some 28 from rfl) cit_28) rfl rfl hf57 ?_
        refine h_istore rfl l0 (fun vl58 l58 => ?_)
        refine h_aload rfl l58 rfl ?_
        refine h_getR rfl oA frc_0_0 ?_
        refine h_intv k_0 rfl ?_
        refine h_putI rfl oA (fI_of (show ztau 1 = some 2 from rfl) fit_2_1) rfl (by omega) (by omega) (fun w59 o59 q60a q60b q60c => ?_)
        refine h_iload rfl l58 rfl ?_
        refine j_ne (kn := kn) (t := 1) (tgt := 52) (np := 41) rfl (by unfold R32; omega) (fun e61 => ?_) (fun e61 => ?_)
        · refine h_aload rfl l58 rfl ?_
          obtain ⟨wB, hf62, oB'⟩ := s_remember (kn := kn) o59.1
          have oB : hO dH_bk7 w0 wB := hO_tr o59 (hO_mono dH_bk72 oB')
          have iS := hI (by omega)
          have iA : bkI w59 := ⟨by rw [q60b 43 4 (fun z => absurd z (by decide))]; exact iS.1, fun i hi => by rw [q60b 43 4 (fun z => absurd z (by decide))] at hi; exact bkG_eq (q60c 44 i) (q60c 45 i) (iS.2 i hi)⟩
          have iB := bkI_fr o59.1 oB' (by decide +kernel) (by decide +kernel) (by decide +kernel) iA
          have fB : gF wB 1 11 = gF wA 1 11 := (fr_gF (t := 2) (c := 1) (kf := 11) oB'.2 rfl (by decide +kernel) o59.1 (by decide +kernel)).trans (q60b 1 11 (fun _ => by decide))
          refine h_W1 rfl o59 l58 (cI_of (show ztau 0 = some 1 from rfl) cit_1) rfl rfl hf62 ?_
          refine h_aload rfl l58 rfl ?_
          refine h_getR rfl oB frc_0_6 ?_
          refine h_aload rfl l58 rfl ?_
          refine h_getR rfl oB frc_0_2 ?_
          refine h_aload rfl l58 rfl ?_
          refine h_getR rfl oB frc_0_3 ?_
          refine h_aload rfl l58 rfl ?_
          refine h_getR rfl oB frc_0_7 ?_
          obtain ⟨wC, zC, hf63, oC', rC⟩ := s_live (kn := kn) oB.1 iB
          have oC : hO dH_bk7 w0 wC := hO_tr oB (hO_mono dH_bk71 oC')
          have fC : gF wC 1 11 = gF wA 1 11 := (fr_gF (t := 2) (c := 1) (kf := 11) oC'.2 rfl (by decide +kernel) oB.1 (by decide +kernel)).trans fB
          refine h_V4 rfl oB l58 (cI_of (show ztau 43 = some 28 from rfl) cit_28) rfl rfl hf63 ?_
          refine h_istore rfl l58 (fun vl64 l64 => ?_)
          refine h_iload rfl l64 rfl ?_
          refine h_intv k_1 rfl ?_
          refine i_ne (kn := kn) (t := 1) (tgt := 88) (np := 81) rfl (by unfold R32; omega) (by unfold R32; omega) (fun e65 => ?_) (fun e65 => ?_)
          · refine h_aload rfl l64 rfl ?_
            refine h_getR rfl oC frc_0_3 ?_
            refine h_aload rfl l64 rfl ?_
            refine h_getR rfl oC frc_0_13 ?_
            refine h_aload rfl l64 rfl ?_
            refine h_getI rfl oC (fI_of (show ztau 0 = some 1 from rfl) fit_1_14) (fun b66a b66b => ?_)
            obtain ⟨pn, hpn⟩ : ∃ n : Nat, gF wC 0 14 = (n : Int) := ⟨(gF wC 0 14).toNat, by omega⟩
            rw [hpn] at b66a b66b ⊢
            refine h_aaldT (pn) rfl oC (show ztau 99 = some 56 from rfl) aat_56 (by omega) (by omega) (fun k67 hk67 => ?_)
            obtain ⟨wD, hf68, oD'⟩ := s_copy8 (kn := kn) oC.1 (show ztau 24 = some 15 from rfl) hk67
            have oD : hO dH_bk7 w0 wD := hO_tr oC (hO_mono dH_bk74 oD')
            have fD : gF wD 1 11 = gF wA 1 11 := (fr_gF (t := 2) (c := 1) (kf := 11) oD'.2 rfl (by decide +kernel) oC.1 (by decide +kernel)).trans fC
            refine h_W2 rfl oC l64 (cI_of (show ztau 24 = some 15 from rfl) cit_15) rfl rfl hf68 ?_
            refine h_iload rfl l64 rfl ?_
            refine h_iret rfl ?_
            refine ⟨_, _, rfl, ?_⟩
            rcases hZ with ⟨z1, _⟩ | ⟨z1, ⟨m9, z2⟩, z3⟩
            · omega
            · rw [z2, zFt_r, fD]
              exact z3
          · refine h_aload rfl l64 rfl ?_
            obtain ⟨wD, hf69, oD'⟩ := s_keepR (kn := kn) oC.1
            have oD : hO dH_bk7 w0 wD := hO_tr oC (hO_mono dH_bk73 oD')
            have fD : gF wD 1 11 = gF wA 1 11 := (fr_gF (t := 2) (c := 1) (kf := 11) oD'.2 rfl (by decide +kernel) oC.1 (by decide +kernel)).trans fC
            refine h_W1 rfl oC l64 (cI_of (show ztau 0 = some 1 from rfl) cit_1) rfl rfl hf69 ?_
            refine h_goto rfl ?_
            refine h_iload rfl l64 rfl ?_
            refine h_iret rfl ?_
            refine ⟨_, _, rfl, ?_⟩
            rcases hZ with ⟨z1, _⟩ | ⟨z1, ⟨m9, z2⟩, z3⟩
            · omega
            · rw [z2, zFt_r, fD]
              exact z3
        · refine h_intv k_n2 rfl ?_
          refine h_aload rfl l58 rfl ?_
          refine h_getR rfl o59 frc_0_0 ?_
          refine h_getI rfl o59 (fI_of (show ztau 1 = some 2 from rfl) fit_2_12) (fun b70a b70b => ?_)
          refine h_isub rfl ?_
          refine h_iret rfl ?_
          refine ⟨_, _, rfl, ?_⟩
          rcases hZ with ⟨z1, e9, z2, z3⟩ | ⟨z1, _⟩
          · rw [z2, zFt_l, q60b 1 11 (fun _ => by decide)]
            exact z3
          · omega
      · refine h_intv k_n1000 rfl ?_
        refine h_iret rfl ?_
        omega
  obtain ⟨r, h1, w2, b, h2, h3⟩ := h_meth1 (nL := 4) rfl K
  rw [h2] at h1
  exact ⟨w2, b, h1, h3⟩
end
