noncomputable section
theorem k_18 : (18 : Int32) = Int32.ofInt (18) := by decide +kernel
theorem k_21 : (21 : Int32) = Int32.ofInt (21) := by decide +kernel
theorem fit_22_5 : fIt 22 8 5 = some (0, 40) := by decide +kernel
theorem fit_22_6 : fIt 22 8 6 = some ((-2147483648), 2147483647) := by decide +kernel
theorem frt_22_4 : fRt 22 8 4 = some 26 := by decide +kernel
theorem ait_26 : aIt 26 = some 40 := by decide +kernel
theorem apt_26 : aPt 26 0 40 (-2147483648) 2147483647 = true := by decide +kernel
theorem ci_14 : cIs 14 = some 7 := by decide +kernel
theorem x_signerNamed14_l {kn : sKn} {w : sW} {N : Nat → Int} {X : Int} {m : Nat} (hw : wOk ZZ w) (hP : gR w 14 6 = 15) (hm : gF w 14 2 = (m : Int)) (hN : ∀ s, s < m → gY w 15 s = Int64.ofInt (c32 7 (N (0 + s))) ∧ 0 ≤ N (0 + s) ∧ N (0 + s) < 27 ^ 7) (hX : 0 ≤ X ∧ X < 27 ^ 7) : ∀ (d k : Nat) (lv : List (Nat × Value)), k + d = m → l_get lv 0 = some (.ref 14) → l_get lv 1 = some (hJ (c32 7 X)) → l_get lv 3 = some (hI (k : Int)) → Tp (tX6_signerNamed kn) (fun r => r = (some (hI (fnd N 0 X d k)), w, 0, 0)) 2 (lv, [], w, 0, 0) := by
  have o0 : hO [] w w := hO_rf hw
  have hm2 : m ≤ 10 := by
    obtain ⟨_, _, _, _, _, _, _, g1, g2⟩ := fI_ok o0 fq_14_2
    omega
  intro d
  induction d with
  | zero =>
    intro k lv hkd q0 q1 q3
    refine r_iload rfl q3 ?_
    refine r_aload rfl q0 ?_
    refine h_getI rfl o0 fq_14_2 (fun b1 b2 => ?_)
    rw [hm] at b1 b2 ⊢
    refine i_ge (kn := kn) (t := 3) (tgt := 29) (np := 10) rfl (by unfold R32; omega) (by unfold R32; omega) (fun e1 => ?_) (fun e1 => ?_)
    · refine r_intv k_n1 rfl ?_
      exact r_iret rfl rfl
    · omega
  | succ d ih =>
    intro k lv hkd q0 q1 q3
    obtain ⟨n1, n2, n3⟩ := hN k (by omega)
    refine r_iload rfl q3 ?_
    refine r_aload rfl q0 ?_
    refine h_getI rfl o0 fq_14_2 (fun b1 b2 => ?_)
    rw [hm] at b1 b2 ⊢
    refine i_ge (kn := kn) (t := 3) (tgt := 29) (np := 10) rfl (by unfold R32; omega) (by unfold R32; omega) (fun e1 => ?_) (fun e1 => ?_)
    · omega
    · refine r_aload rfl q0 ?_
      refine h_getT rfl o0 (show ztau 14 = some 5 from rfl) frt_5_6 (fun kk hk rk => ?_)
      have hkk : kk = 15 := by omega
      subst hkk
      refine r_iload rfl q3 ?_
      refine x_lald k rfl o0 aj_15 rfl rfl (by omega) ?_
      rw [n1]
      refine r_lload rfl q1 ?_
      refine x_lcmp rfl (fun cc c1 c2 ce => ?_)
      have ce2 : cc = 0 ↔ N (0 + k) = X := by
        rw [ce, c32_e7 n2 n3 hX.1 hX.2]
      refine j_ne (kn := kn) (t := 1) (tgt := 23) (np := 21) rfl (by unfold R32; omega) (fun e2 => ?_) (fun e2 => ?_)
      · refine r_iincv k_1 rfl q3 ?_
        refine r_goto rfl ?_
        rw [fnd_n (fun h => e2 (ce2.mpr h))]
        exact ih (k + 1) _ (by omega) (lp_get (by decide) q0 (Or.inl rfl)) (lp_get (by decide) q1 (Or.inr (by decide))) l_get_head
      · refine r_iload rfl q3 ?_
        rw [fnd_y (ce2.mp (by omega))]
        exact r_iret rfl rfl
theorem x_signerNamed14 {kn : sKn} {w : sW} {N : Nat → Int} {X : Int} {m : Nat} (hw : wOk ZZ w) (hP : gR w 14 6 = 15) (hm : gF w 14 2 = (m : Int)) (hN : ∀ s, s < m → gY w 15 s = Int64.ofInt (c32 7 (N (0 + s))) ∧ 0 ≤ N (0 + s) ∧ N (0 + s) < 27 ^ 7) (hX : 0 ≤ X ∧ X < 27 ^ 7) : fX6_signerNamed kn [.ref 14, hJ (c32 7 X)] w = some (some (hI (fnd N 0 X m 0)), w, 0, 0) := by
  have K : Tp (tX6_signerNamed kn) (fun r => r = (some (hI (fnd N 0 X m 0)), w, 0, 0)) 0 (lv_args 0 [.ref 14, hJ (c32 7 X)], [], w, 0, 0) := by
    refine r_intv k_0 rfl ?_
    refine r_istore rfl ?_
    exact x_signerNamed14_l hw hP hm hN hX m 0 _ (by omega) (lp_get (by decide) rfl (Or.inl rfl)) (lp_get (by decide) rfl (Or.inr (by decide))) l_get_head
  obtain ⟨r, h1, h2⟩ := h_meth1 (nL := 4) rfl K
  rw [h2] at h1
  exact h1
def nmC (R N : Nat → Int) (w : sW) : Prop := gR w 14 6 = 15 ∧ gF w 14 2 = R 1 ∧ ∀ s : Nat, (s : Int) < R 1 → gY w 15 s = Int64.ofInt (c32 7 (N s)) ∧ 0 ≤ N s ∧ N s < 27 ^ 7
theorem nmC_s {kn : sKn} {R N : Nat → Int} {w : sW} {X : Int} (hw : wOk ZZ w) (p : nmC R N w) (hX : 0 ≤ X ∧ X < 27 ^ 7) : fX6_signerNamed kn [.ref 14, hJ (c32 7 X)] w = some (some (hI (fnd N 0 X (R 1).toNat 0)), w, 0, 0) ∧ 0 ≤ R 1 ∧ R 1 ≤ 10 := by
  obtain ⟨_, _, _, _, _, _, _, g1, g2⟩ := fI_ok (hO_rf (D := []) hw) fq_14_2
  rw [p.2.1] at g1 g2
  refine ⟨x_signerNamed14 hw p.1 (m := (R 1).toNat) (by rw [p.2.1]; omega) (fun s hs => ?_) hX, g1, g2⟩
  rw [Nat.zero_add]
  exact p.2.2 s (by omega)
theorem nmC_hO {D : List (Nat × Nat)} {R N : Nat → Int} {w w' : sW} (hw : wOk ZZ w) (o : hO D w w') (h : (mIn D 5 6 || (mIn D 5 2 || mIn D 6 999)) = false) (p : nmC R N w) : nmC R N w' := by
  rw [Bool.or_eq_false_iff, Bool.or_eq_false_iff] at h
  refine ⟨(fr_gR (t := 5) (c := 14) o.2 rfl h.1 (by decide +kernel) hw).trans p.1, (fr_gF (t := 5) (c := 14) o.2 rfl h.2.1 hw (by decide +kernel)).trans p.2.1, fun s hs => ?_⟩
  rw [fr_gY o.2 (show ztau 15 = some 6 from rfl) h.2.2 s]
  exact p.2.2 s hs
theorem x_takeSigner14 {kn : sKn} {w0 : sW} {B : Nat → Int} {n L : Nat} {S : tS} {R N : Nat → Int} (hw : wOk ZZ w0) (ht : tkC B n L S w0) (hSn : S.2.2.2.2 ≤ n) (hN : nmC R N w0) (hX : S.1 = 5 → 0 ≤ S.2.2.2.1 ∧ S.2.2.2.1 < 27 ^ 7) : ∃ (w' : sW) (b : Int), fX9_takeSigner kn [.ref 1, .ref 14] w0 = some (some (hI b), w', 0, 0) ∧ hO dTk w0 w' ∧ smW eTT w0 w' ∧ zOK (zSig B n L R N S) b (fun e => gF w' 1 11 = e.1 ∧ gF w' 1 12 = e.2) (fun q => gF w' 1 8 = q.1 ∧ gF w' 1 10 = S.2.1 ∧ tkC B n L q.2 w' ∧ 0 ≤ q.1 ∧ q.1 < R 1) := by
  obtain ⟨tx, hv⟩ := id ht
  obtain ⟨hat, hnx, hkI, hkN⟩ := tkV_i hv
  obtain ⟨hB, hn1, hn2, hn940, hL940⟩ := tx
  have tx : txC B n L w0 := ht.1
  have K : Tp (tX9_takeSigner kn) (fun r => ∃ (w' : sW) (b : Int), r = (some (hI b), w', 0, 0) ∧ hO dTk w0 w' ∧ smW eTT w0 w' ∧ zOK (zSig B n L R N S) b (fun e => gF w' 1 11 = e.1 ∧ gF w' 1 12 = e.2) (fun q => gF w' 1 8 = q.1 ∧ gF w' 1 10 = S.2.1 ∧ tkC B n L q.2 w' ∧ 0 ≤ q.1 ∧ q.1 < R 1)) 0 (lv_args 0 [.ref 1, .ref 14], [], w0, 0, 0) := by
    have l0 : hL (lv_args 0 [.ref 1, .ref 14]) (lv_args 0 [.ref 1, .ref 14]) := hL_ex rfl
    have o0 : hO dTk w0 w0 := hO_rf hw
    have sm := smW_rf eTT w0
    refine h_aload rfl l0 rfl ?_
    refine h_getI rfl o0 fi_1_4 (fun b41a b41b => ?_)
    refine h_intv k_5 rfl ?_
    refine i_eq (kn := kn) (t := 0) (tgt := 14) (np := 8) rfl (by unfold R32; omega) (by unfold R32; omega) (fun e42 => ?_) (fun e42 => ?_)
    · have h5 : S.1 = 5 := by omega
      have hX5 := hX h5
      have hnm := hkN h5
      refine h_aload rfl l0 rfl ?_
      refine h_aload rfl l0 rfl ?_
      refine h_getJv rfl o0 fj_1_7 ?_
      rw [hnm]
      obtain ⟨hf43, r43a, r43b⟩ := nmC_s (kn := kn) o0.1 hN hX5
      have z43 := fnd_b N 0 S.2.2.2.1 (R 1).toNat 0
      refine h_V2 rfl o0 l0 ci_14 rfl rfl hf43 ?_
      refine h_istore rfl l0 (fun vl44 l44 => ?_)
      refine h_iload rfl l44 rfl ?_
      refine h_intv k_n1 rfl ?_
      refine i_ne (kn := kn) (t := 1) (tgt := 34) (np := 28) rfl (by unfold R32; omega) (by unfold R32; omega) (fun e45 => ?_) (fun e45 => ?_)
      · refine h_aload rfl l44 rfl ?_
        refine h_iload rfl l44 rfl ?_
        refine x_putI rfl o0 fi_1_8 rfl (by omega) (by omega) (fun w46 o46 q47a q47F q47X q47J q47Y q47R => ?_)
        refine h_aload rfl l44 rfl ?_
        refine h_aload rfl l44 rfl ?_
        refine h_getI rfl o46 fi_1_5 (fun b48a b48b => ?_)
        rw [q47F 1 5 (by decide), hat] at b48a b48b ⊢
        refine x_putI rfl o46 fi_1_10 rfl (by omega) (by omega) (fun w49 o49 q50a q50F q50X q50J q50Y q50R => ?_)
        refine h_aload rfl l44 rfl ?_
        obtain ⟨wA51, hf51, oA51', sA51, tA51⟩ := x_advance (kn := kn) (txC_sm (smW_tr (smW_tr sm (sm_pI (by decide) q47F q47X q47J q47Y q47R)) (sm_pI (by decide) q50F q50X q50J q50Y q50R)) (by decide) tx) o49.1 (p := S.2.2.2.2) hSn (by rw [q50F 1 3 (by decide), q47F 1 3 (by decide), hnx])
        have oA51 := hO_tr o49 (hO_mono dTk_t oA51')
        refine h_W1 rfl o49 l44 ci_1 rfl rfl hf51 ?_
        refine h_intv k_1 rfl ?_
        refine h_zret (by omega) rfl ?_
        refine ⟨_, _, rfl, oA51, smW_tr (smW_tr (smW_tr sm (sm_pI (by decide) q47F q47X q47J q47Y q47R)) (sm_pI (by decide) q50F q50X q50J q50Y q50R)) (smW_mono (by decide) sA51), ?_⟩
        rw [show zSig B n L R N S = .inr (fnd N 0 S.2.2.2.1 (R 1).toNat 0, nxT B n L S) from by
          unfold zSig
          rw [if_neg (by omega), if_neg (by omega)], zOK_r]
        exact ⟨rfl, by rw [sA51.1 1 8 (by decide), q50F 1 8 (by decide), q47a], by rw [sA51.1 1 10 (by decide), q50a], tA51, by show 0 ≤ fnd N 0 S.2.2.2.1 (R 1).toNat 0 ∧ (fnd N 0 S.2.2.2.1 (R 1).toNat 0) < R 1; omega⟩
      · refine h_aload rfl l44 rfl ?_
        refine h_intv k_3 rfl ?_
        obtain ⟨wR52, hf52, oR52', sR52, rA52, rB52⟩ := x_refuse (kn := kn) o0.1 3 ⟨by omega, by omega⟩
        have oR52 := hO_tr o0 oR52'
        rw [hat] at rB52
        refine h_V2 rfl o0 l44 ci_1 rfl rfl hf52 ?_
        refine h_zret (by omega) rfl ?_
        refine ⟨_, _, rfl, oR52, smW_tr sm (smW_mono (by decide) sR52), ?_⟩
        rw [show zSig B n L R N S = .inl (3, S.2.1) from by
          unfold zSig
          rw [if_neg (by omega), if_pos (by omega)], zOK_l]
        exact ⟨rfl, by rw [rA52], by rw [rB52]⟩
    · refine h_aload rfl l0 rfl ?_
      refine h_intv k_1 rfl ?_
      obtain ⟨wR53, hf53, oR53', sR53, rA53, rB53⟩ := x_refuse (kn := kn) o0.1 1 ⟨by omega, by omega⟩
      have oR53 := hO_tr o0 oR53'
      rw [hat] at rB53
      refine h_V2 rfl o0 l0 ci_1 rfl rfl hf53 ?_
      refine h_zret (by omega) rfl ?_
      refine ⟨_, _, rfl, oR53, smW_tr sm (smW_mono (by decide) sR53), ?_⟩
      rw [show zSig B n L R N S = .inl (1, S.2.1) from if_pos (by omega), zOK_l]
      exact ⟨rfl, by rw [rA53], by rw [rB53]⟩
  obtain ⟨r, h1, w2, b, h2, h3⟩ := h_meth1 (nL := 3) rfl K
  rw [h2] at h1
  exact ⟨w2, b, h1, h3⟩
/-- a call that leaves the class's token alone -/
def tcF (D : List (Nat × Nat)) : Bool := mIn D 3 999 || (mIn D 2 1 || (mIn D 2 2 || (mIn D 2 3 || (mIn D 2 4 || (mIn D 2 5 || (mIn D 2 6 || mIn D 2 7))))))
theorem tkC_hO {D : List (Nat × Nat)} {B : Nat → Int} {n L : Nat} {S : tS} {w w' : sW} (hw : wOk ZZ w) (o : hO D w w') (h : tcF D = false) (t : tkC B n L S w) : tkC B n L S w' := by
  unfold tcF at h
  simp only [Bool.or_eq_false_iff] at h
  obtain ⟨h0, h1, h2, h3, h4, h5, h6, h7⟩ := h
  have F : ∀ k, mIn D 2 k = false → gF w' 1 k = gF w 1 k := fun k hk => fr_gF (t := 2) (c := 1) o.2 rfl hk hw (by decide +kernel)
  obtain ⟨⟨t1, t2, t3, t4, t5⟩, u⟩ := t
  refine ⟨⟨fun i hi => (fr_gX2 o.2 (show ztau 2 = some 3 from rfl) h0 i).trans (t1 i hi), (F 1 h1).trans t2, (F 2 h2).trans t3, t4, t5⟩, ?_⟩
  rw [F 4 h4, F 5 h5, F 6 h6, F 3 h3, fr_gJ (t := 2) (c := 1) o.2 rfl h7 hw (by decide +kernel)]
  exact u
/-- what waits: NOT 17, bracket 100, OR 15, AND 16; D 0 the first of m -/
def wiD (D : Nat → Int) : Nat → Int
  | 0 => 0
  | m + 1 => wiD D m + (if D m = 17 ∨ D m = 100 then 1 else 0)
def levD (D : Nat → Int) : Nat → List Nat
  | 0 => [8]
  | m + 1 => if D m = 100 then (8 - wiD D (m + 1)).toNat :: levD D m else levD D m
def okW (D : Nat → Int) (i : Nat) : Prop := (D i = 15 ∧ (i = 0 ∨ D (i - 1) = 100)) ∨ (D i = 16 ∧ (i = 0 ∨ D (i - 1) = 100 ∨ D (i - 1) = 15)) ∨ D i = 17 ∨ D i = 100
def okD (D : Nat → Int) (m : Nat) : Prop := ∀ i, i < m → okW D i
def zPop (j : Int) (D : Nat → Int) : Nat → Nat
  | 0 => 0
  | m + 1 => if D m = 100 ∨ (j = 16 ∧ D m = 15) then m + 1 else zPop j D m
def zNot (D : Nat → Int) : Nat → Nat
  | 0 => 0
  | m + 1 => if D m = 17 then zNot D m else m + 1
theorem wiD_eq {D D' : Nat → Int} : ∀ m, (∀ i, i < m → D' i = D i) → wiD D' m = wiD D m := by
  intro m
  induction m with
  | zero => intro h; rfl
  | succ m ih =>
    intro h
    unfold wiD
    rw [ih (fun i hi => h i (by omega)), h m (by omega)]
theorem levD_eq {D D' : Nat → Int} : ∀ m, (∀ i, i < m → D' i = D i) → levD D' m = levD D m := by
  intro m
  induction m with
  | zero => intro h; rfl
  | succ m ih =>
    intro h
    unfold levD
    rw [ih (fun i hi => h i (by omega)), h m (by omega), wiD_eq (m + 1) h]
theorem okW_eq {D D' : Nat → Int} {i : Nat} (h : ∀ j, j ≤ i → D' j = D j) (p : okW D i) : okW D' i := by
  unfold okW at *
  rw [h i (by omega), h (i - 1) (by omega)]
  exact p
theorem wiD_nn (D : Nat → Int) : ∀ m, 0 ≤ wiD D m ∧ wiD D m ≤ (m : Int) := by
  intro m
  induction m with
  | zero => exact ⟨Int.le_refl 0, Int.le_refl 0⟩
  | succ m ih =>
    unfold wiD
    split <;> omega
theorem wiD_len {D : Nat → Int} : ∀ m, okD D m → ((m = 0 ∨ D (m - 1) = 17 ∨ D (m - 1) = 100) → (m : Int) ≤ 3 * wiD D m) ∧ (D (m - 1) = 15 → (m : Int) ≤ 3 * wiD D m + 1) ∧ (m : Int) ≤ 3 * wiD D m + 2 := by
  intro m
  induction m with
  | zero => intro h; exact ⟨fun _ => Int.le_refl 0, fun _ => by show (0 : Int) ≤ 3 * 0 + 1; omega, by show (0 : Int) ≤ 3 * 0 + 2; omega⟩
  | succ m ih =>
    intro h
    obtain ⟨i1, i2, i3⟩ := ih (fun i hi => h i (by omega))
    have p := h m (by omega)
    rw [show wiD D (m + 1) = wiD D m + (if D m = 17 ∨ D m = 100 then 1 else 0) from rfl, show m + 1 - 1 = m by omega]
    unfold okW at p
    rcases p with ⟨p1, p2⟩ | ⟨p1, p2⟩ | p1 | p1
    · rw [if_neg (by omega)]
      have q : (m : Int) ≤ 3 * wiD D m := i1 (by omega)
      exact ⟨fun z => by omega, fun _ => by omega, by omega⟩
    · rw [if_neg (by omega)]
      have q : (m : Int) ≤ 3 * wiD D m + 1 := by
        rcases p2 with p2 | p2 | p2
        · have := i1 (by omega)
          omega
        · have := i1 (by omega)
          omega
        · exact i2 p2
      exact ⟨fun z => by omega, fun z => by omega, by omega⟩
    · rw [if_pos (by omega)]
      exact ⟨fun _ => by omega, fun _ => by omega, by omega⟩
    · rw [if_pos (by omega)]
      exact ⟨fun _ => by omega, fun _ => by omega, by omega⟩
/-- joins popped -/
theorem zPop_i {j : Int} {D : Nat → Int} : ∀ m, okD D m → (m = 0 ∨ D (m - 1) ≠ 17) → zPop j D m ≤ m ∧ wiD D (zPop j D m) = wiD D m ∧ levD D (zPop j D m) = levD D m ∧ (zPop j D m = 0 ∨ D (zPop j D m - 1) = 100 ∨ (j = 16 ∧ D (zPop j D m - 1) = 15)) := by
  intro m
  induction m with
  | zero => intro h h2; exact ⟨Nat.le_refl 0, rfl, rfl, Or.inl rfl⟩
  | succ m ih =>
    intro h h2
    have p := h m (by omega)
    rw [show m + 1 - 1 = m by omega] at h2
    unfold zPop
    by_cases c : D m = 100 ∨ (j = 16 ∧ D m = 15)
    · rw [if_pos c]
      refine ⟨Nat.le_refl _, rfl, rfl, ?_⟩
      rw [show m + 1 - 1 = m by omega]
      rcases c with c | c
      · exact Or.inr (Or.inl c)
      · exact Or.inr (Or.inr c)
    · rw [if_neg c]
      have hj : D m = 15 ∨ D m = 16 := by
        unfold okW at p
        omega
      have hp : m = 0 ∨ D (m - 1) ≠ 17 := by
        unfold okW at p
        omega
      obtain ⟨i1, i2, i3, i4⟩ := ih (fun i hi => h i (by omega)) hp
      refine ⟨by omega, ?_, ?_, i4⟩
      · rw [i2, show wiD D (m + 1) = wiD D m + (if D m = 17 ∨ D m = 100 then 1 else 0) from rfl, if_neg (by omega)]
        omega
      · rw [i3, show levD D (m + 1) = if D m = 100 then (8 - wiD D (m + 1)).toNat :: levD D m else levD D m from rfl, if_neg (by omega)]
/-- nots popped -/
theorem zNot_i {D : Nat → Int} : ∀ m, zNot D m ≤ m ∧ wiD D (zNot D m) = wiD D m - ((m : Int) - (zNot D m : Nat)) ∧ levD D (zNot D m) = levD D m ∧ (zNot D m = 0 ∨ D (zNot D m - 1) ≠ 17) := by
  intro m
  induction m with
  | zero => exact ⟨Nat.le_refl 0, by show (0 : Int) = 0 - (((0 : Nat) : Int) - ((0 : Nat) : Int)); omega, rfl, Or.inl rfl⟩
  | succ m ih =>
    unfold zNot
    by_cases c : D m = 17
    · rw [if_pos c]
      obtain ⟨i1, i2, i3, i4⟩ := ih
      refine ⟨by omega, ?_, ?_, i4⟩
      · rw [i2, show wiD D (m + 1) = wiD D m + (if D m = 17 ∨ D m = 100 then 1 else 0) from rfl, if_pos (by omega)]
        omega
      · rw [i3, show levD D (m + 1) = if D m = 100 then (8 - wiD D (m + 1)).toNat :: levD D m else levD D m from rfl, if_neg (by omega)]
    · rw [if_neg c]
      refine ⟨Nat.le_refl _, by omega, rfl, Or.inr ?_⟩
      rw [show m + 1 - 1 = m by omega]
      exact c
/-- how deep a ONE may go where none of the nots waits -/
theorem lev_top {D : Nat → Int} : ∀ m, okD D m → (m = 0 ∨ D (m - 1) ≠ 17) → wiD D m ≤ 8 → ∃ es, levD D m = (8 - wiD D m).toNat :: es ∧ (wiD D m = 0 → es = []) ∧ (0 < wiD D m → es ≠ []) := by
  intro m
  induction m with
  | zero => intro h h2 h3; exact ⟨[], rfl, fun _ => rfl, fun z => absurd z (by show ¬ ((0 : Int) < 0); omega)⟩
  | succ m ih =>
    intro h h2 h3
    have p := h m (by omega)
    rw [show m + 1 - 1 = m by omega] at h2
    rw [show levD D (m + 1) = if D m = 100 then (8 - wiD D (m + 1)).toNat :: levD D m else levD D m from rfl]
    by_cases c : D m = 100
    · rw [if_pos c]
      refine ⟨levD D m, rfl, fun z => ?_, fun _ z => ?_⟩
      · have hn := (wiD_nn D m).1
        rw [show wiD D (m + 1) = wiD D m + (if D m = 17 ∨ D m = 100 then 1 else 0) from rfl, if_pos (by omega)] at z
        omega
      · have hne : ∀ k, levD D k ≠ [] := by
          intro k
          induction k with
          | zero => intro z; cases z
          | succ k ik =>
            unfold levD
            split
            · intro z; cases z
            · exact ik
        exact hne m z
    · rw [if_neg c]
      have e : wiD D (m + 1) = wiD D m := by
        rw [show wiD D (m + 1) = wiD D m + (if D m = 17 ∨ D m = 100 then 1 else 0) from rfl, if_neg (by omega)]
        omega
      rw [e] at h3 ⊢
      exact ih (fun i hi => h i (by omega)) (by unfold okW at p; omega) h3
theorem lev_len (D : Nat → Int) : ∀ m, ((levD D m).length : Int) ≤ 1 + wiD D m := by
  intro m
  induction m with
  | zero => exact Int.le_refl 1
  | succ m ih =>
    rw [show levD D (m + 1) = if D m = 100 then (8 - wiD D (m + 1)).toNat :: levD D m else levD D m from rfl, show wiD D (m + 1) = wiD D m + (if D m = 17 ∨ D m = 100 then 1 else 0) from rfl]
    split
    · rw [List.length_cons, if_pos (by omega)]
      omega
    · split <;> omega
theorem wiD_s (D : Nat → Int) (m : Nat) : wiD D (m + 1) = wiD D m + (if D m = 17 ∨ D m = 100 then 1 else 0) := rfl
theorem levD_s (D : Nat → Int) (m : Nat) : levD D (m + 1) = if D m = 100 then (8 - wiD D (m + 1)).toNat :: levD D m else levD D m := rfl
/-- one more waits -/
theorem push_ok {D : Nat → Int} {m : Nat} {a : Int} (h : okD D m) (ha : (a = 15 ∧ (m = 0 ∨ D (m - 1) = 100)) ∨ (a = 16 ∧ (m = 0 ∨ D (m - 1) = 100 ∨ D (m - 1) = 15)) ∨ a = 17 ∨ a = 100) : okD (zU D m a) (m + 1) := by
  intro i hi
  by_cases e : i = m
  · subst e
    unfold okW
    rw [zU_s]
    by_cases z : i = 0
    · subst z
      omega
    · rw [zU_n D a (show i - 1 ≠ i by omega)]
      exact ha
  · exact okW_eq (fun j hj => zU_n D a (by omega)) (h i (by omega))
theorem push_wi (D : Nat → Int) (m : Nat) (a : Int) : wiD (zU D m a) (m + 1) = wiD D m + (if a = 17 ∨ a = 100 then 1 else 0) := by
  rw [wiD_s, zU_s, wiD_eq m (fun i hi => zU_n D a (by omega))]
theorem push_lev (D : Nat → Int) (m : Nat) (a : Int) : levD (zU D m a) (m + 1) = if a = 100 then (8 - (wiD D m + 1)).toNat :: levD D m else levD D m := by
  rw [levD_s, zU_s, levD_eq m (fun i hi => zU_n D a (by omega))]
  split
  · rw [push_wi, if_pos (by omega)]
  · rfl
/-- a Sentence's own cells: what waits in it -/
def cS (c : Nat) (D : Nat → Int) (m : Nat) (w : sW) : Prop := gF w c 5 = (m : Int) ∧ (∀ i, i < m → gX w (gR w c 4) i = D i) ∧ gF w c 6 = wiD D m
def sF (D : List (Nat × Nat)) : Bool := mIn D 22 4 || (mIn D 22 5 || (mIn D 22 6 || (mIn D 22 8 || mIn D 26 999)))
theorem c22 {c : Nat} (hc : ztau c = some 22) : cIs c ≠ none := by
  rw [cI_of hc cit_22]
  intro z
  cases z
theorem aS_26 {w : sW} (hw : wOk ZZ w) {c : Nat} (hc : ztau c = some 22) : ztau (gR w c 4) = some 26 := by
  have hf := frt_22_4
  unfold fRt at hf
  split at hf
  · rename_i t3 hq
    cases hf
    obtain ⟨fs, v, w1, w2, ⟨z, z1, z2⟩, _⟩ := fty_ok hw (show ZZ.2 c = some _ from hc) hq
    obtain ⟨k, rfl, z3⟩ := z1
    obtain ⟨k', z4, z5⟩ := z2
    have e : k' = k := by omega
    subst e
    rw [gR_at w1 w2]
    exact z5
  · cases hf
theorem cS_hO {E : List (Nat × Nat)} {c : Nat} {D : Nat → Int} {m : Nat} {w w' : sW} (hw : wOk ZZ w) (hc : ztau c = some 22) (o : hO E w w') (h : sF E = false) (p : cS c D m w) : cS c D m w' ∧ gF w' c 8 = gF w c 8 := by
  unfold sF at h
  simp only [Bool.or_eq_false_iff] at h
  obtain ⟨h4, h5, h6, h8, h26⟩ := h
  have e4 : gR w' c 4 = gR w c 4 := fr_gR (t := 22) (c := c) o.2 hc h4 (c22 hc) hw
  refine ⟨⟨(fr_gF (t := 22) (c := c) o.2 hc h5 hw (c22 hc)).trans p.1, fun i hi => ?_, (fr_gF (t := 22) (c := c) o.2 hc h6 hw (c22 hc)).trans p.2.2⟩, fr_gF (t := 22) (c := c) o.2 hc h8 hw (c22 hc)⟩
  rw [e4, fr_gX2 o.2 (aS_26 hw hc) h26 i]
  exact p.2.1 i hi
theorem s_forget7 {kn : sKn} {w : sW} (hw : wOk ZZ w) {k1 : Nat} (hk1 : ztau k1 = some 22) : ∃ (w' : sW), fX7_forget kn [.ref k1] w = some (none, w', 0, 0) ∧ hO dX7_forget w w' := by
  obtain ⟨r, w', h1, h2, q, hq, σ', h3, h4, h5, h6⟩ := con_use (con_X7_forget_0 kn) (σ := [0, (k1 : Int)]) (av := [.ref k1]) (w := w) rfl rfl ⟨av_r rfl, trivial⟩ (fun q hq => by cases hq) (gE_c ⟨_, rfl, _, rfl, hk1⟩ (gE_n)) hw (by simp only [xa_eq, List.all_cons, List.all_nil, Bool.and_true, Bool.and_eq_true]; exact tw hk1)
  rcases List.mem_singleton.mp hq with rfl
  rw [gS_v h4] at h1
  exact ⟨w', h1, h2⟩
theorem s_readSaying7 {kn : sKn} {w : sW} (hw : wOk ZZ w) {k1 : Nat} (hk1 : ztau k1 = some 22) {k2 : Nat} (hk2 : ztau k2 = some 5) : ∃ (w' : sW) (z : Int), fX7_readSaying kn [.ref k1, .ref 1, .ref k2] w = some (some (hI z), w', 0, 0) ∧ hO dX7_readSaying w w' ∧ (z = 1 ∨ z = 0) := by
  obtain ⟨r, w', h1, h2, q, hq, σ', h3, h4, h5, h6⟩ := con_use (con_X7_readSaying_0 kn) (σ := [0, (k1 : Int), (k2 : Int)]) (av := [.ref k1, .ref 1, .ref k2]) (w := w) rfl rfl ⟨av_r rfl, av_c (k := 1) rfl, av_r rfl, trivial⟩ (fun q hq => by cases hq) (gE_c ⟨_, rfl, _, rfl, hk2⟩ (gE_c ⟨_, rfl, _, rfl, hk1⟩ (gE_n))) hw (by simp only [xa_eq, List.all_cons, List.all_nil, Bool.and_true, Bool.and_eq_true]; exact ⟨tw hk1, rfl, tw hk2⟩)
  rcases List.mem_cons.mp hq with rfl | hq
  · obtain ⟨z, z1, z2, z3⟩ := gS_i h4
    rw [z2] at h1
    have z4 := h3 0 0 rfl
    rw [z4] at z1
    cases z1
    refine ⟨w', _, h1, h2, ?_⟩
    omega
  rcases List.mem_singleton.mp hq with rfl
  obtain ⟨z, z1, z2, z3⟩ := gS_i h4
  rw [z2] at h1
  have z4 := h3 0 0 rfl
  rw [z4] at z1
  cases z1
  refine ⟨w', _, h1, h2, ?_⟩
  omega
theorem s_readOne7 {kn : sKn} {w : sW} (hw : wOk ZZ w) {k1 : Nat} (hk1 : ztau k1 = some 22) {k2 : Nat} (hk2 : ztau k2 = some 5) : ∃ (w' : sW) (z : Int), fX7_readOne kn [.ref k1, .ref 1, .ref k2] w = some (some (hI z), w', 0, 0) ∧ hO dX7_readOne w w' ∧ (z = 0 ∨ z = 1) := by
  obtain ⟨r, w', h1, h2, q, hq, σ', h3, h4, h5, h6⟩ := con_use (con_X7_readOne_0 kn) (σ := [0, (k1 : Int), (k2 : Int)]) (av := [.ref k1, .ref 1, .ref k2]) (w := w) rfl rfl ⟨av_r rfl, av_c (k := 1) rfl, av_r rfl, trivial⟩ (fun q hq => by cases hq) (gE_c ⟨_, rfl, _, rfl, hk2⟩ (gE_c ⟨_, rfl, _, rfl, hk1⟩ (gE_n))) hw (by simp only [xa_eq, List.all_cons, List.all_nil, Bool.and_true, Bool.and_eq_true]; exact ⟨tw hk1, rfl, tw hk2⟩)
  rcases List.mem_cons.mp hq with rfl | hq
  · obtain ⟨z, z1, z2, z3⟩ := gS_i h4
    rw [z2] at h1
    have z4 := h3 0 0 rfl
    rw [z4] at z1
    cases z1
    refine ⟨w', _, h1, h2, ?_⟩
    omega
  rcases List.mem_singleton.mp hq with rfl
  obtain ⟨z, z1, z2, z3⟩ := gS_i h4
  rw [z2] at h1
  have z4 := h3 0 0 rfl
  rw [z4] at z1
  cases z1
  refine ⟨w', _, h1, h2, ?_⟩
  omega
theorem s_closeBrackets7 {kn : sKn} {w : sW} (hw : wOk ZZ w) {k1 : Nat} (hk1 : ztau k1 = some 22) : ∃ (w' : sW), fX7_closeBrackets kn [.ref k1, .ref 1] w = some (none, w', 0, 0) ∧ hO dX7_closeBrackets w w' := by
  obtain ⟨r, w', h1, h2, q, hq, σ', h3, h4, h5, h6⟩ := con_use (con_X7_closeBrackets_0 kn) (σ := [0, (k1 : Int)]) (av := [.ref k1, .ref 1]) (w := w) rfl rfl ⟨av_r rfl, av_c (k := 1) rfl, trivial⟩ (fun q hq => by cases hq) (gE_c ⟨_, rfl, _, rfl, hk1⟩ (gE_n)) hw (by simp only [xa_eq, List.all_cons, List.all_nil, Bool.and_true, Bool.and_eq_true]; exact ⟨tw hk1, rfl⟩)
  rcases List.mem_singleton.mp hq with rfl
  rw [gS_v h4] at h1
  exact ⟨w', h1, h2⟩
theorem s_readJoin7 {kn : sKn} {w : sW} (hw : wOk ZZ w) {k1 : Nat} (hk1 : ztau k1 = some 22) : ∃ (w' : sW) (z : Int), fX7_readJoin kn [.ref k1, .ref 1] w = some (some (hI z), w', 0, 0) ∧ hO dX7_readJoin w w' ∧ (z = 0 ∨ z = 1) := by
  obtain ⟨r, w', h1, h2, q, hq, σ', h3, h4, h5, h6⟩ := con_use (con_X7_readJoin_0 kn) (σ := [0, (k1 : Int)]) (av := [.ref k1, .ref 1]) (w := w) rfl rfl ⟨av_r rfl, av_c (k := 1) rfl, trivial⟩ (fun q hq => by cases hq) (gE_c ⟨_, rfl, _, rfl, hk1⟩ (gE_n)) hw (by simp only [xa_eq, List.all_cons, List.all_nil, Bool.and_true, Bool.and_eq_true]; exact ⟨tw hk1, rfl⟩)
  rcases List.mem_cons.mp hq with rfl | hq
  · obtain ⟨z, z1, z2, z3⟩ := gS_i h4
    rw [z2] at h1
    have z4 := h3 0 0 rfl
    rw [z4] at z1
    cases z1
    refine ⟨w', _, h1, h2, ?_⟩
    omega
  rcases List.mem_singleton.mp hq with rfl
  obtain ⟨z, z1, z2, z3⟩ := gS_i h4
  rw [z2] at h1
  have z4 := h3 0 0 rfl
  rw [z4] at z1
  cases z1
  refine ⟨w', _, h1, h2, ?_⟩
  omega
theorem s_read7 {kn : sKn} {w : sW} (hw : wOk ZZ w) {k1 : Nat} (hk1 : ztau k1 = some 22) {k2 : Nat} (hk2 : ztau k2 = some 5) : ∃ (w' : sW) (z : Int), fX7_read kn [.ref k1, .ref 1, .ref k2] w = some (some (hI z), w', 0, 0) ∧ hO dX7_read w w' ∧ (z = 0 ∨ z = 1) := by
  obtain ⟨r, w', h1, h2, q, hq, σ', h3, h4, h5, h6⟩ := con_use (con_X7_read_0 kn) (σ := [0, (k1 : Int), (k2 : Int)]) (av := [.ref k1, .ref 1, .ref k2]) (w := w) rfl rfl ⟨av_r rfl, av_c (k := 1) rfl, av_r rfl, trivial⟩ (fun q hq => by cases hq) (gE_c ⟨_, rfl, _, rfl, hk2⟩ (gE_c ⟨_, rfl, _, rfl, hk1⟩ (gE_n))) hw (by simp only [xa_eq, List.all_cons, List.all_nil, Bool.and_true, Bool.and_eq_true]; exact ⟨tw hk1, rfl, tw hk2⟩)
  rcases List.mem_cons.mp hq with rfl | hq
  · obtain ⟨z, z1, z2, z3⟩ := gS_i h4
    rw [z2] at h1
    have z4 := h3 0 0 rfl
    rw [z4] at z1
    cases z1
    refine ⟨w', _, h1, h2, ?_⟩
    omega
  rcases List.mem_singleton.mp hq with rfl
  obtain ⟨z, z1, z2, z3⟩ := gS_i h4
  rw [z2] at h1
  have z4 := h3 0 0 rfl
  rw [z4] at z1
  cases z1
  refine ⟨w', _, h1, h2, ?_⟩
  omega
theorem s_settle7 {kn : sKn} {w : sW} (hw : wOk ZZ w) {k1 : Nat} (hk1 : ztau k1 = some 22) (x2 : Int) (hx2 : (-2147483648) ≤ x2 ∧ x2 ≤ 2147483647) : ∃ (w' : sW), fX7_settle kn [.ref k1, hI x2] w = some (none, w', 0, 0) ∧ hO dX7_settle w w' := by
  obtain ⟨r, w', h1, h2, q, hq, σ', h3, h4, h5, h6⟩ := con_use (con_X7_settle_0 kn) (σ := [0, (k1 : Int), x2]) (av := [.ref k1, hI x2]) (w := w) rfl rfl ⟨av_r rfl, av_i rfl ⟨by omega, by omega⟩, trivial⟩ (fun q hq => by cases hq) (gE_c ⟨_, rfl, hx2⟩ (gE_c ⟨_, rfl, _, rfl, hk1⟩ (gE_n))) hw (by simp only [xa_eq, List.all_cons, List.all_nil, Bool.and_true, Bool.and_eq_true]; exact ⟨tw hk1, rfl⟩)
  rcases List.mem_singleton.mp hq with rfl
  rw [gS_v h4] at h1
  exact ⟨w', h1, h2⟩
theorem s_settleNots7 {kn : sKn} {w : sW} (hw : wOk ZZ w) {k1 : Nat} (hk1 : ztau k1 = some 22) : ∃ (w' : sW) (z : Int), fX7_settleNots kn [.ref k1] w = some (some (hI z), w', 0, 0) ∧ hO dX7_settleNots w w' ∧ (z = 1) := by
  obtain ⟨r, w', h1, h2, q, hq, σ', h3, h4, h5, h6⟩ := con_use (con_X7_settleNots_0 kn) (σ := [0, (k1 : Int)]) (av := [.ref k1]) (w := w) rfl rfl ⟨av_r rfl, trivial⟩ (fun q hq => by cases hq) (gE_c ⟨_, rfl, _, rfl, hk1⟩ (gE_n)) hw (by simp only [xa_eq, List.all_cons, List.all_nil, Bool.and_true, Bool.and_eq_true]; exact tw hk1)
  rcases List.mem_singleton.mp hq with rfl
  obtain ⟨z, z1, z2, z3⟩ := gS_i h4
  rw [z2] at h1
  have z4 := h3 0 0 rfl
  rw [z4] at z1
  cases z1
  refine ⟨w', _, h1, h2, ?_⟩
  omega
theorem s_beginsOne7 {kn : sKn} {w : sW} (hw : wOk ZZ w)  : ∃ (w' : sW) (z : Int), fX7_beginsOne kn [.ref 1] w = some (some (hI z), w', 0, 0) ∧ hO dX7_beginsOne w w' ∧ (z = 1 ∨ z = 0) := by
  obtain ⟨r, w', h1, h2, q, hq, σ', h3, h4, h5, h6⟩ := con_use (con_X7_beginsOne_0 kn) (σ := [0]) (av := [.ref 1]) (w := w) rfl rfl ⟨av_c (k := 1) rfl, trivial⟩ (fun q hq => by cases hq) (gE_n) hw rfl
  rcases List.mem_cons.mp hq with rfl | hq
  · obtain ⟨z, z1, z2, z3⟩ := gS_i h4
    rw [z2] at h1
    have z4 := h3 0 0 rfl
    rw [z4] at z1
    cases z1
    refine ⟨w', _, h1, h2, ?_⟩
    omega
  rcases List.mem_singleton.mp hq with rfl
  obtain ⟨z, z1, z2, z3⟩ := gS_i h4
  rw [z2] at h1
  have z4 := h3 0 0 rfl
  rw [z4] at z1
  cases z1
  refine ⟨w', _, h1, h2, ?_⟩
  omega
theorem s_isRelation7 {kn : sKn} {w : sW} (hw : wOk ZZ w)  : ∃ (w' : sW) (z : Int), fX7_isRelation kn [.ref 1] w = some (some (hI z), w', 0, 0) ∧ hO dX7_isRelation w w' ∧ (z = 0 ∨ z = 1) := by
  obtain ⟨r, w', h1, h2, q, hq, σ', h3, h4, h5, h6⟩ := con_use (con_X7_isRelation_0 kn) (σ := [0]) (av := [.ref 1]) (w := w) rfl rfl ⟨av_c (k := 1) rfl, trivial⟩ (fun q hq => by cases hq) (gE_n) hw rfl
  rcases List.mem_cons.mp hq with rfl | hq
  · obtain ⟨z, z1, z2, z3⟩ := gS_i h4
    rw [z2] at h1
    have z4 := h3 0 0 rfl
    rw [z4] at z1
    cases z1
    refine ⟨w', _, h1, h2, ?_⟩
    omega
  rcases List.mem_singleton.mp hq with rfl
  obtain ⟨z, z1, z2, z3⟩ := gS_i h4
  rw [z2] at h1
  have z4 := h3 0 0 rfl
  rw [z4] at z1
  cases z1
  refine ⟨w', _, h1, h2, ?_⟩
  omega
theorem x_delay7 {kn : sKn} {w : sW} (hw : wOk ZZ w) {c : Nat} (hc : ztau c = some 22) {D : Nat → Int} {m : Nat} (hS : cS c D m w) (hm : m < 40) (a : Int) (ha : R32 a) : ∃ w', fX7_delay kn [.ref c, hI a] w = some (none, w', 0, 0) ∧ hO dX7_delay w w' ∧ gF w' c 5 = ((m + 1 : Nat) : Int) ∧ (∀ i, i < m + 1 → gX w' (gR w' c 4) i = zU D m a i) ∧ gF w' c 6 = gF w c 6 ∧ gF w' c 8 = gF w c 8 := by
  have ha1 := ha.1
  have ha2 := ha.2
  have K : Tp (tX7_delay kn) (fun r => ∃ w', r = (none, w', 0, 0) ∧ hO dX7_delay w w' ∧ gF w' c 5 = ((m + 1 : Nat) : Int) ∧ (∀ i, i < m + 1 → gX w' (gR w' c 4) i = zU D m a i) ∧ gF w' c 6 = gF w c 6 ∧ gF w' c 8 = gF w c 8) 0 (lv_args 0 [.ref c, hI a], [], w, 0, 0) := by
    have l0 : hL (lv_args 0 [.ref c, hI a]) (lv_args 0 [.ref c, hI a]) := ⟨fun _ _ h => h, fun q hq => by
      rcases List.mem_cons.mp hq with e | hq
      · rw [e]
        exact ⟨rfl, tw hc⟩
      rcases List.mem_cons.mp hq with e | hq
      · rw [e]
        exact ⟨rfl, rfl⟩
      cases hq⟩
    have o0 : hO dX7_delay w w := hO_rf hw
    refine h_aload rfl l0 rfl ?_
    refine h_getI rfl o0 (fI_of hc fit_22_5) (fun b1 b2 => ?_)
    rw [hS.1] at b1 b2 ⊢
    refine h_intv k_40 rfl ?_
    refine i_ge (kn := kn) (t := 3) (tgt := 29) (np := 9) rfl (by unfold R32; omega) (by unfold R32; omega) (fun e1 => ?_) (fun e1 => ?_)
    · omega
    · refine h_aload rfl l0 rfl ?_
      refine h_getT rfl o0 hc frt_22_4 (fun k0 hk0 rk0 => ?_)
      refine h_aload rfl l0 rfl ?_
      refine h_getI rfl o0 (fI_of hc fit_22_5) (fun b3 b4 => ?_)
      rw [hS.1] at b3 b4 ⊢
      refine h_iload rfl l0 rfl ?_
      refine x_iast (m) rfl o0 (aI_of hk0 ait_26) rfl rfl (aP_of hk0 apt_26) (by omega) (by omega) (by omega) (by omega) (by omega) (by omega) (by unfold R32; omega) (fun w1 o1 q1a q1X q1F q1J q1Y q1R => ?_)
      refine h_aload rfl l0 rfl ?_
      refine h_dup rfl rfl ?_
      refine h_getI rfl o1 (fI_of hc fit_22_5) (fun b9 b10 => ?_)
      rw [q1F c 5, hS.1] at b9 b10 ⊢
      refine h_intv k_1 rfl ?_
      refine h_iadd rfl ?_
      refine x_putI rfl o1 (fI_of hc fit_22_5) rfl (by omega) (by omega) (fun w4 o4 q4a q4F q4X q4J q4Y q4R => ?_)
      refine h_vret rfl ?_
      refine ⟨_, rfl, o4, by rw [q4a]; omega, fun i hi => ?_, (q4F c 6 (fun _ => by decide)).trans (q1F c 6), (q4F c 8 (fun _ => by decide)).trans (q1F c 8)⟩
      rw [q4R c 4, q1R c 4, rk0, q4X k0 i]
      by_cases e : i = m
      · rw [e, zU_s]
        exact q1a
      · rw [zU_n D a e, q1X k0 i (fun _ => e), ← rk0]
        exact hS.2.1 i (by omega)
  obtain ⟨r, h1, w', h2, h3⟩ := h_meth1 (nL := 2) rfl K
  rw [h2] at h1
  exact ⟨w', h1, h3⟩
theorem dPs : msub dX7_put dX7_settle = true := by decide +kernel
theorem dPn : msub dX7_put dX7_settleNots = true := by decide +kernel
theorem x_settle_l {kn : sKn} {w : sW} (hw : wOk ZZ w) {c : Nat} (hc : ztau c = some 22) {D : Nat → Int} {m : Nat} (j : Int) (hj : R32 j) : ∀ (t k m' : Nat) (w1 : sW) (lv : List (Nat × Value)), k + t = 40 → m' ≤ t → hO dX7_settle w w1 → gF w1 c 5 = (m' : Int) → (∀ i, i < m' → gX w1 (gR w1 c 4) i = D i) → zPop j D m' = zPop j D m → hL lv [(0, .ref c), (1, hI j), (2, hI k)] → Tp (tX7_settle kn) (fun r => ∃ w', r = (none, w', 0, 0) ∧ gF w' c 5 = ((zPop j D m : Nat) : Int)) 2 (lv, [], w1, 0, 0) := by
  have hj1 := hj.1
  have hj2 := hj.2
  intro t
  induction t with
  | zero =>
    intro k m' w1 lv hk hm o0 h5 hD hz l0
    refine h_iload rfl l0 rfl ?_
    refine h_intv k_40 rfl ?_
    refine i_ge (kn := kn) (t := 3) (tgt := 69) (np := 8) rfl (by unfold R32; omega) (by unfold R32; omega) (fun e1 => ?_) (fun e1 => ?_)
    · refine h_vret rfl ?_
      have e : m' = 0 := by omega
      subst e
      exact ⟨_, rfl, by rw [h5, ← hz]; rfl⟩
    · omega
  | succ t ih =>
    intro k m' w1 lv hk hm o0 h5 hD hz l0
    refine h_iload rfl l0 rfl ?_
    refine h_intv k_40 rfl ?_
    refine i_ge (kn := kn) (t := 3) (tgt := 69) (np := 8) rfl (by unfold R32; omega) (by unfold R32; omega) (fun e1 => ?_) (fun e1 => ?_)
    · omega
    · refine h_aload rfl l0 rfl ?_
      refine h_getI rfl o0 (fI_of hc fit_22_5) (fun b1 b2 => ?_)
      rw [h5] at b1 b2 ⊢
      refine j_le (kn := kn) (t := 5) (tgt := 69) (np := 15) rfl (by unfold R32; omega) (fun e2 => ?_) (fun e2 => ?_)
      · refine h_vret rfl ?_
        have e : m' = 0 := by omega
        subst e
        exact ⟨_, rfl, by rw [h5, ← hz]; rfl⟩
      · obtain ⟨m2, rfl⟩ : ∃ m2 : Nat, m' = m2 + 1 := ⟨m' - 1, by omega⟩
        refine h_aload rfl l0 rfl ?_
        refine h_getT rfl o0 hc frt_22_4 (fun k0 hk0 rk0 => ?_)
        refine h_aload rfl l0 rfl ?_
        refine h_getI rfl o0 (fI_of hc fit_22_5) (fun b3 b4 => ?_)
        rw [h5] at b3 b4 ⊢
        refine h_intv k_1 rfl ?_
        refine h_isub rfl ?_
        refine h_ialdj (m2) rfl o0 (aI_of hk0 ait_26) rfl (by omega) (by omega) (fun b5 b6 => ?_)
        have eD : gX w1 k0 m2 = D m2 := by
          rw [← rk0]
          exact hD m2 (by omega)
        rw [eD] at b5 b6 ⊢
        refine h_istore rfl l0 (fun v7 l7 => ?_)
        refine h_iload rfl l7 rfl ?_
        refine h_intv k_100 rfl ?_
        have hz' : zPop j D (m2 + 1) = if D m2 = 100 ∨ (j = 16 ∧ D m2 = 15) then m2 + 1 else zPop j D m2 := rfl
        refine i_eq (kn := kn) (t := 0) (tgt := 45) (np := 33) rfl (by unfold R32; omega) (by unfold R32; omega) (fun e8 => ?_) (fun e8 => ?_)
        · refine h_vret rfl ?_
          rw [if_pos (by omega)] at hz'
          exact ⟨_, rfl, by rw [h5, ← hz, hz']⟩
        · refine h_iload rfl l7 rfl ?_
          refine h_intv k_16 rfl ?_
          refine i_ne (kn := kn) (t := 1) (tgt := 46) (np := 39) rfl (by unfold R32; omega) (by unfold R32; omega) (fun e9 => ?_) (fun e9 => ?_)
          · rw [if_neg (by omega)] at hz'
            refine h_aload rfl l7 rfl ?_
            refine h_dup rfl rfl ?_
            refine h_getI rfl o0 (fI_of hc fit_22_5) (fun b11 b12 => ?_)
            rw [h5] at b11 b12 ⊢
            refine h_intv k_1 rfl ?_
            refine h_isub rfl ?_
            refine x_putI rfl o0 (fI_of hc fit_22_5) rfl (by omega) (by omega) (fun w2 o2 q2a q2F q2X q2J q2Y q2R => ?_)
            refine h_aload rfl l7 rfl ?_
            refine h_iload rfl l7 rfl ?_
            refine h_intv k_0 rfl ?_
            refine h_intv k_0 rfl ?_
            obtain ⟨w4, hf4, o4'⟩ := s_put7 (kn := kn) o2.1 hc (D m2) 0 0 ⟨by omega, by omega⟩ ⟨by omega, by omega⟩ ⟨by omega, by omega⟩ (by unfold okCN; omega)
            have o4 := hO_tr o2 (hO_mono dPs o4')
            refine h_W4 rfl o2 l7 (cI_of hc cit_22) rfl rfl hf4 ?_
            refine h_iincv k_1 rfl l7 rfl (fun v13 l13 => ?_)
            refine h_goto rfl ?_
            have e5 : gF w4 c 5 = gF w2 c 5 := fr_gF (t := 22) (c := c) o4'.2 hc (by decide +kernel) o2.1 (c22 hc)
            have e4 : gR w4 c 4 = k0 := ((fr_gR (t := 22) (c := c) o4'.2 hc (by decide +kernel) (c22 hc) o2.1).trans (q2R c 4)).trans rk0
            refine ih (k + 1) m2 w4 _ (by omega) (by omega) o4 (by rw [e5, q2a]; omega) (fun i hi => ?_) (by rw [← hz', hz]) (hL_take 3 l13)
            rw [e4, fr_gX2 o4'.2 hk0 (by decide +kernel) i, q2X, ← rk0]
            exact hD i (by omega)
          · refine h_iload rfl l7 rfl ?_
            refine h_intv k_15 rfl ?_
            refine i_ne (kn := kn) (t := 1) (tgt := 46) (np := 45) rfl (by unfold R32; omega) (by unfold R32; omega) (fun e10 => ?_) (fun e10 => ?_)
            · rw [if_neg (by omega)] at hz'
              refine h_aload rfl l7 rfl ?_
              refine h_dup rfl rfl ?_
              refine h_getI rfl o0 (fI_of hc fit_22_5) (fun b11 b12 => ?_)
              rw [h5] at b11 b12 ⊢
              refine h_intv k_1 rfl ?_
              refine h_isub rfl ?_
              refine x_putI rfl o0 (fI_of hc fit_22_5) rfl (by omega) (by omega) (fun w2 o2 q2a q2F q2X q2J q2Y q2R => ?_)
              refine h_aload rfl l7 rfl ?_
              refine h_iload rfl l7 rfl ?_
              refine h_intv k_0 rfl ?_
              refine h_intv k_0 rfl ?_
              obtain ⟨w4, hf4, o4'⟩ := s_put7 (kn := kn) o2.1 hc (D m2) 0 0 ⟨by omega, by omega⟩ ⟨by omega, by omega⟩ ⟨by omega, by omega⟩ (by unfold okCN; omega)
              have o4 := hO_tr o2 (hO_mono dPs o4')
              refine h_W4 rfl o2 l7 (cI_of hc cit_22) rfl rfl hf4 ?_
              refine h_iincv k_1 rfl l7 rfl (fun v13 l13 => ?_)
              refine h_goto rfl ?_
              have e5 : gF w4 c 5 = gF w2 c 5 := fr_gF (t := 22) (c := c) o4'.2 hc (by decide +kernel) o2.1 (c22 hc)
              have e4 : gR w4 c 4 = k0 := ((fr_gR (t := 22) (c := c) o4'.2 hc (by decide +kernel) (c22 hc) o2.1).trans (q2R c 4)).trans rk0
              refine ih (k + 1) m2 w4 _ (by omega) (by omega) o4 (by rw [e5, q2a]; omega) (fun i hi => ?_) (by rw [← hz', hz]) (hL_take 3 l13)
              rw [e4, fr_gX2 o4'.2 hk0 (by decide +kernel) i, q2X, ← rk0]
              exact hD i (by omega)
            · refine h_vret rfl ?_
              rw [if_pos (by omega)] at hz'
              exact ⟨_, rfl, by rw [h5, ← hz, hz']⟩
theorem x_settle7 {kn : sKn} {w : sW} (hw : wOk ZZ w) {c : Nat} (hc : ztau c = some 22) {D : Nat → Int} {m : Nat} (hS : cS c D m w) (j : Int) (hj : R32 j) : ∃ w', fX7_settle kn [.ref c, hI j] w = some (none, w', 0, 0) ∧ hO dX7_settle w w' ∧ gF w' c 5 = ((zPop j D m : Nat) : Int) := by
  have K : Tp (tX7_settle kn) (fun r => ∃ w', r = (none, w', 0, 0) ∧ gF w' c 5 = ((zPop j D m : Nat) : Int)) 0 (lv_args 0 [.ref c, hI j], [], w, 0, 0) := by
    have l0 : hL (lv_args 0 [.ref c, hI j]) (lv_args 0 [.ref c, hI j]) := ⟨fun _ _ h => h, fun q hq => by
      rcases List.mem_cons.mp hq with e | hq
      · rw [e]
        exact ⟨rfl, tw hc⟩
      rcases List.mem_cons.mp hq with e | hq
      · rw [e]
        exact ⟨rfl, rfl⟩
      cases hq⟩
    have o0 : hO dX7_settle w w := hO_rf hw
    have hm : m ≤ 40 := by
      obtain ⟨_, _, _, _, _, _, _, g1, g2⟩ := fI_ok o0 (fI_of hc fit_22_5)
      rw [hS.1] at g2
      omega
    refine h_intv k_0 rfl ?_
    refine h_istore rfl l0 (fun v1 l1 => ?_)
    exact x_settle_l hw hc j hj 40 0 m w _ rfl hm o0 hS.1 hS.2.1 rfl l1
  obtain ⟨r, h1, w', h2, h3⟩ := h_meth1 (nL := 4) rfl K
  rw [h2] at h1
  obtain ⟨w2, g1, g2⟩ := s_settle7 (kn := kn) hw hc j hj
  have e := one_r g1 h1
  simp only [Prod.mk.injEq] at e
  obtain ⟨_, e2, _⟩ := e
  subst e2
  exact ⟨w2, g1, g2, h3⟩
theorem x_settleNots_l {kn : sKn} {w : sW} (hw : wOk ZZ w) {c : Nat} (hc : ztau c = some 22) {D : Nat → Int} {m : Nat} {i0 : Int} : ∀ (t k m' : Nat) (w1 : sW) (lv : List (Nat × Value)), k + t = 8 → m' ≤ zNot D m' + t → m' ≤ m → hO dX7_settleNots w w1 → gF w1 c 5 = (m' : Int) → (∀ i, i < m' → gX w1 (gR w1 c 4) i = D i) → gF w1 c 6 = i0 - ((m : Int) - (m' : Int)) → (-1000 ≤ i0 ∧ i0 ≤ 1000) → m ≤ 40 → zNot D m' = zNot D m → hL lv [(0, .ref c), (1, hI k)] → Tp (tX7_settleNots kn) (fun r => ∃ w', r = (some (hI 1), w', 0, 0) ∧ gF w' c 5 = ((zNot D m : Nat) : Int) ∧ gF w' c 6 = i0 - ((m : Int) - ((zNot D m : Nat) : Int))) 2 (lv, [], w1, 0, 0) := by
  intro t
  induction t with
  | zero =>
    intro k m' w1 lv hk hm hmm o0 h5 hD h6 hi0 hm40 hz l0
    refine h_iload rfl l0 rfl ?_
    refine h_intv k_8 rfl ?_
    refine i_ge (kn := kn) (t := 3) (tgt := 65) (np := 8) rfl (by unfold R32; omega) (by unfold R32; omega) (fun e1 => ?_) (fun e1 => ?_)
    · refine h_intv k_1 rfl ?_
      refine h_zret (by omega) rfl ?_
      have e := (zNot_i (D := D) m').1
      have e2 : m' = zNot D m := by omega
      exact ⟨_, rfl, by rw [h5, e2], by rw [h6, e2]⟩
    · omega
  | succ t ih =>
    intro k m' w1 lv hk hm hmm o0 h5 hD h6 hi0 hm40 hz l0
    refine h_iload rfl l0 rfl ?_
    refine h_intv k_8 rfl ?_
    refine i_ge (kn := kn) (t := 3) (tgt := 65) (np := 8) rfl (by unfold R32; omega) (by unfold R32; omega) (fun e1 => ?_) (fun e1 => ?_)
    · omega
    · refine h_aload rfl l0 rfl ?_
      refine h_getI rfl o0 (fI_of hc fit_22_5) (fun b1 b2 => ?_)
      rw [h5] at b1 b2 ⊢
      refine j_le (kn := kn) (t := 5) (tgt := 65) (np := 15) rfl (by unfold R32; omega) (fun e2 => ?_) (fun e2 => ?_)
      · refine h_intv k_1 rfl ?_
        refine h_zret (by omega) rfl ?_
        have e : m' = 0 := by omega
        subst e
        have hz : 0 = zNot D m := hz
        exact ⟨_, rfl, by rw [h5, ← hz], by rw [h6, ← hz]⟩
      · obtain ⟨m2, rfl⟩ : ∃ m2 : Nat, m' = m2 + 1 := ⟨m' - 1, by omega⟩
        refine h_aload rfl l0 rfl ?_
        refine h_getT rfl o0 hc frt_22_4 (fun k0 hk0 rk0 => ?_)
        refine h_aload rfl l0 rfl ?_
        refine h_getI rfl o0 (fI_of hc fit_22_5) (fun b3 b4 => ?_)
        rw [h5] at b3 b4 ⊢
        refine h_intv k_1 rfl ?_
        refine h_isub rfl ?_
        refine h_ialdj (m2) rfl o0 (aI_of hk0 ait_26) rfl (by omega) (by omega) (fun b5 b6 => ?_)
        have eD : gX w1 k0 m2 = D m2 := by
          rw [← rk0]
          exact hD m2 (by omega)
        rw [eD] at b5 b6 ⊢
        refine h_intv k_17 rfl ?_
        have hz' : zNot D (m2 + 1) = if D m2 = 17 then zNot D m2 else m2 + 1 := rfl
        refine i_ne (kn := kn) (t := 1) (tgt := 65) (np := 31) rfl (by unfold R32; omega) (by unfold R32; omega) (fun e8 => ?_) (fun e8 => ?_)
        · refine h_intv k_1 rfl ?_
          refine h_zret (by omega) rfl ?_
          rw [if_neg (by omega)] at hz'
          exact ⟨_, rfl, by rw [h5, ← hz, hz'], by rw [h6, ← hz, hz']⟩
        · rw [if_pos (by omega)] at hz'
          refine h_aload rfl l0 rfl ?_
          refine h_dup rfl rfl ?_
          refine h_getI rfl o0 (fI_of hc fit_22_5) (fun b11 b12 => ?_)
          rw [h5] at b11 b12 ⊢
          refine h_intv k_1 rfl ?_
          refine h_isub rfl ?_
          refine x_putI rfl o0 (fI_of hc fit_22_5) rfl (by omega) (by omega) (fun w2 o2 q2a q2F q2X q2J q2Y q2R => ?_)
          refine h_aload rfl l0 rfl ?_
          refine h_dup rfl rfl ?_
          refine h_getI rfl o2 (fI_of hc fit_22_6) (fun b13 b14 => ?_)
          rw [q2F c 6 (fun _ => by decide), h6] at b13 b14 ⊢
          refine h_intv k_1 rfl ?_
          refine h_isub rfl ?_
          refine x_putI rfl o2 (fI_of hc fit_22_6) rfl (by omega) (by omega) (fun w3 o3 q3a q3F q3X q3J q3Y q3R => ?_)
          refine h_aload rfl l0 rfl ?_
          refine h_intv k_17 rfl ?_
          refine h_intv k_0 rfl ?_
          refine h_intv k_0 rfl ?_
          obtain ⟨w4, hf4, o4'⟩ := s_put7 (kn := kn) o3.1 hc 17 0 0 ⟨by omega, by omega⟩ ⟨by omega, by omega⟩ ⟨by omega, by omega⟩ (by unfold okCN; omega)
          have o4 := hO_tr o3 (hO_mono dPn o4')
          refine h_W4 rfl o3 l0 (cI_of hc cit_22) rfl rfl hf4 ?_
          refine h_iincv k_1 rfl l0 rfl (fun v5 l5 => ?_)
          refine h_goto rfl ?_
          have e5 : gF w4 c 5 = gF w3 c 5 := fr_gF (t := 22) (c := c) o4'.2 hc (by decide +kernel) o3.1 (c22 hc)
          have e6 : gF w4 c 6 = gF w3 c 6 := fr_gF (t := 22) (c := c) o4'.2 hc (by decide +kernel) o3.1 (c22 hc)
          have e4 : gR w4 c 4 = k0 := ((fr_gR (t := 22) (c := c) o4'.2 hc (by decide +kernel) (c22 hc) o3.1).trans ((q3R c 4).trans (q2R c 4))).trans rk0
          refine ih (k + 1) m2 w4 _ (by omega) (by omega) (by omega) o4 (by rw [e5, q3F c 5 (fun _ => by decide), q2a]; omega) (fun i hi => ?_) (by rw [e6, q3a]; omega) hi0 hm40 (by rw [← hz', hz]) l5
          rw [e4, fr_gX2 o4'.2 hk0 (by decide +kernel) i, q3X, q2X, ← rk0]
          exact hD i (by omega)
theorem x_settleNots7 {kn : sKn} {w : sW} (hw : wOk ZZ w) {c : Nat} (hc : ztau c = some 22) {D : Nat → Int} {m : Nat} (hS : gF w c 5 = (m : Int) ∧ (∀ i, i < m → gX w (gR w c 4) i = D i)) (h8 : m ≤ zNot D m + 8) (h6 : -1000 ≤ gF w c 6 ∧ gF w c 6 ≤ 1000) : ∃ w', fX7_settleNots kn [.ref c] w = some (some (hI 1), w', 0, 0) ∧ hO dX7_settleNots w w' ∧ gF w' c 5 = ((zNot D m : Nat) : Int) ∧ gF w' c 6 = gF w c 6 - ((m : Int) - ((zNot D m : Nat) : Int)) := by
  have K : Tp (tX7_settleNots kn) (fun r => ∃ w', r = (some (hI 1), w', 0, 0) ∧ gF w' c 5 = ((zNot D m : Nat) : Int) ∧ gF w' c 6 = gF w c 6 - ((m : Int) - ((zNot D m : Nat) : Int))) 0 (lv_args 0 [.ref c], [], w, 0, 0) := by
    have l0 : hL (lv_args 0 [.ref c]) (lv_args 0 [.ref c]) := ⟨fun _ _ h => h, fun q hq => by
      rcases List.mem_cons.mp hq with e | hq
      · rw [e]
        exact ⟨rfl, tw hc⟩
      cases hq⟩
    have o0 : hO dX7_settleNots w w := hO_rf hw
    have hm : m ≤ 40 := by
      obtain ⟨_, _, _, _, _, _, _, g1, g2⟩ := fI_ok o0 (fI_of hc fit_22_5)
      rw [hS.1] at g2
      omega
    refine h_intv k_0 rfl ?_
    refine h_istore rfl l0 (fun v1 l1 => ?_)
    exact x_settleNots_l hw hc 8 0 m w _ rfl h8 (Nat.le_refl _) o0 hS.1 hS.2 (by omega) h6 hm rfl l1
  obtain ⟨r, h1, w', h2, h3, h4⟩ := h_meth1 (nL := 2) rfl K
  rw [h2] at h1
  obtain ⟨w2, z, g1, g2, _⟩ := s_settleNots7 (kn := kn) hw hc
  have e := one_r g1 h1
  simp only [Prod.mk.injEq] at e
  obtain ⟨_, e2, _⟩ := e
  subst e2
  exact ⟨w2, h1, g2, h3, h4⟩
theorem x_isRel {kn : sKn} {w : sW} (hw : wOk ZZ w) : ∃ b : Int, fX7_isRelation kn [.ref 1] w = some (some (hI b), w, 0, 0) ∧ ((b = 1 ∧ gF w 1 4 = 2 ∧ (gF w 1 6 = 60 ∨ gF w 1 6 = 61 ∨ gF w 1 6 = 62)) ∨ (b = 0 ∧ (gF w 1 4 ≠ 2 ∨ (gF w 1 6 ≠ 60 ∧ gF w 1 6 ≠ 61 ∧ gF w 1 6 ≠ 62)))) := by
  have K : Tp (tX7_isRelation kn) (fun r => ∃ b : Int, r = (some (hI b), w, 0, 0) ∧ ((b = 1 ∧ gF w 1 4 = 2 ∧ (gF w 1 6 = 60 ∨ gF w 1 6 = 61 ∨ gF w 1 6 = 62)) ∨ (b = 0 ∧ (gF w 1 4 ≠ 2 ∨ (gF w 1 6 ≠ 60 ∧ gF w 1 6 ≠ 61 ∧ gF w 1 6 ≠ 62))))) 0 (lv_args 0 [.ref 1], [], w, 0, 0) := by
    have l0 : hL (lv_args 0 [.ref 1]) (lv_args 0 [.ref 1]) := hL_ex rfl
    have o0 : hO [] w w := hO_rf hw
    refine h_aload rfl l0 rfl ?_
    refine h_intv k_60 rfl ?_
    obtain ⟨z41, hf41, hz41⟩ := x_isSignOf (kn := kn) o0.1 60 ⟨by omega, by omega⟩
    refine h_V2 rfl o0 l0 ci_1 rfl rfl hf41 ?_
    refine j_ne (kn := kn) (t := 1) (tgt := 27) (np := 9) rfl (by unfold R32; omega) (fun e42 => ?_) (fun e42 => ?_)
    · refine h_intv k_1 rfl ?_
      refine h_goto rfl ?_
      refine h_zret (by omega) rfl ?_
      exact ⟨_, rfl, by omega⟩
    · refine h_aload rfl l0 rfl ?_
      refine h_intv k_61 rfl ?_
      obtain ⟨z43, hf43, hz43⟩ := x_isSignOf (kn := kn) o0.1 61 ⟨by omega, by omega⟩
      refine h_V2 rfl o0 l0 ci_1 rfl rfl hf43 ?_
      refine j_ne (kn := kn) (t := 1) (tgt := 27) (np := 18) rfl (by unfold R32; omega) (fun e44 => ?_) (fun e44 => ?_)
      · refine h_intv k_1 rfl ?_
        refine h_goto rfl ?_
        refine h_zret (by omega) rfl ?_
        exact ⟨_, rfl, by omega⟩
      · refine h_aload rfl l0 rfl ?_
        refine h_intv k_62 rfl ?_
        obtain ⟨z45, hf45, hz45⟩ := x_isSignOf (kn := kn) o0.1 62 ⟨by omega, by omega⟩
        refine h_V2 rfl o0 l0 ci_1 rfl rfl hf45 ?_
        refine j_eq (kn := kn) (t := 0) (tgt := 31) (np := 27) rfl (by unfold R32; omega) (fun e46 => ?_) (fun e46 => ?_)
        · refine h_intv k_0 rfl ?_
          refine h_zret (by omega) rfl ?_
          exact ⟨_, rfl, by omega⟩
        · refine h_intv k_1 rfl ?_
          refine h_goto rfl ?_
          refine h_zret (by omega) rfl ?_
          exact ⟨_, rfl, by omega⟩
  obtain ⟨r, h1, b, h2, h3⟩ := h_meth1 (nL := 1) rfl K
  rw [h2] at h1
  exact ⟨b, h1, h3⟩
theorem x_begins {kn : sKn} {w : sW} (hw : wOk ZZ w) : ∃ b : Int, fX7_beginsOne kn [.ref 1] w = some (some (hI b), w, 0, 0) ∧ ((b = 1 ∧ ((gF w 1 4 = 4 ∧ 17 ≤ gF w 1 6 ∧ gF w 1 6 ≤ 26) ∨ (gF w 1 4 = 2 ∧ gF w 1 6 = 40))) ∨ (b = 0 ∧ ¬ ((gF w 1 4 = 4 ∧ 17 ≤ gF w 1 6 ∧ gF w 1 6 ≤ 26) ∨ (gF w 1 4 = 2 ∧ gF w 1 6 = 40)))) := by
  have K : Tp (tX7_beginsOne kn) (fun r => ∃ b : Int, r = (some (hI b), w, 0, 0) ∧ ((b = 1 ∧ ((gF w 1 4 = 4 ∧ 17 ≤ gF w 1 6 ∧ gF w 1 6 ≤ 26) ∨ (gF w 1 4 = 2 ∧ gF w 1 6 = 40))) ∨ (b = 0 ∧ ¬ ((gF w 1 4 = 4 ∧ 17 ≤ gF w 1 6 ∧ gF w 1 6 ≤ 26) ∨ (gF w 1 4 = 2 ∧ gF w 1 6 = 40))))) 0 (lv_args 0 [.ref 1], [], w, 0, 0) := by
    have l0 : hL (lv_args 0 [.ref 1]) (lv_args 0 [.ref 1]) := hL_ex rfl
    have o0 : hO [] w w := hO_rf hw
    refine h_aload rfl l0 rfl ?_
    refine h_getI rfl o0 fi_1_4 (fun b41a b41b => ?_)
    refine h_intv k_4 rfl ?_
    refine i_ne (kn := kn) (t := 1) (tgt := 32) (np := 8) rfl (by unfold R32; omega) (by unfold R32; omega) (fun e42 => ?_) (fun e42 => ?_)
    · refine h_aload rfl l0 rfl ?_
      refine h_intv k_40 rfl ?_
      obtain ⟨z43, hf43, hz43⟩ := x_isSignOf (kn := kn) o0.1 40 ⟨by omega, by omega⟩
      refine h_V2 rfl o0 l0 ci_1 rfl rfl hf43 ?_
      refine h_zret (by omega) rfl ?_
      exact ⟨_, rfl, by omega⟩
    · refine h_aload rfl l0 rfl ?_
      refine h_getI rfl o0 fi_1_6 (fun b44a b44b => ?_)
      refine h_intv k_17 rfl ?_
      refine i_lt (kn := kn) (t := 2) (tgt := 30) (np := 17) rfl (by unfold R32; omega) (by unfold R32; omega) (fun e45 => ?_) (fun e45 => ?_)
      · refine h_intv k_0 rfl ?_
        refine h_zret (by omega) rfl ?_
        exact ⟨_, rfl, by omega⟩
      · refine h_aload rfl l0 rfl ?_
        refine h_getI rfl o0 fi_1_6 (fun b46a b46b => ?_)
        refine h_intv k_26 rfl ?_
        refine i_gt (kn := kn) (t := 4) (tgt := 30) (np := 26) rfl (by unfold R32; omega) (by unfold R32; omega) (fun e47 => ?_) (fun e47 => ?_)
        · refine h_intv k_0 rfl ?_
          refine h_zret (by omega) rfl ?_
          exact ⟨_, rfl, by omega⟩
        · refine h_intv k_1 rfl ?_
          refine h_goto rfl ?_
          refine h_zret (by omega) rfl ?_
          exact ⟨_, rfl, by omega⟩
  obtain ⟨r, h1, b, h2, h3⟩ := h_meth1 (nL := 1) rfl K
  rw [h2] at h1
  exact ⟨b, h1, h3⟩
def dSy : List (Nat × Nat) := dTk ++ dX7_put
theorem dSy_t : msub dTk dSy = true := by decide +kernel
theorem dSy_k : msub dH_tok dSy = true := by decide +kernel
theorem dSy_p : msub dX7_put dSy = true := by decide +kernel
theorem x_advS {kn : sKn} {w : sW} {B : Nat → Int} {n L : Nat} {S : tS} (hw : wOk ZZ w) (ht : tkC B n L S w) (hG : tkG B n L S) : ∃ w', fX9_advance kn [.ref 1] w = some (none, w', 0, 0) ∧ hO dH_tok w w' ∧ smW eTk w w' ∧ tkC B n L (nxT B n L S) w' := x_advance (kn := kn) ht.1 hw (p := S.2.2.2.2) (tkG_n hG) (tkV_i ht.2).2.1
def eS8 : List (Nat × Nat × Nat) := [(0, 1, 8)]
theorem x_readSay7 {kn : sKn} {w : sW} (hw : wOk ZZ w) {c : Nat} (hc : ztau c = some 22) {B : Nat → Int} {n : Nat} {R N : Nat → Int} {S : tS} (ht : tkC B n 200 S w) (hG : tkG B n 200 S) (hS : S.1 = 4 ∧ 18 ≤ S.2.2.1 ∧ S.2.2.1 ≤ 26) (hN : nmC R N w) : ∃ (w' : sW) (b : Int), fX7_readSaying kn [.ref c, .ref 1, .ref 14] w = some (some (hI b), w', 0, 0) ∧ hO dX7_readSaying w w' ∧ zOK (zSay B n 200 R N S.2.2.1 (nxT B n 200 S)) b (fun e => gF w' 1 11 = e.1 ∧ gF w' 1 12 = e.2) (fun T => tkC B n 200 T w' ∧ tkG B n 200 T) := by
  have hc1 : c ≠ 1 := fun z => by
    subst z
    cases hc
  obtain ⟨hat, hnx, hkI, hkN⟩ := tkV_i ht.2
  have hv6 : gF w 1 6 = S.2.2.1 := by omega
  have hR10 : R 1 ≤ 10 := by
    obtain ⟨_, _, _, _, _, _, _, g1, g2⟩ := fI_ok (hO_rf (D := []) hw) fq_14_2
    rw [hN.2.1] at g2
    exact g2
  have K : Tp (tX7_readSaying kn) (fun r => ∃ (w' : sW) (b : Int), r = (some (hI b), w', 0, 0) ∧ zOK (zSay B n 200 R N S.2.2.1 (nxT B n 200 S)) b (fun e => gF w' 1 11 = e.1 ∧ gF w' 1 12 = e.2) (fun T => tkC B n 200 T w' ∧ tkG B n 200 T)) 0 (lv_args 0 [.ref c, .ref 1, .ref 14], [], w, 0, 0) := by
    have l0 : hL (lv_args 0 [.ref c, .ref 1, .ref 14]) (lv_args 0 [.ref c, .ref 1, .ref 14]) := ⟨fun _ _ h => h, fun q hq => by
      rcases List.mem_cons.mp hq with e | hq
      · rw [e]
        exact ⟨rfl, tw hc⟩
      rcases List.mem_cons.mp hq with e | hq
      · rw [e]
        exact ⟨rfl, rfl⟩
      rcases List.mem_cons.mp hq with e | hq
      · rw [e]
        exact ⟨rfl, rfl⟩
      cases hq⟩
    have o0 : hO dSy w w := hO_rf hw
    refine h_aload rfl l0 rfl ?_
    refine h_getI rfl o0 fi_1_6 (fun b41a b41b => ?_)
    rw [hv6] at b41a b41b ⊢
    refine h_istore rfl l0 (fun vl42 l42 => ?_)
    refine h_intv k_0 rfl ?_
    refine h_istore rfl l42 (fun vl43 l43 => ?_)
    refine h_aload rfl l43 rfl ?_
    refine h_intv k_0 rfl ?_
    refine x_putI rfl o0 fi_1_8 rfl (by omega) (by omega) (fun w44 o44 q45a q45F q45X q45J q45Y q45R => ?_)
    refine h_aload rfl l43 rfl ?_
    obtain ⟨wA, hf46, oA', sA, tA⟩ := x_advS (kn := kn) o44.1 (tkC_sm (smW_tr (smW_rf eS8 _) (sm_pI (by decide) q45F q45X q45J q45Y q45R)) (by decide) ht) hG
    have oA := hO_tr o44 (hO_mono dSy_k oA')
    have gA := tkG_nx hG
    obtain ⟨hatA, hnxA, hkA, hnA⟩ := tkV_i tA.2
    have NA := nmC_hO hw oA (by decide +kernel) hN
    refine h_W1 rfl o44 l43 ci_1 rfl rfl hf46 ?_
    refine h_iload rfl l43 rfl ?_
    refine h_intv k_20 rfl ?_
    refine i_eq (kn := kn) (t := 0) (tgt := 29) (np := 23) rfl (by unfold R32; omega) (by unfold R32; omega) (fun e47 => ?_) (fun e47 => ?_)
    · refine h_aload rfl l43 rfl ?_
      refine h_aload rfl l43 rfl ?_
      obtain ⟨wB, bB, hf48, oB', sB, hzB⟩ := x_takeSigner14 (kn := kn) oA.1 tA (tkG_n gA) NA (tkG_X gA)
      have oB := hO_tr oA (hO_mono dSy_t oB')
      have hb01 := zOK_01 hzB
      rcases hr : zSig B n 200 R N (nxT B n 200 S) with eB | qB
      · rw [hr, zOK_l] at hzB
        obtain ⟨hbB, he1, he2⟩ := hzB
        subst hbB
        refine h_V2 rfl oA l43 ci_1 rfl rfl hf48 ?_
        refine j_ne (kn := kn) (t := 1) (tgt := 99) (np := 37) rfl (by unfold R32; omega) (fun e49 => ?_) (fun e49 => ?_)
        · omega
        · refine h_intv k_0 rfl ?_
          refine h_zret (by omega) rfl ?_
          refine ⟨_, _, rfl, ?_⟩
          rw [show zSay B n 200 R N S.2.2.1 (nxT B n 200 S) = zB (zSig B n 200 R N (nxT B n 200 S)) (fun q => .inr q.2) from if_pos (by omega), hr, zB_l, zOK_l]
          exact ⟨rfl, he1, he2⟩
      · rw [hr, zOK_r] at hzB
        obtain ⟨hbB, hvB, hpB, tB, hv0, hv1⟩ := hzB
        subst hbB
        have gB : tkG B n 200 qB.2 := by
          rw [zSig_r hr]
          exact tkG_nx gA
        refine h_V2 rfl oA l43 ci_1 rfl rfl hf48 ?_
        refine j_ne (kn := kn) (t := 1) (tgt := 99) (np := 37) rfl (by unfold R32; omega) (fun e50 => ?_) (fun e50 => ?_)
        · refine h_aload rfl l43 rfl ?_
          refine h_iload rfl l43 rfl ?_
          refine h_iload rfl l43 rfl ?_
          refine h_aload rfl l43 rfl ?_
          refine h_getI rfl oB fi_1_8 (fun b51a b51b => ?_)
          obtain ⟨wP, hf52, oP'⟩ := s_put7 (kn := kn) oB.1 hc S.2.2.1 0 (gF wB 1 8) ⟨by omega, by omega⟩ ⟨by omega, by omega⟩ ⟨by omega, by omega⟩ (by unfold okCN; omega)
          have oP := hO_tr oB (hO_mono dSy_p oP')
          refine h_W4 rfl oB l43 (cI_of hc cit_22) rfl rfl hf52 ?_
          refine h_intv k_1 rfl ?_
          refine h_zret (by omega) rfl ?_
          refine ⟨_, _, rfl, ?_⟩
          rw [show zSay B n 200 R N S.2.2.1 (nxT B n 200 S) = zB (zSig B n 200 R N (nxT B n 200 S)) (fun q => .inr q.2) from if_pos (by omega), hr, zB_r, zOK_r]
          exact ⟨rfl, tkC_hO oB.1 oP' (by decide +kernel) tB, gB⟩
        · omega
    · refine h_iload rfl l43 rfl ?_
      refine h_intv k_21 rfl ?_
      refine i_ne (kn := kn) (t := 1) (tgt := 39) (np := 29) rfl (by unfold R32; omega) (by unfold R32; omega) (fun e53 => ?_) (fun e53 => ?_)
      · refine h_iload rfl l43 rfl ?_
        refine h_intv k_22 rfl ?_
        refine i_ne (kn := kn) (t := 1) (tgt := 57) (np := 45) rfl (by unfold R32; omega) (by unfold R32; omega) (fun e54 => ?_) (fun e54 => ?_)
        · refine h_iload rfl l43 rfl ?_
          refine h_intv k_23 rfl ?_
          refine i_lt (kn := kn) (t := 2) (tgt := 99) (np := 63) rfl (by unfold R32; omega) (by unfold R32; omega) (fun e55 => ?_) (fun e55 => ?_)
          · refine h_aload rfl l43 rfl ?_
            refine h_iload rfl l43 rfl ?_
            refine h_iload rfl l43 rfl ?_
            refine h_aload rfl l43 rfl ?_
            refine h_getI rfl oA fi_1_8 (fun b56a b56b => ?_)
            obtain ⟨wP, hf57, oP'⟩ := s_put7 (kn := kn) oA.1 hc S.2.2.1 0 (gF wA 1 8) ⟨by omega, by omega⟩ ⟨by omega, by omega⟩ ⟨by omega, by omega⟩ (by unfold okCN; omega)
            have oP := hO_tr oA (hO_mono dSy_p oP')
            refine h_W4 rfl oA l43 (cI_of hc cit_22) rfl rfl hf57 ?_
            refine h_intv k_1 rfl ?_
            refine h_zret (by omega) rfl ?_
            refine ⟨_, _, rfl, ?_⟩
            rw [show zSay B n 200 R N S.2.2.1 (nxT B n 200 S) = .inr (nxT B n 200 S) from (if_neg (by omega)).trans ((if_neg (by omega)).trans (if_neg (by omega))), zOK_r]
            exact ⟨rfl, tkC_hO oA.1 oP' (by decide +kernel) tA, gA⟩
          · refine h_aload rfl l43 rfl ?_
            refine h_getI rfl oA fi_1_6 (fun b58a b58b => ?_)
            refine h_istore rfl l43 (fun vl59 l59 => ?_)
            refine h_aload rfl l59 rfl ?_
            obtain ⟨z60, hf60, hz60⟩ := x_isRel (kn := kn) oA.1
            refine h_S1 rfl oA l59 rfl rfl hf60 ?_
            refine j_ne (kn := kn) (t := 1) (tgt := 82) (np := 76) rfl (by unfold R32; omega) (fun e61 => ?_) (fun e61 => ?_)
            · refine h_aload rfl l59 rfl ?_
              obtain ⟨wE, hf62, oE', sE, tE⟩ := x_advS (kn := kn) oA.1 tA gA
              have oE := hO_tr oA (hO_mono dSy_k oE')
              refine h_W1 rfl oA l59 ci_1 rfl rfl hf62 ?_
              refine h_aload rfl l59 rfl ?_
              refine h_intv k_0 rfl ?_
              refine h_intv k_999 rfl ?_
              obtain ⟨wB, bB, hf63, oB', sB, hzB⟩ := x_takeNumber (kn := kn) oE.1 tE (tkG_n (tkG_nx gA)) 0 999 ⟨by omega, by omega⟩ ⟨by omega, by omega⟩
              have oB := hO_tr oE (hO_mono dSy_t oB')
              have hb01 := zOK_01 hzB
              rcases hr : zNum B n 200 0 999 (nxT B n 200 (nxT B n 200 S)) with eB | qB
              · rw [hr, zOK_l] at hzB
                obtain ⟨hbB, he1, he2⟩ := hzB
                subst hbB
                refine h_V3 rfl oE l59 ci_1 rfl rfl hf63 ?_
                refine j_ne (kn := kn) (t := 1) (tgt := 99) (np := 97) rfl (by unfold R32; omega) (fun e64 => ?_) (fun e64 => ?_)
                · omega
                · refine h_intv k_0 rfl ?_
                  refine h_zret (by omega) rfl ?_
                  refine ⟨_, _, rfl, ?_⟩
                  rw [show zSay B n 200 R N S.2.2.1 (nxT B n 200 S) = zB (zNum B n 200 0 999 (nxT B n 200 (nxT B n 200 S))) (fun q => .inr q.2) from (if_neg (by omega)).trans ((if_neg (by omega)).trans ((if_pos (by omega)).trans (if_pos (by omega)))), hr, zB_l, zOK_l]
                  exact ⟨rfl, he1, he2⟩
              · rw [hr, zOK_r] at hzB
                obtain ⟨hbB, hvB, hpB, tB⟩ := hzB
                subst hbB
                have gB : tkG B n 200 qB.2 := by
                  rw [(zNum_r hr).1]
                  exact tkG_nx (tkG_nx gA)
                obtain ⟨_, hlo, hhi⟩ := zNum_r hr
                refine h_V3 rfl oE l59 ci_1 rfl rfl hf63 ?_
                refine j_ne (kn := kn) (t := 1) (tgt := 99) (np := 97) rfl (by unfold R32; omega) (fun e65 => ?_) (fun e65 => ?_)
                · refine h_aload rfl l59 rfl ?_
                  refine h_iload rfl l59 rfl ?_
                  refine h_iload rfl l59 rfl ?_
                  refine h_aload rfl l59 rfl ?_
                  refine h_getI rfl oB fi_1_8 (fun b66a b66b => ?_)
                  obtain ⟨wP, hf67, oP'⟩ := s_put7 (kn := kn) oB.1 hc S.2.2.1 (gF wA 1 6) (gF wB 1 8) ⟨by omega, by omega⟩ ⟨by omega, by omega⟩ ⟨by omega, by omega⟩ (by unfold okCN; omega)
                  have oP := hO_tr oB (hO_mono dSy_p oP')
                  refine h_W4 rfl oB l59 (cI_of hc cit_22) rfl rfl hf67 ?_
                  refine h_intv k_1 rfl ?_
                  refine h_zret (by omega) rfl ?_
                  refine ⟨_, _, rfl, ?_⟩
                  rw [show zSay B n 200 R N S.2.2.1 (nxT B n 200 S) = zB (zNum B n 200 0 999 (nxT B n 200 (nxT B n 200 S))) (fun q => .inr q.2) from (if_neg (by omega)).trans ((if_neg (by omega)).trans ((if_pos (by omega)).trans (if_pos (by omega)))), hr, zB_r, zOK_r]
                  exact ⟨rfl, tkC_hO oB.1 oP' (by decide +kernel) tB, gB⟩
                · omega
            · refine h_aload rfl l59 rfl ?_
              refine h_intv k_1 rfl ?_
              obtain ⟨wR, hf68, oR', sR, fR1, fR2⟩ := x_refuse (kn := kn) oA.1 1 ⟨by omega, by omega⟩
              have oR := hO_tr oA (hO_mono dSy_t oR')
              refine h_V2 rfl oA l59 ci_1 rfl rfl hf68 ?_
              refine h_zret (by omega) rfl ?_
              refine ⟨_, _, rfl, ?_⟩
              rw [show zSay B n 200 R N S.2.2.1 (nxT B n 200 S) = .inl (1, (nxT B n 200 S).2.1) from (if_neg (by omega)).trans ((if_neg (by omega)).trans ((if_pos (by omega)).trans (if_neg (by omega)))), zOK_l]
              exact ⟨rfl, fR1, by rw [fR2]; exact hatA⟩
        · refine h_aload rfl l43 rfl ?_
          refine h_intv k_0 rfl ?_
          refine h_intv k_11 rfl ?_
          obtain ⟨wB, bB, hf69, oB', sB, hzB⟩ := x_takeNumber (kn := kn) oA.1 tA (tkG_n gA) 0 11 ⟨by omega, by omega⟩ ⟨by omega, by omega⟩
          have oB := hO_tr oA (hO_mono dSy_t oB')
          have hb01 := zOK_01 hzB
          rcases hr : zNum B n 200 0 11 (nxT B n 200 S) with eB | qB
          · rw [hr, zOK_l] at hzB
            obtain ⟨hbB, he1, he2⟩ := hzB
            subst hbB
            refine h_V3 rfl oA l43 ci_1 rfl rfl hf69 ?_
            refine j_ne (kn := kn) (t := 1) (tgt := 99) (np := 55) rfl (by unfold R32; omega) (fun e70 => ?_) (fun e70 => ?_)
            · omega
            · refine h_intv k_0 rfl ?_
              refine h_zret (by omega) rfl ?_
              refine ⟨_, _, rfl, ?_⟩
              rw [show zSay B n 200 R N S.2.2.1 (nxT B n 200 S) = zB (zNum B n 200 0 11 (nxT B n 200 S)) (fun q => .inr q.2) from (if_neg (by omega)).trans (if_pos (by omega)), hr, zB_l, zOK_l]
              exact ⟨rfl, he1, he2⟩
          · rw [hr, zOK_r] at hzB
            obtain ⟨hbB, hvB, hpB, tB⟩ := hzB
            subst hbB
            have gB : tkG B n 200 qB.2 := by
              rw [(zNum_r hr).1]
              exact tkG_nx gA
            obtain ⟨_, hlo, hhi⟩ := zNum_r hr
            refine h_V3 rfl oA l43 ci_1 rfl rfl hf69 ?_
            refine j_ne (kn := kn) (t := 1) (tgt := 99) (np := 55) rfl (by unfold R32; omega) (fun e71 => ?_) (fun e71 => ?_)
            · refine h_aload rfl l43 rfl ?_
              refine h_iload rfl l43 rfl ?_
              refine h_iload rfl l43 rfl ?_
              refine h_aload rfl l43 rfl ?_
              refine h_getI rfl oB fi_1_8 (fun b72a b72b => ?_)
              obtain ⟨wP, hf73, oP'⟩ := s_put7 (kn := kn) oB.1 hc S.2.2.1 0 (gF wB 1 8) ⟨by omega, by omega⟩ ⟨by omega, by omega⟩ ⟨by omega, by omega⟩ (by unfold okCN; omega)
              have oP := hO_tr oB (hO_mono dSy_p oP')
              refine h_W4 rfl oB l43 (cI_of hc cit_22) rfl rfl hf73 ?_
              refine h_intv k_1 rfl ?_
              refine h_zret (by omega) rfl ?_
              refine ⟨_, _, rfl, ?_⟩
              rw [show zSay B n 200 R N S.2.2.1 (nxT B n 200 S) = zB (zNum B n 200 0 11 (nxT B n 200 S)) (fun q => .inr q.2) from (if_neg (by omega)).trans (if_pos (by omega)), hr, zB_r, zOK_r]
              exact ⟨rfl, tkC_hO oB.1 oP' (by decide +kernel) tB, gB⟩
            · omega
      · refine h_aload rfl l43 rfl ?_
        refine h_aload rfl l43 rfl ?_
        obtain ⟨wB, bB, hf74, oB', sB, hzB⟩ := x_takeSigner14 (kn := kn) oA.1 tA (tkG_n gA) NA (tkG_X gA)
        have oB := hO_tr oA (hO_mono dSy_t oB')
        have hb01 := zOK_01 hzB
        rcases hr : zSig B n 200 R N (nxT B n 200 S) with eB | qB
        · rw [hr, zOK_l] at hzB
          obtain ⟨hbB, he1, he2⟩ := hzB
          subst hbB
          refine h_V2 rfl oA l43 ci_1 rfl rfl hf74 ?_
          refine j_ne (kn := kn) (t := 1) (tgt := 99) (np := 37) rfl (by unfold R32; omega) (fun e75 => ?_) (fun e75 => ?_)
          · omega
          · refine h_intv k_0 rfl ?_
            refine h_zret (by omega) rfl ?_
            refine ⟨_, _, rfl, ?_⟩
            rw [show zSay B n 200 R N S.2.2.1 (nxT B n 200 S) = zB (zSig B n 200 R N (nxT B n 200 S)) (fun q => .inr q.2) from if_pos (by omega), hr, zB_l, zOK_l]
            exact ⟨rfl, he1, he2⟩
        · rw [hr, zOK_r] at hzB
          obtain ⟨hbB, hvB, hpB, tB, hv0, hv1⟩ := hzB
          subst hbB
          have gB : tkG B n 200 qB.2 := by
            rw [zSig_r hr]
            exact tkG_nx gA
          refine h_V2 rfl oA l43 ci_1 rfl rfl hf74 ?_
          refine j_ne (kn := kn) (t := 1) (tgt := 99) (np := 37) rfl (by unfold R32; omega) (fun e76 => ?_) (fun e76 => ?_)
          · refine h_aload rfl l43 rfl ?_
            refine h_iload rfl l43 rfl ?_
            refine h_iload rfl l43 rfl ?_
            refine h_aload rfl l43 rfl ?_
            refine h_getI rfl oB fi_1_8 (fun b77a b77b => ?_)
            obtain ⟨wP, hf78, oP'⟩ := s_put7 (kn := kn) oB.1 hc S.2.2.1 0 (gF wB 1 8) ⟨by omega, by omega⟩ ⟨by omega, by omega⟩ ⟨by omega, by omega⟩ (by unfold okCN; omega)
            have oP := hO_tr oB (hO_mono dSy_p oP')
            refine h_W4 rfl oB l43 (cI_of hc cit_22) rfl rfl hf78 ?_
            refine h_intv k_1 rfl ?_
            refine h_zret (by omega) rfl ?_
            refine ⟨_, _, rfl, ?_⟩
            rw [show zSay B n 200 R N S.2.2.1 (nxT B n 200 S) = zB (zSig B n 200 R N (nxT B n 200 S)) (fun q => .inr q.2) from if_pos (by omega), hr, zB_r, zOK_r]
            exact ⟨rfl, tkC_hO oB.1 oP' (by decide +kernel) tB, gB⟩
          · omega
  obtain ⟨r, h1, w2, b2, h2, h3⟩ := h_meth1 (nL := 5) rfl K
  rw [h2] at h1
  obtain ⟨w1, b1, g1, g2, g3⟩ := s_readSaying7 (kn := kn) hw hc (k2 := 14) rfl
  have e := one_r g1 h1
  simp only [Prod.mk.injEq] at e
  obtain ⟨_, e2, _⟩ := e
  subst e2
  exact ⟨w1, b2, h1, g2, h3⟩
/-- what is still to come, from a ONE on, and behind one -/
def gS1 (B : Nat → Int) (n : Nat) (R N : Nat → Int) (D : Nat → Int) (m : Nat) (S : tS) (o : Int) : zE ⊕ Int := zB (zSaid B n 200 R N (8 - wiD D m).toNat S o) (fun q => zAft B n 200 R N 100 (levD D m) q.1 q.2)
def gS2 (B : Nat → Int) (n : Nat) (R N : Nat → Int) (D : Nat → Int) (m : Nat) (S : tS) (o : Int) : zE ⊕ Int := zAft B n 200 R N 100 (levD D m) S o
def sSt (B : Nat → Int) (n : Nat) (c : Nat) (D : Nat → Int) (m : Nat) (S : tS) (o : Int) (w : sW) : Prop := cS c D m w ∧ gF w c 8 = o ∧ tkC B n 200 S w ∧ tkG B n 200 S ∧ okD D m ∧ wiD D m ≤ 8
def rOne (B : Nat → Int) (n : Nat) (R N : Nat → Int) (c : Nat) (o : Int) (G : zE ⊕ Int) (w' : sW) (b : Int) : Prop := (b = 0 ∧ ∃ e, G = .inl e ∧ gF w' 1 11 = e.1 ∧ gF w' 1 12 = e.2) ∨ (b = 1 ∧ ∃ (D : Nat → Int) (m : Nat) (S : tS) (o' : Int), G = gS2 B n R N D m S o' ∧ sSt B n c D m S o' w' ∧ (o < o' ∧ o' ≤ 20) ∧ (m = 0 ∨ D (m - 1) ≠ 17))
def dSo : List (Nat × Nat) := dTk ++ dX7_readOne
theorem dSo_t : msub dTk dSo = true := by decide +kernel
theorem dSo_k : msub dH_tok dSo = true := by decide +kernel
theorem dSo_s : msub dX7_readSaying dSo = true := by decide +kernel
theorem dSo_n : msub dX7_settleNots dSo = true := by decide +kernel
theorem dSo_d : msub dX7_delay dSo = true := by decide +kernel
theorem levD_ne (D : Nat → Int) : ∀ m, ∃ d es, levD D m = d :: es := by
  intro m
  induction m with
  | zero => exact ⟨8, [], rfl⟩
  | succ m ih =>
    rw [levD_s]
    split
    · exact ⟨_, _, rfl⟩
    · exact ih
theorem c8n_ {c k : Nat} (h : c ≠ 1 ∨ k ≠ 8) : (0, 1, k) ∉ [(0, c, 8)] := by
  intro z
  have z := List.mem_singleton.mp z
  simp only [Prod.mk.injEq] at z
  omega
theorem c6n_ {c k : Nat} (h : c ≠ 1 ∨ k ≠ 6) : (0, 1, k) ∉ [(0, c, 6)] := by
  intro z
  have z := List.mem_singleton.mp z
  simp only [Prod.mk.injEq] at z
  omega
theorem cn2_ {c a b d k : Nat} (h : d ≠ 0) : (d, a, b) ∉ [(0, c, k)] := by
  intro z
  have z := List.mem_singleton.mp z
  simp only [Prod.mk.injEq] at z
  omega
theorem rone_l {kn : sKn} {w0 : sW} {c : Nat} (hc : ztau c = some 22) {B : Nat → Int} {n : Nat} {R N : Nat → Int} {G : zE ⊕ Int} {o0_ : Int} (hN0 : nmC R N w0) (hw0 : wOk ZZ w0) : ∀ (t : Nat) (D : Nat → Int) (m : Nat) (S : tS) (o : Int) (k : Nat) (w : sW) (lv : List (Nat × Value)), 20 - o ≤ (t : Int) → o0_ ≤ o → (k : Int) ≤ o ∧ o ≤ 20 → gS1 B n R N D m S o = G → hO dSo w0 w → sSt B n c D m S o w → hL lv [(0, .ref c), (1, .ref 1), (2, .ref 14), (3, hI k)] → Tp (tX7_readOne kn) (fun r => ∃ (w' : sW) (b : Int), r = (some (hI b), w', 0, 0) ∧ rOne B n R N c o0_ G w' b) 2 (lv, [], w, 0, 0) := by
  have hc1 : c ≠ 1 := fun z => by
    subst z
    cases hc
  have c8n : ∀ {k : Nat}, k ≤ 7 → (0, 1, k) ∉ [(0, c, 8)] := fun _ => c8n_ (Or.inl hc1)
  have c6n : ∀ {k : Nat}, k ≤ 7 → (0, 1, k) ∉ [(0, c, 6)] := fun _ => c6n_ (Or.inl hc1)
  have c8n2 : (2, 2, 0) ∉ [(0, c, 8)] := cn2_ (by decide)
  have c6n2 : (2, 2, 0) ∉ [(0, c, 6)] := cn2_ (by decide)
  have c8n1 : (1, 1, 7) ∉ [(0, c, 8)] := cn2_ (by decide)
  have c6n1 : (1, 1, 7) ∉ [(0, c, 6)] := cn2_ (by decide)
  intro t
  induction t with
  | zero =>
    intro D m S o k w lv ht9 ho9 hk hGG oW hst l0
    obtain ⟨hS, ho8, ht, hG, hok, hwi⟩ := hst
    have hw := oW.1
    have hN := nmC_hO hw0 oW (by decide +kernel) hN0
    obtain ⟨hat, hnx, hkI, hkN⟩ := tkV_i ht.2
    have wn0 := (wiD_nn D m).1
    have gb := tkG_b hG
    have o0 : hO dSo w w := hO_rf hw
    refine h_iload rfl l0 rfl ?_
    refine h_intv k_20 rfl ?_
    refine i_gt (kn := kn) (t := 4) (tgt := 135) (np := 8) rfl (by unfold R32; omega) (by unfold R32; omega) (fun e41 => ?_) (fun e41 => ?_)
    · omega
    · refine h_aload rfl l0 rfl ?_
      obtain ⟨z42, hf42, hz42⟩ := x_begins (kn := kn) o0.1
      refine h_S1 rfl o0 l0 rfl rfl hf42 ?_
      refine j_ne (kn := kn) (t := 1) (tgt := 21) (np := 15) rfl (by unfold R32; omega) (fun e43 => ?_) (fun e43 => ?_)
      · refine h_aload rfl l0 rfl ?_
        refine h_getI rfl o0 (fI_of hc fit_22_8) (fun b44a b44b => ?_)
        rw [ho8] at b44a b44b ⊢
        refine h_intv k_20 rfl ?_
        refine i_ge (kn := kn) (t := 3) (tgt := 39) (np := 30) rfl (by unfold R32; omega) (by unfold R32; omega) (fun e45 => ?_) (fun e45 => ?_)
        · refine h_aload rfl l0 rfl ?_
          refine h_intv k_4 rfl ?_
          obtain ⟨wR, hf46, oR', sR, fR1, fR2⟩ := x_refuse (kn := kn) o0.1 4 ⟨by omega, by omega⟩
          have oR := hO_tr o0 (hO_mono dSo_t oR')
          refine h_V2 rfl o0 l0 ci_1 rfl rfl hf46 ?_
          refine h_zret (by omega) rfl ?_
          refine ⟨_, _, rfl, Or.inl ⟨rfl, (4, S.2.1), ?_, fR1, by rw [fR2]; exact hat⟩⟩
          rw [← hGG]
          unfold gS1
          rw [said_many (by
              unfold zBeg
              omega) (by omega), zB_l]
        · omega
      · refine h_aload rfl l0 rfl ?_
        refine h_intv k_1 rfl ?_
        obtain ⟨wR, hf47, oR', sR, fR1, fR2⟩ := x_refuse (kn := kn) o0.1 1 ⟨by omega, by omega⟩
        have oR := hO_tr o0 (hO_mono dSo_t oR')
        refine h_V2 rfl o0 l0 ci_1 rfl rfl hf47 ?_
        refine h_zret (by omega) rfl ?_
        refine ⟨_, _, rfl, Or.inl ⟨rfl, (1, S.2.1), ?_, fR1, by rw [fR2]; exact hat⟩⟩
        rw [← hGG]
        unfold gS1
        rw [said_bad (fun z => by
            unfold zBeg at z
            omega), zB_l]
  | succ t ih =>
    intro D m S o k w lv ht9 ho9 hk hGG oW hst l0
    obtain ⟨hS, ho8, ht, hG, hok, hwi⟩ := hst
    have hw := oW.1
    have hN := nmC_hO hw0 oW (by decide +kernel) hN0
    obtain ⟨hat, hnx, hkI, hkN⟩ := tkV_i ht.2
    have wn0 := (wiD_nn D m).1
    have gb := tkG_b hG
    have o0 : hO dSo w w := hO_rf hw
    refine h_iload rfl l0 rfl ?_
    refine h_intv k_20 rfl ?_
    refine i_gt (kn := kn) (t := 4) (tgt := 135) (np := 8) rfl (by unfold R32; omega) (by unfold R32; omega) (fun e41 => ?_) (fun e41 => ?_)
    · omega
    · refine h_aload rfl l0 rfl ?_
      obtain ⟨z42, hf42, hz42⟩ := x_begins (kn := kn) o0.1
      refine h_S1 rfl o0 l0 rfl rfl hf42 ?_
      refine j_ne (kn := kn) (t := 1) (tgt := 21) (np := 15) rfl (by unfold R32; omega) (fun e43 => ?_) (fun e43 => ?_)
      · refine h_aload rfl l0 rfl ?_
        refine h_getI rfl o0 (fI_of hc fit_22_8) (fun b44a b44b => ?_)
        rw [ho8] at b44a b44b ⊢
        refine h_intv k_20 rfl ?_
        refine i_ge (kn := kn) (t := 3) (tgt := 39) (np := 30) rfl (by unfold R32; omega) (by unfold R32; omega) (fun e45 => ?_) (fun e45 => ?_)
        · refine h_aload rfl l0 rfl ?_
          refine h_intv k_4 rfl ?_
          obtain ⟨wR, hf46, oR', sR, fR1, fR2⟩ := x_refuse (kn := kn) o0.1 4 ⟨by omega, by omega⟩
          have oR := hO_tr o0 (hO_mono dSo_t oR')
          refine h_V2 rfl o0 l0 ci_1 rfl rfl hf46 ?_
          refine h_zret (by omega) rfl ?_
          refine ⟨_, _, rfl, Or.inl ⟨rfl, (4, S.2.1), ?_, fR1, by rw [fR2]; exact hat⟩⟩
          rw [← hGG]
          unfold gS1
          rw [said_many (by
              unfold zBeg
              omega) (by omega), zB_l]
        · refine h_aload rfl l0 rfl ?_
          refine h_getI rfl o0 (fI_of hc fit_22_6) (fun b47a b47b => ?_)
          rw [hS.2.2] at b47a b47b ⊢
          refine h_intv k_8 rfl ?_
          refine i_lt (kn := kn) (t := 2) (tgt := 45) (np := 39) rfl (by unfold R32; omega) (by unfold R32; omega) (fun e48 => ?_) (fun e48 => ?_)
          · refine h_aload rfl l0 rfl ?_
            refine h_dup rfl rfl ?_
            refine h_getI rfl o0 (fI_of hc fit_22_8) (fun b49a b49b => ?_)
            rw [ho8] at b49a b49b ⊢
            refine h_intv k_1 rfl ?_
            refine h_iadd rfl ?_
            refine x_putI rfl o0 (fI_of hc fit_22_8) rfl (by omega) (by omega) (fun w50 o50 q51a q51F q51X q51J q51Y q51R => ?_)
            refine h_aload rfl l0 rfl ?_
            refine h_intv k_17 rfl ?_
            obtain ⟨z52, hf52, hz52⟩ := x_isKey (kn := kn) o50.1 17 ⟨by omega, by omega⟩
            rw [q51F 1 4 (fun e9 => by first | decide | omega), q51F 1 6 (fun e9 => by first | decide | omega)] at hz52
            refine h_V2 rfl o50 l0 ci_1 rfl rfl hf52 ?_
            refine h_istore rfl l0 (fun vl53 l53 => ?_)
            refine h_iload rfl l53 rfl ?_
            refine j_ne (kn := kn) (t := 1) (tgt := 99) (np := 68) rfl (by unfold R32; omega) (fun e54 => ?_) (fun e54 => ?_)
            · refine h_aload rfl l53 rfl ?_
              refine h_iload rfl l53 rfl ?_
              refine j_eq (kn := kn) (t := 0) (tgt := 110) (np := 105) rfl (by unfold R32; omega) (fun e55 => ?_) (fun e55 => ?_)
              · refine h_intv k_100 rfl ?_
                have t1 : tkC B n 200 S w50 := tkC_sm (smW_tr (smW_rf [(0, c, 8)] _) (sm_pI (List.mem_cons_self) q51F q51X q51J q51Y q51R)) ⟨⟨⟨⟨⟨⟨⟨c8n (by omega), c8n (by omega)⟩, c8n2⟩, c8n (by omega)⟩, c8n (by omega)⟩, c8n (by omega)⟩, c8n (by omega)⟩, c8n1⟩ ht
                have c1 : cS c D m w50 := ⟨(q51F c 5 (fun _ => by decide)).trans hS.1, fun i hi => by rw [q51R c 4, q51X]; exact hS.2.1 i hi, (q51F c 6 (fun _ => by decide)).trans hS.2.2⟩
                have N1 := nmC_hO hw o50 (by decide +kernel) hN
                have hm40 := (wiD_len m hok).2.2
                obtain ⟨wD, hf56, oD', fD5, fDX, fD6, fD8⟩ := x_delay7 (kn := kn) o50.1 hc c1 (by omega) 100 ⟨by omega, by omega⟩
                have oD := hO_tr o50 (hO_mono dSo_d oD')
                have tD := tkC_hO o50.1 oD' (by decide +kernel) t1
                refine h_W2 rfl o50 l53 (cI_of hc cit_22) rfl rfl hf56 ?_
                refine h_aload rfl l53 rfl ?_
                refine h_dup rfl rfl ?_
                refine h_getI rfl oD (fI_of hc fit_22_6) (fun b57a b57b => ?_)
                rw [fD6, q51F c 6 (fun e9 => by first | decide | omega), hS.2.2] at b57a b57b ⊢
                refine h_intv k_1 rfl ?_
                refine h_iadd rfl ?_
                refine x_putI rfl oD (fI_of hc fit_22_6) rfl (by omega) (by omega) (fun w58 o58 q59a q59F q59X q59J q59Y q59R => ?_)
                refine h_aload rfl l53 rfl ?_
                have t2 : tkC B n 200 S w58 := tkC_sm (smW_tr (smW_rf [(0, c, 6)] _) (sm_pI (List.mem_cons_self) q59F q59X q59J q59Y q59R)) ⟨⟨⟨⟨⟨⟨⟨c6n (by omega), c6n (by omega)⟩, c6n2⟩, c6n (by omega)⟩, c6n (by omega)⟩, c6n (by omega)⟩, c6n (by omega)⟩, c6n1⟩ tD
                obtain ⟨wE, hf60, oE', sE, tE⟩ := x_advS (kn := kn) o58.1 t2 hG
                have oE := hO_tr o58 (hO_mono dSo_k oE')
                refine h_W1 rfl o58 l53 ci_1 rfl rfl hf60 ?_
                refine h_iincv k_1 rfl l53 rfl (fun vl61 l61 => ?_)
                refine h_goto rfl ?_
                have hG2 : gS1 B n R N (zU D m (100)) (m + 1) (nxT B n 200 S) (o + 1) = gS1 B n R N D m S o := by
                  symm
                  unfold gS1
                  rw [push_wi, push_lev, if_pos (by omega), if_pos rfl]
                  obtain ⟨d', es, hl⟩ := levD_ne D m
                  have hlen := lev_len D m
                  rw [hl] at hlen ⊢
                  rw [List.length_cons] at hlen
                  rw [show (8 - wiD D m).toNat = (8 - (wiD D m + 1)).toNat + 1 by omega]
                  exact said_br (by omega) (by omega) ⟨by omega, by omega⟩ (by omega) (by omega)
                refine ih (zU D m (100)) (m + 1) (nxT B n 200 S) (o + 1) (k + 1) wE _ (by omega) (by omega) (by omega) (hG2.trans hGG) (hO_tr oW oE) ⟨⟨?_, fun i hi => ?_, ?_⟩, ?_, tE, tkG_nx hG, push_ok hok (by omega), by rw [push_wi, if_pos (by omega)]; omega⟩ (hL_take 4 l61)
                · rw [fr_gF (t := 22) (c := c) oE'.2 hc (by decide +kernel) o58.1 (c22 hc), q59F c 5 (fun _ => by decide)]
                  exact fD5
                · rw [show gR wE c 4 = gR wD c 4 from (fr_gR (t := 22) (c := c) oE'.2 hc (by decide +kernel) (c22 hc) o58.1).trans (q59R c 4), fr_gX2 oE'.2 (aS_26 oD.1 hc) (by decide +kernel) i, q59X]
                  exact fDX i hi
                · rw [fr_gF (t := 22) (c := c) oE'.2 hc (by decide +kernel) o58.1 (c22 hc), q59a, push_wi, if_pos (by omega)]
                · rw [fr_gF (t := 22) (c := c) oE'.2 hc (by decide +kernel) o58.1 (c22 hc), q59F c 8 (fun _ => by decide), fD8, q51a]
              · refine h_intv k_17 rfl ?_
                refine h_goto rfl ?_
                have t1 : tkC B n 200 S w50 := tkC_sm (smW_tr (smW_rf [(0, c, 8)] _) (sm_pI (List.mem_cons_self) q51F q51X q51J q51Y q51R)) ⟨⟨⟨⟨⟨⟨⟨c8n (by omega), c8n (by omega)⟩, c8n2⟩, c8n (by omega)⟩, c8n (by omega)⟩, c8n (by omega)⟩, c8n (by omega)⟩, c8n1⟩ ht
                have c1 : cS c D m w50 := ⟨(q51F c 5 (fun _ => by decide)).trans hS.1, fun i hi => by rw [q51R c 4, q51X]; exact hS.2.1 i hi, (q51F c 6 (fun _ => by decide)).trans hS.2.2⟩
                have N1 := nmC_hO hw o50 (by decide +kernel) hN
                have hm40 := (wiD_len m hok).2.2
                obtain ⟨wD, hf62, oD', fD5, fDX, fD6, fD8⟩ := x_delay7 (kn := kn) o50.1 hc c1 (by omega) 17 ⟨by omega, by omega⟩
                have oD := hO_tr o50 (hO_mono dSo_d oD')
                have tD := tkC_hO o50.1 oD' (by decide +kernel) t1
                refine h_W2 rfl o50 l53 (cI_of hc cit_22) rfl rfl hf62 ?_
                refine h_aload rfl l53 rfl ?_
                refine h_dup rfl rfl ?_
                refine h_getI rfl oD (fI_of hc fit_22_6) (fun b63a b63b => ?_)
                rw [fD6, q51F c 6 (fun e9 => by first | decide | omega), hS.2.2] at b63a b63b ⊢
                refine h_intv k_1 rfl ?_
                refine h_iadd rfl ?_
                refine x_putI rfl oD (fI_of hc fit_22_6) rfl (by omega) (by omega) (fun w64 o64 q65a q65F q65X q65J q65Y q65R => ?_)
                refine h_aload rfl l53 rfl ?_
                have t2 : tkC B n 200 S w64 := tkC_sm (smW_tr (smW_rf [(0, c, 6)] _) (sm_pI (List.mem_cons_self) q65F q65X q65J q65Y q65R)) ⟨⟨⟨⟨⟨⟨⟨c6n (by omega), c6n (by omega)⟩, c6n2⟩, c6n (by omega)⟩, c6n (by omega)⟩, c6n (by omega)⟩, c6n (by omega)⟩, c6n1⟩ tD
                obtain ⟨wE, hf66, oE', sE, tE⟩ := x_advS (kn := kn) o64.1 t2 hG
                have oE := hO_tr o64 (hO_mono dSo_k oE')
                refine h_W1 rfl o64 l53 ci_1 rfl rfl hf66 ?_
                refine h_iincv k_1 rfl l53 rfl (fun vl67 l67 => ?_)
                refine h_goto rfl ?_
                have hG2 : gS1 B n R N (zU D m (17)) (m + 1) (nxT B n 200 S) (o + 1) = gS1 B n R N D m S o := by
                  symm
                  unfold gS1
                  rw [push_wi, push_lev, if_pos (by omega), if_neg (by omega), show (8 - wiD D m).toNat = (8 - (wiD D m + 1)).toNat + 1 by omega, said_not (by omega) ⟨by omega, by omega⟩]
                refine ih (zU D m (17)) (m + 1) (nxT B n 200 S) (o + 1) (k + 1) wE _ (by omega) (by omega) (by omega) (hG2.trans hGG) (hO_tr oW oE) ⟨⟨?_, fun i hi => ?_, ?_⟩, ?_, tE, tkG_nx hG, push_ok hok (by omega), by rw [push_wi, if_pos (by omega)]; omega⟩ (hL_take 4 l67)
                · rw [fr_gF (t := 22) (c := c) oE'.2 hc (by decide +kernel) o64.1 (c22 hc), q65F c 5 (fun _ => by decide)]
                  exact fD5
                · rw [show gR wE c 4 = gR wD c 4 from (fr_gR (t := 22) (c := c) oE'.2 hc (by decide +kernel) (c22 hc) o64.1).trans (q65R c 4), fr_gX2 oE'.2 (aS_26 oD.1 hc) (by decide +kernel) i, q65X]
                  exact fDX i hi
                · rw [fr_gF (t := 22) (c := c) oE'.2 hc (by decide +kernel) o64.1 (c22 hc), q65a, push_wi, if_pos (by omega)]
                · rw [fr_gF (t := 22) (c := c) oE'.2 hc (by decide +kernel) o64.1 (c22 hc), q65F c 8 (fun _ => by decide), fD8, q51a]
            · refine h_aload rfl l53 rfl ?_
              refine h_intv k_40 rfl ?_
              obtain ⟨z68, hf68, hz68⟩ := x_isSignOf (kn := kn) o50.1 40 ⟨by omega, by omega⟩
              rw [q51F 1 4 (fun e9 => by first | decide | omega), q51F 1 6 (fun e9 => by first | decide | omega)] at hz68
              refine h_V2 rfl o50 l53 ci_1 rfl rfl hf68 ?_
              refine j_ne (kn := kn) (t := 1) (tgt := 99) (np := 77) rfl (by unfold R32; omega) (fun e69 => ?_) (fun e69 => ?_)
              · refine h_aload rfl l53 rfl ?_
                refine h_iload rfl l53 rfl ?_
                refine j_eq (kn := kn) (t := 0) (tgt := 110) (np := 105) rfl (by unfold R32; omega) (fun e70 => ?_) (fun e70 => ?_)
                · refine h_intv k_100 rfl ?_
                  have t1 : tkC B n 200 S w50 := tkC_sm (smW_tr (smW_rf [(0, c, 8)] _) (sm_pI (List.mem_cons_self) q51F q51X q51J q51Y q51R)) ⟨⟨⟨⟨⟨⟨⟨c8n (by omega), c8n (by omega)⟩, c8n2⟩, c8n (by omega)⟩, c8n (by omega)⟩, c8n (by omega)⟩, c8n (by omega)⟩, c8n1⟩ ht
                  have c1 : cS c D m w50 := ⟨(q51F c 5 (fun _ => by decide)).trans hS.1, fun i hi => by rw [q51R c 4, q51X]; exact hS.2.1 i hi, (q51F c 6 (fun _ => by decide)).trans hS.2.2⟩
                  have N1 := nmC_hO hw o50 (by decide +kernel) hN
                  have hm40 := (wiD_len m hok).2.2
                  obtain ⟨wD, hf71, oD', fD5, fDX, fD6, fD8⟩ := x_delay7 (kn := kn) o50.1 hc c1 (by omega) 100 ⟨by omega, by omega⟩
                  have oD := hO_tr o50 (hO_mono dSo_d oD')
                  have tD := tkC_hO o50.1 oD' (by decide +kernel) t1
                  refine h_W2 rfl o50 l53 (cI_of hc cit_22) rfl rfl hf71 ?_
                  refine h_aload rfl l53 rfl ?_
                  refine h_dup rfl rfl ?_
                  refine h_getI rfl oD (fI_of hc fit_22_6) (fun b72a b72b => ?_)
                  rw [fD6, q51F c 6 (fun e9 => by first | decide | omega), hS.2.2] at b72a b72b ⊢
                  refine h_intv k_1 rfl ?_
                  refine h_iadd rfl ?_
                  refine x_putI rfl oD (fI_of hc fit_22_6) rfl (by omega) (by omega) (fun w73 o73 q74a q74F q74X q74J q74Y q74R => ?_)
                  refine h_aload rfl l53 rfl ?_
                  have t2 : tkC B n 200 S w73 := tkC_sm (smW_tr (smW_rf [(0, c, 6)] _) (sm_pI (List.mem_cons_self) q74F q74X q74J q74Y q74R)) ⟨⟨⟨⟨⟨⟨⟨c6n (by omega), c6n (by omega)⟩, c6n2⟩, c6n (by omega)⟩, c6n (by omega)⟩, c6n (by omega)⟩, c6n (by omega)⟩, c6n1⟩ tD
                  obtain ⟨wE, hf75, oE', sE, tE⟩ := x_advS (kn := kn) o73.1 t2 hG
                  have oE := hO_tr o73 (hO_mono dSo_k oE')
                  refine h_W1 rfl o73 l53 ci_1 rfl rfl hf75 ?_
                  refine h_iincv k_1 rfl l53 rfl (fun vl76 l76 => ?_)
                  refine h_goto rfl ?_
                  have hG2 : gS1 B n R N (zU D m (100)) (m + 1) (nxT B n 200 S) (o + 1) = gS1 B n R N D m S o := by
                    symm
                    unfold gS1
                    rw [push_wi, push_lev, if_pos (by omega), if_pos rfl]
                    obtain ⟨d', es, hl⟩ := levD_ne D m
                    have hlen := lev_len D m
                    rw [hl] at hlen ⊢
                    rw [List.length_cons] at hlen
                    rw [show (8 - wiD D m).toNat = (8 - (wiD D m + 1)).toNat + 1 by omega]
                    exact said_br (by omega) (by omega) ⟨by omega, by omega⟩ (by omega) (by omega)
                  refine ih (zU D m (100)) (m + 1) (nxT B n 200 S) (o + 1) (k + 1) wE _ (by omega) (by omega) (by omega) (hG2.trans hGG) (hO_tr oW oE) ⟨⟨?_, fun i hi => ?_, ?_⟩, ?_, tE, tkG_nx hG, push_ok hok (by omega), by rw [push_wi, if_pos (by omega)]; omega⟩ (hL_take 4 l76)
                  · rw [fr_gF (t := 22) (c := c) oE'.2 hc (by decide +kernel) o73.1 (c22 hc), q74F c 5 (fun _ => by decide)]
                    exact fD5
                  · rw [show gR wE c 4 = gR wD c 4 from (fr_gR (t := 22) (c := c) oE'.2 hc (by decide +kernel) (c22 hc) o73.1).trans (q74R c 4), fr_gX2 oE'.2 (aS_26 oD.1 hc) (by decide +kernel) i, q74X]
                    exact fDX i hi
                  · rw [fr_gF (t := 22) (c := c) oE'.2 hc (by decide +kernel) o73.1 (c22 hc), q74a, push_wi, if_pos (by omega)]
                  · rw [fr_gF (t := 22) (c := c) oE'.2 hc (by decide +kernel) o73.1 (c22 hc), q74F c 8 (fun _ => by decide), fD8, q51a]
                · refine h_intv k_17 rfl ?_
                  refine h_goto rfl ?_
                  have t1 : tkC B n 200 S w50 := tkC_sm (smW_tr (smW_rf [(0, c, 8)] _) (sm_pI (List.mem_cons_self) q51F q51X q51J q51Y q51R)) ⟨⟨⟨⟨⟨⟨⟨c8n (by omega), c8n (by omega)⟩, c8n2⟩, c8n (by omega)⟩, c8n (by omega)⟩, c8n (by omega)⟩, c8n (by omega)⟩, c8n1⟩ ht
                  have c1 : cS c D m w50 := ⟨(q51F c 5 (fun _ => by decide)).trans hS.1, fun i hi => by rw [q51R c 4, q51X]; exact hS.2.1 i hi, (q51F c 6 (fun _ => by decide)).trans hS.2.2⟩
                  have N1 := nmC_hO hw o50 (by decide +kernel) hN
                  have hm40 := (wiD_len m hok).2.2
                  obtain ⟨wD, hf77, oD', fD5, fDX, fD6, fD8⟩ := x_delay7 (kn := kn) o50.1 hc c1 (by omega) 17 ⟨by omega, by omega⟩
                  have oD := hO_tr o50 (hO_mono dSo_d oD')
                  have tD := tkC_hO o50.1 oD' (by decide +kernel) t1
                  refine h_W2 rfl o50 l53 (cI_of hc cit_22) rfl rfl hf77 ?_
                  refine h_aload rfl l53 rfl ?_
                  refine h_dup rfl rfl ?_
                  refine h_getI rfl oD (fI_of hc fit_22_6) (fun b78a b78b => ?_)
                  rw [fD6, q51F c 6 (fun e9 => by first | decide | omega), hS.2.2] at b78a b78b ⊢
                  refine h_intv k_1 rfl ?_
                  refine h_iadd rfl ?_
                  refine x_putI rfl oD (fI_of hc fit_22_6) rfl (by omega) (by omega) (fun w79 o79 q80a q80F q80X q80J q80Y q80R => ?_)
                  refine h_aload rfl l53 rfl ?_
                  have t2 : tkC B n 200 S w79 := tkC_sm (smW_tr (smW_rf [(0, c, 6)] _) (sm_pI (List.mem_cons_self) q80F q80X q80J q80Y q80R)) ⟨⟨⟨⟨⟨⟨⟨c6n (by omega), c6n (by omega)⟩, c6n2⟩, c6n (by omega)⟩, c6n (by omega)⟩, c6n (by omega)⟩, c6n (by omega)⟩, c6n1⟩ tD
                  obtain ⟨wE, hf81, oE', sE, tE⟩ := x_advS (kn := kn) o79.1 t2 hG
                  have oE := hO_tr o79 (hO_mono dSo_k oE')
                  refine h_W1 rfl o79 l53 ci_1 rfl rfl hf81 ?_
                  refine h_iincv k_1 rfl l53 rfl (fun vl82 l82 => ?_)
                  refine h_goto rfl ?_
                  have hG2 : gS1 B n R N (zU D m (17)) (m + 1) (nxT B n 200 S) (o + 1) = gS1 B n R N D m S o := by
                    symm
                    unfold gS1
                    rw [push_wi, push_lev, if_pos (by omega), if_neg (by omega), show (8 - wiD D m).toNat = (8 - (wiD D m + 1)).toNat + 1 by omega, said_not (by omega) ⟨by omega, by omega⟩]
                  refine ih (zU D m (17)) (m + 1) (nxT B n 200 S) (o + 1) (k + 1) wE _ (by omega) (by omega) (by omega) (hG2.trans hGG) (hO_tr oW oE) ⟨⟨?_, fun i hi => ?_, ?_⟩, ?_, tE, tkG_nx hG, push_ok hok (by omega), by rw [push_wi, if_pos (by omega)]; omega⟩ (hL_take 4 l82)
                  · rw [fr_gF (t := 22) (c := c) oE'.2 hc (by decide +kernel) o79.1 (c22 hc), q80F c 5 (fun _ => by decide)]
                    exact fD5
                  · rw [show gR wE c 4 = gR wD c 4 from (fr_gR (t := 22) (c := c) oE'.2 hc (by decide +kernel) (c22 hc) o79.1).trans (q80R c 4), fr_gX2 oE'.2 (aS_26 oD.1 hc) (by decide +kernel) i, q80X]
                    exact fDX i hi
                  · rw [fr_gF (t := 22) (c := c) oE'.2 hc (by decide +kernel) o79.1 (c22 hc), q80a, push_wi, if_pos (by omega)]
                  · rw [fr_gF (t := 22) (c := c) oE'.2 hc (by decide +kernel) o79.1 (c22 hc), q80F c 8 (fun _ => by decide), fD8, q51a]
              · refine h_aload rfl l53 rfl ?_
                refine h_aload rfl l53 rfl ?_
                refine h_aload rfl l53 rfl ?_
                have t1 : tkC B n 200 S w50 := tkC_sm (smW_tr (smW_rf [(0, c, 8)] _) (sm_pI (List.mem_cons_self) q51F q51X q51J q51Y q51R)) ⟨⟨⟨⟨⟨⟨⟨c8n (by omega), c8n (by omega)⟩, c8n2⟩, c8n (by omega)⟩, c8n (by omega)⟩, c8n (by omega)⟩, c8n (by omega)⟩, c8n1⟩ ht
                have c1 : cS c D m w50 := ⟨(q51F c 5 (fun _ => by decide)).trans hS.1, fun i hi => by rw [q51R c 4, q51X]; exact hS.2.1 i hi, (q51F c 6 (fun _ => by decide)).trans hS.2.2⟩
                have N1 := nmC_hO hw o50 (by decide +kernel) hN
                obtain ⟨wA, bA, hf83, oA', hzA⟩ := x_readSay7 (kn := kn) o50.1 hc t1 hG ⟨by omega, by omega, by omega⟩ N1
                have oA := hO_tr o50 (hO_mono dSo_s oA')
                have hb01 := zOK_01 hzA
                obtain ⟨cA, fA8⟩ := cS_hO o50.1 hc oA' (by decide +kernel) c1
                have hsay : zSaid B n 200 R N (8 - wiD D m).toNat S o = zB (zSay B n 200 R N S.2.2.1 (nxT B n 200 S)) (fun T => .inr (T, o + 1)) := by
                  rw [show (8 - wiD D m).toNat = (7 - wiD D m).toNat + 1 by omega]
                  exact said_say (by omega) ⟨by omega, by omega, by omega⟩
                rcases hr : zSay B n 200 R N S.2.2.1 (nxT B n 200 S) with eA | TA
                · rw [hr, zOK_l] at hzA
                  obtain ⟨hbA, he1, he2⟩ := hzA
                  subst hbA
                  refine h_V3 rfl o50 l53 (cI_of hc cit_22) rfl rfl hf83 ?_
                  refine j_eq (kn := kn) (t := 0) (tgt := 97) (np := 86) rfl (by unfold R32; omega) (fun e84 => ?_) (fun e84 => ?_)
                  · refine h_intv k_0 rfl ?_
                    refine h_zret (by omega) rfl ?_
                    refine ⟨_, _, rfl, Or.inl ⟨rfl, eA, ?_, he1, he2⟩⟩
                    rw [← hGG]
                    unfold gS1
                    rw [hsay, hr, zB_l, zB_l]
                  · omega
                · rw [hr, zOK_r] at hzA
                  obtain ⟨hbA, tA, gA⟩ := hzA
                  subst hbA
                  refine h_V3 rfl o50 l53 (cI_of hc cit_22) rfl rfl hf83 ?_
                  refine j_eq (kn := kn) (t := 0) (tgt := 97) (np := 86) rfl (by unfold R32; omega) (fun e85 => ?_) (fun e85 => ?_)
                  · omega
                  · refine h_aload rfl l53 rfl ?_
                    obtain ⟨i1, i2, i3, i4⟩ := zNot_i (D := D) m
                    have wn := (wiD_nn D (zNot D m)).1
                    obtain ⟨wB, hf86, oB', fB5, fB6⟩ := x_settleNots7 (kn := kn) oA.1 hc (m := m) (D := D) ⟨cA.1, cA.2.1⟩ (by omega) (by rw [cA.2.2]; omega)
                    have oB := hO_tr oA (hO_mono dSo_n oB')
                    refine h_V1 rfl oA l53 (cI_of hc cit_22) rfl rfl hf86 ?_
                    refine j_eq (kn := kn) (t := 0) (tgt := 97) (np := 93) rfl (by unfold R32; omega) (fun e87 => ?_) (fun e87 => ?_)
                    · omega
                    · refine h_intv k_1 rfl ?_
                      refine h_goto rfl ?_
                      refine h_zret (by omega) rfl ?_
                      refine ⟨_, _, rfl, Or.inr ⟨rfl, D, zNot D m, TA, o + 1, ?_, ⟨⟨fB5, fun i hi => ?_, ?_⟩, ?_, tkC_hO oA.1 oB' (by decide +kernel) tA, gA, fun i hi => hok i (by omega), by omega⟩, ⟨by omega, by omega⟩, i4⟩⟩
                      · rw [← hGG]
                        unfold gS1 gS2
                        rw [hsay, hr, zB_r, zB_r, i3]
                      · rw [show gR wB c 4 = gR wA c 4 from fr_gR (t := 22) (c := c) oB'.2 hc (by decide +kernel) (c22 hc) oA.1, fr_gX2 oB'.2 (aS_26 oA.1 hc) (by decide +kernel) i]
                        exact cA.2.1 i (by omega)
                      · rw [fB6, cA.2.2, i2]
                      · rw [show gF wB c 8 = gF wA c 8 from fr_gF (t := 22) (c := c) oB'.2 hc (by decide +kernel) oA.1 (c22 hc), fA8, q51a]
          · refine h_aload rfl l0 rfl ?_
            refine h_intv k_4 rfl ?_
            obtain ⟨wR, hf88, oR', sR, fR1, fR2⟩ := x_refuse (kn := kn) o0.1 4 ⟨by omega, by omega⟩
            have oR := hO_tr o0 (hO_mono dSo_t oR')
            refine h_V2 rfl o0 l0 ci_1 rfl rfl hf88 ?_
            refine h_zret (by omega) rfl ?_
            refine ⟨_, _, rfl, Or.inl ⟨rfl, (4, S.2.1), ?_, fR1, by rw [fR2]; exact hat⟩⟩
            rw [← hGG]
            unfold gS1
            rw [said_many (by
                unfold zBeg
                omega) (by omega), zB_l]
      · refine h_aload rfl l0 rfl ?_
        refine h_intv k_1 rfl ?_
        obtain ⟨wR, hf89, oR', sR, fR1, fR2⟩ := x_refuse (kn := kn) o0.1 1 ⟨by omega, by omega⟩
        have oR := hO_tr o0 (hO_mono dSo_t oR')
        refine h_V2 rfl o0 l0 ci_1 rfl rfl hf89 ?_
        refine h_zret (by omega) rfl ?_
        refine ⟨_, _, rfl, Or.inl ⟨rfl, (1, S.2.1), ?_, fR1, by rw [fR2]; exact hat⟩⟩
        rw [← hGG]
        unfold gS1
        rw [said_bad (fun z => by
            unfold zBeg at z
            omega), zB_l]
theorem x_readOne7 {kn : sKn} {w : sW} (hw : wOk ZZ w) {c : Nat} (hc : ztau c = some 22) {B : Nat → Int} {n : Nat} {R N : Nat → Int} {D : Nat → Int} {m : Nat} {S : tS} {o : Int} (hN : nmC R N w) (hst : sSt B n c D m S o w) (ho : 0 ≤ o ∧ o ≤ 20) : ∃ (w' : sW) (b : Int), fX7_readOne kn [.ref c, .ref 1, .ref 14] w = some (some (hI b), w', 0, 0) ∧ hO dX7_readOne w w' ∧ rOne B n R N c o (gS1 B n R N D m S o) w' b := by
  have K : Tp (tX7_readOne kn) (fun r => ∃ (w' : sW) (b : Int), r = (some (hI b), w', 0, 0) ∧ rOne B n R N c o (gS1 B n R N D m S o) w' b) 0 (lv_args 0 [.ref c, .ref 1, .ref 14], [], w, 0, 0) := by
    have l0 : hL (lv_args 0 [.ref c, .ref 1, .ref 14]) (lv_args 0 [.ref c, .ref 1, .ref 14]) := ⟨fun _ _ h => h, fun q hq => by
      rcases List.mem_cons.mp hq with e | hq
      · rw [e]
        exact ⟨rfl, tw hc⟩
      rcases List.mem_cons.mp hq with e | hq
      · rw [e]
        exact ⟨rfl, rfl⟩
      rcases List.mem_cons.mp hq with e | hq
      · rw [e]
        exact ⟨rfl, rfl⟩
      cases hq⟩
    refine h_intv k_0 rfl ?_
    refine h_istore rfl l0 (fun v1 l1 => ?_)
    exact rone_l hc hN hw 20 D m S o 0 w _ (by omega) (Int.le_refl _) ⟨by omega, by omega⟩ rfl (hO_rf hw) hst l1
  obtain ⟨r, h1, w2, b2, h2, h3⟩ := h_meth1 (nL := 5) rfl K
  rw [h2] at h1
  obtain ⟨w1, b1, g1, g2, g3⟩ := s_readOne7 (kn := kn) hw hc (k2 := 14) rfl
  have e := one_r g1 h1
  simp only [Prod.mk.injEq] at e
  obtain ⟨_, e2, _⟩ := e
  subst e2
  exact ⟨w1, b2, h1, g2, h3⟩
theorem aft_close {B : Nat → Int} {n : Nat} {R N : Nat → Int} {d d' : Nat} {es : List Nat} {S : tS} {o : Int} (ho : o ≤ 20) (hl : 20 - o + (es.length : Int) + 2 ≤ 99) (hS : S.1 = 2 ∧ S.2.2.1 = 41) : zAft B n 200 R N 100 (d :: d' :: es) S o = zAft B n 200 R N 100 (d' :: es) (nxT B n 200 S) o := by
  rw [show zAft B n 200 R N 100 (d :: d' :: es) S o = zAft B n 200 R N (99 + 1) (d :: d' :: es) S o from rfl, aft_c (by omega), if_pos hS]
  exact aftF _ _ _ _ _ ho (by rw [List.length_cons]; omega) (by rw [List.length_cons]; omega)
def rCls (B : Nat → Int) (n : Nat) (R N : Nat → Int) (c : Nat) (o : Int) (G : zE ⊕ Int) (w' : sW) : Prop := ∃ (D : Nat → Int) (m : Nat) (S : tS), G = gS2 B n R N D m S o ∧ sSt B n c D m S o w' ∧ (m = 0 ∨ D (m - 1) ≠ 17) ∧ (wiD D m = 0 ∨ ¬ (S.1 = 2 ∧ S.2.2.1 = 41))
def dSc : List (Nat × Nat) := dTk ++ dX7_closeBrackets
theorem dSc_k : msub dH_tok dSc = true := by decide +kernel
theorem dSc_s : msub dX7_settle dSc = true := by decide +kernel
theorem dSc_n : msub dX7_settleNots dSc = true := by decide +kernel
theorem c56_ {c k : Nat} (h : c ≠ 1) : (0, 1, k) ∉ [(0, c, 5), (0, c, 6)] := by
  intro z
  rcases List.mem_cons.mp z with z | z
  · simp only [Prod.mk.injEq] at z
    omega
  · have z := List.mem_singleton.mp z
    simp only [Prod.mk.injEq] at z
    omega
theorem c56n_ {c a b d : Nat} (h : d ≠ 0) : (d, a, b) ∉ [(0, c, 5), (0, c, 6)] := by
  intro z
  rcases List.mem_cons.mp z with z | z
  · simp only [Prod.mk.injEq] at z
    omega
  · have z := List.mem_singleton.mp z
    simp only [Prod.mk.injEq] at z
    omega
theorem cls_l {kn : sKn} {w0 : sW} {c : Nat} (hc : ztau c = some 22) {B : Nat → Int} {n : Nat} {R N : Nat → Int} {G : zE ⊕ Int} {o : Int} (ho9 : 0 ≤ o ∧ o ≤ 20) : ∀ (t : Nat) (D : Nat → Int) (m : Nat) (S : tS) (k : Nat) (w : sW) (lv : List (Nat × Value)), k + t = 8 → wiD D m ≤ (t : Int) → gS2 B n R N D m S o = G → hO dSc w0 w → sSt B n c D m S o w → (m = 0 ∨ D (m - 1) ≠ 17) → hL lv [(0, .ref c), (1, .ref 1), (2, hI k)] → Tp (tX7_closeBrackets kn) (fun r => ∃ w', r = (none, w', 0, 0) ∧ rCls B n R N c o G w') 2 (lv, [], w, 0, 0) := by
  have hc1 : c ≠ 1 := fun z => by
    subst z
    cases hc
  have c56 : ∀ (k : Nat), (0, 1, k) ∉ [(0, c, 5), (0, c, 6)] := fun _ => c56_ hc1
  have c562 : (2, 2, 0) ∉ [(0, c, 5), (0, c, 6)] := c56n_ (by decide)
  have c561 : (1, 1, 7) ∉ [(0, c, 5), (0, c, 6)] := c56n_ (by decide)
  intro t
  induction t with
  | zero =>
    intro D m S k w lv hk hwt hGG oW hst htp l0
    obtain ⟨hS, ho8, ht, hG, hok, hwi⟩ := hst
    have hw := oW.1
    obtain ⟨hat, hnx, hkI, hkN⟩ := tkV_i ht.2
    have wn0 := (wiD_nn D m).1
    have gb := tkG_b hG
    have o0 : hO dSc w w := hO_rf hw
    refine h_iload rfl l0 rfl ?_
    refine h_intv k_8 rfl ?_
    refine i_ge (kn := kn) (t := 3) (tgt := 71) (np := 8) rfl (by unfold R32; omega) (by unfold R32; omega) (fun e41 => ?_) (fun e41 => ?_)
    · refine h_vret rfl ?_
      exact ⟨_, rfl, D, m, S, hGG.symm, ⟨hS, ho8, ht, hG, hok, hwi⟩, htp, by omega⟩
    · omega
  | succ t ih =>
    intro D m S k w lv hk hwt hGG oW hst htp l0
    obtain ⟨hS, ho8, ht, hG, hok, hwi⟩ := hst
    have hw := oW.1
    obtain ⟨hat, hnx, hkI, hkN⟩ := tkV_i ht.2
    have wn0 := (wiD_nn D m).1
    have gb := tkG_b hG
    have o0 : hO dSc w w := hO_rf hw
    refine h_iload rfl l0 rfl ?_
    refine h_intv k_8 rfl ?_
    refine i_ge (kn := kn) (t := 3) (tgt := 71) (np := 8) rfl (by unfold R32; omega) (by unfold R32; omega) (fun e41 => ?_) (fun e41 => ?_)
    · refine h_vret rfl ?_
      exact ⟨_, rfl, D, m, S, hGG.symm, ⟨hS, ho8, ht, hG, hok, hwi⟩, htp, by omega⟩
    · refine h_aload rfl l0 rfl ?_
      refine h_getI rfl o0 (fI_of hc fit_22_6) (fun b42a b42b => ?_)
      rw [hS.2.2] at b42a b42b ⊢
      refine j_le (kn := kn) (t := 5) (tgt := 71) (np := 15) rfl (by unfold R32; omega) (fun e43 => ?_) (fun e43 => ?_)
      · refine h_vret rfl ?_
        exact ⟨_, rfl, D, m, S, hGG.symm, ⟨hS, ho8, ht, hG, hok, hwi⟩, htp, by omega⟩
      · refine h_aload rfl l0 rfl ?_
        refine h_intv k_41 rfl ?_
        obtain ⟨z44, hf44, hz44⟩ := x_isSignOf (kn := kn) o0.1 41 ⟨by omega, by omega⟩
        refine h_V2 rfl o0 l0 ci_1 rfl rfl hf44 ?_
        refine j_eq (kn := kn) (t := 0) (tgt := 71) (np := 24) rfl (by unfold R32; omega) (fun e45 => ?_) (fun e45 => ?_)
        · refine h_vret rfl ?_
          exact ⟨_, rfl, D, m, S, hGG.symm, ⟨hS, ho8, ht, hG, hok, hwi⟩, htp, by omega⟩
        · refine h_aload rfl l0 rfl ?_
          refine h_intv k_n1 rfl ?_
          obtain ⟨wA, hf46, oA', fA5⟩ := x_settle7 (kn := kn) o0.1 hc hS (-1) ⟨by omega, by omega⟩
          have oA := hO_tr o0 (hO_mono dSc_s oA')
          obtain ⟨p1, p2, p3, p4⟩ := zPop_i (j := -1) (D := D) m hok htp
          obtain ⟨m1, hm1⟩ : ∃ m1 : Nat, zPop (-1) D m = m1 + 1 := by
            refine ⟨zPop (-1) D m - 1, ?_⟩
            by_cases z : zPop (-1) D m = 0
            · rw [z] at p2
              have p2 : 0 = wiD D m := p2
              omega
            · omega
          rw [hm1] at p1 p2 p3 p4 fA5
          rw [show m1 + 1 - 1 = m1 by omega] at p4
          have pD : D m1 = 100 := by omega
          rw [wiD_s, if_pos (Or.inr pD)] at p2
          rw [levD_s, if_pos pD, wiD_s, if_pos (Or.inr pD)] at p3
          have eA4 : gR wA c 4 = gR w c 4 := fr_gR (t := 22) (c := c) oA'.2 hc (by decide +kernel) (c22 hc) o0.1
          have tA := tkC_hO o0.1 oA' (by decide +kernel) ht
          refine h_W2 rfl o0 l0 (cI_of hc cit_22) rfl rfl hf46 ?_
          refine h_aload rfl l0 rfl ?_
          refine h_getI rfl oA (fI_of hc fit_22_5) (fun b47a b47b => ?_)
          refine j_le (kn := kn) (t := 5) (tgt := 56) (np := 36) rfl (by unfold R32; omega) (fun e48 => ?_) (fun e48 => ?_)
          · omega
          · refine h_aload rfl l0 rfl ?_
            refine h_dup rfl rfl ?_
            refine h_getI rfl oA (fI_of hc fit_22_5) (fun b49a b49b => ?_)
            refine h_intv k_1 rfl ?_
            refine h_isub rfl ?_
            refine x_putI rfl oA (fI_of hc fit_22_5) rfl (by omega) (by omega) (fun w50 o50 q51a q51F q51X q51J q51Y q51R => ?_)
            refine h_aload rfl l0 rfl ?_
            refine h_dup rfl rfl ?_
            refine h_getI rfl o50 (fI_of hc fit_22_6) (fun b52a b52b => ?_)
            rw [q51F c 6 (fun e9 => by first | decide | omega), (fr_gF (t := 22) (c := c) oA'.2 hc (by decide +kernel) o0.1 (c22 hc)), hS.2.2] at b52a b52b ⊢
            refine h_intv k_1 rfl ?_
            refine h_isub rfl ?_
            refine x_putI rfl o50 (fI_of hc fit_22_6) rfl (by omega) (by omega) (fun w53 o53 q54a q54F q54X q54J q54Y q54R => ?_)
            refine h_aload rfl l0 rfl ?_
            obtain ⟨i1, i2, i3, i4⟩ := zNot_i (D := D) m1
            have wn := (wiD_nn D (zNot D m1)).1
            have e5 : gF w53 c 5 = (m1 : Int) := by rw [q54F c 5 (fun _ => by decide), q51a]; omega
            have e6 : gF w53 c 6 = wiD D m - 1 := q54a
            obtain ⟨wB, hf55, oB', fB5, fB6⟩ := x_settleNots7 (kn := kn) o53.1 hc (m := m1) (D := D) ⟨e5, fun i hi => by rw [q54R c 4, q51R c 4, eA4, q54X, q51X, fr_gX2 oA'.2 (aS_26 o0.1 hc) (by decide +kernel) i]; exact hS.2.1 i (by omega)⟩ (by omega) (by omega)
            have oB := hO_tr o53 (hO_mono dSc_n oB')
            have tB := tkC_hO o53.1 oB' (by decide +kernel) (tkC_sm (smW_tr (smW_tr (smW_rf [(0, c, 5), (0, c, 6)] _) (sm_pI (List.mem_cons_self) q51F q51X q51J q51Y q51R)) (sm_pI (List.mem_cons_of_mem _ List.mem_cons_self) q54F q54X q54J q54Y q54R)) ⟨⟨⟨⟨⟨⟨⟨c56 _, c56 _⟩, c562⟩, c56 _⟩, c56 _⟩, c56 _⟩, c56 _⟩, c561⟩ tA)
            refine h_V1 rfl o53 l0 (cI_of hc cit_22) rfl rfl hf55 ?_
            refine h_pop rfl rfl ?_
            refine h_aload rfl l0 rfl ?_
            obtain ⟨wE, hf56, oE', sE, tE⟩ := x_advS (kn := kn) oB.1 tB hG
            have oE := hO_tr oB (hO_mono dSc_k oE')
            refine h_W1 rfl oB l0 ci_1 rfl rfl hf56 ?_
            refine h_iincv k_1 rfl l0 rfl (fun vl57 l57 => ?_)
            refine h_goto rfl ?_
            have hG2 : gS2 B n R N D (zNot D m1) (nxT B n 200 S) o = gS2 B n R N D m S o := by
              unfold gS2
              rw [← p3, i3]
              obtain ⟨d', es, hl⟩ := levD_ne D m1
              have hlen := lev_len D m1
              rw [hl] at hlen ⊢
              rw [List.length_cons] at hlen
              exact (aft_close ho9.2 (by omega) ⟨by omega, by omega⟩).symm
            refine ih D (zNot D m1) (nxT B n 200 S) (k + 1) wE _ (by omega) (by omega) (hG2.trans hGG) (hO_tr oW oE) ⟨⟨?_, fun i hi => ?_, ?_⟩, ?_, tE, tkG_nx hG, fun i hi => hok i (by omega), by omega⟩ i4 l57
            · rw [(fr_gF (t := 22) (c := c) oE'.2 hc (by decide +kernel) oB.1 (c22 hc))]
              exact fB5
            · rw [show gR wE c 4 = gR w53 c 4 from (fr_gR (t := 22) (c := c) oE'.2 hc (by decide +kernel) (c22 hc) oB.1).trans (fr_gR (t := 22) (c := c) oB'.2 hc (by decide +kernel) (c22 hc) o53.1), fr_gX2 oE'.2 (aS_26 o53.1 hc) (by decide +kernel) i, fr_gX2 oB'.2 (aS_26 o53.1 hc) (by decide +kernel) i, q54R c 4, q51R c 4, eA4, q54X, q51X, fr_gX2 oA'.2 (aS_26 o0.1 hc) (by decide +kernel) i]
              exact hS.2.1 i (by omega)
            · rw [(fr_gF (t := 22) (c := c) oE'.2 hc (by decide +kernel) oB.1 (c22 hc)), fB6, e6]
              omega
            · rw [(fr_gF (t := 22) (c := c) oE'.2 hc (by decide +kernel) oB.1 (c22 hc)), show gF wB c 8 = gF w53 c 8 from fr_gF (t := 22) (c := c) oB'.2 hc (by decide +kernel) o53.1 (c22 hc), q54F c 8 (fun _ => by decide), q51F c 8 (fun _ => by decide), show gF wA c 8 = gF w c 8 from fr_gF (t := 22) (c := c) oA'.2 hc (by decide +kernel) o0.1 (c22 hc)]
              exact ho8
theorem x_close7 {kn : sKn} {w : sW} (hw : wOk ZZ w) {c : Nat} (hc : ztau c = some 22) {B : Nat → Int} {n : Nat} {R N : Nat → Int} {D : Nat → Int} {m : Nat} {S : tS} {o : Int} (hst : sSt B n c D m S o w) (ho : 0 ≤ o ∧ o ≤ 20) (htp : m = 0 ∨ D (m - 1) ≠ 17) : ∃ w', fX7_closeBrackets kn [.ref c, .ref 1] w = some (none, w', 0, 0) ∧ hO dX7_closeBrackets w w' ∧ rCls B n R N c o (gS2 B n R N D m S o) w' := by
  have K : Tp (tX7_closeBrackets kn) (fun r => ∃ w', r = (none, w', 0, 0) ∧ rCls B n R N c o (gS2 B n R N D m S o) w') 0 (lv_args 0 [.ref c, .ref 1], [], w, 0, 0) := by
    have l0 : hL (lv_args 0 [.ref c, .ref 1]) (lv_args 0 [.ref c, .ref 1]) := ⟨fun _ _ h => h, fun q hq => by
      rcases List.mem_cons.mp hq with e | hq
      · rw [e]
        exact ⟨rfl, tw hc⟩
      rcases List.mem_cons.mp hq with e | hq
      · rw [e]
        exact ⟨rfl, rfl⟩
      cases hq⟩
    refine h_intv k_0 rfl ?_
    refine h_istore rfl l0 (fun v1 l1 => ?_)
    exact cls_l hc ho 8 D m S 0 w _ rfl hst.2.2.2.2.2 rfl (hO_rf hw) hst htp l1
  obtain ⟨r, h1, w2, h2, h3⟩ := h_meth1 (nL := 3) rfl K
  rw [h2] at h1
  obtain ⟨w1, g1, g2⟩ := s_closeBrackets7 (kn := kn) hw hc
  have e := one_r g1 h1
  simp only [Prod.mk.injEq] at e
  obtain ⟨_, e2, _⟩ := e
  subst e2
  exact ⟨w1, h1, g2, h3⟩
def rJn (B : Nat → Int) (n : Nat) (R N : Nat → Int) (c : Nat) (D : Nat → Int) (m : Nat) (S : tS) (o : Int) (w w' : sW) (b : Int) : Prop := (b = 0 ∧ w' = w ∧ ¬ (S.1 = 4 ∧ (S.2.2.1 = 15 ∨ S.2.2.1 = 16))) ∨ (b = 1 ∧ ∃ (D' : Nat → Int) (m' : Nat) (S' : tS), gS2 B n R N D m S o = gS1 B n R N D' m' S' o ∧ sSt B n c D' m' S' o w')
def dSj : List (Nat × Nat) := dTk ++ dX7_readJoin
theorem dSj_k : msub dH_tok dSj = true := by decide +kernel
theorem dSj_s : msub dX7_settle dSj = true := by decide +kernel
theorem dSj_d : msub dX7_delay dSj = true := by decide +kernel
theorem x_join7 {kn : sKn} {w : sW} (hw : wOk ZZ w) {c : Nat} (hc : ztau c = some 22) {B : Nat → Int} {n : Nat} {R N : Nat → Int} {D : Nat → Int} {m : Nat} {S : tS} {o : Int} (hst : sSt B n c D m S o w) (ho : 0 ≤ o ∧ o ≤ 20) (htp : m = 0 ∨ D (m - 1) ≠ 17) : ∃ (w' : sW) (b : Int), fX7_readJoin kn [.ref c, .ref 1] w = some (some (hI b), w', 0, 0) ∧ hO dX7_readJoin w w' ∧ rJn B n R N c D m S o w w' b := by
  obtain ⟨hS, ho8, ht, hG, hok, hwi⟩ := hst
  obtain ⟨hat, hnx, hkI, hkN⟩ := tkV_i ht.2
  have wn0 := (wiD_nn D m).1
  have gb := tkG_b hG
  have K : Tp (tX7_readJoin kn) (fun r => ∃ (w' : sW) (b : Int), r = (some (hI b), w', 0, 0) ∧ rJn B n R N c D m S o w w' b) 0 (lv_args 0 [.ref c, .ref 1], [], w, 0, 0) := by
    have l0 : hL (lv_args 0 [.ref c, .ref 1]) (lv_args 0 [.ref c, .ref 1]) := ⟨fun _ _ h => h, fun q hq => by
      rcases List.mem_cons.mp hq with e | hq
      · rw [e]
        exact ⟨rfl, tw hc⟩
      rcases List.mem_cons.mp hq with e | hq
      · rw [e]
        exact ⟨rfl, rfl⟩
      cases hq⟩
    have o0 : hO dSj w w := hO_rf hw
    refine h_aload rfl l0 rfl ?_
    refine h_intv k_16 rfl ?_
    obtain ⟨z41, hf41, hz41⟩ := x_isKey (kn := kn) o0.1 16 ⟨by omega, by omega⟩
    refine h_V2 rfl o0 l0 ci_1 rfl rfl hf41 ?_
    refine j_ne (kn := kn) (t := 1) (tgt := 20) (np := 9) rfl (by unfold R32; omega) (fun e42 => ?_) (fun e42 => ?_)
    · have hv6 : gF w 1 6 = S.2.2.1 := by omega
      have h4 : S.1 = 4 ∧ (S.2.2.1 = 15 ∨ S.2.2.1 = 16) := by omega
      refine h_aload rfl l0 rfl ?_
      refine h_aload rfl l0 rfl ?_
      refine h_getI rfl o0 fi_1_6 (fun b43a b43b => ?_)
      rw [hv6] at b43a b43b ⊢
      obtain ⟨wA, hf44, oA', fA5⟩ := x_settle7 (kn := kn) o0.1 hc hS S.2.2.1 ⟨by omega, by omega⟩
      have oA := hO_tr o0 (hO_mono dSj_s oA')
      obtain ⟨p1, p2, p3, p4⟩ := zPop_i (j := S.2.2.1) (D := D) m hok htp
      have hok1 : okD D (zPop S.2.2.1 D m) := fun i hi => hok i (by omega)
      have tA := tkC_hO o0.1 oA' (by decide +kernel) ht
      have cA : cS c D (zPop S.2.2.1 D m) wA := by
        refine ⟨fA5, fun i hi => ?_, ?_⟩
        · rw [show gR wA c 4 = gR w c 4 from fr_gR (t := 22) (c := c) oA'.2 hc (by decide +kernel) (c22 hc) o0.1, fr_gX2 oA'.2 (aS_26 o0.1 hc) (by decide +kernel) i]
          exact hS.2.1 i (by omega)
        · rw [show gF wA c 6 = gF w c 6 from fr_gF (t := 22) (c := c) oA'.2 hc (by decide +kernel) o0.1 (c22 hc), p2]
          exact hS.2.2
      obtain ⟨_, _, hkA, _⟩ := tkV_i tA.2
      have hvA : gF wA 1 6 = S.2.2.1 := by omega
      refine h_W2 rfl o0 l0 (cI_of hc cit_22) rfl rfl hf44 ?_
      refine h_aload rfl l0 rfl ?_
      refine h_aload rfl l0 rfl ?_
      refine h_getI rfl oA fi_1_6 (fun b45a b45b => ?_)
      rw [hvA] at b45a b45b ⊢
      have hm40 := (wiD_len _ hok1).2.2
      obtain ⟨wD, hf46, oD', fD5, fDX, fD6, fD8⟩ := x_delay7 (kn := kn) oA.1 hc cA (by omega) S.2.2.1 ⟨by omega, by omega⟩
      have oD := hO_tr oA (hO_mono dSj_d oD')
      have tD := tkC_hO oA.1 oD' (by decide +kernel) tA
      refine h_W2 rfl oA l0 (cI_of hc cit_22) rfl rfl hf46 ?_
      refine h_aload rfl l0 rfl ?_
      obtain ⟨wE, hf47, oE', sE, tE⟩ := x_advS (kn := kn) oD.1 tD hG
      have oE := hO_tr oD (hO_mono dSj_k oE')
      refine h_W1 rfl oD l0 ci_1 rfl rfl hf47 ?_
      refine h_intv k_1 rfl ?_
      refine h_zret (by omega) rfl ?_
      refine ⟨_, _, rfl, Or.inr ⟨rfl, zU D (zPop S.2.2.1 D m) S.2.2.1, zPop S.2.2.1 D m + 1, nxT B n 200 S, ?_, ⟨⟨(fr_gF (t := 22) (c := c) oE'.2 hc (by decide +kernel) oD.1 (c22 hc)).trans fD5, fun i hi => ?_, ?_⟩, ?_, tE, tkG_nx hG, push_ok hok1 (by omega), by rw [push_wi, if_neg (by omega), p2]; omega⟩⟩⟩
      · obtain ⟨es, hl, _, _⟩ := lev_top m hok htp hwi
        unfold gS1 gS2
        rw [push_wi, push_lev, if_neg (by omega), if_neg (by omega), p2, p3, hl, show wiD D m + 0 = wiD D m by omega]
        rw [show zAft B n 200 R N 100 ((8 - wiD D m).toNat :: es) S o = zAft B n 200 R N (99 + 1) ((8 - wiD D m).toNat :: es) S o from rfl, aft_j ⟨by omega, by omega⟩]
        have hlen := lev_len D m
        rw [hl] at hlen
        refine zB_c (fun a ha => ?_)
        obtain ⟨g1, g2⟩ := saidP _ _ _ _ ho.2 ha
        exact aftF _ _ _ _ _ g2 (by omega) (by omega)
      · rw [show gR wE c 4 = gR wD c 4 from fr_gR (t := 22) (c := c) oE'.2 hc (by decide +kernel) (c22 hc) oD.1, fr_gX2 oE'.2 (aS_26 oD.1 hc) (by decide +kernel) i]
        exact fDX i hi
      · rw [(fr_gF (t := 22) (c := c) oE'.2 hc (by decide +kernel) oD.1 (c22 hc)), fD6, cA.2.2, push_wi, if_neg (by omega)]
        omega
      · rw [(fr_gF (t := 22) (c := c) oE'.2 hc (by decide +kernel) oD.1 (c22 hc)), fD8, show gF wA c 8 = gF w c 8 from fr_gF (t := 22) (c := c) oA'.2 hc (by decide +kernel) o0.1 (c22 hc)]
        exact ho8
    · refine h_aload rfl l0 rfl ?_
      refine h_intv k_15 rfl ?_
      obtain ⟨z48, hf48, hz48⟩ := x_isKey (kn := kn) o0.1 15 ⟨by omega, by omega⟩
      refine h_V2 rfl o0 l0 ci_1 rfl rfl hf48 ?_
      refine j_ne (kn := kn) (t := 1) (tgt := 20) (np := 18) rfl (by unfold R32; omega) (fun e49 => ?_) (fun e49 => ?_)
      · have hv6 : gF w 1 6 = S.2.2.1 := by omega
        have h4 : S.1 = 4 ∧ (S.2.2.1 = 15 ∨ S.2.2.1 = 16) := by omega
        refine h_aload rfl l0 rfl ?_
        refine h_aload rfl l0 rfl ?_
        refine h_getI rfl o0 fi_1_6 (fun b50a b50b => ?_)
        rw [hv6] at b50a b50b ⊢
        obtain ⟨wA, hf51, oA', fA5⟩ := x_settle7 (kn := kn) o0.1 hc hS S.2.2.1 ⟨by omega, by omega⟩
        have oA := hO_tr o0 (hO_mono dSj_s oA')
        obtain ⟨p1, p2, p3, p4⟩ := zPop_i (j := S.2.2.1) (D := D) m hok htp
        have hok1 : okD D (zPop S.2.2.1 D m) := fun i hi => hok i (by omega)
        have tA := tkC_hO o0.1 oA' (by decide +kernel) ht
        have cA : cS c D (zPop S.2.2.1 D m) wA := by
          refine ⟨fA5, fun i hi => ?_, ?_⟩
          · rw [show gR wA c 4 = gR w c 4 from fr_gR (t := 22) (c := c) oA'.2 hc (by decide +kernel) (c22 hc) o0.1, fr_gX2 oA'.2 (aS_26 o0.1 hc) (by decide +kernel) i]
            exact hS.2.1 i (by omega)
          · rw [show gF wA c 6 = gF w c 6 from fr_gF (t := 22) (c := c) oA'.2 hc (by decide +kernel) o0.1 (c22 hc), p2]
            exact hS.2.2
        obtain ⟨_, _, hkA, _⟩ := tkV_i tA.2
        have hvA : gF wA 1 6 = S.2.2.1 := by omega
        refine h_W2 rfl o0 l0 (cI_of hc cit_22) rfl rfl hf51 ?_
        refine h_aload rfl l0 rfl ?_
        refine h_aload rfl l0 rfl ?_
        refine h_getI rfl oA fi_1_6 (fun b52a b52b => ?_)
        rw [hvA] at b52a b52b ⊢
        have hm40 := (wiD_len _ hok1).2.2
        obtain ⟨wD, hf53, oD', fD5, fDX, fD6, fD8⟩ := x_delay7 (kn := kn) oA.1 hc cA (by omega) S.2.2.1 ⟨by omega, by omega⟩
        have oD := hO_tr oA (hO_mono dSj_d oD')
        have tD := tkC_hO oA.1 oD' (by decide +kernel) tA
        refine h_W2 rfl oA l0 (cI_of hc cit_22) rfl rfl hf53 ?_
        refine h_aload rfl l0 rfl ?_
        obtain ⟨wE, hf54, oE', sE, tE⟩ := x_advS (kn := kn) oD.1 tD hG
        have oE := hO_tr oD (hO_mono dSj_k oE')
        refine h_W1 rfl oD l0 ci_1 rfl rfl hf54 ?_
        refine h_intv k_1 rfl ?_
        refine h_zret (by omega) rfl ?_
        refine ⟨_, _, rfl, Or.inr ⟨rfl, zU D (zPop S.2.2.1 D m) S.2.2.1, zPop S.2.2.1 D m + 1, nxT B n 200 S, ?_, ⟨⟨(fr_gF (t := 22) (c := c) oE'.2 hc (by decide +kernel) oD.1 (c22 hc)).trans fD5, fun i hi => ?_, ?_⟩, ?_, tE, tkG_nx hG, push_ok hok1 (by omega), by rw [push_wi, if_neg (by omega), p2]; omega⟩⟩⟩
        · obtain ⟨es, hl, _, _⟩ := lev_top m hok htp hwi
          unfold gS1 gS2
          rw [push_wi, push_lev, if_neg (by omega), if_neg (by omega), p2, p3, hl, show wiD D m + 0 = wiD D m by omega]
          rw [show zAft B n 200 R N 100 ((8 - wiD D m).toNat :: es) S o = zAft B n 200 R N (99 + 1) ((8 - wiD D m).toNat :: es) S o from rfl, aft_j ⟨by omega, by omega⟩]
          have hlen := lev_len D m
          rw [hl] at hlen
          refine zB_c (fun a ha => ?_)
          obtain ⟨g1, g2⟩ := saidP _ _ _ _ ho.2 ha
          exact aftF _ _ _ _ _ g2 (by omega) (by omega)
        · rw [show gR wE c 4 = gR wD c 4 from fr_gR (t := 22) (c := c) oE'.2 hc (by decide +kernel) (c22 hc) oD.1, fr_gX2 oE'.2 (aS_26 oD.1 hc) (by decide +kernel) i]
          exact fDX i hi
        · rw [(fr_gF (t := 22) (c := c) oE'.2 hc (by decide +kernel) oD.1 (c22 hc)), fD6, cA.2.2, push_wi, if_neg (by omega)]
          omega
        · rw [(fr_gF (t := 22) (c := c) oE'.2 hc (by decide +kernel) oD.1 (c22 hc)), fD8, show gF wA c 8 = gF w c 8 from fr_gF (t := 22) (c := c) oA'.2 hc (by decide +kernel) o0.1 (c22 hc)]
          exact ho8
      · refine h_intv k_0 rfl ?_
        refine h_zret (by omega) rfl ?_
        exact ⟨_, _, rfl, Or.inl ⟨rfl, rfl, by omega⟩⟩
  obtain ⟨r, h1, w2, b2, h2, h3⟩ := h_meth1 (nL := 2) rfl K
  rw [h2] at h1
  obtain ⟨w1, b1, g1, g2, g3⟩ := s_readJoin7 (kn := kn) hw hc
  have e := one_r g1 h1
  simp only [Prod.mk.injEq] at e
  obtain ⟨_, e2, _⟩ := e
  subst e2
  exact ⟨w1, b2, h1, g2, h3⟩
theorem x_begin200 {kn : sKn} {w0 : sW} {B : Nat → Int} {n : Nat} (hw : wOk ZZ w0) (hB : ∀ i, i < n → gX w0 2 i = B i) (hn1 : gF w0 1 1 = (n : Int)) (hn940 : n ≤ 940) : ∃ w', fX9_begin kn [.ref 1, hI 200] w0 = some (none, w', 0, 0) ∧ hO dTk w0 w' ∧ smW eBg w0 w' ∧ gF w' 1 11 = 0 ∧ tkC B n 200 (lexT B n 200 0) w' := by
  have K : Tp (tX9_begin kn) (fun r => ∃ w', r = (none, w', 0, 0) ∧ hO dTk w0 w' ∧ smW eBg w0 w' ∧ gF w' 1 11 = 0 ∧ tkC B n 200 (lexT B n 200 0) w') 0 (lv_args 0 [.ref 1, hI 200], [], w0, 0, 0) := by
    have l0 : hL (lv_args 0 [.ref 1, hI 200]) (lv_args 0 [.ref 1, hI 200]) := hL_ex rfl
    have o0 : hO dTk w0 w0 := hO_rf hw
    have sm := smW_rf eBg w0
    refine h_aload rfl l0 rfl ?_
    refine h_iload rfl l0 rfl ?_
    refine x_putI rfl o0 fi_1_2 rfl (by omega) (by omega) (fun w41 o41 q42a q42F q42X q42J q42Y q42R => ?_)
    refine h_aload rfl l0 rfl ?_
    refine h_intv k_0 rfl ?_
    refine x_putI rfl o41 fi_1_3 rfl (by omega) (by omega) (fun w43 o43 q44a q44F q44X q44J q44Y q44R => ?_)
    refine h_aload rfl l0 rfl ?_
    refine h_intv k_0 rfl ?_
    refine x_putI rfl o43 fi_1_11 rfl (by omega) (by omega) (fun w45 o45 q46a q46F q46X q46J q46Y q46R => ?_)
    refine h_aload rfl l0 rfl ?_
    have txb : txC B n 200 w45 := ⟨fun i hi => by rw [q46X 2 i, q44X 2 i, q42X 2 i, hB i hi], by rw [q46F 1 1 (by decide), q44F 1 1 (by decide), q42F 1 1 (by decide), hn1], by rw [q46F 1 2 (by decide), q44F 1 2 (by decide), q42a] <;> rfl, by omega, by omega⟩
    obtain ⟨wA47, hf47, oA47', sA47, tA47⟩ := x_advance (kn := kn) txb o45.1 (p := 0) (by omega) (by rw [q46F 1 3 (by decide), q44a] <;> rfl)
    have oA47 := hO_tr o45 (hO_mono dTk_t oA47')
    refine h_W1 rfl o45 l0 ci_1 rfl rfl hf47 ?_
    refine h_vret rfl ?_
    exact ⟨_, rfl, oA47, smW_tr (smW_tr (smW_tr (smW_tr sm (sm_pI (by decide) q42F q42X q42J q42Y q42R)) (sm_pI (by decide) q44F q44X q44J q44Y q44R)) (sm_pI (by decide) q46F q46X q46J q46Y q46R)) (smW_mono (by decide) sA47), by rw [sA47.1 1 11 (by decide), q46a], tA47⟩
  obtain ⟨r, h1, w2, h2, h3⟩ := h_meth1 (nL := 2) rfl K
  rw [h2] at h1
  exact ⟨w2, h1, h3⟩
def rRd (c : Nat) (G : zE ⊕ Int) (w' : sW) (b : Int) : Prop := (b = 0 ∧ ∃ e, G = .inl e ∧ gF w' 1 11 = e.1 ∧ gF w' 1 12 = e.2) ∨ (b = 1 ∧ G = .inr (gF w' c 8))
def dSr : List (Nat × Nat) := dTk ++ dX7_read
theorem dSr_t : msub dTk dSr = true := by decide +kernel
theorem dSr_o : msub dX7_readOne dSr = true := by decide +kernel
theorem dSr_c : msub dX7_closeBrackets dSr = true := by decide +kernel
theorem dSr_j : msub dX7_readJoin dSr = true := by decide +kernel
theorem dSr_s : msub dX7_settle dSr = true := by decide +kernel
theorem dSr_f : msub dX7_forget dSr = true := by decide +kernel
theorem rd7_e {kn : sKn} {c : Nat} (hc : ztau c = some 22) {B : Nat → Int} {n : Nat} {R N : Nat → Int} {G : zE ⊕ Int} {o : Int} {D : Nat → Int} {m : Nat} {S : tS} {w : sW} {lv : List (Nat × Value)} {mo i : Int} (ho : 0 ≤ o ∧ o ≤ 20) (hGG : gS2 B n R N D m S o = G) (hw : wOk ZZ w) (hst : sSt B n c D m S o w) (htp : m = 0 ∨ D (m - 1) ≠ 17) (hcl : wiD D m = 0 ∨ ¬ (S.1 = 2 ∧ S.2.2.1 = 41)) (hnj : ¬ (S.1 = 4 ∧ (S.2.2.1 = 15 ∨ S.2.2.1 = 16))) (l0 : hL lv [(0, .ref c), (1, .ref 1), (2, .ref 14), (3, hI mo), (4, hI i)]) : Tp (tX7_read kn) (fun r => ∃ (w' : sW) (b : Int), r = (some (hI b), w', 0, 0) ∧ rRd c G w' b) 66 (lv, [], w, 0, 0) := by
  have hc1 : c ≠ 1 := fun z => by
    subst z
    cases hc
  have cTT : (0, c, 8) ∉ eTT := fun z => by
    have : c = 1 := by
      unfold eTT at z
      simp only [List.mem_cons, Prod.mk.injEq, List.not_mem_nil, or_false] at z
      omega
    exact hc1 this
  obtain ⟨hS, ho8, ht, hG, hok, hwi⟩ := hst
  obtain ⟨hat, hnx, hkI, hkN⟩ := tkV_i ht.2
  have wn0 := (wiD_nn D m).1
  have gb := tkG_b hG
  have o0 : hO dSr w w := hO_rf hw
  refine h_aload rfl l0 rfl ?_
  refine h_getI rfl o0 (fI_of hc fit_22_6) (fun b41a b41b => ?_)
  rw [hS.2.2] at b41a b41b ⊢
  refine j_le (kn := kn) (t := 5) (tgt := 79) (np := 73) rfl (by unfold R32; omega) (fun e42 => ?_) (fun e42 => ?_)
  · refine h_aload rfl l0 rfl ?_
    refine h_intv k_n1 rfl ?_
    obtain ⟨wA, hf43, oA', fA5⟩ := x_settle7 (kn := kn) o0.1 hc hS (-1) ⟨by omega, by omega⟩
    have oA := hO_tr o0 (hO_mono dSr_s oA')
    have tA := tkC_hO o0.1 oA' (by decide +kernel) ht
    refine h_W2 rfl o0 l0 (cI_of hc cit_22) rfl rfl hf43 ?_
    refine h_aload rfl l0 rfl ?_
    obtain ⟨wB, bB, hf44, oB', sB, hB⟩ := x_takeEnd (kn := kn) oA.1 tA
    have hb01 : bB = 0 ∨ bB = 1 := by omega
    refine h_V1 rfl oA l0 ci_1 rfl rfl hf44 ?_
    refine h_zret (by omega) rfl ?_
    obtain ⟨es, hl, h0, _⟩ := lev_top m hok htp hwi
    have he := h0 (by omega)
    subst he
    have hG3 : G = if S.1 = 0 then .inr o else .inl (1, S.2.1) := by
      rw [← hGG]
      unfold gS2
      rw [show zAft B n 200 R N 100 (levD D m) S o = zAft B n 200 R N (99 + 1) ((8 - wiD D m).toNat :: []) S o from by rw [hl], aft_e hnj]
    rcases hB with ⟨z1, z2, z3, z4⟩ | ⟨z1, z2⟩
    · refine ⟨_, _, rfl, Or.inl ⟨z1, (1, S.2.1), ?_, z3, z4⟩⟩
      rw [hG3, if_neg z2]
    · refine ⟨_, _, rfl, Or.inr ⟨z1, ?_⟩⟩
      rw [hG3, if_pos z2, sB.1 c 8 cTT, show gF wA c 8 = gF w c 8 from fr_gF (t := 22) (c := c) oA'.2 hc (by decide +kernel) o0.1 (c22 hc), ho8]
  · refine h_aload rfl l0 rfl ?_
    refine h_intv k_1 rfl ?_
    obtain ⟨wR, hf45, oR', sR, fR1, fR2⟩ := x_refuse (kn := kn) o0.1 1 ⟨by omega, by omega⟩
    refine h_V2 rfl o0 l0 ci_1 rfl rfl hf45 ?_
    refine h_zret (by omega) rfl ?_
    refine ⟨_, _, rfl, Or.inl ⟨rfl, (1, S.2.1), ?_, fR1, by rw [fR2]; exact hat⟩⟩
    rw [← hGG]
    unfold gS2
    obtain ⟨es, hl, _, h0⟩ := lev_top m hok htp hwi
    rw [show zAft B n 200 R N 100 (levD D m) S o = zAft B n 200 R N (99 + 1) ((8 - wiD D m).toNat :: es) S o from by rw [hl]]
    obtain ⟨d', es', rfl⟩ : ∃ d' es', es = d' :: es' := by
      cases es with
      | nil => exact absurd rfl (h0 (by omega))
      | cons a b => exact ⟨a, b, rfl⟩
    rw [aft_c hnj, if_neg (by omega)]
theorem rd7_l {kn : sKn} {w0 : sW} {c : Nat} (hc : ztau c = some 22) {B : Nat → Int} {n : Nat} {R N : Nat → Int} {G : zE ⊕ Int} (hw0 : wOk ZZ w0) (hN0 : nmC R N w0) : ∀ (t : Nat) (D : Nat → Int) (m : Nat) (S : tS) (o : Int) (k : Nat) (w : sW) (lv : List (Nat × Value)), 20 - o ≤ (t : Int) → (k : Int) ≤ o ∧ o ≤ 20 → gS1 B n R N D m S o = G → hO dSr w0 w → sSt B n c D m S o w → hL lv [(0, .ref c), (1, .ref 1), (2, .ref 14), (3, hI 1), (4, hI k)] → Tp (tX7_read kn) (fun r => ∃ (w' : sW) (b : Int), r = (some (hI b), w', 0, 0) ∧ rRd c G w' b) 26 (lv, [], w, 0, 0) := by
  intro t
  induction t with
  | zero =>
    intro D m S o k w lv ht9 hk hGG oW hst l0
    have o0 : hO dSr w w := hO_rf oW.1
    have hN := nmC_hO hw0 oW (by decide +kernel) hN0
    refine h_iload rfl l0 rfl ?_
    refine h_intv k_940 rfl ?_
    refine i_gt (kn := kn) (t := 4) (tgt := 66) (np := 34) rfl (by unfold R32; omega) (by unfold R32; omega) (fun e1 => ?_) (fun e1 => ?_)
    · omega
    · refine h_iload rfl l0 rfl ?_
      refine j_eq (kn := kn) (t := 0) (tgt := 66) (np := 38) rfl (by unfold R32; omega) (fun e2 => ?_) (fun e2 => ?_)
      · omega
      · refine h_aload rfl l0 rfl ?_
        refine h_aload rfl l0 rfl ?_
        refine h_aload rfl l0 rfl ?_
        obtain ⟨wA, bA, hfA, oA', hA⟩ := x_readOne7 (kn := kn) o0.1 hc hN hst ⟨by omega, by omega⟩
        rcases hA with ⟨z1, e, z2, z3, z4⟩ | ⟨z1, D', m', S', o', z2, z3, z4, z5⟩
        · subst z1
          refine h_V3 rfl o0 l0 (cI_of hc cit_22) rfl rfl hfA ?_
          refine j_ne (kn := kn) (t := 1) (tgt := 49) (np := 47) rfl (by unfold R32; omega) (fun e3 => ?_) (fun e3 => ?_)
          · omega
          · refine h_intv k_0 rfl ?_
            refine h_zret (by omega) rfl ?_
            exact ⟨_, _, rfl, Or.inl ⟨rfl, e, hGG.symm.trans z2, z3, z4⟩⟩
        · omega
  | succ t ih =>
    intro D m S o k w lv ht9 hk hGG oW hst l0
    have o0 : hO dSr w w := hO_rf oW.1
    have hN := nmC_hO hw0 oW (by decide +kernel) hN0
    refine h_iload rfl l0 rfl ?_
    refine h_intv k_940 rfl ?_
    refine i_gt (kn := kn) (t := 4) (tgt := 66) (np := 34) rfl (by unfold R32; omega) (by unfold R32; omega) (fun e1 => ?_) (fun e1 => ?_)
    · omega
    · refine h_iload rfl l0 rfl ?_
      refine j_eq (kn := kn) (t := 0) (tgt := 66) (np := 38) rfl (by unfold R32; omega) (fun e2 => ?_) (fun e2 => ?_)
      · omega
      · refine h_aload rfl l0 rfl ?_
        refine h_aload rfl l0 rfl ?_
        refine h_aload rfl l0 rfl ?_
        obtain ⟨wA, bA, hfA, oA', hA⟩ := x_readOne7 (kn := kn) o0.1 hc hN hst ⟨by omega, by omega⟩
        have oA := hO_tr o0 (hO_mono dSr_o oA')
        rcases hA with ⟨z1, e, z2, z3, z4⟩ | ⟨z1, D', m', S', o', z2, z3, z4, z5⟩
        · subst z1
          refine h_V3 rfl o0 l0 (cI_of hc cit_22) rfl rfl hfA ?_
          refine j_ne (kn := kn) (t := 1) (tgt := 49) (np := 47) rfl (by unfold R32; omega) (fun e3 => ?_) (fun e3 => ?_)
          · omega
          · refine h_intv k_0 rfl ?_
            refine h_zret (by omega) rfl ?_
            exact ⟨_, _, rfl, Or.inl ⟨rfl, e, hGG.symm.trans z2, z3, z4⟩⟩
        · subst z1
          refine h_V3 rfl o0 l0 (cI_of hc cit_22) rfl rfl hfA ?_
          refine j_ne (kn := kn) (t := 1) (tgt := 49) (np := 47) rfl (by unfold R32; omega) (fun e3 => ?_) (fun e3 => ?_)
          · refine h_aload rfl l0 rfl ?_
            refine h_aload rfl l0 rfl ?_
            obtain ⟨wB, hfB, oB', hB⟩ := x_close7 (kn := kn) (R := R) (N := N) oA.1 hc z3 ⟨by omega, by omega⟩ z5
            have oB := hO_tr oA (hO_mono dSr_c oB')
            refine h_W2 rfl oA l0 (cI_of hc cit_22) rfl rfl hfB ?_
            obtain ⟨D2, m2, S2, y1, y2, y3, y4⟩ := hB
            refine h_aload rfl l0 rfl ?_
            refine h_aload rfl l0 rfl ?_
            obtain ⟨wC, bC, hfC, oC', hC⟩ := x_join7 (kn := kn) (R := R) (N := N) oB.1 hc y2 ⟨by omega, by omega⟩ y3
            have oC := hO_tr oB (hO_mono dSr_j oC')
            rcases hC with ⟨x1, x2, x3⟩ | ⟨x1, D3, m3, S3, x2, x3⟩
            · subst x1
              refine h_V2 rfl oB l0 (cI_of hc cit_22) rfl rfl hfC ?_
              subst x2
              refine h_istore rfl l0 (fun v4 l4 => ?_)
              refine h_iincv k_1 rfl l4 rfl (fun v5 l5 => ?_)
              refine h_goto rfl ?_
              refine h_iload rfl l5 rfl ?_
              refine h_intv k_940 rfl ?_
              refine i_gt (kn := kn) (t := 4) (tgt := 66) (np := 34) rfl (by unfold R32; omega) (by unfold R32; omega) (fun e6 => ?_) (fun e6 => ?_)
              · omega
              · refine h_iload rfl l5 rfl ?_
                refine j_eq (kn := kn) (t := 0) (tgt := 66) (np := 38) rfl (by unfold R32; omega) (fun e7 => ?_) (fun e7 => ?_)
                · exact rd7_e hc ⟨by omega, by omega⟩ (y1.symm.trans (z2.symm.trans hGG)) oB.1 y2 y3 y4 x3 l5
                · omega
            · subst x1
              refine h_V2 rfl oB l0 (cI_of hc cit_22) rfl rfl hfC ?_
              refine h_istore rfl l0 (fun v4 l4 => ?_)
              refine h_iincv k_1 rfl l4 rfl (fun v5 l5 => ?_)
              refine h_goto rfl ?_
              exact ih D3 m3 S3 o' (k + 1) wC _ (by omega) ⟨by omega, by omega⟩ (x2.symm.trans (y1.symm.trans (z2.symm.trans hGG))) (hO_tr oW oC) x3 l5
          · omega
theorem x_forget7 {kn : sKn} {w : sW} (hw : wOk ZZ w) {c : Nat} (hc : ztau c = some 22) : ∃ w', fX7_forget kn [.ref c] w = some (none, w', 0, 0) ∧ hO dX7_forget w w' ∧ gF w' c 8 = 0 := by
  have K : Tp (tX7_forget kn) (fun r => ∃ w', r = (none, w', 0, 0) ∧ hO dX7_forget w w' ∧ gF w' c 8 = 0) 0 (lv_args 0 [.ref c], [], w, 0, 0) := by
    have l0 : hL (lv_args 0 [.ref c]) (lv_args 0 [.ref c]) := ⟨fun _ _ h => h, fun q hq => by
      rcases List.mem_cons.mp hq with e | hq
      · rw [e]
        exact ⟨rfl, tw hc⟩
      cases hq⟩
    have o0 : hO dX7_forget w w := hO_rf hw
    refine h_aload rfl l0 rfl ?_
    refine h_intv k_0 rfl ?_
    refine x_putI rfl o0 (fI_of hc fit_22_8) rfl (by omega) (by omega) (fun w2 o2 q2a q2F q2X q2J q2Y q2R => ?_)
    refine h_aload rfl l0 rfl ?_
    refine h_intv k_0 rfl ?_
    refine x_putI rfl o2 (fI_of hc fit_22_3) rfl (by omega) (by omega) (fun w3 o3 q3a q3F q3X q3J q3Y q3R => ?_)
    refine h_vret rfl ?_
    exact ⟨_, rfl, o3, (q3F c 8 (fun _ => by decide)).trans q2a⟩
  obtain ⟨r, h1, w', h2, h3⟩ := h_meth1 (nL := 1) rfl K
  rw [h2] at h1
  exact ⟨w', h1, h3⟩
theorem x_read7 {kn : sKn} {w : sW} (hw : wOk ZZ w) {c : Nat} (hc : ztau c = some 22) {B : Nat → Int} {n : Nat} {R N : Nat → Int} (hN : nmC R N w) (hB : ∀ i, i < n → gX w 2 i = B i) (hn1 : gF w 1 1 = (n : Int)) (hn940 : n ≤ 940) : ∃ (w' : sW) (b : Int), fX7_read kn [.ref c, .ref 1, .ref 14] w = some (some (hI b), w', 0, 0) ∧ hO dX7_read w w' ∧ rRd c (zSent B n 200 R N) w' b := by
  have hc1 : c ≠ 1 := fun z => by
    subst z
    cases hc
  have K : Tp (tX7_read kn) (fun r => ∃ (w' : sW) (b : Int), r = (some (hI b), w', 0, 0) ∧ rRd c (zSent B n 200 R N) w' b) 0 (lv_args 0 [.ref c, .ref 1, .ref 14], [], w, 0, 0) := by
    have l0 : hL (lv_args 0 [.ref c, .ref 1, .ref 14]) (lv_args 0 [.ref c, .ref 1, .ref 14]) := ⟨fun _ _ h => h, fun q hq => by
      rcases List.mem_cons.mp hq with e | hq
      · rw [e]
        exact ⟨rfl, tw hc⟩
      rcases List.mem_cons.mp hq with e | hq
      · rw [e]
        exact ⟨rfl, rfl⟩
      rcases List.mem_cons.mp hq with e | hq
      · rw [e]
        exact ⟨rfl, rfl⟩
      cases hq⟩
    have o0 : hO dSr w w := hO_rf hw
    refine h_aload rfl l0 rfl ?_
    obtain ⟨wF, hfF, oF', eF8⟩ := x_forget7 (kn := kn) o0.1 hc
    have oF := hO_tr o0 (hO_mono dSr_f oF')
    refine h_W1 rfl o0 l0 (cI_of hc cit_22) rfl rfl hfF ?_
    refine h_aload rfl l0 rfl ?_
    refine h_intv k_0 rfl ?_
    refine x_putI rfl oF (fI_of hc fit_22_5) rfl (by omega) (by omega) (fun w2 o2 q2a q2F q2X q2J q2Y q2R => ?_)
    refine h_aload rfl l0 rfl ?_
    refine h_intv k_0 rfl ?_
    refine x_putI rfl o2 (fI_of hc fit_22_6) rfl (by omega) (by omega) (fun w3 o3 q3a q3F q3X q3J q3Y q3R => ?_)
    refine h_aload rfl l0 rfl ?_
    refine h_intv k_200 rfl ?_
    obtain ⟨wB, hfB, oB', sB, fB11, tB⟩ := x_begin200 (kn := kn) (B := B) (n := n) o3.1 (fun i hi => by rw [q3X 2 i, q2X 2 i, fr_gX2 oF'.2 (show ztau 2 = some 3 from rfl) (by decide +kernel) i]; exact hB i hi) (by rw [q3F 1 1 (fun e => by omega), q2F 1 1 (fun e => by omega), fr_gF (t := 2) (c := 1) oF'.2 rfl (by decide +kernel) hw (by decide +kernel)]; exact hn1) hn940
    have oB := hO_tr o3 (hO_mono dSr_t oB')
    refine h_W2 rfl o3 l0 ci_1 rfl rfl hfB ?_
    refine h_intv k_1 rfl ?_
    refine h_istore rfl l0 (fun v4 l4 => ?_)
    refine h_intv k_0 rfl ?_
    refine h_istore rfl l4 (fun v5 l5 => ?_)
    have F : ∀ k, gF wB c k = gF w3 c k := fun k => sB.1 c k (fun z => by
      unfold eBg at z
      simp only [List.mem_cons, Prod.mk.injEq, List.not_mem_nil, or_false] at z
      omega)
    refine rd7_l hc hw hN 20 (fun _ => 0) 0 (lexT B n 200 0) 0 0 wB _ (by omega) ⟨by omega, by omega⟩ ?_ oB ⟨⟨?_, fun i hi => absurd hi (by omega), ?_⟩, ?_, tB, ⟨0, by omega, rfl⟩, fun i hi => absurd hi (by omega), by show (0 : Int) ≤ 8; omega⟩ l5
    · exact (sent_8 (f := 100) (by omega)).symm
    · rw [F 5, q3F c 5 (fun _ => by decide), q2a]
      rfl
    · rw [F 6, q3a]
      rfl
    · rw [F 8, q3F c 8 (fun _ => by decide), q2F c 8 (fun _ => by decide), eF8]
  obtain ⟨r, h1, w2, b2, h2, h3⟩ := h_meth1 (nL := 5) rfl K
  rw [h2] at h1
  obtain ⟨w1, b1, g1, g2, g3⟩ := s_read7 (kn := kn) hw hc (k2 := 14) rfl
  have e := one_r g1 h1
  simp only [Prod.mk.injEq] at e
  obtain ⟨_, e2, _⟩ := e
  subst e2
  exact ⟨w1, b2, h1, g2, h3⟩
end
