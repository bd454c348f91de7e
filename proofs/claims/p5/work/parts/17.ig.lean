noncomputable section
def dH_now : List (Nat × Nat) := [(63, 999)]
def dH_fall : List (Nat × Nat) := dH_whose ++ [(63, 999)]
def dH_cross : List (Nat × Nat) := dH_fall ++ [(73, 999)]
theorem dH_fall1 : msub dH_whose dH_fall = true := by decide +kernel
theorem dH_fall2 : msub dH_now dH_fall = true := by decide +kernel
theorem dH_cross1 : msub dH_fall dH_cross = true := by decide +kernel
theorem dH_cross2 : msub dH_best dH_cross = true := by decide +kernel
theorem dH_cross3 : msub dH_whose dH_cross = true := by decide +kernel
/-- the spare of a step by now alone -/
def lbQ (w : sW) (wide : Nat) (weight : Int) (r k : Nat) : Int := spV (gX w 215) (fun p => if p < 36 then gX w 215 (118 + p) else 0) (gX w 215 25) r k wide weight
theorem lbQ_of {D : List (Nat × Nat)} {w0 w w' : sW} (o1 : hO D w0 w') (h2 : ∀ p, p < 36 → gX w' 224 p = gX w 215 (118 + p)) (h3 : gF w' 213 28 = gX w 215 25) (h4 : ∀ j, gX w' 215 j = gX w 215 j) (wide : Nat) (weight : Int) : lbS w' wide weight = lbQ w wide weight := by
  funext r k
  unfold lbS lbQ
  have e1 : gX w' 215 = gX w 215 := funext h4
  have e2 : gX w' 224 = (fun p => if p < 36 then gX w 215 (118 + p) else 0) := by
    funext p
    by_cases e : p < 36
    · rw [if_pos e]
      exact h2 p e
    · rw [if_neg e]
      exact gX_out o1 ai_224 (by omega)
  rw [e1, e2, h3]
def npP (w : sW) (l R wide : Nat) : Prop := (∀ a b, a < R → b ≤ 3 → bsG (lbQ w wide (gX w 215 (82 + l))) (gX w 225) R a b) ∧ ∀ k, k ≤ 3 → gX w 225 k = -1
def atP (t : Int) (wide : Nat) : Prop := t = -1 ∨ ∃ q : Nat, t = (q : Int) ∧ q + wide ≤ 3
theorem s_open {kn : sKn} {w : sW} (hw : wOk ZZ w) (p : Nat) (hp : p < 36) : ∃ w', fX12_open kn [.ref 213, hI p] w = some (none, w', 0, 0) ∧ hO dH_now w w' := by
  have K : Tp (tX12_open kn) (fun r => ∃ w', r = (none, w', 0, 0) ∧ hO dH_now w w') 0 (lv_args 0 [.ref 213, hI p], [], w, 0, 0) := by
    have l0 : hL (lv_args 0 [.ref 213, hI p]) (lv_args 0 [.ref 213, hI p]) := hL_ex rfl
    have o0 : hO dH_now w w := hO_rf hw
    refine h_aload rfl l0 rfl ?_
    refine h_getR rfl o0 fr_14 ?_
    refine h_intv k_118 rfl ?_
    refine h_iload rfl l0 rfl ?_
    refine h_iadd rfl ?_
    refine h_intv k_n1 rfl ?_
    refine h_iastj (118 + p) rfl o0 ai_215 rfl rfl ap_plank (by omega) (by omega) (by omega) (by omega) (by omega) (by unfold R32; omega) (fun w1 o1 q2a q2b q2c => ?_)
    refine h_aload rfl l0 rfl ?_
    refine h_getR rfl o1 fr_14 ?_
    refine h_intv k_154 rfl ?_
    refine h_iload rfl l0 rfl ?_
    refine h_iadd rfl ?_
    refine h_intv k_0 rfl ?_
    refine h_iastj (154 + p) rfl o1 ai_215 rfl rfl ap_singed (by omega) (by omega) (by omega) (by omega) (by omega) (by unfold R32; omega) (fun w3 o3 q4a q4b q4c => ?_)
    refine h_vret rfl ?_
    exact ⟨_, rfl, o3⟩
  obtain ⟨r, h1, w2, h2, h3⟩ := h_meth1 (nL := 2) rfl K
  rw [h2] at h1
  exact ⟨w2, h1, h3⟩
theorem df_i {kn : sKn} {w0 : sW} (l a wide : Nat) (t : Int) (ha : a < 12) (hwd : wide ≤ 3) (ht0 : -1 ≤ t ∧ t ≤ 3) (ht : atP t wide) : ∀ (m i : Nat) (w : sW) (lv : List (Nat × Value)) (x : Int), i + m = wide → x = (i : Int) → hO dH_fall w0 w → hL lv [(0, .ref 213), (1, hI l), (2, hI a), (3, hI wide), (4, hI t), (5, hI x)] → Tp (tX12_doFall kn) (fun r => ∃ w', r = (none, w', 0, 0) ∧ hO dH_fall w0 w') 97 (lv, [], w, 0, 0) := by
  intro m
  induction m with
  | zero =>
    intro i w lv x him hxi o0 l0
    subst hxi
    refine h_iload rfl l0 rfl ?_
    refine h_iload rfl l0 rfl ?_
    refine i_ge (kn := kn) (t := 3) (tgt := 128) (np := 103) rfl (by unfold R32; omega) (by unfold R32; omega) (fun e1 => ?_) (fun e1 => ?_)
    · refine h_vret rfl ?_
      exact ⟨_, rfl, o0⟩
    · omega
  | succ m ih =>
    intro i w lv x him hxi o0 l0
    subst hxi
    refine h_iload rfl l0 rfl ?_
    refine h_iload rfl l0 rfl ?_
    refine i_ge (kn := kn) (t := 3) (tgt := 128) (np := 103) rfl (by unfold R32; omega) (by unfold R32; omega) (fun e1 => ?_) (fun e1 => ?_)
    · refine h_vret rfl ?_
      exact ⟨_, rfl, o0⟩
    · refine h_iload rfl l0 rfl ?_
      refine h_intv k_n1 rfl ?_
      refine i_eq (kn := kn) (t := 0) (tgt := 128) (np := 109) rfl (by unfold R32; omega) (by unfold R32; omega) (fun e2 => ?_) (fun e2 => ?_)
      · refine h_vret rfl ?_
        exact ⟨_, rfl, o0⟩
      · rcases ht with ht | ⟨q, rfl, hq2⟩
        · omega
        refine h_aload rfl l0 rfl ?_
        refine h_intv k_3 rfl ?_
        refine h_iload rfl l0 rfl ?_
        refine h_imul rfl ?_
        refine h_iload rfl l0 rfl ?_
        refine h_iadd rfl ?_
        refine h_iload rfl l0 rfl ?_
        refine h_iadd rfl ?_
        have hi9 : 3 * (a : Int) + (q : Int) + (i : Int) = ((3 * a + q + i : Nat) : Int) := by omega
        rw [hi9]
        obtain ⟨w9, hf3, o9⟩ := s_open (kn := kn) o0.1 (3 * a + q + i) (by omega)
        have o8 : hO dH_fall w0 w9 := hO_tr o0 (hO_mono dH_fall2 o9)
        refine h_W2 rfl o0 l0 ci_213 rfl rfl hf3 ?_
        refine h_iincv k_1 rfl l0 rfl (fun vl4 l4 => ?_)
        refine h_goto rfl ?_
        exact ih (i + 1) w9 _ ((i : Int) + 1) (by omega) (by omega) o8 l4
theorem df_k {kn : sKn} {Po : sR → Prop} {w0 w : sW} (o0 : hO dH_fall w0 w) (l a wide : Nat) (ha : a < 12) (hwd : wide ≤ 3) (b81 : ∀ (lv : List (Nat × Value)) (t : Int), (-1 ≤ t ∧ t ≤ 3) → atP t wide → hL lv [(0, .ref 213), (1, hI l), (2, hI a), (3, hI wide), (4, hI t)] → Tp (tX12_doFall kn) Po 81 (lv, [], w, 0, 0)) : ∀ (m k : Nat) (t : Int) (lv : List (Nat × Value)) (x : Int), k + m = 4 → x = (k : Int) → (-1 ≤ t ∧ t ≤ 3) → atP t wide → hL lv [(0, .ref 213), (1, hI l), (2, hI a), (3, hI wide), (4, hI t), (5, hI x)] → Tp (tX12_doFall kn) Po 26 (lv, [], w, 0, 0) := by
  intro m
  induction m with
  | zero =>
    intro k t lv x hkm hxk ht0 ht l0
    subst hxk
    refine h_iload rfl l0 rfl ?_
    refine h_iload rfl l0 rfl ?_
    refine h_iadd rfl ?_
    refine h_intv k_3 rfl ?_
    refine i_gt (kn := kn) (t := 4) (tgt := 81) (np := 34) rfl (by unfold R32; omega) (by unfold R32; omega) (fun e1 => ?_) (fun e1 => ?_)
    · exact b81 _ t ht0 ht (hL_take 5 l0)
    · omega
  | succ m ih =>
    intro k t lv x hkm hxk ht0 ht l0
    subst hxk
    refine h_iload rfl l0 rfl ?_
    refine h_iload rfl l0 rfl ?_
    refine h_iadd rfl ?_
    refine h_intv k_3 rfl ?_
    refine i_gt (kn := kn) (t := 4) (tgt := 81) (np := 34) rfl (by unfold R32; omega) (by unfold R32; omega) (fun e1 => ?_) (fun e1 => ?_)
    · exact b81 _ t ht0 ht (hL_take 5 l0)
    · refine h_aload rfl l0 rfl ?_
      refine h_iload rfl l0 rfl ?_
      refine h_iload rfl l0 rfl ?_
      refine h_iload rfl l0 rfl ?_
      have hf2 := s_sum (kn := kn) o0.1 a k wide ha (by omega) hwd
      obtain ⟨x2, hx2⟩ : ∃ x, sumV (gX w 215) (gX w 224) (gF w 213 28) a k wide = x := ⟨_, rfl⟩
      have hs2 := sumV_R (N := gX w 215) (W := gX w 224) (F := gF w 213 28) (row := a) (k := k) (wide := wide)
      rw [hx2] at hf2 hs2
      refine h_V4 rfl o0 l0 ci_213 rfl rfl hf2 ?_
      refine h_intv k_n1 rfl ?_
      refine i_eq (kn := kn) (t := 0) (tgt := 75) (np := 46) rfl (by unfold R32; omega) (by unfold R32; omega) (fun e3 => ?_) (fun e3 => ?_)
      · refine h_iincv k_1 rfl l0 rfl (fun vl4 l4 => ?_)
        refine h_goto rfl ?_
        exact ih (k + 1) t _ ((k : Int) + 1) (by omega) (by omega) ht0 ht l4
      · refine h_iload rfl l0 rfl ?_
        refine h_intv k_n1 rfl ?_
        refine i_eq (kn := kn) (t := 0) (tgt := 71) (np := 52) rfl (by unfold R32; omega) (by unfold R32; omega) (fun e5 => ?_) (fun e5 => ?_)
        · refine h_iload rfl l0 rfl ?_
          refine h_istore rfl l0 (fun vl6 l6 => ?_)
          refine h_iincv k_1 rfl l6 rfl (fun vl7 l7 => ?_)
          refine h_goto rfl ?_
          exact ih (k + 1) k _ ((k : Int) + 1) (by omega) (by omega) (by omega) (Or.inr ⟨k, rfl, by omega⟩) l7
        · rcases ht with ht | ⟨q, rfl, hq2⟩
          · omega
          refine h_aload rfl l0 rfl ?_
          refine h_iload rfl l0 rfl ?_
          refine h_iload rfl l0 rfl ?_
          refine h_iload rfl l0 rfl ?_
          have hf8 := s_sum (kn := kn) o0.1 a k wide ha (by omega) hwd
          obtain ⟨x8, hx8⟩ : ∃ x, sumV (gX w 215) (gX w 224) (gF w 213 28) a k wide = x := ⟨_, rfl⟩
          have hs8 := sumV_R (N := gX w 215) (W := gX w 224) (F := gF w 213 28) (row := a) (k := k) (wide := wide)
          rw [hx8] at hf8 hs8
          refine h_V4 rfl o0 l0 ci_213 rfl rfl hf8 ?_
          refine h_aload rfl l0 rfl ?_
          refine h_iload rfl l0 rfl ?_
          refine h_iload rfl l0 rfl ?_
          refine h_iload rfl l0 rfl ?_
          have hf9 := s_sum (kn := kn) o0.1 a q wide ha (by omega) hwd
          obtain ⟨x9, hx9⟩ : ∃ x, sumV (gX w 215) (gX w 224) (gF w 213 28) a q wide = x := ⟨_, rfl⟩
          have hs9 := sumV_R (N := gX w 215) (W := gX w 224) (F := gF w 213 28) (row := a) (k := q) (wide := wide)
          rw [hx9] at hf9 hs9
          refine h_V4 rfl o0 l0 ci_213 rfl rfl hf9 ?_
          refine i_le (kn := kn) (t := 5) (tgt := 75) (np := 71) rfl (by unfold R32; omega) (by unfold R32; omega) (fun e10 => ?_) (fun e10 => ?_)
          · refine h_iincv k_1 rfl l0 rfl (fun vl11 l11 => ?_)
            refine h_goto rfl ?_
            exact ih (k + 1) q _ ((k : Int) + 1) (by omega) (by omega) (by omega) (Or.inr ⟨q, rfl, hq2⟩) l11
          · refine h_iload rfl l0 rfl ?_
            refine h_istore rfl l0 (fun vl12 l12 => ?_)
            refine h_iincv k_1 rfl l12 rfl (fun vl13 l13 => ?_)
            refine h_goto rfl ?_
            exact ih (k + 1) k _ ((k : Int) + 1) (by omega) (by omega) (by omega) (Or.inr ⟨k, rfl, by omega⟩) l13
theorem s_doFall {kn : sKn} {w : sW} (hw : wOk ZZ w) (l : Nat) (hl : l < 6) (R : Nat) (hR : gX w 215 0 = (R : Int)) (hR1 : 1 ≤ R) (hR2 : R ≤ 12) (wide : Nat) (hwd : gX w 215 (88 + l) = (wide : Int)) (hwd2 : wide ≤ 3) (hnp : npP w l R wide) : ∃ w', fX12_doFall kn [.ref 213, hI l] w = some (none, w', 0, 0) ∧ hO dH_fall w w' := by
  have K : Tp (tX12_doFall kn) (fun r => ∃ w', r = (none, w', 0, 0) ∧ hO dH_fall w w') 0 (lv_args 0 [.ref 213, hI l], [], w, 0, 0) := by
    have l0 : hL (lv_args 0 [.ref 213, hI l]) (lv_args 0 [.ref 213, hI l]) := hL_ex rfl
    have o0 : hO dH_fall w w := hO_rf hw
    refine h_aload rfl l0 rfl ?_
    obtain ⟨w1, hf1, q1, q2, q3, q4, q5⟩ := s_layWhose2 (kn := kn) hw
    have o1 : hO dH_fall w w1 := hO_mono dH_fall1 q1
    have hR' : gX w1 215 0 = (R : Int) := by rw [q4 215 0 (by omega)]; exact hR
    have hwd' : gX w1 215 (88 + l) = (wide : Int) := by rw [q4 215 _ (by omega)]; exact hwd
    have eQ := lbQ_of o1 q2 q3 (fun j => q4 215 j (by omega)) wide (gX w 215 (82 + l))
    have e225 : gX w1 225 = gX w 225 := funext fun j => q4 225 j (by omega)
    refine h_W1 rfl o0 l0 ci_213 rfl rfl hf1 ?_
    refine h_aload rfl l0 rfl ?_
    refine h_iload rfl l0 rfl ?_
    obtain ⟨a, hf2, ha⟩ := s_stuckAt (kn := kn) o1.1 l hl R hR' hR2 wide hwd' hwd2 hR1 (fun x y h1 h2 => by rw [q4 215 _ (by omega), eQ, e225]; exact hnp.1 x y h1 h2) (fun k hk => by rw [e225]; exact hnp.2 k hk)
    refine h_V2 rfl o1 l0 ci_213 rfl rfl hf2 ?_
    refine h_istore rfl l0 (fun vl3 l3 => ?_)
    refine h_aload rfl l3 rfl ?_
    refine h_getR rfl o1 fr_14 ?_
    refine h_intv k_88 rfl ?_
    refine h_iload rfl l3 rfl ?_
    refine h_iadd rfl ?_
    refine h_ialdj (88 + l) rfl o1 ai_215 rfl (by omega) (by omega) (fun b4a b4b => ?_)
    rw [hwd'] at b4a b4b ⊢
    refine h_istore rfl l3 (fun vl5 l5 => ?_)
    refine h_intv k_n1 rfl ?_
    refine h_istore rfl l5 (fun vl6 l6 => ?_)
    refine h_intv k_0 rfl ?_
    refine h_istore rfl l6 (fun vl7 l7 => ?_)
    refine df_k o1 l a wide (by omega) hwd2 ?_ 4 0 _ _ 0 rfl rfl (by omega) (Or.inl rfl) l7
    intro lv t ht0 ht l0
    refine h_aload rfl l0 rfl ?_
    refine h_getR rfl o1 fr_14 ?_
    refine h_intv k_96 rfl ?_
    refine h_dup2 rfl rfl rfl ?_
    refine h_ialdj (96) rfl o1 ai_215 rfl (by omega) (by omega) (fun b1a b1b => ?_)
    refine h_intv k_1 rfl ?_
    refine h_iload rfl l0 rfl ?_
    refine h_ishl rfl ?_
    refine h_ior rfl ?_
    refine h_iastj (96) rfl o1 ai_215 rfl rfl ap_fallen (by omega) (by omega) (by omega) (R32_of _).1 (R32_of _).2 (R32_of _) (fun w2 o2 q3a q3b q3c => ?_)
    refine h_intv k_0 rfl ?_
    refine h_istore rfl l0 (fun vl4 l4 => ?_)
    exact df_i l a wide t (by omega) hwd2 ht0 ht wide 0 _ _ 0 (by omega) rfl o2 l4
  obtain ⟨r, h1, w2, h2, h3⟩ := h_meth1 (nL := 6) rfl K
  rw [h2] at h1
  exact ⟨w2, h1, h3⟩
theorem s_hasPath {kn : sKn} {w : sW} (hw : wOk ZZ w) (l : Nat) (hl : l < 6) (R : Nat) (hR : gX w 215 0 = (R : Int)) (hR1 : 1 ≤ R) (hR2 : R ≤ 12) (wide : Nat) (hwd : gX w 215 (88 + l) = (wide : Int)) (hwd2 : wide ≤ 3) : (∃ (w' : sW) (b : Int), fX12_hasPath kn [.ref 213, hI l] w = some (some (hI b), w', 0, 0) ∧ lbW w w' ∧ (b = 0 ∨ b = 1) ∧ (b = 0 → (∀ x y, x < R → y ≤ 3 → bsG (lbS w wide (gX w 215 (82 + l))) (gX w' 225) R x y) ∧ ∀ k, k ≤ 3 → gX w' 225 k = -1)) := by
  have K : Tp (tX12_hasPath kn) (fun r => (∃ (w' : sW) (b : Int), r = (some (hI b), w', 0, 0) ∧ lbW w w' ∧ (b = 0 ∨ b = 1) ∧ (b = 0 → (∀ x y, x < R → y ≤ 3 → bsG (lbS w wide (gX w 215 (82 + l))) (gX w' 225) R x y) ∧ ∀ k, k ≤ 3 → gX w' 225 k = -1))) 0 (lv_args 0 [.ref 213, hI l], [], w, 0, 0) := by
    have l0 : hL (lv_args 0 [.ref 213, hI l]) (lv_args 0 [.ref 213, hI l]) := hL_ex rfl
    have o0 : hO dH_best w w := hO_rf hw
    refine h_aload rfl l0 rfl ?_
    refine h_iload rfl l0 rfl ?_
    obtain ⟨w1, v, hf1, hW, hG, s1, s2, s3, s4⟩ := s_bestOf (kn := kn) hw l hl R hR hR2 wide hwd hwd2
    have o1 := hW.1
    refine h_V2 rfl o0 l0 ci_213 rfl rfl hf1 ?_
    refine h_intv k_n1 rfl ?_
    refine i_eq (kn := kn) (t := 0) (tgt := 13) (np := 9) rfl (by unfold R32; omega) (by unfold R32; omega) (fun e2 => ?_) (fun e2 => ?_)
    · refine h_intv k_0 rfl ?_
      refine h_zret (by omega) rfl ?_
      refine ⟨w1, 0, rfl, hW, Or.inl rfl, fun _ => ⟨hG, fun k hk => ?_⟩⟩
      have g1 := (hG 0 k (by omega) hk).1
      have g2 := s3 k hk
      rw [show 4 * 0 + k = k by omega] at g1
      omega
    · refine h_intv k_1 rfl ?_
      refine h_goto rfl ?_
      refine h_zret (by omega) rfl ?_
      exact ⟨w1, 1, rfl, hW, Or.inr rfl, fun z => by omega⟩
  obtain ⟨r, h1, w2, b, h2, h3⟩ := h_meth1 (nL := 2) rfl K
  rw [h2] at h1
  exact ⟨w2, b, h1, h3⟩
theorem s_doCross {kn : sKn} {w : sW} (hw : wOk ZZ w) (l : Nat) (hl : l < 6) : (∃ (w' : sW) (b : Int), fX12_doCross kn [.ref 213, hI l] w = some (some (hI b), w', 0, 0) ∧ hO dH_cross w w' ∧ (b = 0 ∨ b = 2)) := by
  have K : Tp (tX12_doCross kn) (fun r => (∃ (w' : sW) (b : Int), r = (some (hI b), w', 0, 0) ∧ hO dH_cross w w' ∧ (b = 0 ∨ b = 2))) 0 (lv_args 0 [.ref 213, hI l], [], w, 0, 0) := by
    have l0 : hL (lv_args 0 [.ref 213, hI l]) (lv_args 0 [.ref 213, hI l]) := hL_ex rfl
    have o0 : hO dH_cross w w := hO_rf hw
    refine h_aload rfl l0 rfl ?_
    obtain ⟨w1, hf1, q1, q2, q3, q4, q5⟩ := s_layWhose2 (kn := kn) hw
    have o1 : hO dH_cross w w1 := hO_mono dH_cross3 q1
    obtain ⟨R, hR, hR1, hR2⟩ := rows_of o1
    obtain ⟨wide, hwd, hwd2⟩ := wide_of o1 hl
    refine h_W1 rfl o0 l0 ci_213 rfl rfl hf1 ?_
    refine h_aload rfl l0 rfl ?_
    refine h_iload rfl l0 rfl ?_
    obtain ⟨w2, b, hf2, hW, hb, hN⟩ := s_hasPath (kn := kn) o1.1 l hl R hR hR1 hR2 wide hwd hwd2
    have o2 : hO dH_cross w w2 := hO_tr o1 (hO_mono dH_cross2 hW.1)
    refine h_V2 rfl o1 l0 ci_213 rfl rfl hf2 ?_
    refine j_ne (kn := kn) (t := 1) (tgt := 19) (np := 12) rfl (by unfold R32; omega) (fun e3 => ?_) (fun e3 => ?_)
    · refine h_aload rfl l0 rfl ?_
      refine h_getR rfl o2 fr_14 ?_
      refine h_intv k_190 rfl ?_
      refine h_iload rfl l0 rfl ?_
      refine h_iadd rfl ?_
      refine h_dup2 rfl rfl rfl ?_
      refine h_ialdj (190 + l) rfl o2 ai_215 rfl (by omega) (by omega) (fun b4a b4b => ?_)
      refine h_intv k_1 rfl ?_
      refine h_iadd rfl ?_
      rw [hI_wr (gX w2 215 (190 + l) + 1)]
      refine h_iastj (190 + l) rfl o2 ai_215 rfl rfl ap_crossed (by omega) (by omega) (by omega) (wr_R _).1 (wr_R _).2 (wr_R _) (fun w5 o5 q6a q6b q6c => ?_)
      refine h_intv k_0 rfl ?_
      refine h_iret rfl ?_
      exact ⟨_, _, rfl, o5, by omega⟩
    · refine h_aload rfl l0 rfl ?_
      refine h_iload rfl l0 rfl ?_
      obtain ⟨n1, n2⟩ := hN (by omega)
      have eQ : lbS w1 wide (gX w1 215 (82 + l)) = lbQ w2 wide (gX w2 215 (82 + l)) := by
        rw [hW.2.1 215 (82 + l) (by omega)]
        exact lbQ_of o1 (fun p hp => by rw [q2 p hp, hW.2.1 215 _ (by omega), q4 215 _ (by omega)]) (by rw [q3, hW.2.1 215 25 (by omega), q4 215 25 (by omega)]) (fun j => (hW.2.1 215 j (by omega)).symm) wide _
      obtain ⟨w3, hf7, o3'⟩ := s_doFall (kn := kn) o2.1 l hl R (by rw [hW.2.1 215 0 (by omega)]; exact hR) hR1 hR2 wide (by rw [hW.2.1 215 _ (by omega)]; exact hwd) hwd2 ⟨fun x y h1 h2 => by rw [← eQ]; exact n1 x y h1 h2, n2⟩
      have o3 : hO dH_cross w w3 := hO_tr o2 (hO_mono dH_cross1 o3')
      refine h_W2 rfl o2 l0 ci_213 rfl rfl hf7 ?_
      refine h_intv k_2 rfl ?_
      refine h_iret rfl ?_
      exact ⟨_, _, rfl, o3, by omega⟩
  obtain ⟨r, h1, w2, b, h2, h3⟩ := h_meth1 (nL := 2) rfl K
  rw [h2] at h1
  exact ⟨w2, b, h1, h3⟩
end
