noncomputable section
/-- what has not changed -/
theorem fr_gX {D : List (Nat × Nat)} {w w' : sW} {c t : Nat} (h : frOk ZZ D w w') (hc : ztau c = some t) (hm : mIn D t 999 = false) (hw : wOk ZZ w) (hx : aI c ≠ none) (j : Nat) : gX w' c j = gX w c j := by
  cases e : aI c with
  | none => exact absurd e hx
  | some q =>
    obtain ⟨vs, q', _, _, _, _, _, w1, _⟩ := aI_ok (D := []) (w0 := w) ⟨hw, frOk_rf w⟩ e
    have k := (h.2.1 c _ w1).2 t hc
    have k2 : w'[c]? = some (.inl (1, vs)) := k (mIn_no hm)
    unfold gX
    rw [k2, w1]
theorem fr_gF {D : List (Nat × Nat)} {w w' : sW} {c t kf : Nat} (h : frOk ZZ D w w') (hc : ztau c = some t) (hm : mIn D t kf = false) (hw : wOk ZZ w) (hx : cIs c ≠ none) : gF w' c kf = gF w c kf := by
  cases e : cIs c with
  | none => exact absurd e hx
  | some q =>
    obtain ⟨fs, w1⟩ := cIs_ok (D := []) (w0 := w) ⟨hw, frOk_rf w⟩ e
    obtain ⟨fs', k1, k2⟩ := (h.2.1 c _ w1).2 t hc
    unfold gF
    rw [k1, w1]
    dsimp only
    rw [k2 kf (mIn_no hm)]
/-- a contract without arguments but the object, nothing asked -/
theorem con_0 {D : List (Nat × Nat)} {f : List Value → sW → Option sR} {Q : List eS} (h : Con ZZ D f ([(2, 0, 213)], [], [], 1, Q)) {w : sW} (hw : wOk ZZ w) : ∃ r w', f [.ref 213] w = some (r, w', 0, 0) ∧ hO D w w' ∧ ∃ q ∈ Q, ∃ σ' : List Int, σ'[0]? = some 0 ∧ gS σ' q.2.1 r.toList ∧ gE ZZ σ' q.2.2.2.1 := by
  have hn := hO_len (D := []) (w0 := w) ⟨hw, frOk_rf w⟩
  obtain ⟨⟨r, h1⟩, h2⟩ := h [0] [.ref 213] w rfl rfl ⟨⟨0, rfl, 213, rfl, rfl⟩, trivial⟩ (fun q hq => by cases hq) (fun q hq => by cases hq) hw (fun v hv => by
    rcases List.mem_singleton.mp hv with rfl
    exact wf_up (by decide) hn)
  obtain ⟨e1, e2, e3, q, e4, σ', e5, e6, e7, e8, e9⟩ := h2 r h1
  obtain ⟨r1, r2, r3⟩ := r
  have e1 : r3 = (0, 0) := e1
  subst e1
  exact ⟨r1, r2, h1, ⟨e3, e2⟩, q, e4, σ', e5 0 0 rfl, e7, e9⟩
theorem gS_nil {σ : List Int} {r : Option Value} (h : gS σ [] r.toList) : r = none := by
  cases r with
  | none => rfl
  | some v => exact h.elim
theorem ar_wide : aR 215 88 6 0 3 = true := by decide +kernel
theorem ar_weight : aR 215 82 6 0 300 = true := by decide +kernel
theorem ar_rows : aR 215 0 1 1 12 = true := by decide +kernel
theorem rows_of {D : List (Nat × Nat)} {w0 w : sW} (o0 : hO D w0 w) : ∃ R : Nat, gX w 215 0 = (R : Int) ∧ 1 ≤ R ∧ R ≤ 12 := by
  have h := gX_in o0 ai_215 ar_rows (j := 0) (by omega) (by omega) (by omega)
  exact ⟨(gX w 215 0).toNat, by omega, by omega, by omega⟩
theorem wide_of {D : List (Nat × Nat)} {w0 w : sW} (o0 : hO D w0 w) {l : Nat} (hl : l < 6) : ∃ wd : Nat, gX w 215 (88 + l) = (wd : Int) ∧ wd ≤ 3 := by
  have h := gX_in o0 ai_215 ar_wide (j := 88 + l) (by omega) (by omega) (by omega)
  exact ⟨(gX w 215 (88 + l)).toNat, by omega, by omega⟩
theorem weight_of {D : List (Nat × Nat)} {w0 w : sW} (o0 : hO D w0 w) {l : Nat} (hl : l < 6) : 0 ≤ gX w 215 (82 + l) ∧ gX w 215 (82 + l) ≤ 300 := gX_in o0 ai_215 ar_weight (j := 82 + l) (by omega) (by omega) (by omega)
theorem s_bestOf {kn : sKn} {w : sW} (hw : wOk ZZ w) (l : Nat) (hl : l < 6) (R : Nat) (hR : gX w 215 0 = (R : Int)) (hR2 : R ≤ 12) (wide : Nat) (hwd : gX w 215 (88 + l) = (wide : Int)) (hwd2 : wide ≤ 3) : ∃ (w' : sW) (v : Int), fX12_bestOf kn [.ref 213, hI l] w = some (some (hI v), w', 0, 0) ∧ lbW w w' ∧ (∀ a b, a < R → b ≤ 3 → bsG (lbS w wide (gX w 215 (82 + l))) (gX w' 225) R a b) ∧ -1 ≤ v ∧ v ≤ 2147483647 ∧ (∀ k, k ≤ 3 → gX w' 225 k ≤ v) ∧ (v = -1 ∨ ∃ k, k ≤ 3 ∧ gX w' 225 k = v) := by
  have K : Tp (tX12_bestOf kn) (fun r => ∃ (w' : sW) (v : Int), r = (some (hI v), w', 0, 0) ∧ lbW w w' ∧ (∀ a b, a < R → b ≤ 3 → bsG (lbS w wide (gX w 215 (82 + l))) (gX w' 225) R a b) ∧ -1 ≤ v ∧ v ≤ 2147483647 ∧ (∀ k, k ≤ 3 → gX w' 225 k ≤ v) ∧ (v = -1 ∨ ∃ k, k ≤ 3 ∧ gX w' 225 k = v)) 0 (lv_args 0 [.ref 213, hI l], [], w, 0, 0) := by
    have l0 : hL (lv_args 0 [.ref 213, hI l]) (lv_args 0 [.ref 213, hI l]) := hL_ex rfl
    have o0 : hO dH_best w w := hO_rf hw
    refine h_aload rfl l0 rfl ?_
    refine h_aload rfl l0 rfl ?_
    refine h_getR rfl o0 fr_14 ?_
    refine h_intv k_88 rfl ?_
    refine h_iload rfl l0 rfl ?_
    refine h_iadd rfl ?_
    refine h_ialdj (88 + l) rfl o0 ai_215 rfl (by omega) (by omega) (fun b1a b1b => ?_)
    rw [hwd] at b1a b1b ⊢
    refine h_aload rfl l0 rfl ?_
    refine h_getR rfl o0 fr_14 ?_
    refine h_intv k_82 rfl ?_
    refine h_iload rfl l0 rfl ?_
    refine h_iadd rfl ?_
    refine h_ialdj (82 + l) rfl o0 ai_215 rfl (by omega) (by omega) (fun b2a b2b => ?_)
    obtain ⟨w1, hf3, hW, hG⟩ := s_layBest (kn := kn) hw wide (gX w 215 (82 + l)) hwd2 (by have := weight_of o0 hl; omega) R hR hR2
    have o1 := hW.1
    have b26 : ∀ (m k : Nat) (v : Int) (lv : List (Nat × Value)) (x : Int), k + m = 4 → x = (k : Int) → hL lv [(0, .ref 213), (1, hI l), (2, hI v), (3, hI x)] → (-1 ≤ v ∧ v ≤ 2147483647 ∧ (∀ j, j < k → j ≤ 3 → gX w1 225 j ≤ v) ∧ (v = -1 ∨ ∃ j, j ≤ 3 ∧ gX w1 225 j = v)) → Tp (tX12_bestOf kn) (fun r => ∃ (w' : sW) (v : Int), r = (some (hI v), w', 0, 0) ∧ lbW w w' ∧ (∀ a b, a < R → b ≤ 3 → bsG (lbS w wide (gX w 215 (82 + l))) (gX w' 225) R a b) ∧ -1 ≤ v ∧ v ≤ 2147483647 ∧ (∀ k, k ≤ 3 → gX w' 225 k ≤ v) ∧ (v = -1 ∨ ∃ k, k ≤ 3 ∧ gX w' 225 k = v)) 26 (lv, [], w1, 0, 0) := by
      intro m
      induction m with
      | zero =>
        intro k v lv x hkm hxk l0 hI0
        subst hxk
        obtain ⟨g1, g2, g3, g4⟩ := hI0
        refine h_iload rfl l0 rfl ?_
        refine h_intv k_3 rfl ?_
        refine i_gt (kn := kn) (t := 4) (tgt := 54) (np := 31) rfl (by unfold R32; omega) (by unfold R32; omega) (fun e1 => ?_) (fun e1 => ?_)
        · refine h_iload rfl l0 rfl ?_
          refine h_iret rfl ?_
          exact ⟨w1, v, rfl, hW, hG, g1, g2, fun j hj => g3 j (by omega) hj, g4⟩
        · omega
      | succ m ih0 =>
        intro k v lv x hkm hxk l0 hI0
        subst hxk
        obtain ⟨g1, g2, g3, g4⟩ := hI0
        have ih : ∀ (k' : Nat) (v : Int) (lv : List (Nat × Value)) (x : Int), k' + m = 4 → x = (k : Int) + 1 → hL lv [(0, .ref 213), (1, hI l), (2, hI v), (3, hI x)] → (-1 ≤ v ∧ v ≤ 2147483647 ∧ (∀ j, j < k' → j ≤ 3 → gX w1 225 j ≤ v) ∧ (v = -1 ∨ ∃ j, j ≤ 3 ∧ gX w1 225 j = v)) → k' = k + 1 → Tp (tX12_bestOf kn) (fun r => ∃ (w' : sW) (v : Int), r = (some (hI v), w', 0, 0) ∧ lbW w w' ∧ (∀ a b, a < R → b ≤ 3 → bsG (lbS w wide (gX w 215 (82 + l))) (gX w' 225) R a b) ∧ -1 ≤ v ∧ v ≤ 2147483647 ∧ (∀ k, k ≤ 3 → gX w' 225 k ≤ v) ∧ (v = -1 ∨ ∃ k, k ≤ 3 ∧ gX w' 225 k = v)) 26 (lv, [], w1, 0, 0) := fun k' v lv x h1 h2 h3 h4 h5 => ih0 k' v lv x h1 (by omega) h3 h4
        refine h_iload rfl l0 rfl ?_
        refine h_intv k_3 rfl ?_
        refine i_gt (kn := kn) (t := 4) (tgt := 54) (np := 31) rfl (by unfold R32; omega) (by unfold R32; omega) (fun e1 => ?_) (fun e1 => ?_)
        · refine h_iload rfl l0 rfl ?_
          refine h_iret rfl ?_
          omega
        · refine h_aload rfl l0 rfl ?_
          refine h_getR rfl o1 fr_29 ?_
          refine h_iload rfl l0 rfl ?_
          refine h_ialdj (k) rfl o1 ai_225 rfl (by omega) (by omega) (fun b2a b2b => ?_)
          refine h_iload rfl l0 rfl ?_
          refine i_le (kn := kn) (t := 5) (tgt := 48) (np := 41) rfl (by unfold R32; omega) (by unfold R32; omega) (fun e3 => ?_) (fun e3 => ?_)
          · refine h_iincv k_1 rfl l0 rfl (fun vl4 l4 => ?_)
            refine h_goto rfl ?_
            exact ih (k + 1) v _ _ (by omega) rfl l4 ⟨g1, g2, fun j h1 h2 => by
              by_cases e : j = k
              · subst e; omega
              · exact g3 j (by omega) h2, g4⟩ rfl
          · refine h_aload rfl l0 rfl ?_
            refine h_getR rfl o1 fr_29 ?_
            refine h_iload rfl l0 rfl ?_
            refine h_ialdj (k) rfl o1 ai_225 rfl (by omega) (by omega) (fun b5a b5b => ?_)
            refine h_istore rfl l0 (fun vl6 l6 => ?_)
            refine h_iincv k_1 rfl l6 rfl (fun vl7 l7 => ?_)
            refine h_goto rfl ?_
            exact ih (k + 1) _ _ _ (by omega) rfl l7 ⟨by omega, by omega, fun j h1 h2 => by
              by_cases e : j = k
              · subst e; exact Int.le_refl _
              · have := g3 j (by omega) h2; omega, Or.inr ⟨k, by omega, rfl⟩⟩ rfl
    refine h_W3 rfl o0 l0 ci_213 rfl rfl hf3 ?_
    refine h_intv k_n1 rfl ?_
    refine h_istore rfl l0 (fun vl4 l4 => ?_)
    refine h_intv k_0 rfl ?_
    refine h_istore rfl l4 (fun vl5 l5 => ?_)
    exact b26 4 0 _ _ 0 rfl rfl l5 ⟨by omega, by omega, fun j h => by omega, Or.inl rfl⟩
  obtain ⟨r, h1, w2, v, h2, h3⟩ := h_meth1 (nL := 4) rfl K
  rw [h2] at h1
  exact ⟨w2, v, h1, h3⟩
def dH_path : List (Nat × Nat) := dH_whose ++ [(73, 999), (74, 999)]
theorem dH_path1 : msub dH_whose dH_path = true := by decide +kernel
theorem dH_path2 : msub dH_best dH_path = true := by decide +kernel
/-- the path so far: good steps, each behind the one ahead of it -/
def ptG (B P : Nat → Int) (sp : Int) (r : Nat) : Prop := ∃ k : Nat, k ≤ 3 ∧ P r = (k : Int) ∧ sp ≤ B (4 * r + k)
theorem lp_while {kn : sKn} {Po : sR → Prop} {D : List (Nat × Nat)} {w0 w : sW} (o0 : hO D w0 w) (l : Nat) (sp : Int) (r : Nat) (hs : -1 ≤ sp ∧ sp ≤ 2147483647) (hr : r < 12) (hx : ∀ (k : Nat) (lv : List (Nat × Value)), hL lv [(0, .ref 213), (1, hI l), (2, hI sp), (3, hI r), (4, hI k)] → k ≤ 3 → sp ≤ gX w 225 (4 * r + k) → Tp (tX12_layPath kn) Po 73 (lv, [], w, 0, 0)) : ∀ (m k : Nat) (lv : List (Nat × Value)) (x : Int), k + m = 4 → x = (k : Int) → hL lv [(0, .ref 213), (1, hI l), (2, hI sp), (3, hI r), (4, hI x)] → (∃ n : Nat, k ≤ n ∧ n ≤ 3 ∧ sp ≤ gX w 225 (4 * r + n) ∧ (r = 0 ∨ ∃ q : Nat, q ≤ 3 ∧ gX w 226 (r - 1) = (q : Int) ∧ folP q n)) → Tp (tX12_layPath kn) Po 32 (lv, [], w, 0, 0) := by
  intro m
  induction m with
  | zero =>
    intro k lv x hkm hxk l0 hn
    obtain ⟨n, n1, n2, n3, n4⟩ := hn
    omega
  | succ m ih0 =>
    intro k lv x hkm hxk l0 hn
    subst hxk
    obtain ⟨n, n1, n2, n3, n4⟩ := hn
    have ih : ∀ (k' : Nat) (lv : List (Nat × Value)) (x : Int), k' + m = 4 → x = (k' : Int) → hL lv [(0, .ref 213), (1, hI l), (2, hI sp), (3, hI r), (4, hI x)] → (∃ n : Nat, k' ≤ n ∧ n ≤ 3 ∧ sp ≤ gX w 225 (4 * r + n) ∧ (r = 0 ∨ ∃ q : Nat, q ≤ 3 ∧ gX w 226 (r - 1) = (q : Int) ∧ folP q n)) → Tp (tX12_layPath kn) Po 32 (lv, [], w, 0, 0) := fun k' lv x h1 h2 h3 h4 => ih0 k' lv x h1 h2 h3 h4
    refine h_aload rfl l0 rfl ?_
    refine h_getR rfl o0 fr_29 ?_
    refine h_intv k_4 rfl ?_
    refine h_iload rfl l0 rfl ?_
    refine h_imul rfl ?_
    refine h_iload rfl l0 rfl ?_
    refine h_iadd rfl ?_
    refine h_ialdj (4 * r + k) rfl o0 ai_225 rfl (by omega) (by omega) (fun b1a b1b => ?_)
    refine h_iload rfl l0 rfl ?_
    refine i_lt (kn := kn) (t := 2) (tgt := 67) (np := 47) rfl (by unfold R32; omega) (by unfold R32; omega) (fun e2 => ?_) (fun e2 => ?_)
    · refine h_iincv k_1 rfl l0 rfl (fun vl3 l3 => ?_)
      refine h_goto rfl ?_
      exact ih (k + 1) _ ((k : Int) + 1) (by omega) (by omega) l3 ⟨n, by
        rcases Nat.lt_or_ge k n with e | e
        · exact e
        · exfalso
          have e9 : n = k := by omega
          subst e9
          omega, n2, n3, n4⟩
    · refine h_iload rfl l0 rfl ?_
      refine j_le (kn := kn) (t := 5) (tgt := 73) (np := 51) rfl (by unfold R32; omega) (fun e4 => ?_) (fun e4 => ?_)
      · exact hx k _ l0 (by omega) (by omega)
      · refine h_aload rfl l0 rfl ?_
        refine h_getR rfl o0 fr_30 ?_
        refine h_iload rfl l0 rfl ?_
        refine h_intv k_1 rfl ?_
        refine h_isub rfl ?_
        refine h_ialdj (r - 1) rfl o0 ai_226 rfl (by omega) (by omega) (fun b5a b5b => ?_)
        obtain ⟨q, hq, hqq⟩ : ∃ q : Nat, gX w 226 (r - 1) = (q : Int) ∧ q ≤ 3 := by
          have := gX_in o0 ai_226 ar_226 (j := r - 1) (by omega) (by omega) (by omega)
          exact ⟨(gX w 226 (r - 1)).toNat, by omega, by omega⟩
        rw [hq] at b5a b5b ⊢
        refine h_iload rfl l0 rfl ?_
        obtain ⟨z6, hf6, hz6, hq6⟩ := s_follows (kn := kn) o0.1 q k hqq (by omega)
        refine h_S2 rfl o0 l0 rfl rfl hf6 ?_
        refine j_ne (kn := kn) (t := 1) (tgt := 73) (np := 67) rfl (by unfold R32; omega) (fun e7 => ?_) (fun e7 => ?_)
        · exact hx k _ l0 (by omega) (by omega)
        · refine h_iincv k_1 rfl l0 rfl (fun vl8 l8 => ?_)
          refine h_goto rfl ?_
          exact ih (k + 1) _ ((k : Int) + 1) (by omega) (by omega) l8 ⟨n, by
            rcases Nat.lt_or_ge k n with e | e
            · exact e
            · exfalso
              have e9 : n = k := by omega
              subst e9
              rcases n4 with n4 | ⟨q', q1, q2, q3⟩
              · omega
              · have e8 : q' = q := by omega
                rw [e8] at q3
                have := hq6.mpr q3
                omega, n2, n3, n4⟩
theorem lp_row {kn : sKn} {Po : sR → Prop} {w0 w1 : sW} (l : Nat) (sp : Int) (R : Nat) (B : Nat → Int) (S : Nat → Nat → Int) (hs : 0 ≤ sp ∧ sp ≤ 2147483647) (hR2 : R ≤ 12) (hB : ∀ a b, a < R → b ≤ 3 → bsG S B R a b) (h0 : ∃ k, k ≤ 3 ∧ B k = sp) (hx : ∀ w : sW, (hO dH_path w0 w ∧ (∀ j, gX w 225 j = B j) ∧ gX w 215 0 = (R : Int) ∧ (∀ c f, gF w c f = gF w1 c f) ∧ (∀ c j, c ≠ 226 → gX w c j = gX w1 c j) ∧ ∀ a, a < R → ptG B (gX w 226) sp a) → Po (some (hI 1), w, 0, 0)) : ∀ (m r : Nat) (w : sW) (lv : List (Nat × Value)) (x : Int), r + m = R → x = (r : Int) → (hO dH_path w0 w ∧ (∀ j, gX w 225 j = B j) ∧ gX w 215 0 = (R : Int) ∧ (∀ c f, gF w c f = gF w1 c f) ∧ (∀ c j, c ≠ 226 → gX w c j = gX w1 c j) ∧ ∀ a, a < r → ptG B (gX w 226) sp a) → hL lv [(0, .ref 213), (1, hI l), (2, hI sp), (3, hI x)] → Tp (tX12_layPath kn) Po 19 (lv, [], w, 0, 0) := by
  intro m
  induction m with
  | zero =>
    intro r w lv x hrm hxr hP l0
    subst hxr
    obtain ⟨p1, p2, p3, p4, p5, p6⟩ := hP
    have o0 := p1
    refine h_iload rfl l0 rfl ?_
    refine h_aload rfl l0 rfl ?_
    refine h_getR rfl o0 fr_14 ?_
    refine h_intv k_0 rfl ?_
    refine h_ialdj (0) rfl o0 ai_215 rfl (by omega) (by omega) (fun b1a b1b => ?_)
    rw [p3] at b1a b1b ⊢
    refine i_ge (kn := kn) (t := 3) (tgt := 87) (np := 29) rfl (by unfold R32; omega) (by unfold R32; omega) (fun e2 => ?_) (fun e2 => ?_)
    · refine h_intv k_1 rfl ?_
      refine h_zret (by omega) rfl ?_
      exact hx w ⟨p1, p2, p3, p4, p5, fun a ha => p6 a (by omega)⟩
    · omega
  | succ m ih =>
    intro r w lv x hrm hxr hP l0
    subst hxr
    obtain ⟨p1, p2, p3, p4, p5, p6⟩ := hP
    have o0 := p1
    refine h_iload rfl l0 rfl ?_
    refine h_aload rfl l0 rfl ?_
    refine h_getR rfl o0 fr_14 ?_
    refine h_intv k_0 rfl ?_
    refine h_ialdj (0) rfl o0 ai_215 rfl (by omega) (by omega) (fun b1a b1b => ?_)
    rw [p3] at b1a b1b ⊢
    refine i_ge (kn := kn) (t := 3) (tgt := 87) (np := 29) rfl (by unfold R32; omega) (by unfold R32; omega) (fun e2 => ?_) (fun e2 => ?_)
    · refine h_intv k_1 rfl ?_
      refine h_zret (by omega) rfl ?_
      omega
    · refine h_intv k_0 rfl ?_
      refine h_istore rfl l0 (fun vl3 l3 => ?_)
      refine lp_while o0 l sp r (by omega) (by omega) ?_ 4 0 _ 0 rfl rfl l3 ?_
      · intro k lv l0 h2 h3
        refine h_aload rfl l0 rfl ?_
        refine h_getR rfl o0 fr_30 ?_
        refine h_iload rfl l0 rfl ?_
        refine h_iload rfl l0 rfl ?_
        refine h_iastj (r) rfl o0 ai_226 rfl rfl aw_226 (by omega) (by omega) (by omega) (by omega) (by omega) (by unfold R32; omega) (fun w1 o1 q2a q2b q2c => ?_)
        refine h_iincv k_1 rfl l0 rfl (fun vl3 l3 => ?_)
        refine h_goto rfl ?_
        refine ih (r + 1) w1 _ ((r : Int) + 1) (by omega) (by omega) ⟨o1, fun j => by rw [q2b 225 j (fun z => by omega)]; exact p2 j, by rw [q2b 215 0 (fun z => by omega)]; exact p3, fun c f => by rw [q2c]; exact p4 c f, fun c j hc => by rw [q2b c j (fun z => absurd z hc)]; exact p5 c j hc, fun a ha => ?_⟩ (hL_take 4 l3)
        by_cases e : a = r
        · subst e
          exact ⟨k, h2, q2a, by rw [← p2]; exact h3⟩
        · obtain ⟨k', k1, k2, k3⟩ := p6 a (by omega)
          exact ⟨k', k1, by rw [q2b 226 a (fun _ => e)]; exact k2, k3⟩
      · by_cases e : r = 0
        · obtain ⟨k, k1, k2⟩ := h0
          exact ⟨k, by omega, k1, by rw [p2, e]; simp only [Nat.mul_zero, Nat.zero_add]; omega, Or.inl e⟩
        · obtain ⟨q, q1, q2, q3⟩ := p6 (r - 1) (by omega)
          have e5 : r - 1 + 1 < R := by omega
          obtain ⟨g1, g2, g3⟩ := hB (r - 1) q (by omega) q1
          have g5 := g2 e5
          clear g2 g3
          rcases g5 with g | ⟨n, n1, n2, n3⟩
          · omega
          · refine ⟨n, by omega, n1, ?_, Or.inr ⟨q, q1, q2, n2⟩⟩
            rw [p2, show 4 * r + n = 4 * (r - 1) + 4 + n by omega]
            omega
def lpP (w' : sW) (l : Nat) : Prop := ∃ (R wide : Nat) (B : Nat → Int) (S : Nat → Nat → Int) (sp : Int), 0 ≤ sp ∧ gX w' 215 0 = (R : Int) ∧ R ≤ 12 ∧ gX w' 215 (88 + l) = (wide : Int) ∧ wide ≤ 3 ∧ (∀ a b, a < R → b ≤ 3 → bsG S B R a b) ∧ (∀ a b, b < 3 → 3 < b + wide → S a b = -1) ∧ ∀ a, a < R → ptG B (gX w' 226) sp a
theorem s_layPath {kn : sKn} {w : sW} (hw : wOk ZZ w) (l : Nat) (hl : l < 6) : (∃ (w' : sW) (b : Int), fX12_layPath kn [.ref 213, hI l] w = some (some (hI b), w', 0, 0) ∧ hO dH_path w w' ∧ (b = 0 ∨ b = 1) ∧ (b = 1 → lpP w' l)) := by
  have K : Tp (tX12_layPath kn) (fun r => (∃ (w' : sW) (b : Int), r = (some (hI b), w', 0, 0) ∧ hO dH_path w w' ∧ (b = 0 ∨ b = 1) ∧ (b = 1 → lpP w' l))) 0 (lv_args 0 [.ref 213, hI l], [], w, 0, 0) := by
    have l0 : hL (lv_args 0 [.ref 213, hI l]) (lv_args 0 [.ref 213, hI l]) := hL_ex rfl
    have o0 : hO dH_path w w := hO_rf hw
    refine h_aload rfl l0 rfl ?_
    obtain ⟨w1, hf1, ow1, _⟩ := s_layWhose2 (kn := kn) hw
    have o1 : hO dH_path w w1 := hO_mono dH_path1 ow1
    obtain ⟨R, hR, hR1, hR2⟩ := rows_of o1
    obtain ⟨wide, hwd, hwd2⟩ := wide_of o1 hl
    refine h_W1 rfl o0 l0 ci_213 rfl rfl hf1 ?_
    refine h_aload rfl l0 rfl ?_
    refine h_iload rfl l0 rfl ?_
    obtain ⟨w2, sp, hf2, hW, hG, s1, s2, s3, s4⟩ := s_bestOf (kn := kn) o1.1 l hl R hR hR2 wide hwd hwd2
    have o2 : hO dH_path w w2 := hO_tr o1 (hO_mono dH_path2 hW.1)
    refine h_V2 rfl o1 l0 ci_213 rfl rfl hf2 ?_
    refine h_istore rfl l0 (fun vl3 l3 => ?_)
    refine h_iload rfl l3 rfl ?_
    refine h_intv k_n1 rfl ?_
    refine i_ne (kn := kn) (t := 1) (tgt := 17) (np := 15) rfl (by unfold R32; omega) (by unfold R32; omega) (fun e4 => ?_) (fun e4 => ?_)
    · refine h_intv k_0 rfl ?_
      refine h_istore rfl l3 (fun vl5 l5 => ?_)
      refine lp_row (w0 := w) (w1 := w2) l sp R (gX w2 225) (lbS w1 wide (gX w1 215 (82 + l))) (by omega) hR2 hG (by
        rcases s4 with s4 | s4
        · omega
        · exact s4) ?_ R 0 w2 _ 0 (by omega) rfl ⟨o2, fun _ => rfl, by rw [hW.2.1 215 0 (by omega)]; exact hR, fun _ _ => rfl, fun _ _ _ => rfl, fun a ha => by omega⟩ l5
      intro w3 hP
      obtain ⟨p1, p2, p3, p4, p5, p6⟩ := hP
      refine ⟨w3, 1, rfl, p1, Or.inr rfl, fun _ => ⟨R, wide, gX w2 225, lbS w1 wide (gX w1 215 (82 + l)), sp, by omega, p3, hR2, by rw [p5 215 _ (by omega), hW.2.1 215 _ (by omega)]; exact hwd, hwd2, hG, fun a b hb hb2 => ?_, p6⟩⟩
      have hwt := weight_of o1 hl
      unfold lbS spV
      rw [if_neg (by omega), show sumV (gX w1 215) (gX w1 224) (gF w1 213 28) a b wide = -1 from if_pos (by omega), if_pos (by omega)]
    · refine h_intv k_0 rfl ?_
      refine h_zret (by omega) rfl ?_
      exact ⟨w2, 0, rfl, o2, Or.inl rfl, fun z => by omega⟩
  obtain ⟨r, h1, w2, b, h2, h3⟩ := h_meth1 (nL := 5) rfl K
  rw [h2] at h1
  exact ⟨w2, b, h1, h3⟩
end
