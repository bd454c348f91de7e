noncomputable section
def dH_whose : List (Nat × Nat) := [(61, 28), (72, 999)]
def dH_best : List (Nat × Nat) := [(73, 999)]
theorem gX_out {D : List (Nat × Nat)} {w0 w : sW} {c t n j : Nat} (ho : hO D w0 w) (h : aI c = some (t, n)) (hj : n ≤ j) : gX w c j = 0 := by
  obtain ⟨vs, q, _, _, _, _, _, w1, w2, _⟩ := aI_ok ho h
  unfold gX
  rw [w1]
  dsimp only
  rw [List.getElem?_eq_none (by omega)]
theorem ar_plank : aR 215 118 36 (-1) 9 = true := by decide +kernel
theorem ap_plank : aP 215 118 36 (-1) 9 = true := by decide +kernel
theorem ap_singed : aP 215 154 36 (-2147483648) 2147483647 = true := by decide +kernel
theorem ap_fallen : aP 215 96 1 (-2147483648) 2147483647 = true := by decide +kernel
theorem ap_crossed : aP 215 190 6 (-2147483648) 2147483647 = true := by decide +kernel
theorem s_layWhose2 {kn : sKn} {w : sW} (hw : wOk ZZ w) : ∃ w', fX12_layWhose kn [.ref 213] w = some (none, w', 0, 0) ∧ (hO dH_whose w w' ∧ (∀ p, p < 36 → gX w' 224 p = gX w 215 (118 + p)) ∧ gF w' 213 28 = gX w 215 25 ∧ (∀ c j, c ≠ 224 → gX w' c j = gX w c j) ∧ ∀ c f, (c = 213 → f ≠ 28) → gF w' c f = gF w c f) := by
  have K : Tp (tX12_layWhose kn) (fun r => ∃ w', r = (none, w', 0, 0) ∧ (hO dH_whose w w' ∧ (∀ p, p < 36 → gX w' 224 p = gX w 215 (118 + p)) ∧ gF w' 213 28 = gX w 215 25 ∧ (∀ c j, c ≠ 224 → gX w' c j = gX w c j) ∧ ∀ c f, (c = 213 → f ≠ 28) → gF w' c f = gF w c f)) 0 (lv_args 0 [.ref 213], [], w, 0, 0) := by
    have l0 : hL (lv_args 0 [.ref 213]) (lv_args 0 [.ref 213]) := hL_ex rfl
    have o0 : hO dH_whose w w := hO_rf hw
    have b2 : ∀ (m p : Nat) (w1 : sW) (lv : List (Nat × Value)) (x : Int), p + m = 36 → x = (p : Int) → hL lv [(0, .ref 213), (1, hI x)] → (hO dH_whose w w1 ∧ (∀ q, q < p → gX w1 224 q = gX w 215 (118 + q)) ∧ (∀ c j, c ≠ 224 → gX w1 c j = gX w c j) ∧ ∀ c f, gF w1 c f = gF w c f) → Tp (tX12_layWhose kn) (fun r => ∃ w', r = (none, w', 0, 0) ∧ (hO dH_whose w w' ∧ (∀ p, p < 36 → gX w' 224 p = gX w 215 (118 + p)) ∧ gF w' 213 28 = gX w 215 25 ∧ (∀ c j, c ≠ 224 → gX w' c j = gX w c j) ∧ ∀ c f, (c = 213 → f ≠ 28) → gF w' c f = gF w c f)) 2 (lv, [], w1, 0, 0) := by
      intro m
      induction m with
      | zero =>
        intro p w1 lv x hpm hxp l0 hI0
        subst hxp
        obtain ⟨o1, g2, g3, g4⟩ := hI0
        refine h_iload rfl l0 rfl ?_
        refine h_intv k_36 rfl ?_
        refine i_ge (kn := kn) (t := 3) (tgt := 29) (np := 8) rfl (by unfold R32; omega) (by unfold R32; omega) (fun e1 => ?_) (fun e1 => ?_)
        · refine h_aload rfl l0 rfl ?_
          refine h_aload rfl l0 rfl ?_
          refine h_getR rfl o1 fr_14 ?_
          refine h_intv k_25 rfl ?_
          refine h_ialdj (25) rfl o1 ai_215 rfl (by omega) (by omega) (fun b2a b2b => ?_)
          refine h_putI rfl o1 fi_28 rfl (by omega) (by omega) (fun w3 o3 q4a q4b q4c => ?_)
          refine h_vret rfl ?_
          exact ⟨w3, rfl, o3, fun q hq => by rw [q4c]; exact g2 q (by omega), by rw [q4a]; exact g3 215 25 (by omega), fun c j hc => by rw [q4c]; exact g3 c j hc, fun c f hf => by rw [q4b c f hf]; exact g4 c f⟩
        · omega
      | succ m ih =>
        intro p w1 lv x hpm hxp l0 hI0
        subst hxp
        obtain ⟨o1, g2, g3, g4⟩ := hI0
        refine h_iload rfl l0 rfl ?_
        refine h_intv k_36 rfl ?_
        refine i_ge (kn := kn) (t := 3) (tgt := 29) (np := 8) rfl (by unfold R32; omega) (by unfold R32; omega) (fun e1 => ?_) (fun e1 => ?_)
        · omega
        · refine h_aload rfl l0 rfl ?_
          refine h_getR rfl o1 fr_27 ?_
          refine h_iload rfl l0 rfl ?_
          refine h_aload rfl l0 rfl ?_
          refine h_getR rfl o1 fr_14 ?_
          refine h_intv k_118 rfl ?_
          refine h_iload rfl l0 rfl ?_
          refine h_iadd rfl ?_
          refine h_ialdj (118 + p) rfl o1 ai_215 rfl (by omega) (by omega) (fun b2a b2b => ?_)
          have b2c := gX_in o1 ai_215 ar_plank (j := 118 + p) (by omega) (by omega) (by omega)
          refine h_iastj (p) rfl o1 ai_224 rfl rfl aw_224 (by omega) (by omega) (by omega) (by omega) (by omega) (by unfold R32; omega) (fun w3 o3 q4a q4b q4c => ?_)
          refine h_iincv k_1 rfl l0 rfl (fun vl5 l5 => ?_)
          refine h_goto rfl ?_
          exact ih (p + 1) w3 _ ((p : Int) + 1) (by omega) (by omega) l5 ⟨o3, fun q hq => by
            by_cases e : q = p
            · subst e
              rw [q4a, g3 215 _ (by omega)]
            · rw [q4b 224 q (fun _ => e)]
              exact g2 q (by omega), fun c j hc => by rw [q4b c j (fun z => absurd z hc)]; exact g3 c j hc, fun c f => by rw [q4c]; exact g4 c f⟩
    refine h_intv k_0 rfl ?_
    refine h_istore rfl l0 (fun vl1 l1 => ?_)
    exact b2 36 0 w _ 0 rfl rfl l1 ⟨o0, fun q hq => by omega, fun _ _ _ => rfl, fun _ _ => rfl⟩
  obtain ⟨r, h1, w2, h2, h3⟩ := h_meth1 (nL := 2) rfl K
  rw [h2] at h1
  exact ⟨w2, h1, h3⟩
end
