noncomputable section
def orV (nx k : Int) : Int := (Int32.ofInt nx ||| Int32.ofInt (Int32.ofInt 1 <<< (Int32.ofInt k &&& 31)).toInt).toInt
theorem orV_b : ∀ nx < 16, ∀ k < 4, 0 < orV (nx : Nat) (k : Nat) ∧ orV (nx : Nat) (k : Nat) < 16 ∧ ∀ i < 4, (hasV (orV (nx : Nat) (k : Nat)) (i : Nat) = 1 → hasV (nx : Nat) (i : Nat) = 1 ∨ i = k) := by decide +kernel
theorem hasV_b : ∀ nx < 16, 0 < nx → ∃ i < 4, hasV (nx : Nat) (i : Nat) = 1 := by decide +kernel
theorem sk_o {kn : sKn} {Po : sR → Prop} {w : sW} (hw : wOk ZZ w) (l : Nat) (on nx : Int) (r k : Nat) (hk : k ≤ 3) (hx : ∀ (lv : List (Nat × Value)) (c x : Int), hL lv [(0, .ref 213), (1, hI l), (2, hI on), (3, hI r), (4, hI nx), (5, hI k), (6, hI c), (7, hI x)] → (c = 0 ∨ (c = 1 ∧ (r = 0 ∨ ∃ i : Nat, i ≤ 3 ∧ hasV on i = 1 ∧ folP i k))) → Tp (tX12_stuckAt kn) Po 116 (lv, [], w, 0, 0)) : ∀ (m n : Nat) (c : Int) (lv : List (Nat × Value)) (x : Int), n + m = 4 → x = (n : Int) → hL lv [(0, .ref 213), (1, hI l), (2, hI on), (3, hI r), (4, hI nx), (5, hI k), (6, hI c), (7, hI x)] → (c = 0 ∨ (c = 1 ∧ (r = 0 ∨ ∃ i : Nat, i ≤ 3 ∧ hasV on i = 1 ∧ folP i k))) → Tp (tX12_stuckAt kn) Po 73 (lv, [], w, 0, 0) := by
  have o0 : hO [] w w := hO_rf hw
  intro m
  induction m with
  | zero =>
    intro n c lv x hnm hxn l0 hc
    subst hxn
    refine h_iload rfl l0 rfl ?_
    refine h_intv k_3 rfl ?_
    refine i_gt (kn := kn) (t := 4) (tgt := 116) (np := 79) rfl (by unfold R32; omega) (by unfold R32; omega) (fun e1 => ?_) (fun e1 => ?_)
    · exact hx _ _ _ l0 hc
    · omega
  | succ m ih =>
    intro n c lv x hnm hxn l0 hc
    subst hxn
    refine h_iload rfl l0 rfl ?_
    refine h_intv k_3 rfl ?_
    refine i_gt (kn := kn) (t := 4) (tgt := 116) (np := 79) rfl (by unfold R32; omega) (by unfold R32; omega) (fun e1 => ?_) (fun e1 => ?_)
    · exact hx _ _ _ l0 hc
    · refine h_iload rfl l0 rfl ?_
      refine j_ne (kn := kn) (t := 1) (tgt := 116) (np := 84) rfl (by unfold R32; omega) (fun e2 => ?_) (fun e2 => ?_)
      · exact hx _ _ _ l0 hc
      · refine h_iload rfl l0 rfl ?_
        refine h_iload rfl l0 rfl ?_
        obtain ⟨z3, hf3, hz3, hq3⟩ := s_has (kn := kn) hw on n
        refine h_S2 rfl o0 l0 rfl rfl hf3 ?_
        refine j_eq (kn := kn) (t := 0) (tgt := 107) (np := 93) rfl (by unfold R32; omega) (fun e4 => ?_) (fun e4 => ?_)
        · refine h_intv k_0 rfl ?_
          refine h_istore rfl l0 (fun vl5 l5 => ?_)
          refine h_iincv k_1 rfl l5 rfl (fun vl6 l6 => ?_)
          refine h_goto rfl ?_
          exact ih (n + 1) _ _ ((n : Int) + 1) (by omega) (by omega) l6 (Or.inl rfl)
        · refine h_iload rfl l0 rfl ?_
          refine h_iload rfl l0 rfl ?_
          obtain ⟨z7, hf7, hz7, hq7⟩ := s_follows (kn := kn) hw n k (by omega) hk
          refine h_S2 rfl o0 l0 rfl rfl hf7 ?_
          refine j_eq (kn := kn) (t := 0) (tgt := 107) (np := 103) rfl (by unfold R32; omega) (fun e8 => ?_) (fun e8 => ?_)
          · refine h_intv k_0 rfl ?_
            refine h_istore rfl l0 (fun vl9 l9 => ?_)
            refine h_iincv k_1 rfl l9 rfl (fun vl10 l10 => ?_)
            refine h_goto rfl ?_
            exact ih (n + 1) _ _ ((n : Int) + 1) (by omega) (by omega) l10 (Or.inl rfl)
          · refine h_intv k_1 rfl ?_
            refine h_goto rfl ?_
            refine h_istore rfl l0 (fun vl11 l11 => ?_)
            refine h_iincv k_1 rfl l11 rfl (fun vl12 l12 => ?_)
            refine h_goto rfl ?_
            exact ih (n + 1) _ _ ((n : Int) + 1) (by omega) (by omega) l12 (Or.inr ⟨rfl, Or.inr ⟨n, by omega, hq3.mp (by omega), hq7.mp (by omega)⟩⟩)
theorem sk_sp {kn : sKn} {w : sW} (hw : wOk ZZ w) (wide : Nat) (weight : Int) (row k : Nat) (hr : row < 12) (hk : k ≤ 3) (hwd : wide ≤ 3) (hwt : 0 ≤ weight ∧ weight ≤ 2147483647) : ∃ v : Int, v = lbS w wide weight row k ∧ fX12_spareAt kn [.ref 213, hI row, hI k, hI wide, hI weight] w = some (some (hI v), w, 0, 0) ∧ -1 ≤ v ∧ v ≤ 2147483647 := lb_sp ⟨hO_rf hw, fun _ _ _ => rfl, fun _ _ => rfl⟩ wide weight row k hr hk hwd hwt
theorem sk_k {kn : sKn} {Po : sR → Prop} {w : sW} (hw : wOk ZZ w) (l : Nat) (hl : l < 6) (R : Nat) (hR : gX w 215 0 = (R : Int)) (hR2 : R ≤ 12) (wide : Nat) (hwd : gX w 215 (88 + l) = (wide : Int)) (hwd2 : wide ≤ 3) (on : Int) (r : Nat) (hr : r < R) (hB : ∀ k, k ≤ 3 → lbS w wide (gX w 215 (82 + l)) r k ≠ -1 → (r = 0 ∨ ∃ i : Nat, i ≤ 3 ∧ hasV on i = 1 ∧ folP i k) → gX w 225 (4 * r + k) = -1) (hx : ∀ (lv : List (Nat × Value)) (nx : Int), 0 ≤ nx → nx < 16 → hL lv [(0, .ref 213), (1, hI l), (2, hI on), (3, hI r), (4, hI nx)] → (∀ i : Nat, i ≤ 3 → hasV nx i = 1 → lbS w wide (gX w 215 (82 + l)) r i ≠ -1 ∧ gX w 225 (4 * r + i) = -1) → Tp (tX12_stuckAt kn) Po 136 (lv, [], w, 0, 0)) : ∀ (m k : Nat) (nx : Int) (lv : List (Nat × Value)) (x : Int), k + m = 4 → x = (k : Int) → 0 ≤ nx → nx < 16 → hL lv [(0, .ref 213), (1, hI l), (2, hI on), (3, hI r), (4, hI nx), (5, hI x)] → (∀ i : Nat, i ≤ 3 → hasV nx i = 1 → lbS w wide (gX w 215 (82 + l)) r i ≠ -1 ∧ gX w 225 (4 * r + i) = -1) → Tp (tX12_stuckAt kn) Po 21 (lv, [], w, 0, 0) := by
  have o0 : hO [] w w := hO_rf hw
  intro m
  induction m with
  | zero =>
    intro k nx lv x hkm hxk hn1 hn2 l0 hst
    subst hxk
    refine h_iload rfl l0 rfl ?_
    refine h_intv k_3 rfl ?_
    refine i_gt (kn := kn) (t := 4) (tgt := 136) (np := 27) rfl (by unfold R32; omega) (by unfold R32; omega) (fun e1 => ?_) (fun e1 => ?_)
    · exact hx _ _ hn1 hn2 (hL_take 5 l0) hst
    · omega
  | succ m ih =>
    intro k nx lv x hkm hxk hn1 hn2 l0 hst
    subst hxk
    refine h_iload rfl l0 rfl ?_
    refine h_intv k_3 rfl ?_
    refine i_gt (kn := kn) (t := 4) (tgt := 136) (np := 27) rfl (by unfold R32; omega) (by unfold R32; omega) (fun e1 => ?_) (fun e1 => ?_)
    · exact hx _ _ hn1 hn2 (hL_take 5 l0) hst
    · refine h_aload rfl l0 rfl ?_
      refine h_iload rfl l0 rfl ?_
      refine h_iload rfl l0 rfl ?_
      refine h_aload rfl l0 rfl ?_
      refine h_getR rfl o0 fr_14 ?_
      refine h_intv k_88 rfl ?_
      refine h_iload rfl l0 rfl ?_
      refine h_iadd rfl ?_
      refine h_ialdj (88 + l) rfl o0 ai_215 rfl (by omega) (by omega) (fun b2a b2b => ?_)
      rw [hwd] at b2a b2b ⊢
      refine h_aload rfl l0 rfl ?_
      refine h_getR rfl o0 fr_14 ?_
      refine h_intv k_82 rfl ?_
      refine h_iload rfl l0 rfl ?_
      refine h_iadd rfl ?_
      refine h_ialdj (82 + l) rfl o0 ai_215 rfl (by omega) (by omega) (fun b3a b3b => ?_)
      obtain ⟨v, hv1, hf4, hv2, hv3⟩ := sk_sp (kn := kn) hw wide (gX w 215 (82 + l)) r k (by omega) (by omega) hwd2 (by have := weight_of o0 hl; omega)
      refine h_V5 rfl o0 l0 ci_213 rfl rfl hf4 ?_
      refine h_intv k_n1 rfl ?_
      refine i_ne (kn := kn) (t := 1) (tgt := 59) (np := 56) rfl (by unfold R32; omega) (by unfold R32; omega) (fun e5 => ?_) (fun e5 => ?_)
      · refine h_iload rfl l0 rfl ?_
        refine j_ne (kn := kn) (t := 1) (tgt := 67) (np := 63) rfl (by unfold R32; omega) (fun e6 => ?_) (fun e6 => ?_)
        · refine h_intv k_0 rfl ?_
          refine h_istore rfl l0 (fun vl7 l7 => ?_)
          refine h_intv k_0 rfl ?_
          refine h_istore rfl l7 (fun vl8 l8 => ?_)
          refine sk_o hw l on nx r k (by omega) ?_ 4 0 _ _ 0 rfl rfl l8 (by omega)
          intro lv c x l0 hc
          refine h_iload rfl l0 rfl ?_
          refine j_eq (kn := kn) (t := 0) (tgt := 130) (np := 121) rfl (by unfold R32; omega) (fun e1 => ?_) (fun e1 => ?_)
          · refine h_iincv k_1 rfl l0 rfl (fun vl2 l2 => ?_)
            refine h_goto rfl ?_
            exact ih (k + 1) nx _ ((k : Int) + 1) (by omega) (by omega) hn1 hn2 (hL_take 6 l2) hst
          · refine h_iload rfl l0 rfl ?_
            refine h_intv k_1 rfl ?_
            refine h_iload rfl l0 rfl ?_
            refine h_ishl rfl ?_
            refine h_ior rfl ?_
            refine h_istore rfl l0 (fun vl3 l3 => ?_)
            refine h_iincv k_1 rfl l3 rfl (fun vl4 l4 => ?_)
            refine h_goto rfl ?_
            obtain ⟨t1, t2, t3⟩ := orV_b nx.toNat (by omega) k (by omega)
            rw [show ((nx.toNat : Nat) : Int) = nx by omega] at t1 t2 t3
            exact ih (k + 1) _ _ ((k : Int) + 1) (by omega) (by omega) (by omega) t2 (hL_take 6 l4) (fun i hi hh => by
              rcases t3 i (by omega) hh with e | e
              · exact hst i hi e
              · rw [e]
                refine ⟨by rw [← hv1]; omega, hB k (by omega) (by rw [← hv1]; omega) ?_⟩
                rcases hc with z | ⟨_, z⟩
                · omega
                · exact z)
        · refine h_intv k_1 rfl ?_
          refine h_goto rfl ?_
          refine h_istore rfl l0 (fun vl9 l9 => ?_)
          refine h_intv k_0 rfl ?_
          refine h_istore rfl l9 (fun vl10 l10 => ?_)
          refine sk_o hw l on nx r k (by omega) ?_ 4 0 _ _ 0 rfl rfl l10 (by omega)
          intro lv c x l0 hc
          refine h_iload rfl l0 rfl ?_
          refine j_eq (kn := kn) (t := 0) (tgt := 130) (np := 121) rfl (by unfold R32; omega) (fun e1 => ?_) (fun e1 => ?_)
          · refine h_iincv k_1 rfl l0 rfl (fun vl2 l2 => ?_)
            refine h_goto rfl ?_
            exact ih (k + 1) nx _ ((k : Int) + 1) (by omega) (by omega) hn1 hn2 (hL_take 6 l2) hst
          · refine h_iload rfl l0 rfl ?_
            refine h_intv k_1 rfl ?_
            refine h_iload rfl l0 rfl ?_
            refine h_ishl rfl ?_
            refine h_ior rfl ?_
            refine h_istore rfl l0 (fun vl3 l3 => ?_)
            refine h_iincv k_1 rfl l3 rfl (fun vl4 l4 => ?_)
            refine h_goto rfl ?_
            obtain ⟨t1, t2, t3⟩ := orV_b nx.toNat (by omega) k (by omega)
            rw [show ((nx.toNat : Nat) : Int) = nx by omega] at t1 t2 t3
            exact ih (k + 1) _ _ ((k : Int) + 1) (by omega) (by omega) (by omega) t2 (hL_take 6 l4) (fun i hi hh => by
              rcases t3 i (by omega) hh with e | e
              · exact hst i hi e
              · rw [e]
                refine ⟨by rw [← hv1]; omega, hB k (by omega) (by rw [← hv1]; omega) ?_⟩
                rcases hc with z | ⟨_, z⟩
                · omega
                · exact z)
      · refine h_goto rfl ?_
        refine h_iincv k_1 rfl l0 rfl (fun vl11 l11 => ?_)
        refine h_goto rfl ?_
        exact ih (k + 1) nx _ ((k : Int) + 1) (by omega) (by omega) hn1 hn2 (hL_take 6 l11) hst
theorem has0 : ∀ i ≤ 3, ¬ hasV 0 (i : Nat) = 1 := by decide +kernel
theorem sk_r {kn : sKn} {w : sW} (hw : wOk ZZ w) (l : Nat) (hl : l < 6) (R : Nat) (hR : gX w 215 0 = (R : Int)) (hR2 : R ≤ 12) (wide : Nat) (hwd : gX w 215 (88 + l) = (wide : Int)) (hwd2 : wide ≤ 3) (hR1 : 1 ≤ R) (hG : ∀ a b, a < R → b ≤ 3 → bsG (lbS w wide (gX w 215 (82 + l))) (gX w 225) R a b) (hN : ∀ k, k ≤ 3 → gX w 225 k = -1) : ∀ (m r : Nat) (on : Int) (lv : List (Nat × Value)) (x : Int), r + m = R → x = (r : Int) → 0 ≤ on → on < 16 → hL lv [(0, .ref 213), (1, hI l), (2, hI on), (3, hI x)] → (r = 0 ∨ (0 < on ∧ (∀ i : Nat, i ≤ 3 → hasV on i = 1 → lbS w wide (gX w 215 (82 + l)) (r - 1) i ≠ -1 ∧ gX w 225 (4 * (r - 1) + i) = -1))) → Tp (tX12_stuckAt kn) (fun r => ∃ a : Nat, r = (some (hI (a : Int)), w, 0, 0) ∧ a < R) 5 (lv, [], w, 0, 0) := by
  have o0 : hO [] w w := hO_rf hw
  intro m
  induction m with
  | zero =>
    intro r on lv x hrm hxr ho1 ho2 l0 hst
    subst hxr
    refine h_iload rfl l0 rfl ?_
    refine h_aload rfl l0 rfl ?_
    refine h_getR rfl o0 fr_14 ?_
    refine h_intv k_0 rfl ?_
    refine h_ialdj (0) rfl o0 ai_215 rfl (by omega) (by omega) (fun b1a b1b => ?_)
    rw [hR] at b1a b1b ⊢
    refine i_ge (kn := kn) (t := 3) (tgt := 152) (np := 15) rfl (by unfold R32; omega) (by unfold R32; omega) (fun e2 => ?_) (fun e2 => ?_)
    · refine h_intv k_n1 rfl ?_
      refine h_iret rfl ?_
      exfalso
      rcases hst with e | ⟨h1, h2⟩
      · omega
      · obtain ⟨i, i1, i2⟩ := hasV_b on.toNat (by omega) (by omega)
        rw [show ((on.toNat : Nat) : Int) = on by omega] at i2
        obtain ⟨s1, s2⟩ := h2 i (by omega) i2
        obtain ⟨g1, g2, g3, g4⟩ := hG (r - 1) i (by omega) (by omega)
        exact g3 s1 (Or.inl (by omega)) s2
    · omega
  | succ m ih =>
    intro r on lv x hrm hxr ho1 ho2 l0 hst
    subst hxr
    refine h_iload rfl l0 rfl ?_
    refine h_aload rfl l0 rfl ?_
    refine h_getR rfl o0 fr_14 ?_
    refine h_intv k_0 rfl ?_
    refine h_ialdj (0) rfl o0 ai_215 rfl (by omega) (by omega) (fun b1a b1b => ?_)
    rw [hR] at b1a b1b ⊢
    refine i_ge (kn := kn) (t := 3) (tgt := 152) (np := 15) rfl (by unfold R32; omega) (by unfold R32; omega) (fun e2 => ?_) (fun e2 => ?_)
    · refine h_intv k_n1 rfl ?_
      refine h_iret rfl ?_
      omega
    · refine h_intv k_0 rfl ?_
      refine h_istore rfl l0 (fun vl3 l3 => ?_)
      refine h_intv k_0 rfl ?_
      refine h_istore rfl l3 (fun vl4 l4 => ?_)
      refine sk_k hw l hl R hR hR2 wide hwd hwd2 on r (by omega) ?_ ?_ 4 0 0 _ 0 rfl rfl (by omega) (by omega) l4 (fun i hi hh => absurd hh (has0 i hi))
      · intro k hk hs hc
        rcases hst with e | ⟨h1, h2⟩
        · subst e
          simpa using hN k hk
        · rcases hc with e | ⟨i, i1, i2, i3⟩
          · subst e
            simpa using hN k hk
          · obtain ⟨s1, s2⟩ := h2 i i1 i2
            by_cases e : r = 0
            · subst e
              simpa using hN k hk
            · have e7 : 4 * (r - 1) + 4 + k = 4 * r + k := by omega
              obtain ⟨g1, g2, g3, g4⟩ := hG (r - 1) i (by omega) i1
              refine Classical.byContradiction fun z => g3 s1 (Or.inr ⟨k, hk, i3, ?_⟩) s2
              rw [e7]
              exact z
      · intro lv nx hn1 hn2 l0 hs2
        refine h_iload rfl l0 rfl ?_
        refine j_ne (kn := kn) (t := 1) (tgt := 143) (np := 141) rfl (by unfold R32; omega) (fun e1 => ?_) (fun e1 => ?_)
        · refine h_iload rfl l0 rfl ?_
          refine h_istore rfl l0 (fun vl2 l2 => ?_)
          refine h_iincv k_1 rfl l2 rfl (fun vl3 l3 => ?_)
          refine h_goto rfl ?_
          refine ih (r + 1) nx _ ((r : Int) + 1) (by omega) (by omega) (by omega) hn2 (hL_take 4 l3) (Or.inr ⟨by omega, fun i hi hh => ?_⟩)
          rw [show r + 1 - 1 = r by omega]
          exact hs2 i hi hh
        · refine h_iload rfl l0 rfl ?_
          refine h_iret rfl ?_
          exact ⟨r, rfl, by omega⟩
theorem s_stuckAt {kn : sKn} {w : sW} (hw : wOk ZZ w) (l : Nat) (hl : l < 6) (R : Nat) (hR : gX w 215 0 = (R : Int)) (hR2 : R ≤ 12) (wide : Nat) (hwd : gX w 215 (88 + l) = (wide : Int)) (hwd2 : wide ≤ 3) (hR1 : 1 ≤ R) (hG : ∀ a b, a < R → b ≤ 3 → bsG (lbS w wide (gX w 215 (82 + l))) (gX w 225) R a b) (hN : ∀ k, k ≤ 3 → gX w 225 k = -1) : ∃ a : Nat, fX12_stuckAt kn [.ref 213, hI l] w = some (some (hI (a : Int)), w, 0, 0) ∧ a < R := by
  have K : Tp (tX12_stuckAt kn) (fun r => ∃ a : Nat, r = (some (hI (a : Int)), w, 0, 0) ∧ a < R) 0 (lv_args 0 [.ref 213, hI l], [], w, 0, 0) := by
    have l0 : hL (lv_args 0 [.ref 213, hI l]) (lv_args 0 [.ref 213, hI l]) := hL_ex rfl
    refine h_intv k_15 rfl ?_
    refine h_istore rfl l0 (fun vl1 l1 => ?_)
    refine h_intv k_0 rfl ?_
    refine h_istore rfl l1 (fun vl2 l2 => ?_)
    exact sk_r hw l hl R hR hR2 wide hwd hwd2 hR1 hG hN R 0 15 _ 0 (by omega) rfl (by omega) (by omega) l2 (Or.inl rfl)
  obtain ⟨r, h1, a, h2, h3⟩ := h_meth1 (nL := 8) rfl K
  rw [h2] at h1
  exact ⟨a, h1, h3⟩
end
