noncomputable section
/-- contracts out of runs by hand: the object and one int, two ints -/
theorem con_i1 {D : List (Nat × Nat)} {f : List Value → sW → Option sR} {a b lo hi : Int} (hr : -2147483648 ≤ lo ∧ hi ≤ 2147483647) (h : ∀ (w : sW) (x : Int), wOk ZZ w → a ≤ x → x ≤ b → R32 x → ∃ (w' : sW) (v : Int), f [.ref 213, hI x] w = some (some (hI v), w', 0, 0) ∧ hO D w w' ∧ lo ≤ v ∧ v ≤ hi) : Con ZZ D f ([(2, 0, 213), (0, 1, 0)], [], [(1, .inl (a, b))], 2, [([], [(0, 2, 0)], [], [(2, .inl (lo, hi))], 3)]) := by
  intro σ0 av w hN h0 hS hM hE hw hwf
  have hS : gS σ0 [(2, 0, 213), (0, 1, 0)] av := hS
  obtain ⟨v1, st1, rfl, ⟨z1, e1, e2⟩, hS1⟩ := gS_1 hS
  obtain ⟨v2, st2, rfl, ⟨z2, e3, e4⟩, hS2⟩ := gS_1 hS1
  rw [gS_0 hS2] at hwf ⊢
  rw [h0] at e1
  cases e1
  obtain ⟨k, rfl, hk⟩ := e2
  have hk : (k : Int) = 0 + 213 := hk
  have hk2 : k = 213 := by omega
  subst hk2
  obtain ⟨rfl, r2⟩ := vOk_hI e4
  obtain ⟨z3, e6, e7⟩ := hE (1, .inl (a, b)) List.mem_cons_self
  have e3 : σ0[1]? = some z2 := e3
  have e6 : σ0[1]? = some z3 := e6
  rw [e3] at e6
  cases e6
  have e7 : a ≤ z2 ∧ z2 ≤ b := e7
  have e8 : z2 + ((0, 1, 0) : eV).2.2 = z2 := Int.add_zero _
  rw [e8] at r2 ⊢
  obtain ⟨w', v, f1, f2, f3, f4⟩ := h w z2 hw e7.1 e7.2 r2
  refine ⟨⟨_, f1⟩, fun r hr' => ?_⟩
  rw [f1] at hr'
  cases hr'
  have e9 : (σ0 ++ [v])[2]? = some v := by
    have : σ0.length = 2 := hN
    rw [List.getElem?_append_right (by omega), this]
    rfl
  refine ⟨rfl, f2.2, f2.1, _, List.mem_cons_self, σ0 ++ [v], ext_ap σ0 v, by rw [List.length_append]; have : σ0.length = 2 := hN; rw [this]; rfl, ⟨⟨v, e9, ?_⟩, trivial⟩, (fun q hq => by cases hq), fun q hq => ?_⟩
  · have e10 : v + ((0, 2, 0) : eV).2.2 = v := Int.add_zero _
    show vOk 0 (v + ((0, 2, 0) : eV).2.2) (hI v)
    rw [e10]
    exact hI_vOk ⟨by omega, by omega⟩
  · rcases List.mem_singleton.mp hq with rfl
    exact ⟨v, e9, f3, f4⟩
theorem con_i2 {D : List (Nat × Nat)} {f : List Value → sW → Option sR} {a b c d lo hi : Int} (hr : -2147483648 ≤ lo ∧ hi ≤ 2147483647) (h : ∀ (w : sW) (x y : Int), wOk ZZ w → a ≤ x → x ≤ b → R32 x → c ≤ y → y ≤ d → R32 y → ∃ (w' : sW) (v : Int), f [.ref 213, hI x, hI y] w = some (some (hI v), w', 0, 0) ∧ hO D w w' ∧ lo ≤ v ∧ v ≤ hi) : Con ZZ D f ([(2, 0, 213), (0, 1, 0), (0, 2, 0)], [], [(2, .inl (c, d)), (1, .inl (a, b))], 3, [([], [(0, 3, 0)], [], [(3, .inl (lo, hi))], 4)]) := by
  intro σ0 av w hN h0 hS hM hE hw hwf
  have hS : gS σ0 [(2, 0, 213), (0, 1, 0), (0, 2, 0)] av := hS
  obtain ⟨v1, st1, rfl, ⟨z1, e1, e2⟩, hS1⟩ := gS_1 hS
  obtain ⟨v2, st2, rfl, ⟨z2, e3, e4⟩, hS2⟩ := gS_1 hS1
  obtain ⟨v3, st3, rfl, ⟨y2, d3, d4⟩, hS3⟩ := gS_1 hS2
  rw [gS_0 hS3] at hwf ⊢
  rw [h0] at e1
  cases e1
  obtain ⟨k, rfl, hk⟩ := e2
  have hk : (k : Int) = 0 + 213 := hk
  have hk2 : k = 213 := by omega
  subst hk2
  obtain ⟨rfl, r2⟩ := vOk_hI e4
  obtain ⟨rfl, r3⟩ := vOk_hI d4
  obtain ⟨z3, e6, e7⟩ := hE (1, .inl (a, b)) (List.mem_cons_of_mem _ List.mem_cons_self)
  obtain ⟨y3, d6, d7⟩ := hE (2, .inl (c, d)) List.mem_cons_self
  have e3 : σ0[1]? = some z2 := e3
  have e6 : σ0[1]? = some z3 := e6
  rw [e3] at e6
  cases e6
  have d3 : σ0[2]? = some y2 := d3
  have d6 : σ0[2]? = some y3 := d6
  rw [d3] at d6
  cases d6
  have e7 : a ≤ z2 ∧ z2 ≤ b := e7
  have d7 : c ≤ y2 ∧ y2 ≤ d := d7
  have e8 : z2 + ((0, 1, 0) : eV).2.2 = z2 := Int.add_zero _
  have d8 : y2 + ((0, 2, 0) : eV).2.2 = y2 := Int.add_zero _
  rw [e8] at r2 ⊢
  rw [d8] at r3 ⊢
  obtain ⟨w', v, f1, f2, f3, f4⟩ := h w z2 y2 hw e7.1 e7.2 r2 d7.1 d7.2 r3
  refine ⟨⟨_, f1⟩, fun r hr' => ?_⟩
  rw [f1] at hr'
  cases hr'
  have e9 : (σ0 ++ [v])[3]? = some v := by
    have : σ0.length = 3 := hN
    rw [List.getElem?_append_right (by omega), this]
    rfl
  refine ⟨rfl, f2.2, f2.1, _, List.mem_cons_self, σ0 ++ [v], ext_ap σ0 v, by rw [List.length_append]; have : σ0.length = 3 := hN; rw [this]; rfl, ⟨⟨v, e9, ?_⟩, trivial⟩, (fun q hq => by cases hq), fun q hq => ?_⟩
  · have e10 : v + ((0, 3, 0) : eV).2.2 = v := Int.add_zero _
    show vOk 0 (v + ((0, 3, 0) : eV).2.2) (hI v)
    rw [e10]
    exact hI_vOk ⟨by omega, by omega⟩
  · rcases List.mem_singleton.mp hq with rfl
    exact ⟨v, e9, f3, f4⟩
def dX12_layPath : List (Nat × Nat) := dH_path
def xX12_layPath : List eX := [([(2, 0, 213), (0, 1, 0)], [], [(1, .inl (0, 5))], 2, [([], [(0, 2, 0)], [], [(2, .inl (0, 1))], 3)])]
theorem con_X12_layPath (kn : sKn) : Cons ZZ dX12_layPath (fX12_layPath kn) xX12_layPath := Cons_c (con_i1 (by omega) (fun w x hw h1 h2 _ => by
  obtain ⟨w', v, f1, f2, f3, _⟩ := s_layPath (kn := kn) hw x.toNat (by omega)
  rw [show ((x.toNat : Nat) : Int) = x by omega] at f1
  exact ⟨w', v, f1, f2, by omega, by omega⟩)) Cons_n
def dX12_doCross : List (Nat × Nat) := dH_cross
def xX12_doCross : List eX := [([(2, 0, 213), (0, 1, 0)], [], [(1, .inl (0, 5))], 2, [([], [(0, 2, 0)], [], [(2, .inl (0, 2))], 3)])]
theorem con_X12_doCross (kn : sKn) : Cons ZZ dX12_doCross (fX12_doCross kn) xX12_doCross := Cons_c (con_i1 (by omega) (fun w x hw h1 h2 _ => by
  obtain ⟨w', v, f1, f2, f3⟩ := s_doCross (kn := kn) hw x.toNat (by omega)
  rw [show ((x.toNat : Nat) : Int) = x by omega] at f1
  exact ⟨w', v, f1, f2, by omega, by omega⟩)) Cons_n
theorem s_isIn {kn : sKn} {w : sW} (hw : wOk ZZ w) (x y z : Int) (hx : R32 x) (hy : R32 y) (hz : R32 z) : ∃ b : Int, fX12_isIn kn [hI x, hI y, hI z] w = some (some (hI b), w, 0, 0) ∧ ((b = 0 ∨ b = 1) ∧ (b = 1 ↔ y ≤ x ∧ x ≤ z)) := by
  have K : Tp (tX12_isIn kn) (fun r => ∃ b : Int, r = (some (hI b), w, 0, 0) ∧ ((b = 0 ∨ b = 1) ∧ (b = 1 ↔ y ≤ x ∧ x ≤ z))) 0 (lv_args 0 [hI x, hI y, hI z], [], w, 0, 0) := by
    have l0 : hL (lv_args 0 [hI x, hI y, hI z]) (lv_args 0 [hI x, hI y, hI z]) := hL_ex rfl
    have o0 : hO [] w w := hO_rf hw
    have hx1 := hx.1
    have hx2 := hx.2
    have hy1 := hy.1
    have hy2 := hy.2
    have hz1 := hz.1
    have hz2 := hz.2
    refine h_iload rfl l0 rfl ?_
    refine h_iload rfl l0 rfl ?_
    refine i_lt (kn := kn) (t := 2) (tgt := 14) (np := 5) rfl (by unfold R32; omega) (by unfold R32; omega) (fun e1 => ?_) (fun e1 => ?_)
    · refine h_intv k_0 rfl ?_
      refine h_zret (by omega) rfl ?_
      exact ⟨_, rfl, by omega, by omega⟩
    · refine h_iload rfl l0 rfl ?_
      refine h_iload rfl l0 rfl ?_
      refine i_gt (kn := kn) (t := 4) (tgt := 14) (np := 10) rfl (by unfold R32; omega) (by unfold R32; omega) (fun e2 => ?_) (fun e2 => ?_)
      · refine h_intv k_0 rfl ?_
        refine h_zret (by omega) rfl ?_
        exact ⟨_, rfl, by omega, by omega⟩
      · refine h_intv k_1 rfl ?_
        refine h_goto rfl ?_
        refine h_zret (by omega) rfl ?_
        exact ⟨_, rfl, by omega, by omega⟩
  obtain ⟨r, h1, b, h2, h3⟩ := h_meth1 (nL := 3) rfl K
  rw [h2] at h1
  exact ⟨b, h1, h3⟩
theorem ar_signers : aR 215 1 1 0 10 = true := by decide +kernel
theorem ar_loads : aR 215 2 1 0 6 = true := by decide +kernel
theorem s_isSigner {kn : sKn} {w : sW} (hw : wOk ZZ w) (x : Int) (hx : R32 x) : ∃ b : Int, fX12_isSigner kn [.ref 213, hI x] w = some (some (hI b), w, 0, 0) ∧ ((b = 0 ∨ b = 1) ∧ (b = 1 → 0 ≤ x ∧ x < 10)) := by
  have K : Tp (tX12_isSigner kn) (fun r => ∃ b : Int, r = (some (hI b), w, 0, 0) ∧ ((b = 0 ∨ b = 1) ∧ (b = 1 → 0 ≤ x ∧ x < 10))) 0 (lv_args 0 [.ref 213, hI x], [], w, 0, 0) := by
    have l0 : hL (lv_args 0 [.ref 213, hI x]) (lv_args 0 [.ref 213, hI x]) := hL_ex rfl
    have o0 : hO [] w w := hO_rf hw
    refine h_iload rfl l0 rfl ?_
    refine h_intv k_0 rfl ?_
    refine h_aload rfl l0 rfl ?_
    refine h_getR rfl o0 fr_14 ?_
    refine h_intv k_1 rfl ?_
    refine h_ialdj (1) rfl o0 ai_215 rfl (by omega) (by omega) (fun b1a b1b => ?_)
    have b1c := gX_in o0 ai_215 ar_signers (j := 1) (by omega) (by omega) (by omega)
    refine h_intv k_1 rfl ?_
    refine h_isub rfl ?_
    obtain ⟨z2, hf2, hz2, hq2⟩ := s_isIn (kn := kn) hw x 0 (gX w 215 1 - 1) hx ⟨by omega, by omega⟩ ⟨by omega, by omega⟩
    refine h_S3 rfl o0 l0 rfl rfl hf2 ?_
    refine h_zret hz2 rfl ?_
    exact ⟨_, rfl, hz2, fun z => by have := hq2.mp z; omega⟩
  obtain ⟨r, h1, b, h2, h3⟩ := h_meth1 (nL := 2) rfl K
  rw [h2] at h1
  exact ⟨b, h1, h3⟩
theorem s_isLoad {kn : sKn} {w : sW} (hw : wOk ZZ w) (x : Int) (hx : R32 x) : ∃ b : Int, fX12_isLoad kn [.ref 213, hI x] w = some (some (hI b), w, 0, 0) ∧ ((b = 0 ∨ b = 1) ∧ (b = 1 → 0 ≤ x ∧ x < 6)) := by
  have K : Tp (tX12_isLoad kn) (fun r => ∃ b : Int, r = (some (hI b), w, 0, 0) ∧ ((b = 0 ∨ b = 1) ∧ (b = 1 → 0 ≤ x ∧ x < 6))) 0 (lv_args 0 [.ref 213, hI x], [], w, 0, 0) := by
    have l0 : hL (lv_args 0 [.ref 213, hI x]) (lv_args 0 [.ref 213, hI x]) := hL_ex rfl
    have o0 : hO [] w w := hO_rf hw
    refine h_iload rfl l0 rfl ?_
    refine h_intv k_0 rfl ?_
    refine h_aload rfl l0 rfl ?_
    refine h_getR rfl o0 fr_14 ?_
    refine h_intv k_2 rfl ?_
    refine h_ialdj (2) rfl o0 ai_215 rfl (by omega) (by omega) (fun b1a b1b => ?_)
    have b1c := gX_in o0 ai_215 ar_loads (j := 2) (by omega) (by omega) (by omega)
    refine h_intv k_1 rfl ?_
    refine h_isub rfl ?_
    obtain ⟨z2, hf2, hz2, hq2⟩ := s_isIn (kn := kn) hw x 0 (gX w 215 2 - 1) hx ⟨by omega, by omega⟩ ⟨by omega, by omega⟩
    refine h_S3 rfl o0 l0 rfl rfl hf2 ?_
    refine h_zret hz2 rfl ?_
    exact ⟨_, rfl, hz2, fun z => by have := hq2.mp z; omega⟩
  obtain ⟨r, h1, b, h2, h3⟩ := h_meth1 (nL := 2) rfl K
  rw [h2] at h1
  exact ⟨b, h1, h3⟩
def dH_toll : List (Nat × Nat) := (61, 0) :: dH_path
theorem dH_toll1 : msub dH_path dH_toll = true := by decide +kernel
theorem tl_i {kn : sKn} {Po : sR → Prop} {w0 w : sW} (o0 : hO dH_toll w0 w) (s : Int) (hs : R32 s) (l wide : Nat) (hl : l < 6) (hwd : gX w 215 (88 + l) = (wide : Int)) (hwd2 : wide ≤ 3) (r q : Nat) (hr : r < 12) (hq : gX w 226 r = (q : Int)) (hq3 : q ≤ 3) (hqw : q = 3 ∨ q + wide ≤ 3) (hx : ∀ (lv : List (Nat × Value)) (n : Int), hL lv [(0, .ref 213), (1, hI s), (2, hI l), (3, hI n), (4, hI r)] → Tp (tX12_toll kn) Po 108 (lv, [], w, 0, 0)) : ∀ (m i : Nat) (n : Int) (lv : List (Nat × Value)) (x : Int), i + m = wide → x = (i : Int) → hL lv [(0, .ref 213), (1, hI s), (2, hI l), (3, hI n), (4, hI r), (5, hI x)] → Tp (tX12_toll kn) Po 50 (lv, [], w, 0, 0) := by
  have hs1 := hs.1
  have hs2 := hs.2
  intro m
  induction m with
  | zero =>
    intro i n lv x him hxi l0
    subst hxi
    refine h_iload rfl l0 rfl ?_
    refine h_aload rfl l0 rfl ?_
    refine h_getR rfl o0 fr_14 ?_
    refine h_intv k_88 rfl ?_
    refine h_iload rfl l0 rfl ?_
    refine h_iadd rfl ?_
    refine h_ialdj (88 + l) rfl o0 ai_215 rfl (by omega) (by omega) (fun b1a b1b => ?_)
    rw [hwd] at b1a b1b ⊢
    refine i_ge (kn := kn) (t := 3) (tgt := 108) (np := 64) rfl (by unfold R32; omega) (by unfold R32; omega) (fun e2 => ?_) (fun e2 => ?_)
    · exact hx _ _ (hL_take 5 l0)
    · omega
  | succ m ih =>
    intro i n lv x him hxi l0
    subst hxi
    refine h_iload rfl l0 rfl ?_
    refine h_aload rfl l0 rfl ?_
    refine h_getR rfl o0 fr_14 ?_
    refine h_intv k_88 rfl ?_
    refine h_iload rfl l0 rfl ?_
    refine h_iadd rfl ?_
    refine h_ialdj (88 + l) rfl o0 ai_215 rfl (by omega) (by omega) (fun b1a b1b => ?_)
    rw [hwd] at b1a b1b ⊢
    refine i_ge (kn := kn) (t := 3) (tgt := 108) (np := 64) rfl (by unfold R32; omega) (by unfold R32; omega) (fun e2 => ?_) (fun e2 => ?_)
    · exact hx _ _ (hL_take 5 l0)
    · refine h_aload rfl l0 rfl ?_
      refine h_getR rfl o0 fr_30 ?_
      refine h_iload rfl l0 rfl ?_
      refine h_ialdj (r) rfl o0 ai_226 rfl (by omega) (by omega) (fun b3a b3b => ?_)
      rw [hq] at b3a b3b ⊢
      refine h_intv k_3 rfl ?_
      refine i_eq (kn := kn) (t := 0) (tgt := 108) (np := 75) rfl (by unfold R32; omega) (by unfold R32; omega) (fun e4 => ?_) (fun e4 => ?_)
      · exact hx _ _ (hL_take 5 l0)
      · refine h_aload rfl l0 rfl ?_
        refine h_getR rfl o0 fr_27 ?_
        refine h_intv k_3 rfl ?_
        refine h_iload rfl l0 rfl ?_
        refine h_imul rfl ?_
        refine h_aload rfl l0 rfl ?_
        refine h_getR rfl o0 fr_30 ?_
        refine h_iload rfl l0 rfl ?_
        refine h_ialdj (r) rfl o0 ai_226 rfl (by omega) (by omega) (fun b5a b5b => ?_)
        rw [hq] at b5a b5b ⊢
        refine h_iadd rfl ?_
        refine h_iload rfl l0 rfl ?_
        refine h_iadd rfl ?_
        refine h_ialdj (3 * r + q + i) rfl o0 ai_224 rfl (by omega) (by omega) (fun b6a b6b => ?_)
        refine h_iload rfl l0 rfl ?_
        refine i_ne (kn := kn) (t := 1) (tgt := 102) (np := 99) rfl (by unfold R32; omega) (by unfold R32; omega) (fun e7 => ?_) (fun e7 => ?_)
        · refine h_iincv k_1 rfl l0 rfl (fun vl8 l8 => ?_)
          refine h_goto rfl ?_
          exact ih (i + 1) _ _ ((i : Int) + 1) (by omega) (by omega) l8
        · refine h_iincv k_1 rfl l0 rfl (fun vl9 l9 => ?_)
          refine h_iincv k_1 rfl l9 rfl (fun vl10 l10 => ?_)
          refine h_goto rfl ?_
          exact ih (i + 1) _ _ ((i : Int) + 1) (by omega) (by omega) l10
theorem tl_r {kn : sKn} {w0 w : sW} (o0 : hO dH_toll w0 w) (s : Int) (hs : R32 s) (l wide : Nat) (hl : l < 6) (hwd : gX w 215 (88 + l) = (wide : Int)) (hwd2 : wide ≤ 3) (R : Nat) (hR : gX w 215 0 = (R : Int)) (hR2 : R ≤ 12) (hP : ∀ r, r < R → ∃ q : Nat, gX w 226 r = (q : Int) ∧ q ≤ 3 ∧ (q = 3 ∨ q + wide ≤ 3)) : ∀ (m r : Nat) (n : Int) (lv : List (Nat × Value)) (x : Int), r + m = R → x = (r : Int) → hL lv [(0, .ref 213), (1, hI s), (2, hI l), (3, hI n), (4, hI x)] → Tp (tX12_toll kn) (fun r => ∃ (w' : sW) (v : Int), r = (some (hI v), w', 0, 0) ∧ hO dH_toll w0 w' ∧ (-2147483648 ≤ v ∧ v ≤ 2147483647)) 36 (lv, [], w, 0, 0) := by
  intro m
  induction m with
  | zero =>
    intro r n lv x hrm hxr l0
    subst hxr
    refine h_iload rfl l0 rfl ?_
    refine h_aload rfl l0 rfl ?_
    refine h_getR rfl o0 fr_14 ?_
    refine h_intv k_0 rfl ?_
    refine h_ialdj (0) rfl o0 ai_215 rfl (by omega) (by omega) (fun b1a b1b => ?_)
    rw [hR] at b1a b1b ⊢
    refine i_ge (kn := kn) (t := 3) (tgt := 114) (np := 47) rfl (by unfold R32; omega) (by unfold R32; omega) (fun e2 => ?_) (fun e2 => ?_)
    · refine h_iload rfl l0 rfl ?_
      refine h_iret rfl ?_
      rw [hI_wr n]
      exact ⟨w, wr n, rfl, o0, wr_R n⟩
    · omega
  | succ m ih =>
    intro r n lv x hrm hxr l0
    subst hxr
    refine h_iload rfl l0 rfl ?_
    refine h_aload rfl l0 rfl ?_
    refine h_getR rfl o0 fr_14 ?_
    refine h_intv k_0 rfl ?_
    refine h_ialdj (0) rfl o0 ai_215 rfl (by omega) (by omega) (fun b1a b1b => ?_)
    rw [hR] at b1a b1b ⊢
    refine i_ge (kn := kn) (t := 3) (tgt := 114) (np := 47) rfl (by unfold R32; omega) (by unfold R32; omega) (fun e2 => ?_) (fun e2 => ?_)
    · refine h_iload rfl l0 rfl ?_
      refine h_iret rfl ?_
      omega
    · refine h_intv k_0 rfl ?_
      refine h_istore rfl l0 (fun vl3 l3 => ?_)
      obtain ⟨q, hq, hq3, hqw⟩ := hP r (by omega)
      refine tl_i o0 s hs l wide hl hwd hwd2 r q (by omega) hq hq3 hqw ?_ wide 0 _ _ 0 (by omega) rfl l3
      intro lv n l0
      refine h_iincv k_1 rfl l0 rfl (fun vl1 l1 => ?_)
      refine h_goto rfl ?_
      exact ih (r + 1) _ _ ((r : Int) + 1) (by omega) (by omega) l1
theorem s_toll {kn : sKn} {w0 : sW} (hw : wOk ZZ w0) (s l : Int) (hs : R32 s) (hl : R32 l) : ∃ (w' : sW) (v : Int), fX12_toll kn [.ref 213, hI s, hI l] w0 = some (some (hI v), w', 0, 0) ∧ hO dH_toll w0 w' ∧ (-2147483648 ≤ v ∧ v ≤ 2147483647) := by
  have K : Tp (tX12_toll kn) (fun r => ∃ (w' : sW) (v : Int), r = (some (hI v), w', 0, 0) ∧ hO dH_toll w0 w' ∧ (-2147483648 ≤ v ∧ v ≤ 2147483647)) 0 (lv_args 0 [.ref 213, hI s, hI l], [], w0, 0, 0) := by
    have l0 : hL (lv_args 0 [.ref 213, hI s, hI l]) (lv_args 0 [.ref 213, hI s, hI l]) := hL_ex rfl
    have o0 : hO dH_toll w0 w0 := hO_rf hw
    refine h_aload rfl l0 rfl ?_
    refine h_intv k_0 rfl ?_
    refine h_putI rfl o0 fi_0 rfl (by omega) (by omega) (fun w1 o1 q2a q2b q2c => ?_)
    refine h_aload rfl l0 rfl ?_
    refine h_iload rfl l0 rfl ?_
    obtain ⟨z3, hf3, hz3, hq3⟩ := s_isSigner (kn := kn) o1.1 s hs
    refine h_V2 rfl o1 l0 ci_213 rfl rfl hf3 ?_
    refine j_eq (kn := kn) (t := 0) (tgt := 29) (np := 13) rfl (by unfold R32; omega) (fun e4 => ?_) (fun e4 => ?_)
    · refine h_intv k_n1 rfl ?_
      refine h_iret rfl ?_
      exact ⟨_, _, rfl, o1, by omega⟩
    · refine h_aload rfl l0 rfl ?_
      refine h_iload rfl l0 rfl ?_
      obtain ⟨z5, hf5, hz5, hq5⟩ := s_isLoad (kn := kn) o1.1 l hl
      refine h_V2 rfl o1 l0 ci_213 rfl rfl hf5 ?_
      refine j_eq (kn := kn) (t := 0) (tgt := 29) (np := 21) rfl (by unfold R32; omega) (fun e6 => ?_) (fun e6 => ?_)
      · refine h_intv k_n1 rfl ?_
        refine h_iret rfl ?_
        exact ⟨_, _, rfl, o1, by omega⟩
      · refine h_aload rfl l0 rfl ?_
        refine h_iload rfl l0 rfl ?_
        have hl5 := hq5 (by omega)
        obtain ⟨ln, rfl⟩ : ∃ ln : Nat, l = (ln : Int) := ⟨l.toNat, by omega⟩
        obtain ⟨w9, b9, hf7, o9', hb9, hc9⟩ := s_layPath (kn := kn) o1.1 ln (by omega)
        have o9 : hO dH_toll w0 w9 := hO_tr o1 (hO_mono dH_toll1 o9')
        refine h_V2 rfl o1 l0 ci_213 rfl rfl hf7 ?_
        refine j_ne (kn := kn) (t := 1) (tgt := 31) (np := 29) rfl (by unfold R32; omega) (fun e8 => ?_) (fun e8 => ?_)
        · refine h_intv k_0 rfl ?_
          refine h_istore rfl l0 (fun vl9 l9 => ?_)
          refine h_intv k_0 rfl ?_
          refine h_istore rfl l9 (fun vl10 l10 => ?_)
          obtain ⟨R, wide, B, S, sp, g1, g2, g3, g4, g5, g6, g7, g8⟩ := hc9 (by omega)
          refine tl_r o9 s hs ln wide (by omega) g4 g5 R g2 g3 (fun a ha => ?_) R 0 _ _ 0 (by omega) rfl l10
          obtain ⟨k, k1, k2, k3⟩ := g8 a ha
          refine ⟨k, k2, k1, ?_⟩
          have k4 := (g6 a k ha k1).2.2.2
          have k5 := k4 (by omega)
          refine Classical.byContradiction fun z => k5 (g7 a k (by omega) (by omega))
        · refine h_intv k_n1 rfl ?_
          refine h_iret rfl ?_
          exact ⟨_, _, rfl, o9, by omega⟩
  obtain ⟨r, h1, w2, b, h2, h3⟩ := h_meth1 (nL := 6) rfl K
  rw [h2] at h1
  exact ⟨w2, b, h1, h3⟩
def dX12_toll : List (Nat × Nat) := dH_toll
def xX12_toll : List eX := [([(2, 0, 213), (0, 1, 0), (0, 2, 0)], [], [(2, fullI), (1, fullI)], 3, [([], [(0, 3, 0)], [], [(3, fullI)], 4)])]
theorem con_X12_toll (kn : sKn) : Cons ZZ dX12_toll (fX12_toll kn) xX12_toll := Cons_c (con_i2 (by omega) (fun w x y hw _ _ hx _ _ hy => s_toll (kn := kn) hw x y hx hy)) Cons_n
end
