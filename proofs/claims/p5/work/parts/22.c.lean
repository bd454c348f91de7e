noncomputable section
theorem con_1m {D : List (Nat × Nat)} {f : List Value → sW → Option sR} {a b : Int} {Q : List eS} (h : Con ZZ D f ([(2, 0, 213), (0, 1, 0)], [], [(1, .inl (a, b))], 2, Q)) {w : sW} (hw : wOk ZZ w) {x : Int} (hx : R32 x) (h1 : a ≤ x) (h2 : x ≤ b) : ∃ r w', f [.ref 213, hI x] w = some (r, w', 0, 0) ∧ hO D w w' ∧ ∃ q ∈ Q, ∃ σ' : List Int, σ'[0]? = some 0 ∧ gS σ' q.2.1 r.toList ∧ gM σ' w' q.2.2.1 ∧ gE ZZ σ' q.2.2.2.1 := by
  have hn := hO_len (D := []) (w0 := w) ⟨hw, frOk_rf w⟩
  obtain ⟨⟨r, k1⟩, k2⟩ := h [0, x] [.ref 213, hI x] w rfl rfl ⟨⟨0, rfl, 213, rfl, rfl⟩, ⟨x, rfl, by
      have d3 : x + ((0, 1, 0) : eV).2.2 = x := Int.add_zero _
      show vOk 0 (x + ((0, 1, 0) : eV).2.2) _
      rw [d3]
      exact hI_vOk hx⟩, trivial⟩ (fun q hq => by cases hq) (fun q hq => by
    rcases List.mem_singleton.mp hq with rfl
    exact ⟨x, rfl, h1, h2⟩) hw (fun v hv => by
    rcases List.mem_cons.mp hv with rfl | hv
    · exact wf_up (by decide) hn
    · rcases List.mem_singleton.mp hv with rfl
      rfl)
  obtain ⟨e1, e2, e3, q, e4, σ', e5, e6, e7, e8, e9⟩ := k2 r k1
  obtain ⟨r1, r2, r3⟩ := r
  have e1 : r3 = (0, 0) := e1
  subst e1
  exact ⟨r1, r2, k1, ⟨e3, e2⟩, q, e4, σ', e5 0 0 rfl, e7, e8, e9⟩
theorem con_2m {D : List (Nat × Nat)} {f : List Value → sW → Option sR} {a b c d : Int} {Q : List eS} (h : Con ZZ D f ([(2, 0, 213), (0, 1, 0), (0, 2, 0)], [], [(2, .inl (c, d)), (1, .inl (a, b))], 3, Q)) {w : sW} (hw : wOk ZZ w) {x y : Int} (hx : R32 x) (h1 : a ≤ x) (h2 : x ≤ b) (hy : R32 y) (h3 : c ≤ y) (h4 : y ≤ d) : ∃ r w', f [.ref 213, hI x, hI y] w = some (r, w', 0, 0) ∧ hO D w w' ∧ ∃ q ∈ Q, ∃ σ' : List Int, σ'[0]? = some 0 ∧ gS σ' q.2.1 r.toList ∧ gM σ' w' q.2.2.1 ∧ gE ZZ σ' q.2.2.2.1 := by
  have hn := hO_len (D := []) (w0 := w) ⟨hw, frOk_rf w⟩
  have iv : ∀ z : Int, R32 z → vOk 0 (z + 0) (hI z) := fun z h => by rw [Int.add_zero]; exact hI_vOk h
  obtain ⟨⟨r, k1⟩, k2⟩ := h [0, x, y] [.ref 213, hI x, hI y] w rfl rfl ⟨⟨0, rfl, 213, rfl, rfl⟩, ⟨x, rfl, iv x hx⟩, ⟨y, rfl, iv y hy⟩, trivial⟩ (fun q hq => by cases hq) (fun q hq => by
    rcases List.mem_cons.mp hq with rfl | hq
    · exact ⟨y, rfl, h3, h4⟩
    · rcases List.mem_singleton.mp hq with rfl
      exact ⟨x, rfl, h1, h2⟩) hw (fun v hv => by
    rcases List.mem_cons.mp hv with rfl | hv
    · exact wf_up (by decide) hn
    · rcases List.mem_cons.mp hv with rfl | hv
      · rfl
      · rcases List.mem_singleton.mp hv with rfl
        rfl)
  obtain ⟨e1, e2, e3, q, e4, σ', e5, e6, e7, e8, e9⟩ := k2 r k1
  obtain ⟨r1, r2, r3⟩ := r
  have e1 : r3 = (0, 0) := e1
  subst e1
  exact ⟨r1, r2, k1, ⟨e3, e2⟩, q, e4, σ', e5 0 0 rfl, e7, e8, e9⟩
/-- a field, as a number -/
theorem mf_F {σ : List Int} {w : sW} {c kf u : Nat} {x : Int} (h0 : σ[0]? = some 0) (h : mfOk σ w (((0, (c : Int)), 0, kf, 0), (0, u, x))) : ∃ z : Int, σ[u]? = some z ∧ gF w c kf = z + x := by
  obtain ⟨zr, k, a1, a2, ci, fs, v, b1, b2, z, d1, d2⟩ := h
  have a1 : σ[0]? = some zr := a1
  rw [h0] at a1
  cases a1
  have a2 : (k : Int) = 0 + (c : Int) := a2
  have hk : k = c := by omega
  subst hk
  obtain ⟨e, r⟩ := vOk_hI d2
  refine ⟨z, d1, ?_⟩
  unfold gF
  rw [b1]
  dsimp only
  rw [b2, e]
  exact hI_to r
theorem s_isWord {kn : sKn} {w : sW} (hw : wOk ZZ w) (x : Int) (hx : R32 x) : ∃ b : Int, fX12_isWord kn [.ref 213, hI x] w = some (some (hI b), w, 0, 0) ∧ ((b = 0 ∨ b = 1) ∧ (b = 1 → gF w 213 7 = 2)) := by
  obtain ⟨r, w', h1, h2, q, hq, σ', h0, h3, h4, _⟩ := con_1m (con_X12_isWord_0 kn) hw hx hx.1 hx.2
  have e : w' = w := fr_nil hw h2.1 h2.2
  subst e
  rcases List.mem_cons.mp hq with rfl | hq
  · rw [gS_c h0 h3] at h1
    refine ⟨1, h1, Or.inr rfl, fun _ => ?_⟩
    obtain ⟨z, z1, z2⟩ := mf_F (c := 213) (kf := 7) (u := 0) h0 (h4 _ List.mem_cons_self)
    rw [h0] at z1
    cases z1
    omega
  · rcases List.mem_singleton.mp hq with rfl
    rw [gS_c h0 h3] at h1
    exact ⟨0, h1, Or.inl rfl, fun z => by omega⟩
theorem s_readWhom {kn : sKn} {w : sW} (hw : wOk ZZ w) (x : Int) (hx : R32 x) : ∃ (w' : sW) (b : Int), fX12_readWhom kn [.ref 213, hI x] w = some (some (hI b), w', 0, 0) ∧ hO dX12_readWhom w w' ∧ ((b = 0 ∨ b = 1) ∧ (b = 1 → 0 ≤ gF w' 213 13 ∧ gF w' 213 13 ≤ 11)) := by
  obtain ⟨r, w', h1, h2, q, hq, σ', h0, h3, h4, h5⟩ := con_1m (con_X12_readWhom_0 kn) hw hx hx.1 hx.2
  rcases List.mem_cons.mp hq with rfl | hq
  · rw [gS_c h0 h3] at h1
    refine ⟨w', 1, h1, h2, Or.inr rfl, fun _ => ?_⟩
    obtain ⟨z, z1, z2⟩ := mf_F (c := 213) (kf := 13) (u := 2) h0 (h4 _ List.mem_cons_self)
    obtain ⟨z', y1, y2⟩ := h5 (2, .inl (0, 11)) List.mem_cons_self
    have y1 : σ'[2]? = some z' := y1
    rw [z1] at y1
    cases y1
    have y2 : 0 ≤ z ∧ z ≤ 11 := y2
    omega
  · rcases List.mem_singleton.mp hq with rfl
    rw [gS_c h0 h3] at h1
    exact ⟨w', 0, h1, h2, Or.inl rfl, fun z => by omega⟩
theorem s_readNumS {kn : sKn} {w : sW} (hw : wOk ZZ w) : ∃ (w' : sW) (b : Int), fX12_readNumber kn [.ref 213, hI 0, hI 999] w = some (some (hI b), w', 0, 0) ∧ hO dX12_readNumber w w' ∧ (b = 0 ∨ b = 1) := by
  obtain ⟨r, w', h1, h2, q, hq, σ', h0, h3, h4, h5⟩ := con_2m (con_X12_readNumber_9 kn) hw (x := 0) (y := 999) ⟨by omega, by omega⟩ (by omega) (by omega) ⟨by omega, by omega⟩ (by omega) (by omega)
  rcases List.mem_cons.mp hq with rfl | hq
  · rw [gS_c h0 h3] at h1
    exact ⟨w', _, h1, h2, by omega⟩
  · rcases List.mem_singleton.mp hq with rfl
    rw [gS_c h0 h3] at h1
    exact ⟨w', _, h1, h2, by omega⟩
def dH_so : List (Nat × Nat) := [(88, 999), (61, 56)]
theorem s_saysOne {kn : sKn} {w : sW} (hw : wOk ZZ w) (k x y z : Int) (hk : R32 k) (hx : R32 x) (hy : R32 y) (hz : R32 z) (n : Nat) (hn : gF w 213 56 = (n : Int)) (h60 : n < 60) : ∃ w', fX12_saysOne kn [.ref 213, hI k, hI x, hI y, hI z] w = some (some (hI (n : Int)), w', 0, 0) ∧ hO dH_so w w' ∧ (gF w' 213 56 = (n : Int) + 1 ∧ (∀ kf, kf ≠ 56 → gF w' 213 kf = gF w 213 kf) ∧ (∀ j, j < 4 * n → gX w' 240 j = gX w 240 j) ∧ gX w' 240 (4 * n) = k ∧ gX w' 240 (4 * n + 1) = x ∧ gX w' 240 (4 * n + 2) = y) := by
  have hk1 := hk.1
  have hk2 := hk.2
  have hx1 := hx.1
  have hx2 := hx.2
  have hy1 := hy.1
  have hy2 := hy.2
  have hz1 := hz.1
  have hz2 := hz.2
  have K : Tp (tX12_saysOne kn) (fun r => ∃ w', r = (some (hI (n : Int)), w', 0, 0) ∧ hO dH_so w w' ∧ (gF w' 213 56 = (n : Int) + 1 ∧ (∀ kf, kf ≠ 56 → gF w' 213 kf = gF w 213 kf) ∧ (∀ j, j < 4 * n → gX w' 240 j = gX w 240 j) ∧ gX w' 240 (4 * n) = k ∧ gX w' 240 (4 * n + 1) = x ∧ gX w' 240 (4 * n + 2) = y)) 0 (lv_args 0 [.ref 213, hI k, hI x, hI y, hI z], [], w, 0, 0) := by
    have l0 : hL (lv_args 0 [.ref 213, hI k, hI x, hI y, hI z]) (lv_args 0 [.ref 213, hI k, hI x, hI y, hI z]) := hL_ex rfl
    have o0 : hO dH_so w w := hO_rf hw
    refine h_intv k_4 rfl ?_
    refine h_aload rfl l0 rfl ?_
    refine h_getI rfl o0 fi_56 (fun b1a b1b => ?_)
    rw [hn] at b1a b1b ⊢
    refine h_imul rfl ?_
    refine h_istore rfl l0 (fun vl2 l2 => ?_)
    refine h_aload rfl l2 rfl ?_
    refine h_getR rfl o0 fr_55 ?_
    refine h_iload rfl l2 rfl ?_
    refine h_iload rfl l2 rfl ?_
    refine h_iastj (4 * n) rfl o0 ai_240 rfl rfl aw_240 (by omega) (by omega) (by omega) (by omega) (by omega) (by unfold R32; omega) (fun w3 o3 q4a q4b q4c => ?_)
    refine h_aload rfl l2 rfl ?_
    refine h_getR rfl o3 fr_55 ?_
    refine h_iload rfl l2 rfl ?_
    refine h_intv k_1 rfl ?_
    refine h_iadd rfl ?_
    refine h_iload rfl l2 rfl ?_
    refine h_iastj (4 * n + 1) rfl o3 ai_240 rfl rfl aw_240 (by omega) (by omega) (by omega) (by omega) (by omega) (by unfold R32; omega) (fun w5 o5 q6a q6b q6c => ?_)
    refine h_aload rfl l2 rfl ?_
    refine h_getR rfl o5 fr_55 ?_
    refine h_iload rfl l2 rfl ?_
    refine h_intv k_2 rfl ?_
    refine h_iadd rfl ?_
    refine h_iload rfl l2 rfl ?_
    refine h_iastj (4 * n + 2) rfl o5 ai_240 rfl rfl aw_240 (by omega) (by omega) (by omega) (by omega) (by omega) (by unfold R32; omega) (fun w7 o7 q8a q8b q8c => ?_)
    refine h_aload rfl l2 rfl ?_
    refine h_getR rfl o7 fr_55 ?_
    refine h_iload rfl l2 rfl ?_
    refine h_intv k_3 rfl ?_
    refine h_iadd rfl ?_
    refine h_iload rfl l2 rfl ?_
    refine h_iastj (4 * n + 3) rfl o7 ai_240 rfl rfl aw_240 (by omega) (by omega) (by omega) (by omega) (by omega) (by unfold R32; omega) (fun w9 o9 q10a q10b q10c => ?_)
    refine h_aload rfl l2 rfl ?_
    refine h_dup rfl rfl ?_
    refine h_getI rfl o9 fi_56 (fun b11a b11b => ?_)
    rw [q10c, q8c, q6c, q4c, hn] at b11a b11b ⊢
    refine h_intv k_1 rfl ?_
    refine h_iadd rfl ?_
    refine h_putI rfl o9 fi_56 rfl (by omega) (by omega) (fun w12 o12 q13a q13b q13c => ?_)
    refine h_aload rfl l2 rfl ?_
    refine h_getI rfl o12 fi_56 (fun b14a b14b => ?_)
    rw [q13a] at b14a b14b ⊢
    refine h_intv k_1 rfl ?_
    refine h_isub rfl ?_
    refine h_iret rfl ?_
    rw [show ((n : Int) + 1 - 1) = (n : Int) by omega]
    refine ⟨_, rfl, o12, q13a, fun kf hk => ?_, fun j hj => ?_, ?_, ?_, ?_⟩
    · rw [q13b 213 kf (fun _ => hk), q10c, q8c, q6c, q4c]
    · rw [q13c, q10b 240 j (fun _ => by omega), q8b 240 j (fun _ => by omega), q6b 240 j (fun _ => by omega), q4b 240 j (fun _ => by omega)]
    · rw [q13c, q10b 240 _ (fun _ => by omega), q8b 240 _ (fun _ => by omega), q6b 240 _ (fun _ => by omega), q4a]
    · rw [q13c, q10b 240 _ (fun _ => by omega), q8b 240 _ (fun _ => by omega), q6a]
    · rw [q13c, q10b 240 _ (fun _ => by omega), q8a]
  obtain ⟨r, h1, w2, h2, h3⟩ := h_meth1 (nL := 6) rfl K
  rw [h2] at h1
  exact ⟨w2, h1, h3⟩
def NI (w : sW) : Prop := ∀ i : Nat, (i : Int) < gF w 213 56 → ndG w 240 0 i
theorem ni_eq {w w' : sW} (h1 : gF w' 213 56 = gF w 213 56) (h2 : ∀ j, gX w' 240 j = gX w 240 j) (n : NI w) : NI w' := by
  intro i hi
  rw [h1] at hi
  have := n i hi
  unfold ndG at this ⊢
  rw [h2, h2, h2]
  exact this
theorem ni_fr {D : List (Nat × Nat)} {w w' : sW} (hw : wOk ZZ w) (h : hO D w w') (h1 : mIn D 61 56 = false) (h2 : mIn D 88 999 = false) (n : NI w) : NI w' := ni_eq (fr_gF (t := 61) h.2 rfl h1 hw (by decide +kernel)) (fun j => fr_gX (t := 88) h.2 rfl h2 hw (by decide +kernel) j) n
theorem ff_fr {D : List (Nat × Nat)} {w w' : sW} (hw : wOk ZZ w) (h : hO D w w') (h1 : mIn D 61 56 = false) (h2 : mIn D 61 57 = false) (h3 : mIn D 61 58 = false) : gF w' 213 56 = gF w 213 56 ∧ gF w' 213 57 = gF w 213 57 ∧ gF w' 213 58 = gF w 213 58 := ⟨fr_gF (t := 61) h.2 rfl h1 hw (by decide +kernel), fr_gF (t := 61) h.2 rfl h2 hw (by decide +kernel), fr_gF (t := 61) h.2 rfl h3 hw (by decide +kernel)⟩
def dH_rs : List (Nat × Nat) := dH_re ++ dH_so ++ [(61, 57), (61, 58), (61, 59)] ++ dX12_readWhom ++ dX12_readNumber
theorem dH_rs1 : msub dH_re dH_rs = true := by decide +kernel
theorem dH_rs2 : msub dH_so dH_rs = true := by decide +kernel
theorem dH_rs3 : msub dX12_readWhom dH_rs = true := by decide +kernel
theorem dH_rs4 : msub dX12_readNumber dH_rs = true := by decide +kernel
theorem dH_rs5 : msub dH_go dH_rs = true := by decide +kernel
theorem dH_rs6 : msub dH_bad dH_rs = true := by decide +kernel
theorem s_says {kn : sKn} {w : sW} (hw : wOk ZZ w) (n : NI w) (k x y z : Int) (hk : R32 k) (hx : R32 x) (hy : R32 y) (hz : R32 z) (h40 : gF w 213 56 ≤ 40) (c1 : k = 1 → 0 ≤ x ∧ x < gF w 213 56) (c2 : k = 2 ∨ k = 3 → (0 ≤ x ∧ x < gF w 213 56) ∧ (0 ≤ y ∧ y < gF w 213 56)) (c3 : 70 ≤ k ∧ k ≤ 72 → 0 ≤ x ∧ x ≤ 11) : ∃ w', fX12_saysOne kn [.ref 213, hI k, hI x, hI y, hI z] w = some (some (hI (gF w 213 56)), w', 0, 0) ∧ hO dH_rs w w' ∧ NI w' ∧ gF w' 213 56 = gF w 213 56 + 1 ∧ (∀ kf, kf ≠ 56 → gF w' 213 kf = gF w 213 kf) := by
  obtain ⟨_, _, _, _, _, _, _, a1, a2⟩ := fI_ok (hO_rf (D := []) hw) fi_56
  obtain ⟨m, hm⟩ : ∃ m : Nat, gF w 213 56 = (m : Int) := ⟨(gF w 213 56).toNat, by omega⟩
  obtain ⟨w', h1, h2, h3, h4, h5, h6, h7, h8⟩ := s_saysOne (kn := kn) hw k x y z hk hx hy hz m hm (by omega)
  rw [hm] at c1 c2 ⊢
  refine ⟨w', h1, hO_mono dH_rs2 h2, fun i hi => ?_, h3, h4⟩
  rw [h3] at hi
  by_cases e : i = m
  · subst e
    unfold ndG
    rw [Nat.zero_add, h6, h7, h8]
    exact ⟨c1, c2, c3⟩
  · have := n i (by omega)
    unfold ndG at this ⊢
    rw [Nat.zero_add] at this ⊢
    rw [h5 _ (by omega), h5 _ (by omega), h5 _ (by omega)]
    exact this
def rsG (e : Int) (w w' : sW) : Prop := NI w' ∧ 2 * gF w 213 57 - gF w 213 56 + e ≤ 2 * gF w' 213 57 - gF w' 213 56 ∧ gF w 213 56 ≤ gF w' 213 56 ∧ gF w' 213 59 < gF w' 213 56
def rsQ (e : Int) (w : sW) (r : sR) : Prop := ∃ (w' : sW) (b : Int), r = (some (hI b), w', 0, 0) ∧ hO dH_rs w w' ∧ gF w' 213 58 = gF w 213 58 ∧ (b = 0 ∨ b = 1) ∧ (b = 1 → rsG e w w')
def rsR (e : Int) (f : List Value → sW → Option sR) (args : List Value) (w : sW) : Prop := ∃ r, f args w = some r ∧ rsQ e w r
/-- what a reader wants -/
def rsI (w : sW) : Prop := wOk ZZ w ∧ NI w ∧ gF w 213 56 ≤ 2 * gF w 213 57
theorem s_readOf {kn : sKn} {w : sW} (hI0 : rsI w) (x : Int) (hx : 20 ≤ x ∧ x ≤ 22) : rsR (-1) (fX12_readOf kn) [.ref 213, hI x] w := by
  obtain ⟨hw, nn, hp⟩ := hI0
  obtain ⟨_, _, _, _, _, _, _, a7, b7⟩ := fI_ok (hO_rf (D := []) hw) fi_57
  obtain ⟨_, _, _, _, _, _, _, a6, b6⟩ := fI_ok (hO_rf (D := []) hw) fi_56
  obtain ⟨_, _, _, _, _, _, _, a8, b8⟩ := fI_ok (hO_rf (D := []) hw) fi_58
  have K : Tp (tX12_readOf kn) (rsQ (-1) w) 0 (lv_args 0 [.ref 213, hI x], [], w, 0, 0) := by
    have l0 : hL (lv_args 0 [.ref 213, hI x]) (lv_args 0 [.ref 213, hI x]) := hL_ex rfl
    have o0 : hO dH_rs w w := hO_rf hw
    refine h_aload rfl l0 rfl ?_
    refine h_iload rfl l0 rfl ?_
    obtain ⟨wA, bA, hf1, oA', hbA, hqA⟩ := s_readWhom (kn := kn) o0.1 x ⟨by omega, by omega⟩
    have oA : hO dH_rs w wA := hO_tr o0 (hO_mono dH_rs3 oA')
    have nA := ni_fr o0.1 oA' (by decide +kernel) (by decide +kernel) nn
    obtain ⟨fA6, fA7, fA8⟩ := ff_fr o0.1 oA' (by decide +kernel) (by decide +kernel) (by decide +kernel)
    refine h_V2 rfl o0 l0 ci_213 rfl rfl hf1 ?_
    refine j_ne (kn := kn) (t := 1) (tgt := 10) (np := 8) rfl (by unfold R32; omega) (fun e2 => ?_) (fun e2 => ?_)
    · refine h_aload rfl l0 rfl ?_
      refine h_aload rfl l0 rfl ?_
      refine h_intv k_50 rfl ?_
      refine h_iload rfl l0 rfl ?_
      refine h_iadd rfl ?_
      refine h_aload rfl l0 rfl ?_
      refine h_getI rfl oA fi_13 (fun b3a b3b => ?_)
      refine h_intv k_0 rfl ?_
      refine h_intv k_0 rfl ?_
      have hA := hqA (by omega)
      obtain ⟨wB, hf4, oB', nB, gB, hB⟩ := s_says (kn := kn) oA.1 nA (50 + x) (gF wA 213 13) 0 0 ⟨by omega, by omega⟩ ⟨by omega, by omega⟩ ⟨by omega, by omega⟩ ⟨by omega, by omega⟩ (by omega) (fun z => by omega) (fun z => by omega) (fun _ => hA)
      have oB : hO dH_rs w wB := hO_tr oA oB'
      have hB7 := hB 57 (by decide)
      have hB8 := hB 58 (by decide)
      have hB9 := hB 59 (by decide)
      refine h_V5 rfl oA l0 ci_213 rfl rfl hf4 ?_
      refine h_putI rfl oB fi_59 rfl (by omega) (by omega) (fun w5 o5 q6a q6b q6c => ?_)
      refine h_intv k_1 rfl ?_
      refine h_zret (by omega) rfl ?_
      exact ⟨_, _, rfl, o5, by rw [q6b 213 58 (fun _ => by decide)]; omega, Or.inr rfl, fun _ => ⟨ni_eq (q6b 213 56 (fun _ => by decide)) (fun j => q6c 240 j) nB, by rw [q6b 213 57 (fun _ => by decide), q6b 213 56 (fun _ => by decide)]; omega, by rw [q6b 213 56 (fun _ => by decide)]; omega, by rw [q6a, q6b 213 56 (fun _ => by decide)]; omega⟩⟩
    · refine h_intv k_0 rfl ?_
      refine h_zret (by omega) rfl ?_
      exact ⟨_, _, rfl, oA, by omega, Or.inl rfl, fun z => by omega⟩
  exact h_meth1 (nL := 2) rfl K
theorem s_readCompare {kn : sKn} {w : sW} (hI0 : rsI w) (x : Int) (hx : 23 ≤ x ∧ x ≤ 26) : rsR (-1) (fX12_readCompare kn) [.ref 213, hI x] w := by
  obtain ⟨hw, nn, hp⟩ := hI0
  obtain ⟨_, _, _, _, _, _, _, a7, b7⟩ := fI_ok (hO_rf (D := []) hw) fi_57
  obtain ⟨_, _, _, _, _, _, _, a6, b6⟩ := fI_ok (hO_rf (D := []) hw) fi_56
  obtain ⟨_, _, _, _, _, _, _, a8, b8⟩ := fI_ok (hO_rf (D := []) hw) fi_58
  have K : Tp (tX12_readCompare kn) (rsQ (-1) w) 0 (lv_args 0 [.ref 213, hI x], [], w, 0, 0) := by
    have l0 : hL (lv_args 0 [.ref 213, hI x]) (lv_args 0 [.ref 213, hI x]) := hL_ex rfl
    have o0 : hO dH_rs w w := hO_rf hw
    refine h_aload rfl l0 rfl ?_
    refine h_intv k_60 rfl ?_
    obtain ⟨z1, hf1, hz1, hq1⟩ := s_isSign (kn := kn) o0.1 60 ⟨by omega, by omega⟩
    refine h_V2 rfl o0 l0 ci_213 rfl rfl hf1 ?_
    refine j_ne (kn := kn) (t := 1) (tgt := 33) (np := 9) rfl (by unfold R32; omega) (fun e2 => ?_) (fun e2 => ?_)
    · refine h_aload rfl l0 rfl ?_
      refine h_getI rfl o0 fi_9 (fun b3a b3b => ?_)
      refine h_istore rfl l0 (fun vl4 l4 => ?_)
      refine h_aload rfl l4 rfl ?_
      obtain ⟨wA, hf5, oA', hrA⟩ := s_go (kn := kn) o0.1
      have oA : hO dH_rs w wA := hO_tr o0 (hO_mono dH_rs5 oA')
      have nA := ni_fr o0.1 oA' (by decide +kernel) (by decide +kernel) nn
      obtain ⟨fA6, fA7, fA8⟩ := ff_fr o0.1 oA' (by decide +kernel) (by decide +kernel) (by decide +kernel)
      refine h_W1 rfl o0 l4 ci_213 rfl rfl hf5 ?_
      refine h_aload rfl l4 rfl ?_
      refine h_intv k_0 rfl ?_
      refine h_intv k_999 rfl ?_
      obtain ⟨wC, bC, hf6, oC', hbC⟩ := s_readNumS (kn := kn) oA.1
      have oC : hO dH_rs w wC := hO_tr oA (hO_mono dH_rs4 oC')
      have nC := ni_fr oA.1 oC' (by decide +kernel) (by decide +kernel) nA
      obtain ⟨fC6, fC7, fC8⟩ := ff_fr oA.1 oC' (by decide +kernel) (by decide +kernel) (by decide +kernel)
      refine h_V3 rfl oA l4 ci_213 rfl rfl hf6 ?_
      refine j_ne (kn := kn) (t := 1) (tgt := 55) (np := 53) rfl (by unfold R32; omega) (fun e7 => ?_) (fun e7 => ?_)
      · refine h_aload rfl l4 rfl ?_
        refine h_aload rfl l4 rfl ?_
        refine h_intv k_50 rfl ?_
        refine h_iload rfl l4 rfl ?_
        refine h_iadd rfl ?_
        refine h_intv k_0 rfl ?_
        refine h_aload rfl l4 rfl ?_
        refine h_getI rfl oC fi_13 (fun b8a b8b => ?_)
        refine h_iload rfl l4 rfl ?_
        obtain ⟨wB, hf9, oB', nB, gB, hB⟩ := s_says (kn := kn) oC.1 nC (50 + x) 0 (gF wC 213 13) (gF w 213 9) ⟨by omega, by omega⟩ ⟨by omega, by omega⟩ ⟨by omega, by omega⟩ ⟨by omega, by omega⟩ (by omega) (fun z => by omega) (fun z => by omega) (fun z => by omega)
        have oB : hO dH_rs w wB := hO_tr oC oB'
        have hB7 := hB 57 (by decide)
        have hB8 := hB 58 (by decide)
        have hB9 := hB 59 (by decide)
        refine h_V5 rfl oC l4 ci_213 rfl rfl hf9 ?_
        refine h_putI rfl oB fi_59 rfl (by omega) (by omega) (fun w10 o10 q11a q11b q11c => ?_)
        refine h_intv k_1 rfl ?_
        refine h_zret (by omega) rfl ?_
        exact ⟨_, _, rfl, o10, by rw [q11b 213 58 (fun _ => by decide)]; omega, Or.inr rfl, fun _ => ⟨ni_eq (q11b 213 56 (fun _ => by decide)) (fun j => q11c 240 j) nB, by rw [q11b 213 57 (fun _ => by decide), q11b 213 56 (fun _ => by decide)]; omega, by rw [q11b 213 56 (fun _ => by decide)]; omega, by rw [q11a, q11b 213 56 (fun _ => by decide)]; omega⟩⟩
      · refine h_intv k_0 rfl ?_
        refine h_zret (by omega) rfl ?_
        exact ⟨_, _, rfl, oC, by omega, Or.inl rfl, fun z => by omega⟩
    · refine h_aload rfl l0 rfl ?_
      refine h_intv k_61 rfl ?_
      obtain ⟨z12, hf12, hz12, hq12⟩ := s_isSign (kn := kn) o0.1 61 ⟨by omega, by omega⟩
      refine h_V2 rfl o0 l0 ci_213 rfl rfl hf12 ?_
      refine j_ne (kn := kn) (t := 1) (tgt := 33) (np := 18) rfl (by unfold R32; omega) (fun e13 => ?_) (fun e13 => ?_)
      · refine h_aload rfl l0 rfl ?_
        refine h_getI rfl o0 fi_9 (fun b14a b14b => ?_)
        refine h_istore rfl l0 (fun vl15 l15 => ?_)
        refine h_aload rfl l15 rfl ?_
        obtain ⟨wA, hf16, oA', hrA⟩ := s_go (kn := kn) o0.1
        have oA : hO dH_rs w wA := hO_tr o0 (hO_mono dH_rs5 oA')
        have nA := ni_fr o0.1 oA' (by decide +kernel) (by decide +kernel) nn
        obtain ⟨fA6, fA7, fA8⟩ := ff_fr o0.1 oA' (by decide +kernel) (by decide +kernel) (by decide +kernel)
        refine h_W1 rfl o0 l15 ci_213 rfl rfl hf16 ?_
        refine h_aload rfl l15 rfl ?_
        refine h_intv k_0 rfl ?_
        refine h_intv k_999 rfl ?_
        obtain ⟨wC, bC, hf17, oC', hbC⟩ := s_readNumS (kn := kn) oA.1
        have oC : hO dH_rs w wC := hO_tr oA (hO_mono dH_rs4 oC')
        have nC := ni_fr oA.1 oC' (by decide +kernel) (by decide +kernel) nA
        obtain ⟨fC6, fC7, fC8⟩ := ff_fr oA.1 oC' (by decide +kernel) (by decide +kernel) (by decide +kernel)
        refine h_V3 rfl oA l15 ci_213 rfl rfl hf17 ?_
        refine j_ne (kn := kn) (t := 1) (tgt := 55) (np := 53) rfl (by unfold R32; omega) (fun e18 => ?_) (fun e18 => ?_)
        · refine h_aload rfl l15 rfl ?_
          refine h_aload rfl l15 rfl ?_
          refine h_intv k_50 rfl ?_
          refine h_iload rfl l15 rfl ?_
          refine h_iadd rfl ?_
          refine h_intv k_0 rfl ?_
          refine h_aload rfl l15 rfl ?_
          refine h_getI rfl oC fi_13 (fun b19a b19b => ?_)
          refine h_iload rfl l15 rfl ?_
          obtain ⟨wB, hf20, oB', nB, gB, hB⟩ := s_says (kn := kn) oC.1 nC (50 + x) 0 (gF wC 213 13) (gF w 213 9) ⟨by omega, by omega⟩ ⟨by omega, by omega⟩ ⟨by omega, by omega⟩ ⟨by omega, by omega⟩ (by omega) (fun z => by omega) (fun z => by omega) (fun z => by omega)
          have oB : hO dH_rs w wB := hO_tr oC oB'
          have hB7 := hB 57 (by decide)
          have hB8 := hB 58 (by decide)
          have hB9 := hB 59 (by decide)
          refine h_V5 rfl oC l15 ci_213 rfl rfl hf20 ?_
          refine h_putI rfl oB fi_59 rfl (by omega) (by omega) (fun w21 o21 q22a q22b q22c => ?_)
          refine h_intv k_1 rfl ?_
          refine h_zret (by omega) rfl ?_
          exact ⟨_, _, rfl, o21, by rw [q22b 213 58 (fun _ => by decide)]; omega, Or.inr rfl, fun _ => ⟨ni_eq (q22b 213 56 (fun _ => by decide)) (fun j => q22c 240 j) nB, by rw [q22b 213 57 (fun _ => by decide), q22b 213 56 (fun _ => by decide)]; omega, by rw [q22b 213 56 (fun _ => by decide)]; omega, by rw [q22a, q22b 213 56 (fun _ => by decide)]; omega⟩⟩
        · refine h_intv k_0 rfl ?_
          refine h_zret (by omega) rfl ?_
          exact ⟨_, _, rfl, oC, by omega, Or.inl rfl, fun z => by omega⟩
      · refine h_aload rfl l0 rfl ?_
        refine h_intv k_62 rfl ?_
        obtain ⟨z23, hf23, hz23, hq23⟩ := s_isSign (kn := kn) o0.1 62 ⟨by omega, by omega⟩
        refine h_V2 rfl o0 l0 ci_213 rfl rfl hf23 ?_
        refine j_ne (kn := kn) (t := 1) (tgt := 33) (np := 27) rfl (by unfold R32; omega) (fun e24 => ?_) (fun e24 => ?_)
        · refine h_aload rfl l0 rfl ?_
          refine h_getI rfl o0 fi_9 (fun b25a b25b => ?_)
          refine h_istore rfl l0 (fun vl26 l26 => ?_)
          refine h_aload rfl l26 rfl ?_
          obtain ⟨wA, hf27, oA', hrA⟩ := s_go (kn := kn) o0.1
          have oA : hO dH_rs w wA := hO_tr o0 (hO_mono dH_rs5 oA')
          have nA := ni_fr o0.1 oA' (by decide +kernel) (by decide +kernel) nn
          obtain ⟨fA6, fA7, fA8⟩ := ff_fr o0.1 oA' (by decide +kernel) (by decide +kernel) (by decide +kernel)
          refine h_W1 rfl o0 l26 ci_213 rfl rfl hf27 ?_
          refine h_aload rfl l26 rfl ?_
          refine h_intv k_0 rfl ?_
          refine h_intv k_999 rfl ?_
          obtain ⟨wC, bC, hf28, oC', hbC⟩ := s_readNumS (kn := kn) oA.1
          have oC : hO dH_rs w wC := hO_tr oA (hO_mono dH_rs4 oC')
          have nC := ni_fr oA.1 oC' (by decide +kernel) (by decide +kernel) nA
          obtain ⟨fC6, fC7, fC8⟩ := ff_fr oA.1 oC' (by decide +kernel) (by decide +kernel) (by decide +kernel)
          refine h_V3 rfl oA l26 ci_213 rfl rfl hf28 ?_
          refine j_ne (kn := kn) (t := 1) (tgt := 55) (np := 53) rfl (by unfold R32; omega) (fun e29 => ?_) (fun e29 => ?_)
          · refine h_aload rfl l26 rfl ?_
            refine h_aload rfl l26 rfl ?_
            refine h_intv k_50 rfl ?_
            refine h_iload rfl l26 rfl ?_
            refine h_iadd rfl ?_
            refine h_intv k_0 rfl ?_
            refine h_aload rfl l26 rfl ?_
            refine h_getI rfl oC fi_13 (fun b30a b30b => ?_)
            refine h_iload rfl l26 rfl ?_
            obtain ⟨wB, hf31, oB', nB, gB, hB⟩ := s_says (kn := kn) oC.1 nC (50 + x) 0 (gF wC 213 13) (gF w 213 9) ⟨by omega, by omega⟩ ⟨by omega, by omega⟩ ⟨by omega, by omega⟩ ⟨by omega, by omega⟩ (by omega) (fun z => by omega) (fun z => by omega) (fun z => by omega)
            have oB : hO dH_rs w wB := hO_tr oC oB'
            have hB7 := hB 57 (by decide)
            have hB8 := hB 58 (by decide)
            have hB9 := hB 59 (by decide)
            refine h_V5 rfl oC l26 ci_213 rfl rfl hf31 ?_
            refine h_putI rfl oB fi_59 rfl (by omega) (by omega) (fun w32 o32 q33a q33b q33c => ?_)
            refine h_intv k_1 rfl ?_
            refine h_zret (by omega) rfl ?_
            exact ⟨_, _, rfl, o32, by rw [q33b 213 58 (fun _ => by decide)]; omega, Or.inr rfl, fun _ => ⟨ni_eq (q33b 213 56 (fun _ => by decide)) (fun j => q33c 240 j) nB, by rw [q33b 213 57 (fun _ => by decide), q33b 213 56 (fun _ => by decide)]; omega, by rw [q33b 213 56 (fun _ => by decide)]; omega, by rw [q33a, q33b 213 56 (fun _ => by decide)]; omega⟩⟩
          · refine h_intv k_0 rfl ?_
            refine h_zret (by omega) rfl ?_
            exact ⟨_, _, rfl, oC, by omega, Or.inl rfl, fun z => by omega⟩
        · refine h_aload rfl l0 rfl ?_
          refine h_intv k_1 rfl ?_
          obtain ⟨wA, hf34, oA'⟩ := s_bad (kn := kn) o0.1 1 ⟨by omega, by omega⟩
          have oA : hO dH_rs w wA := hO_tr o0 (hO_mono dH_rs6 oA')
          obtain ⟨fA6, fA7, fA8⟩ := ff_fr o0.1 oA' (by decide +kernel) (by decide +kernel) (by decide +kernel)
          refine h_V2 rfl o0 l0 ci_213 rfl rfl hf34 ?_
          refine h_zret (by omega) rfl ?_
          exact ⟨_, _, rfl, oA, by omega, Or.inl rfl, fun z => by omega⟩
  exact h_meth1 (nL := 3) rfl K
def rsH (g : List Value → sW → Option sR) (d : Nat) : Prop := ∀ w : sW, rsI w → 9 ≤ gF w 213 58 + (d : Int) → rsR 1 g [.ref 213] w
def raG (w w1 : sW) (p : Int) : Prop := NI w1 ∧ 2 * gF w 213 57 - gF w 213 56 + 1 ≤ 2 * gF w1 213 57 - gF w1 213 56 ∧ gF w 213 56 ≤ gF w1 213 56 ∧ 0 ≤ p ∧ p < gF w1 213 56
theorem rs_up {e : Int} {w wA w1 : sW} (h : rsG e wA w1) (h6 : gF wA 213 56 = gF w 213 56) (h7 : gF wA 213 57 = gF w 213 57 + 1) (he : -1 ≤ e) : rsG 1 w w1 := by
  obtain ⟨a, b, c, d⟩ := h
  exact ⟨a, by omega, by omega, d⟩
theorem rho_l2 {D : List (Nat × Nat)} {w0 w : sW} (o0 : hO D w0 w) : -940 ≤ rhoV w ∧ rhoV w ≤ 941 := rho_lo o0
theorem rho_2 {w : sW} (h : gF w 213 7 = 2) : rhoV w = gF w 213 3 - gF w 213 5 + 1 := by
  unfold rhoV
  rw [h, if_pos (by omega)]
theorem rho_4 {w : sW} (h : gF w 213 7 = 4) : rhoV w = gF w 213 3 - gF w 213 5 + 1 := by
  unfold rhoV
  rw [h, if_pos (by omega)]
theorem s_readNot_g {kn : sKn} {g : List Value → sW → Option sR} {d : Nat} (hg : rsH g d) {w : sW} (hI0 : rsI w) (hd : 9 ≤ gF w 213 58 + (d : Int)) : rsR (0) (fX12_readNot_g kn g) [.ref 213] w := by
  obtain ⟨hw, nn, hp⟩ := hI0
  obtain ⟨_, _, _, _, _, _, _, a7, b7⟩ := fI_ok (hO_rf (D := []) hw) fi_57
  obtain ⟨_, _, _, _, _, _, _, a6, b6⟩ := fI_ok (hO_rf (D := []) hw) fi_56
  obtain ⟨_, _, _, _, _, _, _, a8, b8⟩ := fI_ok (hO_rf (D := []) hw) fi_58
  have K : Tp (tX12_readNot_g kn g) (rsQ (0) w) 0 (lv_args 0 [.ref 213], [], w, 0, 0) := by
    have l0 : hL (lv_args 0 [.ref 213]) (lv_args 0 [.ref 213]) := hL_ex rfl
    have o0 : hO dH_rs w w := hO_rf hw
    refine h_aload rfl l0 rfl ?_
    obtain ⟨_, hf1, wA, bA, rfl, oA', fA8, hbA, hqA⟩ := hg w ⟨hw, nn, hp⟩ hd
    have oA : hO dH_rs w wA := hO_tr o0 oA'
    refine h_V1 rfl o0 l0 ci_213 rfl rfl hf1 ?_
    refine j_ne (kn := kn) (t := 1) (tgt := 9) (np := 7) rfl (by unfold R32; omega) (fun e2 => ?_) (fun e2 => ?_)
    · refine h_aload rfl l0 rfl ?_
      refine h_aload rfl l0 rfl ?_
      refine h_intv k_1 rfl ?_
      refine h_aload rfl l0 rfl ?_
      refine h_getI rfl oA fi_59 (fun b3a b3b => ?_)
      refine h_intv k_0 rfl ?_
      refine h_intv k_0 rfl ?_
      obtain ⟨nA, pA, mA, kA⟩ := hqA (by omega)
      obtain ⟨_, _, _, _, _, _, _, cA7, dA7⟩ := fI_ok oA fi_57
      obtain ⟨wB, hf4, oB', nB, gB, hB⟩ := s_says (kn := kn) oA.1 nA 1 (gF wA 213 59) 0 0 ⟨by omega, by omega⟩ ⟨by omega, by omega⟩ ⟨by omega, by omega⟩ ⟨by omega, by omega⟩ (by omega) (fun _ => by omega) (fun z => by omega) (fun z => by omega)
      have oB : hO dH_rs w wB := hO_tr oA oB'
      have hB7 := hB 57 (by decide)
      have hB8 := hB 58 (by decide)
      have hB9 := hB 59 (by decide)
      refine h_V5 rfl oA l0 ci_213 rfl rfl hf4 ?_
      refine h_putI rfl oB fi_59 rfl (by omega) (by omega) (fun w5 o5 q6a q6b q6c => ?_)
      refine h_intv k_1 rfl ?_
      refine h_zret (by omega) rfl ?_
      exact ⟨_, _, rfl, o5, by rw [q6b 213 58 (fun _ => by decide)]; omega, Or.inr rfl, fun _ => ⟨ni_eq (q6b 213 56 (fun _ => by decide)) (fun j => q6c 240 j) nB, by rw [q6b 213 57 (fun _ => by decide), q6b 213 56 (fun _ => by decide)]; omega, by rw [q6b 213 56 (fun _ => by decide)]; omega, by rw [q6a, q6b 213 56 (fun _ => by decide)]; omega⟩⟩
    · refine h_intv k_0 rfl ?_
      refine h_zret (by omega) rfl ?_
      exact ⟨_, _, rfl, oA, by omega, Or.inl rfl, fun z => by omega⟩
  exact h_meth1 (nL := 1) rfl K
theorem s_readAnd_g_l {kn : sKn} {g : List Value → sW → Option sR} {d : Nat} (hg : rsH g d) {w : sW} (hI0 : rsI w) (hd : 9 ≤ gF w 213 58 + (d : Int)) : ∀ (m : Nat) (w1 : sW) (lv : List (Nat × Value)) (p : Int), rhoV w1 + 2000 ≤ (m : Int) → hO dH_rs w w1 → gF w1 213 58 = gF w 213 58 → raG w w1 p → hL lv [(0, .ref 213), (1, hI p)] → Tp (tX12_readAnd_g kn g) (rsQ 1 w) 14 (lv, [], w1, 0, 0) := by
  obtain ⟨hw, nn, hp⟩ := hI0
  intro m
  induction m with
  | zero =>
    intro w1 lv p hm o0
    have := rho_lo o0
    omega
  | succ m ih =>
    intro w1 lv p hm o0 h8 hG l0
    obtain ⟨n1, p1, m1, x1, x2⟩ := hG
    obtain ⟨_, _, _, _, _, _, _, a7, b7⟩ := fI_ok o0 fi_57
    obtain ⟨_, _, _, _, _, _, _, a6, b6⟩ := fI_ok o0 fi_56
    refine h_aload rfl l0 rfl ?_
    refine h_intv k_16 rfl ?_
    obtain ⟨z1, hf1, hz1, hq1⟩ := s_isWord (kn := kn) o0.1 16 ⟨by omega, by omega⟩
    refine h_V2 rfl o0 l0 ci_213 rfl rfl hf1 ?_
    refine j_eq (kn := kn) (t := 0) (tgt := 51) (np := 23) rfl (by unfold R32; omega) (fun e2 => ?_) (fun e2 => ?_)
    · refine h_aload rfl l0 rfl ?_
      refine h_iload rfl l0 rfl ?_
      refine h_putI rfl o0 fi_59 rfl (by omega) (by omega) (fun w3 o3 q4a q4b q4c => ?_)
      refine h_intv k_1 rfl ?_
      refine h_zret (by omega) rfl ?_
      exact ⟨_, _, rfl, o3, by rw [q4b 213 58 (fun _ => by decide)]; omega, Or.inr rfl, fun _ => ⟨ni_eq (q4b 213 56 (fun _ => by decide)) (fun j => q4c 240 j) n1, by rw [q4b 213 57 (fun _ => by decide), q4b 213 56 (fun _ => by decide)]; omega, by rw [q4b 213 56 (fun _ => by decide)]; omega, by rw [q4a, q4b 213 56 (fun _ => by decide)]; omega⟩⟩
    · refine h_aload rfl l0 rfl ?_
      obtain ⟨wA, hf5, oA', hrA⟩ := s_go (kn := kn) o0.1
      have oA : hO dH_rs w wA := hO_tr o0 (hO_mono dH_rs5 oA')
      have r2 := rho_2 (hq1 (by omega))
      have nA := ni_fr o0.1 oA' (by decide +kernel) (by decide +kernel) n1
      obtain ⟨fA6, fA7, fA8⟩ := ff_fr o0.1 oA' (by decide +kernel) (by decide +kernel) (by decide +kernel)
      refine h_W1 rfl o0 l0 ci_213 rfl rfl hf5 ?_
      refine h_aload rfl l0 rfl ?_
      obtain ⟨_, hf6, wC, bC, rfl, oC', fC8, hbC, hqC⟩ := hg wA ⟨oA.1, nA, by omega⟩ (by omega)
      have oC : hO dH_rs w wC := hO_tr oA oC'
      have jC := (jW_of oC' (by decide +kernel)).2.2
      refine h_V1 rfl oA l0 ci_213 rfl rfl hf6 ?_
      refine j_ne (kn := kn) (t := 1) (tgt := 36) (np := 34) rfl (by unfold R32; omega) (fun e7 => ?_) (fun e7 => ?_)
      · refine h_aload rfl l0 rfl ?_
        refine h_intv k_2 rfl ?_
        refine h_iload rfl l0 rfl ?_
        refine h_aload rfl l0 rfl ?_
        refine h_getI rfl oC fi_59 (fun b8a b8b => ?_)
        refine h_intv k_0 rfl ?_
        obtain ⟨nC, pC, mC, kC⟩ := hqC (by omega)
        obtain ⟨_, _, _, _, _, _, _, cC7, dC7⟩ := fI_ok oC fi_57
        obtain ⟨wB, hf9, oB', nB, gB, hB⟩ := s_says (kn := kn) oC.1 nC 2 p (gF wC 213 59) 0 ⟨by omega, by omega⟩ ⟨by omega, by omega⟩ ⟨by omega, by omega⟩ ⟨by omega, by omega⟩ (by omega) (fun z => by omega) (fun _ => by omega) (fun z => by omega)
        have oB : hO dH_rs w wB := hO_tr oC oB'
        have hB7 := hB 57 (by decide)
        have hB8 := hB 58 (by decide)
        have hB9 := hB 59 (by decide)
        have jB := (jW_of oB' (by decide +kernel)).2.2
        refine h_V5 rfl oC l0 ci_213 rfl rfl hf9 ?_
        refine h_istore rfl l0 (fun vl10 l10 => ?_)
        refine h_goto rfl ?_
        exact ih wB _ _ (by omega) oB (by omega) ⟨nB, by omega, by omega, by omega, by omega⟩ l10
      · refine h_intv k_0 rfl ?_
        refine h_zret (by omega) rfl ?_
        exact ⟨_, _, rfl, oC, by omega, Or.inl rfl, fun z => by omega⟩
theorem s_readAnd_g {kn : sKn} {g : List Value → sW → Option sR} {d : Nat} (hg : rsH g d) {w : sW} (hI0 : rsI w) (hd : 9 ≤ gF w 213 58 + (d : Int)) : rsR (1) (fX12_readAnd_g kn g) [.ref 213] w := by
  obtain ⟨hw, nn, hp⟩ := hI0
  obtain ⟨_, _, _, _, _, _, _, a7, b7⟩ := fI_ok (hO_rf (D := []) hw) fi_57
  obtain ⟨_, _, _, _, _, _, _, a6, b6⟩ := fI_ok (hO_rf (D := []) hw) fi_56
  obtain ⟨_, _, _, _, _, _, _, a8, b8⟩ := fI_ok (hO_rf (D := []) hw) fi_58
  have K : Tp (tX12_readAnd_g kn g) (rsQ (1) w) 0 (lv_args 0 [.ref 213], [], w, 0, 0) := by
    have l0 : hL (lv_args 0 [.ref 213]) (lv_args 0 [.ref 213]) := hL_ex rfl
    have o0 : hO dH_rs w w := hO_rf hw
    refine h_aload rfl l0 rfl ?_
    obtain ⟨_, hf1, wA, bA, rfl, oA', fA8, hbA, hqA⟩ := hg w ⟨hw, nn, hp⟩ hd
    have oA : hO dH_rs w wA := hO_tr o0 oA'
    refine h_V1 rfl o0 l0 ci_213 rfl rfl hf1 ?_
    refine j_ne (kn := kn) (t := 1) (tgt := 9) (np := 7) rfl (by unfold R32; omega) (fun e2 => ?_) (fun e2 => ?_)
    · refine h_aload rfl l0 rfl ?_
      refine h_getI rfl oA fi_59 (fun b3a b3b => ?_)
      refine h_istore rfl l0 (fun vl4 l4 => ?_)
      have hA := hqA (by omega)
      obtain ⟨nA, pA, mA, kA⟩ := hA
      exact s_readAnd_g_l hg ⟨hw, nn, hp⟩ hd 2941 wA _ _ (by have := rho_lo oA; omega) oA fA8 ⟨nA, pA, mA, by omega, kA⟩ l4
    · refine h_intv k_0 rfl ?_
      refine h_zret (by omega) rfl ?_
      exact ⟨_, _, rfl, oA, by omega, Or.inl rfl, fun z => by omega⟩
  exact h_meth1 (nL := 2) rfl K
theorem s_readOr_g_l {kn : sKn} {g : List Value → sW → Option sR} {d : Nat} (hg : rsH g d) {w : sW} (hI0 : rsI w) (hd : 9 ≤ gF w 213 58 + (d : Int)) : ∀ (m : Nat) (w1 : sW) (lv : List (Nat × Value)) (p : Int), rhoV w1 + 2000 ≤ (m : Int) → hO dH_rs w w1 → gF w1 213 58 = gF w 213 58 → raG w w1 p → hL lv [(0, .ref 213), (1, hI p)] → Tp (tX12_readOr_g kn g) (rsQ 1 w) 14 (lv, [], w1, 0, 0) := by
  obtain ⟨hw, nn, hp⟩ := hI0
  intro m
  induction m with
  | zero =>
    intro w1 lv p hm o0
    have := rho_lo o0
    omega
  | succ m ih =>
    intro w1 lv p hm o0 h8 hG l0
    obtain ⟨n1, p1, m1, x1, x2⟩ := hG
    obtain ⟨_, _, _, _, _, _, _, a7, b7⟩ := fI_ok o0 fi_57
    obtain ⟨_, _, _, _, _, _, _, a6, b6⟩ := fI_ok o0 fi_56
    refine h_aload rfl l0 rfl ?_
    refine h_intv k_15 rfl ?_
    obtain ⟨z1, hf1, hz1, hq1⟩ := s_isWord (kn := kn) o0.1 15 ⟨by omega, by omega⟩
    refine h_V2 rfl o0 l0 ci_213 rfl rfl hf1 ?_
    refine j_eq (kn := kn) (t := 0) (tgt := 51) (np := 23) rfl (by unfold R32; omega) (fun e2 => ?_) (fun e2 => ?_)
    · refine h_aload rfl l0 rfl ?_
      refine h_iload rfl l0 rfl ?_
      refine h_putI rfl o0 fi_59 rfl (by omega) (by omega) (fun w3 o3 q4a q4b q4c => ?_)
      refine h_intv k_1 rfl ?_
      refine h_zret (by omega) rfl ?_
      exact ⟨_, _, rfl, o3, by rw [q4b 213 58 (fun _ => by decide)]; omega, Or.inr rfl, fun _ => ⟨ni_eq (q4b 213 56 (fun _ => by decide)) (fun j => q4c 240 j) n1, by rw [q4b 213 57 (fun _ => by decide), q4b 213 56 (fun _ => by decide)]; omega, by rw [q4b 213 56 (fun _ => by decide)]; omega, by rw [q4a, q4b 213 56 (fun _ => by decide)]; omega⟩⟩
    · refine h_aload rfl l0 rfl ?_
      obtain ⟨wA, hf5, oA', hrA⟩ := s_go (kn := kn) o0.1
      have oA : hO dH_rs w wA := hO_tr o0 (hO_mono dH_rs5 oA')
      have r2 := rho_2 (hq1 (by omega))
      have nA := ni_fr o0.1 oA' (by decide +kernel) (by decide +kernel) n1
      obtain ⟨fA6, fA7, fA8⟩ := ff_fr o0.1 oA' (by decide +kernel) (by decide +kernel) (by decide +kernel)
      refine h_W1 rfl o0 l0 ci_213 rfl rfl hf5 ?_
      refine h_aload rfl l0 rfl ?_
      obtain ⟨_, hf6, wC, bC, rfl, oC', fC8, hbC, hqC⟩ := s_readAnd_g (kn := kn) hg (w := wA) ⟨oA.1, nA, by omega⟩ (by omega)
      have oC : hO dH_rs w wC := hO_tr oA oC'
      have jC := (jW_of oC' (by decide +kernel)).2.2
      refine h_V1 rfl oA l0 ci_213 rfl rfl hf6 ?_
      refine j_ne (kn := kn) (t := 1) (tgt := 36) (np := 34) rfl (by unfold R32; omega) (fun e7 => ?_) (fun e7 => ?_)
      · refine h_aload rfl l0 rfl ?_
        refine h_intv k_3 rfl ?_
        refine h_iload rfl l0 rfl ?_
        refine h_aload rfl l0 rfl ?_
        refine h_getI rfl oC fi_59 (fun b8a b8b => ?_)
        refine h_intv k_0 rfl ?_
        obtain ⟨nC, pC, mC, kC⟩ := hqC (by omega)
        obtain ⟨_, _, _, _, _, _, _, cC7, dC7⟩ := fI_ok oC fi_57
        obtain ⟨wB, hf9, oB', nB, gB, hB⟩ := s_says (kn := kn) oC.1 nC 3 p (gF wC 213 59) 0 ⟨by omega, by omega⟩ ⟨by omega, by omega⟩ ⟨by omega, by omega⟩ ⟨by omega, by omega⟩ (by omega) (fun z => by omega) (fun _ => by omega) (fun z => by omega)
        have oB : hO dH_rs w wB := hO_tr oC oB'
        have hB7 := hB 57 (by decide)
        have hB8 := hB 58 (by decide)
        have hB9 := hB 59 (by decide)
        have jB := (jW_of oB' (by decide +kernel)).2.2
        refine h_V5 rfl oC l0 ci_213 rfl rfl hf9 ?_
        refine h_istore rfl l0 (fun vl10 l10 => ?_)
        refine h_goto rfl ?_
        exact ih wB _ _ (by omega) oB (by omega) ⟨nB, by omega, by omega, by omega, by omega⟩ l10
      · refine h_intv k_0 rfl ?_
        refine h_zret (by omega) rfl ?_
        exact ⟨_, _, rfl, oC, by omega, Or.inl rfl, fun z => by omega⟩
theorem s_readOr_g {kn : sKn} {g : List Value → sW → Option sR} {d : Nat} (hg : rsH g d) {w : sW} (hI0 : rsI w) (hd : 9 ≤ gF w 213 58 + (d : Int)) : rsR (1) (fX12_readOr_g kn g) [.ref 213] w := by
  obtain ⟨hw, nn, hp⟩ := hI0
  obtain ⟨_, _, _, _, _, _, _, a7, b7⟩ := fI_ok (hO_rf (D := []) hw) fi_57
  obtain ⟨_, _, _, _, _, _, _, a6, b6⟩ := fI_ok (hO_rf (D := []) hw) fi_56
  obtain ⟨_, _, _, _, _, _, _, a8, b8⟩ := fI_ok (hO_rf (D := []) hw) fi_58
  have K : Tp (tX12_readOr_g kn g) (rsQ (1) w) 0 (lv_args 0 [.ref 213], [], w, 0, 0) := by
    have l0 : hL (lv_args 0 [.ref 213]) (lv_args 0 [.ref 213]) := hL_ex rfl
    have o0 : hO dH_rs w w := hO_rf hw
    refine h_aload rfl l0 rfl ?_
    obtain ⟨_, hf1, wA, bA, rfl, oA', fA8, hbA, hqA⟩ := s_readAnd_g (kn := kn) hg ⟨hw, nn, hp⟩ hd
    have oA : hO dH_rs w wA := hO_tr o0 oA'
    refine h_V1 rfl o0 l0 ci_213 rfl rfl hf1 ?_
    refine j_ne (kn := kn) (t := 1) (tgt := 9) (np := 7) rfl (by unfold R32; omega) (fun e2 => ?_) (fun e2 => ?_)
    · refine h_aload rfl l0 rfl ?_
      refine h_getI rfl oA fi_59 (fun b3a b3b => ?_)
      refine h_istore rfl l0 (fun vl4 l4 => ?_)
      have hA := hqA (by omega)
      obtain ⟨nA, pA, mA, kA⟩ := hA
      exact s_readOr_g_l hg ⟨hw, nn, hp⟩ hd 2941 wA _ _ (by have := rho_lo oA; omega) oA fA8 ⟨nA, pA, mA, by omega, kA⟩ l4
    · refine h_intv k_0 rfl ?_
      refine h_zret (by omega) rfl ?_
      exact ⟨_, _, rfl, oA, by omega, Or.inl rfl, fun z => by omega⟩
  exact h_meth1 (nL := 2) rfl K
theorem s_readBracket_g {kn : sKn} {g : List Value → sW → Option sR} {d : Nat} (hg : rsH g d) {w : sW} (hI0 : rsI w) (hd : 9 ≤ gF w 213 58 + (d : Int)) : rsR (1) (fX12_readBracket_g kn g) [.ref 213] w := by
  obtain ⟨hw, nn, hp⟩ := hI0
  obtain ⟨_, _, _, _, _, _, _, a7, b7⟩ := fI_ok (hO_rf (D := []) hw) fi_57
  obtain ⟨_, _, _, _, _, _, _, a6, b6⟩ := fI_ok (hO_rf (D := []) hw) fi_56
  obtain ⟨_, _, _, _, _, _, _, a8, b8⟩ := fI_ok (hO_rf (D := []) hw) fi_58
  have K : Tp (tX12_readBracket_g kn g) (rsQ (1) w) 0 (lv_args 0 [.ref 213], [], w, 0, 0) := by
    have l0 : hL (lv_args 0 [.ref 213]) (lv_args 0 [.ref 213]) := hL_ex rfl
    have o0 : hO dH_rs w w := hO_rf hw
    refine h_aload rfl l0 rfl ?_
    obtain ⟨_, hf1, wA, bA, rfl, oA', fA8, hbA, hqA⟩ := s_readOr_g (kn := kn) hg ⟨hw, nn, hp⟩ hd
    have oA : hO dH_rs w wA := hO_tr o0 oA'
    refine h_V1 rfl o0 l0 ci_213 rfl rfl hf1 ?_
    refine j_ne (kn := kn) (t := 1) (tgt := 9) (np := 7) rfl (by unfold R32; omega) (fun e2 => ?_) (fun e2 => ?_)
    · refine h_aload rfl l0 rfl ?_
      refine h_intv k_41 rfl ?_
      obtain ⟨z3, hf3, hz3, hq3⟩ := s_isSign (kn := kn) oA.1 41 ⟨by omega, by omega⟩
      refine h_V2 rfl oA l0 ci_213 rfl rfl hf3 ?_
      refine j_ne (kn := kn) (t := 1) (tgt := 24) (np := 18) rfl (by unfold R32; omega) (fun e4 => ?_) (fun e4 => ?_)
      · refine h_aload rfl l0 rfl ?_
        obtain ⟨wC, hf5, oC', hrC⟩ := s_go (kn := kn) oA.1
        have oC : hO dH_rs w wC := hO_tr oA (hO_mono dH_rs5 oC')
        obtain ⟨nA, pA, mA, kA⟩ := hqA (by omega)
        have nC := ni_fr oA.1 oC' (by decide +kernel) (by decide +kernel) nA
        obtain ⟨fC6, fC7, fC8⟩ := ff_fr oA.1 oC' (by decide +kernel) (by decide +kernel) (by decide +kernel)
        have fC9 : gF wC 213 59 = gF wA 213 59 := fr_gF (t := 61) oC'.2 rfl (by decide +kernel) oA.1 (by decide +kernel)
        refine h_W1 rfl oA l0 ci_213 rfl rfl hf5 ?_
        refine h_intv k_1 rfl ?_
        refine h_zret (by omega) rfl ?_
        exact ⟨_, _, rfl, oC, by omega, Or.inr rfl, fun _ => ⟨nC, by omega, by omega, by omega⟩⟩
      · refine h_aload rfl l0 rfl ?_
        refine h_intv k_1 rfl ?_
        obtain ⟨wC, hf6, oC'⟩ := s_bad (kn := kn) oA.1 1 ⟨by omega, by omega⟩
        have oC : hO dH_rs w wC := hO_tr oA (hO_mono dH_rs6 oC')
        obtain ⟨fC6, fC7, fC8⟩ := ff_fr oA.1 oC' (by decide +kernel) (by decide +kernel) (by decide +kernel)
        refine h_V2 rfl oA l0 ci_213 rfl rfl hf6 ?_
        refine h_zret (by omega) rfl ?_
        exact ⟨_, _, rfl, oC, by omega, Or.inl rfl, fun z => by omega⟩
    · refine h_intv k_0 rfl ?_
      refine h_zret (by omega) rfl ?_
      exact ⟨_, _, rfl, oA, by omega, Or.inl rfl, fun z => by omega⟩
  exact h_meth1 (nL := 1) rfl K
theorem rs_166 {kn : sKn} {g : List Value → sW → Option sR} {w w1 : sW} {lv : List (Nat × Value)} {s i b : Int} (hw : wOk ZZ w) (o0 : hO dH_rs w w1) (h8 : gF w1 213 58 = gF w 213 58 + 1) (hb : b = 0 ∨ b = 1) (hG : b = 1 → rsG 1 w w1) (l0 : hL lv [(0, .ref 213), (1, hI s), (2, hI i), (3, hI b)]) : Tp (tX12_readSaid_g kn g) (rsQ 1 w) 166 (lv, [], w1, 0, 0) := by
  obtain ⟨_, _, _, _, _, _, _, a8, b8⟩ := fI_ok (hO_rf (D := []) hw) fi_58
  refine h_aload rfl l0 rfl ?_
  refine h_dup rfl rfl ?_
  refine h_getI rfl o0 fi_58 (fun b1a b1b => ?_)
  refine h_intv k_1 rfl ?_
  refine h_isub rfl ?_
  refine h_putI rfl o0 fi_58 rfl (by omega) (by omega) (fun w2 o2 q3a q3b q3c => ?_)
  refine h_iload rfl l0 rfl ?_
  refine h_zret (by omega) rfl ?_
  exact ⟨_, _, rfl, o2, by omega, hb, fun z => ⟨ni_eq (q3b 213 56 (fun _ => by decide)) (fun j => q3c 240 j) (hG z).1, by rw [q3b 213 57 (fun _ => by decide), q3b 213 56 (fun _ => by decide)]; exact (hG z).2.1, by rw [q3b 213 56 (fun _ => by decide)]; exact (hG z).2.2.1, by rw [q3b 213 59 (fun _ => by decide), q3b 213 56 (fun _ => by decide)]; exact (hG z).2.2.2⟩⟩
theorem rs_30 {kn : sKn} {g : List Value → sW → Option sR} {d : Nat} (hg : rsH g d) {w : sW} (hI0 : rsI w) (hd : 9 ≤ gF w 213 58 + ((d + 1 : Nat) : Int)) {lv : List (Nat × Value)} {s i : Int} (hs : s = 0 ∨ s = 1) (hi : 17 ≤ i ∧ i ≤ 27) (l0 : hL lv [(0, .ref 213), (1, hI s), (2, hI i)]) : Tp (tX12_readSaid_g kn g) (rsQ 1 w) 30 (lv, [], w, 0, 0) := by
  obtain ⟨hw, nn, hp⟩ := hI0
  have o0 : hO dH_rs w w := hO_rf hw
  obtain ⟨_, _, _, _, _, _, _, a7, b7⟩ := fI_ok (hO_rf (D := []) hw) fi_57
  obtain ⟨_, _, _, _, _, _, _, a6, b6⟩ := fI_ok (hO_rf (D := []) hw) fi_56
  obtain ⟨_, _, _, _, _, _, _, a8, b8⟩ := fI_ok (hO_rf (D := []) hw) fi_58
  refine h_iload rfl l0 rfl ?_
  refine j_ne (kn := kn) (t := 1) (tgt := 46) (np := 34) rfl (by unfold R32; omega) (fun e1 => ?_) (fun e1 => ?_)
  · refine h_aload rfl l0 rfl ?_
    refine h_getI rfl o0 fi_57 (fun b2a b2b => ?_)
    refine h_intv k_20 rfl ?_
    refine i_eq (kn := kn) (t := 0) (tgt := 64) (np := 55) rfl (by unfold R32; omega) (by unfold R32; omega) (fun e3 => ?_) (fun e3 => ?_)
    · refine h_aload rfl l0 rfl ?_
      refine h_intv k_4 rfl ?_
      obtain ⟨wA, hf4, oA'⟩ := s_bad (kn := kn) o0.1 4 ⟨by omega, by omega⟩
      have oA : hO dH_rs w wA := hO_tr o0 (hO_mono dH_rs6 oA')
      obtain ⟨fA6, fA7, fA8⟩ := ff_fr o0.1 oA' (by decide +kernel) (by decide +kernel) (by decide +kernel)
      refine h_V2 rfl o0 l0 ci_213 rfl rfl hf4 ?_
      refine h_zret (by omega) rfl ?_
      exact ⟨_, _, rfl, oA, by omega, Or.inl rfl, fun z => by omega⟩
    · refine h_aload rfl l0 rfl ?_
      refine h_getI rfl o0 fi_58 (fun b5a b5b => ?_)
      refine h_intv k_8 rfl ?_
      refine i_ne (kn := kn) (t := 1) (tgt := 70) (np := 64) rfl (by unfold R32; omega) (by unfold R32; omega) (fun e6 => ?_) (fun e6 => ?_)
      · refine h_aload rfl l0 rfl ?_
        refine h_dup rfl rfl ?_
        refine h_getI rfl o0 fi_57 (fun b7a b7b => ?_)
        refine h_intv k_1 rfl ?_
        refine h_iadd rfl ?_
        refine h_putI rfl o0 fi_57 rfl (by omega) (by omega) (fun w8 o8 q9a q9b q9c => ?_)
        refine h_aload rfl l0 rfl ?_
        refine h_dup rfl rfl ?_
        refine h_getI rfl o8 fi_58 (fun b10a b10b => ?_)
        rw [q9b 213 58 (fun _ => by decide)] at b10a b10b ⊢
        refine h_intv k_1 rfl ?_
        refine h_iadd rfl ?_
        refine h_putI rfl o8 fi_58 rfl (by omega) (by omega) (fun w11 o11 q12a q12b q12c => ?_)
        have r6 : gF w11 213 56 = gF w 213 56 := by rw [q12b 213 56 (fun _ => by decide), q9b 213 56 (fun _ => by decide)]
        have r7 : gF w11 213 57 = gF w 213 57 + 1 := by rw [q12b 213 57 (fun _ => by decide), q9a]
        have r8 : gF w11 213 58 = gF w 213 58 + 1 := q12a
        have n2 : NI w11 := ni_eq r6 (fun j => by rw [q12c, q9c]) nn
        refine h_aload rfl l0 rfl ?_
        obtain ⟨wA, hf13, oA', hrA⟩ := s_go (kn := kn) o11.1
        have oA : hO dH_rs w wA := hO_tr o11 (hO_mono dH_rs5 oA')
        have nA := ni_fr o11.1 oA' (by decide +kernel) (by decide +kernel) n2
        obtain ⟨fA6, fA7, fA8⟩ := ff_fr o11.1 oA' (by decide +kernel) (by decide +kernel) (by decide +kernel)
        refine h_W1 rfl o11 l0 ci_213 rfl rfl hf13 ?_
        refine h_intv k_1 rfl ?_
        refine h_istore rfl l0 (fun vl14 l14 => ?_)
        refine h_iload rfl l14 rfl ?_
        refine j_eq (kn := kn) (t := 0) (tgt := 108) (np := 100) rfl (by unfold R32; omega) (fun e15 => ?_) (fun e15 => ?_)
        · refine h_iload rfl l14 rfl ?_
          refine h_intv k_17 rfl ?_
          refine i_ne (kn := kn) (t := 1) (tgt := 122) (np := 114) rfl (by unfold R32; omega) (by unfold R32; omega) (fun e16 => ?_) (fun e16 => ?_)
          · refine h_iload rfl l14 rfl ?_
            refine h_intv k_20 rfl ?_
            refine i_ge (kn := kn) (t := 3) (tgt := 146) (np := 128) rfl (by unfold R32; omega) (by unfold R32; omega) (fun e17 => ?_) (fun e17 => ?_)
            · refine h_iload rfl l14 rfl ?_
              refine h_intv k_23 rfl ?_
              refine i_ge (kn := kn) (t := 3) (tgt := 160) (np := 152) rfl (by unfold R32; omega) (by unfold R32; omega) (fun e18 => ?_) (fun e18 => ?_)
              · refine h_aload rfl l14 rfl ?_
                refine h_iload rfl l14 rfl ?_
                obtain ⟨_, hf19, wC, bC, rfl, oC', fC8, hbC, hqC⟩ := s_readCompare (kn := kn) (w := wA) ⟨oA.1, nA, by omega⟩ i (by omega)
                have oC : hO dH_rs w wC := hO_tr oA oC'
                refine h_V2 rfl oA l14 ci_213 rfl rfl hf19 ?_
                refine h_istore rfl l14 (fun vl20 l20 => ?_)
                exact rs_166 hw oC (by omega) hbC (fun z => rs_up (hqC z) (by omega) (by omega) (by omega)) l20
              · refine h_aload rfl l14 rfl ?_
                refine h_iload rfl l14 rfl ?_
                obtain ⟨_, hf21, wC, bC, rfl, oC', fC8, hbC, hqC⟩ := s_readOf (kn := kn) (w := wA) ⟨oA.1, nA, by omega⟩ i (by omega)
                have oC : hO dH_rs w wC := hO_tr oA oC'
                refine h_V2 rfl oA l14 ci_213 rfl rfl hf21 ?_
                refine h_goto rfl ?_
                refine h_istore rfl l14 (fun vl22 l22 => ?_)
                exact rs_166 hw oC (by omega) hbC (fun z => rs_up (hqC z) (by omega) (by omega) (by omega)) l22
            · refine h_aload rfl l14 rfl ?_
              refine h_aload rfl l14 rfl ?_
              refine h_intv k_50 rfl ?_
              refine h_iload rfl l14 rfl ?_
              refine h_iadd rfl ?_
              refine h_intv k_0 rfl ?_
              refine h_intv k_0 rfl ?_
              refine h_intv k_0 rfl ?_
              obtain ⟨wB, hf23, oB', nB, gB, hB⟩ := s_says (kn := kn) oA.1 nA (50 + i) 0 0 0 ⟨by omega, by omega⟩ ⟨by omega, by omega⟩ ⟨by omega, by omega⟩ ⟨by omega, by omega⟩ (by omega) (fun z => by omega) (fun z => by omega) (fun z => by omega)
              have oB : hO dH_rs w wB := hO_tr oA oB'
              have hB7 := hB 57 (by decide)
              have hB8 := hB 58 (by decide)
              have hB9 := hB 59 (by decide)
              refine h_V5 rfl oA l14 ci_213 rfl rfl hf23 ?_
              refine h_putI rfl oB fi_59 rfl (by omega) (by omega) (fun w24 o24 q25a q25b q25c => ?_)
              refine h_goto rfl ?_
              exact rs_166 hw o24 (by rw [q25b 213 58 (fun _ => by decide)]; omega) (Or.inr rfl) (fun _ => ⟨ni_eq (q25b 213 56 (fun _ => by decide)) (fun j => q25c 240 j) nB, by rw [q25b 213 57 (fun _ => by decide), q25b 213 56 (fun _ => by decide)]; omega, by rw [q25b 213 56 (fun _ => by decide)]; omega, by rw [q25a, q25b 213 56 (fun _ => by decide)]; omega⟩) l14
          · refine h_aload rfl l14 rfl ?_
            obtain ⟨_, hf26, wC, bC, rfl, oC', fC8, hbC, hqC⟩ := s_readNot_g (kn := kn) hg (w := wA) ⟨oA.1, nA, by omega⟩ (by omega)
            have oC : hO dH_rs w wC := hO_tr oA oC'
            refine h_V1 rfl oA l14 ci_213 rfl rfl hf26 ?_
            refine h_istore rfl l14 (fun vl27 l27 => ?_)
            refine h_goto rfl ?_
            exact rs_166 hw oC (by omega) hbC (fun z => rs_up (hqC z) (by omega) (by omega) (by omega)) l27
        · refine h_aload rfl l14 rfl ?_
          obtain ⟨_, hf28, wC, bC, rfl, oC', fC8, hbC, hqC⟩ := s_readBracket_g (kn := kn) hg (w := wA) ⟨oA.1, nA, by omega⟩ (by omega)
          have oC : hO dH_rs w wC := hO_tr oA oC'
          refine h_V1 rfl oA l14 ci_213 rfl rfl hf28 ?_
          refine h_istore rfl l14 (fun vl29 l29 => ?_)
          refine h_goto rfl ?_
          exact rs_166 hw oC (by omega) hbC (fun z => rs_up (hqC z) (by omega) (by omega) (by omega)) l29
      · refine h_aload rfl l0 rfl ?_
        refine h_intv k_4 rfl ?_
        obtain ⟨wA, hf30, oA'⟩ := s_bad (kn := kn) o0.1 4 ⟨by omega, by omega⟩
        have oA : hO dH_rs w wA := hO_tr o0 (hO_mono dH_rs6 oA')
        obtain ⟨fA6, fA7, fA8⟩ := ff_fr o0.1 oA' (by decide +kernel) (by decide +kernel) (by decide +kernel)
        refine h_V2 rfl o0 l0 ci_213 rfl rfl hf30 ?_
        refine h_zret (by omega) rfl ?_
        exact ⟨_, _, rfl, oA, by omega, Or.inl rfl, fun z => by omega⟩
  · refine h_iload rfl l0 rfl ?_
    refine h_intv k_26 rfl ?_
    refine i_le (kn := kn) (t := 5) (tgt := 46) (np := 40) rfl (by unfold R32; omega) (by unfold R32; omega) (fun e31 => ?_) (fun e31 => ?_)
    · refine h_aload rfl l0 rfl ?_
      refine h_getI rfl o0 fi_57 (fun b32a b32b => ?_)
      refine h_intv k_20 rfl ?_
      refine i_eq (kn := kn) (t := 0) (tgt := 64) (np := 55) rfl (by unfold R32; omega) (by unfold R32; omega) (fun e33 => ?_) (fun e33 => ?_)
      · refine h_aload rfl l0 rfl ?_
        refine h_intv k_4 rfl ?_
        obtain ⟨wA, hf34, oA'⟩ := s_bad (kn := kn) o0.1 4 ⟨by omega, by omega⟩
        have oA : hO dH_rs w wA := hO_tr o0 (hO_mono dH_rs6 oA')
        obtain ⟨fA6, fA7, fA8⟩ := ff_fr o0.1 oA' (by decide +kernel) (by decide +kernel) (by decide +kernel)
        refine h_V2 rfl o0 l0 ci_213 rfl rfl hf34 ?_
        refine h_zret (by omega) rfl ?_
        exact ⟨_, _, rfl, oA, by omega, Or.inl rfl, fun z => by omega⟩
      · refine h_aload rfl l0 rfl ?_
        refine h_getI rfl o0 fi_58 (fun b35a b35b => ?_)
        refine h_intv k_8 rfl ?_
        refine i_ne (kn := kn) (t := 1) (tgt := 70) (np := 64) rfl (by unfold R32; omega) (by unfold R32; omega) (fun e36 => ?_) (fun e36 => ?_)
        · refine h_aload rfl l0 rfl ?_
          refine h_dup rfl rfl ?_
          refine h_getI rfl o0 fi_57 (fun b37a b37b => ?_)
          refine h_intv k_1 rfl ?_
          refine h_iadd rfl ?_
          refine h_putI rfl o0 fi_57 rfl (by omega) (by omega) (fun w38 o38 q39a q39b q39c => ?_)
          refine h_aload rfl l0 rfl ?_
          refine h_dup rfl rfl ?_
          refine h_getI rfl o38 fi_58 (fun b40a b40b => ?_)
          rw [q39b 213 58 (fun _ => by decide)] at b40a b40b ⊢
          refine h_intv k_1 rfl ?_
          refine h_iadd rfl ?_
          refine h_putI rfl o38 fi_58 rfl (by omega) (by omega) (fun w41 o41 q42a q42b q42c => ?_)
          have r6 : gF w41 213 56 = gF w 213 56 := by rw [q42b 213 56 (fun _ => by decide), q39b 213 56 (fun _ => by decide)]
          have r7 : gF w41 213 57 = gF w 213 57 + 1 := by rw [q42b 213 57 (fun _ => by decide), q39a]
          have r8 : gF w41 213 58 = gF w 213 58 + 1 := q42a
          have n2 : NI w41 := ni_eq r6 (fun j => by rw [q42c, q39c]) nn
          refine h_aload rfl l0 rfl ?_
          obtain ⟨wA, hf43, oA', hrA⟩ := s_go (kn := kn) o41.1
          have oA : hO dH_rs w wA := hO_tr o41 (hO_mono dH_rs5 oA')
          have nA := ni_fr o41.1 oA' (by decide +kernel) (by decide +kernel) n2
          obtain ⟨fA6, fA7, fA8⟩ := ff_fr o41.1 oA' (by decide +kernel) (by decide +kernel) (by decide +kernel)
          refine h_W1 rfl o41 l0 ci_213 rfl rfl hf43 ?_
          refine h_intv k_1 rfl ?_
          refine h_istore rfl l0 (fun vl44 l44 => ?_)
          refine h_iload rfl l44 rfl ?_
          refine j_eq (kn := kn) (t := 0) (tgt := 108) (np := 100) rfl (by unfold R32; omega) (fun e45 => ?_) (fun e45 => ?_)
          · refine h_iload rfl l44 rfl ?_
            refine h_intv k_17 rfl ?_
            refine i_ne (kn := kn) (t := 1) (tgt := 122) (np := 114) rfl (by unfold R32; omega) (by unfold R32; omega) (fun e46 => ?_) (fun e46 => ?_)
            · refine h_iload rfl l44 rfl ?_
              refine h_intv k_20 rfl ?_
              refine i_ge (kn := kn) (t := 3) (tgt := 146) (np := 128) rfl (by unfold R32; omega) (by unfold R32; omega) (fun e47 => ?_) (fun e47 => ?_)
              · refine h_iload rfl l44 rfl ?_
                refine h_intv k_23 rfl ?_
                refine i_ge (kn := kn) (t := 3) (tgt := 160) (np := 152) rfl (by unfold R32; omega) (by unfold R32; omega) (fun e48 => ?_) (fun e48 => ?_)
                · refine h_aload rfl l44 rfl ?_
                  refine h_iload rfl l44 rfl ?_
                  obtain ⟨_, hf49, wC, bC, rfl, oC', fC8, hbC, hqC⟩ := s_readCompare (kn := kn) (w := wA) ⟨oA.1, nA, by omega⟩ i (by omega)
                  have oC : hO dH_rs w wC := hO_tr oA oC'
                  refine h_V2 rfl oA l44 ci_213 rfl rfl hf49 ?_
                  refine h_istore rfl l44 (fun vl50 l50 => ?_)
                  exact rs_166 hw oC (by omega) hbC (fun z => rs_up (hqC z) (by omega) (by omega) (by omega)) l50
                · refine h_aload rfl l44 rfl ?_
                  refine h_iload rfl l44 rfl ?_
                  obtain ⟨_, hf51, wC, bC, rfl, oC', fC8, hbC, hqC⟩ := s_readOf (kn := kn) (w := wA) ⟨oA.1, nA, by omega⟩ i (by omega)
                  have oC : hO dH_rs w wC := hO_tr oA oC'
                  refine h_V2 rfl oA l44 ci_213 rfl rfl hf51 ?_
                  refine h_goto rfl ?_
                  refine h_istore rfl l44 (fun vl52 l52 => ?_)
                  exact rs_166 hw oC (by omega) hbC (fun z => rs_up (hqC z) (by omega) (by omega) (by omega)) l52
              · refine h_aload rfl l44 rfl ?_
                refine h_aload rfl l44 rfl ?_
                refine h_intv k_50 rfl ?_
                refine h_iload rfl l44 rfl ?_
                refine h_iadd rfl ?_
                refine h_intv k_0 rfl ?_
                refine h_intv k_0 rfl ?_
                refine h_intv k_0 rfl ?_
                obtain ⟨wB, hf53, oB', nB, gB, hB⟩ := s_says (kn := kn) oA.1 nA (50 + i) 0 0 0 ⟨by omega, by omega⟩ ⟨by omega, by omega⟩ ⟨by omega, by omega⟩ ⟨by omega, by omega⟩ (by omega) (fun z => by omega) (fun z => by omega) (fun z => by omega)
                have oB : hO dH_rs w wB := hO_tr oA oB'
                have hB7 := hB 57 (by decide)
                have hB8 := hB 58 (by decide)
                have hB9 := hB 59 (by decide)
                refine h_V5 rfl oA l44 ci_213 rfl rfl hf53 ?_
                refine h_putI rfl oB fi_59 rfl (by omega) (by omega) (fun w54 o54 q55a q55b q55c => ?_)
                refine h_goto rfl ?_
                exact rs_166 hw o54 (by rw [q55b 213 58 (fun _ => by decide)]; omega) (Or.inr rfl) (fun _ => ⟨ni_eq (q55b 213 56 (fun _ => by decide)) (fun j => q55c 240 j) nB, by rw [q55b 213 57 (fun _ => by decide), q55b 213 56 (fun _ => by decide)]; omega, by rw [q55b 213 56 (fun _ => by decide)]; omega, by rw [q55a, q55b 213 56 (fun _ => by decide)]; omega⟩) l44
            · refine h_aload rfl l44 rfl ?_
              obtain ⟨_, hf56, wC, bC, rfl, oC', fC8, hbC, hqC⟩ := s_readNot_g (kn := kn) hg (w := wA) ⟨oA.1, nA, by omega⟩ (by omega)
              have oC : hO dH_rs w wC := hO_tr oA oC'
              refine h_V1 rfl oA l44 ci_213 rfl rfl hf56 ?_
              refine h_istore rfl l44 (fun vl57 l57 => ?_)
              refine h_goto rfl ?_
              exact rs_166 hw oC (by omega) hbC (fun z => rs_up (hqC z) (by omega) (by omega) (by omega)) l57
          · refine h_aload rfl l44 rfl ?_
            obtain ⟨_, hf58, wC, bC, rfl, oC', fC8, hbC, hqC⟩ := s_readBracket_g (kn := kn) hg (w := wA) ⟨oA.1, nA, by omega⟩ (by omega)
            have oC : hO dH_rs w wC := hO_tr oA oC'
            refine h_V1 rfl oA l44 ci_213 rfl rfl hf58 ?_
            refine h_istore rfl l44 (fun vl59 l59 => ?_)
            refine h_goto rfl ?_
            exact rs_166 hw oC (by omega) hbC (fun z => rs_up (hqC z) (by omega) (by omega) (by omega)) l59
        · refine h_aload rfl l0 rfl ?_
          refine h_intv k_4 rfl ?_
          obtain ⟨wA, hf60, oA'⟩ := s_bad (kn := kn) o0.1 4 ⟨by omega, by omega⟩
          have oA : hO dH_rs w wA := hO_tr o0 (hO_mono dH_rs6 oA')
          obtain ⟨fA6, fA7, fA8⟩ := ff_fr o0.1 oA' (by decide +kernel) (by decide +kernel) (by decide +kernel)
          refine h_V2 rfl o0 l0 ci_213 rfl rfl hf60 ?_
          refine h_zret (by omega) rfl ?_
          exact ⟨_, _, rfl, oA, by omega, Or.inl rfl, fun z => by omega⟩
    · refine h_aload rfl l0 rfl ?_
      refine h_intv k_1 rfl ?_
      obtain ⟨wA, hf61, oA'⟩ := s_bad (kn := kn) o0.1 1 ⟨by omega, by omega⟩
      have oA : hO dH_rs w wA := hO_tr o0 (hO_mono dH_rs6 oA')
      obtain ⟨fA6, fA7, fA8⟩ := ff_fr o0.1 oA' (by decide +kernel) (by decide +kernel) (by decide +kernel)
      refine h_V2 rfl o0 l0 ci_213 rfl rfl hf61 ?_
      refine h_zret (by omega) rfl ?_
      exact ⟨_, _, rfl, oA, by omega, Or.inl rfl, fun z => by omega⟩
theorem rs_10 {kn : sKn} {g : List Value → sW → Option sR} {d : Nat} (hg : rsH g d) {w : sW} (hI0 : rsI w) (hd : 9 ≤ gF w 213 58 + ((d + 1 : Nat) : Int)) {s : Int} (hs : s = 0 ∨ s = 1) : ∀ (m : Nat) (lv : List (Nat × Value)) (i : Int), i + (m : Int) = 27 → 17 ≤ i → hL lv [(0, .ref 213), (1, hI s), (2, hI i)] → Tp (tX12_readSaid_g kn g) (rsQ 1 w) 10 (lv, [], w, 0, 0) := by
  have o0 : hO dH_rs w w := hO_rf hI0.1
  intro m
  induction m with
  | zero =>
    intro lv i hm hi l0
    refine h_iload rfl l0 rfl ?_
    refine h_intv k_26 rfl ?_
    refine i_gt (kn := kn) (t := 4) (tgt := 30) (np := 16) rfl (by unfold R32; omega) (by unfold R32; omega) (fun e1 => ?_) (fun e1 => ?_)
    · exact rs_30 hg hI0 hd hs (by omega) l0
    · omega
  | succ m ih =>
    intro lv i hm hi l0
    refine h_iload rfl l0 rfl ?_
    refine h_intv k_26 rfl ?_
    refine i_gt (kn := kn) (t := 4) (tgt := 30) (np := 16) rfl (by unfold R32; omega) (by unfold R32; omega) (fun e1 => ?_) (fun e1 => ?_)
    · exact rs_30 hg hI0 hd hs (by omega) l0
    · refine h_aload rfl l0 rfl ?_
      refine h_iload rfl l0 rfl ?_
      obtain ⟨z2, hf2, hz2, hq2⟩ := s_isWord (kn := kn) o0.1 i ⟨by omega, by omega⟩
      refine h_V2 rfl o0 l0 ci_213 rfl rfl hf2 ?_
      refine j_ne (kn := kn) (t := 1) (tgt := 30) (np := 24) rfl (by unfold R32; omega) (fun e3 => ?_) (fun e3 => ?_)
      · exact rs_30 hg hI0 hd hs (by omega) l0
      · refine h_iincv k_1 rfl l0 rfl (fun vl4 l4 => ?_)
        refine h_goto rfl ?_
        exact ih _ _ (by omega) (by omega) l4
theorem s_readSaid_g {kn : sKn} {g : List Value → sW → Option sR} {d : Nat} (hg : rsH g d) {w : sW} (hI0 : rsI w) (hd : 9 ≤ gF w 213 58 + ((d + 1 : Nat) : Int)) : rsR (1) (fX12_readSaid_g kn g) [.ref 213] w := by
  obtain ⟨hw, nn, hp⟩ := hI0
  obtain ⟨_, _, _, _, _, _, _, a7, b7⟩ := fI_ok (hO_rf (D := []) hw) fi_57
  obtain ⟨_, _, _, _, _, _, _, a6, b6⟩ := fI_ok (hO_rf (D := []) hw) fi_56
  obtain ⟨_, _, _, _, _, _, _, a8, b8⟩ := fI_ok (hO_rf (D := []) hw) fi_58
  have K : Tp (tX12_readSaid_g kn g) (rsQ (1) w) 0 (lv_args 0 [.ref 213], [], w, 0, 0) := by
    have l0 : hL (lv_args 0 [.ref 213]) (lv_args 0 [.ref 213]) := hL_ex rfl
    have o0 : hO dH_rs w w := hO_rf hw
    refine h_aload rfl l0 rfl ?_
    refine h_intv k_40 rfl ?_
    obtain ⟨z1, hf1, hz1, hq1⟩ := s_isSign (kn := kn) o0.1 40 ⟨by omega, by omega⟩
    refine h_V2 rfl o0 l0 ci_213 rfl rfl hf1 ?_
    refine h_istore rfl l0 (fun vl2 l2 => ?_)
    refine h_intv k_17 rfl ?_
    refine h_istore rfl l2 (fun vl3 l3 => ?_)
    exact rs_10 hg ⟨hw, nn, hp⟩ hd hz1 10 _ _ (by omega) (by omega) l3
  exact h_meth1 (nL := 4) rfl K
theorem s_readSaid_n {kn : sKn} : ∀ d : Nat, rsH (fX12_readSaid_n kn d) d := by
  intro d
  induction d with
  | zero =>
    intro w hI0 hd
    obtain ⟨_, _, _, _, _, _, _, a8, b8⟩ := fI_ok (hO_rf (D := []) hI0.1) fi_58
    omega
  | succ d ih =>
    intro w hI0 hd
    exact s_readSaid_g ih hI0 hd
theorem s_readOr {kn : sKn} {w : sW} (hI0 : rsI w) (h : gF w 213 58 = 0) : rsR 1 (fX12_readOr kn) [.ref 213] w := s_readOr_g (s_readSaid_n 10) hI0 (by omega)
end
