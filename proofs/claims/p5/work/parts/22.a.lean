noncomputable section
theorem con_0m {D : List (Nat × Nat)} {f : List Value → sW → Option sR} {Q : List eS} (h : Con ZZ D f ([(2, 0, 213)], [], [], 1, Q)) {w : sW} (hw : wOk ZZ w) : ∃ r w', f [.ref 213] w = some (r, w', 0, 0) ∧ hO D w w' ∧ ∃ q ∈ Q, ∃ σ' : List Int, σ'[0]? = some 0 ∧ gS σ' q.2.1 r.toList ∧ gM σ' w' q.2.2.1 ∧ gE ZZ σ' q.2.2.2.1 := by
  have hn := hO_len (D := []) (w0 := w) ⟨hw, frOk_rf w⟩
  obtain ⟨⟨r, h1⟩, h2⟩ := h [0] [.ref 213] w rfl rfl ⟨⟨0, rfl, 213, rfl, rfl⟩, trivial⟩ (fun q hq => by cases hq) (fun q hq => by cases hq) hw (fun v hv => by
    rcases List.mem_singleton.mp hv with rfl
    exact wf_up (by decide) hn)
  obtain ⟨e1, e2, e3, q, e4, σ', e5, e6, e7, e8, e9⟩ := h2 r h1
  obtain ⟨r1, r2, r3⟩ := r
  have e1 : r3 = (0, 0) := e1
  subst e1
  exact ⟨r1, r2, h1, ⟨e3, e2⟩, q, e4, σ', e5 0 0 rfl, e7, e8, e9⟩
/-- a place of an array, as a number -/
theorem mf_X {σ : List Int} {w : sW} {c j u : Nat} (h0 : σ[0]? = some 0) (h : mfOk σ w (((0, (c : Int)), 1, 0, (j : Int)), (0, u, 0))) : ∃ z : Int, σ[u]? = some z ∧ gX w c j = z := by
  obtain ⟨zr, k, a1, a2, t, vs, zi, i, v, b1, b2, b3, b4, z, d1, d2⟩ := h
  have a1 : σ[0]? = some zr := a1
  rw [h0] at a1
  cases a1
  have b1 : σ[0]? = some zi := b1
  rw [h0] at b1
  cases b1
  have a2 : (k : Int) = 0 + (c : Int) := a2
  have b3 : (i : Int) = 0 + (j : Int) := b3
  have hk : k = c := by omega
  have hi : i = j := by omega
  subst hk
  subst hi
  obtain ⟨e, r⟩ := vOk_hI d2
  have d3 : z + ((0, u, 0) : eV).2.2 = z := Int.add_zero _
  rw [d3] at e r
  refine ⟨z, d1, ?_⟩
  unfold gX
  rw [b2]
  dsimp only
  rw [b4, e]
  exact hI_to r
theorem mf_K {σ : List Int} {w : sW} {c j : Nat} {x : Int} (h0 : σ[0]? = some 0) (h : mfOk σ w (((0, (c : Int)), 1, 0, (j : Int)), (0, 0, x))) : gX w c j = x := by
  obtain ⟨zr, k, a1, a2, t, vs, zi, i, v, b1, b2, b3, b4, z, d1, d2⟩ := h
  have a1 : σ[0]? = some zr := a1
  rw [h0] at a1
  cases a1
  have b1 : σ[0]? = some zi := b1
  rw [h0] at b1
  cases b1
  have d1 : σ[0]? = some z := d1
  rw [h0] at d1
  cases d1
  have a2 : (k : Int) = 0 + (c : Int) := a2
  have b3 : (i : Int) = 0 + (j : Int) := b3
  have hk : k = c := by omega
  have hi : i = j := by omega
  subst hk
  subst hi
  obtain ⟨e, r⟩ := vOk_hI d2
  have d3 : 0 + ((0, 0, x) : eV).2.2 = x := Int.zero_add _
  rw [d3] at e r
  unfold gX
  rw [b2]
  dsimp only
  rw [b4, e]
  exact hI_to r
theorem s_startRead {kn : sKn} {w : sW} (hw : wOk ZZ w) : ∃ w', fX12_startRead kn [.ref 213] w = some (none, w', 0, 0) ∧ hO dX12_startRead w w' ∧ gX w' 216 0 = 4 := by
  obtain ⟨r, w', h1, h2, q, hq, σ', h0, h3, h4, _⟩ := con_0m (con_X12_startRead_0 kn) hw
  rcases List.mem_singleton.mp hq with rfl
  rw [gS_nil h3] at h1
  exact ⟨w', h1, h2, mf_K (c := 216) (j := 0) h0 (h4 _ (List.mem_cons_of_mem _ List.mem_cons_self))⟩
theorem s_startSo {kn : sKn} {w : sW} (hw : wOk ZZ w) : ∃ w', fX12_startSo kn [.ref 213] w = some (none, w', 0, 0) ∧ hO dX12_startSo w w' := s_startSo0 hw
theorem gS_c {σ : List Int} {x : Int} {r : Option Value} (h0 : σ[0]? = some 0) (h : gS σ [(0, 0, x)] r.toList) : r = some (hI x) := by
  cases r with
  | none => exact h.elim
  | some v =>
    obtain ⟨⟨z, d1, d2⟩, _⟩ := h
    have d1 : σ[0]? = some z := d1
    rw [h0] at d1
    cases d1
    obtain ⟨e, _⟩ := vOk_hI d2
    have d3 : 0 + ((0, 0, x) : eV).2.2 = x := Int.zero_add _
    rw [d3] at e
    rw [e]
theorem s_readLine {kn : sKn} {w : sW} (hw : wOk ZZ w) (h : 1 ≤ gX w 216 0 ∧ gX w 216 0 ≤ 12) : ∃ (w' : sW) (b : Int), fX12_readLine kn [.ref 213] w = some (some (hI b), w', 0, 0) ∧ hO dX12_readLine w w' ∧ (b = 0 ∨ b = 1) ∧ (1 ≤ gX w' 216 0 ∧ gX w' 216 0 ≤ 12) := by
  have o0 : hO [] w w := hO_rf hw
  have hn := hO_len o0
  obtain ⟨vs, k1, k2, k3, k4⟩ := gX_r o0 ai_216 (j := 0) (by decide)
  obtain ⟨⟨r, h1⟩, h2⟩ := con_X12_readLine_0 kn [0, gX w 216 0] [.ref 213] w rfl rfl ⟨⟨0, rfl, 213, rfl, rfl⟩, trivial⟩ (fun q hq => by
    rcases List.mem_singleton.mp hq with rfl
    exact ⟨0, 216, rfl, rfl, 1, vs, 0, 0, _, rfl, k1, rfl, k3, gX w 216 0, rfl, by
      have d3 : gX w 216 0 + ((0, 1, 0) : eV).2.2 = gX w 216 0 := Int.add_zero _
      show vOk 0 (gX w 216 0 + ((0, 1, 0) : eV).2.2) _
      rw [d3]
      exact hI_vOk k4⟩) (fun q hq => by
    rcases List.mem_singleton.mp hq with rfl
    exact ⟨_, rfl, h.1, h.2⟩) hw (fun v hv => by
    rcases List.mem_singleton.mp hv with rfl
    exact wf_up (by decide) hn)
  obtain ⟨e1, e2, e3, q, e4, σ', e5, e6, e7, e8, e9⟩ := h2 r h1
  obtain ⟨r1, r2, r3⟩ := r
  have e1 : r3 = (0, 0) := e1
  subst e1
  have hz := e5 0 0 rfl
  have fin : ∀ b : Int, r1 = some (hI b) → (b = 0 ∨ b = 1) → (∃ z : Int, (1 ≤ z ∧ z ≤ 12) ∧ gX r2 216 0 = z) → ∃ (w' : sW) (b : Int), fX12_readLine kn [.ref 213] w = some (some (hI b), w', 0, 0) ∧ hO dX12_readLine w w' ∧ (b = 0 ∨ b = 1) ∧ (1 ≤ gX w' 216 0 ∧ gX w' 216 0 ≤ 12) := by
    intro b hb hb2 hz2
    obtain ⟨z, z1, z2⟩ := hz2
    rw [hb] at h1
    exact ⟨r2, b, h1, ⟨e3, e2⟩, hb2, by rw [z2]; exact z1⟩
  rcases List.mem_cons.mp e4 with rfl | e4
  · obtain ⟨z, z1, z2⟩ := mf_X (c := 216) (j := 0) (u := 3) hz (e8 _ (List.mem_cons_of_mem _ List.mem_cons_self))
    obtain ⟨z', y1, y2⟩ := e9 (3, .inl (1, 12)) List.mem_cons_self
    have y1 : σ'[3]? = some z' := y1
    rw [z1] at y1
    cases y1
    exact fin 0 (gS_c hz e7) (Or.inl rfl) ⟨z, y2, z2⟩
  · rcases List.mem_singleton.mp e4 with rfl
    obtain ⟨z, z1, z2⟩ := mf_X (c := 216) (j := 0) (u := 3) hz (e8 _ (List.mem_cons_of_mem _ List.mem_cons_self))
    obtain ⟨z', y1, y2⟩ := e9 (3, .inl (1, 12)) List.mem_cons_self
    have y1 : σ'[3]? = some z' := y1
    rw [z1] at y1
    cases y1
    exact fin 1 (gS_c hz e7) (Or.inr rfl) ⟨z, y2, z2⟩
theorem jW_of {D : List (Nat × Nat)} {w w' : sW} (h : hO D w w') (hm : mIn D 61 777 = false) : jW w w' := h.2.2.2.1 rfl (mIn_no hm)
theorem s_isSign {kn : sKn} {w : sW} (hw : wOk ZZ w) (x : Int) (hx : R32 x) : ∃ b : Int, fX12_isSign kn [.ref 213, hI x] w = some (some (hI b), w, 0, 0) ∧ ((b = 0 ∨ b = 1) ∧ (b = 1 → gF w 213 7 = 4)) := by
  have K : Tp (tX12_isSign kn) (fun r => ∃ b : Int, r = (some (hI b), w, 0, 0) ∧ ((b = 0 ∨ b = 1) ∧ (b = 1 → gF w 213 7 = 4))) 0 (lv_args 0 [.ref 213, hI x], [], w, 0, 0) := by
    have l0 : hL (lv_args 0 [.ref 213, hI x]) (lv_args 0 [.ref 213, hI x]) := hL_ex rfl
    have o0 : hO [] w w := hO_rf hw
    have hx1 := hx.1
    have hx2 := hx.2
    refine h_aload rfl l0 rfl ?_
    refine h_getI rfl o0 fi_7 (fun b1a b1b => ?_)
    refine h_intv k_4 rfl ?_
    refine i_ne (kn := kn) (t := 1) (tgt := 20) (np := 8) rfl (by unfold R32; omega) (by unfold R32; omega) (fun e2 => ?_) (fun e2 => ?_)
    · refine h_intv k_0 rfl ?_
      refine h_zret (by omega) rfl ?_
      exact ⟨_, rfl, by omega, by omega⟩
    · refine h_aload rfl l0 rfl ?_
      refine h_getI rfl o0 fi_9 (fun b3a b3b => ?_)
      refine h_iload rfl l0 rfl ?_
      refine i_ne (kn := kn) (t := 1) (tgt := 20) (np := 16) rfl (by unfold R32; omega) (by unfold R32; omega) (fun e4 => ?_) (fun e4 => ?_)
      · refine h_intv k_0 rfl ?_
        refine h_zret (by omega) rfl ?_
        exact ⟨_, rfl, by omega, by omega⟩
      · refine h_intv k_1 rfl ?_
        refine h_goto rfl ?_
        refine h_zret (by omega) rfl ?_
        exact ⟨_, rfl, by omega, by omega⟩
  obtain ⟨r, h1, b, h2, h3⟩ := h_meth1 (nL := 2) rfl K
  rw [h2] at h1
  exact ⟨b, h1, h3⟩
def dH_bad : List (Nat × Nat) := [(61, 10), (61, 11)]
def dH_re : List (Nat × Nat) := dH_bad ++ dH_go
theorem dH_re1 : msub dH_bad dH_re = true := by decide +kernel
theorem dH_re2 : msub dH_go dH_re = true := by decide +kernel
theorem s_bad {kn : sKn} {w : sW} (hw : wOk ZZ w) (x : Int) (hx : R32 x) : ∃ w', fX12_bad kn [.ref 213, hI x] w = some (some (hI 0), w', 0, 0) ∧ hO dH_bad w w' := by
  have hx1 := hx.1
  have hx2 := hx.2
  have K : Tp (tX12_bad kn) (fun r => ∃ w', r = (some (hI 0), w', 0, 0) ∧ hO dH_bad w w') 0 (lv_args 0 [.ref 213, hI x], [], w, 0, 0) := by
    have l0 : hL (lv_args 0 [.ref 213, hI x]) (lv_args 0 [.ref 213, hI x]) := hL_ex rfl
    have o0 : hO dH_bad w w := hO_rf hw
    refine h_aload rfl l0 rfl ?_
    refine h_aload rfl l0 rfl ?_
    refine h_getI rfl o0 fi_7 (fun b1a b1b => ?_)
    refine h_intv k_1 rfl ?_
    refine i_ne (kn := kn) (t := 1) (tgt := 13) (np := 9) rfl (by unfold R32; omega) (by unfold R32; omega) (fun e2 => ?_) (fun e2 => ?_)
    · refine h_iload rfl l0 rfl ?_
      refine h_putI rfl o0 fi_10 rfl (by omega) (by omega) (fun w3 o3 q4a q4b q4c => ?_)
      refine h_aload rfl l0 rfl ?_
      refine h_aload rfl l0 rfl ?_
      refine h_getI rfl o3 fi_6 (fun b5a b5b => ?_)
      refine h_putI rfl o3 fi_11 rfl (by omega) (by omega) (fun w6 o6 q7a q7b q7c => ?_)
      refine h_intv k_0 rfl ?_
      refine h_zret (by omega) rfl ?_
      exact ⟨_, rfl, o6⟩
    · refine h_intv k_1 rfl ?_
      refine h_goto rfl ?_
      refine h_putI rfl o0 fi_10 rfl (by omega) (by omega) (fun w8 o8 q9a q9b q9c => ?_)
      refine h_aload rfl l0 rfl ?_
      refine h_aload rfl l0 rfl ?_
      refine h_getI rfl o8 fi_6 (fun b10a b10b => ?_)
      refine h_putI rfl o8 fi_11 rfl (by omega) (by omega) (fun w11 o11 q12a q12b q12c => ?_)
      refine h_intv k_0 rfl ?_
      refine h_zret (by omega) rfl ?_
      exact ⟨_, rfl, o11⟩
  obtain ⟨r, h1, w2, h2, h3⟩ := h_meth1 (nL := 2) rfl K
  rw [h2] at h1
  exact ⟨w2, h1, h3⟩
theorem s_readEnd {kn : sKn} {w : sW} (hw : wOk ZZ w) : (∃ (w' : sW) (b : Int), fX12_readEnd kn [.ref 213] w = some (some (hI b), w', 0, 0) ∧ hO dH_re w w' ∧ (b = 0 ∨ b = 1) ∧ (b = 1 → rhoV w' < rhoV w)) := by
  have K : Tp (tX12_readEnd kn) (fun r => (∃ (w' : sW) (b : Int), r = (some (hI b), w', 0, 0) ∧ hO dH_re w w' ∧ (b = 0 ∨ b = 1) ∧ (b = 1 → rhoV w' < rhoV w))) 0 (lv_args 0 [.ref 213], [], w, 0, 0) := by
    have l0 : hL (lv_args 0 [.ref 213]) (lv_args 0 [.ref 213]) := hL_ex rfl
    have o0 : hO dH_re w w := hO_rf hw
    refine h_aload rfl l0 rfl ?_
    refine h_intv k_59 rfl ?_
    obtain ⟨z1, hf1, hz1, hq1⟩ := s_isSign (kn := kn) o0.1 59 ⟨by omega, by omega⟩
    refine h_V2 rfl o0 l0 ci_213 rfl rfl hf1 ?_
    refine j_ne (kn := kn) (t := 1) (tgt := 15) (np := 9) rfl (by unfold R32; omega) (fun e2 => ?_) (fun e2 => ?_)
    · refine h_aload rfl l0 rfl ?_
      obtain ⟨wA, hf3, oA', hr⟩ := s_go (kn := kn) o0.1
      have oA : hO dH_re w wA := hO_tr o0 (hO_mono dH_re2 oA')
      refine h_W1 rfl o0 l0 ci_213 rfl rfl hf3 ?_
      refine h_intv k_1 rfl ?_
      refine h_zret (by omega) rfl ?_
      have h7 := hq1 (by omega)
      have hr2 : rhoV w = gF w 213 3 - gF w 213 5 + 1 := by
        unfold rhoV
        rw [h7, if_pos (by omega)]
      exact ⟨_, _, rfl, oA, Or.inr rfl, fun _ => by omega⟩
    · refine h_aload rfl l0 rfl ?_
      refine h_intv k_1 rfl ?_
      obtain ⟨wA, hf4, oA'⟩ := s_bad (kn := kn) o0.1 1 ⟨by omega, by omega⟩
      have oA : hO dH_re w wA := hO_tr o0 (hO_mono dH_re1 oA')
      refine h_V2 rfl o0 l0 ci_213 rfl rfl hf4 ?_
      refine h_zret (by omega) rfl ?_
      exact ⟨_, _, rfl, oA, Or.inl rfl, fun z => by omega⟩
  obtain ⟨r, h1, w2, b, h2, h3⟩ := h_meth1 (nL := 1) rfl K
  rw [h2] at h1
  exact ⟨w2, b, h1, h3⟩
def aJ (c : Nat) : Option (Nat × Nat) := match ztau c with
  | some t => match aty ZZ t with
    | some q => match Nat.beq q.1 2 with
      | true => match xa (fun j => match sga q.2.2 j with
        | some (.inl p) => match zle p.1 (-9223372036854775808) with
          | true => zle 9223372036854775807 p.2
          | false => false
        | _ => false) (List.range q.2.1) with
        | true => some (t, q.2.1)
        | false => none
      | false => none
    | none => none
  | none => none
theorem aJ_ok {D : List (Nat × Nat)} {w0 w : sW} {c t n : Nat} (ho : hO D w0 w) (h : aJ c = some (t, n)) : ∃ (vs : List Value) (q : Nat × Nat × List (Nat × eE)), ztau c = some t ∧ aty ZZ t = some q ∧ q.1 = 2 ∧ q.2.1 = n ∧ w[c]? = some (.inl (2, vs)) ∧ vs.length = n ∧ (∀ (j : Nat) v, vs[j]? = some v → ∃ e, sga q.2.2 j = some e ∧ fvOk ZZ (1, e) v) ∧ ∀ (j : Nat) (x : Int64), j < n → ∃ e, sga q.2.2 j = some e ∧ fvOk ZZ (1, e) (.long x) := by
  unfold aJ at h
  split at h
  · rename_i t' ht
    split at h
    · rename_i q hq
      split at h
      · rename_i c1
        split at h
        · rename_i c2
          cases h
          have c1 := Nat.eq_of_beq_eq_true c1
          obtain ⟨_, vs, w1, w2, w3⟩ := aty_ok ho.1 (show ZZ.2 c = some t from ht) hq
          rw [c1] at w1 w3
          refine ⟨vs, q, ht, hq, c1, rfl, w1, w2, w3, fun j x hj => ?_⟩
          rw [xa_eq] at c2
          have k := List.all_eq_true.mp c2 j (List.mem_range.mpr hj)
          split at k
          · rename_i p hp
            split at k
            · rename_i k1
              rw [zle_iff] at k k1
              exact ⟨_, hp, x.toInt, ⟨x, rfl, rfl⟩, by have := x.le_toInt; show p.1 ≤ _; omega, by have := x.toInt_lt; show _ ≤ p.2; omega⟩
            · cases k
          · cases k
        · cases h
      · cases h
    · cases h
  · cases h
section HJJ
variable {tbl : List (Nat × sA)} {Po : sR → Prop} {pc np : Nat} {lv ps : List (Nat × Value)} {st : List Value} {w w0 : sW} {D : List (Nat × Nat)}
theorem h_lald {c t n : Nat} {i : Int} (j : Nat) (ha : t_get tbl pc = some (a_lald np)) (ho : hO D w0 w) (hf : aJ c = some (t, n)) (hn : Nat.blt n 2147483648 = true) (hi : i = (j : Int)) (hj : j < n) (g : ∀ x : Int64, Tp tbl Po np (lv, .long x :: st, w, 0, 0)) : Tp tbl Po pc (lv, hI i :: .ref c :: st, w, 0, 0) := by
  subst hi
  have hn := Nat.blt_eq.mp hn
  obtain ⟨vs, q, _, _, _, _, k1, k2, _⟩ := aJ_ok ho hf
  have hv : j < vs.length := by omega
  have e := ixN_hI (i := (j : Int)) (by omega) (by omega)
  rw [show (j : Int).toNat = j by omega] at e
  have e3 : Nat.blt j 2147483648 = true := Nat.blt_eq.mpr (by omega)
  refine Tp_step ha (fun k => ?_) (g (dl vs[j]))
  show a_lald np k (lv, Value.int (Int32.ofInt (j : Int)) :: .ref c :: st, w, 0, 0) = _
  simp only [a_lald, xg_eq, k1, e, e3, List.getElem?_eq_getElem hv]
theorem h_last {c t n : Nat} {i : Int} {x : Int64} (j : Nat) (ha : t_get tbl pc = some (a_last np)) (ho : hO D w0 w) (hf : aJ c = some (t, n)) (hn : Nat.blt n 2147483648 = true) (hm : mIn D t 999 = true) (hi : i = (j : Int)) (hj : j < n) (g : ∀ w', hO D w0 w' → (∀ c' k, gF w' c' k = gF w c' k) → (∀ c' j', c' ≠ c → gX w' c' j' = gX w c' j') → Tp tbl Po np (lv, st, w', 0, 0)) (hq : pOkA D t 999 = true := by rfl) (hb : pOkB D t 0 = true := by rfl) : Tp tbl Po pc (lv, .long x :: hI i :: .ref c :: st, w, 0, 0) := by
  subst hi
  have hn := Nat.blt_eq.mp hn
  obtain ⟨vs, q, k1, k2, k3, k4, k5, k6, k7, k8⟩ := aJ_ok ho hf
  have hl := (List.getElem?_eq_some_iff.mp k5).1
  have hv : j < vs.length := by omega
  have e := ixN_hI (i := (j : Int)) (by omega) (by omega)
  rw [show (j : Int).toNat = j by omega] at e
  have e3 : Nat.blt j 2147483648 = true := Nat.blt_eq.mpr (by omega)
  have hw' : wOk ZZ (w.set c (.inl (2, vs.set j (.long x)))) := by
    have := wOk_arr (Z := ZZ) (vs' := vs.set j (.long x)) ho.1 (show ZZ.2 c = some t from k1) k2 (by rw [List.length_set, k6, k4]) (by
      intro j' v hv'
      rw [k3]
      by_cases ej : j' = j
      · subst ej
        rw [List.getElem?_set_self hv] at hv'
        cases hv'
        exact k8 j' x hj
      · rw [List.getElem?_set_ne (fun z => ej z.symm)] at hv'
        exact k7 j' v hv')
    rw [k3] at this
    exact this
  refine Tp_step ha (fun k => ?_) (g _ ⟨hw', frOk_arr ho.2 k1 k5 (mIn_mem hm) (hi := j + 1000) (pOkA_up hq (by omega)) (pOkB_up (lo := 0) hb) (fun j2 hj2 => List.getElem?_set_ne (by omega)) (fun j2 hj2 => absurd hj2 (Nat.not_lt_zero j2))⟩ (fun c' k => gF_setX k5) (fun c' j' hc => gX_set k5 (fun z => absurd z hc)))
  show a_last np k (lv, .long x :: Value.int (Int32.ofInt (j : Int)) :: .ref c :: st, w, 0, 0) = _
  simp only [a_last, xg_eq, xs_eq, k5, e, e3, List.getElem?_eq_getElem hv]
end HJJ
theorem aj_220 : aJ 220 = some (68, 16) := by decide +kernel
theorem aj_221 : aJ 221 = some (69, 16) := by decide +kernel
theorem sg_read : ∀ k < 94, k = 0 ∨ sgq (sga (aSg 216) k) (sga (aSg 215) k) = true := by decide +kernel
theorem ap_rows : aP 215 0 1 1 12 = true := by decide +kernel
def dH_take : List (Nat × Nat) := [(61, 2)]
def dH_begin : List (Nat × Nat) := [(61, 777), (61, 0), (61, 2), (61, 3), (61, 4), (61, 5), (61, 10)] ++ dH_go
theorem dH_begin1 : msub dH_take dH_begin = true := by decide +kernel
theorem dH_begin2 : msub dH_go dH_begin = true := by decide +kernel
theorem s_take {kn : sKn} {w : sW} (hw : wOk ZZ w) : ∃ (w' : sW) (b : Int), fX12_take kn [.ref 213] w = some (some (hI b), w', 0, 0) ∧ hO dH_take w w' ∧ (0 ≤ b ∧ b ≤ 940) := by
  have K : Tp (tX12_take kn) (fun r => ∃ (w' : sW) (b : Int), r = (some (hI b), w', 0, 0) ∧ hO dH_take w w' ∧ (0 ≤ b ∧ b ≤ 940)) 0 (lv_args 0 [.ref 213], [], w, 0, 0) := by
    have l0 : hL (lv_args 0 [.ref 213]) (lv_args 0 [.ref 213]) := hL_ex rfl
    have o0 : hO dH_take w w := hO_rf hw
    refine h_aload rfl l0 rfl ?_
    refine h_getI rfl o0 fi_2 (fun b1a b1b => ?_)
    refine h_istore rfl l0 (fun vl2 l2 => ?_)
    refine h_aload rfl l2 rfl ?_
    refine h_intv k_0 rfl ?_
    refine h_putI rfl o0 fi_2 rfl (by omega) (by omega) (fun w3 o3 q4a q4b q4c => ?_)
    refine h_iload rfl l2 rfl ?_
    refine h_iret rfl ?_
    exact ⟨_, _, rfl, o3, by omega⟩
  obtain ⟨r, h1, w2, b, h2, h3⟩ := h_meth1 (nL := 2) rfl K
  rw [h2] at h1
  exact ⟨w2, b, h1, h3⟩
theorem s_begin {kn : sKn} {w : sW} (hw : wOk ZZ w) (x : Int) (hx : 0 ≤ x ∧ x ≤ 940) : ∃ w', fX12_begin kn [.ref 213, hI x] w = some (none, w', 0, 0) ∧ hO dH_begin w w' := by
  have K : Tp (tX12_begin kn) (fun r => ∃ w', r = (none, w', 0, 0) ∧ hO dH_begin w w') 0 (lv_args 0 [.ref 213, hI x], [], w, 0, 0) := by
    have l0 : hL (lv_args 0 [.ref 213, hI x]) (lv_args 0 [.ref 213, hI x]) := hL_ex rfl
    have o0 : hO dH_begin w w := hO_rf hw
    refine h_aload rfl l0 rfl ?_
    refine h_intv k_0 rfl ?_
    refine h_putI rfl o0 fi_0 rfl (by omega) (by omega) (fun w1 o1 q2a q2b q2c => ?_)
    refine h_aload rfl l0 rfl ?_
    refine h_aload rfl l0 rfl ?_
    obtain ⟨wA, bA, hf3, oA', hbA⟩ := s_take (kn := kn) o1.1
    have oA : hO dH_begin w wA := hO_tr o1 (hO_mono dH_begin1 oA')
    refine h_V1 rfl o1 l0 ci_213 rfl rfl hf3 ?_
    refine h_putI rfl oA fi_3 rfl (by omega) (by omega) (fun w4 o4 q5a q5b q5c => ?_)
    refine h_aload rfl l0 rfl ?_
    refine h_iload rfl l0 rfl ?_
    refine h_putI rfl o4 fi_4 rfl (by omega) (by omega) (fun w6 o6 q7a q7b q7c => ?_)
    refine h_aload rfl l0 rfl ?_
    refine h_intv k_0 rfl ?_
    refine h_putI rfl o6 fi_10 rfl (by omega) (by omega) (fun w8 o8 q9a q9b q9c => ?_)
    refine h_aload rfl l0 rfl ?_
    refine h_intv k_0 rfl ?_
    refine h_putI rfl o8 fi_5 rfl (by omega) (by omega) (fun w10 o10 q11a q11b q11c => ?_)
    refine h_aload rfl l0 rfl ?_
    obtain ⟨wB, hf12, oB', _⟩ := s_go (kn := kn) o10.1
    have oB : hO dH_begin w wB := hO_tr o10 (hO_mono dH_begin2 oB')
    refine h_W1 rfl o10 l0 ci_213 rfl rfl hf12 ?_
    refine h_vret rfl ?_
    exact ⟨_, rfl, oB⟩
  obtain ⟨r, h1, w2, h2, h3⟩ := h_meth1 (nL := 2) rfl K
  rw [h2] at h1
  exact ⟨w2, h1, h3⟩
def dH_br : List (Nat × Nat) := [(61, 779), (61, 23), (61, 24), (61, 25), (61, 26), (63, 999), (68, 999)] ++ dH_begin ++ dX12_startRead ++ dX12_readLine ++ dH_re ++ dX12_startSo
theorem dH_br1 : msub dH_begin dH_br = true := by decide +kernel
theorem dH_br2 : msub dX12_startRead dH_br = true := by decide +kernel
theorem dH_br3 : msub dX12_readLine dH_br = true := by decide +kernel
theorem dH_br4 : msub dH_re dH_br = true := by decide +kernel
theorem dH_br5 : msub dX12_startSo dH_br = true := by decide +kernel
theorem br_e {kn : sKn} {w0 w : sW} (n : Int) (lv : List (Nat × Value)) (o0 : hO dH_br w0 w) (l0 : hL lv [(0, .ref 213), (1, hI n)]) : Tp (tX12_bridge kn) (fun r => ∃ (w' : sW) (v : Int), r = (some (hI v), w', 0, 0) ∧ hO dH_br w0 w' ∧ (-2147483648 ≤ v ∧ v ≤ 2147483647)) 114 (lv, [], w, 0, 0) := by
  refine h_aload rfl l0 rfl ?_
  obtain ⟨wA, hf1, oA'⟩ := s_startSo (kn := kn) o0.1
  have oA : hO dH_br w0 wA := hO_tr o0 (hO_mono dH_br5 oA')
  refine h_W1 rfl o0 l0 ci_213 rfl rfl hf1 ?_
  refine h_aload rfl l0 rfl ?_
  refine h_intv k_0 rfl ?_
  refine h_putI rfl oA fi_23 rfl (by omega) (by omega) (fun w2 o2 q3a q3b q3c => ?_)
  refine h_iload rfl l0 rfl ?_
  refine h_iret rfl ?_
  exact ⟨_, wr n, by rw [← hI_wr], o2, wr_R n⟩
theorem br_n {kn : sKn} {w0 : sW} (n : Int) : ∀ (m k : Nat) (w : sW) (lv : List (Nat × Value)) (x : Int), k + m = 16 → x = (k : Int) → hO dH_br w0 w → hL lv [(0, .ref 213), (1, hI n), (2, hI x)] → Tp (tX12_bridge kn) (fun r => ∃ (w' : sW) (v : Int), r = (some (hI v), w', 0, 0) ∧ hO dH_br w0 w' ∧ (-2147483648 ≤ v ∧ v ≤ 2147483647)) 90 (lv, [], w, 0, 0) := by
  intro m
  induction m with
  | zero =>
    intro k w lv x hkm hxk o0 l0
    subst hxk
    refine h_iload rfl l0 rfl ?_
    refine h_intv k_16 rfl ?_
    refine i_ge (kn := kn) (t := 3) (tgt := 114) (np := 96) rfl (by unfold R32; omega) (by unfold R32; omega) (fun e1 => ?_) (fun e1 => ?_)
    · exact br_e n _ o0 (hL_take 2 l0)
    · omega
  | succ m ih =>
    intro k w lv x hkm hxk o0 l0
    subst hxk
    refine h_iload rfl l0 rfl ?_
    refine h_intv k_16 rfl ?_
    refine i_ge (kn := kn) (t := 3) (tgt := 114) (np := 96) rfl (by unfold R32; omega) (by unfold R32; omega) (fun e1 => ?_) (fun e1 => ?_)
    · omega
    · refine h_aload rfl l0 rfl ?_
      refine h_getR rfl o0 fr_19 ?_
      refine h_iload rfl l0 rfl ?_
      refine h_aload rfl l0 rfl ?_
      refine h_getR rfl o0 fr_20 ?_
      refine h_iload rfl l0 rfl ?_
      refine h_lald (k) rfl o0 aj_221 rfl (by omega) (by omega) (fun j2 => ?_)
      refine h_last (k) rfl o0 aj_220 rfl rfl (by omega) (by omega) (fun w3 o3 q4b q4c => ?_)
      refine h_iincv k_1 rfl l0 rfl (fun vl5 l5 => ?_)
      refine h_goto rfl ?_
      exact ih (k + 1) w3 _ ((k : Int) + 1) (by omega) (by omega) o3 l5
theorem rd_seg {D : List (Nat × Nat)} {w0 w : sW} (o0 : hO D w0 w) (hr : 1 ≤ gX w 216 0 ∧ gX w 216 0 ≤ 12) {k : Nat} (hk : k < 94) : ∃ e, sga (aSg 215) k = some e ∧ fvOk ZZ (0, e) (hI (gX w 216 k)) := by
  rcases sg_read k hk with e | e
  · subst e
    refine ⟨.inl (1, 12), rfl, gX w 216 0, hI_vOk ⟨by omega, by omega⟩, hr⟩
  · rw [← sgq_ok e]
    exact gX_seg o0 ai_216 (by omega)
theorem br_r {kn : sKn} {w0 : sW} (n : Int) : ∀ (m k : Nat) (w : sW) (lv : List (Nat × Value)) (x : Int), k + m = 94 → x = (k : Int) → hO dH_br w0 w → (1 ≤ gX w 216 0 ∧ gX w 216 0 ≤ 12) → hL lv [(0, .ref 213), (1, hI n), (2, hI x)] → Tp (tX12_bridge kn) (fun r => ∃ (w' : sW) (v : Int), r = (some (hI v), w', 0, 0) ∧ hO dH_br w0 w' ∧ (-2147483648 ≤ v ∧ v ≤ 2147483647)) 64 (lv, [], w, 0, 0) := by
  intro m
  induction m with
  | zero =>
    intro k w lv x hkm hxk o0 hr l0
    subst hxk
    refine h_iload rfl l0 rfl ?_
    refine h_intv k_94 rfl ?_
    refine i_ge (kn := kn) (t := 3) (tgt := 88) (np := 70) rfl (by unfold R32; omega) (by unfold R32; omega) (fun e1 => ?_) (fun e1 => ?_)
    · refine h_intv k_0 rfl ?_
      refine h_istore rfl l0 (fun vl2 l2 => ?_)
      exact br_n n 16 0 _ _ 0 rfl rfl o0 l2
    · omega
  | succ m ih =>
    intro k w lv x hkm hxk o0 hr l0
    subst hxk
    refine h_iload rfl l0 rfl ?_
    refine h_intv k_94 rfl ?_
    refine i_ge (kn := kn) (t := 3) (tgt := 88) (np := 70) rfl (by unfold R32; omega) (by unfold R32; omega) (fun e1 => ?_) (fun e1 => ?_)
    · omega
    · refine h_aload rfl l0 rfl ?_
      refine h_getR rfl o0 fr_14 ?_
      refine h_iload rfl l0 rfl ?_
      refine h_aload rfl l0 rfl ?_
      refine h_getR rfl o0 fr_15 ?_
      refine h_iload rfl l0 rfl ?_
      refine h_ialdj (k) rfl o0 ai_216 rfl (by omega) (by omega) (fun b2a b2b => ?_)
      refine h_iaste (k) rfl o0 ai_215 rfl rfl (by omega) (by omega) (rd_seg o0 hr (by omega)) (by unfold R32; omega) (fun w3 o3 q4a q4b q4c => ?_)
      refine h_iincv k_1 rfl l0 rfl (fun vl5 l5 => ?_)
      refine h_goto rfl ?_
      exact ih (k + 1) w3 _ ((k : Int) + 1) (by omega) (by omega) o3 (by rw [q4b 216 0 (fun z => absurd z (by decide))]; exact hr) l5
theorem rho_lo {D : List (Nat × Nat)} {w0 w : sW} (o0 : hO D w0 w) : -940 ≤ rhoV w ∧ rhoV w ≤ 941 := by
  obtain ⟨_, _, _, _, _, _, _, a1, a2⟩ := fI_ok o0 fi_3
  obtain ⟨_, _, _, _, _, _, _, b1, b2⟩ := fI_ok o0 fi_5
  unfold rhoV
  split <;> omega
theorem br_l {kn : sKn} {w0 : sW} : ∀ (m : Nat) (w : sW) (lv : List (Nat × Value)) (n : Int), rhoV w + 2000 ≤ (m : Int) → hO dH_br w0 w → (1 ≤ gX w 216 0 ∧ gX w 216 0 ≤ 12) → hL lv [(0, .ref 213), (1, hI n)] → Tp (tX12_bridge kn) (fun r => ∃ (w' : sW) (v : Int), r = (some (hI v), w', 0, 0) ∧ hO dH_br w0 w' ∧ (-2147483648 ≤ v ∧ v ≤ 2147483647)) 28 (lv, [], w, 0, 0) := by
  intro m
  induction m with
  | zero =>
    intro w lv n hm o0
    have := rho_lo o0
    omega
  | succ m ih =>
    intro w lv n hm o0 hr l0
    refine h_aload rfl l0 rfl ?_
    refine h_getI rfl o0 fi_7 (fun b1a b1b => ?_)
    refine j_eq (kn := kn) (t := 0) (tgt := 62) (np := 35) rfl (by unfold R32; omega) (fun e2 => ?_) (fun e2 => ?_)
    · refine h_intv k_0 rfl ?_
      refine h_istore rfl l0 (fun vl3 l3 => ?_)
      exact br_r n 94 0 _ _ 0 rfl rfl o0 hr l3
    · refine h_aload rfl l0 rfl ?_
      obtain ⟨wA, bA, hf4, oA', hbA, hrA⟩ := s_readLine (kn := kn) o0.1 hr
      have oA : hO dH_br w0 wA := hO_tr o0 (hO_mono dH_br3 oA')
      have jA := (jW_of oA' (by decide +kernel)).2.2
      refine h_V1 rfl o0 l0 ci_213 rfl rfl hf4 ?_
      refine j_eq (kn := kn) (t := 0) (tgt := 49) (np := 42) rfl (by unfold R32; omega) (fun e5 => ?_) (fun e5 => ?_)
      · refine h_intv k_n1 rfl ?_
        refine h_aload rfl l0 rfl ?_
        refine h_getI rfl oA fi_11 (fun b6a b6b => ?_)
        refine h_isub rfl ?_
        refine h_iret rfl ?_
        exact ⟨_, _, rfl, oA, by omega⟩
      · refine h_aload rfl l0 rfl ?_
        obtain ⟨wB, bB, hf7, oB', hbB, hsB⟩ := s_readEnd (kn := kn) oA.1
        have oB : hO dH_br w0 wB := hO_tr oA (hO_mono dH_br4 oB')
        refine h_V1 rfl oA l0 ci_213 rfl rfl hf7 ?_
        refine j_ne (kn := kn) (t := 1) (tgt := 56) (np := 49) rfl (by unfold R32; omega) (fun e8 => ?_) (fun e8 => ?_)
        · refine h_iincv k_1 rfl l0 rfl (fun vl9 l9 => ?_)
          refine h_goto rfl ?_
          exact ih wB _ _ (by have := hsB (by omega); omega) oB (by rw [fr_gX (t := 64) oB'.2 rfl (by decide +kernel) oA.1 (by decide +kernel) 0]; exact hrA) l9
        · refine h_intv k_n1 rfl ?_
          refine h_aload rfl l0 rfl ?_
          refine h_getI rfl oB fi_11 (fun b10a b10b => ?_)
          refine h_isub rfl ?_
          refine h_iret rfl ?_
          exact ⟨_, _, rfl, oB, by omega⟩
theorem s_bridge {kn : sKn} {w0 : sW} (hw : wOk ZZ w0) : ∃ (w' : sW) (v : Int), fX12_bridge kn [.ref 213] w0 = some (some (hI v), w', 0, 0) ∧ hO dH_br w0 w' ∧ (-2147483648 ≤ v ∧ v ≤ 2147483647) := by
  have K : Tp (tX12_bridge kn) (fun r => ∃ (w' : sW) (v : Int), r = (some (hI v), w', 0, 0) ∧ hO dH_br w0 w' ∧ (-2147483648 ≤ v ∧ v ≤ 2147483647)) 0 (lv_args 0 [.ref 213], [], w0, 0, 0) := by
    have l0 : hL (lv_args 0 [.ref 213]) (lv_args 0 [.ref 213]) := hL_ex rfl
    have o0 : hO dH_br w0 w0 := hO_rf hw
    refine h_aload rfl l0 rfl ?_
    refine h_intv k_900 rfl ?_
    obtain ⟨wA, hf1, oA'⟩ := s_begin (kn := kn) o0.1 900 (by omega)
    have oA : hO dH_br w0 wA := hO_tr o0 (hO_mono dH_br1 oA')
    refine h_W2 rfl o0 l0 ci_213 rfl rfl hf1 ?_
    refine h_aload rfl l0 rfl ?_
    obtain ⟨wB, hf2, oB', hrB⟩ := s_startRead (kn := kn) oA.1
    have oB : hO dH_br w0 wB := hO_tr oA (hO_mono dH_br2 oB')
    refine h_W1 rfl oA l0 ci_213 rfl rfl hf2 ?_
    refine h_aload rfl l0 rfl ?_
    refine h_intv k_0 rfl ?_
    refine h_putK (by decide +kernel) rfl oB fi_24 rfl (by omega) (by omega) (fun w3 o3 q4a q4b q4c => ?_)
    refine h_aload rfl l0 rfl ?_
    refine h_intv k_0 rfl ?_
    refine h_putK (by decide +kernel) rfl o3 fi_25 rfl (by omega) (by omega) (fun w5 o5 q6a q6b q6c => ?_)
    refine h_aload rfl l0 rfl ?_
    refine h_intv k_0 rfl ?_
    refine h_putK (by decide +kernel) rfl o5 fi_26 rfl (by omega) (by omega) (fun w7 o7 q8a q8b q8c => ?_)
    refine h_intv k_0 rfl ?_
    refine h_istore rfl l0 (fun vl9 l9 => ?_)
    exact br_l 2941 w7 _ _ (by have := rho_lo o7; omega) o7 (by rw [q8c, q6c, q4c, hrB]; omega) l9
  obtain ⟨r, h1, w2, b, h2, h3⟩ := h_meth1 (nL := 3) rfl K
  rw [h2] at h1
  exact ⟨w2, b, h1, h3⟩
end
