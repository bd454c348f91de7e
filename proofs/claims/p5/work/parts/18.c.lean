noncomputable section
theorem pOkA_up {mods : List (Nat × Nat)} {t hi hi' : Nat} (h : pOkA mods t hi = true) (h2 : 196 ≤ hi) : pOkA mods t hi' = true := by
  unfold pOkA at h ⊢
  cases e : mIn mods 61 778 with
  | true => rfl
  | false =>
    rw [e] at h
    cases e2 : pTy t with
    | false => rfl
    | true =>
      rw [e2] at h
      cases e3 : Nat.beq t 63 with
      | true =>
        rw [e3] at h
        have := Nat.blt_eq.mp h
        omega
      | false =>
        rw [e3] at h
        cases h
theorem pOkB_5 {mods : List (Nat × Nat)} {t lo : Nat} (h : pOkB mods t 5 = true) (h2 : 5 ≤ lo) : pOkB mods t lo = true := by
  unfold pOkB at h ⊢
  cases e : mIn mods 61 779 with
  | true => rfl
  | false =>
    cases e3 : Nat.beq t 63 with
    | true => exact Nat.ble_eq_true_of_le h2
    | false => rfl
/-- a store of what fits its place -/
theorem h_iaste {tbl : List (Nat × sA)} {Po : sR → Prop} {pc np : Nat} {lv : List (Nat × Value)} {st : List Value} {w w0 : sW} {D : List (Nat × Nat)} {c t n : Nat} {i z : Int} (j : Nat) (ha : t_get tbl pc = some (a_iast np)) (ho : hO D w0 w) (hf : aI c = some (t, n)) (hn : Nat.blt n 2147483648 = true) (hm : mIn D t 999 = true) (hi : i = (j : Int)) (hj : j < n) (hel : ∃ e, sga (aSg c) j = some e ∧ fvOk ZZ (0, e) (hI z)) (r : R32 z) (g : ∀ w', hO D w0 w' → gX w' c j = z → (∀ c' j', (c' = c → j' ≠ j) → gX w' c' j' = gX w c' j') → (∀ c' k, gF w' c' k = gF w c' k) → Tp tbl Po np (lv, st, w', 0, 0)) (hq : pOkA D t 999 = true ∨ (pOkA D t 195 = true ∧ j ≤ 195) := by first | exact Or.inl rfl | exact Or.inr ⟨rfl, by omega⟩) (hb : pOkB D t 0 = true ∨ (pOkB D t 5 = true ∧ 5 ≤ j) := by first | exact Or.inl rfl | exact Or.inr ⟨rfl, by omega⟩) : Tp tbl Po pc (lv, hI z :: hI i :: .ref c :: st, w, 0, 0) := by
  subst hi
  have hn := Nat.blt_eq.mp hn
  obtain ⟨vs, q, k1, k2, k3, k4, k5, k6, k7, k8⟩ := aI_ok ho hf
  have hl := (List.getElem?_eq_some_iff.mp k6).1
  have hv : j < vs.length := by omega
  have e := ixN_hI (i := (j : Int)) (by omega) (by omega)
  have ej : (j : Int).toNat = j := by omega
  rw [ej] at e
  have e1 : (w.set c (.inl (1, vs.set j (hI z))))[c]? = some (.inl (1, vs.set j (hI z))) := List.getElem?_set_self hl
  have hw' : wOk ZZ (w.set c (.inl (1, vs.set j (hI z)))) := by
    have := wOk_arr (Z := ZZ) (vs' := vs.set j (hI z)) ho.1 (show ZZ.2 c = some t from k1) k2 (by rw [List.length_set, k7, k4]) (by
      intro j' v hv'
      rw [k5, k3]
      by_cases ej : j' = j
      · subst ej
        rw [List.getElem?_set_self hv] at hv'
        cases hv'
        exact hel
      · rw [List.getElem?_set_ne (fun z => ej z.symm)] at hv'
        exact k8 j' v hv')
    rw [k3] at this
    exact this
  have hq' : frOk ZZ D w0 (w.set c (.inl (1, vs.set j (hI z)))) := by
    have hb' : pOkB D t j = true := by
      rcases hb with hb | ⟨hb, hb2⟩
      · exact pOkB_up hb
      · exact pOkB_5 hb hb2
    rcases hq with hq | ⟨hq, hq2⟩
    · refine frOk_arr ho.2 k1 k6 (mIn_mem hm) (hi := n + 1000) (pOkA_up hq (by omega)) hb' (fun j' hj' => List.getElem?_set_ne (by omega)) (fun j' hj' => List.getElem?_set_ne (by omega))
    · exact frOk_arr ho.2 k1 k6 (mIn_mem hm) hq hb' (fun j' hj' => List.getElem?_set_ne (by omega)) (fun j' hj' => List.getElem?_set_ne (by omega))
  refine Tp_step ha (fun k => ?_) (g _ ⟨hw', hq'⟩ (gX_at e1 (List.getElem?_set_self hv) r) ?_ ?_)
  · have e3 : Nat.blt j 2147483648 = true := Nat.blt_eq.mpr (by omega)
    have e4 : iq (hI z) = true := rfl
    show a_iast np k (lv, hI z :: Value.int (Int32.ofInt (j : Int)) :: .ref c :: st, w, 0, 0) = _
    simp only [a_iast, e4, xg_eq, xs_eq, k6, e, e3, List.getElem?_eq_getElem hv]
  · intro c' j' hc
    refine gX_set k6 (fun e => ?_)
    exact List.getElem?_set_ne (fun z => hc e z.symm)
  · intro c' k
    exact gF_setX k6
theorem gX_seg {D : List (Nat × Nat)} {w0 w : sW} {c t n j : Nat} (ho : hO D w0 w) (h : aI c = some (t, n)) (hj : j < n) : ∃ e, sga (aSg c) j = some e ∧ fvOk ZZ (0, e) (hI (gX w c j)) := by
  obtain ⟨vs, q, _, _, _, _, _, w1, w2, w3⟩ := aI_ok ho h
  have hj : j < vs.length := by omega
  obtain ⟨e, e1, z, z1, z2⟩ := w3 j _ (List.getElem?_eq_getElem hj)
  obtain ⟨e2, r⟩ := vOk_hI z1
  have eg := gX_at (c := c) w1 (by rw [List.getElem?_eq_getElem hj, e2]) r
  refine ⟨e, e1, ?_⟩
  rw [eg]
  exact ⟨z, hI_vOk r, z2⟩
def sgq (a b : Option eE) : Bool := match a, b with
  | some (.inl p), some (.inl q) => match zeq p.1 q.1 with
    | true => zeq p.2 q.2
    | false => false
  | _, _ => false
theorem sgq_ok {a b : Option eE} (h : sgq a b = true) : a = b := by
  unfold sgq at h
  split at h
  · rename_i p q
    split at h
    · rename_i c
      rw [zeq_iff] at h c
      obtain ⟨p1, p2⟩ := p
      obtain ⟨q1, q2⟩ := q
      dsimp only at h c
      rw [h, c]
    · cases h
  · cases h
theorem sg_held : ∀ i < 7, ∀ k < 102, sgq (sga (aSg 235) (102 * i + k)) (sga (aSg 215) (94 + k)) = true := by decide +kernel
def clrV (x l : Int) : Int := (Int32.ofInt x &&& Int32.ofInt (Int32.ofInt (Int32.ofInt 1 <<< (Int32.ofInt l &&& 31)).toInt ^^^ Int32.ofInt (-1)).toInt).toInt
def cntV (x : Int) : Nat := ((List.range 6).filter (fun l => decide (hasV x (l : Nat) = 1))).length
theorem clr_b : ∀ x < 64, ∀ l < 6, hasV (x : Nat) (l : Nat) = 1 → 0 ≤ clrV (x : Nat) (l : Nat) ∧ clrV (x : Nat) (l : Nat) < 64 ∧ cntV (clrV (x : Nat) (l : Nat)) + 1 = cntV (x : Nat) := by decide +kernel
theorem cnt_b : ∀ x < 64, x ≠ 0 → 1 ≤ cntV (x : Nat) := by decide +kernel
def dH_ord : List (Nat × Nat) := [(61, 44), (81, 999), (82, 999), (83, 999)] ++ dH_cross
theorem dH_ord1 : msub dH_cross dH_ord = true := by decide +kernel
theorem of_a {kn : sKn} {g : List Value → sW → Option sR} {Po : sR → Prop} {w0 : sW} (i many : Nat) (left cr : Int) (hi : i ≤ 6) (hm : many ≤ 6) (hx : ∀ w : sW, hO dH_ord w0 w → Po (none, w, 0, 0)) : ∀ (m k : Nat) (w : sW) (lv : List (Nat × Value)) (x : Int), k + m = many → x = (k : Int) → hO dH_ord w0 w → hL lv [(0, .ref 213), (1, hI i), (2, hI many), (3, hI left), (4, hI cr), (5, hI x)] → Tp (tX12_orderFrom_g kn g) Po 23 (lv, [], w, 0, 0) := by
  intro m
  induction m with
  | zero =>
    intro k w lv x hpm hxp o0 l0
    subst hxp
    refine h_iload rfl l0 rfl ?_
    refine h_iload rfl l0 rfl ?_
    refine i_ge (kn := kn) (t := 3) (tgt := 49) (np := 29) rfl (by unfold R32; omega) (by unfold R32; omega) (fun e1 => ?_) (fun e1 => ?_)
    · refine h_vret rfl ?_
      exact hx _ o0
    · omega
  | succ m ih =>
    intro k w lv x hpm hxp o0 l0
    subst hxp
    refine h_iload rfl l0 rfl ?_
    refine h_iload rfl l0 rfl ?_
    refine i_ge (kn := kn) (t := 3) (tgt := 49) (np := 29) rfl (by unfold R32; omega) (by unfold R32; omega) (fun e1 => ?_) (fun e1 => ?_)
    · refine h_vret rfl ?_
      omega
    · refine h_aload rfl l0 rfl ?_
      refine h_getR rfl o0 fr_41 ?_
      refine h_iload rfl l0 rfl ?_
      refine h_aload rfl l0 rfl ?_
      refine h_getR rfl o0 fr_40 ?_
      refine h_iload rfl l0 rfl ?_
      refine h_ialdj (k) rfl o0 ai_233 rfl (by omega) (by omega) (fun b2a b2b => ?_)
      refine h_iastj (k) rfl o0 ai_234 rfl rfl aw_234 (by omega) (by omega) (by omega) (by omega) (by omega) (by unfold R32; omega) (fun w3 o3 q4a q4b q4c => ?_)
      refine h_iincv k_1 rfl l0 rfl (fun vl5 l5 => ?_)
      refine h_goto rfl ?_
      exact ih (k + 1) w3 _ ((k : Int) + 1) (by omega) (by omega) o3 l5
theorem of_b {kn : sKn} {g : List Value → sW → Option sR} {Po : sR → Prop} {w0 : sW} (i many : Nat) (left cr : Int) (hi : i ≤ 6) (hm : many ≤ 6) (hx : ∀ (w : sW) (lv : List (Nat × Value)), hO dH_ord w0 w → hL lv [(0, .ref 213), (1, hI i), (2, hI many), (3, hI left), (4, hI cr)] → Tp (tX12_orderFrom_g kn g) Po 88 (lv, [], w, 0, 0)) : ∀ (m k : Nat) (w : sW) (lv : List (Nat × Value)) (x : Int), k + m = 102 → x = (k : Int) → hO dH_ord w0 w → hL lv [(0, .ref 213), (1, hI i), (2, hI many), (3, hI left), (4, hI cr), (5, hI x)] → Tp (tX12_orderFrom_g kn g) Po 53 (lv, [], w, 0, 0) := by
  intro m
  induction m with
  | zero =>
    intro k w lv x hpm hxp o0 l0
    subst hxp
    refine h_iload rfl l0 rfl ?_
    refine h_intv k_102 rfl ?_
    refine i_ge (kn := kn) (t := 3) (tgt := 88) (np := 60) rfl (by unfold R32; omega) (by unfold R32; omega) (fun e1 => ?_) (fun e1 => ?_)
    · exact hx _ _ o0 (hL_take 5 l0)
    · omega
  | succ m ih =>
    intro k w lv x hpm hxp o0 l0
    subst hxp
    refine h_iload rfl l0 rfl ?_
    refine h_intv k_102 rfl ?_
    refine i_ge (kn := kn) (t := 3) (tgt := 88) (np := 60) rfl (by unfold R32; omega) (by unfold R32; omega) (fun e1 => ?_) (fun e1 => ?_)
    · omega
    · refine h_aload rfl l0 rfl ?_
      refine h_getR rfl o0 fr_42 ?_
      refine h_intv k_102 rfl ?_
      refine h_iload rfl l0 rfl ?_
      refine h_imul rfl ?_
      refine h_iload rfl l0 rfl ?_
      refine h_iadd rfl ?_
      refine h_aload rfl l0 rfl ?_
      refine h_getR rfl o0 fr_14 ?_
      refine h_intv k_94 rfl ?_
      refine h_iload rfl l0 rfl ?_
      refine h_iadd rfl ?_
      refine h_ialdj (94 + k) rfl o0 ai_215 rfl (by omega) (by omega) (fun b2a b2b => ?_)
      refine h_iaste (102 * i + k) rfl o0 ai_235 rfl rfl (by omega) (by omega) (by rw [sgq_ok (sg_held i (by omega) k (by omega))]; exact gX_seg o0 ai_215 (by omega)) (by unfold R32; omega) (fun w3 o3 q4a q4b q4c => ?_)
      refine h_iincv k_1 rfl l0 rfl (fun vl5 l5 => ?_)
      refine h_goto rfl ?_
      exact ih (k + 1) w3 _ ((k : Int) + 1) (by omega) (by omega) o3 l5
theorem of_c {kn : sKn} {g : List Value → sW → Option sR} {Po : sR → Prop} {w0 : sW} (i many : Nat) (left cr : Int) (hi : i ≤ 6) (hm : many ≤ 6) (l : Nat) (go : Int) (hx : ∀ (w : sW) (lv : List (Nat × Value)), hO dH_ord w0 w → hL lv [(0, .ref 213), (1, hI i), (2, hI many), (3, hI left), (4, hI cr), (5, hI l)] → Tp (tX12_orderFrom_g kn g) Po 197 (lv, [], w, 0, 0)) : ∀ (m k : Nat) (w : sW) (lv : List (Nat × Value)) (x : Int), k + m = 102 → x = (k : Int) → hO dH_ord w0 w → hL lv [(0, .ref 213), (1, hI i), (2, hI many), (3, hI left), (4, hI cr), (5, hI l), (6, hI go), (7, hI x)] → Tp (tX12_orderFrom_g kn g) Po 162 (lv, [], w, 0, 0) := by
  intro m
  induction m with
  | zero =>
    intro k w lv x hpm hxp o0 l0
    subst hxp
    refine h_iload rfl l0 rfl ?_
    refine h_intv k_102 rfl ?_
    refine i_ge (kn := kn) (t := 3) (tgt := 197) (np := 169) rfl (by unfold R32; omega) (by unfold R32; omega) (fun e1 => ?_) (fun e1 => ?_)
    · exact hx _ _ o0 (hL_take 6 l0)
    · omega
  | succ m ih =>
    intro k w lv x hpm hxp o0 l0
    subst hxp
    refine h_iload rfl l0 rfl ?_
    refine h_intv k_102 rfl ?_
    refine i_ge (kn := kn) (t := 3) (tgt := 197) (np := 169) rfl (by unfold R32; omega) (by unfold R32; omega) (fun e1 => ?_) (fun e1 => ?_)
    · omega
    · refine h_aload rfl l0 rfl ?_
      refine h_getR rfl o0 fr_14 ?_
      refine h_intv k_94 rfl ?_
      refine h_iload rfl l0 rfl ?_
      refine h_iadd rfl ?_
      refine h_aload rfl l0 rfl ?_
      refine h_getR rfl o0 fr_42 ?_
      refine h_intv k_102 rfl ?_
      refine h_iload rfl l0 rfl ?_
      refine h_imul rfl ?_
      refine h_iload rfl l0 rfl ?_
      refine h_iadd rfl ?_
      refine h_ialdj (102 * i + k) rfl o0 ai_235 rfl (by omega) (by omega) (fun b2a b2b => ?_)
      refine h_iaste (94 + k) rfl o0 ai_215 rfl rfl (by omega) (by omega) (by rw [← sgq_ok (sg_held i (by omega) k (by omega))]; exact gX_seg o0 ai_235 (by omega)) (by unfold R32; omega) (fun w3 o3 q4a q4b q4c => ?_)
      refine h_iincv k_1 rfl l0 rfl (fun vl5 l5 => ?_)
      refine h_goto rfl ?_
      exact ih (k + 1) w3 _ ((k : Int) + 1) (by omega) (by omega) o3 l5
theorem of_l {kn : sKn} {g : List Value → sW → Option sR} {Po : sR → Prop} {w0 : sW} (i many : Nat) (left cr : Int) (hi : i ≤ 6) (hm : many ≤ 6) (hi5 : i ≤ 5) (hl0 : 0 ≤ left) (hl1 : left < 64) (hc0 : 0 ≤ cr) (hc1 : cr ≤ i) (hg : ∀ (w : sW) (left' cr' : Int), wOk ZZ w → 0 ≤ left' → left' < 64 → cntV left' + 1 = cntV left → 0 ≤ cr' → cr' ≤ (i : Int) + 1 → ∃ w', g [.ref 213, hI ((i : Int) + 1), hI many, hI left', hI cr'] w = some (none, w', 0, 0) ∧ hO dH_ord w w') (hx : ∀ w : sW, hO dH_ord w0 w → Po (none, w, 0, 0)) : ∀ (m l : Nat) (w : sW) (lv : List (Nat × Value)) (x : Int), l + m = 6 → x = (l : Int) → hO dH_ord w0 w → hL lv [(0, .ref 213), (1, hI i), (2, hI many), (3, hI left), (4, hI cr), (5, hI x)] → Tp (tX12_orderFrom_g kn g) Po 91 (lv, [], w, 0, 0) := by
  intro m
  induction m with
  | zero =>
    intro l w lv x hpm hxp o0 l0
    subst hxp
    refine h_iload rfl l0 rfl ?_
    refine h_aload rfl l0 rfl ?_
    refine h_getR rfl o0 fr_14 ?_
    refine h_intv k_2 rfl ?_
    refine h_ialdj (2) rfl o0 ai_215 rfl (by omega) (by omega) (fun b1a b1b => ?_)
    have b1c := gX_in o0 ai_215 ar_loads (j := 2) (by omega) (by omega) (by omega)
    refine i_ge (kn := kn) (t := 3) (tgt := 203) (np := 102) rfl (by unfold R32; omega) (by unfold R32; omega) (fun e2 => ?_) (fun e2 => ?_)
    · refine h_vret rfl ?_
      exact hx _ o0
    · omega
  | succ m ih =>
    intro l w lv x hpm hxp o0 l0
    subst hxp
    refine h_iload rfl l0 rfl ?_
    refine h_aload rfl l0 rfl ?_
    refine h_getR rfl o0 fr_14 ?_
    refine h_intv k_2 rfl ?_
    refine h_ialdj (2) rfl o0 ai_215 rfl (by omega) (by omega) (fun b1a b1b => ?_)
    have b1c := gX_in o0 ai_215 ar_loads (j := 2) (by omega) (by omega) (by omega)
    refine i_ge (kn := kn) (t := 3) (tgt := 203) (np := 102) rfl (by unfold R32; omega) (by unfold R32; omega) (fun e2 => ?_) (fun e2 => ?_)
    · refine h_vret rfl ?_
      exact hx _ o0
    · refine h_iload rfl l0 rfl ?_
      refine h_iload rfl l0 rfl ?_
      obtain ⟨z3, hf3, hz3, hq3⟩ := s_has (kn := kn) o0.1 left l
      refine h_S2 rfl o0 l0 rfl rfl hf3 ?_
      refine j_ne (kn := kn) (t := 1) (tgt := 114) (np := 111) rfl (by unfold R32; omega) (fun e4 => ?_) (fun e4 => ?_)
      · refine h_aload rfl l0 rfl ?_
        refine h_getR rfl o0 fr_40 ?_
        refine h_iload rfl l0 rfl ?_
        refine h_iload rfl l0 rfl ?_
        refine h_iastj (i) rfl o0 ai_233 rfl rfl aw_233 (by omega) (by omega) (by omega) (by omega) (by omega) (by unfold R32; omega) (fun w5 o5 q6a q6b q6c => ?_)
        refine h_aload rfl l0 rfl ?_
        refine h_iload rfl l0 rfl ?_
        obtain ⟨wB, bB, hf7, oB', hbB⟩ := s_doCross (kn := kn) o5.1 l (by omega)
        have oB : hO dH_ord w0 wB := hO_tr o5 (hO_mono dH_ord1 oB')
        refine h_V2 rfl o5 l0 ci_213 rfl rfl hf7 ?_
        refine j_ne (kn := kn) (t := 1) (tgt := 135) (np := 131) rfl (by unfold R32; omega) (fun e8 => ?_) (fun e8 => ?_)
        · refine h_intv k_0 rfl ?_
          refine h_istore rfl l0 (fun vl9 l9 => ?_)
          refine h_aload rfl l9 rfl ?_
          refine h_iload rfl l9 rfl ?_
          refine h_intv k_1 rfl ?_
          refine h_iadd rfl ?_
          refine h_iload rfl l9 rfl ?_
          refine h_iload rfl l9 rfl ?_
          refine h_intv k_1 rfl ?_
          refine h_iload rfl l9 rfl ?_
          refine h_ishl rfl ?_
          refine h_intv k_n1 rfl ?_
          refine h_ixor rfl ?_
          refine h_iand rfl ?_
          refine h_iload rfl l9 rfl ?_
          refine h_iload rfl l9 rfl ?_
          refine h_iadd rfl ?_
          obtain ⟨t1, t2, t3⟩ := clr_b left.toNat (by omega) l (by omega) (by rw [show ((left.toNat : Nat) : Int) = left by omega]; exact hq3.mp (by omega))
          rw [show ((left.toNat : Nat) : Int) = left by omega] at t1 t2 t3
          obtain ⟨wA, hf10, oA'⟩ := hg wB (clrV left l) (cr + 0) oB.1 t1 t2 t3 (by omega) (by omega)
          have oA : hO dH_ord w0 wA := hO_tr oB oA'
          refine h_W5 rfl oB l9 ci_213 rfl rfl hf10 ?_
          refine h_intv k_0 rfl ?_
          refine h_istore rfl l9 (fun vl11 l11 => ?_)
          refine of_c i many left cr (by omega) hm l _ ?_ 102 0 _ _ 0 rfl rfl oA l11
          intro w lv o0 l0
          refine h_iincv k_1 rfl l0 rfl (fun vl1 l1 => ?_)
          refine h_goto rfl ?_
          exact ih (l + 1) w _ ((l : Int) + 1) (by omega) (by omega) o0 (hL_take 6 l1)
        · refine h_intv k_1 rfl ?_
          refine h_goto rfl ?_
          refine h_istore rfl l0 (fun vl12 l12 => ?_)
          refine h_aload rfl l12 rfl ?_
          refine h_iload rfl l12 rfl ?_
          refine h_intv k_1 rfl ?_
          refine h_iadd rfl ?_
          refine h_iload rfl l12 rfl ?_
          refine h_iload rfl l12 rfl ?_
          refine h_intv k_1 rfl ?_
          refine h_iload rfl l12 rfl ?_
          refine h_ishl rfl ?_
          refine h_intv k_n1 rfl ?_
          refine h_ixor rfl ?_
          refine h_iand rfl ?_
          refine h_iload rfl l12 rfl ?_
          refine h_iload rfl l12 rfl ?_
          refine h_iadd rfl ?_
          obtain ⟨t1, t2, t3⟩ := clr_b left.toNat (by omega) l (by omega) (by rw [show ((left.toNat : Nat) : Int) = left by omega]; exact hq3.mp (by omega))
          rw [show ((left.toNat : Nat) : Int) = left by omega] at t1 t2 t3
          obtain ⟨wA, hf13, oA'⟩ := hg wB (clrV left l) (cr + 1) oB.1 t1 t2 t3 (by omega) (by omega)
          have oA : hO dH_ord w0 wA := hO_tr oB oA'
          refine h_W5 rfl oB l12 ci_213 rfl rfl hf13 ?_
          refine h_intv k_0 rfl ?_
          refine h_istore rfl l12 (fun vl14 l14 => ?_)
          refine of_c i many left cr (by omega) hm l _ ?_ 102 0 _ _ 0 rfl rfl oA l14
          intro w lv o0 l0
          refine h_iincv k_1 rfl l0 rfl (fun vl1 l1 => ?_)
          refine h_goto rfl ?_
          exact ih (l + 1) w _ ((l : Int) + 1) (by omega) (by omega) o0 (hL_take 6 l1)
      · refine h_goto rfl ?_
        refine h_iincv k_1 rfl l0 rfl (fun vl15 l15 => ?_)
        refine h_goto rfl ?_
        exact ih (l + 1) w _ ((l : Int) + 1) (by omega) (by omega) o0 (hL_take 6 l15)
theorem of_g {kn : sKn} {g : List Value → sW → Option sR} {w0 : sW} (hw : wOk ZZ w0) (i many : Nat) (left cr : Int) (hi : i ≤ 6) (hm : many ≤ 6) (hs : i + cntV left ≤ 6) (hl0 : 0 ≤ left) (hl1 : left < 64) (hc0 : 0 ≤ cr) (hc1 : cr ≤ i) (hg : ∀ (w : sW) (left' cr' : Int), wOk ZZ w → 0 ≤ left' → left' < 64 → cntV left' + 1 = cntV left → 0 ≤ cr' → cr' ≤ (i : Int) + 1 → ∃ w', g [.ref 213, hI ((i : Int) + 1), hI many, hI left', hI cr'] w = some (none, w', 0, 0) ∧ hO dH_ord w w') : ∃ w', fX12_orderFrom_g kn g [.ref 213, hI i, hI many, hI left, hI cr] w0 = some (none, w', 0, 0) ∧ hO dH_ord w0 w' := by
  have K : Tp (tX12_orderFrom_g kn g) (fun r => ∃ w', r = (none, w', 0, 0) ∧ hO dH_ord w0 w') 0 (lv_args 0 [.ref 213, hI i, hI many, hI left, hI cr], [], w0, 0, 0) := by
    have l0 : hL (lv_args 0 [.ref 213, hI i, hI many, hI left, hI cr]) (lv_args 0 [.ref 213, hI i, hI many, hI left, hI cr]) := hL_ex rfl
    have o0 : hO dH_ord w0 w0 := hO_rf hw
    refine h_iload rfl l0 rfl ?_
    refine j_ne (kn := kn) (t := 1) (tgt := 50) (np := 4) rfl (by unfold R32; omega) (fun e1 => ?_) (fun e1 => ?_)
    · refine h_intv k_0 rfl ?_
      refine h_istore rfl l0 (fun vl2 l2 => ?_)
      have hcn := cnt_b left.toNat (by omega) (by omega)
      rw [show ((left.toNat : Nat) : Int) = left by omega] at hcn
      refine of_b i many left cr hi hm ?_ 102 0 _ _ 0 rfl rfl o0 l2
      intro w lv o0 l0
      refine h_intv k_0 rfl ?_
      refine h_istore rfl l0 (fun vl1 l1 => ?_)
      exact of_l i many left cr hi hm (by omega) hl0 hl1 hc0 hc1 hg (fun w o => ⟨w, rfl, o⟩) 6 0 _ _ 0 rfl rfl o0 l1
    · refine h_iload rfl l0 rfl ?_
      refine h_aload rfl l0 rfl ?_
      refine h_getI rfl o0 fi_44 (fun b3a b3b => ?_)
      refine i_gt (kn := kn) (t := 4) (tgt := 14) (np := 13) rfl (by unfold R32; omega) (by unfold R32; omega) (fun e4 => ?_) (fun e4 => ?_)
      · refine h_aload rfl l0 rfl ?_
        refine h_iload rfl l0 rfl ?_
        refine h_putI rfl o0 fi_44 rfl (by omega) (by omega) (fun w5 o5 q6a q6b q6c => ?_)
        refine h_intv k_0 rfl ?_
        refine h_istore rfl l0 (fun vl7 l7 => ?_)
        exact of_a i many left cr hi hm (fun w o => ⟨w, rfl, o⟩) many 0 _ _ 0 (by omega) rfl o5 l7
      · refine h_vret rfl ?_
        exact ⟨_, rfl, o0⟩
  obtain ⟨r, h1, w2, h2, h3⟩ := h_meth1 (nL := 8) rfl K
  rw [h2] at h1
  exact ⟨w2, h1, h3⟩
theorem of_n {kn : sKn} (many : Nat) (hm : many ≤ 6) : ∀ (d i : Nat) (left cr : Int) (w : sW), cntV left < d → i + cntV left ≤ 6 → 0 ≤ left → left < 64 → 0 ≤ cr → cr ≤ i → wOk ZZ w → ∃ w', fX12_orderFrom_n kn d [.ref 213, hI i, hI many, hI left, hI cr] w = some (none, w', 0, 0) ∧ hO dH_ord w w' := by
  intro d
  induction d with
  | zero =>
    intro i left cr w h1
    omega
  | succ d ih =>
    intro i left cr w h1 h2 h3 h4 h5 h6 hw
    exact of_g hw i many left cr (by omega) hm h2 h3 h4 h5 h6 (fun w left' cr' hw g1 g2 g3 g4 g5 => by
      have k := ih (i + 1) left' cr' w (by omega) (by omega) g1 g2 g4 (by omega) hw
      rw [show ((i + 1 : Nat) : Int) = (i : Int) + 1 by omega] at k
      exact k)
theorem s_orderFrom {kn : sKn} {w : sW} (hw : wOk ZZ w) (many : Nat) (hm : many ≤ 6) (left : Int) (h0 : 0 ≤ left) (h1 : left < 64) (hc : cntV left ≤ 6) : ∃ w', fX12_orderFrom kn [.ref 213, hI (0 : Int), hI many, hI left, hI (0 : Int)] w = some (none, w', 0, 0) ∧ hO dH_ord w w' := of_n many hm 8 0 left 0 w (by omega) (by omega) h0 h1 (by omega) (by omega) hw
theorem con_v4 {D : List (Nat × Nat)} {f : List Value → sW → Option sR} {a1 b1 a2 b2 a3 b3 a4 b4 : Int} (h : ∀ (w : sW) (x1 x2 x3 x4 : Int), wOk ZZ w → a1 ≤ x1 → x1 ≤ b1 → R32 x1 → a2 ≤ x2 → x2 ≤ b2 → R32 x2 → a3 ≤ x3 → x3 ≤ b3 → R32 x3 → a4 ≤ x4 → x4 ≤ b4 → R32 x4 → ∃ w' : sW, f [.ref 213, hI x1, hI x2, hI x3, hI x4] w = some (none, w', 0, 0) ∧ hO D w w') : Con ZZ D f ([(2, 0, 213), (0, 1, 0), (0, 2, 0), (0, 3, 0), (0, 4, 0)], [], [(4, .inl (a4, b4)), (3, .inl (a3, b3)), (2, .inl (a2, b2)), (1, .inl (a1, b1))], 5, [([], [], [], [], 5)]) := by
  intro σ0 av w hN h0 hS hM hE hw hwf
  have hS0 : gS σ0 [(2, 0, 213), (0, 1, 0), (0, 2, 0), (0, 3, 0), (0, 4, 0)] av := hS
  obtain ⟨v0, st0, rfl, ⟨z0, e0, d0⟩, hS0⟩ := gS_1 hS0
  obtain ⟨v1, st1, rfl, ⟨z1, e1, d1⟩, hS1⟩ := gS_1 hS0
  obtain ⟨v2, st2, rfl, ⟨z2, e2, d2⟩, hS2⟩ := gS_1 hS1
  obtain ⟨v3, st3, rfl, ⟨z3, e3, d3⟩, hS3⟩ := gS_1 hS2
  obtain ⟨v4, st4, rfl, ⟨z4, e4, d4⟩, hS4⟩ := gS_1 hS3
  rw [gS_0 hS4] at hwf ⊢
  rw [h0] at e0
  cases e0
  obtain ⟨k, rfl, hk⟩ := d0
  have hk : (k : Int) = 0 + 213 := hk
  have hk2 : k = 213 := by omega
  subst hk2
  obtain ⟨rfl, r1⟩ := vOk_hI d1
  obtain ⟨y1, g1, c1⟩ := hE (1, .inl (a1, b1)) (List.mem_cons_of_mem _ (List.mem_cons_of_mem _ (List.mem_cons_of_mem _ List.mem_cons_self)))
  have e1 : σ0[1]? = some z1 := e1
  have g1 : σ0[1]? = some y1 := g1
  rw [e1] at g1
  cases g1
  have c1 : a1 ≤ z1 ∧ z1 ≤ b1 := c1
  have q1 : z1 + ((0, 1, 0) : eV).2.2 = z1 := Int.add_zero _
  rw [q1] at r1 ⊢
  obtain ⟨rfl, r2⟩ := vOk_hI d2
  obtain ⟨y2, g2, c2⟩ := hE (2, .inl (a2, b2)) (List.mem_cons_of_mem _ (List.mem_cons_of_mem _ List.mem_cons_self))
  have e2 : σ0[2]? = some z2 := e2
  have g2 : σ0[2]? = some y2 := g2
  rw [e2] at g2
  cases g2
  have c2 : a2 ≤ z2 ∧ z2 ≤ b2 := c2
  have q2 : z2 + ((0, 2, 0) : eV).2.2 = z2 := Int.add_zero _
  rw [q2] at r2 ⊢
  obtain ⟨rfl, r3⟩ := vOk_hI d3
  obtain ⟨y3, g3, c3⟩ := hE (3, .inl (a3, b3)) (List.mem_cons_of_mem _ List.mem_cons_self)
  have e3 : σ0[3]? = some z3 := e3
  have g3 : σ0[3]? = some y3 := g3
  rw [e3] at g3
  cases g3
  have c3 : a3 ≤ z3 ∧ z3 ≤ b3 := c3
  have q3 : z3 + ((0, 3, 0) : eV).2.2 = z3 := Int.add_zero _
  rw [q3] at r3 ⊢
  obtain ⟨rfl, r4⟩ := vOk_hI d4
  obtain ⟨y4, g4, c4⟩ := hE (4, .inl (a4, b4)) List.mem_cons_self
  have e4 : σ0[4]? = some z4 := e4
  have g4 : σ0[4]? = some y4 := g4
  rw [e4] at g4
  cases g4
  have c4 : a4 ≤ z4 ∧ z4 ≤ b4 := c4
  have q4 : z4 + ((0, 4, 0) : eV).2.2 = z4 := Int.add_zero _
  rw [q4] at r4 ⊢
  obtain ⟨w', f1, f2⟩ := h w z1 z2 z3 z4 hw c1.1 c1.2 r1 c2.1 c2.2 r2 c3.1 c3.2 r3 c4.1 c4.2 r4
  refine ⟨⟨_, f1⟩, fun r hr' => ?_⟩
  rw [f1] at hr'
  cases hr'
  exact ⟨rfl, f2.2, f2.1, _, List.mem_cons_self, σ0, ext_rf σ0, hN, trivial, (fun q hq => by cases hq), (fun q hq => by cases hq)⟩
def dX12_orderFrom : List (Nat × Nat) := dH_ord
def xX12_orderFrom : List eX := [([(2, 0, 213), (0, 1, 0), (0, 2, 0), (0, 3, 0), (0, 4, 0)], [], [(4, .inl (0, 0)), (3, .inl (0, 63)), (2, .inl (0, 6)), (1, .inl (0, 0))], 5, [([], [], [], [], 5)])]
theorem cnt_6 (x : Int) : cntV x ≤ 6 := Nat.le_trans (List.length_filter_le _ _) (by simp)
theorem con_X12_orderFrom (kn : sKn) : Cons ZZ dX12_orderFrom (fX12_orderFrom kn) xX12_orderFrom := Cons_c (con_v4 (fun w x1 x2 x3 x4 hw h1 h2 _ h3 h4 _ h5 h6 _ h7 h8 _ => by
  obtain ⟨w', f1, f2⟩ := s_orderFrom (kn := kn) hw x2.toNat (by omega) x3 h5 (by omega) (cnt_6 x3)
  rw [show ((x2.toNat : Nat) : Int) = x2 by omega] at f1
  rw [show x1 = 0 by omega, show x4 = 0 by omega]
  exact ⟨w', f1, f2⟩)) Cons_n
end
