noncomputable section
theorem fq_14_0 : fI 14 7 0 = some (5, 1, 12) := by decide +kernel
theorem fq_14_1 : fI 14 7 1 = some (5, (-2147483648), 2147483647) := by decide +kernel
theorem fq_14_2 : fI 14 7 2 = some (5, 0, 10) := by decide +kernel
theorem fq_14_3 : fI 14 7 3 = some (5, 0, 6) := by decide +kernel
theorem fq_14_4 : fI 14 7 4 = some (5, (-2147483648), 2147483647) := by decide +kernel
theorem fq_0_2 : fR 0 12 2 = some 14 := by decide +kernel
theorem fq_0_0 : fR 0 12 0 = some 1 := by decide +kernel
theorem x_iaste {tbl : List (Nat × sA)} {Po : sR → Prop} {pc np : Nat} {lv : List (Nat × Value)} {st : List Value} {w w0 : sW} {D : List (Nat × Nat)} {c t n : Nat} {i z : Int} (j : Nat) (ha : t_get tbl pc = some (a_iast np)) (ho : hO D w0 w) (hf : aI c = some (t, n)) (hn : Nat.blt n 2147483648 = true) (hm : mIn D t 999 = true) (hi : i = (j : Int)) (hj : j < n) (hel : ∃ e, sga (aSg c) j = some e ∧ fvOk ZZ (0, e) (hI z)) (r : R32 z) (g : ∀ w', hO D w0 w' → gX w' c j = z → (∀ c' j', (c' = c → j' ≠ j) → gX w' c' j' = gX w c' j') → (∀ c' k, gF w' c' k = gF w c' k) → (∀ c' j', gY w' c' j' = gY w c' j') → Tp tbl Po np (lv, st, w', 0, 0)) (hq : pOkA D t 999 = true ∨ (pOkA D t 195 = true ∧ j ≤ 195) := by first | exact Or.inl rfl | exact Or.inr ⟨rfl, by omega⟩) (hb : pOkB D t 0 = true ∨ (pOkB D t 5 = true ∧ 5 ≤ j) := by first | exact Or.inl rfl | exact Or.inr ⟨rfl, by omega⟩) : Tp tbl Po pc (lv, hI z :: hI i :: .ref c :: st, w, 0, 0) := by
  subst hi
  have hn := Nat.blt_eq.mp hn
  obtain ⟨vs, q, k1, k2, k3, k4, k5, k6, k7, k8⟩ := aI_ok ho hf
  have hl := (List.getElem?_eq_some_iff.mp k6).1
  have hv : j < vs.length := by omega
  have e := ixN_hI (i := (j : Int)) (by omega) (by omega)
  have ej : (j : Int).toNat = j := by omega
  rw [ej] at e
  have e1 : (w.set c (.inl (1, vs.set j (hI z))))[c]? = some (.inl (1, vs.set j (hI z))) := List.getElem?_set_self hl
  have hw' : wOk ZZ (w.set c (.inl (1, vs.set j (hI z)))) := by
    have := wOk_arr (Z := ZZ) (vs' := vs.set j (hI z)) ho.1 (show ZZ.2 c = some t from k1) k2 (by rw [List.length_set, k7, k4]) (by
      intro j' v hv'
      rw [k5, k3]
      by_cases ej : j' = j
      · subst ej
        rw [List.getElem?_set_self hv] at hv'
        cases hv'
        exact hel
      · rw [List.getElem?_set_ne (fun z => ej z.symm)] at hv'
        exact k8 j' v hv')
    rw [k3] at this
    exact this
  have hq' : frOk ZZ D w0 (w.set c (.inl (1, vs.set j (hI z)))) := by
    have hb' : pOkB D t j = true := by
      rcases hb with hb | ⟨hb, hb2⟩
      · exact pOkB_up hb
      · exact pOkB_5 hb hb2
    rcases hq with hq | ⟨hq, hq2⟩
    · refine frOk_arr ho.2 k1 k6 (mIn_mem hm) (hi := n + 1000) (pOkA_up hq (by omega)) hb' (fun j' hj' => List.getElem?_set_ne (by omega)) (fun j' hj' => List.getElem?_set_ne (by omega))
    · exact frOk_arr ho.2 k1 k6 (mIn_mem hm) hq hb' (fun j' hj' => List.getElem?_set_ne (by omega)) (fun j' hj' => List.getElem?_set_ne (by omega))
  refine Tp_step ha (fun k => ?_) (g _ ⟨hw', hq'⟩ (gX_at e1 (List.getElem?_set_self hv) r) ?_ ?_ ?_)
  · have e3 : Nat.blt j 2147483648 = true := Nat.blt_eq.mpr (by omega)
    have e4 : iq (hI z) = true := rfl
    show a_iast np k (lv, hI z :: Value.int (Int32.ofInt (j : Int)) :: .ref c :: st, w, 0, 0) = _
    simp only [a_iast, e4, xg_eq, xs_eq, k6, e, e3, List.getElem?_eq_getElem hv]
  · intro c' j' hc
    refine gX_set k6 (fun e => ?_)
    exact List.getElem?_set_ne (fun z => hc e z.symm)
  · intro c' k
    exact gF_setX k6
  · intro c' j'
    refine gY_set k6 (fun _ => ?_)
    by_cases ej : j' = j
    · subst ej
      obtain ⟨e5, _, z5, z6, _⟩ := k8 j' _ (List.getElem?_eq_getElem hv)
      obtain ⟨z7, _⟩ := vOk_hI (show vOk 0 z5 _ from z6)
      rw [List.getElem?_set_self hv, List.getElem?_eq_getElem hv, z7]
      rfl
    · rw [List.getElem?_set_ne (fun z => ej z.symm)]
def iN (w0 w : sW) (e k : Nat) : Prop := (∀ j, j < 5 → gX w 217 (438 * e + j) = gX w0 215 j) ∧ (∀ f, f < 2 → f ≠ e → ∀ j, j < 5 → gX w 217 (438 * f + j) = gX w0 217 (438 * f + j)) ∧ (∀ j, j < k → gY w 222 (16 * e + j) = gY w0 220 j) ∧ (∀ f, f < 2 → f ≠ e → ∀ j, j < 16 → gY w 222 (16 * f + j) = gY w0 222 (16 * f + j)) ∧ ∀ j, gY w 220 j = gY w0 220 j
theorem iN_eq {w0 w w' : sW} {e k : Nat} (hX : ∀ j, gX w' 217 j = gX w 217 j) (hY : ∀ j, gY w' 222 j = gY w 222 j) (hZ : ∀ j, gY w' 220 j = gY w 220 j) (h : iN w0 w e k) : iN w0 w' e k := ⟨fun j hj => (hX _).trans (h.1 j hj), fun f hf hn j hj => (hX _).trans (h.2.1 f hf hn j hj), fun j hj => (hY _).trans (h.2.2.1 j hj), fun f hf hn j hj => (hY _).trans (h.2.2.2.1 f hf hn j hj), fun j => (hZ j).trans (h.2.2.2.2 j)⟩
/-- what an image of the reference leaves -/
def imQ (w0 w' : sW) (x b : Int) : Prop := (b = 0 ∧ (∀ j, gX w' 217 j = gX w0 217 j) ∧ ∀ j, gY w' 222 j = gY w0 222 j) ∨ (b = 1 ∧ ∃ e : Nat, e < 2 ∧ x = (e : Int) ∧ iN w0 w' e 16)
theorem iy_e {kn : sKn} {w0 : sW} {x : Int} {e : Nat} (he : e < 2) (hxe : x = (e : Int)) {w : sW} {lv : List (Nat × Value)} (o0 : hO dH_im w0 w) (h4 : iN w0 w e 16) (l0 : hL lv [(0, .ref 213), (1, hI e)]) : Tp (tX12_image kn) (fun r => ∃ (w' : sW) (b : Int), r = (some (hI b), w', 0, 0) ∧ imQ w0 w' x b) 80 (lv, [], w, 0, 0) := by
  refine h_aload rfl l0 rfl ?_
  refine h_getR rfl o0 fr_22 ?_
  refine h_iload rfl l0 rfl ?_
  refine h_intv k_1 rfl ?_
  refine h_bast (D := [(71, 999)]) e (Or.inr rfl) rfl (hO_rf o0.1) az_223 rfl rfl (by omega) (by omega) (fun w9 o9 q9a q9b q9c => ?_)
  refine h_intv k_1 rfl ?_
  refine h_zret (by omega) rfl ?_
  exact ⟨_, _, rfl, Or.inr ⟨rfl, e, he, hxe, iN_eq (fun j => q9b 217 j (fun h => absurd h (by decide))) (fun j => fr_gY o9.2 (show ztau 222 = some 70 from rfl) (by decide +kernel) j) (fun j => fr_gY o9.2 (show ztau 220 = some 68 from rfl) (by decide +kernel) j) h4⟩⟩
theorem iy_n {kn : sKn} {w0 : sW} {x : Int} {e : Nat} (he : e < 2) (hxe : x = (e : Int)) : ∀ (m k : Nat) (w : sW) (lv : List (Nat × Value)) (y : Int), k + m = 16 → y = (k : Int) → hO dH_im w0 w → iN w0 w e k → hL lv [(0, .ref 213), (1, hI e), (2, hI y)] → Tp (tX12_image kn) (fun r => ∃ (w' : sW) (b : Int), r = (some (hI b), w', 0, 0) ∧ imQ w0 w' x b) 51 (lv, [], w, 0, 0) := by
  intro m
  induction m with
  | zero =>
    intro k w lv y hkm hyk o0 h4 l0
    subst hyk
    refine h_iload rfl l0 rfl ?_
    refine h_intv k_16 rfl ?_
    refine i_ge (kn := kn) (t := 3) (tgt := 80) (np := 57) rfl (by unfold R32; omega) (by unfold R32; omega) (fun e41 => ?_) (fun e41 => ?_)
    · exact iy_e he hxe o0 (by rw [show (16 : Nat) = k by omega]; exact h4) (hL_take 2 l0)
    · omega
  | succ m ih =>
    intro k w lv y hkm hyk o0 h4 l0
    subst hyk
    refine h_iload rfl l0 rfl ?_
    refine h_intv k_16 rfl ?_
    refine i_ge (kn := kn) (t := 3) (tgt := 80) (np := 57) rfl (by unfold R32; omega) (by unfold R32; omega) (fun e41 => ?_) (fun e41 => ?_)
    · omega
    · refine h_aload rfl l0 rfl ?_
      refine h_getR rfl o0 fr_21 ?_
      refine h_intv k_16 rfl ?_
      refine h_iload rfl l0 rfl ?_
      refine h_imul rfl ?_
      refine h_iload rfl l0 rfl ?_
      refine h_iadd rfl ?_
      refine h_aload rfl l0 rfl ?_
      refine h_getR rfl o0 fr_19 ?_
      refine h_iload rfl l0 rfl ?_
      refine x_lald (k) rfl o0 aj_220 rfl (by omega) (by omega) ?_
      rw [h4.2.2.2.2 k]
      refine x_last (16 * e + k) rfl o0 aj_222 rfl rfl (by omega) (by omega) (fun w43 o43 q44a q44Y q44F q44X q44J q44R => ?_)
      refine h_iincv k_1 rfl l0 rfl (fun vl45 l45 => ?_)
      refine h_goto rfl ?_
      refine ih (k + 1) _ _ ((k : Int) + 1) (by omega) (by omega) o43 ⟨fun j hj => (q44X 217 _).trans (h4.1 j hj), fun f hf hn j hj => (q44X 217 _).trans (h4.2.1 f hf hn j hj), fun j hj => ?_, fun f hf hn j hj => (q44Y 222 _ (fun _ => by omega)).trans (h4.2.2.2.1 f hf hn j hj), fun j => (q44Y 220 j (fun e => absurd e (by decide))).trans (h4.2.2.2.2 j)⟩ l45
      by_cases ej : j = k
      · rw [ej]
        exact q44a
      · exact (q44Y 222 _ (fun _ => by omega)).trans (h4.2.2.1 j (by omega))
theorem iy_l {kn : sKn} {w0 : sW} {x : Int} {e : Nat} (he : e < 2) (hxe : x = (e : Int)) {w1 : sW} (o1 : hO dH_im w0 w1) (hXX : ∀ c j, gX w1 c j = gX w0 c j) (hYY : ∀ c j, gY w1 c j = gY w0 c j) : ∀ (m k : Nat) (w : sW) (lv : List (Nat × Value)) (y : Int), k + m = 438 → y = (k : Int) → imI w1 w e k → (∀ c j, gY w c j = gY w1 c j) → hL lv [(0, .ref 213), (1, hI e), (2, hI y)] → Tp (tX12_image kn) (fun r => ∃ (w' : sW) (b : Int), r = (some (hI b), w', 0, 0) ∧ imQ w0 w' x b) 18 (lv, [], w, 0, 0) := by
  intro m
  induction m with
  | zero =>
    intro k w lv y hkm hyk hJ hY l0
    subst hyk
    have o0 := hJ.1
    refine h_iload rfl l0 rfl ?_
    refine h_intv k_438 rfl ?_
    refine i_ge (kn := kn) (t := 3) (tgt := 49) (np := 25) rfl (by unfold R32; omega) (by unfold R32; omega) (fun e41 => ?_) (fun e41 => ?_)
    · refine h_intv k_0 rfl ?_
      refine h_istore rfl l0 (fun vl42 l42 => ?_)
      have h4 : iN w0 w e 0 := ⟨fun j hj => (hJ.2.1 j (by omega)).trans (hXX 215 j), fun f hf hn j hj => (hJ.2.2.1 _ (by omega)).trans (hXX 217 _), fun j hj => absurd hj (by omega), fun f hf hn j hj => (hY 222 _).trans (hYY 222 _), fun j => (hY 220 j).trans (hYY 220 j)⟩
      exact iy_n he hxe 16 0 _ _ 0 rfl rfl (hO_tr o1 ⟨hJ.1.1, fr_P (D := dH_im) o1.1 hJ.1.1 hJ.1.2 (im_pw he o1.1 (by rw [show (438 : Nat) = k by omega]; exact hJ))⟩) h4 l42
    · omega
  | succ m ih =>
    intro k w lv y hkm hyk hJ hY l0
    subst hyk
    have o0 := hJ.1
    refine h_iload rfl l0 rfl ?_
    refine h_intv k_438 rfl ?_
    refine i_ge (kn := kn) (t := 3) (tgt := 49) (np := 25) rfl (by unfold R32; omega) (by unfold R32; omega) (fun e41 => ?_) (fun e41 => ?_)
    · omega
    · refine h_aload rfl l0 rfl ?_
      refine h_getR rfl o0 fr_16 ?_
      refine h_intv k_438 rfl ?_
      refine h_iload rfl l0 rfl ?_
      refine h_imul rfl ?_
      refine h_iload rfl l0 rfl ?_
      refine h_iadd rfl ?_
      refine h_aload rfl l0 rfl ?_
      refine h_getR rfl o0 fr_14 ?_
      refine h_iload rfl l0 rfl ?_
      refine h_ialdj (k) rfl o0 ai_215 rfl (by omega) (by omega) (fun b42a b42b => ?_)
      refine x_iaste (438 * e + k) rfl o0 ai_217x rfl rfl (by omega) (by omega) (fit_im o0 he (by omega)) (by unfold R32; omega) (fun w43 o43 q44a q44b q44c q44Y => ?_)
      refine h_iincv k_1 rfl l0 rfl (fun vl45 l45 => ?_)
      refine h_goto rfl ?_
      refine ih (k + 1) _ _ ((k : Int) + 1) (by omega) (by omega) ⟨o43, fun j j2 => ?_, fun j j2 => ?_, fun c j hc => ?_⟩ (fun c j => (q44Y c j).trans (hY c j)) l45
      · by_cases e1 : j = k
        · rw [e1, q44a]
          exact hJ.2.2.2 215 k (by decide)
        · rw [q44b 217 _ (fun _ => by omega)]
          exact hJ.2.1 j (by omega)
      · rw [q44b 217 _ (fun _ => by omega)]
        exact hJ.2.2.1 j j2
      · rw [q44b c j (fun e => absurd e hc)]
        exact hJ.2.2.2 c j hc
theorem x_imageR {kn : sKn} {w0 : sW} (hw : wOk ZZ w0) (x : Int) (hx : R32 x) : ∃ (w' : sW) (b : Int), fX12_image kn [.ref 213, hI x] w0 = some (some (hI b), w', 0, 0) ∧ imQ w0 w' x b := by
  have K : Tp (tX12_image kn) (fun r => ∃ (w' : sW) (b : Int), r = (some (hI b), w', 0, 0) ∧ imQ w0 w' x b) 0 (lv_args 0 [.ref 213, hI x], [], w0, 0, 0) := by
    have l0 : hL (lv_args 0 [.ref 213, hI x]) (lv_args 0 [.ref 213, hI x]) := hL_ex rfl
    have o0 : hO dH_im w0 w0 := hO_rf hw
    refine h_aload rfl l0 rfl ?_
    refine h_intv k_0 rfl ?_
    refine x_putI rfl o0 fi_0 rfl (by omega) (by omega) (fun w41 o41 q42a q42F q42X q42J q42Y q42R => ?_)
    refine h_iload rfl l0 rfl ?_
    refine h_intv k_0 rfl ?_
    refine h_intv k_1 rfl ?_
    obtain ⟨z43, hf43, hz43, hq43⟩ := s_isIn (kn := kn) o41.1 x 0 1 hx ⟨by omega, by omega⟩ ⟨by omega, by omega⟩
    refine h_S3 rfl o41 l0 rfl rfl hf43 ?_
    refine j_ne (kn := kn) (t := 1) (tgt := 16) (np := 14) rfl (by unfold R32; omega) (fun e44 => ?_) (fun e44 => ?_)
    · refine h_intv k_0 rfl ?_
      refine h_istore rfl l0 (fun vl45 l45 => ?_)
      obtain ⟨h01, h02⟩ := hq43.mp (by omega)
      obtain ⟨e, hxe⟩ : ∃ e : Nat, x = (e : Int) := ⟨x.toNat, by omega⟩
      exact iy_l (e := e) (by omega) hxe o41 (fun c j => q42X c j) (fun c j => q42Y c j) 438 0 _ _ 0 rfl rfl ⟨hO_rf o41.1, fun j hj => by omega, fun j _ => rfl, fun c j _ => rfl⟩ (fun c j => rfl) (by rw [← hxe]; exact l45)
    · refine h_intv k_0 rfl ?_
      refine h_zret (by omega) rfl ?_
      exact ⟨_, _, rfl, Or.inl ⟨rfl, fun j => q42X 217 j, fun j => q42Y 222 j⟩⟩
  obtain ⟨r, h1, w2, b, h2, h3⟩ := h_meth1 (nL := 3) rfl K
  rw [h2] at h1
  exact ⟨w2, b, h1, h3⟩
def rN (w0 w : sW) (e k : Nat) : Prop := (∀ j, j < 5 → gX w 215 j = gX w0 217 (438 * e + j)) ∧ (∀ j, j < k → gY w 220 j = gY w0 222 (16 * e + j)) ∧ ∀ j, gY w 222 j = gY w0 222 j
/-- what a restore of the reference leaves -/
def rtQ (w0 w' : sW) (x b : Int) : Prop := (b = 0 ∧ (∀ j, gX w' 215 j = gX w0 215 j) ∧ ∀ j, gY w' 220 j = gY w0 220 j) ∨ (b = 1 ∧ ∃ e : Nat, e < 2 ∧ x = (e : Int) ∧ gX w0 223 e = 1 ∧ rN w0 w' e 16)
theorem ry_e {kn : sKn} {w0 : sW} {x : Int} {e : Nat} (he : e < 2) (hxe : x = (e : Int)) (hK : gX w0 223 e = 1) {w : sW} {lv : List (Nat × Value)} (o0 : hO dH_rt w0 w) (h4 : rN w0 w e 16) (l0 : hL lv [(0, .ref 213), (1, hI e)]) : Tp (tX12_restore kn) (fun r => ∃ (w' : sW) (b : Int), r = (some (hI b), w', 0, 0) ∧ rtQ w0 w' x b) 89 (lv, [], w, 0, 0) := by
  refine h_aload rfl l0 rfl ?_
  refine h_intv k_0 rfl ?_
  refine x_putI rfl o0 fi_23 rfl (by omega) (by omega) (fun w41 o41 q42a q42F q42X q42J q42Y q42R => ?_)
  refine h_intv k_1 rfl ?_
  refine h_zret (by omega) rfl ?_
  exact ⟨_, _, rfl, Or.inr ⟨rfl, e, he, hxe, hK, fun j hj => (q42X 215 j).trans (h4.1 j hj), fun j hj => (q42Y 220 j).trans (h4.2.1 j hj), fun j => (q42Y 222 j).trans (h4.2.2 j)⟩⟩
theorem ry_n {kn : sKn} {w0 : sW} {x : Int} {e : Nat} (he : e < 2) (hxe : x = (e : Int)) (hK : gX w0 223 e = 1) : ∀ (m k : Nat) (w : sW) (lv : List (Nat × Value)) (y : Int), k + m = 16 → y = (k : Int) → hO dH_rt w0 w → rN w0 w e k → hL lv [(0, .ref 213), (1, hI e), (2, hI y)] → Tp (tX12_restore kn) (fun r => ∃ (w' : sW) (b : Int), r = (some (hI b), w', 0, 0) ∧ rtQ w0 w' x b) 60 (lv, [], w, 0, 0) := by
  intro m
  induction m with
  | zero =>
    intro k w lv y hkm hyk o0 h4 l0
    subst hyk
    refine h_iload rfl l0 rfl ?_
    refine h_intv k_16 rfl ?_
    refine i_ge (kn := kn) (t := 3) (tgt := 89) (np := 66) rfl (by unfold R32; omega) (by unfold R32; omega) (fun e41 => ?_) (fun e41 => ?_)
    · exact ry_e he hxe hK o0 (by rw [show (16 : Nat) = k by omega]; exact h4) (hL_take 2 l0)
    · omega
  | succ m ih =>
    intro k w lv y hkm hyk o0 h4 l0
    subst hyk
    refine h_iload rfl l0 rfl ?_
    refine h_intv k_16 rfl ?_
    refine i_ge (kn := kn) (t := 3) (tgt := 89) (np := 66) rfl (by unfold R32; omega) (by unfold R32; omega) (fun e41 => ?_) (fun e41 => ?_)
    · omega
    · refine h_aload rfl l0 rfl ?_
      refine h_getR rfl o0 fr_19 ?_
      refine h_iload rfl l0 rfl ?_
      refine h_aload rfl l0 rfl ?_
      refine h_getR rfl o0 fr_21 ?_
      refine h_intv k_16 rfl ?_
      refine h_iload rfl l0 rfl ?_
      refine h_imul rfl ?_
      refine h_iload rfl l0 rfl ?_
      refine h_iadd rfl ?_
      refine x_lald (16 * e + k) rfl o0 aj_222 rfl (by omega) (by omega) ?_
      rw [h4.2.2 (16 * e + k)]
      refine x_last (k) rfl o0 aj_220 rfl rfl (by omega) (by omega) (fun w43 o43 q44a q44Y q44F q44X q44J q44R => ?_)
      refine h_iincv k_1 rfl l0 rfl (fun vl45 l45 => ?_)
      refine h_goto rfl ?_
      refine ih (k + 1) _ _ ((k : Int) + 1) (by omega) (by omega) o43 ⟨fun j hj => (q44X 215 j).trans (h4.1 j hj), fun j hj => ?_, fun j => (q44Y 222 j (fun e => absurd e (by decide))).trans (h4.2.2 j)⟩ l45
      by_cases ej : j = k
      · rw [ej]
        exact q44a
      · exact (q44Y 220 j (fun _ => ej)).trans (h4.2.1 j (by omega))
theorem ry_l {kn : sKn} {w0 : sW} {x : Int} {e : Nat} (he : e < 2) (hxe : x = (e : Int)) (hK : gX w0 223 e = 1) {w1 : sW} (hV : 1 ≤ gX w1 217 (438 * e)) (o1 : hO dH_rt w0 w1) (hXX : ∀ c j, gX w1 c j = gX w0 c j) (hYY : ∀ c j, gY w1 c j = gY w0 c j) : ∀ (m k : Nat) (w : sW) (lv : List (Nat × Value)) (y : Int), k + m = 438 → y = (k : Int) → rtI w1 w e k → (∀ c j, gY w c j = gY w1 c j) → hL lv [(0, .ref 213), (1, hI e), (2, hI y)] → Tp (tX12_restore kn) (fun r => ∃ (w' : sW) (b : Int), r = (some (hI b), w', 0, 0) ∧ rtQ w0 w' x b) 27 (lv, [], w, 0, 0) := by
  intro m
  induction m with
  | zero =>
    intro k w lv y hkm hyk hJ hY l0
    subst hyk
    have o0 := hJ.1
    refine h_iload rfl l0 rfl ?_
    refine h_intv k_438 rfl ?_
    refine i_ge (kn := kn) (t := 3) (tgt := 58) (np := 34) rfl (by unfold R32; omega) (by unfold R32; omega) (fun e41 => ?_) (fun e41 => ?_)
    · refine h_intv k_0 rfl ?_
      refine h_istore rfl l0 (fun vl42 l42 => ?_)
      exact ry_n he hxe hK 16 0 _ _ 0 rfl rfl (hO_tr o1 ⟨hJ.1.1, fr_P (D := dH_rt) o1.1 hJ.1.1 hJ.1.2 (rt_pw he o1.1 (by rw [show (438 : Nat) = k by omega]; exact hJ))⟩) ⟨fun j hj => (hJ.2.1 j (by omega)).trans (hXX 217 _), fun j hj => absurd hj (by omega), fun j => (hY 222 j).trans (hYY 222 j)⟩ l42
    · omega
  | succ m ih =>
    intro k w lv y hkm hyk hJ hY l0
    subst hyk
    have o0 := hJ.1
    refine h_iload rfl l0 rfl ?_
    refine h_intv k_438 rfl ?_
    refine i_ge (kn := kn) (t := 3) (tgt := 58) (np := 34) rfl (by unfold R32; omega) (by unfold R32; omega) (fun e41 => ?_) (fun e41 => ?_)
    · omega
    · refine h_aload rfl l0 rfl ?_
      refine h_getR rfl o0 fr_14 ?_
      refine h_iload rfl l0 rfl ?_
      refine h_aload rfl l0 rfl ?_
      refine h_getR rfl o0 fr_16 ?_
      refine h_intv k_438 rfl ?_
      refine h_iload rfl l0 rfl ?_
      refine h_imul rfl ?_
      refine h_iload rfl l0 rfl ?_
      refine h_iadd rfl ?_
      refine h_ialdj (438 * e + k) rfl o0 ai_217x rfl (by omega) (by omega) (fun b42a b42b => ?_)
      refine x_iaste (k) rfl o0 ai_215 rfl rfl (by omega) (by omega) (fit_rt o0 he (by omega) (by rw [hJ.2.2 217 _ (by decide)]; exact hV)) (by unfold R32; omega) (fun w43 o43 q44a q44b q44c q44Y => ?_)
      refine h_iincv k_1 rfl l0 rfl (fun vl45 l45 => ?_)
      refine h_goto rfl ?_
      refine ih (k + 1) _ _ ((k : Int) + 1) (by omega) (by omega) ⟨o43, fun j j2 => ?_, fun c j hc => ?_⟩ (fun c j => (q44Y c j).trans (hY c j)) l45
      · by_cases e1 : j = k
        · rw [e1, q44a]
          exact hJ.2.2 217 _ (by decide)
        · rw [q44b 215 _ (fun _ => by omega)]
          exact hJ.2.1 j (by omega)
      · rw [q44b c j (fun e => absurd e hc)]
        exact hJ.2.2 c j hc
theorem x_restoreR {kn : sKn} {w0 : sW} (hw : wOk ZZ w0) (x : Int) (hx : R32 x) (hV : KV w0) : ∃ (w' : sW) (b : Int), fX12_restore kn [.ref 213, hI x] w0 = some (some (hI b), w', 0, 0) ∧ rtQ w0 w' x b := by
  have K : Tp (tX12_restore kn) (fun r => ∃ (w' : sW) (b : Int), r = (some (hI b), w', 0, 0) ∧ rtQ w0 w' x b) 0 (lv_args 0 [.ref 213, hI x], [], w0, 0, 0) := by
    have l0 : hL (lv_args 0 [.ref 213, hI x]) (lv_args 0 [.ref 213, hI x]) := hL_ex rfl
    have o0 : hO dH_rt w0 w0 := hO_rf hw
    refine h_aload rfl l0 rfl ?_
    refine h_intv k_0 rfl ?_
    refine x_putI rfl o0 fi_0 rfl (by omega) (by omega) (fun w41 o41 q42a q42F q42X q42J q42Y q42R => ?_)
    refine h_iload rfl l0 rfl ?_
    refine h_intv k_0 rfl ?_
    refine h_intv k_1 rfl ?_
    obtain ⟨z43, hf43, hz43, hq43⟩ := s_isIn (kn := kn) o41.1 x 0 1 hx ⟨by omega, by omega⟩ ⟨by omega, by omega⟩
    refine h_S3 rfl o41 l0 rfl rfl hf43 ?_
    refine j_eq (kn := kn) (t := 0) (tgt := 23) (np := 14) rfl (by unfold R32; omega) (fun e44 => ?_) (fun e44 => ?_)
    · refine h_intv k_0 rfl ?_
      refine h_zret (by omega) rfl ?_
      exact ⟨_, _, rfl, Or.inl ⟨rfl, fun j => q42X 215 j, fun j => q42Y 220 j⟩⟩
    · refine h_aload rfl l0 rfl ?_
      refine h_getR rfl o41 fr_22 ?_
      refine h_iload rfl l0 rfl ?_
      obtain ⟨h01, h02⟩ := hq43.mp (by omega)
      obtain ⟨e, hxe⟩ : ∃ e : Nat, x = (e : Int) := ⟨x.toNat, by omega⟩
      refine h_bald e rfl o41 az_223 rfl hxe (by omega) (fun c1 c2 => ?_)
      rw [q42X 223 e] at c1 c2 ⊢
      refine j_ne (kn := kn) (t := 1) (tgt := 25) (np := 23) rfl (by unfold R32; omega) (fun e9 => ?_) (fun e9 => ?_)
      · refine h_intv k_0 rfl ?_
        refine h_istore rfl l0 (fun vl9 l9 => ?_)
        exact ry_l (e := e) (by omega) hxe (by omega) (by rw [q42X 217]; exact hV e (by omega) (by omega)) o41 (fun c j => q42X c j) (fun c j => q42Y c j) 438 0 _ _ 0 rfl rfl ⟨hO_rf o41.1, fun j hj => by omega, fun c j _ => rfl⟩ (fun c j => rfl) (by rw [← hxe]; exact l9)
      · refine h_intv k_0 rfl ?_
        refine h_zret (by omega) rfl ?_
        exact ⟨_, _, rfl, Or.inl ⟨rfl, fun j => q42X 215 j, fun j => q42Y 220 j⟩⟩
  obtain ⟨r, h1, w2, b, h2, h3⟩ := h_meth1 (nL := 3) rfl K
  rw [h2] at h1
  exact ⟨w2, b, h1, h3⟩
/-- names of signers and loads in a cell -/
def nmR (R N : Nat → Int) (c : Nat) (w : sW) : Prop := (∀ s : Nat, (s : Int) < R 1 → gY w c s = Int64.ofInt (N s) ∧ 0 ≤ N s ∧ N s < 27 ^ 7) ∧ (∀ l : Nat, (l : Int) < R 2 → gY w c (10 + l) = Int64.ofInt (N (10 + l)) ∧ 0 ≤ N (10 + l) ∧ N (10 + l) < 27 ^ 7)
theorem nmR_eq {R N : Nat → Int} {c c' : Nat} {w w' : sW} (h1 : R 1 ≤ 10) (h2 : R 2 ≤ 6) (hY : ∀ j, j < 16 → gY w' c' j = gY w c j) (h : nmR R N c w) : nmR R N c' w' := by
  refine ⟨fun s hs => ?_, fun l hl => ?_⟩
  · rw [hY s (by omega)]
    exact h.1 s hs
  · rw [hY (10 + l) (by omega)]
    exact h.2 l hl
def brQ (R N : Nat → Int) (w' : sW) : Prop := (∀ j, j < 5 → gX w' 215 j = R j) ∧ nmR R N 220 w'
/-- what a bridge of the reference leaves -/
def brR (r : zE ⊕ (Int × zZ)) (w w' : sW) : Prop := match r with
  | .inl e => erR e w' ∧ (∀ j, gX w' 215 j = gX w 215 j) ∧ ∀ j, gY w' 220 j = gY w 220 j
  | .inr q => brQ q.2.2.1 q.2.2.2.1 w' ∧ zI q.2.2.1
theorem brR_l (e : zE) (w w' : sW) : brR (.inl e) w w' = (erR e w' ∧ (∀ j, gX w' 215 j = gX w 215 j) ∧ ∀ j, gY w' 220 j = gY w 220 j) := rfl
theorem brR_r (q : Int × zZ) (w w' : sW) : brR (.inr q) w w' = (brQ q.2.2.1 q.2.2.2.1 w' ∧ zI q.2.2.1) := rfl
theorem brR_tr {r : zE ⊕ (Int × zZ)} {w w1 w' : sW} (h1 : ∀ j, gX w1 215 j = gX w 215 j) (h2 : ∀ j, gY w1 220 j = gY w 220 j) (h : brR r w1 w') : brR r w w' := by
  cases r with
  | inl e =>
    rw [brR_l] at h ⊢
    exact ⟨h.1, fun j => (h.2.1 j).trans (h1 j), fun j => (h.2.2 j).trans (h2 j)⟩
  | inr q => exact h
theorem by_e {kn : sKn} {w0 w : sW} {R N : Nat → Int} (zR : zI R) (n : Int) (lv : List (Nat × Value)) (o0 : hO dH_br w0 w) (hQ : brQ R N w) (l0 : hL lv [(0, .ref 213), (1, hI n)]) : Tp (tX12_bridge kn) (fun r => ∃ w', r = (some (hI n), w', 0, 0) ∧ brQ R N w') 114 (lv, [], w, 0, 0) := by
  refine h_aload rfl l0 rfl ?_
  obtain ⟨wA, hf1, oA'⟩ := s_startSo (kn := kn) o0.1
  have oA : hO dH_br w0 wA := hO_tr o0 (hO_mono dH_br5 oA')
  refine h_W1 rfl o0 l0 ci_213 rfl rfl hf1 ?_
  refine h_aload rfl l0 rfl ?_
  refine h_intv k_0 rfl ?_
  refine x_putI rfl oA fi_23 rfl (by omega) (by omega) (fun w2 o2 q3a q3F q3X q3J q3Y q3R => ?_)
  refine h_iload rfl l0 rfl ?_
  refine h_iret rfl ?_
  exact ⟨_, rfl, fun j hj => ((q3X 215 j).trans (hw_of oA' (by decide +kernel) hj)).trans (hQ.1 j hj), nmR_eq zR.2.1.2 zR.2.2.1.2 (fun j _ => (q3Y 220 j).trans (fr_gY oA'.2 (show ztau 220 = some 68 from rfl) (by decide +kernel) j)) hQ.2⟩
theorem by_n {kn : sKn} {w0 : sW} {R N : Nat → Int} (zR : zI R) (n : Int) : ∀ (m k : Nat) (w : sW) (lv : List (Nat × Value)) (x : Int), k + m = 16 → x = (k : Int) → hO dH_br w0 w → (∀ j, j < 5 → gX w 215 j = R j) → nmR R N 221 w → (∀ j, j < k → gY w 220 j = gY w 221 j) → hL lv [(0, .ref 213), (1, hI n), (2, hI x)] → Tp (tX12_bridge kn) (fun r => ∃ w', r = (some (hI n), w', 0, 0) ∧ brQ R N w') 90 (lv, [], w, 0, 0) := by
  intro m
  induction m with
  | zero =>
    intro k w lv x hkm hxk o0 hX hN hC l0
    subst hxk
    refine h_iload rfl l0 rfl ?_
    refine h_intv k_16 rfl ?_
    refine i_ge (kn := kn) (t := 3) (tgt := 114) (np := 96) rfl (by unfold R32; omega) (by unfold R32; omega) (fun e1 => ?_) (fun e1 => ?_)
    · exact by_e zR n _ o0 ⟨hX, nmR_eq zR.2.1.2 zR.2.2.1.2 (fun j hj => hC j (by omega)) hN⟩ (hL_take 2 l0)
    · omega
  | succ m ih =>
    intro k w lv x hkm hxk o0 hX hN hC l0
    subst hxk
    refine h_iload rfl l0 rfl ?_
    refine h_intv k_16 rfl ?_
    refine i_ge (kn := kn) (t := 3) (tgt := 114) (np := 96) rfl (by unfold R32; omega) (by unfold R32; omega) (fun e1 => ?_) (fun e1 => ?_)
    · omega
    · refine h_aload rfl l0 rfl ?_
      refine h_getR rfl o0 fr_19 ?_
      refine h_iload rfl l0 rfl ?_
      refine h_aload rfl l0 rfl ?_
      refine h_getR rfl o0 fr_20 ?_
      refine h_iload rfl l0 rfl ?_
      refine x_lald (k) rfl o0 aj_221 rfl (by omega) (by omega) ?_
      refine x_last (k) rfl o0 aj_220 rfl rfl (by omega) (by omega) (fun w3 o3 q4a q4Y q4F q4X q4J q4R => ?_)
      refine h_iincv k_1 rfl l0 rfl (fun vl5 l5 => ?_)
      refine h_goto rfl ?_
      have e221 : ∀ j, gY w3 221 j = gY w 221 j := fun j => q4Y 221 j (fun e => absurd e (by decide))
      refine ih (k + 1) w3 _ ((k : Int) + 1) (by omega) (by omega) o3 (fun j hj => (q4X 215 j).trans (hX j hj)) (nmR_eq zR.2.1.2 zR.2.2.1.2 (fun j _ => e221 j) hN) (fun j hj => ?_) l5
      rw [e221 j]
      by_cases ej : j = k
      · rw [ej]
        exact q4a
      · exact (q4Y 220 j (fun _ => ej)).trans (hC j (by omega))
theorem by_r {kn : sKn} {w0 : sW} {R N : Nat → Int} (zR : zI R) (n : Int) : ∀ (m k : Nat) (w : sW) (lv : List (Nat × Value)) (x : Int), k + m = 94 → x = (k : Int) → hO dH_br w0 w → (∀ j, j < 94 → gX w 216 j = R j) → (∀ j, j < k → gX w 215 j = R j) → nmR R N 221 w → hL lv [(0, .ref 213), (1, hI n), (2, hI x)] → Tp (tX12_bridge kn) (fun r => ∃ w', r = (some (hI n), w', 0, 0) ∧ brQ R N w') 64 (lv, [], w, 0, 0) := by
  intro m
  induction m with
  | zero =>
    intro k w lv x hkm hxk o0 hr hC hN l0
    subst hxk
    refine h_iload rfl l0 rfl ?_
    refine h_intv k_94 rfl ?_
    refine i_ge (kn := kn) (t := 3) (tgt := 88) (np := 70) rfl (by unfold R32; omega) (by unfold R32; omega) (fun e1 => ?_) (fun e1 => ?_)
    · refine h_intv k_0 rfl ?_
      refine h_istore rfl l0 (fun vl2 l2 => ?_)
      exact by_n zR n 16 0 _ _ 0 rfl rfl o0 (fun j hj => hC j (by omega)) hN (fun j hj => absurd hj (by omega)) l2
    · omega
  | succ m ih =>
    intro k w lv x hkm hxk o0 hr hC hN l0
    subst hxk
    refine h_iload rfl l0 rfl ?_
    refine h_intv k_94 rfl ?_
    refine i_ge (kn := kn) (t := 3) (tgt := 88) (np := 70) rfl (by unfold R32; omega) (by unfold R32; omega) (fun e1 => ?_) (fun e1 => ?_)
    · omega
    · refine h_aload rfl l0 rfl ?_
      refine h_getR rfl o0 fr_14 ?_
      refine h_iload rfl l0 rfl ?_
      refine h_aload rfl l0 rfl ?_
      refine h_getR rfl o0 fr_15 ?_
      refine h_iload rfl l0 rfl ?_
      refine h_ialdj (k) rfl o0 ai_216 rfl (by omega) (by omega) (fun b2a b2b => ?_)
      refine x_iaste (k) rfl o0 ai_215 rfl rfl (by omega) (by omega) (rd_seg o0 (by rw [hr 0 (by omega)]; exact zR.1) (by omega)) (by unfold R32; omega) (fun w3 o3 q4a q4b q4c q4Y => ?_)
      refine h_iincv k_1 rfl l0 rfl (fun vl5 l5 => ?_)
      refine h_goto rfl ?_
      refine ih (k + 1) w3 _ ((k : Int) + 1) (by omega) (by omega) o3 (fun j hj => (q4b 216 j (fun z => absurd z (by decide))).trans (hr j hj)) (fun j hj => ?_) (nmR_eq zR.2.1.2 zR.2.2.1.2 (fun j _ => q4Y 221 j) hN) l5
      by_cases ej : j = k
      · rw [ej, q4a]
        exact hr k (by omega)
      · exact (q4b 215 j (fun _ => ej)).trans (hC j (by omega))
theorem y_brLoop {kn : sKn} {B : Nat → Int} {n : Nat} : ∀ (f : Nat) (S : tS) (R N : Nat → Int) (hr hk hp l : Int) (w : sW) (lv : List (Nat × Value)) (p : Nat), l + (f : Int) = 942 → 0 ≤ l → 2 * l ≤ (p : Int) → p ≤ n → S = lexT B n 900 p → rpR B n (S, R, N, hr, hk, hp) w → zI R → wOk ZZ w → hL lv [(0, .ref 213), (1, hI l)] → Tp (tX12_bridge kn) (fun r => ∃ (w' : sW) (v : Int), r = (some (hI v), w', 0, 0) ∧ v = zAns (zLoop B n 900 f (S, R, N, hr, hk, hp) l) ∧ brR (zLoop B n 900 f (S, R, N, hr, hk, hp) l) w w') 28 (lv, [], w, 0, 0) := by
  intro f
  induction f with
  | zero =>
    intro S R N hr hk hp l w lv p hlf hl hlp hpn hpS hz zIR hw l0
    have := hz.1.1.2.2.2.1
    omega
  | succ f ih =>
    intro S R N hr hk hp l w lv p hlf hl hlp hpn hpS hz zIR hw l0
    have o0 : hO dBr w w := hO_rf hw
    have htk : tkR B n 900 S w := hz.1
    have hn9 := htk.1.2.2.2.1
    have hG : tkG B n 900 S := ⟨p, hpn, hpS⟩
    obtain ⟨_, hkI, hto, _⟩ := tkU_i htk.2
    refine h_aload rfl l0 rfl ?_
    refine h_getI rfl o0 fi_7 (fun b41a b41b => ?_)
    refine j_eq (kn := kn) (t := 0) (tgt := 62) (np := 35) rfl (by unfold R32; omega) (fun e42 => ?_) (fun e42 => ?_)
    · rw [show zLoop B n 900 (f + 1) (S, R, N, hr, hk, hp) l = .inr (l, (S, R, N, hr, hk, hp)) from if_pos (by show S.1 = 0; omega)]
      refine h_intv k_0 rfl ?_
      refine h_istore rfl l0 (fun v9 l9 => ?_)
      refine Tp_mono ?_ (by_r (kn := kn) (w0 := w) (R := R) (N := N) zIR l 94 0 w _ 0 rfl rfl (hO_rf o0.1) hz.2.2.1.1 (fun j hj => absurd hj (by omega)) hz.2.2.1.2 l9)
      intro r hr9
      obtain ⟨w', e9, e10⟩ := hr9
      exact ⟨w', _, e9, rfl, e10, zIR⟩
    · refine h_aload rfl l0 rfl ?_
      obtain ⟨wL43, bL43, hf43, oL43', sL43, hz43⟩ := x_readLineR (kn := kn) o0.1 hz zIR
      have oL43 := hO_tr o0 (hO_mono dBr_R oL43')
      rcases hr43 : zLine B n 900 (S, R, N, hr, hk, hp) with eN43 | qN43
      · rw [hr43, zOK_l] at hz43
        obtain ⟨hb43, he143, he243⟩ := hz43
        subst hb43
        refine h_V1 rfl o0 l0 ci_213 rfl rfl hf43 ?_
        refine j_eq (kn := kn) (t := 0) (tgt := 49) (np := 42) rfl (by unfold R32; omega) (fun e44 => ?_) (fun e44 => ?_)
        · refine h_intv k_n1 rfl ?_
          refine h_aload rfl l0 rfl ?_
          refine h_getI rfl oL43 fi_11 (fun b45a b45b => ?_)
          rw [he243] at b45a b45b ⊢
          refine h_isub rfl ?_
          refine h_iret rfl ?_
          refine ⟨_, _, rfl, ?_⟩
          rw [show zLoop B n 900 (f + 1) (S, R, N, hr, hk, hp) l = .inl eN43 from by
            show (if S.1 = 0 then _ else _) = _
            rw [if_neg (by omega)]
            rw [hr43, zB_l]
            try dsimp only
            first | done | rfl]
          exact ⟨rfl, ⟨he143, he243⟩, fun j => sL43.2.2.1 215 j (by decide), fun j => sL43.2.2.2.1 220 j (by decide)⟩
        · omega
      · rw [hr43, zOK_r] at hz43
        obtain ⟨hb43, hy43⟩ := hz43
        subst hb43
        obtain ⟨tM43, zI43⟩ := zLine_i hG zIR hr43
        have k443 := zLine_4 hr43
        refine h_V1 rfl o0 l0 ci_213 rfl rfl hf43 ?_
        refine j_eq (kn := kn) (t := 0) (tgt := 49) (np := 42) rfl (by unfold R32; omega) (fun e46 => ?_) (fun e46 => ?_)
        · omega
        · refine h_aload rfl l0 rfl ?_
          obtain ⟨wN47, bN47, hf47, oN47', sN47, hz47⟩ := x_readEnd (kn := kn) oL43.1 hy43.1 hy43.2.1
          have oN47 := hO_tr oL43 (hO_mono dBr_R oN47')
          rcases hr47 : zEnd B n 900 qN43.1 with eN47 | qN47
          · rw [hr47, zOK_l] at hz47
            obtain ⟨hb47, he147, he247⟩ := hz47
            subst hb47
            refine h_V1 rfl oL43 l0 ci_213 rfl rfl hf47 ?_
            refine j_ne (kn := kn) (t := 1) (tgt := 56) (np := 49) rfl (by unfold R32; omega) (fun e48 => ?_) (fun e48 => ?_)
            · omega
            · refine h_intv k_n1 rfl ?_
              refine h_aload rfl l0 rfl ?_
              refine h_getI rfl oN47 fi_11 (fun b49a b49b => ?_)
              rw [he247] at b49a b49b ⊢
              refine h_isub rfl ?_
              refine h_iret rfl ?_
              refine ⟨_, _, rfl, ?_⟩
              rw [show zLoop B n 900 (f + 1) (S, R, N, hr, hk, hp) l = .inl eN47 from by
                show (if S.1 = 0 then _ else _) = _
                rw [if_neg (by omega)]
                rw [hr43, zB_r]
                try dsimp only
                rw [hr47, zB_l]
                try dsimp only
                first | done | rfl]
              exact ⟨rfl, ⟨he147, he247⟩, fun j => (sN47.2.2.1 215 j (by decide)).trans (sL43.2.2.1 215 j (by decide)), fun j => (sN47.2.2.2.1 220 j (by decide)).trans (sL43.2.2.2.1 220 j (by decide))⟩
          · rw [hr47, zOK_r] at hz47
            obtain ⟨hb47, ht47⟩ := hz47
            subst hb47
            refine h_V1 rfl oL43 l0 ci_213 rfl rfl hf47 ?_
            refine j_ne (kn := kn) (t := 1) (tgt := 56) (np := 49) rfl (by unfold R32; omega) (fun e50 => ?_) (fun e50 => ?_)
            · refine h_iincv k_1 rfl l0 rfl (fun vl51 l51 => ?_)
              refine h_goto rfl ?_
              obtain ⟨p1, hp1, hp2, hp3⟩ := tM43
              obtain ⟨p9, hp91, hp92, hp93⟩ := zEnd_i hy43.2.1 hr47
              have hp29 := rd_p hpn hpS k443 hp1 hp2 hp3 (zEnd_2 hr47) hp91
              rw [show zLoop B n 900 (f + 1) (S, R, N, hr, hk, hp) l = zLoop B n 900 f (qN47, qN43.2) (l + 1) from by
                show (if S.1 = 0 then _ else _) = _
                rw [if_neg (by omega), hr43, zB_r]
                try dsimp only
                rw [hr47, zB_r]]
              refine Tp_mono ?_ (ih qN47 qN43.2.1 qN43.2.2.1 qN43.2.2.2.1 qN43.2.2.2.2.1 qN43.2.2.2.2.2 (l + 1) wN47 _ p9 (by omega) (by omega) (by omega) hp92 hp93 ⟨ht47, ⟨p9, hp92, hp93⟩, (pR_sm sN47 (by decide) hy43.2.2.1), (by rw [sN47.1 213 24 (by decide)]; exact hy43.2.2.2.1), (by rw [sN47.1 213 25 (by decide)]; exact hy43.2.2.2.2.1), (by rw [sN47.1 213 26 (by decide)]; exact hy43.2.2.2.2.2)⟩ zI43 oN47.1 l51)
              intro r hr9
              obtain ⟨w', v9, e9, e10, e11⟩ := hr9
              exact ⟨w', v9, e9, e10, brR_tr (fun j => (sN47.2.2.1 215 j (by decide)).trans (sL43.2.2.1 215 j (by decide))) (fun j => (sN47.2.2.2.1 220 j (by decide)).trans (sL43.2.2.2.1 220 j (by decide))) e11⟩
            · omega
theorem y_bridgeR {kn : sKn} {w0 : sW} {B : Nat → Int} {n : Nat} (N : Nat → Int) (hw : wOk ZZ w0) (h2 : gF w0 213 2 = (n : Int)) (hB : ∀ i, i < n → gX w0 214 i = B i) (hn940 : n ≤ 940) (hbb : ∀ i, i < n → 0 ≤ B i ∧ B i ≤ 255) : ∃ (w' : sW) (v : Int), fX12_bridge kn [.ref 213] w0 = some (some (hI v), w', 0, 0) ∧ v = zAns (zBridge B n 900 N) ∧ brR (zBridge B n 900 N) w0 w' := by
  have K : Tp (tX12_bridge kn) (fun r => ∃ (w' : sW) (v : Int), r = (some (hI v), w', 0, 0) ∧ v = zAns (zBridge B n 900 N) ∧ brR (zBridge B n 900 N) w0 w') 0 (lv_args 0 [.ref 213], [], w0, 0, 0) := by
    have l0 : hL (lv_args 0 [.ref 213]) (lv_args 0 [.ref 213]) := hL_ex rfl
    have o0 : hO dBr w0 w0 := hO_rf hw
    refine h_aload rfl l0 rfl ?_
    refine h_intv k_900 rfl ?_
    obtain ⟨wB, hf41, oB', sB, tB⟩ := x_beginR (kn := kn) 900 o0.1 h2 hB hn940 (by omega) hbb
    have oB := hO_tr o0 (hO_mono dBr_G oB')
    refine h_W2 rfl o0 l0 ci_213 rfl rfl hf41 ?_
    refine h_aload rfl l0 rfl ?_
    obtain ⟨wS, hf42, oS', sS, xS⟩ := x_startRead (kn := kn) oB.1
    have oS := hO_tr oB (hO_mono dBr_R oS')
    refine h_W1 rfl oB l0 ci_213 rfl rfl hf42 ?_
    refine h_aload rfl l0 rfl ?_
    refine h_intv k_0 rfl ?_
    refine x_putK (by rfl) rfl oS fi_24 rfl (by omega) (by omega) (fun w43 o43 q44a q44F q44X q44J q44Y q44R => ?_)
    refine h_aload rfl l0 rfl ?_
    refine h_intv k_0 rfl ?_
    refine x_putK (by rfl) rfl o43 fi_25 rfl (by omega) (by omega) (fun w45 o45 q46a q46F q46X q46J q46Y q46R => ?_)
    refine h_aload rfl l0 rfl ?_
    refine h_intv k_0 rfl ?_
    refine x_putK (by rfl) rfl o45 fi_26 rfl (by omega) (by omega) (fun w47 o47 q48a q48F q48X q48J q48Y q48R => ?_)
    refine h_intv k_0 rfl ?_
    refine h_istore rfl l0 (fun vl49 l49 => ?_)
    refine Tp_mono ?_ (y_brLoop (kn := kn) (B := B) (n := n) 942 (lexT B n 900 0) zR0 N 0 0 0 0 w47 _ 0 rfl (by omega) (by omega) (by omega) rfl ⟨(tkR_sm (smW_tr (smW_tr (smW_tr (smW_tr (smW_rf eRX _) (smW_mono (by decide) sS)) (sm_pI (by decide) q44F q44X q44J q44Y q44R)) (sm_pI (by decide) q46F q46X q46J q46Y q46R)) (sm_pI (by decide) q48F q48X q48J q48Y q48R)) (by decide) tB), ⟨0, by omega, rfl⟩, ⟨fun j hj => ((smW_tr (smW_tr (smW_tr (smW_rf eRS _) (sm_pI (by decide) q44F q44X q44J q44Y q44R)) (sm_pI (by decide) q46F q46X q46J q46Y q46R)) (sm_pI (by decide) q48F q48X q48J q48Y q48R)).2.2.1 216 j (by decide)).trans (xS j hj), fun s hs => absurd hs (by show ¬ ((s : Int) < 0); omega), fun s hs => absurd hs (by show ¬ ((s : Int) < 0); omega)⟩, by rw [q48F 213 24 (by decide), q46F 213 24 (by decide), q44a], by rw [q48F 213 25 (by decide), q46a], by rw [q48a]⟩ zI_0 o47.1 l49)
    intro r hr
    obtain ⟨w', v, e1, e2, e3⟩ := hr
    exact ⟨w', v, e1, e2, brR_tr (fun j => ((((q48X 215 j).trans (q46X 215 j)).trans (q44X 215 j)).trans (sS.2.2.1 215 j (by decide))).trans (sB.2.2.1 215 j (by decide))) (fun j => ((((q48Y 220 j).trans (q46Y 220 j)).trans (q44Y 220 j)).trans (sS.2.2.2.1 220 j (by decide))).trans (sB.2.2.2.1 220 j (by decide))) e3⟩
  obtain ⟨r, h3, w2, v, h4, h5⟩ := h_meth1 (nL := 3) rfl K
  rw [h4] at h3
  exact ⟨w2, v, h3, h5⟩
theorem s_goesOnW {kn : sKn} {w : sW} (hw : wOk ZZ w) (x1 : Int) (hx1 : 0 ≤ x1 ∧ x1 ≤ 5) (x2 : Int) (hx2 : (-2147483648) ≤ x2 ∧ x2 ≤ 2147483647) : ∃ (w' : sW) (z : Int), fX12_goesOn kn [.ref 213, hI x1, hI x2] w = some (some (hI z), w', 0, 0) ∧ hO dX12_goesOn w w' ∧ ((0 ≤ z ∧ z ≤ 2147483647)) := by
  obtain ⟨r, w', h1, h2, q, hq, σ', h3, h4, h5, h6⟩ := con_use (con_X12_goesOn_0 kn) (σ := [0, x1, x2]) (av := [.ref 213, hI x1, hI x2]) (w := w) rfl rfl ⟨av_c (k := 213) rfl, av_i rfl ⟨by omega, by omega⟩, av_i rfl ⟨by omega, by omega⟩, trivial⟩ (fun q hq => by cases hq) (gE_c ⟨_, rfl, hx2⟩ (gE_c ⟨_, rfl, hx1⟩ (gE_n))) hw rfl
  rcases List.mem_singleton.mp hq with rfl
  obtain ⟨z, z1, z2, z3⟩ := gS_i h4
  rw [z2] at h1
  have z5 := gE_at (a := 0) (b := 2147483647) h6 (by first | exact List.mem_cons_self | exact List.mem_cons_of_mem _ List.mem_cons_self | exact List.mem_cons_of_mem _ (List.mem_cons_of_mem _ List.mem_cons_self) | exact List.mem_cons_of_mem _ (List.mem_cons_of_mem _ (List.mem_cons_of_mem _ List.mem_cons_self)) | decide) z1
  refine ⟨w', _, h1, h2, ?_⟩
  omega
theorem s_takeBackW {kn : sKn} {w : sW} (hw : wOk ZZ w)  : ∃ (w' : sW), fX12_takeBack kn [.ref 213] w = some (none, w', 0, 0) ∧ hO dX12_takeBack w w' := by
  obtain ⟨r, w', h1, h2, q, hq, σ', h3, h4, h5, h6⟩ := con_use (con_X12_takeBack_0 kn) (σ := [0]) (av := [.ref 213]) (w := w) rfl rfl ⟨av_c (k := 213) rfl, trivial⟩ (fun q hq => by cases hq) (gE_n) hw rfl
  rcases List.mem_singleton.mp hq with rfl
  rw [gS_v h4] at h1
  exact ⟨w', h1, h2⟩
theorem dLw1 : msub dX12_goesOn dX12_law = true := by decide +kernel
theorem dLw2 : msub dX12_layAside dX12_law = true := by decide +kernel
theorem dLw3 : msub dX12_takeBack dX12_law = true := by decide +kernel
theorem ap215_4 : aP 215 4 1 (-2147483648) 2147483647 = true := by decide +kernel
theorem ar215_4 : aR 215 4 1 (-2147483648) 2147483647 = true := by decide +kernel
theorem lw_l {kn : sKn} {w0 : sW} (hw : wOk ZZ w0) (x y : Int) (hx : R32 x) (hy : R32 y) (hx0 : 0 ≤ x) (hx6 : x < 6) : ∀ (m k : Nat) (w : sW) (lv : List (Nat × Value)) (a i : Int), k + m = 31 → i = (k : Int) → hO dX12_law w0 w → (∀ j, j < 4 → gX w 215 j = gX w0 215 j) → R32 a → hL lv [(0, .ref 213), (1, hI x), (2, hI y), (3, hI (gX w0 215 4)), (4, hI a), (5, hI i)] → Tp (tX12_law kn) (fun r => ∃ (w' : sW) (v : Int), r = (some (hI v), w', 0, 0) ∧ ∀ j, j < 5 → gX w' 215 j = gX w0 215 j) 42 (lv, [], w, 0, 0) := by
  intro m
  induction m with
  | zero =>
    intro k w lv a i hkm hik o0 hI4 ha l0
    subst hik
    have g4 := gX_in (hO_rf (D := []) hw) ai_215 ar215_4 (j := 4) (by omega) (by omega) (by omega)
    have ha1 := ha.1
    have ha2 := ha.2
    have hy1 := hy.1
    have hy2 := hy.2
    refine h_iload rfl l0 rfl ?_
    refine h_intv k_30 rfl ?_
    refine i_gt (kn := kn) (t := 4) (tgt := 87) (np := 49) rfl (by unfold R32; omega) (by unfold R32; omega) (fun e41 => ?_) (fun e41 => ?_)
    · refine h_aload rfl l0 rfl ?_
      refine h_getR rfl o0 fr_14 ?_
      refine h_intv k_4 rfl ?_
      refine h_iload rfl l0 rfl ?_
      refine h_iast (i := 4) rfl o0 ai_215 rfl rfl ap215_4 (by omega) (by omega) (by omega) (by omega) (by omega) (by unfold R32; omega) (fun w42 o42 q43a q43X q43F => ?_)
      refine h_iload rfl l0 rfl ?_
      refine h_iret rfl ?_
      refine ⟨_, _, rfl, fun j hj => ?_⟩
      by_cases e9 : j = 4
      · rw [e9]
        exact q43a
      · rw [q43X 215 j (fun _ => e9)]
        exact hI4 j (by omega)
    · omega
  | succ m ih =>
    intro k w lv a i hkm hik o0 hI4 ha l0
    subst hik
    have g4 := gX_in (hO_rf (D := []) hw) ai_215 ar215_4 (j := 4) (by omega) (by omega) (by omega)
    have ha1 := ha.1
    have ha2 := ha.2
    have hy1 := hy.1
    have hy2 := hy.2
    refine h_iload rfl l0 rfl ?_
    refine h_intv k_30 rfl ?_
    refine i_gt (kn := kn) (t := 4) (tgt := 87) (np := 49) rfl (by unfold R32; omega) (by unfold R32; omega) (fun e41 => ?_) (fun e41 => ?_)
    · refine h_aload rfl l0 rfl ?_
      refine h_getR rfl o0 fr_14 ?_
      refine h_intv k_4 rfl ?_
      refine h_iload rfl l0 rfl ?_
      refine h_iast (i := 4) rfl o0 ai_215 rfl rfl ap215_4 (by omega) (by omega) (by omega) (by omega) (by omega) (by unfold R32; omega) (fun w42 o42 q43a q43X q43F => ?_)
      refine h_iload rfl l0 rfl ?_
      refine h_iret rfl ?_
      refine ⟨_, _, rfl, fun j hj => ?_⟩
      by_cases e9 : j = 4
      · rw [e9]
        exact q43a
      · rw [q43X 215 j (fun _ => e9)]
        exact hI4 j (by omega)
    · refine h_iload rfl l0 rfl ?_
      refine h_intv k_n1 rfl ?_
      refine i_ne (kn := kn) (t := 1) (tgt := 87) (np := 55) rfl (by unfold R32; omega) (by unfold R32; omega) (fun e44 => ?_) (fun e44 => ?_)
      · refine h_aload rfl l0 rfl ?_
        refine h_getR rfl o0 fr_14 ?_
        refine h_intv k_4 rfl ?_
        refine h_iload rfl l0 rfl ?_
        refine h_iast (i := 4) rfl o0 ai_215 rfl rfl ap215_4 (by omega) (by omega) (by omega) (by omega) (by omega) (by unfold R32; omega) (fun w45 o45 q46a q46X q46F => ?_)
        refine h_iload rfl l0 rfl ?_
        refine h_iret rfl ?_
        refine ⟨_, _, rfl, fun j hj => ?_⟩
        by_cases e9 : j = 4
        · rw [e9]
          exact q46a
        · rw [q46X 215 j (fun _ => e9)]
          exact hI4 j (by omega)
      · refine h_aload rfl l0 rfl ?_
        refine h_getR rfl o0 fr_14 ?_
        refine h_intv k_4 rfl ?_
        refine h_iload rfl l0 rfl ?_
        refine h_iast (i := 4) rfl o0 ai_215 rfl rfl ap215_4 (by omega) (by omega) (by omega) (by omega) (by omega) (by unfold R32; omega) (fun w47 o47 q48a q48X q48F => ?_)
        refine h_aload rfl l0 rfl ?_
        refine h_iload rfl l0 rfl ?_
        refine h_iload rfl l0 rfl ?_
        obtain ⟨wA49, z49, hf49, oA49', hz49⟩ := s_goesOnW (kn := kn) o47.1 x ⟨by omega, by omega⟩ y hy
        have oA49 := hO_tr o47 (hO_mono dLw1 oA49')
        refine h_V3 rfl o47 l0 ci_213 rfl rfl hf49 ?_
        refine h_iload rfl l0 rfl ?_
        refine i_ne (kn := kn) (t := 1) (tgt := 77) (np := 73) rfl (by unfold R32; omega) (by unfold R32; omega) (fun e50 => ?_) (fun e50 => ?_)
        · refine h_aload rfl l0 rfl ?_
          obtain ⟨wA51, hf51, oA51'⟩ := s_takeBackW (kn := kn) oA49.1
          have oA51 := hO_tr oA49 (hO_mono dLw3 oA51')
          refine h_W1 rfl oA49 l0 ci_213 rfl rfl hf51 ?_
          refine h_iincv k_1 rfl l0 rfl (fun vl52 l52 => ?_)
          refine h_goto rfl ?_
          exact ih (k + 1) wA51 _ _ ((k : Int) + 1) (by omega) (by omega) oA51 (fun j hj => by rw [hw_of oA51' (by decide +kernel) (by omega), hw_of oA49' (by decide +kernel) (by omega), q48X 215 j (fun _ => by omega)]; exact hI4 j hj) ha l52
        · refine h_iload rfl l0 rfl ?_
          refine h_istore rfl l0 (fun vl53 l53 => ?_)
          refine h_aload rfl l53 rfl ?_
          obtain ⟨wA54, hf54, oA54'⟩ := s_takeBackW (kn := kn) oA49.1
          have oA54 := hO_tr oA49 (hO_mono dLw3 oA54')
          refine h_W1 rfl oA49 l53 ci_213 rfl rfl hf54 ?_
          refine h_iincv k_1 rfl l53 rfl (fun vl55 l55 => ?_)
          refine h_goto rfl ?_
          exact ih (k + 1) wA54 _ _ ((k : Int) + 1) (by omega) (by omega) oA54 (fun j hj => by rw [hw_of oA54' (by decide +kernel) (by omega), hw_of oA49' (by decide +kernel) (by omega), q48X 215 j (fun _ => by omega)]; exact hI4 j hj) ⟨by omega, by omega⟩ l55
theorem x_lawR {kn : sKn} {w0 : sW} (hw : wOk ZZ w0) (x y : Int) (hx : R32 x) (hy : R32 y) : ∃ (w' : sW) (v : Int), fX12_law kn [.ref 213, hI x, hI y] w0 = some (some (hI v), w', 0, 0) ∧ ∀ j, j < 5 → gX w' 215 j = gX w0 215 j := by
  have K : Tp (tX12_law kn) (fun r => ∃ (w' : sW) (v : Int), r = (some (hI v), w', 0, 0) ∧ ∀ j, j < 5 → gX w' 215 j = gX w0 215 j) 0 (lv_args 0 [.ref 213, hI x, hI y], [], w0, 0, 0) := by
    have l0 : hL (lv_args 0 [.ref 213, hI x, hI y]) (lv_args 0 [.ref 213, hI x, hI y]) := hL_ex rfl
    have o0 : hO dX12_law w0 w0 := hO_rf hw
    refine h_aload rfl l0 rfl ?_
    refine h_intv k_0 rfl ?_
    refine x_putI rfl o0 fi_0 rfl (by omega) (by omega) (fun w41 o41 q42a q42F q42X q42J q42Y q42R => ?_)
    refine h_aload rfl l0 rfl ?_
    refine h_iload rfl l0 rfl ?_
    obtain ⟨z43, hf43, hz43⟩ := s_isLoad (kn := kn) o41.1 x hx
    refine h_V2 rfl o41 l0 ci_213 rfl rfl hf43 ?_
    refine j_eq (kn := kn) (t := 0) (tgt := 23) (np := 13) rfl (by unfold R32; omega) (fun e44 => ?_) (fun e44 => ?_)
    · refine h_intv k_n1 rfl ?_
      refine h_iret rfl ?_
      refine ⟨_, _, rfl, fun j hj => ?_⟩
      rw [q42X 215 j]
    · refine h_iload rfl l0 rfl ?_
      refine h_intv k_1 rfl ?_
      refine h_intv k_60 rfl ?_
      obtain ⟨z45, hf45, hz45⟩ := s_isIn (kn := kn) o41.1 y 1 60 hy ⟨by omega, by omega⟩ ⟨by omega, by omega⟩
      refine h_S3 rfl o41 l0 rfl rfl hf45 ?_
      refine j_ne (kn := kn) (t := 1) (tgt := 25) (np := 23) rfl (by unfold R32; omega) (fun e46 => ?_) (fun e46 => ?_)
      · refine h_aload rfl l0 rfl ?_
        refine h_getR rfl o41 fr_14 ?_
        refine h_intv k_4 rfl ?_
        refine h_ialdj (4) rfl o41 ai_215 rfl (by omega) (by omega) (fun b47a b47b => ?_)
        rw [q42X 215 4] at b47a b47b ⊢
        refine h_istore rfl l0 (fun vl48 l48 => ?_)
        refine h_intv k_n1 rfl ?_
        refine h_istore rfl l48 (fun vl49 l49 => ?_)
        refine h_aload rfl l49 rfl ?_
        obtain ⟨wA50, hf50, oA50'⟩ := s_layAsideR (kn := kn) o41.1
        have oA50 := hO_tr o41 (hO_mono dLw2 oA50')
        refine h_W1 rfl o41 l49 ci_213 rfl rfl hf50 ?_
        refine h_intv k_0 rfl ?_
        refine h_istore rfl l49 (fun vl51 l51 => ?_)
        exact lw_l hw x y hx hy (by omega) (by omega) 31 0 wA50 _ _ 0 rfl rfl oA50 (fun j hj => by rw [hw_of oA50' (by decide +kernel) (by omega), q42X 215 j]) ⟨by omega, by omega⟩ l51
      · refine h_intv k_n1 rfl ?_
        refine h_iret rfl ?_
        refine ⟨_, _, rfl, fun j hj => ?_⟩
        rw [q42X 215 j]
  obtain ⟨r, h3, w2, v, h4, h5⟩ := h_meth1 (nL := 6) rfl K
  rw [h4] at h3
  exact ⟨w2, v, h3, h5⟩
def cnt (a b c d e f x : Int) : Int := if x = 0 then a else if x = 1 then b else if x = 2 then c else if x = 3 then d else if x = 4 then e else if x = 5 then f else -1
def cntC (w : sW) (x : Int) : Int := cnt (gF w 14 0) (gF w 14 2) (gF w 14 3) (gF w 14 4) (gF w 14 1) (gF w 1 1) x
def cntR (w : sW) (x : Int) : Int := cnt (gX w 215 0) (gX w 215 1) (gX w 215 2) (gX w 215 3) (gX w 215 4) (gF w 213 2) x
theorem x_countC {kn : sKn} {w0 : sW} (hw : wOk ZZ w0) (x : Int) (hx : R32 x) : fX11_count kn [.ref 0, hI x] w0 = some (some (hI (cntC w0 x)), w0, 0, 0) ∧ R32 (cntC w0 x) := by
  have hx1 := hx.1
  have hx2 := hx.2
  have K : Tp (tX11_count kn) (fun r => ∃ v : Int, r = (some (hI v), w0, 0, 0) ∧ v = cntC w0 x ∧ R32 v) 0 (lv_args 0 [.ref 0, hI x], [], w0, 0, 0) := by
    have l0 : hL (lv_args 0 [.ref 0, hI x]) (lv_args 0 [.ref 0, hI x]) := hL_ex rfl
    have o0 : hO dX11_count w0 w0 := hO_rf hw
    refine h_iload rfl l0 rfl ?_
    by_cases e41_0 : x = 0
    · refine h_tab 0 e41_0 (by unfold R32; omega) rfl (by omega) (by omega) rfl ?_
      refine h_aload rfl l0 rfl ?_
      refine h_getR rfl o0 fq_0_2 ?_
      refine h_getI rfl o0 fq_14_0 (fun b42a b42b => ?_)
      refine h_iret rfl ?_
      refine ⟨_, rfl, ?_⟩
      unfold cntC cnt
      rw [if_pos e41_0]
      exact ⟨rfl, by unfold R32; omega⟩
    by_cases e41_1 : x = 1
    · refine h_tab 1 e41_1 (by unfold R32; omega) rfl (by omega) (by omega) rfl ?_
      refine h_aload rfl l0 rfl ?_
      refine h_getR rfl o0 fq_0_2 ?_
      refine h_getI rfl o0 fq_14_2 (fun b43a b43b => ?_)
      refine h_iret rfl ?_
      refine ⟨_, rfl, ?_⟩
      unfold cntC cnt
      rw [if_neg e41_0, if_pos e41_1]
      exact ⟨rfl, by unfold R32; omega⟩
    by_cases e41_2 : x = 2
    · refine h_tab 2 e41_2 (by unfold R32; omega) rfl (by omega) (by omega) rfl ?_
      refine h_aload rfl l0 rfl ?_
      refine h_getR rfl o0 fq_0_2 ?_
      refine h_getI rfl o0 fq_14_3 (fun b44a b44b => ?_)
      refine h_iret rfl ?_
      refine ⟨_, rfl, ?_⟩
      unfold cntC cnt
      rw [if_neg e41_0, if_neg e41_1, if_pos e41_2]
      exact ⟨rfl, by unfold R32; omega⟩
    by_cases e41_3 : x = 3
    · refine h_tab 3 e41_3 (by unfold R32; omega) rfl (by omega) (by omega) rfl ?_
      refine h_aload rfl l0 rfl ?_
      refine h_getR rfl o0 fq_0_2 ?_
      refine h_getI rfl o0 fq_14_4 (fun b45a b45b => ?_)
      refine h_iret rfl ?_
      refine ⟨_, rfl, ?_⟩
      unfold cntC cnt
      rw [if_neg e41_0, if_neg e41_1, if_neg e41_2, if_pos e41_3]
      exact ⟨rfl, by unfold R32; omega⟩
    by_cases e41_4 : x = 4
    · refine h_tab 4 e41_4 (by unfold R32; omega) rfl (by omega) (by omega) rfl ?_
      refine h_aload rfl l0 rfl ?_
      refine h_getR rfl o0 fq_0_2 ?_
      refine h_getI rfl o0 fq_14_1 (fun b46a b46b => ?_)
      refine h_iret rfl ?_
      refine ⟨_, rfl, ?_⟩
      unfold cntC cnt
      rw [if_neg e41_0, if_neg e41_1, if_neg e41_2, if_neg e41_3, if_pos e41_4]
      exact ⟨rfl, by unfold R32; omega⟩
    by_cases e41_5 : x = 5
    · refine h_tab 5 e41_5 (by unfold R32; omega) rfl (by omega) (by omega) rfl ?_
      refine h_aload rfl l0 rfl ?_
      refine h_getR rfl o0 fq_0_0 ?_
      refine h_getI rfl o0 fi_1_1 (fun b47a b47b => ?_)
      refine h_iret rfl ?_
      refine ⟨_, rfl, ?_⟩
      unfold cntC cnt
      rw [if_neg e41_0, if_neg e41_1, if_neg e41_2, if_neg e41_3, if_neg e41_4, if_pos e41_5]
      exact ⟨rfl, by unfold R32; omega⟩
    refine h_tabd rfl (by unfold R32; omega) (by omega) ?_
    refine h_intv k_n1 rfl ?_
    refine h_iret rfl ?_
    refine ⟨_, rfl, ?_⟩
    unfold cntC cnt
    rw [if_neg e41_0, if_neg e41_1, if_neg e41_2, if_neg e41_3, if_neg e41_4, if_neg e41_5]
    exact ⟨rfl, by unfold R32; omega⟩
  obtain ⟨r, h3, v, h4, h5, h6⟩ := h_meth1 (nL := 2) rfl K
  rw [h4] at h3
  rw [← h5]
  exact ⟨h3, h6⟩
theorem x_countR {kn : sKn} {w0 : sW} (hw : wOk ZZ w0) (x : Int) (hx : R32 x) : ∃ w', fX12_count kn [.ref 213, hI x] w0 = some (some (hI (cntR w0 x)), w', 0, 0) ∧ hO dX12_count w0 w' := by
  have hx1 := hx.1
  have hx2 := hx.2
  have K : Tp (tX12_count kn) (fun r => ∃ (w' : sW) (v : Int), r = (some (hI v), w', 0, 0) ∧ hO dX12_count w0 w' ∧ v = cntR w0 x) 0 (lv_args 0 [.ref 213, hI x], [], w0, 0, 0) := by
    have l0 : hL (lv_args 0 [.ref 213, hI x]) (lv_args 0 [.ref 213, hI x]) := hL_ex rfl
    have o0 : hO dX12_count w0 w0 := hO_rf hw
    refine h_aload rfl l0 rfl ?_
    refine h_intv k_0 rfl ?_
    refine x_putI rfl o0 fi_0 rfl (by omega) (by omega) (fun w41 o41 q42a q42F q42X q42J q42Y q42R => ?_)
    refine h_iload rfl l0 rfl ?_
    by_cases e43_0 : x = 0
    · refine h_tab 0 e43_0 (by unfold R32; omega) rfl (by omega) (by omega) rfl ?_
      refine h_aload rfl l0 rfl ?_
      refine h_getR rfl o41 fr_14 ?_
      refine h_intv k_0 rfl ?_
      refine h_ialdj (0) rfl o41 ai_215 rfl (by omega) (by omega) (fun b44a b44b => ?_)
      rw [q42X 215 0] at b44a b44b ⊢
      refine h_iret rfl ?_
      refine ⟨_, _, rfl, o41, ?_⟩
      unfold cntR cnt
      rw [if_pos e43_0]
    by_cases e43_1 : x = 1
    · refine h_tab 1 e43_1 (by unfold R32; omega) rfl (by omega) (by omega) rfl ?_
      refine h_aload rfl l0 rfl ?_
      refine h_getR rfl o41 fr_14 ?_
      refine h_intv k_1 rfl ?_
      refine h_ialdj (1) rfl o41 ai_215 rfl (by omega) (by omega) (fun b45a b45b => ?_)
      rw [q42X 215 1] at b45a b45b ⊢
      refine h_iret rfl ?_
      refine ⟨_, _, rfl, o41, ?_⟩
      unfold cntR cnt
      rw [if_neg e43_0, if_pos e43_1]
    by_cases e43_2 : x = 2
    · refine h_tab 2 e43_2 (by unfold R32; omega) rfl (by omega) (by omega) rfl ?_
      refine h_aload rfl l0 rfl ?_
      refine h_getR rfl o41 fr_14 ?_
      refine h_intv k_2 rfl ?_
      refine h_ialdj (2) rfl o41 ai_215 rfl (by omega) (by omega) (fun b46a b46b => ?_)
      rw [q42X 215 2] at b46a b46b ⊢
      refine h_iret rfl ?_
      refine ⟨_, _, rfl, o41, ?_⟩
      unfold cntR cnt
      rw [if_neg e43_0, if_neg e43_1, if_pos e43_2]
    by_cases e43_3 : x = 3
    · refine h_tab 3 e43_3 (by unfold R32; omega) rfl (by omega) (by omega) rfl ?_
      refine h_aload rfl l0 rfl ?_
      refine h_getR rfl o41 fr_14 ?_
      refine h_intv k_3 rfl ?_
      refine h_ialdj (3) rfl o41 ai_215 rfl (by omega) (by omega) (fun b47a b47b => ?_)
      rw [q42X 215 3] at b47a b47b ⊢
      refine h_iret rfl ?_
      refine ⟨_, _, rfl, o41, ?_⟩
      unfold cntR cnt
      rw [if_neg e43_0, if_neg e43_1, if_neg e43_2, if_pos e43_3]
    by_cases e43_4 : x = 4
    · refine h_tab 4 e43_4 (by unfold R32; omega) rfl (by omega) (by omega) rfl ?_
      refine h_aload rfl l0 rfl ?_
      refine h_getR rfl o41 fr_14 ?_
      refine h_intv k_4 rfl ?_
      refine h_ialdj (4) rfl o41 ai_215 rfl (by omega) (by omega) (fun b48a b48b => ?_)
      rw [q42X 215 4] at b48a b48b ⊢
      refine h_iret rfl ?_
      refine ⟨_, _, rfl, o41, ?_⟩
      unfold cntR cnt
      rw [if_neg e43_0, if_neg e43_1, if_neg e43_2, if_neg e43_3, if_pos e43_4]
    by_cases e43_5 : x = 5
    · refine h_tab 5 e43_5 (by unfold R32; omega) rfl (by omega) (by omega) rfl ?_
      refine h_aload rfl l0 rfl ?_
      refine h_getI rfl o41 fi_2 (fun b49a b49b => ?_)
      rw [q42F 213 2 (by decide)] at b49a b49b ⊢
      refine h_iret rfl ?_
      refine ⟨_, _, rfl, o41, ?_⟩
      unfold cntR cnt
      rw [if_neg e43_0, if_neg e43_1, if_neg e43_2, if_neg e43_3, if_neg e43_4, if_pos e43_5]
    refine h_tabd rfl (by unfold R32; omega) (by omega) ?_
    refine h_intv k_n1 rfl ?_
    refine h_iret rfl ?_
    refine ⟨_, _, rfl, o41, ?_⟩
    unfold cntR cnt
    rw [if_neg e43_0, if_neg e43_1, if_neg e43_2, if_neg e43_3, if_neg e43_4, if_neg e43_5]
  obtain ⟨r, h3, w2, v, h4, h5, h6⟩ := h_meth1 (nL := 2) rfl K
  rw [h4, h6] at h3
  exact ⟨w2, h3, h5⟩
end
