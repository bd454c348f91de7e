noncomputable section
theorem wfr {n k : Nat} (h : k < n) : wfV n (.ref k) = true := by
  show (Nat.blt k n || Nat.ble 1000000 k) = true
  rw [Nat.blt_eq.mpr h]
  rfl
theorem wfs {n k : Nat} (h : Nat.ble 1000000 k = true := by rfl) : wfV n (.ref k) = true := by
  show (Nat.blt k n || Nat.ble 1000000 k) = true
  rw [h, Bool.or_true]
def wL (N : Nat) (lv : List (Nat × Value)) : Prop := ∀ q ∈ lv, wfV N q.2 = true
theorem wq_put {N i : Nat} {lv : List (Nat × Value)} {v : Value} (h : wL N lv) (hv : wfV N v = true) : wL N (l_put lv i v) := by
  intro q hq
  unfold l_put at hq
  rw [l_cut_eq] at hq
  rcases List.mem_cons.mp hq with rfl | hq
  · exact hv
  · exact h q (List.mem_filter.mp hq).1
def wV (N : Nat) (vs : List Value) : Prop := ∀ v ∈ vs, wfV N v = true
theorem wl_n {N : Nat} : wV N [] := fun _ h => by cases h
theorem wl_c {N : Nat} {v : Value} {vs : List Value} (h : wfV N v = true) (g : wV N vs) : wV N (v :: vs) := List.forall_mem_cons.mpr ⟨h, g⟩
theorem wq_args {N : Nat} : ∀ {av : List Value} {i : Nat}, wV N av → wL N (lv_args i av) := by
  intro av
  induction av with
  | nil => intro i _ q hq; cases hq
  | cons v r ih =>
    intro i h q hq
    have h1 := h v List.mem_cons_self
    have h2 : wV N r := fun u hu => h u (List.mem_cons_of_mem _ hu)
    unfold lv_args at hq
    rcases List.mem_cons.mp hq with rfl | hq
    · exact h1
    · exact ih h2 q hq
theorem wV_mono {N N' : Nat} {v : Value} (h : N ≤ N') (g : wfV N v = true) : wfV N' v = true := by
  cases v with
  | ref k =>
    have g : (Nat.blt k N || Nat.ble 1000000 k) = true := g
    show (Nat.blt k N' || Nat.ble 1000000 k) = true
    rw [Bool.or_eq_true] at g ⊢
    rcases g with g | g
    · exact Or.inl (Nat.blt_eq.mpr (Nat.lt_of_lt_of_le (Nat.blt_eq.mp g) h))
    · exact Or.inr g
  | _ => rfl
theorem wL_mono {N N' : Nat} {lv : List (Nat × Value)} (h : N ≤ N') (g : wL N lv) : wL N' lv := fun q hq => wV_mono h (g q hq)
theorem cok {lv : List (Nat × Value)} {stk : List Value} {w : sW} {n m na : Nat} (h1 : Nat.ble na stk.length = true) (h2 : Nat.ble ((stk.drop na).map fun v => v.category).sum 8 = true) (h3 : wL w.length lv) (h4 : wV w.length (stk.drop na)) : c_ok (lv, stk, w, n, m) na = true := by
  unfold c_ok
  rw [xl_eq, xa_eq, xa_eq, h1, h2, List.all_eq_true.mpr h3, List.all_eq_true.mpr h4]
  rfl
theorem mth {tbl : List (Nat × sA)} {nL : Nat} {av : List Value} {w : sW} {X : sR} (hn : Nat.ble (lg_sl av).length nL = true) (h : Tp tbl (fun r => r = X) 0 (lv_args 0 av, [], w, 0, 0)) : fW tbl nL av w = some X := by
  obtain ⟨r, h1, h2⟩ := h_meth1 hn h
  rw [h1, h2]
/-- a byte that is stored fits -/
theorem bfit_nar (x : Int32) : bfit (.int (vp_nar .byte x)) = true := by
  show (decide ((-128 : Int32) ≤ x.toInt8.toInt32) && decide (x.toInt8.toInt32 ≤ 127)) = true
  have h1 := Int8.le_toInt x.toInt8
  have h2 := Int8.toInt_lt x.toInt8
  rw [Bool.and_eq_true, decide_eq_true_iff, decide_eq_true_iff, Int32.le_iff_toInt_le, Int32.le_iff_toInt_le, Int8.toInt_toInt32]
  exact ⟨by rw [show ((-128 : Int32)).toInt = -128 from by decide +kernel]; omega, by rw [show ((127 : Int32)).toInt = 127 from by decide +kernel]; omega⟩
/-- the builder: cell 97, its bytes in b -/
def bdH (w : sW) (b L c : Nat) (z : Int) (bs : List Value) : Prop := w[97]? = some (.inr (0, [.ref b, hI 0, hI z, hI (c : Int)])) ∧ w[b]? = some (.inl (0, bs)) ∧ bs.length = L ∧ bs.all bfit = true
theorem lp_get {lv : List (Nat × Value)} {i j : Nat} {v u : Value} (h : i ≠ j) (g : l_get lv j = some u) (hc : u.category = 1 ∨ j + 1 ≠ i) : l_get (l_put lv i v) j = some u := by
  have e : j ≠ i := fun z => h z.symm
  rw [l_put, l_get_skip h, l_cut_eq]
  refine l_get_filter g ?_
  rcases hc with e2 | e2
  · simp [e, e2]
  · simp [e, e2]
theorem k_2147483639 : (2147483639 : Int32) = Int32.ofInt (2147483639) := by decide +kernel
theorem k_2147483647 : (2147483647 : Int32) = Int32.ofInt (2147483647) := by decide +kernel
theorem b_isL {kn : sKn} {w : sW} {b L c : Nat} {z : Int} {bs : List Value} (hB : bdH w b L c z bs)  : fJ5_isLatin1_aae02 kn [.ref 97] w = some (some (hI 1), w, 0, 0) := by
  obtain ⟨hc, hb, hL, hbf⟩ := hB
  have h97 := (List.getElem?_eq_some_iff.mp hc).1
  have hbl := (List.getElem?_eq_some_iff.mp hb).1
  have hlv : wL w.length (lv_args 0 [.ref 97]) := wq_args (wl_c (wfr (by first | exact h97 | omega)) (wl_n))
  have K : Tp (tJ5_isLatin1_aae02 kn) (fun r => r = (some (hI 1), w, 0, 0)) 0 (lv_args 0 [.ref 97], [], w, 0, 0) := by
    refine r_getsI k_1 rfl ?_
    refine r_ifv (kn := kn) (b := b_eq) (t := 0) (tgt := 17) (np := 6) rfl (z_eq (by unfold R32; omega)) (fun e1 => ?_) (fun e1 => ?_)
    · omega
    · refine r_aload rfl rfl ?_
      refine r_get rfl hc rfl ?_
      refine r_ifv (kn := kn) (b := b_ne) (t := 1) (tgt := 17) (np := 13) rfl (z_ne (by unfold R32; omega)) (fun e2 => ?_) (fun e2 => ?_)
      · omega
      · refine r_intv k_1 rfl ?_
        refine r_goto rfl ?_
        refine r_zret1 rfl ?_
        rfl
  exact mth (nL := 1) rfl K
theorem b_canE {kn : sKn} {w : sW} {x : Int} (hx : 0 ≤ x ∧ x ≤ 255) : fJ1_canEncode_fc78d kn [hI (x)] w = some (some (hI 1), w, 0, 0) := by
  have hlv : wL w.length (lv_args 0 [hI (x)]) := wq_args (wl_c rfl (wl_n))
  have K : Tp (tJ1_canEncode_fc78d kn) (fun r => r = (some (hI 1), w, 0, 0)) 0 (lv_args 0 [hI (x)], [], w, 0, 0) := by
    refine r_iload rfl rfl ?_
    refine r_intv k_255 rfl ?_
    refine r_icmp (kn := kn) (b := b_gt) (t := 4) (tgt := 11) (np := 7) rfl (c_gt (by unfold R32; omega) (by unfold R32; omega)) (fun e1 => ?_) (fun e1 => ?_)
    · omega
    · refine r_intv k_1 rfl ?_
      refine r_goto rfl ?_
      refine r_zret1 rfl ?_
      rfl
  exact mth (nL := 1) rfl K
theorem b_len5 {kn : sKn} {w : sW} {b L c : Nat} {z : Int} {bs : List Value} (hB : bdH w b L c z bs)  : fJ5_length_8abf5 kn [.ref 97] w = some (some (hI (c : Int)), w, 0, 0) := by
  obtain ⟨hc, hb, hL, hbf⟩ := hB
  have h97 := (List.getElem?_eq_some_iff.mp hc).1
  have hbl := (List.getElem?_eq_some_iff.mp hb).1
  have hlv : wL w.length (lv_args 0 [.ref 97]) := wq_args (wl_c (wfr (by first | exact h97 | omega)) (wl_n))
  have K : Tp (tJ5_length_8abf5 kn) (fun r => r = (some (hI (c : Int)), w, 0, 0)) 0 (lv_args 0 [.ref 97], [], w, 0, 0) := by
    refine r_aload rfl rfl ?_
    refine r_get rfl hc rfl ?_
    refine r_iret rfl ?_
    rfl
  exact mth (nL := 1) rfl K
theorem b_len4 {kn : sKn} {w : sW} {b L c : Nat} {z : Int} {bs : List Value} (hB : bdH w b L c z bs)  : fJ4_length_8abf5 kn [.ref 97] w = some (some (hI (c : Int)), w, 0, 0) := by
  obtain ⟨hc, hb, hL, hbf⟩ := hB
  have h97 := (List.getElem?_eq_some_iff.mp hc).1
  have hbl := (List.getElem?_eq_some_iff.mp hb).1
  have hlv : wL w.length (lv_args 0 [.ref 97]) := wq_args (wl_c (wfr (by first | exact h97 | omega)) (wl_n))
  have K : Tp (tJ4_length_8abf5 kn) (fun r => r = (some (hI (c : Int)), w, 0, 0)) 0 (lv_args 0 [.ref 97], [], w, 0, 0) := by
    refine r_aload rfl rfl ?_
    have hf1 := b_len5 (kn := kn) ⟨hc, hb, hL, hbf⟩
    refine r_callV rfl (cok rfl rfl hlv (wl_n)) rfl rfl hc hf1 ?_
    refine r_iret rfl ?_
    rfl
  exact mth (nL := 1) rfl K
theorem b_coder {kn : sKn} {w : sW}  : fJ0_coder_7d493 kn [.ref 1000002] w = some (some (hI 0), w, 0, 0) := by
  have hlv : wL w.length (lv_args 0 [.ref 1000002]) := wq_args (wl_c wfs (wl_n))
  have K : Tp (tJ0_coder_7d493 kn) (fun r => r = (some (hI 0), w, 0, 0)) 0 (lv_args 0 [.ref 1000002], [], w, 0, 0) := by
    refine r_getsI k_1 rfl ?_
    refine r_ifv (kn := kn) (b := b_eq) (t := 0) (tgt := 13) (np := 6) rfl (z_eq (by unfold R32; omega)) (fun e1 => ?_) (fun e1 => ?_)
    · omega
    · refine r_aload rfl rfl ?_
      refine r_strf (v := hI 0) rfl ?_
      refine r_goto rfl ?_
      refine r_bret rfl ?_
      rfl
  exact mth (nL := 1) rfl K
theorem b_lenS {kn : sKn} {w : sW}  : fJ0_length_8abf5 kn [.ref 1000002] w = some (some (hI 3), w, 0, 0) := by
  have hlv : wL w.length (lv_args 0 [.ref 1000002]) := wq_args (wl_c wfs (wl_n))
  have K : Tp (tJ0_length_8abf5 kn) (fun r => r = (some (hI 3), w, 0, 0)) 0 (lv_args 0 [.ref 1000002], [], w, 0, 0) := by
    refine r_aload rfl rfl ?_
    refine r_strf rfl ?_
    refine r_alenS rfl ?_
    refine r_aload rfl rfl ?_
    have hf6 := b_coder (kn := kn) (w := w)
    refine r_callVS rfl (cok rfl rfl hlv (wl_c rfl (wl_n))) rfl rfl hf6 ?_
    refine r_ishr rfl ?_
    refine r_iret rfl ?_
    rfl
  exact mth (nL := 1) rfl K
theorem b_ens0 {kn : sKn} {w : sW} {b L c : Nat} {z : Int} {bs : List Value} (hB : bdH w b L c z bs) {mi : Int} (hm : 0 ≤ mi ∧ mi ≤ (L : Int)) (hL2 : L ≤ 1000) : fJ5_ensureCapacityInternal_d00dfB kn [.ref 97, hI (mi)] w = some (none, w, 0, 0) := by
  obtain ⟨hc, hb, hL, hbf⟩ := hB
  have h97 := (List.getElem?_eq_some_iff.mp hc).1
  have hbl := (List.getElem?_eq_some_iff.mp hb).1
  have hlv : wL w.length (lv_args 0 [.ref 97, hI (mi)]) := wq_args (wl_c (wfr (by first | exact h97 | omega)) (wl_c rfl (wl_n)))
  have K : Tp (tJ5_ensureCapacityInternal_d00dfB kn) (fun r => r = (none, w, 0, 0)) 0 (lv_args 0 [.ref 97, hI (mi)], [], w, 0, 0) := by
    refine r_aload rfl rfl ?_
    refine r_get rfl hc rfl ?_
    refine r_alen rfl hb hL ?_
    refine r_aload rfl rfl ?_
    refine r_get rfl hc rfl ?_
    refine r_ishr rfl ?_
    refine r_istore rfl ?_
    have hlv' := wq_put hlv (i := 2) (v := hI ((L : Int))) rfl
    refine r_iload rfl rfl ?_
    refine r_iload rfl rfl ?_
    refine r_isub rfl ?_
    refine r_ifv (kn := kn) (b := b_le) (t := 5) (tgt := 38) (np := 17) rfl (z_le (by unfold R32; omega)) (fun e1 => ?_) (fun e1 => ?_)
    · refine r_vret rfl ?_
      rfl
    · omega
  exact mth (nL := 3) rfl K
theorem b_ens00 {kn : sKn} {w : sW} {b L c : Nat} {z : Int} {bs : List Value} (hB : bdH w b L c z bs) {mi : Int} (hm : 0 ≤ mi ∧ mi ≤ (L : Int)) (hL2 : L ≤ 1000) : fJ5_ensureCapacityInternal_d00df kn [.ref 97, hI (mi)] w = some (none, w, 0, 0) := by
  obtain ⟨hc, hb, hL, hbf⟩ := hB
  have h97 := (List.getElem?_eq_some_iff.mp hc).1
  have hbl := (List.getElem?_eq_some_iff.mp hb).1
  have hlv : wL w.length (lv_args 0 [.ref 97, hI (mi)]) := wq_args (wl_c (wfr (by first | exact h97 | omega)) (wl_c rfl (wl_n)))
  have K : Tp (tJ5_ensureCapacityInternal_d00df kn) (fun r => r = (none, w, 0, 0)) 0 (lv_args 0 [.ref 97, hI (mi)], [], w, 0, 0) := by
    refine r_aload rfl rfl ?_
    refine r_get rfl hc rfl ?_
    refine r_alen rfl hb hL ?_
    refine r_aload rfl rfl ?_
    refine r_get rfl hc rfl ?_
    refine r_ishr rfl ?_
    refine r_istore rfl ?_
    have hlv' := wq_put hlv (i := 2) (v := hI ((L : Int))) rfl
    refine r_iload rfl rfl ?_
    refine r_iload rfl rfl ?_
    refine r_isub rfl ?_
    refine r_ifv (kn := kn) (b := b_le) (t := 5) (tgt := 38) (np := 17) rfl (z_le (by unfold R32; omega)) (fun e1 => ?_) (fun e1 => ?_)
    · refine r_vret rfl ?_
      rfl
    · omega
  exact mth (nL := 3) rfl K
theorem b_newL {kn : sKn} {w : sW} {gr : Int} (hg : 0 ≤ gr ∧ gr ≤ 18) : fJ8_newLength_cabcc kn [hI (16), hI (gr), hI (18)] w = some (some (hI 34), w, 0, 0) := by
  have hlv : wL w.length (lv_args 0 [hI (16), hI (gr), hI (18)]) := wq_args (wl_c rfl (wl_c rfl (wl_c rfl (wl_n))))
  have K : Tp (tJ8_newLength_cabcc kn) (fun r => r = (some (hI 34), w, 0, 0)) 0 (lv_args 0 [hI (16), hI (gr), hI (18)], [], w, 0, 0) := by
    refine r_iload rfl rfl ?_
    refine r_iload rfl rfl ?_
    refine r_iload rfl rfl ?_
    refine r_mmax (by unfold R32; omega) (by unfold R32; omega) rfl rfl (by omega) ?_
    refine r_iadd rfl ?_
    refine r_istore rfl ?_
    have hlv' := wq_put hlv (i := 3) (v := hI (16 + 18)) rfl
    refine r_intv k_0 rfl ?_
    refine r_iload rfl rfl ?_
    refine r_icmp (kn := kn) (b := b_ge) (t := 3) (tgt := 21) (np := 13) rfl (c_ge (by unfold R32; omega) (by unfold R32; omega)) (fun e1 => ?_) (fun e1 => ?_)
    · omega
    · refine r_iload rfl rfl ?_
      refine r_intv k_2147483639 rfl ?_
      refine r_icmp (kn := kn) (b := b_gt) (t := 4) (tgt := 21) (np := 19) rfl (c_gt (by unfold R32; omega) (by unfold R32; omega)) (fun e2 => ?_) (fun e2 => ?_)
      · omega
      · refine r_iload rfl rfl ?_
        refine r_iret rfl ?_
        rfl
  exact mth (nL := 4) rfl K
theorem b_newC {kn : sKn} {w : sW} {b L c : Nat} {z : Int} {bs : List Value} (hB : bdH w b L c z bs) {mi : Int} (hm : 16 < mi ∧ mi ≤ 23) (h16 : L = 16) : fJ5_newCapacity_0f7a4 kn [.ref 97, hI (mi)] w = some (some (hI 34), w, 0, 0) := by
  obtain ⟨hc, hb, hL, hbf⟩ := hB
  have h97 := (List.getElem?_eq_some_iff.mp hc).1
  have hbl := (List.getElem?_eq_some_iff.mp hb).1
  have hlv : wL w.length (lv_args 0 [.ref 97, hI (mi)]) := wq_args (wl_c (wfr (by first | exact h97 | omega)) (wl_c rfl (wl_n)))
  have K : Tp (tJ5_newCapacity_0f7a4 kn) (fun r => r = (some (hI 34), w, 0, 0)) 0 (lv_args 0 [.ref 97, hI (mi)], [], w, 0, 0) := by
    refine r_aload rfl rfl ?_
    refine r_get rfl hc rfl ?_
    refine r_alen rfl hb hL ?_
    refine r_istore rfl ?_
    have hlv' := wq_put hlv (i := 2) (v := hI ((L : Int))) rfl
    refine r_iload rfl rfl ?_
    refine r_aload rfl rfl ?_
    refine r_get rfl hc rfl ?_
    refine r_ishl rfl ?_
    refine r_istore rfl ?_
    have hlv'' := wq_put hlv' (i := 3) (v := hI (mi)) rfl
    refine r_iload rfl rfl ?_
    refine r_iload rfl rfl ?_
    refine r_isub rfl ?_
    refine r_istore rfl ?_
    have hlv''' := wq_put hlv'' (i := 4) (v := hI (mi - (L : Int))) rfl
    refine r_iload rfl rfl ?_
    refine r_iload rfl rfl ?_
    refine r_iload rfl rfl ?_
    refine r_intv k_2 rfl ?_
    refine r_aload rfl rfl ?_
    refine r_get rfl hc rfl ?_
    refine r_ishl rfl ?_
    refine r_iadd rfl ?_
    have hf29 : fJ8_newLength_cabcc kn [hI (L : Int), hI (mi - (L : Int)), hI ((L : Int) + 2)] w = some (some (hI 34), w, 0, 0) := by
      rw [show (L : Int) = 16 by omega]
      exact b_newL (gr := mi - 16) (by omega)
    refine r_callS (cok rfl rfl hlv''' (wl_n)) rfl rfl hf29 ?_
    refine r_istore rfl ?_
    have hlv'''' := wq_put hlv''' (i := 5) (v := hI (34)) rfl
    refine r_iload rfl rfl ?_
    refine r_intv k_2147483647 rfl ?_
    refine r_icmp (kn := kn) (b := b_ne) (t := 1) (tgt := 51) (np := 41) rfl (c_ne (by unfold R32; omega) (by unfold R32; omega)) (fun e1 => ?_) (fun e1 => ?_)
    · refine r_iload rfl rfl ?_
      refine r_aload rfl rfl ?_
      refine r_get rfl hc rfl ?_
      refine r_ishr rfl ?_
      refine r_iret rfl ?_
      rfl
    · omega
  exact mth (nL := 6) rfl K
/-- layouts that hold no reference to a cell above 241 -/
def fo_ok (q : Nat × eE) : Bool := match q.1 with
  | 0 => true
  | 1 => true
  | _ => match q.2 with
    | .inl p => decide (p.2 < 242)
    | .inr _ => true
def ly_ok (l : eL) : Bool := match l with
  | .inl q => q.2.2.all (fun e => fo_ok (akd q.1, e.2))
  | .inr q => q.2.all fo_ok
theorem ly_all : ∀ q ∈ zcl, (match zly q.2 with
  | some l => ly_ok l
  | none => false) = true := by decide +kernel
theorem zcl_lt : ∀ q ∈ zcl, q.1 < 242 := by decide +kernel
theorem zcl_all : ∀ k < 242, k = 97 ∨ k = 98 ∨ ztau k ≠ none := by decide +kernel
theorem fv_wf {q : Nat × eE} {v : Value} (h : fvOk ZZ q v) (g : fo_ok q = true) : wfV 242 v = true := by
  obtain ⟨z, h1, h2⟩ := h
  obtain ⟨kd, e⟩ := q
  match kd, h1, g with
  | 0, h1, _ =>
    obtain ⟨x, rfl, _⟩ := h1
    rfl
  | 1, h1, _ =>
    obtain ⟨x, rfl, _⟩ := h1
    rfl
  | kd + 2, h1, g =>
    obtain ⟨k, rfl, hk⟩ := h1
    cases e with
    | inl p =>
      have g : decide (p.2 < 242) = true := g
      have g := of_decide_eq_true g
      have h2 : p.1 ≤ z ∧ z ≤ p.2 := h2
      exact wfr (by omega)
    | inr t =>
      obtain ⟨k', e1, e2⟩ := h2
      have := zcl_lt _ (zt_mem e2)
      exact wfr (by dsimp only at this; omega)
theorem sga_in {sg : List (Nat × eE)} {j : Nat} {e : eE} (h : sga sg j = some e) : ∃ u, (u, e) ∈ sg := by
  induction sg with
  | nil => cases h
  | cons q r ih =>
    have h : (match Nat.blt j q.1 with
      | true => some q.2
      | false => sga r j) = some e := h
    cases e1 : Nat.blt j q.1 with
    | true =>
      rw [e1] at h
      cases h
      exact ⟨q.1, List.mem_cons_self⟩
    | false =>
      rw [e1] at h
      obtain ⟨u, hu⟩ := ih h
      exact ⟨u, List.mem_cons_of_mem _ hu⟩
theorem cell_wf {w : sW} (hw : wOk ZZ w) {k t : Nat} (hk : ztau k = some t) {c : sC} (hc : w[k]? = some c) : wfC 242 c = true := by
  obtain ⟨ly, c', h1, h2, h3⟩ := hw.2 k t hk
  rw [hc] at h2
  cases h2
  have g := ly_all _ (zt_mem hk)
  dsimp only at g
  rw [show zly t = some ly from h1] at g
  have g : ly_ok ly = true := g
  cases ly with
  | inl q =>
    obtain ⟨vs, rfl, h4, h5⟩ := h3
    show (match Nat.blt q.1 4 with
      | true => true
      | false => xa (wfV 242) vs) = true
    split
    · rfl
    · rw [xa_eq, List.all_eq_true]
      intro v hv
      obtain ⟨j, hj, rfl⟩ := List.getElem_of_mem hv
      obtain ⟨e, e1, e2⟩ := h5 j _ (List.getElem?_eq_getElem hj)
      obtain ⟨u, hu⟩ := sga_in e1
      exact fv_wf e2 (List.all_eq_true.mp g _ hu)
  | inr q =>
    obtain ⟨fs, rfl, h4, h5⟩ := h3
    show xa (wfV 242) fs = true
    rw [xa_eq, List.all_eq_true]
    intro v hv
    obtain ⟨j, hj, rfl⟩ := List.getElem_of_mem hv
    have hj2 : j < q.2.length := by omega
    exact fv_wf (h5 j _ _ (List.getElem?_eq_getElem hj) (List.getElem?_eq_getElem hj2)) (List.all_eq_true.mp g _ (List.getElem_mem hj2))
/-- the world before the builder has grown -/
theorem wf_all {w : sW} {c : Nat} {z : Int} {bs : List Value} (hw : wOk ZZ w) (hB : bdH w 98 16 c z bs) (hl : w.length = 242) : xa (wfC 242) w = true := by
  rw [xa_eq, List.all_eq_true]
  intro x hx
  obtain ⟨k, hk, rfl⟩ := List.getElem_of_mem hx
  have e := List.getElem?_eq_getElem hk
  rcases zcl_all k (by omega) with rfl | rfl | h
  · rw [hB.1] at e
    rw [← Option.some.inj e]
    rfl
  · rw [hB.2.1] at e
    rw [← Option.some.inj e]
    rfl
  · cases ht : ztau k with
    | none => exact absurd ht h
    | some t => exact cell_wf hw ht e
theorem r_newa {tbl : List (Nat × sA)} {Po : sR → Prop} {pc np : Nat} {lv : List (Nat × Value)} {st : List Value} {w : sW} {n m : Nat} (ha : t_get tbl pc = some (a_newa 0 np)) (h1 : w.length = 242) (h2 : wL 242 lv) (h3 : wV 242 st) (h4 : xa (wfC 242) w = true) (g : Tp tbl Po np (lv, .ref 242 :: st, w ++ [.inl (0, List.replicate 34 (.int 0))], n + 1, m + 34)) : Tp tbl Po pc (lv, hI 34 :: st, w, n, m) := by
  refine Tp_step ha (fun k => ?_) g
  have e : wfS (lv, st, w, n, m) = true := by
    show wfD (xl w) (lv, st, w, n, m) = true
    rw [xl_eq, h1]
    show (match Nat.blt 242 1000000 with
      | true => match xa (fun q => wfV 242 q.2) lv with
        | true => match xa (wfV 242) st with
          | true => xa (wfC 242) w
          | false => false
        | false => false
      | false => false) = true
    rw [show Nat.blt 242 1000000 = true from rfl, xa_eq, xa_eq, List.all_eq_true.mpr h2, List.all_eq_true.mpr h3]
    exact h4
  show (if wfS (lv, st, w, n, m) = true ∧ ¬ (Int32.ofInt 34) < 0 ∧ (Int32.ofInt 34).toNatClampNeg ≤ 100000 then k np (lv, .ref (xl w) :: st, w ++ [.inl (0, List.replicate (Int32.ofInt 34).toNatClampNeg (nuV 0))], n + 1, m + (Int32.ofInt 34).toNatClampNeg) else none) = _
  rw [if_pos ⟨e, by decide +kernel, by decide +kernel⟩, xl_eq, h1]
  rfl
theorem r_copyB {tbl : List (Nat × sA)} {Po : sR → Prop} {pc np : Nat} {lv : List (Nat × Value)} {st : List Value} {w : sW} {n m : Nat} {a b j : Nat} {vs us : List Value} {jI : Int} (ha : t_get tbl pc = some (a_copyB np)) (hx : w[a]? = some (.inl (0, vs))) (hy : w[b]? = some (.inl (0, us))) (hj : jI = (j : Int)) (hj2 : j ≤ 1000) (h1 : j ≤ vs.length) (h2 : j ≤ us.length) (h3 : vs.all bfit = true) (hs : Nat.ble (st.map fun v => v.category).sum 8 = true) (g : Tp tbl Po np (lv, st, w.set b (.inl (0, cpyL vs us 0 0 j)), n, m)) : Tp tbl Po pc (lv, hI jI :: hI 0 :: .ref b :: hI 0 :: .ref a :: st, w, n, m) := by
  subst hj
  have hs := Nat.le_of_ble_eq_true hs
  have e0 : (Int32.ofInt 0).toInt = 0 := hI_to ⟨by omega, by omega⟩
  have en : (Int32.ofInt (j : Int)).toInt = (j : Int) := hI_to ⟨by omega, by omega⟩
  obtain ⟨n1, n2⟩ := clampNeg (x := Int32.ofInt 0) (by omega)
  obtain ⟨n3, n4⟩ := clampNeg (x := Int32.ofInt (j : Int)) (by omega)
  rw [e0] at n2
  rw [en] at n4
  have m2 : (Int32.ofInt 0).toNatClampNeg = 0 := by omega
  have m4 : (Int32.ofInt (j : Int)).toNatClampNeg = j := by omega
  refine Tp_step ha (fun k => ?_) g
  show a_copyB np k (lv, Value.int (Int32.ofInt (j : Int)) :: Value.int (Int32.ofInt 0) :: .ref b :: Value.int (Int32.ofInt 0) :: .ref a :: st, w, n, m) = _
  simp only [a_copyB, xg_eq, xs_eq, hx, hy]
  rw [if_pos ⟨n1, n1, n3, by rw [m2, m4]; omega, by rw [m2, m4]; omega, hs, h3⟩, m2, m4]
theorem r_copyS {tbl : List (Nat × sA)} {Po : sR → Prop} {pc np : Nat} {lv : List (Nat × Value)} {st : List Value} {w : sW} {n m : Nat} {b d : Nat} {us : List Value} {dI : Int} (ha : t_get tbl pc = some (a_copyS np)) (hy : w[b]? = some (.inl (0, us))) (hd : dI = (d : Int)) (hd2 : d ≤ 1000) (h2 : d + 3 ≤ us.length) (hs : Nat.ble (st.map fun v => v.category).sum 8 = true) (g : Tp tbl Po np (lv, st, w.set b (.inl (0, cpyL strV us 0 d 3)), n, m)) : Tp tbl Po pc (lv, hI 3 :: hI dI :: .ref b :: hI 0 :: .ref 1000003 :: st, w, n, m) := by
  subst hd
  have hs := Nat.le_of_ble_eq_true hs
  have e0 : (Int32.ofInt 0).toInt = 0 := hI_to ⟨by omega, by omega⟩
  have e3 : (Int32.ofInt 3).toInt = 3 := hI_to ⟨by omega, by omega⟩
  have en : (Int32.ofInt (d : Int)).toInt = (d : Int) := hI_to ⟨by omega, by omega⟩
  obtain ⟨n1, n2⟩ := clampNeg (x := Int32.ofInt 0) (by omega)
  obtain ⟨n3, n4⟩ := clampNeg (x := Int32.ofInt (d : Int)) (by omega)
  obtain ⟨n5, n6⟩ := clampNeg (x := Int32.ofInt 3) (by omega)
  rw [e0] at n2
  rw [en] at n4
  rw [e3] at n6
  have m2 : (Int32.ofInt 0).toNatClampNeg = 0 := by omega
  have m4 : (Int32.ofInt (d : Int)).toNatClampNeg = d := by omega
  have m6 : (Int32.ofInt 3).toNatClampNeg = 3 := by omega
  refine Tp_step ha (fun k => ?_) g
  show a_copyS np k (lv, Value.int (Int32.ofInt 3) :: Value.int (Int32.ofInt (d : Int)) :: .ref b :: Value.int (Int32.ofInt 0) :: .ref 1000003 :: st, w, n, m) = _
  simp only [a_copyS, xg_eq, xs_eq, hy]
  rw [if_pos ⟨n1, n3, n5, by rw [m2, m6]; decide, by rw [m4, m6]; exact h2, hs⟩, m2, m4, m6]
theorem cpy_fit {vs us : List Value} {sp dp n : Nat} (h1 : sp + n ≤ vs.length) (h2 : dp + n ≤ us.length) (hv : vs.all bfit = true) (hu : us.all bfit = true) : (cpyL vs us sp dp n).all bfit = true := by
  rw [List.all_eq_true] at hv hu ⊢
  intro v h
  obtain ⟨j, hj, rfl⟩ := List.getElem_of_mem h
  have e := List.getElem?_eq_getElem hj
  rw [cpyL_get h1 h2] at e
  split at e
  · exact hv _ (List.mem_of_getElem? e)
  · exact hu _ (List.mem_of_getElem? e)
theorem set_fit {bs : List Value} {j : Nat} {v : Value} (h : bs.all bfit = true) (hv : bfit v = true) : (bs.set j v).all bfit = true := by
  rw [List.all_eq_true] at h ⊢
  intro u hu
  rcases List.mem_or_eq_of_mem_set hu with e | e
  · exact h u e
  · rw [e]
    exact hv
theorem b_copyOf {kn : sKn} {w : sW} {c : Nat} {z : Int} {bs : List Value} (hw : wOk ZZ w) (hB : bdH w 98 16 c z bs) (hlen : w.length = 242) : fJ7_copyOf_9075bB kn [.ref 98, hI (34)] w = some (some (.ref 242), w ++ [.inl (0, cpyL bs (List.replicate 34 (.int 0)) 0 0 16)], 1, 34) := by
  obtain ⟨hc, hb, hL, hbf⟩ := hB
  have h97 := (List.getElem?_eq_some_iff.mp hc).1
  have hbl := (List.getElem?_eq_some_iff.mp hb).1
  have hlv : wL w.length (lv_args 0 [.ref 98, hI (34)]) := wq_args (wl_c (wfr hbl) (wl_c rfl wl_n))
  have K : Tp (tJ7_copyOf_9075bB kn) (fun r => r = (some (.ref 242), w ++ [.inl (0, cpyL bs (List.replicate 34 (.int 0)) 0 0 16)], 1, 34)) 0 (lv_args 0 [.ref 98, hI (34)], [], w, 0, 0) := by
    refine r_iload rfl rfl ?_
    refine r_aload rfl rfl ?_
    refine r_alen rfl hb hL ?_
    refine r_icmp (kn := kn) (b := b_ne) (t := 1) (tgt := 14) (np := 6) rfl (c_ne (by unfold R32; omega) (by unfold R32; omega)) (fun e1 => ?_) (fun e1 => ?_)
    · refine r_iload rfl rfl ?_
      have hw4 : xa (wfC 242) w = true := wf_all hw ⟨hc, hb, hL, hbf⟩ hlen
      refine r_newa rfl hlen (by rw [← hlen]; exact hlv) wl_n hw4 ?_
      have hlen2 : (w ++ [Sum.inl (0, List.replicate 34 (Value.int 0))] : sW).length = 243 := by rw [List.length_append, hlen]; rfl
      have hb2 : (w ++ [Sum.inl (0, List.replicate 34 (Value.int 0))] : sW)[98]? = some (.inl (0, bs)) := by rw [List.getElem?_append_left (by omega)]; exact hb
      have hn2 : (w ++ [Sum.inl (0, List.replicate 34 (Value.int 0))] : sW)[242]? = some (.inl (0, List.replicate 34 (.int 0))) := by rw [List.getElem?_append_right (by omega), hlen]; rfl
      refine r_astore rfl ?_
      refine r_aload rfl rfl ?_
      refine r_intv k_0 rfl ?_
      refine r_aload rfl rfl ?_
      refine r_intv k_0 rfl ?_
      refine r_aload rfl rfl ?_
      refine r_alen rfl hb2 hL ?_
      refine r_iload rfl rfl ?_
      refine r_mmin (by unfold R32; omega) (by unfold R32; omega) rfl rfl (by omega) ?_
      refine r_copyB rfl hb2 hn2 rfl (by omega) (by omega) (by rw [List.length_replicate]; omega) hbf rfl ?_
      refine r_aload rfl rfl ?_
      refine r_aret rfl ?_
      rw [List.set_append_right _ _ (by omega), hlen]
      rfl
    · omega
  exact mth (nL := 3) rfl K
theorem b_ens1 {kn : sKn} {w : sW} {c : Nat} {z : Int} {bs : List Value} (hw : wOk ZZ w) (hB : bdH w 98 16 c z bs) (hlen : w.length = 242) {mi : Int} (hm : 16 < mi ∧ mi ≤ 23) : ∃ w', fJ5_ensureCapacityInternal_d00dfB kn [.ref 97, hI (mi)] w = some (none, w', 1, 34) ∧ w'.length = 243 ∧ bdH w' 242 34 c z (cpyL bs (List.replicate 34 (.int 0)) 0 0 16) ∧ ∀ k, k < 242 → k ≠ 97 → w'[k]? = w[k]? := by
  obtain ⟨hc, hb, hL, hbf⟩ := hB
  have h97 := (List.getElem?_eq_some_iff.mp hc).1
  have hbl := (List.getElem?_eq_some_iff.mp hb).1
  have hlv : wL w.length (lv_args 0 [.ref 97, hI (mi)]) := wq_args (wl_c (wfr h97) (wl_c rfl wl_n))
  have K : Tp (tJ5_ensureCapacityInternal_d00dfB kn) (fun r => ∃ w', r = (none, w', 1, 34) ∧ w'.length = 243 ∧ bdH w' 242 34 c z (cpyL bs (List.replicate 34 (.int 0)) 0 0 16) ∧ ∀ k, k < 242 → k ≠ 97 → w'[k]? = w[k]?) 0 (lv_args 0 [.ref 97, hI (mi)], [], w, 0, 0) := by
    refine r_aload rfl rfl ?_
    refine r_get rfl hc rfl ?_
    refine r_alen rfl hb hL ?_
    refine r_aload rfl rfl ?_
    refine r_get rfl hc rfl ?_
    refine r_ishr rfl ?_
    refine r_istore rfl ?_
    have hlv' := wq_put hlv (i := 2) (v := hI ((16 : Int))) rfl
    refine r_iload rfl rfl ?_
    refine r_iload rfl rfl ?_
    refine r_isub rfl ?_
    refine r_ifv (kn := kn) (b := b_le) (t := 5) (tgt := 38) (np := 17) rfl (z_le (by unfold R32; omega)) (fun e1 => ?_) (fun e1 => ?_)
    · omega
    · refine r_aload rfl rfl ?_
      refine r_aload rfl rfl ?_
      refine r_get rfl hc rfl ?_
      refine r_aload rfl rfl ?_
      refine r_iload rfl rfl ?_
      have hf24 := b_newC (kn := kn) ⟨hc, hb, hL, hbf⟩ (mi := mi) hm rfl
      refine r_callV rfl (cok rfl rfl hlv' (wl_c (wfr (by first | exact hbl | omega)) (wl_c (wfr (by first | exact h97 | omega)) (wl_n)))) rfl rfl hc hf24 ?_
      refine r_aload rfl rfl ?_
      refine r_get rfl hc rfl ?_
      refine r_ishl rfl ?_
      have hf32 := b_copyOf (kn := kn) hw ⟨hc, hb, hL, hbf⟩ hlen
      refine r_callS (cok rfl rfl hlv' (wl_c (wfr (by first | exact h97 | omega)) (wl_n))) rfl rfl hf32 ?_
      have hc3 : (w ++ [Sum.inl (0, cpyL bs (List.replicate 34 (.int 0)) 0 0 16)] : sW)[97]? = some (.inr (0, [.ref 98, hI 0, hI z, hI (c : Int)])) := by rw [List.getElem?_append_left (by omega)]; exact hc
      refine r_put (ck := ckR) rfl rfl hc3 rfl ?_
      refine r_vret rfl ?_
      refine ⟨_, rfl, by rw [List.length_set, List.length_append, hlen]; rfl, ⟨List.getElem?_set_self (by rw [List.length_append]; omega), ?_, ?_, ?_⟩, fun k hk1 hk2 => ?_⟩
      · rw [List.getElem?_set_ne (by omega), List.getElem?_append_right (by omega), hlen]
        rfl
      · rw [cpyL_len (by omega) (by rw [List.length_replicate]; omega), List.length_replicate]
      · exact cpy_fit (by omega) (by rw [List.length_replicate]; omega) hbf (by decide +kernel)
      · rw [List.getElem?_set_ne (fun e => hk2 e.symm), List.getElem?_append_left (by omega)]
  obtain ⟨r, h1, w2, h2, h3⟩ := h_meth1 (nL := 3) rfl K
  rw [h2] at h1
  exact ⟨w2, h1, h3⟩
/-- the builder as it may be: not grown, or grown once -/
def bdJ (w : sW) (b L c : Nat) (z : Int) (bs : List Value) : Prop := bdH w b L c z bs ∧ ((b = 98 ∧ L = 16 ∧ w.length = 242) ∨ (b = 242 ∧ L = 34 ∧ w.length = 243))
def bdI (w : sW) (c : Nat) : Prop := ∃ (b L : Nat) (z : Int) (bs : List Value), bdJ w b L c z bs ∧ c ≤ L
def o98 (w : sW) : Prop := ∃ vs, w[98]? = some (.inl (0, vs))
theorem o98_97 {w : sW} {c : sC} (h : o98 w) : o98 (w.set 97 c) := by
  obtain ⟨vs, hv⟩ := h
  exact ⟨vs, by rw [List.getElem?_set_ne (by omega)]; exact hv⟩
theorem o98_b {w : sW} {b : Nat} {us : List Value} (h : o98 w) : o98 (w.set b (.inl (0, us))) := by
  obtain ⟨vs, hv⟩ := h
  by_cases e : b = 98
  · subst e
    exact ⟨us, List.getElem?_set_self (List.getElem?_eq_some_iff.mp hv).1⟩
  · exact ⟨vs, by rw [List.getElem?_set_ne e]; exact hv⟩
def bdR (w w' : sW) (n m : Nat) : Prop := (∀ k, k < 242 → k ≠ 97 → k ≠ 98 → w'[k]? = w[k]?) ∧ ((w'.length = w.length ∧ n = 0 ∧ m = 0) ∨ (w.length = 242 ∧ w'.length = 243 ∧ n = 1 ∧ m = 34)) ∧ (o98 w → o98 w')
theorem bdR_rf (w : sW) : bdR w w 0 0 := ⟨fun _ _ _ _ => rfl, Or.inl ⟨rfl, rfl, rfl⟩, fun h => h⟩
theorem bdR_tr {a b c : sW} {n m n' m' : Nat} (h : bdR a b n m) (g : bdR b c n' m') : bdR a c (n + n') (m + m') := ⟨fun k h1 h2 h3 => (g.1 k h1 h2 h3).trans (h.1 k h1 h2 h3), by have h := h.2.1; have g := g.2.1; omega, fun z => g.2.2 (h.2.2 z)⟩
theorem bdR_eq {a b : sW} {n m n' m' : Nat} (h : bdR a b n m) (e1 : n' = n) (e2 : m' = m) : bdR a b n' m' := by subst e1; subst e2; exact h
theorem n97n {t : Nat} (h : ZZ.2 97 = some t) : False := by
  rw [show ZZ.2 97 = none by decide +kernel] at h
  cases h
theorem n98n {t : Nat} (h : ZZ.2 98 = some t) : False := by
  rw [show ZZ.2 98 = none by decide +kernel] at h
  cases h
theorem bdR_w {w w' : sW} {n m : Nat} (h : bdR w w' n m) (hw : wOk ZZ w) : wOk ZZ w' := by
  refine ⟨by have h2 := h.2.1; have h1 := hw.1; omega, fun k t hk => ?_⟩
  obtain ⟨ly, c, h1, h2, h3⟩ := hw.2 k t hk
  have e := zcl_lt _ (zt_mem hk)
  dsimp only at e
  refine ⟨ly, c, h1, ?_, h3⟩
  rw [h.1 k e (fun z => by rw [z] at hk; exact n97n hk) (fun z => by rw [z] at hk; exact n98n hk)]
  exact h2
theorem bdR_len {w w' : sW} {n m : Nat} (h : bdR w w' n m) : w.length ≤ w'.length := by have h2 := h.2.1; omega
theorem b_ens {kn : sKn} {w : sW} {c : Nat} (hw : wOk ZZ w) (hJ : bdI w c) {mi : Int} (hm : (c : Int) ≤ mi ∧ mi ≤ 23) : ∃ w' n m, fJ5_ensureCapacityInternal_d00dfB kn [.ref 97, hI mi] w = some (none, w', n, m) ∧ (∃ (b L : Nat) (z : Int) (bs : List Value), bdJ w' b L c z bs ∧ mi ≤ (L : Int) ∧ L ≤ 34) ∧ bdR w w' n m := by
  obtain ⟨b, L, z, bs, ⟨hB, hS⟩, hcL⟩ := hJ
  by_cases e : mi ≤ (L : Int)
  · exact ⟨w, 0, 0, b_ens0 hB ⟨by omega, e⟩ (by omega), ⟨b, L, z, bs, ⟨hB, hS⟩, e, by omega⟩, bdR_rf w⟩
  · rcases hS with ⟨rfl, rfl, hl⟩ | ⟨rfl, rfl, hl⟩
    · obtain ⟨w', h1, h2, h3, h4⟩ := b_ens1 (kn := kn) hw hB hl (mi := mi) ⟨by omega, by omega⟩
      exact ⟨w', 1, 34, h1, ⟨242, 34, z, _, ⟨h3, Or.inr ⟨rfl, rfl, h2⟩⟩, by omega, by omega⟩, ⟨fun k k1 k2 _ => h4 k k1 k2, Or.inr ⟨hl, h2, rfl, rfl⟩, fun ⟨vs, hv⟩ => ⟨vs, by rw [h4 98 (by omega) (by omega)]; exact hv⟩⟩⟩
    · omega
theorem b_app5 {kn : sKn} {w : sW} {c : Nat} (hw : wOk ZZ w) (hJ : bdI w c) {x : Int} (hx : 0 ≤ x ∧ x ≤ 255) (hc23 : c + 1 ≤ 23) : ∃ w' n m, fJ5_append_3fe6fB kn [.ref 97, hI (x)] w = some (some (.ref 97), w', n, m) ∧ bdI w' (c + 1) ∧ bdR w w' n m := by
  have hJ0 := hJ
  obtain ⟨b, L, z, bs, ⟨⟨hc, hb, hL, hbf⟩, hS⟩, hcL⟩ := hJ
  have h97 := (List.getElem?_eq_some_iff.mp hc).1
  have hbl := (List.getElem?_eq_some_iff.mp hb).1
  have hlv : wL w.length (lv_args 0 [.ref 97, hI (x)]) := wq_args (wl_c (wfr (by first | exact h97 | omega)) (wl_c rfl (wl_n)))
  have K : Tp (tJ5_append_3fe6fB kn) (fun r => ∃ w' n m, r = (some (.ref 97), w', n, m) ∧ bdI w' (c + 1) ∧ bdR w w' n m) 0 (lv_args 0 [.ref 97, hI (x)], [], w, 0, 0) := by
    refine r_aload rfl rfl ?_
    refine r_aload rfl rfl ?_
    refine r_get rfl hc rfl ?_
    refine r_intv k_1 rfl ?_
    refine r_iadd rfl ?_
    obtain ⟨w1, n1, m1, hf7, ⟨b1, L1, z1, bs1, ⟨⟨hc1, hb1, hL1, hf1⟩, hS1⟩, hmL, hL34⟩, hR1⟩ := b_ens (kn := kn) hw hJ0 (mi := (c : Int) + 1) (by omega)
    have h97 := (List.getElem?_eq_some_iff.mp hc1).1
    have hbl := (List.getElem?_eq_some_iff.mp hb1).1
    refine r_callV rfl (cok rfl rfl hlv (wl_n)) rfl rfl hc hf7 ?_
    have hlq := wL_mono (bdR_len hR1) hlv
    refine r_aload rfl rfl ?_
    have hf11 := b_isL (kn := kn) ⟨hc1, hb1, hL1, hf1⟩
    refine r_callV rfl (cok rfl rfl hlq (wl_n)) rfl rfl hc1 hf11 ?_
    refine r_ifv (kn := kn) (b := b_eq) (t := 0) (tgt := 45) (np := 17) rfl (z_eq (by unfold R32; omega)) (fun e1 => ?_) (fun e1 => ?_)
    · omega
    · refine r_iload rfl rfl ?_
      have hf18 := b_canE (kn := kn) (w := w1) hx
      refine r_callS (cok rfl rfl hlq (wl_n)) rfl rfl hf18 ?_
      refine r_ifv (kn := kn) (b := b_eq) (t := 0) (tgt := 45) (np := 24) rfl (z_eq (by unfold R32; omega)) (fun e2 => ?_) (fun e2 => ?_)
      · omega
      · refine r_aload rfl rfl ?_
        refine r_get rfl hc1 rfl ?_
        refine r_aload rfl rfl ?_
        refine r_dup rfl rfl ?_
        refine r_get rfl hc1 rfl ?_
        refine r_dup_x1 rfl rfl rfl ?_
        refine r_intv k_1 rfl ?_
        refine r_iadd rfl ?_
        have hbn : b1 ≠ 97 := by rcases hS1 with ⟨e, _, _⟩ | ⟨e, _, _⟩ <;> omega
        refine r_put (ck := ckI) rfl rfl hc1 rfl ?_
        have hb2 : (w1.set 97 (Sum.inr (0, [Value.ref b1, hI 0, hI z1, hI ((c : Int) + 1)])) : sW)[b1]? = some (.inl (0, bs1)) := by rw [List.getElem?_set_ne (fun e => hbn e.symm)]; exact hb1
        refine r_iload rfl rfl ?_
        refine r_i2b rfl (fun zb => ?_)
        refine r_bast (j := c) rfl hb2 (by omega) rfl (by omega) ?_
        refine r_goto rfl ?_
        refine r_aload rfl rfl ?_
        refine r_aret rfl ?_
        refine ⟨_, _, _, rfl, ⟨b1, L1, z1, _, ⟨⟨?_, List.getElem?_set_self (by rw [List.length_set]; exact hbl), by rw [List.length_set]; exact hL1, set_fit hf1 (bfit_nar _)⟩, ?_⟩, by omega⟩, ⟨fun k k1 k2 k3 => ?_, ?_, fun h => o98_b (o98_97 (hR1.2.2 h))⟩⟩
        · rw [List.getElem?_set_ne hbn, List.getElem?_set_self h97, show ((c + 1 : Nat) : Int) = (c : Int) + 1 by omega]
          rfl
        · rw [List.length_set, List.length_set]
          exact hS1
        · rw [List.getElem?_set_ne (by omega), List.getElem?_set_ne (by omega)]
          exact hR1.1 k k1 k2 k3
        · rw [List.length_set, List.length_set]
          have := hR1.2.1
          omega
  obtain ⟨r, h1, w2, n, m, h2, h3⟩ := h_meth1 (nL := 2) rfl K
  rw [h2] at h1
  exact ⟨w2, n, m, h1, h3⟩
theorem b_app {kn : sKn} {w : sW} {c : Nat} (hw : wOk ZZ w) (hJ : bdI w c) {x : Int} (hx : 0 ≤ x ∧ x ≤ 255) (hc23 : c + 1 ≤ 23) : ∃ w' n m, fJ4_append_cf468B kn [.ref 97, hI (x)] w = some (some (.ref 97), w', n, m) ∧ bdI w' (c + 1) ∧ bdR w w' n m := by
  have hJ0 := hJ
  obtain ⟨b, L, z, bs, ⟨⟨hc, hb, hL, hbf⟩, hS⟩, hcL⟩ := hJ
  have h97 := (List.getElem?_eq_some_iff.mp hc).1
  have hbl := (List.getElem?_eq_some_iff.mp hb).1
  have hlv : wL w.length (lv_args 0 [.ref 97, hI (x)]) := wq_args (wl_c (wfr (by first | exact h97 | omega)) (wl_c rfl (wl_n)))
  have K : Tp (tJ4_append_cf468B kn) (fun r => ∃ w' n m, r = (some (.ref 97), w', n, m) ∧ bdI w' (c + 1) ∧ bdR w w' n m) 0 (lv_args 0 [.ref 97, hI (x)], [], w, 0, 0) := by
    refine r_aload rfl rfl ?_
    refine r_iload rfl rfl ?_
    obtain ⟨w1, n1, m1, hf2, hq⟩ := b_app5 (kn := kn) hw hJ0 hx hc23
    refine r_callV rfl (cok rfl rfl hlv (wl_n)) rfl rfl hc hf2 ?_
    have hlq := wL_mono (bdR_len hq.2) hlv
    refine r_pop rfl rfl ?_
    refine r_aload rfl rfl ?_
    refine r_aret rfl ?_
    exact ⟨_, _, _, rfl, hq.1, bdR_eq hq.2 (by omega) (by omega)⟩
  obtain ⟨r, h1, w2, n, m, h2, h3⟩ := h_meth1 (nL := 2) rfl K
  rw [h2] at h1
  exact ⟨w2, n, m, h1, h3⟩
theorem b_infl {kn : sKn} {w : sW} {b L c : Nat} {z : Int} {bs : List Value} (hB : bdH w b L c z bs)  : fJ5_inflateIfNeededFor_a7421 kn [.ref 97, .ref 1000002] w = some (none, w, 0, 0) := by
  obtain ⟨hc, hb, hL, hbf⟩ := hB
  have h97 := (List.getElem?_eq_some_iff.mp hc).1
  have hbl := (List.getElem?_eq_some_iff.mp hb).1
  have hlv : wL w.length (lv_args 0 [.ref 97, .ref 1000002]) := wq_args (wl_c (wfr (by first | exact h97 | omega)) (wl_c wfs (wl_n)))
  have K : Tp (tJ5_inflateIfNeededFor_a7421 kn) (fun r => r = (none, w, 0, 0)) 0 (lv_args 0 [.ref 97, .ref 1000002], [], w, 0, 0) := by
    refine r_getsI k_1 rfl ?_
    refine r_ifv (kn := kn) (b := b_eq) (t := 0) (tgt := 21) (np := 6) rfl (z_eq (by unfold R32; omega)) (fun e1 => ?_) (fun e1 => ?_)
    · omega
    · refine r_aload rfl rfl ?_
      refine r_get rfl hc rfl ?_
      refine r_aload rfl rfl ?_
      have hf11 := b_coder (kn := kn) (w := w)
      refine r_callVS rfl (cok rfl rfl hlv (wl_c rfl (wl_n))) rfl rfl hf11 ?_
      refine r_icmp (kn := kn) (b := b_eq) (t := 0) (tgt := 21) (np := 17) rfl (c_eq (by unfold R32; omega) (by unfold R32; omega)) (fun e2 => ?_) (fun e2 => ?_)
      · refine r_vret rfl ?_
        rfl
      · omega
  exact mth (nL := 2) rfl K
theorem b_getB {kn : sKn} {w : sW} {b L c : Nat} {z : Int} {bs : List Value} (hB : bdH w b L c z bs) (h3 : c + 3 ≤ L) (hL2 : L ≤ 1000) : fJ0_getBytes_840e7 kn [.ref 1000002, .ref b, hI (c : Int), hI (0)] w = some (none, w.set b (.inl (0, cpyL strV bs 0 c 3)), 0, 0) := by
  obtain ⟨hc, hb, hL, hbf⟩ := hB
  have h97 := (List.getElem?_eq_some_iff.mp hc).1
  have hbl := (List.getElem?_eq_some_iff.mp hb).1
  have hlv : wL w.length (lv_args 0 [.ref 1000002, .ref b, hI (c : Int), hI (0)]) := wq_args (wl_c wfs (wl_c (wfr hbl) (wl_c rfl (wl_c rfl wl_n))))
  have K : Tp (tJ0_getBytes_840e7 kn) (fun r => r = (none, w.set b (.inl (0, cpyL strV bs 0 c 3)), 0, 0)) 0 (lv_args 0 [.ref 1000002, .ref b, hI (c : Int), hI (0)], [], w, 0, 0) := by
    refine r_aload rfl rfl ?_
    have hf1 := b_coder (kn := kn) (w := w)
    refine r_callVS rfl (cok rfl rfl hlv (wl_n)) rfl rfl hf1 ?_
    refine r_iload rfl rfl ?_
    refine r_icmp (kn := kn) (b := b_ne) (t := 1) (tgt := 28) (np := 8) rfl (c_ne (by unfold R32; omega) (by unfold R32; omega)) (fun e1 => ?_) (fun e1 => ?_)
    · omega
    · refine r_aload rfl rfl ?_
      refine r_strf rfl ?_
      refine r_intv k_0 rfl ?_
      refine r_aload rfl rfl ?_
      refine r_iload rfl rfl ?_
      refine r_iload rfl rfl ?_
      refine r_ishl rfl ?_
      refine r_aload rfl rfl ?_
      refine r_strf rfl ?_
      refine r_alenS rfl ?_
      refine r_copyS rfl hb rfl (by omega) (by omega) rfl ?_
      refine r_goto rfl ?_
      refine r_vret rfl ?_
      rfl
  exact mth (nL := 4) rfl K
theorem b_putS {kn : sKn} {w : sW} {b L c : Nat} {z : Int} {bs : List Value} (hB : bdH w b L c z bs) (h3 : c + 3 ≤ L) (hL2 : L ≤ 1000) : fJ5_putStringAt_47b60 kn [.ref 97, hI (c : Int), .ref 1000002] w = some (none, w.set b (.inl (0, cpyL strV bs 0 c 3)), 0, 0) := by
  obtain ⟨hc, hb, hL, hbf⟩ := hB
  have h97 := (List.getElem?_eq_some_iff.mp hc).1
  have hbl := (List.getElem?_eq_some_iff.mp hb).1
  have hlv : wL w.length (lv_args 0 [.ref 97, hI (c : Int), .ref 1000002]) := wq_args (wl_c (wfr h97) (wl_c rfl (wl_c wfs wl_n)))
  have K : Tp (tJ5_putStringAt_47b60 kn) (fun r => r = (none, w.set b (.inl (0, cpyL strV bs 0 c 3)), 0, 0)) 0 (lv_args 0 [.ref 97, hI (c : Int), .ref 1000002], [], w, 0, 0) := by
    refine r_aload rfl rfl ?_
    refine r_aload rfl rfl ?_
    have hf2 := b_infl (kn := kn) ⟨hc, hb, hL, hbf⟩
    refine r_callV rfl (cok rfl rfl hlv (wl_n)) rfl rfl hc hf2 ?_
    refine r_aload rfl rfl ?_
    refine r_aload rfl rfl ?_
    refine r_get rfl hc rfl ?_
    refine r_iload rfl rfl ?_
    refine r_aload rfl rfl ?_
    refine r_get rfl hc rfl ?_
    have hf15 := b_getB (kn := kn) ⟨hc, hb, hL, hbf⟩ h3 hL2
    refine r_callVS rfl (cok rfl rfl hlv (wl_n)) rfl rfl hf15 ?_
    refine r_vret rfl ?_
    rfl
  exact mth (nL := 3) rfl K
theorem b_apps5 {kn : sKn} {w : sW} {c : Nat} (hw : wOk ZZ w) (hJ : bdI w c) (hc23 : c + 3 ≤ 23) : ∃ w' n m, fJ5_append_cf1ceB kn [.ref 97, .ref 1000002] w = some (some (.ref 97), w', n, m) ∧ bdI w' (c + 3) ∧ bdR w w' n m := by
  have hJ0 := hJ
  obtain ⟨b, L, z, bs, ⟨⟨hc, hb, hL, hbf⟩, hS⟩, hcL⟩ := hJ
  have h97 := (List.getElem?_eq_some_iff.mp hc).1
  have hbl := (List.getElem?_eq_some_iff.mp hb).1
  have hlv : wL w.length (lv_args 0 [.ref 97, .ref 1000002]) := wq_args (wl_c (wfr (by first | exact h97 | omega)) (wl_c wfs (wl_n)))
  have K : Tp (tJ5_append_cf1ceB kn) (fun r => ∃ w' n m, r = (some (.ref 97), w', n, m) ∧ bdI w' (c + 3) ∧ bdR w w' n m) 0 (lv_args 0 [.ref 97, .ref 1000002], [], w, 0, 0) := by
    refine r_aload rfl rfl ?_
    refine r_ifnn rfl ?_
    refine r_aload rfl rfl ?_
    have hf10 := b_lenS (kn := kn) (w := w)
    refine r_callVS rfl (cok rfl rfl hlv (wl_n)) rfl rfl hf10 ?_
    refine r_istore rfl ?_
    have hlv' := wq_put hlv (i := 2) (v := hI (3)) rfl
    refine r_aload rfl rfl ?_
    refine r_aload rfl rfl ?_
    refine r_get rfl hc rfl ?_
    refine r_iload rfl rfl ?_
    refine r_iadd rfl ?_
    obtain ⟨w1, n1, m1, hf21, ⟨b1, L1, z1, bs1, ⟨⟨hc1, hb1, hL1, hf1⟩, hS1⟩, hmL, hL34⟩, hR1⟩ := b_ens (kn := kn) hw hJ0 (mi := (c : Int) + 3) (by omega)
    have h97 := (List.getElem?_eq_some_iff.mp hc1).1
    have hbl := (List.getElem?_eq_some_iff.mp hb1).1
    refine r_callV rfl (cok rfl rfl hlv' (wl_n)) rfl rfl hc hf21 ?_
    have hlq := wL_mono (bdR_len hR1) hlv'
    refine r_aload rfl rfl ?_
    refine r_aload rfl rfl ?_
    refine r_get rfl hc1 rfl ?_
    refine r_aload rfl rfl ?_
    have hf30 := b_putS (kn := kn) ⟨hc1, hb1, hL1, hf1⟩ (by omega) (by omega)
    have hbn : b1 ≠ 97 := by rcases hS1 with ⟨e, _, _⟩ | ⟨e, _, _⟩ <;> omega
    have hc2 : (w1.set b1 (Sum.inl (0, cpyL strV bs1 0 c 3)) : sW)[97]? = some (.inr (0, [.ref b1, hI 0, hI z1, hI (c : Int)])) := by rw [List.getElem?_set_ne hbn]; exact hc1
    refine r_callV rfl (cok rfl rfl hlq (wl_n)) rfl rfl hc1 hf30 ?_
    
    refine r_aload rfl rfl ?_
    refine r_dup rfl rfl ?_
    refine r_get rfl hc2 rfl ?_
    refine r_iload rfl rfl ?_
    refine r_iadd rfl ?_
    refine r_put (ck := ckI) rfl rfl hc2 rfl ?_
    refine r_aload rfl rfl ?_
    refine r_aret rfl ?_
    refine ⟨_, _, _, rfl, ⟨b1, L1, z1, cpyL strV bs1 0 c 3, ⟨⟨?_, ?_, ?_, ?_⟩, ?_⟩, by omega⟩, ⟨fun k k1 k2 k3 => ?_, ?_, fun h => o98_97 (o98_b (hR1.2.2 h))⟩⟩
    · rw [List.getElem?_set_self (by rw [List.length_set]; exact h97), show ((c + 3 : Nat) : Int) = (c : Int) + 3 by omega]
      rfl
    · rw [List.getElem?_set_ne (fun e => hbn e.symm), List.getElem?_set_self hbl]
    · rw [cpyL_len (by decide) (by omega)]
      exact hL1
    · exact cpy_fit (by decide) (by omega) (by decide +kernel) hf1
    · rw [List.length_set, List.length_set]
      exact hS1
    · rw [List.getElem?_set_ne (by omega), List.getElem?_set_ne (by omega)]
      exact hR1.1 k k1 k2 k3
    · rw [List.length_set, List.length_set]
      have := hR1.2.1
      omega
  obtain ⟨r, h1, w2, n, m, h2, h3⟩ := h_meth1 (nL := 3) rfl K
  rw [h2] at h1
  exact ⟨w2, n, m, h1, h3⟩
theorem b_apps {kn : sKn} {w : sW} {c : Nat} (hw : wOk ZZ w) (hJ : bdI w c) (hc23 : c + 3 ≤ 23) : ∃ w' n m, fJ4_append_15ec4B kn [.ref 97, .ref 1000002] w = some (some (.ref 97), w', n, m) ∧ bdI w' (c + 3) ∧ bdR w w' n m := by
  have hJ0 := hJ
  obtain ⟨b, L, z, bs, ⟨⟨hc, hb, hL, hbf⟩, hS⟩, hcL⟩ := hJ
  have h97 := (List.getElem?_eq_some_iff.mp hc).1
  have hbl := (List.getElem?_eq_some_iff.mp hb).1
  have hlv : wL w.length (lv_args 0 [.ref 97, .ref 1000002]) := wq_args (wl_c (wfr (by first | exact h97 | omega)) (wl_c wfs (wl_n)))
  have K : Tp (tJ4_append_15ec4B kn) (fun r => ∃ w' n m, r = (some (.ref 97), w', n, m) ∧ bdI w' (c + 3) ∧ bdR w w' n m) 0 (lv_args 0 [.ref 97, .ref 1000002], [], w, 0, 0) := by
    refine r_aload rfl rfl ?_
    refine r_aload rfl rfl ?_
    obtain ⟨w1, n1, m1, hf2, hq⟩ := b_apps5 (kn := kn) hw hJ0 hc23
    refine r_callV rfl (cok rfl rfl hlv (wl_n)) rfl rfl hc hf2 ?_
    have hlq := wL_mono (bdR_len hq.2) hlv
    refine r_pop rfl rfl ?_
    refine r_aload rfl rfl ?_
    refine r_aret rfl ?_
    exact ⟨_, _, _, rfl, hq.1, bdR_eq hq.2 (by omega) (by omega)⟩
  obtain ⟨r, h1, w2, n, m, h2, h3⟩ := h_meth1 (nL := 2) rfl K
  rw [h2] at h1
  exact ⟨w2, n, m, h1, h3⟩
theorem b_setL5 {kn : sKn} {w : sW} {c : Nat} (hw : wOk ZZ w) (hJ : bdI w c) : ∃ w' n m, fJ5_setLength_d00df kn [.ref 97, hI (0)] w = some (none, w', n, m) ∧ bdI w' 0 ∧ bdR w w' n m := by
  have hJ0 := hJ
  obtain ⟨b, L, z, bs, ⟨⟨hc, hb, hL, hbf⟩, hS⟩, hcL⟩ := hJ
  have h97 := (List.getElem?_eq_some_iff.mp hc).1
  have hbl := (List.getElem?_eq_some_iff.mp hb).1
  have hbn : b ≠ 97 := by rcases hS with ⟨e, _, _⟩ | ⟨e, _, _⟩ <;> omega
  have hlv : wL w.length (lv_args 0 [.ref 97, hI (0)]) := wq_args (wl_c (wfr (by first | exact h97 | omega)) (wl_c rfl (wl_n)))
  have K : Tp (tJ5_setLength_d00df kn) (fun r => ∃ w' n m, r = (none, w', n, m) ∧ bdI w' 0 ∧ bdR w w' n m) 0 (lv_args 0 [.ref 97, hI (0)], [], w, 0, 0) := by
    refine r_iload rfl rfl ?_
    refine r_ifv (kn := kn) (b := b_ge) (t := 3) (tgt := 13) (np := 4) rfl (z_ge (by unfold R32; omega)) (fun e1 => ?_) (fun e1 => ?_)
    · refine r_aload rfl rfl ?_
      refine r_iload rfl rfl ?_
      have hf15 := b_ens00 (kn := kn) ⟨hc, hb, hL, hbf⟩ (mi := 0) (by omega) (by omega)
      refine r_callV rfl (cok rfl rfl hlv (wl_n)) rfl rfl hc hf15 ?_
      refine r_aload rfl rfl ?_
      refine r_get rfl hc rfl ?_
      refine r_iload rfl rfl ?_
      refine r_icmp (kn := kn) (b := b_ge) (t := 3) (tgt := 63) (np := 26) rfl (c_ge (by unfold R32; omega) (by unfold R32; omega)) (fun e2 => ?_) (fun e2 => ?_)
      · refine r_aload rfl rfl ?_
        refine r_get rfl hc rfl ?_
        refine r_iload rfl rfl ?_
        refine r_icmp (kn := kn) (b := b_le) (t := 5) (tgt := 76) (np := 71) rfl (c_le (by unfold R32; omega) (by unfold R32; omega)) (fun e3 => ?_) (fun e3 => ?_)
        · refine r_aload rfl rfl ?_
          refine r_iload rfl rfl ?_
          refine r_put (ck := ckI) rfl rfl hc rfl ?_
          refine r_vret rfl ?_
          refine ⟨_, _, _, rfl, ⟨b, L, z, bs, ⟨⟨?_, ?_, hL, hbf⟩, ?_⟩, by omega⟩, ⟨fun k k1 k2 k3 => ?_, ?_, fun h => o98_97 h⟩⟩
          · rw [List.getElem?_set_self h97]
            rfl
          · rw [List.getElem?_set_ne (fun e => hbn e.symm)]
            exact hb
          · rw [List.length_set]
            exact hS
          · rw [List.getElem?_set_ne (by omega)]
          · rw [List.length_set]
            exact Or.inl ⟨rfl, rfl, rfl⟩
        · refine r_aload rfl rfl ?_
          refine r_intv k_1 rfl ?_
          refine r_put (ck := ckZ) rfl rfl hc rfl ?_
          have hc2 : (w.set 97 (Sum.inr (0, [Value.ref b, hI 0, hI 1, hI (c : Int)])) : sW)[97]? = some (.inr (0, [.ref b, hI 0, hI 1, hI (c : Int)])) := List.getElem?_set_self h97
          refine r_aload rfl rfl ?_
          refine r_iload rfl rfl ?_
          refine r_put (ck := ckI) rfl rfl hc2 rfl ?_
          refine r_vret rfl ?_
          refine ⟨_, _, _, rfl, ⟨b, L, 1, bs, ⟨⟨?_, ?_, hL, hbf⟩, ?_⟩, by omega⟩, ⟨fun k k1 k2 k3 => ?_, ?_, fun h => o98_97 (o98_97 h)⟩⟩
          · rw [List.getElem?_set_self (by rw [List.length_set]; exact h97)]
            rfl
          · rw [List.getElem?_set_ne (fun e => hbn e.symm), List.getElem?_set_ne (fun e => hbn e.symm)]
            exact hb
          · rw [List.length_set, List.length_set]
            exact hS
          · rw [List.getElem?_set_ne (by omega), List.getElem?_set_ne (by omega)]
          · rw [List.length_set, List.length_set]
            exact Or.inl ⟨rfl, rfl, rfl⟩
      · omega
    · omega
  obtain ⟨r, h1, w2, n, m, h2, h3⟩ := h_meth1 (nL := 2) rfl K
  rw [h2] at h1
  exact ⟨w2, n, m, h1, h3⟩
theorem b_setL {kn : sKn} {w : sW} {c : Nat} (hw : wOk ZZ w) (hJ : bdI w c) : ∃ w' n m, fJ4_setLength_d00df kn [.ref 97, hI (0)] w = some (none, w', n, m) ∧ bdI w' 0 ∧ bdR w w' n m := by
  have hJ0 := hJ
  obtain ⟨b, L, z, bs, ⟨⟨hc, hb, hL, hbf⟩, hS⟩, hcL⟩ := hJ
  have h97 := (List.getElem?_eq_some_iff.mp hc).1
  have hbl := (List.getElem?_eq_some_iff.mp hb).1
  have hlv : wL w.length (lv_args 0 [.ref 97, hI (0)]) := wq_args (wl_c (wfr (by first | exact h97 | omega)) (wl_c rfl (wl_n)))
  have K : Tp (tJ4_setLength_d00df kn) (fun r => ∃ w' n m, r = (none, w', n, m) ∧ bdI w' 0 ∧ bdR w w' n m) 0 (lv_args 0 [.ref 97, hI (0)], [], w, 0, 0) := by
    refine r_aload rfl rfl ?_
    refine r_iload rfl rfl ?_
    obtain ⟨w1, n1, m1, hf2, hq⟩ := b_setL5 (kn := kn) hw hJ0
    refine r_callV rfl (cok rfl rfl hlv (wl_n)) rfl rfl hc hf2 ?_
    have hlq := wL_mono (bdR_len hq.2) hlv
    refine r_vret rfl ?_
    exact ⟨_, _, _, rfl, hq.1, bdR_eq hq.2 (by omega) (by omega)⟩
  obtain ⟨r, h1, w2, n, m, h2, h3⟩ := h_meth1 (nL := 2) rfl K
  rw [h2] at h1
  exact ⟨w2, n, m, h1, h3⟩
theorem b_pchk0 {kn : sKn} {w : sW} {i c : Nat} (hi : i < c) (hc9 : c ≤ 1000) : fJ3_checkIndex_8e157 kn [hI ((i : Int)), hI ((c : Int)), .null] w = some (some (hI (i : Int)), w, 0, 0) := by
  have hlv : wL w.length (lv_args 0 [hI ((i : Int)), hI ((c : Int)), .null]) := wq_args (wl_c rfl (wl_c rfl (wl_c rfl (wl_n))))
  have K : Tp (tJ3_checkIndex_8e157 kn) (fun r => r = (some (hI (i : Int)), w, 0, 0)) 0 (lv_args 0 [hI ((i : Int)), hI ((c : Int)), .null], [], w, 0, 0) := by
    refine r_iload rfl rfl ?_
    refine r_ifv (kn := kn) (b := b_lt) (t := 2) (tgt := 9) (np := 4) rfl (z_lt (by unfold R32; omega)) (fun e1 => ?_) (fun e1 => ?_)
    · omega
    · refine r_iload rfl rfl ?_
      refine r_iload rfl rfl ?_
      refine r_icmp (kn := kn) (b := b_lt) (t := 2) (tgt := 16) (np := 9) rfl (c_lt (by unfold R32; omega) (by unfold R32; omega)) (fun e2 => ?_) (fun e2 => ?_)
      · refine r_iload rfl rfl ?_
        refine r_iret rfl ?_
        rfl
      · omega
  exact mth (nL := 3) rfl K
theorem b_pchk1 {kn : sKn} {w : sW} {i c : Nat} (hi : i < c) (hc9 : c ≤ 1000) : fJ3_checkIndex_8e157 kn [hI ((i : Int)), hI ((c : Int)), .ref 1000006] w = some (some (hI (i : Int)), w, 0, 0) := by
  have hlv : wL w.length (lv_args 0 [hI ((i : Int)), hI ((c : Int)), .ref 1000006]) := wq_args (wl_c rfl (wl_c rfl (wl_c wfs (wl_n))))
  have K : Tp (tJ3_checkIndex_8e157 kn) (fun r => r = (some (hI (i : Int)), w, 0, 0)) 0 (lv_args 0 [hI ((i : Int)), hI ((c : Int)), .ref 1000006], [], w, 0, 0) := by
    refine r_iload rfl rfl ?_
    refine r_ifv (kn := kn) (b := b_lt) (t := 2) (tgt := 9) (np := 4) rfl (z_lt (by unfold R32; omega)) (fun e1 => ?_) (fun e1 => ?_)
    · omega
    · refine r_iload rfl rfl ?_
      refine r_iload rfl rfl ?_
      refine r_icmp (kn := kn) (b := b_lt) (t := 2) (tgt := 16) (np := 9) rfl (c_lt (by unfold R32; omega) (by unfold R32; omega)) (fun e2 => ?_) (fun e2 => ?_)
      · refine r_iload rfl rfl ?_
        refine r_iret rfl ?_
        rfl
      · omega
  exact mth (nL := 3) rfl K
theorem b_pchk {kn : sKn} {w : sW} {i c : Nat} (hi : i < c) (hc9 : c ≤ 1000) : fJ3_checkIndex_8e157 kn [hI ((i : Int)), hI ((c : Int)), siV kn] w = some (some (hI (i : Int)), w, 0, 0) := by
  rcases siV_or kn with e | e
  · rw [e]
    exact b_pchk0 hi hc9
  · rw [e]
    exact b_pchk1 hi hc9
theorem b_chk {kn : sKn} {w : sW} {i c : Nat} (hi : i < c) (hc9 : c ≤ 1000) : fJ0_checkIndex_df160 kn [hI ((i : Int)), hI ((c : Int))] w = some (none, w, 0, 0) := by
  have hlv : wL w.length (lv_args 0 [hI ((i : Int)), hI ((c : Int))]) := wq_args (wl_c rfl (wl_c rfl (wl_n)))
  have K : Tp (tJ0_checkIndex_df160 kn) (fun r => r = (none, w, 0, 0)) 0 (lv_args 0 [hI ((i : Int)), hI ((c : Int))], [], w, 0, 0) := by
    refine r_iload rfl rfl ?_
    refine r_iload rfl rfl ?_
    refine Tp_step rfl (fun _ => rfl) ?_
    have hf5 := b_pchk (kn := kn) (w := w) hi hc9
    refine r_callS (cok rfl rfl hlv (wl_n)) rfl rfl hf5 ?_
    refine r_pop rfl rfl ?_
    refine r_vret rfl ?_
    rfl
  exact mth (nL := 2) rfl K
theorem b_charAt5 {kn : sKn} {w : sW} {b L c : Nat} {z : Int} {bs : List Value} (hB : bdH w b L c z bs) (hcL : c ≤ L) (hL2 : L ≤ 1000) {i : Nat} (hi : i < c) : ∃ x : Int, fJ5_charAt_5068e kn [.ref 97, hI (i : Int)] w = some (some (hI x), w, 0, 0) ∧ (0 ≤ x ∧ x ≤ 255) := by
  obtain ⟨hc, hb, hL, hbf⟩ := hB
  have h97 := (List.getElem?_eq_some_iff.mp hc).1
  have hbl := (List.getElem?_eq_some_iff.mp hb).1
  have hlv : wL w.length (lv_args 0 [.ref 97, hI (i : Int)]) := wq_args (wl_c (wfr h97) (wl_c rfl wl_n))
  have K : Tp (tJ5_charAt_5068e kn) (fun r => ∃ x : Int, r = (some (hI x), w, 0, 0) ∧ (0 ≤ x ∧ x ≤ 255)) 0 (lv_args 0 [.ref 97, hI (i : Int)], [], w, 0, 0) := by
    refine r_aload rfl rfl ?_
    refine r_get rfl hc rfl ?_
    refine r_istore rfl ?_
    have hlv' := wq_put hlv (i := 2) (v := hI (0)) rfl
    refine r_aload rfl rfl ?_
    refine r_get rfl hc rfl ?_
    refine r_astore rfl ?_
    have hlv'' := wq_put hlv' (i := 3) (v := .ref b) (wfr (by first | exact hbl | omega))
    refine r_aload rfl rfl ?_
    refine r_get rfl hc rfl ?_
    refine r_aload rfl rfl ?_
    refine r_alen rfl hb hL ?_
    refine r_iload rfl rfl ?_
    refine r_ishr rfl ?_
    refine r_mmin (by unfold R32; omega) (by unfold R32; omega) rfl rfl (by omega) ?_
    refine r_istore rfl ?_
    have hlv''' := wq_put hlv'' (i := 4) (v := hI ((c : Int))) rfl
    refine r_iload rfl rfl ?_
    refine r_iload rfl rfl ?_
    have hf26 := b_chk (kn := kn) (w := w) hi (by omega)
    refine r_callS (cok rfl rfl hlv''' (wl_n)) rfl rfl hf26 ?_
    refine r_iload rfl rfl ?_
    refine r_ifv (kn := kn) (b := b_ne) (t := 1) (tgt := 42) (np := 33) rfl (z_ne (by unfold R32; omega)) (fun e1 => ?_) (fun e1 => ?_)
    · omega
    · refine r_aload rfl rfl ?_
      refine r_iload rfl rfl ?_
      obtain ⟨x, hx⟩ : ∃ x : Int32, bs[i]? = some (.int x) := by
        have hlt : i < bs.length := by omega
        have f := List.all_eq_true.mp hbf _ (List.getElem_mem hlt)
        rw [List.getElem?_eq_getElem hlt]
        generalize bs[i] = u at f ⊢
        cases u with
        | int x => exact ⟨x, rfl⟩
        | _ => cases f
      refine r_bald rfl hb hx rfl (by omega) ?_
      refine r_intv k_255 rfl ?_
      refine r_iand255 rfl (fun zc hzc => ?_)
      refine r_i2c hzc rfl ?_
      refine r_cret hzc rfl ?_
      exact ⟨_, rfl, hzc⟩
  obtain ⟨r, h1, x, h2, h3⟩ := h_meth1 (nL := 5) rfl K
  rw [h2] at h1
  exact ⟨x, h1, h3⟩
theorem b_charAt {kn : sKn} {w : sW} {b L c : Nat} {z : Int} {bs : List Value} (hB : bdH w b L c z bs) (hcL : c ≤ L) (hL2 : L ≤ 1000) {i : Nat} (hi : i < c) : ∃ x : Int, fJ4_charAt_5068e kn [.ref 97, hI (i : Int)] w = some (some (hI x), w, 0, 0) ∧ (0 ≤ x ∧ x ≤ 255) := by
  obtain ⟨hc, hb, hL, hbf⟩ := hB
  have h97 := (List.getElem?_eq_some_iff.mp hc).1
  have hbl := (List.getElem?_eq_some_iff.mp hb).1
  have hlv : wL w.length (lv_args 0 [.ref 97, hI (i : Int)]) := wq_args (wl_c (wfr h97) (wl_c rfl wl_n))
  have K : Tp (tJ4_charAt_5068e kn) (fun r => ∃ x : Int, r = (some (hI x), w, 0, 0) ∧ (0 ≤ x ∧ x ≤ 255)) 0 (lv_args 0 [.ref 97, hI (i : Int)], [], w, 0, 0) := by
    refine r_aload rfl rfl ?_
    refine r_iload rfl rfl ?_
    obtain ⟨x, hf2, hx⟩ := b_charAt5 (kn := kn) ⟨hc, hb, hL, hbf⟩ hcL hL2 hi
    refine r_callV rfl (cok rfl rfl hlv (wl_n)) rfl rfl hc hf2 ?_
    refine r_cret (by omega) rfl ?_
    exact ⟨_, rfl, hx⟩
  obtain ⟨r, h1, x, h2, h3⟩ := h_meth1 (nL := 2) rfl K
  rw [h2] at h1
  exact ⟨x, h1, h3⟩
theorem wfC_mono {N : Nat} {c : sC} (h : 242 ≤ N) (g : wfC 242 c = true) : wfC N c = true := by
  cases c with
  | inl q =>
    have g : (match Nat.blt q.1 4 with
      | true => true
      | false => xa (wfV 242) q.2) = true := g
    show (match Nat.blt q.1 4 with
      | true => true
      | false => xa (wfV N) q.2) = true
    split
    · rfl
    · rename_i e
      rw [e] at g
      have g : xa (wfV 242) q.2 = true := g
      rw [xa_eq, List.all_eq_true] at g ⊢
      exact fun v hv => wV_mono h (g v hv)
  | inr q =>
    have g : xa (wfV 242) q.2 = true := g
    show xa (wfV N) q.2 = true
    rw [xa_eq, List.all_eq_true] at g ⊢
    exact fun v hv => wV_mono h (g v hv)
/-- no number of a cell that is not there, grown or not -/
theorem wf_all2 {w : sW} {c : Nat} (hw : wOk ZZ w) (hJ : bdI w c) (h98 : o98 w) : xa (wfC w.length) w = true := by
  obtain ⟨b, L, z, bs, ⟨⟨hc, hb, _, _⟩, hS⟩, _⟩ := hJ
  have hlen : w.length = 242 ∨ w.length = 243 := by omega
  rw [xa_eq, List.all_eq_true]
  intro x hx
  obtain ⟨k, hk, rfl⟩ := List.getElem_of_mem hx
  have e := List.getElem?_eq_getElem hk
  by_cases k2 : k = 242
  · have e3 : b = 242 := by omega
    have hw2 : w[242]? = some (.inl (0, bs)) := by rw [← e3]; exact hb
    have e4 : some w[k] = some (Sum.inl (0, bs)) := by rw [← e, k2]; exact hw2
    rw [Option.some.inj e4]
    rfl
  · rcases zcl_all k (by omega) with rfl | rfl | h
    · rw [hc] at e
      rw [← Option.some.inj e]
      have hbl := (List.getElem?_eq_some_iff.mp hb).1
      show xa (wfV w.length) [.ref b, hI 0, hI z, hI (c : Int)] = true
      rw [xa_eq, List.all_eq_true]
      exact wl_c (wfr hbl) (wl_c rfl (wl_c rfl (wl_c rfl wl_n)))
    · obtain ⟨vs, hv⟩ := h98
      rw [hv] at e
      rw [← Option.some.inj e]
      rfl
    · cases ht : ztau k with
      | none => exact absurd ht h
      | some t => exact wfC_mono (by omega) (cell_wf hw ht e)
theorem p_12 {w : sW} (hw : wOk ZZ w) : ∃ fs, w[0]? = some (.inr (12, fs)) ∧ fs[12]? = some (.ref 97) := by
  obtain ⟨fs, v, w1, w2, ⟨z, z1, z2⟩, _⟩ := fty_ok hw (show ZZ.2 0 = some 1 from rfl) (kf := 12) (ci := 12) (ft := (2, .inl (97, 97))) (by decide +kernel)
  obtain ⟨k, rfl, z3⟩ := z1
  have z2 : (97 : Int) ≤ z ∧ z ≤ 97 := z2
  have e : k = 97 := by omega
  subst e
  exact ⟨fs, w1, w2⟩
theorem p_3 {w : sW} (hw : wOk ZZ w) : ∃ fs, w[0]? = some (.inr (12, fs)) ∧ fs[3]? = some (.ref 24) := by
  obtain ⟨fs, v, w1, w2, ⟨z, z1, z2⟩, _⟩ := fty_ok hw (show ZZ.2 0 = some 1 from rfl) (kf := 3) (ci := 12) (ft := (2, .inl (24, 24))) (by decide +kernel)
  obtain ⟨k, rfl, z3⟩ := z1
  have z2 : (24 : Int) ≤ z ∧ z ≤ 24 := z2
  have e : k = 24 := by omega
  subst e
  exact ⟨fs, w1, w2⟩
theorem p_2 {w : sW} (hw : wOk ZZ w) : ∃ fs, w[0]? = some (.inr (12, fs)) ∧ fs[2]? = some (.ref 14) := by
  obtain ⟨fs, v, w1, w2, ⟨z, z1, z2⟩, _⟩ := fty_ok hw (show ZZ.2 0 = some 1 from rfl) (kf := 2) (ci := 12) (ft := (2, .inl (14, 14))) (by decide +kernel)
  obtain ⟨k, rfl, z3⟩ := z1
  have z2 : (14 : Int) ≤ z ∧ z ≤ 14 := z2
  have e : k = 14 := by omega
  subst e
  exact ⟨fs, w1, w2⟩
/-- the owners of the state -/
theorem p_own {w : sW} (hw : wOk ZZ w) : ∃ fs k, w[24]? = some (.inr (9, fs)) ∧ fs[6]? = some (.ref k) ∧ ztau k = some 19 := by
  obtain ⟨fs, v, w1, w2, ⟨z, z1, z2⟩, _⟩ := fty_ok hw (show ZZ.2 24 = some 15 from rfl) (kf := 6) (ci := 9) (ft := (2, .inr 19)) (by decide +kernel)
  obtain ⟨k, rfl, z3⟩ := z1
  obtain ⟨k', z4, z5⟩ := z2
  have e : k' = k := by omega
  subst e
  exact ⟨fs, _, w1, w2, z5⟩
theorem p_nam {w : sW} (hw : wOk ZZ w) : ∃ fs k, w[14]? = some (.inr (7, fs)) ∧ fs[6]? = some (.ref k) ∧ ztau k = some 6 := by
  obtain ⟨fs, v, w1, w2, ⟨z, z1, z2⟩, _⟩ := fty_ok hw (show ZZ.2 14 = some 5 from rfl) (kf := 6) (ci := 7) (ft := (2, .inr 6)) (by decide +kernel)
  obtain ⟨k, rfl, z3⟩ := z1
  obtain ⟨k', z4, z5⟩ := z2
  have e : k' = k := by omega
  subst e
  exact ⟨fs, _, w1, w2, z5⟩
theorem p_ownx {w : sW} (hw : wOk ZZ w) {k j : Nat} (hk : ztau k = some 19) (hj : j < 36) : ∃ (vs : List Value) (x : Int), w[k]? = some (.inl (1, vs)) ∧ vs[j]? = some (hI x) ∧ -1 ≤ x ∧ x ≤ 9 := by
  obtain ⟨vs, q, _, _, _, _, _, w1, w2, w3⟩ := aI_ok (hO_rf (D := []) hw) (aI_of hk ait_19)
  have b := gX_in (hO_rf (D := []) hw) (aI_of hk ait_19) (aR_of hk art_19) (j := j) (by omega) (by omega) (by omega)
  have hj' : j < vs.length := by omega
  obtain ⟨e, e1, z, z1, z2⟩ := w3 j _ (List.getElem?_eq_getElem hj')
  obtain ⟨e2, r⟩ := vOk_hI z1
  refine ⟨vs, gX w k j, w1, ?_, b⟩
  rw [gX_at w1 (by rw [List.getElem?_eq_getElem hj', e2]) r, List.getElem?_eq_getElem hj', e2]
theorem p_namx {w : sW} (hw : wOk ZZ w) {k : Nat} (hk : ztau k = some 6) : ∃ vs : List Value, w[k]? = some (.inl (2, vs)) ∧ vs.length = 10 := by
  obtain ⟨_, vs, w1, w2, _⟩ := aty_ok hw (show ZZ.2 k = some 6 from hk) (q := (2, 10, [(10, fullJ)])) rfl
  exact ⟨vs, w1, w2⟩
theorem wn_l {kn : sKn} {w0 : sW} {c0 : Nat} {nm : Int64} (hc0 : c0 + 7 ≤ 23) : ∀ (j : Nat) (w : sW) (lv : List (Nat × Value)) (x : Int) (c n m : Nat), x = (j : Int) - 1 → j ≤ 7 → c + j ≤ c0 + 7 → wOk ZZ w → bdI w c → bdR w0 w n m → l_get lv 0 = some (.ref 0) → l_get lv 1 = some (.long nm) → l_get lv 3 = some (hI x) → wL w.length lv → Tp (tX11_writeNameB kn) (fun r => ∃ w' n m, r = (none, w', n, m) ∧ (∃ c', bdI w' c' ∧ c' ≤ c0 + 7) ∧ bdR w0 w' n m) 3 (lv, [], w, n, m) := by
  intro j
  induction j with
  | zero =>
    intro w lv x c n m hx hj hc hw hJ hR g0 g1 g3 hlv
    obtain rfl : x = -1 := by omega
    refine r_iload rfl g3 ?_
    refine r_ifv (kn := kn) (b := b_lt) (t := 2) (tgt := 44) (np := 7) rfl (z_lt (by unfold R32; omega)) (fun e1 => ?_) (fun e1 => ?_)
    · refine r_vret rfl ?_
      exact ⟨_, _, _, rfl, ⟨c, hJ, by omega⟩, hR⟩
    · omega
  | succ j ih =>
    intro w lv x c n m hx hj hc hw hJ hR g0 g1 g3 hlv
    obtain rfl : x = (j : Int) := by omega
    have h0 : 0 < w.length := by
      obtain ⟨f12, p12a, _⟩ := p_12 hw
      exact (List.getElem?_eq_some_iff.mp p12a).1
    refine r_iload rfl g3 ?_
    refine r_ifv (kn := kn) (b := b_lt) (t := 2) (tgt := 44) (np := 7) rfl (z_lt (by unfold R32; omega)) (fun e1 => ?_) (fun e1 => ?_)
    · omega
    · refine r_lload rfl g1 ?_
      refine r_intv k_5 rfl ?_
      refine r_iload rfl g3 ?_
      refine r_imul rfl ?_
      refine r_lushr rfl (fun y1 => ?_)
      refine r_long rfl ?_
      refine r_land31 rfl ?_
      refine r_l2i31 rfl (fun zl hzl => ?_)
      refine r_istore rfl ?_
      have hlv' := wq_put hlv (i := 4) (v := hI zl) rfl
      have q0 : l_get (l_put lv 4 (hI zl)) 0 = some (.ref 0) := lp_get (by decide) g0 (by first | exact Or.inl rfl | exact Or.inr (by decide))
      have q1 : l_get (l_put lv 4 (hI zl)) 1 = some (.long nm) := lp_get (by decide) g1 (by first | exact Or.inl rfl | exact Or.inr (by decide))
      have q3 : l_get (l_put lv 4 (hI zl)) 3 = some (hI (j : Int)) := lp_get (by decide) g3 (by first | exact Or.inl rfl | exact Or.inr (by decide))
      have q4 : l_get (l_put lv 4 (hI zl)) 4 = some (hI zl) := l_get_head
      have G : ∀ (w2 : sW) (c2 n2 m2 : Nat), c2 + j ≤ c0 + 7 → wOk ZZ w2 → bdI w2 c2 → bdR w0 w2 n2 m2 → wL w2.length (l_put lv 4 (hI zl)) → Tp (tX11_writeNameB kn) (fun r => ∃ w' n m, r = (none, w', n, m) ∧ (∃ c', bdI w' c' ∧ c' ≤ c0 + 7) ∧ bdR w0 w' n m) 38 (l_put lv 4 (hI zl), [], w2, n2, m2) := by
        intro w2 c2 n2 m2 hc2 hw2 hJ2 hR2 hl2
        refine r_iincv k_n1 rfl q3 ?_
        refine r_goto rfl ?_
        refine ih w2 _ _ c2 n2 m2 (by omega) (by omega) hc2 hw2 hJ2 hR2 ?_ ?_ l_get_head (wq_put hl2 rfl)
        · exact lp_get (by decide) q0 (by first | exact Or.inl rfl | exact Or.inr (by decide))
        · exact lp_get (by decide) q1 (by first | exact Or.inl rfl | exact Or.inr (by decide))
      refine r_iload rfl q4 ?_
      refine r_ifv (kn := kn) (b := b_eq) (t := 0) (tgt := 38) (np := 24) rfl (z_eq (by unfold R32; omega)) (fun e2 => ?_) (fun e2 => ?_)
      · exact G w c n m (by omega) hw hJ hR hlv'
      · refine r_aload rfl q0 ?_
        obtain ⟨f12, p12a, p12b⟩ := p_12 hw
        refine r_get rfl p12a p12b ?_
        refine r_intv k_96 rfl ?_
        refine r_iload rfl q4 ?_
        refine r_iadd rfl ?_
        refine r_i2c (by omega) rfl ?_
        have hJ' := hJ
        obtain ⟨b, L, z, bs, ⟨⟨hcc, _, _, _⟩, _⟩, _⟩ := hJ'
        obtain ⟨w2, n2, m2, hf34, hJ2, hR2⟩ := b_app (kn := kn) hw hJ (x := 96 + zl) (by omega) (by omega)
        refine r_callV rfl (cok rfl rfl hlv' wl_n) rfl rfl hcc hf34 ?_
        refine r_pop rfl rfl ?_
        exact G w2 (c + 1) _ _ (by omega) (bdR_w hR2 hw) hJ2 (bdR_tr hR hR2) (wL_mono (bdR_len hR2) hlv')
theorem b_writeName {kn : sKn} {w : sW} {c : Nat} (hw : wOk ZZ w) (hJ : bdI w c) (hc : c + 7 ≤ 23) (nm : Int64) : ∃ w' n m, fX11_writeNameB kn [.ref 0, .long nm] w = some (none, w', n, m) ∧ (∃ c', bdI w' c' ∧ c' ≤ c + 7) ∧ bdR w w' n m := by
  have h0 : 0 < w.length := by
    obtain ⟨f12, p12a, _⟩ := p_12 hw
    exact (List.getElem?_eq_some_iff.mp p12a).1
  have hlv : wL w.length (lv_args 0 [.ref 0, .long nm]) := wq_args (wl_c (wfr h0) (wl_c rfl wl_n))
  have K : Tp (tX11_writeNameB kn) (fun r => ∃ w' n m, r = (none, w', n, m) ∧ (∃ c', bdI w' c' ∧ c' ≤ c + 7) ∧ bdR w w' n m) 0 (lv_args 0 [.ref 0, .long nm], [], w, 0, 0) := by
    refine r_intv k_6 rfl ?_
    refine r_istore rfl ?_
    exact wn_l hc 7 w _ 6 c 0 0 (by omega) (by omega) (by omega) hw hJ (bdR_rf w) rfl rfl rfl (wq_put hlv rfl)
  obtain ⟨r, h1, w2, n, m, h2, h3⟩ := h_meth1 (nL := 5) rfl K
  rw [h2] at h1
  exact ⟨w2, n, m, h1, h3⟩
/-- plate: place by place -/
def plQ (w0 : sW) (r : sR) : Prop := ∃ w' x n m, r = (some (hI x), w', n, m) ∧ (∃ c', bdI w' c' ∧ c' ≤ 23) ∧ bdR w0 w' n m
theorem pl_l {kn : sKn} {w0 : sW} {row : Nat} (hrow : row ≤ 11) : ∀ (j k : Nat) (w : sW) (lv : List (Nat × Value)) (c n m : Nat), k + j = 3 → ((k = 0 ∧ c = 0) ∨ c + 1 ≤ 8 * k) → wOk ZZ w → bdI w c → bdR w0 w n m → l_get lv 0 = some (.ref 0) → l_get lv 1 = some (hI (row : Int)) → l_get lv 2 = some (hI (k : Int)) → wL w.length lv → Tp (tX11_plateB kn) (plQ w0) 20 (lv, [], w, n, m) := by
  intro j
  induction j with
  | zero =>
    intro k w lv c n m hk hc hw hJ hR g0 g1 g2 hlv
    refine r_iload rfl g2 ?_
    refine r_intv k_3 rfl ?_
    refine r_icmp (kn := kn) (b := b_ge) (t := 3) (tgt := 91) (np := 25) rfl (c_ge (by unfold R32; omega) (by unfold R32; omega)) (fun e1 => ?_) (fun e1 => ?_)
    · refine r_aload rfl g0 ?_
      obtain ⟨f12, p12a, p12b⟩ := p_12 hw
      refine r_get rfl p12a p12b ?_
      have hJ' := hJ
      obtain ⟨b, L, z, bs, ⟨hB, _⟩, _⟩ := hJ'
      have hf95 := b_len4 (kn := kn) hB
      refine r_callV rfl (cok rfl rfl hlv wl_n) rfl rfl hB.1 hf95 ?_
      refine r_iret rfl ?_
      exact ⟨_, _, _, _, rfl, ⟨c, hJ, by omega⟩, hR⟩
    · omega
  | succ j ih =>
    intro k w lv c n m hk hc hw hJ hR g0 g1 g2 hlv
    have T : ∀ (w2 : sW) (c2 n2 m2 : Nat) (lv2 : List (Nat × Value)), c2 + 1 ≤ 8 * (k + 1) → wOk ZZ w2 → bdI w2 c2 → bdR w0 w2 n2 m2 → l_get lv2 0 = some (.ref 0) → l_get lv2 1 = some (hI (row : Int)) → l_get lv2 2 = some (hI (k : Int)) → wL w2.length lv2 → Tp (tX11_plateB kn) (plQ w0) 85 (lv2, [], w2, n2, m2) := by
      intro w2 c2 n2 m2 lv2 hc2 hw2 hJ2 hR2 q0 q1 q2 hl2
      refine r_iincv k_1 rfl q2 ?_
      refine r_goto rfl ?_
      refine ih (k + 1) w2 _ c2 n2 m2 (by omega) (Or.inr hc2) hw2 hJ2 hR2 ?_ ?_ l_get_head (wq_put hl2 rfl)
      · exact lp_get (by decide) q0 (by first | exact Or.inl rfl | exact Or.inr (by decide))
      · exact lp_get (by decide) q1 (by first | exact Or.inl rfl | exact Or.inr (by decide))
    have M : ∀ (w2 : sW) (c2 n2 m2 : Nat), c2 ≤ 8 * k → wOk ZZ w2 → bdI w2 c2 → bdR w0 w2 n2 m2 → wL w2.length lv → Tp (tX11_plateB kn) (plQ w0) 39 (lv, [], w2, n2, m2) := by
      intro w2 c2 n2 m2 hc2 hw2 hJ2 hR2 hl2
      refine r_aload rfl g0 ?_
      obtain ⟨f3, p3a, p3b⟩ := p_3 hw2
      refine r_get rfl p3a p3b ?_
      obtain ⟨fo, ko, o1, o2, o3⟩ := p_own hw2
      refine r_get rfl o1 o2 ?_
      refine r_intv k_3 rfl ?_
      refine r_iload rfl g1 ?_
      refine r_imul rfl ?_
      refine r_iload rfl g2 ?_
      refine r_iadd rfl ?_
      obtain ⟨vs, x, x1, x2, x3, x4⟩ := p_ownx hw2 o3 (j := 3 * row + k) (by omega)
      refine r_iald (t := 0) rfl x1 x2 (by omega) (by omega) ?_
      refine r_istore rfl ?_
      have hl3 := wq_put hl2 (i := 3) (v := hI x) rfl
      have q0 : l_get (l_put lv 3 (hI x)) 0 = some (.ref 0) := lp_get (by decide) g0 (by first | exact Or.inl rfl | exact Or.inr (by decide))
      have q1 : l_get (l_put lv 3 (hI x)) 1 = some (hI (row : Int)) := lp_get (by decide) g1 (by first | exact Or.inl rfl | exact Or.inr (by decide))
      have q2 : l_get (l_put lv 3 (hI x)) 2 = some (hI (k : Int)) := lp_get (by decide) g2 (by first | exact Or.inl rfl | exact Or.inr (by decide))
      have q3 : l_get (l_put lv 3 (hI x)) 3 = some (hI x) := l_get_head
      have h0 : 0 < w2.length := (List.getElem?_eq_some_iff.mp p3a).1
      refine r_iload rfl q3 ?_
      refine r_intv k_n1 rfl ?_
      refine r_icmp (kn := kn) (b := b_ne) (t := 1) (tgt := 72) (np := 58) rfl (c_ne (by unfold R32; omega) (by unfold R32; omega)) (fun e2 => ?_) (fun e2 => ?_)
      · refine r_aload rfl q0 ?_
        refine r_aload rfl q0 ?_
        obtain ⟨f2, p2a, p2b⟩ := p_2 hw2
        refine r_get rfl p2a p2b ?_
        obtain ⟨fn, kq, n1, n2', n3⟩ := p_nam hw2
        refine r_get rfl n1 n2' ?_
        refine r_iload rfl q3 ?_
        obtain ⟨us, u1, u2⟩ := p_namx hw2 n3
        refine r_lald (j := x.toNat) rfl u1 (by omega) (by omega) (by omega) (fun nm => ?_)
        obtain ⟨w3, n4, m4, hf82, ⟨c3, hJ3, hc3⟩, hR3⟩ := b_writeName (kn := kn) hw2 hJ2 (by omega) nm
        refine r_callV rfl (cok rfl rfl hl3 wl_n) rfl rfl p2a hf82 ?_
        exact T w3 c3 _ _ _ (by omega) (bdR_w hR3 hw2) hJ3 (bdR_tr hR2 hR3) q0 q1 q2 (wL_mono (bdR_len hR3) hl3)
      · refine r_aload rfl q0 ?_
        obtain ⟨f12, p12a, p12b⟩ := p_12 hw2
        refine r_get rfl p12a p12b ?_
        refine r_ldcS rfl ?_
        have hJ' := hJ2
        obtain ⟨b, L, z, bs, ⟨hB, _⟩, _⟩ := hJ'
        obtain ⟨w3, n4, m4, hf65, hJ3, hR3⟩ := b_apps (kn := kn) hw2 hJ2 (by omega)
        refine r_callV rfl (cok rfl rfl hl3 wl_n) rfl rfl hB.1 hf65 ?_
        refine r_pop rfl rfl ?_
        refine r_goto rfl ?_
        exact T w3 (c2 + 3) _ _ _ (by omega) (bdR_w hR3 hw2) hJ3 (bdR_tr hR2 hR3) q0 q1 q2 (wL_mono (bdR_len hR3) hl3)
    refine r_iload rfl g2 ?_
    refine r_intv k_3 rfl ?_
    refine r_icmp (kn := kn) (b := b_ge) (t := 3) (tgt := 91) (np := 25) rfl (c_ge (by unfold R32; omega) (by unfold R32; omega)) (fun e1 => ?_) (fun e1 => ?_)
    · omega
    · refine r_iload rfl g2 ?_
      refine r_ifv (kn := kn) (b := b_le) (t := 5) (tgt := 39) (np := 29) rfl (z_le (by unfold R32; omega)) (fun e2 => ?_) (fun e2 => ?_)
      · exact M w c n m (by omega) hw hJ hR hlv
      · refine r_aload rfl g0 ?_
        obtain ⟨f12, p12a, p12b⟩ := p_12 hw
        refine r_get rfl p12a p12b ?_
        refine r_intv k_45 rfl ?_
        have hJ' := hJ
        obtain ⟨b, L, z, bs, ⟨hB, _⟩, _⟩ := hJ'
        obtain ⟨w3, n4, m4, hf35, hJ3, hR3⟩ := b_app (kn := kn) hw hJ (x := 45) (by omega) (by omega)
        refine r_callV rfl (cok rfl rfl hlv wl_n) rfl rfl hB.1 hf35 ?_
        refine r_pop rfl rfl ?_
        exact M w3 (c + 1) _ _ (by omega) (bdR_w hR3 hw) hJ3 (bdR_tr hR hR3) (wL_mono (bdR_len hR3) hlv)
theorem s_plate7 {kn : sKn} {w : sW} {c : Nat} (hw : wOk ZZ w) (hJ : bdI w c) (x : Int) (hx : R32 x) : ∃ r, fX11_plateB kn [.ref 0, hI x] w = some r ∧ ((∃ y : Int, r = (some (hI y), w, 0, 0)) ∨ plQ w r) := by
  have hx1 := hx.1
  have hx2 := hx.2
  obtain ⟨f12, p12a, p12b⟩ := p_12 hw
  have h0 : 0 < w.length := (List.getElem?_eq_some_iff.mp p12a).1
  have hlv : wL w.length (lv_args 0 [.ref 0, hI x]) := wq_args (wl_c (wfr h0) (wl_c rfl wl_n))
  have K : Tp (tX11_plateB kn) (fun r => (∃ y : Int, r = (some (hI y), w, 0, 0)) ∨ plQ w r) 0 (lv_args 0 [.ref 0, hI x], [], w, 0, 0) := by
    refine r_aload rfl rfl ?_
    refine r_iload rfl rfl ?_
    obtain ⟨z2, hf2, hz2⟩ := s_isRow7 (kn := kn) hw x ⟨by omega, by omega⟩
    refine r_callV rfl (cok rfl rfl hlv wl_n) rfl rfl p12a hf2 ?_
    refine r_ifv (kn := kn) (b := b_ne) (t := 1) (tgt := 10) (np := 8) rfl (z_ne (by unfold R32; omega)) (fun e1 => ?_) (fun e1 => ?_)
    · obtain ⟨row, hrow⟩ : ∃ row : Nat, x = (row : Int) := ⟨x.toNat, by omega⟩
      refine r_aload rfl rfl ?_
      refine r_get rfl p12a p12b ?_
      refine r_intv k_0 rfl ?_
      have hJ' := hJ
      obtain ⟨b, L, z, bs, ⟨hB, _⟩, _⟩ := hJ'
      obtain ⟨w3, n4, m4, hf15, hJ3, hR3⟩ := b_setL (kn := kn) hw hJ
      refine r_callV rfl (cok rfl rfl hlv wl_n) rfl rfl hB.1 hf15 ?_
      refine r_intv k_0 rfl ?_
      refine r_istore rfl ?_
      refine Tp_mono (fun r h => Or.inr h) (pl_l (row := row) (by omega) 3 0 w3 _ 0 _ _ rfl (Or.inl ⟨rfl, rfl⟩) (bdR_w hR3 hw) hJ3 (bdR_eq hR3 (by omega) (by omega)) rfl ?_ l_get_head (wq_put (wL_mono (bdR_len hR3) hlv) rfl))
      exact lp_get (by decide) (show l_get (lv_args 0 [.ref 0, hI x]) 1 = some (hI (row : Int)) by rw [hrow]; rfl) (Or.inl rfl)
    · refine r_intv k_n1 rfl ?_
      refine r_iret rfl ?_
      exact Or.inl ⟨_, rfl⟩
  exact h_meth1 (nL := 4) rfl K
theorem s_byteAt7 {kn : sKn} {w : sW} {c : Nat} (hw : wOk ZZ w) (hJ : bdI w c) (hc34 : c ≤ 23) (x : Int) (hx : R32 x) : ∃ y : Int, fX11_byteAt kn [.ref 0, hI x] w = some (some (hI y), w, 0, 0) := by
  have hx1 := hx.1
  have hx2 := hx.2
  obtain ⟨f12, p12a, p12b⟩ := p_12 hw
  have h0 : 0 < w.length := (List.getElem?_eq_some_iff.mp p12a).1
  have hlv : wL w.length (lv_args 0 [.ref 0, hI x]) := wq_args (wl_c (wfr h0) (wl_c rfl wl_n))
  obtain ⟨b, L, z, bs, ⟨hB, hS⟩, hcL⟩ := hJ
  have K : Tp (tX11_byteAt kn) (fun r => ∃ y : Int, r = (some (hI y), w, 0, 0)) 0 (lv_args 0 [.ref 0, hI x], [], w, 0, 0) := by
    refine r_iload rfl rfl ?_
    refine r_ifv (kn := kn) (b := b_lt) (t := 2) (tgt := 15) (np := 4) rfl (z_lt (by unfold R32; omega)) (fun e1 => ?_) (fun e1 => ?_)
    · refine r_intv k_n1 rfl ?_
      refine r_iret rfl ?_
      exact ⟨_, rfl⟩
    · refine r_iload rfl rfl ?_
      refine r_aload rfl rfl ?_
      refine r_get rfl p12a p12b ?_
      have hf9 := b_len4 (kn := kn) hB
      refine r_callV rfl (cok rfl rfl hlv (wl_c rfl wl_n)) rfl rfl hB.1 hf9 ?_
      refine r_icmp (kn := kn) (b := b_lt) (t := 2) (tgt := 17) (np := 15) rfl (c_lt (by unfold R32; omega) (by unfold R32; omega)) (fun e2 => ?_) (fun e2 => ?_)
      · obtain ⟨i, hi⟩ : ∃ i : Nat, x = (i : Int) := ⟨x.toNat, by omega⟩
        refine r_aload rfl rfl ?_
        refine r_get rfl p12a p12b ?_
        refine r_iload rfl rfl ?_
        rw [hi]
        obtain ⟨y, hf22, _⟩ := b_charAt (kn := kn) hB hcL (by omega) (i := i) (by omega)
        refine r_callV rfl (cok rfl rfl (by rw [← hi]; exact hlv) wl_n) rfl rfl hB.1 hf22 ?_
        refine r_iret rfl ?_
        exact ⟨_, rfl⟩
      · refine r_intv k_n1 rfl ?_
        refine r_iret rfl ?_
        exact ⟨_, rfl⟩
  obtain ⟨r, h1, y, h2⟩ := h_meth1 (nL := 2) rfl K
  rw [h2] at h1
  exact ⟨y, h1⟩
end
