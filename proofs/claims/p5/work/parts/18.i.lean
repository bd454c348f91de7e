noncomputable section
def sgc (z : Int) (q : Option eE) : Bool := match q with
  | some (.inl p) => match zle p.1 z with
    | true => zle z p.2
    | false => false
  | _ => false
theorem sgc_ok {z : Int} {q : Option eE} (h : sgc z q = true) (r : R32 z) : ∃ e, q = some e ∧ fvOk ZZ (0, e) (hI z) := by
  unfold sgc at h
  split at h
  · rename_i p
    split at h
    · rename_i c1
      rw [zle_iff] at h c1
      exact ⟨_, rfl, z, hI_vOk r, by show p.1 ≤ z; exact c1, by show z ≤ p.2; exact h⟩
    · cases h
  · cases h
theorem sg_so0 : ∀ k < 438, k < 94 ∨ sgc 0 (sga (aSg 215) k) = true := by decide +kernel
theorem sg_so1 : ∀ k < 10, sgq (sga (aSg 215) (5 + k)) (sga (aSg 215) (98 + k)) = true := by decide +kernel
theorem sg_so2 : ∀ k < 10, sgc (-1) (sga (aSg 215) (108 + k)) = true := by decide +kernel
theorem sg_so3 : ∀ k < 36, sgq (sga (aSg 215) (46 + k)) (sga (aSg 215) (118 + k)) = true := by decide +kernel
def dX12_startSo : List (Nat × Nat) := [(63, 999)]
def dH_ss : List (Nat × Nat) := [(61, 778), (63, 999)]
def ssI (w0 w : sW) (k : Nat) : Prop := hO dH_ss w0 w ∧ (∀ j, 94 ≤ j → j < k → gX w 215 j = 0) ∧ (∀ c j, c ≠ 215 → gX w c j = gX w0 c j)
def ssT (w0 w : sW) : Prop := hO dH_ss w0 w ∧ (∀ j, 196 ≤ j → j < 438 → gX w 215 j = 0) ∧ (∀ c j, c ≠ 215 → gX w c j = gX w0 c j)
theorem ss_st {w0 w w' : sW} {i : Nat} {z : Int} (h : ssT w0 w) (ho : hO dH_ss w0 w') (hi : i < 196) (h2 : ∀ c' j', (c' = 215 → j' ≠ i) → gX w' c' j' = gX w c' j') : ssT w0 w' := by
  refine ⟨ho, fun j h1 h3 => ?_, fun c j hc => ?_⟩
  · rw [h2 215 j (fun _ => by omega)]
    exact h.2.1 j h1 h3
  · rw [h2 c j (fun e => absurd e hc)]
    exact h.2.2 c j hc
theorem ss_pw {w0 w : sW} (hw : wOk ZZ w0) (h : ssT w0 w) (p : PW w0) : PW w := by
  obtain ⟨p0, p1, p2, p3, p4, p5, p6, p7⟩ := p
  obtain ⟨o1, h1, h2⟩ := h
  refine ⟨rfG_eq (fr_rf hw o1.2 (by decide +kernel) (by decide +kernel)) p0, ?_, siG_eq (fun j _ => h2 _ _ (by decide)) p2, siG_eq (fun j _ => h2 _ _ (by decide)) p3, snG_eq (fun j => h2 _ _ (by decide)) (fun j => h2 _ _ (by decide)) p4, snG_eq (fun j => h2 _ _ (by decide)) (fun j => h2 _ _ (by decide)) p5, snG_eq (fun j => h2 _ _ (by decide)) (fun j => h2 _ _ (by decide)) p6, snG_eq (fun j => h2 _ _ (by decide)) (fun j => h2 _ _ (by decide)) p7⟩
  intro i hi
  rw [h1 197 (by omega) (by omega)] at hi
  have : i = 0 := by omega
  subst this
  unfold ndG
  rw [show (0 + 198 + 4 * 0 : Nat) = 198 from rfl, h1 198 (by omega) (by omega)]
  exact ⟨fun z => by omega, fun z => by omega, fun z => by omega⟩
theorem ss_3 {kn : sKn} {w0 : sW} : ∀ (m k : Nat) (w : sW) (lv : List (Nat × Value)) (x : Int), k + m = 36 → x = (k : Int) → ssT w0 w → hL lv [(0, .ref 213), (1, hI x)] → Tp (tX12_startSo kn) (fun r => ∃ w', r = (none, w', 0, 0) ∧ ssT w0 w') 66 (lv, [], w, 0, 0) := by
  intro m
  induction m with
  | zero =>
    intro k w lv x hkm hxk hJ l0
    subst hxk
    have o0 := hJ.1
    refine h_iload rfl l0 rfl ?_
    refine h_intv k_36 rfl ?_
    refine i_ge (kn := kn) (t := 3) (tgt := 96) (np := 72) rfl (by unfold R32; omega) (by unfold R32; omega) (fun e1 => ?_) (fun e1 => ?_)
    · refine h_vret rfl ?_
      exact ⟨_, rfl, hJ⟩
    · omega
  | succ m ih =>
    intro k w lv x hkm hxk hJ l0
    subst hxk
    have o0 := hJ.1
    refine h_iload rfl l0 rfl ?_
    refine h_intv k_36 rfl ?_
    refine i_ge (kn := kn) (t := 3) (tgt := 96) (np := 72) rfl (by unfold R32; omega) (by unfold R32; omega) (fun e1 => ?_) (fun e1 => ?_)
    · omega
    · refine h_aload rfl l0 rfl ?_
      refine h_getR rfl o0 fr_14 ?_
      refine h_intv k_118 rfl ?_
      refine h_iload rfl l0 rfl ?_
      refine h_iadd rfl ?_
      refine h_aload rfl l0 rfl ?_
      refine h_getR rfl o0 fr_14 ?_
      refine h_intv k_46 rfl ?_
      refine h_iload rfl l0 rfl ?_
      refine h_iadd rfl ?_
      refine h_ialdj (46 + k) rfl o0 ai_215 rfl (by omega) (by omega) (fun b2a b2b => ?_)
      refine h_iaste (118 + k) rfl o0 ai_215 rfl rfl (by omega) (by omega) (by rw [← sgq_ok (sg_so3 k (by omega))]; exact gX_seg o0 ai_215 (by omega)) (by unfold R32; omega) (fun w3 o3 q4a q4b q4c => ?_)
      refine h_iincv k_1 rfl l0 rfl (fun vl5 l5 => ?_)
      refine h_goto rfl ?_
      exact ih (k + 1) _ _ ((k : Int) + 1) (by omega) (by omega) (ss_st (z := 0) (i := 118 + k) hJ o3 (by omega) q4b) l5
theorem ss_2 {kn : sKn} {w0 : sW} : ∀ (m k : Nat) (w : sW) (lv : List (Nat × Value)) (x : Int), k + m = 10 → x = (k : Int) → ssT w0 w → hL lv [(0, .ref 213), (1, hI x)] → Tp (tX12_startSo kn) (fun r => ∃ w', r = (none, w', 0, 0) ∧ ssT w0 w') 25 (lv, [], w, 0, 0) := by
  intro m
  induction m with
  | zero =>
    intro k w lv x hkm hxk hJ l0
    subst hxk
    have o0 := hJ.1
    refine h_iload rfl l0 rfl ?_
    refine h_intv k_10 rfl ?_
    refine i_ge (kn := kn) (t := 3) (tgt := 64) (np := 31) rfl (by unfold R32; omega) (by unfold R32; omega) (fun e1 => ?_) (fun e1 => ?_)
    · refine h_intv k_0 rfl ?_
      refine h_istore rfl l0 (fun vl2 l2 => ?_)
      exact ss_3 36 0 _ _ 0 rfl rfl hJ l2
    · omega
  | succ m ih =>
    intro k w lv x hkm hxk hJ l0
    subst hxk
    have o0 := hJ.1
    refine h_iload rfl l0 rfl ?_
    refine h_intv k_10 rfl ?_
    refine i_ge (kn := kn) (t := 3) (tgt := 64) (np := 31) rfl (by unfold R32; omega) (by unfold R32; omega) (fun e1 => ?_) (fun e1 => ?_)
    · omega
    · refine h_aload rfl l0 rfl ?_
      refine h_getR rfl o0 fr_14 ?_
      refine h_intv k_98 rfl ?_
      refine h_iload rfl l0 rfl ?_
      refine h_iadd rfl ?_
      refine h_aload rfl l0 rfl ?_
      refine h_getR rfl o0 fr_14 ?_
      refine h_intv k_5 rfl ?_
      refine h_iload rfl l0 rfl ?_
      refine h_iadd rfl ?_
      refine h_ialdj (5 + k) rfl o0 ai_215 rfl (by omega) (by omega) (fun b2a b2b => ?_)
      refine h_iaste (98 + k) rfl o0 ai_215 rfl rfl (by omega) (by omega) (by rw [← sgq_ok (sg_so1 k (by omega))]; exact gX_seg o0 ai_215 (by omega)) (by unfold R32; omega) (fun w3 o3 q4a q4b q4c => ?_)
      refine h_aload rfl l0 rfl ?_
      refine h_getR rfl o3 fr_14 ?_
      refine h_intv k_108 rfl ?_
      refine h_iload rfl l0 rfl ?_
      refine h_iadd rfl ?_
      refine h_intv k_n1 rfl ?_
      refine h_iaste (108 + k) rfl o3 ai_215 rfl rfl (by omega) (by omega) (sgc_ok (sg_so2 k (by omega)) ⟨by omega, by omega⟩) (by unfold R32; omega) (fun w5 o5 q6a q6b q6c => ?_)
      refine h_iincv k_1 rfl l0 rfl (fun vl7 l7 => ?_)
      refine h_goto rfl ?_
      exact ih (k + 1) _ _ ((k : Int) + 1) (by omega) (by omega) (ss_st (z := 0) (i := 108 + k) (ss_st (z := 0) (i := 98 + k) hJ o3 (by omega) q4b) o5 (by omega) q6b) l7
theorem ss_1 {kn : sKn} {w0 : sW} : ∀ (m k : Nat) (w : sW) (lv : List (Nat × Value)) (x : Int), k + m = 438 → x = (k : Int) → 94 ≤ k → ssI w0 w k → hL lv [(0, .ref 213), (1, hI x)] → Tp (tX12_startSo kn) (fun r => ∃ w', r = (none, w', 0, 0) ∧ ssT w0 w') 3 (lv, [], w, 0, 0) := by
  intro m
  induction m with
  | zero =>
    intro k w lv x hkm hxk h94 hJ l0
    subst hxk
    have o0 := hJ.1
    refine h_iload rfl l0 rfl ?_
    refine h_intv k_438 rfl ?_
    refine i_ge (kn := kn) (t := 3) (tgt := 23) (np := 10) rfl (by unfold R32; omega) (by unfold R32; omega) (fun e1 => ?_) (fun e1 => ?_)
    · refine h_intv k_0 rfl ?_
      refine h_istore rfl l0 (fun vl2 l2 => ?_)
      exact ss_2 10 0 _ _ 0 rfl rfl ⟨o0, fun j j1 j2 => hJ.2.1 j (by omega) (by omega), hJ.2.2⟩ l2
    · omega
  | succ m ih =>
    intro k w lv x hkm hxk h94 hJ l0
    subst hxk
    have o0 := hJ.1
    refine h_iload rfl l0 rfl ?_
    refine h_intv k_438 rfl ?_
    refine i_ge (kn := kn) (t := 3) (tgt := 23) (np := 10) rfl (by unfold R32; omega) (by unfold R32; omega) (fun e1 => ?_) (fun e1 => ?_)
    · omega
    · refine h_aload rfl l0 rfl ?_
      refine h_getR rfl o0 fr_14 ?_
      refine h_iload rfl l0 rfl ?_
      refine h_intv k_0 rfl ?_
      refine h_iaste (k) rfl o0 ai_215 rfl rfl (by omega) (by omega) (sgc_ok ((sg_so0 k (by omega)).resolve_left (by omega)) ⟨by omega, by omega⟩) (by unfold R32; omega) (fun w2 o2 q3a q3b q3c => ?_)
      refine h_iincv k_1 rfl l0 rfl (fun vl4 l4 => ?_)
      refine h_goto rfl ?_
      refine ih (k + 1) _ _ ((k : Int) + 1) (by omega) (by omega) (by omega) ⟨o2, fun j j1 j2 => ?_, fun c j hc => ?_⟩ l4
      · by_cases e : j = k
        · rw [e, q3a]
        · rw [q3b 215 j (fun _ => e)]
          exact hJ.2.1 j j1 (by omega)
      · rw [q3b c j (fun e => absurd e hc)]
        exact hJ.2.2 c j hc
theorem s_startSo0 {kn : sKn} {w0 : sW} (hw : wOk ZZ w0) : ∃ w', fX12_startSo kn [.ref 213] w0 = some (none, w', 0, 0) ∧ hO dX12_startSo w0 w' := by
  have K : Tp (tX12_startSo kn) (fun r => ∃ w', r = (none, w', 0, 0) ∧ ssT w0 w') 0 (lv_args 0 [.ref 213], [], w0, 0, 0) := by
    have l0 : hL (lv_args 0 [.ref 213]) (lv_args 0 [.ref 213]) := hL_ex rfl
    have o0 : hO dH_ss w0 w0 := hO_rf hw
    refine h_intv k_94 rfl ?_
    refine h_istore rfl l0 (fun vl1 l1 => ?_)
    exact ss_1 344 94 _ _ 94 rfl rfl (by omega) ⟨o0, fun j j1 j2 => by omega, fun c j _ => rfl⟩ l1
  obtain ⟨r, h1, w2, h2, h3⟩ := h_meth1 (nL := 2) rfl K
  rw [h2] at h1
  exact ⟨w2, h1, h3.1.1, fr_P hw h3.1.1 h3.1.2 (ss_pw hw h3)⟩
def xX12_startSo : List eX := [([(2, 0, 213)], [], [], 1, [([], [], [], [], 1)])]
theorem con_X12_startSo (kn : sKn) : Cons ZZ dX12_startSo (fX12_startSo kn) xX12_startSo := Cons_c (by
  intro σ0 av w hN h0 hS hM hE hw hwf
  have hS : gS σ0 [(2, 0, 213)] av := hS
  obtain ⟨v1, st1, rfl, ⟨z1, e1, e2⟩, hS1⟩ := gS_1 hS
  rw [gS_0 hS1] at hwf ⊢
  have e1 : σ0[0]? = some z1 := e1
  rw [h0] at e1
  cases e1
  obtain ⟨k, rfl, hk⟩ := e2
  have hk : (k : Int) = 0 + 213 := hk
  have hk2 : k = 213 := by omega
  subst hk2
  obtain ⟨w', f1, f2⟩ := s_startSo0 (kn := kn) hw
  refine ⟨⟨_, f1⟩, fun r hr => ?_⟩
  rw [f1] at hr
  cases hr
  exact ⟨rfl, f2.2, f2.1, _, List.mem_cons_self, σ0, ext_rf σ0, hN, trivial, (fun q hq => by cases hq), fun q hq => by cases hq⟩) Cons_n
end
