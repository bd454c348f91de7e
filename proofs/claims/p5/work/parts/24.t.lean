noncomputable section
def zUs (a b : Int) : Int := ((((Int32.ofInt a).toUInt32 >>> ((Int32.ofInt b).toUInt32 &&& Int32.toUInt32 31)).toInt32)).toInt
def zBt (x s : Int) : Int := zAnd (zUs x s) 255
theorem zBt_b (x s : Int) : 0 ≤ zAnd (zUs x s) 255 ∧ zAnd (zUs x s) 255 ≤ 255 := by
  have h : ((Int32.ofInt (zUs x s) &&& Int32.ofInt 255)).toBitVec.toNat ≤ 255 := by
    rw [Int32.toBitVec_and, BitVec.toNat_and]
    exact Nat.and_le_right
  show 0 ≤ (Int32.ofInt (zUs x s) &&& Int32.ofInt 255).toInt ∧ (Int32.ofInt (zUs x s) &&& Int32.ofInt 255).toInt ≤ 255
  rw [Int32.toInt, BitVec.toInt_eq_toNat_of_lt (by omega)]
  omega
theorem zAnd_R (a b : Int) : R32 (zAnd a b) := R32_of _
theorem x_iushr {tbl : List (Nat × sA)} {Po : sR → Prop} {pc np : Nat} {lv : List (Nat × Value)} {st : List Value} {w : sW} {a b : Int} (ha : t_get tbl pc = some (a_stk q_iushr np)) (g : Tp tbl Po np (lv, hI (zUs a b) :: st, w, 0, 0)) : Tp tbl Po pc (lv, hI b :: hI a :: st, w, 0, 0) := Tp_step (ss' := (lv, hI (zUs a b) :: st, w, 0, 0)) ha (fun k => by
  unfold zUs
  rw [← hI_of]
  rfl) g
/-- four bytes more -/
def fbx (T : Nat → Int) (n : Nat) (x : Int) : Nat → Int := fun i => if n ≤ i ∧ i < n + 4 then zBt x (24 - 8 * ((i - n : Nat) : Int)) else T i
theorem e_put9_l {kn : sKn} {w0 : sW} {x : Int} {n : Nat} (hx : R32 x) (hn : n + 4 ≤ 940) : ∀ (m j : Nat) (w : sW) (lv : List (Nat × Value)) (z : Int), j + m = 4 → z = 24 - 8 * (j : Int) → gF w 1 1 = ((n + j : Nat) : Int) → (∀ i, i < n → gX w 2 i = gX w0 2 i) → (∀ i, i < j → gX w 2 (n + i) = zBt x (24 - 8 * (i : Int))) → hO dX9_put w0 w → hL lv [(0, .ref 1), (1, hI x), (2, hI z)] → Tp (tX9_put kn) (fun r => ∃ w', r = (none, w', 0, 0) ∧ hO dX9_put w0 w' ∧ gF w' 1 1 = ((n + 4 : Nat) : Int) ∧ (∀ i, i < n → gX w' 2 i = gX w0 2 i) ∧ ∀ i, i < 4 → gX w' 2 (n + i) = zBt x (24 - 8 * (i : Int))) 3 (lv, [], w, 0, 0) := by
  have hx1 := hx.1
  have hx2 := hx.2
  intro m
  induction m with
  | zero =>
    intro j w lv z hjm hz hk hX hY o0 l0
    subst hz
    refine h_iload rfl l0 rfl ?_
    refine j_lt (kn := kn) (t := 2) (tgt := 49) (np := 7) rfl (by unfold R32; omega) (fun e41 => ?_) (fun e41 => ?_)
    · refine h_vret rfl ?_
      exact ⟨_, rfl, o0, by rw [hk]; omega, hX, fun i hi => hY i (by omega)⟩
    · omega
  | succ m ih =>
    intro j w lv z hjm hz hk hX hY o0 l0
    subst hz
    refine h_iload rfl l0 rfl ?_
    refine j_lt (kn := kn) (t := 2) (tgt := 49) (np := 7) rfl (by unfold R32; omega) (fun e41 => ?_) (fun e41 => ?_)
    · omega
    · refine h_aload rfl l0 rfl ?_
      refine h_getI rfl o0 fi_1_1 (fun b42a b42b => ?_)
      rw [hk] at b42a b42b ⊢
      refine h_intv k_940 rfl ?_
      refine i_ge (kn := kn) (t := 3) (tgt := 49) (np := 17) rfl (by unfold R32; omega) (by unfold R32; omega) (fun e43 => ?_) (fun e43 => ?_)
      · omega
      · refine h_aload rfl l0 rfl ?_
        refine h_getR rfl o0 fr_1_0 ?_
        refine h_aload rfl l0 rfl ?_
        refine h_getI rfl o0 fi_1_1 (fun b44a b44b => ?_)
        rw [hk] at b44a b44b ⊢
        refine h_iload rfl l0 rfl ?_
        refine h_iload rfl l0 rfl ?_
        refine x_iushr rfl ?_
        refine h_intv k_255 rfl ?_
        refine x_iand rfl ?_
        refine x_iast (n + j) rfl o0 ai_2 rfl rfl aw_2 (by omega) (by omega) (by omega) (by omega) (zBt_b _ _).1 (zBt_b _ _).2 (zAnd_R _ _) (fun w45 o45 q46a q46X q46F q46J q46Y q46R => ?_)
        refine h_aload rfl l0 rfl ?_
        refine h_dup rfl rfl ?_
        refine h_getI rfl o45 fi_1_1 (fun b47a b47b => ?_)
        rw [q46F 1 1, hk] at b47a b47b ⊢
        refine h_intv k_1 rfl ?_
        refine h_iadd rfl ?_
        refine x_putI rfl o45 fi_1_1 rfl (by omega) (by omega) (fun w48 o48 q49a q49F q49X q49J q49Y q49R => ?_)
        refine h_iincv k_n8 rfl l0 rfl (fun vl50 l50 => ?_)
        refine h_goto rfl ?_
        exact ih (j + 1) w48 _ (24 - 8 * (j : Int) - 8) (by omega) (by omega) (by rw [q49a]; omega) (fun i hi => by
          rw [q49X 2 i, q46X 2 i (fun _ => by omega)]
          exact hX i hi) (fun i hi => by
          rw [q49X 2 (n + i)]
          by_cases e : i = j
          · rw [e, q46a]
            rfl
          · rw [q46X 2 (n + i) (fun _ => by omega)]
            exact hY i (by omega)) o48 l50
theorem e_put9 {kn : sKn} {w0 : sW} {T : Nat → Int} (hw : wOk ZZ w0) (x : Int) (hx : R32 x) (n : Nat) (hn : n + 4 ≤ 940) (hk : gF w0 1 1 = (n : Int)) (hT : ∀ i, i < n → gX w0 2 i = T i) : ∃ w', fX9_put kn [.ref 1, hI x] w0 = some (none, w', 0, 0) ∧ hO dX9_put w0 w' ∧ gF w' 1 1 = ((n + 4 : Nat) : Int) ∧ ∀ i, i < n + 4 → gX w' 2 i = fbx T n x i := by
  have K : Tp (tX9_put kn) (fun r => ∃ w', r = (none, w', 0, 0) ∧ hO dX9_put w0 w' ∧ gF w' 1 1 = ((n + 4 : Nat) : Int) ∧ (∀ i, i < n → gX w' 2 i = gX w0 2 i) ∧ ∀ i, i < 4 → gX w' 2 (n + i) = zBt x (24 - 8 * (i : Int))) 0 (lv_args 0 [.ref 1, hI x], [], w0, 0, 0) := by
    have l0 : hL (lv_args 0 [.ref 1, hI x]) (lv_args 0 [.ref 1, hI x]) := hL_ex rfl
    have o0 : hO dX9_put w0 w0 := hO_rf hw
    refine h_intv k_24 rfl ?_
    refine h_istore rfl l0 (fun v1 l1 => ?_)
    exact e_put9_l hx hn 4 0 w0 _ 24 rfl (by omega) (by rw [hk]; omega) (fun i hi => rfl) (fun i hi => by omega) o0 l1
  obtain ⟨r, h1, w2, h2, h3, h4, h5, h6⟩ := h_meth1 (nL := 3) rfl K
  rw [h2] at h1
  refine ⟨w2, h1, h3, h4, fun i hi => ?_⟩
  unfold fbx
  by_cases c : n ≤ i ∧ i < n + 4
  · rw [if_pos c]
    obtain ⟨d, hd⟩ : ∃ d : Nat, i = n + d := ⟨i - n, by omega⟩
    subst hd
    rw [h6 d (by omega), show n + d - n = d by omega]
  · rw [if_neg c, h5 i (by omega)]
    exact hT i (by omega)
theorem e_come_l {kn : sKn} {w0 : sW} {x : Int} {n : Nat} (hx : R32 x) (hn : n + 4 ≤ 940) : ∀ (m j : Nat) (w : sW) (lv : List (Nat × Value)) (z : Int), j + m = 4 → z = 24 - 8 * (j : Int) → gF w 213 2 = ((n + j : Nat) : Int) → (∀ i, i < n → gX w 214 i = gX w0 214 i) → (∀ i, i < j → gX w 214 (n + i) = zBt x (24 - 8 * (i : Int))) → hO dX12_come w0 w → hL lv [(0, .ref 213), (1, hI x), (2, hI z)] → Tp (tX12_come kn) (fun r => ∃ w', r = (none, w', 0, 0) ∧ hO dX12_come w0 w' ∧ gF w' 213 2 = ((n + 4 : Nat) : Int) ∧ (∀ i, i < n → gX w' 214 i = gX w0 214 i) ∧ ∀ i, i < 4 → gX w' 214 (n + i) = zBt x (24 - 8 * (i : Int))) 3 (lv, [], w, 0, 0) := by
  have hx1 := hx.1
  have hx2 := hx.2
  intro m
  induction m with
  | zero =>
    intro j w lv z hjm hz hk hX hY o0 l0
    subst hz
    refine h_iload rfl l0 rfl ?_
    refine j_lt (kn := kn) (t := 2) (tgt := 39) (np := 7) rfl (by unfold R32; omega) (fun e41 => ?_) (fun e41 => ?_)
    · refine h_vret rfl ?_
      exact ⟨_, rfl, o0, by rw [hk]; omega, hX, fun i hi => hY i (by omega)⟩
    · omega
  | succ m ih =>
    intro j w lv z hjm hz hk hX hY o0 l0
    subst hz
    refine h_iload rfl l0 rfl ?_
    refine j_lt (kn := kn) (t := 2) (tgt := 39) (np := 7) rfl (by unfold R32; omega) (fun e41 => ?_) (fun e41 => ?_)
    · omega
    · refine h_aload rfl l0 rfl ?_
      refine h_getR rfl o0 fr_1 ?_
      refine h_aload rfl l0 rfl ?_
      refine h_getI rfl o0 fi_2 (fun b42a b42b => ?_)
      rw [hk] at b42a b42b ⊢
      refine h_iload rfl l0 rfl ?_
      refine h_iload rfl l0 rfl ?_
      refine x_iushr rfl ?_
      refine h_intv k_255 rfl ?_
      refine x_iand rfl ?_
      refine x_iast (n + j) rfl o0 ai_214 rfl rfl aw_214 (by omega) (by omega) (by omega) (by omega) (zBt_b _ _).1 (zBt_b _ _).2 (zAnd_R _ _) (fun w43 o43 q44a q44X q44F q44J q44Y q44R => ?_)
      refine h_aload rfl l0 rfl ?_
      refine h_dup rfl rfl ?_
      refine h_getI rfl o43 fi_2 (fun b45a b45b => ?_)
      rw [q44F 213 2, hk] at b45a b45b ⊢
      refine h_intv k_1 rfl ?_
      refine h_iadd rfl ?_
      refine x_putI rfl o43 fi_2 rfl (by omega) (by omega) (fun w46 o46 q47a q47F q47X q47J q47Y q47R => ?_)
      refine h_iincv k_n8 rfl l0 rfl (fun vl48 l48 => ?_)
      refine h_goto rfl ?_
      exact ih (j + 1) w46 _ (24 - 8 * (j : Int) - 8) (by omega) (by omega) (by rw [q47a]; omega) (fun i hi => by
        rw [q47X 214 i, q44X 214 i (fun _ => by omega)]
        exact hX i hi) (fun i hi => by
        rw [q47X 214 (n + i)]
        by_cases e : i = j
        · rw [e, q44a]
          rfl
        · rw [q44X 214 (n + i) (fun _ => by omega)]
          exact hY i (by omega)) o46 l48
theorem e_come {kn : sKn} {w0 : sW} {T : Nat → Int} (hw : wOk ZZ w0) (x : Int) (hx : R32 x) (n : Nat) (hn : n + 4 ≤ 940) (hk : gF w0 213 2 = (n : Int)) (hT : ∀ i, i < n → gX w0 214 i = T i) : ∃ w', fX12_come kn [.ref 213, hI x] w0 = some (none, w', 0, 0) ∧ hO dX12_come w0 w' ∧ gF w' 213 2 = ((n + 4 : Nat) : Int) ∧ ∀ i, i < n + 4 → gX w' 214 i = fbx T n x i := by
  have K : Tp (tX12_come kn) (fun r => ∃ w', r = (none, w', 0, 0) ∧ hO dX12_come w0 w' ∧ gF w' 213 2 = ((n + 4 : Nat) : Int) ∧ (∀ i, i < n → gX w' 214 i = gX w0 214 i) ∧ ∀ i, i < 4 → gX w' 214 (n + i) = zBt x (24 - 8 * (i : Int))) 0 (lv_args 0 [.ref 213, hI x], [], w0, 0, 0) := by
    have l0 : hL (lv_args 0 [.ref 213, hI x]) (lv_args 0 [.ref 213, hI x]) := hL_ex rfl
    have o0 : hO dX12_come w0 w0 := hO_rf hw
    refine h_intv k_24 rfl ?_
    refine h_istore rfl l0 (fun v1 l1 => ?_)
    exact e_come_l hx hn 4 0 w0 _ 24 rfl (by omega) (by rw [hk]; omega) (fun i hi => rfl) (fun i hi => by omega) o0 l1
  obtain ⟨r, h1, w2, h2, h3, h4, h5, h6⟩ := h_meth1 (nL := 3) rfl K
  rw [h2] at h1
  refine ⟨w2, h1, h3, h4, fun i hi => ?_⟩
  unfold fbx
  by_cases c : n ≤ i ∧ i < n + 4
  · rw [if_pos c]
    obtain ⟨d, hd⟩ : ∃ d : Nat, i = n + d := ⟨i - n, by omega⟩
    subst hd
    rw [h6 d (by omega), show n + d - n = d by omega]
  · rw [if_neg c, h5 i (by omega)]
    exact hT i (by omega)
theorem ps_put9 : msub dX9_put dX11_feed = true := by decide +kernel
theorem ps_come : msub dX12_come dX12_feed = true := by decide +kernel
theorem e_feedC {kn : sKn} {w0 : sW} {T : Nat → Int} {n : Nat} (hw : wOk ZZ w0) {x1 : Int} (hx1 : R32 x1) {x2 : Int} (hx2 : R32 x2) {x3 : Int} (hx3 : R32 x3) {x4 : Int} (hx4 : R32 x4) {x5 : Int} (hx5 : R32 x5) (hk : gF w0 1 1 = (n : Int)) (hT : ∀ i, i < n → gX w0 2 i = T i) : ∃ (w' : sW) (v : Int), fX11_feed kn [.ref 0, hI x1, hI x2, hI x3, hI x4, hI x5] w0 = some (some (hI v), w', 0, 0) ∧ ((940 < n + 20 ∧ ∀ i, i < n → gX w' 2 i = T i) ∨ (n + 20 ≤ 940 ∧ ∀ i, i < n + 20 → gX w' 2 i = (fbx (fbx (fbx (fbx (fbx T n x1) (n + 4) x2) (n + 8) x3) (n + 12) x4) (n + 16) x5) i)) := by
  have hn940 : n ≤ 940 := by
    obtain ⟨_, _, _, _, _, _, _, g1, g2⟩ := fI_ok (hO_rf (D := []) hw) fi_1_1
    omega
  have K : Tp (tX11_feed kn) (fun r => ∃ (w' : sW) (v : Int), r = (some (hI v), w', 0, 0) ∧ ((940 < n + 20 ∧ ∀ i, i < n → gX w' 2 i = T i) ∨ (n + 20 ≤ 940 ∧ ∀ i, i < n + 20 → gX w' 2 i = (fbx (fbx (fbx (fbx (fbx T n x1) (n + 4) x2) (n + 8) x3) (n + 12) x4) (n + 16) x5) i))) 0 (lv_args 0 [.ref 0, hI x1, hI x2, hI x3, hI x4, hI x5], [], w0, 0, 0) := by
    have l0 : hL (lv_args 0 [.ref 0, hI x1, hI x2, hI x3, hI x4, hI x5]) (lv_args 0 [.ref 0, hI x1, hI x2, hI x3, hI x4, hI x5]) := hL_ex rfl
    have o0 : hO dX11_feed w0 w0 := hO_rf hw
    refine h_aload rfl l0 rfl ?_
    refine h_getR rfl o0 nfr_0_0 ?_
    refine h_getI rfl o0 fi_1_1 (fun b41a b41b => ?_)
    rw [hk] at b41a b41b ⊢
    refine h_intv k_20 rfl ?_
    refine h_iadd rfl ?_
    refine h_intv k_940 rfl ?_
    refine i_le (kn := kn) (t := 5) (tgt := 18) (np := 16) rfl (by unfold R32; omega) (by unfold R32; omega) (fun e42 => ?_) (fun e42 => ?_)
    · refine h_aload rfl l0 rfl ?_
      refine h_getR rfl o0 nfr_0_0 ?_
      refine h_iload rfl l0 rfl ?_
      obtain ⟨wc1, hf43, oc1', hg1, hb1⟩ := e_put9 (kn := kn) (T := T) o0.1 x1 hx1 n (by omega) (by rw [hk]) (fun i hi => by rw [hT i hi])
      have oc1 := hO_tr o0 (hO_mono ps_put9 oc1')
      refine h_W2 rfl o0 l0 ci_1 rfl rfl hf43 ?_
      refine h_aload rfl l0 rfl ?_
      refine h_getR rfl oc1 nfr_0_0 ?_
      refine h_iload rfl l0 rfl ?_
      obtain ⟨wc2, hf44, oc2', hg2, hb2⟩ := e_put9 (kn := kn) (T := (fbx T n x1)) oc1.1 x2 hx2 (n + 4) (by omega) (by rw [hg1]) hb1
      have oc2 := hO_tr oc1 (hO_mono ps_put9 oc2')
      refine h_W2 rfl oc1 l0 ci_1 rfl rfl hf44 ?_
      refine h_aload rfl l0 rfl ?_
      refine h_getR rfl oc2 nfr_0_0 ?_
      refine h_iload rfl l0 rfl ?_
      obtain ⟨wc3, hf45, oc3', hg3, hb3⟩ := e_put9 (kn := kn) (T := (fbx (fbx T n x1) (n + 4) x2)) oc2.1 x3 hx3 (n + 8) (by omega) (by rw [hg2]) hb2
      have oc3 := hO_tr oc2 (hO_mono ps_put9 oc3')
      refine h_W2 rfl oc2 l0 ci_1 rfl rfl hf45 ?_
      refine h_aload rfl l0 rfl ?_
      refine h_getR rfl oc3 nfr_0_0 ?_
      refine h_iload rfl l0 rfl ?_
      obtain ⟨wc4, hf46, oc4', hg4, hb4⟩ := e_put9 (kn := kn) (T := (fbx (fbx (fbx T n x1) (n + 4) x2) (n + 8) x3)) oc3.1 x4 hx4 (n + 12) (by omega) (by rw [hg3]) hb3
      have oc4 := hO_tr oc3 (hO_mono ps_put9 oc4')
      refine h_W2 rfl oc3 l0 ci_1 rfl rfl hf46 ?_
      refine h_aload rfl l0 rfl ?_
      refine h_getR rfl oc4 nfr_0_0 ?_
      refine h_iload rfl l0 rfl ?_
      obtain ⟨wc5, hf47, oc5', hg5, hb5⟩ := e_put9 (kn := kn) (T := (fbx (fbx (fbx (fbx T n x1) (n + 4) x2) (n + 8) x3) (n + 12) x4)) oc4.1 x5 hx5 (n + 16) (by omega) (by rw [hg4]) hb4
      have oc5 := hO_tr oc4 (hO_mono ps_put9 oc5')
      refine h_W2 rfl oc4 l0 ci_1 rfl rfl hf47 ?_
      refine h_aload rfl l0 rfl ?_
      refine h_getR rfl oc5 nfr_0_0 ?_
      refine h_getI rfl oc5 fi_1_1 (fun b48a b48b => ?_)
      rw [hg5] at b48a b48b ⊢
      refine h_iret rfl ?_
      exact ⟨_, _, rfl, Or.inr ⟨by omega, hb5⟩⟩
    · refine h_intv k_n1 rfl ?_
      refine h_iret rfl ?_
      exact ⟨_, _, rfl, Or.inl ⟨by omega, fun i hi => by rw [hT i hi]⟩⟩
  obtain ⟨r, h1, w2, v, h2, h3⟩ := h_meth1 (nL := 6) rfl K
  rw [h2] at h1
  exact ⟨w2, v, h1, h3⟩
theorem e_feedR {kn : sKn} {w0 : sW} {T : Nat → Int} {n : Nat} (hw : wOk ZZ w0) {x1 : Int} (hx1 : R32 x1) {x2 : Int} (hx2 : R32 x2) {x3 : Int} (hx3 : R32 x3) {x4 : Int} (hx4 : R32 x4) {x5 : Int} (hx5 : R32 x5) (hk : gF w0 213 2 = (n : Int)) (hT : ∀ i, i < n → gX w0 214 i = T i) : ∃ (w' : sW) (v : Int), fX12_feed kn [.ref 213, hI x1, hI x2, hI x3, hI x4, hI x5] w0 = some (some (hI v), w', 0, 0) ∧ ((940 < n + 20 ∧ ∀ i, i < n → gX w' 214 i = T i) ∨ (n + 20 ≤ 940 ∧ ∀ i, i < n + 20 → gX w' 214 i = (fbx (fbx (fbx (fbx (fbx T n x1) (n + 4) x2) (n + 8) x3) (n + 12) x4) (n + 16) x5) i)) := by
  have hn940 : n ≤ 940 := by
    obtain ⟨_, _, _, _, _, _, _, g1, g2⟩ := fI_ok (hO_rf (D := []) hw) fi_2
    omega
  have K : Tp (tX12_feed kn) (fun r => ∃ (w' : sW) (v : Int), r = (some (hI v), w', 0, 0) ∧ ((940 < n + 20 ∧ ∀ i, i < n → gX w' 214 i = T i) ∨ (n + 20 ≤ 940 ∧ ∀ i, i < n + 20 → gX w' 214 i = (fbx (fbx (fbx (fbx (fbx T n x1) (n + 4) x2) (n + 8) x3) (n + 12) x4) (n + 16) x5) i))) 0 (lv_args 0 [.ref 213, hI x1, hI x2, hI x3, hI x4, hI x5], [], w0, 0, 0) := by
    have l0 : hL (lv_args 0 [.ref 213, hI x1, hI x2, hI x3, hI x4, hI x5]) (lv_args 0 [.ref 213, hI x1, hI x2, hI x3, hI x4, hI x5]) := hL_ex rfl
    have o0 : hO dX12_feed w0 w0 := hO_rf hw
    refine h_aload rfl l0 rfl ?_
    refine h_intv k_0 rfl ?_
    refine x_putI rfl o0 fi_0 rfl (by omega) (by omega) (fun w41 o41 q42a q42F q42X q42J q42Y q42R => ?_)
    refine h_aload rfl l0 rfl ?_
    refine h_getI rfl o41 fi_2 (fun b43a b43b => ?_)
    rw [q42F 213 2 (by decide), hk] at b43a b43b ⊢
    refine h_intv k_20 rfl ?_
    refine h_iadd rfl ?_
    refine h_intv k_940 rfl ?_
    refine i_le (kn := kn) (t := 5) (tgt := 20) (np := 18) rfl (by unfold R32; omega) (by unfold R32; omega) (fun e44 => ?_) (fun e44 => ?_)
    · refine h_aload rfl l0 rfl ?_
      refine h_iload rfl l0 rfl ?_
      obtain ⟨wc1, hf45, oc1', hg1, hb1⟩ := e_come (kn := kn) (T := T) o41.1 x1 hx1 n (by omega) (by rw [q42F 213 2 (by decide), hk]) (fun i hi => by rw [q42X 214 i, hT i hi])
      have oc1 := hO_tr o41 (hO_mono ps_come oc1')
      refine h_W2 rfl o41 l0 ci_213 rfl rfl hf45 ?_
      refine h_aload rfl l0 rfl ?_
      refine h_iload rfl l0 rfl ?_
      obtain ⟨wc2, hf46, oc2', hg2, hb2⟩ := e_come (kn := kn) (T := (fbx T n x1)) oc1.1 x2 hx2 (n + 4) (by omega) (by rw [hg1]) hb1
      have oc2 := hO_tr oc1 (hO_mono ps_come oc2')
      refine h_W2 rfl oc1 l0 ci_213 rfl rfl hf46 ?_
      refine h_aload rfl l0 rfl ?_
      refine h_iload rfl l0 rfl ?_
      obtain ⟨wc3, hf47, oc3', hg3, hb3⟩ := e_come (kn := kn) (T := (fbx (fbx T n x1) (n + 4) x2)) oc2.1 x3 hx3 (n + 8) (by omega) (by rw [hg2]) hb2
      have oc3 := hO_tr oc2 (hO_mono ps_come oc3')
      refine h_W2 rfl oc2 l0 ci_213 rfl rfl hf47 ?_
      refine h_aload rfl l0 rfl ?_
      refine h_iload rfl l0 rfl ?_
      obtain ⟨wc4, hf48, oc4', hg4, hb4⟩ := e_come (kn := kn) (T := (fbx (fbx (fbx T n x1) (n + 4) x2) (n + 8) x3)) oc3.1 x4 hx4 (n + 12) (by omega) (by rw [hg3]) hb3
      have oc4 := hO_tr oc3 (hO_mono ps_come oc4')
      refine h_W2 rfl oc3 l0 ci_213 rfl rfl hf48 ?_
      refine h_aload rfl l0 rfl ?_
      refine h_iload rfl l0 rfl ?_
      obtain ⟨wc5, hf49, oc5', hg5, hb5⟩ := e_come (kn := kn) (T := (fbx (fbx (fbx (fbx T n x1) (n + 4) x2) (n + 8) x3) (n + 12) x4)) oc4.1 x5 hx5 (n + 16) (by omega) (by rw [hg4]) hb4
      have oc5 := hO_tr oc4 (hO_mono ps_come oc5')
      refine h_W2 rfl oc4 l0 ci_213 rfl rfl hf49 ?_
      refine h_aload rfl l0 rfl ?_
      refine h_getI rfl oc5 fi_2 (fun b50a b50b => ?_)
      rw [hg5] at b50a b50b ⊢
      refine h_iret rfl ?_
      exact ⟨_, _, rfl, Or.inr ⟨by omega, hb5⟩⟩
    · refine h_intv k_n1 rfl ?_
      refine h_iret rfl ?_
      exact ⟨_, _, rfl, Or.inl ⟨by omega, fun i hi => by rw [q42X 214 i, hT i hi]⟩⟩
  obtain ⟨r, h1, w2, v, h2, h3⟩ := h_meth1 (nL := 6) rfl K
  rw [h2] at h1
  exact ⟨w2, v, h1, h3⟩
end
