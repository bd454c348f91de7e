noncomputable section
section HK
variable {tbl : List (Nat × sA)} {Po : sR → Prop} {pc np : Nat} {lv ps : List (Nat × Value)} {st : List Value} {w w0 : sW} {D : List (Nat × Nat)} {kn : sKn}
theorem h_gets {h : Nat} (ha : t_get tbl pc = some (a_gets h np)) (g : Tp tbl Po np (lv, .ref h :: st, w, 0, 0)) : Tp tbl Po pc (lv, st, w, 0, 0) := Tp_step ha (fun _ => rfl) g
theorem h_getsI {v : Int32} {z : Int} (hv : v = Int32.ofInt z) (ha : t_get tbl pc = some (a_getsI v np)) (g : Tp tbl Po np (lv, hI z :: st, w, 0, 0)) : Tp tbl Po pc (lv, st, w, 0, 0) := by
  subst hv
  exact Tp_step ha (fun _ => rfl) g
theorem h_strK {v : Value} (ha : t_get tbl pc = some (a_strfK v np)) (g : Tp tbl Po np (lv, v :: st, w, 0, 0)) : Tp tbl Po pc (lv, .ref 1000004 :: st, w, 0, 0) := Tp_step ha (fun _ => rfl) g
theorem h_alenK (ha : t_get tbl pc = some (a_alenSK np)) (g : Tp tbl Po np (lv, hI 216 :: st, w, 0, 0)) : Tp tbl Po pc (lv, .ref 1000005 :: st, w, 0, 0) := Tp_step (ss' := (lv, hI 216 :: st, w, 0, 0)) ha (fun k => by
  have e : (216 : Int32) = Int32.ofInt 216 := by decide +kernel
  show k np (lv, .int 216 :: st, w, 0, 0) = _
  rw [e]
  rfl) g
theorem key_b : ∀ j < 216, ∃ b < 256, keyB[j]? = some (Int32.ofInt (b : Nat)) ∧ ((Int32.ofInt (Int32.ofInt (b : Nat) &&& Int32.ofInt 255).toInt).toUInt32 % 65536).toInt32 = Int32.ofInt (b : Nat) ∧ ixN (Int32.ofInt (b : Nat)) < 256 := by decide +kernel
theorem h_baldK {b j : Nat} (hj : keyB[j]? = some (Int32.ofInt (b : Int))) (hb : j < 216) (ha : t_get tbl pc = some (a_baldK np)) (g : Tp tbl Po np (lv, hI b :: st, w, 0, 0)) : Tp tbl Po pc (lv, hI (j : Int) :: .ref 1000005 :: st, w, 0, 0) := Tp_step (ss' := (lv, hI b :: st, w, 0, 0)) ha (fun k => by
  have e := ixN_hI (i := (j : Int)) (by omega) (by omega)
  rw [show (j : Int).toNat = j by omega] at e
  have e3 : Nat.blt j 2147483648 = true := Nat.blt_eq.mpr (by omega)
  show a_baldK np k (lv, Value.int (Int32.ofInt (j : Int)) :: .ref 1000005 :: st, w, 0, 0) = _
  simp only [a_baldK, e, e3, xg_eq, hj]
  rfl) g
theorem h_i2c {a : Int} (ha : t_get tbl pc = some (a_stk q_i2c np)) (g : Tp tbl Po np (lv, hI (((Int32.ofInt a).toUInt32 % 65536).toInt32).toInt :: st, w, 0, 0)) : Tp tbl Po pc (lv, hI a :: st, w, 0, 0) := Tp_step (ss' := (lv, hI (((Int32.ofInt a).toUInt32 % 65536).toInt32).toInt :: st, w, 0, 0)) ha (fun k => by
  rw [← hI_of]
  rfl) g
theorem h_cret {z : Int} (hz : ixN (Int32.ofInt z) < 256) (ha : t_get tbl pc = some a_cret) (g : Po (some (hI z), w, 0, 0)) : Tp tbl Po pc (lv, [hI z], w, 0, 0) := Tp_ret ha (fun _ => by
  have e : Nat.blt (ixN (Int32.ofInt z)) 256 = true := Nat.blt_eq.mpr hz
  show a_cret _ (lv, [Value.int (Int32.ofInt z)], w, 0, 0) = _
  simp only [a_cret, e]
  rfl) g
theorem h_SV2 {f : List Value → sW → Option sR} {x1 x2 : Value} {w' : sW} (ha : t_get tbl pc = some (a_callS true f 2 np)) (ho : hO D w0 w) (hl : hL lv ps) (h2 : Nat.ble (st.map fun v => v.category).sum 8 = true) (h3 : xa (wfV 241) st = true) (hf : f [x1, x2] w = some (none, w', 0, 0)) (g : Tp tbl Po np (lv, st, w', 0, 0)) : Tp tbl Po pc (lv, x2 :: x1 :: st, w, 0, 0) := h_callSg (na := 2) (r := none) (Nat.ble_eq.mpr (by simp)) h2 h3 rfl ha ho hl hf g
theorem h_VK1 {f : List Value → sW → Option sR} {v : Value} {w' : sW} (ha : t_get tbl pc = some (a_callVSK false f 1 np)) (ho : hO D w0 w) (hl : hL lv ps) (h2 : Nat.ble (st.map fun v => v.category).sum 8 = true) (h3 : xa (wfV 241) st = true) (hf : f [.ref 1000004] w = some (some v, w', 0, 0)) (g : Tp tbl Po np (lv, v :: st, w', 0, 0)) : Tp tbl Po pc (lv, .ref 1000004 :: st, w, 0, 0) := by
  refine Tp_step ha (fun k => ?_) g
  show (match c_ok (lv, .ref 1000004 :: st, w, 0, 0) 1 with
    | true => a_back false k np lv st 0 0 (f [.ref 1000004] w)
    | false => none) = _
  rw [c_ok_h (na := 1) (stk := .ref 1000004 :: st) ho hl (Nat.ble_eq.mpr (by simp)) h2 h3, hf]
  rfl
end HK
theorem s_pchk0 {kn : sKn} {w : sW} (hw : wOk ZZ w) (j : Nat) (hj : j < 216) : fJ3_checkIndex_8e157 kn [hI j, hI 216, .null] w = some (some (hI j), w, 0, 0) := by
  have K : Tp (tJ3_checkIndex_8e157 kn) (fun r => r = (some (hI (j : Int)), w, 0, 0)) 0 (lv_args 0 [hI j, hI 216, .null], [], w, 0, 0) := by
    have l0 : hL (lv_args 0 [hI j, hI 216, .null]) (lv_args 0 [hI j, hI 216, .null]) := hL_ex rfl
    refine h_iload rfl l0 rfl ?_
    refine j_lt (kn := kn) (t := 2) (tgt := 9) (np := 4) rfl (by unfold R32; omega) (fun e1 => ?_) (fun e1 => ?_)
    · omega
    · refine h_iload rfl l0 rfl ?_
      refine h_iload rfl l0 rfl ?_
      refine i_lt (kn := kn) (t := 2) (tgt := 16) (np := 9) rfl (by unfold R32; omega) (by unfold R32; omega) (fun e2 => ?_) (fun e2 => ?_)
      · refine h_iload rfl l0 rfl ?_
        exact h_iret rfl rfl
      · omega
  obtain ⟨r, h1, h2⟩ := h_meth1 (nL := 3) rfl K
  rw [h2] at h1
  exact h1
theorem s_pchk1 {kn : sKn} {w : sW} (hw : wOk ZZ w) (j : Nat) (hj : j < 216) : fJ3_checkIndex_8e157 kn [hI j, hI 216, .ref 1000006] w = some (some (hI j), w, 0, 0) := by
  have K : Tp (tJ3_checkIndex_8e157 kn) (fun r => r = (some (hI (j : Int)), w, 0, 0)) 0 (lv_args 0 [hI j, hI 216, .ref 1000006], [], w, 0, 0) := by
    have l0 : hL (lv_args 0 [hI j, hI 216, .ref 1000006]) (lv_args 0 [hI j, hI 216, .ref 1000006]) := hL_ex rfl
    refine h_iload rfl l0 rfl ?_
    refine j_lt (kn := kn) (t := 2) (tgt := 9) (np := 4) rfl (by unfold R32; omega) (fun e1 => ?_) (fun e1 => ?_)
    · omega
    · refine h_iload rfl l0 rfl ?_
      refine h_iload rfl l0 rfl ?_
      refine i_lt (kn := kn) (t := 2) (tgt := 16) (np := 9) rfl (by unfold R32; omega) (by unfold R32; omega) (fun e2 => ?_) (fun e2 => ?_)
      · refine h_iload rfl l0 rfl ?_
        exact h_iret rfl rfl
      · omega
  obtain ⟨r, h1, h2⟩ := h_meth1 (nL := 3) rfl K
  rw [h2] at h1
  exact h1
theorem s_pchk {kn : sKn} {w : sW} (hw : wOk ZZ w) (j : Nat) (hj : j < 216) : fJ3_checkIndex_8e157 kn [hI j, hI 216, siV kn] w = some (some (hI j), w, 0, 0) := by
  rcases siV_or kn with e | e
  · rw [e]
    exact s_pchk0 hw j hj
  · rw [e]
    exact s_pchk1 hw j hj
theorem s_chk {kn : sKn} {w : sW} (hw : wOk ZZ w) (j : Nat) (hj : j < 216) : fJ0_checkIndex_df160 kn [hI j, hI 216] w = some (none, w, 0, 0) := by
  have K : Tp (tJ0_checkIndex_df160 kn) (fun r => r = (none, w, 0, 0)) 0 (lv_args 0 [hI j, hI 216], [], w, 0, 0) := by
    have l0 : hL (lv_args 0 [hI j, hI 216]) (lv_args 0 [hI j, hI 216]) := hL_ex rfl
    have o0 : hO [] w w := hO_rf hw
    refine h_iload rfl l0 rfl ?_
    refine h_iload rfl l0 rfl ?_
    refine Tp_step rfl (fun _ => rfl) ?_
    refine h_S3 rfl o0 l0 rfl rfl (s_pchk hw j hj) ?_
    refine h_pop rfl rfl ?_
    exact h_vret rfl rfl
  obtain ⟨r, h1, h2⟩ := h_meth1 (nL := 2) rfl K
  rw [h2] at h1
  exact h1
theorem s_chr1 {kn : sKn} {w : sW} (hw : wOk ZZ w) (j : Nat) (hj : j < 216) : ∃ b : Nat, fJ1_charAt_3b067 kn [.ref 1000005, hI j] w = some (some (hI b), w, 0, 0) ∧ b < 256 := by
  obtain ⟨b, b1, b2, b3, b4⟩ := key_b j hj
  have K : Tp (tJ1_charAt_3b067 kn) (fun r => r = (some (hI (b : Int)), w, 0, 0)) 0 (lv_args 0 [.ref 1000005, hI j], [], w, 0, 0) := by
    have l0 : hL (lv_args 0 [.ref 1000005, hI j]) (lv_args 0 [.ref 1000005, hI j]) := hL_ex rfl
    have o0 : hO [] w w := hO_rf hw
    refine h_iload rfl l0 rfl ?_
    refine h_aload rfl l0 rfl ?_
    refine h_alenK rfl ?_
    refine h_SV2 rfl o0 l0 rfl rfl (s_chk hw j hj) ?_
    refine h_aload rfl l0 rfl ?_
    refine h_iload rfl l0 rfl ?_
    refine h_baldK b2 hj rfl ?_
    refine h_intv k_255 rfl ?_
    refine h_iand rfl ?_
    refine h_i2c rfl ?_
    rw [b3, ← hI_of]
    exact h_cret b4 rfl rfl
  obtain ⟨r, h1, h2⟩ := h_meth1 (nL := 2) rfl K
  rw [h2] at h1
  exact ⟨b, h1, b1⟩
theorem s_lat {kn : sKn} {w : sW} (hw : wOk ZZ w) : fJ0_isLatin1_aae02 kn [.ref 1000004] w = some (some (hI 1), w, 0, 0) := by
  have K : Tp (tJ0_isLatin1_aae02 kn) (fun r => r = (some (hI 1), w, 0, 0)) 0 (lv_args 0 [.ref 1000004], [], w, 0, 0) := by
    have l0 : hL (lv_args 0 [.ref 1000004]) (lv_args 0 [.ref 1000004]) := hL_ex rfl
    refine h_getsI k_1 rfl ?_
    refine j_eq (kn := kn) (t := 0) (tgt := 17) (np := 6) rfl (by unfold R32; omega) (fun e1 => ?_) (fun e1 => ?_)
    · omega
    · refine h_aload rfl l0 rfl ?_
      refine h_strK rfl ?_
      rw [show Value.int 0 = hI 0 from congrArg Value.int k_0]
      refine j_ne (kn := kn) (t := 1) (tgt := 17) (np := 13) rfl (by unfold R32; omega) (fun e2 => ?_) (fun e2 => ?_)
      · omega
      · refine h_intv k_1 rfl ?_
        refine h_goto rfl ?_
        exact h_zret (Or.inr rfl) rfl rfl
  obtain ⟨r, h1, h2⟩ := h_meth1 (nL := 1) rfl K
  rw [h2] at h1
  exact h1
theorem byte_ix : ∀ b < 256, ixN (Int32.ofInt (b : Nat)) < 256 := by decide +kernel
theorem s_charAt {kn : sKn} {w : sW} (hw : wOk ZZ w) (j : Nat) (hj : j < 216) : ∃ b : Nat, fJ0_charAt_5068e kn [.ref 1000004, hI j] w = some (some (hI b), w, 0, 0) ∧ b < 256 := by
  obtain ⟨b, hf, hb⟩ := s_chr1 (kn := kn) hw j hj
  have K : Tp (tJ0_charAt_5068e kn) (fun r => r = (some (hI (b : Int)), w, 0, 0)) 0 (lv_args 0 [.ref 1000004, hI j], [], w, 0, 0) := by
    have l0 : hL (lv_args 0 [.ref 1000004, hI j]) (lv_args 0 [.ref 1000004, hI j]) := hL_ex rfl
    have o0 : hO [] w w := hO_rf hw
    refine h_aload rfl l0 rfl ?_
    refine h_VK1 rfl o0 l0 rfl rfl (s_lat hw) ?_
    refine j_eq (kn := kn) (t := 0) (tgt := 16) (np := 7) rfl (by unfold R32; omega) (fun e1 => ?_) (fun e1 => ?_)
    · omega
    · refine h_aload rfl l0 rfl ?_
      refine h_strK rfl ?_
      refine h_iload rfl l0 rfl ?_
      refine h_S2 rfl o0 l0 rfl rfl hf ?_
      exact h_cret (byte_ix b hb) rfl rfl
  obtain ⟨r, h1, h2⟩ := h_meth1 (nL := 2) rfl K
  rw [h2] at h1
  exact ⟨b, h1, hb⟩
def dJ0_charAt_5068e : List (Nat × Nat) := []
def xJ0_charAt_5068e : List eX := [([(2, 0, 1000004), (0, 1, 0)], [], [(1, .inl (0, 215))], 2, [([], [(0, 2, 0)], [], [(2, .inl (0, 255))], 3)])]
theorem con_J0_charAt_5068e (kn : sKn) : Cons ZZ dJ0_charAt_5068e (fJ0_charAt_5068e kn) xJ0_charAt_5068e := Cons_c (by
  intro σ0 av w hN h0 hS hM hE hw hwf
  have hS : gS σ0 [(2, 0, 1000004), (0, 1, 0)] av := hS
  obtain ⟨v1, st1, rfl, ⟨z1, e1, e2⟩, hS1⟩ := gS_1 hS
  obtain ⟨v2, st2, rfl, ⟨z2, e3, e4⟩, hS2⟩ := gS_1 hS1
  rw [gS_0 hS2] at hwf ⊢
  rw [h0] at e1
  cases e1
  obtain ⟨k, rfl, hk⟩ := e2
  have hk : (k : Int) = 0 + 1000004 := hk
  have hk2 : k = 1000004 := by omega
  subst hk2
  obtain ⟨rfl, r2⟩ := vOk_hI e4
  obtain ⟨z3, e6, e7⟩ := hE (1, .inl (0, 215)) List.mem_cons_self
  have e3 : σ0[1]? = some z2 := e3
  have e6 : σ0[1]? = some z3 := e6
  rw [e3] at e6
  cases e6
  have e7 : 0 ≤ z2 ∧ z2 ≤ 215 := e7
  have e8 : z2 + ((0, 1, 0) : eV).2.2 = z2 := Int.add_zero _
  rw [e8] at r2 ⊢
  obtain ⟨v, f1, f3⟩ := s_charAt (kn := kn) hw z2.toNat (by omega)
  rw [show ((z2.toNat : Nat) : Int) = z2 by omega] at f1
  refine ⟨⟨_, f1⟩, fun r hr' => ?_⟩
  rw [f1] at hr'
  cases hr'
  have e9 : (σ0 ++ [(v : Int)])[2]? = some (v : Int) := by
    have : σ0.length = 2 := hN
    rw [List.getElem?_append_right (by omega), this]
    rfl
  refine ⟨rfl, frOk_rf w, hw, _, List.mem_cons_self, σ0 ++ [(v : Int)], ext_ap σ0 _, by rw [List.length_append]; have : σ0.length = 2 := hN; rw [this]; rfl, ⟨⟨v, e9, ?_⟩, trivial⟩, (fun q hq => by cases hq), fun q hq => ?_⟩
  · have e10 : (v : Int) + ((0, 2, 0) : eV).2.2 = v := Int.add_zero _
    show vOk 0 ((v : Int) + ((0, 2, 0) : eV).2.2) (hI v)
    rw [e10]
    exact hI_vOk ⟨by omega, by omega⟩
  · rcases List.mem_singleton.mp hq with rfl
    exact ⟨v, e9, by show (0 : Int) ≤ v ∧ (v : Int) ≤ 255; omega⟩) Cons_n
def t_callK (Z : eZ) (cm : List (Nat × Nat)) (vd : Bool) (xs : List eX) (na np : Nat) : tA := fun A => match cokA Z A na with
  | true => match (A.2.1.take na).reverse with
    | a :: _ => match Nat.beq a.1 2 with
      | true => match Nat.beq a.2.1 0 with
        | true => match zeq a.2.2 1000004 with
          | true => t_cxs Z cm vd na np A xs
          | false => none
        | false => none
      | false => none
    | [] => none
  | false => none
theorem tr_callK {Z : eZ} {mods cm : List (Nat × Nat)} {f : List Value → sW → Option sR} {vd : Bool} {na np : Nat} {xs : List eX} (hx : Cons Z cm f xs) (hm : msub cm mods = true) : trOk Z mods (a_callVSK vd f na np) (t_callK Z cm vd xs na np) := by
  intro A L h σ w0 ss g
  unfold t_callK at h
  split at h
  · rename_i hc
    split at h
    · rename_i a as hS
      split at h
      · rename_i hk
        split at h
        · rename_i h0
          split at h
          · rename_i hz0
            rw [zeq_iff] at hz0
            obtain ⟨x, x1, x2⟩ := cxs_get h
            refine call_ok (hx x x1) (msub_ok hm) hc x2 g ?_
            have gr := gS_rev (gS_take (n := na) g.2.2.1).1
            rw [hS] at gr
            obtain ⟨v, st', e1, hv, _⟩ := gS_1 gr
            obtain ⟨k, z, rfl, hz, hkz⟩ := avOk_R hv (Nat.eq_of_beq_eq_true hk)
            rw [Nat.eq_of_beq_eq_true h0, g.1.2] at hz
            cases hz
            have : k = 1000004 := by omega
            subst this
            intro r h1 h2 h3 kk
            rw [e1] at h2
            simp only [a_callVSK, h1, e1, h2, a_back, h3]
          · cases h
        · cases h
      · cases h
    · cases h
  · cases h
end
