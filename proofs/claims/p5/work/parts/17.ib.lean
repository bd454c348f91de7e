noncomputable section
def wr (z : Int) : Int := (Int32.ofInt z).toInt
theorem hI_wr (z : Int) : hI z = hI (wr z) := hI_of (Int32.ofInt z)
theorem wr_R (z : Int) : -2147483648 ≤ wr z ∧ wr z ≤ 2147483647 := R32_of _
def hasV (a b : Int) : Int := (Int32.ofInt (Int32.ofInt a >>> (Int32.ofInt b &&& 31)).toInt &&& Int32.ofInt 1).toInt
theorem hasV_R (a b : Int) : -2147483648 ≤ hasV a b ∧ hasV a b ≤ 2147483647 := R32_of _
theorem rem3 : ∀ p < 36, Int32.ofInt (p : Nat) - Int32.ofInt (p : Nat) / Int32.ofInt 3 * Int32.ofInt 3 = Int32.ofInt ((p % 3 : Nat) : Int) := by decide +kernel
theorem ne3 : ¬ Int32.ofInt 3 = 0 := by decide +kernel
theorem h_irem3 {tbl : List (Nat × sA)} {Po : sR → Prop} {pc np : Nat} {lv : List (Nat × Value)} {st : List Value} {w : sW} (p : Nat) (hp : p < 36) (ha : t_get tbl pc = some (a_stk q_irem np)) (g : Tp tbl Po np (lv, hI ((p % 3 : Nat) : Int) :: st, w, 0, 0)) : Tp tbl Po pc (lv, hI 3 :: hI (p : Int) :: st, w, 0, 0) := Tp_step (ss' := (lv, hI ((p % 3 : Nat) : Int) :: st, w, 0, 0)) ha (fun k => by
  show (match (if Int32.ofInt 3 = 0 then none else some (Value.int (Int32.ofInt (p : Int) - Int32.ofInt (p : Int) / Int32.ofInt 3 * Int32.ofInt 3) :: st)) with
    | some st => k np (lv, st, w, 0, 0)
    | none => none) = _
  rw [if_neg ne3, rem3 p hp]
  rfl) g
/-- by now's numbers N, the signers W of the places, the forgers F -/
def besV (N W : Nat → Int) (p q : Nat) : Int := if W q = -1 then 0 else if hasV (N (36 + (W p).toNat)) (W q) = 1 then 5 else 0
def bearV (N W : Nat → Int) (F : Int) (p : Nat) : Int := if W p = -1 then 0 else if hasV F (W p) = 1 then 0 else
  if wr ((if p % 3 < 2 then (if 0 < p % 3 then 10 * N (98 + (W p).toNat) - 5 * N (154 + p) + besV N W p (p - 1) else 10 * N (98 + (W p).toNat) - 5 * N (154 + p)) + besV N W p (p + 1) else (if 0 < p % 3 then 10 * N (98 + (W p).toNat) - 5 * N (154 + p) + besV N W p (p - 1) else 10 * N (98 + (W p).toNat) - 5 * N (154 + p)))) < 0 then 0 else
  wr ((if p % 3 < 2 then (if 0 < p % 3 then 10 * N (98 + (W p).toNat) - 5 * N (154 + p) + besV N W p (p - 1) else 10 * N (98 + (W p).toNat) - 5 * N (154 + p)) + besV N W p (p + 1) else (if 0 < p % 3 then 10 * N (98 + (W p).toNat) - 5 * N (154 + p) + besV N W p (p - 1) else 10 * N (98 + (W p).toNat) - 5 * N (154 + p))))
/-- the sum from place i of the row on, m places, n so far -/
def sumL (N W : Nat → Int) (F : Int) (row : Nat) : Nat → Nat → Int → Int
  | 0, _, n => n
  | m + 1, i, n => if W (3 * row + i) = -1 then -1 else sumL N W F row m (i + 1) (wr (n + bearV N W F (3 * row + i)))
def sumV (N W : Nat → Int) (F : Int) (row k wide : Nat) : Int := if 3 < k + wide then -1 else sumL N W F row wide k 0
def spV (N W : Nat → Int) (F : Int) (row k wide : Nat) (weight : Int) : Int := if k = 3 then (if weight ≤ 9 then 999 else -1) else if sumV N W F row k wide < weight then -1 else wr (sumV N W F row k wide - weight)
theorem s_has {kn : sKn} {w : sW} (hw : wOk ZZ w) (x y : Int) : ∃ b : Int, fX12_has kn [hI x, hI y] w = some (some (hI b), w, 0, 0) ∧ ((b = 0 ∨ b = 1) ∧ (b = 1 ↔ hasV x y = 1)) := by
  have K : Tp (tX12_has kn) (fun r => ∃ b : Int, r = (some (hI b), w, 0, 0) ∧ ((b = 0 ∨ b = 1) ∧ (b = 1 ↔ hasV x y = 1))) 0 (lv_args 0 [hI x, hI y], [], w, 0, 0) := by
    have l0 : hL (lv_args 0 [hI x, hI y]) (lv_args 0 [hI x, hI y]) := hL_ex rfl
    have o0 : hO [] w w := hO_rf hw
    have hv := hasV_R x y
    unfold hasV at hv
    refine h_iload rfl l0 rfl ?_
    refine h_iload rfl l0 rfl ?_
    refine h_ishr rfl ?_
    refine h_intv k_1 rfl ?_
    refine h_iand rfl ?_
    refine h_intv k_1 rfl ?_
    refine i_ne (kn := kn) (t := 1) (tgt := 13) (np := 9) rfl (by unfold R32; omega) (by unfold R32; omega) (fun e1 => ?_) (fun e1 => ?_)
    · refine h_intv k_0 rfl ?_
      refine h_zret (by omega) rfl ?_
      exact ⟨_, rfl, by unfold hasV at *; omega⟩
    · refine h_intv k_1 rfl ?_
      refine h_goto rfl ?_
      refine h_zret (by omega) rfl ?_
      exact ⟨_, rfl, by unfold hasV at *; omega⟩
  obtain ⟨r, h1, b, h2, h3⟩ := h_meth1 (nL := 2) rfl K
  rw [h2] at h1
  exact ⟨b, h1, h3⟩
theorem s_bes {kn : sKn} {w : sW} (hw : wOk ZZ w) (p q : Nat) (hp : p < 36) (hq : q < 36) (hs : gX w 224 p ≠ -1) : fX12_besides kn [.ref 213, hI p, hI q] w = some (some (hI (besV (gX w 215) (gX w 224) p q)), w, 0, 0) := by
  have K : Tp (tX12_besides kn) (fun r => r = (some (hI (besV (gX w 215) (gX w 224) p q)), w, 0, 0)) 0 (lv_args 0 [.ref 213, hI p, hI q], [], w, 0, 0) := by
    have l0 : hL (lv_args 0 [.ref 213, hI p, hI q]) (lv_args 0 [.ref 213, hI p, hI q]) := hL_ex rfl
    have o0 : hO [] w w := hO_rf hw
    refine h_aload rfl l0 rfl ?_
    refine h_getR rfl o0 fr_27 ?_
    refine h_iload rfl l0 rfl ?_
    refine h_ialdj (q) rfl o0 ai_224 rfl (by omega) (by omega) (fun b1a b1b => ?_)
    have b1c := gX_in o0 ai_224 ar_224 (j := q) (by omega) (by omega) (by omega)
    refine h_intv k_n1 rfl ?_
    refine i_eq (kn := kn) (t := 0) (tgt := 40) (np := 10) rfl (by unfold R32; omega) (by unfold R32; omega) (fun e2 => ?_) (fun e2 => ?_)
    · refine h_intv k_0 rfl ?_
      refine h_iret rfl ?_
      have hz : besV (gX w 215) (gX w 224) p q = 0 := by
        unfold besV
        first
          | rw [if_pos (by assumption)]
          | rw [if_neg (by assumption), if_pos (by omega)]
          | rw [if_neg (by assumption), if_neg (by omega)]
      rw [hz]
    · refine h_aload rfl l0 rfl ?_
      refine h_getR rfl o0 fr_14 ?_
      refine h_intv k_36 rfl ?_
      refine h_aload rfl l0 rfl ?_
      refine h_getR rfl o0 fr_27 ?_
      refine h_iload rfl l0 rfl ?_
      refine h_ialdj (p) rfl o0 ai_224 rfl (by omega) (by omega) (fun b3a b3b => ?_)
      have b3c := gX_in o0 ai_224 ar_224 (j := p) (by omega) (by omega) (by omega)
      refine h_iadd rfl ?_
      refine h_ialdj (36 + (gX w 224 p).toNat) rfl o0 ai_215 rfl (by omega) (by omega) (fun b4a b4b => ?_)
      refine h_aload rfl l0 rfl ?_
      refine h_getR rfl o0 fr_27 ?_
      refine h_iload rfl l0 rfl ?_
      refine h_ialdj (q) rfl o0 ai_224 rfl (by omega) (by omega) (fun b5a b5b => ?_)
      obtain ⟨z6, hf6, hz6⟩ := s_has (kn := kn) hw (gX w 215 (36 + (gX w 224 p).toNat)) (gX w 224 (q))
      refine h_S2 rfl o0 l0 rfl rfl hf6 ?_
      refine j_eq (kn := kn) (t := 0) (tgt := 40) (np := 36) rfl (by unfold R32; omega) (fun e7 => ?_) (fun e7 => ?_)
      · refine h_intv k_0 rfl ?_
        refine h_iret rfl ?_
        have hz : besV (gX w 215) (gX w 224) p q = 0 := by
          unfold besV
          first
            | rw [if_pos (by assumption)]
            | rw [if_neg (by assumption), if_pos (by omega)]
            | rw [if_neg (by assumption), if_neg (by omega)]
        rw [hz]
      · refine h_intv k_5 rfl ?_
        refine h_goto rfl ?_
        refine h_iret rfl ?_
        have hz : besV (gX w 215) (gX w 224) p q = 5 := by
          unfold besV
          first
            | rw [if_pos (by assumption)]
            | rw [if_neg (by assumption), if_pos (by omega)]
            | rw [if_neg (by assumption), if_neg (by omega)]
        rw [hz]
  obtain ⟨r, h1, h2⟩ := h_meth1 (nL := 3) rfl K
  rw [h2] at h1
  exact h1
theorem s_bear {kn : sKn} {w : sW} (hw : wOk ZZ w) (p : Nat) (hp : p < 36) : fX12_bearsAt kn [.ref 213, hI p] w = some (some (hI (bearV (gX w 215) (gX w 224) (gF w 213 28) p)), w, 0, 0) := by
  have K : Tp (tX12_bearsAt kn) (fun r => r = (some (hI (bearV (gX w 215) (gX w 224) (gF w 213 28) p)), w, 0, 0)) 0 (lv_args 0 [.ref 213, hI p], [], w, 0, 0) := by
    have l0 : hL (lv_args 0 [.ref 213, hI p]) (lv_args 0 [.ref 213, hI p]) := hL_ex rfl
    have o0 : hO [] w w := hO_rf hw
    have b86 : ∀ lv, hL lv [(0, .ref 213), (1, hI p), (2, hI (gX w 224 p)), (3, hI ((if p % 3 < 2 then (if 0 < p % 3 then 10 * gX w 215 (98 + (gX w 224 p).toNat) - 5 * gX w 215 (154 + p) + besV (gX w 215) (gX w 224) p (p - 1) else 10 * gX w 215 (98 + (gX w 224 p).toNat) - 5 * gX w 215 (154 + p)) + besV (gX w 215) (gX w 224) p (p + 1) else (if 0 < p % 3 then 10 * gX w 215 (98 + (gX w 224 p).toNat) - 5 * gX w 215 (154 + p) + besV (gX w 215) (gX w 224) p (p - 1) else 10 * gX w 215 (98 + (gX w 224 p).toNat) - 5 * gX w 215 (154 + p)))))] → gX w 224 p ≠ -1 → hasV (gF w 213 28) (gX w 224 p) ≠ 1 → Tp (tX12_bearsAt kn) (fun r => r = (some (hI (bearV (gX w 215) (gX w 224) (gF w 213 28) p)), w, 0, 0)) 86 (lv, [], w, 0, 0) := by
      intro lv l0 g1 g2
      have hb : bearV (gX w 215) (gX w 224) (gF w 213 28) p = if wr ((if p % 3 < 2 then (if 0 < p % 3 then 10 * gX w 215 (98 + (gX w 224 p).toNat) - 5 * gX w 215 (154 + p) + besV (gX w 215) (gX w 224) p (p - 1) else 10 * gX w 215 (98 + (gX w 224 p).toNat) - 5 * gX w 215 (154 + p)) + besV (gX w 215) (gX w 224) p (p + 1) else (if 0 < p % 3 then 10 * gX w 215 (98 + (gX w 224 p).toNat) - 5 * gX w 215 (154 + p) + besV (gX w 215) (gX w 224) p (p - 1) else 10 * gX w 215 (98 + (gX w 224 p).toNat) - 5 * gX w 215 (154 + p)))) < 0 then 0 else wr ((if p % 3 < 2 then (if 0 < p % 3 then 10 * gX w 215 (98 + (gX w 224 p).toNat) - 5 * gX w 215 (154 + p) + besV (gX w 215) (gX w 224) p (p - 1) else 10 * gX w 215 (98 + (gX w 224 p).toNat) - 5 * gX w 215 (154 + p)) + besV (gX w 215) (gX w 224) p (p + 1) else (if 0 < p % 3 then 10 * gX w 215 (98 + (gX w 224 p).toNat) - 5 * gX w 215 (154 + p) + besV (gX w 215) (gX w 224) p (p - 1) else 10 * gX w 215 (98 + (gX w 224 p).toNat) - 5 * gX w 215 (154 + p)))) := by
        unfold bearV
        rw [if_neg g1, if_neg g2]
      rw [hI_wr ((if p % 3 < 2 then (if 0 < p % 3 then 10 * gX w 215 (98 + (gX w 224 p).toNat) - 5 * gX w 215 (154 + p) + besV (gX w 215) (gX w 224) p (p - 1) else 10 * gX w 215 (98 + (gX w 224 p).toNat) - 5 * gX w 215 (154 + p)) + besV (gX w 215) (gX w 224) p (p + 1) else (if 0 < p % 3 then 10 * gX w 215 (98 + (gX w 224 p).toNat) - 5 * gX w 215 (154 + p) + besV (gX w 215) (gX w 224) p (p - 1) else 10 * gX w 215 (98 + (gX w 224 p).toNat) - 5 * gX w 215 (154 + p))))] at l0
      have hr := wr_R ((if p % 3 < 2 then (if 0 < p % 3 then 10 * gX w 215 (98 + (gX w 224 p).toNat) - 5 * gX w 215 (154 + p) + besV (gX w 215) (gX w 224) p (p - 1) else 10 * gX w 215 (98 + (gX w 224 p).toNat) - 5 * gX w 215 (154 + p)) + besV (gX w 215) (gX w 224) p (p + 1) else (if 0 < p % 3 then 10 * gX w 215 (98 + (gX w 224 p).toNat) - 5 * gX w 215 (154 + p) + besV (gX w 215) (gX w 224) p (p - 1) else 10 * gX w 215 (98 + (gX w 224 p).toNat) - 5 * gX w 215 (154 + p))))
      rw [hb]
      generalize wr ((if p % 3 < 2 then (if 0 < p % 3 then 10 * gX w 215 (98 + (gX w 224 p).toNat) - 5 * gX w 215 (154 + p) + besV (gX w 215) (gX w 224) p (p - 1) else 10 * gX w 215 (98 + (gX w 224 p).toNat) - 5 * gX w 215 (154 + p)) + besV (gX w 215) (gX w 224) p (p + 1) else (if 0 < p % 3 then 10 * gX w 215 (98 + (gX w 224 p).toNat) - 5 * gX w 215 (154 + p) + besV (gX w 215) (gX w 224) p (p - 1) else 10 * gX w 215 (98 + (gX w 224 p).toNat) - 5 * gX w 215 (154 + p)))) = x at l0 hr ⊢
      refine h_iload rfl l0 rfl ?_
      refine j_ge (kn := kn) (t := 3) (tgt := 94) (np := 90) rfl (by unfold R32; omega) (fun e1 => ?_) (fun e1 => ?_)
      · refine h_iload rfl l0 rfl ?_
        refine h_iret rfl ?_
        rw [if_neg (by omega)]
      · refine h_intv k_0 rfl ?_
        refine h_goto rfl ?_
        refine h_iret rfl ?_
        rw [if_pos (by omega)]
    have b68 : ∀ lv, hL lv [(0, .ref 213), (1, hI p), (2, hI (gX w 224 p)), (3, hI ((if 0 < p % 3 then 10 * gX w 215 (98 + (gX w 224 p).toNat) - 5 * gX w 215 (154 + p) + besV (gX w 215) (gX w 224) p (p - 1) else 10 * gX w 215 (98 + (gX w 224 p).toNat) - 5 * gX w 215 (154 + p))))] → gX w 224 p ≠ -1 → hasV (gF w 213 28) (gX w 224 p) ≠ 1 → Tp (tX12_bearsAt kn) (fun r => r = (some (hI (bearV (gX w 215) (gX w 224) (gF w 213 28) p)), w, 0, 0)) 68 (lv, [], w, 0, 0) := by
      intro lv l0 g1 g2
      refine h_iload rfl l0 rfl ?_
      refine h_intv k_3 rfl ?_
      refine h_irem3 (p) (by omega) rfl ?_
      refine h_intv k_2 rfl ?_
      refine i_ge (kn := kn) (t := 3) (tgt := 86) (np := 75) rfl (by unfold R32; omega) (by unfold R32; omega) (fun e1 => ?_) (fun e1 => ?_)
      · exact b86 _ (by rw [if_neg (show ¬ p % 3 < 2 by omega)]; exact l0) g1 g2
      · refine h_iload rfl l0 rfl ?_
        refine h_aload rfl l0 rfl ?_
        refine h_iload rfl l0 rfl ?_
        refine h_iload rfl l0 rfl ?_
        refine h_intv k_1 rfl ?_
        refine h_iadd rfl ?_
        rw [show ((p : Int) + 1) = ((p + 1 : Nat) : Int) from by omega]
        have hf2 := s_bes (kn := kn) hw p (p + 1) hp (by omega) g1
        refine h_V3 rfl o0 l0 ci_213 rfl rfl hf2 ?_
        refine h_iadd rfl ?_
        refine h_istore rfl l0 (fun vl3 l3 => ?_)
        exact b86 _ (by rw [if_pos (show p % 3 < 2 by omega)]; exact l3) g1 g2
    have b51 : ∀ lv, hL lv [(0, .ref 213), (1, hI p), (2, hI (gX w 224 p)), (3, hI (10 * gX w 215 (98 + (gX w 224 p).toNat) - 5 * gX w 215 (154 + p)))] → gX w 224 p ≠ -1 → hasV (gF w 213 28) (gX w 224 p) ≠ 1 → Tp (tX12_bearsAt kn) (fun r => r = (some (hI (bearV (gX w 215) (gX w 224) (gF w 213 28) p)), w, 0, 0)) 51 (lv, [], w, 0, 0) := by
      intro lv l0 g1 g2
      refine h_iload rfl l0 rfl ?_
      refine h_intv k_3 rfl ?_
      refine h_irem3 (p) (by omega) rfl ?_
      refine j_le (kn := kn) (t := 5) (tgt := 68) (np := 57) rfl (by unfold R32; omega) (fun e1 => ?_) (fun e1 => ?_)
      · exact b68 _ (by rw [if_neg (show ¬ 0 < p % 3 by omega)]; exact l0) g1 g2
      · refine h_iload rfl l0 rfl ?_
        refine h_aload rfl l0 rfl ?_
        refine h_iload rfl l0 rfl ?_
        refine h_iload rfl l0 rfl ?_
        refine h_intv k_1 rfl ?_
        refine h_isub rfl ?_
        rw [show ((p : Int) - 1) = ((p - 1 : Nat) : Int) from by omega]
        have hf2 := s_bes (kn := kn) hw p (p - 1) hp (by omega) g1
        refine h_V3 rfl o0 l0 ci_213 rfl rfl hf2 ?_
        refine h_iadd rfl ?_
        refine h_istore rfl l0 (fun vl3 l3 => ?_)
        exact b68 _ (by rw [if_pos (show 0 < p % 3 by omega)]; exact l3) g1 g2
    refine h_aload rfl l0 rfl ?_
    refine h_getR rfl o0 fr_27 ?_
    refine h_iload rfl l0 rfl ?_
    refine h_ialdj (p) rfl o0 ai_224 rfl (by omega) (by omega) (fun b1a b1b => ?_)
    have b1c := gX_in o0 ai_224 ar_224 (j := p) (by omega) (by omega) (by omega)
    refine h_istore rfl l0 (fun vl2 l2 => ?_)
    refine h_iload rfl l2 rfl ?_
    refine h_intv k_n1 rfl ?_
    refine i_eq (kn := kn) (t := 0) (tgt := 23) (np := 12) rfl (by unfold R32; omega) (by unfold R32; omega) (fun e3 => ?_) (fun e3 => ?_)
    · refine h_intv k_0 rfl ?_
      refine h_iret rfl ?_
      have hz : bearV (gX w 215) (gX w 224) (gF w 213 28) p = 0 := by
        unfold bearV
        first
          | rw [if_pos (by assumption)]
          | rw [if_neg (by assumption), if_pos (by omega)]
      rw [hz]
    · refine h_aload rfl l2 rfl ?_
      refine h_getI rfl o0 fi_28 (fun b4a b4b => ?_)
      refine h_iload rfl l2 rfl ?_
      obtain ⟨z5, hf5, hz5⟩ := s_has (kn := kn) hw (gF w 213 28) (gX w 224 p)
      refine h_S2 rfl o0 l2 rfl rfl hf5 ?_
      refine j_eq (kn := kn) (t := 0) (tgt := 25) (np := 23) rfl (by unfold R32; omega) (fun e6 => ?_) (fun e6 => ?_)
      · refine h_intv k_10 rfl ?_
        refine h_aload rfl l2 rfl ?_
        refine h_getR rfl o0 fr_14 ?_
        refine h_intv k_98 rfl ?_
        refine h_iload rfl l2 rfl ?_
        refine h_iadd rfl ?_
        refine h_ialdj (98 + (gX w 224 p).toNat) rfl o0 ai_215 rfl (by omega) (by omega) (fun b7a b7b => ?_)
        refine h_imul rfl ?_
        refine h_intv k_5 rfl ?_
        refine h_aload rfl l2 rfl ?_
        refine h_getR rfl o0 fr_14 ?_
        refine h_intv k_154 rfl ?_
        refine h_iload rfl l2 rfl ?_
        refine h_iadd rfl ?_
        refine h_ialdj (154 + p) rfl o0 ai_215 rfl (by omega) (by omega) (fun b8a b8b => ?_)
        refine h_imul rfl ?_
        refine h_isub rfl ?_
        refine h_istore rfl l2 (fun vl9 l9 => ?_)
        exact b51 _ l9 (by omega) (by omega)
      · refine h_intv k_0 rfl ?_
        refine h_iret rfl ?_
        have hz : bearV (gX w 215) (gX w 224) (gF w 213 28) p = 0 := by
          unfold bearV
          first
            | rw [if_pos (by assumption)]
            | rw [if_neg (by assumption), if_pos (by omega)]
        rw [hz]
  obtain ⟨r, h1, h2⟩ := h_meth1 (nL := 4) rfl K
  rw [h2] at h1
  exact h1
theorem s_sum {kn : sKn} {w : sW} (hw : wOk ZZ w) (row k wide : Nat) (hr : row < 12) (hk : k ≤ 3) (hwd : wide ≤ 3) : fX12_sumAt kn [.ref 213, hI row, hI k, hI wide] w = some (some (hI (sumV (gX w 215) (gX w 224) (gF w 213 28) row k wide)), w, 0, 0) := by
  have K : Tp (tX12_sumAt kn) (fun r => r = (some (hI (sumV (gX w 215) (gX w 224) (gF w 213 28) row k wide)), w, 0, 0)) 0 (lv_args 0 [.ref 213, hI row, hI k, hI wide], [], w, 0, 0) := by
    have l0 : hL (lv_args 0 [.ref 213, hI row, hI k, hI wide]) (lv_args 0 [.ref 213, hI row, hI k, hI wide]) := hL_ex rfl
    have o0 : hO [] w w := hO_rf hw
    have b15 : ∀ (m i : Nat) (n : Int) (lv : List (Nat × Value)), i + m = k + wide → hL lv [(0, .ref 213), (1, hI row), (2, hI k), (3, hI wide), (4, hI n), (5, hI i)] → k + wide ≤ 3 → Tp (tX12_sumAt kn) (fun r => r = (some (hI (sumL (gX w 215) (gX w 224) (gF w 213 28) row m i n)), w, 0, 0)) 15 (lv, [], w, 0, 0) := by
      intro m
      induction m with
      | zero =>
        intro i n lv hi l0 hk
        refine h_iload rfl l0 rfl ?_
        refine h_iload rfl l0 rfl ?_
        refine h_iload rfl l0 rfl ?_
        refine h_iadd rfl ?_
        refine i_ge (kn := kn) (t := 3) (tgt := 61) (np := 23) rfl (by unfold R32; omega) (by unfold R32; omega) (fun e1 => ?_) (fun e1 => ?_)
        · refine h_iload rfl l0 rfl ?_
          refine h_iret rfl ?_
          rfl
        · omega
      | succ m ih0 =>
        intro i n lv hi l0 hk
        have ih : ∀ (i : Nat) (n : Int) (lv : List (Nat × Value)), i + m = k + wide → hL lv [(0, .ref 213), (1, hI row), (2, hI k), (3, hI wide), (4, hI n), (5, hI i)] → Tp (tX12_sumAt kn) (fun r => r = (some (hI (sumL (gX w 215) (gX w 224) (gF w 213 28) row m i n)), w, 0, 0)) 15 (lv, [], w, 0, 0) := fun i n lv h1 h2 => ih0 i n lv h1 h2 hk
        refine h_iload rfl l0 rfl ?_
        refine h_iload rfl l0 rfl ?_
        refine h_iload rfl l0 rfl ?_
        refine h_iadd rfl ?_
        refine i_ge (kn := kn) (t := 3) (tgt := 61) (np := 23) rfl (by unfold R32; omega) (by unfold R32; omega) (fun e1 => ?_) (fun e1 => ?_)
        · refine h_iload rfl l0 rfl ?_
          refine h_iret rfl ?_
          omega
        · refine h_aload rfl l0 rfl ?_
          refine h_getR rfl o0 fr_27 ?_
          refine h_intv k_3 rfl ?_
          refine h_iload rfl l0 rfl ?_
          refine h_imul rfl ?_
          refine h_iload rfl l0 rfl ?_
          refine h_iadd rfl ?_
          refine h_ialdj (3 * row + i) rfl o0 ai_224 rfl (by omega) (by omega) (fun b2a b2b => ?_)
          refine h_intv k_n1 rfl ?_
          refine i_ne (kn := kn) (t := 1) (tgt := 40) (np := 38) rfl (by unfold R32; omega) (by unfold R32; omega) (fun e3 => ?_) (fun e3 => ?_)
          · refine h_iload rfl l0 rfl ?_
            refine h_aload rfl l0 rfl ?_
            refine h_intv k_3 rfl ?_
            refine h_iload rfl l0 rfl ?_
            refine h_imul rfl ?_
            refine h_iload rfl l0 rfl ?_
            refine h_iadd rfl ?_
            rw [show (3 * (row : Int) + (i : Int)) = ((3 * row + i : Nat) : Int) from by omega]
            have hf4 := s_bear (kn := kn) hw (3 * row + i) (by omega)
            refine h_V2 rfl o0 l0 ci_213 rfl rfl hf4 ?_
            refine h_iadd rfl ?_
            refine h_istore rfl l0 (fun vl5 l5 => ?_)
            refine h_iincv k_1 rfl l5 rfl (fun vl6 l6 => ?_)
            refine h_goto rfl ?_
            have e9 : sumL (gX w 215) (gX w 224) (gF w 213 28) row (m + 1) i n = sumL (gX w 215) (gX w 224) (gF w 213 28) row m (i + 1) (wr (n + bearV (gX w 215) (gX w 224) (gF w 213 28) (3 * row + i))) := if_neg (by omega)
            rw [e9]
            refine ih (i + 1) _ _ (by omega) (by rw [← hI_wr]; exact l6)
          · refine h_intv k_n1 rfl ?_
            refine h_iret rfl ?_
            rw [show sumL (gX w 215) (gX w 224) (gF w 213 28) row (m + 1) i n = -1 from if_pos (by omega)]
    refine h_iload rfl l0 rfl ?_
    refine h_iload rfl l0 rfl ?_
    refine h_iadd rfl ?_
    refine h_intv k_3 rfl ?_
    refine i_le (kn := kn) (t := 5) (tgt := 9) (np := 7) rfl (by unfold R32; omega) (by unfold R32; omega) (fun e1 => ?_) (fun e1 => ?_)
    · refine h_intv k_0 rfl ?_
      refine h_istore rfl l0 (fun vl2 l2 => ?_)
      refine h_iload rfl l2 rfl ?_
      refine h_istore rfl l2 (fun vl3 l3 => ?_)
      rw [show sumV (gX w 215) (gX w 224) (gF w 213 28) row k wide = sumL (gX w 215) (gX w 224) (gF w 213 28) row wide k 0 from if_neg (by omega)]
      exact b15 wide k 0 _ rfl l3 (by omega)
    · refine h_intv k_n1 rfl ?_
      refine h_iret rfl ?_
      rw [show sumV (gX w 215) (gX w 224) (gF w 213 28) row k wide = -1 from if_pos (by omega)]
  obtain ⟨r, h1, h2⟩ := h_meth1 (nL := 6) rfl K
  rw [h2] at h1
  exact h1
theorem sumL_R {N W : Nat → Int} {F : Int} {row : Nat} : ∀ (m i : Nat) (n : Int), (-2147483648 ≤ n ∧ n ≤ 2147483647) → (-2147483648 ≤ sumL N W F row m i n ∧ sumL N W F row m i n ≤ 2147483647)
  | 0, _, _, h => h
  | m + 1, i, n, h => by
    unfold sumL
    split
    · omega
    · exact sumL_R m (i + 1) _ (wr_R _)
theorem sumV_R {N W : Nat → Int} {F : Int} {row k wide : Nat} : -2147483648 ≤ sumV N W F row k wide ∧ sumV N W F row k wide ≤ 2147483647 := by
  unfold sumV
  split
  · omega
  · exact sumL_R _ _ _ (by omega)
theorem wr_id {z : Int} (h : -2147483648 ≤ z ∧ z ≤ 2147483647) : wr z = z := hI_to h
theorem spV_ge {N W : Nat → Int} {F : Int} {row k wide : Nat} {weight : Int} (h : 0 ≤ weight) : -1 ≤ spV N W F row k wide weight ∧ spV N W F row k wide weight ≤ 2147483647 := by
  unfold spV
  have := sumV_R (N := N) (W := W) (F := F) (row := row) (k := k) (wide := wide)
  split
  · split <;> omega
  · split
    · omega
    · rw [wr_id (by omega)]
      omega
theorem s_spare {kn : sKn} {w : sW} (hw : wOk ZZ w) (row k wide : Nat) (weight : Int) (hr : row < 12) (hk : k ≤ 3) (hwd : wide ≤ 3) (hwt : -2147483648 ≤ weight ∧ weight ≤ 2147483647) : fX12_spareAt kn [.ref 213, hI row, hI k, hI wide, hI weight] w = some (some (hI (spV (gX w 215) (gX w 224) (gF w 213 28) row k wide weight)), w, 0, 0) := by
  have K : Tp (tX12_spareAt kn) (fun r => r = (some (hI (spV (gX w 215) (gX w 224) (gF w 213 28) row k wide weight)), w, 0, 0)) 0 (lv_args 0 [.ref 213, hI row, hI k, hI wide, hI weight], [], w, 0, 0) := by
    have l0 : hL (lv_args 0 [.ref 213, hI row, hI k, hI wide, hI weight]) (lv_args 0 [.ref 213, hI row, hI k, hI wide, hI weight]) := hL_ex rfl
    have o0 : hO [] w w := hO_rf hw
    refine h_iload rfl l0 rfl ?_
    refine h_intv k_3 rfl ?_
    refine i_ne (kn := kn) (t := 1) (tgt := 20) (np := 5) rfl (by unfold R32; omega) (by unfold R32; omega) (fun e1 => ?_) (fun e1 => ?_)
    · refine h_aload rfl l0 rfl ?_
      refine h_iload rfl l0 rfl ?_
      refine h_iload rfl l0 rfl ?_
      refine h_iload rfl l0 rfl ?_
      have hf2 := s_sum (kn := kn) hw row k wide hr hk hwd
      have hs := sumV_R (N := gX w 215) (W := gX w 224) (F := gF w 213 28) (row := row) (k := k) (wide := wide)
      obtain ⟨x, hx⟩ : ∃ x, sumV (gX w 215) (gX w 224) (gF w 213 28) row k wide = x := ⟨_, rfl⟩
      rw [hx] at hf2 hs
      refine h_V4 rfl o0 l0 ci_213 rfl rfl hf2 ?_
      refine h_istore rfl l0 (fun vl3 l3 => ?_)
      refine h_iload rfl l3 rfl ?_
      refine h_iload rfl l3 rfl ?_
      refine i_ge (kn := kn) (t := 3) (tgt := 40) (np := 36) rfl (by unfold R32; omega) (by unfold R32; omega) (fun e4 => ?_) (fun e4 => ?_)
      · refine h_iload rfl l3 rfl ?_
        refine h_iload rfl l3 rfl ?_
        refine h_isub rfl ?_
        refine h_iret rfl ?_
        rw [show spV (gX w 215) (gX w 224) (gF w 213 28) row k wide weight = wr (x - weight) from by unfold spV; rw [hx, if_neg (by omega), if_neg (by omega)], ← hI_wr]
      · refine h_intv k_n1 rfl ?_
        refine h_goto rfl ?_
        refine h_iret rfl ?_
        rw [show spV (gX w 215) (gX w 224) (gF w 213 28) row k wide weight = -1 from by unfold spV; rw [hx, if_neg (by omega), if_pos (by omega)]]
    · refine h_iload rfl l0 rfl ?_
      refine h_intv k_9 rfl ?_
      refine i_gt (kn := kn) (t := 4) (tgt := 18) (np := 12) rfl (by unfold R32; omega) (by unfold R32; omega) (fun e5 => ?_) (fun e5 => ?_)
      · refine h_intv k_n1 rfl ?_
        refine h_iret rfl ?_
        rw [show spV (gX w 215) (gX w 224) (gF w 213 28) row k wide weight = (-1) from by unfold spV; rw [if_pos (by omega)]; first | rw [if_pos (by omega)] | rw [if_neg (by omega)]]
      · refine h_intv k_999 rfl ?_
        refine h_goto rfl ?_
        refine h_iret rfl ?_
        rw [show spV (gX w 215) (gX w 224) (gF w 213 28) row k wide weight = 999 from by unfold spV; rw [if_pos (by omega)]; first | rw [if_pos (by omega)] | rw [if_neg (by omega)]]
  obtain ⟨r, h1, h2⟩ := h_meth1 (nL := 6) rfl K
  rw [h2] at h1
  exact h1
end
