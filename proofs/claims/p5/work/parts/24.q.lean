noncomputable section
theorem ap216_z : aP 216 0 94 0 0 = true := by decide +kernel
theorem sr_e {kn : sKn} {w0 w : sW} {x i : Int} {lv : List (Nat × Value)} (o0 : hO dRT w0 w) (sm : smW [(2, 216, 0)] w0 w) (hi : ∀ j, j < 94 → gX w 216 j = (if (26 ≤ j ∧ j < 36) ∨ (46 ≤ j ∧ j < 46 + 36) then -1 else 0)) (l0 : hL lv [(0, .ref 213), (1, hI x)]) : Tp (tX12_startRead kn) (fun r => ∃ w', r = (none, w', 0, 0) ∧ hO dRT w0 w' ∧ smW [(2, 216, 0)] w0 w' ∧ ∀ j, j < 94 → gX w' 216 j = zR0 j) 69 (lv, [], w, 0, 0) := by
  refine h_aload rfl l0 rfl ?_
  refine h_getR rfl o0 fr_15 ?_
  refine h_intv k_0 rfl ?_
  refine h_intv k_4 rfl ?_
  refine x_iast (0) rfl o0 ai_216 rfl rfl ap216_0 (by omega) (by omega) (by omega) (by omega) (by omega) (by omega) (by unfold R32; omega) (fun w41 o41 q42a q42X q42F q42J q42Y q42R => ?_)
  refine h_aload rfl l0 rfl ?_
  refine h_getR rfl o41 fr_15 ?_
  refine h_intv k_4 rfl ?_
  refine h_intv k_5 rfl ?_
  refine x_iast (4) rfl o41 ai_216 rfl rfl ap216_4 (by omega) (by omega) (by omega) (by omega) (by omega) (by omega) (by unfold R32; omega) (fun w43 o43 q44a q44X q44F q44J q44Y q44R => ?_)
  refine h_vret rfl ?_
  refine ⟨_, rfl, o43, smW_tr (smW_tr sm (sm_pX (by decide) q42X q42F q42J q42Y q42R)) (sm_pX (by decide) q44X q44F q44J q44Y q44R), fun j hj => ?_⟩
  unfold zR0
  by_cases e4 : j = 4
  · rw [e4, q44a]
    rfl
  · rw [q44X 216 j (fun _ => e4)]
    by_cases e0 : j = 0
    · rw [e0, q42a]
      rfl
    · rw [q42X 216 j (fun _ => e0), hi j hj, if_neg e0, if_neg e4]
theorem sr_3 {kn : sKn} {w0 : sW} : ∀ (d i : Nat) (w : sW) (lv : List (Nat × Value)), i + d = 36 → hO dRT w0 w → smW [(2, 216, 0)] w0 w → (∀ j, j < 94 → gX w 216 j = (if (26 ≤ j ∧ j < 36) ∨ (46 ≤ j ∧ j < 46 + i) then -1 else 0)) → hL lv [(0, .ref 213), (1, hI i)] → Tp (tX12_startRead kn) (fun r => ∃ w', r = (none, w', 0, 0) ∧ hO dRT w0 w' ∧ smW [(2, 216, 0)] w0 w' ∧ ∀ j, j < 94 → gX w' 216 j = zR0 j) 47 (lv, [], w, 0, 0) := by
  intro d
  induction d with
  | zero =>
    intro i w lv hid o0 sm hi l0
    refine h_iload rfl l0 rfl ?_
    refine h_intv k_36 rfl ?_
    refine i_ge (kn := kn) (t := 3) (tgt := 69) (np := 53) rfl (by unfold R32; omega) (by unfold R32; omega) (fun e41 => ?_) (fun e41 => ?_)
    · exact sr_e (i := 0) o0 sm (fun j hj => by
        rw [hi j hj, show i = 36 by omega]) l0
    · omega
  | succ d ih =>
    intro i w lv hid o0 sm hi l0
    refine h_iload rfl l0 rfl ?_
    refine h_intv k_36 rfl ?_
    refine i_ge (kn := kn) (t := 3) (tgt := 69) (np := 53) rfl (by unfold R32; omega) (by unfold R32; omega) (fun e41 => ?_) (fun e41 => ?_)
    · omega
    · refine h_aload rfl l0 rfl ?_
      refine h_getR rfl o0 fr_15 ?_
      refine h_intv k_46 rfl ?_
      refine h_iload rfl l0 rfl ?_
      refine h_iadd rfl ?_
      refine h_intv k_n1 rfl ?_
      refine x_iast (46 + i) rfl o0 ai_216 rfl rfl ap216_46 (by omega) (by omega) (by omega) (by omega) (by omega) (by omega) (by unfold R32; omega) (fun w42 o42 q43a q43X q43F q43J q43Y q43R => ?_)
      refine h_iincv k_1 rfl l0 rfl (fun vl44 l44 => ?_)
      refine h_goto rfl ?_
      exact ih (i + 1) w42 _ (by omega) o42 (smW_tr sm (sm_pX (by decide) q43X q43F q43J q43Y q43R)) (fun j hj => by
        by_cases e : j = 46 + i
        · rw [e, q43a, if_pos (by omega)]
        · rw [q43X 216 j (fun _ => e), hi j hj]
          by_cases c : (26 ≤ j ∧ j < 36) ∨ (46 ≤ j ∧ j < 46 + i)
          · rw [if_pos c, if_pos (by omega)]
          · rw [if_neg c, if_neg (by omega)]) l44
theorem sr_2 {kn : sKn} {w0 : sW} : ∀ (d i : Nat) (w : sW) (lv : List (Nat × Value)), i + d = 10 → hO dRT w0 w → smW [(2, 216, 0)] w0 w → (∀ j, j < 94 → gX w 216 j = (if 26 ≤ j ∧ j < 26 + i then -1 else 0)) → hL lv [(0, .ref 213), (1, hI i)] → Tp (tX12_startRead kn) (fun r => ∃ w', r = (none, w', 0, 0) ∧ hO dRT w0 w' ∧ smW [(2, 216, 0)] w0 w' ∧ ∀ j, j < 94 → gX w' 216 j = zR0 j) 23 (lv, [], w, 0, 0) := by
  intro d
  induction d with
  | zero =>
    intro i w lv hid o0 sm hi l0
    refine h_iload rfl l0 rfl ?_
    refine h_intv k_10 rfl ?_
    refine i_ge (kn := kn) (t := 3) (tgt := 45) (np := 29) rfl (by unfold R32; omega) (by unfold R32; omega) (fun e41 => ?_) (fun e41 => ?_)
    · refine h_intv k_0 rfl ?_
      refine h_istore rfl l0 (fun v9 l9 => ?_)
      exact sr_3 36 0 w _ rfl o0 sm (fun j hj => by
        rw [hi j hj, show i = 10 by omega]
        by_cases c : 26 ≤ j ∧ j < 26 + 10
        · rw [if_pos c, if_pos (by omega)]
        · rw [if_neg c, if_neg (by omega)]) l9
    · omega
  | succ d ih =>
    intro i w lv hid o0 sm hi l0
    refine h_iload rfl l0 rfl ?_
    refine h_intv k_10 rfl ?_
    refine i_ge (kn := kn) (t := 3) (tgt := 45) (np := 29) rfl (by unfold R32; omega) (by unfold R32; omega) (fun e41 => ?_) (fun e41 => ?_)
    · omega
    · refine h_aload rfl l0 rfl ?_
      refine h_getR rfl o0 fr_15 ?_
      refine h_intv k_26 rfl ?_
      refine h_iload rfl l0 rfl ?_
      refine h_iadd rfl ?_
      refine h_intv k_n1 rfl ?_
      refine x_iast (26 + i) rfl o0 ai_216 rfl rfl ap216_26 (by omega) (by omega) (by omega) (by omega) (by omega) (by omega) (by unfold R32; omega) (fun w42 o42 q43a q43X q43F q43J q43Y q43R => ?_)
      refine h_iincv k_1 rfl l0 rfl (fun vl44 l44 => ?_)
      refine h_goto rfl ?_
      exact ih (i + 1) w42 _ (by omega) o42 (smW_tr sm (sm_pX (by decide) q43X q43F q43J q43Y q43R)) (fun j hj => by
        by_cases e : j = 26 + i
        · rw [e, q43a, if_pos (by omega)]
        · rw [q43X 216 j (fun _ => e), hi j hj]
          by_cases c : 26 ≤ j ∧ j < 26 + i
          · rw [if_pos c, if_pos (by omega)]
          · rw [if_neg c, if_neg (by omega)]) l44
theorem sr_1 {kn : sKn} {w0 : sW} : ∀ (d i : Nat) (w : sW) (lv : List (Nat × Value)), i + d = 94 → hO dRT w0 w → smW [(2, 216, 0)] w0 w → (∀ j, j < 94 → j < i → gX w 216 j = 0) → hL lv [(0, .ref 213), (1, hI i)] → Tp (tX12_startRead kn) (fun r => ∃ w', r = (none, w', 0, 0) ∧ hO dRT w0 w' ∧ smW [(2, 216, 0)] w0 w' ∧ ∀ j, j < 94 → gX w' 216 j = zR0 j) 2 (lv, [], w, 0, 0) := by
  intro d
  induction d with
  | zero =>
    intro i w lv hid o0 sm hi l0
    refine h_iload rfl l0 rfl ?_
    refine h_intv k_94 rfl ?_
    refine i_ge (kn := kn) (t := 3) (tgt := 21) (np := 8) rfl (by unfold R32; omega) (by unfold R32; omega) (fun e41 => ?_) (fun e41 => ?_)
    · refine h_intv k_0 rfl ?_
      refine h_istore rfl l0 (fun v9 l9 => ?_)
      exact sr_2 10 0 w _ rfl o0 sm (fun j hj => by
        rw [hi j hj (by omega), if_neg (by omega)]) l9
    · omega
  | succ d ih =>
    intro i w lv hid o0 sm hi l0
    refine h_iload rfl l0 rfl ?_
    refine h_intv k_94 rfl ?_
    refine i_ge (kn := kn) (t := 3) (tgt := 21) (np := 8) rfl (by unfold R32; omega) (by unfold R32; omega) (fun e41 => ?_) (fun e41 => ?_)
    · omega
    · refine h_aload rfl l0 rfl ?_
      refine h_getR rfl o0 fr_15 ?_
      refine h_iload rfl l0 rfl ?_
      refine h_intv k_0 rfl ?_
      refine x_iast (i) rfl o0 ai_216 rfl rfl ap216_z (by omega) (by omega) (by omega) (by omega) (by omega) (by omega) (by unfold R32; omega) (fun w42 o42 q43a q43X q43F q43J q43Y q43R => ?_)
      refine h_iincv k_1 rfl l0 rfl (fun vl44 l44 => ?_)
      refine h_goto rfl ?_
      exact ih (i + 1) w42 _ (by omega) o42 (smW_tr sm (sm_pX (by decide) q43X q43F q43J q43Y q43R)) (fun j hj hji => by
        by_cases e : j = i
        · rw [e, q43a]
        · rw [q43X 216 j (fun _ => e)]
          exact hi j hj (by omega)) l44
theorem x_startRead {kn : sKn} {w0 : sW} (hw : wOk ZZ w0) : ∃ w', fX12_startRead kn [.ref 213] w0 = some (none, w', 0, 0) ∧ hO dRT w0 w' ∧ smW [(2, 216, 0)] w0 w' ∧ ∀ j, j < 94 → gX w' 216 j = zR0 j := by
  have K : Tp (tX12_startRead kn) (fun r => ∃ w', r = (none, w', 0, 0) ∧ hO dRT w0 w' ∧ smW [(2, 216, 0)] w0 w' ∧ ∀ j, j < 94 → gX w' 216 j = zR0 j) 0 (lv_args 0 [.ref 213], [], w0, 0, 0) := by
    have l0 : hL (lv_args 0 [.ref 213]) (lv_args 0 [.ref 213]) := hL_ex rfl
    refine h_intv k_0 rfl ?_
    refine h_istore rfl l0 (fun v9 l9 => ?_)
    exact sr_1 94 0 w0 _ rfl (hO_rf hw) (smW_rf _ _) (fun j hj hji => by omega) l9
  obtain ⟨r, h1, w2, h2, h3⟩ := h_meth1 (nL := 2) rfl K
  rw [h2] at h1
  exact ⟨w2, h1, h3⟩
end
