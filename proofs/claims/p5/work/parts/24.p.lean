noncomputable section
theorem x_alen {tbl : List (Nat × sA)} {Po : sR → Prop} {pc np : Nat} {lv : List (Nat × Value)} {st : List Value} {w w0 : sW} {D : List (Nat × Nat)} {c t n : Nat} (ha : t_get tbl pc = some (a_alen np)) (ho : hO D w0 w) (hf : aI c = some (t, n)) (g : Tp tbl Po np (lv, hI (n : Int) :: st, w, 0, 0)) : Tp tbl Po pc (lv, .ref c :: st, w, 0, 0) := by
  obtain ⟨vs, q, _, _, _, _, _, w1, w2, _⟩ := aI_ok ho hf
  refine Tp_step (ss' := (lv, hI (n : Int) :: st, w, 0, 0)) ha (fun k => ?_) g
  show a_alen np k (lv, .ref c :: st, w, 0, 0) = k np (lv, hI (n : Int) :: st, w, 0, 0)
  simp only [a_alen, xg_eq, w1, xl_eq, w2]
  rfl
theorem x_fill8_l {kn : sKn} {w0 : sW} {v : Int} (h1 : (-1) ≤ v) (h2 : v ≤ 9) (hr : R32 v) : ∀ (d i : Nat) (w : sW) (lv : List (Nat × Value)), i + d = 10 → hO dBT w0 w → smW [(2, 8, 0)] w0 w → (∀ j, j < i → gX w 8 j = v) → hL lv [(0, .ref 8), (1, hI v), (2, hI i), (3, hI 10)] → Tp (tJ7_fill_53178 kn) (fun r => ∃ w', r = (none, w', 0, 0) ∧ hO dBT w0 w' ∧ smW [(2, 8, 0)] w0 w' ∧ ∀ j, j < 10 → gX w' 8 j = v) 5 (lv, [], w, 0, 0) := by
  intro d
  induction d with
  | zero =>
    intro i w lv hid o0 sm hi l0
    refine h_iload rfl l0 rfl ?_
    refine h_iload rfl l0 rfl ?_
    refine i_ge (kn := kn) (t := 3) (tgt := 20) (np := 10) rfl (by unfold R32; omega) (by unfold R32; omega) (fun e41 => ?_) (fun e41 => ?_)
    · refine h_vret rfl ?_
      exact ⟨_, rfl, o0, sm, fun j hj => hi j (by omega)⟩
    · omega
  | succ d ih =>
    intro i w lv hid o0 sm hi l0
    refine h_iload rfl l0 rfl ?_
    refine h_iload rfl l0 rfl ?_
    refine i_ge (kn := kn) (t := 3) (tgt := 20) (np := 10) rfl (by unfold R32; omega) (by unfold R32; omega) (fun e41 => ?_) (fun e41 => ?_)
    · omega
    · refine h_aload rfl l0 rfl ?_
      refine h_iload rfl l0 rfl ?_
      refine h_iload rfl l0 rfl ?_
      refine x_iast (i) rfl o0 ai_8 rfl rfl aw_8 (by omega) (by omega) (by omega) (by omega) h1 h2 hr (fun w42 o42 q43a q43X q43F q43J q43Y q43R => ?_)
      refine h_iincv k_1 rfl l0 rfl (fun vl44 l44 => ?_)
      refine h_goto rfl ?_
      exact ih (i + 1) w42 _ (by omega) o42 (smW_tr sm (sm_pX (by decide) q43X q43F q43J q43Y q43R)) (fun j hj => by
        by_cases e : j = i
        · rw [e, q43a]
        · rw [q43X 8 j (fun _ => e)]
          exact hi j (by omega)) l44
theorem x_fill8 {kn : sKn} {w0 : sW} {v : Int} (hw : wOk ZZ w0) (h1 : (-1) ≤ v) (h2 : v ≤ 9) (hr : R32 v) : ∃ w', fJ7_fill_53178 kn [.ref 8, hI v] w0 = some (none, w', 0, 0) ∧ hO dBT w0 w' ∧ smW [(2, 8, 0)] w0 w' ∧ ∀ j, j < 10 → gX w' 8 j = v := by
  have K : Tp (tJ7_fill_53178 kn) (fun r => ∃ w', r = (none, w', 0, 0) ∧ hO dBT w0 w' ∧ smW [(2, 8, 0)] w0 w' ∧ ∀ j, j < 10 → gX w' 8 j = v) 0 (lv_args 0 [.ref 8, hI v], [], w0, 0, 0) := by
    have l0 : hL (lv_args 0 [.ref 8, hI v]) (lv_args 0 [.ref 8, hI v]) := hL_ex rfl
    have o0 : hO dBT w0 w0 := hO_rf hw
    have sm := smW_rf [(2, 8, 0)] w0
    refine h_intv k_0 rfl ?_
    refine h_istore rfl l0 (fun v1 l1 => ?_)
    refine h_aload rfl l1 rfl ?_
    refine x_alen rfl o0 ai_8 ?_
    refine h_istore rfl l1 (fun v2 l2 => ?_)
    exact x_fill8_l h1 h2 hr 10 0 w0 _ rfl o0 sm (fun j hj => by omega) l2
  obtain ⟨r, h3, w2, h4, h5⟩ := h_meth1 (nL := 4) rfl K
  rw [h4] at h3
  exact ⟨w2, h3, h5⟩
theorem x_fill9_l {kn : sKn} {w0 : sW} {v : Int} (h1 : (-2147483648) ≤ v) (h2 : v ≤ 2147483647) (hr : R32 v) : ∀ (d i : Nat) (w : sW) (lv : List (Nat × Value)), i + d = 10 → hO dBT w0 w → smW [(2, 9, 0)] w0 w → (∀ j, j < i → gX w 9 j = v) → hL lv [(0, .ref 9), (1, hI v), (2, hI i), (3, hI 10)] → Tp (tJ7_fill_53178 kn) (fun r => ∃ w', r = (none, w', 0, 0) ∧ hO dBT w0 w' ∧ smW [(2, 9, 0)] w0 w' ∧ ∀ j, j < 10 → gX w' 9 j = v) 5 (lv, [], w, 0, 0) := by
  intro d
  induction d with
  | zero =>
    intro i w lv hid o0 sm hi l0
    refine h_iload rfl l0 rfl ?_
    refine h_iload rfl l0 rfl ?_
    refine i_ge (kn := kn) (t := 3) (tgt := 20) (np := 10) rfl (by unfold R32; omega) (by unfold R32; omega) (fun e41 => ?_) (fun e41 => ?_)
    · refine h_vret rfl ?_
      exact ⟨_, rfl, o0, sm, fun j hj => hi j (by omega)⟩
    · omega
  | succ d ih =>
    intro i w lv hid o0 sm hi l0
    refine h_iload rfl l0 rfl ?_
    refine h_iload rfl l0 rfl ?_
    refine i_ge (kn := kn) (t := 3) (tgt := 20) (np := 10) rfl (by unfold R32; omega) (by unfold R32; omega) (fun e41 => ?_) (fun e41 => ?_)
    · omega
    · refine h_aload rfl l0 rfl ?_
      refine h_iload rfl l0 rfl ?_
      refine h_iload rfl l0 rfl ?_
      refine x_iast (i) rfl o0 ai_9 rfl rfl aw_9 (by omega) (by omega) (by omega) (by omega) h1 h2 hr (fun w42 o42 q43a q43X q43F q43J q43Y q43R => ?_)
      refine h_iincv k_1 rfl l0 rfl (fun vl44 l44 => ?_)
      refine h_goto rfl ?_
      exact ih (i + 1) w42 _ (by omega) o42 (smW_tr sm (sm_pX (by decide) q43X q43F q43J q43Y q43R)) (fun j hj => by
        by_cases e : j = i
        · rw [e, q43a]
        · rw [q43X 9 j (fun _ => e)]
          exact hi j (by omega)) l44
theorem x_fill9 {kn : sKn} {w0 : sW} {v : Int} (hw : wOk ZZ w0) (h1 : (-2147483648) ≤ v) (h2 : v ≤ 2147483647) (hr : R32 v) : ∃ w', fJ7_fill_53178 kn [.ref 9, hI v] w0 = some (none, w', 0, 0) ∧ hO dBT w0 w' ∧ smW [(2, 9, 0)] w0 w' ∧ ∀ j, j < 10 → gX w' 9 j = v := by
  have K : Tp (tJ7_fill_53178 kn) (fun r => ∃ w', r = (none, w', 0, 0) ∧ hO dBT w0 w' ∧ smW [(2, 9, 0)] w0 w' ∧ ∀ j, j < 10 → gX w' 9 j = v) 0 (lv_args 0 [.ref 9, hI v], [], w0, 0, 0) := by
    have l0 : hL (lv_args 0 [.ref 9, hI v]) (lv_args 0 [.ref 9, hI v]) := hL_ex rfl
    have o0 : hO dBT w0 w0 := hO_rf hw
    have sm := smW_rf [(2, 9, 0)] w0
    refine h_intv k_0 rfl ?_
    refine h_istore rfl l0 (fun v1 l1 => ?_)
    refine h_aload rfl l1 rfl ?_
    refine x_alen rfl o0 ai_9 ?_
    refine h_istore rfl l1 (fun v2 l2 => ?_)
    exact x_fill9_l h1 h2 hr 10 0 w0 _ rfl o0 sm (fun j hj => by omega) l2
  obtain ⟨r, h3, w2, h4, h5⟩ := h_meth1 (nL := 4) rfl K
  rw [h4] at h3
  exact ⟨w2, h3, h5⟩
theorem x_fill10_l {kn : sKn} {w0 : sW} {v : Int} (h1 : (-1) ≤ v) (h2 : v ≤ 9) (hr : R32 v) : ∀ (d i : Nat) (w : sW) (lv : List (Nat × Value)), i + d = 36 → hO dBT w0 w → smW [(2, 10, 0)] w0 w → (∀ j, j < i → gX w 10 j = v) → hL lv [(0, .ref 10), (1, hI v), (2, hI i), (3, hI 36)] → Tp (tJ7_fill_53178 kn) (fun r => ∃ w', r = (none, w', 0, 0) ∧ hO dBT w0 w' ∧ smW [(2, 10, 0)] w0 w' ∧ ∀ j, j < 36 → gX w' 10 j = v) 5 (lv, [], w, 0, 0) := by
  intro d
  induction d with
  | zero =>
    intro i w lv hid o0 sm hi l0
    refine h_iload rfl l0 rfl ?_
    refine h_iload rfl l0 rfl ?_
    refine i_ge (kn := kn) (t := 3) (tgt := 20) (np := 10) rfl (by unfold R32; omega) (by unfold R32; omega) (fun e41 => ?_) (fun e41 => ?_)
    · refine h_vret rfl ?_
      exact ⟨_, rfl, o0, sm, fun j hj => hi j (by omega)⟩
    · omega
  | succ d ih =>
    intro i w lv hid o0 sm hi l0
    refine h_iload rfl l0 rfl ?_
    refine h_iload rfl l0 rfl ?_
    refine i_ge (kn := kn) (t := 3) (tgt := 20) (np := 10) rfl (by unfold R32; omega) (by unfold R32; omega) (fun e41 => ?_) (fun e41 => ?_)
    · omega
    · refine h_aload rfl l0 rfl ?_
      refine h_iload rfl l0 rfl ?_
      refine h_iload rfl l0 rfl ?_
      refine x_iast (i) rfl o0 ai_10 rfl rfl aw_10 (by omega) (by omega) (by omega) (by omega) h1 h2 hr (fun w42 o42 q43a q43X q43F q43J q43Y q43R => ?_)
      refine h_iincv k_1 rfl l0 rfl (fun vl44 l44 => ?_)
      refine h_goto rfl ?_
      exact ih (i + 1) w42 _ (by omega) o42 (smW_tr sm (sm_pX (by decide) q43X q43F q43J q43Y q43R)) (fun j hj => by
        by_cases e : j = i
        · rw [e, q43a]
        · rw [q43X 10 j (fun _ => e)]
          exact hi j (by omega)) l44
theorem x_fill10 {kn : sKn} {w0 : sW} {v : Int} (hw : wOk ZZ w0) (h1 : (-1) ≤ v) (h2 : v ≤ 9) (hr : R32 v) : ∃ w', fJ7_fill_53178 kn [.ref 10, hI v] w0 = some (none, w', 0, 0) ∧ hO dBT w0 w' ∧ smW [(2, 10, 0)] w0 w' ∧ ∀ j, j < 36 → gX w' 10 j = v := by
  have K : Tp (tJ7_fill_53178 kn) (fun r => ∃ w', r = (none, w', 0, 0) ∧ hO dBT w0 w' ∧ smW [(2, 10, 0)] w0 w' ∧ ∀ j, j < 36 → gX w' 10 j = v) 0 (lv_args 0 [.ref 10, hI v], [], w0, 0, 0) := by
    have l0 : hL (lv_args 0 [.ref 10, hI v]) (lv_args 0 [.ref 10, hI v]) := hL_ex rfl
    have o0 : hO dBT w0 w0 := hO_rf hw
    have sm := smW_rf [(2, 10, 0)] w0
    refine h_intv k_0 rfl ?_
    refine h_istore rfl l0 (fun v1 l1 => ?_)
    refine h_aload rfl l1 rfl ?_
    refine x_alen rfl o0 ai_10 ?_
    refine h_istore rfl l1 (fun v2 l2 => ?_)
    exact x_fill10_l h1 h2 hr 36 0 w0 _ rfl o0 sm (fun j hj => by omega) l2
  obtain ⟨r, h3, w2, h4, h5⟩ := h_meth1 (nL := 4) rfl K
  rw [h4] at h3
  exact ⟨w2, h3, h5⟩
theorem x_clear {kn : sKn} {w0 : sW} (hw : wOk ZZ w0) (hP : pl4 w0) : ∃ w', fX6_clear kn [.ref 4] w0 = some (none, w', 0, 0) ∧ hO dBT w0 w' ∧ smW ePl w0 w' ∧ ∀ N, pC zR0 N w' := by
  have K : Tp (tX6_clear kn) (fun r => ∃ w', r = (none, w', 0, 0) ∧ hO dBT w0 w' ∧ smW ePl w0 w' ∧ ∀ N, pC zR0 N w') 0 (lv_args 0 [.ref 4], [], w0, 0, 0) := by
    have l0 : hL (lv_args 0 [.ref 4]) (lv_args 0 [.ref 4]) := hL_ex rfl
    have o0 : hO dBT w0 w0 := hO_rf hw
    have sm := smW_rf ePl w0
    refine h_aload rfl l0 rfl ?_
    refine h_intv k_4 rfl ?_
    refine x_putI rfl o0 fi_4_0 rfl (by omega) (by omega) (fun w41 o41 q42a q42F q42X q42J q42Y q42R => ?_)
    refine h_aload rfl l0 rfl ?_
    refine h_intv k_5 rfl ?_
    refine x_putI rfl o41 fi_4_1 rfl (by omega) (by omega) (fun w43 o43 q44a q44F q44X q44J q44Y q44R => ?_)
    refine h_aload rfl l0 rfl ?_
    refine h_intv k_0 rfl ?_
    refine x_putI rfl o43 fi_4_2 rfl (by omega) (by omega) (fun w45 o45 q46a q46F q46X q46J q46Y q46R => ?_)
    refine h_aload rfl l0 rfl ?_
    refine h_intv k_0 rfl ?_
    refine x_putI rfl o45 fi_4_3 rfl (by omega) (by omega) (fun w47 o47 q48a q48F q48X q48J q48Y q48R => ?_)
    refine h_aload rfl l0 rfl ?_
    refine h_intv k_0 rfl ?_
    refine x_putI rfl o47 fi_4_4 rfl (by omega) (by omega) (fun w49 o49 q50a q50F q50X q50J q50Y q50R => ?_)
    refine h_aload rfl l0 rfl ?_
    refine h_intv k_0 rfl ?_
    refine x_putI rfl o49 fi_4_5 rfl (by omega) (by omega) (fun w51 o51 q52a q52F q52X q52J q52Y q52R => ?_)
    refine h_aload rfl l0 rfl ?_
    refine h_getT rfl o51 (show ztau 4 = some 5 from rfl) frt_5_9 (fun kk53 hkk53 rkk53 => ?_)
    have ekk53 : kk53 = 8 := by
      have := (pl4_sm (smW_tr (smW_tr (smW_tr (smW_tr (smW_tr (smW_tr sm (sm_pI (by decide) q42F q42X q42J q42Y q42R)) (sm_pI (by decide) q44F q44X q44J q44Y q44R)) (sm_pI (by decide) q46F q46X q46J q46Y q46R)) (sm_pI (by decide) q48F q48X q48J q48Y q48R)) (sm_pI (by decide) q50F q50X q50J q50Y q50R)) (sm_pI (by decide) q52F q52X q52J q52Y q52R)) hP).2.2.2.1
      omega
    subst ekk53
    refine h_intv k_n1 rfl ?_
    obtain ⟨wF54, hf54, oF54', sF54, fv54⟩ := x_fill8 (kn := kn) (v := (-1)) o51.1 (by omega) (by omega) ⟨by omega, by omega⟩
    have oF54 := hO_tr o51 oF54'
    refine h_SV2 rfl o51 l0 rfl rfl hf54 ?_
    refine h_aload rfl l0 rfl ?_
    refine h_getT rfl oF54 (show ztau 4 = some 5 from rfl) frt_5_10 (fun kk55 hkk55 rkk55 => ?_)
    have ekk55 : kk55 = 9 := by
      have := (pl4_sm (smW_tr (smW_tr (smW_tr (smW_tr (smW_tr (smW_tr (smW_tr sm (sm_pI (by decide) q42F q42X q42J q42Y q42R)) (sm_pI (by decide) q44F q44X q44J q44Y q44R)) (sm_pI (by decide) q46F q46X q46J q46Y q46R)) (sm_pI (by decide) q48F q48X q48J q48Y q48R)) (sm_pI (by decide) q50F q50X q50J q50Y q50R)) (sm_pI (by decide) q52F q52X q52J q52Y q52R)) (smW_mono (by decide) sF54)) hP).2.2.2.2.1
      omega
    subst ekk55
    refine h_intv k_0 rfl ?_
    obtain ⟨wF56, hf56, oF56', sF56, fv56⟩ := x_fill9 (kn := kn) (v := 0) oF54.1 (by omega) (by omega) ⟨by omega, by omega⟩
    have oF56 := hO_tr oF54 oF56'
    refine h_SV2 rfl oF54 l0 rfl rfl hf56 ?_
    refine h_aload rfl l0 rfl ?_
    refine h_getT rfl oF56 (show ztau 4 = some 5 from rfl) frt_5_11 (fun kk57 hkk57 rkk57 => ?_)
    have ekk57 : kk57 = 10 := by
      have := (pl4_sm (smW_tr (smW_tr (smW_tr (smW_tr (smW_tr (smW_tr (smW_tr (smW_tr sm (sm_pI (by decide) q42F q42X q42J q42Y q42R)) (sm_pI (by decide) q44F q44X q44J q44Y q44R)) (sm_pI (by decide) q46F q46X q46J q46Y q46R)) (sm_pI (by decide) q48F q48X q48J q48Y q48R)) (sm_pI (by decide) q50F q50X q50J q50Y q50R)) (sm_pI (by decide) q52F q52X q52J q52Y q52R)) (smW_mono (by decide) sF54)) (smW_mono (by decide) sF56)) hP).2.2.2.2.2.1
      omega
    subst ekk57
    refine h_intv k_n1 rfl ?_
    obtain ⟨wF58, hf58, oF58', sF58, fv58⟩ := x_fill10 (kn := kn) (v := (-1)) oF56.1 (by omega) (by omega) ⟨by omega, by omega⟩
    have oF58 := hO_tr oF56 oF58'
    refine h_SV2 rfl oF56 l0 rfl rfl hf58 ?_
    refine h_vret rfl ?_
    refine ⟨_, rfl, oF58, smW_tr (smW_tr (smW_tr (smW_tr (smW_tr (smW_tr (smW_tr (smW_tr (smW_tr sm (sm_pI (by decide) q42F q42X q42J q42Y q42R)) (sm_pI (by decide) q44F q44X q44J q44Y q44R)) (sm_pI (by decide) q46F q46X q46J q46Y q46R)) (sm_pI (by decide) q48F q48X q48J q48Y q48R)) (sm_pI (by decide) q50F q50X q50J q50Y q50R)) (sm_pI (by decide) q52F q52X q52J q52Y q52R)) (smW_mono (by decide) sF54)) (smW_mono (by decide) sF56)) (smW_mono (by decide) sF58), fun N => ⟨pl4_sm (smW_tr (smW_tr (smW_tr (smW_tr (smW_tr (smW_tr (smW_tr (smW_tr (smW_tr sm (sm_pI (by decide) q42F q42X q42J q42Y q42R)) (sm_pI (by decide) q44F q44X q44J q44Y q44R)) (sm_pI (by decide) q46F q46X q46J q46Y q46R)) (sm_pI (by decide) q48F q48X q48J q48Y q48R)) (sm_pI (by decide) q50F q50X q50J q50Y q50R)) (sm_pI (by decide) q52F q52X q52J q52Y q52R)) (smW_mono (by decide) sF54)) (smW_mono (by decide) sF56)) (smW_mono (by decide) sF58)) hP, ⟨⟨by rw [sF58.1 4 2 (by decide), sF56.1 4 2 (by decide), sF54.1 4 2 (by decide), q52F 4 2 (by decide), q50F 4 2 (by decide), q48F 4 2 (by decide), q46a] <;> rfl, by rw [sF58.1 4 3 (by decide), sF56.1 4 3 (by decide), sF54.1 4 3 (by decide), q52F 4 3 (by decide), q50F 4 3 (by decide), q48a] <;> rfl⟩, fun s hs => absurd hs (by show ¬ ((s : Int) < 0); omega), fun s hs => absurd hs (by show ¬ ((s : Int) < 0); omega)⟩, ⟨by rw [sF58.1 4 0 (by decide), sF56.1 4 0 (by decide), sF54.1 4 0 (by decide), q52F 4 0 (by decide), q50F 4 0 (by decide), q48F 4 0 (by decide), q46F 4 0 (by decide), q44F 4 0 (by decide), q42a] <;> rfl, by rw [sF58.1 4 1 (by decide), sF56.1 4 1 (by decide), sF54.1 4 1 (by decide), q52F 4 1 (by decide), q50F 4 1 (by decide), q48F 4 1 (by decide), q46F 4 1 (by decide), q44a] <;> rfl, by rw [sF58.1 4 4 (by decide), sF56.1 4 4 (by decide), sF54.1 4 4 (by decide), q52F 4 4 (by decide), q50a] <;> rfl, by rw [sF58.1 4 5 (by decide), sF56.1 4 5 (by decide), sF54.1 4 5 (by decide), q52a] <;> rfl⟩, fun s hs => absurd hs (by show ¬ ((s : Int) < 0); omega), fun s hs => ⟨?_, ?_⟩, fun s hs => ?_, fun s hs => absurd hs (by show ¬ ((s : Int) < 0); omega)⟩⟩
    · rw [sF58.2.2.1 8 s (by decide), sF56.2.2.1 8 s (by decide), fv54 s (by omega)]
      unfold zR0
      rw [if_neg (by omega), if_neg (by omega), if_pos (by omega)]
    · rw [sF58.2.2.1 9 s (by decide), fv56 s (by omega)]
      unfold zR0
      rw [if_neg (by omega), if_neg (by omega), if_neg (by omega)]
    · rw [fv58 s (by omega)]
      unfold zR0
      rw [if_neg (by omega), if_neg (by omega), if_pos (by omega)]
  obtain ⟨r, h1, w2, h2, h3⟩ := h_meth1 (nL := 1) rfl K
  rw [h2] at h1
  exact ⟨w2, h1, h3⟩
def eB9 : List (Nat × Nat × Nat) := eBg ++ [(0, 3, 1), (0, 3, 2), (0, 3, 3), (0, 3, 4)]
theorem x_read {kn : sKn} {w0 : sW} {B : Nat → Int} {n : Nat} (N : Nat → Int) (hw : wOk ZZ w0) (hP : pl4 w0) (hB : ∀ i, i < n → gX w0 2 i = B i) (hn1 : gF w0 1 1 = (n : Int)) (hn940 : n ≤ 940) : ∃ (w' : sW) (b : Int), fX2_read kn [.ref 3, .ref 1] w0 = some (some (hI b), w', 0, 0) ∧ hO dBT w0 w' ∧ smW (eBT ++ [(0, 1, 2)]) w0 w' ∧ zOK (zBridge B n 900 N) b (fun e => gF w' 1 11 = e.1 ∧ gF w' 1 12 = e.2) (fun q => gF w' 3 1 = q.1 ∧ pC q.2.2.1 q.2.2.2.1 w') := by
  have K : Tp (tX2_read kn) (fun r => ∃ (w' : sW) (b : Int), r = (some (hI b), w', 0, 0) ∧ hO dBT w0 w' ∧ smW (eBT ++ [(0, 1, 2)]) w0 w' ∧ zOK (zBridge B n 900 N) b (fun e => gF w' 1 11 = e.1 ∧ gF w' 1 12 = e.2) (fun q => gF w' 3 1 = q.1 ∧ pC q.2.2.1 q.2.2.2.1 w')) 0 (lv_args 0 [.ref 3, .ref 1], [], w0, 0, 0) := by
    have l0 : hL (lv_args 0 [.ref 3, .ref 1]) (lv_args 0 [.ref 3, .ref 1]) := hL_ex rfl
    have o0 : hO dBT w0 w0 := hO_rf hw
    have sm := smW_rf (eBT ++ [(0, 1, 2)]) w0
    refine h_aload rfl l0 rfl ?_
    refine h_getR rfl o0 fr_3_0 ?_
    obtain ⟨wC, hf41, oC', sC, pcC⟩ := x_clear (kn := kn) o0.1 hP
    have oC := hO_tr o0 oC'
    refine h_W1 rfl o0 l0 ci_4 rfl rfl hf41 ?_
    refine h_aload rfl l0 rfl ?_
    refine h_intv k_0 rfl ?_
    refine x_putK (by rfl) rfl oC fi_3_2 rfl (by omega) (by omega) (fun w42 o42 q43a q43F q43X q43J q43Y q43R => ?_)
    refine h_aload rfl l0 rfl ?_
    refine h_intv k_0 rfl ?_
    refine x_putK (by rfl) rfl o42 fi_3_3 rfl (by omega) (by omega) (fun w44 o44 q45a q45F q45X q45J q45Y q45R => ?_)
    refine h_aload rfl l0 rfl ?_
    refine h_intv k_0 rfl ?_
    refine x_putK (by rfl) rfl o44 fi_3_4 rfl (by omega) (by omega) (fun w46 o46 q47a q47F q47X q47J q47Y q47R => ?_)
    refine h_aload rfl l0 rfl ?_
    refine h_intv k_900 rfl ?_
    obtain ⟨wB, hf48, oB', sB, fB, tB⟩ := x_begin900 (kn := kn) o46.1 (B := B) (n := n) (fun i hi => by rw [q47X 2 i, q45X 2 i, q43X 2 i, sC.2.2.1 2 i (by decide), hB i hi]) (by rw [q47F 1 1 (by decide), q45F 1 1 (by decide), q43F 1 1 (by decide), sC.1 1 1 (by decide), hn1]) hn940
    have oB := hO_tr o46 (hO_mono dBT_k oB')
    refine h_W2 rfl o46 l0 ci_1 rfl rfl hf48 ?_
    refine h_aload rfl l0 rfl ?_
    refine h_intv k_0 rfl ?_
    refine x_putI rfl oB fi_3_1 rfl (by omega) (by omega) (fun w49 o49 q50a q50F q50X q50J q50Y q50R => ?_)
    have key := x_rdLoop (kn := kn) (w0 := w49) (B := B) (n := n) 942 (lexT B n 900 0) zR0 N 0 0 0 0 w49 _ 0 rfl (by omega) (by omega) (by omega) rfl ⟨(tkC_sm (smW_tr (smW_rf ePF _) (sm_pI (by decide) q50F q50X q50J q50Y q50R)) (by decide) tB), ⟨0, by omega, rfl⟩, (pC_sm (smW_tr (smW_tr (smW_tr (smW_tr (smW_tr (smW_rf eB9 _) (sm_pI (by decide) q43F q43X q43J q43Y q43R)) (sm_pI (by decide) q45F q45X q45J q45Y q45R)) (sm_pI (by decide) q47F q47X q47J q47Y q47R)) (smW_mono (by decide) sB)) (sm_pI (by decide) q50F q50X q50J q50Y q50R)) (by decide) (pcC N)), by rw [q50F 3 2 (by decide), sB.1 3 2 (by decide), q47F 3 2 (by decide), q45F 3 2 (by decide), q43a], by rw [q50F 3 3 (by decide), sB.1 3 3 (by decide), q47F 3 3 (by decide), q45a], by rw [q50F 3 4 (by decide), sB.1 3 4 (by decide), q47a]⟩ zI_0 (hO_rf o49.1) (smW_rf eBT _) (by rw [q50a]) l0
    refine Tp_mono ?_ key
    intro r hr
    obtain ⟨w', b, e1, e2, e3, e4⟩ := hr
    exact ⟨w', b, e1, hO_tr o49 e2, smW_tr (smW_tr (smW_tr (smW_tr (smW_tr (smW_tr (smW_tr sm (smW_mono (by decide) sC)) (sm_pI (by decide) q43F q43X q43J q43Y q43R)) (sm_pI (by decide) q45F q45X q45J q45Y q45R)) (sm_pI (by decide) q47F q47X q47J q47Y q47R)) (smW_mono (by decide) sB)) (sm_pI (by decide) q50F q50X q50J q50Y q50R)) (smW_mono (by decide) e3), e4⟩
  obtain ⟨r, h1, w2, b, h2, h3⟩ := h_meth1 (nL := 2) rfl K
  rw [h2] at h1
  exact ⟨w2, b, h1, h3⟩
end
