noncomputable section
-- ===== new arrays by kind; arrays of references; wide constants; what is never run =====
theorem di_rep (ρ : Nat → Nat) (N j : Nat) : di ρ ((List.replicate N (.int 0)).getD j .null) = 0 := by
  by_cases h : j < N
  · simp [List.getD, h, di]
  · simp [List.getD, h, di]
theorem dl_rep (N j : Nat) : dl ((List.replicate N (.long 0)).getD j .null) = 0 := by
  by_cases h : j < N
  · simp [List.getD, h, dl]
  · simp [List.getD, h, dl]
theorem dr_rep (ρ : Nat → Nat) (N j : Nat) : dr ρ ((List.replicate N .null).getD j .null) = none := by
  by_cases h : j < N
  · simp [List.getD, h, dr]
  · simp [List.getD, h, dr]
section OKNA
variable {kn : sKn} {cc : ByteArray} {own : String} {nL : Nat} {Ts : List Cond} {D : Nat} {ret : Option FieldType} {ini : Bool} {pc : Nat}
theorem ok_newI (hlink : Cond.arrayClass .int ∈ Ts) (hd : decode cc pc = .ok (.newarray .int, 2)) : mOk kn cc own nL Ts D ret ini pc (a_newa 1 (pc + 2)) :=
  ok_newa (ty := .int) rfl (fun _ => rfl) (fun cA N ρ cy => by simp only [dA, nuV, di_rep, vp_cell, defaultValue, List.length_replicate]) (by decide) (fun _ _ => rfl) hlink hd
theorem ok_newB (hlink : Cond.arrayClass .byte ∈ Ts) (hd : decode cc pc = .ok (.newarray .byte, 2)) : mOk kn cc own nL Ts D ret ini pc (a_newa 0 (pc + 2)) :=
  ok_newa (ty := .byte) rfl (fun _ => rfl) (fun cA N ρ cy => by simp only [dA, nuV, di_rep, vp_cell, defaultValue, List.length_replicate]) (by decide) (fun _ _ => rfl) hlink hd
theorem ok_newZ (hlink : Cond.arrayClass .boolean ∈ Ts) (hd : decode cc pc = .ok (.newarray .boolean, 2)) : mOk kn cc own nL Ts D ret ini pc (a_newa 3 (pc + 2)) :=
  ok_newa (ty := .boolean) rfl (fun _ => rfl) (fun cA N ρ cy => by simp only [dA, nuV, di_rep, vp_cell, defaultValue, List.length_replicate]) (by decide) (fun _ _ => rfl) hlink hd
theorem ok_newJ (hlink : Cond.arrayClass .long ∈ Ts) (hd : decode cc pc = .ok (.newarray .long, 2)) : mOk kn cc own nL Ts D ret ini pc (a_newa 2 (pc + 2)) :=
  ok_newa (ty := .long) rfl (fun _ => rfl) (fun cA N ρ cy => by simp only [dA, nuV, dl_rep, vp_cell, defaultValue, List.length_replicate]) (by decide) (fun _ _ => rfl) hlink hd
theorem ok_newq {C : String} {index t : Nat} (ht4 : 4 ≤ t) (ht : ∀ cy : Nat → ClassId, (mT cy)[t]? = some (cy t, .object C)) (hov : ∀ s : State, va_AO RX6 s ∧ va_AO RX7 s ∧ va_AO RX8 s → va_AO C s) (hlink : Cond.classLink own index C ∈ Ts) (hd : decode cc pc = .ok (.anewarray index, 3)) : mOk kn cc own nL Ts D ret ini pc (a_newa t (pc + 3)) := by
  intro p l e R s m args below meth c dC dI cy A ρ0 n0 Qc Q r X k hk ss h
  obtain ⟨lv, st, w, nc, ns⟩ := ss
  obtain ⟨t, rfl⟩ : ∃ u, t = u + 4 := ⟨t - 4, by omega⟩
  have hnu : nuV (t + 4) = .null := rfl
  unfold a_newa at h
  split at h
  · rename_i n st' hs
    dsimp only at hs
    subst hs
    split at h
    · rename_i hcnd
      obtain ⟨hw0, hn0, hn1⟩ := hcnd
      obtain ⟨w1, w2, w3, w4⟩ := wfS_p hw0
      dsimp only at w1 w2 w3 w4 h
      rw [xl_eq] at h
      have K := hk _ _ h
      have hb := K.1
      dsimp only at hb
      refine ⟨by dsimp only; omega, fun H locs ls ρ hag hn hP hD hS hl' => ?_⟩
      refine va_newq (D := (dC, dI)) X.1.1 X.1.2.1 X.1.2.2.2.1 (X.1.2.2.2.2 _ hlink) (hov s X.2.2.2.1.2.1.1) X.2.2.2.1.1 hP hD hS X.2.2.2.2.1 hn0 rfl (by omega) (Nat.le_trans hb.1 X.2.2.2.2.2.1.1) (Nat.le_trans hb.2 X.2.2.2.2.2.1.2) hd (fun q cA H1 hK1 hP1 hD1 hS1 => ?_)
      have ec : cA = cy (t + 4) := va_RA_one (hK1.2 (mT cy).length (cA, .object C) (by simp)).2 (X.2.2.2.1.1.2 (t + 4) _ (ht cy)).2
      subst ec
      have hwx : wfC w.length (.inl (t + 4, List.replicate n.toNatClampNeg (nuV (t + 4)))) = true := by
        show (match Nat.blt (t + 4) 4 with
          | true => true
          | false => xa (wfV w.length) (List.replicate n.toNatClampNeg (nuV (t + 4)))) = true
        rw [hnu, xa_eq]
        split
        · rfl
        · simp [wfV]
      have e1 : dW (ρup ρ w.length q) cy (w ++ [.inl (t + 4, List.replicate n.toNatClampNeg (nuV (t + 4)))]) = dW ρ cy w ++ [(q, .inl (cy (t + 4), n.toNatClampNeg, .inr (.inr (.inr (.inr (fun _ => none))))))] := by
        rw [dW_new w1 w4 hwx, hnu]
        simp only [dE, dA, dr_rep, List.length_replicate]
      have K2 := K.2 H1 locs ls (ρup ρ w.length q) (ag_tr (ag_up w1) hag hn) (by dsimp only; rw [List.length_append]; exact Nat.le_trans hn (Nat.le_add_right _ _)) (by dsimp only; rw [e1]; exact hP1) (by dsimp only; rw [e1]; exact hD1) hS1 (by dsimp only; rw [dL_ag (ag_up w1) w2]; exact hl')
      dsimp only at K2
      rw [List.map_cons, dv_agL (ag_up w1) w3] at K2
      have e2 : dv (ρup ρ w.length q) (.ref w.length) = .ref q := by simp [dv, ρup]
      rw [e2] at K2
      exact K2
    · cases h
  · cases h
theorem ok_ldcw {index : Nat} {v : Int32} (hlink : Cond.constant own index v ∈ Ts) (hd : decode cc pc = .ok (.ldc_w index, 3)) : mOk kn cc own nL Ts D ret ini pc (a_stk (q_int v) (pc + 3)) := by
  intro p l e R s m args below meth c dC dI cy A ρ0 n0 Qc Q r X k hk ss h
  have K := hk _ _ (show k (pc + 3) (ss.1, .int v :: ss.2.1, ss.2.2) = some r from h)
  exact ⟨K.1, fun H locs ls ρ hag hn hP hD hS hl => lv_ldcw X.1.1 X.1.2.1 X.1.2.2.2.1 (X.1.2.2.2.2 _ hlink) hd (K.2 H locs ls ρ hag hn hP hD hS hl)⟩
/-- what isn't told here -/
def a_none : sA := fun _ _ => none
theorem ok_none : mOk kn cc own nL Ts D ret ini pc a_none := by
  intro p l e R s m args below meth c dC dI cy A ρ0 n0 Qc Q r X k hk ss h
  cases h
/-- Math.max, Math.min, Math.abs -/
def a_mmax (np : Nat) : sA := fun k ss => match ss.2.1 with
  | .int y :: .int x :: st => if (st.map fun v => v.category).sum ≤ 8 then k np (ss.1, .int (if x < y then y else x) :: st, ss.2.2) else none
  | _ => none
def a_mmin (np : Nat) : sA := fun k ss => match ss.2.1 with
  | .int y :: .int x :: st => if (st.map fun v => v.category).sum ≤ 8 then k np (ss.1, .int (if y < x then y else x) :: st, ss.2.2) else none
  | _ => none
def a_mabs (np : Nat) : sA := fun k ss => match ss.2.1 with
  | .int x :: st => if (st.map fun v => v.category).sum ≤ 8 then k np (ss.1, .int (if 0 ≤ x then x else 0 - x) :: st, ss.2.2) else none
  | _ => none
theorem ok_mmax {index : Nat} (hD1 : 1 ≤ D) (hlink : Cond.methodLink own index Lib.Math.max.name ∈ Ts) (hst : Cond.static Lib.Math.max.name ∈ Ts) (hini : Cond.initialized "java/lang/Math" ∈ Ts) (hcode : Cond.code Lib.Math.max.name Lib.Math.max.code 2 (some .int) ∈ Ts) (hd : decode cc pc = .ok (.invokestatic index, 3)) : mOk kn cc own nL Ts D ret ini pc (a_mmax (pc + 3)) := by
  intro p l e R s m args below meth c dC dI cy A ρ0 n0 Qc Q r X k hk ss h
  obtain ⟨lv, st, w, nc, ns⟩ := ss
  have hfr : 1 ≤ R.frames := Nat.le_trans hD1 X.2.2.2.2.2.2.1.1
  have hlo : 40 ≤ R.locals := Nat.le_trans (by omega) X.2.2.2.2.2.2.1.2
  unfold a_mmax at h
  split at h
  · rename_i y x st' hs
    dsimp only at hs
    subst hs
    split at h
    · rename_i hc
      have K := hk _ _ h
      exact ⟨K.1, fun H locs ls ρ hag hn hP hD hS hl => va_mmax X.1.1 X.1.2.1 (X.1.2.2.1.trans hl.1.symm) X.1.2.2.2.1 (X.1.2.2.2.2 _ hlink) (X.1.2.2.2.2 _ hst) (X.1.2.2.2.2 _ hini) (X.1.2.2.2.2 _ hcode) hfr (by rw [cat_map]; omega) (Nat.le_trans K.1.1 X.2.2.2.2.2.1.1) (Nat.le_trans K.1.2 X.2.2.2.2.2.1.2) hd (K.2 H locs ls ρ hag hn hP hD hS hl)⟩
    · cases h
  · cases h
theorem ok_mmin {index : Nat} (hD1 : 1 ≤ D) (hlink : Cond.methodLink own index Lib.Math.min.name ∈ Ts) (hst : Cond.static Lib.Math.min.name ∈ Ts) (hini : Cond.initialized "java/lang/Math" ∈ Ts) (hcode : Cond.code Lib.Math.min.name Lib.Math.min.code 2 (some .int) ∈ Ts) (hd : decode cc pc = .ok (.invokestatic index, 3)) : mOk kn cc own nL Ts D ret ini pc (a_mmin (pc + 3)) := by
  intro p l e R s m args below meth c dC dI cy A ρ0 n0 Qc Q r X k hk ss h
  obtain ⟨lv, st, w, nc, ns⟩ := ss
  have hfr : 1 ≤ R.frames := Nat.le_trans hD1 X.2.2.2.2.2.2.1.1
  have hlo : 40 ≤ R.locals := Nat.le_trans (by omega) X.2.2.2.2.2.2.1.2
  unfold a_mmin at h
  split at h
  · rename_i y x st' hs
    dsimp only at hs
    subst hs
    split at h
    · rename_i hc
      have K := hk _ _ h
      exact ⟨K.1, fun H locs ls ρ hag hn hP hD hS hl => va_mmin X.1.1 X.1.2.1 (X.1.2.2.1.trans hl.1.symm) X.1.2.2.2.1 (X.1.2.2.2.2 _ hlink) (X.1.2.2.2.2 _ hst) (X.1.2.2.2.2 _ hini) (X.1.2.2.2.2 _ hcode) hfr (by rw [cat_map]; omega) (Nat.le_trans K.1.1 X.2.2.2.2.2.1.1) (Nat.le_trans K.1.2 X.2.2.2.2.2.1.2) hd (K.2 H locs ls ρ hag hn hP hD hS hl)⟩
    · cases h
  · cases h
theorem ok_mabs {index : Nat} (hD1 : 1 ≤ D) (hlink : Cond.methodLink own index Lib.Math.abs.name ∈ Ts) (hst : Cond.static Lib.Math.abs.name ∈ Ts) (hini : Cond.initialized "java/lang/Math" ∈ Ts) (hcode : Cond.code Lib.Math.abs.name Lib.Math.abs.code 1 (some .int) ∈ Ts) (hd : decode cc pc = .ok (.invokestatic index, 3)) : mOk kn cc own nL Ts D ret ini pc (a_mabs (pc + 3)) := by
  intro p l e R s m args below meth c dC dI cy A ρ0 n0 Qc Q r X k hk ss h
  obtain ⟨lv, st, w, nc, ns⟩ := ss
  have hfr : 1 ≤ R.frames := Nat.le_trans hD1 X.2.2.2.2.2.2.1.1
  have hlo : 40 ≤ R.locals := Nat.le_trans (by omega) X.2.2.2.2.2.2.1.2
  unfold a_mabs at h
  split at h
  · rename_i x st' hs
    dsimp only at hs
    subst hs
    split at h
    · rename_i hc
      have K := hk _ _ h
      exact ⟨K.1, fun H locs ls ρ hag hn hP hD hS hl => va_mabs X.1.1 X.1.2.1 (X.1.2.2.1.trans hl.1.symm) X.1.2.2.2.1 (X.1.2.2.2.2 _ hlink) (X.1.2.2.2.2 _ hst) (X.1.2.2.2.2 _ hini) (X.1.2.2.2.2 _ hcode) hfr (by rw [cat_map]; omega) (Nat.le_trans K.1.1 X.2.2.2.2.2.1.1) (Nat.le_trans K.1.2 X.2.2.2.2.2.1.2) hd (K.2 H locs ls ρ hag hn hP hD hS hl)⟩
    · cases h
  · cases h
end OKNA
def f_none : List Value → sW → Option sR := fun _ _ => none
theorem m_none {kn : sKn} {y : MethodName} {ws : List Cond} {D : Nat} {vd : Bool} : mM kn y ws D vd f_none := by
  intro l hst dC dI cy av w r h
  cases h
end
