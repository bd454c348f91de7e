noncomputable section
-- ===== allocation =====
def wfV (n : Nat) (v : Value) : Bool := match v with
  | .ref k => Nat.blt k n || Nat.ble 1000000 k
  | _ => true
def wfC (n : Nat) (x : sC) : Bool := match x with
  | .inl (t, vs) => match Nat.blt t 4 with
    | true => true
    | false => xa (wfV n) vs
  | .inr (_, fs) => xa (wfV n) fs
/-- no number of a cell that is not there -/
def wfD (n : Nat) (ss : sS) : Bool := match Nat.blt n 1000000 with
  | true => match xa (fun q => wfV n q.2) ss.1 with
    | true => match xa (wfV n) ss.2.1 with
      | true => xa (wfC n) ss.2.2.1
      | false => false
    | false => false
  | false => false
def wfS (ss : sS) : Bool := wfD (xl ss.2.2.1) ss
theorem dv_ag {n : Nat} {ρ ρ' : Nat → Nat} (h : ag n ρ' ρ) {v : Value} (hv : wfV n v = true) : dv ρ' v = dv ρ v := by
  cases v with
  | ref k =>
    have hv : (Nat.blt k n || Nat.ble 1000000 k) = true := hv
    simp only [Bool.or_eq_true, Nat.blt_eq, Nat.ble_eq] at hv
    show Value.ref (ρ' k) = Value.ref (ρ k)
    rw [h k hv]
  | float u =>
    show Value.int (vi ρ' u) = Value.int (vi ρ u)
    rw [vi_ag (fun k hk => h k (Or.inr hk))]
  | _ => rfl
theorem dv_agL {n : Nat} {ρ ρ' : Nat → Nat} (h : ag n ρ' ρ) {vs : List Value} (hv : vs.all (wfV n) = true) : vs.map (dv ρ') = vs.map (dv ρ) := by
  apply List.map_congr_left
  intro v hm
  exact dv_ag h (List.all_eq_true.mp hv v hm)
theorem dL_ag {n : Nat} {ρ ρ' : Nat → Nat} (h : ag n ρ' ρ) {lv : List (Nat × Value)} (hv : lv.all (fun q => wfV n q.2) = true) : dL ρ' lv = dL ρ lv := by
  apply List.map_congr_left
  intro q hm
  have := List.all_eq_true.mp hv q hm
  rw [dv_ag h this]
theorem dr_ag {n : Nat} {ρ ρ' : Nat → Nat} (h : ag n ρ' ρ) {v : Value} (hv : wfV n v = true) : dr ρ' v = dr ρ v := by
  cases v with
  | ref k =>
    have hv : (Nat.blt k n || Nat.ble 1000000 k) = true := hv
    simp only [Bool.or_eq_true, Nat.blt_eq, Nat.ble_eq] at hv
    show some (ρ' k) = some (ρ k)
    rw [h k hv]
  | _ => rfl
theorem di_ag {n : Nat} {ρ ρ' : Nat → Nat} (h : ag n ρ' ρ) (v : Value) : di ρ' v = di ρ v := by
  cases v with
  | float u => exact vi_ag (fun k hk => h k (Or.inr hk)) u
  | _ => rfl
theorem dA_agI {n : Nat} {ρ ρ' : Nat → Nat} (h : ag n ρ' ρ) (vs : List Value) : (fun j => di ρ' (vs.getD j .null)) = (fun j => di ρ (vs.getD j .null)) := funext (fun j => di_ag h _)
theorem dE_ag {n : Nat} {ρ ρ' : Nat → Nat} {cy : Nat → ClassId} (h : ag n ρ' ρ) {x : sC} (hx : wfC n x = true) : dE ρ' cy x = dE ρ cy x := by
  cases x with
  | inl a =>
    obtain ⟨t, vs⟩ := a
    have hx : (match Nat.blt t 4 with
      | true => true
      | false => xa (wfV n) vs) = true := hx
    show Sum.inl (dA ρ' cy t vs) = Sum.inl (dA ρ cy t vs)
    congr 1
    match t, hx with
    | 0, _ => simp only [dA, dA_agI h]
    | 1, _ => simp only [dA, dA_agI h]
    | 2, _ => rfl
    | 3, _ => simp only [dA, dA_agI h]
    | t + 4, hx =>
      have hv : vs.all (wfV n) = true := by
        have e : Nat.blt (t + 4) 4 = false := by
          rw [Bool.eq_false_iff]
          intro z
          have := Nat.blt_eq.mp z
          omega
        rw [e, xa_eq] at hx
        exact hx
      show (cy (t + 4), vs.length, Sum.inr (Sum.inr (Sum.inr (Sum.inr (fun j => dr ρ' (vs.getD j .null)))))) = (cy (t + 4), vs.length, Sum.inr (Sum.inr (Sum.inr (Sum.inr (fun j => dr ρ (vs.getD j .null))))))
      have ef : (fun j => dr ρ' (vs.getD j .null)) = (fun j => dr ρ (vs.getD j .null)) := by
        funext j
        apply dr_ag h
        by_cases hj : j < vs.length
        · have e : vs.getD j .null = vs[j] := by simp [List.getD, hj]
          rw [e]
          exact List.all_eq_true.mp hv _ (List.getElem_mem hj)
        · have e : vs.getD j .null = .null := by simp [List.getD, hj]
          rw [e]
          rfl
      rw [ef]
  | inr o =>
    obtain ⟨ci, fs⟩ := o
    show Sum.inr (ci, fs.map (dv ρ')) = Sum.inr (ci, fs.map (dv ρ))
    rw [dv_agL h ((xa_eq _ _).symm.trans hx)]
theorem dW_ag {n : Nat} {ρ ρ' : Nat → Nat} {cy : Nat → ClassId} (h : ag n ρ' ρ) {w : sW} (hl : w.length ≤ n) (hw : w.all (wfC n) = true) : dW ρ' cy w = dW ρ cy w := by
  apply List.ext_getElem?
  intro k
  cases hk : w[k]? with
  | none => simp [dW, hk]
  | some x =>
    rw [dW_get hk, dW_get hk, dE_ag h (List.all_eq_true.mp hw x (List.mem_of_getElem? hk)), h k (Or.inl (Nat.lt_of_lt_of_le (List.getElem?_eq_some_iff.mp hk).1 hl))]
/-- the naming with one cell more -/
def ρup (ρ : Nat → Nat) (n q : Nat) : Nat → Nat := fun k => if k = n then q else ρ k
theorem ag_up {ρ : Nat → Nat} {n q : Nat} (h : n < 1000000) : ag n (ρup ρ n q) ρ := by
  intro k hk
  have : ¬ k = n := by omega
  simp [ρup, this]
theorem ag_tr {n m : Nat} {ρ1 ρ2 ρ3 : Nat → Nat} (h : ag m ρ1 ρ2) (h2 : ag n ρ2 ρ3) (hnm : n ≤ m) : ag n ρ1 ρ3 := by
  intro k hk
  rw [h k (hk.elim (fun z => Or.inl (Nat.lt_of_lt_of_le z hnm)) Or.inr), h2 k hk]
theorem dW_new {ρ : Nat → Nat} {cy : Nat → ClassId} {w : sW} {q : Nat} {x : sC} (hl : w.length < 1000000) (hw : w.all (wfC w.length) = true) (hx : wfC w.length x = true) : dW (ρup ρ w.length q) cy (w ++ [x]) = dW ρ cy w ++ [(q, dE ρ cy x)] := by
  have e : dW (ρup ρ w.length q) cy (w ++ [x]) = dW (ρup ρ w.length q) cy w ++ [(ρup ρ w.length q w.length, dE (ρup ρ w.length q) cy x)] := by
    simp [dW]
  rw [e, dW_ag (ag_up hl) (Nat.le_refl _) hw, dE_ag (ag_up hl) hx]
  simp [ρup]
def a_new (ci np : Nat) (fs : List Value) : sA := fun k ss => if wfS ss = true then k np (ss.1, .ref (xl ss.2.2.1) :: ss.2.1, ss.2.2.1 ++ [.inr (ci, fs)], ss.2.2.2.1 + 1, ss.2.2.2.2 + fs.length) else none
/-- what a new array of a kind holds -/
def nuV (t : Nat) : Value := match t with
  | 2 => .long 0
  | 0 => .int 0
  | 1 => .int 0
  | 3 => .int 0
  | _ => .null
def a_newa (t np : Nat) : sA := fun k ss => match ss.2.1 with
  | .int n :: st => if wfS (ss.1, st, ss.2.2) = true ∧ ¬ n < 0 ∧ n.toNatClampNeg ≤ 100000 then k np (ss.1, .ref (xl ss.2.2.1) :: st, ss.2.2.1 ++ [.inl (t, List.replicate n.toNatClampNeg (nuV t))], ss.2.2.2.1 + 1, ss.2.2.2.2 + n.toNatClampNeg) else none
  | _ => none
theorem wfS_p {ss : sS} (h : wfS ss = true) : ss.2.2.1.length < 1000000 ∧ ss.1.all (fun q => wfV ss.2.2.1.length q.2) = true ∧ ss.2.1.all (wfV ss.2.2.1.length) = true ∧ ss.2.2.1.all (wfC ss.2.2.1.length) = true := by
  unfold wfS wfD at h
  simp only [xa_eq, xl_eq] at h
  split at h
  case h_2 => cases h
  rename_i h1
  split at h
  case h_2 => cases h
  rename_i h2
  split at h
  case h_2 => cases h
  rename_i h3
  exact ⟨Nat.blt_eq.mp h1, h2, h3, h⟩
theorem va_RA_one {U : State} {c1 c2 : ClassId} {ty : FieldType} (h1 : va_RA U c1 ty) (h2 : va_RA U c2 ty) : c1 = c2 := by
  cases ty with
  | object C =>
    obtain ⟨_, _, _, _, _, e1⟩ := h1
    obtain ⟨_, _, _, _, _, e2⟩ := h2
    exact Option.some.inj (e1.symm.trans e2)
  | _ => exact Option.some.inj (Eq.trans (Eq.symm h1) h2)
section OKN
variable {kn : sKn} {cc : ByteArray} {own : String} {nL : Nat} {Ts : List Cond} {D : Nat} {ret : Option FieldType} {ini : Bool} {pc : Nat}
theorem ok_new {C : String} {T : u_T} {N ci index : Nat} (hin : ∀ w ∈ u_ws C T N, w ∈ Ts) (hc : vwCl[ci]? = some (C, T, N)) (ty0 : Nat → FieldType) (hty : ∀ k, k < N → parseFieldDescriptor (T k).2.2.1 = some (ty0 k)) (hlink : Cond.classLink own index C ∈ Ts) (hinst : Cond.instantiable C N ∈ Ts) (hini : Cond.initialized C ∈ Ts) {fs : List Value} (hfs : ∀ j, j < N → defaultValue (ty0 j) = vp_V fs j) (hl : fs.length = N) (hr : fs.all (fun v => match v with | .ref _ => false | .float _ => false | _ => true) = true) (hd : decode cc pc = .ok (.new index, 3)) : mOk kn cc own nL Ts D ret ini pc (a_new ci (pc + 3) fs) := by
  intro p l e R s m args below meth c dC dI cy A ρ0 n0 Qc Q r X k hk ss h
  obtain ⟨lv, st, w, nc, ns⟩ := ss
  unfold a_new at h
  rw [xl_eq] at h
  split at h
  · rename_i hwf
    obtain ⟨w1, w2, w3, w4⟩ := wfS_p hwf
    dsimp only at w1 w2 w3 w4 h
    have K := hk _ _ h
    have hb := K.1
    dsimp only at hb
    have hnr : ∀ ρ : Nat → Nat, fs.map (dv ρ) = fs := by
      intro ρ
      conv => rhs; rw [← List.map_id fs]
      apply List.map_congr_left
      intro v hm
      have := List.all_eq_true.mp hr v hm
      cases v <;> first | rfl | cases this
    have hwx : wfC w.length (.inr (ci, fs)) = true := by
      show xa (wfV w.length) fs = true
      rw [xa_eq, List.all_eq_true]
      intro v hm
      have := List.all_eq_true.mp hr v hm
      cases v <;> first | rfl | cases this
    refine ⟨by dsimp only; omega, fun H locs ls ρ hag hn hP hD hS hl' => ?_⟩
    refine va_new (D := (dC, dI)) (ci := ci) (fs := fs) X.1.1 X.1.2.1 X.1.2.2.2.2 hin ty0 hty X.1.2.2.2.1 (X.1.2.2.2.2 _ hlink) (X.1.2.2.2.2 _ hinst) (X.1.2.2.2.2 _ hini) X.2.2.2.1.1 hP hD hS X.2.2.2.2.1 hc hfs (Nat.le_trans hb.1 X.2.2.2.2.2.1.1) (by have := X.2.2.2.2.2.1.2; dsimp only; omega) hd (fun q H1 hP1 hD1 hS1 => ?_)
    have e1 : dW (ρup ρ w.length q) cy (w ++ [.inr (ci, fs)]) = dW ρ cy w ++ [(q, .inr (ci, fs))] := by
      rw [dW_new w1 w4 hwx]
      simp only [dE, hnr]
    have K2 := K.2 H1 locs ls (ρup ρ w.length q) (ag_tr (ag_up w1) hag hn) (by dsimp only; rw [List.length_append]; exact Nat.le_trans hn (Nat.le_add_right _ _)) (by dsimp only; rw [e1]; exact hP1) (by dsimp only; rw [e1]; exact hD1) hS1 (by dsimp only; rw [dL_ag (ag_up w1) w2]; exact hl')
    dsimp only at K2
    rw [List.map_cons, dv_agL (ag_up w1) w3, hl] at K2
    have e2 : dv (ρup ρ w.length q) (.ref w.length) = .ref q := by simp [dv, ρup]
    rw [e2] at K2
    exact K2
  · cases h
theorem ok_newa {atype : ArrayType} {ty : FieldType} {t : Nat} (hty : newarray.typeOf atype = ty) (ht : ∀ cy : Nat → ClassId, (mT cy)[t]? = some (cy t, ty)) (ha : ∀ (cA : ClassId) (N : Nat) (ρ : Nat → Nat) (cy : Nat → ClassId), vp_cell cA (dA ρ cy t (List.replicate N (nuV t))).2 = arrV cA N (fun _ => defaultValue ty)) (hcb : componentBytes ty ≤ 8) (hwf : ∀ n N, wfC n (.inl (t, List.replicate N (nuV t))) = true) (hlink : Cond.arrayClass ty ∈ Ts) (hd : decode cc pc = .ok (.newarray atype, 2)) : mOk kn cc own nL Ts D ret ini pc (a_newa t (pc + 2)) := by
  intro p l e R s m args below meth c dC dI cy A ρ0 n0 Qc Q r X k hk ss h
  obtain ⟨lv, st, w, nc, ns⟩ := ss
  unfold a_newa at h
  split at h
  · rename_i n st' hs
    dsimp only at hs
    subst hs
    split at h
    · rename_i hcnd
      obtain ⟨hw0, hn0, hn1⟩ := hcnd
      obtain ⟨w1, w2, w3, w4⟩ := wfS_p hw0
      dsimp only at w1 w2 w3 w4 h
      rw [xl_eq] at h
      have K := hk _ _ h
      have hb := K.1
      dsimp only at hb
      refine ⟨by dsimp only; omega, fun H locs ls ρ hag hn hP hD hS hl' => ?_⟩
      subst hty
      refine va_newa (D := (dC, dI)) (a0 := (dA ρ cy t (List.replicate n.toNatClampNeg (nuV t))).2) X.1.1 X.1.2.1 (X.1.2.2.2.2 _ hlink) rfl X.2.2.2.1.1 hP hD hS X.2.2.2.2.1 (fun cA => ha cA _ ρ cy) hn0 rfl (by have := Nat.mul_le_mul hn1 hcb; omega) (Nat.le_trans hb.1 X.2.2.2.2.2.1.1) (Nat.le_trans hb.2 X.2.2.2.2.2.1.2) hd (fun q cA H1 hK1 hP1 hD1 hS1 => ?_)
      have ec : cA = cy t := va_RA_one (hK1.2 (mT cy).length (cA, newarray.typeOf atype) (by simp)).2 (X.2.2.2.1.1.2 t _ (ht cy)).2
      subst ec
      have e1 : dW (ρup ρ w.length q) cy (w ++ [.inl (t, List.replicate n.toNatClampNeg (nuV t))]) = dW ρ cy w ++ [(q, .inl (cy t, (dA ρ cy t (List.replicate n.toNatClampNeg (nuV t))).2))] := dW_new w1 w4 (hwf _ _)
      have K2 := K.2 H1 locs ls (ρup ρ w.length q) (ag_tr (ag_up w1) hag hn) (by dsimp only; rw [List.length_append]; exact Nat.le_trans hn (Nat.le_add_right _ _)) (by dsimp only; rw [e1]; exact hP1) (by dsimp only; rw [e1]; exact hD1) hS1 (by dsimp only; rw [dL_ag (ag_up w1) w2]; exact hl')
      dsimp only at K2
      rw [List.map_cons, dv_agL (ag_up w1) w3] at K2
      have e2 : dv (ρup ρ w.length q) (.ref w.length) = .ref q := by simp [dv, ρup]
      rw [e2] at K2
      exact K2
    · cases h
  · cases h
end OKN
end
