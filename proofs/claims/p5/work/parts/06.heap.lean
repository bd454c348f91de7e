noncomputable section
-- ===== fields =====
def ckI (v : Value) : Bool := match v with
  | .int _ => true
  | _ => false
def ckJ (v : Value) : Bool := match v with
  | .long _ => true
  | _ => false
def ckZ (v : Value) : Bool := match v with
  | .int x => x == 0 || x == 1
  | _ => false
def ckB (v : Value) : Bool := match v with
  | .int x => decide (x.toInt8.toInt32 = x) && fits .byte (.int x)
  | _ => false
def ckR (v : Value) : Bool := match v with
  | .ref _ => true
  | .null => true
  | _ => false
/-- what the check takes may lie in a field of the type -/
def ckOk (ty : FieldType) (ck : Value → Bool) : Prop := ∀ (v : Value) (ρ : Nat → Nat), ck v = true → narrow ty (dv ρ v) = dv ρ v ∧ fits ty (dv ρ v) = true
theorem ckI_ok : ckOk .int ckI := by
  intro v ρ h
  cases v <;> first | exact ⟨rfl, rfl⟩ | cases h
theorem ckJ_ok : ckOk .long ckJ := by
  intro v ρ h
  cases v <;> first | exact ⟨rfl, rfl⟩ | cases h
theorem ckZ_ok : ckOk .boolean ckZ := by
  intro v ρ h
  cases v with
  | int x =>
    have h : (x == 0 || x == 1) = true := h
    rcases (by simpa using h : x = 0 ∨ x = 1) with rfl | rfl <;> exact ⟨rfl, rfl⟩
  | _ => cases h
theorem ckB_ok : ckOk .byte ckB := by
  intro v ρ h
  cases v with
  | int x =>
    have h : (decide (x.toInt8.toInt32 = x) && fits .byte (.int x)) = true := h
    have h := Bool.and_eq_true_iff.mp h
    have e := of_decide_eq_true h.1
    refine ⟨?_, h.2⟩
    show narrow .byte (.int x) = .int x
    have := pk_nb x
    rw [e] at this
    exact this
  | _ => cases h
theorem ckR_ok {C : String} : ckOk (.object C) ckR := by
  intro v ρ h
  cases v <;> first | exact ⟨rfl, rfl⟩ | cases h
theorem ckA_ok {t : FieldType} : ckOk (.array t) ckR := by
  intro v ρ h
  cases v <;> first | exact ⟨rfl, rfl⟩ | cases h
def a_get (ci kf np : Nat) : sA := fun k ss => match ss.2.1 with
  | .ref h :: st => match xg ss.2.2.1 h with
    | some (.inr (c', fs)) => match Nat.beq c' ci with
      | true => match xg fs kf with
        | some v => k np (ss.1, v :: st, ss.2.2)
        | none => none
      | false => none
    | _ => none
  | _ => none
def a_put (ci kf : Nat) (ck : Value → Bool) (np : Nat) : sA := fun k ss => match ss.2.1 with
  | v :: .ref h :: st => match xg ss.2.2.1 h with
    | some (.inr (c', fs)) => match Nat.beq c' ci with
      | true => match xg fs kf with
        | some _ => match ck v with
          | true => k np (ss.1, st, xs ss.2.2.1 h (.inr (c', xs fs kf v)), ss.2.2.2)
          | false => none
        | none => none
      | false => none
    | _ => none
  | _ => none
theorem dW_put {ρ : Nat → Nat} {cy : Nat → ClassId} {w : sW} {h ci kf : Nat} {fs : List Value} {v : Value} : dW ρ cy (w.set h (.inr (ci, fs.set kf v))) = (dW ρ cy w).set h (ρ h, .inr (ci, (fs.map (dv ρ)).set kf (dv ρ v))) := by
  rw [dW_set]
  simp only [dE, List.map_set]
section OKF
variable {kn : sKn} {cc : ByteArray} {own : String} {nL : Nat} {Ts : List Cond} {D : Nat} {ret : Option FieldType} {ini : Bool} {pc : Nat}
theorem ok_get {C : String} {T : u_T} {N ci index : Nat} (hin : ∀ w ∈ u_ws C T N, w ∈ Ts) (hc : vwCl[ci]? = some (C, T, N)) (kf : Nat) (hk : kf < N) (hlink : Cond.fieldLink own index (T kf).1 (T kf).2.1 (T kf).2.2.1 ∈ Ts) (hd : decode cc pc = .ok (.getfield index, 3)) : mOk kn cc own nL Ts D ret ini pc (a_get ci kf (pc + 3)) := by
  intro p l e R s m args below meth c dC dI cy A ρ0 n0 Qc Q r X k hk' ss h
  obtain ⟨lv, st, w, nc, ns⟩ := ss
  unfold a_get at h
  split at h
  · rename_i h0 st' hs
    dsimp only at hs
    subst hs
    split at h
    · rename_i c' fs hw
      rw [xg_eq] at hw
      split at h
      · rename_i e'
        have e' := Nat.eq_of_beq_eq_true e'
        subst e'
        split at h
        · rename_i v hv
          rw [xg_eq] at hv
          have K := hk' _ _ h
          exact ⟨K.1, fun H locs ls ρ hag hn hP hD hS hl => va_get (D := (dC, dI)) (v := dv ρ v) X.1.1 X.1.2.1 X.1.2.2.2.2 hin X.1.2.2.2.1 X.2.2.2.1.1 hP h0 (dW_get hw) hc kf hk (X.1.2.2.2.2 _ hlink) (fun _ z => z) (by simp [hv]) hd (K.2 H locs ls ρ hag hn hP hD hS hl)⟩
        · cases h
      · cases h
    · cases h
  · cases h
theorem ok_put {C : String} {T : u_T} {N ci index : Nat} (hin : ∀ w ∈ u_ws C T N, w ∈ Ts) (hc : vwCl[ci]? = some (C, T, N)) (ty0 : Nat → FieldType) (hty : ∀ k, k < N → parseFieldDescriptor (T k).2.2.1 = some (ty0 k)) (hnm : ∀ a, a < N → ∀ b, b < N → a ≠ b → (T a).2.1 ≠ (T b).2.1) (kf : Nat) (hk : kf < N) (hlink : Cond.fieldLink own index (T kf).1 (T kf).2.1 (T kf).2.2.1 ∈ Ts) (hfin : (T kf).2.2.2 = false) {ck : Value → Bool} (hck : ckOk (ty0 kf) ck) (hd : decode cc pc = .ok (.putfield index, 3)) : mOk kn cc own nL Ts D ret ini pc (a_put ci kf ck (pc + 3)) := by
  intro p l e R s m args below meth c dC dI cy A ρ0 n0 Qc Q r X k hk' ss h
  obtain ⟨lv, st, w, nc, ns⟩ := ss
  unfold a_put at h
  split at h
  · rename_i v h0 st' hs
    dsimp only at hs
    subst hs
    split at h
    · rename_i c' fs hw
      rw [xg_eq] at hw
      split at h
      case h_2 => cases h
      rename_i e'
      have e' := Nat.eq_of_beq_eq_true e'
      subst e'
      split at h
      case h_2 => cases h
      rename_i v0 hv0
      rw [xg_eq] at hv0
      have hlen : kf < fs.length := (List.getElem?_eq_some_iff.mp hv0).1
      split at h
      · rename_i hv
        simp only [xs_eq] at h
        have K := hk' _ _ h
        refine ⟨K.1, fun H locs ls ρ hag hn hP hD hS hl => ?_⟩
        refine va_put (D := (dC, dI)) (v := dv ρ v) X.1.1 X.1.2.1 X.1.2.2.2.2 hin ty0 hty hnm X.1.2.2.2.1 X.2.2.2.1.1 hP hD hS h0 (dW_get hw) hc kf hk (X.1.2.2.2.2 _ hlink) (fun _ z => z) hfin (hty kf hk) (hck v ρ hv).1 (hck v ρ hv).2 (by simpa using hlen) hd (fun H1 locs1 hP1 hD1 hS1 => ?_)
        have e1 := dW_put (ρ := ρ) (cy := cy) (w := w) (h := h0) (ci := c') (kf := kf) (fs := fs) (v := v)
        exact K.2 H1 locs1 ls ρ hag (by simpa using hn) (by dsimp only; rw [e1]; exact hP1) (by dsimp only; rw [e1]; exact hD1) hS1 hl
      · cases h
    · cases h
  · cases h
theorem ok_putF {C : String} {T : u_T} {N ci index : Nat} (hin : ∀ w ∈ u_ws C T N, w ∈ Ts) (hc : vwCl[ci]? = some (C, T, N)) (ty0 : Nat → FieldType) (hty : ∀ k, k < N → parseFieldDescriptor (T k).2.2.1 = some (ty0 k)) (hnm : ∀ a, a < N → ∀ b, b < N → a ≠ b → (T a).2.1 ≠ (T b).2.1) (kf : Nat) (hk : kf < N) (hlink : Cond.fieldLink own index (T kf).1 (T kf).2.1 (T kf).2.2.1 ∈ Ts) (hfin : (T kf).2.2.2 = true) (hdecl : (T kf).1 = own) {ck : Value → Bool} (hck : ckOk (ty0 kf) ck) (hd : decode cc pc = .ok (.putfield index, 3)) : mOk kn cc own nL Ts D ret true pc (a_put ci kf ck (pc + 3)) := by
  intro p l e R s m args below meth c dC dI cy A ρ0 n0 Qc Q r X k hk' ss h
  obtain ⟨lv, st, w, nc, ns⟩ := ss
  unfold a_put at h
  split at h
  · rename_i v h0 st' hs
    dsimp only at hs
    subst hs
    split at h
    · rename_i c' fs hw
      rw [xg_eq] at hw
      split at h
      case h_2 => cases h
      rename_i e'
      have e' := Nat.eq_of_beq_eq_true e'
      subst e'
      split at h
      case h_2 => cases h
      rename_i v0 hv0
      rw [xg_eq] at hv0
      have hlen : kf < fs.length := (List.getElem?_eq_some_iff.mp hv0).1
      split at h
      · rename_i hv
        simp only [xs_eq] at h
        have K := hk' _ _ h
        refine ⟨K.1, fun H locs ls ρ hag hn hP hD hS hl => ?_⟩
        refine va_putF (D := (dC, dI)) (v := dv ρ v) X.1.1 X.1.2.1 X.1.2.2.2.2 hin ty0 hty hnm X.1.2.2.2.1 X.2.2.2.1.1 hP hD hS h0 (dW_get hw) hc kf hk (X.1.2.2.2.2 _ hlink) (fun _ z => z) hfin (X.2.2.2.2.2.2.2.1 rfl) hdecl (hty kf hk) (hck v ρ hv).1 (hck v ρ hv).2 (by simpa using hlen) hd (fun H1 locs1 hP1 hD1 hS1 => ?_)
        have e1 := dW_put (ρ := ρ) (cy := cy) (w := w) (h := h0) (ci := c') (kf := kf) (fs := fs) (v := v)
        exact K.2 H1 locs1 ls ρ hag (by simpa using hn) (by dsimp only; rw [e1]; exact hP1) (by dsimp only; rw [e1]; exact hD1) hS1 hl
      · cases h
    · cases h
  · cases h
end OKF
-- ===== arrays =====
/-- an element of an array of ints -/
def dq (v : Value) : Value := match v with
  | .int x => .int x
  | .float u => .float u
  | _ => .int 0
theorem dv_dq (ρ : Nat → Nat) (v : Value) : dv ρ (dq v) = .int (di ρ v) := by cases v <;> rfl
def iq (v : Value) : Bool := match v with
  | .int _ => true
  | .float _ => true
  | _ => false
theorem dv_iq (ρ : Nat → Nat) {v : Value} (h : iq v = true) : dv ρ v = .int (di ρ v) := by cases v <;> first | rfl | cases h
theorem di_set {ρ : Nat → Nat} {vs : List Value} {i : Nat} {v : Value} (h : i < vs.length) : (fun j => di ρ ((vs.set i v).getD j .null)) = upd (fun j => di ρ (vs.getD j .null)) i (di ρ v) := by
  funext j
  by_cases e : j = i
  · subst e
    simp [upd, List.getD, h]
  · have e2 : ¬ i = j := fun z => e z.symm
    simp [upd, List.getD, e, e2]
theorem dl_set {vs : List Value} {i : Nat} {x : Int64} (h : i < vs.length) : (fun j => dl ((vs.set i (.long x)).getD j .null)) = vp_updL (fun j => dl (vs.getD j .null)) i x := by
  funext j
  by_cases e : j = i
  · subst e
    simp [vp_updL, List.getD, h, dl]
  · have e2 : ¬ i = j := fun z => e z.symm
    simp [vp_updL, List.getD, e, e2]
theorem dr_set {ρ : Nat → Nat} {vs : List Value} {i x : Nat} (h : i < vs.length) : (fun j => dr ρ ((vs.set i (.ref x)).getD j .null)) = va_up (fun j => dr ρ (vs.getD j .null)) i (some (ρ x)) := by
  funext j
  by_cases e : j = i
  · subst e
    simp [va_up, List.getD, h, dr]
  · have e2 : ¬ i = j := fun z => e z.symm
    simp [va_up, List.getD, e, e2]
/-- an element of an array of references -/
def nz (v : Value) : Value := match v with
  | .ref k => .ref k
  | _ => .null
theorem nz_ok (ρ : Nat → Nat) (v : Value) : va_rf (dr ρ v) = dv ρ (nz v) := by cases v <;> rfl
def a_iald (np : Nat) : sA := fun k ss => match ss.2.1 with
  | .int i :: .ref h :: st => match xg ss.2.2.1 h with
    | some (.inl (1, vs)) => match Nat.blt (ixN i) 2147483648 with
      | true => match xg vs (ixN i) with
        | some v => k np (ss.1, dq v :: st, ss.2.2)
        | none => none
      | false => none
    | some _ => none
    | none => match Nat.blt (ixN i) 2147483648 with
      | true => match xg (stV h) (ixN i) with
        | some v => k np (ss.1, .int v :: st, ss.2.2)
        | none => none
      | false => none
  | _ => none
def a_iast (np : Nat) : sA := fun k ss => match ss.2.1 with
  | x :: .int i :: .ref h :: st => match iq x with
    | true => match xg ss.2.2.1 h with
      | some (.inl (1, vs)) => match Nat.blt (ixN i) 2147483648 with
        | true => match xg vs (ixN i) with
          | some _ => k np (ss.1, st, xs ss.2.2.1 h (.inl (1, xs vs (ixN i) x)), ss.2.2.2)
          | none => none
        | false => none
      | _ => none
    | false => none
  | _ => none
def a_bald (np : Nat) : sA := fun k ss => match ss.2.1 with
  | .int i :: .ref h :: st => match xg ss.2.2.1 h with
    | some (.inl (0, vs)) => match Nat.blt (ixN i) 2147483648 with
      | true => match xg vs (ixN i) with
        | some v => k np (ss.1, dq v :: st, ss.2.2)
        | none => none
      | false => none
    | some (.inl (3, vs)) => match Nat.blt (ixN i) 2147483648 with
      | true => match xg vs (ixN i) with
        | some v => k np (ss.1, dq v :: st, ss.2.2)
        | none => none
      | false => none
    | _ => none
  | _ => none
def a_bast (np : Nat) : sA := fun k ss => match ss.2.1 with
  | .int x :: .int i :: .ref h :: st => match xg ss.2.2.1 h with
    | some (.inl (0, vs)) => match Nat.blt (ixN i) 2147483648 with
      | true => match xg vs (ixN i) with
        | some _ => k np (ss.1, st, xs ss.2.2.1 h (.inl (0, xs vs (ixN i) (.int (vp_nar .byte x)))), ss.2.2.2)
        | none => none
      | false => none
    | some (.inl (3, vs)) => match Nat.blt (ixN i) 2147483648 with
      | true => match xg vs (ixN i) with
        | some _ => k np (ss.1, st, xs ss.2.2.1 h (.inl (3, xs vs (ixN i) (.int (vp_nar .boolean x)))), ss.2.2.2)
        | none => none
      | false => none
    | _ => none
  | _ => none
def a_lald (np : Nat) : sA := fun k ss => match ss.2.1 with
  | .int i :: .ref h :: st => match xg ss.2.2.1 h with
    | some (.inl (2, vs)) => match Nat.blt (ixN i) 2147483648 with
      | true => match xg vs (ixN i) with
        | some v => k np (ss.1, .long (dl v) :: st, ss.2.2)
        | none => none
      | false => none
    | _ => none
  | _ => none
def a_last (np : Nat) : sA := fun k ss => match ss.2.1 with
  | .long x :: .int i :: .ref h :: st => match xg ss.2.2.1 h with
    | some (.inl (2, vs)) => match Nat.blt (ixN i) 2147483648 with
      | true => match xg vs (ixN i) with
        | some _ => k np (ss.1, st, xs ss.2.2.1 h (.inl (2, xs vs (ixN i) (.long x))), ss.2.2.2)
        | none => none
      | false => none
    | _ => none
  | _ => none
def a_alen (np : Nat) : sA := fun k ss => match ss.2.1 with
  | .ref h :: st => match xg ss.2.2.1 h with
    | some (.inl (t, vs)) => match Nat.blt t 7 with
      | true => k np (ss.1, .int (Int32.ofNat (xl vs)) :: st, ss.2.2)
      | false => none
    | _ => none
  | _ => none
theorem mT_get (cy : Nat → ClassId) {t : Nat} (h : t < 7) : ∃ ty, (mT cy)[t]? = some (cy t, ty) := by
  match t, h with
  | 0, _ => exact ⟨_, rfl⟩
  | 1, _ => exact ⟨_, rfl⟩
  | 2, _ => exact ⟨_, rfl⟩
  | 3, _ => exact ⟨_, rfl⟩
  | 4, _ => exact ⟨_, rfl⟩
  | 5, _ => exact ⟨_, rfl⟩
  | 6, _ => exact ⟨_, rfl⟩
section OKA
variable {kn : sKn} {cc : ByteArray} {own : String} {nL : Nat} {Ts : List Cond} {D : Nat} {ret : Option FieldType} {ini : Bool} {pc : Nat}
theorem ok_alen (hd : decode cc pc = .ok (.arraylength, 1)) : mOk kn cc own nL Ts D ret ini pc (a_alen (pc + 1)) := by
  intro p l e R s m args below meth c dC dI cy A ρ0 n0 Qc Q r X k hk ss h
  obtain ⟨lv, st, w, nc, ns⟩ := ss
  unfold a_alen at h
  split at h
  · rename_i h0 st' hs
    dsimp only at hs
    subst hs
    split at h
    · rename_i t vs hw
      rw [xg_eq] at hw
      split at h
      · rename_i ht
        have ht := Nat.blt_eq.mp ht
        rw [xl_eq] at h
        have K := hk _ _ h
        obtain ⟨ty, hty⟩ := mT_get cy ht
        exact ⟨K.1, fun H locs ls ρ hag hn hP hD hS hl => va_alen X.1.1 X.1.2.1 X.2.2.2.1.1 hP h0 t (dW_get hw) hty rfl hd (K.2 H locs ls ρ hag hn hP hD hS hl)⟩
      · cases h
    · cases h
  · cases h
theorem ok_iald (hd : decode cc pc = .ok (.iaload, 1)) : mOk kn cc own nL Ts D ret ini pc (a_iald (pc + 1)) := by
  intro p l e R s m args below meth c dC dI cy A ρ0 n0 Qc Q r X k hk ss h
  obtain ⟨lv, st, w, nc, ns⟩ := ss
  unfold a_iald at h
  split at h
  · rename_i i h0 st' hs
    dsimp only at hs
    subst hs
    split at h
    · rename_i vs hw
      rw [xg_eq] at hw
      split at h
      case h_2 => cases h
      rename_i hb
      split at h
      case h_2 => cases h
      rename_i v hv
      obtain ⟨hin, hlt, hv⟩ := ixN_in (Nat.blt_eq.mp hb) hv
      have K := hk _ _ h
      refine ⟨K.1, fun H locs ls ρ hag hn hP hD hS hl => va_iald X.1.1 X.1.2.1 X.2.2.2.1.1 hP h0 1 (dW_get hw) rfl hin hd ?_⟩
      have G := K.2 H locs ls ρ hag hn hP hD hS hl
      dsimp only [List.map] at G ⊢
      rw [show vs.getD i.toNatClampNeg .null = v from by simp [List.getD, hv], ← dv_dq]
      exact G
    · cases h
    · split at h
      case h_2 => cases h
      rename_i hb
      split at h
      case h_2 => cases h
      rename_i v hv
      obtain ⟨hin, hlt, hv⟩ := ixN_in (Nat.blt_eq.mp hb) hv
      · have K := hk _ _ h
        have hgd : (stV h0).getD i.toNatClampNeg 0 = v := by simp [List.getD, hv]
        by_cases h1 : h0 = 1000000
        · subst h1
          exact ⟨K.1, fun H locs ls ρ hag hn hP hD hS hl => by
            have e0 : ρ 1000000 = ρ0 1000000 := hag _ (Or.inr (by decide))
            have G := va_ti (t := ρ0 1000000) X.1.1 X.1.2.1 X.2.2.2.1.2.2.2.1 hS (i := i) hin (by rw [← hgd]; rfl) hd (K.2 H locs ls ρ hag hn hP hD hS hl)
            show W p l e R s m args below meth c H locs nc ns _ (F0 m pc ls (.int i :: .ref (ρ 1000000) :: st'.map (dv ρ)))
            rw [e0]
            exact G⟩
        · by_cases h2 : h0 = 1000001
          · subst h2
            exact ⟨K.1, fun H locs ls ρ hag hn hP hD hS hl => by
              have e0 : ρ 1000001 = ρ0 1000001 := hag _ (Or.inr (by decide))
              have G := va_ti (t := ρ0 1000001) X.1.1 X.1.2.1 X.2.2.2.1.2.2.2.2.2.1 hS (i := i) hin (by rw [← hgd]; rfl) hd (K.2 H locs ls ρ hag hn hP hD hS hl)
              show W p l e R s m args below meth c H locs nc ns _ (F0 m pc ls (.int i :: .ref (ρ 1000001) :: st'.map (dv ρ)))
              rw [e0]
              exact G⟩
          · have e3 : stV h0 = [] := by
              unfold stV
              split
              · exact absurd rfl h1
              · exact absurd rfl h2
              · rfl
            rw [e3] at hlt
            exact absurd hlt (Nat.not_lt_zero _)
  · cases h
theorem ok_iast (hd : decode cc pc = .ok (.iastore, 1)) : mOk kn cc own nL Ts D ret ini pc (a_iast (pc + 1)) := by
  intro p l e R s m args below meth c dC dI cy A ρ0 n0 Qc Q r X k hk ss h
  obtain ⟨lv, st, w, nc, ns⟩ := ss
  unfold a_iast at h
  split at h
  · rename_i x i h0 st' hs
    dsimp only at hs
    subst hs
    split at h
    case h_2 => cases h
    rename_i hx
    split at h
    · rename_i vs hw
      rw [xg_eq] at hw
      split at h
      case h_2 => cases h
      rename_i hb
      split at h
      case h_2 => cases h
      rename_i v0 hv0
      obtain ⟨hin, hlt, hv⟩ := ixN_in (Nat.blt_eq.mp hb) hv0
      · simp only [xs_eq, ← (ixN_ok (Nat.blt_eq.mp hb)).2] at h
        have K := hk _ _ h
        refine ⟨K.1, fun H locs ls ρ hag hn hP hD hS hl => ?_⟩
        show W p l e R s m args below meth c H locs nc ns _ (F0 m pc ls (dv ρ x :: .int i :: .ref (ρ h0) :: st'.map (dv ρ)))
        rw [dv_iq ρ hx]
        refine va_iast X.1.1 X.1.2.1 X.2.2.2.1.1 hP hD hS h0 1 (dW_get hw) rfl hin hd (fun H1 locs1 hP1 hD1 hS1 => ?_)
        have e1 : dW ρ cy (w.set h0 (.inl (1, vs.set i.toNatClampNeg x))) = (dW ρ cy w).set h0 (ρ h0, .inl (cy 1, vs.length, .inl (upd (fun j => di ρ (vs.getD j .null)) i.toNatClampNeg (di ρ x)))) := by
          rw [dW_set, ← di_set hlt]
          simp [dE, dA]
        exact K.2 H1 locs1 ls ρ hag (by simpa using hn) (by dsimp only; rw [e1]; exact hP1) (by dsimp only; rw [e1]; exact hD1) hS1 hl
    · cases h
  · cases h
theorem ok_bald (hd : decode cc pc = .ok (.baload, 1)) : mOk kn cc own nL Ts D ret ini pc (a_bald (pc + 1)) := by
  intro p l e R s m args below meth c dC dI cy A ρ0 n0 Qc Q r X k hk ss h
  obtain ⟨lv, st, w, nc, ns⟩ := ss
  unfold a_bald at h
  split at h
  · rename_i i h0 st' hs
    dsimp only at hs
    subst hs
    split at h
    · rename_i vs hw
      rw [xg_eq] at hw
      split at h
      case h_2 => cases h
      rename_i hb
      split at h
      case h_2 => cases h
      rename_i v hv
      obtain ⟨hin, hlt, hv⟩ := ixN_in (Nat.blt_eq.mp hb) hv
      have K := hk _ _ h
      refine ⟨K.1, fun H locs ls ρ hag hn hP hD hS hl => va_bald X.1.1 X.1.2.1 X.2.2.2.1.1 hP h0 0 (dW_get hw) rfl hin hd ?_⟩
      have G := K.2 H locs ls ρ hag hn hP hD hS hl
      dsimp only [List.map] at G ⊢
      rw [show vs.getD i.toNatClampNeg .null = v from by simp [List.getD, hv], ← dv_dq]
      exact G
    · rename_i vs hw
      rw [xg_eq] at hw
      split at h
      case h_2 => cases h
      rename_i hb
      split at h
      case h_2 => cases h
      rename_i v hv
      obtain ⟨hin, hlt, hv⟩ := ixN_in (Nat.blt_eq.mp hb) hv
      have K := hk _ _ h
      refine ⟨K.1, fun H locs ls ρ hag hn hP hD hS hl => va_zald X.1.1 X.1.2.1 X.2.2.2.1.1 hP h0 3 (dW_get hw) rfl hin hd ?_⟩
      have G := K.2 H locs ls ρ hag hn hP hD hS hl
      dsimp only [List.map] at G ⊢
      rw [show vs.getD i.toNatClampNeg .null = v from by simp [List.getD, hv], ← dv_dq]
      exact G
    · cases h
  · cases h
theorem ok_bast (hd : decode cc pc = .ok (.bastore, 1)) : mOk kn cc own nL Ts D ret ini pc (a_bast (pc + 1)) := by
  intro p l e R s m args below meth c dC dI cy A ρ0 n0 Qc Q r X k hk ss h
  obtain ⟨lv, st, w, nc, ns⟩ := ss
  unfold a_bast at h
  split at h
  · rename_i x i h0 st' hs
    dsimp only at hs
    subst hs
    split at h
    · rename_i vs hw
      rw [xg_eq] at hw
      split at h
      case h_2 => cases h
      rename_i hb
      split at h
      case h_2 => cases h
      rename_i v0 hv0
      obtain ⟨hin, hlt, hv⟩ := ixN_in (Nat.blt_eq.mp hb) hv0
      · simp only [xs_eq, ← (ixN_ok (Nat.blt_eq.mp hb)).2] at h
        have K := hk _ _ h
        refine ⟨K.1, fun H locs ls ρ hag hn hP hD hS hl => ?_⟩
        refine va_bast X.1.1 X.1.2.1 X.2.2.2.1.1 hP hD hS h0 0 (dW_get hw) rfl hin hd (fun H1 locs1 hP1 hD1 hS1 => ?_)
        have e1 : dW ρ cy (w.set h0 (.inl (0, vs.set i.toNatClampNeg (.int (vp_nar .byte x))))) = (dW ρ cy w).set h0 (ρ h0, .inl (cy 0, vs.length, .inl (upd (fun j => di ρ (vs.getD j .null)) i.toNatClampNeg (vp_nar .byte x)))) := by
          rw [dW_set, ← (show (fun j => di ρ ((vs.set i.toNatClampNeg (.int (vp_nar .byte x))).getD j .null)) = upd (fun j => di ρ (vs.getD j .null)) i.toNatClampNeg (vp_nar .byte x) from di_set hlt)]
          simp [dE, dA]
        exact K.2 H1 locs1 ls ρ hag (by simpa using hn) (by dsimp only; rw [e1]; exact hP1) (by dsimp only; rw [e1]; exact hD1) hS1 hl
    · rename_i vs hw
      rw [xg_eq] at hw
      split at h
      case h_2 => cases h
      rename_i hb
      split at h
      case h_2 => cases h
      rename_i v0 hv0
      obtain ⟨hin, hlt, hv⟩ := ixN_in (Nat.blt_eq.mp hb) hv0
      · simp only [xs_eq, ← (ixN_ok (Nat.blt_eq.mp hb)).2] at h
        have K := hk _ _ h
        refine ⟨K.1, fun H locs ls ρ hag hn hP hD hS hl => ?_⟩
        refine va_zast X.1.1 X.1.2.1 X.2.2.2.1.1 hP hD hS h0 3 (dW_get hw) rfl hin hd (fun H1 locs1 hP1 hD1 hS1 => ?_)
        have e1 : dW ρ cy (w.set h0 (.inl (3, vs.set i.toNatClampNeg (.int (vp_nar .boolean x))))) = (dW ρ cy w).set h0 (ρ h0, .inl (cy 3, vs.length, .inl (upd (fun j => di ρ (vs.getD j .null)) i.toNatClampNeg (vp_nar .boolean x)))) := by
          rw [dW_set, ← (show (fun j => di ρ ((vs.set i.toNatClampNeg (.int (vp_nar .boolean x))).getD j .null)) = upd (fun j => di ρ (vs.getD j .null)) i.toNatClampNeg (vp_nar .boolean x) from di_set hlt)]
          simp [dE, dA]
        exact K.2 H1 locs1 ls ρ hag (by simpa using hn) (by dsimp only; rw [e1]; exact hP1) (by dsimp only; rw [e1]; exact hD1) hS1 hl
    · cases h
  · cases h
theorem ok_lald (hd : decode cc pc = .ok (.laload, 1)) : mOk kn cc own nL Ts D ret ini pc (a_lald (pc + 1)) := by
  intro p l e R s m args below meth c dC dI cy A ρ0 n0 Qc Q r X k hk ss h
  obtain ⟨lv, st, w, nc, ns⟩ := ss
  unfold a_lald at h
  split at h
  · rename_i i h0 st' hs
    dsimp only at hs
    subst hs
    split at h
    · rename_i vs hw
      rw [xg_eq] at hw
      split at h
      case h_2 => cases h
      rename_i hb
      split at h
      case h_2 => cases h
      rename_i v hv
      obtain ⟨hin, hlt, hv⟩ := ixN_in (Nat.blt_eq.mp hb) hv
      have K := hk _ _ h
      refine ⟨K.1, fun H locs ls ρ hag hn hP hD hS hl => va_lald X.1.1 X.1.2.1 X.2.2.2.1.1 hP h0 2 (dW_get hw) rfl hin hd ?_⟩
      dsimp only
      rw [show vs.getD i.toNatClampNeg .null = v from by simp [List.getD, hv]]
      exact K.2 H locs ls ρ hag hn hP hD hS hl
    · cases h
  · cases h
theorem ok_last (hd : decode cc pc = .ok (.lastore, 1)) : mOk kn cc own nL Ts D ret ini pc (a_last (pc + 1)) := by
  intro p l e R s m args below meth c dC dI cy A ρ0 n0 Qc Q r X k hk ss h
  obtain ⟨lv, st, w, nc, ns⟩ := ss
  unfold a_last at h
  split at h
  · rename_i x i h0 st' hs
    dsimp only at hs
    subst hs
    split at h
    · rename_i vs hw
      rw [xg_eq] at hw
      split at h
      case h_2 => cases h
      rename_i hb
      split at h
      case h_2 => cases h
      rename_i v0 hv0
      obtain ⟨hin, hlt, hv⟩ := ixN_in (Nat.blt_eq.mp hb) hv0
      · simp only [xs_eq, ← (ixN_ok (Nat.blt_eq.mp hb)).2] at h
        have K := hk _ _ h
        refine ⟨K.1, fun H locs ls ρ hag hn hP hD hS hl => ?_⟩
        refine va_last X.1.1 X.1.2.1 X.2.2.2.1.1 hP hD hS h0 2 (dW_get hw) rfl hin hd (fun H1 locs1 hP1 hD1 hS1 => ?_)
        have e1 : dW ρ cy (w.set h0 (.inl (2, vs.set i.toNatClampNeg (.long x)))) = (dW ρ cy w).set h0 (ρ h0, .inl (cy 2, vs.length, .inr (.inl (vp_updL (fun j => dl (vs.getD j .null)) i.toNatClampNeg x)))) := by
          rw [dW_set, ← dl_set hlt]
          simp [dE, dA]
        exact K.2 H1 locs1 ls ρ hag (by simpa using hn) (by dsimp only; rw [e1]; exact hP1) (by dsimp only; rw [e1]; exact hD1) hS1 hl
    · cases h
  · cases h
end OKA
end
