noncomputable section
-- ===== switches, constants, statics, arrays of references, arraycopy =====
def a_table (kn : sKn) (lo hi : Int) (offs : List Nat) (dflt : Nat) : sA := fun k ss => match ss.2.1 with
  | .int x :: st => if x.toInt < lo ∨ hi < x.toInt then k dflt (ss.1, st, ss.2.2) else match offs[(x.toInt - lo).toNat]? with
    | some t => k t (ss.1, st, ss.2.2)
    | none => none
  | .float u :: st => match kn.1 2 u (Int32.ofInt lo) with
    | some true => k dflt (ss.1, st, ss.2.2)
    | _ => match kn.1 4 u (Int32.ofInt hi) with
      | some true => k dflt (ss.1, st, ss.2.2)
      | _ => none
  | _ => none
/-- the jumps of a switch, by the offsets -/
def offOk (pc : Nat) (offs : Array Int) (ts : List Nat) : Prop := ∀ (j t : Nat), ts[j]? = some t → ∃ off, offs[j]? = some off ∧ (pc : Int) + off = (t : Int)
def offB (pc : Nat) (offs : List Int) (ts : List Nat) : Bool := match offs, ts with
  | o :: os, t :: r => decide ((pc : Int) + o = (t : Int)) && offB pc os r
  | [], [] => true
  | _, _ => false
theorem offB_ok {pc : Nat} : ∀ {offs : List Int} {ts : List Nat}, offB pc offs ts = true → ∀ (j t : Nat), ts[j]? = some t → ∃ off, offs[j]? = some off ∧ (pc : Int) + off = (t : Int)
  | [], [], _, j, t, h => by simp at h
  | [], _ :: _, h, _, _, _ => by simp [offB] at h
  | _ :: _, [], h, _, _, _ => by simp [offB] at h
  | o :: os, u :: r, h, j, t, hj => by
    simp only [offB, Bool.and_eq_true, decide_eq_true_eq] at h
    match j with
    | 0 =>
      simp at hj
      subst hj
      exact ⟨o, rfl, h.1⟩
    | j + 1 =>
      have := offB_ok h.2 j t (by simpa using hj)
      simpa using this
theorem offB_arr {pc : Nat} {offs : Array Int} {ts : List Nat} (h : offB pc offs.toList ts = true) : offOk pc offs ts := by
  intro j t hj
  obtain ⟨off, h1, h2⟩ := offB_ok h j t hj
  exact ⟨off, by rw [← Array.getElem?_toList]; exact h1, h2⟩
def a_look (ps : List (Int × Nat)) (dflt : Nat) : sA := fun k ss => match ss.2.1 with
  | .int x :: st => match ps.find? (fun q => q.1 == x.toInt) with
    | some q => k q.2 (ss.1, st, ss.2.2)
    | none => k dflt (ss.1, st, ss.2.2)
  | _ => none
def a_gets (h np : Nat) : sA := fun k ss => k np (ss.1, .ref h :: ss.2.1, ss.2.2)
def a_getsI (x : Int32) (np : Nat) : sA := fun k ss => k np (ss.1, .int x :: ss.2.1, ss.2.2)
def a_aald (np : Nat) : sA := fun k ss => match ss.2.1 with
  | .int i :: .ref h :: st => match xg ss.2.2.1 h with
    | some (.inl (4, vs)) => match Nat.blt (ixN i) 2147483648 with
      | true => match xg vs (ixN i) with
        | some v => k np (ss.1, nz v :: st, ss.2.2)
        | none => none
      | false => none
    | some (.inl (5, vs)) => match Nat.blt (ixN i) 2147483648 with
      | true => match xg vs (ixN i) with
        | some v => k np (ss.1, nz v :: st, ss.2.2)
        | none => none
      | false => none
    | some (.inl (6, vs)) => match Nat.blt (ixN i) 2147483648 with
      | true => match xg vs (ixN i) with
        | some v => k np (ss.1, nz v :: st, ss.2.2)
        | none => none
      | false => none
    | _ => none
  | _ => none
/-- the law's script -/
def a_slen (kn : sKn) (np : Nat) : sA := fun k ss => match ss.2.1 with
  | .ref 1000010 :: st => k np (ss.1, .int (Int32.ofNat kn.2.length) :: st, ss.2.2)
  | _ => none
def a_sld (kn : sKn) (np : Nat) : sA := fun k ss => match ss.2.1 with
  | .int i :: .ref 1000010 :: st => if i < 0 ∨ kn.2.length ≤ i.toNatClampNeg then none else match kn.2[i.toNatClampNeg]? with
    | some v => k np (ss.1, v :: st, ss.2.2)
    | none => none
  | _ => none
/-- the class of the elements of an array of references -/
def eC (t : Nat) : Nat := t + 3
def a_aast (np : Nat) : sA := fun k ss => match ss.2.1 with
  | .ref x :: .int i :: .ref h :: st => match xg ss.2.2.1 h, xg ss.2.2.1 x with
    | some (.inl (4, vs)), some (.inr (7, _)) => match Nat.blt (ixN i) 2147483648 with
      | true => match xg vs (ixN i) with
        | some _ => k np (ss.1, st, xs ss.2.2.1 h (.inl (4, xs vs (ixN i) (.ref x))), ss.2.2.2)
        | none => none
      | false => none
    | some (.inl (5, vs)), some (.inr (8, _)) => match Nat.blt (ixN i) 2147483648 with
      | true => match xg vs (ixN i) with
        | some _ => k np (ss.1, st, xs ss.2.2.1 h (.inl (5, xs vs (ixN i) (.ref x))), ss.2.2.2)
        | none => none
      | false => none
    | some (.inl (6, vs)), some (.inr (9, _)) => match Nat.blt (ixN i) 2147483648 with
      | true => match xg vs (ixN i) with
        | some _ => k np (ss.1, st, xs ss.2.2.1 h (.inl (6, xs vs (ixN i) (.ref x))), ss.2.2.2)
        | none => none
      | false => none
    | _, _ => none
  | _ => none
section OKM
variable {kn : sKn} {cc : ByteArray} {own : String} {nL : Nat} {Ts : List Cond} {D : Nat} {ret : Option FieldType} {ini : Bool} {pc : Nat}
theorem ok_table {lo hi d : Int} {offs : Array Int} {ts : List Nat} {len dflt : Nat} (hd : decode cc pc = .ok (.tableswitch d lo hi offs, len)) (ho : offB pc offs.toList ts = true) (hdf : (pc : Int) + d = (dflt : Int)) (hlo : (Int32.ofInt lo).toInt = lo) (hhi : (Int32.ofInt hi).toInt = hi) : mOk kn cc own nL Ts D ret ini pc (a_table kn lo hi ts dflt) := by
  intro p l e R s m args below meth c dC dI cy A ρ0 n0 Qc Q r X k hk ss h
  obtain ⟨lv, st, w, nc, ns⟩ := ss
  unfold a_table at h
  split at h
  · rename_i x st' hs
    dsimp only at hs
    subst hs
    split at h
    · rename_i hx
      have K := hk _ _ h
      exact ⟨K.1, fun H locs ls ρ hag hn hP hD hS hl => lv_tableOut X.1.1 X.1.2.1 hd hx hdf (K.2 H locs ls ρ hag hn hP hD hS hl)⟩
    · rename_i hx
      split at h
      · rename_i t ht
        have K := hk _ _ h
        obtain ⟨off, h1, h2⟩ := offB_arr ho _ t ht
        exact ⟨K.1, fun H locs ls ρ hag hn hP hD hS hl => lv_tableIn X.1.1 X.1.2.1 hd (fun z => hx (Or.inl z)) (fun z => hx (Or.inr z)) h1 h2 (K.2 H locs ls ρ hag hn hP hD hS hl)⟩
      · cases h
  · rename_i u st' hs
    dsimp only at hs
    subst hs
    split at h
    · rename_i hb0
      have K := hk _ _ h
      refine ⟨K.1, fun H locs ls ρ hag hn hP hD hS hl => ?_⟩
      have hb : vi ρ u < Int32.ofInt lo := of_decide_eq_true ((b_lt_d (vi ρ u) (Int32.ofInt lo)).symm.trans ((bsem_2 (vi ρ u) (Int32.ofInt lo)).symm.trans (kn_at X.2.2.2.1.2.1.2.2 hag hb0)))
      rw [Int32.lt_iff_toInt_lt, hlo] at hb
      exact lv_tableOut X.1.1 X.1.2.1 hd (Or.inl hb) hdf (K.2 H locs ls ρ hag hn hP hD hS hl)
    · split at h
      · rename_i hb0
        have K := hk _ _ h
        refine ⟨K.1, fun H locs ls ρ hag hn hP hD hS hl => ?_⟩
        have hb : Int32.ofInt hi < vi ρ u := of_decide_eq_true ((b_gt_d (vi ρ u) (Int32.ofInt hi)).symm.trans ((bsem_4 (vi ρ u) (Int32.ofInt hi)).symm.trans (kn_at X.2.2.2.1.2.1.2.2 hag hb0)))
        rw [Int32.lt_iff_toInt_lt, hhi] at hb
        exact lv_tableOut X.1.1 X.1.2.1 hd (Or.inr hb) hdf (K.2 H locs ls ρ hag hn hP hD hS hl)
      · cases h
  · cases h
theorem ok_ldc {index : Nat} {v : Int32} (hlink : Cond.constant own index v ∈ Ts) (hd : decode cc pc = .ok (.ldc index, 2)) : mOk kn cc own nL Ts D ret ini pc (a_stk (q_int v) (pc + 2)) := by
  intro p l e R s m args below meth c dC dI cy A ρ0 n0 Qc Q r X k hk ss h
  have K := hk _ _ (show k (pc + 2) (ss.1, .int v :: ss.2.1, ss.2.2) = some r from h)
  exact ⟨K.1, fun H locs ls ρ hag hn hP hD hS hl => lv_ldc X.1.1 X.1.2.1 X.1.2.2.2.1 (X.1.2.2.2.2 _ hlink) hd (K.2 H locs ls ρ hag hn hP hD hS hl)⟩
theorem ok_ldc2 {index : Nat} {v : Int64} (hlink : Cond.constantLong own index v ∈ Ts) (hd : decode cc pc = .ok (.ldc2_w index, 3)) : mOk kn cc own nL Ts D ret ini pc (a_stk (q_long v) (pc + 3)) := by
  intro p l e R s m args below meth c dC dI cy A ρ0 n0 Qc Q r X k hk ss h
  have K := hk _ _ (show k (pc + 3) (ss.1, .long v :: ss.2.1, ss.2.2) = some r from h)
  exact ⟨K.1, fun H locs ls ρ hag hn hP hD hS hl => lv_ldc2 X.1.1 X.1.2.1 X.1.2.2.2.1 (X.1.2.2.2.2 _ hlink) hd (K.2 H locs ls ρ hag hn hP hD hS hl)⟩
theorem ok_open {index : Nat} (hlink : Cond.fieldLink own index "SignedBridge" "OPEN" "[I" ∈ Ts) (hd : decode cc pc = .ok (.getstatic index, 3)) : mOk kn cc own nL Ts D ret ini pc (a_gets 1000000 (pc + 3)) := by
  intro p l e R s m args below meth c dC dI cy A ρ0 n0 Qc Q r X k hk ss h
  have K := hk _ _ h
  refine ⟨K.1, fun H locs ls ρ hag hn hP hD hS hl => ?_⟩
  have G := K.2 H locs ls ρ hag hn hP hD hS hl
  dsimp only at G
  rw [List.map_cons, show dv ρ (.ref 1000000) = .ref (ρ 1000000) from rfl, hag 1000000 (Or.inr (by decide))] at G
  exact va_gets X.1.1 X.1.2.1 X.2.2.2.1.2.2.1 hS X.1.2.2.2.1 (X.1.2.2.2.2 _ hlink) (fun _ z => z) hd G
theorem ok_openN {index : Nat} (hlink : (own, index) ∈ nestF) (hd : decode cc pc = .ok (.getstatic index, 3)) : mOk kn cc own nL Ts D ret ini pc (a_gets 1000000 (pc + 3)) := by
  intro p l e R s m args below meth c dC dI cy A ρ0 n0 Qc Q r X k hk ss h
  have K := hk _ _ h
  refine ⟨K.1, fun H locs ls ρ hag hn hP hD hS hl => ?_⟩
  have G := K.2 H locs ls ρ hag hn hP hD hS hl
  dsimp only at G
  rw [List.map_cons, show dv ρ (.ref 1000000) = .ref (ρ 1000000) from rfl, hag 1000000 (Or.inr (by decide))] at G
  exact va_getsN X.1.1 X.1.2.1 X.2.2.2.1.2.2.1 hS X.1.2.2.2.1 (va_Nw.use rfl (X.2.2.2.1.2.1.2.1.2.1 _ hlink)) (fun _ z => z) hd G
theorem ok_sets {index : Nat} (hlink : Cond.fieldLink own index "SignedBridge$Cut" "SETS" "[I" ∈ Ts) (hd : decode cc pc = .ok (.getstatic index, 3)) : mOk kn cc own nL Ts D ret ini pc (a_gets 1000001 (pc + 3)) := by
  intro p l e R s m args below meth c dC dI cy A ρ0 n0 Qc Q r X k hk ss h
  have K := hk _ _ h
  refine ⟨K.1, fun H locs ls ρ hag hn hP hD hS hl => ?_⟩
  have G := K.2 H locs ls ρ hag hn hP hD hS hl
  dsimp only at G
  rw [List.map_cons, show dv ρ (.ref 1000001) = .ref (ρ 1000001) from rfl, hag 1000001 (Or.inr (by decide))] at G
  exact va_gets X.1.1 X.1.2.1 X.2.2.2.1.2.2.2.2.1 hS X.1.2.2.2.1 (X.1.2.2.2.2 _ hlink) (fun _ z => z) hd G
theorem ok_compact {index : Nat} (hlink : Cond.fieldLink own index "java/lang/String" "COMPACT_STRINGS" "Z" ∈ Ts) (hd : decode cc pc = .ok (.getstatic index, 3)) : mOk kn cc own nL Ts D ret ini pc (a_getsI 1 (pc + 3)) := by
  intro p l e R s m args below meth c dC dI cy A ρ0 n0 Qc Q r X k hk ss h
  have K := hk _ _ h
  exact ⟨K.1, fun H locs ls ρ hag hn hP hD hS hl => va_gets X.1.1 X.1.2.1 X.2.2.2.1.2.2.2.2.2.2.1 hS X.1.2.2.2.1 (X.1.2.2.2.2 _ hlink) (fun _ z => z) hd (K.2 H locs ls ρ hag hn hP hD hS hl)⟩
theorem ok_aald (hd : decode cc pc = .ok (.aaload, 1)) : mOk kn cc own nL Ts D ret ini pc (a_aald (pc + 1)) := by
  intro p l e R s m args below meth c dC dI cy A ρ0 n0 Qc Q r X k hk ss h
  obtain ⟨lv, st, w, nc, ns⟩ := ss
  unfold a_aald at h
  split at h
  · rename_i i h0 st' hs
    dsimp only at hs
    subst hs
    split at h
    · rename_i vs hw
      rw [xg_eq] at hw
      split at h
      case h_2 => cases h
      rename_i hb
      split at h
      case h_2 => cases h
      rename_i v hv
      obtain ⟨hin, hlt, hv⟩ := ixN_in (Nat.blt_eq.mp hb) hv
      have K := hk _ _ h
      refine ⟨K.1, fun H locs ls ρ hag hn hP hD hS hl => ?_⟩
      refine va_aldq (C := RX6) X.1.1 X.1.2.1 X.2.2.2.1.1 hP h0 4 (dW_get hw) rfl hin hd ?_
      rw [nz_ok]
      dsimp only
      rw [show vs.getD i.toNatClampNeg .null = v from by simp [List.getD, hv]]
      exact K.2 H locs ls ρ hag hn hP hD hS hl
    · rename_i vs hw
      rw [xg_eq] at hw
      split at h
      case h_2 => cases h
      rename_i hb
      split at h
      case h_2 => cases h
      rename_i v hv
      obtain ⟨hin, hlt, hv⟩ := ixN_in (Nat.blt_eq.mp hb) hv
      have K := hk _ _ h
      refine ⟨K.1, fun H locs ls ρ hag hn hP hD hS hl => ?_⟩
      refine va_aldq (C := RX7) X.1.1 X.1.2.1 X.2.2.2.1.1 hP h0 5 (dW_get hw) rfl hin hd ?_
      rw [nz_ok]
      dsimp only
      rw [show vs.getD i.toNatClampNeg .null = v from by simp [List.getD, hv]]
      exact K.2 H locs ls ρ hag hn hP hD hS hl
    · rename_i vs hw
      rw [xg_eq] at hw
      split at h
      case h_2 => cases h
      rename_i hb
      split at h
      case h_2 => cases h
      rename_i v hv
      obtain ⟨hin, hlt, hv⟩ := ixN_in (Nat.blt_eq.mp hb) hv
      have K := hk _ _ h
      refine ⟨K.1, fun H locs ls ρ hag hn hP hD hS hl => ?_⟩
      refine va_aldq (C := RX8) X.1.1 X.1.2.1 X.2.2.2.1.1 hP h0 6 (dW_get hw) rfl hin hd ?_
      rw [nz_ok]
      dsimp only
      rw [show vs.getD i.toNatClampNeg .null = v from by simp [List.getD, hv]]
      exact K.2 H locs ls ρ hag hn hP hD hS hl
    · cases h
  · cases h
theorem ok_aast (hd : decode cc pc = .ok (.aastore, 1)) : mOk kn cc own nL Ts D ret ini pc (a_aast (pc + 1)) := by
  intro p l e R s m args below meth c dC dI cy A ρ0 n0 Qc Q r X k hk ss h
  obtain ⟨lv, st, w, nc, ns⟩ := ss
  unfold a_aast at h
  split at h
  · rename_i x i h0 st' hs
    dsimp only at hs
    subst hs
    split at h
    · rename_i vs fs hw hw2
      rw [xg_eq] at hw hw2
      split at h
      case h_2 => cases h
      rename_i hb
      split at h
      case h_2 => cases h
      rename_i v0 hv0
      obtain ⟨hin, hlt, hv⟩ := ixN_in (Nat.blt_eq.mp hb) hv0
      · simp only [xs_eq, ← (ixN_ok (Nat.blt_eq.mp hb)).2] at h
        have K := hk _ _ h
        refine ⟨K.1, fun H locs ls ρ hag hn hP hD hS hl => ?_⟩
        refine va_astq (r := (RX6, TX6, 15)) X.1.1 X.1.2.1 X.2.2.2.1.1 hP hD hS h0 4 x 7 (dW_get hw) rfl (dW_get hw2) rfl hin hd (fun H1 locs1 hP1 hD1 hS1 => ?_)
        have e1 : dW ρ cy (w.set h0 (.inl (4, vs.set i.toNatClampNeg (.ref x)))) = (dW ρ cy w).set h0 (ρ h0, .inl (cy 4, vs.length, .inr (.inr (.inr (.inr (va_up (fun j => dr ρ (vs.getD j .null)) i.toNatClampNeg (some (ρ x)))))))) := by
          rw [dW_set, ← dr_set hlt]
          simp [dE, dA]
        exact K.2 H1 locs1 ls ρ hag (by simpa using hn) (by dsimp only; rw [e1]; exact hP1) (by dsimp only; rw [e1]; exact hD1) hS1 hl
    · rename_i vs fs hw hw2
      rw [xg_eq] at hw hw2
      split at h
      case h_2 => cases h
      rename_i hb
      split at h
      case h_2 => cases h
      rename_i v0 hv0
      obtain ⟨hin, hlt, hv⟩ := ixN_in (Nat.blt_eq.mp hb) hv0
      · simp only [xs_eq, ← (ixN_ok (Nat.blt_eq.mp hb)).2] at h
        have K := hk _ _ h
        refine ⟨K.1, fun H locs ls ρ hag hn hP hD hS hl => ?_⟩
        refine va_astq (r := (RX7, TX7, 9)) X.1.1 X.1.2.1 X.2.2.2.1.1 hP hD hS h0 5 x 8 (dW_get hw) rfl (dW_get hw2) rfl hin hd (fun H1 locs1 hP1 hD1 hS1 => ?_)
        have e1 : dW ρ cy (w.set h0 (.inl (5, vs.set i.toNatClampNeg (.ref x)))) = (dW ρ cy w).set h0 (ρ h0, .inl (cy 5, vs.length, .inr (.inr (.inr (.inr (va_up (fun j => dr ρ (vs.getD j .null)) i.toNatClampNeg (some (ρ x)))))))) := by
          rw [dW_set, ← dr_set hlt]
          simp [dE, dA]
        exact K.2 H1 locs1 ls ρ hag (by simpa using hn) (by dsimp only; rw [e1]; exact hP1) (by dsimp only; rw [e1]; exact hD1) hS1 hl
    · rename_i vs fs hw hw2
      rw [xg_eq] at hw hw2
      split at h
      case h_2 => cases h
      rename_i hb
      split at h
      case h_2 => cases h
      rename_i v0 hv0
      obtain ⟨hin, hlt, hv⟩ := ixN_in (Nat.blt_eq.mp hb) hv0
      · simp only [xs_eq, ← (ixN_ok (Nat.blt_eq.mp hb)).2] at h
        have K := hk _ _ h
        refine ⟨K.1, fun H locs ls ρ hag hn hP hD hS hl => ?_⟩
        refine va_astq (r := (RX8, TX8, 9)) X.1.1 X.1.2.1 X.2.2.2.1.1 hP hD hS h0 6 x 9 (dW_get hw) rfl (dW_get hw2) rfl hin hd (fun H1 locs1 hP1 hD1 hS1 => ?_)
        have e1 : dW ρ cy (w.set h0 (.inl (6, vs.set i.toNatClampNeg (.ref x)))) = (dW ρ cy w).set h0 (ρ h0, .inl (cy 6, vs.length, .inr (.inr (.inr (.inr (va_up (fun j => dr ρ (vs.getD j .null)) i.toNatClampNeg (some (ρ x)))))))) := by
          rw [dW_set, ← dr_set hlt]
          simp [dE, dA]
        exact K.2 H1 locs1 ls ρ hag (by simpa using hn) (by dsimp only; rw [e1]; exact hP1) (by dsimp only; rw [e1]; exact hD1) hS1 hl
    · cases h
  · cases h
theorem ok_slen (hd : decode cc pc = .ok (.arraylength, 1)) : mOk kn cc own nL Ts D ret ini pc (a_slen kn (pc + 1)) := by
  intro p l e R s m args below meth c dC dI cy A ρ0 n0 Qc Q r X k hk ss h
  obtain ⟨lv, st, w, nc, ns⟩ := ss
  unfold a_slen at h
  split at h
  · rename_i st' hs
    dsimp only at hs
    subst hs
    have K := hk _ _ h
    obtain ⟨xs, h1, h2, h3, h4⟩ := X.2.2.2.1.2.2.2.2.2.2.2.1
    refine ⟨K.1, fun H locs ls ρ hag hn hP hD hS hl => ?_⟩
    show W p l e R s m args below meth c H locs nc ns _ (F0 m pc ls (.ref (ρ 1000010) :: st'.map (dv ρ)))
    rw [hag 1000010 (Or.inr (by decide))]
    exact va_slen X.1.1 X.1.2.1 h1 h2 h3 hS hd (K.2 H locs ls ρ hag hn hP hD hS hl)
  · cases h
theorem ok_sld (hd : decode cc pc = .ok (.iaload, 1)) : mOk kn cc own nL Ts D ret ini pc (a_sld kn (pc + 1)) := by
  intro p l e R s m args below meth c dC dI cy A ρ0 n0 Qc Q r X k hk ss h
  obtain ⟨lv, st, w, nc, ns⟩ := ss
  unfold a_sld at h
  split at h
  · rename_i i st' hs
    dsimp only at hs
    subst hs
    split at h
    · cases h
    · rename_i hin
      split at h
      · rename_i v hv
        have K := hk _ _ h
        obtain ⟨xs, h1, h2, h3, h4⟩ := X.2.2.2.1.2.2.2.2.2.2.2.1
        refine ⟨K.1, fun H locs ls ρ hag hn hP hD hS hl => ?_⟩
        show W p l e R s m args below meth c H locs nc ns _ (F0 m pc ls (.int i :: .ref (ρ 1000010) :: st'.map (dv ρ)))
        rw [hag 1000010 (Or.inr (by decide))]
        refine va_sld X.1.1 X.1.2.1 h1 h2 h3 hS hin hd ?_
        have G := K.2 H locs ls ρ hag hn hP hD hS hl
        dsimp only at G
        rw [List.map_cons, dv_ags (fun k hk => hag k (Or.inr hk)) (h4 _ v hv)] at G
        exact G
      · cases h
  · cases h
end OKM
end
