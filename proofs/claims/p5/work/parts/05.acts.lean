noncomputable section
-- ===== locals =====
def l_get (lv : List (Nat × Value)) (i : Nat) : Option Value := List.rec (motive := fun _ => Option Value) none (fun q _ ih => match Nat.beq q.1 i with
  | true => some q.2
  | false => ih) lv
theorem l_get_mem {lv : List (Nat × Value)} {i : Nat} {v : Value} (h : l_get lv i = some v) : (i, v) ∈ lv := by
  induction lv with
  | nil => cases h
  | cons q r ih =>
    have h : (match Nat.beq q.1 i with
      | true => some q.2
      | false => l_get r i) = some v := h
    split at h
    · rename_i e
      cases h
      rw [← Nat.eq_of_beq_eq_true e]
      exact List.mem_cons_self
    · exact List.mem_cons_of_mem _ (ih h)
theorem l_get_has {ls : Array Slot} {nL : Nat} {ρ : Nat → Nat} {lv : List (Nat × Value)} {i : Nat} {v : Value} (hl : lv_has ls nL (dL ρ lv)) (h : l_get lv i = some v) : ls[i]? = some (.val (dv ρ v)) :=
  hl.2.2 (i, dv ρ v) (List.mem_map.mpr ⟨(i, v), l_get_mem h, rfl⟩)
def a_iload (i np : Nat) : sA := fun k ss => match l_get ss.1 i with
  | some (.int x) => k np (ss.1, .int x :: ss.2.1, ss.2.2)
  | some (.float u) => k np (ss.1, .float u :: ss.2.1, ss.2.2)
  | _ => none
def a_lload (i np : Nat) : sA := fun k ss => match l_get ss.1 i with
  | some (.long x) => k np (ss.1, .long x :: ss.2.1, ss.2.2)
  | _ => none
def a_aload (i np : Nat) : sA := fun k ss => match l_get ss.1 i with
  | some (.ref x) => k np (ss.1, .ref x :: ss.2.1, ss.2.2)
  | _ => none
section OKL
variable {kn : sKn} {cc : ByteArray} {own : String} {nL : Nat} {Ts : List Cond} {D : Nat} {ret : Option FieldType} {ini : Bool} {pc : Nat}
theorem ok_iload_n {k4 : Fin 4} {i : Nat} (hd : decode cc pc = .ok (.iload_n k4, 1)) (hi : (k4 : Nat) = i) : mOk kn cc own nL Ts D ret ini pc (a_iload i (pc + 1)) := by
  intro p l e R s m args below meth c dC dI cy A ρ0 n0 Qc Q r X k hk ss h
  unfold a_iload at h
  split at h
  · rename_i x hs
    have K := hk _ _ h
    exact ⟨K.1, fun H locs ls ρ hag hn hP hD hS hl => lv_iload_n X.1.1 X.1.2.1 hd hi (l_get_has hl hs) (K.2 H locs ls ρ hag hn hP hD hS hl)⟩
  · rename_i u hs
    have K := hk _ _ h
    exact ⟨K.1, fun H locs ls ρ hag hn hP hD hS hl => lv_iload_n (x := vi ρ u) X.1.1 X.1.2.1 hd hi (l_get_has hl hs) (K.2 H locs ls ρ hag hn hP hD hS hl)⟩
  · cases h
theorem ok_iload {i : Nat} (hd : decode cc pc = .ok (.iload i, 2)) : mOk kn cc own nL Ts D ret ini pc (a_iload i (pc + 2)) := by
  intro p l e R s m args below meth c dC dI cy A ρ0 n0 Qc Q r X k hk ss h
  unfold a_iload at h
  split at h
  · rename_i x hs
    have K := hk _ _ h
    exact ⟨K.1, fun H locs ls ρ hag hn hP hD hS hl => lv_iload X.1.1 X.1.2.1 hd (l_get_has hl hs) (K.2 H locs ls ρ hag hn hP hD hS hl)⟩
  · rename_i u hs
    have K := hk _ _ h
    exact ⟨K.1, fun H locs ls ρ hag hn hP hD hS hl => lv_iload (x := vi ρ u) X.1.1 X.1.2.1 hd (l_get_has hl hs) (K.2 H locs ls ρ hag hn hP hD hS hl)⟩
  · cases h
theorem ok_lload_n {k4 : Fin 4} {i : Nat} (hd : decode cc pc = .ok (.lload_n k4, 1)) (hi : (k4 : Nat) = i) : mOk kn cc own nL Ts D ret ini pc (a_lload i (pc + 1)) := by
  intro p l e R s m args below meth c dC dI cy A ρ0 n0 Qc Q r X k hk ss h
  unfold a_lload at h
  split at h
  · rename_i x hs
    have K := hk _ _ h
    exact ⟨K.1, fun H locs ls ρ hag hn hP hD hS hl => lv_lload_n X.1.1 X.1.2.1 hd hi (l_get_has hl hs) (K.2 H locs ls ρ hag hn hP hD hS hl)⟩
  · cases h
theorem ok_lload {i : Nat} (hd : decode cc pc = .ok (.lload i, 2)) : mOk kn cc own nL Ts D ret ini pc (a_lload i (pc + 2)) := by
  intro p l e R s m args below meth c dC dI cy A ρ0 n0 Qc Q r X k hk ss h
  unfold a_lload at h
  split at h
  · rename_i x hs
    have K := hk _ _ h
    exact ⟨K.1, fun H locs ls ρ hag hn hP hD hS hl => lv_lload X.1.1 X.1.2.1 hd (l_get_has hl hs) (K.2 H locs ls ρ hag hn hP hD hS hl)⟩
  · cases h
theorem ok_aload_n {k4 : Fin 4} {i : Nat} (hd : decode cc pc = .ok (.aload_n k4, 1)) (hi : (k4 : Nat) = i) : mOk kn cc own nL Ts D ret ini pc (a_aload i (pc + 1)) := by
  intro p l e R s m args below meth c dC dI cy A ρ0 n0 Qc Q r X k hk ss h
  unfold a_aload at h
  split at h
  · rename_i x hs
    have K := hk _ _ h
    exact ⟨K.1, fun H locs ls ρ hag hn hP hD hS hl => lv_aload_n X.1.1 X.1.2.1 hd hi (l_get_has hl hs) (K.2 H locs ls ρ hag hn hP hD hS hl)⟩
  · cases h
theorem ok_aload {i : Nat} (hd : decode cc pc = .ok (.aload i, 2)) : mOk kn cc own nL Ts D ret ini pc (a_aload i (pc + 2)) := by
  intro p l e R s m args below meth c dC dI cy A ρ0 n0 Qc Q r X k hk ss h
  unfold a_aload at h
  split at h
  · rename_i x hs
    have K := hk _ _ h
    exact ⟨K.1, fun H locs ls ρ hag hn hP hD hS hl => lv_aload X.1.1 X.1.2.1 hd (l_get_has hl hs) (K.2 H locs ls ρ hag hn hP hD hS hl)⟩
  · cases h
end OKL
/-- the locals behind a store of one word, of two words -/
def l_cut (lv : List (Nat × Value)) (i : Nat) : List (Nat × Value) := List.rec (motive := fun _ => List (Nat × Value)) [] (fun q _ ih => match Nat.beq q.1 i with
  | true => ih
  | false => match Nat.beq (Nat.add q.1 1) i with
    | true => match Nat.beq q.2.category 2 with
      | true => ih
      | false => q :: ih
    | false => q :: ih) lv
theorem l_cut_eq (lv : List (Nat × Value)) (i : Nat) : l_cut lv i = lv.filter (fun q => !(q.1 == i) && !(q.1 + 1 == i && q.2.category == 2)) := by
  induction lv with
  | nil => rfl
  | cons q r ih =>
    have e : l_cut (q :: r) i = (match Nat.beq q.1 i with
      | true => l_cut r i
      | false => match Nat.beq (Nat.add q.1 1) i with
        | true => match Nat.beq q.2.category 2 with
          | true => l_cut r i
          | false => q :: l_cut r i
        | false => q :: l_cut r i) := rfl
    rw [e, ih, List.filter_cons]
    have eb : ∀ a b : Nat, Nat.beq a b = (a == b) := fun a b => by rw [Bool.eq_iff_iff, Nat.beq_eq, beq_iff_eq]
    have e1 : Nat.beq q.1 i = (q.1 == i) := eb _ _
    have e2 : Nat.beq (Nat.add q.1 1) i = (q.1 + 1 == i) := eb _ _
    have e3 : Nat.beq q.2.category 2 = (q.2.category == 2) := eb _ _
    rw [e1, e2, e3]
    cases (q.1 == i) <;> cases (q.1 + 1 == i) <;> cases (q.2.category == 2) <;> rfl
def l_put (lv : List (Nat × Value)) (i : Nat) (v : Value) : List (Nat × Value) := (i, v) :: l_cut lv i
def l_put2 (lv : List (Nat × Value)) (i : Nat) (v : Value) : List (Nat × Value) := (i, v) :: lv.filter (fun q => !(q.1 == i) && (!(q.1 == i + 1) && !(q.1 + 1 == i && q.2.category == 2)))
theorem dL_put (ρ : Nat → Nat) (lv : List (Nat × Value)) (i : Nat) (v : Value) : (i, dv ρ v) :: (dL ρ lv).filter (fun q => !(q.1 == i) && !(q.1 + 1 == i && q.2.category == 2)) = dL ρ (l_put lv i v) := by
  simp only [l_put, l_cut_eq, dL, List.map_cons, List.filter_map]
  congr 2
  apply List.filter_congr
  intro q _
  simp [Function.comp, dv_cat]
theorem dL_put2 (ρ : Nat → Nat) (lv : List (Nat × Value)) (i : Nat) (v : Value) : (i, dv ρ v) :: (dL ρ lv).filter (fun q => !(q.1 == i) && (!(q.1 == i + 1) && !(q.1 + 1 == i && q.2.category == 2))) = dL ρ (l_put2 lv i v) := by
  simp only [l_put2, dL, List.map_cons, List.filter_map]
  congr 2
  apply List.filter_congr
  intro q _
  simp [Function.comp, dv_cat]
def a_istore (i np : Nat) : sA := fun k ss => match ss.2.1 with
  | .int x :: st => k np (l_put ss.1 i (.int x), st, ss.2.2)
  | .float u :: st => k np (l_put ss.1 i (.float u), st, ss.2.2)
  | _ => none
def a_astore (i np : Nat) : sA := fun k ss => match ss.2.1 with
  | .ref x :: st => k np (l_put ss.1 i (.ref x), st, ss.2.2)
  | _ => none
def a_lstore (i np : Nat) : sA := fun k ss => match ss.2.1 with
  | .long x :: st => k np (l_put2 ss.1 i (.long x), st, ss.2.2)
  | _ => none
def a_iinc (i : Nat) (d : Int32) (np : Nat) : sA := fun k ss => match l_get ss.1 i with
  | some (.int x) => k np (l_put ss.1 i (.int (x + d)), ss.2)
  | _ => none
section OKS
variable {kn : sKn} {cc : ByteArray} {own : String} {nL : Nat} {Ts : List Cond} {D : Nat} {ret : Option FieldType} {ini : Bool} {pc : Nat}
theorem ok_istore_n {k4 : Fin 4} {i : Nat} (hd : decode cc pc = .ok (.istore_n k4, 1)) (hi : (k4 : Nat) = i) (hn : i < nL) : mOk kn cc own nL Ts D ret ini pc (a_istore i (pc + 1)) := by
  intro p l e R s m args below meth c dC dI cy A ρ0 n0 Qc Q r X k hk ss h
  obtain ⟨lv, st, w, nc, ns⟩ := ss
  unfold a_istore at h
  split at h
  · rename_i x st' hs
    have K := hk _ _ h
    dsimp only at hs
    subst hs
    exact ⟨K.1, fun H locs ls ρ hag hn0 hP hD hS hl => lv_istore_n X.1.1 X.1.2.1 hd hi hl hn (dL_put ρ lv i (.int x)) (fun ls' hl' => K.2 H locs ls' ρ hag hn0 hP hD hS hl')⟩
  · rename_i u st' hs
    have K := hk _ _ h
    dsimp only at hs
    subst hs
    exact ⟨K.1, fun H locs ls ρ hag hn0 hP hD hS hl => lv_istore_n X.1.1 X.1.2.1 hd hi hl hn (dL_put ρ lv i (.float u)) (fun ls' hl' => K.2 H locs ls' ρ hag hn0 hP hD hS hl')⟩
  · cases h
theorem ok_istore {i : Nat} (hd : decode cc pc = .ok (.istore i, 2)) (hn : i < nL) : mOk kn cc own nL Ts D ret ini pc (a_istore i (pc + 2)) := by
  intro p l e R s m args below meth c dC dI cy A ρ0 n0 Qc Q r X k hk ss h
  obtain ⟨lv, st, w, nc, ns⟩ := ss
  unfold a_istore at h
  split at h
  · rename_i x st' hs
    have K := hk _ _ h
    dsimp only at hs
    subst hs
    exact ⟨K.1, fun H locs ls ρ hag hn0 hP hD hS hl => lv_istore X.1.1 X.1.2.1 hd hl hn (dL_put ρ lv i (.int x)) (fun ls' hl' => K.2 H locs ls' ρ hag hn0 hP hD hS hl')⟩
  · rename_i u st' hs
    have K := hk _ _ h
    dsimp only at hs
    subst hs
    exact ⟨K.1, fun H locs ls ρ hag hn0 hP hD hS hl => lv_istore X.1.1 X.1.2.1 hd hl hn (dL_put ρ lv i (.float u)) (fun ls' hl' => K.2 H locs ls' ρ hag hn0 hP hD hS hl')⟩
  · cases h
theorem ok_astore_n {k4 : Fin 4} {i : Nat} (hd : decode cc pc = .ok (.astore_n k4, 1)) (hi : (k4 : Nat) = i) (hn : i < nL) : mOk kn cc own nL Ts D ret ini pc (a_astore i (pc + 1)) := by
  intro p l e R s m args below meth c dC dI cy A ρ0 n0 Qc Q r X k hk ss h
  obtain ⟨lv, st, w, nc, ns⟩ := ss
  unfold a_astore at h
  split at h
  · rename_i x st' hs
    have K := hk _ _ h
    dsimp only at hs
    subst hs
    exact ⟨K.1, fun H locs ls ρ hag hn0 hP hD hS hl => lv_astore_n X.1.1 X.1.2.1 hd hi hl hn (dL_put ρ lv i (.ref x)) (fun ls' hl' => K.2 H locs ls' ρ hag hn0 hP hD hS hl')⟩
  · cases h
theorem ok_astore {i : Nat} (hd : decode cc pc = .ok (.astore i, 2)) (hn : i < nL) : mOk kn cc own nL Ts D ret ini pc (a_astore i (pc + 2)) := by
  intro p l e R s m args below meth c dC dI cy A ρ0 n0 Qc Q r X k hk ss h
  obtain ⟨lv, st, w, nc, ns⟩ := ss
  unfold a_astore at h
  split at h
  · rename_i x st' hs
    have K := hk _ _ h
    dsimp only at hs
    subst hs
    exact ⟨K.1, fun H locs ls ρ hag hn0 hP hD hS hl => lv_astore X.1.1 X.1.2.1 hd hl hn (dL_put ρ lv i (.ref x)) (fun ls' hl' => K.2 H locs ls' ρ hag hn0 hP hD hS hl')⟩
  · cases h
theorem ok_lstore {i : Nat} (hd : decode cc pc = .ok (.lstore i, 2)) (hn : i + 1 < nL) : mOk kn cc own nL Ts D ret ini pc (a_lstore i (pc + 2)) := by
  intro p l e R s m args below meth c dC dI cy A ρ0 n0 Qc Q r X k hk ss h
  obtain ⟨lv, st, w, nc, ns⟩ := ss
  unfold a_lstore at h
  split at h
  · rename_i x st' hs
    have K := hk _ _ h
    dsimp only at hs
    subst hs
    exact ⟨K.1, fun H locs ls ρ hag hn0 hP hD hS hl => lv_lstore X.1.1 X.1.2.1 hd hl hn (dL_put2 ρ lv i (.long x)) (fun ls' hl' => K.2 H locs ls' ρ hag hn0 hP hD hS hl')⟩
  · cases h
theorem ok_iinc {i : Nat} {n : Int} {d : Int32} (hd : decode cc pc = .ok (.iinc i n, 3)) (hv : Int32.ofInt n = d) (hn : i < nL) : mOk kn cc own nL Ts D ret ini pc (a_iinc i d (pc + 3)) := by
  intro p l e R s m args below meth c dC dI cy A ρ0 n0 Qc Q r X k hk ss h
  obtain ⟨lv, st, w, nc, ns⟩ := ss
  unfold a_iinc at h
  split at h
  · rename_i x hs
    have K := hk _ _ h
    obtain ⟨j, hj⟩ := List.getElem?_of_mem (l_get_mem hs)
    exact ⟨K.1, fun H locs ls ρ hag hn0 hP hD hS hl => lv_iinc (k := j) (x := x) X.1.1 X.1.2.1 hd hl (by simp [dL, hj, dv]) (by rw [hv]) hn (dL_put ρ lv i (.int (x + d))) (fun ls' hl' => K.2 H locs ls' ρ hag hn0 hP hD hS hl')⟩
  · cases h
end OKS
-- ===== branches =====
theorem bsem_0 (x y : Int32) : bsem 0 x y = b_eq x y := rfl
theorem bsem_10 (x y : Int32) : bsem 10 x y = b_eq y x := rfl
theorem bsem_1 (x y : Int32) : bsem 1 x y = b_ne x y := rfl
theorem bsem_11 (x y : Int32) : bsem 11 x y = b_ne y x := rfl
theorem bsem_2 (x y : Int32) : bsem 2 x y = b_lt x y := rfl
theorem bsem_12 (x y : Int32) : bsem 12 x y = b_lt y x := rfl
theorem bsem_3 (x y : Int32) : bsem 3 x y = b_ge x y := rfl
theorem bsem_13 (x y : Int32) : bsem 13 x y = b_ge y x := rfl
theorem bsem_4 (x y : Int32) : bsem 4 x y = b_gt x y := rfl
theorem bsem_14 (x y : Int32) : bsem 14 x y = b_gt y x := rfl
theorem bsem_5 (x y : Int32) : bsem 5 x y = b_le x y := rfl
theorem bsem_15 (x y : Int32) : bsem 15 x y = b_le y x := rfl
def a_icmp (kn : sKn) (b : Int32 → Int32 → Bool) (t tgt np : Nat) : sA := fun k ss => match ss.2.1 with
  | .int y :: .int x :: st => match b x y with
    | true => k tgt (ss.1, st, ss.2.2)
    | false => k np (ss.1, st, ss.2.2)
  | .int y :: .float u :: st => match kn.1 t u y with
    | some true => k tgt (ss.1, st, ss.2.2)
    | some false => k np (ss.1, st, ss.2.2)
    | none => none
  | .float u :: .int x :: st => match kn.1 (t + 10) u x with
    | some true => k tgt (ss.1, st, ss.2.2)
    | some false => k np (ss.1, st, ss.2.2)
    | none => none
  | _ => none
def a_if (kn : sKn) (b : Int32 → Int32 → Bool) (t tgt np : Nat) : sA := fun k ss => match ss.2.1 with
  | .int x :: st => match b x 0 with
    | true => k tgt (ss.1, st, ss.2.2)
    | false => k np (ss.1, st, ss.2.2)
  | .float u :: st => match kn.1 t u 0 with
    | some true => k tgt (ss.1, st, ss.2.2)
    | some false => k np (ss.1, st, ss.2.2)
    | none => none
  | _ => none
def a_goto (tgt : Nat) : sA := fun k ss => k tgt ss
section OKB
variable {kn : sKn} {cc : ByteArray} {own : String} {nL : Nat} {Ts : List Cond} {D : Nat} {ret : Option FieldType} {ini : Bool} {pc : Nat}
theorem ok_goto {off : Int} {tgt : Nat} (hd : decode cc pc = .ok (.goto off, 3)) (ht : (pc : Int) + off = (tgt : Int)) : mOk kn cc own nL Ts D ret ini pc (a_goto tgt) := by
  intro p l e R s m args below meth c dC dI cy A ρ0 n0 Qc Q r X k hk ss h
  have K := hk _ _ h
  exact ⟨K.1, fun H locs ls ρ hag hn hP hD hS hl => lv_goto X.1.1 X.1.2.1 hd ht (K.2 H locs ls ρ hag hn hP hD hS hl)⟩
theorem kn_at {ρ ρ0 : Nat → Nat} {n0 t : Nat} {u : UInt32} {y : Int32} {b : Bool} (hk : knOk kn ρ0) (hag : ag n0 ρ ρ0) (h : kn.1 t u y = some b) : bsem t (vi ρ u) y = b := by
  rw [vi_ag (fun k hk => hag k (Or.inr hk))]
  exact hk.1 t u y b h
theorem okg_icmp_eq {b : Int32 → Int32 → Bool} (hbd : ∀ x y, b x y = decide (x = y)) (hbs : ∀ x y, bsem 0 x y = b x y) (hbt : ∀ x y, bsem 10 x y = b y x) {off : Int} {tgt : Nat} (hd : decode cc pc = .ok (.if_icmp .eq off, 3)) (ht : (pc : Int) + off = (tgt : Int)) : mOk kn cc own nL Ts D ret ini pc (a_icmp kn b 0 tgt (pc + 3)) := by
  intro p l e R s m args below meth c dC dI cy A ρ0 n0 Qc Q r X k hk ss h
  obtain ⟨lv, st, w, nc, ns⟩ := ss
  unfold a_icmp at h
  split at h
  · rename_i y x st' hs
    dsimp only at hs
    subst hs
    split at h
    · rename_i hb0
      have K := hk _ _ h
      refine ⟨K.1, fun H locs ls ρ hag hn hP hD hS hl => ?_⟩
      have hb := of_decide_eq_true ((hbd x y).symm.trans hb0)
      exact lv_icmp_eq X.1.1 X.1.2.1 hd ht (fun _ => K.2 H locs ls ρ hag hn hP hD hS hl) (fun z => absurd hb z)
    · rename_i hb0
      have K := hk _ _ h
      refine ⟨K.1, fun H locs ls ρ hag hn hP hD hS hl => ?_⟩
      have hb := of_decide_eq_false ((hbd x y).symm.trans hb0)
      exact lv_icmp_eq X.1.1 X.1.2.1 hd ht (fun z => absurd z hb) (fun _ => K.2 H locs ls ρ hag hn hP hD hS hl)
  · rename_i y u st' hs
    dsimp only at hs
    subst hs
    split at h
    · rename_i hb0
      have K := hk _ _ h
      refine ⟨K.1, fun H locs ls ρ hag hn hP hD hS hl => ?_⟩
      have hb := of_decide_eq_true ((hbd (vi ρ u) y).symm.trans ((hbs (vi ρ u) y).symm.trans (kn_at X.2.2.2.1.2.1.2.2 hag hb0)))
      exact lv_icmp_eq X.1.1 X.1.2.1 hd ht (fun _ => K.2 H locs ls ρ hag hn hP hD hS hl) (fun z => absurd hb z)
    · rename_i hb0
      have K := hk _ _ h
      refine ⟨K.1, fun H locs ls ρ hag hn hP hD hS hl => ?_⟩
      have hb := of_decide_eq_false ((hbd (vi ρ u) y).symm.trans ((hbs (vi ρ u) y).symm.trans (kn_at X.2.2.2.1.2.1.2.2 hag hb0)))
      exact lv_icmp_eq X.1.1 X.1.2.1 hd ht (fun z => absurd z hb) (fun _ => K.2 H locs ls ρ hag hn hP hD hS hl)
    · cases h
  · rename_i u x st' hs
    dsimp only at hs
    subst hs
    split at h
    · rename_i hb0
      have K := hk _ _ h
      refine ⟨K.1, fun H locs ls ρ hag hn hP hD hS hl => ?_⟩
      have hb := of_decide_eq_true ((hbd x (vi ρ u)).symm.trans ((hbt (vi ρ u) x).symm.trans (kn_at X.2.2.2.1.2.1.2.2 hag hb0)))
      exact lv_icmp_eq X.1.1 X.1.2.1 hd ht (fun _ => K.2 H locs ls ρ hag hn hP hD hS hl) (fun z => absurd hb z)
    · rename_i hb0
      have K := hk _ _ h
      refine ⟨K.1, fun H locs ls ρ hag hn hP hD hS hl => ?_⟩
      have hb := of_decide_eq_false ((hbd x (vi ρ u)).symm.trans ((hbt (vi ρ u) x).symm.trans (kn_at X.2.2.2.1.2.1.2.2 hag hb0)))
      exact lv_icmp_eq X.1.1 X.1.2.1 hd ht (fun z => absurd z hb) (fun _ => K.2 H locs ls ρ hag hn hP hD hS hl)
    · cases h
  · cases h
theorem ok_icmp_eq {off : Int} {tgt : Nat} (hd : decode cc pc = .ok (.if_icmp .eq off, 3)) (ht : (pc : Int) + off = (tgt : Int)) : mOk kn cc own nL Ts D ret ini pc (a_icmp kn b_eq 0 tgt (pc + 3)) := okg_icmp_eq b_eq_d bsem_0 bsem_10 hd ht
theorem okg_if_eq {b : Int32 → Int32 → Bool} (hbd : ∀ x y, b x y = decide (x = y)) (hbs : ∀ x y, bsem 0 x y = b x y) (hbt : ∀ x y, bsem 10 x y = b y x) {off : Int} {tgt : Nat} (hd : decode cc pc = .ok (.ifCond .eq off, 3)) (ht : (pc : Int) + off = (tgt : Int)) : mOk kn cc own nL Ts D ret ini pc (a_if kn b 0 tgt (pc + 3)) := by
  intro p l e R s m args below meth c dC dI cy A ρ0 n0 Qc Q r X k hk ss h
  obtain ⟨lv, st, w, nc, ns⟩ := ss
  unfold a_if at h
  split at h
  · rename_i x st' hs
    dsimp only at hs
    subst hs
    split at h
    · rename_i hb0
      have K := hk _ _ h
      refine ⟨K.1, fun H locs ls ρ hag hn hP hD hS hl => ?_⟩
      have hb := of_decide_eq_true ((hbd x 0).symm.trans hb0)
      exact lv_if_eq X.1.1 X.1.2.1 hd ht (fun _ => K.2 H locs ls ρ hag hn hP hD hS hl) (fun z => absurd hb z)
    · rename_i hb0
      have K := hk _ _ h
      refine ⟨K.1, fun H locs ls ρ hag hn hP hD hS hl => ?_⟩
      have hb := of_decide_eq_false ((hbd x 0).symm.trans hb0)
      exact lv_if_eq X.1.1 X.1.2.1 hd ht (fun z => absurd z hb) (fun _ => K.2 H locs ls ρ hag hn hP hD hS hl)
  · rename_i u st' hs
    dsimp only at hs
    subst hs
    split at h
    · rename_i hb0
      have K := hk _ _ h
      refine ⟨K.1, fun H locs ls ρ hag hn hP hD hS hl => ?_⟩
      have hb := of_decide_eq_true ((hbd (vi ρ u) 0).symm.trans ((hbs (vi ρ u) 0).symm.trans (kn_at X.2.2.2.1.2.1.2.2 hag hb0)))
      exact lv_if_eq X.1.1 X.1.2.1 hd ht (fun _ => K.2 H locs ls ρ hag hn hP hD hS hl) (fun z => absurd hb z)
    · rename_i hb0
      have K := hk _ _ h
      refine ⟨K.1, fun H locs ls ρ hag hn hP hD hS hl => ?_⟩
      have hb := of_decide_eq_false ((hbd (vi ρ u) 0).symm.trans ((hbs (vi ρ u) 0).symm.trans (kn_at X.2.2.2.1.2.1.2.2 hag hb0)))
      exact lv_if_eq X.1.1 X.1.2.1 hd ht (fun z => absurd z hb) (fun _ => K.2 H locs ls ρ hag hn hP hD hS hl)
    · cases h
  · cases h
theorem ok_if_eq {off : Int} {tgt : Nat} (hd : decode cc pc = .ok (.ifCond .eq off, 3)) (ht : (pc : Int) + off = (tgt : Int)) : mOk kn cc own nL Ts D ret ini pc (a_if kn b_eq 0 tgt (pc + 3)) := okg_if_eq b_eq_d bsem_0 bsem_10 hd ht
theorem okg_icmp_ne {b : Int32 → Int32 → Bool} (hbd : ∀ x y, b x y = decide (¬ x = y)) (hbs : ∀ x y, bsem 1 x y = b x y) (hbt : ∀ x y, bsem 11 x y = b y x) {off : Int} {tgt : Nat} (hd : decode cc pc = .ok (.if_icmp .ne off, 3)) (ht : (pc : Int) + off = (tgt : Int)) : mOk kn cc own nL Ts D ret ini pc (a_icmp kn b 1 tgt (pc + 3)) := by
  intro p l e R s m args below meth c dC dI cy A ρ0 n0 Qc Q r X k hk ss h
  obtain ⟨lv, st, w, nc, ns⟩ := ss
  unfold a_icmp at h
  split at h
  · rename_i y x st' hs
    dsimp only at hs
    subst hs
    split at h
    · rename_i hb0
      have K := hk _ _ h
      refine ⟨K.1, fun H locs ls ρ hag hn hP hD hS hl => ?_⟩
      have hb := of_decide_eq_true ((hbd x y).symm.trans hb0)
      exact lv_icmp_ne X.1.1 X.1.2.1 hd ht (fun _ => K.2 H locs ls ρ hag hn hP hD hS hl) (fun z => absurd z hb)
    · rename_i hb0
      have K := hk _ _ h
      refine ⟨K.1, fun H locs ls ρ hag hn hP hD hS hl => ?_⟩
      have hb := of_decide_eq_false ((hbd x y).symm.trans hb0)
      exact lv_icmp_ne X.1.1 X.1.2.1 hd ht (fun z => absurd z hb) (fun _ => K.2 H locs ls ρ hag hn hP hD hS hl)
  · rename_i y u st' hs
    dsimp only at hs
    subst hs
    split at h
    · rename_i hb0
      have K := hk _ _ h
      refine ⟨K.1, fun H locs ls ρ hag hn hP hD hS hl => ?_⟩
      have hb := of_decide_eq_true ((hbd (vi ρ u) y).symm.trans ((hbs (vi ρ u) y).symm.trans (kn_at X.2.2.2.1.2.1.2.2 hag hb0)))
      exact lv_icmp_ne X.1.1 X.1.2.1 hd ht (fun _ => K.2 H locs ls ρ hag hn hP hD hS hl) (fun z => absurd z hb)
    · rename_i hb0
      have K := hk _ _ h
      refine ⟨K.1, fun H locs ls ρ hag hn hP hD hS hl => ?_⟩
      have hb := of_decide_eq_false ((hbd (vi ρ u) y).symm.trans ((hbs (vi ρ u) y).symm.trans (kn_at X.2.2.2.1.2.1.2.2 hag hb0)))
      exact lv_icmp_ne X.1.1 X.1.2.1 hd ht (fun z => absurd z hb) (fun _ => K.2 H locs ls ρ hag hn hP hD hS hl)
    · cases h
  · rename_i u x st' hs
    dsimp only at hs
    subst hs
    split at h
    · rename_i hb0
      have K := hk _ _ h
      refine ⟨K.1, fun H locs ls ρ hag hn hP hD hS hl => ?_⟩
      have hb := of_decide_eq_true ((hbd x (vi ρ u)).symm.trans ((hbt (vi ρ u) x).symm.trans (kn_at X.2.2.2.1.2.1.2.2 hag hb0)))
      exact lv_icmp_ne X.1.1 X.1.2.1 hd ht (fun _ => K.2 H locs ls ρ hag hn hP hD hS hl) (fun z => absurd z hb)
    · rename_i hb0
      have K := hk _ _ h
      refine ⟨K.1, fun H locs ls ρ hag hn hP hD hS hl => ?_⟩
      have hb := of_decide_eq_false ((hbd x (vi ρ u)).symm.trans ((hbt (vi ρ u) x).symm.trans (kn_at X.2.2.2.1.2.1.2.2 hag hb0)))
      exact lv_icmp_ne X.1.1 X.1.2.1 hd ht (fun z => absurd z hb) (fun _ => K.2 H locs ls ρ hag hn hP hD hS hl)
    · cases h
  · cases h
theorem ok_icmp_ne {off : Int} {tgt : Nat} (hd : decode cc pc = .ok (.if_icmp .ne off, 3)) (ht : (pc : Int) + off = (tgt : Int)) : mOk kn cc own nL Ts D ret ini pc (a_icmp kn b_ne 1 tgt (pc + 3)) := okg_icmp_ne b_ne_d bsem_1 bsem_11 hd ht
theorem okg_if_ne {b : Int32 → Int32 → Bool} (hbd : ∀ x y, b x y = decide (¬ x = y)) (hbs : ∀ x y, bsem 1 x y = b x y) (hbt : ∀ x y, bsem 11 x y = b y x) {off : Int} {tgt : Nat} (hd : decode cc pc = .ok (.ifCond .ne off, 3)) (ht : (pc : Int) + off = (tgt : Int)) : mOk kn cc own nL Ts D ret ini pc (a_if kn b 1 tgt (pc + 3)) := by
  intro p l e R s m args below meth c dC dI cy A ρ0 n0 Qc Q r X k hk ss h
  obtain ⟨lv, st, w, nc, ns⟩ := ss
  unfold a_if at h
  split at h
  · rename_i x st' hs
    dsimp only at hs
    subst hs
    split at h
    · rename_i hb0
      have K := hk _ _ h
      refine ⟨K.1, fun H locs ls ρ hag hn hP hD hS hl => ?_⟩
      have hb := of_decide_eq_true ((hbd x 0).symm.trans hb0)
      exact lv_if_ne X.1.1 X.1.2.1 hd ht (fun _ => K.2 H locs ls ρ hag hn hP hD hS hl) (fun z => absurd z hb)
    · rename_i hb0
      have K := hk _ _ h
      refine ⟨K.1, fun H locs ls ρ hag hn hP hD hS hl => ?_⟩
      have hb := of_decide_eq_false ((hbd x 0).symm.trans hb0)
      exact lv_if_ne X.1.1 X.1.2.1 hd ht (fun z => absurd z hb) (fun _ => K.2 H locs ls ρ hag hn hP hD hS hl)
  · rename_i u st' hs
    dsimp only at hs
    subst hs
    split at h
    · rename_i hb0
      have K := hk _ _ h
      refine ⟨K.1, fun H locs ls ρ hag hn hP hD hS hl => ?_⟩
      have hb := of_decide_eq_true ((hbd (vi ρ u) 0).symm.trans ((hbs (vi ρ u) 0).symm.trans (kn_at X.2.2.2.1.2.1.2.2 hag hb0)))
      exact lv_if_ne X.1.1 X.1.2.1 hd ht (fun _ => K.2 H locs ls ρ hag hn hP hD hS hl) (fun z => absurd z hb)
    · rename_i hb0
      have K := hk _ _ h
      refine ⟨K.1, fun H locs ls ρ hag hn hP hD hS hl => ?_⟩
      have hb := of_decide_eq_false ((hbd (vi ρ u) 0).symm.trans ((hbs (vi ρ u) 0).symm.trans (kn_at X.2.2.2.1.2.1.2.2 hag hb0)))
      exact lv_if_ne X.1.1 X.1.2.1 hd ht (fun z => absurd z hb) (fun _ => K.2 H locs ls ρ hag hn hP hD hS hl)
    · cases h
  · cases h
theorem ok_if_ne {off : Int} {tgt : Nat} (hd : decode cc pc = .ok (.ifCond .ne off, 3)) (ht : (pc : Int) + off = (tgt : Int)) : mOk kn cc own nL Ts D ret ini pc (a_if kn b_ne 1 tgt (pc + 3)) := okg_if_ne b_ne_d bsem_1 bsem_11 hd ht
theorem okg_icmp_lt {b : Int32 → Int32 → Bool} (hbd : ∀ x y, b x y = decide (x < y)) (hbs : ∀ x y, bsem 2 x y = b x y) (hbt : ∀ x y, bsem 12 x y = b y x) {off : Int} {tgt : Nat} (hd : decode cc pc = .ok (.if_icmp .lt off, 3)) (ht : (pc : Int) + off = (tgt : Int)) : mOk kn cc own nL Ts D ret ini pc (a_icmp kn b 2 tgt (pc + 3)) := by
  intro p l e R s m args below meth c dC dI cy A ρ0 n0 Qc Q r X k hk ss h
  obtain ⟨lv, st, w, nc, ns⟩ := ss
  unfold a_icmp at h
  split at h
  · rename_i y x st' hs
    dsimp only at hs
    subst hs
    split at h
    · rename_i hb0
      have K := hk _ _ h
      refine ⟨K.1, fun H locs ls ρ hag hn hP hD hS hl => ?_⟩
      have hb := of_decide_eq_true ((hbd x y).symm.trans hb0)
      exact lv_icmp_lt X.1.1 X.1.2.1 hd ht (fun _ => K.2 H locs ls ρ hag hn hP hD hS hl) (fun z => absurd hb z)
    · rename_i hb0
      have K := hk _ _ h
      refine ⟨K.1, fun H locs ls ρ hag hn hP hD hS hl => ?_⟩
      have hb := of_decide_eq_false ((hbd x y).symm.trans hb0)
      exact lv_icmp_lt X.1.1 X.1.2.1 hd ht (fun z => absurd z hb) (fun _ => K.2 H locs ls ρ hag hn hP hD hS hl)
  · rename_i y u st' hs
    dsimp only at hs
    subst hs
    split at h
    · rename_i hb0
      have K := hk _ _ h
      refine ⟨K.1, fun H locs ls ρ hag hn hP hD hS hl => ?_⟩
      have hb := of_decide_eq_true ((hbd (vi ρ u) y).symm.trans ((hbs (vi ρ u) y).symm.trans (kn_at X.2.2.2.1.2.1.2.2 hag hb0)))
      exact lv_icmp_lt X.1.1 X.1.2.1 hd ht (fun _ => K.2 H locs ls ρ hag hn hP hD hS hl) (fun z => absurd hb z)
    · rename_i hb0
      have K := hk _ _ h
      refine ⟨K.1, fun H locs ls ρ hag hn hP hD hS hl => ?_⟩
      have hb := of_decide_eq_false ((hbd (vi ρ u) y).symm.trans ((hbs (vi ρ u) y).symm.trans (kn_at X.2.2.2.1.2.1.2.2 hag hb0)))
      exact lv_icmp_lt X.1.1 X.1.2.1 hd ht (fun z => absurd z hb) (fun _ => K.2 H locs ls ρ hag hn hP hD hS hl)
    · cases h
  · rename_i u x st' hs
    dsimp only at hs
    subst hs
    split at h
    · rename_i hb0
      have K := hk _ _ h
      refine ⟨K.1, fun H locs ls ρ hag hn hP hD hS hl => ?_⟩
      have hb := of_decide_eq_true ((hbd x (vi ρ u)).symm.trans ((hbt (vi ρ u) x).symm.trans (kn_at X.2.2.2.1.2.1.2.2 hag hb0)))
      exact lv_icmp_lt X.1.1 X.1.2.1 hd ht (fun _ => K.2 H locs ls ρ hag hn hP hD hS hl) (fun z => absurd hb z)
    · rename_i hb0
      have K := hk _ _ h
      refine ⟨K.1, fun H locs ls ρ hag hn hP hD hS hl => ?_⟩
      have hb := of_decide_eq_false ((hbd x (vi ρ u)).symm.trans ((hbt (vi ρ u) x).symm.trans (kn_at X.2.2.2.1.2.1.2.2 hag hb0)))
      exact lv_icmp_lt X.1.1 X.1.2.1 hd ht (fun z => absurd z hb) (fun _ => K.2 H locs ls ρ hag hn hP hD hS hl)
    · cases h
  · cases h
theorem ok_icmp_lt {off : Int} {tgt : Nat} (hd : decode cc pc = .ok (.if_icmp .lt off, 3)) (ht : (pc : Int) + off = (tgt : Int)) : mOk kn cc own nL Ts D ret ini pc (a_icmp kn b_lt 2 tgt (pc + 3)) := okg_icmp_lt b_lt_d bsem_2 bsem_12 hd ht
theorem okg_if_lt {b : Int32 → Int32 → Bool} (hbd : ∀ x y, b x y = decide (x < y)) (hbs : ∀ x y, bsem 2 x y = b x y) (hbt : ∀ x y, bsem 12 x y = b y x) {off : Int} {tgt : Nat} (hd : decode cc pc = .ok (.ifCond .lt off, 3)) (ht : (pc : Int) + off = (tgt : Int)) : mOk kn cc own nL Ts D ret ini pc (a_if kn b 2 tgt (pc + 3)) := by
  intro p l e R s m args below meth c dC dI cy A ρ0 n0 Qc Q r X k hk ss h
  obtain ⟨lv, st, w, nc, ns⟩ := ss
  unfold a_if at h
  split at h
  · rename_i x st' hs
    dsimp only at hs
    subst hs
    split at h
    · rename_i hb0
      have K := hk _ _ h
      refine ⟨K.1, fun H locs ls ρ hag hn hP hD hS hl => ?_⟩
      have hb := of_decide_eq_true ((hbd x 0).symm.trans hb0)
      exact lv_if_lt X.1.1 X.1.2.1 hd ht (fun _ => K.2 H locs ls ρ hag hn hP hD hS hl) (fun z => absurd hb z)
    · rename_i hb0
      have K := hk _ _ h
      refine ⟨K.1, fun H locs ls ρ hag hn hP hD hS hl => ?_⟩
      have hb := of_decide_eq_false ((hbd x 0).symm.trans hb0)
      exact lv_if_lt X.1.1 X.1.2.1 hd ht (fun z => absurd z hb) (fun _ => K.2 H locs ls ρ hag hn hP hD hS hl)
  · rename_i u st' hs
    dsimp only at hs
    subst hs
    split at h
    · rename_i hb0
      have K := hk _ _ h
      refine ⟨K.1, fun H locs ls ρ hag hn hP hD hS hl => ?_⟩
      have hb := of_decide_eq_true ((hbd (vi ρ u) 0).symm.trans ((hbs (vi ρ u) 0).symm.trans (kn_at X.2.2.2.1.2.1.2.2 hag hb0)))
      exact lv_if_lt X.1.1 X.1.2.1 hd ht (fun _ => K.2 H locs ls ρ hag hn hP hD hS hl) (fun z => absurd hb z)
    · rename_i hb0
      have K := hk _ _ h
      refine ⟨K.1, fun H locs ls ρ hag hn hP hD hS hl => ?_⟩
      have hb := of_decide_eq_false ((hbd (vi ρ u) 0).symm.trans ((hbs (vi ρ u) 0).symm.trans (kn_at X.2.2.2.1.2.1.2.2 hag hb0)))
      exact lv_if_lt X.1.1 X.1.2.1 hd ht (fun z => absurd z hb) (fun _ => K.2 H locs ls ρ hag hn hP hD hS hl)
    · cases h
  · cases h
theorem ok_if_lt {off : Int} {tgt : Nat} (hd : decode cc pc = .ok (.ifCond .lt off, 3)) (ht : (pc : Int) + off = (tgt : Int)) : mOk kn cc own nL Ts D ret ini pc (a_if kn b_lt 2 tgt (pc + 3)) := okg_if_lt b_lt_d bsem_2 bsem_12 hd ht
theorem okg_icmp_ge {b : Int32 → Int32 → Bool} (hbd : ∀ x y, b x y = decide (y ≤ x)) (hbs : ∀ x y, bsem 3 x y = b x y) (hbt : ∀ x y, bsem 13 x y = b y x) {off : Int} {tgt : Nat} (hd : decode cc pc = .ok (.if_icmp .ge off, 3)) (ht : (pc : Int) + off = (tgt : Int)) : mOk kn cc own nL Ts D ret ini pc (a_icmp kn b 3 tgt (pc + 3)) := by
  intro p l e R s m args below meth c dC dI cy A ρ0 n0 Qc Q r X k hk ss h
  obtain ⟨lv, st, w, nc, ns⟩ := ss
  unfold a_icmp at h
  split at h
  · rename_i y x st' hs
    dsimp only at hs
    subst hs
    split at h
    · rename_i hb0
      have K := hk _ _ h
      refine ⟨K.1, fun H locs ls ρ hag hn hP hD hS hl => ?_⟩
      have hb := of_decide_eq_true ((hbd x y).symm.trans hb0)
      exact lv_icmp_ge X.1.1 X.1.2.1 hd ht (fun _ => K.2 H locs ls ρ hag hn hP hD hS hl) (fun z => absurd hb z)
    · rename_i hb0
      have K := hk _ _ h
      refine ⟨K.1, fun H locs ls ρ hag hn hP hD hS hl => ?_⟩
      have hb := of_decide_eq_false ((hbd x y).symm.trans hb0)
      exact lv_icmp_ge X.1.1 X.1.2.1 hd ht (fun z => absurd z hb) (fun _ => K.2 H locs ls ρ hag hn hP hD hS hl)
  · rename_i y u st' hs
    dsimp only at hs
    subst hs
    split at h
    · rename_i hb0
      have K := hk _ _ h
      refine ⟨K.1, fun H locs ls ρ hag hn hP hD hS hl => ?_⟩
      have hb := of_decide_eq_true ((hbd (vi ρ u) y).symm.trans ((hbs (vi ρ u) y).symm.trans (kn_at X.2.2.2.1.2.1.2.2 hag hb0)))
      exact lv_icmp_ge X.1.1 X.1.2.1 hd ht (fun _ => K.2 H locs ls ρ hag hn hP hD hS hl) (fun z => absurd hb z)
    · rename_i hb0
      have K := hk _ _ h
      refine ⟨K.1, fun H locs ls ρ hag hn hP hD hS hl => ?_⟩
      have hb := of_decide_eq_false ((hbd (vi ρ u) y).symm.trans ((hbs (vi ρ u) y).symm.trans (kn_at X.2.2.2.1.2.1.2.2 hag hb0)))
      exact lv_icmp_ge X.1.1 X.1.2.1 hd ht (fun z => absurd z hb) (fun _ => K.2 H locs ls ρ hag hn hP hD hS hl)
    · cases h
  · rename_i u x st' hs
    dsimp only at hs
    subst hs
    split at h
    · rename_i hb0
      have K := hk _ _ h
      refine ⟨K.1, fun H locs ls ρ hag hn hP hD hS hl => ?_⟩
      have hb := of_decide_eq_true ((hbd x (vi ρ u)).symm.trans ((hbt (vi ρ u) x).symm.trans (kn_at X.2.2.2.1.2.1.2.2 hag hb0)))
      exact lv_icmp_ge X.1.1 X.1.2.1 hd ht (fun _ => K.2 H locs ls ρ hag hn hP hD hS hl) (fun z => absurd hb z)
    · rename_i hb0
      have K := hk _ _ h
      refine ⟨K.1, fun H locs ls ρ hag hn hP hD hS hl => ?_⟩
      have hb := of_decide_eq_false ((hbd x (vi ρ u)).symm.trans ((hbt (vi ρ u) x).symm.trans (kn_at X.2.2.2.1.2.1.2.2 hag hb0)))
      exact lv_icmp_ge X.1.1 X.1.2.1 hd ht (fun z => absurd z hb) (fun _ => K.2 H locs ls ρ hag hn hP hD hS hl)
    · cases h
  · cases h
theorem ok_icmp_ge {off : Int} {tgt : Nat} (hd : decode cc pc = .ok (.if_icmp .ge off, 3)) (ht : (pc : Int) + off = (tgt : Int)) : mOk kn cc own nL Ts D ret ini pc (a_icmp kn b_ge 3 tgt (pc + 3)) := okg_icmp_ge b_ge_d bsem_3 bsem_13 hd ht
theorem okg_if_ge {b : Int32 → Int32 → Bool} (hbd : ∀ x y, b x y = decide (y ≤ x)) (hbs : ∀ x y, bsem 3 x y = b x y) (hbt : ∀ x y, bsem 13 x y = b y x) {off : Int} {tgt : Nat} (hd : decode cc pc = .ok (.ifCond .ge off, 3)) (ht : (pc : Int) + off = (tgt : Int)) : mOk kn cc own nL Ts D ret ini pc (a_if kn b 3 tgt (pc + 3)) := by
  intro p l e R s m args below meth c dC dI cy A ρ0 n0 Qc Q r X k hk ss h
  obtain ⟨lv, st, w, nc, ns⟩ := ss
  unfold a_if at h
  split at h
  · rename_i x st' hs
    dsimp only at hs
    subst hs
    split at h
    · rename_i hb0
      have K := hk _ _ h
      refine ⟨K.1, fun H locs ls ρ hag hn hP hD hS hl => ?_⟩
      have hb := of_decide_eq_true ((hbd x 0).symm.trans hb0)
      exact lv_if_ge X.1.1 X.1.2.1 hd ht (fun _ => K.2 H locs ls ρ hag hn hP hD hS hl) (fun z => absurd hb z)
    · rename_i hb0
      have K := hk _ _ h
      refine ⟨K.1, fun H locs ls ρ hag hn hP hD hS hl => ?_⟩
      have hb := of_decide_eq_false ((hbd x 0).symm.trans hb0)
      exact lv_if_ge X.1.1 X.1.2.1 hd ht (fun z => absurd z hb) (fun _ => K.2 H locs ls ρ hag hn hP hD hS hl)
  · rename_i u st' hs
    dsimp only at hs
    subst hs
    split at h
    · rename_i hb0
      have K := hk _ _ h
      refine ⟨K.1, fun H locs ls ρ hag hn hP hD hS hl => ?_⟩
      have hb := of_decide_eq_true ((hbd (vi ρ u) 0).symm.trans ((hbs (vi ρ u) 0).symm.trans (kn_at X.2.2.2.1.2.1.2.2 hag hb0)))
      exact lv_if_ge X.1.1 X.1.2.1 hd ht (fun _ => K.2 H locs ls ρ hag hn hP hD hS hl) (fun z => absurd hb z)
    · rename_i hb0
      have K := hk _ _ h
      refine ⟨K.1, fun H locs ls ρ hag hn hP hD hS hl => ?_⟩
      have hb := of_decide_eq_false ((hbd (vi ρ u) 0).symm.trans ((hbs (vi ρ u) 0).symm.trans (kn_at X.2.2.2.1.2.1.2.2 hag hb0)))
      exact lv_if_ge X.1.1 X.1.2.1 hd ht (fun z => absurd z hb) (fun _ => K.2 H locs ls ρ hag hn hP hD hS hl)
    · cases h
  · cases h
theorem ok_if_ge {off : Int} {tgt : Nat} (hd : decode cc pc = .ok (.ifCond .ge off, 3)) (ht : (pc : Int) + off = (tgt : Int)) : mOk kn cc own nL Ts D ret ini pc (a_if kn b_ge 3 tgt (pc + 3)) := okg_if_ge b_ge_d bsem_3 bsem_13 hd ht
theorem okg_icmp_gt {b : Int32 → Int32 → Bool} (hbd : ∀ x y, b x y = decide (y < x)) (hbs : ∀ x y, bsem 4 x y = b x y) (hbt : ∀ x y, bsem 14 x y = b y x) {off : Int} {tgt : Nat} (hd : decode cc pc = .ok (.if_icmp .gt off, 3)) (ht : (pc : Int) + off = (tgt : Int)) : mOk kn cc own nL Ts D ret ini pc (a_icmp kn b 4 tgt (pc + 3)) := by
  intro p l e R s m args below meth c dC dI cy A ρ0 n0 Qc Q r X k hk ss h
  obtain ⟨lv, st, w, nc, ns⟩ := ss
  unfold a_icmp at h
  split at h
  · rename_i y x st' hs
    dsimp only at hs
    subst hs
    split at h
    · rename_i hb0
      have K := hk _ _ h
      refine ⟨K.1, fun H locs ls ρ hag hn hP hD hS hl => ?_⟩
      have hb := of_decide_eq_true ((hbd x y).symm.trans hb0)
      exact lv_icmp_gt X.1.1 X.1.2.1 hd ht (fun _ => K.2 H locs ls ρ hag hn hP hD hS hl) (fun z => absurd hb z)
    · rename_i hb0
      have K := hk _ _ h
      refine ⟨K.1, fun H locs ls ρ hag hn hP hD hS hl => ?_⟩
      have hb := of_decide_eq_false ((hbd x y).symm.trans hb0)
      exact lv_icmp_gt X.1.1 X.1.2.1 hd ht (fun z => absurd z hb) (fun _ => K.2 H locs ls ρ hag hn hP hD hS hl)
  · rename_i y u st' hs
    dsimp only at hs
    subst hs
    split at h
    · rename_i hb0
      have K := hk _ _ h
      refine ⟨K.1, fun H locs ls ρ hag hn hP hD hS hl => ?_⟩
      have hb := of_decide_eq_true ((hbd (vi ρ u) y).symm.trans ((hbs (vi ρ u) y).symm.trans (kn_at X.2.2.2.1.2.1.2.2 hag hb0)))
      exact lv_icmp_gt X.1.1 X.1.2.1 hd ht (fun _ => K.2 H locs ls ρ hag hn hP hD hS hl) (fun z => absurd hb z)
    · rename_i hb0
      have K := hk _ _ h
      refine ⟨K.1, fun H locs ls ρ hag hn hP hD hS hl => ?_⟩
      have hb := of_decide_eq_false ((hbd (vi ρ u) y).symm.trans ((hbs (vi ρ u) y).symm.trans (kn_at X.2.2.2.1.2.1.2.2 hag hb0)))
      exact lv_icmp_gt X.1.1 X.1.2.1 hd ht (fun z => absurd z hb) (fun _ => K.2 H locs ls ρ hag hn hP hD hS hl)
    · cases h
  · rename_i u x st' hs
    dsimp only at hs
    subst hs
    split at h
    · rename_i hb0
      have K := hk _ _ h
      refine ⟨K.1, fun H locs ls ρ hag hn hP hD hS hl => ?_⟩
      have hb := of_decide_eq_true ((hbd x (vi ρ u)).symm.trans ((hbt (vi ρ u) x).symm.trans (kn_at X.2.2.2.1.2.1.2.2 hag hb0)))
      exact lv_icmp_gt X.1.1 X.1.2.1 hd ht (fun _ => K.2 H locs ls ρ hag hn hP hD hS hl) (fun z => absurd hb z)
    · rename_i hb0
      have K := hk _ _ h
      refine ⟨K.1, fun H locs ls ρ hag hn hP hD hS hl => ?_⟩
      have hb := of_decide_eq_false ((hbd x (vi ρ u)).symm.trans ((hbt (vi ρ u) x).symm.trans (kn_at X.2.2.2.1.2.1.2.2 hag hb0)))
      exact lv_icmp_gt X.1.1 X.1.2.1 hd ht (fun z => absurd z hb) (fun _ => K.2 H locs ls ρ hag hn hP hD hS hl)
    · cases h
  · cases h
theorem ok_icmp_gt {off : Int} {tgt : Nat} (hd : decode cc pc = .ok (.if_icmp .gt off, 3)) (ht : (pc : Int) + off = (tgt : Int)) : mOk kn cc own nL Ts D ret ini pc (a_icmp kn b_gt 4 tgt (pc + 3)) := okg_icmp_gt b_gt_d bsem_4 bsem_14 hd ht
theorem okg_if_gt {b : Int32 → Int32 → Bool} (hbd : ∀ x y, b x y = decide (y < x)) (hbs : ∀ x y, bsem 4 x y = b x y) (hbt : ∀ x y, bsem 14 x y = b y x) {off : Int} {tgt : Nat} (hd : decode cc pc = .ok (.ifCond .gt off, 3)) (ht : (pc : Int) + off = (tgt : Int)) : mOk kn cc own nL Ts D ret ini pc (a_if kn b 4 tgt (pc + 3)) := by
  intro p l e R s m args below meth c dC dI cy A ρ0 n0 Qc Q r X k hk ss h
  obtain ⟨lv, st, w, nc, ns⟩ := ss
  unfold a_if at h
  split at h
  · rename_i x st' hs
    dsimp only at hs
    subst hs
    split at h
    · rename_i hb0
      have K := hk _ _ h
      refine ⟨K.1, fun H locs ls ρ hag hn hP hD hS hl => ?_⟩
      have hb := of_decide_eq_true ((hbd x 0).symm.trans hb0)
      exact lv_if_gt X.1.1 X.1.2.1 hd ht (fun _ => K.2 H locs ls ρ hag hn hP hD hS hl) (fun z => absurd hb z)
    · rename_i hb0
      have K := hk _ _ h
      refine ⟨K.1, fun H locs ls ρ hag hn hP hD hS hl => ?_⟩
      have hb := of_decide_eq_false ((hbd x 0).symm.trans hb0)
      exact lv_if_gt X.1.1 X.1.2.1 hd ht (fun z => absurd z hb) (fun _ => K.2 H locs ls ρ hag hn hP hD hS hl)
  · rename_i u st' hs
    dsimp only at hs
    subst hs
    split at h
    · rename_i hb0
      have K := hk _ _ h
      refine ⟨K.1, fun H locs ls ρ hag hn hP hD hS hl => ?_⟩
      have hb := of_decide_eq_true ((hbd (vi ρ u) 0).symm.trans ((hbs (vi ρ u) 0).symm.trans (kn_at X.2.2.2.1.2.1.2.2 hag hb0)))
      exact lv_if_gt X.1.1 X.1.2.1 hd ht (fun _ => K.2 H locs ls ρ hag hn hP hD hS hl) (fun z => absurd hb z)
    · rename_i hb0
      have K := hk _ _ h
      refine ⟨K.1, fun H locs ls ρ hag hn hP hD hS hl => ?_⟩
      have hb := of_decide_eq_false ((hbd (vi ρ u) 0).symm.trans ((hbs (vi ρ u) 0).symm.trans (kn_at X.2.2.2.1.2.1.2.2 hag hb0)))
      exact lv_if_gt X.1.1 X.1.2.1 hd ht (fun z => absurd z hb) (fun _ => K.2 H locs ls ρ hag hn hP hD hS hl)
    · cases h
  · cases h
theorem ok_if_gt {off : Int} {tgt : Nat} (hd : decode cc pc = .ok (.ifCond .gt off, 3)) (ht : (pc : Int) + off = (tgt : Int)) : mOk kn cc own nL Ts D ret ini pc (a_if kn b_gt 4 tgt (pc + 3)) := okg_if_gt b_gt_d bsem_4 bsem_14 hd ht
theorem okg_icmp_le {b : Int32 → Int32 → Bool} (hbd : ∀ x y, b x y = decide (x ≤ y)) (hbs : ∀ x y, bsem 5 x y = b x y) (hbt : ∀ x y, bsem 15 x y = b y x) {off : Int} {tgt : Nat} (hd : decode cc pc = .ok (.if_icmp .le off, 3)) (ht : (pc : Int) + off = (tgt : Int)) : mOk kn cc own nL Ts D ret ini pc (a_icmp kn b 5 tgt (pc + 3)) := by
  intro p l e R s m args below meth c dC dI cy A ρ0 n0 Qc Q r X k hk ss h
  obtain ⟨lv, st, w, nc, ns⟩ := ss
  unfold a_icmp at h
  split at h
  · rename_i y x st' hs
    dsimp only at hs
    subst hs
    split at h
    · rename_i hb0
      have K := hk _ _ h
      refine ⟨K.1, fun H locs ls ρ hag hn hP hD hS hl => ?_⟩
      have hb := of_decide_eq_true ((hbd x y).symm.trans hb0)
      exact lv_icmp_le X.1.1 X.1.2.1 hd ht (fun _ => K.2 H locs ls ρ hag hn hP hD hS hl) (fun z => absurd hb z)
    · rename_i hb0
      have K := hk _ _ h
      refine ⟨K.1, fun H locs ls ρ hag hn hP hD hS hl => ?_⟩
      have hb := of_decide_eq_false ((hbd x y).symm.trans hb0)
      exact lv_icmp_le X.1.1 X.1.2.1 hd ht (fun z => absurd z hb) (fun _ => K.2 H locs ls ρ hag hn hP hD hS hl)
  · rename_i y u st' hs
    dsimp only at hs
    subst hs
    split at h
    · rename_i hb0
      have K := hk _ _ h
      refine ⟨K.1, fun H locs ls ρ hag hn hP hD hS hl => ?_⟩
      have hb := of_decide_eq_true ((hbd (vi ρ u) y).symm.trans ((hbs (vi ρ u) y).symm.trans (kn_at X.2.2.2.1.2.1.2.2 hag hb0)))
      exact lv_icmp_le X.1.1 X.1.2.1 hd ht (fun _ => K.2 H locs ls ρ hag hn hP hD hS hl) (fun z => absurd hb z)
    · rename_i hb0
      have K := hk _ _ h
      refine ⟨K.1, fun H locs ls ρ hag hn hP hD hS hl => ?_⟩
      have hb := of_decide_eq_false ((hbd (vi ρ u) y).symm.trans ((hbs (vi ρ u) y).symm.trans (kn_at X.2.2.2.1.2.1.2.2 hag hb0)))
      exact lv_icmp_le X.1.1 X.1.2.1 hd ht (fun z => absurd z hb) (fun _ => K.2 H locs ls ρ hag hn hP hD hS hl)
    · cases h
  · rename_i u x st' hs
    dsimp only at hs
    subst hs
    split at h
    · rename_i hb0
      have K := hk _ _ h
      refine ⟨K.1, fun H locs ls ρ hag hn hP hD hS hl => ?_⟩
      have hb := of_decide_eq_true ((hbd x (vi ρ u)).symm.trans ((hbt (vi ρ u) x).symm.trans (kn_at X.2.2.2.1.2.1.2.2 hag hb0)))
      exact lv_icmp_le X.1.1 X.1.2.1 hd ht (fun _ => K.2 H locs ls ρ hag hn hP hD hS hl) (fun z => absurd hb z)
    · rename_i hb0
      have K := hk _ _ h
      refine ⟨K.1, fun H locs ls ρ hag hn hP hD hS hl => ?_⟩
      have hb := of_decide_eq_false ((hbd x (vi ρ u)).symm.trans ((hbt (vi ρ u) x).symm.trans (kn_at X.2.2.2.1.2.1.2.2 hag hb0)))
      exact lv_icmp_le X.1.1 X.1.2.1 hd ht (fun z => absurd z hb) (fun _ => K.2 H locs ls ρ hag hn hP hD hS hl)
    · cases h
  · cases h
theorem ok_icmp_le {off : Int} {tgt : Nat} (hd : decode cc pc = .ok (.if_icmp .le off, 3)) (ht : (pc : Int) + off = (tgt : Int)) : mOk kn cc own nL Ts D ret ini pc (a_icmp kn b_le 5 tgt (pc + 3)) := okg_icmp_le b_le_d bsem_5 bsem_15 hd ht
theorem okg_if_le {b : Int32 → Int32 → Bool} (hbd : ∀ x y, b x y = decide (x ≤ y)) (hbs : ∀ x y, bsem 5 x y = b x y) (hbt : ∀ x y, bsem 15 x y = b y x) {off : Int} {tgt : Nat} (hd : decode cc pc = .ok (.ifCond .le off, 3)) (ht : (pc : Int) + off = (tgt : Int)) : mOk kn cc own nL Ts D ret ini pc (a_if kn b 5 tgt (pc + 3)) := by
  intro p l e R s m args below meth c dC dI cy A ρ0 n0 Qc Q r X k hk ss h
  obtain ⟨lv, st, w, nc, ns⟩ := ss
  unfold a_if at h
  split at h
  · rename_i x st' hs
    dsimp only at hs
    subst hs
    split at h
    · rename_i hb0
      have K := hk _ _ h
      refine ⟨K.1, fun H locs ls ρ hag hn hP hD hS hl => ?_⟩
      have hb := of_decide_eq_true ((hbd x 0).symm.trans hb0)
      exact lv_if_le X.1.1 X.1.2.1 hd ht (fun _ => K.2 H locs ls ρ hag hn hP hD hS hl) (fun z => absurd hb z)
    · rename_i hb0
      have K := hk _ _ h
      refine ⟨K.1, fun H locs ls ρ hag hn hP hD hS hl => ?_⟩
      have hb := of_decide_eq_false ((hbd x 0).symm.trans hb0)
      exact lv_if_le X.1.1 X.1.2.1 hd ht (fun z => absurd z hb) (fun _ => K.2 H locs ls ρ hag hn hP hD hS hl)
  · rename_i u st' hs
    dsimp only at hs
    subst hs
    split at h
    · rename_i hb0
      have K := hk _ _ h
      refine ⟨K.1, fun H locs ls ρ hag hn hP hD hS hl => ?_⟩
      have hb := of_decide_eq_true ((hbd (vi ρ u) 0).symm.trans ((hbs (vi ρ u) 0).symm.trans (kn_at X.2.2.2.1.2.1.2.2 hag hb0)))
      exact lv_if_le X.1.1 X.1.2.1 hd ht (fun _ => K.2 H locs ls ρ hag hn hP hD hS hl) (fun z => absurd hb z)
    · rename_i hb0
      have K := hk _ _ h
      refine ⟨K.1, fun H locs ls ρ hag hn hP hD hS hl => ?_⟩
      have hb := of_decide_eq_false ((hbd (vi ρ u) 0).symm.trans ((hbs (vi ρ u) 0).symm.trans (kn_at X.2.2.2.1.2.1.2.2 hag hb0)))
      exact lv_if_le X.1.1 X.1.2.1 hd ht (fun z => absurd z hb) (fun _ => K.2 H locs ls ρ hag hn hP hD hS hl)
    · cases h
  · cases h
theorem ok_if_le {off : Int} {tgt : Nat} (hd : decode cc pc = .ok (.ifCond .le off, 3)) (ht : (pc : Int) + off = (tgt : Int)) : mOk kn cc own nL Ts D ret ini pc (a_if kn b_le 5 tgt (pc + 3)) := okg_if_le b_le_d bsem_5 bsem_15 hd ht
end OKB
end
