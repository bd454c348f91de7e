noncomputable section
-- ===== arraycopy =====
def cpyL (vs us : List Value) (sp dp n : Nat) : List Value := us.take dp ++ ((vs.drop sp).take n ++ us.drop (dp + n))
theorem cpyL_len {vs us : List Value} {sp dp n : Nat} (h1 : sp + n ≤ vs.length) (h2 : dp + n ≤ us.length) : (cpyL vs us sp dp n).length = us.length := by
  simp only [cpyL, List.length_append, List.length_take, List.length_drop]
  omega
theorem cpyL_get {vs us : List Value} {sp dp n : Nat} (h1 : sp + n ≤ vs.length) (h2 : dp + n ≤ us.length) (j : Nat) : (cpyL vs us sp dp n)[j]? = if dp ≤ j ∧ j < dp + n then vs[sp + (j - dp)]? else us[j]? := by
  unfold cpyL
  have l1 : (us.take dp).length = dp := by rw [List.length_take]; omega
  have l2 : ((vs.drop sp).take n).length = n := by rw [List.length_take, List.length_drop]; omega
  by_cases a : j < dp
  · rw [List.getElem?_append_left (by omega), List.getElem?_take_of_lt a, if_neg (by omega)]
  · rw [List.getElem?_append_right (by omega), l1]
    by_cases b : j < dp + n
    · rw [List.getElem?_append_left (by omega), List.getElem?_take_of_lt (by omega), List.getElem?_drop, if_pos (by omega)]
    · rw [List.getElem?_append_right (by omega), l2, List.getElem?_drop, if_neg (by omega)]
      congr 1
      omega
theorem di_cpy {ρ : Nat → Nat} {vs us : List Value} {sp dp n : Nat} (h1 : sp + n ≤ vs.length) (h2 : dp + n ≤ us.length) : (fun j => di ρ ((cpyL vs us sp dp n).getD j .null)) = va_cpy (fun j => di ρ (vs.getD j .null)) (fun j => di ρ (us.getD j .null)) sp dp n := by
  funext j
  simp only [va_cpy, List.getD, cpyL_get h1 h2 j]
  split <;> rfl
theorem dl_cpy {vs us : List Value} {sp dp n : Nat} (h1 : sp + n ≤ vs.length) (h2 : dp + n ≤ us.length) : (fun j => dl ((cpyL vs us sp dp n).getD j .null)) = va_cpy (fun j => dl (vs.getD j .null)) (fun j => dl (us.getD j .null)) sp dp n := by
  funext j
  simp only [va_cpy, List.getD, cpyL_get h1 h2 j]
  split <;> rfl
def a_copy (np : Nat) : sA := fun k ss => match ss.2.1 with
  | .int n :: .int dp :: .ref b :: .int sp :: .ref a :: st => match xg ss.2.2.1 a, xg ss.2.2.1 b with
    | some (.inl (1, vs)), some (.inl (1, us)) => if ¬ sp < 0 ∧ ¬ dp < 0 ∧ ¬ n < 0 ∧ sp.toNatClampNeg + n.toNatClampNeg ≤ vs.length ∧ dp.toNatClampNeg + n.toNatClampNeg ≤ us.length ∧ (st.map fun v => v.category).sum ≤ 8 then k np (ss.1, st, xs ss.2.2.1 b (.inl (1, cpyL vs us sp.toNatClampNeg dp.toNatClampNeg n.toNatClampNeg)), ss.2.2.2) else none
    | some (.inl (2, vs)), some (.inl (2, us)) => if ¬ sp < 0 ∧ ¬ dp < 0 ∧ ¬ n < 0 ∧ sp.toNatClampNeg + n.toNatClampNeg ≤ vs.length ∧ dp.toNatClampNeg + n.toNatClampNeg ≤ us.length ∧ (st.map fun v => v.category).sum ≤ 8 then k np (ss.1, st, xs ss.2.2.1 b (.inl (2, cpyL vs us sp.toNatClampNeg dp.toNatClampNeg n.toNatClampNeg)), ss.2.2.2) else none
    | _, _ => none
  | _ => none
theorem cat_map (ρ : Nat → Nat) (st : List Value) : ((st.map (dv ρ)).map fun v => v.category).sum = (st.map fun v => v.category).sum := by
  rw [List.map_map]
  congr 1
  apply List.map_congr_left
  intro v _
  exact dv_cat ρ v
theorem nfw_ok {a b : Nat} (h : a ≤ 8) (h2 : 40 ≤ b) : a + (nativeFrameWords "java/lang/System" "arraycopy" 5 + 11) ≤ b := by
  have e : nativeFrameWords "java/lang/System" "arraycopy" 5 = 7 := by decide
  rw [e]
  omega
section OKY
variable {kn : sKn} {cc : ByteArray} {own : String} {nL : Nat} {Ts : List Cond} {D : Nat} {ret : Option FieldType} {ini : Bool} {pc : Nat}
theorem ok_copy {index : Nat} (hD1 : 1 ≤ D) (hlink : Cond.methodLink own index arraycopyName ∈ Ts) (hnat : Cond.native arraycopyName ∈ Ts) (hstat : Cond.static arraycopyName ∈ Ts) (hini : Cond.initialized "java/lang/System" ∈ Ts) (hd : decode cc pc = .ok (.invokestatic index, 3)) : mOk kn cc own nL Ts D ret ini pc (a_copy (pc + 3)) := by
  intro p l e R s m args below meth c dC dI cy A ρ0 n0 Qc Q r X k hk ss h
  obtain ⟨lv, st, w, nc, ns⟩ := ss
  have hfr : 1 ≤ R.frames := Nat.le_trans hD1 X.2.2.2.2.2.2.1.1
  have hlo : 40 ≤ R.locals := Nat.le_trans (by omega) X.2.2.2.2.2.2.1.2
  unfold a_copy at h
  split at h
  · rename_i n dp b sp a st' hs
    dsimp only at hs
    subst hs
    split at h
    · rename_i vs us hw1 hw2
      rw [xg_eq] at hw1 hw2
      simp only [xs_eq] at h
      split at h
      · rename_i hc
        obtain ⟨c1, c2, c3, c4, c5, c6⟩ := hc
        have K := hk _ _ h
        refine ⟨K.1, fun H locs ls ρ hag hn hP hD hS hl => ?_⟩
        refine va_copyi (ty := .int) X.1.1 X.1.2.1 (X.1.2.2.1.trans hl.1.symm) X.1.2.2.2.1 (X.1.2.2.2.2 _ hlink) (X.1.2.2.2.2 _ hnat) (X.1.2.2.2.2 _ hstat) (X.1.2.2.2.2 _ hini) X.2.2.2.1.1 hP hD hS a b 1 1 (dW_get hw1) (dW_get hw2) rfl rfl rfl c1 c2 c3 c4 c5 (fun _ _ => rfl) hfr (nfw_ok (by rw [cat_map]; exact c6) hlo) hd (fun H1 locs1 hP1 hD1 hS1 => ?_)
        have e1 : dW ρ cy (w.set b (.inl (1, cpyL vs us sp.toNatClampNeg dp.toNatClampNeg n.toNatClampNeg))) = (dW ρ cy w).set b (ρ b, .inl (cy 1, us.length, .inl (va_cpy (fun j => di ρ (vs.getD j .null)) (fun j => di ρ (us.getD j .null)) sp.toNatClampNeg dp.toNatClampNeg n.toNatClampNeg))) := by
          rw [dW_set, ← di_cpy c4 c5]
          simp only [dE, dA, cpyL_len c4 c5]
        exact K.2 H1 locs1 ls ρ hag (by simpa using hn) (by dsimp only; rw [e1]; exact hP1) (by dsimp only; rw [e1]; exact hD1) hS1 hl
      · cases h
    · rename_i vs us hw1 hw2
      rw [xg_eq] at hw1 hw2
      simp only [xs_eq] at h
      split at h
      · rename_i hc
        obtain ⟨c1, c2, c3, c4, c5, c6⟩ := hc
        have K := hk _ _ h
        refine ⟨K.1, fun H locs ls ρ hag hn hP hD hS hl => ?_⟩
        refine va_copyl (ty := .long) X.1.1 X.1.2.1 (X.1.2.2.1.trans hl.1.symm) X.1.2.2.2.1 (X.1.2.2.2.2 _ hlink) (X.1.2.2.2.2 _ hnat) (X.1.2.2.2.2 _ hstat) (X.1.2.2.2.2 _ hini) X.2.2.2.1.1 hP hD hS a b 2 2 (dW_get hw1) (dW_get hw2) rfl rfl rfl c1 c2 c3 c4 c5 (fun _ _ => rfl) hfr (nfw_ok (by rw [cat_map]; exact c6) hlo) hd (fun H1 locs1 hP1 hD1 hS1 => ?_)
        have e1 : dW ρ cy (w.set b (.inl (2, cpyL vs us sp.toNatClampNeg dp.toNatClampNeg n.toNatClampNeg))) = (dW ρ cy w).set b (ρ b, .inl (cy 2, us.length, .inr (.inl (va_cpy (fun j => dl (vs.getD j .null)) (fun j => dl (us.getD j .null)) sp.toNatClampNeg dp.toNatClampNeg n.toNatClampNeg)))) := by
          rw [dW_set, ← dl_cpy c4 c5]
          simp only [dE, dA, cpyL_len c4 c5]
        exact K.2 H1 locs1 ls ρ hag (by simpa using hn) (by dsimp only; rw [e1]; exact hP1) (by dsimp only; rw [e1]; exact hD1) hS1 hl
      · cases h
    · cases h
  · cases h
end OKY
-- ===== returns =====
theorem w_mono {p : Program} {l : Launch} {e : Env} {R : Room} {s : State} {m : MethodId} {args : Array Value} {below : List Frame} {meth : Method} {c : Code} {H : Heap} {locs : List Loc} {cells slots : Nat} {Q Q' : State → Prop} {g : JFrame} (h : ∀ t, Q t → Q' t) (k : W p l e R s m args below meth c H locs cells slots Q g) : W p l e R s m args below meth c H locs cells slots Q' g := fun T hT X => by
  obtain ⟨t, a, b⟩ := k T hT X
  exact ⟨t, a, h t b⟩
def a_iret : sA := fun _ ss => match ss.2.1 with
  | [.int x] => some (some (.int x), ss.2.2)
  | _ => none
def a_zret : sA := fun _ ss => match ss.2.1 with
  | [.int x] => if x = 0 ∨ x = 1 then some (some (.int x), ss.2.2) else none
  | _ => none
def a_lret : sA := fun _ ss => match ss.2.1 with
  | [.long x] => some (some (.long x), ss.2.2)
  | _ => none
def a_vret : sA := fun _ ss => match ss.2.1 with
  | [] => some (none, ss.2.2)
  | _ => none
def a_aret : sA := fun _ ss => match ss.2.1 with
  | [.ref x] => some (some (.ref x), ss.2.2)
  | _ => none
def a_obj (np : Nat) : sA := fun k ss => match ss.2.1 with
  | .ref _ :: st => if (st.map fun v => v.category).sum ≤ 20 then k np (ss.1, st, ss.2.2) else none
  | _ => none
section OKR
variable {kn : sKn} {cc : ByteArray} {own : String} {nL : Nat} {Ts : List Cond} {D : Nat} {ini : Bool} {pc : Nat}
theorem ok_iret (hd : decode cc pc = .ok (.ireturn, 1)) : mOk kn cc own nL Ts D (some .int) ini pc a_iret := by
  intro p l e R s m args below meth c dC dI cy A ρ0 n0 Qc Q r X k hk ss h
  obtain ⟨lv, st, w, nc, ns⟩ := ss
  unfold a_iret at h
  split at h
  · rename_i x hs
    dsimp only at hs
    subst hs
    cases h
    have hlocks := X.2.2.1
    exact ⟨⟨Nat.le_refl _, Nat.le_refl _⟩, fun H locs ls ρ hag hn hP hD hS hl => w_mono X.2.2.2.2.2.2.2.2.2.1.1 (W.iret X.1.1 X.1.2.1 X.2.1 (fun t ht hW => X.2.2.2.2.2.2.2.2.1 (Or.inr (fun z => by cases z)) ρ H locs t hag hn hP hD hS ht hW) hS.2.2 hd)⟩
  · cases h
theorem ok_zret (hd : decode cc pc = .ok (.ireturn, 1)) : mOk kn cc own nL Ts D (some .boolean) ini pc a_zret := by
  intro p l e R s m args below meth c dC dI cy A ρ0 n0 Qc Q r X k hk ss h
  obtain ⟨lv, st, w, nc, ns⟩ := ss
  unfold a_zret at h
  split at h
  · rename_i x hs
    dsimp only at hs
    subst hs
    split at h
    · rename_i hx
      cases h
      have hlocks := X.2.2.1
      exact ⟨⟨Nat.le_refl _, Nat.le_refl _⟩, fun H locs ls ρ hag hn hP hD hS hl => w_mono X.2.2.2.2.2.2.2.2.2.1.1 (W.zret X.1.1 X.1.2.1 X.2.1 (by rcases hx with rfl | rfl <;> rfl) (fun t ht hW => X.2.2.2.2.2.2.2.2.1 (Or.inr (fun z => by cases z)) ρ H locs t hag hn hP hD hS ht hW) hS.2.2 hd)⟩
    · cases h
  · cases h
theorem ok_lret (hd : decode cc pc = .ok (.lreturn, 1)) : mOk kn cc own nL Ts D (some .long) ini pc a_lret := by
  intro p l e R s m args below meth c dC dI cy A ρ0 n0 Qc Q r X k hk ss h
  obtain ⟨lv, st, w, nc, ns⟩ := ss
  unfold a_lret at h
  split at h
  · rename_i x hs
    dsimp only at hs
    subst hs
    cases h
    have hlocks := X.2.2.1
    exact ⟨⟨Nat.le_refl _, Nat.le_refl _⟩, fun H locs ls ρ hag hn hP hD hS hl => w_mono X.2.2.2.2.2.2.2.2.2.1.1 (W.lret X.1.1 X.1.2.1 X.2.1 (fun t ht hW => X.2.2.2.2.2.2.2.2.1 (Or.inr (fun z => by cases z)) ρ H locs t hag hn hP hD hS ht hW) hS.2.2 hd)⟩
  · cases h
theorem ok_vret (hd : decode cc pc = .ok (.return_, 1)) : mOk kn cc own nL Ts D none ini pc a_vret := by
  intro p l e R s m args below meth c dC dI cy A ρ0 n0 Qc Q r X k hk ss h
  obtain ⟨lv, st, w, nc, ns⟩ := ss
  unfold a_vret at h
  split at h
  · rename_i hs
    dsimp only at hs
    subst hs
    cases h
    have hlocks := X.2.2.1
    exact ⟨⟨Nat.le_refl _, Nat.le_refl _⟩, fun H locs ls ρ hag hn hP hD hS hl => w_mono X.2.2.2.2.2.2.2.2.2.1.1 (W.vret X.1.1 X.1.2.1 X.2.1 (fun t ht hW => X.2.2.2.2.2.2.2.2.1 (Or.inl rfl) ρ H locs t hag hn hP hD hS ht hW) hS.2.2 hd)⟩
  · cases h
theorem ok_aret {rt : FieldType} (hrt : (∃ n, rt = .object n) ∨ ∃ t, rt = .array t) (hd : decode cc pc = .ok (.areturn, 1)) : mOk kn cc own nL Ts D (some rt) ini pc a_aret := by
  intro p l e R s m args below meth c dC dI cy A ρ0 n0 Qc Q r X k hk ss h
  obtain ⟨lv, st, w, nc, ns⟩ := ss
  unfold a_aret at h
  split at h
  · rename_i x hs
    dsimp only at hs
    subst hs
    cases h
    have hlocks := X.2.2.1
    exact ⟨⟨Nat.le_refl _, Nat.le_refl _⟩, fun H locs ls ρ hag hn hP hD hS hl => w_mono X.2.2.2.2.2.2.2.2.2.1.1 (W.aret (v := .ref (ρ x)) X.1.1 X.1.2.1 X.2.1 hrt (Or.inr ⟨_, rfl⟩) (fun t ht hW => X.2.2.2.2.2.2.2.2.1 (Or.inr (fun z => by cases z)) ρ H locs t hag hn hP hD hS ht hW) hS.2.2 hd)⟩
  · cases h
theorem ok_obj {ret : Option FieldType} {index : Nat} (hD1 : 1 ≤ D) (hlink : Cond.methodLink own index objectInit ∈ Ts) (hinst : Cond.instanceMethod objectInit ∈ Ts) (hcode : Cond.code objectInit ⟨#[0xb1]⟩ 1 none ∈ Ts) (hd : decode cc pc = .ok (.invokespecial index, 3)) : mOk kn cc own nL Ts D ret ini pc (a_obj (pc + 3)) := by
  intro p l e R s m args below meth c dC dI cy A ρ0 n0 Qc Q r X k hk ss h
  obtain ⟨lv, st, w, nc, ns⟩ := ss
  have hfr : 1 ≤ R.frames := Nat.le_trans hD1 X.2.2.2.2.2.2.1.1
  have hlo : 40 ≤ R.locals := Nat.le_trans (by omega) X.2.2.2.2.2.2.1.2
  unfold a_obj at h
  split at h
  · rename_i x st' hs
    dsimp only at hs
    subst hs
    split at h
    · rename_i hc
      have K := hk _ _ h
      refine ⟨K.1, fun H locs ls ρ hag hn hP hD hS hl => ?_⟩
      refine W.objInit X.1.1 X.1.2.1 X.1.2.2.2.1 (X.1.2.2.2.2 _ hlink) (X.1.2.2.2.2 _ hinst) (X.1.2.2.2.2 _ hcode) rfl (by rw [X.1.2.2.1]; exact hl.1) rfl hd hfr (by show 2 * 0 + _ + 12 ≤ _; rw [cat_map]; omega) ?_
      exact K.2 H locs ls ρ hag hn hP hD hS hl
    · cases h
  · cases h
end OKR
end
