noncomputable section
-- ===== fields and arrays =====
def keq (a b : eK) : Bool := match Nat.beq a.1.1 b.1.1 with
  | true => match Nat.beq a.2.2.1 b.2.2.1 with
    | true => match Nat.beq a.2.1 b.2.1 with
      | true => match zeq a.1.2 b.1.2 with
        | true => zeq a.2.2.2 b.2.2.2
        | false => false
      | false => false
    | false => false
  | false => false
theorem keq_eq {a b : eK} (h : keq a b = true) : a = b := by
  obtain ⟨⟨a1, a2⟩, a3, a4, a5⟩ := a
  obtain ⟨⟨b1, b2⟩, b3, b4, b5⟩ := b
  unfold keq at h
  dsimp only at h
  split at h
  · rename_i e1
    split at h
    · rename_i e2
      split at h
      · rename_i e3
        split at h
        · rename_i e4
          rw [zeq_iff] at h e4
          rw [Nat.eq_of_beq_eq_true e1, Nat.eq_of_beq_eq_true e2, Nat.eq_of_beq_eq_true e3, h, e4]
        · cases h
      · cases h
    · cases h
  · cases h
def efind (M : List (eK × eV)) (k : eK) : Option eV := List.rec (motive := fun _ => Option eV) none (fun q _ ih => match keq q.1 k with
  | true => some q.2
  | false => ih) M
theorem efind_mem {M : List (eK × eV)} {k : eK} {a : eV} (h : efind M k = some a) : (k, a) ∈ M := by
  induction M with
  | nil => cases h
  | cons q r ih =>
    have h : (match keq q.1 k with
      | true => some q.2
      | false => efind r k) = some a := h
    split at h
    · rename_i e
      cases h
      rw [← keq_eq e]
      exact List.mem_cons_self
    · exact List.mem_cons_of_mem _ (ih h)
/-- what lies in a field: the layout's word -/
def fty (Z : eZ) (t ci kf : Nat) : Option (Nat × eE) := match Z.1 t with
  | some (.inr q) => match Nat.beq q.1 ci with
    | true => xg q.2 kf
    | false => none
  | _ => none
theorem fty_ok {Z : eZ} {w : sW} {k t ci kf : Nat} {ft : Nat × eE} (hw : wOk Z w) (hk : Z.2 k = some t) (h : fty Z t ci kf = some ft) : ∃ fs v, w[k]? = some (.inr (ci, fs)) ∧ fs[kf]? = some v ∧ fvOk Z ft v ∧ ∃ fts, Z.1 t = some (.inr (ci, fts)) ∧ fts[kf]? = some ft ∧ fs.length = fts.length ∧ ∀ (j : Nat) v ft, fs[j]? = some v → fts[j]? = some ft → fvOk Z ft v := by
  obtain ⟨ly, c, h1, h2, h3⟩ := hw.2 k t hk
  unfold fty at h
  rw [h1] at h
  split at h
  · rename_i q hq
    cases hq
    split at h
    · rename_i hc
      rw [xg_eq] at h
      obtain ⟨fs, e1, e2, e3⟩ := h3
      rw [Nat.eq_of_beq_eq_true hc] at e1
      have hl : kf < fs.length := by rw [e2]; exact (List.getElem?_eq_some_iff.mp h).1
      refine ⟨fs, fs[kf], by rw [h2, e1], List.getElem?_eq_getElem hl, e3 kf _ ft (List.getElem?_eq_getElem hl) h, q.2, ?_, h, e2, e3⟩
      rw [h1, ← Nat.eq_of_beq_eq_true hc]
    · cases h
  · cases h
def t_gf (Z : eZ) (ci kf np : Nat) : tA := fun A => match A.2.1 with
  | r :: S => match Nat.beq r.1 2 with
    | true => match rty Z A.2.2.2.1 r with
      | some t => match fty Z t ci kf with
        | some ft => match efind A.2.2.1 (r.2, 0, kf, 0) with
          | some a => some [(some np, A.1, a :: S, A.2.2)]
          | none => match fre ft.1 ft.2 A.2.2.2.1 A.2.2.2.2 with
            | f => some [(some np, A.1, f.1 :: S, ((r.2, 0, kf, 0), f.1) :: A.2.2.1, f.2)]
        | none => none
      | none => none
    | false => none
  | _ => none
section TR
variable {Z : eZ} {mods : List (Nat × Nat)} {np : Nat}
theorem tr_get {ci kf : Nat} : trOk Z mods (a_get ci kf np) (t_gf Z ci kf np) := by
  intro A L h σ w0 ss hg
  obtain ⟨LL, S, M, E, N⟩ := A
  obtain ⟨lv, st, w, nn⟩ := ss
  unfold t_gf at h
  split at h
  · rename_i r S' hS
    dsimp only at hS
    subst hS
    split at h
    · rename_i hk
      split at h
      · rename_i t ht
        split at h
        · rename_i ft hft
          obtain ⟨h0, hL, hS, hM, hE, hw, hr⟩ := hg
          obtain ⟨x, st', e1, hx, hS'⟩ := gS_1 hS
          dsimp only at e1
          subst e1
          obtain ⟨k, z, rfl, hz, hkz⟩ := avOk_R hx (Nat.eq_of_beq_eq_true hk)
          obtain ⟨k', e2, e3⟩ := rty_ok h0.2 hE ht hz
          have : k' = k := by omega
          subst this
          obtain ⟨fs, v, w1, w2, w3, _⟩ := fty_ok hw e3 hft
          dsimp only at w1
          have act : ∀ kk, a_get ci kf np kk (lv, .ref k' :: st', w, nn) = kk np (lv, v :: st', w, nn) := by
            intro kk
            simp only [a_get, xg_eq, w1, Nat.beq_refl, w2]
          split at h
          · rename_i a ha
            cases h
            obtain ⟨zr, kk, m1, m2, ci', fs', v', m3, m4, m5⟩ := hM _ (efind_mem ha)
            dsimp only at m1 m2 m3 m4 m5
            rw [hz] at m1
            cases m1
            have : kk = k' := by omega
            subst this
            rw [w1] at m3
            cases m3
            rw [w2] at m4
            cases m4
            exact ⟨_, lmem, σ, (lv, v :: st', w, nn), ext_rf σ, ⟨h0, hL, ⟨m5, hS'⟩, hM, hE, hw, hr⟩, act⟩
          · cases h
            obtain ⟨σ', a1, a2, a3, a4⟩ := fre_ok h0.1 h0.2 hE w3
            refine ⟨_, lmem, σ', (lv, v :: st', w, nn), a1, ⟨a2, gL_e a1 hL, ⟨a4, gS_e a1 hS'⟩, ?_, a3, hw, hr⟩, act⟩
            intro q hq
            rcases List.mem_cons.mp hq with e | e
            · subst e
              exact ⟨z, k', a1 _ _ hz, hkz, ci, fs, v, w1, w2, a4⟩
            · exact mfOk_e a1 (hM q e)
        · cases h
      · cases h
    · cases h
  · cases h
/-- places that a store may have changed are forgotten -/
def kkill (Z : eZ) (E : List (Nat × eE)) (t tg kf : Nat) (M : List (eK × eV)) : List (eK × eV) := M.filter (fun q => match Nat.beq q.1.2.1 0 with
  | true => match Nat.beq tg 0 with
    | true => match Nat.beq q.1.2.2.1 kf with
      | true => match rty Z E (2, q.1.1) with
        | some t' => match Nat.beq t' t with
          | true => false
          | false => true
        | none => false
      | false => true
    | false => true
  | false => match Nat.beq tg 0 with
    | true => true
    | false => match rty Z E (2, q.1.1) with
      | some t' => match Nat.beq t' t with
        | true => false
        | false => true
      | none => false)
theorem set_get_ne {w : sW} {k k' : Nat} {c : sC} (h : k ≠ k') : (w.set k c)[k']? = w[k']? := by
  rw [List.getElem?_set_ne h]
theorem set_get_eq {w : sW} {k : Nat} {c : sC} (h : k < w.length) : (w.set k c)[k]? = some c := by
  rw [List.getElem?_set_self h]
/-- a field's store: what stays -/
theorem gM_put {σ : List Int} {E : List (Nat × eE)} {M : List (eK × eV)} {w : sW} {k t ci kf : Nat} {fs : List Value} {v : Value} (h0 : σ[0]? = some 0) (hE : gE Z σ E) (hM : gM σ w M) (hk : Z.2 k = some t) (hc : w[k]? = some (.inr (ci, fs))) : gM σ (w.set k (.inr (ci, fs.set kf v))) (kkill Z E t 0 kf M) := by
  intro q hq
  obtain ⟨q1, q2⟩ := List.mem_filter.mp hq
  obtain ⟨zr, k', m1, m2, m3⟩ := hM q q1
  refine ⟨zr, k', m1, m2, ?_⟩
  have hl := (List.getElem?_eq_some_iff.mp hc).1
  split at m3
  · rename_i htag
    obtain ⟨ci', fs', v', a1, a2, a3⟩ := m3
    by_cases e : k = k'
    · subst e
      rw [hc] at a1
      cases a1
      refine ⟨ci, _, v', set_get_eq hl, ?_, a3⟩
      rw [htag] at q2
      simp only [Nat.beq_refl] at q2
      have hne : Nat.beq q.1.2.2.1 kf = false := by
        cases e2 : Nat.beq q.1.2.2.1 kf with
        | false => rfl
        | true =>
          rw [e2] at q2
          dsimp only at q2
          split at q2
          · rename_i t' ht'
            obtain ⟨k2, b1, b2⟩ := rty_ok (a := (2, q.1.1)) h0 hE ht' m1
            have : k2 = k := by dsimp only at b1; omega
            rw [this, hk] at b2
            cases b2
            rw [Nat.beq_refl] at q2
            cases q2
          · cases q2
      rw [List.getElem?_set_ne (Ne.symm (ne_bff hne))]
      exact a2
    · exact ⟨ci', fs', v', by rw [set_get_ne e]; exact a1, a2, a3⟩
  · obtain ⟨t', vs, zi, j, v', a1, a2, a3, a4, a5⟩ := m3
    refine ⟨t', vs, zi, j, v', a1, ?_, a3, a4, a5⟩
    by_cases e : k = k'
    · subst e
      rw [hc] at a2
      cases a2
    · rw [set_get_ne e]
      exact a2
theorem wOk_put {w : sW} {k t ci kf : Nat} {fs : List Value} {v : Value} {ft : Nat × eE} (hw : wOk Z w) (hk : Z.2 k = some t) (hc : w[k]? = some (.inr (ci, fs))) (hft : fty Z t ci kf = some ft) (hv : fvOk Z ft v) : wOk Z (w.set k (.inr (ci, fs.set kf v))) := by
  refine ⟨by rw [List.length_set]; exact hw.1, ?_⟩
  intro k' t' hk'
  by_cases e : k = k'
  · subst e
    rw [hk] at hk'
    cases hk'
    obtain ⟨fs2, v2, b1, b2, b3, fts, b4, b5, b6, b7⟩ := fty_ok hw hk hft
    rw [hc] at b1
    cases b1
    refine ⟨_, _, b4, set_get_eq (List.getElem?_eq_some_iff.mp hc).1, ?_⟩
    refine ⟨_, rfl, by rw [List.length_set]; exact b6, ?_⟩
    intro j v' ft' hj hft'
    by_cases e2 : kf = j
    · subst e2
      rw [List.getElem?_set_self (List.getElem?_eq_some_iff.mp b2).1] at hj
      cases hj
      dsimp only at hft'
      rw [b5] at hft'
      cases hft'
      exact hv
    · rw [List.getElem?_set_ne e2] at hj
      exact b7 j v' ft' hj hft'
  · obtain ⟨ly, c, h1, h2, h3⟩ := hw.2 k' t' hk'
    exact ⟨ly, c, h1, by rw [set_get_ne e]; exact h2, h3⟩
theorem frOk_rf (w : sW) : frOk Z mods w w := by
  refine ⟨rfl, fun k c h => ⟨fun _ => h, fun t ht => ?_⟩, fun _ _ => jW_rf w, fun _ _ h => h, fun _ _ _ _ => rfl⟩
  cases c with
  | inl a => exact fun _ => h
  | inr q => exact ⟨q.2, h, fun _ _ => rfl⟩
theorem frOk_tr {a b c : sW} (h1 : frOk Z mods a b) (h2 : frOk Z mods b c) : frOk Z mods a c := by
  refine ⟨h2.1.trans h1.1, fun k x hx => ?_, fun hz hm => jW_tr (h1.2.2.1 hz hm) (h2.2.2.1 hz hm), fun hz hm p => h2.2.2.2.1 hz hm (h1.2.2.2.1 hz hm p), fun hz hm j hj => (h2.2.2.2.2 hz hm j hj).trans (h1.2.2.2.2 hz hm j hj)⟩
  obtain ⟨p1, p2⟩ := h1.2.1 k x hx
  refine ⟨fun hn => (h2.2.1 k x (p1 hn)).1 hn, fun t ht => ?_⟩
  have p3 := p2 t ht
  cases x with
  | inl q =>
    intro hm
    have h3 := p3 hm
    exact (h2.2.1 k _ h3).2 t ht hm
  | inr q =>
    obtain ⟨fs', e1, e2⟩ := p3
    obtain ⟨fs2, e3, e4⟩ := (h2.2.1 k _ e1).2 t ht
    exact ⟨fs2, e3, fun j hj => (e4 j hj).trans (e2 j hj)⟩
/-- is it allowed to change that -/
def mIn (mods : List (Nat × Nat)) (t kf : Nat) : Bool := List.rec (motive := fun _ => Bool) false (fun q _ ih => match Nat.beq q.1 t with
  | true => match Nat.beq q.2 kf with
    | true => true
    | false => ih
  | false => ih) mods
theorem mIn_mem {mods : List (Nat × Nat)} {t kf : Nat} (h : mIn mods t kf = true) : (t, kf) ∈ mods := by
  induction mods with
  | nil => cases h
  | cons q r ih =>
    have h : (match Nat.beq q.1 t with
      | true => match Nat.beq q.2 kf with
        | true => true
        | false => mIn r t kf
      | false => mIn r t kf) = true := h
    split at h
    · rename_i e1
      split at h
      · rename_i e2
        rw [← Nat.eq_of_beq_eq_true e1, ← Nat.eq_of_beq_eq_true e2]
        exact List.mem_cons_self
      · exact List.mem_cons_of_mem _ (ih h)
    · exact List.mem_cons_of_mem _ (ih h)
/-- what the reference's text hangs on: size, to, kind -/
def jOk0 (mods : List (Nat × Nat)) (t kf : Nat) : Bool := match mIn mods 61 777 with
  | true => true
  | false => match Nat.beq t 61 with
    | false => true
    | true => match Nat.beq kf 3 with
      | true => false
      | false => match Nat.beq kf 5 with
        | true => false
        | false => match Nat.beq kf 7 with
          | true => false
          | false => true
/-- the arrays of the class's sentences stay theirs -/
def rOk0 (mods : List (Nat × Nat)) (t kf : Nat) : Bool := match mIn mods 61 778 with
  | true => true
  | false => match Nat.beq t 22 with
    | false => true
    | true => match Nat.beq kf 0 with
      | true => false
      | false => match Nat.beq kf 2 with
        | true => false
        | false => true
def jOk (mods : List (Nat × Nat)) (t kf : Nat) : Bool := match jOk0 mods t kf with
  | true => rOk0 mods t kf
  | false => false
theorem jOk_0 {mods : List (Nat × Nat)} {t kf : Nat} (h : jOk mods t kf = true) : jOk0 mods t kf = true := by
  unfold jOk at h
  split at h
  · rename_i e
    exact e
  · cases h
theorem jOk_r {mods : List (Nat × Nat)} {t kf : Nat} (h : jOk mods t kf = true) (hm : (61, 778) ∉ mods) (ht : t = 22) : kf ≠ 0 ∧ kf ≠ 2 := by
  unfold jOk at h
  split at h
  · unfold rOk0 at h
    split at h
    · rename_i e
      exact absurd (mIn_mem e) hm
    · split at h
      · rename_i e
        rw [ht] at e
        cases e
      · split at h
        · cases h
        · rename_i e3
          split at h
          · cases h
          · rename_i e5
            exact ⟨(fun z => by rw [z] at e3; cases e3), (fun z => by rw [z] at e5; cases e5)⟩
  · cases h
def mJn (mods : List (Nat × Nat)) (t kf : Nat) : Bool := match mIn mods t kf with
  | true => jOk mods t kf
  | false => false
theorem mJn_1 {mods : List (Nat × Nat)} {t kf : Nat} (h : mJn mods t kf = true) : (t, kf) ∈ mods := by
  unfold mJn at h
  split at h
  · rename_i e
    exact mIn_mem e
  · cases h
theorem mJn_2 {mods : List (Nat × Nat)} {t kf : Nat} (h : mJn mods t kf = true) : jOk mods t kf = true := by
  unfold mJn at h
  split at h
  · exact h
  · cases h
theorem jOk_ok {mods : List (Nat × Nat)} {t kf : Nat} (h : jOk mods t kf = true) (ht : t = 61) (hm : (61, 777) ∉ mods) : kf ≠ 3 ∧ kf ≠ 5 ∧ kf ≠ 7 := by
  have h := jOk_0 h
  unfold jOk0 at h
  split at h
  · rename_i e
    exact absurd (mIn_mem e) hm
  · split at h
    · rename_i e
      rw [ht] at e
      cases e
    · split at h
      · cases h
      · rename_i e3
        split at h
        · cases h
        · rename_i e5
          split at h
          · cases h
          · rename_i e7
            exact ⟨(fun z => by rw [z] at e3; cases e3), (fun z => by rw [z] at e5; cases e5), (fun z => by rw [z] at e7; cases e7)⟩
theorem gF_put {w : sW} {k k' ci kf j : Nat} {fs : List Value} {v : Value} (hc : w[k]? = some (.inr (ci, fs))) (h : k' = k → j ≠ kf) : gF (w.set k (.inr (ci, fs.set kf v))) k' j = gF w k' j := by
  unfold gF
  by_cases e : k = k'
  · subst e
    rw [set_get_eq (List.getElem?_eq_some_iff.mp hc).1, hc]
    dsimp only
    rw [List.getElem?_set_ne (fun z => h rfl z.symm)]
  · rw [set_get_ne e]
theorem gF_arr {w : sW} {k k' j : Nat} {a a' : Nat × List Value} (hc : w[k]? = some (.inl a)) : gF (w.set k (.inl a')) k' j = gF w k' j := by
  unfold gF
  by_cases e : k = k'
  · subst e
    rw [set_get_eq (List.getElem?_eq_some_iff.mp hc).1, hc]
  · rw [set_get_ne e]
theorem gR_put {w : sW} {k k' ci kf j : Nat} {fs : List Value} {v : Value} (hc : w[k]? = some (.inr (ci, fs))) (h : k' = k → j ≠ kf) : gR (w.set k (.inr (ci, fs.set kf v))) k' j = gR w k' j := by
  unfold gR
  by_cases e : k = k'
  · subst e
    rw [set_get_eq (List.getElem?_eq_some_iff.mp hc).1, hc]
    dsimp only
    rw [List.getElem?_set_ne (fun z => h rfl z.symm)]
  · rw [set_get_ne e]
theorem gR_arr {w : sW} {k k' j : Nat} {a a' : Nat × List Value} (hc : w[k]? = some (.inl a)) : gR (w.set k (.inl a')) k' j = gR w k' j := by
  unfold gR
  by_cases e : k = k'
  · subst e
    rw [set_get_eq (List.getElem?_eq_some_iff.mp hc).1, hc]
  · rw [set_get_ne e]
theorem gX_put {w : sW} {k k' ci kf j : Nat} {fs : List Value} {v : Value} (hc : w[k]? = some (.inr (ci, fs))) : gX (w.set k (.inr (ci, fs.set kf v))) k' j = gX w k' j := by
  unfold gX
  by_cases e : k = k'
  · subst e
    rw [set_get_eq (List.getElem?_eq_some_iff.mp hc).1, hc]
  · rw [set_get_ne e]
theorem gX_arr {w : sW} {k k' j : Nat} {a : Nat × List Value} {vs : List Value} (hc : w[k]? = some (.inl a)) (h : k' = k → vs[j]? = a.2[j]?) : gX (w.set k (.inl (a.1, vs))) k' j = gX w k' j := by
  unfold gX
  by_cases e : k = k'
  · subst e
    rw [set_get_eq (List.getElem?_eq_some_iff.mp hc).1, hc]
    dsimp only
    rw [h rfl]
  · rw [set_get_ne e]
/-- arrays that sentences lie in: where they may be changed -/
def pOkA (mods : List (Nat × Nat)) (t hi : Nat) : Bool := match mIn mods 61 778 with
  | true => true
  | false => match pTy t with
    | false => true
    | true => match Nat.beq t 63 with
      | true => Nat.blt hi 196
      | false => false
theorem pOkA_ok {mods : List (Nat × Nat)} {t hi : Nat} (h : pOkA mods t hi = true) (hm : (61, 778) ∉ mods) (hp : pTy t = true) : t = 63 ∧ hi < 196 := by
  unfold pOkA at h
  split at h
  · rename_i e
    exact absurd (mIn_mem e) hm
  · rw [hp] at h
    dsimp only at h
    split at h
    · rename_i e
      exact ⟨Nat.eq_of_beq_eq_true e, Nat.blt_eq.mp h⟩
    · cases h
/-- where 'now' may be changed -/
def pOkB (mods : List (Nat × Nat)) (t lo : Nat) : Bool := match mIn mods 61 779 with
  | true => true
  | false => match Nat.beq t 63 with
    | true => Nat.ble 5 lo
    | false => true
theorem pOkB_ok {mods : List (Nat × Nat)} {lo : Nat} (h : pOkB mods 63 lo = true) (hm : (61, 779) ∉ mods) : 5 ≤ lo := by
  unfold pOkB at h
  split at h
  · rename_i e
    exact absurd (mIn_mem e) hm
  · exact Nat.le_of_ble_eq_true h
theorem pOkB_up {mods : List (Nat × Nat)} {t lo : Nat} (h : pOkB mods t 0 = true) : pOkB mods t lo = true := by
  unfold pOkB at h ⊢
  cases e : mIn mods 61 779 with
  | true => rfl
  | false =>
    rw [e] at h
    cases e3 : Nat.beq t 63 with
    | true =>
      rw [e3] at h
      cases h
    | false => rfl
def mPn (mods : List (Nat × Nat)) (t lo hi : Nat) : Bool := match mIn mods t 999 with
  | true => match pOkA mods t hi with
    | true => pOkB mods t lo
    | false => false
  | false => false
theorem mPn_1 {mods : List (Nat × Nat)} {t lo hi : Nat} (h : mPn mods t lo hi = true) : (t, 999) ∈ mods := by
  unfold mPn at h
  split at h
  · rename_i e
    exact mIn_mem e
  · cases h
theorem mPn_2 {mods : List (Nat × Nat)} {t lo hi : Nat} (h : mPn mods t lo hi = true) : pOkA mods t hi = true := by
  unfold mPn at h
  split at h
  · split at h
    · rename_i e
      exact e
    · cases h
  · cases h
theorem mPn_3 {mods : List (Nat × Nat)} {t lo hi : Nat} (h : mPn mods t lo hi = true) : pOkB mods t lo = true := by
  unfold mPn at h
  split at h
  · split at h
    · exact h
    · cases h
  · cases h
theorem frOk_put {w0 w : sW} {k t ci kf : Nat} {fs : List Value} {v : Value} (hf : frOk Z mods w0 w) (hk : Z.2 k = some t) (hc : w[k]? = some (.inr (ci, fs))) (hm : (t, kf) ∈ mods) (hj : jOk mods t kf = true) : frOk Z mods w0 (w.set k (.inr (ci, fs.set kf v))) := by
  refine frOk_tr hf ⟨by rw [List.length_set], fun k' x hx => ?_, fun hz hm' => ?_, fun hz hm' => PW_eq (fun c kf' hr => gR_put hc (fun z y => ?_)) (fun c j _ => gX_put hc), fun _ _ j _ => gX_put hc⟩
  case refine_3 =>
    subst z
    have e := pTf_of hz hr hk
    have r := jOk_r hj hm' e
    have r2 := hr.2
    omega
  case refine_2 =>
    have g : 213 = k → kf ≠ 3 ∧ kf ≠ 5 ∧ kf ≠ 7 := fun z => by
      subst z
      rw [hk] at hz
      cases hz
      exact jOk_ok hj rfl hm'
    exact jW_eq (gF_put hc (fun z => (g z).1.symm)) (gF_put hc (fun z => (g z).2.1.symm)) (gF_put hc (fun z => (g z).2.2.symm))
  by_cases e : k = k'
  · subst e
    rw [hc] at hx
    cases hx
    refine ⟨fun hn => (by rw [hk] at hn; cases hn), fun t' ht' => ?_⟩
    rw [hk] at ht'
    cases ht'
    refine ⟨_, set_get_eq (List.getElem?_eq_some_iff.mp hc).1, fun j hj => ?_⟩
    rw [List.getElem?_set_ne]
    intro e2
    subst e2
    exact hj hm
  · have hx' : (w.set k (.inr (ci, fs.set kf v)))[k']? = some x := by rw [set_get_ne e]; exact hx
    refine ⟨fun _ => hx', fun t' ht' => ?_⟩
    cases x with
    | inl a => exact fun _ => hx'
    | inr q => exact ⟨q.2, hx', fun _ _ => rfl⟩
/-- a check on what a field takes -/
def ckt (ck : Value → Bool) (ct : Nat → eE → Bool) : Prop := ∀ (Z : eZ) (kd : Nat) (e : eE) (z : Int) (v : Value), ct kd e = true → vOk kd z v → evOk Z z e → ck v = true
def ctI (kd : Nat) (_ : eE) : Bool := Nat.beq kd 0
def ctJ (kd : Nat) (_ : eE) : Bool := Nat.beq kd 1
def ctR (kd : Nat) (_ : eE) : Bool := Nat.beq kd 2
def ctZ (kd : Nat) (e : eE) : Bool := match Nat.beq kd 0 with
  | true => match e with
    | .inl q => match zle 0 q.1 with
      | true => zle q.2 1
      | false => false
    | .inr _ => false
  | false => false
theorem ck_I : ckt ckI ctI := by
  intro Z kd e z v h hv he
  rw [Nat.eq_of_beq_eq_true h] at hv
  obtain ⟨x, rfl, _⟩ := hv
  rfl
theorem ck_J : ckt ckJ ctJ := by
  intro Z kd e z v h hv he
  rw [Nat.eq_of_beq_eq_true h] at hv
  obtain ⟨x, rfl, _⟩ := hv
  rfl
theorem ck_R : ckt ckR ctR := by
  intro Z kd e z v h hv he
  rw [Nat.eq_of_beq_eq_true h] at hv
  obtain ⟨x, rfl, _⟩ := hv
  rfl
theorem ck_Z : ckt ckZ ctZ := by
  intro Z kd e z v h hv he
  unfold ctZ at h
  split at h
  · rename_i hk
    rw [Nat.eq_of_beq_eq_true hk] at hv
    obtain ⟨x, rfl, hx⟩ := hv
    split at h
    · rename_i q
      split at h
      · rename_i h1
        rw [zle_iff] at h h1
        have he : q.1 ≤ z ∧ z ≤ q.2 := he
        rcases b01 (x := x) (by omega) (by omega) with e | e <;> rw [e] <;> rfl
      · cases h
    · cases h
  · cases h
def t_put (Z : eZ) (mods : List (Nat × Nat)) (ci kf : Nat) (ct : Nat → eE → Bool) (np : Nat) : tA := fun A => match A.2.1 with
  | a :: r :: S => match Nat.beq r.1 2 with
    | true => match rty Z A.2.2.2.1 r with
      | some t => match fty Z t ci kf with
        | some ft => match Nat.beq a.1 ft.1 with
          | true => match ave A.2.2.2.1 a with
            | some e => match esub Z e ft.2 with
              | true => match ct a.1 e with
                | true => match mJn mods t kf with
                  | true => some [(some np, A.1, S, ((r.2, 0, kf, 0), a) :: kkill Z A.2.2.2.1 t 0 kf A.2.2.1, A.2.2.2)]
                  | false => none
                | false => none
              | false => none
            | none => none
          | false => none
        | none => none
      | none => none
    | false => none
  | _ => none
theorem tr_put {ci kf : Nat} {ck : Value → Bool} {ct : Nat → eE → Bool} (hck : ckt ck ct) : trOk Z mods (a_put ci kf ck np) (t_put Z mods ci kf ct np) := by
  intro A L h σ w0 ss hg
  obtain ⟨LL, S, M, E, N⟩ := A
  obtain ⟨lv, st, w, nn⟩ := ss
  unfold t_put at h
  split at h
  · rename_i a r S' hS
    dsimp only at hS
    subst hS
    split at h
    · rename_i hk
      split at h
      · rename_i t ht
        split at h
        · rename_i ft hft
          split at h
          · rename_i hkd
            split at h
            · rename_i e he
              split at h
              · rename_i hes
                split at h
                · rename_i hct
                  split at h
                  · rename_i hm
                    cases h
                    obtain ⟨h0, hL, hS, hM, hE, hw, hf, hl, hn⟩ := hg
                    obtain ⟨v, x, st', e1, hv, hx, hS'⟩ := gS_2 hS
                    dsimp only at e1 hw hf hM hE hl hL ht he hct
                    subst e1
                    obtain ⟨k, z, rfl, hz, hkz⟩ := avOk_R hx (Nat.eq_of_beq_eq_true hk)
                    obtain ⟨k', e2, e3⟩ := rty_ok h0.2 hE ht hz
                    have : k' = k := by omega
                    subst this
                    obtain ⟨fs, v0, w1, w2, w3, _⟩ := fty_ok hw e3 hft
                    obtain ⟨za, za1, za2⟩ := hv
                    have hev := ave_ok h0.2 hE he za1
                    have hfv : fvOk Z ft v := ⟨za + a.2.2, by rw [← Nat.eq_of_beq_eq_true hkd]; exact za2, esub_ok hes hev⟩
                    have hcv := hck Z a.1 e (za + a.2.2) v hct za2 hev
                    have hlen := (List.getElem?_eq_some_iff.mp w1).1
                    have hkf := (List.getElem?_eq_some_iff.mp w2).1
                    refine ⟨_, lmem, σ, (lv, st', w.set k' (.inr (ci, fs.set kf v)), nn), ext_rf σ, ⟨h0, hL, hS', ?_, hE, wOk_put hw e3 w1 hft hfv, frOk_put hf e3 w1 (mJn_1 hm) (mJn_2 hm), ?_, hn⟩, fun kk => ?_⟩
                    · intro q hq
                      rcases List.mem_cons.mp hq with e | e
                      · subst e
                        refine ⟨z, k', hz, hkz, ci, _, v, set_get_eq hlen, ?_, za, za1, za2⟩
                        exact List.getElem?_set_self hkf
                      · exact gM_put h0.2 hE hM e3 w1 q e
                    · dsimp only
                      rw [List.length_set]
                      exact hl
                    · simp only [a_put, xg_eq, xs_eq, w1, Nat.beq_refl, w2, hcv]
                  · cases h
                · cases h
              · cases h
            · cases h
          · cases h
        · cases h
      · cases h
    · cases h
  · cases h
end TR
end
