noncomputable section
-- ===== stores into arrays, copies =====
/-- two places that can't be one -/
def idif (E : List (Nat × eE)) (a b : Nat × Int) : Bool := match Nat.beq a.1 b.1 with
  | true => match zeq a.2 b.2 with
    | true => false
    | false => true
  | false => match iv E (0, a), iv E (0, b) with
    | p, q => match zle (p.2 + 1) q.1 with
      | true => true
      | false => zle (q.2 + 1) p.1
/-- an interval of any number (no fall back) -/
def ivx (E : List (Nat × eE)) (a : eV) : Option (Int × Int) := match ave E a with
  | some (.inl q) => some q
  | _ => none
def idf (E : List (Nat × eE)) (a b : Nat × Int) : Bool := match Nat.beq a.1 b.1 with
  | true => match zeq a.2 b.2 with
    | true => false
    | false => true
  | false => match ivx E (0, a) with
    | some p => match ivx E (0, b) with
      | some q => match zle (p.2 + 1) q.1 with
        | true => true
        | false => zle (q.2 + 1) p.1
      | none => false
    | none => false
section TR
variable {Z : eZ} {mods : List (Nat × Nat)} {np : Nat}
theorem ivx_ok {σ : List Int} {E : List (Nat × eE)} {a : eV} {p : Int × Int} {z : Int} (h0 : σ[0]? = some 0) (hE : gE Z σ E) (h : ivx E a = some p) (hz : σ[a.2.1]? = some z) : p.1 ≤ z + a.2.2 ∧ z + a.2.2 ≤ p.2 := by
  unfold ivx at h
  split at h
  · rename_i q hq
    cases h
    exact ave_ok h0 hE hq hz
  · cases h
theorem idf_ok {σ : List Int} {E : List (Nat × eE)} {a b : Nat × Int} {za zb : Int} (h0 : σ[0]? = some 0) (hE : gE Z σ E) (h : idf E a b = true) (ha : σ[a.1]? = some za) (hb : σ[b.1]? = some zb) : za + a.2 ≠ zb + b.2 := by
  unfold idf at h
  split at h
  · rename_i e
    split at h
    · cases h
    · rename_i e2
      rw [Nat.eq_of_beq_eq_true e, hb] at ha
      cases ha
      intro z
      have : a.2 = b.2 := by omega
      rw [zeq_iff.mpr this] at e2
      cases e2
  · split at h
    · rename_i p hp
      split at h
      · rename_i q hq
        have i1 := ivx_ok h0 hE hp ha
        have i2 := ivx_ok h0 hE hq hb
        dsimp only at i1 i2
        split at h
        · rename_i c
          rw [zle_iff] at c
          omega
        · rw [zle_iff] at h
          omega
      · cases h
    · cases h
def akill (Z : eZ) (E : List (Nat × eE)) (t : Nat) (i : Nat × Int) (M : List (eK × eV)) : List (eK × eV) := M.filter (fun q => match Nat.beq q.1.2.1 0 with
  | true => true
  | false => match rty Z E (2, q.1.1) with
    | some t' => match Nat.beq t' t with
      | true => idf E q.1.2.2 i
      | false => true
    | none => false)
theorem gM_ast {σ : List Int} {E : List (Nat × eE)} {M : List (eK × eV)} {w : sW} {k t ak j : Nat} {vs : List Value} {v : Value} {i : Nat × Int} {zi : Int} (h0 : σ[0]? = some 0) (hE : gE Z σ E) (hM : gM σ w M) (hk : Z.2 k = some t) (hc : w[k]? = some (.inl (ak, vs))) (hi : σ[i.1]? = some zi) (hj : (j : Int) = zi + i.2) : gM σ (w.set k (.inl (ak, vs.set j v))) (akill Z E t i M) := by
  intro q hq
  obtain ⟨q1, q2⟩ := List.mem_filter.mp hq
  obtain ⟨zr, k', m1, m2, m3⟩ := hM q q1
  refine ⟨zr, k', m1, m2, ?_⟩
  have hl := (List.getElem?_eq_some_iff.mp hc).1
  split at m3
  · obtain ⟨ci', fs', v', a1, a2, a3⟩ := m3
    refine ⟨ci', fs', v', ?_, a2, a3⟩
    by_cases e : k = k'
    · subst e
      rw [hc] at a1
      cases a1
    · rw [set_get_ne e]
      exact a1
  · rename_i htag
    obtain ⟨t', vs', zi', j', v', a1, a2, a3, a4, a5⟩ := m3
    by_cases e : k = k'
    · subst e
      rw [hc] at a2
      cases a2
      refine ⟨ak, _, zi', j', v', a1, set_get_eq hl, a3, ?_, a5⟩
      rw [beq_ff (by intro z; exact htag z)] at q2
      dsimp only at q2
      split at q2
      · rename_i t2 ht2
        obtain ⟨k2, b1, b2⟩ := rty_ok (a := (2, q.1.1)) h0 hE ht2 m1
        have : k2 = k := by dsimp only at b1; omega
        rw [this, hk] at b2
        cases b2
        rw [Nat.beq_refl] at q2
        dsimp only at q2
        have := idf_ok h0 hE q2 a1 hi
        rw [List.getElem?_set_ne (by omega)]
        exact a4
      · cases q2
    · exact ⟨t', vs', zi', j', v', a1, by rw [set_get_ne e]; exact a2, a3, a4, a5⟩
theorem wOk_arr {w : sW} {k t : Nat} {q : Nat × Nat × List (Nat × eE)} {vs' : List Value} (hw : wOk Z w) (hk : Z.2 k = some t) (hq : aty Z t = some q) (hl : vs'.length = q.2.1) (hv : ∀ (j : Nat) v, vs'[j]? = some v → ∃ e, sga q.2.2 j = some e ∧ fvOk Z (akd q.1, e) v) : wOk Z (w.set k (.inl (q.1, vs'))) := by
  refine ⟨by rw [List.length_set]; exact hw.1, ?_⟩
  intro k' t' hk'
  by_cases e : k = k'
  · subst e
    rw [hk] at hk'
    cases hk'
    obtain ⟨z1, vs, v1, v2, v3⟩ := aty_ok hw hk hq
    exact ⟨_, _, z1, set_get_eq (List.getElem?_eq_some_iff.mp v1).1, _, rfl, hl, hv⟩
  · obtain ⟨ly, c, h1, h2, h3⟩ := hw.2 k' t' hk'
    exact ⟨ly, c, h1, by rw [set_get_ne e]; exact h2, h3⟩
theorem frOk_arr {w0 w : sW} {k t lo hi : Nat} {a : Nat × List Value} {vs : List Value} (hf : frOk Z mods w0 w) (hk : Z.2 k = some t) (hc : w[k]? = some (.inl a)) (hm : (t, 999) ∈ mods) (hp : pOkA mods t hi = true) (hp2 : pOkB mods t lo = true) (hv : ∀ j, hi < j → vs[j]? = a.2[j]?) (hv2 : ∀ j, j < lo → vs[j]? = a.2[j]?) : frOk Z mods w0 (w.set k (.inl (a.1, vs))) := by
  refine frOk_tr hf ⟨by rw [List.length_set], fun k' x hx => ?_, fun _ _ => jW_eq (gF_arr hc) (gF_arr hc) (gF_arr hc), fun hZ h8 => PW_eq (fun _ _ _ => gR_arr hc) (fun c j hr => gX_arr hc (fun z => ?_)), fun hZ h9 j hj => gX_arr hc (fun z => ?_)⟩
  case refine_3 =>
    subst z
    have z1 : Z.2 215 = some 63 := hZ.1
    rw [z1] at hk
    cases hk
    have := pOkB_ok hp2 h9
    exact hv2 j (by omega)
  case refine_2 =>
    subst z
    obtain ⟨y1, y2⟩ := pTy_of hZ hr hk
    obtain ⟨x1, x2⟩ := pOkA_ok hp h8 y1
    have := y2 x1
    exact hv j (by omega)
  by_cases e : k = k'
  · subst e
    rw [hc] at hx
    cases hx
    refine ⟨fun hn => (by rw [hk] at hn; cases hn), fun t' ht' => ?_⟩
    rw [hk] at ht'
    cases ht'
    exact fun z => absurd hm z
  · have hx' : (w.set k (.inl (a.1, vs)))[k']? = some x := by rw [set_get_ne e]; exact hx
    refine ⟨fun _ => hx', fun t' ht' => ?_⟩
    cases x with
    | inl a => exact fun _ => hx'
    | inr q => exact ⟨q.2, hx', fun _ _ => rfl⟩
def t_ast (Z : eZ) (mods : List (Nat × Nat)) (ak : Nat) (ct : Nat → eE → Bool) (np : Nat) : tA := fun A => match A.2.1 with
  | a :: i :: r :: S => match Nat.beq i.1 0 with
    | true => match Nat.beq r.1 2 with
      | true => match rty Z A.2.2.2.1 r with
        | some t => match aty Z t with
          | some q => match Nat.beq q.1 ak with
            | true => match nin (iv A.2.2.2.1 i) q.2.1 with
              | some g => match Nat.beq a.1 (akd ak) with
                | true => match ave A.2.2.2.1 a with
                  | some e => match ct a.1 e with
                    | true => match sgf (fun e' => esub Z e e') q.2.2 g.2 g.1 with
                      | true => match mPn mods t g.1 g.2 with
                        | true => some [(some np, A.1, S, ((r.2, 1, i.2), a) :: akill Z A.2.2.2.1 t i.2 A.2.2.1, A.2.2.2)]
                        | false => none
                      | false => none
                    | false => none
                  | none => none
                | false => none
              | none => none
            | false => none
          | none => none
        | none => none
      | false => none
    | false => none
  | _ => none
def asAct (ak np : Nat) (ct : Nat → eE → Bool) (act : sA) : Prop := ∀ (Z : eZ) (lv : List (Nat × Value)) (x : Int32) (h : Nat) (st : List Value) (w : sW) (nn : Nat × Nat) (vs : List Value) (j : Nat) (v v0 : Value) (z : Int) (e : eE), w[h]? = some (.inl (ak, vs)) → x.toInt = (j : Int) → vs[j]? = some v0 → vOk (akd ak) z v → evOk Z z e → ct (akd ak) e = true → ∀ k, act k (lv, v :: .int x :: .ref h :: st, w, nn) = k np (lv, st, w.set h (.inl (ak, vs.set j v)), nn)
theorem as_i : asAct 1 np ctI (a_iast np) := by
  intro Z lv x h st w nn vs j v v0 z e hw hx hv hz he hc k
  obtain ⟨e1, e2⟩ := ix_of hx
  obtain ⟨y, rfl, _⟩ := hz
  simp only [a_iast, iq, xg_eq, xs_eq, hw, e2]
  rw [e1, hv]
theorem as_l : asAct 2 np ctJ (a_last np) := by
  intro Z lv x h st w nn vs j v v0 z e hw hx hv hz he hc k
  obtain ⟨e1, e2⟩ := ix_of hx
  obtain ⟨y, rfl, _⟩ := hz
  simp only [a_last, xg_eq, xs_eq, hw, e2]
  rw [e1, hv]
theorem as_z : asAct 3 np ctZ (a_bast np) := by
  intro Z lv x h st w nn vs j v v0 z e hw hx hv hz he hc k
  obtain ⟨e1, e2⟩ := ix_of hx
  obtain ⟨y, rfl, hy⟩ := hz
  have hn : vp_nar .boolean y = y := by
    unfold ctZ at hc
    split at hc
    · split at hc
      · rename_i q
        split at hc
        · rename_i h1
          rw [zle_iff] at hc h1
          have he : q.1 ≤ z ∧ z ≤ q.2 := he
          rcases b01 (x := y) (by omega) (by omega) with e | e <;> rw [e] <;> rfl
        · cases hc
      · cases hc
    · cases hc
  simp only [a_bast, xg_eq, xs_eq, hw, e2, hn]
  rw [e1, hv]
theorem tr_ast {ak : Nat} {ct : Nat → eE → Bool} {act : sA} (hact : asAct ak np ct act) : trOk Z mods act (t_ast Z mods ak ct np) := by
  intro A L h σ w0 ss hg
  obtain ⟨LL, S, M, E, N⟩ := A
  obtain ⟨lv, st, w, nn⟩ := ss
  unfold t_ast at h
  split at h
  · rename_i a i r S' hS
    dsimp only at hS
    subst hS
    split at h
    · rename_i hki
      split at h
      · rename_i hkr
        split at h
        · rename_i t ht
          split at h
          · rename_i q hq
            split at h
            · rename_i hak
              have hak := Nat.eq_of_beq_eq_true hak
              split at h
              · rename_i g hgn
                split at h
                · rename_i hka
                  have hka := Nat.eq_of_beq_eq_true hka
                  split at h
                  · rename_i e he
                    split at h
                    · rename_i hct
                      split at h
                      · rename_i hsg
                        split at h
                        · rename_i hm
                          cases h
                          obtain ⟨h0, hL, hS, hM, hE, hw, hf, hl, hn⟩ := hg
                          obtain ⟨v, st1, e1, hv, hS1⟩ := gS_1 hS
                          obtain ⟨x, y, st', e2, hx, hy, hS'⟩ := gS_2 hS1
                          dsimp only at e1 hw hM hE hL ht hgn hf hl he hct
                          subst e2
                          subst e1
                          obtain ⟨x, rfl, hx'⟩ := avOk_I hx (Nat.eq_of_beq_eq_true hki)
                          obtain ⟨k, z, rfl, hz, hkz⟩ := avOk_R hy (Nat.eq_of_beq_eq_true hkr)
                          obtain ⟨k', e2, e3⟩ := rty_ok h0.2 hE ht hz
                          have : k' = k := by omega
                          subst this
                          obtain ⟨_, vs, v1, v2, v3⟩ := aty_ok hw e3 hq
                          have ix := iv_ok h0.2 hE hx'
                          obtain ⟨g1, g2, g3⟩ := nin_ok hgn
                          have hj : x.toInt = (x.toInt.toNat : Int) := by omega
                          have hlt : x.toInt.toNat < vs.length := by omega
                          have hget := List.getElem?_eq_getElem hlt
                          obtain ⟨za, za1, za2⟩ := hv
                          have hev := ave_ok h0.2 hE he za1
                          obtain ⟨zx, zx1, zx2⟩ := hx'
                          rw [hka] at za2 hct
                          have act := hact Z lv x k' st' w nn vs _ v _ _ e (by rw [← hak]; exact v1) hj hget za2 hev hct
                          rw [← hak] at act
                          refine ⟨_, lmem, σ, (lv, st', w.set k' (.inl (q.1, vs.set x.toInt.toNat v)), nn), ext_rf σ, ⟨h0, hL, hS', ?_, hE, ?_, frOk_arr hf e3 v1 (mPn_1 hm) (mPn_2 hm) (mPn_3 hm) (fun j hj => List.getElem?_set_ne (by omega)) (fun j hj => List.getElem?_set_ne (by omega)), ?_, hn⟩, act⟩
                          · intro p hp
                            rcases List.mem_cons.mp hp with e' | e'
                            · subst e'
                              exact ⟨z, k', hz, hkz, q.1, _, zx, x.toInt.toNat, v, zx1, set_get_eq (List.getElem?_eq_some_iff.mp v1).1, (by dsimp only; omega), List.getElem?_set_self hlt, za, za1, (by rw [hka]; exact za2)⟩
                            · exact gM_ast h0.2 hE hM e3 v1 zx1 (by omega) p e'
                          · refine wOk_arr hw e3 hq (by rw [List.length_set]; exact v2) ?_
                            intro j v' hv'
                            by_cases ej : x.toInt.toNat = j
                            · subst ej
                              rw [List.getElem?_set_self hlt] at hv'
                              cases hv'
                              obtain ⟨e2', b1, b2⟩ := sgf_ok hsg (j := x.toInt.toNat) (by omega) (by omega)
                              exact ⟨e2', b1, _, (by rw [hak]; exact za2), esub_ok b2 hev⟩
                            · rw [List.getElem?_set_ne ej] at hv'
                              exact v3 j v' hv'
                          · dsimp only
                            rw [List.length_set]
                            exact hl
                        · cases h
                      · cases h
                    · cases h
                  · cases h
                · cases h
              · cases h
            · cases h
          · cases h
        · cases h
      · cases h
    · cases h
  · cases h
end TR
end
