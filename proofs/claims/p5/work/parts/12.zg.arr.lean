noncomputable section
-- ===== arrays =====
/-- every segment that meets the places lo to hi -/
def sgf (f : eE → Bool) (sg : List (Nat × eE)) (hi : Nat) : Nat → Bool := List.rec (motive := fun _ => Nat → Bool) (fun _ => false) (fun q _ ih lo => match Nat.blt lo q.1 with
  | true => match f q.2 with
    | true => match Nat.blt hi q.1 with
      | true => true
      | false => ih q.1
    | false => false
  | false => ih lo) sg
theorem sgf_ok {f : eE → Bool} {sg : List (Nat × eE)} {hi : Nat} : ∀ {lo : Nat}, sgf f sg hi lo = true → ∀ {j : Nat}, lo ≤ j → j ≤ hi → ∃ e, sga sg j = some e ∧ f e = true := by
  induction sg with
  | nil => intro lo h; cases h
  | cons q r ih =>
    intro lo h j h1 h2
    have h : (match Nat.blt lo q.1 with
      | true => match f q.2 with
        | true => match Nat.blt hi q.1 with
          | true => true
          | false => sgf f r hi q.1
        | false => false
      | false => sgf f r hi lo) = true := h
    show ∃ e, (match Nat.blt j q.1 with
      | true => some q.2
      | false => sga r j) = some e ∧ f e = true
    split at h
    · rename_i a
      split at h
      · rename_i b
        by_cases c : j < q.1
        · rw [show Nat.blt j q.1 = true from Nat.blt_eq.mpr c]
          exact ⟨q.2, rfl, b⟩
        · have : Nat.blt j q.1 = false := by
            cases e : Nat.blt j q.1 with
            | false => rfl
            | true => exact absurd (Nat.blt_eq.mp e) c
          rw [this]
          split at h
          · rename_i d
            have := Nat.blt_eq.mp d
            omega
          · exact ih h (by omega) h2
      · cases h
    · rename_i a
      have : ¬ lo < q.1 := fun z => by rw [Nat.blt_eq.mpr z] at a; cases a
      have : Nat.blt j q.1 = false := by
        cases e : Nat.blt j q.1 with
        | false => rfl
        | true => exact absurd (Nat.blt_eq.mp e) (by omega)
      rw [this]
      exact ih h h1 h2
def ejoin (a : Option eE) (e : eE) : Option eE := match a with
  | none => some e
  | some (.inl p) => match e with
    | .inl q => some (.inl (zmin p.1 q.1, zmax p.2 q.2))
    | .inr t => some (.inr t)
  | some (.inr t) => some (.inr t)
/-- all that these segments hold -/
def sgh (sg : List (Nat × eE)) (hi : Nat) : Nat → Option eE → Option eE := List.rec (motive := fun _ => Nat → Option eE → Option eE) (fun _ a => a) (fun q _ ih lo a => match Nat.blt lo q.1 with
  | true => match Nat.blt hi q.1 with
    | true => ejoin a q.2
    | false => ih q.1 (ejoin a q.2)
  | false => ih lo a) sg
/-- places of an interval -/
def nin (p : Int × Int) (n : Nat) : Option (Nat × Nat) := match p.1 with
  | .ofNat l => match p.2 with
    | .ofNat h => match Nat.blt h n with
      | true => some (l, h)
      | false => none
    | .negSucc _ => none
  | .negSucc _ => none
theorem nin_ok {p : Int × Int} {n : Nat} {q : Nat × Nat} (h : nin p n = some q) : p.1 = (q.1 : Int) ∧ p.2 = (q.2 : Int) ∧ q.2 < n := by
  unfold nin at h
  split at h
  · rename_i l hl
    split at h
    · rename_i hh hhh
      split at h
      · rename_i hb
        cases h
        exact ⟨hl, hhh, Nat.blt_eq.mp hb⟩
      · cases h
    · cases h
  · cases h
theorem ix_of {x : Int32} {n : Nat} (h : x.toInt = (n : Int)) : ixN x = n ∧ Nat.blt (ixN x) 2147483648 = true := by
  have a := toNat_nn (x := x) (by omega)
  have b := r32 x
  have e : ixN x = n := by unfold ixN; omega
  exact ⟨e, Nat.blt_eq.mpr (by omega)⟩
def aty (Z : eZ) (t : Nat) : Option (Nat × Nat × List (Nat × eE)) := match Z.1 t with
  | some (.inl q) => some q
  | _ => none
theorem aty_ok {Z : eZ} {w : sW} {k t : Nat} {q : Nat × Nat × List (Nat × eE)} (hw : wOk Z w) (hk : Z.2 k = some t) (h : aty Z t = some q) : Z.1 t = some (.inl q) ∧ ∃ vs, w[k]? = some (.inl (q.1, vs)) ∧ vs.length = q.2.1 ∧ ∀ (j : Nat) v, vs[j]? = some v → ∃ e, sga q.2.2 j = some e ∧ fvOk Z (akd q.1, e) v := by
  obtain ⟨ly, c, h1, h2, h3⟩ := hw.2 k t hk
  unfold aty at h
  rw [h1] at h
  split at h
  · rename_i q' hq
    cases hq
    cases h
    obtain ⟨vs, e1, e2, e3⟩ := h3
    exact ⟨h1, vs, by rw [h2, e1], e2, e3⟩
  · cases h
/-- an element's load: what comes of it -/
def t_el (Z : eZ) (ak np : Nat) : tA := fun A => match A.2.1 with
  | i :: r :: S => match Nat.beq i.1 0 with
    | true => match Nat.beq r.1 2 with
      | true => match rty Z A.2.2.2.1 r with
        | some t => match aty Z t with
          | some q => match Nat.beq q.1 ak with
            | true => match nin (iv A.2.2.2.1 i) q.2.1 with
              | some g => match efind A.2.2.1 (r.2, 1, i.2) with
                | some a => match Nat.beq a.1 (akd ak) with
                  | true => some [(some np, A.1, a :: S, A.2.2)]
                  | false => none
                | none => match sgh q.2.2 g.2 g.1 none with
                  | some e => match sgf (fun e' => esub Z e' e) q.2.2 g.2 g.1 with
                    | true => match fre (akd ak) e A.2.2.2.1 A.2.2.2.2 with
                      | f => some [(some np, A.1, f.1 :: S, ((r.2, 1, i.2), f.1) :: A.2.2.1, f.2)]
                    | false => none
                  | none => none
              | none => none
            | false => none
          | none => none
        | none => none
      | false => none
    | false => none
  | _ => none
section TR
variable {Z : eZ} {mods : List (Nat × Nat)} {np : Nat}
/-- the act loads element j of the array -/
def elAct (ak np : Nat) (act : sA) : Prop := ∀ (lv : List (Nat × Value)) (x : Int32) (h : Nat) (st : List Value) (w : sW) (nn : Nat × Nat) (vs : List Value) (j : Nat) (v : Value) (z : Int), w[h]? = some (.inl (ak, vs)) → x.toInt = (j : Int) → vs[j]? = some v → vOk (akd ak) z v → ∀ k, act k (lv, .int x :: .ref h :: st, w, nn) = k np (lv, v :: st, w, nn)
theorem el_i : elAct 1 np (a_iald np) := by
  intro lv x h st w nn vs j v z hw hx hv hz k
  obtain ⟨e1, e2⟩ := ix_of hx
  obtain ⟨y, rfl, _⟩ := hz
  simp only [a_iald, xg_eq, hw, e2]
  rw [e1, hv]
  rfl
theorem el_z : elAct 3 np (a_bald np) := by
  intro lv x h st w nn vs j v z hw hx hv hz k
  obtain ⟨e1, e2⟩ := ix_of hx
  obtain ⟨y, rfl, _⟩ := hz
  simp only [a_bald, xg_eq, hw, e2]
  rw [e1, hv]
  rfl
theorem el_b : elAct 0 np (a_bald np) := by
  intro lv x h st w nn vs j v z hw hx hv hz k
  obtain ⟨e1, e2⟩ := ix_of hx
  obtain ⟨y, rfl, _⟩ := hz
  simp only [a_bald, xg_eq, hw, e2]
  rw [e1, hv]
  rfl
theorem el_l : elAct 2 np (a_lald np) := by
  intro lv x h st w nn vs j v z hw hx hv hz k
  obtain ⟨e1, e2⟩ := ix_of hx
  obtain ⟨y, rfl, _⟩ := hz
  simp only [a_lald, xg_eq, hw, e2]
  rw [e1, hv]
  rfl
theorem el_a4 : elAct 4 np (a_aald np) := by
  intro lv x h st w nn vs j v z hw hx hv hz k
  obtain ⟨e1, e2⟩ := ix_of hx
  obtain ⟨y, rfl, _⟩ := hz
  simp only [a_aald, xg_eq, hw, e2]
  rw [e1, hv]
  rfl
theorem el_a5 : elAct 5 np (a_aald np) := by
  intro lv x h st w nn vs j v z hw hx hv hz k
  obtain ⟨e1, e2⟩ := ix_of hx
  obtain ⟨y, rfl, _⟩ := hz
  simp only [a_aald, xg_eq, hw, e2]
  rw [e1, hv]
  rfl
theorem el_a6 : elAct 6 np (a_aald np) := by
  intro lv x h st w nn vs j v z hw hx hv hz k
  obtain ⟨e1, e2⟩ := ix_of hx
  obtain ⟨y, rfl, _⟩ := hz
  simp only [a_aald, xg_eq, hw, e2]
  rw [e1, hv]
  rfl
theorem tr_el {ak : Nat} {act : sA} (hact : elAct ak np act) : trOk Z mods act (t_el Z ak np) := by
  intro A L h σ w0 ss hg
  obtain ⟨LL, S, M, E, N⟩ := A
  obtain ⟨lv, st, w, nn⟩ := ss
  unfold t_el at h
  split at h
  · rename_i i r S' hS
    dsimp only at hS
    subst hS
    split at h
    · rename_i hki
      split at h
      · rename_i hkr
        split at h
        · rename_i t ht
          split at h
          · rename_i q hq
            split at h
            · rename_i hak
              have hak := Nat.eq_of_beq_eq_true hak
              split at h
              · rename_i g hgn
                obtain ⟨h0, hL, hS, hM, hE, hw, hr⟩ := hg
                obtain ⟨x, y, st', e1, hx, hy, hS'⟩ := gS_2 hS
                dsimp only at e1 hw hM hE hL ht hgn
                subst e1
                obtain ⟨x, rfl, hx'⟩ := avOk_I hx (Nat.eq_of_beq_eq_true hki)
                obtain ⟨k, z, rfl, hz, hkz⟩ := avOk_R hy (Nat.eq_of_beq_eq_true hkr)
                obtain ⟨k', e2, e3⟩ := rty_ok h0.2 hE ht hz
                have : k' = k := by omega
                subst this
                obtain ⟨_, vs, v1, v2, v3⟩ := aty_ok hw e3 hq
                have ix := iv_ok h0.2 hE hx'
                obtain ⟨g1, g2, g3⟩ := nin_ok hgn
                have hj : x.toInt = (x.toInt.toNat : Int) := by omega
                have hlt : x.toInt.toNat < vs.length := by omega
                have hget := List.getElem?_eq_getElem hlt
                obtain ⟨e', s1, zz, s2, s3⟩ := v3 _ _ hget
                dsimp only at s2 s3
                rw [hak] at v1 s2
                have act := hact lv x k' st' w nn vs _ _ zz v1 hj hget s2
                split at h
                · rename_i a ha
                  split at h
                  · cases h
                    obtain ⟨zr, kk, m1, m2, t', vs', zi, j', v', m3, m4, m5, m6, m7⟩ := hM _ (efind_mem ha)
                    dsimp only at m1 m2 m3 m4 m5 m6 m7
                    rw [hz] at m1
                    cases m1
                    have : kk = k' := by omega
                    subst this
                    rw [v1] at m4
                    cases m4
                    obtain ⟨zx, zx1, zx2⟩ := hx'
                    rw [zx1] at m3
                    cases m3
                    have : j' = x.toInt.toNat := by omega
                    subst this
                    rw [hget] at m6
                    cases m6
                    exact ⟨_, lmem, σ, (lv, _ :: st', w, nn), ext_rf σ, ⟨h0, hL, ⟨m7, hS'⟩, hM, hE, hw, hr⟩, act⟩
                  · cases h
                · split at h
                  · rename_i e he
                    split at h
                    · rename_i hsg
                      cases h
                      obtain ⟨e2', b1, b2⟩ := sgf_ok hsg (j := x.toInt.toNat) (by omega) (by omega)
                      rw [s1] at b1
                      cases b1
                      obtain ⟨σ', a1, a2, a3, a4⟩ := fre_ok h0.1 h0.2 hE (kd := akd ak) ⟨zz, s2, esub_ok b2 s3⟩
                      refine ⟨_, lmem, σ', (lv, _ :: st', w, nn), a1, ⟨a2, gL_e a1 hL, ⟨a4, gS_e a1 hS'⟩, ?_, a3, hw, hr⟩, act⟩
                      intro p hp
                      rcases List.mem_cons.mp hp with e | e
                      · subst e
                        obtain ⟨zx, zx1, zx2⟩ := hx'
                        exact ⟨z, k', a1 _ _ hz, hkz, ak, vs, zx, x.toInt.toNat, _, a1 _ _ zx1, v1, (by dsimp only; omega), hget, a4⟩
                      · exact mfOk_e a1 (hM p e)
                    · cases h
                  · cases h
              · cases h
            · cases h
          · cases h
        · cases h
      · cases h
    · cases h
  · cases h
/-- the static rows -/
def stB (c : Int) : Option (Nat × Int) := match zeq c 1000000 with
  | true => some (16, 15)
  | false => match zeq c 1000001 with
    | true => some (8, 7)
    | false => none
def t_iald (Z : eZ) (np : Nat) : tA := fun A => match A.2.1 with
  | i :: r :: S => match Nat.beq r.2.1 0 with
    | true => match stB r.2.2 with
      | some b => match Nat.beq i.1 0 with
        | true => match Nat.beq r.1 2 with
          | true => match nin (iv A.2.2.2.1 i) b.1 with
            | some _ => match fre 0 (.inl (0, b.2)) A.2.2.2.1 A.2.2.2.2 with
              | f => some [(some np, A.1, f.1 :: S, A.2.2.1, f.2)]
            | none => none
          | false => none
        | false => none
      | none => t_el Z 1 np A
    | false => t_el Z 1 np A
  | _ => none
theorem stV_0 : ∀ j : Nat, j < 16 → ∃ v : Int32, (stV 1000000)[j]? = some v ∧ 0 ≤ v.toInt ∧ v.toInt ≤ 15 := by
  intro j hj
  match j, hj with
  | 0, _ => exact ⟨_, rfl, by decide, by decide⟩
  | 1, _ => exact ⟨_, rfl, by decide, by decide⟩
  | 2, _ => exact ⟨_, rfl, by decide, by decide⟩
  | 3, _ => exact ⟨_, rfl, by decide, by decide⟩
  | 4, _ => exact ⟨_, rfl, by decide, by decide⟩
  | 5, _ => exact ⟨_, rfl, by decide, by decide⟩
  | 6, _ => exact ⟨_, rfl, by decide, by decide⟩
  | 7, _ => exact ⟨_, rfl, by decide, by decide⟩
  | 8, _ => exact ⟨_, rfl, by decide, by decide⟩
  | 9, _ => exact ⟨_, rfl, by decide, by decide⟩
  | 10, _ => exact ⟨_, rfl, by decide, by decide⟩
  | 11, _ => exact ⟨_, rfl, by decide, by decide⟩
  | 12, _ => exact ⟨_, rfl, by decide, by decide⟩
  | 13, _ => exact ⟨_, rfl, by decide, by decide⟩
  | 14, _ => exact ⟨_, rfl, by decide, by decide⟩
  | 15, _ => exact ⟨_, rfl, by decide, by decide⟩
  | n + 16, h => omega
theorem stV_1 : ∀ j : Nat, j < 8 → ∃ v : Int32, (stV 1000001)[j]? = some v ∧ 0 ≤ v.toInt ∧ v.toInt ≤ 7 := by
  intro j hj
  have : ∀ j : Fin 8, ∃ v : Int32, (stV 1000001)[j.val]? = some v ∧ 0 ≤ v.toInt ∧ v.toInt ≤ 7 := by
    intro j
    match j with
    | 0 => exact ⟨_, rfl, by decide, by decide⟩
    | 1 => exact ⟨_, rfl, by decide, by decide⟩
    | 2 => exact ⟨_, rfl, by decide, by decide⟩
    | 3 => exact ⟨_, rfl, by decide, by decide⟩
    | 4 => exact ⟨_, rfl, by decide, by decide⟩
    | 5 => exact ⟨_, rfl, by decide, by decide⟩
    | 6 => exact ⟨_, rfl, by decide, by decide⟩
    | 7 => exact ⟨_, rfl, by decide, by decide⟩
  exact this ⟨j, hj⟩
theorem stB_ok {c : Int} {b : Nat × Int} (h : stB c = some b) : ∃ k : Nat, c = (k : Int) ∧ 1000000 ≤ k ∧ ∀ j : Nat, j < b.1 → ∃ v : Int32, (stV k)[j]? = some v ∧ 0 ≤ v.toInt ∧ v.toInt ≤ b.2 := by
  unfold stB at h
  split at h
  · rename_i e
    rw [zeq_iff] at e
    cases h
    exact ⟨1000000, e, by omega, stV_0⟩
  · split at h
    · rename_i e
      rw [zeq_iff] at e
      cases h
      exact ⟨1000001, e, by omega, stV_1⟩
    · cases h
theorem tr_iald : trOk Z mods (a_iald np) (t_iald Z np) := by
  intro A L h σ w0 ss hg
  obtain ⟨LL, S, M, E, N⟩ := A
  obtain ⟨lv, st, w, nn⟩ := ss
  unfold t_iald at h
  split at h
  · rename_i i r S' hS
    split at h
    · rename_i hr0
      split at h
      · rename_i b hb
        split at h
        · rename_i hki
          split at h
          · rename_i hkr
            split at h
            · rename_i g hgn
              cases h
              dsimp only at hS
              subst hS
              obtain ⟨h0, hL, hS, hM, hE, hw, hr⟩ := hg
              obtain ⟨x, y, st', e1, hx, hy, hS'⟩ := gS_2 hS
              dsimp only at e1 hw hM hE hL hgn
              subst e1
              obtain ⟨x, rfl, hx'⟩ := avOk_I hx (Nat.eq_of_beq_eq_true hki)
              obtain ⟨k, z, rfl, hz, hkz⟩ := avOk_R hy (Nat.eq_of_beq_eq_true hkr)
              rw [Nat.eq_of_beq_eq_true hr0, h0.2] at hz
              cases hz
              obtain ⟨k', c1, c2, c3⟩ := stB_ok hb
              have : k' = k := by omega
              subst this
              have ix := iv_ok h0.2 hE hx'
              obtain ⟨g1, g2, g3⟩ := nin_ok hgn
              have hj : x.toInt = (x.toInt.toNat : Int) := by omega
              obtain ⟨e1, e2⟩ := ix_of hj
              obtain ⟨v, b1, b2, b3⟩ := c3 x.toInt.toNat (by omega)
              have hnone : w[k']? = none := List.getElem?_eq_none (Nat.le_trans hw.1 c2)
              obtain ⟨σ', a1, a2, a3, a4⟩ := fre_ok (v := .int v) h0.1 h0.2 hE (kd := 0) (e := .inl (0, b.2)) ⟨v.toInt, ⟨v, rfl, rfl⟩, b2, b3⟩
              refine ⟨_, lmem, σ', (lv, .int v :: st', w, nn), a1, ⟨a2, gL_e a1 hL, ⟨a4, gS_e a1 hS'⟩, gM_e a1 hM, a3, hw, hr⟩, fun kk => ?_⟩
              simp only [a_iald, xg_eq, hnone, e2]
              rw [e1, b1]
            · cases h
          · cases h
        · cases h
      · exact tr_el el_i _ _ h σ w0 _ hg
    · exact tr_el el_i _ _ h σ w0 _ hg
  · cases h
def t_alen (Z : eZ) (np : Nat) : tA := fun A => match A.2.1 with
  | r :: S => match Nat.beq r.1 2 with
    | true => match rty Z A.2.2.2.1 r with
      | some t => match aty Z t with
        | some q => match Nat.blt q.2.1 2147483648 with
          | true => match Nat.blt q.1 7 with
            | true => some [(some np, A.1, (0, 0, (q.2.1 : Int)) :: S, A.2.2)]
            | false => none
          | false => none
        | none => none
      | none => none
    | false => none
  | _ => none
theorem tr_alen : trOk Z mods (a_alen np) (t_alen Z np) := by
  intro A L h σ w0 ss hg
  obtain ⟨LL, S, M, E, N⟩ := A
  obtain ⟨lv, st, w, nn⟩ := ss
  unfold t_alen at h
  split at h
  · rename_i r S' hS
    dsimp only at hS
    subst hS
    split at h
    · rename_i hk
      split at h
      · rename_i t ht
        split at h
        · rename_i q hq
          split at h
          · rename_i hb
            split at h
            · rename_i h7
              cases h
              obtain ⟨h0, hL, hS, hM, hE, hw, hr⟩ := hg
              obtain ⟨x, st', e1, hx, hS'⟩ := gS_1 hS
              dsimp only at e1 hw
              subst e1
              obtain ⟨k, z, rfl, hz, hkz⟩ := avOk_R hx (Nat.eq_of_beq_eq_true hk)
              obtain ⟨k', e2, e3⟩ := rty_ok h0.2 hE ht hz
              have : k' = k := by omega
              subst this
              obtain ⟨_, vs, v1, v2, v3⟩ := aty_ok hw e3 hq
              have hlt := Nat.blt_eq.mp hb
              refine ⟨_, lmem, σ, (lv, .int (Int32.ofNat q.2.1) :: st', w, nn), ext_rf σ, ⟨h0, hL, ⟨⟨0, h0.2, _, rfl, ?_⟩, hS'⟩, hM, hE, hw, hr⟩, fun kk => ?_⟩
              · rw [Int.zero_add]
                show (Int32.ofNat q.2.1).toInt = (q.2.1 : Int)
                exact Int32.toInt_ofNat_of_lt hlt
              · simp only [a_alen, xg_eq, xl_eq, v1, h7, v2]
            · cases h
          · cases h
        · cases h
      · cases h
    · cases h
  · cases h
end TR
end
