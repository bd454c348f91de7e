noncomputable section
-- ===== arraycopy; one way on for each value =====
theorem clampNeg {x : Int32} (h : 0 ≤ x.toInt) : ¬ x < 0 ∧ x.toNatClampNeg = x.toInt.toNat := by
  refine ⟨?_, rfl⟩
  rw [Int32.lt_iff_toInt_lt]
  have : (0 : Int32).toInt = 0 := rfl
  omega
theorem gM_kill1 {Z : eZ} {σ : List Int} {E : List (Nat × eE)} {M : List (eK × eV)} {w : sW} {k t : Nat} {a a' : Nat × List Value} (h0 : σ[0]? = some 0) (hE : gE Z σ E) (hM : gM σ w M) (hk : Z.2 k = some t) (hc : w[k]? = some (.inl a)) : gM σ (w.set k (.inl a')) (kkill Z E t 1 0 M) := by
  intro q hq
  obtain ⟨q1, q2⟩ := List.mem_filter.mp hq
  obtain ⟨zr, k', m1, m2, m3⟩ := hM q q1
  refine ⟨zr, k', m1, m2, ?_⟩
  by_cases e : k = k'
  · subst e
    split at m3
    · obtain ⟨ci, fs, v, a1, a2, a3⟩ := m3
      rw [hc] at a1
      cases a1
    · rename_i htag
      exfalso
      rw [beq_ff (fun z => htag z)] at q2
      have : Nat.beq 1 0 = false := rfl
      rw [this] at q2
      dsimp only at q2
      split at q2
      · rename_i t' ht'
        obtain ⟨k2, b1, b2⟩ := rty_ok (a := (2, q.1.1)) h0 hE ht' m1
        have : k2 = k := by dsimp only at b1; omega
        rw [this, hk] at b2
        cases b2
        rw [Nat.beq_refl] at q2
        cases q2
      · cases q2
  · split at m3
    · obtain ⟨ci, fs, v, a1, a2, a3⟩ := m3
      exact ⟨ci, fs, v, by rw [set_get_ne e]; exact a1, a2, a3⟩
    · obtain ⟨t', vs, zi, j, v, a1, a2, a3, a4, a5⟩ := m3
      exact ⟨t', vs, zi, j, v, a1, by rw [set_get_ne e]; exact a2, a3, a4, a5⟩
/-- the bounds of a copy -/
def cpb (Z : eZ) (qa qb : Nat × Nat × List (Nat × eE)) (p1 p2 p3 : Int × Int) : Bool := match nin p1 2147483648 with
  | some g1 => match nin p2 2147483648 with
    | some g2 => match nin p3 2147483648 with
      | some g3 => match Nat.ble (g1.2 + g3.2) qa.2.1 with
        | true => match Nat.ble (g2.2 + g3.2) qb.2.1 with
          | true => match sgh qa.2.2 (g1.2 + g3.2 - 1) g1.1 none with
            | some e => match sgf (fun e' => esub Z e' e) qa.2.2 (g1.2 + g3.2 - 1) g1.1 with
              | true => sgf (fun e' => esub Z e e') qb.2.2 (g2.2 + g3.2 - 1) g2.1
              | false => false
            | none => false
          | false => false
        | false => false
      | none => false
    | none => false
  | none => false
def t_copy (Z : eZ) (mods : List (Nat × Nat)) (np : Nat) : tA := fun A => match A.2.1 with
  | n :: dp :: b :: sp :: a :: S => match xa (fun v : eV => Nat.beq v.1 0) [n, dp, sp] with
    | true => match xa (fun v : eV => Nat.beq v.1 2) [a, b] with
      | true => match Nat.ble (catA S) 8 with
        | true => match rty Z A.2.2.2.1 a with
          | some ta => match rty Z A.2.2.2.1 b with
            | some tb => match aty Z ta with
              | some qa => match aty Z tb with
                | some qb => match Nat.beq qa.1 qb.1 with
                  | true => match Nat.beq qa.1 1 || Nat.beq qa.1 2 with
                    | true => match mPn mods tb 0 qb.2.1 with
                      | true => match cpb Z qa qb (iv A.2.2.2.1 sp) (iv A.2.2.2.1 dp) (iv A.2.2.2.1 n) with
                        | true => some [(some np, A.1, S, kkill Z A.2.2.2.1 tb 1 0 A.2.2.1, A.2.2.2)]
                        | false => none
                      | false => none
                    | false => none
                  | false => none
                | none => none
              | none => none
            | none => none
          | none => none
        | false => none
      | false => none
    | false => none
  | _ => none
theorem cpb_ok {Z : eZ} {qa qb : Nat × Nat × List (Nat × eE)} {p1 p2 p3 : Int × Int} (h : cpb Z qa qb p1 p2 p3 = true) {s d n : Int} (hs : p1.1 ≤ s ∧ s ≤ p1.2) (hd : p2.1 ≤ d ∧ d ≤ p2.2) (hn : p3.1 ≤ n ∧ n ≤ p3.2) : 0 ≤ s ∧ 0 ≤ d ∧ 0 ≤ n ∧ s.toNat + n.toNat ≤ qa.2.1 ∧ d.toNat + n.toNat ≤ qb.2.1 ∧ ∀ j : Nat, d.toNat ≤ j → j < d.toNat + n.toNat → ∀ e1, sga qa.2.2 (s.toNat + (j - d.toNat)) = some e1 → ∃ e2, sga qb.2.2 j = some e2 ∧ ∀ z, evOk Z z e1 → evOk Z z e2 := by
  unfold cpb at h
  split at h
  · rename_i g1 hg1
    split at h
    · rename_i g2 hg2
      split at h
      · rename_i g3 hg3
        obtain ⟨a1, a2, a3⟩ := nin_ok hg1
        obtain ⟨b1, b2, b3⟩ := nin_ok hg2
        obtain ⟨c1, c2, c3⟩ := nin_ok hg3
        split at h
        · rename_i l1
          split at h
          · rename_i l2
            have l1 := Nat.le_of_ble_eq_true l1
            have l2 := Nat.le_of_ble_eq_true l2
            split at h
            · rename_i e he
              split at h
              · rename_i hsg
                refine ⟨by omega, by omega, by omega, by omega, by omega, ?_⟩
                intro j j1 j2 e1 he1
                obtain ⟨e1', x1, x2⟩ := sgf_ok hsg (j := s.toNat + (j - d.toNat)) (by omega) (by omega)
                rw [he1] at x1
                cases x1
                obtain ⟨e2, y1, y2⟩ := sgf_ok h (j := j) (by omega) (by omega)
                exact ⟨e2, y1, fun z hz => esub_ok y2 (esub_ok x2 hz)⟩
              · cases h
            · cases h
          · cases h
        · cases h
      · cases h
    · cases h
  · cases h
theorem tr_copy {Z : eZ} {mods : List (Nat × Nat)} {np : Nat} : trOk Z mods (a_copy np) (t_copy Z mods np) := by
  intro A L h σ w0 ss hg
  obtain ⟨LL, S, M, E, N⟩ := A
  obtain ⟨lv, st, w, nn⟩ := ss
  unfold t_copy at h
  split at h
  · rename_i n dp b sp a S' hS
    dsimp only at hS
    subst hS
    split at h
    · rename_i hk0
      split at h
      · rename_i hk2
        split at h
        · rename_i hcat
          split at h
          · rename_i ta hta
            split at h
            · rename_i tb htb
              split at h
              · rename_i qa hqa
                split at h
                · rename_i qb hqb
                  split at h
                  · rename_i hab
                    split at h
                    · rename_i h12
                      split at h
                      · rename_i hm
                        split at h
                        · rename_i hcp
                          cases h
                          obtain ⟨h0, hL, hS, hM, hE, hw, hf, hl, hn⟩ := hg
                          obtain ⟨vn, vd, st1, e1, hvn, hvd, hS1⟩ := gS_2 hS
                          obtain ⟨vb, vs0, st2, e2, hvb, hvs, hS2⟩ := gS_2 hS1
                          obtain ⟨va, st3, e3, hva, hS3⟩ := gS_1 hS2
                          dsimp only at e1 hw hM hE hL hta htb hcp hf hl
                          subst e3
                          subst e2
                          subst e1
                          rw [xa_eq] at hk0 hk2
                          simp only [List.all_cons, List.all_nil, Bool.and_true, Bool.and_eq_true] at hk0 hk2
                          obtain ⟨xn, rfl, hxn⟩ := avOk_I hvn (Nat.eq_of_beq_eq_true hk0.1)
                          obtain ⟨xd, rfl, hxd⟩ := avOk_I hvd (Nat.eq_of_beq_eq_true hk0.2.1)
                          obtain ⟨xs', rfl, hxs⟩ := avOk_I hvs (Nat.eq_of_beq_eq_true hk0.2.2)
                          obtain ⟨ka, za, rfl, hza, hka⟩ := avOk_R hva (Nat.eq_of_beq_eq_true hk2.1)
                          obtain ⟨kb, zb, rfl, hzb, hkb⟩ := avOk_R hvb (Nat.eq_of_beq_eq_true hk2.2)
                          obtain ⟨ka', u1, u2⟩ := rty_ok h0.2 hE hta hza
                          have : ka' = ka := by omega
                          subst this
                          obtain ⟨kb', u3, u4⟩ := rty_ok h0.2 hE htb hzb
                          have : kb' = kb := by omega
                          subst this
                          obtain ⟨_, vs, v1, v2, v3⟩ := aty_ok hw u2 hqa
                          obtain ⟨_, us, x1, x2, x3⟩ := aty_ok hw u4 hqb
                          obtain ⟨c1, c2, c3, c4, c5, c6⟩ := cpb_ok hcp (iv_ok h0.2 hE hxs) (iv_ok h0.2 hE hxd) (iv_ok h0.2 hE hxn)
                          obtain ⟨n1, n2⟩ := clampNeg c1
                          obtain ⟨n3, n4⟩ := clampNeg c2
                          obtain ⟨n5, n6⟩ := clampNeg c3
                          have hab := Nat.eq_of_beq_eq_true hab
                          rw [← v2] at c4
                          rw [← x2] at c5
                          have hcs : (st3.map fun v => v.category).sum ≤ 8 := by rw [catA_ok hS3]; exact Nat.le_of_ble_eq_true hcat
                          have hcond : ¬ xs' < 0 ∧ ¬ xd < 0 ∧ ¬ xn < 0 ∧ xs'.toNatClampNeg + xn.toNatClampNeg ≤ vs.length ∧ xd.toNatClampNeg + xn.toNatClampNeg ≤ us.length ∧ (st3.map fun v => v.category).sum ≤ 8 := ⟨n1, n3, n5, by rw [n2, n6]; exact c4, by rw [n4, n6]; exact c5, hcs⟩
                          refine ⟨_, lmem, σ, (lv, st3, w.set kb' (.inl (qb.1, cpyL vs us xs'.toInt.toNat xd.toInt.toNat xn.toInt.toNat)), nn), ext_rf σ, ⟨h0, hL, hS3, gM_kill1 h0.2 hE hM u4 x1, hE, ?_, frOk_arr hf u4 x1 (mPn_1 hm) (mPn_2 hm) (mPn_3 hm) (fun j hj => by rw [List.getElem?_eq_none (by rw [cpyL_len c4 c5]; omega), List.getElem?_eq_none (by dsimp only; omega)]) (fun j hj => absurd hj (Nat.not_lt_zero j)), ?_, hn⟩, fun kk => ?_⟩
                          · refine wOk_arr hw u4 hqb (by rw [cpyL_len c4 c5]; exact x2) ?_
                            intro j v hv
                            rw [cpyL_get c4 c5] at hv
                            split at hv
                            · rename_i hj
                              obtain ⟨e1, s1, zz, s2, s3⟩ := v3 _ _ hv
                              obtain ⟨e2, t1, t2⟩ := c6 j hj.1 hj.2 e1 s1
                              exact ⟨e2, t1, zz, by rw [← hab]; exact s2, t2 zz s3⟩
                            · exact x3 j v hv
                          · dsimp only
                            rw [List.length_set]
                            exact hl
                          · rcases Bool.or_eq_true_iff.mp h12 with c | c
                            · have e := Nat.eq_of_beq_eq_true c
                              rw [e] at v1
                              rw [← hab, e] at x1 ⊢
                              simp only [a_copy, xg_eq, xs_eq, v1, x1]
                              rw [if_pos hcond, n2, n4, n6]
                            · have e := Nat.eq_of_beq_eq_true c
                              rw [e] at v1
                              rw [← hab, e] at x1 ⊢
                              simp only [a_copy, xg_eq, xs_eq, v1, x1]
                              rw [if_pos hcond, n2, n4, n6]
                        · cases h
                      · cases h
                    · cases h
                  · cases h
                · cases h
              · cases h
            · cases h
          · cases h
        · cases h
      · cases h
    · cases h
  · cases h
/-- one way on for each value of what came last -/
def spl (pc : Option Nat) (L : List (Nat × eV)) (a : eV) (S : List eV) (M : List (eK × eV)) (E : List (Nat × eE)) (N : Nat) (n : Nat) : Int → List (Option Nat × eS) := Nat.rec (motive := fun _ => Int → List (Option Nat × eS)) (fun _ => []) (fun _ ih l => (pc, L, (0, 0, l) :: S, M, eupd E a l l, N) :: ih (l + 1)) n
theorem spl_mem {pc : Option Nat} {L : List (Nat × eV)} {a : eV} {S : List eV} {M : List (eK × eV)} {E : List (Nat × eE)} {N : Nat} {x : Int} : ∀ {n : Nat} {l : Int}, l ≤ x → x < l + n → (pc, L, (0, 0, x) :: S, M, eupd E a x x, N) ∈ spl pc L a S M E N n l := by
  intro n
  induction n with
  | zero => intro l h1 h2; omega
  | succ n ih =>
    intro l h1 h2
    show _ ∈ (pc, L, (0, 0, l) :: S, M, eupd E a l l, N) :: spl pc L a S M E N n (l + 1)
    rcases Int.lt_or_le l x with c | c
    · exact List.mem_cons_of_mem _ (ih (by omega) (by omega))
    · have : x = l := by omega
      subst this
      exact List.mem_cons_self
def t_split (lim : Nat) (t : tA) : tA := fun A => match t A with
  | some [B] => match B.2.2.1 with
    | a :: S => match Nat.beq a.1 0 with
      | true => match iv B.2.2.2.2.1 a with
        | p => match (p.2 + 1 - p.1) with
          | .ofNat n => match Nat.ble n lim with
            | true => some (spl B.1 B.2.1 a S B.2.2.2.1 B.2.2.2.2.1 B.2.2.2.2.2 n p.1)
            | false => some [B]
          | .negSucc _ => some [B]
      | false => some [B]
    | [] => some [B]
  | r => r
theorem tr_split {Z : eZ} {mods : List (Nat × Nat)} {act : sA} {lim : Nat} {t : tA} (ht : trOk Z mods act t) : trOk Z mods act (t_split lim t) := by
  intro A L h σ w0 ss hg
  unfold t_split at h
  split at h
  · rename_i B hB
    obtain ⟨B', b1, σ', ss', b2, b3, b4⟩ := ht A _ hB σ w0 ss hg
    have e := List.mem_singleton.mp b1
    subst e
    have same : some [B'] = some L → ∃ B ∈ L, ∃ σ' ss', ext σ σ' ∧ gA Z mods w0 B.2 σ' ss' ∧ aim act ss B.1 ss' := by
      intro h
      cases h
      exact ⟨B', lmem, σ', ss', b2, b3, b4⟩
    obtain ⟨pc, LL, S, M, E, N⟩ := B'
    dsimp only at h
    split at h
    · rename_i _ a S'
      split at h
      · rename_i hk
        split at h
        · rename_i n hn
          split at h
          · cases h
            obtain ⟨h0, hL, hSt, hM, hE, hr⟩ := b3
            obtain ⟨lv, st, w⟩ := ss'
            obtain ⟨v, st', e1, hv, hS'⟩ := gS_1 hSt
            dsimp only at e1
            subst e1
            obtain ⟨x, rfl, hx⟩ := avOk_I hv (Nat.eq_of_beq_eq_true hk)
            have ix := iv_ok h0.2 hE hx
            dsimp only at ix
            have hn : (iv E a).2 + 1 - (iv E a).1 = (n : Int) := hn
            obtain ⟨z, z1, z2⟩ := hx
            exact ⟨_, spl_mem (x := x.toInt) ix.1 (by omega), σ', _, b2, ⟨h0, hL, ⟨⟨0, h0.2, x, rfl, (Int.zero_add _).symm⟩, hS'⟩, hM, eupd_ok hE z1 z2 (Int.le_refl _) (Int.le_refl _), hr⟩, b4⟩
          · exact same h
        · exact same h
      · exact same h
    · exact same h
  · exact ht A L h σ w0 ss hg
end
