noncomputable section
-- ===== a state against a pattern =====
abbrev eT : Type := List (Nat × (Nat × Int))
/-- what a pattern's unknown stands for -/
def tl (θ : eT) (p : Nat) : Nat × Int := match eg θ p with
  | some q => q
  | none => (0, 0)
def vl (σ : List Int) (q : Nat × Int) : Int := (match σ[q.1]? with
  | some z => z
  | none => 0) + q.2
def sig (θ : eT) (σ : List Int) (N : Nat) : List Int := (List.range N).map (fun p => vl σ (tl θ p))
theorem sig_len {θ : eT} {σ : List Int} {N : Nat} : (sig θ σ N).length = N := by simp [sig]
theorem sig_get {θ : eT} {σ : List Int} {N p : Nat} (h : p < N) : (sig θ σ N)[p]? = some (vl σ (tl θ p)) := by
  simp [sig, h]
theorem vl_of {σ : List Int} {q : Nat × Int} {z : Int} (h : σ[q.1]? = some z) : vl σ q = z + q.2 := by
  unfold vl
  rw [h]
def tad (q : Nat × Int) (c : Int) : Nat × Int := (q.1, q.2 + c)
theorem vl_tad {σ : List Int} {q : Nat × Int} {c : Int} : vl σ (tad q c) = vl σ q + c := by
  unfold vl tad
  dsimp only
  omega
/-- two names of one number -/
def sameV (E : List (Nat × eE)) (q r : Nat × Int) : Bool := match Nat.beq q.1 r.1 with
  | true => zeq q.2 r.2
  | false => match ivx E (0, q) with
    | some u => match ivx E (0, r) with
      | some v => match zeq u.1 u.2 with
        | true => match zeq v.1 v.2 with
          | true => zeq u.1 v.1
          | false => false
        | false => false
      | none => false
    | none => false
theorem sameV_ok {Z : eZ} {σ : List Int} {E : List (Nat × eE)} {q r : Nat × Int} {z : Int} (h0 : σ[0]? = some 0) (hE : gE Z σ E) (h : sameV E q r = true) (hr : σ[r.1]? = some z) : vl σ q = z + r.2 := by
  unfold sameV at h
  split at h
  · rename_i e
    rw [zeq_iff] at h
    have e := Nat.eq_of_beq_eq_true e
    rw [vl_of (by rw [e]; exact hr), h]
  · split at h
    · rename_i u hu
      split at h
      · rename_i v hv
        split at h
        · rename_i h1
          split at h
          · rename_i h2
            rw [zeq_iff] at h h1 h2
            have b := ivx_ok h0 hE hv hr
            dsimp only at b
            have hq : ∃ zq, σ[q.1]? = some zq := by
              unfold ivx at hu
              split at hu
              · rename_i w hw
                unfold ave at hw
                dsimp only at hw
                split at hw
                · rename_i c
                  rw [Nat.eq_of_beq_eq_true c]
                  exact ⟨0, h0⟩
                · split at hw
                  · rename_i c
                    obtain ⟨zq, a1, _⟩ := hE _ (eg_mem c)
                    exact ⟨zq, a1⟩
                  · rename_i c
                    obtain ⟨zq, a1, _⟩ := hE _ (eg_mem c)
                    exact ⟨zq, a1⟩
                  · cases hw
              · cases hu
            obtain ⟨zq, hq⟩ := hq
            have a := ivx_ok h0 hE hu hq
            dsimp only at a
            rw [vl_of hq]
            omega
          · cases h
        · cases h
      · cases h
    · cases h
/-- a pattern's value against a value -/
def chkV (E : List (Nat × eE)) (θ : eT) (N : Nat) (p a : eV) : Bool := match Nat.beq p.1 a.1 with
  | true => match Nat.blt p.2.1 N with
    | true => sameV E (tad (tl θ p.2.1) p.2.2) a.2
    | false => false
  | false => false
theorem chkV_ok {Z : eZ} {σ : List Int} {E : List (Nat × eE)} {θ : eT} {N : Nat} {p a : eV} {v : Value} (h0 : σ[0]? = some 0) (hE : gE Z σ E) (h : chkV E θ N p a = true) (hv : avOk σ a v) : avOk (sig θ σ N) p v := by
  unfold chkV at h
  split at h
  · rename_i hk
    split at h
    · rename_i hN
      obtain ⟨z, h1, h2⟩ := hv
      have := sameV_ok h0 hE h h1
      rw [vl_tad] at this
      refine ⟨_, sig_get (Nat.blt_eq.mp hN), ?_⟩
      rw [this, Nat.eq_of_beq_eq_true hk]
      exact h2
    · cases h
  · cases h
def chkS (E : List (Nat × eE)) (θ : eT) (N : Nat) : List eV → List eV → Bool
  | [], [] => true
  | p :: P, a :: S => match chkV E θ N p a with
    | true => chkS E θ N P S
    | false => false
  | _, _ => false
theorem chkS_ok {Z : eZ} {σ : List Int} {E : List (Nat × eE)} {θ : eT} {N : Nat} (h0 : σ[0]? = some 0) (hE : gE Z σ E) : ∀ {P S : List eV} {st : List Value}, chkS E θ N P S = true → gS σ S st → gS (sig θ σ N) P st
  | [], [], [], _, _ => trivial
  | [], [], _ :: _, _, g => g.elim
  | p :: P, a :: S, [], _, g => g.elim
  | p :: P, a :: S, v :: st, h, g => by
    have h : (match chkV E θ N p a with
      | true => chkS E θ N P S
      | false => false) = true := h
    split at h
    · rename_i c
      exact ⟨chkV_ok h0 hE c g.1, chkS_ok h0 hE h g.2⟩
    · cases h
  | [], _ :: _, _, h, _ => by cases h
  | _ :: _, [], _, h, _ => by cases h
def chkL (E : List (Nat × eE)) (θ : eT) (N : Nat) (L : List (Nat × eV)) (P : List (Nat × eV)) : Bool := xa (fun q => match eg L q.1 with
  | some a => chkV E θ N q.2 a
  | none => false) P
theorem chkL_ok {Z : eZ} {σ : List Int} {E : List (Nat × eE)} {θ : eT} {N : Nat} {L P : List (Nat × eV)} {lv : List (Nat × Value)} (h0 : σ[0]? = some 0) (hE : gE Z σ E) (h : chkL E θ N L P = true) (g : gL σ L lv) : gL (sig θ σ N) P lv := by
  intro q hq
  unfold chkL at h
  rw [xa_eq] at h
  have h := List.all_eq_true.mp h q hq
  split at h
  · rename_i a ha
    obtain ⟨v, v1, v2⟩ := g _ (eg_mem ha)
    exact ⟨v, v1, chkV_ok h0 hE h v2⟩
  · cases h
/-- a pattern's place, in the state's words -/
def tk (θ : eT) (k : eK) : eK := (tad (tl θ k.1.1) k.1.2, k.2.1, match k.2.1 with
  | 0 => (k.2.2.1, 0)
  | _ => tad (tl θ k.2.2.1) k.2.2.2)
def chkM (E : List (Nat × eE)) (θ : eT) (N : Nat) (M : List (eK × eV)) (P : List (eK × eV)) : Bool := xa (fun q => match Nat.blt q.1.1.1 N with
  | true => match Nat.beq q.1.2.1 0 || Nat.blt q.1.2.2.1 N with
    | true => match efind M (tk θ q.1) with
      | some a => chkV E θ N q.2 a
      | none => false
    | false => false
  | false => false) P
theorem chkM_ok {Z : eZ} {σ : List Int} {E : List (Nat × eE)} {θ : eT} {N : Nat} {M P : List (eK × eV)} {w : sW} (h0 : σ[0]? = some 0) (hE : gE Z σ E) (h : chkM E θ N M P = true) (g : gM σ w M) : gM (sig θ σ N) w P := by
  intro q hq
  unfold chkM at h
  rw [xa_eq] at h
  have h := List.all_eq_true.mp h q hq
  split at h
  · rename_i hN
    split at h
    · rename_i hN2
      split at h
      · rename_i a ha
        obtain ⟨zr, k, m1, m2, m3⟩ := g _ (efind_mem ha)
        obtain ⟨⟨⟨r, rc⟩, tg, s, c⟩, pv⟩ := q
        have m1 : σ[(tl θ r).1]? = some zr := m1
        have m2 : (k : Int) = zr + ((tl θ r).2 + rc) := m2
        refine ⟨_, k, sig_get (Nat.blt_eq.mp hN), ?_, ?_⟩
        · rw [vl_of m1]
          dsimp only
          omega
        · match tg, m3, hN2 with
          | 0, m3, _ =>
            obtain ⟨ci, fs, v, a1, a2, a3⟩ := m3
            exact ⟨ci, fs, v, a1, a2, chkV_ok h0 hE h a3⟩
          | n + 1, m3, hN2 =>
            obtain ⟨t, vs, zi, j, v, a1, a2, a3, a4, a5⟩ := m3
            have a1 : σ[(tl θ s).1]? = some zi := a1
            have a3 : (j : Int) = zi + ((tl θ s).2 + c) := a3
            have hs : s < N := by
              rcases Bool.or_eq_true_iff.mp hN2 with z | z
              · exact absurd (Nat.eq_of_beq_eq_true z) (by simp)
              · exact Nat.blt_eq.mp z
            refine ⟨t, vs, _, j, v, sig_get hs, a2, ?_, a4, chkV_ok h0 hE h a5⟩
            rw [vl_of a1]
            dsimp only
            omega
      · cases h
    · cases h
  · cases h
def chkE (Z : eZ) (E : List (Nat × eE)) (θ : eT) (N : Nat) (P : List (Nat × eE)) : Bool := xa (fun q => match Nat.blt q.1 N with
  | true => match ave E (0, tl θ q.1) with
    | some e => esub Z e q.2
    | none => false
  | false => false) P
theorem ave_def {Z : eZ} {σ : List Int} {E : List (Nat × eE)} {a : eV} {e : eE} (h0 : σ[0]? = some 0) (hE : gE Z σ E) (h : ave E a = some e) : ∃ z, σ[a.2.1]? = some z := by
  unfold ave at h
  split at h
  · rename_i c
    rw [Nat.eq_of_beq_eq_true c]
    exact ⟨0, h0⟩
  · split at h
    · rename_i c
      obtain ⟨zq, a1, _⟩ := hE _ (eg_mem c)
      exact ⟨zq, a1⟩
    · rename_i c
      obtain ⟨zq, a1, _⟩ := hE _ (eg_mem c)
      exact ⟨zq, a1⟩
    · cases h
theorem chkE_ok {Z : eZ} {σ : List Int} {E : List (Nat × eE)} {θ : eT} {N : Nat} {P : List (Nat × eE)} (h0 : σ[0]? = some 0) (hE : gE Z σ E) (h : chkE Z E θ N P = true) : gE Z (sig θ σ N) P := by
  intro q hq
  unfold chkE at h
  rw [xa_eq] at h
  have h := List.all_eq_true.mp h q hq
  split at h
  · rename_i hN
    split at h
    · rename_i e he
      refine ⟨_, sig_get (Nat.blt_eq.mp hN), ?_⟩
      obtain ⟨z, hz⟩ := ave_def h0 hE he
      have := ave_ok h0 hE he hz
      dsimp only at hz this
      rw [vl_of hz]
      exact esub_ok h this
    · cases h
  · cases h
def chkP (Z : eZ) (P A : eS) (θ : eT) : Bool := match Nat.blt 0 P.2.2.2.2 with
  | true => match sameV A.2.2.2.1 (tl θ 0) (0, 0) with
    | true => match chkL A.2.2.2.1 θ P.2.2.2.2 A.1 P.1 with
      | true => match chkS A.2.2.2.1 θ P.2.2.2.2 P.2.1 A.2.1 with
        | true => match chkM A.2.2.2.1 θ P.2.2.2.2 A.2.2.1 P.2.2.1 with
          | true => chkE Z A.2.2.2.1 θ P.2.2.2.2 P.2.2.2.1
          | false => false
        | false => false
      | false => false
    | false => false
  | false => false
theorem chkP_ok {Z : eZ} {mods : List (Nat × Nat)} {w0 : sW} {P A : eS} {θ : eT} {σ : List Int} {ss : sS} (h : chkP Z P A θ = true) (g : gA Z mods w0 A σ ss) : gA Z mods w0 P (sig θ σ P.2.2.2.2) ss := by
  obtain ⟨⟨hN, h0⟩, hL, hS, hM, hE, hr⟩ := g
  unfold chkP at h
  split at h
  · rename_i c1
    split at h
    · rename_i c2
      split at h
      · rename_i c3
        split at h
        · rename_i c4
          split at h
          · rename_i c5
            refine ⟨⟨sig_len, ?_⟩, chkL_ok h0 hE c3 hL, chkS_ok h0 hE c4 hS, chkM_ok h0 hE c5 hM, chkE_ok h0 hE h, hr⟩
            rw [sig_get (Nat.blt_eq.mp c1), sameV_ok h0 hE c2 h0]
            rfl
          · cases h
        · cases h
      · cases h
    · cases h
  · cases h
/-- a place that has no word yet gets one, by its type -/
def ens (Z : eZ) (k : eK) (A : eS) : eS := match efind A.2.2.1 k with
  | some _ => A
  | none => match rty Z A.2.2.2.1 (2, k.1) with
    | some t => match k.2.1 with
      | 0 => match Z.1 t with
        | some (.inr q) => match xg q.2 k.2.2.1 with
          | some ft => match fre ft.1 ft.2 A.2.2.2.1 A.2.2.2.2 with
            | f => (A.1, A.2.1, ((k.1, 0, k.2.2.1, 0), f.1) :: A.2.2.1, f.2)
          | none => A
        | _ => A
      | _ => A
    | none => A
theorem ens_ok {Z : eZ} {mods : List (Nat × Nat)} {w0 : sW} {A : eS} {k : eK} {σ : List Int} {ss : sS} (g : gA Z mods w0 A σ ss) : ∃ σ', ext σ σ' ∧ gA Z mods w0 (ens Z k A) σ' ss := by
  unfold ens
  split
  · exact ⟨σ, ext_rf σ, g⟩
  · split
    · rename_i t ht
      split
      · rename_i hk
        split
        · rename_i q hq
          split
          · rename_i ft hft
            obtain ⟨h0, hL, hS, hM, hE, hw, hr⟩ := g
            have hz : ∃ z, σ[k.1.1]? = some z := by
              unfold rty at ht
              split at ht
              · rename_i c
                exact ave_def h0.2 hE c
              · rename_i c
                exact ave_def h0.2 hE c
              · cases ht
            obtain ⟨z, hz⟩ := hz
            obtain ⟨k', e2, e3⟩ := rty_ok (a := (2, k.1)) h0.2 hE ht hz
            have hf : fty Z t q.1 k.2.2.1 = some ft := by
              unfold fty
              rw [hq]
              dsimp only
              rw [Nat.beq_refl]
              exact hft
            obtain ⟨fs, v, w1, w2, w3, _⟩ := fty_ok hw e3 hf
            obtain ⟨σ', a1, a2, a3, a4⟩ := fre_ok h0.1 h0.2 hE w3
            refine ⟨σ', a1, a2, gL_e a1 hL, gS_e a1 hS, ?_, a3, hw, hr⟩
            intro p hp
            rcases List.mem_cons.mp hp with e | e
            · subst e
              exact ⟨z, k', a1 _ _ hz, e2, q.1, fs, v, w1, w2, a4⟩
            · exact mfOk_e a1 (hM p e)
          · exact ⟨σ, ext_rf σ, g⟩
        · exact ⟨σ, ext_rf σ, g⟩
      · exact ⟨σ, ext_rf σ, g⟩
    · exact ⟨σ, ext_rf σ, g⟩
/-- names for a pattern's unknowns: first its locals and stack, then its places -/
def bd (θ : eT) (p a : eV) : eT := match eg θ p.2.1 with
  | some _ => θ
  | none => (p.2.1, (a.2.1, a.2.2 - p.2.2)) :: θ
def bdS : eT → List eV → List eV → eT
  | θ, p :: P, a :: S => bdS (bd θ p a) P S
  | θ, _, _ => θ
def bdL (L : List (Nat × eV)) (P : List (Nat × eV)) (θ : eT) : eT := List.rec (motive := fun _ => eT → eT) (fun θ => θ) (fun q _ ih θ => match eg L q.1 with
  | some a => ih (bd θ q.2 a)
  | none => ih θ) P θ
def bdM (Z : eZ) (P : List (eK × eV)) : eT → eS → eT × eS := List.rec (motive := fun _ => eT → eS → eT × eS) (fun θ A => (θ, A)) (fun q _ ih θ A => match ens Z (tk θ q.1) A with
  | A' => match efind A'.2.2.1 (tk θ q.1) with
    | some a => ih (bd θ q.2 a) A'
    | none => ih θ A') P
theorem bdM_ok {Z : eZ} {mods : List (Nat × Nat)} {w0 : sW} {ss : sS} {P : List (eK × eV)} : ∀ {θ : eT} {A : eS} {σ : List Int}, gA Z mods w0 A σ ss → ∃ σ', ext σ σ' ∧ gA Z mods w0 (bdM Z P θ A).2 σ' ss := by
  induction P with
  | nil => intro θ A σ g; exact ⟨σ, ext_rf σ, g⟩
  | cons q r ih =>
    intro θ A σ g
    obtain ⟨σ1, e1, g1⟩ := ens_ok (k := tk θ q.1) g
    show ∃ σ', ext σ σ' ∧ gA Z mods w0 (match efind (ens Z (tk θ q.1) A).2.2.1 (tk θ q.1) with
      | some a => bdM Z r (bd θ q.2 a) (ens Z (tk θ q.1) A)
      | none => bdM Z r θ (ens Z (tk θ q.1) A)).2 σ' ss
    split
    · rename_i a ha
      obtain ⟨σ2, e2, g2⟩ := ih (θ := bd θ q.2 a) g1
      exact ⟨σ2, ext_tr e1 e2, g2⟩
    · obtain ⟨σ2, e2, g2⟩ := ih (θ := θ) g1
      exact ⟨σ2, ext_tr e1 e2, g2⟩
/-- the state against the pattern: names, and the state with more words -/
def mt (Z : eZ) (θ0 : eT) (P A : eS) : Option (eT × eS) := match bdM Z P.2.2.1 (bdL A.1 P.1 (bdS θ0 P.2.1 A.2.1)) A with
  | q => match chkP Z P q.2 q.1 with
    | true => some q
    | false => none
theorem mt_ok {Z : eZ} {mods : List (Nat × Nat)} {w0 : sW} {ss : sS} {θ0 : eT} {P A : eS} {q : eT × eS} {σ : List Int} (h : mt Z θ0 P A = some q) (g : gA Z mods w0 A σ ss) : ∃ σ', ext σ σ' ∧ gA Z mods w0 q.2 σ' ss ∧ gA Z mods w0 P (sig q.1 σ' P.2.2.2.2) ss := by
  unfold mt at h
  dsimp only at h
  split at h
  · rename_i c
    cases h
    obtain ⟨σ', e1, g1⟩ := bdM_ok (Z := Z) (P := P.2.2.1) (θ := bdL A.1 P.1 (bdS θ0 P.2.1 A.2.1)) g
    exact ⟨σ', e1, g1, chkP_ok c g1⟩
  · cases h
end
