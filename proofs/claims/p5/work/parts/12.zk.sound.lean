noncomputable section
theorem gS_hd {σ : List Int} {S : List eV} {st : List Value} (h : S.length ≤ 1) (g : gS σ S st) : gS σ S st.head?.toList := by
  match S, st, g with
  | [], [], _ => trivial
  | [a], [v], g => exact g
  | [_], _ :: _ :: _, g => exact g.2.elim
  | _ :: _ :: _, _, _ => simp at h
  | [], _ :: _, g => exact g.elim
  | [_], [], g => exact g.elim
theorem exK_ok {Z : eZ} {mods : List (Nat × Nat)} {T : List (Nat × sA)} {U : List (Nat × tA)} {cuts : eCu} {Q : List eS} {n0 : Nat} {θ0 : eT} {rk : Option (List eQ)} {w0 : sW} {σ0 : List Int} {m : Nat} (hp : pOk Z mods T U) (hn : σ0.length = n0)
    (IH : ∀ pc ps c, eg cuts pc = some ps → c ∈ ps → ∀ σc ss, ext σ0 σc → gA Z mods w0 c.1 σc ss → (∀ a, rk = some a → mu σc c.2 < m) → Tp T (endOk Z mods w0 σ0 Q) pc ss) :
    ∀ (n : Nat) (pc : Option Nat) (A : eS) (σ : List Int) (ss : sS), exK Z U cuts Q n0 θ0 rk n pc A = true → gA Z mods w0 A σ ss → ext σ0 σ → (∀ a, rk = some a → cdef σ a ∧ mu σ a = m) →
      match pc with
      | none => endOk Z mods w0 σ0 Q (ss.2.1.head?, ss.2.2)
      | some pc => Tp T (endOk Z mods w0 σ0 Q) pc ss := by
  intro n
  induction n with
  | zero => intro pc A σ ss h; cases h
  | succ n ih =>
    intro pc A σ ss h g he hm
    cases pc with
    | none =>
      have h : atend Z n0 θ0 A Q = true := h
      obtain ⟨c, c1, σc, c2, c3, c4⟩ := atend_ok hn he g h
      refine ⟨g.2.2.2.2.2.2.2.2, g.2.2.2.2.2.2.1, g.2.2.2.2.2.1, c, c1, σc, c2, c3.1.1, ?_, c3.2.2.2.1, c3.2.2.2.2.1⟩
      exact gS_hd c4 c3.2.2.1
    | some pc =>
      have h : (match eg cuts pc with
        | some ps => atcut Z n0 θ0 rk A ps
        | none => match eg U pc with
          | some tr => match tr A with
            | some L => xa (fun B => exK Z U cuts Q n0 θ0 rk n B.1 B.2) L
            | none => false
          | none => false) = true := h
      split at h
      · rename_i ps hps
        obtain ⟨c, c1, σc, c2, c3, c4⟩ := atcut_ok hn he (fun a ha => (hm a ha).1) g h
        exact IH pc ps c hps c1 σc ss c2 c3 (fun a ha => by rw [← (hm a ha).2]; exact c4 a ha)
      · split at h
        · rename_i tr htr
          obtain ⟨act, a1, a2⟩ := hp pc tr htr
          split at h
          · rename_i L hL
            obtain ⟨B, b1, σ', ss', b2, b3, b4⟩ := a2 A L hL σ w0 ss g
            rw [xa_eq] at h
            have hB := List.all_eq_true.mp h B b1
            have k := ih B.1 B.2 σ' ss' hB b3 (ext_tr he b2) (fun a ha => ⟨cdef_ext b2 (hm a ha).1, by rw [mu_ext b2 (hm a ha).1]; exact (hm a ha).2⟩)
            obtain ⟨pc', B2⟩ := B
            cases pc' with
            | none => exact Tp_ret a1 b4 k
            | some pc' => exact Tp_step a1 b4 k
          · cases h
        · cases h
theorem ex1_ok {Z : eZ} {mods : List (Nat × Nat)} {T : List (Nat × sA)} {U : List (Nat × tA)} {cuts : eCu} {Q : List eS} {n0 : Nat} {θ0 : eT} {rk : Option (List eQ)} {w0 : sW} {σ0 : List Int} {m : Nat} (hp : pOk Z mods T U) (hn : σ0.length = n0)
    (IH : ∀ pc ps c, eg cuts pc = some ps → c ∈ ps → ∀ σc ss, ext σ0 σc → gA Z mods w0 c.1 σc ss → (∀ a, rk = some a → mu σc c.2 < m) → Tp T (endOk Z mods w0 σ0 Q) pc ss)
    {n pc : Nat} {A : eS} {σ : List Int} {ss : sS} (h : ex1 Z U cuts Q n0 θ0 rk n pc A = true) (g : gA Z mods w0 A σ ss) (he : ext σ0 σ) (hm : ∀ a, rk = some a → cdef σ a ∧ mu σ a = m) : Tp T (endOk Z mods w0 σ0 Q) pc ss := by
  unfold ex1 at h
  split at h
  · rename_i tr htr
    obtain ⟨act, a1, a2⟩ := hp pc tr htr
    split at h
    · rename_i L hL
      obtain ⟨B, b1, σ', ss', b2, b3, b4⟩ := a2 A L hL σ w0 ss g
      rw [xa_eq] at h
      have hB := List.all_eq_true.mp h B b1
      have k := exK_ok hp hn IH n B.1 B.2 σ' ss' hB b3 (ext_tr he b2) (fun a ha => ⟨cdef_ext b2 (hm a ha).1, by rw [mu_ext b2 (hm a ha).1]; exact (hm a ha).2⟩)
      obtain ⟨pc', B2⟩ := B
      cases pc' with
      | none => exact Tp_ret a1 b4 k
      | some pc' => exact Tp_step a1 b4 k
    · cases h
  · cases h
/-- locals of a method's beginning -/
def lvA : Nat → List eV → List (Nat × eV)
  | _, [] => []
  | i, a :: as => (i, a) :: lvA (match Nat.beq a.1 1 with
    | true => i + 2
    | false => i + 1) as
theorem lv_ge {av : List Value} : ∀ {i : Nat}, ∀ q ∈ lv_args i av, i ≤ q.1 := by
  induction av with
  | nil => intro i q hq; cases hq
  | cons v r ih =>
    intro i q hq
    rcases List.mem_cons.mp hq with e | e
    · subst e; exact Nat.le_refl _
    · have := ih q e
      split at this <;> omega
theorem l_get_skip {lv : List (Nat × Value)} {i j : Nat} {v : Value} (h : i ≠ j) : l_get ((i, v) :: lv) j = l_get lv j := l_get_tail (beq_ff h)
theorem gL_args {σ : List Int} : ∀ {ca : List eV} {av : List Value} {i : Nat}, gS σ ca av → gL σ (lvA i ca) (lv_args i av)
  | [], [], i, _ => fun q hq => by cases hq
  | a :: ca, v :: av, i, g => by
    have hc := cat_kd g.1
    have hi : (match Nat.beq a.1 1 with
      | true => i + 2
      | false => i + 1) = (if v.category = 2 then i + 2 else i + 1) := by
      rw [hc]
      cases e : Nat.beq a.1 1 with
      | true => rw [if_pos (Nat.eq_of_beq_eq_true e)]; rfl
      | false => rw [if_neg (ne_bff e)]; rfl
    have r := gL_args (i := if v.category = 2 then i + 2 else i + 1) g.2
    intro q hq
    have hq : q ∈ (i, a) :: lvA (match Nat.beq a.1 1 with
      | true => i + 2
      | false => i + 1) ca := hq
    rw [hi] at hq
    rcases List.mem_cons.mp hq with e | e
    · subst e
      exact ⟨v, l_get_head, g.1⟩
    · obtain ⟨v', h1, h2⟩ := r q e
      refine ⟨v', ?_, h2⟩
      have := lv_ge _ (l_get_mem h1)
      dsimp only at this
      show l_get ((i, v) :: lv_args (if v.category = 2 then i + 2 else i + 1) av) q.1 = _
      rw [l_get_skip (by split at this <;> omega)]
      exact h1
  | [], _ :: _, _, g => g.elim
  | _ :: _, [], _, g => g.elim
def slA (ca : List eV) : Nat := List.rec (motive := fun _ => Nat) 0 (fun a _ ih => match Nat.beq a.1 1 with
  | true => ih + 2
  | false => ih + 1) ca
theorem slA_ok {σ : List Int} : ∀ {ca : List eV} {av : List Value}, gS σ ca av → (lg_sl av).length = slA ca
  | [], [], _ => rfl
  | a :: ca, v :: av, g => by
    have hc := cat_kd g.1
    have r := slA_ok g.2
    show (lg_sl (v :: av)).length = (match Nat.beq a.1 1 with
      | true => slA ca + 2
      | false => slA ca + 1)
    have e : lg_sl (v :: av) = (if v.category = 2 then [.val v, .second] else [.val v]) ++ lg_sl av := by simp [lg_sl]
    rw [e, List.length_append, r, hc]
    cases e : Nat.beq a.1 1 with
    | true => rw [if_pos (Nat.eq_of_beq_eq_true e)]; simp; omega
    | false => rw [if_neg (ne_bff e)]; simp; omega
  | [], _ :: _, g => g.elim
  | _ :: _, [], g => g.elim
theorem wl_args {n : Nat} {av : List Value} : ∀ {i : Nat}, (∀ v ∈ av, wfV n v = true) → ∀ q ∈ lv_args i av, wfV n q.2 = true := by
  induction av with
  | nil => intro i h q hq; cases hq
  | cons v r ih =>
    intro i h q hq
    rcases List.mem_cons.mp hq with e | e
    · subst e
      exact h v List.mem_cons_self
    · exact ih (fun v hv => h v (List.mem_cons_of_mem _ hv)) q e
/-- the check of a method in one context -/
def chk (Z : eZ) (U : List (Nat × tA)) (nL : Nat) (cuts : eCu) (x : eX) (θ0 : eT) (n : Nat) : Bool := match Nat.ble (slA x.1) nL with
  | true => match ex1 Z U cuts x.2.2.2.2 x.2.2.2.1 θ0 none n 0 (lvA 0 x.1, [], x.2.1, x.2.2.1, x.2.2.2.1) with
    | true => xa (fun q => xa (fun c => match ranked c.1.2.2.2.2 c.2 with
      | true => ex1 Z U cuts x.2.2.2.2 x.2.2.2.1 θ0 (some c.2) n q.1 c.1
      | false => false) q.2) cuts
    | false => false
  | false => false
theorem chk_ok {Z : eZ} {mods : List (Nat × Nat)} {T : List (Nat × sA)} {U : List (Nat × tA)} {nL : Nat} {cuts : eCu} {x : eX} {θ0 : eT} {n : Nat} (hp : pOk Z mods T U) (h : chk Z U nL cuts x θ0 n = true) : Con Z mods (fW T nL) x := by
  intro σ0 av w hN h0 hS hM hE hw hwf
  unfold chk at h
  split at h
  · rename_i c1
    split at h
    · rename_i c2
      rw [xa_eq] at h
      have cut : ∀ m : Nat, ∀ pc ps c, eg cuts pc = some ps → c ∈ ps → ∀ σc ss, ext σ0 σc → gA Z mods w c.1 σc ss → mu σc c.2 = m → Tp T (endOk Z mods w σ0 x.2.2.2.2) pc ss := by
        intro m
        induction m using Nat.strongRecOn with
        | ind m ih =>
          intro pc ps c hps hc σc ss he g hm
          have k := List.all_eq_true.mp h _ (eg_mem hps)
          dsimp only at k
          rw [xa_eq] at k
          have k := List.all_eq_true.mp k c hc
          split at k
          · rename_i hr
            refine ex1_ok (m := m) hp hN ?_ k g he ?_
            · intro pc' ps' c' h1 h2 σc' ss' h3 h4 h5
              exact ih _ (h5 _ rfl) pc' ps' c' h1 h2 σc' ss' h3 h4 rfl
            · intro a ha
              cases ha
              refine ⟨fun b hb => ?_, hm⟩
              rcases ranked_ok hr b hb with z | z
              · rw [z.2]
                exact ⟨0, g.1.2⟩
              · have : b.2.1 < σc.length := by rw [g.1.1]; exact z
                exact ⟨_, List.getElem?_eq_getElem this⟩
          · cases k
      have main : Tp T (endOk Z mods w σ0 x.2.2.2.2) 0 (lv_args 0 av, [], w, 0, 0) := by
        refine ex1_ok (m := 0) hp hN ?_ c2 (σ := σ0) ?_ (ext_rf σ0) (fun a ha => by cases ha)
        · intro pc' ps' c' h1 h2 σc' ss' h3 h4 h5
          exact cut _ pc' ps' c' h1 h2 σc' ss' h3 h4 rfl
        · exact ⟨⟨hN, h0⟩, gL_args hS, trivial, hM, hE, hw, frOk_rf w, wl_args hwf, rfl⟩
      have hf : ∀ n, mF T nL n av w = runT T n 0 (lv_args 0 av, [], w, 0, 0) := by
        intro n
        unfold mF
        rw [slA_ok hS, c1]
      refine ⟨?_, ?_⟩
      · obtain ⟨⟨n, r, hr⟩, _⟩ := main
        exact fW_of (n := n) (r := r) (by rw [hf]; exact hr)
      · intro r hr
        obtain ⟨n, hn⟩ := fW_some hr
        rw [hf] at hn
        exact main.2 n r hn
    · cases h
  · cases h
end
