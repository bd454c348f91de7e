noncomputable section
-- ===== the check of a method, and what it says =====
def fW (tbl : List (Nat × sA)) (nL : Nat) (av : List Value) (w : sW) : Option sR := @dite _ (∃ (r : sR) (n : Nat), mF tbl nL n av w = some r) (Classical.propDecidable _) (fun h => some h.choose) (fun _ => none)
theorem fW_some {tbl : List (Nat × sA)} {nL : Nat} {av : List Value} {w : sW} {r : sR} (h : fW tbl nL av w = some r) : ∃ n, mF tbl nL n av w = some r := by
  unfold fW at h
  split at h
  · rename_i c
    cases h
    exact c.choose_spec
  · cases h
theorem fW_of {tbl : List (Nat × sA)} {nL n : Nat} {av : List Value} {w : sW} {r : sR} (h : mF tbl nL n av w = some r) : ∃ r', fW tbl nL av w = some r' := by
  unfold fW
  rw [dif_pos ⟨r, n, h⟩]
  exact ⟨_, rfl⟩
/-- from here it comes to an end, and every end is good -/
def Tp (tbl : List (Nat × sA)) (Po : sR → Prop) (pc : Nat) (ss : sS) : Prop := (∃ n r, runT tbl n pc ss = some r) ∧ ∀ n r, runT tbl n pc ss = some r → Po r
theorem Tp_step {tbl : List (Nat × sA)} {Po : sR → Prop} {pc pc' : Nat} {ss ss' : sS} {act : sA} (ha : t_get tbl pc = some act) (h : ∀ k, act k ss = k pc' ss') (g : Tp tbl Po pc' ss') : Tp tbl Po pc ss := by
  obtain ⟨⟨n, r, h1⟩, h2⟩ := g
  have e : ∀ n, runT tbl (n + 1) pc ss = runT tbl n pc' ss' := by
    intro n
    show (match t_get tbl pc with
      | some act => act (runT tbl n) ss
      | none => none) = _
    rw [ha]
    exact h _
  refine ⟨⟨n + 1, r, by rw [e]; exact h1⟩, ?_⟩
  intro n r hr
  cases n with
  | zero => cases hr
  | succ n =>
    rw [e] at hr
    exact h2 n r hr
theorem Tp_ret {tbl : List (Nat × sA)} {Po : sR → Prop} {pc : Nat} {ss : sS} {act : sA} {r0 : sR} (ha : t_get tbl pc = some act) (h : ∀ k, act k ss = some r0) (g : Po r0) : Tp tbl Po pc ss := by
  have e : ∀ n, runT tbl (n + 1) pc ss = some r0 := by
    intro n
    show (match t_get tbl pc with
      | some act => act (runT tbl n) ss
      | none => none) = _
    rw [ha]
    exact h _
  refine ⟨⟨1, r0, e 0⟩, ?_⟩
  intro n r hr
  cases n with
  | zero => cases hr
  | succ n =>
    rw [e] at hr
    cases hr
    exact g
/-- tables of acts and of symbolic steps, row by row -/
def pOk (Z : eZ) (mods : List (Nat × Nat)) (T : List (Nat × sA)) (U : List (Nat × tA)) : Prop := ∀ pc tr, eg U pc = some tr → ∃ act, t_get T pc = some act ∧ trOk Z mods act tr
theorem pOk_n {Z : eZ} {mods : List (Nat × Nat)} {T : List (Nat × sA)} : pOk Z mods T [] := by
  intro pc tr h
  cases h
theorem pOk_c {Z : eZ} {mods : List (Nat × Nat)} {T : List (Nat × sA)} {U : List (Nat × tA)} {p : Nat} {act : sA} {tr : tA} (h : trOk Z mods act tr) (g : pOk Z mods T U) : pOk Z mods ((p, act) :: T) ((p, tr) :: U) := by
  intro pc tr' h'
  have h' : (match Nat.beq p pc with
    | true => some tr
    | false => eg U pc) = some tr' := h'
  show ∃ a, (match Nat.beq p pc with
    | true => some act
    | false => t_get T pc) = some a ∧ _
  split at h'
  · cases h'
    exact ⟨act, rfl, h⟩
  · exact g pc tr' h'
/-- ranks: (0, _, c): c; (1, s, c): c - s; else s + c -/
abbrev eQ : Type := Nat × Nat × Int
def cv (σ : List Int) (a : eQ) : Int := match a.1 with
  | 0 => a.2.2
  | 1 => a.2.2 - vl σ (a.2.1, 0)
  | _ => vl σ (a.2.1, 0) + a.2.2
def mu (σ : List Int) : List eQ → Nat
  | [] => 0
  | a :: as => (cv σ a).toNat * 1099511627776 ^ as.length + mu σ as
def cdef (σ : List Int) (a : List eQ) : Prop := ∀ c ∈ a, ∃ z, σ[c.2.1]? = some z
theorem cv_ext {σ σ' : List Int} (h : ext σ σ') {a : eQ} (hd : ∃ z, σ[a.2.1]? = some z) : cv σ' a = cv σ a := by
  obtain ⟨z, hz⟩ := hd
  unfold cv
  rw [vl_of (σ := σ') (q := (a.2.1, 0)) (h _ _ hz), vl_of (σ := σ) (q := (a.2.1, 0)) hz]
theorem mu_ext {σ σ' : List Int} (h : ext σ σ') : ∀ {a : List eQ}, cdef σ a → mu σ' a = mu σ a
  | [], _ => rfl
  | a :: as, hd => by
    show (cv σ' a).toNat * _ + mu σ' as = (cv σ a).toNat * _ + mu σ as
    rw [cv_ext h (hd a List.mem_cons_self), mu_ext h (fun c hc => hd c (List.mem_cons_of_mem _ hc))]
theorem cdef_ext {σ σ' : List Int} (h : ext σ σ') {a : List eQ} (hd : cdef σ a) : cdef σ' a := by
  intro c hc
  obtain ⟨z, hz⟩ := hd c hc
  exact ⟨z, h _ _ hz⟩
/-- a pattern's rank in the state's words -/
def tq (θ : eT) (a : eQ) : eQ := match a.1 with
  | 0 => (0, 0, a.2.2)
  | 1 => (1, (tl θ a.2.1).1, a.2.2 - (tl θ a.2.1).2)
  | n => (n, (tl θ a.2.1).1, a.2.2 + (tl θ a.2.1).2)
theorem tq_ok {θ : eT} {σ : List Int} {N : Nat} {a : eQ} (h : a.1 = 0 ∨ a.2.1 < N) : cv (sig θ σ N) a = cv σ (tq θ a) := by
  obtain ⟨m, p, c⟩ := a
  have e : p < N → vl (sig θ σ N) (p, 0) = vl σ ((tl θ p).1, 0) + (tl θ p).2 := by
    intro hp
    rw [vl_of (q := (p, 0)) (sig_get hp)]
    unfold vl
    dsimp only
    omega
  match m, h with
  | 0, _ => rfl
  | 1, h =>
    have hp : p < N := by
      rcases h with h | h
      · exact absurd h (by simp)
      · exact h
    show c - vl (sig θ σ N) (p, 0) = c - (tl θ p).2 - vl σ ((tl θ p).1, 0)
    rw [e hp]
    omega
  | n + 2, h =>
    have hp : p < N := by
      rcases h with h | h
      · exact absurd h (by simp)
      · exact h
    show vl (sig θ σ N) (p, 0) + c = vl σ ((tl θ p).1, 0) + (c + (tl θ p).2)
    rw [e hp]
    omega
def ci (E : List (Nat × eE)) (a : eQ) : Option (Int × Int) := match a.1 with
  | 0 => some (a.2.2, a.2.2)
  | 1 => match ivx E (0, a.2.1, 0) with
    | some p => some (a.2.2 - p.2, a.2.2 - p.1)
    | none => none
  | _ => match ivx E (0, a.2.1, 0) with
    | some p => some (p.1 + a.2.2, p.2 + a.2.2)
    | none => none
theorem ci_ok {Z : eZ} {σ : List Int} {E : List (Nat × eE)} {a : eQ} {p : Int × Int} (h0 : σ[0]? = some 0) (hE : gE Z σ E) (h : ci E a = some p) : p.1 ≤ cv σ a ∧ cv σ a ≤ p.2 := by
  have key : ∀ q, ivx E (0, a.2.1, 0) = some q → q.1 ≤ vl σ (a.2.1, 0) ∧ vl σ (a.2.1, 0) ≤ q.2 := by
    intro q hq
    have hz : ∃ z, σ[a.2.1]? = some z := by
      unfold ivx at hq
      split at hq
      · rename_i c
        exact ave_def (a := (0, a.2.1, 0)) h0 hE c
      · cases hq
    obtain ⟨z, hz⟩ := hz
    have := ivx_ok (a := (0, a.2.1, 0)) h0 hE hq hz
    rw [vl_of (q := (a.2.1, 0)) hz]
    exact this
  unfold ci at h
  unfold cv
  split at h
  · cases h
    exact ⟨Int.le_refl _, Int.le_refl _⟩
  · split at h
    · rename_i q hq
      cases h
      have := key q hq
      exact ⟨by dsimp only; omega, by dsimp only; omega⟩
    · cases h
  · split at h
    · rename_i q hq
      cases h
      have := key q hq
      exact ⟨by dsimp only; omega, by dsimp only; omega⟩
    · cases h
def cbd (E : List (Nat × eE)) (a : eQ) : Bool := match ci E a with
  | some p => match zle 0 p.1 with
    | true => zle p.2 1099511627775
    | false => false
  | none => false
theorem cbd_ok {Z : eZ} {σ : List Int} {E : List (Nat × eE)} {a : eQ} (h0 : σ[0]? = some 0) (hE : gE Z σ E) (h : cbd E a = true) : 0 ≤ cv σ a ∧ cv σ a ≤ 1099511627775 := by
  unfold cbd at h
  split at h
  · rename_i p hp
    have := ci_ok h0 hE hp
    split at h
    · rename_i c
      rw [zle_iff] at h c
      omega
    · cases h
  · cases h
def ceq (a b : eQ) : Bool := match Nat.beq a.1 b.1 with
  | true => match Nat.beq a.2.1 b.2.1 with
    | true => zeq a.2.2 b.2.2
    | false => false
  | false => false
theorem ceq_ok {a b : eQ} (h : ceq a b = true) : a = b := by
  obtain ⟨a1, a2, a3⟩ := a
  obtain ⟨b1, b2, b3⟩ := b
  unfold ceq at h
  dsimp only at h
  split at h
  · rename_i e1
    split at h
    · rename_i e2
      rw [zeq_iff] at h
      rw [Nat.eq_of_beq_eq_true e1, Nat.eq_of_beq_eq_true e2, h]
    · cases h
  · cases h
def clt (E : List (Nat × eE)) (b a : eQ) : Bool := match Nat.beq a.1 b.1 with
  | true => match Nat.beq a.2.1 b.2.1 with
    | true => zle (b.2.2 + 1) a.2.2
    | false => match ci E a with
      | some p => match ci E b with
        | some q => zle (q.2 + 1) p.1
        | none => false
      | none => false
  | false => match ci E a with
    | some p => match ci E b with
      | some q => zle (q.2 + 1) p.1
      | none => false
    | none => false
theorem clt_ok {Z : eZ} {σ : List Int} {E : List (Nat × eE)} {a b : eQ} (h0 : σ[0]? = some 0) (hE : gE Z σ E) (h : clt E b a = true) : cv σ b < cv σ a := by
  have iv2 : (match ci E a with
    | some p => match ci E b with
      | some q => zle (q.2 + 1) p.1
      | none => false
    | none => false) = true → cv σ b < cv σ a := by
    intro h
    split at h
    · rename_i p hp
      split at h
      · rename_i q hq
        rw [zle_iff] at h
        have i1 := ci_ok h0 hE hp
        have i2 := ci_ok h0 hE hq
        omega
      · cases h
    · cases h
  unfold clt at h
  split at h
  · rename_i e1
    split at h
    · rename_i e2
      rw [zle_iff] at h
      have e1 := Nat.eq_of_beq_eq_true e1
      have e2 := Nat.eq_of_beq_eq_true e2
      unfold cv
      rw [e1, e2]
      split
      · omega
      · omega
      · omega
    · exact iv2 h
  · exact iv2 h
def lexlt (E : List (Nat × eE)) : List eQ → List eQ → Bool
  | a :: as, b :: bs => match cbd E b with
    | true => match clt E b a with
      | true => match xa (cbd E) bs with
        | true => Nat.beq (xl as) (xl bs)
        | false => false
      | false => match ceq b a with
        | true => lexlt E as bs
        | false => false
    | false => false
  | _, _ => false
theorem mu_lt {Z : eZ} {σ : List Int} {E : List (Nat × eE)} (h0 : σ[0]? = some 0) (hE : gE Z σ E) : ∀ {bs : List eQ}, xa (cbd E) bs = true → mu σ bs < 1099511627776 ^ bs.length
  | [], _ => by show 0 < 1; decide
  | b :: bs, h => by
    rw [xa_eq, List.all_cons, Bool.and_eq_true] at h
    have i := cbd_ok h0 hE h.1
    have r := mu_lt h0 hE (bs := bs) (by rw [xa_eq]; exact h.2)
    show (cv σ b).toNat * 1099511627776 ^ bs.length + mu σ bs < 1099511627776 ^ (bs.length + 1)
    rw [Nat.pow_succ]
    have k : (cv σ b).toNat * 1099511627776 ^ bs.length ≤ 1099511627775 * 1099511627776 ^ bs.length := Nat.mul_le_mul_right _ (by omega)
    omega
theorem lexlt_ok {Z : eZ} {σ : List Int} {E : List (Nat × eE)} (h0 : σ[0]? = some 0) (hE : gE Z σ E) : ∀ {as bs : List eQ}, lexlt E as bs = true → as.length = bs.length ∧ mu σ bs < mu σ as
  | a :: as, b :: bs, h => by
    have g : (match cbd E b with
      | true => match clt E b a with
        | true => match xa (cbd E) bs with
          | true => Nat.beq (xl as) (xl bs)
          | false => false
        | false => match ceq b a with
          | true => lexlt E as bs
          | false => false
      | false => false) = true := h
    split at g
    · rename_i c1
      have i1 := cbd_ok h0 hE c1
      split at g
      · rename_i c2
        have i2 := clt_ok h0 hE c2
        split at g
        · rename_i c3
          have hl := Nat.eq_of_beq_eq_true g
          rw [xl_eq, xl_eq] at hl
          have m := mu_lt h0 hE c3
          refine ⟨by simp [hl], ?_⟩
          show (cv σ b).toNat * 1099511627776 ^ bs.length + mu σ bs < (cv σ a).toNat * 1099511627776 ^ as.length + mu σ as
          rw [hl]
          have k : ((cv σ b).toNat + 1) * 1099511627776 ^ bs.length ≤ (cv σ a).toNat * 1099511627776 ^ bs.length := Nat.mul_le_mul_right _ (by omega)
          rw [Nat.add_mul] at k
          omega
        · cases g
      · split at g
        · rename_i c2
          have e := ceq_ok c2
          subst e
          obtain ⟨l1, l2⟩ := lexlt_ok h0 hE g
          refine ⟨by simp [l1], ?_⟩
          show (cv σ b).toNat * 1099511627776 ^ bs.length + mu σ bs < (cv σ b).toNat * 1099511627776 ^ as.length + mu σ as
          rw [l1]
          omega
        · cases g
    · cases g
  | [], _, h => by cases h
  | _ :: _, [], h => by cases h
theorem mu_tq {θ : eT} {σ : List Int} {N : Nat} : ∀ {as : List eQ}, (∀ a ∈ as, a.1 = 0 ∨ a.2.1 < N) → mu (sig θ σ N) as = mu σ (as.map (tq θ))
  | [], _ => rfl
  | a :: as, h => by
    show (cv (sig θ σ N) a).toNat * _ + mu (sig θ σ N) as = (cv σ (tq θ a)).toNat * 1099511627776 ^ (as.map (tq θ)).length + mu σ (as.map (tq θ))
    rw [tq_ok (h a List.mem_cons_self), mu_tq (fun b hb => h b (List.mem_cons_of_mem _ hb)), List.length_map]
/-- contracts: arguments, places, what is known, how many unknowns; the ends -/
abbrev eX : Type := List eV × List (eK × eV) × List (Nat × eE) × Nat × List eS
def endOk (Z : eZ) (mods : List (Nat × Nat)) (w : sW) (σ0 : List Int) (Q : List eS) (r : sR) : Prop := r.2.2 = (0, 0) ∧ frOk Z mods w r.2.1 ∧ wOk Z r.2.1 ∧ ∃ q ∈ Q, ∃ σ', ext σ0 σ' ∧ σ'.length = q.2.2.2.2 ∧ gS σ' q.2.1 r.1.toList ∧ gM σ' r.2.1 q.2.2.1 ∧ gE Z σ' q.2.2.2.1
def Con (Z : eZ) (mods : List (Nat × Nat)) (f : List Value → sW → Option sR) (x : eX) : Prop := ∀ (σ0 : List Int) (av : List Value) (w : sW), σ0.length = x.2.2.2.1 → σ0[0]? = some 0 → gS σ0 x.1 av → gM σ0 w x.2.1 → gE Z σ0 x.2.2.1 → wOk Z w → (∀ v ∈ av, wfV w.length v = true) → (∃ r, f av w = some r) ∧ ∀ r, f av w = some r → endOk Z mods w σ0 x.2.2.2.2 r
/-- the first unknowns keep their names -/
def idn (n : Nat) (θ : eT) : Bool := Nat.rec (motive := fun _ => Bool) true (fun p ih => match Nat.beq (tl θ p).1 p with
  | true => match zeq (tl θ p).2 0 with
    | true => ih
    | false => false
  | false => false) n
theorem idn_ok {n : Nat} {θ : eT} (h : idn n θ = true) : ∀ p, p < n → tl θ p = (p, 0) := by
  induction n with
  | zero => intro p hp; omega
  | succ n ih =>
    have h : (match Nat.beq (tl θ n).1 n with
      | true => match zeq (tl θ n).2 0 with
        | true => idn n θ
        | false => false
      | false => false) = true := h
    split at h
    · rename_i c1
      split at h
      · rename_i c2
        intro p hp
        by_cases e : p = n
        · subst e
          rw [zeq_iff] at c2
          exact Prod.ext (Nat.eq_of_beq_eq_true c1) c2
        · exact ih h p (by omega)
      · cases h
    · cases h
theorem ext_sig {θ : eT} {σ0 σ : List Int} {n N : Nat} (h : idn n θ = true) (hn : σ0.length = n) (hN : n ≤ N) (he : ext σ0 σ) : ext σ0 (sig θ σ N) := by
  intro i z hz
  have hi : i < n := by
    rw [← hn]
    exact (List.getElem?_eq_some_iff.mp hz).1
  rw [sig_get (by omega), idn_ok h i hi, vl_of (q := (i, 0)) (he _ _ hz)]
  simp
/-- cuts: by pc, patterns with ranks -/
abbrev eCu : Type := List (Nat × List (eS × List eQ))
def ranked (N : Nat) (rk : List eQ) : Bool := xa (fun a => match Nat.beq a.1 0 with
  | true => Nat.beq a.2.1 0
  | false => Nat.blt a.2.1 N) rk
theorem ranked_ok {N : Nat} {rk : List eQ} (h : ranked N rk = true) : ∀ a ∈ rk, (a.1 = 0 ∧ a.2.1 = 0) ∨ a.2.1 < N := by
  intro a ha
  unfold ranked at h
  rw [xa_eq] at h
  have h := List.all_eq_true.mp h a ha
  split at h
  · rename_i c
    exact Or.inl ⟨Nat.eq_of_beq_eq_true c, Nat.eq_of_beq_eq_true h⟩
  · exact Or.inr (Nat.blt_eq.mp h)
def atcut (Z : eZ) (n0 : Nat) (θ0 : eT) (rk : Option (List eQ)) (A : eS) (ps : List (eS × List eQ)) : Bool := List.rec (motive := fun _ => Bool) false (fun c _ ih => match (match mt Z θ0 c.1 A with
  | some q => match idn n0 q.1 with
    | true => match Nat.ble n0 c.1.2.2.2.2 with
      | true => match ranked c.1.2.2.2.2 c.2 with
        | true => match rk with
          | some a => lexlt q.2.2.2.2.1 a (c.2.map (tq q.1))
          | none => true
        | false => false
      | false => false
    | false => false
  | none => false) with
  | true => true
  | false => ih) ps
def atend (Z : eZ) (n0 : Nat) (θ0 : eT) (A : eS) (Q : List eS) : Bool := List.rec (motive := fun _ => Bool) false (fun c _ ih => match (match mt Z θ0 c A with
  | some q => match idn n0 q.1 with
    | true => match Nat.ble (xl c.2.1) 1 with
      | true => Nat.ble n0 c.2.2.2.2
      | false => false
    | false => false
  | none => false) with
  | true => true
  | false => ih) Q
def exK (Z : eZ) (U : List (Nat × tA)) (cuts : eCu) (Q : List eS) (n0 : Nat) (θ0 : eT) (rk : Option (List eQ)) (n : Nat) : Option Nat → eS → Bool := Nat.rec (motive := fun _ => Option Nat → eS → Bool) (fun _ _ => false) (fun _ ih pc A => match pc with
  | none => atend Z n0 θ0 A Q
  | some pc => match eg cuts pc with
    | some ps => atcut Z n0 θ0 rk A ps
    | none => match eg U pc with
      | some tr => match tr A with
        | some L => xa (fun B => ih B.1 B.2) L
        | none => false
      | none => false) n
def ex1 (Z : eZ) (U : List (Nat × tA)) (cuts : eCu) (Q : List eS) (n0 : Nat) (θ0 : eT) (rk : Option (List eQ)) (n pc : Nat) (A : eS) : Bool := match eg U pc with
  | some tr => match tr A with
    | some L => xa (fun B => exK Z U cuts Q n0 θ0 rk n B.1 B.2) L
    | none => false
  | none => false
theorem atcut_ok {Z : eZ} {n0 : Nat} {θ0 : eT} {rk : Option (List eQ)} {A : eS} {mods : List (Nat × Nat)} {w0 : sW} {σ0 σ : List Int} {ss : sS} (hn : σ0.length = n0) (he : ext σ0 σ) (hd : ∀ a, rk = some a → cdef σ a) (g : gA Z mods w0 A σ ss) : ∀ {ps : List (eS × List eQ)}, atcut Z n0 θ0 rk A ps = true → ∃ c ∈ ps, ∃ σc, ext σ0 σc ∧ gA Z mods w0 c.1 σc ss ∧ ∀ a, rk = some a → mu σc c.2 < mu σ a := by
  intro ps
  induction ps with
  | nil => intro h; cases h
  | cons c cs ih =>
    intro h
    have h : (match (match mt Z θ0 c.1 A with
      | some q => match idn n0 q.1 with
        | true => match Nat.ble n0 c.1.2.2.2.2 with
          | true => match ranked c.1.2.2.2.2 c.2 with
            | true => match rk with
              | some a => lexlt q.2.2.2.2.1 a (c.2.map (tq q.1))
              | none => true
            | false => false
          | false => false
        | false => false
      | none => false) with
      | true => true
      | false => atcut Z n0 θ0 rk A cs) = true := h
    split at h
    · rename_i hc
      refine ⟨c, List.mem_cons_self, ?_⟩
      split at hc
      · rename_i q hq
        split at hc
        · rename_i c1
          split at hc
          · rename_i c2
            split at hc
            · rename_i c3
              obtain ⟨σ', e1, g1, g2⟩ := mt_ok hq g
              refine ⟨_, ext_sig c1 hn (Nat.le_of_ble_eq_true c2) (ext_tr he e1), g2, ?_⟩
              intro a ha
              subst ha
              dsimp only at hc
              have hm := (lexlt_ok g1.1.2 g1.2.2.2.2.1 hc).2
              rw [mu_tq (fun b hb => by
                rcases ranked_ok c3 b hb with z | z
                · exact Or.inl z.1
                · exact Or.inr z), ← mu_ext e1 (hd a rfl)]
              exact hm
            · cases hc
          · cases hc
        · cases hc
      · cases hc
    · obtain ⟨c', m1, m2⟩ := ih h
      exact ⟨c', List.mem_cons_of_mem _ m1, m2⟩
theorem atend_ok {Z : eZ} {n0 : Nat} {θ0 : eT} {A : eS} {mods : List (Nat × Nat)} {w0 : sW} {σ0 σ : List Int} {ss : sS} (hn : σ0.length = n0) (he : ext σ0 σ) (g : gA Z mods w0 A σ ss) : ∀ {Q : List eS}, atend Z n0 θ0 A Q = true → ∃ c ∈ Q, ∃ σc, ext σ0 σc ∧ gA Z mods w0 c σc ss ∧ c.2.1.length ≤ 1 := by
  intro ps
  induction ps with
  | nil => intro h; cases h
  | cons c cs ih =>
    intro h
    have h : (match (match mt Z θ0 c A with
      | some q => match idn n0 q.1 with
        | true => match Nat.ble (xl c.2.1) 1 with
          | true => Nat.ble n0 c.2.2.2.2
          | false => false
        | false => false
      | none => false) with
      | true => true
      | false => atend Z n0 θ0 A cs) = true := h
    split at h
    · rename_i hc
      refine ⟨c, List.mem_cons_self, ?_⟩
      split at hc
      · rename_i q hq
        split at hc
        · rename_i c1
          split at hc
          · rename_i c2
            obtain ⟨σ', e1, g1, g2⟩ := mt_ok hq g
            rw [xl_eq] at c2
            exact ⟨_, ext_sig c1 hn (Nat.le_of_ble_eq_true hc) (ext_tr he e1), g2, Nat.le_of_ble_eq_true c2⟩
          · cases hc
        · cases hc
      · cases hc
    · obtain ⟨c', m1, m2⟩ := ih h
      exact ⟨c', List.mem_cons_of_mem _ m1, m2⟩
end
