noncomputable section
-- ===== calls, by contract =====
def tp (θ : eT) (N B p : Nat) : Nat × Int := match Nat.blt p N with
  | true => tl θ p
  | false => (Nat.add B (Nat.sub p N), 0)
def tpv (θ : eT) (N B : Nat) (a : eV) : eV := (a.1, tad (tp θ N B a.2.1) a.2.2)
def tpk (θ : eT) (N B : Nat) (k : eK) : eK := (tad (tp θ N B k.1.1) k.1.2, k.2.1, match k.2.1 with
  | 0 => (k.2.2.1, 0)
  | _ => tad (tp θ N B k.2.2.1) k.2.2.2)
/-- the caller's numbers behind the call hold the callee's -/
def rel (σQ σ2 : List Int) (f : Nat → Nat × Int) : Prop := ∀ (p : Nat) (z : Int), σQ[p]? = some z → ∃ z', σ2[(f p).1]? = some z' ∧ z = z' + (f p).2
theorem rel_v {σQ σ2 : List Int} {θ : eT} {N B : Nat} (h : rel σQ σ2 (tp θ N B)) {a : eV} {v : Value} (g : avOk σQ a v) : avOk σ2 (tpv θ N B a) v := by
  obtain ⟨z, z1, z2⟩ := g
  obtain ⟨z', h1, h2⟩ := h _ _ z1
  refine ⟨z', h1, ?_⟩
  show vOk a.1 (z' + ((tp θ N B a.2.1).2 + a.2.2)) v
  rw [← Int.add_assoc, ← h2]
  exact z2
theorem rel_S {σQ σ2 : List Int} {θ : eT} {N B : Nat} (h : rel σQ σ2 (tp θ N B)) : ∀ {S : List eV} {st : List Value}, gS σQ S st → gS σ2 (S.map (tpv θ N B)) st
  | [], [], _ => trivial
  | _ :: _, _ :: _, g => ⟨rel_v h g.1, rel_S h g.2⟩
  | [], _ :: _, g => g.elim
  | _ :: _, [], g => g.elim
theorem rel_M {σQ σ2 : List Int} {θ : eT} {N B : Nat} (h : rel σQ σ2 (tp θ N B)) {w : sW} {M : List (eK × eV)} (g : gM σQ w M) : gM σ2 w (M.map (fun q => (tpk θ N B q.1, tpv θ N B q.2))) := by
  intro q hq
  obtain ⟨m, m1, rfl⟩ := List.mem_map.mp hq
  obtain ⟨zr, k, a1, a2, a3⟩ := g m m1
  obtain ⟨⟨⟨r, rc⟩, tg, s, c⟩, pv⟩ := m
  obtain ⟨z', b1, b2⟩ := h _ _ a1
  dsimp only at b1 b2 a2
  refine ⟨z', k, b1, ?_, ?_⟩
  · show (k : Int) = z' + ((tp θ N B r).2 + rc)
    omega
  · match tg, a3 with
    | 0, a3 =>
      obtain ⟨ci, fs, v, e1, e2, e3⟩ := a3
      exact ⟨ci, fs, v, e1, e2, rel_v h e3⟩
    | n + 1, a3 =>
      obtain ⟨t, vs, zi, j, v, e1, e2, e3, e4, e5⟩ := a3
      obtain ⟨zi', i1, i2⟩ := h _ _ e1
      dsimp only at i1 i2 e3
      refine ⟨t, vs, zi', j, v, i1, e2, ?_, e4, rel_v h e5⟩
      show (j : Int) = zi' + ((tp θ N B s).2 + c)
      omega
/-- what is known behind a call; none: that end can't be -/
def tpE1 (q : Nat × Int) (e : eE) (E : List (Nat × eE)) : Option (List (Nat × eE)) := match e with
  | .inl p => match ivx E (0, q) with
    | some p' => match zle (zmax p.1 p'.1) (zmin p.2 p'.2) with
      | true => some (eupd E (0, q) (zmax p.1 p'.1) (zmin p.2 p'.2))
      | false => none
    | none => some (eupd E (0, q) p.1 p.2)
  | .inr t => match Nat.beq q.1 0 with
    | true => some E
    | false => match zeq q.2 0 with
      | true => some ((q.1, .inr t) :: E)
      | false => some E
def tpE (θ : eT) (N B : Nat) (E : List (Nat × eE)) (Q : List (Nat × eE)) : Option (List (Nat × eE)) := List.rec (motive := fun _ => Option (List (Nat × eE))) (some E) (fun q _ ih => match ih with
  | some E' => tpE1 (tp θ N B q.1) q.2 E'
  | none => none) Q
theorem tpE1_ok {Z : eZ} {σ2 : List Int} {q : Nat × Int} {e : eE} {E : List (Nat × eE)} {z : Int} (h0 : σ2[0]? = some 0) (hE : gE Z σ2 E) (hz : σ2[q.1]? = some z) (he : evOk Z (z + q.2) e) : ∃ E', tpE1 q e E = some E' ∧ gE Z σ2 E' := by
  unfold tpE1
  split
  · rename_i p
    have he : p.1 ≤ z + q.2 ∧ z + q.2 ≤ p.2 := he
    split
    · rename_i p' hp'
      have i := ivx_ok (a := (0, q)) h0 hE hp' hz
      dsimp only at i
      have m1 : zmax p.1 p'.1 ≤ z + q.2 := zmax_le he.1 i.1
      have m2 : z + q.2 ≤ zmin p.2 p'.2 := le_zmin he.2 i.2
      rw [zle_iff.mpr (Int.le_trans m1 m2)]
      exact ⟨_, rfl, eupd_ok hE (a := (0, q)) hz rfl m1 m2⟩
    · exact ⟨_, rfl, eupd_ok hE (a := (0, q)) hz rfl he.1 he.2⟩
  · rename_i t
    split
    · exact ⟨_, rfl, hE⟩
    · split
      · rename_i c
        rw [zeq_iff] at c
        refine ⟨_, rfl, ?_⟩
        intro r hr
        rcases List.mem_cons.mp hr with e | e
        · subst e
          rw [c, Int.add_zero] at he
          exact ⟨z, hz, he⟩
        · exact hE r e
      · exact ⟨_, rfl, hE⟩
theorem tpE_ok {Z : eZ} {σQ σ2 : List Int} {θ : eT} {N B : Nat} {E : List (Nat × eE)} (h : rel σQ σ2 (tp θ N B)) (h0 : σ2[0]? = some 0) (hE : gE Z σ2 E) : ∀ {Q : List (Nat × eE)}, gE Z σQ Q → ∃ E', tpE θ N B E Q = some E' ∧ gE Z σ2 E' := by
  intro Q
  induction Q with
  | nil => intro _; exact ⟨E, rfl, hE⟩
  | cons q r ih =>
    intro g
    obtain ⟨E1, e1, e2⟩ := ih (fun p hp => g p (List.mem_cons_of_mem _ hp))
    obtain ⟨z, z1, z2⟩ := g q List.mem_cons_self
    obtain ⟨z', b1, b2⟩ := h _ _ z1
    rw [b2] at z2
    show ∃ E', (match tpE θ N B E r with
      | some E' => tpE1 (tp θ N B q.1) q.2 E'
      | none => none) = some E' ∧ _
    rw [e1]
    exact tpE1_ok h0 e2 b1 z2
/-- places that a call leaves as they were -/
def surv (Z : eZ) (E : List (Nat × eE)) (cm : List (Nat × Nat)) (M : List (eK × eV)) : List (eK × eV) := M.filter (fun q => match rty Z E (2, q.1.1) with
  | some t => match Nat.beq q.1.2.1 0 with
    | true => !(mIn cm t q.1.2.2.1)
    | false => !(mIn cm t 999)
  | none => false)
theorem mIn_no {mods : List (Nat × Nat)} {t kf : Nat} (h : mIn mods t kf = false) : (t, kf) ∉ mods := by
  induction mods with
  | nil => intro z; cases z
  | cons q r ih =>
    have h : (match Nat.beq q.1 t with
      | true => match Nat.beq q.2 kf with
        | true => true
        | false => mIn r t kf
      | false => mIn r t kf) = false := h
    intro z
    rcases List.mem_cons.mp z with e | e
    · rw [← e, Nat.beq_refl, Nat.beq_refl] at h
      cases h
    · split at h
      · split at h
        · cases h
        · exact ih h e
      · exact ih h e
theorem gM_surv {Z : eZ} {σ : List Int} {E : List (Nat × eE)} {cm : List (Nat × Nat)} {M : List (eK × eV)} {w w' : sW} (h0 : σ[0]? = some 0) (hE : gE Z σ E) (hM : gM σ w M) (hf : frOk Z cm w w') : gM σ w' (surv Z E cm M) := by
  intro q hq
  obtain ⟨q1, q2⟩ := List.mem_filter.mp hq
  obtain ⟨zr, k, m1, m2, m3⟩ := hM q q1
  refine ⟨zr, k, m1, m2, ?_⟩
  split at q2
  · rename_i t ht
    obtain ⟨k', b1, b2⟩ := rty_ok (a := (2, q.1.1)) h0 hE ht m1
    have : k' = k := by dsimp only at b1; omega
    subst this
    split at m3
    · rename_i htag
      obtain ⟨ci, fs, v, a1, a2, a3⟩ := m3
      rw [htag] at q2
      simp only [Nat.beq_refl, Bool.not_eq_true'] at q2
      obtain ⟨fs', e1, e2⟩ := (hf.2.1 _ _ a1).2 t b2
      exact ⟨ci, fs', v, e1, by rw [e2 _ (mIn_no q2)]; exact a2, a3⟩
    · rename_i htag
      obtain ⟨t', vs, zi, j, v, a1, a2, a3, a4, a5⟩ := m3
      rw [beq_ff (fun z => htag z)] at q2
      simp only [Bool.not_eq_true'] at q2
      exact ⟨t', vs, zi, j, v, a1, (hf.2.1 _ _ a2).2 t b2 (mIn_no q2), a3, a4, a5⟩
  · cases q2
theorem frOk_mono {Z : eZ} {cm mods : List (Nat × Nat)} {w w' : sW} (hs : ∀ q ∈ cm, q ∈ mods) (h : frOk Z cm w w') : frOk Z mods w w' := by
  refine ⟨h.1, fun k c hc => ⟨(h.2.1 k c hc).1, fun t ht => ?_⟩, fun hz hm => h.2.2.1 hz (fun y => hm (hs _ y)), fun hz hm => h.2.2.2.1 hz (fun y => hm (hs _ y)), fun hz hm => h.2.2.2.2 hz (fun y => hm (hs _ y))⟩
  have p := (h.2.1 k c hc).2 t ht
  cases c with
  | inl a => exact fun z => p (fun y => z (hs _ y))
  | inr q =>
    obtain ⟨fs', e1, e2⟩ := p
    exact ⟨fs', e1, fun j hj => e2 j (fun y => hj (hs _ y))⟩
/-- one end of the call, in the caller's words -/
def tpQ (Z : eZ) (cm : List (Nat × Nat)) (θ : eT) (N : Nat) (A : eS) (rest : List eV) (np : Nat) (q : eS) : Option (Option Nat × eS) := match tpE θ N A.2.2.2.2 A.2.2.2.1 q.2.2.2.1 with
  | some E' => some (some np, A.1, q.2.1.map (tpv θ N A.2.2.2.2) ++ rest, q.2.2.1.map (fun m => (tpk θ N A.2.2.2.2 m.1, tpv θ N A.2.2.2.2 m.2)) ++ surv Z A.2.2.2.1 cm A.2.2.1, E', Nat.add A.2.2.2.2 (Nat.sub q.2.2.2.2 N))
  | none => none
def tpQs (Z : eZ) (cm : List (Nat × Nat)) (θ : eT) (N : Nat) (A : eS) (rest : List eV) (np : Nat) (Q : List eS) : List (Option Nat × eS) := List.rec (motive := fun _ => List (Option Nat × eS)) [] (fun q _ ih => match tpQ Z cm θ N A rest np q with
  | some B => B :: ih
  | none => ih) Q
theorem tpQs_mem {Z : eZ} {cm : List (Nat × Nat)} {θ : eT} {N : Nat} {A : eS} {rest : List eV} {np : Nat} {q : eS} {B : Option Nat × eS} : ∀ {Q : List eS}, q ∈ Q → tpQ Z cm θ N A rest np q = some B → B ∈ tpQs Z cm θ N A rest np Q := by
  intro Q
  induction Q with
  | nil => intro h; cases h
  | cons r rs ih =>
    intro h hB
    show B ∈ (match tpQ Z cm θ N A rest np r with
      | some B => B :: tpQs Z cm θ N A rest np rs
      | none => tpQs Z cm θ N A rest np rs)
    rcases List.mem_cons.mp h with e | e
    · subst e
      rw [hB]
      exact List.mem_cons_self
    · split
      · exact List.mem_cons_of_mem _ (ih e hB)
      · exact ih e hB
/-- every unknown of the pattern stands for one of the state's -/
def tdf (B : Nat) (θ : eT) (n : Nat) : Bool := Nat.rec (motive := fun _ => Bool) true (fun p ih => match Nat.blt (tl θ p).1 B with
  | true => ih
  | false => false) n
theorem tdf_ok {B : Nat} {θ : eT} {n : Nat} (h : tdf B θ n = true) : ∀ p, p < n → (tl θ p).1 < B := by
  induction n with
  | zero => intro p hp; omega
  | succ n ih =>
    have h : (match Nat.blt (tl θ n).1 B with
      | true => tdf B θ n
      | false => false) = true := h
    split at h
    · rename_i c
      intro p hp
      by_cases e : p = n
      · subst e
        exact Nat.blt_eq.mp c
      · exact ih h p (by omega)
    · cases h
def t_cx (Z : eZ) (cm : List (Nat × Nat)) (vd : Bool) (x : eX) (na np : Nat) (A : eS) : Option (List (Option Nat × eS)) := match mt Z [(0, 0, 0)] ([], x.1.reverse, x.2.1, x.2.2.1, x.2.2.2.1) (A.1, A.2.1.take na, A.2.2) with
  | some q => match tdf q.2.2.2.2.2 q.1 x.2.2.2.1 with
    | true => match xa (fun r => vd || Nat.beq (xl r.2.1) 1) x.2.2.2.2 with
      | true => some (tpQs Z cm q.1 x.2.2.2.1 q.2 (A.2.1.drop na) np x.2.2.2.2)
      | false => none
    | false => none
  | none => none
theorem gS_take {σ : List Int} : ∀ {n : Nat} {S : List eV} {st : List Value}, gS σ S st → gS σ (S.take n) (st.take n) ∧ gS σ (S.drop n) (st.drop n)
  | 0, _, _, g => ⟨by simp [gS], by simpa using g⟩
  | n + 1, [], [], _ => ⟨by simp [gS], by simp [gS]⟩
  | n + 1, a :: S, v :: st, g => by
    obtain ⟨h1, h2⟩ := gS_take (n := n) g.2
    exact ⟨⟨g.1, h1⟩, h2⟩
  | _ + 1, [], _ :: _, g => g.elim
  | _ + 1, _ :: _, [], g => g.elim
theorem gS_app {σ : List Int} : ∀ {S S' : List eV} {st st' : List Value}, gS σ S st → gS σ S' st' → gS σ (S ++ S') (st ++ st')
  | [], _, [], _, _, h => h
  | _ :: _, _, _ :: _, _, g, h => ⟨g.1, gS_app g.2 h⟩
  | [], _, _ :: _, _, g, _ => g.elim
  | _ :: _, _, [], _, g, _ => g.elim
theorem gS_rev {σ : List Int} : ∀ {S : List eV} {st : List Value}, gS σ S st → gS σ S.reverse st.reverse
  | [], [], _ => trivial
  | a :: S, v :: st, g => by
    rw [List.reverse_cons, List.reverse_cons]
    exact gS_app (gS_rev g.2) ⟨g.1, trivial⟩
  | [], _ :: _, g => g.elim
  | _ :: _, [], g => g.elim
theorem gS_len {σ : List Int} : ∀ {S : List eV} {st : List Value}, gS σ S st → S.length = st.length
  | [], [], _ => rfl
  | _ :: _, _ :: _, g => congrArg (· + 1) (gS_len g.2)
  | [], _ :: _, g => g.elim
  | _ :: _, [], g => g.elim
/-- what a call asks of the stack -/
def catA (S : List eV) : Nat := List.rec (motive := fun _ => Nat) 0 (fun a _ ih => match Nat.beq a.1 1 with
  | true => ih + 2
  | false => ih + 1) S
theorem catA_ok {σ : List Int} : ∀ {S : List eV} {st : List Value}, gS σ S st → (st.map fun v => v.category).sum = catA S
  | [], [], _ => rfl
  | a :: S, v :: st, g => by
    rw [List.map_cons, List.sum_cons, catA_ok g.2, cat_kd g.1]
    show _ = (match Nat.beq a.1 1 with
      | true => catA S + 2
      | false => catA S + 1)
    cases e : Nat.beq a.1 1 with
    | true => rw [if_pos (Nat.eq_of_beq_eq_true e)]; exact Nat.add_comm _ _
    | false => rw [if_neg (ne_bff e)]; exact Nat.add_comm _ _
  | [], _ :: _, g => g.elim
  | _ :: _, [], g => g.elim
def wfA (Z : eZ) (E : List (Nat × eE)) (a : eV) : Bool := match Nat.blt a.1 2 with
  | true => true
  | false => rwf Z E a
theorem wfA_ok {Z : eZ} {σ : List Int} {E : List (Nat × eE)} {w : sW} {a : eV} {v : Value} (h0 : σ[0]? = some 0) (hE : gE Z σ E) (hw : wOk Z w) (h : wfA Z E a = true) (g : avOk σ a v) : wfV w.length v = true := by
  obtain ⟨kd, s, c⟩ := a
  obtain ⟨z, g1, g2⟩ := g
  unfold wfA at h
  match kd, g2 with
  | 0, g2 => obtain ⟨x, rfl, _⟩ := g2; rfl
  | 1, g2 => obtain ⟨x, rfl, _⟩ := g2; rfl
  | n + 2, g2 =>
    obtain ⟨k, rfl, hk⟩ := g2
    have : Nat.blt (n + 2) 2 = false := by
      cases e : Nat.blt (n + 2) 2 with
      | false => rfl
      | true => exact absurd (Nat.blt_eq.mp e) (by omega)
    dsimp only at h
    rw [this] at h
    exact rwf_ok h0 hE hw h g1 hk
theorem wfS_ok {Z : eZ} {σ : List Int} {E : List (Nat × eE)} {w : sW} (h0 : σ[0]? = some 0) (hE : gE Z σ E) (hw : wOk Z w) : ∀ {S : List eV} {st : List Value}, xa (wfA Z E) S = true → gS σ S st → ∀ v ∈ st, wfV w.length v = true
  | [], [], _, _ => fun v hv => by cases hv
  | a :: S, v :: st, h, g => by
    rw [xa_eq, List.all_cons, Bool.and_eq_true] at h
    intro u hu
    rcases List.mem_cons.mp hu with e | e
    · subst e
      exact wfA_ok h0 hE hw h.1 g.1
    · exact wfS_ok h0 hE hw (by rw [xa_eq]; exact h.2) g.2 u e
  | [], _ :: _, _, g => g.elim
  | _ :: _, [], _, g => g.elim
def cokA (Z : eZ) (A : eS) (na : Nat) : Bool := match Nat.ble na (xl A.2.1) with
  | true => match Nat.ble (catA (A.2.1.drop na)) 8 with
    | true => xa (wfA Z A.2.2.2.1) A.2.1
    | false => false
  | false => false
theorem cokA_ok {Z : eZ} {mods : List (Nat × Nat)} {w0 : sW} {A : eS} {σ : List Int} {ss : sS} {na : Nat} (h : cokA Z A na = true) (g : gA Z mods w0 A σ ss) : c_ok ss na = true ∧ ∀ v ∈ ss.2.1, wfV ss.2.2.1.length v = true := by
  obtain ⟨h0, hL, hS, hM, hE, hw, hf, hl, hn⟩ := g
  unfold cokA at h
  split at h
  · rename_i c1
    split at h
    · rename_i c2
      have hwf := wfS_ok h0.2 hE hw h hS
      refine ⟨?_, hwf⟩
      unfold c_ok
      rw [Bool.and_eq_true, Bool.and_eq_true, Bool.and_eq_true]
      rw [xl_eq] at c1
      refine ⟨⟨⟨by rw [← gS_len hS]; exact c1, ?_⟩, ?_⟩, ?_⟩
      · rw [catA_ok (gS_take (n := na) hS).2]
        exact c2
      · rw [xa_eq, xl_eq, List.all_eq_true]
        exact hl
      · rw [xa_eq, xl_eq, List.all_eq_true]
        exact fun v hv => hwf v (List.mem_of_mem_drop hv)
    · cases h
  · cases h
/-- the act is a call of f -/
def caAct (f : List Value → sW → Option sR) (vd : Bool) (na np : Nat) (act : sA) (ss : sS) : Prop := ∀ r, c_ok ss na = true → f (ss.2.1.take na).reverse ss.2.2.1 = some r → (vd || r.1.isSome) = true → ∀ k, act k ss = k np (ss.1, r.1.toList ++ ss.2.1.drop na, r.2.1, ss.2.2.2.1 + r.2.2.1, ss.2.2.2.2 + r.2.2.2)
theorem call_ok {Z : eZ} {mods cm : List (Nat × Nat)} {f : List Value → sW → Option sR} {vd : Bool} {na np : Nat} {act : sA} {x : eX} {A : eS} {L : List (Option Nat × eS)} (hx : Con Z cm f x) (hcm : ∀ q ∈ cm, q ∈ mods) (hc : cokA Z A na = true) (h : t_cx Z cm vd x na np A = some L) {σ : List Int} {w0 : sW} {ss : sS} (g : gA Z mods w0 A σ ss) (hact : caAct f vd na np act ss) : ∃ B ∈ L, ∃ σ' ss', ext σ σ' ∧ gA Z mods w0 B.2 σ' ss' ∧ aim act ss B.1 ss' := by
  obtain ⟨hok, hwf⟩ := cokA_ok hc g
  unfold t_cx at h
  split at h
  · rename_i q hq
    split at h
    · rename_i htd
      split at h
      · rename_i hvd
        cases h
        have gt := gS_take (n := na) g.2.2.1
        have g' : gA Z mods w0 (A.1, A.2.1.take na, A.2.2) σ (ss.1, ss.2.1.take na, ss.2.2) := ⟨g.1, g.2.1, gt.1, g.2.2.2⟩
        obtain ⟨σ', e1, g1, g2⟩ := mt_ok hq g'
        have hS := gS_rev g2.2.2.1
        dsimp only at hS
        rw [List.reverse_reverse] at hS
        have K := hx (sig q.1 σ' x.2.2.2.1) (ss.2.1.take na).reverse ss.2.2.1 g2.1.1 g2.1.2 hS g2.2.2.2.1 g2.2.2.2.2.1 g2.2.2.2.2.2.1 (fun v hv => hwf v (List.mem_of_mem_take (List.mem_reverse.mp hv)))
        obtain ⟨⟨r, hr⟩, hall⟩ := K
        obtain ⟨hn, hfr, hwr, Q, hQ, σQ, k1, k2, k3, k4, k5⟩ := hall r hr
        have hlen : σ'.length = q.2.2.2.2.2 := g1.1.1
        have hrel : rel σQ (σ' ++ σQ.drop x.2.2.2.1) (tp q.1 x.2.2.2.1 q.2.2.2.2.2) := by
          intro p z hz
          unfold tp
          split
          · rename_i c
            have hp := Nat.blt_eq.mp c
            have hl := tdf_ok htd p hp
            rw [← hlen] at hl
            have hs := List.getElem?_eq_getElem hl
            have e2 := k1 _ _ (sig_get (θ := q.1) (σ := σ') hp)
            rw [hz] at e2
            cases e2
            refine ⟨_, by rw [List.getElem?_append_left hl]; exact hs, ?_⟩
            rw [vl_of hs]
          · rename_i c
            have hp : ¬ p < x.2.2.2.1 := fun y => by rw [Nat.blt_eq.mpr y] at c; cases c
            refine ⟨z, ?_, by simp⟩
            show (σ' ++ σQ.drop x.2.2.2.1)[q.2.2.2.2.2 + (p - x.2.2.2.1)]? = some z
            rw [List.getElem?_append_right (by omega), hlen, List.getElem?_drop]
            rw [show x.2.2.2.1 + (q.2.2.2.2.2 + (p - x.2.2.2.1) - q.2.2.2.2.2) = p by omega]
            exact hz
        have e2 : ext σ' (σ' ++ σQ.drop x.2.2.2.1) := by
          intro i z hz
          rw [List.getElem?_append_left (List.getElem?_eq_some_iff.mp hz).1]
          exact hz
        obtain ⟨E', t1, t2⟩ := tpE_ok (Z := Z) hrel (e2 _ _ g1.1.2) (gE_e e2 g1.2.2.2.2.1) k5
        have hB : tpQ Z cm q.1 x.2.2.2.1 q.2 (A.2.1.drop na) np Q = some (some np, q.2.1, Q.2.1.map (tpv q.1 x.2.2.2.1 q.2.2.2.2.2) ++ A.2.1.drop na, Q.2.2.1.map (fun m => (tpk q.1 x.2.2.2.1 q.2.2.2.2.2 m.1, tpv q.1 x.2.2.2.1 q.2.2.2.2.2 m.2)) ++ surv Z q.2.2.2.2.1 cm q.2.2.2.1, E', q.2.2.2.2.2 + (Q.2.2.2.2 - x.2.2.2.1)) := by
          unfold tpQ
          rw [t1]
          rfl
        refine ⟨_, tpQs_mem hQ hB, σ' ++ σQ.drop x.2.2.2.1, (ss.1, r.1.toList ++ ss.2.1.drop na, r.2.1, ss.2.2.2.1 + r.2.2.1, ss.2.2.2.2 + r.2.2.2), ext_tr e1 e2, ?_, ?_⟩
        · refine ⟨⟨?_, e2 _ _ g1.1.2⟩, gL_e e2 g1.2.1, gS_app (rel_S hrel k3) (gS_e (ext_tr e1 e2) gt.2), ?_, t2, hwr, frOk_tr g.2.2.2.2.2.2.1 (frOk_mono hcm hfr), ?_, ?_⟩
          · rw [List.length_append, List.length_drop, hlen, k2]
          · intro p hp
            rcases List.mem_append.mp hp with e | e
            · exact rel_M hrel k4 p e
            · exact mfOk_e e2 (gM_surv g1.1.2 g1.2.2.2.2.1 g1.2.2.2.1 hfr p e)
          · dsimp only
            rw [hfr.1]
            exact g.2.2.2.2.2.2.2.1
          · have hz := g.2.2.2.2.2.2.2.2
            dsimp only
            rw [hn, hz]
            rfl
        · refine hact r hok hr ?_
          rw [xa_eq] at hvd
          have := List.all_eq_true.mp hvd Q hQ
          cases vd with
          | true => rfl
          | false =>
            simp only [Bool.false_or] at this ⊢
            have hl := Nat.eq_of_beq_eq_true this
            rw [xl_eq, gS_len k3] at hl
            cases e : r.1 with
            | none => rw [e] at hl; simp at hl
            | some v => rfl
      · cases h
    · cases h
  · cases h
/-- the first contract that fits -/
def t_cxs (Z : eZ) (cm : List (Nat × Nat)) (vd : Bool) (na np : Nat) (A : eS) (xs : List eX) : Option (List (Option Nat × eS)) := List.rec (motive := fun _ => Option (List (Option Nat × eS))) none (fun x _ ih => match t_cx Z cm vd x na np A with
  | some L => some L
  | none => ih) xs
theorem cxs_get {Z : eZ} {cm : List (Nat × Nat)} {vd : Bool} {na np : Nat} {A : eS} {L : List (Option Nat × eS)} : ∀ {xs : List eX}, t_cxs Z cm vd na np A xs = some L → ∃ x ∈ xs, t_cx Z cm vd x na np A = some L := by
  intro xs
  induction xs with
  | nil => intro h; cases h
  | cons x r ih =>
    intro h
    have h : (match t_cx Z cm vd x na np A with
      | some L => some L
      | none => t_cxs Z cm vd na np A r) = some L := h
    split at h
    · rename_i L' hL
      cases h
      exact ⟨x, List.mem_cons_self, hL⟩
    · obtain ⟨y, y1, y2⟩ := ih h
      exact ⟨y, List.mem_cons_of_mem _ y1, y2⟩
def Cons (Z : eZ) (cm : List (Nat × Nat)) (f : List Value → sW → Option sR) (xs : List eX) : Prop := ∀ x ∈ xs, Con Z cm f x
theorem Cons_n {Z : eZ} {cm : List (Nat × Nat)} {f : List Value → sW → Option sR} : Cons Z cm f [] := fun _ h => by cases h
theorem Cons_c {Z : eZ} {cm : List (Nat × Nat)} {f : List Value → sW → Option sR} {x : eX} {xs : List eX} (h : Con Z cm f x) (g : Cons Z cm f xs) : Cons Z cm f (x :: xs) := by
  intro y hy
  rcases List.mem_cons.mp hy with e | e
  · subst e; exact h
  · exact g y e
def msub (cm mods : List (Nat × Nat)) : Bool := xa (fun q => mIn mods q.1 q.2) cm
theorem msub_ok {cm mods : List (Nat × Nat)} (h : msub cm mods = true) : ∀ q ∈ cm, q ∈ mods := by
  intro q hq
  unfold msub at h
  rw [xa_eq] at h
  exact mIn_mem (List.all_eq_true.mp h q hq)
def t_callS (Z : eZ) (cm : List (Nat × Nat)) (vd : Bool) (xs : List eX) (na np : Nat) : tA := fun A => match cokA Z A na with
  | true => t_cxs Z cm vd na np A xs
  | false => none
theorem tr_callS {Z : eZ} {mods cm : List (Nat × Nat)} {f : List Value → sW → Option sR} {vd : Bool} {na np : Nat} {xs : List eX} (hx : Cons Z cm f xs) (hm : msub cm mods = true) : trOk Z mods (a_callS vd f na np) (t_callS Z cm vd xs na np) := by
  intro A L h σ w0 ss g
  unfold t_callS at h
  split at h
  · rename_i hc
    obtain ⟨x, x1, x2⟩ := cxs_get h
    refine call_ok (hx x x1) (msub_ok hm) hc x2 g ?_
    intro r h1 h2 h3 k
    simp only [a_callS, h1, h2, a_back, h3]
  · cases h
def t_callV (Z : eZ) (cm : List (Nat × Nat)) (vd : Bool) (xs : List eX) (ci na np : Nat) : tA := fun A => match cokA Z A na with
  | true => match (A.2.1.take na).reverse with
    | a :: _ => match Nat.beq a.1 2 with
      | true => match rty Z A.2.2.2.1 a with
        | some t => match Z.1 t with
          | some (.inr q) => match Nat.beq q.1 ci with
            | true => t_cxs Z cm vd na np A xs
            | false => none
          | _ => none
        | none => none
      | false => none
    | [] => none
  | false => none
theorem tr_callV {Z : eZ} {mods cm : List (Nat × Nat)} {f : List Value → sW → Option sR} {vd : Bool} {ci na np : Nat} {xs : List eX} (hx : Cons Z cm f xs) (hm : msub cm mods = true) : trOk Z mods (a_callV vd f ci na np) (t_callV Z cm vd xs ci na np) := by
  intro A L h σ w0 ss g
  unfold t_callV at h
  split at h
  · rename_i hc
    split at h
    · rename_i a as hS
      split at h
      · rename_i hk
        split at h
        · rename_i t ht
          split at h
          · rename_i q hq
            split at h
            · rename_i hci
              obtain ⟨x, x1, x2⟩ := cxs_get h
              refine call_ok (hx x x1) (msub_ok hm) hc x2 g ?_
              have gr := gS_rev (gS_take (n := na) g.2.2.1).1
              rw [hS] at gr
              obtain ⟨v, st', e1, hv, _⟩ := gS_1 gr
              obtain ⟨k, z, rfl, hz, hkz⟩ := avOk_R hv (Nat.eq_of_beq_eq_true hk)
              obtain ⟨k', b1, b2⟩ := rty_ok g.1.2 g.2.2.2.2.1 ht hz
              have : k' = k := by omega
              subst this
              obtain ⟨ly, c, w1, w2, w3⟩ := g.2.2.2.2.2.1.2 _ _ b2
              rw [hq] at w1
              cases w1
              obtain ⟨fs, f1, _⟩ := w3
              rw [f1, Nat.eq_of_beq_eq_true hci] at w2
              intro r h1 h2 h3 kk
              rw [e1] at h2
              simp only [a_callV, h1, e1, xg_eq, w2, if_true, h2, a_back, h3]
            · cases h
          · cases h
        · cases h
      · cases h
    · cases h
  · cases h
end
