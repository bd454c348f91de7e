noncomputable section
-- ===== branches: what is known behind them =====
def eupd (E : List (Nat × eE)) (a : eV) (l h : Int) : List (Nat × eE) := match Nat.beq a.2.1 0 with
  | true => E
  | false => (a.2.1, .inl (l - a.2.2, h - a.2.2)) :: E
theorem eupd_ok {Z : eZ} {σ : List Int} {E : List (Nat × eE)} {a : eV} {l h x z : Int} (hE : gE Z σ E) (hz : σ[a.2.1]? = some z) (hx : x = z + a.2.2) (h1 : l ≤ x) (h2 : x ≤ h) : gE Z σ (eupd E a l h) := by
  unfold eupd
  split
  · exact hE
  · intro q hq
    rcases List.mem_cons.mp hq with e | e
    · subst e
      exact ⟨z, hz, by dsimp only [evOk]; omega⟩
    · exact hE q e
/-- a ≤ b: what is known then; none: it can't be -/
def n_le (E : List (Nat × eE)) (a b : eV) : Option (List (Nat × eE)) := match iv E a, iv E b with
  | p, q => match zle p.1 q.2 with
    | true => some (match zle p.2 q.2 with
      | true => match zle p.1 q.1 with
        | true => E
        | false => eupd E b p.1 q.2
      | false => match zle p.1 q.1 with
        | true => eupd E a p.1 q.2
        | false => eupd (eupd E a p.1 q.2) b p.1 q.2)
    | false => none
theorem n_le_ok {Z : eZ} {σ : List Int} {E : List (Nat × eE)} {a b : eV} {x y : Int32} (h0 : σ[0]? = some 0) (hE : gE Z σ E) (hx : avI σ a x) (hy : avI σ b y) (h : x.toInt ≤ y.toInt) : ∃ E', n_le E a b = some E' ∧ gE Z σ E' := by
  have ix := iv_ok h0 hE hx
  have iy := iv_ok h0 hE hy
  obtain ⟨z1, a1, a2⟩ := hx
  obtain ⟨z2, b1, b2⟩ := hy
  unfold n_le
  dsimp only
  split
  · refine ⟨_, rfl, ?_⟩
    split
    · split
      · exact hE
      · exact eupd_ok hE b1 b2 (by omega) (by omega)
    · split
      · exact eupd_ok hE a1 a2 (by omega) (by omega)
      · exact eupd_ok (eupd_ok hE a1 a2 (by omega) (by omega)) b1 b2 (by omega) (by omega)
  · rename_i c
    have := zle_ff c
    omega
/-- a < b -/
def n_lt (E : List (Nat × eE)) (a b : eV) : Option (List (Nat × eE)) := match iv E a, iv E b with
  | p, q => match zle (p.1 + 1) q.2 with
    | true => some (match zle (p.2 + 1) q.2 with
      | true => match zle (p.1 + 1) q.1 with
        | true => E
        | false => eupd E b (p.1 + 1) q.2
      | false => match zle (p.1 + 1) q.1 with
        | true => eupd E a p.1 (q.2 - 1)
        | false => eupd (eupd E a p.1 (q.2 - 1)) b (p.1 + 1) q.2)
    | false => none
theorem n_lt_ok {Z : eZ} {σ : List Int} {E : List (Nat × eE)} {a b : eV} {x y : Int32} (h0 : σ[0]? = some 0) (hE : gE Z σ E) (hx : avI σ a x) (hy : avI σ b y) (h : x.toInt < y.toInt) : ∃ E', n_lt E a b = some E' ∧ gE Z σ E' := by
  have ix := iv_ok h0 hE hx
  have iy := iv_ok h0 hE hy
  obtain ⟨z1, a1, a2⟩ := hx
  obtain ⟨z2, b1, b2⟩ := hy
  unfold n_lt
  dsimp only
  split
  · refine ⟨_, rfl, ?_⟩
    split
    · split
      · exact hE
      · exact eupd_ok hE b1 b2 (by omega) (by omega)
    · split
      · exact eupd_ok hE a1 a2 (by omega) (by omega)
      · exact eupd_ok (eupd_ok hE a1 a2 (by omega) (by omega)) b1 b2 (by omega) (by omega)
  · rename_i c
    have := zle_ff c
    omega
/-- a = b -/
def zmax (a b : Int) : Int := match zle a b with
  | true => b
  | false => a
def zmin (a b : Int) : Int := match zle a b with
  | true => a
  | false => b
theorem zmax_le {a b x : Int} (h1 : a ≤ x) (h2 : b ≤ x) : zmax a b ≤ x := by
  unfold zmax
  split <;> assumption
theorem le_zmin {a b x : Int} (h1 : x ≤ a) (h2 : x ≤ b) : x ≤ zmin a b := by
  unfold zmin
  split <;> assumption
def n_eq (E : List (Nat × eE)) (a b : eV) : Option (List (Nat × eE)) := match iv E a, iv E b with
  | p, q => match zle (zmax p.1 q.1) (zmin p.2 q.2) with
    | true => some (eupd (eupd E a (zmax p.1 q.1) (zmin p.2 q.2)) b (zmax p.1 q.1) (zmin p.2 q.2))
    | false => none
theorem n_eq_ok {Z : eZ} {σ : List Int} {E : List (Nat × eE)} {a b : eV} {x y : Int32} (h0 : σ[0]? = some 0) (hE : gE Z σ E) (hx : avI σ a x) (hy : avI σ b y) (h : x.toInt = y.toInt) : ∃ E', n_eq E a b = some E' ∧ gE Z σ E' := by
  have ix := iv_ok h0 hE hx
  have iy := iv_ok h0 hE hy
  obtain ⟨z1, a1, a2⟩ := hx
  obtain ⟨z2, b1, b2⟩ := hy
  have m1 : zmax (iv E a).1 (iv E b).1 ≤ x.toInt := zmax_le ix.1 (by omega)
  have m2 : x.toInt ≤ zmin (iv E a).2 (iv E b).2 := le_zmin ix.2 (by omega)
  unfold n_eq
  dsimp only
  rw [zle_iff.mpr (Int.le_trans m1 m2)]
  exact ⟨_, rfl, eupd_ok (eupd_ok hE a1 a2 m1 m2) b1 b2 (by omega) (by omega)⟩
/-- a ≠ b -/
def n_ne1 (E : List (Nat × eE)) (a : eV) (p : Int × Int) (n : Int) : Option (List (Nat × eE)) := match zeq p.1 n with
  | true => match zeq p.2 n with
    | true => none
    | false => some (eupd E a (n + 1) p.2)
  | false => match zeq p.2 n with
    | true => some (eupd E a p.1 (n - 1))
    | false => some E
theorem n_ne1_ok {Z : eZ} {σ : List Int} {E : List (Nat × eE)} {a : eV} {p : Int × Int} {x : Int32} {n z : Int} (hE : gE Z σ E) (a1 : σ[a.2.1]? = some z) (a2 : x.toInt = z + a.2.2) (ix : p.1 ≤ x.toInt ∧ x.toInt ≤ p.2) (h : x.toInt ≠ n) : ∃ E', n_ne1 E a p n = some E' ∧ gE Z σ E' := by
  unfold n_ne1
  split
  · rename_i c
    rw [zeq_iff] at c
    split
    · rename_i d
      rw [zeq_iff] at d
      omega
    · exact ⟨_, rfl, eupd_ok hE a1 a2 (by omega) (by omega)⟩
  · split
    · rename_i d
      rw [zeq_iff] at d
      exact ⟨_, rfl, eupd_ok hE a1 a2 (by omega) (by omega)⟩
    · exact ⟨_, rfl, hE⟩
def n_ne (E : List (Nat × eE)) (a b : eV) : Option (List (Nat × eE)) := match iv E a, iv E b with
  | p, q => match zeq q.1 q.2 with
    | true => n_ne1 E a p q.1
    | false => match zeq p.1 p.2 with
      | true => n_ne1 E b q p.1
      | false => some E
theorem n_ne_ok {Z : eZ} {σ : List Int} {E : List (Nat × eE)} {a b : eV} {x y : Int32} (h0 : σ[0]? = some 0) (hE : gE Z σ E) (hx : avI σ a x) (hy : avI σ b y) (h : x.toInt ≠ y.toInt) : ∃ E', n_ne E a b = some E' ∧ gE Z σ E' := by
  have ix := iv_ok h0 hE hx
  have iy := iv_ok h0 hE hy
  obtain ⟨z1, a1, a2⟩ := hx
  obtain ⟨z2, b1, b2⟩ := hy
  unfold n_ne
  dsimp only
  split
  · rename_i c
    rw [zeq_iff] at c
    exact n_ne1_ok hE a1 a2 ix (by omega)
  · split
    · rename_i c
      rw [zeq_iff] at c
      exact n_ne1_ok hE b1 b2 iy (by omega)
    · exact ⟨_, rfl, hE⟩
/-- a comparison: what is known when it holds, when it doesn't -/
abbrev nB : Type := List (Nat × eE) → eV → eV → Option (List (Nat × eE))
def cmOk (b : Int32 → Int32 → Bool) (n1 n2 : nB) : Prop := ∀ (Z : eZ) (σ : List Int) (E : List (Nat × eE)) (u v : eV) (x y : Int32), σ[0]? = some 0 → gE Z σ E → avI σ u x → avI σ v y → (b x y = true → ∃ E', n1 E u v = some E' ∧ gE Z σ E') ∧ (b x y = false → ∃ E', n2 E u v = some E' ∧ gE Z σ E')
theorem cmz_eq : cmOk b_eq n_eq n_ne := by
  intro Z σ E u v x y h0 hE hx hy
  rw [b_eq_d]
  refine ⟨fun h => n_eq_ok h0 hE hx hy (by rw [of_decide_eq_true h]), fun h => n_ne_ok h0 hE hx hy ?_⟩
  have := of_decide_eq_false h
  exact fun z => this (Int32.toInt_inj.mp z)
theorem cmz_ne : cmOk b_ne n_ne n_eq := by
  intro Z σ E u v x y h0 hE hx hy
  rw [b_ne_d]
  refine ⟨fun h => n_ne_ok h0 hE hx hy ?_, fun h => n_eq_ok h0 hE hx hy ?_⟩
  · have := of_decide_eq_true h
    exact fun z => this (Int32.toInt_inj.mp z)
  · have := of_decide_eq_false h
    rw [Decidable.not_not] at this
    rw [this]
theorem cmz_lt : cmOk b_lt n_lt (fun E u v => n_le E v u) := by
  intro Z σ E u v x y h0 hE hx hy
  rw [b_lt_d]
  refine ⟨fun h => n_lt_ok h0 hE hx hy (Int32.lt_iff_toInt_lt.mp (of_decide_eq_true h)), fun h => n_le_ok h0 hE hy hx ?_⟩
  have := of_decide_eq_false h
  rw [Int32.lt_iff_toInt_lt] at this
  omega
theorem cmz_ge : cmOk b_ge (fun E u v => n_le E v u) n_lt := by
  intro Z σ E u v x y h0 hE hx hy
  rw [b_ge_d]
  refine ⟨fun h => n_le_ok h0 hE hy hx (Int32.le_iff_toInt_le.mp (of_decide_eq_true h)), fun h => n_lt_ok h0 hE hx hy ?_⟩
  have := of_decide_eq_false h
  rw [Int32.le_iff_toInt_le] at this
  omega
theorem cmz_gt : cmOk b_gt (fun E u v => n_lt E v u) n_le := by
  intro Z σ E u v x y h0 hE hx hy
  have k := cmz_lt Z σ E v u y x h0 hE hy hx
  exact k
theorem cmz_le : cmOk b_le n_le (fun E u v => n_lt E v u) := by
  intro Z σ E u v x y h0 hE hx hy
  have k := cmz_ge Z σ E v u y x h0 hE hy hx
  exact k
/-- two ways on -/
def t_two (tgt np : Nat) (L : List (Nat × eV)) (S : List eV) (M : List (eK × eV)) (N : Nat) (e1 e2 : Option (List (Nat × eE))) : Option (List (Option Nat × eS)) := match e1, e2 with
  | some E1, some E2 => some [(some tgt, L, S, M, E1, N), (some np, L, S, M, E2, N)]
  | some E1, none => some [(some tgt, L, S, M, E1, N)]
  | none, some E2 => some [(some np, L, S, M, E2, N)]
  | none, none => some []
def t_icmp (n1 n2 : nB) (tgt np : Nat) : tA := fun A => match A.2.1 with
  | b :: a :: S => match Nat.beq a.1 0 with
    | true => match Nat.beq b.1 0 with
      | true => t_two tgt np A.1 S A.2.2.1 A.2.2.2.2 (n1 A.2.2.2.1 a b) (n2 A.2.2.2.1 a b)
      | false => none
    | false => none
  | _ => none
def t_if (n1 n2 : nB) (tgt np : Nat) : tA := fun A => match A.2.1 with
  | a :: S => match Nat.beq a.1 0 with
    | true => t_two tgt np A.1 S A.2.2.1 A.2.2.2.2 (n1 A.2.2.2.1 a (0, 0, 0)) (n2 A.2.2.2.1 a (0, 0, 0))
    | false => none
  | _ => none
theorem two_ok {tgt np : Nat} {L : List (Nat × eV)} {S : List eV} {M : List (eK × eV)} {N : Nat} {e1 e2 : Option (List (Nat × eE))} {R : List (Option Nat × eS)} (h : t_two tgt np L S M N e1 e2 = some R) : (∀ E, e1 = some E → (some tgt, L, S, M, E, N) ∈ R) ∧ (∀ E, e2 = some E → (some np, L, S, M, E, N) ∈ R) := by
  unfold t_two at h
  split at h
  · cases h
    exact ⟨fun E e => by cases e; simp, fun E e => by cases e; simp⟩
  · cases h
    exact ⟨fun E e => by cases e; simp, fun E e => by cases e⟩
  · cases h
    exact ⟨fun E e => (by cases e), fun E e => (by cases e; simp)⟩
  · cases h
    exact ⟨fun E e => (by cases e), fun E e => (by cases e)⟩
section TR
variable {Z : eZ} {mods : List (Nat × Nat)} {np : Nat}
theorem tr_icmp {kn : sKn} {b : Int32 → Int32 → Bool} {t tgt : Nat} {n1 n2 : nB} (hc : cmOk b n1 n2) : trOk Z mods (a_icmp kn b t tgt np) (t_icmp n1 n2 tgt np) := by
  intro A L h σ w0 ss hg
  obtain ⟨LL, S, M, E, N⟩ := A
  obtain ⟨lv, st, w⟩ := ss
  unfold t_icmp at h
  split at h
  · rename_i vb va S' hS
    dsimp only at hS
    subst hS
    split at h
    · rename_i ha
      split at h
      · rename_i hb
        obtain ⟨h0, hL, hS, hM, hE, hr⟩ := hg
        obtain ⟨y, x, st', e1, hy, hx, hS'⟩ := gS_2 hS
        dsimp only at e1
        subst e1
        obtain ⟨x, rfl, hx'⟩ := avOk_I hx (Nat.eq_of_beq_eq_true ha)
        obtain ⟨y, rfl, hy'⟩ := avOk_I hy (Nat.eq_of_beq_eq_true hb)
        have k := hc Z σ E va vb x y h0.2 hE hx' hy'
        have t2 := two_ok h
        cases e : b x y with
        | true =>
          obtain ⟨E', p1, p2⟩ := k.1 e
          refine ⟨_, t2.1 _ p1, σ, (lv, st', w), ext_rf σ, ⟨h0, hL, hS', hM, p2, hr⟩, fun k => ?_⟩
          simp only [a_icmp, e]
        | false =>
          obtain ⟨E', p1, p2⟩ := k.2 e
          refine ⟨_, t2.2 _ p1, σ, (lv, st', w), ext_rf σ, ⟨h0, hL, hS', hM, p2, hr⟩, fun k => ?_⟩
          simp only [a_icmp, e]
      · cases h
    · cases h
  · cases h
theorem tr_if {kn : sKn} {b : Int32 → Int32 → Bool} {t tgt : Nat} {n1 n2 : nB} (hc : cmOk b n1 n2) : trOk Z mods (a_if kn b t tgt np) (t_if n1 n2 tgt np) := by
  intro A L h σ w0 ss hg
  obtain ⟨LL, S, M, E, N⟩ := A
  obtain ⟨lv, st, w⟩ := ss
  unfold t_if at h
  split at h
  · rename_i va S' hS
    dsimp only at hS
    subst hS
    split at h
    · rename_i ha
      obtain ⟨h0, hL, hS, hM, hE, hr⟩ := hg
      obtain ⟨x, st', e1, hx, hS'⟩ := gS_1 hS
      dsimp only at e1
      subst e1
      obtain ⟨x, rfl, hx'⟩ := avOk_I hx (Nat.eq_of_beq_eq_true ha)
      have k := hc Z σ E va (0, 0, 0) x 0 h0.2 hE hx' ⟨0, h0.2, rfl⟩
      have t2 := two_ok h
      cases e : b x 0 with
      | true =>
        obtain ⟨E', p1, p2⟩ := k.1 e
        refine ⟨_, t2.1 _ p1, σ, (lv, st', w), ext_rf σ, ⟨h0, hL, hS', hM, p2, hr⟩, fun k => ?_⟩
        simp only [a_if, e]
      | false =>
        obtain ⟨E', p1, p2⟩ := k.2 e
        refine ⟨_, t2.2 _ p1, σ, (lv, st', w), ext_rf σ, ⟨h0, hL, hS', hM, p2, hr⟩, fun k => ?_⟩
        simp only [a_if, e]
    · cases h
  · cases h
/-- a switch: one way on for each case that can be, and the default -/
def swc (a : eV) (L : List (Nat × eV)) (S : List eV) (M : List (eK × eV)) (E : List (Nat × eE)) (N : Nat) (p : Int × Int) (ps : List (Int × Nat)) : List (Option Nat × eS) := List.rec (motive := fun _ => List (Option Nat × eS)) [] (fun q _ ih => match zle p.1 q.1 with
  | true => match zle q.1 p.2 with
    | true => (some q.2, L, S, M, eupd E a q.1 q.1, N) :: ih
    | false => ih
  | false => ih) ps
theorem swc_mem {a : eV} {L : List (Nat × eV)} {S : List eV} {M : List (eK × eV)} {E : List (Nat × eE)} {N : Nat} {p : Int × Int} {ps : List (Int × Nat)} {q : Int × Nat} (hq : q ∈ ps) (h1 : p.1 ≤ q.1) (h2 : q.1 ≤ p.2) : (some q.2, L, S, M, eupd E a q.1 q.1, N) ∈ swc a L S M E N p ps := by
  induction ps with
  | nil => cases hq
  | cons r rs ih =>
    show _ ∈ (match zle p.1 r.1 with
      | true => match zle r.1 p.2 with
        | true => (some r.2, L, S, M, eupd E a r.1 r.1, N) :: swc a L S M E N p rs
        | false => swc a L S M E N p rs
      | false => swc a L S M E N p rs)
    rcases List.mem_cons.mp hq with e | e
    · subst e
      rw [zle_iff.mpr h1, zle_iff.mpr h2]
      exact List.mem_cons_self
    · have := ih e
      split
      · split
        · exact List.mem_cons_of_mem _ this
        · exact this
      · exact this
def t_look (ps : List (Int × Nat)) (dflt : Nat) : tA := fun A => match A.2.1 with
  | a :: S => match Nat.beq a.1 0 with
    | true => some ((some dflt, A.1, S, A.2.2) :: swc a A.1 S A.2.2.1 A.2.2.2.1 A.2.2.2.2 (iv A.2.2.2.1 a) ps)
    | false => none
  | _ => none
theorem tr_look {ps : List (Int × Nat)} {dflt : Nat} : trOk Z mods (a_look ps dflt) (t_look ps dflt) := by
  intro A L h σ w0 ss hg
  obtain ⟨LL, S, M, E, N⟩ := A
  obtain ⟨lv, st, w⟩ := ss
  unfold t_look at h
  split at h
  · rename_i va S' hS
    dsimp only at hS
    subst hS
    split at h
    · rename_i ha
      cases h
      obtain ⟨h0, hL, hS, hM, hE, hr⟩ := hg
      obtain ⟨x, st', e1, hx, hS'⟩ := gS_1 hS
      dsimp only at e1
      subst e1
      obtain ⟨x, rfl, hx'⟩ := avOk_I hx (Nat.eq_of_beq_eq_true ha)
      have ix := iv_ok h0.2 hE hx'
      dsimp only at ix
      cases e : ps.find? (fun q => q.1 == x.toInt) with
      | none =>
        refine ⟨_, List.mem_cons_self, σ, (lv, st', w), ext_rf σ, ⟨h0, hL, hS', hM, hE, hr⟩, fun k => ?_⟩
        simp only [a_look, e]
      | some q =>
        have e1 := List.find?_some e
        have e1 : q.1 = x.toInt := by simpa using e1
        obtain ⟨z, z1, z2⟩ := hx'
        refine ⟨_, List.mem_cons_of_mem _ (swc_mem (List.mem_of_find?_eq_some e) (by rw [e1]; exact ix.1) (by rw [e1]; exact ix.2)), σ, (lv, st', w), ext_rf σ, ⟨h0, hL, hS', hM, eupd_ok hE z1 z2 (by omega) (by omega), hr⟩, fun k => ?_⟩
        simp only [a_look, e]
    · cases h
  · cases h
/-- the cases of a table -/
def tcs (lo : Int) (offs : List Nat) : List (Int × Nat) := List.rec (motive := fun _ => Int → List (Int × Nat)) (fun _ => []) (fun t _ ih l => (l, t) :: ih (l + 1)) offs lo
theorem tcs_mem {offs : List Nat} : ∀ {lo x : Int} {t : Nat}, lo ≤ x → offs[(x - lo).toNat]? = some t → (x, t) ∈ tcs lo offs := by
  induction offs with
  | nil => intro lo x t h1 h2; simp at h2
  | cons o os ih =>
    intro lo x t h1 h2
    show (x, t) ∈ (lo, o) :: tcs (lo + 1) os
    rcases Int.lt_or_le lo x with c | c
    · right
      refine ih (by omega) ?_
      rw [show (x - lo).toNat = (x - (lo + 1)).toNat + 1 by omega] at h2
      simpa using h2
    · have : x = lo := by omega
      subst this
      simp at h2
      subst h2
      exact List.mem_cons_self
def t_table (lo hi : Int) (offs : List Nat) (dflt : Nat) : tA := fun A => match A.2.1 with
  | a :: S => match Nat.beq a.1 0 with
    | true => match Nat.beq (xl offs) (hi + 1 - lo).toNat with
      | true => match iv A.2.2.2.1 a with
        | p => match zle lo p.1 with
          | true => match zle p.2 hi with
            | true => some (swc a A.1 S A.2.2.1 A.2.2.2.1 A.2.2.2.2 p (tcs lo offs))
            | false => some ((some dflt, A.1, S, A.2.2) :: swc a A.1 S A.2.2.1 A.2.2.2.1 A.2.2.2.2 p (tcs lo offs))
          | false => some ((some dflt, A.1, S, A.2.2) :: swc a A.1 S A.2.2.1 A.2.2.2.1 A.2.2.2.2 p (tcs lo offs))
      | false => none
    | false => none
  | _ => none
theorem tr_table {kn : sKn} {lo hi : Int} {offs : List Nat} {dflt : Nat} : trOk Z mods (a_table kn lo hi offs dflt) (t_table lo hi offs dflt) := by
  intro A L h σ w0 ss hg
  obtain ⟨LL, S, M, E, N⟩ := A
  obtain ⟨lv, st, w⟩ := ss
  unfold t_table at h
  split at h
  · rename_i va S' hS
    dsimp only at hS
    subst hS
    split at h
    · rename_i ha
      split at h
      · rename_i hlen
        have hlen := Nat.eq_of_beq_eq_true hlen
        rw [xl_eq] at hlen
        obtain ⟨h0, hL, hS, hM, hE, hr⟩ := hg
        obtain ⟨x, st', e1, hx, hS'⟩ := gS_1 hS
        dsimp only at e1
        subst e1
        obtain ⟨x, rfl, hx'⟩ := avOk_I hx (Nat.eq_of_beq_eq_true ha)
        have ix := iv_ok h0.2 hE hx'
        dsimp only at ix h
        by_cases c : x.toInt < lo ∨ hi < x.toInt
        · have mem : (some dflt, LL, S', M, E, N) ∈ L := by
            split at h
            · rename_i c1
              split at h
              · rename_i c2
                rw [zle_iff] at c1 c2
                omega
              · cases h; exact List.mem_cons_self
            · cases h; exact List.mem_cons_self
          refine ⟨_, mem, σ, (lv, st', w), ext_rf σ, ⟨h0, hL, hS', hM, hE, hr⟩, fun k => ?_⟩
          simp only [a_table, if_pos c]
        · have hlt : (x.toInt - lo).toNat < offs.length := by omega
          have hget := List.getElem?_eq_getElem hlt
          obtain ⟨z, z1, z2⟩ := hx'
          have m0 := swc_mem (a := va) (L := LL) (S := S') (M := M) (E := E) (N := N) (p := iv E va) (tcs_mem (lo := lo) (by omega) hget) ix.1 ix.2
          have mem : (some (offs[(x.toInt - lo).toNat]), LL, S', M, eupd E va x.toInt x.toInt, N) ∈ L := by
            split at h
            · split at h
              · cases h; exact m0
              · cases h; exact List.mem_cons_of_mem _ m0
            · cases h; exact List.mem_cons_of_mem _ m0
          refine ⟨_, mem, σ, (lv, st', w), ext_rf σ, ⟨h0, hL, hS', hM, eupd_ok hE z1 z2 (by omega) (by omega), hr⟩, fun k => ?_⟩
          simp only [a_table, if_neg c, hget]
      · cases h
    · cases h
  · cases h
end TR
end
