noncomputable section
-- ===== steps on stack and locals =====
theorem lmem {α : Type} {a : α} : a ∈ [a] := List.mem_singleton.mpr rfl
def t_int (v : Int) (np : Nat) : tA := fun A => some [(some np, A.1, (0, 0, v) :: A.2.1, A.2.2)]
def t_long (v : Int) (np : Nat) : tA := fun A => some [(some np, A.1, (1, 0, v) :: A.2.1, A.2.2)]
section TR
variable {Z : eZ} {mods : List (Nat × Nat)} {np : Nat}
theorem tr_int {x : Int32} {v : Int} (hv : x.toInt = v) : trOk Z mods (a_stk (q_int x) np) (t_int v np) := by
  intro A L h σ w0 ss hg
  cases h
  obtain ⟨⟨hN, h0⟩, hL, hS, hr⟩ := hg
  exact ⟨_, lmem, σ, (ss.1, .int x :: ss.2.1, ss.2.2), ext_rf σ, ⟨⟨hN, h0⟩, hL, ⟨⟨0, h0, x, rfl, by rw [hv]; exact (Int.zero_add _).symm⟩, hS⟩, hr⟩, fun k => rfl⟩
theorem tr_long {x : Int64} {v : Int} (hv : x.toInt = v) : trOk Z mods (a_stk (q_long x) np) (t_long v np) := by
  intro A L h σ w0 ss hg
  cases h
  obtain ⟨⟨hN, h0⟩, hL, hS, hr⟩ := hg
  exact ⟨_, lmem, σ, (ss.1, .long x :: ss.2.1, ss.2.2), ext_rf σ, ⟨⟨hN, h0⟩, hL, ⟨⟨0, h0, x, rfl, by rw [hv]; exact (Int.zero_add _).symm⟩, hS⟩, hr⟩, fun k => rfl⟩
def t_load (kd i : Nat) (np : Nat) : tA := fun A => match eg A.1 i with
  | some a => match Nat.beq a.1 kd with
    | true => some [(some np, A.1, a :: A.2.1, A.2.2)]
    | false => none
  | none => none
theorem load_get {A : eS} {kd i np : Nat} {L : List (Option Nat × eS)} (h : t_load kd i np A = some L) : ∃ a, eg A.1 i = some a ∧ a.1 = kd ∧ L = [(some np, A.1, a :: A.2.1, A.2.2)] := by
  unfold t_load at h
  split at h
  · rename_i a ha
    split at h
    · rename_i hk
      cases h
      exact ⟨a, ha, Nat.eq_of_beq_eq_true hk, rfl⟩
    · cases h
  · cases h
theorem tr_iload {i : Nat} : trOk Z mods (a_iload i np) (t_load 0 i np) := by
  intro A L h σ w0 ss hg
  obtain ⟨a, ha, hk, rfl⟩ := load_get h
  obtain ⟨h0, hL, hS, hr⟩ := hg
  obtain ⟨v, h1, h2⟩ := hL _ (eg_mem ha)
  obtain ⟨x, rfl, h3⟩ := avOk_I h2 hk
  refine ⟨_, lmem, σ, (ss.1, .int x :: ss.2.1, ss.2.2), ext_rf σ, ⟨h0, hL, ⟨h2, hS⟩, hr⟩, fun k => ?_⟩
  dsimp only at h1
  simp only [a_iload, h1]
theorem tr_lload {i : Nat} : trOk Z mods (a_lload i np) (t_load 1 i np) := by
  intro A L h σ w0 ss hg
  obtain ⟨a, ha, hk, rfl⟩ := load_get h
  obtain ⟨h0, hL, hS, hr⟩ := hg
  obtain ⟨v, h1, h2⟩ := hL _ (eg_mem ha)
  obtain ⟨x, rfl, h3⟩ := avOk_J h2 hk
  refine ⟨_, lmem, σ, (ss.1, .long x :: ss.2.1, ss.2.2), ext_rf σ, ⟨h0, hL, ⟨h2, hS⟩, hr⟩, fun k => ?_⟩
  dsimp only at h1
  simp only [a_lload, h1]
theorem avOk_R {σ : List Int} {a : eV} {v : Value} (h : avOk σ a v) (hk : a.1 = 2) : ∃ (k : Nat) (z : Int), v = .ref k ∧ σ[a.2.1]? = some z ∧ (k : Int) = z + a.2.2 := by
  obtain ⟨z, h1, h2⟩ := h
  rw [hk] at h2
  obtain ⟨k, h3, h4⟩ := h2
  exact ⟨k, z, h3, h1, h4⟩
theorem tr_aload {i : Nat} : trOk Z mods (a_aload i np) (t_load 2 i np) := by
  intro A L h σ w0 ss hg
  obtain ⟨a, ha, hk, rfl⟩ := load_get h
  obtain ⟨h0, hL, hS, hr⟩ := hg
  obtain ⟨v, h1, h2⟩ := hL _ (eg_mem ha)
  obtain ⟨x, z, rfl, h3⟩ := avOk_R h2 hk
  refine ⟨_, lmem, σ, (ss.1, .ref x :: ss.2.1, ss.2.2), ext_rf σ, ⟨h0, hL, ⟨h2, hS⟩, hr⟩, fun k => ?_⟩
  dsimp only at h1
  simp only [a_aload, h1]
/-- locals, one of them new -/
def lput (L : List (Nat × eV)) (i : Nat) (a : eV) : List (Nat × eV) := (i, a) :: L.filter (fun q => !(Nat.beq q.1 i) && !(Nat.beq (q.1 + 1) i && Nat.beq q.2.1 1))
def lput2 (L : List (Nat × eV)) (i : Nat) (a : eV) : List (Nat × eV) := (i, a) :: L.filter (fun q => !(Nat.beq q.1 i) && (!(Nat.beq q.1 (i + 1)) && !(Nat.beq (q.1 + 1) i && Nat.beq q.2.1 1)))
theorem l_get_filter {lv : List (Nat × Value)} {p : Nat × Value → Bool} {j : Nat} {v : Value} (h : l_get lv j = some v) (hp : p (j, v) = true) : l_get (lv.filter p) j = some v := by
  induction lv with
  | nil => cases h
  | cons q r ih =>
    have h : (match Nat.beq q.1 j with
      | true => some q.2
      | false => l_get r j) = some v := h
    split at h
    · rename_i e
      cases h
      have e' := Nat.eq_of_beq_eq_true e
      rw [List.filter_cons_of_pos (by rw [← e'] at hp; exact hp)]
      show (match Nat.beq q.1 j with
        | true => some q.2
        | false => _) = _
      rw [e]
    · rename_i e
      rw [List.filter_cons]
      split
      · show (match Nat.beq q.1 j with
          | true => some q.2
          | false => l_get (r.filter p) j) = _
        rw [e]
        exact ih h
      · exact ih h
theorem l_get_head {lv : List (Nat × Value)} {i : Nat} {v : Value} : l_get ((i, v) :: lv) i = some v := by
  show (match Nat.beq i i with
    | true => some v
    | false => _) = _
  rw [Nat.beq_refl]
theorem l_get_tail {lv : List (Nat × Value)} {i j : Nat} {v : Value} (h : Nat.beq i j = false) : l_get ((i, v) :: lv) j = l_get lv j := by
  show (match Nat.beq i j with
    | true => some v
    | false => l_get lv j) = _
  rw [h]
theorem cat_kd {σ : List Int} {a : eV} {v : Value} (h : avOk σ a v) : v.category = if a.1 = 1 then 2 else 1 := by
  obtain ⟨kd, s, c⟩ := a
  obtain ⟨z, h1, h2⟩ := h
  match kd, h2 with
  | 0, h2 => obtain ⟨x, rfl, _⟩ := h2; rfl
  | 1, h2 => obtain ⟨x, rfl, _⟩ := h2; rfl
  | n + 2, h2 =>
    obtain ⟨x, rfl, _⟩ := h2
    simp
    rfl
theorem beq_ff {a b : Nat} (h : a ≠ b) : Nat.beq a b = false := by
  cases e : Nat.beq a b with
  | false => rfl
  | true => exact absurd (Nat.eq_of_beq_eq_true e) h
theorem ne_bff {a b : Nat} (h : Nat.beq a b = false) : a ≠ b := by
  intro e
  rw [e, Nat.beq_refl] at h
  cases h
theorem gL_put {σ : List Int} {L : List (Nat × eV)} {lv : List (Nat × Value)} {i : Nat} {a : eV} {v : Value} (hL : gL σ L lv) (h : avOk σ a v) : gL σ (lput L i a) (l_put lv i v) := by
  intro q hq
  rcases List.mem_cons.mp hq with e | e
  · subst e
    exact ⟨v, l_get_head, h⟩
  · obtain ⟨e1, e2⟩ := List.mem_filter.mp e
    obtain ⟨v', h1, h2⟩ := hL q e1
    rw [Bool.and_eq_true, Bool.not_eq_true', Bool.not_eq_true'] at e2
    refine ⟨v', ?_, h2⟩
    rw [l_put, l_get_tail (beq_ff (Ne.symm (ne_bff e2.1))), l_cut_eq]
    refine l_get_filter h1 ?_
    have c := cat_kd h2
    simp only [Bool.and_eq_true, Bool.not_eq_true', beq_eq_false_iff_ne, ne_eq, Bool.and_eq_false_iff]
    refine ⟨ne_bff e2.1, ?_⟩
    rcases Bool.and_eq_false_iff.mp e2.2 with z | z
    · exact Or.inl (ne_bff z)
    · right
      rw [c, if_neg (ne_bff z)]
      decide
theorem gL_put2 {σ : List Int} {L : List (Nat × eV)} {lv : List (Nat × Value)} {i : Nat} {a : eV} {v : Value} (hL : gL σ L lv) (h : avOk σ a v) : gL σ (lput2 L i a) (l_put2 lv i v) := by
  intro q hq
  rcases List.mem_cons.mp hq with e | e
  · subst e
    exact ⟨v, l_get_head, h⟩
  · obtain ⟨e1, e2⟩ := List.mem_filter.mp e
    obtain ⟨v', h1, h2⟩ := hL q e1
    rw [Bool.and_eq_true, Bool.and_eq_true, Bool.not_eq_true', Bool.not_eq_true', Bool.not_eq_true'] at e2
    refine ⟨v', ?_, h2⟩
    rw [l_put2, l_get_tail (beq_ff (Ne.symm (ne_bff e2.1)))]
    refine l_get_filter h1 ?_
    have c := cat_kd h2
    simp only [Bool.and_eq_true, Bool.not_eq_true', beq_eq_false_iff_ne, ne_eq, Bool.and_eq_false_iff]
    refine ⟨ne_bff e2.1, ne_bff e2.2.1, ?_⟩
    rcases Bool.and_eq_false_iff.mp e2.2.2 with z | z
    · exact Or.inl (ne_bff z)
    · right
      rw [c, if_neg (ne_bff z)]
      decide
theorem wl_put {n : Nat} {lv : List (Nat × Value)} {i : Nat} {v : Value} (h : ∀ q ∈ lv, wfV n q.2 = true) (hv : wfV n v = true) : ∀ q ∈ l_put lv i v, wfV n q.2 = true := by
  intro q hq
  rcases List.mem_cons.mp hq with e | e
  · subst e; exact hv
  · rw [l_cut_eq] at e
    exact h q (List.mem_filter.mp e).1
theorem wl_put2 {n : Nat} {lv : List (Nat × Value)} {i : Nat} {v : Value} (h : ∀ q ∈ lv, wfV n q.2 = true) (hv : wfV n v = true) : ∀ q ∈ l_put2 lv i v, wfV n q.2 = true := by
  intro q hq
  rcases List.mem_cons.mp hq with e | e
  · subst e; exact hv
  · exact h q (List.mem_filter.mp e).1
def t_istore (i np : Nat) : tA := fun A => match A.2.1 with
  | a :: S => match Nat.beq a.1 0 with
    | true => some [(some np, lput A.1 i a, S, A.2.2)]
    | false => none
  | _ => none
theorem tr_istore {i : Nat} : trOk Z mods (a_istore i np) (t_istore i np) := by
  intro A L h σ w0 ss hg
  obtain ⟨LL, S, R⟩ := A
  obtain ⟨lv, st, w⟩ := ss
  unfold t_istore at h
  split at h
  · rename_i a S' hS
    dsimp only at hS
    subst hS
    split at h
    · rename_i hk
      cases h
      obtain ⟨h0, hL, hS, hM, hE, hw, hf, hl, hn⟩ := hg
      obtain ⟨y, st', e1, hy, hS'⟩ := gS_1 hS
      dsimp only at e1
      subst e1
      obtain ⟨x, rfl, hx⟩ := avOk_I hy (Nat.eq_of_beq_eq_true hk)
      exact ⟨_, lmem, σ, (l_put lv i (.int x), st', w), ext_rf σ, ⟨h0, gL_put hL hy, hS', hM, hE, hw, hf, wl_put hl rfl, hn⟩, fun k => rfl⟩
    · cases h
  · cases h
def t_lstore (i np : Nat) : tA := fun A => match A.2.1 with
  | a :: S => match Nat.beq a.1 1 with
    | true => some [(some np, lput2 A.1 i a, S, A.2.2)]
    | false => none
  | _ => none
theorem tr_lstore {i : Nat} : trOk Z mods (a_lstore i np) (t_lstore i np) := by
  intro A L h σ w0 ss hg
  obtain ⟨LL, S, R⟩ := A
  obtain ⟨lv, st, w⟩ := ss
  unfold t_lstore at h
  split at h
  · rename_i a S' hS
    dsimp only at hS
    subst hS
    split at h
    · rename_i hk
      cases h
      obtain ⟨h0, hL, hS, hM, hE, hw, hf, hl, hn⟩ := hg
      obtain ⟨y, st', e1, hy, hS'⟩ := gS_1 hS
      dsimp only at e1
      subst e1
      obtain ⟨x, rfl, hx⟩ := avOk_J hy (Nat.eq_of_beq_eq_true hk)
      exact ⟨_, lmem, σ, (l_put2 lv i (.long x), st', w), ext_rf σ, ⟨h0, gL_put2 hL hy, hS', hM, hE, hw, hf, wl_put2 hl rfl, hn⟩, fun k => rfl⟩
    · cases h
  · cases h
/-- a reference that lies in the world, or is a static one -/
def rwf (Z : eZ) (E : List (Nat × eE)) (a : eV) : Bool := match rty Z E a with
  | some _ => true
  | none => match Nat.beq a.2.1 0 with
    | true => zle 1000000 a.2.2
    | false => false
theorem rwf_ok {σ : List Int} {E : List (Nat × eE)} {a : eV} {w : sW} {k : Nat} {z : Int} (h0 : σ[0]? = some 0) (hE : gE Z σ E) (hw : wOk Z w) (h : rwf Z E a = true) (hz : σ[a.2.1]? = some z) (hk : (k : Int) = z + a.2.2) : wfV w.length (.ref k) = true := by
  show (Nat.blt k w.length || Nat.ble 1000000 k) = true
  unfold rwf at h
  split at h
  · rename_i t ht
    obtain ⟨k', e1, e2⟩ := rty_ok h0 hE ht hz
    have : k' = k := by omega
    subst this
    obtain ⟨ly, c, h1, h2, h3⟩ := hw.2 _ _ e2
    have := (List.getElem?_eq_some_iff.mp h2).1
    rw [Bool.or_eq_true, Nat.blt_eq]
    exact Or.inl this
  · split at h
    · rename_i h1
      rw [zle_iff] at h
      rw [Nat.eq_of_beq_eq_true h1, h0] at hz
      cases hz
      rw [Bool.or_eq_true, Nat.ble_eq]
      right
      omega
    · cases h
def t_astore (Z : eZ) (i np : Nat) : tA := fun A => match A.2.1 with
  | a :: S => match Nat.beq a.1 2 with
    | true => match rwf Z A.2.2.2.1 a with
      | true => some [(some np, lput A.1 i a, S, A.2.2)]
      | false => none
    | false => none
  | _ => none
theorem tr_astore {i : Nat} : trOk Z mods (a_astore i np) (t_astore Z i np) := by
  intro A L h σ w0 ss hg
  obtain ⟨LL, S, R⟩ := A
  obtain ⟨lv, st, w⟩ := ss
  unfold t_astore at h
  split at h
  · rename_i a S' hS
    dsimp only at hS
    subst hS
    split at h
    · rename_i hk
      split at h
      · rename_i hwf
        cases h
        obtain ⟨h0, hL, hS, hM, hE, hw, hf, hl, hn⟩ := hg
        obtain ⟨y, st', e1, hy, hS'⟩ := gS_1 hS
        dsimp only at e1
        subst e1
        obtain ⟨x, z, rfl, hx⟩ := avOk_R hy (Nat.eq_of_beq_eq_true hk)
        exact ⟨_, lmem, σ, (l_put lv i (.ref x), st', w), ext_rf σ, ⟨h0, gL_put hL hy, hS', hM, hE, hw, hf, wl_put hl (rwf_ok h0.2 hE hw hwf hx.1 hx.2), hn⟩, fun k => rfl⟩
      · cases h
    · cases h
  · cases h
def t_iinc (i : Nat) (d : Int) (np : Nat) : tA := fun A => match eg A.1 i with
  | some a => match Nat.beq a.1 0 with
    | true => match iv A.2.2.2.1 a with
      | p => match inI (p.1 + d) (p.2 + d) with
        | true => some [(some np, lput A.1 i (0, a.2.1, a.2.2 + d), A.2)]
        | false => match fre 0 fullI A.2.2.2.1 A.2.2.2.2 with
          | f => some [(some np, lput A.1 i f.1, A.2.1, A.2.2.1, f.2)]
    | false => none
  | none => none
theorem tr_iinc {i : Nat} {x : Int32} {d : Int} (hd : x.toInt = d) : trOk Z mods (a_iinc i x np) (t_iinc i d np) := by
  intro A L h σ w0 ss hg
  obtain ⟨LL, S, M, E, N⟩ := A
  obtain ⟨lv, st, w⟩ := ss
  unfold t_iinc at h
  split at h
  · rename_i a ha
    split at h
    · rename_i hk
      obtain ⟨h0, hL, hS, hM, hE, hw, hf, hl, hn⟩ := hg
      obtain ⟨v, h1, h2⟩ := hL _ (eg_mem ha)
      obtain ⟨y, rfl, h3⟩ := avOk_I h2 (Nat.eq_of_beq_eq_true hk)
      have act : ∀ k, a_iinc i x np k (lv, st, w) = k np (l_put lv i (.int (y + x)), st, w) := by
        intro k
        dsimp only at h1
        simp only [a_iinc, h1]
      dsimp only at h
      split at h
      · rename_i hr
        cases h
        rw [inI_iff] at hr
        have iy := iv_ok h0.2 hE h3
        dsimp only at iy
        have e : (y + x).toInt = y.toInt + x.toInt := by rw [Int32.toInt_add, bm32 (by rw [hd]; omega)]
        obtain ⟨z, z1, z2⟩ := h3
        refine ⟨_, lmem, σ, (l_put lv i (.int (y + x)), st, w), ext_rf σ, ⟨h0, gL_put hL ⟨z, z1, y + x, rfl, by rw [e, z2, hd]; dsimp only; omega⟩, hS, hM, hE, hw, hf, wl_put hl rfl, hn⟩, act⟩
      · cases h
        obtain ⟨σ', a1, a2, a3, a4⟩ := fre_ok (v := .int (y + x)) h0.1 h0.2 hE (fullI_ok Z _)
        exact ⟨_, lmem, σ', (l_put lv i (.int (y + x)), st, w), a1, ⟨a2, gL_put (gL_e a1 hL) a4, gS_e a1 hS, gM_e a1 hM, a3, hw, hf, wl_put hl rfl, hn⟩, act⟩
    · cases h
  · cases h
def t_goto (tgt : Nat) : tA := fun A => some [(some tgt, A)]
theorem tr_goto {tgt : Nat} : trOk Z mods (a_goto tgt) (t_goto tgt) := by
  intro A L h σ w0 ss hg
  cases h
  exact ⟨_, lmem, σ, ss, ext_rf σ, hg, fun k => rfl⟩
/-- kinds of one word -/
def k1 (a : eV) : Bool := match Nat.beq a.1 1 with
  | true => false
  | false => true
theorem k1_cat {σ : List Int} {a : eV} {v : Value} (h : avOk σ a v) (hk : k1 a = true) : v.category = 1 := by
  unfold k1 at hk
  split at hk
  · cases hk
  · rename_i e
    rw [cat_kd h, if_neg (ne_bff e)]
def t_dup (np : Nat) : tA := fun A => match A.2.1 with
  | a :: S => match k1 a with
    | true => some [(some np, A.1, a :: a :: S, A.2.2)]
    | false => none
  | _ => none
theorem tr_dup : trOk Z mods (a_stk q_dup np) (t_dup np) := by
  intro A L h σ w0 ss hg
  obtain ⟨LL, S, R⟩ := A
  obtain ⟨lv, st, w⟩ := ss
  unfold t_dup at h
  split at h
  · rename_i a S' hS
    dsimp only at hS
    subst hS
    split at h
    · rename_i hk
      cases h
      obtain ⟨h0, hL, hS, hr⟩ := hg
      obtain ⟨y, st', e1, hy, hS'⟩ := gS_1 hS
      dsimp only at e1
      subst e1
      refine ⟨_, lmem, σ, (lv, y :: y :: st', w), ext_rf σ, ⟨h0, hL, ⟨hy, hy, hS'⟩, hr⟩, fun k => ?_⟩
      simp only [a_stk, q_dup, k1_cat hy hk, if_true]
    · cases h
  · cases h
def t_pop (np : Nat) : tA := fun A => match A.2.1 with
  | a :: S => match k1 a with
    | true => some [(some np, A.1, S, A.2.2)]
    | false => none
  | _ => none
theorem tr_pop : trOk Z mods (a_stk q_pop np) (t_pop np) := by
  intro A L h σ w0 ss hg
  obtain ⟨LL, S, R⟩ := A
  obtain ⟨lv, st, w⟩ := ss
  unfold t_pop at h
  split at h
  · rename_i a S' hS
    dsimp only at hS
    subst hS
    split at h
    · rename_i hk
      cases h
      obtain ⟨h0, hL, hS, hr⟩ := hg
      obtain ⟨y, st', e1, hy, hS'⟩ := gS_1 hS
      dsimp only at e1
      subst e1
      refine ⟨_, lmem, σ, (lv, st', w), ext_rf σ, ⟨h0, hL, hS', hr⟩, fun k => ?_⟩
      simp only [a_stk, q_pop, k1_cat hy hk, if_true]
    · cases h
  · cases h
def t_dup2 (x1 : Bool) (np : Nat) : tA := fun A => match A.2.1 with
  | b :: a :: S => match k1 a with
    | true => match k1 b with
      | true => some [(some np, A.1, b :: a :: b :: (match x1 with
        | true => S
        | false => a :: S), A.2.2)]
      | false => none
    | false => none
  | _ => none
theorem tr_dup_x1 : trOk Z mods (a_stk q_dup_x1 np) (t_dup2 true np) := by
  intro A L h σ w0 ss hg
  obtain ⟨LL, S, R⟩ := A
  obtain ⟨lv, st, w⟩ := ss
  unfold t_dup2 at h
  split at h
  · rename_i b a S' hS
    dsimp only at hS
    subst hS
    split at h
    · rename_i hk
      split at h
      · rename_i hk2
        cases h
        obtain ⟨h0, hL, hS, hr⟩ := hg
        obtain ⟨y, x, st', e1, hy, hx, hS'⟩ := gS_2 hS
        dsimp only at e1
        subst e1
        refine ⟨_, lmem, σ, (lv, y :: x :: y :: st', w), ext_rf σ, ⟨h0, hL, ⟨hy, hx, hy, hS'⟩, hr⟩, fun k => ?_⟩
        simp only [a_stk, q_dup_x1, k1_cat hy hk2, k1_cat hx hk, and_self, if_true]
      · cases h
    · cases h
  · cases h
theorem tr_dup2 : trOk Z mods (a_stk q_dup2 np) (t_dup2 false np) := by
  intro A L h σ w0 ss hg
  obtain ⟨LL, S, R⟩ := A
  obtain ⟨lv, st, w⟩ := ss
  unfold t_dup2 at h
  split at h
  · rename_i b a S' hS
    dsimp only at hS
    subst hS
    split at h
    · rename_i hk
      split at h
      · rename_i hk2
        cases h
        obtain ⟨h0, hL, hS, hr⟩ := hg
        obtain ⟨y, x, st', e1, hy, hx, hS'⟩ := gS_2 hS
        dsimp only at e1
        subst e1
        refine ⟨_, lmem, σ, (lv, y :: x :: y :: x :: st', w), ext_rf σ, ⟨h0, hL, ⟨hy, hx, hy, hx, hS'⟩, hr⟩, fun k => ?_⟩
        simp only [a_stk, q_dup2, k1_cat hy hk2, k1_cat hx hk, and_self, if_true]
      · cases h
    · cases h
  · cases h
/-- ends -/
def t_iret : tA := fun A => match A.2.1 with
  | [a] => match Nat.beq a.1 0 with
    | true => some [(none, A)]
    | false => none
  | _ => none
def t_zret : tA := fun A => match A.2.1 with
  | [a] => match Nat.beq a.1 0 with
    | true => match iv A.2.2.2.1 a with
      | p => match zle 0 p.1 with
        | true => match zle p.2 1 with
          | true => some [(none, A)]
          | false => none
        | false => none
    | false => none
  | _ => none
def t_lret : tA := fun A => match A.2.1 with
  | [a] => match Nat.beq a.1 1 with
    | true => some [(none, A)]
    | false => none
  | _ => none
def t_vret : tA := fun A => match A.2.1 with
  | [] => some [(none, A)]
  | _ => none
theorem gS_one {σ : List Int} {a : eV} {st : List Value} (h : gS σ [a] st) : ∃ v, st = [v] ∧ avOk σ a v := by
  obtain ⟨y, st', e1, hy, hS'⟩ := gS_1 h
  rw [gS_0 hS'] at e1
  exact ⟨y, e1, hy⟩
theorem tr_iret : trOk Z mods a_iret t_iret := by
  intro A L h σ w0 ss hg
  obtain ⟨LL, S, R⟩ := A
  obtain ⟨lv, st, w⟩ := ss
  unfold t_iret at h
  split at h
  · rename_i a hS
    dsimp only at hS
    subst hS
    split at h
    · rename_i hk
      cases h
      obtain ⟨v, e1, hv⟩ := gS_one hg.2.2.1
      dsimp only at e1
      subst e1
      obtain ⟨x, rfl, hx⟩ := avOk_I hv (Nat.eq_of_beq_eq_true hk)
      exact ⟨_, lmem, σ, _, ext_rf σ, hg, fun k => rfl⟩
    · cases h
  · cases h
theorem tr_lret : trOk Z mods a_lret t_lret := by
  intro A L h σ w0 ss hg
  obtain ⟨LL, S, R⟩ := A
  obtain ⟨lv, st, w⟩ := ss
  unfold t_lret at h
  split at h
  · rename_i a hS
    dsimp only at hS
    subst hS
    split at h
    · rename_i hk
      cases h
      obtain ⟨v, e1, hv⟩ := gS_one hg.2.2.1
      dsimp only at e1
      subst e1
      obtain ⟨x, rfl, hx⟩ := avOk_J hv (Nat.eq_of_beq_eq_true hk)
      exact ⟨_, lmem, σ, _, ext_rf σ, hg, fun k => rfl⟩
    · cases h
  · cases h
theorem b01 {x : Int32} (h1 : 0 ≤ x.toInt) (h2 : x.toInt ≤ 1) : x = 0 ∨ x = 1 := by
  rcases (by omega : x.toInt = 0 ∨ x.toInt = 1) with h | h
  · left
    rw [← Int32.ofInt_toInt x, h]
    rfl
  · right
    rw [← Int32.ofInt_toInt x, h]
    rfl
theorem tr_zret : trOk Z mods a_zret t_zret := by
  intro A L h σ w0 ss hg
  obtain ⟨LL, S, R⟩ := A
  obtain ⟨lv, st, w⟩ := ss
  unfold t_zret at h
  split at h
  · rename_i a hS
    dsimp only at hS
    subst hS
    split at h
    · rename_i hk
      dsimp only at h
      split at h
      · rename_i h1
        split at h
        · rename_i h2
          rw [zle_iff] at h1 h2
          cases h
          obtain ⟨v, e1, hv⟩ := gS_one hg.2.2.1
          dsimp only at e1
          subst e1
          obtain ⟨x, rfl, hx⟩ := avOk_I hv (Nat.eq_of_beq_eq_true hk)
          have ix := iv_ok hg.1.2 hg.2.2.2.2.1 hx
          dsimp only at ix
          refine ⟨_, lmem, σ, _, ext_rf σ, hg, fun k => ?_⟩
          have : x = 0 ∨ x = 1 := b01 (by omega) (by omega)
          simp only [a_zret, if_pos this]
          rfl
        · cases h
      · cases h
    · cases h
  · cases h
theorem tr_vret : trOk Z mods a_vret t_vret := by
  intro A L h σ w0 ss hg
  obtain ⟨LL, S, R⟩ := A
  obtain ⟨lv, st, w⟩ := ss
  unfold t_vret at h
  split at h
  · rename_i hS
    dsimp only at hS
    subst hS
    cases h
    have e1 := gS_0 hg.2.2.1
    dsimp only at e1
    subst e1
    exact ⟨_, lmem, σ, _, ext_rf σ, hg, fun k => rfl⟩
  · cases h
def t_gets (h np : Nat) : tA := fun A => some [(some np, A.1, (2, 0, (h : Int)) :: A.2.1, A.2.2)]
theorem tr_gets {h : Nat} : trOk Z mods (a_gets h np) (t_gets h np) := by
  intro A L e σ w0 ss hg
  cases e
  obtain ⟨⟨hN, h0⟩, hL, hS, hr⟩ := hg
  exact ⟨_, lmem, σ, (ss.1, .ref h :: ss.2.1, ss.2.2), ext_rf σ, ⟨⟨hN, h0⟩, hL, ⟨⟨0, h0, h, rfl, (Int.zero_add _).symm⟩, hS⟩, hr⟩, fun k => rfl⟩
end TR
end
