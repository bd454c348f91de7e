noncomputable section
section HXL
variable {tbl : List (Nat × sA)} {Po : sR → Prop} {pc np : Nat} {lv : List (Nat × Value)} {st : List Value} {w : sW}
theorem x_lstore {i : Nat} {x : Int64} (ha : t_get tbl pc = some (a_lstore i np)) (g : Tp tbl Po np (l_put2 lv i (.long x), st, w, 0, 0)) : Tp tbl Po pc (lv, .long x :: st, w, 0, 0) := Tp_step ha (fun _ => rfl) g
theorem x_lret {x : Int64} (ha : t_get tbl pc = some a_lret) (g : Po (some (.long x), w, 0, 0)) : Tp tbl Po pc (lv, [.long x], w, 0, 0) := Tp_ret ha (fun _ => rfl) g
end HXL
theorem skp_cap (B : Nat → Int) : ∀ (m m' p : Nat), m ≤ m' → skp B m p = min (skp B m' p) (p + m) := by
  intro m
  induction m with
  | zero =>
    intro m' p _
    have := (skp_b B m' p).1
    show p = _
    omega
  | succ m ih =>
    intro m' p h
    cases m' with
    | zero => omega
    | succ m' =>
      by_cases c : B p = 32 ∨ B p = 10
      · rw [skp_y c, skp_y c, ih m' (p + 1) (by omega)]
        omega
      · rw [skp_n c, skp_n c]
        omega
/-- the token at p by the blanks that the other skips -/
theorem lexT_r {B : Nat → Int} {n L p : Nat} (hp : p ≤ n) : (L < n ∧ L ≤ skp B (n - p) p → (lexT B n L p).1 = 1 ∧ (lexT B n L p).2.1 = (L : Int)) ∧ (¬ (L < n ∧ L ≤ skp B (n - p) p) → lexT B n L p = lexQ B n L (skp B (n - p) p)) := by
  have hc := skp_cap B (min n L - p) (n - p) p (by omega)
  have hb := skp_b B (n - p) p
  constructor
  · intro ⟨h1, h2⟩
    unfold lexT
    rw [lexQ_e (by omega), if_neg (by omega)]
    exact ⟨rfl, by show ((min n L : Nat) : Int) = (L : Int); omega⟩
  · intro h
    unfold lexT
    rw [hc, show min (skp B (n - p) p) (p + (min n L - p)) = skp B (n - p) p by omega]
def txR (B : Nat → Int) (n L : Nat) (w : sW) : Prop := (∀ i, i < n → gX w 214 i = B i) ∧ gF w 213 3 = (n : Int) ∧ gF w 213 4 = (L : Int) ∧ n ≤ 940 ∧ L ≤ 940 ∧ ∀ i, i < n → 0 ≤ B i ∧ B i ≤ 255
theorem txR_sm {E : List (Nat × Nat × Nat)} {B : Nat → Int} {n L : Nat} {w w' : sW} (h : smW E w w') (h1 : ((0, 213, 3) ∉ E ∧ (0, 213, 4) ∉ E) ∧ (2, 214, 0) ∉ E) (t : txR B n L w) : txR B n L w' := ⟨fun i hi => (h.2.2.1 214 i h1.2).trans (t.1 i hi), (h.1 213 3 h1.1.1).trans t.2.1, (h.1 213 4 h1.1.2).trans t.2.2.1, t.2.2.2⟩
/-- a token as the reference has it: kind, from, number, sign, word, to -/
def tkU (S : tS) (kd fr nu sg : Int) (wd : Int64) (to_ : Int) : Prop := fr = S.2.1 ∧ ((S.1 = 0 ∧ kd = 0) ∨ (S.1 = 1 ∧ kd = 1) ∨ (S.1 = 2 ∧ kd = 4 ∧ sg = S.2.2.1 ∧ to_ = (S.2.2.2.2 : Int)) ∨ (S.1 = 3 ∧ kd = 3 ∧ nu = S.2.2.1 ∧ to_ = (S.2.2.2.2 : Int)) ∨ (S.1 = 4 ∧ kd = 2 ∧ wd = Int64.ofInt S.2.2.2.1 ∧ to_ = (S.2.2.2.2 : Int)) ∨ (S.1 = 5 ∧ kd = 2 ∧ wd = Int64.ofInt S.2.2.2.1 ∧ to_ = (S.2.2.2.2 : Int)))
def tkR (B : Nat → Int) (n L : Nat) (S : tS) (w : sW) : Prop := txR B n L w ∧ tkU S (gF w 213 7) (gF w 213 6) (gF w 213 8) (gF w 213 9) (gJ w 213 12) (gF w 213 5)
def eGo : List (Nat × Nat × Nat) := [(0, 213, 5), (0, 213, 6), (0, 213, 7), (0, 213, 8), (0, 213, 9), (1, 213, 12)]
theorem nlt_pos {B : Nat → Int} {q : Nat} (h : ltc (B q)) : ∀ k, 1 ≤ k → 1 ≤ nlt B q k := by
  intro k
  induction k with
  | zero => intro h0; omega
  | succ k ih =>
    intro _
    by_cases c : k = 0
    · subst c
      rw [nlt_y (show ltc (B (q + 0)) from h)]
      omega
    · have := ih (by omega)
      show 1 ≤ nlt B q k + (if ltc (B (q + k)) then 1 else 0)
      omega
theorem nlt_lt {B : Nat → Int} {q : Nat} (h : ¬ ltc (B q)) : ∀ k, 1 ≤ k → nlt B q k < k := by
  intro k
  induction k with
  | zero => intro h0; omega
  | succ k ih =>
    intro _
    by_cases c : k = 0
    · subst c
      rw [nlt_n (show ¬ ltc (B (q + 0)) from h)]
      show 0 < 1
      omega
    · have := ih (by omega)
      show nlt B q k + (if ltc (B (q + k)) then 1 else 0) < k + 1
      by_cases d : ltc (B (q + k))
      · rw [if_pos d]
        omega
      · rw [if_neg d]
        omega
theorem e10_g3 (B : Nat → Int) (q k : Nat) (hk : k ≤ 3) (h : ∀ i, i < k → 0 ≤ B (q + i) ∧ B (q + i) ≤ 255) : -48000 ≤ e10 B q k ∧ e10 B q k ≤ 255000 := by
  have k0 : e10 B q 0 = 0 := rfl
  have k1 : e10 B q 1 = 10 * e10 B q 0 + (B (q + 0) - 48) := rfl
  have k2 : e10 B q 2 = 10 * e10 B q 1 + (B (q + 1) - 48) := rfl
  have k3 : e10 B q 3 = 10 * e10 B q 2 + (B (q + 2) - 48) := rfl
  have c : k = 0 ∨ k = 1 ∨ k = 2 ∨ k = 3 := by omega
  rcases c with rfl | rfl | rfl | rfl
  · omega
  · have h0 := h 0 (by omega)
    omega
  · have h0 := h 0 (by omega)
    have h1 := h 1 (by omega)
    omega
  · have h0 := h 0 (by omega)
    have h1 := h 1 (by omega)
    have h2 := h 2 (by omega)
    omega
theorem x_isLetR {kn : sKn} {w : sW} (hw : wOk ZZ w) (x : Int) (hx : R32 x) : ∃ b : Int, fX12_isLetter kn [hI x] w = some (some (hI b), w, 0, 0) ∧ (b = 1 ∧ 97 ≤ x ∧ x ≤ 122 ∨ b = 0 ∧ (x < 97 ∨ 122 < x)) := by
  have hx1 := hx.1
  have hx2 := hx.2
  have K : Tp (tX12_isLetter kn) (fun r => ∃ b : Int, r = (some (hI b), w, 0, 0) ∧ (b = 1 ∧ 97 ≤ x ∧ x ≤ 122 ∨ b = 0 ∧ (x < 97 ∨ 122 < x))) 0 (lv_args 0 [hI x], [], w, 0, 0) := by
    have l0 : hL (lv_args 0 [hI x]) (lv_args 0 [hI x]) := hL_ex rfl
    have o0 : hO [] w w := hO_rf hw
    refine h_iload rfl l0 rfl ?_
    refine h_intv k_97 rfl ?_
    refine i_lt (kn := kn) (t := 2) (tgt := 16) (np := 6) rfl (by unfold R32; omega) (by unfold R32; omega) (fun e41 => ?_) (fun e41 => ?_)
    · refine h_intv k_0 rfl ?_
      refine h_zret (by omega) rfl ?_
      exact ⟨_, rfl, by omega⟩
    · refine h_iload rfl l0 rfl ?_
      refine h_intv k_122 rfl ?_
      refine i_gt (kn := kn) (t := 4) (tgt := 16) (np := 12) rfl (by unfold R32; omega) (by unfold R32; omega) (fun e42 => ?_) (fun e42 => ?_)
      · refine h_intv k_0 rfl ?_
        refine h_zret (by omega) rfl ?_
        exact ⟨_, rfl, by omega⟩
      · refine h_intv k_1 rfl ?_
        refine h_goto rfl ?_
        refine h_zret (by omega) rfl ?_
        exact ⟨_, rfl, by omega⟩
  obtain ⟨r, h1, b, h2, h3⟩ := h_meth1 (nL := 1) rfl K
  rw [h2] at h1
  exact ⟨b, h1, h3⟩
theorem x_isDigR {kn : sKn} {w : sW} (hw : wOk ZZ w) (x : Int) (hx : R32 x) : ∃ b : Int, fX12_isDigit kn [hI x] w = some (some (hI b), w, 0, 0) ∧ (b = 1 ∧ 48 ≤ x ∧ x ≤ 57 ∨ b = 0 ∧ (x < 48 ∨ 57 < x)) := by
  have hx1 := hx.1
  have hx2 := hx.2
  have K : Tp (tX12_isDigit kn) (fun r => ∃ b : Int, r = (some (hI b), w, 0, 0) ∧ (b = 1 ∧ 48 ≤ x ∧ x ≤ 57 ∨ b = 0 ∧ (x < 48 ∨ 57 < x))) 0 (lv_args 0 [hI x], [], w, 0, 0) := by
    have l0 : hL (lv_args 0 [hI x]) (lv_args 0 [hI x]) := hL_ex rfl
    have o0 : hO [] w w := hO_rf hw
    refine h_iload rfl l0 rfl ?_
    refine h_intv k_48 rfl ?_
    refine i_lt (kn := kn) (t := 2) (tgt := 16) (np := 6) rfl (by unfold R32; omega) (by unfold R32; omega) (fun e41 => ?_) (fun e41 => ?_)
    · refine h_intv k_0 rfl ?_
      refine h_zret (by omega) rfl ?_
      exact ⟨_, rfl, by omega⟩
    · refine h_iload rfl l0 rfl ?_
      refine h_intv k_57 rfl ?_
      refine i_gt (kn := kn) (t := 4) (tgt := 16) (np := 12) rfl (by unfold R32; omega) (by unfold R32; omega) (fun e42 => ?_) (fun e42 => ?_)
      · refine h_intv k_0 rfl ?_
        refine h_zret (by omega) rfl ?_
        exact ⟨_, rfl, by omega⟩
      · refine h_intv k_1 rfl ?_
        refine h_goto rfl ?_
        refine h_zret (by omega) rfl ?_
        exact ⟨_, rfl, by omega⟩
  obtain ⟨r, h1, b, h2, h3⟩ := h_meth1 (nL := 1) rfl K
  rw [h2] at h1
  exact ⟨b, h1, h3⟩
theorem x_tapeAt {kn : sKn} {w : sW} {B : Nat → Int} {n L : Nat} (tx : txR B n L w) (hw : wOk ZZ w) (p : Nat) (hp : p ≤ 940) : ∃ b : Int, fX12_tapeAt kn [.ref 213, hI p] w = some (some (hI b), w, 0, 0) ∧ (p < n → b = B p) ∧ (n ≤ p → b = 0) := by
  obtain ⟨hB, hn1, hn2, hn940, hL940, hb⟩ := tx
  have K : Tp (tX12_tapeAt kn) (fun r => ∃ b : Int, r = (some (hI b), w, 0, 0) ∧ (p < n → b = B p) ∧ (n ≤ p → b = 0)) 0 (lv_args 0 [.ref 213, hI p], [], w, 0, 0) := by
    have l0 : hL (lv_args 0 [.ref 213, hI p]) (lv_args 0 [.ref 213, hI p]) := hL_ex rfl
    have o0 : hO [] w w := hO_rf hw
    refine h_iload rfl l0 rfl ?_
    refine h_aload rfl l0 rfl ?_
    refine h_getI rfl o0 fi_3 (fun b41a b41b => ?_)
    rw [hn1] at b41a b41b ⊢
    refine i_ge (kn := kn) (t := 3) (tgt := 17) (np := 8) rfl (by unfold R32; omega) (by unfold R32; omega) (fun e42 => ?_) (fun e42 => ?_)
    · refine h_intv k_0 rfl ?_
      refine h_iret rfl ?_
      exact ⟨_, rfl, by omega, by omega⟩
    · refine h_aload rfl l0 rfl ?_
      refine h_getR rfl o0 fr_1 ?_
      refine h_iload rfl l0 rfl ?_
      refine h_ialdj (p) rfl o0 ai_214 rfl (by omega) (by omega) (fun b43a b43b => ?_)
      rw [hB p (by omega)] at b43a b43b ⊢
      refine h_goto rfl ?_
      refine h_iret rfl ?_
      exact ⟨_, rfl, by omega, by omega⟩
  obtain ⟨r, h1, b, h2, h3⟩ := h_meth1 (nL := 2) rfl K
  rw [h2] at h1
  exact ⟨b, h1, h3⟩
theorem xgo_e {kn : sKn} {w0 : sW} {B : Nat → Int} {n L : Nat} (tx : txR B n L w0) {A k : Nat} {c lt gd : Int} (hk1 : 1 ≤ k) (hAk : A + k ≤ n) (hlt : (lt = 1 ∧ ltc (B A)) ∨ (lt = 0 ∧ ¬ ltc (B A))) (hgd : ((gd = 1 ∧ ((lt = 1 ∧ nlt B A k = k) ∨ (lt = 0 ∧ nlt B A k = 0))) ∨ (gd = 0 ∧ ((lt = 1 ∧ nlt B A k ≠ k) ∨ (lt = 0 ∧ nlt B A k ≠ 0))))) {w : sW} {lv : List (Nat × Value)} (o0 : hO dH_go7 w0 w) (sm : smW eGo w0 w) (hw5 : gF w 213 5 = ((A + k : Nat) : Int)) (hw6 : gF w 213 6 = (A : Int)) (hw12 : gJ w 213 12 = Int64.ofInt (e27 B A (min 7 k))) (hw8 : gF w 213 8 = e10 B A (min 3 k)) (l0 : hL lv [(0, .ref 213), (1, hI c), (2, hI lt), (3, hI gd)]) : Tp (tX12_go kn) (fun r => ∃ w', r = (none, w', 0, 0) ∧ hO dH_go7 w0 w' ∧ smW eGo w0 w' ∧ tkU (lexM B A k) (gF w' 213 7) (gF w' 213 6) (gF w' 213 8) (gF w' 213 9) (gJ w' 213 12) (gF w' 213 5)) 350 (lv, [], w, 0, 0) := by
  obtain ⟨hB, hn1, hn2, hn940, hL940, hb⟩ := txR_sm sm (by decide) tx
  have hnl := nlt_le B A k
  have hpos : lt = 1 → 1 ≤ nlt B A k := fun e => by
    rcases hlt with ⟨_, h⟩ | ⟨h, _⟩
    · exact nlt_pos h k hk1
    · omega
  have hlt2 : lt = 0 → nlt B A k < k := fun e => by
    rcases hlt with ⟨h, _⟩ | ⟨_, h⟩
    · omega
    · exact nlt_lt h k hk1
  have hl01 : lt = 0 ∨ lt = 1 := by omega
  have hpl : (lt = 1 ∧ 1 ≤ nlt B A k) ∨ (lt = 0 ∧ nlt B A k < k) := by
    rcases hl01 with e | e
    · exact Or.inr ⟨e, hlt2 e⟩
    · exact Or.inl ⟨e, hpos e⟩
  clear hpos hlt2
  refine h_aload rfl l0 rfl ?_
  refine h_iload rfl l0 rfl ?_
  refine j_eq (kn := kn) (t := 0) (tgt := 377) (np := 355) rfl (by unfold R32; omega) (fun e41 => ?_) (fun e41 => ?_)
  · refine h_intv k_1 rfl ?_
    refine h_goto rfl ?_
    refine x_putI rfl o0 fi_7 rfl (by omega) (by omega) (fun w42 o42 q43a q43F q43X q43J q43Y q43R => ?_)
    refine h_vret rfl ?_
    rw [lexM_x (fun hh => by omega) (fun hh => by omega)]
    exact ⟨_, rfl, o42, smW_tr sm (sm_pI (by decide) q43F q43X q43J q43Y q43R), by rw [q43F 213 6 (by decide), hw6], Or.inr (Or.inl ⟨rfl, by rw [q43a]⟩)⟩
  · refine h_aload rfl l0 rfl ?_
    refine h_getI rfl o0 fi_5 (fun b44a b44b => ?_)
    rw [hw5] at b44a b44b ⊢
    refine h_aload rfl l0 rfl ?_
    refine h_getI rfl o0 fi_6 (fun b45a b45b => ?_)
    rw [hw6] at b45a b45b ⊢
    refine h_isub rfl ?_
    refine h_iload rfl l0 rfl ?_
    refine j_eq (kn := kn) (t := 0) (tgt := 373) (np := 368) rfl (by unfold R32; omega) (fun e46 => ?_) (fun e46 => ?_)
    · refine h_intv k_3 rfl ?_
      refine i_le (kn := kn) (t := 5) (tgt := 381) (np := 377) rfl (by unfold R32; omega) (by unfold R32; omega) (fun e47 => ?_) (fun e47 => ?_)
      · refine h_iload rfl l0 rfl ?_
        refine j_eq (kn := kn) (t := 0) (tgt := 389) (np := 385) rfl (by unfold R32; omega) (fun e48 => ?_) (fun e48 => ?_)
        · refine h_intv k_3 rfl ?_
          refine x_putI rfl o0 fi_7 rfl (by omega) (by omega) (fun w49 o49 q50a q50F q50X q50J q50Y q50R => ?_)
          refine h_vret rfl ?_
          have hm : min 3 k = k := by omega
          rw [lexM_d (fun hh => by omega) (by omega) (by omega)]
          exact ⟨_, rfl, o49, smW_tr sm (sm_pI (by decide) q50F q50X q50J q50Y q50R), by rw [q50F 213 6 (by decide), hw6], Or.inr (Or.inr (Or.inr (Or.inl ⟨rfl, by rw [q50a], by rw [q50F 213 8 (by decide), hw8, hm], by rw [q50F 213 5 (by decide), hw5]⟩)))⟩
        · refine h_intv k_2 rfl ?_
          refine h_goto rfl ?_
          refine x_putI rfl o0 fi_7 rfl (by omega) (by omega) (fun w51 o51 q52a q52F q52X q52J q52Y q52R => ?_)
          refine h_vret rfl ?_
          have heq : nlt B A k = k := by omega
          have hm : min 7 k = k := by omega
          by_cases hko : kof (e27 B A k) = -1
          · rw [lexM_n heq (by omega) hko]
            exact ⟨_, rfl, o51, smW_tr sm (sm_pI (by decide) q52F q52X q52J q52Y q52R), by rw [q52F 213 6 (by decide), hw6], Or.inr (Or.inr (Or.inr (Or.inr (Or.inr (⟨rfl, by rw [q52a], by rw [q52J 213 12, hw12, hm], by rw [q52F 213 5 (by decide), hw5]⟩)))))⟩
          · rw [lexM_k heq (by omega) hko]
            exact ⟨_, rfl, o51, smW_tr sm (sm_pI (by decide) q52F q52X q52J q52Y q52R), by rw [q52F 213 6 (by decide), hw6], Or.inr (Or.inr (Or.inr (Or.inr (Or.inl ⟨rfl, by rw [q52a], by rw [q52J 213 12, hw12, hm], by rw [q52F 213 5 (by decide), hw5]⟩))))⟩
      · refine h_intv k_1 rfl ?_
        refine h_goto rfl ?_
        refine x_putI rfl o0 fi_7 rfl (by omega) (by omega) (fun w53 o53 q54a q54F q54X q54J q54Y q54R => ?_)
        refine h_vret rfl ?_
        rw [lexM_x (fun hh => by omega) (fun hh => by omega)]
        exact ⟨_, rfl, o53, smW_tr sm (sm_pI (by decide) q54F q54X q54J q54Y q54R), by rw [q54F 213 6 (by decide), hw6], Or.inr (Or.inl ⟨rfl, by rw [q54a]⟩)⟩
    · refine h_intv k_7 rfl ?_
      refine h_goto rfl ?_
      refine i_le (kn := kn) (t := 5) (tgt := 381) (np := 377) rfl (by unfold R32; omega) (by unfold R32; omega) (fun e55 => ?_) (fun e55 => ?_)
      · refine h_iload rfl l0 rfl ?_
        refine j_eq (kn := kn) (t := 0) (tgt := 389) (np := 385) rfl (by unfold R32; omega) (fun e56 => ?_) (fun e56 => ?_)
        · refine h_intv k_3 rfl ?_
          refine x_putI rfl o0 fi_7 rfl (by omega) (by omega) (fun w57 o57 q58a q58F q58X q58J q58Y q58R => ?_)
          refine h_vret rfl ?_
          have hm : min 3 k = k := by omega
          rw [lexM_d (fun hh => by omega) (by omega) (by omega)]
          exact ⟨_, rfl, o57, smW_tr sm (sm_pI (by decide) q58F q58X q58J q58Y q58R), by rw [q58F 213 6 (by decide), hw6], Or.inr (Or.inr (Or.inr (Or.inl ⟨rfl, by rw [q58a], by rw [q58F 213 8 (by decide), hw8, hm], by rw [q58F 213 5 (by decide), hw5]⟩)))⟩
        · refine h_intv k_2 rfl ?_
          refine h_goto rfl ?_
          refine x_putI rfl o0 fi_7 rfl (by omega) (by omega) (fun w59 o59 q60a q60F q60X q60J q60Y q60R => ?_)
          refine h_vret rfl ?_
          have heq : nlt B A k = k := by omega
          have hm : min 7 k = k := by omega
          by_cases hko : kof (e27 B A k) = -1
          · rw [lexM_n heq (by omega) hko]
            exact ⟨_, rfl, o59, smW_tr sm (sm_pI (by decide) q60F q60X q60J q60Y q60R), by rw [q60F 213 6 (by decide), hw6], Or.inr (Or.inr (Or.inr (Or.inr (Or.inr (⟨rfl, by rw [q60a], by rw [q60J 213 12, hw12, hm], by rw [q60F 213 5 (by decide), hw5]⟩)))))⟩
          · rw [lexM_k heq (by omega) hko]
            exact ⟨_, rfl, o59, smW_tr sm (sm_pI (by decide) q60F q60X q60J q60Y q60R), by rw [q60F 213 6 (by decide), hw6], Or.inr (Or.inr (Or.inr (Or.inr (Or.inl ⟨rfl, by rw [q60a], by rw [q60J 213 12, hw12, hm], by rw [q60F 213 5 (by decide), hw5]⟩))))⟩
      · refine h_intv k_1 rfl ?_
        refine h_goto rfl ?_
        refine x_putI rfl o0 fi_7 rfl (by omega) (by omega) (fun w61 o61 q62a q62F q62X q62J q62Y q62R => ?_)
        refine h_vret rfl ?_
        rw [lexM_x (fun hh => by omega) (fun hh => by omega)]
        exact ⟨_, rfl, o61, smW_tr sm (sm_pI (by decide) q62F q62X q62J q62Y q62R), by rw [q62F 213 6 (by decide), hw6], Or.inr (Or.inl ⟨rfl, by rw [q62a]⟩)⟩
theorem xgo_l {kn : sKn} {w0 : sW} {B : Nat → Int} {n L : Nat} (tx : txR B n L w0) {A : Nat} {c lt : Int} (hA : A < n) (hlt : (lt = 1 ∧ ltc (B A)) ∨ (lt = 0 ∧ ¬ ltc (B A))) (hal0 : ltc (B A) ∨ dgc (B A)) : ∀ (m k : Nat) (w : sW) (lv : List (Nat × Value)) (gd : Int), A + k + m = n → A + k ≤ n → (∀ i, i < k → ltc (B (A + i)) ∨ dgc (B (A + i))) → ((gd = 1 ∧ ((lt = 1 ∧ nlt B A k = k) ∨ (lt = 0 ∧ nlt B A k = 0))) ∨ (gd = 0 ∧ ((lt = 1 ∧ nlt B A k ≠ k) ∨ (lt = 0 ∧ nlt B A k ≠ 0)))) → hO dH_go7 w0 w → smW eGo w0 w → gF w 213 5 = ((A + k : Nat) : Int) → gF w 213 6 = (A : Int) → gJ w 213 12 = Int64.ofInt (e27 B A (min 7 k)) → gF w 213 8 = e10 B A (min 3 k) → hL lv [(0, .ref 213), (1, hI c), (2, hI lt), (3, hI gd)] → Tp (tX12_go kn) (fun r => ∃ w', r = (none, w', 0, 0) ∧ hO dH_go7 w0 w' ∧ smW eGo w0 w' ∧ tkU (lexM B A (ale B m (A + k) - A)) (gF w' 213 7) (gF w' 213 6) (gF w' 213 8) (gF w' 213 9) (gJ w' 213 12) (gF w' 213 5)) 215 (lv, [], w, 0, 0) := by
  intro m
  induction m with
  | zero =>
    intro k w lv gd hkm hAk hall hgd o0 sm hw5 hw6 hw12 hw8 l0
    obtain ⟨hB, hn1, hn2, hn940, hL940, hb⟩ := txR_sm sm (by decide) tx
    refine h_aload rfl l0 rfl ?_
    refine h_aload rfl l0 rfl ?_
    refine h_getI rfl o0 fi_5 (fun b41a b41b => ?_)
    rw [hw5] at b41a b41b ⊢
    obtain ⟨z42, hf42, ha42, hc42⟩ := x_tapeAt (kn := kn) (txR_sm sm (by decide) tx) o0.1 (A + k : Nat) (by omega)
    have hv42 : 0 ≤ z42 ∧ z42 ≤ 255 := by
      by_cases hpn : (A + k : Nat) < n
      · rw [ha42 hpn]
        exact hb _ hpn
      · rw [hc42 (by omega)]
        omega
    refine h_V2 rfl o0 l0 ci_213 rfl rfl hf42 ?_
    obtain ⟨z43, hf43, hz43⟩ := x_isLetR (kn := kn) o0.1 z42 ⟨by omega, by omega⟩
    refine h_S1 rfl o0 l0 rfl rfl hf43 ?_
    refine j_ne (kn := kn) (t := 1) (tgt := 243) (np := 229) rfl (by unfold R32; omega) (fun e44 => ?_) (fun e44 => ?_)
    · have h1 := hc42 (by omega)
      omega
    · refine h_aload rfl l0 rfl ?_
      refine h_aload rfl l0 rfl ?_
      refine h_getI rfl o0 fi_5 (fun b45a b45b => ?_)
      rw [hw5] at b45a b45b ⊢
      obtain ⟨z46, hf46, ha46, hc46⟩ := x_tapeAt (kn := kn) (txR_sm sm (by decide) tx) o0.1 (A + k : Nat) (by omega)
      have hv46 : 0 ≤ z46 ∧ z46 ≤ 255 := by
        by_cases hpn : (A + k : Nat) < n
        · rw [ha46 hpn]
          exact hb _ hpn
        · rw [hc46 (by omega)]
          omega
      refine h_V2 rfl o0 l0 ci_213 rfl rfl hf46 ?_
      obtain ⟨z47, hf47, hz47⟩ := x_isDigR (kn := kn) o0.1 z46 ⟨by omega, by omega⟩
      refine h_S1 rfl o0 l0 rfl rfl hf47 ?_
      refine j_eq (kn := kn) (t := 0) (tgt := 350) (np := 243) rfl (by unfold R32; omega) (fun e48 => ?_) (fun e48 => ?_)
      · have hq : ale B 0 (A + k) = A + k := rfl
        rw [hq, Nat.add_sub_cancel_left]
        exact xgo_e tx (by omega) (by omega) hlt hgd o0 sm hw5 hw6 hw12 hw8 l0
      · have h1 := hc46 (by omega)
        omega
  | succ m ih =>
    intro k w lv gd hkm hAk hall hgd o0 sm hw5 hw6 hw12 hw8 l0
    obtain ⟨hB, hn1, hn2, hn940, hL940, hb⟩ := txR_sm sm (by decide) tx
    have hnl := nlt_le B A k
    have hk0 : ale B (m + 1) (A + k) = A + k → 1 ≤ k := fun hq => by
      rcases Nat.eq_zero_or_pos k with e | e
      · subst e
        have e1 : ale B (m + 1) A = ale B m (A + 1) := ale_y hal0
        have h2 := (ale_b B m (A + 1)).1
        have hq : ale B (m + 1) A = A := hq
        omega
      · exact e
    refine h_aload rfl l0 rfl ?_
    refine h_aload rfl l0 rfl ?_
    refine h_getI rfl o0 fi_5 (fun b41a b41b => ?_)
    rw [hw5] at b41a b41b ⊢
    obtain ⟨z42, hf42, ha42, hc42⟩ := x_tapeAt (kn := kn) (txR_sm sm (by decide) tx) o0.1 (A + k : Nat) (by omega)
    have hv42 : 0 ≤ z42 ∧ z42 ≤ 255 := by
      by_cases hpn : (A + k : Nat) < n
      · rw [ha42 hpn]
        exact hb _ hpn
      · rw [hc42 (by omega)]
        omega
    refine h_V2 rfl o0 l0 ci_213 rfl rfl hf42 ?_
    obtain ⟨z43, hf43, hz43⟩ := x_isLetR (kn := kn) o0.1 z42 ⟨by omega, by omega⟩
    refine h_S1 rfl o0 l0 rfl rfl hf43 ?_
    refine j_ne (kn := kn) (t := 1) (tgt := 243) (np := 229) rfl (by unfold R32; omega) (fun e44 => ?_) (fun e44 => ?_)
    · have hal : ltc (B (A + k)) ∨ dgc (B (A + k)) := by
        have hpn : A + k < n := by
          rcases Nat.lt_or_ge (A + k) n with h | h
          · exact h
          · have h1 := hc42 h
            omega
        have h2 := ha42 hpn
        show (97 ≤ B (A + k) ∧ B (A + k) ≤ 122) ∨ (48 ≤ B (A + k) ∧ B (A + k) ≤ 57)
        omega
      refine h_aload rfl l0 rfl ?_
      refine h_getR rfl o0 fr_1 ?_
      refine h_aload rfl l0 rfl ?_
      refine h_getI rfl o0 fi_5 (fun b45a b45b => ?_)
      rw [hw5] at b45a b45b ⊢
      refine h_ialdj ((A + k : Nat)) rfl o0 ai_214 rfl (by omega) (by omega) (fun b46a b46b => ?_)
      rw [hB (A + k : Nat) (by omega)] at b46a b46b ⊢
      refine h_istore rfl l0 (fun vl47 l47 => ?_)
      refine h_iload rfl l47 rfl ?_
      refine j_eq (kn := kn) (t := 0) (tgt := 271) (np := 258) rfl (by unfold R32; omega) (fun e48 => ?_) (fun e48 => ?_)
      · refine h_intv k_0 rfl ?_
        refine h_istore rfl l47 (fun vl49 l49 => ?_)
        refine h_aload rfl l49 rfl ?_
        refine h_getI rfl o0 fi_5 (fun b50a b50b => ?_)
        rw [hw5] at b50a b50b ⊢
        refine h_aload rfl l49 rfl ?_
        refine h_getI rfl o0 fi_6 (fun b51a b51b => ?_)
        rw [hw6] at b51a b51b ⊢
        refine h_isub rfl ?_
        refine h_intv k_7 rfl ?_
        refine i_ge (kn := kn) (t := 3) (tgt := 307) (np := 287) rfl (by unfold R32; omega) (by unfold R32; omega) (fun e52 => ?_) (fun e52 => ?_)
        · refine h_aload rfl l49 rfl ?_
          refine h_getI rfl o0 fi_5 (fun b53a b53b => ?_)
          rw [hw5] at b53a b53b ⊢
          refine h_aload rfl l49 rfl ?_
          refine h_getI rfl o0 fi_6 (fun b54a b54b => ?_)
          rw [hw6] at b54a b54b ⊢
          refine h_isub rfl ?_
          refine h_intv k_3 rfl ?_
          refine i_ge (kn := kn) (t := 3) (tgt := 337) (np := 320) rfl (by unfold R32; omega) (by unfold R32; omega) (fun e55 => ?_) (fun e55 => ?_)
          · refine h_aload rfl l49 rfl ?_
            refine h_dup rfl rfl ?_
            refine h_getI rfl o0 fi_5 (fun b56a b56b => ?_)
            rw [hw5] at b56a b56b ⊢
            refine h_intv k_1 rfl ?_
            refine h_iadd rfl ?_
            refine x_putI rfl o0 fi_5 rfl (by omega) (by omega) (fun w57 o57 q58a q58F q58X q58J q58Y q58R => ?_)
            refine h_goto rfl ?_
            have hq : ale B (m + 1) (A + k) = ale B m (A + (k + 1)) := ale_y hal
            rw [hq]
            refine ih (k + 1) w57 _ _ (by omega) (by omega) (fun i hi => by
              by_cases e : i = k
              · rw [e]
                exact hal
              · exact hall i (by omega)) ?_ o57 (smW_tr sm (sm_pI (by decide) q58F q58X q58J q58Y q58R)) (by rw [q58a]; omega) (by rw [q58F 213 6 (by decide), hw6]) ?_ ?_ (hL_take 4 l49)
            · by_cases hd : ltc (B (A + k))
              · have e1 := nlt_y hd
                have hd : 97 ≤ B (A + k) ∧ B (A + k) ≤ 122 := hd
                omega
              · have e1 := nlt_n hd
                have hd : ¬ (97 ≤ B (A + k) ∧ B (A + k) ≤ 122) := hd
                omega
            · rw [q58J 213 12, hw12, show min 7 (k + 1) = min 7 k by omega]
            · rw [q58F 213 8 (by decide), hw8, show min 3 (k + 1) = min 3 k by omega]
          · refine h_aload rfl l49 rfl ?_
            refine h_intv k_10 rfl ?_
            refine h_aload rfl l49 rfl ?_
            refine h_getI rfl o0 fi_8 (fun b59a b59b => ?_)
            rw [hw8] at b59a b59b ⊢
            refine h_imul rfl ?_
            refine h_iload rfl l49 rfl ?_
            refine h_iadd rfl ?_
            refine h_intv k_48 rfl ?_
            refine h_isub rfl ?_
            have hg3 := e10_g3 B A (k + 1) (by omega) (fun i hi => hb _ (by omega))
            rw [show min 3 k = k by omega, show 10 * e10 B A k + B (A + k : Nat) - 48 = e10 B A (k + 1) by
              have : e10 B A (k + 1) = 10 * e10 B A k + (B (A + k) - 48) := rfl
              omega]
            refine x_putI rfl o0 fi_8 rfl (by omega) (by omega) (fun w60 o60 q61a q61F q61X q61J q61Y q61R => ?_)
            refine h_aload rfl l49 rfl ?_
            refine h_dup rfl rfl ?_
            refine h_getI rfl o60 fi_5 (fun b62a b62b => ?_)
            rw [q61F 213 5 (by decide), hw5] at b62a b62b ⊢
            refine h_intv k_1 rfl ?_
            refine h_iadd rfl ?_
            refine x_putI rfl o60 fi_5 rfl (by omega) (by omega) (fun w63 o63 q64a q64F q64X q64J q64Y q64R => ?_)
            refine h_goto rfl ?_
            have hq : ale B (m + 1) (A + k) = ale B m (A + (k + 1)) := ale_y hal
            rw [hq]
            refine ih (k + 1) w63 _ _ (by omega) (by omega) (fun i hi => by
              by_cases e : i = k
              · rw [e]
                exact hal
              · exact hall i (by omega)) ?_ o63 (smW_tr (smW_tr sm (sm_pI (by decide) q61F q61X q61J q61Y q61R)) (sm_pI (by decide) q64F q64X q64J q64Y q64R)) (by rw [q64a]; omega) (by rw [q64F 213 6 (by decide), q61F 213 6 (by decide), hw6]) ?_ ?_ (hL_take 4 l49)
            · by_cases hd : ltc (B (A + k))
              · have e1 := nlt_y hd
                have hd : 97 ≤ B (A + k) ∧ B (A + k) ≤ 122 := hd
                omega
              · have e1 := nlt_n hd
                have hd : ¬ (97 ≤ B (A + k) ∧ B (A + k) ≤ 122) := hd
                omega
            · rw [q64J 213 12, q61J 213 12, hw12, show min 7 (k + 1) = min 7 k by omega]
            · rw [q64F 213 8 (by decide), q61a, show min 3 (k + 1) = k + 1 by omega]
        · refine h_aload rfl l49 rfl ?_
          refine x_long 27 (by decide +kernel) rfl ?_
          refine h_aload rfl l49 rfl ?_
          refine h_getJv rfl o0 fj_12 ?_
          rw [hw12]
          refine x_lmul rfl ?_
          refine h_iload rfl l49 rfl ?_
          refine x_i2l (by unfold R32; omega) rfl ?_
          refine x_ladd rfl ?_
          refine x_long 96 (by decide +kernel) rfl ?_
          refine x_lsub rfl ?_
          rw [show min 7 k = k by omega, show 27 * e27 B A k + B (A + k : Nat) - 96 = e27 B A (k + 1) by
            have : e27 B A (k + 1) = 27 * e27 B A k + (B (A + k) - 96) := rfl
            omega]
          refine x_putJ rfl o0 fj_12 rfl (fun w65 o65 q66a q66J q66X q66F q66Y q66R => ?_)
          refine h_aload rfl l49 rfl ?_
          refine h_getI rfl o65 fi_5 (fun b67a b67b => ?_)
          rw [q66F 213 5, hw5] at b67a b67b ⊢
          refine h_aload rfl l49 rfl ?_
          refine h_getI rfl o65 fi_6 (fun b68a b68b => ?_)
          rw [q66F 213 6, hw6] at b68a b68b ⊢
          refine h_isub rfl ?_
          refine h_intv k_3 rfl ?_
          refine i_ge (kn := kn) (t := 3) (tgt := 337) (np := 320) rfl (by unfold R32; omega) (by unfold R32; omega) (fun e69 => ?_) (fun e69 => ?_)
          · refine h_aload rfl l49 rfl ?_
            refine h_dup rfl rfl ?_
            refine h_getI rfl o65 fi_5 (fun b70a b70b => ?_)
            rw [q66F 213 5, hw5] at b70a b70b ⊢
            refine h_intv k_1 rfl ?_
            refine h_iadd rfl ?_
            refine x_putI rfl o65 fi_5 rfl (by omega) (by omega) (fun w71 o71 q72a q72F q72X q72J q72Y q72R => ?_)
            refine h_goto rfl ?_
            have hq : ale B (m + 1) (A + k) = ale B m (A + (k + 1)) := ale_y hal
            rw [hq]
            refine ih (k + 1) w71 _ _ (by omega) (by omega) (fun i hi => by
              by_cases e : i = k
              · rw [e]
                exact hal
              · exact hall i (by omega)) ?_ o71 (smW_tr (smW_tr sm (sm_pJ (by decide) q66J q66X q66F q66Y q66R)) (sm_pI (by decide) q72F q72X q72J q72Y q72R)) (by rw [q72a]; omega) (by rw [q72F 213 6 (by decide), q66F 213 6, hw6]) ?_ ?_ (hL_take 4 l49)
            · by_cases hd : ltc (B (A + k))
              · have e1 := nlt_y hd
                have hd : 97 ≤ B (A + k) ∧ B (A + k) ≤ 122 := hd
                omega
              · have e1 := nlt_n hd
                have hd : ¬ (97 ≤ B (A + k) ∧ B (A + k) ≤ 122) := hd
                omega
            · rw [q72J 213 12, q66a, show min 7 (k + 1) = k + 1 by omega]
            · rw [q72F 213 8 (by decide), q66F 213 8, hw8, show min 3 (k + 1) = min 3 k by omega]
          · refine h_aload rfl l49 rfl ?_
            refine h_intv k_10 rfl ?_
            refine h_aload rfl l49 rfl ?_
            refine h_getI rfl o65 fi_8 (fun b73a b73b => ?_)
            rw [q66F 213 8, hw8] at b73a b73b ⊢
            refine h_imul rfl ?_
            refine h_iload rfl l49 rfl ?_
            refine h_iadd rfl ?_
            refine h_intv k_48 rfl ?_
            refine h_isub rfl ?_
            have hg3 := e10_g3 B A (k + 1) (by omega) (fun i hi => hb _ (by omega))
            rw [show min 3 k = k by omega, show 10 * e10 B A k + B (A + k : Nat) - 48 = e10 B A (k + 1) by
              have : e10 B A (k + 1) = 10 * e10 B A k + (B (A + k) - 48) := rfl
              omega]
            refine x_putI rfl o65 fi_8 rfl (by omega) (by omega) (fun w74 o74 q75a q75F q75X q75J q75Y q75R => ?_)
            refine h_aload rfl l49 rfl ?_
            refine h_dup rfl rfl ?_
            refine h_getI rfl o74 fi_5 (fun b76a b76b => ?_)
            rw [q75F 213 5 (by decide), q66F 213 5, hw5] at b76a b76b ⊢
            refine h_intv k_1 rfl ?_
            refine h_iadd rfl ?_
            refine x_putI rfl o74 fi_5 rfl (by omega) (by omega) (fun w77 o77 q78a q78F q78X q78J q78Y q78R => ?_)
            refine h_goto rfl ?_
            have hq : ale B (m + 1) (A + k) = ale B m (A + (k + 1)) := ale_y hal
            rw [hq]
            refine ih (k + 1) w77 _ _ (by omega) (by omega) (fun i hi => by
              by_cases e : i = k
              · rw [e]
                exact hal
              · exact hall i (by omega)) ?_ o77 (smW_tr (smW_tr (smW_tr sm (sm_pJ (by decide) q66J q66X q66F q66Y q66R)) (sm_pI (by decide) q75F q75X q75J q75Y q75R)) (sm_pI (by decide) q78F q78X q78J q78Y q78R)) (by rw [q78a]; omega) (by rw [q78F 213 6 (by decide), q75F 213 6 (by decide), q66F 213 6, hw6]) ?_ ?_ (hL_take 4 l49)
            · by_cases hd : ltc (B (A + k))
              · have e1 := nlt_y hd
                have hd : 97 ≤ B (A + k) ∧ B (A + k) ≤ 122 := hd
                omega
              · have e1 := nlt_n hd
                have hd : ¬ (97 ≤ B (A + k) ∧ B (A + k) ≤ 122) := hd
                omega
            · rw [q78J 213 12, q75J 213 12, q66a, show min 7 (k + 1) = k + 1 by omega]
            · rw [q78F 213 8 (by decide), q75a, show min 3 (k + 1) = k + 1 by omega]
      · refine h_iload rfl l47 rfl ?_
        obtain ⟨z79, hf79, hz79⟩ := x_isLetR (kn := kn) o0.1 (B (A + k : Nat)) ⟨by omega, by omega⟩
        refine h_S1 rfl o0 l47 rfl rfl hf79 ?_
        refine h_iload rfl l47 rfl ?_
        refine i_ne (kn := kn) (t := 1) (tgt := 271) (np := 267) rfl (by unfold R32; omega) (by unfold R32; omega) (fun e80 => ?_) (fun e80 => ?_)
        · refine h_intv k_0 rfl ?_
          refine h_istore rfl l47 (fun vl81 l81 => ?_)
          refine h_aload rfl l81 rfl ?_
          refine h_getI rfl o0 fi_5 (fun b82a b82b => ?_)
          rw [hw5] at b82a b82b ⊢
          refine h_aload rfl l81 rfl ?_
          refine h_getI rfl o0 fi_6 (fun b83a b83b => ?_)
          rw [hw6] at b83a b83b ⊢
          refine h_isub rfl ?_
          refine h_intv k_7 rfl ?_
          refine i_ge (kn := kn) (t := 3) (tgt := 307) (np := 287) rfl (by unfold R32; omega) (by unfold R32; omega) (fun e84 => ?_) (fun e84 => ?_)
          · refine h_aload rfl l81 rfl ?_
            refine h_getI rfl o0 fi_5 (fun b85a b85b => ?_)
            rw [hw5] at b85a b85b ⊢
            refine h_aload rfl l81 rfl ?_
            refine h_getI rfl o0 fi_6 (fun b86a b86b => ?_)
            rw [hw6] at b86a b86b ⊢
            refine h_isub rfl ?_
            refine h_intv k_3 rfl ?_
            refine i_ge (kn := kn) (t := 3) (tgt := 337) (np := 320) rfl (by unfold R32; omega) (by unfold R32; omega) (fun e87 => ?_) (fun e87 => ?_)
            · refine h_aload rfl l81 rfl ?_
              refine h_dup rfl rfl ?_
              refine h_getI rfl o0 fi_5 (fun b88a b88b => ?_)
              rw [hw5] at b88a b88b ⊢
              refine h_intv k_1 rfl ?_
              refine h_iadd rfl ?_
              refine x_putI rfl o0 fi_5 rfl (by omega) (by omega) (fun w89 o89 q90a q90F q90X q90J q90Y q90R => ?_)
              refine h_goto rfl ?_
              have hq : ale B (m + 1) (A + k) = ale B m (A + (k + 1)) := ale_y hal
              rw [hq]
              refine ih (k + 1) w89 _ _ (by omega) (by omega) (fun i hi => by
                by_cases e : i = k
                · rw [e]
                  exact hal
                · exact hall i (by omega)) ?_ o89 (smW_tr sm (sm_pI (by decide) q90F q90X q90J q90Y q90R)) (by rw [q90a]; omega) (by rw [q90F 213 6 (by decide), hw6]) ?_ ?_ (hL_take 4 l81)
              · by_cases hd : ltc (B (A + k))
                · have e1 := nlt_y hd
                  have hd : 97 ≤ B (A + k) ∧ B (A + k) ≤ 122 := hd
                  omega
                · have e1 := nlt_n hd
                  have hd : ¬ (97 ≤ B (A + k) ∧ B (A + k) ≤ 122) := hd
                  omega
              · rw [q90J 213 12, hw12, show min 7 (k + 1) = min 7 k by omega]
              · rw [q90F 213 8 (by decide), hw8, show min 3 (k + 1) = min 3 k by omega]
            · refine h_aload rfl l81 rfl ?_
              refine h_intv k_10 rfl ?_
              refine h_aload rfl l81 rfl ?_
              refine h_getI rfl o0 fi_8 (fun b91a b91b => ?_)
              rw [hw8] at b91a b91b ⊢
              refine h_imul rfl ?_
              refine h_iload rfl l81 rfl ?_
              refine h_iadd rfl ?_
              refine h_intv k_48 rfl ?_
              refine h_isub rfl ?_
              have hg3 := e10_g3 B A (k + 1) (by omega) (fun i hi => hb _ (by omega))
              rw [show min 3 k = k by omega, show 10 * e10 B A k + B (A + k : Nat) - 48 = e10 B A (k + 1) by
                have : e10 B A (k + 1) = 10 * e10 B A k + (B (A + k) - 48) := rfl
                omega]
              refine x_putI rfl o0 fi_8 rfl (by omega) (by omega) (fun w92 o92 q93a q93F q93X q93J q93Y q93R => ?_)
              refine h_aload rfl l81 rfl ?_
              refine h_dup rfl rfl ?_
              refine h_getI rfl o92 fi_5 (fun b94a b94b => ?_)
              rw [q93F 213 5 (by decide), hw5] at b94a b94b ⊢
              refine h_intv k_1 rfl ?_
              refine h_iadd rfl ?_
              refine x_putI rfl o92 fi_5 rfl (by omega) (by omega) (fun w95 o95 q96a q96F q96X q96J q96Y q96R => ?_)
              refine h_goto rfl ?_
              have hq : ale B (m + 1) (A + k) = ale B m (A + (k + 1)) := ale_y hal
              rw [hq]
              refine ih (k + 1) w95 _ _ (by omega) (by omega) (fun i hi => by
                by_cases e : i = k
                · rw [e]
                  exact hal
                · exact hall i (by omega)) ?_ o95 (smW_tr (smW_tr sm (sm_pI (by decide) q93F q93X q93J q93Y q93R)) (sm_pI (by decide) q96F q96X q96J q96Y q96R)) (by rw [q96a]; omega) (by rw [q96F 213 6 (by decide), q93F 213 6 (by decide), hw6]) ?_ ?_ (hL_take 4 l81)
              · by_cases hd : ltc (B (A + k))
                · have e1 := nlt_y hd
                  have hd : 97 ≤ B (A + k) ∧ B (A + k) ≤ 122 := hd
                  omega
                · have e1 := nlt_n hd
                  have hd : ¬ (97 ≤ B (A + k) ∧ B (A + k) ≤ 122) := hd
                  omega
              · rw [q96J 213 12, q93J 213 12, hw12, show min 7 (k + 1) = min 7 k by omega]
              · rw [q96F 213 8 (by decide), q93a, show min 3 (k + 1) = k + 1 by omega]
          · refine h_aload rfl l81 rfl ?_
            refine x_long 27 (by decide +kernel) rfl ?_
            refine h_aload rfl l81 rfl ?_
            refine h_getJv rfl o0 fj_12 ?_
            rw [hw12]
            refine x_lmul rfl ?_
            refine h_iload rfl l81 rfl ?_
            refine x_i2l (by unfold R32; omega) rfl ?_
            refine x_ladd rfl ?_
            refine x_long 96 (by decide +kernel) rfl ?_
            refine x_lsub rfl ?_
            rw [show min 7 k = k by omega, show 27 * e27 B A k + B (A + k : Nat) - 96 = e27 B A (k + 1) by
              have : e27 B A (k + 1) = 27 * e27 B A k + (B (A + k) - 96) := rfl
              omega]
            refine x_putJ rfl o0 fj_12 rfl (fun w97 o97 q98a q98J q98X q98F q98Y q98R => ?_)
            refine h_aload rfl l81 rfl ?_
            refine h_getI rfl o97 fi_5 (fun b99a b99b => ?_)
            rw [q98F 213 5, hw5] at b99a b99b ⊢
            refine h_aload rfl l81 rfl ?_
            refine h_getI rfl o97 fi_6 (fun b100a b100b => ?_)
            rw [q98F 213 6, hw6] at b100a b100b ⊢
            refine h_isub rfl ?_
            refine h_intv k_3 rfl ?_
            refine i_ge (kn := kn) (t := 3) (tgt := 337) (np := 320) rfl (by unfold R32; omega) (by unfold R32; omega) (fun e101 => ?_) (fun e101 => ?_)
            · refine h_aload rfl l81 rfl ?_
              refine h_dup rfl rfl ?_
              refine h_getI rfl o97 fi_5 (fun b102a b102b => ?_)
              rw [q98F 213 5, hw5] at b102a b102b ⊢
              refine h_intv k_1 rfl ?_
              refine h_iadd rfl ?_
              refine x_putI rfl o97 fi_5 rfl (by omega) (by omega) (fun w103 o103 q104a q104F q104X q104J q104Y q104R => ?_)
              refine h_goto rfl ?_
              have hq : ale B (m + 1) (A + k) = ale B m (A + (k + 1)) := ale_y hal
              rw [hq]
              refine ih (k + 1) w103 _ _ (by omega) (by omega) (fun i hi => by
                by_cases e : i = k
                · rw [e]
                  exact hal
                · exact hall i (by omega)) ?_ o103 (smW_tr (smW_tr sm (sm_pJ (by decide) q98J q98X q98F q98Y q98R)) (sm_pI (by decide) q104F q104X q104J q104Y q104R)) (by rw [q104a]; omega) (by rw [q104F 213 6 (by decide), q98F 213 6, hw6]) ?_ ?_ (hL_take 4 l81)
              · by_cases hd : ltc (B (A + k))
                · have e1 := nlt_y hd
                  have hd : 97 ≤ B (A + k) ∧ B (A + k) ≤ 122 := hd
                  omega
                · have e1 := nlt_n hd
                  have hd : ¬ (97 ≤ B (A + k) ∧ B (A + k) ≤ 122) := hd
                  omega
              · rw [q104J 213 12, q98a, show min 7 (k + 1) = k + 1 by omega]
              · rw [q104F 213 8 (by decide), q98F 213 8, hw8, show min 3 (k + 1) = min 3 k by omega]
            · refine h_aload rfl l81 rfl ?_
              refine h_intv k_10 rfl ?_
              refine h_aload rfl l81 rfl ?_
              refine h_getI rfl o97 fi_8 (fun b105a b105b => ?_)
              rw [q98F 213 8, hw8] at b105a b105b ⊢
              refine h_imul rfl ?_
              refine h_iload rfl l81 rfl ?_
              refine h_iadd rfl ?_
              refine h_intv k_48 rfl ?_
              refine h_isub rfl ?_
              have hg3 := e10_g3 B A (k + 1) (by omega) (fun i hi => hb _ (by omega))
              rw [show min 3 k = k by omega, show 10 * e10 B A k + B (A + k : Nat) - 48 = e10 B A (k + 1) by
                have : e10 B A (k + 1) = 10 * e10 B A k + (B (A + k) - 48) := rfl
                omega]
              refine x_putI rfl o97 fi_8 rfl (by omega) (by omega) (fun w106 o106 q107a q107F q107X q107J q107Y q107R => ?_)
              refine h_aload rfl l81 rfl ?_
              refine h_dup rfl rfl ?_
              refine h_getI rfl o106 fi_5 (fun b108a b108b => ?_)
              rw [q107F 213 5 (by decide), q98F 213 5, hw5] at b108a b108b ⊢
              refine h_intv k_1 rfl ?_
              refine h_iadd rfl ?_
              refine x_putI rfl o106 fi_5 rfl (by omega) (by omega) (fun w109 o109 q110a q110F q110X q110J q110Y q110R => ?_)
              refine h_goto rfl ?_
              have hq : ale B (m + 1) (A + k) = ale B m (A + (k + 1)) := ale_y hal
              rw [hq]
              refine ih (k + 1) w109 _ _ (by omega) (by omega) (fun i hi => by
                by_cases e : i = k
                · rw [e]
                  exact hal
                · exact hall i (by omega)) ?_ o109 (smW_tr (smW_tr (smW_tr sm (sm_pJ (by decide) q98J q98X q98F q98Y q98R)) (sm_pI (by decide) q107F q107X q107J q107Y q107R)) (sm_pI (by decide) q110F q110X q110J q110Y q110R)) (by rw [q110a]; omega) (by rw [q110F 213 6 (by decide), q107F 213 6 (by decide), q98F 213 6, hw6]) ?_ ?_ (hL_take 4 l81)
              · by_cases hd : ltc (B (A + k))
                · have e1 := nlt_y hd
                  have hd : 97 ≤ B (A + k) ∧ B (A + k) ≤ 122 := hd
                  omega
                · have e1 := nlt_n hd
                  have hd : ¬ (97 ≤ B (A + k) ∧ B (A + k) ≤ 122) := hd
                  omega
              · rw [q110J 213 12, q107J 213 12, q98a, show min 7 (k + 1) = k + 1 by omega]
              · rw [q110F 213 8 (by decide), q107a, show min 3 (k + 1) = k + 1 by omega]
        · refine h_intv k_1 rfl ?_
          refine h_goto rfl ?_
          refine h_istore rfl l47 (fun vl111 l111 => ?_)
          refine h_aload rfl l111 rfl ?_
          refine h_getI rfl o0 fi_5 (fun b112a b112b => ?_)
          rw [hw5] at b112a b112b ⊢
          refine h_aload rfl l111 rfl ?_
          refine h_getI rfl o0 fi_6 (fun b113a b113b => ?_)
          rw [hw6] at b113a b113b ⊢
          refine h_isub rfl ?_
          refine h_intv k_7 rfl ?_
          refine i_ge (kn := kn) (t := 3) (tgt := 307) (np := 287) rfl (by unfold R32; omega) (by unfold R32; omega) (fun e114 => ?_) (fun e114 => ?_)
          · refine h_aload rfl l111 rfl ?_
            refine h_getI rfl o0 fi_5 (fun b115a b115b => ?_)
            rw [hw5] at b115a b115b ⊢
            refine h_aload rfl l111 rfl ?_
            refine h_getI rfl o0 fi_6 (fun b116a b116b => ?_)
            rw [hw6] at b116a b116b ⊢
            refine h_isub rfl ?_
            refine h_intv k_3 rfl ?_
            refine i_ge (kn := kn) (t := 3) (tgt := 337) (np := 320) rfl (by unfold R32; omega) (by unfold R32; omega) (fun e117 => ?_) (fun e117 => ?_)
            · refine h_aload rfl l111 rfl ?_
              refine h_dup rfl rfl ?_
              refine h_getI rfl o0 fi_5 (fun b118a b118b => ?_)
              rw [hw5] at b118a b118b ⊢
              refine h_intv k_1 rfl ?_
              refine h_iadd rfl ?_
              refine x_putI rfl o0 fi_5 rfl (by omega) (by omega) (fun w119 o119 q120a q120F q120X q120J q120Y q120R => ?_)
              refine h_goto rfl ?_
              have hq : ale B (m + 1) (A + k) = ale B m (A + (k + 1)) := ale_y hal
              rw [hq]
              refine ih (k + 1) w119 _ _ (by omega) (by omega) (fun i hi => by
                by_cases e : i = k
                · rw [e]
                  exact hal
                · exact hall i (by omega)) ?_ o119 (smW_tr sm (sm_pI (by decide) q120F q120X q120J q120Y q120R)) (by rw [q120a]; omega) (by rw [q120F 213 6 (by decide), hw6]) ?_ ?_ (hL_take 4 l111)
              · by_cases hd : ltc (B (A + k))
                · have e1 := nlt_y hd
                  have hd : 97 ≤ B (A + k) ∧ B (A + k) ≤ 122 := hd
                  omega
                · have e1 := nlt_n hd
                  have hd : ¬ (97 ≤ B (A + k) ∧ B (A + k) ≤ 122) := hd
                  omega
              · rw [q120J 213 12, hw12, show min 7 (k + 1) = min 7 k by omega]
              · rw [q120F 213 8 (by decide), hw8, show min 3 (k + 1) = min 3 k by omega]
            · refine h_aload rfl l111 rfl ?_
              refine h_intv k_10 rfl ?_
              refine h_aload rfl l111 rfl ?_
              refine h_getI rfl o0 fi_8 (fun b121a b121b => ?_)
              rw [hw8] at b121a b121b ⊢
              refine h_imul rfl ?_
              refine h_iload rfl l111 rfl ?_
              refine h_iadd rfl ?_
              refine h_intv k_48 rfl ?_
              refine h_isub rfl ?_
              have hg3 := e10_g3 B A (k + 1) (by omega) (fun i hi => hb _ (by omega))
              rw [show min 3 k = k by omega, show 10 * e10 B A k + B (A + k : Nat) - 48 = e10 B A (k + 1) by
                have : e10 B A (k + 1) = 10 * e10 B A k + (B (A + k) - 48) := rfl
                omega]
              refine x_putI rfl o0 fi_8 rfl (by omega) (by omega) (fun w122 o122 q123a q123F q123X q123J q123Y q123R => ?_)
              refine h_aload rfl l111 rfl ?_
              refine h_dup rfl rfl ?_
              refine h_getI rfl o122 fi_5 (fun b124a b124b => ?_)
              rw [q123F 213 5 (by decide), hw5] at b124a b124b ⊢
              refine h_intv k_1 rfl ?_
              refine h_iadd rfl ?_
              refine x_putI rfl o122 fi_5 rfl (by omega) (by omega) (fun w125 o125 q126a q126F q126X q126J q126Y q126R => ?_)
              refine h_goto rfl ?_
              have hq : ale B (m + 1) (A + k) = ale B m (A + (k + 1)) := ale_y hal
              rw [hq]
              refine ih (k + 1) w125 _ _ (by omega) (by omega) (fun i hi => by
                by_cases e : i = k
                · rw [e]
                  exact hal
                · exact hall i (by omega)) ?_ o125 (smW_tr (smW_tr sm (sm_pI (by decide) q123F q123X q123J q123Y q123R)) (sm_pI (by decide) q126F q126X q126J q126Y q126R)) (by rw [q126a]; omega) (by rw [q126F 213 6 (by decide), q123F 213 6 (by decide), hw6]) ?_ ?_ (hL_take 4 l111)
              · by_cases hd : ltc (B (A + k))
                · have e1 := nlt_y hd
                  have hd : 97 ≤ B (A + k) ∧ B (A + k) ≤ 122 := hd
                  omega
                · have e1 := nlt_n hd
                  have hd : ¬ (97 ≤ B (A + k) ∧ B (A + k) ≤ 122) := hd
                  omega
              · rw [q126J 213 12, q123J 213 12, hw12, show min 7 (k + 1) = min 7 k by omega]
              · rw [q126F 213 8 (by decide), q123a, show min 3 (k + 1) = k + 1 by omega]
          · refine h_aload rfl l111 rfl ?_
            refine x_long 27 (by decide +kernel) rfl ?_
            refine h_aload rfl l111 rfl ?_
            refine h_getJv rfl o0 fj_12 ?_
            rw [hw12]
            refine x_lmul rfl ?_
            refine h_iload rfl l111 rfl ?_
            refine x_i2l (by unfold R32; omega) rfl ?_
            refine x_ladd rfl ?_
            refine x_long 96 (by decide +kernel) rfl ?_
            refine x_lsub rfl ?_
            rw [show min 7 k = k by omega, show 27 * e27 B A k + B (A + k : Nat) - 96 = e27 B A (k + 1) by
              have : e27 B A (k + 1) = 27 * e27 B A k + (B (A + k) - 96) := rfl
              omega]
            refine x_putJ rfl o0 fj_12 rfl (fun w127 o127 q128a q128J q128X q128F q128Y q128R => ?_)
            refine h_aload rfl l111 rfl ?_
            refine h_getI rfl o127 fi_5 (fun b129a b129b => ?_)
            rw [q128F 213 5, hw5] at b129a b129b ⊢
            refine h_aload rfl l111 rfl ?_
            refine h_getI rfl o127 fi_6 (fun b130a b130b => ?_)
            rw [q128F 213 6, hw6] at b130a b130b ⊢
            refine h_isub rfl ?_
            refine h_intv k_3 rfl ?_
            refine i_ge (kn := kn) (t := 3) (tgt := 337) (np := 320) rfl (by unfold R32; omega) (by unfold R32; omega) (fun e131 => ?_) (fun e131 => ?_)
            · refine h_aload rfl l111 rfl ?_
              refine h_dup rfl rfl ?_
              refine h_getI rfl o127 fi_5 (fun b132a b132b => ?_)
              rw [q128F 213 5, hw5] at b132a b132b ⊢
              refine h_intv k_1 rfl ?_
              refine h_iadd rfl ?_
              refine x_putI rfl o127 fi_5 rfl (by omega) (by omega) (fun w133 o133 q134a q134F q134X q134J q134Y q134R => ?_)
              refine h_goto rfl ?_
              have hq : ale B (m + 1) (A + k) = ale B m (A + (k + 1)) := ale_y hal
              rw [hq]
              refine ih (k + 1) w133 _ _ (by omega) (by omega) (fun i hi => by
                by_cases e : i = k
                · rw [e]
                  exact hal
                · exact hall i (by omega)) ?_ o133 (smW_tr (smW_tr sm (sm_pJ (by decide) q128J q128X q128F q128Y q128R)) (sm_pI (by decide) q134F q134X q134J q134Y q134R)) (by rw [q134a]; omega) (by rw [q134F 213 6 (by decide), q128F 213 6, hw6]) ?_ ?_ (hL_take 4 l111)
              · by_cases hd : ltc (B (A + k))
                · have e1 := nlt_y hd
                  have hd : 97 ≤ B (A + k) ∧ B (A + k) ≤ 122 := hd
                  omega
                · have e1 := nlt_n hd
                  have hd : ¬ (97 ≤ B (A + k) ∧ B (A + k) ≤ 122) := hd
                  omega
              · rw [q134J 213 12, q128a, show min 7 (k + 1) = k + 1 by omega]
              · rw [q134F 213 8 (by decide), q128F 213 8, hw8, show min 3 (k + 1) = min 3 k by omega]
            · refine h_aload rfl l111 rfl ?_
              refine h_intv k_10 rfl ?_
              refine h_aload rfl l111 rfl ?_
              refine h_getI rfl o127 fi_8 (fun b135a b135b => ?_)
              rw [q128F 213 8, hw8] at b135a b135b ⊢
              refine h_imul rfl ?_
              refine h_iload rfl l111 rfl ?_
              refine h_iadd rfl ?_
              refine h_intv k_48 rfl ?_
              refine h_isub rfl ?_
              have hg3 := e10_g3 B A (k + 1) (by omega) (fun i hi => hb _ (by omega))
              rw [show min 3 k = k by omega, show 10 * e10 B A k + B (A + k : Nat) - 48 = e10 B A (k + 1) by
                have : e10 B A (k + 1) = 10 * e10 B A k + (B (A + k) - 48) := rfl
                omega]
              refine x_putI rfl o127 fi_8 rfl (by omega) (by omega) (fun w136 o136 q137a q137F q137X q137J q137Y q137R => ?_)
              refine h_aload rfl l111 rfl ?_
              refine h_dup rfl rfl ?_
              refine h_getI rfl o136 fi_5 (fun b138a b138b => ?_)
              rw [q137F 213 5 (by decide), q128F 213 5, hw5] at b138a b138b ⊢
              refine h_intv k_1 rfl ?_
              refine h_iadd rfl ?_
              refine x_putI rfl o136 fi_5 rfl (by omega) (by omega) (fun w139 o139 q140a q140F q140X q140J q140Y q140R => ?_)
              refine h_goto rfl ?_
              have hq : ale B (m + 1) (A + k) = ale B m (A + (k + 1)) := ale_y hal
              rw [hq]
              refine ih (k + 1) w139 _ _ (by omega) (by omega) (fun i hi => by
                by_cases e : i = k
                · rw [e]
                  exact hal
                · exact hall i (by omega)) ?_ o139 (smW_tr (smW_tr (smW_tr sm (sm_pJ (by decide) q128J q128X q128F q128Y q128R)) (sm_pI (by decide) q137F q137X q137J q137Y q137R)) (sm_pI (by decide) q140F q140X q140J q140Y q140R)) (by rw [q140a]; omega) (by rw [q140F 213 6 (by decide), q137F 213 6 (by decide), q128F 213 6, hw6]) ?_ ?_ (hL_take 4 l111)
              · by_cases hd : ltc (B (A + k))
                · have e1 := nlt_y hd
                  have hd : 97 ≤ B (A + k) ∧ B (A + k) ≤ 122 := hd
                  omega
                · have e1 := nlt_n hd
                  have hd : ¬ (97 ≤ B (A + k) ∧ B (A + k) ≤ 122) := hd
                  omega
              · rw [q140J 213 12, q137J 213 12, q128a, show min 7 (k + 1) = k + 1 by omega]
              · rw [q140F 213 8 (by decide), q137a, show min 3 (k + 1) = k + 1 by omega]
    · refine h_aload rfl l0 rfl ?_
      refine h_aload rfl l0 rfl ?_
      refine h_getI rfl o0 fi_5 (fun b141a b141b => ?_)
      rw [hw5] at b141a b141b ⊢
      obtain ⟨z142, hf142, ha142, hc142⟩ := x_tapeAt (kn := kn) (txR_sm sm (by decide) tx) o0.1 (A + k : Nat) (by omega)
      have hv142 : 0 ≤ z142 ∧ z142 ≤ 255 := by
        by_cases hpn : (A + k : Nat) < n
        · rw [ha142 hpn]
          exact hb _ hpn
        · rw [hc142 (by omega)]
          omega
      refine h_V2 rfl o0 l0 ci_213 rfl rfl hf142 ?_
      obtain ⟨z143, hf143, hz143⟩ := x_isDigR (kn := kn) o0.1 z142 ⟨by omega, by omega⟩
      refine h_S1 rfl o0 l0 rfl rfl hf143 ?_
      refine j_eq (kn := kn) (t := 0) (tgt := 350) (np := 243) rfl (by unfold R32; omega) (fun e144 => ?_) (fun e144 => ?_)
      · have hq : ale B (m + 1) (A + k) = A + k := ale_n (fun hh => by
          have hh : (97 ≤ B (A + k) ∧ B (A + k) ≤ 122) ∨ (48 ≤ B (A + k) ∧ B (A + k) ≤ 57) := hh
          have h2 := ha142 (by omega)
          omega)
        rw [hq, Nat.add_sub_cancel_left]
        exact xgo_e tx (hk0 hq) (by omega) hlt hgd o0 sm hw5 hw6 hw12 hw8 l0
      · have hal : ltc (B (A + k)) ∨ dgc (B (A + k)) := by
          have hpn : A + k < n := by
            rcases Nat.lt_or_ge (A + k) n with h | h
            · exact h
            · have h1 := hc142 h
              omega
          have h2 := ha142 hpn
          show (97 ≤ B (A + k) ∧ B (A + k) ≤ 122) ∨ (48 ≤ B (A + k) ∧ B (A + k) ≤ 57)
          omega
        refine h_aload rfl l0 rfl ?_
        refine h_getR rfl o0 fr_1 ?_
        refine h_aload rfl l0 rfl ?_
        refine h_getI rfl o0 fi_5 (fun b145a b145b => ?_)
        rw [hw5] at b145a b145b ⊢
        refine h_ialdj ((A + k : Nat)) rfl o0 ai_214 rfl (by omega) (by omega) (fun b146a b146b => ?_)
        rw [hB (A + k : Nat) (by omega)] at b146a b146b ⊢
        refine h_istore rfl l0 (fun vl147 l147 => ?_)
        refine h_iload rfl l147 rfl ?_
        refine j_eq (kn := kn) (t := 0) (tgt := 271) (np := 258) rfl (by unfold R32; omega) (fun e148 => ?_) (fun e148 => ?_)
        · refine h_intv k_0 rfl ?_
          refine h_istore rfl l147 (fun vl149 l149 => ?_)
          refine h_aload rfl l149 rfl ?_
          refine h_getI rfl o0 fi_5 (fun b150a b150b => ?_)
          rw [hw5] at b150a b150b ⊢
          refine h_aload rfl l149 rfl ?_
          refine h_getI rfl o0 fi_6 (fun b151a b151b => ?_)
          rw [hw6] at b151a b151b ⊢
          refine h_isub rfl ?_
          refine h_intv k_7 rfl ?_
          refine i_ge (kn := kn) (t := 3) (tgt := 307) (np := 287) rfl (by unfold R32; omega) (by unfold R32; omega) (fun e152 => ?_) (fun e152 => ?_)
          · refine h_aload rfl l149 rfl ?_
            refine h_getI rfl o0 fi_5 (fun b153a b153b => ?_)
            rw [hw5] at b153a b153b ⊢
            refine h_aload rfl l149 rfl ?_
            refine h_getI rfl o0 fi_6 (fun b154a b154b => ?_)
            rw [hw6] at b154a b154b ⊢
            refine h_isub rfl ?_
            refine h_intv k_3 rfl ?_
            refine i_ge (kn := kn) (t := 3) (tgt := 337) (np := 320) rfl (by unfold R32; omega) (by unfold R32; omega) (fun e155 => ?_) (fun e155 => ?_)
            · refine h_aload rfl l149 rfl ?_
              refine h_dup rfl rfl ?_
              refine h_getI rfl o0 fi_5 (fun b156a b156b => ?_)
              rw [hw5] at b156a b156b ⊢
              refine h_intv k_1 rfl ?_
              refine h_iadd rfl ?_
              refine x_putI rfl o0 fi_5 rfl (by omega) (by omega) (fun w157 o157 q158a q158F q158X q158J q158Y q158R => ?_)
              refine h_goto rfl ?_
              have hq : ale B (m + 1) (A + k) = ale B m (A + (k + 1)) := ale_y hal
              rw [hq]
              refine ih (k + 1) w157 _ _ (by omega) (by omega) (fun i hi => by
                by_cases e : i = k
                · rw [e]
                  exact hal
                · exact hall i (by omega)) ?_ o157 (smW_tr sm (sm_pI (by decide) q158F q158X q158J q158Y q158R)) (by rw [q158a]; omega) (by rw [q158F 213 6 (by decide), hw6]) ?_ ?_ (hL_take 4 l149)
              · by_cases hd : ltc (B (A + k))
                · have e1 := nlt_y hd
                  have hd : 97 ≤ B (A + k) ∧ B (A + k) ≤ 122 := hd
                  omega
                · have e1 := nlt_n hd
                  have hd : ¬ (97 ≤ B (A + k) ∧ B (A + k) ≤ 122) := hd
                  omega
              · rw [q158J 213 12, hw12, show min 7 (k + 1) = min 7 k by omega]
              · rw [q158F 213 8 (by decide), hw8, show min 3 (k + 1) = min 3 k by omega]
            · refine h_aload rfl l149 rfl ?_
              refine h_intv k_10 rfl ?_
              refine h_aload rfl l149 rfl ?_
              refine h_getI rfl o0 fi_8 (fun b159a b159b => ?_)
              rw [hw8] at b159a b159b ⊢
              refine h_imul rfl ?_
              refine h_iload rfl l149 rfl ?_
              refine h_iadd rfl ?_
              refine h_intv k_48 rfl ?_
              refine h_isub rfl ?_
              have hg3 := e10_g3 B A (k + 1) (by omega) (fun i hi => hb _ (by omega))
              rw [show min 3 k = k by omega, show 10 * e10 B A k + B (A + k : Nat) - 48 = e10 B A (k + 1) by
                have : e10 B A (k + 1) = 10 * e10 B A k + (B (A + k) - 48) := rfl
                omega]
              refine x_putI rfl o0 fi_8 rfl (by omega) (by omega) (fun w160 o160 q161a q161F q161X q161J q161Y q161R => ?_)
              refine h_aload rfl l149 rfl ?_
              refine h_dup rfl rfl ?_
              refine h_getI rfl o160 fi_5 (fun b162a b162b => ?_)
              rw [q161F 213 5 (by decide), hw5] at b162a b162b ⊢
              refine h_intv k_1 rfl ?_
              refine h_iadd rfl ?_
              refine x_putI rfl o160 fi_5 rfl (by omega) (by omega) (fun w163 o163 q164a q164F q164X q164J q164Y q164R => ?_)
              refine h_goto rfl ?_
              have hq : ale B (m + 1) (A + k) = ale B m (A + (k + 1)) := ale_y hal
              rw [hq]
              refine ih (k + 1) w163 _ _ (by omega) (by omega) (fun i hi => by
                by_cases e : i = k
                · rw [e]
                  exact hal
                · exact hall i (by omega)) ?_ o163 (smW_tr (smW_tr sm (sm_pI (by decide) q161F q161X q161J q161Y q161R)) (sm_pI (by decide) q164F q164X q164J q164Y q164R)) (by rw [q164a]; omega) (by rw [q164F 213 6 (by decide), q161F 213 6 (by decide), hw6]) ?_ ?_ (hL_take 4 l149)
              · by_cases hd : ltc (B (A + k))
                · have e1 := nlt_y hd
                  have hd : 97 ≤ B (A + k) ∧ B (A + k) ≤ 122 := hd
                  omega
                · have e1 := nlt_n hd
                  have hd : ¬ (97 ≤ B (A + k) ∧ B (A + k) ≤ 122) := hd
                  omega
              · rw [q164J 213 12, q161J 213 12, hw12, show min 7 (k + 1) = min 7 k by omega]
              · rw [q164F 213 8 (by decide), q161a, show min 3 (k + 1) = k + 1 by omega]
          · refine h_aload rfl l149 rfl ?_
            refine x_long 27 (by decide +kernel) rfl ?_
            refine h_aload rfl l149 rfl ?_
            refine h_getJv rfl o0 fj_12 ?_
            rw [hw12]
            refine x_lmul rfl ?_
            refine h_iload rfl l149 rfl ?_
            refine x_i2l (by unfold R32; omega) rfl ?_
            refine x_ladd rfl ?_
            refine x_long 96 (by decide +kernel) rfl ?_
            refine x_lsub rfl ?_
            rw [show min 7 k = k by omega, show 27 * e27 B A k + B (A + k : Nat) - 96 = e27 B A (k + 1) by
              have : e27 B A (k + 1) = 27 * e27 B A k + (B (A + k) - 96) := rfl
              omega]
            refine x_putJ rfl o0 fj_12 rfl (fun w165 o165 q166a q166J q166X q166F q166Y q166R => ?_)
            refine h_aload rfl l149 rfl ?_
            refine h_getI rfl o165 fi_5 (fun b167a b167b => ?_)
            rw [q166F 213 5, hw5] at b167a b167b ⊢
            refine h_aload rfl l149 rfl ?_
            refine h_getI rfl o165 fi_6 (fun b168a b168b => ?_)
            rw [q166F 213 6, hw6] at b168a b168b ⊢
            refine h_isub rfl ?_
            refine h_intv k_3 rfl ?_
            refine i_ge (kn := kn) (t := 3) (tgt := 337) (np := 320) rfl (by unfold R32; omega) (by unfold R32; omega) (fun e169 => ?_) (fun e169 => ?_)
            · refine h_aload rfl l149 rfl ?_
              refine h_dup rfl rfl ?_
              refine h_getI rfl o165 fi_5 (fun b170a b170b => ?_)
              rw [q166F 213 5, hw5] at b170a b170b ⊢
              refine h_intv k_1 rfl ?_
              refine h_iadd rfl ?_
              refine x_putI rfl o165 fi_5 rfl (by omega) (by omega) (fun w171 o171 q172a q172F q172X q172J q172Y q172R => ?_)
              refine h_goto rfl ?_
              have hq : ale B (m + 1) (A + k) = ale B m (A + (k + 1)) := ale_y hal
              rw [hq]
              refine ih (k + 1) w171 _ _ (by omega) (by omega) (fun i hi => by
                by_cases e : i = k
                · rw [e]
                  exact hal
                · exact hall i (by omega)) ?_ o171 (smW_tr (smW_tr sm (sm_pJ (by decide) q166J q166X q166F q166Y q166R)) (sm_pI (by decide) q172F q172X q172J q172Y q172R)) (by rw [q172a]; omega) (by rw [q172F 213 6 (by decide), q166F 213 6, hw6]) ?_ ?_ (hL_take 4 l149)
              · by_cases hd : ltc (B (A + k))
                · have e1 := nlt_y hd
                  have hd : 97 ≤ B (A + k) ∧ B (A + k) ≤ 122 := hd
                  omega
                · have e1 := nlt_n hd
                  have hd : ¬ (97 ≤ B (A + k) ∧ B (A + k) ≤ 122) := hd
                  omega
              · rw [q172J 213 12, q166a, show min 7 (k + 1) = k + 1 by omega]
              · rw [q172F 213 8 (by decide), q166F 213 8, hw8, show min 3 (k + 1) = min 3 k by omega]
            · refine h_aload rfl l149 rfl ?_
              refine h_intv k_10 rfl ?_
              refine h_aload rfl l149 rfl ?_
              refine h_getI rfl o165 fi_8 (fun b173a b173b => ?_)
              rw [q166F 213 8, hw8] at b173a b173b ⊢
              refine h_imul rfl ?_
              refine h_iload rfl l149 rfl ?_
              refine h_iadd rfl ?_
              refine h_intv k_48 rfl ?_
              refine h_isub rfl ?_
              have hg3 := e10_g3 B A (k + 1) (by omega) (fun i hi => hb _ (by omega))
              rw [show min 3 k = k by omega, show 10 * e10 B A k + B (A + k : Nat) - 48 = e10 B A (k + 1) by
                have : e10 B A (k + 1) = 10 * e10 B A k + (B (A + k) - 48) := rfl
                omega]
              refine x_putI rfl o165 fi_8 rfl (by omega) (by omega) (fun w174 o174 q175a q175F q175X q175J q175Y q175R => ?_)
              refine h_aload rfl l149 rfl ?_
              refine h_dup rfl rfl ?_
              refine h_getI rfl o174 fi_5 (fun b176a b176b => ?_)
              rw [q175F 213 5 (by decide), q166F 213 5, hw5] at b176a b176b ⊢
              refine h_intv k_1 rfl ?_
              refine h_iadd rfl ?_
              refine x_putI rfl o174 fi_5 rfl (by omega) (by omega) (fun w177 o177 q178a q178F q178X q178J q178Y q178R => ?_)
              refine h_goto rfl ?_
              have hq : ale B (m + 1) (A + k) = ale B m (A + (k + 1)) := ale_y hal
              rw [hq]
              refine ih (k + 1) w177 _ _ (by omega) (by omega) (fun i hi => by
                by_cases e : i = k
                · rw [e]
                  exact hal
                · exact hall i (by omega)) ?_ o177 (smW_tr (smW_tr (smW_tr sm (sm_pJ (by decide) q166J q166X q166F q166Y q166R)) (sm_pI (by decide) q175F q175X q175J q175Y q175R)) (sm_pI (by decide) q178F q178X q178J q178Y q178R)) (by rw [q178a]; omega) (by rw [q178F 213 6 (by decide), q175F 213 6 (by decide), q166F 213 6, hw6]) ?_ ?_ (hL_take 4 l149)
              · by_cases hd : ltc (B (A + k))
                · have e1 := nlt_y hd
                  have hd : 97 ≤ B (A + k) ∧ B (A + k) ≤ 122 := hd
                  omega
                · have e1 := nlt_n hd
                  have hd : ¬ (97 ≤ B (A + k) ∧ B (A + k) ≤ 122) := hd
                  omega
              · rw [q178J 213 12, q175J 213 12, q166a, show min 7 (k + 1) = k + 1 by omega]
              · rw [q178F 213 8 (by decide), q175a, show min 3 (k + 1) = k + 1 by omega]
        · refine h_iload rfl l147 rfl ?_
          obtain ⟨z179, hf179, hz179⟩ := x_isLetR (kn := kn) o0.1 (B (A + k : Nat)) ⟨by omega, by omega⟩
          refine h_S1 rfl o0 l147 rfl rfl hf179 ?_
          refine h_iload rfl l147 rfl ?_
          refine i_ne (kn := kn) (t := 1) (tgt := 271) (np := 267) rfl (by unfold R32; omega) (by unfold R32; omega) (fun e180 => ?_) (fun e180 => ?_)
          · refine h_intv k_0 rfl ?_
            refine h_istore rfl l147 (fun vl181 l181 => ?_)
            refine h_aload rfl l181 rfl ?_
            refine h_getI rfl o0 fi_5 (fun b182a b182b => ?_)
            rw [hw5] at b182a b182b ⊢
            refine h_aload rfl l181 rfl ?_
            refine h_getI rfl o0 fi_6 (fun b183a b183b => ?_)
            rw [hw6] at b183a b183b ⊢
            refine h_isub rfl ?_
            refine h_intv k_7 rfl ?_
            refine i_ge (kn := kn) (t := 3) (tgt := 307) (np := 287) rfl (by unfold R32; omega) (by unfold R32; omega) (fun e184 => ?_) (fun e184 => ?_)
            · refine h_aload rfl l181 rfl ?_
              refine h_getI rfl o0 fi_5 (fun b185a b185b => ?_)
              rw [hw5] at b185a b185b ⊢
              refine h_aload rfl l181 rfl ?_
              refine h_getI rfl o0 fi_6 (fun b186a b186b => ?_)
              rw [hw6] at b186a b186b ⊢
              refine h_isub rfl ?_
              refine h_intv k_3 rfl ?_
              refine i_ge (kn := kn) (t := 3) (tgt := 337) (np := 320) rfl (by unfold R32; omega) (by unfold R32; omega) (fun e187 => ?_) (fun e187 => ?_)
              · refine h_aload rfl l181 rfl ?_
                refine h_dup rfl rfl ?_
                refine h_getI rfl o0 fi_5 (fun b188a b188b => ?_)
                rw [hw5] at b188a b188b ⊢
                refine h_intv k_1 rfl ?_
                refine h_iadd rfl ?_
                refine x_putI rfl o0 fi_5 rfl (by omega) (by omega) (fun w189 o189 q190a q190F q190X q190J q190Y q190R => ?_)
                refine h_goto rfl ?_
                have hq : ale B (m + 1) (A + k) = ale B m (A + (k + 1)) := ale_y hal
                rw [hq]
                refine ih (k + 1) w189 _ _ (by omega) (by omega) (fun i hi => by
                  by_cases e : i = k
                  · rw [e]
                    exact hal
                  · exact hall i (by omega)) ?_ o189 (smW_tr sm (sm_pI (by decide) q190F q190X q190J q190Y q190R)) (by rw [q190a]; omega) (by rw [q190F 213 6 (by decide), hw6]) ?_ ?_ (hL_take 4 l181)
                · by_cases hd : ltc (B (A + k))
                  · have e1 := nlt_y hd
                    have hd : 97 ≤ B (A + k) ∧ B (A + k) ≤ 122 := hd
                    omega
                  · have e1 := nlt_n hd
                    have hd : ¬ (97 ≤ B (A + k) ∧ B (A + k) ≤ 122) := hd
                    omega
                · rw [q190J 213 12, hw12, show min 7 (k + 1) = min 7 k by omega]
                · rw [q190F 213 8 (by decide), hw8, show min 3 (k + 1) = min 3 k by omega]
              · refine h_aload rfl l181 rfl ?_
                refine h_intv k_10 rfl ?_
                refine h_aload rfl l181 rfl ?_
                refine h_getI rfl o0 fi_8 (fun b191a b191b => ?_)
                rw [hw8] at b191a b191b ⊢
                refine h_imul rfl ?_
                refine h_iload rfl l181 rfl ?_
                refine h_iadd rfl ?_
                refine h_intv k_48 rfl ?_
                refine h_isub rfl ?_
                have hg3 := e10_g3 B A (k + 1) (by omega) (fun i hi => hb _ (by omega))
                rw [show min 3 k = k by omega, show 10 * e10 B A k + B (A + k : Nat) - 48 = e10 B A (k + 1) by
                  have : e10 B A (k + 1) = 10 * e10 B A k + (B (A + k) - 48) := rfl
                  omega]
                refine x_putI rfl o0 fi_8 rfl (by omega) (by omega) (fun w192 o192 q193a q193F q193X q193J q193Y q193R => ?_)
                refine h_aload rfl l181 rfl ?_
                refine h_dup rfl rfl ?_
                refine h_getI rfl o192 fi_5 (fun b194a b194b => ?_)
                rw [q193F 213 5 (by decide), hw5] at b194a b194b ⊢
                refine h_intv k_1 rfl ?_
                refine h_iadd rfl ?_
                refine x_putI rfl o192 fi_5 rfl (by omega) (by omega) (fun w195 o195 q196a q196F q196X q196J q196Y q196R => ?_)
                refine h_goto rfl ?_
                have hq : ale B (m + 1) (A + k) = ale B m (A + (k + 1)) := ale_y hal
                rw [hq]
                refine ih (k + 1) w195 _ _ (by omega) (by omega) (fun i hi => by
                  by_cases e : i = k
                  · rw [e]
                    exact hal
                  · exact hall i (by omega)) ?_ o195 (smW_tr (smW_tr sm (sm_pI (by decide) q193F q193X q193J q193Y q193R)) (sm_pI (by decide) q196F q196X q196J q196Y q196R)) (by rw [q196a]; omega) (by rw [q196F 213 6 (by decide), q193F 213 6 (by decide), hw6]) ?_ ?_ (hL_take 4 l181)
                · by_cases hd : ltc (B (A + k))
                  · have e1 := nlt_y hd
                    have hd : 97 ≤ B (A + k) ∧ B (A + k) ≤ 122 := hd
                    omega
                  · have e1 := nlt_n hd
                    have hd : ¬ (97 ≤ B (A + k) ∧ B (A + k) ≤ 122) := hd
                    omega
                · rw [q196J 213 12, q193J 213 12, hw12, show min 7 (k + 1) = min 7 k by omega]
                · rw [q196F 213 8 (by decide), q193a, show min 3 (k + 1) = k + 1 by omega]
            · refine h_aload rfl l181 rfl ?_
              refine x_long 27 (by decide +kernel) rfl ?_
              refine h_aload rfl l181 rfl ?_
              refine h_getJv rfl o0 fj_12 ?_
              rw [hw12]
              refine x_lmul rfl ?_
              refine h_iload rfl l181 rfl ?_
              refine x_i2l (by unfold R32; omega) rfl ?_
              refine x_ladd rfl ?_
              refine x_long 96 (by decide +kernel) rfl ?_
              refine x_lsub rfl ?_
              rw [show min 7 k = k by omega, show 27 * e27 B A k + B (A + k : Nat) - 96 = e27 B A (k + 1) by
                have : e27 B A (k + 1) = 27 * e27 B A k + (B (A + k) - 96) := rfl
                omega]
              refine x_putJ rfl o0 fj_12 rfl (fun w197 o197 q198a q198J q198X q198F q198Y q198R => ?_)
              refine h_aload rfl l181 rfl ?_
              refine h_getI rfl o197 fi_5 (fun b199a b199b => ?_)
              rw [q198F 213 5, hw5] at b199a b199b ⊢
              refine h_aload rfl l181 rfl ?_
              refine h_getI rfl o197 fi_6 (fun b200a b200b => ?_)
              rw [q198F 213 6, hw6] at b200a b200b ⊢
              refine h_isub rfl ?_
              refine h_intv k_3 rfl ?_
              refine i_ge (kn := kn) (t := 3) (tgt := 337) (np := 320) rfl (by unfold R32; omega) (by unfold R32; omega) (fun e201 => ?_) (fun e201 => ?_)
              · refine h_aload rfl l181 rfl ?_
                refine h_dup rfl rfl ?_
                refine h_getI rfl o197 fi_5 (fun b202a b202b => ?_)
                rw [q198F 213 5, hw5] at b202a b202b ⊢
                refine h_intv k_1 rfl ?_
                refine h_iadd rfl ?_
                refine x_putI rfl o197 fi_5 rfl (by omega) (by omega) (fun w203 o203 q204a q204F q204X q204J q204Y q204R => ?_)
                refine h_goto rfl ?_
                have hq : ale B (m + 1) (A + k) = ale B m (A + (k + 1)) := ale_y hal
                rw [hq]
                refine ih (k + 1) w203 _ _ (by omega) (by omega) (fun i hi => by
                  by_cases e : i = k
                  · rw [e]
                    exact hal
                  · exact hall i (by omega)) ?_ o203 (smW_tr (smW_tr sm (sm_pJ (by decide) q198J q198X q198F q198Y q198R)) (sm_pI (by decide) q204F q204X q204J q204Y q204R)) (by rw [q204a]; omega) (by rw [q204F 213 6 (by decide), q198F 213 6, hw6]) ?_ ?_ (hL_take 4 l181)
                · by_cases hd : ltc (B (A + k))
                  · have e1 := nlt_y hd
                    have hd : 97 ≤ B (A + k) ∧ B (A + k) ≤ 122 := hd
                    omega
                  · have e1 := nlt_n hd
                    have hd : ¬ (97 ≤ B (A + k) ∧ B (A + k) ≤ 122) := hd
                    omega
                · rw [q204J 213 12, q198a, show min 7 (k + 1) = k + 1 by omega]
                · rw [q204F 213 8 (by decide), q198F 213 8, hw8, show min 3 (k + 1) = min 3 k by omega]
              · refine h_aload rfl l181 rfl ?_
                refine h_intv k_10 rfl ?_
                refine h_aload rfl l181 rfl ?_
                refine h_getI rfl o197 fi_8 (fun b205a b205b => ?_)
                rw [q198F 213 8, hw8] at b205a b205b ⊢
                refine h_imul rfl ?_
                refine h_iload rfl l181 rfl ?_
                refine h_iadd rfl ?_
                refine h_intv k_48 rfl ?_
                refine h_isub rfl ?_
                have hg3 := e10_g3 B A (k + 1) (by omega) (fun i hi => hb _ (by omega))
                rw [show min 3 k = k by omega, show 10 * e10 B A k + B (A + k : Nat) - 48 = e10 B A (k + 1) by
                  have : e10 B A (k + 1) = 10 * e10 B A k + (B (A + k) - 48) := rfl
                  omega]
                refine x_putI rfl o197 fi_8 rfl (by omega) (by omega) (fun w206 o206 q207a q207F q207X q207J q207Y q207R => ?_)
                refine h_aload rfl l181 rfl ?_
                refine h_dup rfl rfl ?_
                refine h_getI rfl o206 fi_5 (fun b208a b208b => ?_)
                rw [q207F 213 5 (by decide), q198F 213 5, hw5] at b208a b208b ⊢
                refine h_intv k_1 rfl ?_
                refine h_iadd rfl ?_
                refine x_putI rfl o206 fi_5 rfl (by omega) (by omega) (fun w209 o209 q210a q210F q210X q210J q210Y q210R => ?_)
                refine h_goto rfl ?_
                have hq : ale B (m + 1) (A + k) = ale B m (A + (k + 1)) := ale_y hal
                rw [hq]
                refine ih (k + 1) w209 _ _ (by omega) (by omega) (fun i hi => by
                  by_cases e : i = k
                  · rw [e]
                    exact hal
                  · exact hall i (by omega)) ?_ o209 (smW_tr (smW_tr (smW_tr sm (sm_pJ (by decide) q198J q198X q198F q198Y q198R)) (sm_pI (by decide) q207F q207X q207J q207Y q207R)) (sm_pI (by decide) q210F q210X q210J q210Y q210R)) (by rw [q210a]; omega) (by rw [q210F 213 6 (by decide), q207F 213 6 (by decide), q198F 213 6, hw6]) ?_ ?_ (hL_take 4 l181)
                · by_cases hd : ltc (B (A + k))
                  · have e1 := nlt_y hd
                    have hd : 97 ≤ B (A + k) ∧ B (A + k) ≤ 122 := hd
                    omega
                  · have e1 := nlt_n hd
                    have hd : ¬ (97 ≤ B (A + k) ∧ B (A + k) ≤ 122) := hd
                    omega
                · rw [q210J 213 12, q207J 213 12, q198a, show min 7 (k + 1) = k + 1 by omega]
                · rw [q210F 213 8 (by decide), q207a, show min 3 (k + 1) = k + 1 by omega]
          · refine h_intv k_1 rfl ?_
            refine h_goto rfl ?_
            refine h_istore rfl l147 (fun vl211 l211 => ?_)
            refine h_aload rfl l211 rfl ?_
            refine h_getI rfl o0 fi_5 (fun b212a b212b => ?_)
            rw [hw5] at b212a b212b ⊢
            refine h_aload rfl l211 rfl ?_
            refine h_getI rfl o0 fi_6 (fun b213a b213b => ?_)
            rw [hw6] at b213a b213b ⊢
            refine h_isub rfl ?_
            refine h_intv k_7 rfl ?_
            refine i_ge (kn := kn) (t := 3) (tgt := 307) (np := 287) rfl (by unfold R32; omega) (by unfold R32; omega) (fun e214 => ?_) (fun e214 => ?_)
            · refine h_aload rfl l211 rfl ?_
              refine h_getI rfl o0 fi_5 (fun b215a b215b => ?_)
              rw [hw5] at b215a b215b ⊢
              refine h_aload rfl l211 rfl ?_
              refine h_getI rfl o0 fi_6 (fun b216a b216b => ?_)
              rw [hw6] at b216a b216b ⊢
              refine h_isub rfl ?_
              refine h_intv k_3 rfl ?_
              refine i_ge (kn := kn) (t := 3) (tgt := 337) (np := 320) rfl (by unfold R32; omega) (by unfold R32; omega) (fun e217 => ?_) (fun e217 => ?_)
              · refine h_aload rfl l211 rfl ?_
                refine h_dup rfl rfl ?_
                refine h_getI rfl o0 fi_5 (fun b218a b218b => ?_)
                rw [hw5] at b218a b218b ⊢
                refine h_intv k_1 rfl ?_
                refine h_iadd rfl ?_
                refine x_putI rfl o0 fi_5 rfl (by omega) (by omega) (fun w219 o219 q220a q220F q220X q220J q220Y q220R => ?_)
                refine h_goto rfl ?_
                have hq : ale B (m + 1) (A + k) = ale B m (A + (k + 1)) := ale_y hal
                rw [hq]
                refine ih (k + 1) w219 _ _ (by omega) (by omega) (fun i hi => by
                  by_cases e : i = k
                  · rw [e]
                    exact hal
                  · exact hall i (by omega)) ?_ o219 (smW_tr sm (sm_pI (by decide) q220F q220X q220J q220Y q220R)) (by rw [q220a]; omega) (by rw [q220F 213 6 (by decide), hw6]) ?_ ?_ (hL_take 4 l211)
                · by_cases hd : ltc (B (A + k))
                  · have e1 := nlt_y hd
                    have hd : 97 ≤ B (A + k) ∧ B (A + k) ≤ 122 := hd
                    omega
                  · have e1 := nlt_n hd
                    have hd : ¬ (97 ≤ B (A + k) ∧ B (A + k) ≤ 122) := hd
                    omega
                · rw [q220J 213 12, hw12, show min 7 (k + 1) = min 7 k by omega]
                · rw [q220F 213 8 (by decide), hw8, show min 3 (k + 1) = min 3 k by omega]
              · refine h_aload rfl l211 rfl ?_
                refine h_intv k_10 rfl ?_
                refine h_aload rfl l211 rfl ?_
                refine h_getI rfl o0 fi_8 (fun b221a b221b => ?_)
                rw [hw8] at b221a b221b ⊢
                refine h_imul rfl ?_
                refine h_iload rfl l211 rfl ?_
                refine h_iadd rfl ?_
                refine h_intv k_48 rfl ?_
                refine h_isub rfl ?_
                have hg3 := e10_g3 B A (k + 1) (by omega) (fun i hi => hb _ (by omega))
                rw [show min 3 k = k by omega, show 10 * e10 B A k + B (A + k : Nat) - 48 = e10 B A (k + 1) by
                  have : e10 B A (k + 1) = 10 * e10 B A k + (B (A + k) - 48) := rfl
                  omega]
                refine x_putI rfl o0 fi_8 rfl (by omega) (by omega) (fun w222 o222 q223a q223F q223X q223J q223Y q223R => ?_)
                refine h_aload rfl l211 rfl ?_
                refine h_dup rfl rfl ?_
                refine h_getI rfl o222 fi_5 (fun b224a b224b => ?_)
                rw [q223F 213 5 (by decide), hw5] at b224a b224b ⊢
                refine h_intv k_1 rfl ?_
                refine h_iadd rfl ?_
                refine x_putI rfl o222 fi_5 rfl (by omega) (by omega) (fun w225 o225 q226a q226F q226X q226J q226Y q226R => ?_)
                refine h_goto rfl ?_
                have hq : ale B (m + 1) (A + k) = ale B m (A + (k + 1)) := ale_y hal
                rw [hq]
                refine ih (k + 1) w225 _ _ (by omega) (by omega) (fun i hi => by
                  by_cases e : i = k
                  · rw [e]
                    exact hal
                  · exact hall i (by omega)) ?_ o225 (smW_tr (smW_tr sm (sm_pI (by decide) q223F q223X q223J q223Y q223R)) (sm_pI (by decide) q226F q226X q226J q226Y q226R)) (by rw [q226a]; omega) (by rw [q226F 213 6 (by decide), q223F 213 6 (by decide), hw6]) ?_ ?_ (hL_take 4 l211)
                · by_cases hd : ltc (B (A + k))
                  · have e1 := nlt_y hd
                    have hd : 97 ≤ B (A + k) ∧ B (A + k) ≤ 122 := hd
                    omega
                  · have e1 := nlt_n hd
                    have hd : ¬ (97 ≤ B (A + k) ∧ B (A + k) ≤ 122) := hd
                    omega
                · rw [q226J 213 12, q223J 213 12, hw12, show min 7 (k + 1) = min 7 k by omega]
                · rw [q226F 213 8 (by decide), q223a, show min 3 (k + 1) = k + 1 by omega]
            · refine h_aload rfl l211 rfl ?_
              refine x_long 27 (by decide +kernel) rfl ?_
              refine h_aload rfl l211 rfl ?_
              refine h_getJv rfl o0 fj_12 ?_
              rw [hw12]
              refine x_lmul rfl ?_
              refine h_iload rfl l211 rfl ?_
              refine x_i2l (by unfold R32; omega) rfl ?_
              refine x_ladd rfl ?_
              refine x_long 96 (by decide +kernel) rfl ?_
              refine x_lsub rfl ?_
              rw [show min 7 k = k by omega, show 27 * e27 B A k + B (A + k : Nat) - 96 = e27 B A (k + 1) by
                have : e27 B A (k + 1) = 27 * e27 B A k + (B (A + k) - 96) := rfl
                omega]
              refine x_putJ rfl o0 fj_12 rfl (fun w227 o227 q228a q228J q228X q228F q228Y q228R => ?_)
              refine h_aload rfl l211 rfl ?_
              refine h_getI rfl o227 fi_5 (fun b229a b229b => ?_)
              rw [q228F 213 5, hw5] at b229a b229b ⊢
              refine h_aload rfl l211 rfl ?_
              refine h_getI rfl o227 fi_6 (fun b230a b230b => ?_)
              rw [q228F 213 6, hw6] at b230a b230b ⊢
              refine h_isub rfl ?_
              refine h_intv k_3 rfl ?_
              refine i_ge (kn := kn) (t := 3) (tgt := 337) (np := 320) rfl (by unfold R32; omega) (by unfold R32; omega) (fun e231 => ?_) (fun e231 => ?_)
              · refine h_aload rfl l211 rfl ?_
                refine h_dup rfl rfl ?_
                refine h_getI rfl o227 fi_5 (fun b232a b232b => ?_)
                rw [q228F 213 5, hw5] at b232a b232b ⊢
                refine h_intv k_1 rfl ?_
                refine h_iadd rfl ?_
                refine x_putI rfl o227 fi_5 rfl (by omega) (by omega) (fun w233 o233 q234a q234F q234X q234J q234Y q234R => ?_)
                refine h_goto rfl ?_
                have hq : ale B (m + 1) (A + k) = ale B m (A + (k + 1)) := ale_y hal
                rw [hq]
                refine ih (k + 1) w233 _ _ (by omega) (by omega) (fun i hi => by
                  by_cases e : i = k
                  · rw [e]
                    exact hal
                  · exact hall i (by omega)) ?_ o233 (smW_tr (smW_tr sm (sm_pJ (by decide) q228J q228X q228F q228Y q228R)) (sm_pI (by decide) q234F q234X q234J q234Y q234R)) (by rw [q234a]; omega) (by rw [q234F 213 6 (by decide), q228F 213 6, hw6]) ?_ ?_ (hL_take 4 l211)
                · by_cases hd : ltc (B (A + k))
                  · have e1 := nlt_y hd
                    have hd : 97 ≤ B (A + k) ∧ B (A + k) ≤ 122 := hd
                    omega
                  · have e1 := nlt_n hd
                    have hd : ¬ (97 ≤ B (A + k) ∧ B (A + k) ≤ 122) := hd
                    omega
                · rw [q234J 213 12, q228a, show min 7 (k + 1) = k + 1 by omega]
                · rw [q234F 213 8 (by decide), q228F 213 8, hw8, show min 3 (k + 1) = min 3 k by omega]
              · refine h_aload rfl l211 rfl ?_
                refine h_intv k_10 rfl ?_
                refine h_aload rfl l211 rfl ?_
                refine h_getI rfl o227 fi_8 (fun b235a b235b => ?_)
                rw [q228F 213 8, hw8] at b235a b235b ⊢
                refine h_imul rfl ?_
                refine h_iload rfl l211 rfl ?_
                refine h_iadd rfl ?_
                refine h_intv k_48 rfl ?_
                refine h_isub rfl ?_
                have hg3 := e10_g3 B A (k + 1) (by omega) (fun i hi => hb _ (by omega))
                rw [show min 3 k = k by omega, show 10 * e10 B A k + B (A + k : Nat) - 48 = e10 B A (k + 1) by
                  have : e10 B A (k + 1) = 10 * e10 B A k + (B (A + k) - 48) := rfl
                  omega]
                refine x_putI rfl o227 fi_8 rfl (by omega) (by omega) (fun w236 o236 q237a q237F q237X q237J q237Y q237R => ?_)
                refine h_aload rfl l211 rfl ?_
                refine h_dup rfl rfl ?_
                refine h_getI rfl o236 fi_5 (fun b238a b238b => ?_)
                rw [q237F 213 5 (by decide), q228F 213 5, hw5] at b238a b238b ⊢
                refine h_intv k_1 rfl ?_
                refine h_iadd rfl ?_
                refine x_putI rfl o236 fi_5 rfl (by omega) (by omega) (fun w239 o239 q240a q240F q240X q240J q240Y q240R => ?_)
                refine h_goto rfl ?_
                have hq : ale B (m + 1) (A + k) = ale B m (A + (k + 1)) := ale_y hal
                rw [hq]
                refine ih (k + 1) w239 _ _ (by omega) (by omega) (fun i hi => by
                  by_cases e : i = k
                  · rw [e]
                    exact hal
                  · exact hall i (by omega)) ?_ o239 (smW_tr (smW_tr (smW_tr sm (sm_pJ (by decide) q228J q228X q228F q228Y q228R)) (sm_pI (by decide) q237F q237X q237J q237Y q237R)) (sm_pI (by decide) q240F q240X q240J q240Y q240R)) (by rw [q240a]; omega) (by rw [q240F 213 6 (by decide), q237F 213 6 (by decide), q228F 213 6, hw6]) ?_ ?_ (hL_take 4 l211)
                · by_cases hd : ltc (B (A + k))
                  · have e1 := nlt_y hd
                    have hd : 97 ≤ B (A + k) ∧ B (A + k) ≤ 122 := hd
                    omega
                  · have e1 := nlt_n hd
                    have hd : ¬ (97 ≤ B (A + k) ∧ B (A + k) ≤ 122) := hd
                    omega
                · rw [q240J 213 12, q237J 213 12, q228a, show min 7 (k + 1) = k + 1 by omega]
                · rw [q240F 213 8 (by decide), q237a, show min 3 (k + 1) = k + 1 by omega]
theorem xgo_c {kn : sKn} {w0 : sW} {B : Nat → Int} {n L : Nat} (tx : txR B n L w0) {p q : Nat} (hp : p ≤ n) (hqe : q = skp B (n - p) p) {w : sW} {lv : List (Nat × Value)} (o0 : hO dH_go7 w0 w) (sm : smW eGo w0 w) (hw5 : gF w 213 5 = (q : Int)) (l0 : hL lv [(0, .ref 213)]) : Tp (tX12_go kn) (fun r => ∃ w', r = (none, w', 0, 0) ∧ hO dH_go7 w0 w' ∧ smW eGo w0 w' ∧ tkU (lexT B n L p) (gF w' 213 7) (gF w' 213 6) (gF w' 213 8) (gF w' 213 9) (gJ w' 213 12) (gF w' 213 5)) 52 (lv, [], w, 0, 0) := by
  obtain ⟨hB, hn1, hn2, hn940, hL940, hb⟩ := txR_sm sm (by decide) tx
  have hqn : q ≤ n := by
    have := (skp_b B (n - p) p).2
    omega
  obtain ⟨hS1, hS2⟩ := lexT_r (B := B) (L := L) hp
  rw [← hqe] at hS1 hS2
  refine h_aload rfl l0 rfl ?_
  refine h_aload rfl l0 rfl ?_
  refine h_getI rfl o0 fi_5 (fun b41a b41b => ?_)
  rw [hw5] at b41a b41b ⊢
  refine x_putI rfl o0 fi_6 rfl (by omega) (by omega) (fun w42 o42 q43a q43F q43X q43J q43Y q43R => ?_)
  refine h_aload rfl l0 rfl ?_
  refine h_getI rfl o42 fi_3 (fun b44a b44b => ?_)
  rw [q43F 213 3 (by decide), hn1] at b44a b44b ⊢
  refine h_aload rfl l0 rfl ?_
  refine h_getI rfl o42 fi_4 (fun b45a b45b => ?_)
  rw [q43F 213 4 (by decide), hn2] at b45a b45b ⊢
  refine i_le (kn := kn) (t := 5) (tgt := 96) (np := 71) rfl (by unfold R32; omega) (by unfold R32; omega) (fun e46 => ?_) (fun e46 => ?_)
  · refine h_aload rfl l0 rfl ?_
    refine h_getI rfl o42 fi_5 (fun b47a b47b => ?_)
    rw [q43F 213 5 (by decide), hw5] at b47a b47b ⊢
    refine h_aload rfl l0 rfl ?_
    refine h_getI rfl o42 fi_3 (fun b48a b48b => ?_)
    rw [q43F 213 3 (by decide), hn1] at b48a b48b ⊢
    refine i_lt (kn := kn) (t := 2) (tgt := 113) (np := 107) rfl (by unfold R32; omega) (by unfold R32; omega) (fun e49 => ?_) (fun e49 => ?_)
    · refine h_aload rfl l0 rfl ?_
      refine h_getR rfl o42 fr_1 ?_
      refine h_aload rfl l0 rfl ?_
      refine h_getI rfl o42 fi_5 (fun b50a b50b => ?_)
      rw [q43F 213 5 (by decide), hw5] at b50a b50b ⊢
      refine h_ialdj (q) rfl o42 ai_214 rfl (by omega) (by omega) (fun b51a b51b => ?_)
      rw [q43X 214 q, hB q (by omega)] at b51a b51b ⊢
      refine h_istore rfl l0 (fun vl52 l52 => ?_)
      refine h_iload rfl l52 rfl ?_
      obtain ⟨z53, hf53, hz53⟩ := x_isLetR (kn := kn) o42.1 (B q) ⟨by omega, by omega⟩
      refine h_S1 rfl o42 l52 rfl rfl hf53 ?_
      refine j_ne (kn := kn) (t := 1) (tgt := 198) (np := 130) rfl (by unfold R32; omega) (fun e54 => ?_) (fun e54 => ?_)
      · have hal : ltc (B q) ∨ dgc (B q) := by
          show (97 ≤ B q ∧ B q ≤ 122) ∨ (48 ≤ B q ∧ B q ≤ 57)
          omega
        refine h_iload rfl l52 rfl ?_
        obtain ⟨z55, hf55, hz55⟩ := x_isLetR (kn := kn) o42.1 (B q) ⟨by omega, by omega⟩
        refine h_S1 rfl o42 l52 rfl rfl hf55 ?_
        refine h_istore rfl l52 (fun vl56 l56 => ?_)
        refine h_intv k_1 rfl ?_
        refine h_istore rfl l56 (fun vl57 l57 => ?_)
        refine h_aload rfl l57 rfl ?_
        refine x_long 0 (by decide +kernel) rfl ?_
        refine x_putJ rfl o42 fj_12 rfl (fun w58 o58 q59a q59J q59X q59F q59Y q59R => ?_)
        refine h_aload rfl l57 rfl ?_
        refine h_intv k_0 rfl ?_
        refine x_putI rfl o58 fi_8 rfl (by omega) (by omega) (fun w60 o60 q61a q61F q61X q61J q61Y q61R => ?_)
        rw [hS2 (by omega), lexQ_a (by omega) hal, ← ale_y (m := n - (q + 1)) hal, show n - (q + 1) + 1 = n - q by omega]
        have hlt : (z55 = 1 ∧ ltc (B q)) ∨ (z55 = 0 ∧ ¬ ltc (B q)) := by
          by_cases hd : ltc (B q)
          · have hd2 : 97 ≤ B q ∧ B q ≤ 122 := hd
            exact Or.inl ⟨by omega, hd⟩
          · have hd2 : ¬ (97 ≤ B q ∧ B q ≤ 122) := hd
            exact Or.inr ⟨by omega, hd⟩
        have n0 : nlt B q 0 = 0 := rfl
        exact xgo_l tx (by omega) hlt hal (n - q) 0 w60 _ _ (by omega) (by omega) (fun i hi => by omega) (by omega) o60 (smW_tr (smW_tr (smW_tr sm (sm_pI (by decide) q43F q43X q43J q43Y q43R)) (sm_pJ (by decide) q59J q59X q59F q59Y q59R)) (sm_pI (by decide) q61F q61X q61J q61Y q61R)) (by rw [q61F 213 5 (by decide), q59F 213 5, q43F 213 5 (by decide), hw5] <;> omega) (by rw [q61F 213 6 (by decide), q59F 213 6, q43a]) (by rw [q61J 213 12, q59a] <;> rfl) (by rw [q61a] <;> rfl) l57
      · refine h_iload rfl l52 rfl ?_
        obtain ⟨z62, hf62, hz62⟩ := x_isDigR (kn := kn) o42.1 (B q) ⟨by omega, by omega⟩
        refine h_S1 rfl o42 l52 rfl rfl hf62 ?_
        refine j_ne (kn := kn) (t := 1) (tgt := 198) (np := 137) rfl (by unfold R32; omega) (fun e63 => ?_) (fun e63 => ?_)
        · have hal : ltc (B q) ∨ dgc (B q) := by
            show (97 ≤ B q ∧ B q ≤ 122) ∨ (48 ≤ B q ∧ B q ≤ 57)
            omega
          refine h_iload rfl l52 rfl ?_
          obtain ⟨z64, hf64, hz64⟩ := x_isLetR (kn := kn) o42.1 (B q) ⟨by omega, by omega⟩
          refine h_S1 rfl o42 l52 rfl rfl hf64 ?_
          refine h_istore rfl l52 (fun vl65 l65 => ?_)
          refine h_intv k_1 rfl ?_
          refine h_istore rfl l65 (fun vl66 l66 => ?_)
          refine h_aload rfl l66 rfl ?_
          refine x_long 0 (by decide +kernel) rfl ?_
          refine x_putJ rfl o42 fj_12 rfl (fun w67 o67 q68a q68J q68X q68F q68Y q68R => ?_)
          refine h_aload rfl l66 rfl ?_
          refine h_intv k_0 rfl ?_
          refine x_putI rfl o67 fi_8 rfl (by omega) (by omega) (fun w69 o69 q70a q70F q70X q70J q70Y q70R => ?_)
          rw [hS2 (by omega), lexQ_a (by omega) hal, ← ale_y (m := n - (q + 1)) hal, show n - (q + 1) + 1 = n - q by omega]
          have hlt : (z64 = 1 ∧ ltc (B q)) ∨ (z64 = 0 ∧ ¬ ltc (B q)) := by
            by_cases hd : ltc (B q)
            · have hd2 : 97 ≤ B q ∧ B q ≤ 122 := hd
              exact Or.inl ⟨by omega, hd⟩
            · have hd2 : ¬ (97 ≤ B q ∧ B q ≤ 122) := hd
              exact Or.inr ⟨by omega, hd⟩
          have n0 : nlt B q 0 = 0 := rfl
          exact xgo_l tx (by omega) hlt hal (n - q) 0 w69 _ _ (by omega) (by omega) (fun i hi => by omega) (by omega) o69 (smW_tr (smW_tr (smW_tr sm (sm_pI (by decide) q43F q43X q43J q43Y q43R)) (sm_pJ (by decide) q68J q68X q68F q68Y q68R)) (sm_pI (by decide) q70F q70X q70J q70Y q70R)) (by rw [q70F 213 5 (by decide), q68F 213 5, q43F 213 5 (by decide), hw5] <;> omega) (by rw [q70F 213 6 (by decide), q68F 213 6, q43a]) (by rw [q70J 213 12, q68a] <;> rfl) (by rw [q70a] <;> rfl) l66
        · refine h_aload rfl l52 rfl ?_
          refine h_iload rfl l52 rfl ?_
          refine h_intv k_59 rfl ?_
          refine i_eq (kn := kn) (t := 0) (tgt := 174) (np := 144) rfl (by unfold R32; omega) (by unfold R32; omega) (fun e71 => ?_) (fun e71 => ?_)
          · refine h_intv k_4 rfl ?_
            refine h_goto rfl ?_
            refine x_putI rfl o42 fi_7 rfl (by omega) (by omega) (fun w72 o72 q73a q73F q73X q73J q73Y q73R => ?_)
            refine h_aload rfl l52 rfl ?_
            refine h_iload rfl l52 rfl ?_
            refine x_putI rfl o72 fi_9 rfl (by omega) (by omega) (fun w74 o74 q75a q75F q75X q75J q75Y q75R => ?_)
            refine h_aload rfl l52 rfl ?_
            refine h_dup rfl rfl ?_
            refine h_getI rfl o74 fi_5 (fun b76a b76b => ?_)
            rw [q75F 213 5 (by decide), q73F 213 5 (by decide), q43F 213 5 (by decide), hw5] at b76a b76b ⊢
            refine h_intv k_1 rfl ?_
            refine h_iadd rfl ?_
            refine x_putI rfl o74 fi_5 rfl (by omega) (by omega) (fun w77 o77 q78a q78F q78X q78J q78Y q78R => ?_)
            refine h_vret rfl ?_
            have hna : ¬ (ltc (B q) ∨ dgc (B q)) := fun hh => by
              have hh : (97 ≤ B q ∧ B q ≤ 122) ∨ (48 ≤ B q ∧ B q ≤ 57) := hh
              omega
            have hs : sgk (B q) := by
              show B q = 59 ∨ B q = 60 ∨ B q = 61 ∨ B q = 62 ∨ B q = 40 ∨ B q = 41
              omega
            rw [hS2 (by omega), lexQ_s (by omega) hna, if_pos hs]
            exact ⟨_, rfl, o77, smW_tr (smW_tr (smW_tr (smW_tr sm (sm_pI (by decide) q43F q43X q43J q43Y q43R)) (sm_pI (by decide) q73F q73X q73J q73Y q73R)) (sm_pI (by decide) q75F q75X q75J q75Y q75R)) (sm_pI (by decide) q78F q78X q78J q78Y q78R), by rw [q78F 213 6 (by decide), q75F 213 6 (by decide), q73F 213 6 (by decide), q43a], Or.inr (Or.inr (Or.inl ⟨rfl, by rw [q78F 213 7 (by decide), q75F 213 7 (by decide), q73a], by rw [q78F 213 9 (by decide), q75a], by rw [q78a]; show _ = ((q + 1 : Nat) : Int); omega⟩))⟩
          · refine h_iload rfl l52 rfl ?_
            refine h_intv k_60 rfl ?_
            refine i_eq (kn := kn) (t := 0) (tgt := 174) (np := 150) rfl (by unfold R32; omega) (by unfold R32; omega) (fun e79 => ?_) (fun e79 => ?_)
            · refine h_intv k_4 rfl ?_
              refine h_goto rfl ?_
              refine x_putI rfl o42 fi_7 rfl (by omega) (by omega) (fun w80 o80 q81a q81F q81X q81J q81Y q81R => ?_)
              refine h_aload rfl l52 rfl ?_
              refine h_iload rfl l52 rfl ?_
              refine x_putI rfl o80 fi_9 rfl (by omega) (by omega) (fun w82 o82 q83a q83F q83X q83J q83Y q83R => ?_)
              refine h_aload rfl l52 rfl ?_
              refine h_dup rfl rfl ?_
              refine h_getI rfl o82 fi_5 (fun b84a b84b => ?_)
              rw [q83F 213 5 (by decide), q81F 213 5 (by decide), q43F 213 5 (by decide), hw5] at b84a b84b ⊢
              refine h_intv k_1 rfl ?_
              refine h_iadd rfl ?_
              refine x_putI rfl o82 fi_5 rfl (by omega) (by omega) (fun w85 o85 q86a q86F q86X q86J q86Y q86R => ?_)
              refine h_vret rfl ?_
              have hna : ¬ (ltc (B q) ∨ dgc (B q)) := fun hh => by
                have hh : (97 ≤ B q ∧ B q ≤ 122) ∨ (48 ≤ B q ∧ B q ≤ 57) := hh
                omega
              have hs : sgk (B q) := by
                show B q = 59 ∨ B q = 60 ∨ B q = 61 ∨ B q = 62 ∨ B q = 40 ∨ B q = 41
                omega
              rw [hS2 (by omega), lexQ_s (by omega) hna, if_pos hs]
              exact ⟨_, rfl, o85, smW_tr (smW_tr (smW_tr (smW_tr sm (sm_pI (by decide) q43F q43X q43J q43Y q43R)) (sm_pI (by decide) q81F q81X q81J q81Y q81R)) (sm_pI (by decide) q83F q83X q83J q83Y q83R)) (sm_pI (by decide) q86F q86X q86J q86Y q86R), by rw [q86F 213 6 (by decide), q83F 213 6 (by decide), q81F 213 6 (by decide), q43a], Or.inr (Or.inr (Or.inl ⟨rfl, by rw [q86F 213 7 (by decide), q83F 213 7 (by decide), q81a], by rw [q86F 213 9 (by decide), q83a], by rw [q86a]; show _ = ((q + 1 : Nat) : Int); omega⟩))⟩
            · refine h_iload rfl l52 rfl ?_
              refine h_intv k_61 rfl ?_
              refine i_eq (kn := kn) (t := 0) (tgt := 174) (np := 156) rfl (by unfold R32; omega) (by unfold R32; omega) (fun e87 => ?_) (fun e87 => ?_)
              · refine h_intv k_4 rfl ?_
                refine h_goto rfl ?_
                refine x_putI rfl o42 fi_7 rfl (by omega) (by omega) (fun w88 o88 q89a q89F q89X q89J q89Y q89R => ?_)
                refine h_aload rfl l52 rfl ?_
                refine h_iload rfl l52 rfl ?_
                refine x_putI rfl o88 fi_9 rfl (by omega) (by omega) (fun w90 o90 q91a q91F q91X q91J q91Y q91R => ?_)
                refine h_aload rfl l52 rfl ?_
                refine h_dup rfl rfl ?_
                refine h_getI rfl o90 fi_5 (fun b92a b92b => ?_)
                rw [q91F 213 5 (by decide), q89F 213 5 (by decide), q43F 213 5 (by decide), hw5] at b92a b92b ⊢
                refine h_intv k_1 rfl ?_
                refine h_iadd rfl ?_
                refine x_putI rfl o90 fi_5 rfl (by omega) (by omega) (fun w93 o93 q94a q94F q94X q94J q94Y q94R => ?_)
                refine h_vret rfl ?_
                have hna : ¬ (ltc (B q) ∨ dgc (B q)) := fun hh => by
                  have hh : (97 ≤ B q ∧ B q ≤ 122) ∨ (48 ≤ B q ∧ B q ≤ 57) := hh
                  omega
                have hs : sgk (B q) := by
                  show B q = 59 ∨ B q = 60 ∨ B q = 61 ∨ B q = 62 ∨ B q = 40 ∨ B q = 41
                  omega
                rw [hS2 (by omega), lexQ_s (by omega) hna, if_pos hs]
                exact ⟨_, rfl, o93, smW_tr (smW_tr (smW_tr (smW_tr sm (sm_pI (by decide) q43F q43X q43J q43Y q43R)) (sm_pI (by decide) q89F q89X q89J q89Y q89R)) (sm_pI (by decide) q91F q91X q91J q91Y q91R)) (sm_pI (by decide) q94F q94X q94J q94Y q94R), by rw [q94F 213 6 (by decide), q91F 213 6 (by decide), q89F 213 6 (by decide), q43a], Or.inr (Or.inr (Or.inl ⟨rfl, by rw [q94F 213 7 (by decide), q91F 213 7 (by decide), q89a], by rw [q94F 213 9 (by decide), q91a], by rw [q94a]; show _ = ((q + 1 : Nat) : Int); omega⟩))⟩
              · refine h_iload rfl l52 rfl ?_
                refine h_intv k_62 rfl ?_
                refine i_eq (kn := kn) (t := 0) (tgt := 174) (np := 162) rfl (by unfold R32; omega) (by unfold R32; omega) (fun e95 => ?_) (fun e95 => ?_)
                · refine h_intv k_4 rfl ?_
                  refine h_goto rfl ?_
                  refine x_putI rfl o42 fi_7 rfl (by omega) (by omega) (fun w96 o96 q97a q97F q97X q97J q97Y q97R => ?_)
                  refine h_aload rfl l52 rfl ?_
                  refine h_iload rfl l52 rfl ?_
                  refine x_putI rfl o96 fi_9 rfl (by omega) (by omega) (fun w98 o98 q99a q99F q99X q99J q99Y q99R => ?_)
                  refine h_aload rfl l52 rfl ?_
                  refine h_dup rfl rfl ?_
                  refine h_getI rfl o98 fi_5 (fun b100a b100b => ?_)
                  rw [q99F 213 5 (by decide), q97F 213 5 (by decide), q43F 213 5 (by decide), hw5] at b100a b100b ⊢
                  refine h_intv k_1 rfl ?_
                  refine h_iadd rfl ?_
                  refine x_putI rfl o98 fi_5 rfl (by omega) (by omega) (fun w101 o101 q102a q102F q102X q102J q102Y q102R => ?_)
                  refine h_vret rfl ?_
                  have hna : ¬ (ltc (B q) ∨ dgc (B q)) := fun hh => by
                    have hh : (97 ≤ B q ∧ B q ≤ 122) ∨ (48 ≤ B q ∧ B q ≤ 57) := hh
                    omega
                  have hs : sgk (B q) := by
                    show B q = 59 ∨ B q = 60 ∨ B q = 61 ∨ B q = 62 ∨ B q = 40 ∨ B q = 41
                    omega
                  rw [hS2 (by omega), lexQ_s (by omega) hna, if_pos hs]
                  exact ⟨_, rfl, o101, smW_tr (smW_tr (smW_tr (smW_tr sm (sm_pI (by decide) q43F q43X q43J q43Y q43R)) (sm_pI (by decide) q97F q97X q97J q97Y q97R)) (sm_pI (by decide) q99F q99X q99J q99Y q99R)) (sm_pI (by decide) q102F q102X q102J q102Y q102R), by rw [q102F 213 6 (by decide), q99F 213 6 (by decide), q97F 213 6 (by decide), q43a], Or.inr (Or.inr (Or.inl ⟨rfl, by rw [q102F 213 7 (by decide), q99F 213 7 (by decide), q97a], by rw [q102F 213 9 (by decide), q99a], by rw [q102a]; show _ = ((q + 1 : Nat) : Int); omega⟩))⟩
                · refine h_iload rfl l52 rfl ?_
                  refine h_intv k_40 rfl ?_
                  refine i_eq (kn := kn) (t := 0) (tgt := 174) (np := 168) rfl (by unfold R32; omega) (by unfold R32; omega) (fun e103 => ?_) (fun e103 => ?_)
                  · refine h_intv k_4 rfl ?_
                    refine h_goto rfl ?_
                    refine x_putI rfl o42 fi_7 rfl (by omega) (by omega) (fun w104 o104 q105a q105F q105X q105J q105Y q105R => ?_)
                    refine h_aload rfl l52 rfl ?_
                    refine h_iload rfl l52 rfl ?_
                    refine x_putI rfl o104 fi_9 rfl (by omega) (by omega) (fun w106 o106 q107a q107F q107X q107J q107Y q107R => ?_)
                    refine h_aload rfl l52 rfl ?_
                    refine h_dup rfl rfl ?_
                    refine h_getI rfl o106 fi_5 (fun b108a b108b => ?_)
                    rw [q107F 213 5 (by decide), q105F 213 5 (by decide), q43F 213 5 (by decide), hw5] at b108a b108b ⊢
                    refine h_intv k_1 rfl ?_
                    refine h_iadd rfl ?_
                    refine x_putI rfl o106 fi_5 rfl (by omega) (by omega) (fun w109 o109 q110a q110F q110X q110J q110Y q110R => ?_)
                    refine h_vret rfl ?_
                    have hna : ¬ (ltc (B q) ∨ dgc (B q)) := fun hh => by
                      have hh : (97 ≤ B q ∧ B q ≤ 122) ∨ (48 ≤ B q ∧ B q ≤ 57) := hh
                      omega
                    have hs : sgk (B q) := by
                      show B q = 59 ∨ B q = 60 ∨ B q = 61 ∨ B q = 62 ∨ B q = 40 ∨ B q = 41
                      omega
                    rw [hS2 (by omega), lexQ_s (by omega) hna, if_pos hs]
                    exact ⟨_, rfl, o109, smW_tr (smW_tr (smW_tr (smW_tr sm (sm_pI (by decide) q43F q43X q43J q43Y q43R)) (sm_pI (by decide) q105F q105X q105J q105Y q105R)) (sm_pI (by decide) q107F q107X q107J q107Y q107R)) (sm_pI (by decide) q110F q110X q110J q110Y q110R), by rw [q110F 213 6 (by decide), q107F 213 6 (by decide), q105F 213 6 (by decide), q43a], Or.inr (Or.inr (Or.inl ⟨rfl, by rw [q110F 213 7 (by decide), q107F 213 7 (by decide), q105a], by rw [q110F 213 9 (by decide), q107a], by rw [q110a]; show _ = ((q + 1 : Nat) : Int); omega⟩))⟩
                  · refine h_iload rfl l52 rfl ?_
                    refine h_intv k_41 rfl ?_
                    refine i_ne (kn := kn) (t := 1) (tgt := 178) (np := 174) rfl (by unfold R32; omega) (by unfold R32; omega) (fun e111 => ?_) (fun e111 => ?_)
                    · refine h_intv k_1 rfl ?_
                      refine x_putI rfl o42 fi_7 rfl (by omega) (by omega) (fun w112 o112 q113a q113F q113X q113J q113Y q113R => ?_)
                      refine h_aload rfl l52 rfl ?_
                      refine h_iload rfl l52 rfl ?_
                      refine x_putI rfl o112 fi_9 rfl (by omega) (by omega) (fun w114 o114 q115a q115F q115X q115J q115Y q115R => ?_)
                      refine h_aload rfl l52 rfl ?_
                      refine h_dup rfl rfl ?_
                      refine h_getI rfl o114 fi_5 (fun b116a b116b => ?_)
                      rw [q115F 213 5 (by decide), q113F 213 5 (by decide), q43F 213 5 (by decide), hw5] at b116a b116b ⊢
                      refine h_intv k_1 rfl ?_
                      refine h_iadd rfl ?_
                      refine x_putI rfl o114 fi_5 rfl (by omega) (by omega) (fun w117 o117 q118a q118F q118X q118J q118Y q118R => ?_)
                      refine h_vret rfl ?_
                      have hna : ¬ (ltc (B q) ∨ dgc (B q)) := fun hh => by
                        have hh : (97 ≤ B q ∧ B q ≤ 122) ∨ (48 ≤ B q ∧ B q ≤ 57) := hh
                        omega
                      have hs : ¬ sgk (B q) := fun hh => by
                        have hh : B q = 59 ∨ B q = 60 ∨ B q = 61 ∨ B q = 62 ∨ B q = 40 ∨ B q = 41 := hh
                        omega
                      rw [hS2 (by omega), lexQ_s (by omega) hna, if_neg hs]
                      exact ⟨_, rfl, o117, smW_tr (smW_tr (smW_tr (smW_tr sm (sm_pI (by decide) q43F q43X q43J q43Y q43R)) (sm_pI (by decide) q113F q113X q113J q113Y q113R)) (sm_pI (by decide) q115F q115X q115J q115Y q115R)) (sm_pI (by decide) q118F q118X q118J q118Y q118R), by rw [q118F 213 6 (by decide), q115F 213 6 (by decide), q113F 213 6 (by decide), q43a], Or.inr (Or.inl ⟨rfl, by rw [q118F 213 7 (by decide), q115F 213 7 (by decide), q113a]⟩)⟩
                    · refine h_intv k_4 rfl ?_
                      refine h_goto rfl ?_
                      refine x_putI rfl o42 fi_7 rfl (by omega) (by omega) (fun w119 o119 q120a q120F q120X q120J q120Y q120R => ?_)
                      refine h_aload rfl l52 rfl ?_
                      refine h_iload rfl l52 rfl ?_
                      refine x_putI rfl o119 fi_9 rfl (by omega) (by omega) (fun w121 o121 q122a q122F q122X q122J q122Y q122R => ?_)
                      refine h_aload rfl l52 rfl ?_
                      refine h_dup rfl rfl ?_
                      refine h_getI rfl o121 fi_5 (fun b123a b123b => ?_)
                      rw [q122F 213 5 (by decide), q120F 213 5 (by decide), q43F 213 5 (by decide), hw5] at b123a b123b ⊢
                      refine h_intv k_1 rfl ?_
                      refine h_iadd rfl ?_
                      refine x_putI rfl o121 fi_5 rfl (by omega) (by omega) (fun w124 o124 q125a q125F q125X q125J q125Y q125R => ?_)
                      refine h_vret rfl ?_
                      have hna : ¬ (ltc (B q) ∨ dgc (B q)) := fun hh => by
                        have hh : (97 ≤ B q ∧ B q ≤ 122) ∨ (48 ≤ B q ∧ B q ≤ 57) := hh
                        omega
                      have hs : sgk (B q) := by
                        show B q = 59 ∨ B q = 60 ∨ B q = 61 ∨ B q = 62 ∨ B q = 40 ∨ B q = 41
                        omega
                      rw [hS2 (by omega), lexQ_s (by omega) hna, if_pos hs]
                      exact ⟨_, rfl, o124, smW_tr (smW_tr (smW_tr (smW_tr sm (sm_pI (by decide) q43F q43X q43J q43Y q43R)) (sm_pI (by decide) q120F q120X q120J q120Y q120R)) (sm_pI (by decide) q122F q122X q122J q122Y q122R)) (sm_pI (by decide) q125F q125X q125J q125Y q125R), by rw [q125F 213 6 (by decide), q122F 213 6 (by decide), q120F 213 6 (by decide), q43a], Or.inr (Or.inr (Or.inl ⟨rfl, by rw [q125F 213 7 (by decide), q122F 213 7 (by decide), q120a], by rw [q125F 213 9 (by decide), q122a], by rw [q125a]; show _ = ((q + 1 : Nat) : Int); omega⟩))⟩
    · refine h_aload rfl l0 rfl ?_
      refine h_intv k_0 rfl ?_
      refine x_putI rfl o42 fi_7 rfl (by omega) (by omega) (fun w126 o126 q127a q127F q127X q127J q127Y q127R => ?_)
      refine h_vret rfl ?_
      rw [hS2 (by omega), lexQ_e (by omega), if_pos (by omega)]
      exact ⟨_, rfl, o126, smW_tr (smW_tr sm (sm_pI (by decide) q43F q43X q43J q43Y q43R)) (sm_pI (by decide) q127F q127X q127J q127Y q127R), by rw [q127F 213 6 (by decide), q43a]; show (q : Int) = ((min n L : Nat) : Int); omega, Or.inl ⟨rfl, by rw [q127a]⟩⟩
  · refine h_aload rfl l0 rfl ?_
    refine h_getI rfl o42 fi_6 (fun b128a b128b => ?_)
    rw [q43a] at b128a b128b ⊢
    refine h_aload rfl l0 rfl ?_
    refine h_getI rfl o42 fi_4 (fun b129a b129b => ?_)
    rw [q43F 213 4 (by decide), hn2] at b129a b129b ⊢
    refine i_lt (kn := kn) (t := 2) (tgt := 96) (np := 82) rfl (by unfold R32; omega) (by unfold R32; omega) (fun e130 => ?_) (fun e130 => ?_)
    · refine h_aload rfl l0 rfl ?_
      refine h_getI rfl o42 fi_5 (fun b131a b131b => ?_)
      rw [q43F 213 5 (by decide), hw5] at b131a b131b ⊢
      refine h_aload rfl l0 rfl ?_
      refine h_getI rfl o42 fi_3 (fun b132a b132b => ?_)
      rw [q43F 213 3 (by decide), hn1] at b132a b132b ⊢
      refine i_lt (kn := kn) (t := 2) (tgt := 113) (np := 107) rfl (by unfold R32; omega) (by unfold R32; omega) (fun e133 => ?_) (fun e133 => ?_)
      · refine h_aload rfl l0 rfl ?_
        refine h_getR rfl o42 fr_1 ?_
        refine h_aload rfl l0 rfl ?_
        refine h_getI rfl o42 fi_5 (fun b134a b134b => ?_)
        rw [q43F 213 5 (by decide), hw5] at b134a b134b ⊢
        refine h_ialdj (q) rfl o42 ai_214 rfl (by omega) (by omega) (fun b135a b135b => ?_)
        rw [q43X 214 q, hB q (by omega)] at b135a b135b ⊢
        refine h_istore rfl l0 (fun vl136 l136 => ?_)
        refine h_iload rfl l136 rfl ?_
        obtain ⟨z137, hf137, hz137⟩ := x_isLetR (kn := kn) o42.1 (B q) ⟨by omega, by omega⟩
        refine h_S1 rfl o42 l136 rfl rfl hf137 ?_
        refine j_ne (kn := kn) (t := 1) (tgt := 198) (np := 130) rfl (by unfold R32; omega) (fun e138 => ?_) (fun e138 => ?_)
        · have hal : ltc (B q) ∨ dgc (B q) := by
            show (97 ≤ B q ∧ B q ≤ 122) ∨ (48 ≤ B q ∧ B q ≤ 57)
            omega
          refine h_iload rfl l136 rfl ?_
          obtain ⟨z139, hf139, hz139⟩ := x_isLetR (kn := kn) o42.1 (B q) ⟨by omega, by omega⟩
          refine h_S1 rfl o42 l136 rfl rfl hf139 ?_
          refine h_istore rfl l136 (fun vl140 l140 => ?_)
          refine h_intv k_1 rfl ?_
          refine h_istore rfl l140 (fun vl141 l141 => ?_)
          refine h_aload rfl l141 rfl ?_
          refine x_long 0 (by decide +kernel) rfl ?_
          refine x_putJ rfl o42 fj_12 rfl (fun w142 o142 q143a q143J q143X q143F q143Y q143R => ?_)
          refine h_aload rfl l141 rfl ?_
          refine h_intv k_0 rfl ?_
          refine x_putI rfl o142 fi_8 rfl (by omega) (by omega) (fun w144 o144 q145a q145F q145X q145J q145Y q145R => ?_)
          rw [hS2 (by omega), lexQ_a (by omega) hal, ← ale_y (m := n - (q + 1)) hal, show n - (q + 1) + 1 = n - q by omega]
          have hlt : (z139 = 1 ∧ ltc (B q)) ∨ (z139 = 0 ∧ ¬ ltc (B q)) := by
            by_cases hd : ltc (B q)
            · have hd2 : 97 ≤ B q ∧ B q ≤ 122 := hd
              exact Or.inl ⟨by omega, hd⟩
            · have hd2 : ¬ (97 ≤ B q ∧ B q ≤ 122) := hd
              exact Or.inr ⟨by omega, hd⟩
          have n0 : nlt B q 0 = 0 := rfl
          exact xgo_l tx (by omega) hlt hal (n - q) 0 w144 _ _ (by omega) (by omega) (fun i hi => by omega) (by omega) o144 (smW_tr (smW_tr (smW_tr sm (sm_pI (by decide) q43F q43X q43J q43Y q43R)) (sm_pJ (by decide) q143J q143X q143F q143Y q143R)) (sm_pI (by decide) q145F q145X q145J q145Y q145R)) (by rw [q145F 213 5 (by decide), q143F 213 5, q43F 213 5 (by decide), hw5] <;> omega) (by rw [q145F 213 6 (by decide), q143F 213 6, q43a]) (by rw [q145J 213 12, q143a] <;> rfl) (by rw [q145a] <;> rfl) l141
        · refine h_iload rfl l136 rfl ?_
          obtain ⟨z146, hf146, hz146⟩ := x_isDigR (kn := kn) o42.1 (B q) ⟨by omega, by omega⟩
          refine h_S1 rfl o42 l136 rfl rfl hf146 ?_
          refine j_ne (kn := kn) (t := 1) (tgt := 198) (np := 137) rfl (by unfold R32; omega) (fun e147 => ?_) (fun e147 => ?_)
          · have hal : ltc (B q) ∨ dgc (B q) := by
              show (97 ≤ B q ∧ B q ≤ 122) ∨ (48 ≤ B q ∧ B q ≤ 57)
              omega
            refine h_iload rfl l136 rfl ?_
            obtain ⟨z148, hf148, hz148⟩ := x_isLetR (kn := kn) o42.1 (B q) ⟨by omega, by omega⟩
            refine h_S1 rfl o42 l136 rfl rfl hf148 ?_
            refine h_istore rfl l136 (fun vl149 l149 => ?_)
            refine h_intv k_1 rfl ?_
            refine h_istore rfl l149 (fun vl150 l150 => ?_)
            refine h_aload rfl l150 rfl ?_
            refine x_long 0 (by decide +kernel) rfl ?_
            refine x_putJ rfl o42 fj_12 rfl (fun w151 o151 q152a q152J q152X q152F q152Y q152R => ?_)
            refine h_aload rfl l150 rfl ?_
            refine h_intv k_0 rfl ?_
            refine x_putI rfl o151 fi_8 rfl (by omega) (by omega) (fun w153 o153 q154a q154F q154X q154J q154Y q154R => ?_)
            rw [hS2 (by omega), lexQ_a (by omega) hal, ← ale_y (m := n - (q + 1)) hal, show n - (q + 1) + 1 = n - q by omega]
            have hlt : (z148 = 1 ∧ ltc (B q)) ∨ (z148 = 0 ∧ ¬ ltc (B q)) := by
              by_cases hd : ltc (B q)
              · have hd2 : 97 ≤ B q ∧ B q ≤ 122 := hd
                exact Or.inl ⟨by omega, hd⟩
              · have hd2 : ¬ (97 ≤ B q ∧ B q ≤ 122) := hd
                exact Or.inr ⟨by omega, hd⟩
            have n0 : nlt B q 0 = 0 := rfl
            exact xgo_l tx (by omega) hlt hal (n - q) 0 w153 _ _ (by omega) (by omega) (fun i hi => by omega) (by omega) o153 (smW_tr (smW_tr (smW_tr sm (sm_pI (by decide) q43F q43X q43J q43Y q43R)) (sm_pJ (by decide) q152J q152X q152F q152Y q152R)) (sm_pI (by decide) q154F q154X q154J q154Y q154R)) (by rw [q154F 213 5 (by decide), q152F 213 5, q43F 213 5 (by decide), hw5] <;> omega) (by rw [q154F 213 6 (by decide), q152F 213 6, q43a]) (by rw [q154J 213 12, q152a] <;> rfl) (by rw [q154a] <;> rfl) l150
          · refine h_aload rfl l136 rfl ?_
            refine h_iload rfl l136 rfl ?_
            refine h_intv k_59 rfl ?_
            refine i_eq (kn := kn) (t := 0) (tgt := 174) (np := 144) rfl (by unfold R32; omega) (by unfold R32; omega) (fun e155 => ?_) (fun e155 => ?_)
            · refine h_intv k_4 rfl ?_
              refine h_goto rfl ?_
              refine x_putI rfl o42 fi_7 rfl (by omega) (by omega) (fun w156 o156 q157a q157F q157X q157J q157Y q157R => ?_)
              refine h_aload rfl l136 rfl ?_
              refine h_iload rfl l136 rfl ?_
              refine x_putI rfl o156 fi_9 rfl (by omega) (by omega) (fun w158 o158 q159a q159F q159X q159J q159Y q159R => ?_)
              refine h_aload rfl l136 rfl ?_
              refine h_dup rfl rfl ?_
              refine h_getI rfl o158 fi_5 (fun b160a b160b => ?_)
              rw [q159F 213 5 (by decide), q157F 213 5 (by decide), q43F 213 5 (by decide), hw5] at b160a b160b ⊢
              refine h_intv k_1 rfl ?_
              refine h_iadd rfl ?_
              refine x_putI rfl o158 fi_5 rfl (by omega) (by omega) (fun w161 o161 q162a q162F q162X q162J q162Y q162R => ?_)
              refine h_vret rfl ?_
              have hna : ¬ (ltc (B q) ∨ dgc (B q)) := fun hh => by
                have hh : (97 ≤ B q ∧ B q ≤ 122) ∨ (48 ≤ B q ∧ B q ≤ 57) := hh
                omega
              have hs : sgk (B q) := by
                show B q = 59 ∨ B q = 60 ∨ B q = 61 ∨ B q = 62 ∨ B q = 40 ∨ B q = 41
                omega
              rw [hS2 (by omega), lexQ_s (by omega) hna, if_pos hs]
              exact ⟨_, rfl, o161, smW_tr (smW_tr (smW_tr (smW_tr sm (sm_pI (by decide) q43F q43X q43J q43Y q43R)) (sm_pI (by decide) q157F q157X q157J q157Y q157R)) (sm_pI (by decide) q159F q159X q159J q159Y q159R)) (sm_pI (by decide) q162F q162X q162J q162Y q162R), by rw [q162F 213 6 (by decide), q159F 213 6 (by decide), q157F 213 6 (by decide), q43a], Or.inr (Or.inr (Or.inl ⟨rfl, by rw [q162F 213 7 (by decide), q159F 213 7 (by decide), q157a], by rw [q162F 213 9 (by decide), q159a], by rw [q162a]; show _ = ((q + 1 : Nat) : Int); omega⟩))⟩
            · refine h_iload rfl l136 rfl ?_
              refine h_intv k_60 rfl ?_
              refine i_eq (kn := kn) (t := 0) (tgt := 174) (np := 150) rfl (by unfold R32; omega) (by unfold R32; omega) (fun e163 => ?_) (fun e163 => ?_)
              · refine h_intv k_4 rfl ?_
                refine h_goto rfl ?_
                refine x_putI rfl o42 fi_7 rfl (by omega) (by omega) (fun w164 o164 q165a q165F q165X q165J q165Y q165R => ?_)
                refine h_aload rfl l136 rfl ?_
                refine h_iload rfl l136 rfl ?_
                refine x_putI rfl o164 fi_9 rfl (by omega) (by omega) (fun w166 o166 q167a q167F q167X q167J q167Y q167R => ?_)
                refine h_aload rfl l136 rfl ?_
                refine h_dup rfl rfl ?_
                refine h_getI rfl o166 fi_5 (fun b168a b168b => ?_)
                rw [q167F 213 5 (by decide), q165F 213 5 (by decide), q43F 213 5 (by decide), hw5] at b168a b168b ⊢
                refine h_intv k_1 rfl ?_
                refine h_iadd rfl ?_
                refine x_putI rfl o166 fi_5 rfl (by omega) (by omega) (fun w169 o169 q170a q170F q170X q170J q170Y q170R => ?_)
                refine h_vret rfl ?_
                have hna : ¬ (ltc (B q) ∨ dgc (B q)) := fun hh => by
                  have hh : (97 ≤ B q ∧ B q ≤ 122) ∨ (48 ≤ B q ∧ B q ≤ 57) := hh
                  omega
                have hs : sgk (B q) := by
                  show B q = 59 ∨ B q = 60 ∨ B q = 61 ∨ B q = 62 ∨ B q = 40 ∨ B q = 41
                  omega
                rw [hS2 (by omega), lexQ_s (by omega) hna, if_pos hs]
                exact ⟨_, rfl, o169, smW_tr (smW_tr (smW_tr (smW_tr sm (sm_pI (by decide) q43F q43X q43J q43Y q43R)) (sm_pI (by decide) q165F q165X q165J q165Y q165R)) (sm_pI (by decide) q167F q167X q167J q167Y q167R)) (sm_pI (by decide) q170F q170X q170J q170Y q170R), by rw [q170F 213 6 (by decide), q167F 213 6 (by decide), q165F 213 6 (by decide), q43a], Or.inr (Or.inr (Or.inl ⟨rfl, by rw [q170F 213 7 (by decide), q167F 213 7 (by decide), q165a], by rw [q170F 213 9 (by decide), q167a], by rw [q170a]; show _ = ((q + 1 : Nat) : Int); omega⟩))⟩
              · refine h_iload rfl l136 rfl ?_
                refine h_intv k_61 rfl ?_
                refine i_eq (kn := kn) (t := 0) (tgt := 174) (np := 156) rfl (by unfold R32; omega) (by unfold R32; omega) (fun e171 => ?_) (fun e171 => ?_)
                · refine h_intv k_4 rfl ?_
                  refine h_goto rfl ?_
                  refine x_putI rfl o42 fi_7 rfl (by omega) (by omega) (fun w172 o172 q173a q173F q173X q173J q173Y q173R => ?_)
                  refine h_aload rfl l136 rfl ?_
                  refine h_iload rfl l136 rfl ?_
                  refine x_putI rfl o172 fi_9 rfl (by omega) (by omega) (fun w174 o174 q175a q175F q175X q175J q175Y q175R => ?_)
                  refine h_aload rfl l136 rfl ?_
                  refine h_dup rfl rfl ?_
                  refine h_getI rfl o174 fi_5 (fun b176a b176b => ?_)
                  rw [q175F 213 5 (by decide), q173F 213 5 (by decide), q43F 213 5 (by decide), hw5] at b176a b176b ⊢
                  refine h_intv k_1 rfl ?_
                  refine h_iadd rfl ?_
                  refine x_putI rfl o174 fi_5 rfl (by omega) (by omega) (fun w177 o177 q178a q178F q178X q178J q178Y q178R => ?_)
                  refine h_vret rfl ?_
                  have hna : ¬ (ltc (B q) ∨ dgc (B q)) := fun hh => by
                    have hh : (97 ≤ B q ∧ B q ≤ 122) ∨ (48 ≤ B q ∧ B q ≤ 57) := hh
                    omega
                  have hs : sgk (B q) := by
                    show B q = 59 ∨ B q = 60 ∨ B q = 61 ∨ B q = 62 ∨ B q = 40 ∨ B q = 41
                    omega
                  rw [hS2 (by omega), lexQ_s (by omega) hna, if_pos hs]
                  exact ⟨_, rfl, o177, smW_tr (smW_tr (smW_tr (smW_tr sm (sm_pI (by decide) q43F q43X q43J q43Y q43R)) (sm_pI (by decide) q173F q173X q173J q173Y q173R)) (sm_pI (by decide) q175F q175X q175J q175Y q175R)) (sm_pI (by decide) q178F q178X q178J q178Y q178R), by rw [q178F 213 6 (by decide), q175F 213 6 (by decide), q173F 213 6 (by decide), q43a], Or.inr (Or.inr (Or.inl ⟨rfl, by rw [q178F 213 7 (by decide), q175F 213 7 (by decide), q173a], by rw [q178F 213 9 (by decide), q175a], by rw [q178a]; show _ = ((q + 1 : Nat) : Int); omega⟩))⟩
                · refine h_iload rfl l136 rfl ?_
                  refine h_intv k_62 rfl ?_
                  refine i_eq (kn := kn) (t := 0) (tgt := 174) (np := 162) rfl (by unfold R32; omega) (by unfold R32; omega) (fun e179 => ?_) (fun e179 => ?_)
                  · refine h_intv k_4 rfl ?_
                    refine h_goto rfl ?_
                    refine x_putI rfl o42 fi_7 rfl (by omega) (by omega) (fun w180 o180 q181a q181F q181X q181J q181Y q181R => ?_)
                    refine h_aload rfl l136 rfl ?_
                    refine h_iload rfl l136 rfl ?_
                    refine x_putI rfl o180 fi_9 rfl (by omega) (by omega) (fun w182 o182 q183a q183F q183X q183J q183Y q183R => ?_)
                    refine h_aload rfl l136 rfl ?_
                    refine h_dup rfl rfl ?_
                    refine h_getI rfl o182 fi_5 (fun b184a b184b => ?_)
                    rw [q183F 213 5 (by decide), q181F 213 5 (by decide), q43F 213 5 (by decide), hw5] at b184a b184b ⊢
                    refine h_intv k_1 rfl ?_
                    refine h_iadd rfl ?_
                    refine x_putI rfl o182 fi_5 rfl (by omega) (by omega) (fun w185 o185 q186a q186F q186X q186J q186Y q186R => ?_)
                    refine h_vret rfl ?_
                    have hna : ¬ (ltc (B q) ∨ dgc (B q)) := fun hh => by
                      have hh : (97 ≤ B q ∧ B q ≤ 122) ∨ (48 ≤ B q ∧ B q ≤ 57) := hh
                      omega
                    have hs : sgk (B q) := by
                      show B q = 59 ∨ B q = 60 ∨ B q = 61 ∨ B q = 62 ∨ B q = 40 ∨ B q = 41
                      omega
                    rw [hS2 (by omega), lexQ_s (by omega) hna, if_pos hs]
                    exact ⟨_, rfl, o185, smW_tr (smW_tr (smW_tr (smW_tr sm (sm_pI (by decide) q43F q43X q43J q43Y q43R)) (sm_pI (by decide) q181F q181X q181J q181Y q181R)) (sm_pI (by decide) q183F q183X q183J q183Y q183R)) (sm_pI (by decide) q186F q186X q186J q186Y q186R), by rw [q186F 213 6 (by decide), q183F 213 6 (by decide), q181F 213 6 (by decide), q43a], Or.inr (Or.inr (Or.inl ⟨rfl, by rw [q186F 213 7 (by decide), q183F 213 7 (by decide), q181a], by rw [q186F 213 9 (by decide), q183a], by rw [q186a]; show _ = ((q + 1 : Nat) : Int); omega⟩))⟩
                  · refine h_iload rfl l136 rfl ?_
                    refine h_intv k_40 rfl ?_
                    refine i_eq (kn := kn) (t := 0) (tgt := 174) (np := 168) rfl (by unfold R32; omega) (by unfold R32; omega) (fun e187 => ?_) (fun e187 => ?_)
                    · refine h_intv k_4 rfl ?_
                      refine h_goto rfl ?_
                      refine x_putI rfl o42 fi_7 rfl (by omega) (by omega) (fun w188 o188 q189a q189F q189X q189J q189Y q189R => ?_)
                      refine h_aload rfl l136 rfl ?_
                      refine h_iload rfl l136 rfl ?_
                      refine x_putI rfl o188 fi_9 rfl (by omega) (by omega) (fun w190 o190 q191a q191F q191X q191J q191Y q191R => ?_)
                      refine h_aload rfl l136 rfl ?_
                      refine h_dup rfl rfl ?_
                      refine h_getI rfl o190 fi_5 (fun b192a b192b => ?_)
                      rw [q191F 213 5 (by decide), q189F 213 5 (by decide), q43F 213 5 (by decide), hw5] at b192a b192b ⊢
                      refine h_intv k_1 rfl ?_
                      refine h_iadd rfl ?_
                      refine x_putI rfl o190 fi_5 rfl (by omega) (by omega) (fun w193 o193 q194a q194F q194X q194J q194Y q194R => ?_)
                      refine h_vret rfl ?_
                      have hna : ¬ (ltc (B q) ∨ dgc (B q)) := fun hh => by
                        have hh : (97 ≤ B q ∧ B q ≤ 122) ∨ (48 ≤ B q ∧ B q ≤ 57) := hh
                        omega
                      have hs : sgk (B q) := by
                        show B q = 59 ∨ B q = 60 ∨ B q = 61 ∨ B q = 62 ∨ B q = 40 ∨ B q = 41
                        omega
                      rw [hS2 (by omega), lexQ_s (by omega) hna, if_pos hs]
                      exact ⟨_, rfl, o193, smW_tr (smW_tr (smW_tr (smW_tr sm (sm_pI (by decide) q43F q43X q43J q43Y q43R)) (sm_pI (by decide) q189F q189X q189J q189Y q189R)) (sm_pI (by decide) q191F q191X q191J q191Y q191R)) (sm_pI (by decide) q194F q194X q194J q194Y q194R), by rw [q194F 213 6 (by decide), q191F 213 6 (by decide), q189F 213 6 (by decide), q43a], Or.inr (Or.inr (Or.inl ⟨rfl, by rw [q194F 213 7 (by decide), q191F 213 7 (by decide), q189a], by rw [q194F 213 9 (by decide), q191a], by rw [q194a]; show _ = ((q + 1 : Nat) : Int); omega⟩))⟩
                    · refine h_iload rfl l136 rfl ?_
                      refine h_intv k_41 rfl ?_
                      refine i_ne (kn := kn) (t := 1) (tgt := 178) (np := 174) rfl (by unfold R32; omega) (by unfold R32; omega) (fun e195 => ?_) (fun e195 => ?_)
                      · refine h_intv k_1 rfl ?_
                        refine x_putI rfl o42 fi_7 rfl (by omega) (by omega) (fun w196 o196 q197a q197F q197X q197J q197Y q197R => ?_)
                        refine h_aload rfl l136 rfl ?_
                        refine h_iload rfl l136 rfl ?_
                        refine x_putI rfl o196 fi_9 rfl (by omega) (by omega) (fun w198 o198 q199a q199F q199X q199J q199Y q199R => ?_)
                        refine h_aload rfl l136 rfl ?_
                        refine h_dup rfl rfl ?_
                        refine h_getI rfl o198 fi_5 (fun b200a b200b => ?_)
                        rw [q199F 213 5 (by decide), q197F 213 5 (by decide), q43F 213 5 (by decide), hw5] at b200a b200b ⊢
                        refine h_intv k_1 rfl ?_
                        refine h_iadd rfl ?_
                        refine x_putI rfl o198 fi_5 rfl (by omega) (by omega) (fun w201 o201 q202a q202F q202X q202J q202Y q202R => ?_)
                        refine h_vret rfl ?_
                        have hna : ¬ (ltc (B q) ∨ dgc (B q)) := fun hh => by
                          have hh : (97 ≤ B q ∧ B q ≤ 122) ∨ (48 ≤ B q ∧ B q ≤ 57) := hh
                          omega
                        have hs : ¬ sgk (B q) := fun hh => by
                          have hh : B q = 59 ∨ B q = 60 ∨ B q = 61 ∨ B q = 62 ∨ B q = 40 ∨ B q = 41 := hh
                          omega
                        rw [hS2 (by omega), lexQ_s (by omega) hna, if_neg hs]
                        exact ⟨_, rfl, o201, smW_tr (smW_tr (smW_tr (smW_tr sm (sm_pI (by decide) q43F q43X q43J q43Y q43R)) (sm_pI (by decide) q197F q197X q197J q197Y q197R)) (sm_pI (by decide) q199F q199X q199J q199Y q199R)) (sm_pI (by decide) q202F q202X q202J q202Y q202R), by rw [q202F 213 6 (by decide), q199F 213 6 (by decide), q197F 213 6 (by decide), q43a], Or.inr (Or.inl ⟨rfl, by rw [q202F 213 7 (by decide), q199F 213 7 (by decide), q197a]⟩)⟩
                      · refine h_intv k_4 rfl ?_
                        refine h_goto rfl ?_
                        refine x_putI rfl o42 fi_7 rfl (by omega) (by omega) (fun w203 o203 q204a q204F q204X q204J q204Y q204R => ?_)
                        refine h_aload rfl l136 rfl ?_
                        refine h_iload rfl l136 rfl ?_
                        refine x_putI rfl o203 fi_9 rfl (by omega) (by omega) (fun w205 o205 q206a q206F q206X q206J q206Y q206R => ?_)
                        refine h_aload rfl l136 rfl ?_
                        refine h_dup rfl rfl ?_
                        refine h_getI rfl o205 fi_5 (fun b207a b207b => ?_)
                        rw [q206F 213 5 (by decide), q204F 213 5 (by decide), q43F 213 5 (by decide), hw5] at b207a b207b ⊢
                        refine h_intv k_1 rfl ?_
                        refine h_iadd rfl ?_
                        refine x_putI rfl o205 fi_5 rfl (by omega) (by omega) (fun w208 o208 q209a q209F q209X q209J q209Y q209R => ?_)
                        refine h_vret rfl ?_
                        have hna : ¬ (ltc (B q) ∨ dgc (B q)) := fun hh => by
                          have hh : (97 ≤ B q ∧ B q ≤ 122) ∨ (48 ≤ B q ∧ B q ≤ 57) := hh
                          omega
                        have hs : sgk (B q) := by
                          show B q = 59 ∨ B q = 60 ∨ B q = 61 ∨ B q = 62 ∨ B q = 40 ∨ B q = 41
                          omega
                        rw [hS2 (by omega), lexQ_s (by omega) hna, if_pos hs]
                        exact ⟨_, rfl, o208, smW_tr (smW_tr (smW_tr (smW_tr sm (sm_pI (by decide) q43F q43X q43J q43Y q43R)) (sm_pI (by decide) q204F q204X q204J q204Y q204R)) (sm_pI (by decide) q206F q206X q206J q206Y q206R)) (sm_pI (by decide) q209F q209X q209J q209Y q209R), by rw [q209F 213 6 (by decide), q206F 213 6 (by decide), q204F 213 6 (by decide), q43a], Or.inr (Or.inr (Or.inl ⟨rfl, by rw [q209F 213 7 (by decide), q206F 213 7 (by decide), q204a], by rw [q209F 213 9 (by decide), q206a], by rw [q209a]; show _ = ((q + 1 : Nat) : Int); omega⟩))⟩
      · refine h_aload rfl l0 rfl ?_
        refine h_intv k_0 rfl ?_
        refine x_putI rfl o42 fi_7 rfl (by omega) (by omega) (fun w210 o210 q211a q211F q211X q211J q211Y q211R => ?_)
        refine h_vret rfl ?_
        rw [hS2 (by omega), lexQ_e (by omega), if_pos (by omega)]
        exact ⟨_, rfl, o210, smW_tr (smW_tr sm (sm_pI (by decide) q43F q43X q43J q43Y q43R)) (sm_pI (by decide) q211F q211X q211J q211Y q211R), by rw [q211F 213 6 (by decide), q43a]; show (q : Int) = ((min n L : Nat) : Int); omega, Or.inl ⟨rfl, by rw [q211a]⟩⟩
    · refine h_aload rfl l0 rfl ?_
      refine h_aload rfl l0 rfl ?_
      refine h_getI rfl o42 fi_4 (fun b212a b212b => ?_)
      rw [q43F 213 4 (by decide), hn2] at b212a b212b ⊢
      refine x_putI rfl o42 fi_6 rfl (by omega) (by omega) (fun w213 o213 q214a q214F q214X q214J q214Y q214R => ?_)
      refine h_aload rfl l0 rfl ?_
      refine h_intv k_1 rfl ?_
      refine x_putI rfl o213 fi_7 rfl (by omega) (by omega) (fun w215 o215 q216a q216F q216X q216J q216Y q216R => ?_)
      refine h_vret rfl ?_
      obtain ⟨s1, s2⟩ := hS1 ⟨by omega, by omega⟩
      exact ⟨_, rfl, o215, smW_tr (smW_tr (smW_tr sm (sm_pI (by decide) q43F q43X q43J q43Y q43R)) (sm_pI (by decide) q214F q214X q214J q214Y q214R)) (sm_pI (by decide) q216F q216X q216J q216Y q216R), by rw [q216F 213 6 (by decide), q214a, s2], Or.inr (Or.inl ⟨s1, by rw [q216a]⟩)⟩
theorem xgo_b {kn : sKn} {w0 : sW} {B : Nat → Int} {n L : Nat} (tx : txR B n L w0) {p : Nat} (hp : p ≤ n) : ∀ (m x : Nat) (w : sW) (lv : List (Nat × Value)), x + m = n → skp B m x = skp B (n - p) p → hO dH_go7 w0 w → smW eGo w0 w → gF w 213 5 = (x : Int) → hL lv [(0, .ref 213)] → Tp (tX12_go kn) (fun r => ∃ w', r = (none, w', 0, 0) ∧ hO dH_go7 w0 w' ∧ smW eGo w0 w' ∧ tkU (lexT B n L p) (gF w' 213 7) (gF w' 213 6) (gF w' 213 8) (gF w' 213 9) (gJ w' 213 12) (gF w' 213 5)) 0 (lv, [], w, 0, 0) := by
  intro m
  induction m with
  | zero =>
    intro x w lv hxm hqe o0 sm hw5 l0
    obtain ⟨hB, hn1, hn2, hn940, hL940, hb⟩ := txR_sm sm (by decide) tx
    refine h_aload rfl l0 rfl ?_
    refine h_getI rfl o0 fi_5 (fun b41a b41b => ?_)
    rw [hw5] at b41a b41b ⊢
    refine h_aload rfl l0 rfl ?_
    refine h_getI rfl o0 fi_3 (fun b42a b42b => ?_)
    rw [hn1] at b42a b42b ⊢
    refine i_ge (kn := kn) (t := 3) (tgt := 52) (np := 11) rfl (by unfold R32; omega) (by unfold R32; omega) (fun e43 => ?_) (fun e43 => ?_)
    · exact xgo_c tx hp (by rw [← hqe] <;> rfl) o0 sm hw5 l0
    · omega
  | succ m ih =>
    intro x w lv hxm hqe o0 sm hw5 l0
    obtain ⟨hB, hn1, hn2, hn940, hL940, hb⟩ := txR_sm sm (by decide) tx
    refine h_aload rfl l0 rfl ?_
    refine h_getI rfl o0 fi_5 (fun b41a b41b => ?_)
    rw [hw5] at b41a b41b ⊢
    refine h_aload rfl l0 rfl ?_
    refine h_getI rfl o0 fi_3 (fun b42a b42b => ?_)
    rw [hn1] at b42a b42b ⊢
    refine i_ge (kn := kn) (t := 3) (tgt := 52) (np := 11) rfl (by unfold R32; omega) (by unfold R32; omega) (fun e43 => ?_) (fun e43 => ?_)
    · omega
    · refine h_aload rfl l0 rfl ?_
      refine h_getR rfl o0 fr_1 ?_
      refine h_aload rfl l0 rfl ?_
      refine h_getI rfl o0 fi_5 (fun b44a b44b => ?_)
      rw [hw5] at b44a b44b ⊢
      refine h_ialdj (x) rfl o0 ai_214 rfl (by omega) (by omega) (fun b45a b45b => ?_)
      rw [hB x (by omega)] at b45a b45b ⊢
      refine h_intv k_32 rfl ?_
      refine i_eq (kn := kn) (t := 0) (tgt := 39) (np := 25) rfl (by unfold R32; omega) (by unfold R32; omega) (fun e46 => ?_) (fun e46 => ?_)
      · refine h_aload rfl l0 rfl ?_
        refine h_dup rfl rfl ?_
        refine h_getI rfl o0 fi_5 (fun b47a b47b => ?_)
        rw [hw5] at b47a b47b ⊢
        refine h_intv k_1 rfl ?_
        refine h_iadd rfl ?_
        refine x_putI rfl o0 fi_5 rfl (by omega) (by omega) (fun w48 o48 q49a q49F q49X q49J q49Y q49R => ?_)
        refine h_goto rfl ?_
        have hbl : B x = 32 ∨ B x = 10 := by omega
        exact ih (x + 1) w48 _ (by omega) (by rw [← hqe, skp_y hbl]) o48 (smW_tr sm (sm_pI (by decide) q49F q49X q49J q49Y q49R)) (by rw [q49a] <;> omega) l0
      · refine h_aload rfl l0 rfl ?_
        refine h_getR rfl o0 fr_1 ?_
        refine h_aload rfl l0 rfl ?_
        refine h_getI rfl o0 fi_5 (fun b50a b50b => ?_)
        rw [hw5] at b50a b50b ⊢
        refine h_ialdj (x) rfl o0 ai_214 rfl (by omega) (by omega) (fun b51a b51b => ?_)
        rw [hB x (by omega)] at b51a b51b ⊢
        refine h_intv k_10 rfl ?_
        refine i_ne (kn := kn) (t := 1) (tgt := 52) (np := 39) rfl (by unfold R32; omega) (by unfold R32; omega) (fun e52 => ?_) (fun e52 => ?_)
        · exact xgo_c tx hp (by rw [← hqe, skp_n (fun hh => by omega)]) o0 sm hw5 l0
        · refine h_aload rfl l0 rfl ?_
          refine h_dup rfl rfl ?_
          refine h_getI rfl o0 fi_5 (fun b53a b53b => ?_)
          rw [hw5] at b53a b53b ⊢
          refine h_intv k_1 rfl ?_
          refine h_iadd rfl ?_
          refine x_putI rfl o0 fi_5 rfl (by omega) (by omega) (fun w54 o54 q55a q55F q55X q55J q55Y q55R => ?_)
          refine h_goto rfl ?_
          have hbl : B x = 32 ∨ B x = 10 := by omega
          exact ih (x + 1) w54 _ (by omega) (by rw [← hqe, skp_y hbl]) o54 (smW_tr sm (sm_pI (by decide) q55F q55X q55J q55Y q55R)) (by rw [q55a] <;> omega) l0
theorem x_go {kn : sKn} {w0 : sW} {B : Nat → Int} {n L : Nat} (tx : txR B n L w0) (hw : wOk ZZ w0) {p : Nat} (hp : p ≤ n) (h5 : gF w0 213 5 = (p : Int)) : ∃ w', fX12_go kn [.ref 213] w0 = some (none, w', 0, 0) ∧ hO dH_go7 w0 w' ∧ smW eGo w0 w' ∧ tkR B n L (lexT B n L p) w' := by
  have K : Tp (tX12_go kn) (fun r => ∃ w', r = (none, w', 0, 0) ∧ hO dH_go7 w0 w' ∧ smW eGo w0 w' ∧ tkU (lexT B n L p) (gF w' 213 7) (gF w' 213 6) (gF w' 213 8) (gF w' 213 9) (gJ w' 213 12) (gF w' 213 5)) 0 (lv_args 0 [.ref 213], [], w0, 0, 0) := by
    have l0 : hL (lv_args 0 [.ref 213]) (lv_args 0 [.ref 213]) := hL_ex rfl
    exact xgo_b tx hp (n - p) p w0 _ (by omega) rfl (hO_rf hw) (smW_rf eGo w0) h5 l0
  obtain ⟨r, h1, w2, h2, h3, h4, h5⟩ := h_meth1 (nL := 5) rfl K
  rw [h2] at h1
  exact ⟨w2, h1, h3, h4, txR_sm h4 (by decide) tx, h5⟩
end
