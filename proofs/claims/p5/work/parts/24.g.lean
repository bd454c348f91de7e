noncomputable section
/-- a token: kind (0 end, 1 none, 2 sign, 3 number, 4 word, 5 name), place, value, name, where the next may begin -/
abbrev tS := Int × Int × Int × Int × Nat
def lexM (B : Nat → Int) (q m : Nat) : tS := if nlt B q m = m ∧ m ≤ 7 then (if kof (e27 B q m) = -1 then (5, (q : Int), 0, e27 B q m, q + m) else (4, (q : Int), kof (e27 B q m), e27 B q m, q + m)) else if nlt B q m = 0 ∧ m ≤ 3 then (3, (q : Int), e10 B q m, 0, q + m) else (1, (q : Int), 0, 0, q + m)
def lexQ (B : Nat → Int) (n L q : Nat) : tS := if min n L ≤ q then ((if n ≤ L then 0 else 1), ((min n L : Nat) : Int), 0, 0, q) else if ltc (B q) ∨ dgc (B q) then lexM B q (ale B (n - (q + 1)) (q + 1) - q) else ((if sgk (B q) then 2 else 1), (q : Int), B q, 0, q + 1)
def lexT (B : Nat → Int) (n L p : Nat) : tS := lexQ B n L (skp B (min n L - p) p)
theorem skp_y {B : Nat → Int} {m p : Nat} (h : B p = 32 ∨ B p = 10) : skp B (m + 1) p = skp B m (p + 1) := if_pos h
theorem skp_n {B : Nat → Int} {m p : Nat} (h : ¬ (B p = 32 ∨ B p = 10)) : skp B (m + 1) p = p := if_neg h
theorem skp_b (B : Nat → Int) : ∀ m p, p ≤ skp B m p ∧ skp B m p ≤ p + m := by
  intro m
  induction m with
  | zero => intro p; exact ⟨Nat.le_refl p, Nat.le_refl p⟩
  | succ m ih =>
    intro p
    by_cases h : B p = 32 ∨ B p = 10
    · rw [skp_y h]
      have := ih (p + 1)
      omega
    · rw [skp_n h]
      omega
theorem ale_y {B : Nat → Int} {m p : Nat} (h : ltc (B p) ∨ dgc (B p)) : ale B (m + 1) p = ale B m (p + 1) := if_pos h
theorem ale_n {B : Nat → Int} {m p : Nat} (h : ¬ (ltc (B p) ∨ dgc (B p))) : ale B (m + 1) p = p := if_neg h
theorem ale_b (B : Nat → Int) : ∀ m p, p ≤ ale B m p ∧ ale B m p ≤ p + m := by
  intro m
  induction m with
  | zero => intro p; exact ⟨Nat.le_refl p, Nat.le_refl p⟩
  | succ m ih =>
    intro p
    by_cases h : ltc (B p) ∨ dgc (B p)
    · rw [ale_y h]
      have := ih (p + 1)
      omega
    · rw [ale_n h]
      omega
theorem ale_al (B : Nat → Int) : ∀ m p i, p ≤ i → i < ale B m p → ltc (B i) ∨ dgc (B i) := by
  intro m
  induction m with
  | zero =>
    intro p i h1 h2
    have h2 : i < p := h2
    omega
  | succ m ih =>
    intro p i h1 h2
    by_cases h : ltc (B p) ∨ dgc (B p)
    · by_cases e : i = p
      · rw [e]
        exact h
      · rw [ale_y h] at h2
        exact ih (p + 1) i (by omega) h2
    · rw [ale_n h] at h2
      omega
theorem nlt_le (B : Nat → Int) (q : Nat) : ∀ k, nlt B q k ≤ k := by
  intro k
  induction k with
  | zero => exact Nat.le_refl 0
  | succ k ih =>
    show nlt B q k + (if ltc (B (q + k)) then 1 else 0) ≤ k + 1
    by_cases h : ltc (B (q + k))
    · rw [if_pos h]
      omega
    · rw [if_neg h]
      omega
theorem nlt_y {B : Nat → Int} {q k : Nat} (h : ltc (B (q + k))) : nlt B q (k + 1) = nlt B q k + 1 := by
  show nlt B q k + (if ltc (B (q + k)) then 1 else 0) = _
  rw [if_pos h]
theorem nlt_n {B : Nat → Int} {q k : Nat} (h : ¬ ltc (B (q + k))) : nlt B q (k + 1) = nlt B q k := by
  show nlt B q k + (if ltc (B (q + k)) then 1 else 0) = _
  rw [if_neg h]
  rfl
theorem nlt_all {B : Nat → Int} {q : Nat} : ∀ {k : Nat}, nlt B q k = k → ∀ i, i < k → ltc (B (q + i)) := by
  intro k
  induction k with
  | zero => intro _ i hi; omega
  | succ k ih =>
    intro h i hi
    have hl := nlt_le B q k
    by_cases c : ltc (B (q + k))
    · rw [nlt_y c] at h
      by_cases e : i = k
      · rw [e]
        exact c
      · exact ih (by omega) i (by omega)
    · rw [nlt_n c] at h
      omega
theorem nlt_none {B : Nat → Int} {q : Nat} : ∀ {k : Nat}, nlt B q k = 0 → ∀ i, i < k → ¬ ltc (B (q + i)) := by
  intro k
  induction k with
  | zero => intro _ i hi; omega
  | succ k ih =>
    intro h i hi
    by_cases c : ltc (B (q + k))
    · rw [nlt_y c] at h
      omega
    · rw [nlt_n c] at h
      by_cases e : i = k
      · rw [e]
        exact c
      · exact ih h i (by omega)
theorem e10_b (B : Nat → Int) (q : Nat) : ∀ k, (∀ i, i < k → dgc (B (q + i))) → 0 ≤ e10 B q k ∧ e10 B q k < 10 ^ k := by
  intro k
  induction k with
  | zero =>
    intro _
    exact ⟨Int.le_refl 0, by rw [Int.pow_zero]; exact Int.one_pos⟩
  | succ k ih =>
    intro h
    obtain ⟨i1, i2⟩ := ih (fun i hi => h i (by omega))
    have h1 := h k (by omega)
    rw [Int.pow_succ]
    show 0 ≤ 10 * e10 B q k + (B (q + k) - 48) ∧ 10 * e10 B q k + (B (q + k) - 48) < 10 ^ k * 10
    exact ⟨by omega, by omega⟩
theorem e10_3 (B : Nat → Int) (q k : Nat) (hk : k ≤ 3) (h : ∀ i, i < k → dgc (B (q + i))) : 0 ≤ e10 B q k ∧ e10 B q k ≤ 999 := by
  obtain ⟨h1, h2⟩ := e10_b B q k h
  have : ∀ j, j ≤ 3 → (10 : Int) ^ j ≤ 1000 := by decide +kernel
  have := this k hk
  omega
theorem lexQ_e {B : Nat → Int} {n L q : Nat} (h : min n L ≤ q) : lexQ B n L q = ((if n ≤ L then 0 else 1), ((min n L : Nat) : Int), 0, 0, q) := if_pos h
theorem lexQ_a {B : Nat → Int} {n L q : Nat} (h : ¬ min n L ≤ q) (h2 : ltc (B q) ∨ dgc (B q)) : lexQ B n L q = lexM B q (ale B (n - (q + 1)) (q + 1) - q) := by
  unfold lexQ
  rw [if_neg h, if_pos h2]
theorem lexQ_s {B : Nat → Int} {n L q : Nat} (h : ¬ min n L ≤ q) (h2 : ¬ (ltc (B q) ∨ dgc (B q))) : lexQ B n L q = ((if sgk (B q) then 2 else 1), (q : Int), B q, 0, q + 1) := by
  unfold lexQ
  rw [if_neg h, if_neg h2]
theorem lexM_n {B : Nat → Int} {q m : Nat} (h : nlt B q m = m) (h7 : m ≤ 7) (hk : kof (e27 B q m) = -1) : lexM B q m = (5, (q : Int), 0, e27 B q m, q + m) := by
  unfold lexM
  rw [if_pos ⟨h, h7⟩, if_pos hk]
theorem lexM_k {B : Nat → Int} {q m : Nat} (h : nlt B q m = m) (h7 : m ≤ 7) (hk : kof (e27 B q m) ≠ -1) : lexM B q m = (4, (q : Int), kof (e27 B q m), e27 B q m, q + m) := by
  unfold lexM
  rw [if_pos ⟨h, h7⟩, if_neg hk]
theorem lexM_d {B : Nat → Int} {q m : Nat} (h : ¬ (nlt B q m = m ∧ m ≤ 7)) (h0 : nlt B q m = 0) (h3 : m ≤ 3) : lexM B q m = (3, (q : Int), e10 B q m, 0, q + m) := by
  unfold lexM
  rw [if_neg h, if_pos ⟨h0, h3⟩]
theorem lexM_x {B : Nat → Int} {q m : Nat} (h : ¬ (nlt B q m = m ∧ m ≤ 7)) (h0 : ¬ (nlt B q m = 0 ∧ m ≤ 3)) : lexM B q m = (1, (q : Int), 0, 0, q + m) := by
  unfold lexM
  rw [if_neg h, if_neg h0]
/-- all but what E names is as it was: 0 ints of fields, 1 longs of fields, 2 arrays of ints, 3 arrays of longs -/
def smW (E : List (Nat × Nat × Nat)) (w w' : sW) : Prop := (∀ c k, (0, c, k) ∉ E → gF w' c k = gF w c k) ∧ (∀ c k, (1, c, k) ∉ E → gJ w' c k = gJ w c k) ∧ (∀ c j, (2, c, 0) ∉ E → gX w' c j = gX w c j) ∧ (∀ c j, (3, c, 0) ∉ E → gY w' c j = gY w c j) ∧ smR w w'
theorem smW_rf (E : List (Nat × Nat × Nat)) (w : sW) : smW E w w := ⟨fun _ _ _ => rfl, fun _ _ _ => rfl, fun _ _ _ => rfl, fun _ _ _ => rfl, fun _ _ => rfl⟩
theorem smW_tr {E : List (Nat × Nat × Nat)} {a b c : sW} (h : smW E a b) (g : smW E b c) : smW E a c := ⟨fun x k n => (g.1 x k n).trans (h.1 x k n), fun x k n => (g.2.1 x k n).trans (h.2.1 x k n), fun x k n => (g.2.2.1 x k n).trans (h.2.2.1 x k n), fun x k n => (g.2.2.2.1 x k n).trans (h.2.2.2.1 x k n), fun x k => (g.2.2.2.2 x k).trans (h.2.2.2.2 x k)⟩
theorem smW_mono {E E' : List (Nat × Nat × Nat)} {a b : sW} (hs : ∀ q ∈ E, q ∈ E') (h : smW E a b) : smW E' a b := ⟨fun x k n => h.1 x k (fun z => n (hs _ z)), fun x k n => h.2.1 x k (fun z => n (hs _ z)), fun x k n => h.2.2.1 x k (fun z => n (hs _ z)), fun x k n => h.2.2.2.1 x k (fun z => n (hs _ z)), h.2.2.2.2⟩
section SMP
variable {E : List (Nat × Nat × Nat)} {w w' : sW} {c k : Nat}
theorem sm_pI (h : (0, c, k) ∈ E) (hF : ∀ c' k', (c' = c → k' ≠ k) → gF w' c' k' = gF w c' k') (hX : ∀ c' j, gX w' c' j = gX w c' j) (hJ : ∀ c' k', gJ w' c' k' = gJ w c' k') (hY : ∀ c' j, gY w' c' j = gY w c' j) (hR : smR w w') : smW E w w' := ⟨fun c' k' hn => hF c' k' (fun e e2 => hn (by rw [e, e2]; exact h)), fun c' k' _ => hJ c' k', fun c' j _ => hX c' j, fun c' j _ => hY c' j, hR⟩
theorem sm_pJ (h : (1, c, k) ∈ E) (hJ : ∀ c' k', (c' = c → k' ≠ k) → gJ w' c' k' = gJ w c' k') (hX : ∀ c' j, gX w' c' j = gX w c' j) (hF : ∀ c' k', gF w' c' k' = gF w c' k') (hY : ∀ c' j, gY w' c' j = gY w c' j) (hR : smR w w') : smW E w w' := ⟨fun c' k' _ => hF c' k', fun c' k' hn => hJ c' k' (fun e e2 => hn (by rw [e, e2]; exact h)), fun c' j _ => hX c' j, fun c' j _ => hY c' j, hR⟩
theorem sm_pX {i : Nat} (h : (2, c, 0) ∈ E) (hX : ∀ c' j', (c' = c → j' ≠ i) → gX w' c' j' = gX w c' j') (hF : ∀ c' k', gF w' c' k' = gF w c' k') (hJ : ∀ c' k', gJ w' c' k' = gJ w c' k') (hY : ∀ c' j, gY w' c' j = gY w c' j) (hR : smR w w') : smW E w w' := ⟨fun c' k' _ => hF c' k', fun c' k' _ => hJ c' k', fun c' j hn => hX c' j (fun e => absurd h (by rw [← e]; exact hn)), fun c' j _ => hY c' j, hR⟩
theorem sm_pY {i : Nat} (h : (3, c, 0) ∈ E) (hY : ∀ c' j', (c' = c → j' ≠ i) → gY w' c' j' = gY w c' j') (hF : ∀ c' k', gF w' c' k' = gF w c' k') (hX : ∀ c' j', gX w' c' j' = gX w c' j') (hJ : ∀ c' k', gJ w' c' k' = gJ w c' k') (hR : smR w w') : smW E w w' := ⟨fun c' k' _ => hF c' k', fun c' k' _ => hJ c' k', fun c' j _ => hX c' j, fun c' j hn => hY c' j (fun e => absurd h (by rw [← e]; exact hn)), hR⟩
end SMP
/-- the class's tape: n bytes, L of them at most -/
def txC (B : Nat → Int) (n L : Nat) (w : sW) : Prop := (∀ i, i < n → gX w 2 i = B i) ∧ gF w 1 1 = (n : Int) ∧ gF w 1 2 = (L : Int) ∧ n ≤ 940 ∧ L ≤ 940
theorem txC_sm {E : List (Nat × Nat × Nat)} {B : Nat → Int} {n L : Nat} {w w' : sW} (h : smW E w w') (h1 : ((0, 1, 1) ∉ E ∧ (0, 1, 2) ∉ E) ∧ (2, 2, 0) ∉ E) (t : txC B n L w) : txC B n L w' := ⟨fun i hi => (h.2.2.1 2 i h1.2).trans (t.1 i hi), (h.1 1 1 h1.1.1).trans t.2.1, (h.1 1 2 h1.1.2).trans t.2.2.1, t.2.2.2⟩
/-- a token as the class has it: kind, at, value, name, next -/
def tkV (n L : Nat) (S : tS) (kd at_ v : Int) (nm : Int64) (nx : Int) : Prop := at_ = S.2.1 ∧ nx = (S.2.2.2.2 : Int) ∧ ((S.1 = 0 ∧ kd = 0 ∧ n ≤ L) ∨ (S.1 = 1 ∧ (kd = 1 ∨ (kd = 0 ∧ L < n))) ∨ (S.1 = 2 ∧ kd = 2 ∧ v = S.2.2.1) ∨ (S.1 = 3 ∧ kd = 3 ∧ v = S.2.2.1) ∨ (S.1 = 4 ∧ kd = 4 ∧ v = S.2.2.1) ∨ (S.1 = 5 ∧ kd = 5 ∧ nm = Int64.ofInt (c32 7 S.2.2.2.1)))
def tkC (B : Nat → Int) (n L : Nat) (S : tS) (w : sW) : Prop := txC B n L w ∧ tkV n L S (gF w 1 4) (gF w 1 5) (gF w 1 6) (gJ w 1 7) (gF w 1 3)
def eTk : List (Nat × Nat × Nat) := [(0, 1, 3), (0, 1, 4), (0, 1, 5), (0, 1, 6), (1, 1, 7)]
theorem s_chrX {kn : sKn} {w : sW} (hw : wOk ZZ w) (j : Nat) (hj : j < 216) : ∃ b : Nat, fJ1_charAt_3b067 kn [.ref 1000005, hI j] w = some (some (hI b), w, 0, 0) ∧ b < 256 ∧ keyB[j]? = some (Int32.ofInt (b : Nat)) := by
  obtain ⟨b, b1, b2, b3, b4⟩ := key_b j hj
  have K : Tp (tJ1_charAt_3b067 kn) (fun r => r = (some (hI (b : Int)), w, 0, 0)) 0 (lv_args 0 [.ref 1000005, hI j], [], w, 0, 0) := by
    have l0 : hL (lv_args 0 [.ref 1000005, hI j]) (lv_args 0 [.ref 1000005, hI j]) := hL_ex rfl
    have o0 : hO [] w w := hO_rf hw
    refine h_iload rfl l0 rfl ?_
    refine h_aload rfl l0 rfl ?_
    refine h_alenK rfl ?_
    refine h_SV2 rfl o0 l0 rfl rfl (s_chk hw j hj) ?_
    refine h_aload rfl l0 rfl ?_
    refine h_iload rfl l0 rfl ?_
    refine h_baldK b2 hj rfl ?_
    refine h_intv k_255 rfl ?_
    refine h_iand rfl ?_
    refine h_i2c rfl ?_
    rw [b3, ← hI_of]
    exact h_cret b4 rfl rfl
  obtain ⟨r, h1, h2⟩ := h_meth1 (nL := 2) rfl K
  rw [h2] at h1
  exact ⟨b, h1, b1, b2⟩
theorem s_charX {kn : sKn} {w : sW} (hw : wOk ZZ w) (j : Nat) (hj : j < 216) : ∃ b : Nat, fJ0_charAt_5068e kn [.ref 1000004, hI j] w = some (some (hI b), w, 0, 0) ∧ b < 256 ∧ keyB[j]? = some (Int32.ofInt (b : Nat)) := by
  obtain ⟨b, hf, hb, hk⟩ := s_chrX (kn := kn) hw j hj
  have K : Tp (tJ0_charAt_5068e kn) (fun r => r = (some (hI (b : Int)), w, 0, 0)) 0 (lv_args 0 [.ref 1000004, hI j], [], w, 0, 0) := by
    have l0 : hL (lv_args 0 [.ref 1000004, hI j]) (lv_args 0 [.ref 1000004, hI j]) := hL_ex rfl
    have o0 : hO [] w w := hO_rf hw
    refine h_aload rfl l0 rfl ?_
    refine h_VK1 rfl o0 l0 rfl rfl (s_lat hw) ?_
    refine j_eq (kn := kn) (t := 0) (tgt := 16) (np := 7) rfl (by unfold R32; omega) (fun e1 => ?_) (fun e1 => ?_)
    · omega
    · refine h_aload rfl l0 rfl ?_
      refine h_strK rfl ?_
      refine h_iload rfl l0 rfl ?_
      refine h_S2 rfl o0 l0 rfl rfl hf ?_
      exact h_cret (byte_ix b hb) rfl rfl
  obtain ⟨r, h1, h2⟩ := h_meth1 (nL := 2) rfl K
  rw [h2] at h1
  exact ⟨b, h1, hb, hk⟩
theorem s_chX {kn : sKn} {w : sW} (hw : wOk ZZ w) (j : Nat) (hj : j < 216) : fJ0_charAt_5068e kn [.ref 1000004, hI j] w = some (some (hI (kb j)), w, 0, 0) ∧ 0 ≤ kb j ∧ kb j ≤ 255 := by
  obtain ⟨b, h1, h2, h3⟩ := s_charX (kn := kn) hw j hj
  have e : kb j = (b : Int) := by
    unfold kb
    rw [List.getD_eq_getElem?_getD, h3]
    show (Int32.ofInt (b : Int)).toInt = _
    exact hI_to ⟨by omega, by omega⟩
  rw [e]
  exact ⟨h1, by omega, by omega⟩
theorem x_isLet9 {kn : sKn} {w : sW} (hw : wOk ZZ w) (x : Int) (hx : R32 x) : ∃ b : Int, fX9_isLetter kn [hI x] w = some (some (hI b), w, 0, 0) ∧ (b = 1 ∧ 97 ≤ x ∧ x ≤ 122 ∨ b = 0 ∧ (x < 97 ∨ 122 < x)) := by
  have hx1 := hx.1
  have hx2 := hx.2
  have K : Tp (tX9_isLetter kn) (fun r => ∃ b : Int, r = (some (hI b), w, 0, 0) ∧ (b = 1 ∧ 97 ≤ x ∧ x ≤ 122 ∨ b = 0 ∧ (x < 97 ∨ 122 < x))) 0 (lv_args 0 [hI x], [], w, 0, 0) := by
    have l0 : hL (lv_args 0 [hI x]) (lv_args 0 [hI x]) := hL_ex rfl
    have o0 : hO [] w w := hO_rf hw
    refine h_iload rfl l0 rfl ?_
    refine h_intv k_97 rfl ?_
    refine i_lt (kn := kn) (t := 2) (tgt := 16) (np := 6) rfl (by unfold R32; omega) (by unfold R32; omega) (fun e41 => ?_) (fun e41 => ?_)
    · refine h_intv k_0 rfl ?_
      refine h_zret (by omega) rfl ?_
      exact ⟨_, rfl, by omega⟩
    · refine h_iload rfl l0 rfl ?_
      refine h_intv k_122 rfl ?_
      refine i_gt (kn := kn) (t := 4) (tgt := 16) (np := 12) rfl (by unfold R32; omega) (by unfold R32; omega) (fun e42 => ?_) (fun e42 => ?_)
      · refine h_intv k_0 rfl ?_
        refine h_zret (by omega) rfl ?_
        exact ⟨_, rfl, by omega⟩
      · refine h_intv k_1 rfl ?_
        refine h_goto rfl ?_
        refine h_zret (by omega) rfl ?_
        exact ⟨_, rfl, by omega⟩
  obtain ⟨r, h1, b, h2, h3⟩ := h_meth1 (nL := 1) rfl K
  rw [h2] at h1
  exact ⟨b, h1, h3⟩
theorem x_isDig9 {kn : sKn} {w : sW} (hw : wOk ZZ w) (x : Int) (hx : R32 x) : ∃ b : Int, fX9_isDigit kn [hI x] w = some (some (hI b), w, 0, 0) ∧ (b = 1 ∧ 48 ≤ x ∧ x ≤ 57 ∨ b = 0 ∧ (x < 48 ∨ 57 < x)) := by
  have hx1 := hx.1
  have hx2 := hx.2
  have K : Tp (tX9_isDigit kn) (fun r => ∃ b : Int, r = (some (hI b), w, 0, 0) ∧ (b = 1 ∧ 48 ≤ x ∧ x ≤ 57 ∨ b = 0 ∧ (x < 48 ∨ 57 < x))) 0 (lv_args 0 [hI x], [], w, 0, 0) := by
    have l0 : hL (lv_args 0 [hI x]) (lv_args 0 [hI x]) := hL_ex rfl
    have o0 : hO [] w w := hO_rf hw
    refine h_iload rfl l0 rfl ?_
    refine h_intv k_48 rfl ?_
    refine i_lt (kn := kn) (t := 2) (tgt := 16) (np := 6) rfl (by unfold R32; omega) (by unfold R32; omega) (fun e41 => ?_) (fun e41 => ?_)
    · refine h_intv k_0 rfl ?_
      refine h_zret (by omega) rfl ?_
      exact ⟨_, rfl, by omega⟩
    · refine h_iload rfl l0 rfl ?_
      refine h_intv k_57 rfl ?_
      refine i_gt (kn := kn) (t := 4) (tgt := 16) (np := 12) rfl (by unfold R32; omega) (by unfold R32; omega) (fun e42 => ?_) (fun e42 => ?_)
      · refine h_intv k_0 rfl ?_
        refine h_zret (by omega) rfl ?_
        exact ⟨_, rfl, by omega⟩
      · refine h_intv k_1 rfl ?_
        refine h_goto rfl ?_
        refine h_zret (by omega) rfl ?_
        exact ⟨_, rfl, by omega⟩
  obtain ⟨r, h1, b, h2, h3⟩ := h_meth1 (nL := 1) rfl K
  rw [h2] at h1
  exact ⟨b, h1, h3⟩
theorem x_isSgn9 {kn : sKn} {w : sW} (hw : wOk ZZ w) (x : Int) (hx : R32 x) : ∃ b : Int, fX9_isSign kn [hI x] w = some (some (hI b), w, 0, 0) ∧ (b = 1 ∧ (x = 59 ∨ x = 60 ∨ x = 61 ∨ x = 62 ∨ x = 40 ∨ x = 41) ∨ b = 0 ∧ x ≠ 59 ∧ x ≠ 60 ∧ x ≠ 61 ∧ x ≠ 62 ∧ x ≠ 40 ∧ x ≠ 41) := by
  have hx1 := hx.1
  have hx2 := hx.2
  have K : Tp (tX9_isSign kn) (fun r => ∃ b : Int, r = (some (hI b), w, 0, 0) ∧ (b = 1 ∧ (x = 59 ∨ x = 60 ∨ x = 61 ∨ x = 62 ∨ x = 40 ∨ x = 41) ∨ b = 0 ∧ x ≠ 59 ∧ x ≠ 60 ∧ x ≠ 61 ∧ x ≠ 62 ∧ x ≠ 40 ∧ x ≠ 41)) 0 (lv_args 0 [hI x], [], w, 0, 0) := by
    have l0 : hL (lv_args 0 [hI x]) (lv_args 0 [hI x]) := hL_ex rfl
    have o0 : hO [] w w := hO_rf hw
    refine h_iload rfl l0 rfl ?_
    refine h_intv k_59 rfl ?_
    refine i_eq (kn := kn) (t := 0) (tgt := 36) (np := 6) rfl (by unfold R32; omega) (by unfold R32; omega) (fun e41 => ?_) (fun e41 => ?_)
    · refine h_intv k_1 rfl ?_
      refine h_goto rfl ?_
      refine h_zret (by omega) rfl ?_
      exact ⟨_, rfl, by omega⟩
    · refine h_iload rfl l0 rfl ?_
      refine h_intv k_60 rfl ?_
      refine i_eq (kn := kn) (t := 0) (tgt := 36) (np := 12) rfl (by unfold R32; omega) (by unfold R32; omega) (fun e42 => ?_) (fun e42 => ?_)
      · refine h_intv k_1 rfl ?_
        refine h_goto rfl ?_
        refine h_zret (by omega) rfl ?_
        exact ⟨_, rfl, by omega⟩
      · refine h_iload rfl l0 rfl ?_
        refine h_intv k_61 rfl ?_
        refine i_eq (kn := kn) (t := 0) (tgt := 36) (np := 18) rfl (by unfold R32; omega) (by unfold R32; omega) (fun e43 => ?_) (fun e43 => ?_)
        · refine h_intv k_1 rfl ?_
          refine h_goto rfl ?_
          refine h_zret (by omega) rfl ?_
          exact ⟨_, rfl, by omega⟩
        · refine h_iload rfl l0 rfl ?_
          refine h_intv k_62 rfl ?_
          refine i_eq (kn := kn) (t := 0) (tgt := 36) (np := 24) rfl (by unfold R32; omega) (by unfold R32; omega) (fun e44 => ?_) (fun e44 => ?_)
          · refine h_intv k_1 rfl ?_
            refine h_goto rfl ?_
            refine h_zret (by omega) rfl ?_
            exact ⟨_, rfl, by omega⟩
          · refine h_iload rfl l0 rfl ?_
            refine h_intv k_40 rfl ?_
            refine i_eq (kn := kn) (t := 0) (tgt := 36) (np := 30) rfl (by unfold R32; omega) (by unfold R32; omega) (fun e45 => ?_) (fun e45 => ?_)
            · refine h_intv k_1 rfl ?_
              refine h_goto rfl ?_
              refine h_zret (by omega) rfl ?_
              exact ⟨_, rfl, by omega⟩
            · refine h_iload rfl l0 rfl ?_
              refine h_intv k_41 rfl ?_
              refine i_ne (kn := kn) (t := 1) (tgt := 40) (np := 36) rfl (by unfold R32; omega) (by unfold R32; omega) (fun e46 => ?_) (fun e46 => ?_)
              · refine h_intv k_0 rfl ?_
                refine h_zret (by omega) rfl ?_
                exact ⟨_, rfl, by omega⟩
              · refine h_intv k_1 rfl ?_
                refine h_goto rfl ?_
                refine h_zret (by omega) rfl ?_
                exact ⟨_, rfl, by omega⟩
  obtain ⟨r, h1, b, h2, h3⟩ := h_meth1 (nL := 1) rfl K
  rw [h2] at h1
  exact ⟨b, h1, h3⟩
def eRN : List (Nat × Nat × Nat) := [(0, 1, 4), (0, 1, 6)]
theorem xrn_l {kn : sKn} {w0 : sW} {B : Nat → Int} {n L : Nat} (tx : txC B n L w0) (A M : Nat) (hAM : A + M ≤ n) (hM : M ≤ 3) (hd : ∀ i, i < M → dgc (B (A + i))) (h3 : gF w0 1 3 = ((A + M : Nat) : Int)) : ∀ (m k : Nat) (w : sW) (lv : List (Nat × Value)), k + m = M → hO dH_tok w0 w → smW eRN w0 w → gF w 1 6 = e10 B A k → hL lv [(0, .ref 1), (1, hI (A + k : Nat))] → Tp (tX9_readNumber kn) (fun r => ∃ w', r = (none, w', 0, 0) ∧ hO dH_tok w0 w' ∧ smW eRN w0 w' ∧ gF w' 1 4 = 3 ∧ gF w' 1 6 = e10 B A M) 10 (lv, [], w, 0, 0) := by
  intro m
  induction m with
  | zero =>
    intro k w lv hkm o0 sm h6 l0
    obtain ⟨hB, hn1, hn2, hn940, hL940⟩ := txC_sm sm (by decide) tx
    have hw3 : gF w 1 3 = ((A + M : Nat) : Int) := (sm.1 1 3 (by decide)).trans h3
    refine h_iload rfl l0 rfl ?_
    refine h_aload rfl l0 rfl ?_
    refine h_getI rfl o0 fi_1_3 (fun b41a b41b => ?_)
    rw [hw3] at b41a b41b ⊢
    refine i_ge (kn := kn) (t := 3) (tgt := 45) (np := 18) rfl (by unfold R32; omega) (by unfold R32; omega) (fun e42 => ?_) (fun e42 => ?_)
    · refine h_aload rfl l0 rfl ?_
      refine h_intv k_3 rfl ?_
      refine x_putI rfl o0 fi_1_4 rfl (by omega) (by omega) (fun w43 o43 q44a q44F q44X q44J q44Y q44R => ?_)
      refine h_vret rfl ?_
      exact ⟨_, rfl, o43, smW_tr sm (sm_pI (by decide) q44F q44X q44J q44Y q44R), by rw [q44a], by rw [q44F 1 6 (by decide), h6]; rw [show k = M by omega]⟩
    · omega
  | succ m ih =>
    intro k w lv hkm o0 sm h6 l0
    obtain ⟨hB, hn1, hn2, hn940, hL940⟩ := txC_sm sm (by decide) tx
    have hw3 : gF w 1 3 = ((A + M : Nat) : Int) := (sm.1 1 3 (by decide)).trans h3
    refine h_iload rfl l0 rfl ?_
    refine h_aload rfl l0 rfl ?_
    refine h_getI rfl o0 fi_1_3 (fun b41a b41b => ?_)
    rw [hw3] at b41a b41b ⊢
    refine i_ge (kn := kn) (t := 3) (tgt := 45) (np := 18) rfl (by unfold R32; omega) (by unfold R32; omega) (fun e42 => ?_) (fun e42 => ?_)
    · omega
    · refine h_aload rfl l0 rfl ?_
      refine h_intv k_10 rfl ?_
      refine h_aload rfl l0 rfl ?_
      refine h_getI rfl o0 fi_1_6 (fun b43a b43b => ?_)
      rw [h6] at b43a b43b ⊢
      refine h_imul rfl ?_
      refine h_aload rfl l0 rfl ?_
      refine h_getR rfl o0 fr_1_0 ?_
      refine h_iload rfl l0 rfl ?_
      refine h_ialdj ((A + k : Nat)) rfl o0 ai_2 rfl (by omega) (by omega) (fun b44a b44b => ?_)
      rw [hB (A + k : Nat) (by omega)] at b44a b44b ⊢
      refine h_iadd rfl ?_
      refine h_intv k_48 rfl ?_
      refine h_isub rfl ?_
      have hk1 := e10_3 B A (k + 1) (by omega) (fun i hi => hd i (by omega))
      have ek : 10 * e10 B A k + B (A + k : Nat) - 48 = e10 B A (k + 1) := by
        have : e10 B A (k + 1) = 10 * e10 B A k + (B (A + k) - 48) := rfl
        omega
      rw [ek]
      refine x_putI rfl o0 fi_1_6 rfl (by omega) (by omega) (fun w45 o45 q46a q46F q46X q46J q46Y q46R => ?_)
      refine h_iincv k_1 rfl l0 rfl (fun vl47 l47 => ?_)
      refine h_goto rfl ?_
      exact ih (k + 1) w45 _ (by omega) o45 (smW_tr sm (sm_pI (by decide) q46F q46X q46J q46Y q46R)) (by rw [q46a]) l47
theorem x_readNumber {kn : sKn} {w0 : sW} {B : Nat → Int} {n L : Nat} (tx : txC B n L w0) (hw : wOk ZZ w0) (A M : Nat) (hAM : A + M ≤ n) (hM : M ≤ 3) (hd : ∀ i, i < M → dgc (B (A + i))) (h3 : gF w0 1 3 = ((A + M : Nat) : Int)) (h5 : gF w0 1 5 = (A : Int)) : ∃ w', fX9_readNumber kn [.ref 1] w0 = some (none, w', 0, 0) ∧ hO dH_tok w0 w' ∧ smW eRN w0 w' ∧ gF w' 1 4 = 3 ∧ gF w' 1 6 = e10 B A M := by
  have K : Tp (tX9_readNumber kn) (fun r => ∃ w', r = (none, w', 0, 0) ∧ hO dH_tok w0 w' ∧ smW eRN w0 w' ∧ gF w' 1 4 = 3 ∧ gF w' 1 6 = e10 B A M) 0 (lv_args 0 [.ref 1], [], w0, 0, 0) := by
    have l0 : hL (lv_args 0 [.ref 1]) (lv_args 0 [.ref 1]) := hL_ex rfl
    have o0 : hO dH_tok w0 w0 := hO_rf hw
    have sm := smW_rf eRN w0
    refine h_aload rfl l0 rfl ?_
    refine h_intv k_0 rfl ?_
    refine x_putI rfl o0 fi_1_6 rfl (by omega) (by omega) (fun w41 o41 q42a q42F q42X q42J q42Y q42R => ?_)
    refine h_aload rfl l0 rfl ?_
    refine h_getI rfl o41 fi_1_5 (fun b43a b43b => ?_)
    rw [q42F 1 5 (by decide), h5] at b43a b43b ⊢
    refine h_istore rfl l0 (fun vl44 l44 => ?_)
    exact xrn_l tx A M hAM hM hd h3 M 0 w41 _ (by omega) o41 (smW_tr sm (sm_pI (by decide) q42F q42X q42J q42Y q42R)) (by rw [q42a]; rfl) l44
  obtain ⟨r, h1, w2, h2, h3⟩ := h_meth1 (nL := 2) rfl K
  rw [h2] at h1
  exact ⟨w2, h1, h3⟩
def eRW : List (Nat × Nat × Nat) := [(0, 1, 4), (0, 1, 6), (1, 1, 7)]
theorem xrw_i {kn : sKn} {w0 : sW} {B : Nat → Int} {n L : Nat} (tx : txC B n L w0) (A M : Nat) (hAM : A + M ≤ n) (hM : M ≤ 7) (hd : ∀ i, i < M → ltc (B (A + i))) (h3 : gF w0 1 3 = ((A + M : Nat) : Int)) (h5 : gF w0 1 5 = (A : Int)) (j : Nat) (hj : j < 27) (hx : ∀ (i : Nat) (w : sW) (lv : List (Nat × Value)), i ≤ M → (∀ i', i' < i → kb (8 * j + i') = B (A + i')) → (i < M → kb (8 * j + i) ≠ B (A + i)) → hO dH_tok w0 w → smW eRW w0 w → gJ w 1 7 = Int64.ofInt (e32 B A M) → gF w 1 4 = 5 → hL lv [(0, .ref 1), (1, hI M), (2, hI j), (3, hI i)] → Tp (tX9_readWord kn) (fun r => ∃ w', r = (none, w', 0, 0) ∧ hO dH_tok w0 w' ∧ smW eRW w0 w' ∧ gJ w' 1 7 = Int64.ofInt (e32 B A M) ∧ ((kof (e27 B A M) = -1 ∧ gF w' 1 4 = 5) ∨ (0 ≤ kof (e27 B A M) ∧ gF w' 1 4 = 4 ∧ gF w' 1 6 = kof (e27 B A M)))) 119 (lv, [], w, 0, 0)) : ∀ (m i : Nat) (w : sW) (lv : List (Nat × Value)), i + m = M → (∀ i', i' < i → kb (8 * j + i') = B (A + i')) → hO dH_tok w0 w → smW eRW w0 w → gJ w 1 7 = Int64.ofInt (e32 B A M) → gF w 1 4 = 5 → hL lv [(0, .ref 1), (1, hI M), (2, hI j), (3, hI i)] → Tp (tX9_readWord kn) (fun r => ∃ w', r = (none, w', 0, 0) ∧ hO dH_tok w0 w' ∧ smW eRW w0 w' ∧ gJ w' 1 7 = Int64.ofInt (e32 B A M) ∧ ((kof (e27 B A M) = -1 ∧ gF w' 1 4 = 5) ∨ (0 ≤ kof (e27 B A M) ∧ gF w' 1 4 = 4 ∧ gF w' 1 6 = kof (e27 B A M)))) 83 (lv, [], w, 0, 0) := by
  intro m
  induction m with
  | zero =>
    intro i w lv him hm o0 sm hJ7 hk l0
    obtain ⟨hB, hn1, hn2, hn940, hL940⟩ := txC_sm sm (by decide) tx
    have hw3 : gF w 1 3 = ((A + M : Nat) : Int) := (sm.1 1 3 (by decide)).trans h3
    have hw5 : gF w 1 5 = (A : Int) := (sm.1 1 5 (by decide)).trans h5
    refine h_iload rfl l0 rfl ?_
    refine h_iload rfl l0 rfl ?_
    refine i_ge (kn := kn) (t := 3) (tgt := 119) (np := 88) rfl (by unfold R32; omega) (by unfold R32; omega) (fun e41 => ?_) (fun e41 => ?_)
    · exact hx i w _ (by omega) hm (fun z => by omega) o0 sm hJ7 hk l0
    · omega
  | succ m ih =>
    intro i w lv him hm o0 sm hJ7 hk l0
    obtain ⟨hB, hn1, hn2, hn940, hL940⟩ := txC_sm sm (by decide) tx
    have hw3 : gF w 1 3 = ((A + M : Nat) : Int) := (sm.1 1 3 (by decide)).trans h3
    have hw5 : gF w 1 5 = (A : Int) := (sm.1 1 5 (by decide)).trans h5
    refine h_iload rfl l0 rfl ?_
    refine h_iload rfl l0 rfl ?_
    refine i_ge (kn := kn) (t := 3) (tgt := 119) (np := 88) rfl (by unfold R32; omega) (by unfold R32; omega) (fun e41 => ?_) (fun e41 => ?_)
    · omega
    · refine h_gets rfl ?_
      refine h_intv k_8 rfl ?_
      refine h_iload rfl l0 rfl ?_
      refine h_imul rfl ?_
      refine h_iload rfl l0 rfl ?_
      refine h_iadd rfl ?_
      rw [show 8 * j + i = ((8 * j + i : Nat) : Int) by omega]
      obtain ⟨hf42, hb42, hc42⟩ := s_chX (kn := kn) o0.1 (8 * j + i) (by omega)
      refine h_VK2 rfl o0 l0 rfl rfl hf42 ?_
      refine h_aload rfl l0 rfl ?_
      refine h_getR rfl o0 fr_1_0 ?_
      refine h_aload rfl l0 rfl ?_
      refine h_getI rfl o0 fi_1_5 (fun b43a b43b => ?_)
      rw [hw5] at b43a b43b ⊢
      refine h_iload rfl l0 rfl ?_
      refine h_iadd rfl ?_
      refine h_ialdj ((A + i : Nat)) rfl o0 ai_2 rfl (by omega) (by omega) (fun b44a b44b => ?_)
      rw [hB (A + i : Nat) (by omega)] at b44a b44b ⊢
      refine i_ne (kn := kn) (t := 1) (tgt := 119) (np := 113) rfl (by unfold R32; omega) (by unfold R32; omega) (fun e45 => ?_) (fun e45 => ?_)
      · exact hx i w _ (by omega) hm (fun _ => by omega) o0 sm hJ7 hk l0
      · refine h_iincv k_1 rfl l0 rfl (fun vl46 l46 => ?_)
        refine h_goto rfl ?_
        refine ih (i + 1) w _ (by omega) (fun i' hi' => ?_) o0 sm hJ7 hk l46
        by_cases e : i' = i
        · rw [e]
          omega
        · exact hm i' (by omega)
theorem xrw_k {kn : sKn} {w0 : sW} {B : Nat → Int} {n L : Nat} (tx : txC B n L w0) (A M : Nat) (hAM : A + M ≤ n) (hM : M ≤ 7) (hd : ∀ i, i < M → ltc (B (A + i))) (h3 : gF w0 1 3 = ((A + M : Nat) : Int)) (h5 : gF w0 1 5 = (A : Int)) : ∀ (m j : Nat) (w : sW) (lv : List (Nat × Value)), j + m = 27 → (∀ i, i < j → ¬ kmt B A M i) → hO dH_tok w0 w → smW eRW w0 w → gJ w 1 7 = Int64.ofInt (e32 B A M) → gF w 1 4 = 5 → hL lv [(0, .ref 1), (1, hI M), (2, hI j)] → Tp (tX9_readWord kn) (fun r => ∃ w', r = (none, w', 0, 0) ∧ hO dH_tok w0 w' ∧ smW eRW w0 w' ∧ gJ w' 1 7 = Int64.ofInt (e32 B A M) ∧ ((kof (e27 B A M) = -1 ∧ gF w' 1 4 = 5) ∨ (0 ≤ kof (e27 B A M) ∧ gF w' 1 4 = 4 ∧ gF w' 1 6 = kof (e27 B A M)))) 67 (lv, [], w, 0, 0) := by
  intro m
  induction m with
  | zero =>
    intro j w lv hjm hnk o0 sm hJ7 hk l0
    obtain ⟨hB, hn1, hn2, hn940, hL940⟩ := txC_sm sm (by decide) tx
    have hw3 : gF w 1 3 = ((A + M : Nat) : Int) := (sm.1 1 3 (by decide)).trans h3
    have hw5 : gF w 1 5 = (A : Int) := (sm.1 1 5 (by decide)).trans h5
    refine h_iload rfl l0 rfl ?_
    refine h_intv k_27 rfl ?_
    refine i_ge (kn := kn) (t := 3) (tgt := 156) (np := 73) rfl (by unfold R32; omega) (by unfold R32; omega) (fun e41 => ?_) (fun e41 => ?_)
    · refine h_vret rfl ?_
      refine ⟨_, rfl, o0, sm, hJ7, Or.inl ⟨?_, hk⟩⟩
      rcases kof_cases (e27 B A M) with ⟨h, _⟩ | ⟨k, h1, _, h2⟩
      · exact h
      · exact absurd ((kmt_iff B A M k h1 hd).mpr h2) (hnk k (by omega))
    · omega
  | succ m ih =>
    intro j w lv hjm hnk o0 sm hJ7 hk l0
    have hj : j < 27 := by omega
    obtain ⟨hB, hn1, hn2, hn940, hL940⟩ := txC_sm sm (by decide) tx
    have hw3 : gF w 1 3 = ((A + M : Nat) : Int) := (sm.1 1 3 (by decide)).trans h3
    have hw5 : gF w 1 5 = (A : Int) := (sm.1 1 5 (by decide)).trans h5
    refine h_iload rfl l0 rfl ?_
    refine h_intv k_27 rfl ?_
    refine i_ge (kn := kn) (t := 3) (tgt := 156) (np := 73) rfl (by unfold R32; omega) (by unfold R32; omega) (fun e41 => ?_) (fun e41 => ?_)
    · omega
    · refine h_aload rfl l0 rfl ?_
      refine h_getI rfl o0 fi_1_4 (fun b42a b42b => ?_)
      rw [hk] at b42a b42b ⊢
      refine h_intv k_5 rfl ?_
      refine i_ne (kn := kn) (t := 1) (tgt := 156) (np := 81) rfl (by unfold R32; omega) (by unfold R32; omega) (fun e43 => ?_) (fun e43 => ?_)
      · omega
      · refine h_intv k_0 rfl ?_
        refine h_istore rfl l0 (fun vl44 l44 => ?_)
        refine xrw_i tx A M hAM hM hd h3 h5 j hj ?_ M 0 w _ (by omega) (fun i' hi' => by omega) o0 sm hJ7 hk l44
        intro i w lv hi hm hne o0 sm hJ7 hk l0
        obtain ⟨hB, hn1, hn2, hn940, hL940⟩ := txC_sm sm (by decide) tx
        have hw3 : gF w 1 3 = ((A + M : Nat) : Int) := (sm.1 1 3 (by decide)).trans h3
        have hw5 : gF w 1 5 = (A : Int) := (sm.1 1 5 (by decide)).trans h5
        refine h_iload rfl l0 rfl ?_
        refine h_iload rfl l0 rfl ?_
        refine i_ne (kn := kn) (t := 1) (tgt := 150) (np := 124) rfl (by unfold R32; omega) (by unfold R32; omega) (fun e41 => ?_) (fun e41 => ?_)
        · refine h_iincv k_1 rfl l0 rfl (fun vl42 l42 => ?_)
          refine h_goto rfl ?_
          refine ih (j + 1) w _ (by omega) (fun i' hi' => ?_) o0 sm hJ7 hk (hL_take 3 l42)
          by_cases e : i' = j
          · rw [e]
            intro hh
            by_cases e2 : i = M
            · have := hh.2
              rw [← e2] at this
              omega
            · exact hne (by omega) (hh.1 i (by omega))
          · exact hnk i' (by omega)
        · refine h_gets rfl ?_
          refine h_intv k_8 rfl ?_
          refine h_iload rfl l0 rfl ?_
          refine h_imul rfl ?_
          refine h_iload rfl l0 rfl ?_
          refine h_iadd rfl ?_
          rw [show 8 * j + i = ((8 * j + i : Nat) : Int) by omega]
          obtain ⟨hf43, hb43, hc43⟩ := s_chX (kn := kn) o0.1 (8 * j + i) (by omega)
          refine h_VK2 rfl o0 l0 rfl rfl hf43 ?_
          refine h_intv k_32 rfl ?_
          refine i_ne (kn := kn) (t := 1) (tgt := 150) (np := 140) rfl (by unfold R32; omega) (by unfold R32; omega) (fun e44 => ?_) (fun e44 => ?_)
          · refine h_iincv k_1 rfl l0 rfl (fun vl45 l45 => ?_)
            refine h_goto rfl ?_
            refine ih (j + 1) w _ (by omega) (fun i' hi' => ?_) o0 sm hJ7 hk (hL_take 3 l45)
            by_cases e : i' = j
            · rw [e]
              intro hh
              by_cases e2 : i = M
              · have := hh.2
                rw [← e2] at this
                omega
              · exact hne (by omega) (hh.1 i (by omega))
            · exact hnk i' (by omega)
          · refine h_aload rfl l0 rfl ?_
            refine h_intv k_4 rfl ?_
            refine x_putI rfl o0 fi_1_4 rfl (by omega) (by omega) (fun w46 o46 q47a q47F q47X q47J q47Y q47R => ?_)
            refine h_aload rfl l0 rfl ?_
            refine h_iload rfl l0 rfl ?_
            refine x_putI rfl o46 fi_1_6 rfl (by omega) (by omega) (fun w48 o48 q49a q49F q49X q49J q49Y q49R => ?_)
            refine h_iincv k_1 rfl l0 rfl (fun vl50 l50 => ?_)
            refine h_goto rfl ?_
            refine h_iload rfl l50 rfl ?_
            refine h_intv k_27 rfl ?_
            refine i_ge (kn := kn) (t := 3) (tgt := 156) (np := 73) rfl (by unfold R32; omega) (by unfold R32; omega) (fun e51 => ?_) (fun e51 => ?_)
            · refine h_vret rfl ?_
              have hkm : kmt B A M j := ⟨fun i' hi' => hm i' (by omega), by rw [show M = i by omega]; omega⟩
              have hkj : kof (e27 B A M) = (j : Int) := (kof_KW hj).mpr ((kmt_iff B A M j hj hd).mp hkm)
              exact ⟨_, rfl, o48, smW_tr (smW_tr sm (sm_pI (by decide) q47F q47X q47J q47Y q47R)) (sm_pI (by decide) q49F q49X q49J q49Y q49R), by rw [q49J 1 7, q47J 1 7, hJ7], Or.inr ⟨by omega, by rw [q49F 1 4 (by decide), q47a], by rw [q49a, hkj]⟩⟩
            · refine h_aload rfl l50 rfl ?_
              refine h_getI rfl o48 fi_1_4 (fun b52a b52b => ?_)
              rw [q49F 1 4 (by decide), q47a] at b52a b52b ⊢
              refine h_intv k_5 rfl ?_
              refine i_ne (kn := kn) (t := 1) (tgt := 156) (np := 81) rfl (by unfold R32; omega) (by unfold R32; omega) (fun e53 => ?_) (fun e53 => ?_)
              · refine h_vret rfl ?_
                have hkm : kmt B A M j := ⟨fun i' hi' => hm i' (by omega), by rw [show M = i by omega]; omega⟩
                have hkj : kof (e27 B A M) = (j : Int) := (kof_KW hj).mpr ((kmt_iff B A M j hj hd).mp hkm)
                exact ⟨_, rfl, o48, smW_tr (smW_tr sm (sm_pI (by decide) q47F q47X q47J q47Y q47R)) (sm_pI (by decide) q49F q49X q49J q49Y q49R), by rw [q49J 1 7, q47J 1 7, hJ7], Or.inr ⟨by omega, by rw [q49F 1 4 (by decide), q47a], by rw [q49a, hkj]⟩⟩
              · omega
theorem xrw_m {kn : sKn} {w0 : sW} {B : Nat → Int} {n L : Nat} (tx : txC B n L w0) (A M : Nat) (hAM : A + M ≤ n) (hM : M ≤ 7) (hd : ∀ i, i < M → ltc (B (A + i))) (h3 : gF w0 1 3 = ((A + M : Nat) : Int)) (h5 : gF w0 1 5 = (A : Int)) {w : sW} {lv : List (Nat × Value)} (z : Int) (o0 : hO dH_tok w0 w) (sm : smW eRW w0 w) (hJ7 : gJ w 1 7 = Int64.ofInt (e32 B A M)) (l0 : hL lv [(0, .ref 1), (1, hI z)]) : Tp (tX9_readWord kn) (fun r => ∃ w', r = (none, w', 0, 0) ∧ hO dH_tok w0 w' ∧ smW eRW w0 w' ∧ gJ w' 1 7 = Int64.ofInt (e32 B A M) ∧ ((kof (e27 B A M) = -1 ∧ gF w' 1 4 = 5) ∨ (0 ≤ kof (e27 B A M) ∧ gF w' 1 4 = 4 ∧ gF w' 1 6 = kof (e27 B A M)))) 50 (lv, [], w, 0, 0) := by
  obtain ⟨hB, hn1, hn2, hn940, hL940⟩ := txC_sm sm (by decide) tx
  have hw3 : gF w 1 3 = ((A + M : Nat) : Int) := (sm.1 1 3 (by decide)).trans h3
  have hw5 : gF w 1 5 = (A : Int) := (sm.1 1 5 (by decide)).trans h5
  refine h_aload rfl l0 rfl ?_
  refine h_intv k_5 rfl ?_
  refine x_putI rfl o0 fi_1_4 rfl (by omega) (by omega) (fun w41 o41 q42a q42F q42X q42J q42Y q42R => ?_)
  refine h_aload rfl l0 rfl ?_
  refine h_getI rfl o41 fi_1_3 (fun b43a b43b => ?_)
  rw [q42F 1 3 (by decide), hw3] at b43a b43b ⊢
  refine h_aload rfl l0 rfl ?_
  refine h_getI rfl o41 fi_1_5 (fun b44a b44b => ?_)
  rw [q42F 1 5 (by decide), hw5] at b44a b44b ⊢
  refine h_isub rfl ?_
  refine h_istore rfl l0 (fun vl45 l45 => ?_)
  refine h_intv k_0 rfl ?_
  refine h_istore rfl l45 (fun vl46 l46 => ?_)
  have em : ((A + M : Nat) : Int) - (A : Int) = (M : Int) := by omega
  rw [em] at l46
  exact xrw_k tx A M hAM hM hd h3 h5 27 0 w41 _ rfl (fun i hi => by omega) o41 (smW_tr sm (sm_pI (by decide) q42F q42X q42J q42Y q42R)) (by rw [q42J 1 7, hJ7]) (by rw [q42a]) l46
theorem xrw_n {kn : sKn} {w0 : sW} {B : Nat → Int} {n L : Nat} (tx : txC B n L w0) (A M : Nat) (hAM : A + M ≤ n) (hM : M ≤ 7) (hd : ∀ i, i < M → ltc (B (A + i))) (h3 : gF w0 1 3 = ((A + M : Nat) : Int)) (h5 : gF w0 1 5 = (A : Int)) : ∀ (m k : Nat) (w : sW) (lv : List (Nat × Value)), k + m = M → hO dH_tok w0 w → smW eRW w0 w → gJ w 1 7 = Int64.ofInt (e32 B A k) → hL lv [(0, .ref 1), (1, hI (A + k : Nat))] → Tp (tX9_readWord kn) (fun r => ∃ w', r = (none, w', 0, 0) ∧ hO dH_tok w0 w' ∧ smW eRW w0 w' ∧ gJ w' 1 7 = Int64.ofInt (e32 B A M) ∧ ((kof (e27 B A M) = -1 ∧ gF w' 1 4 = 5) ∨ (0 ≤ kof (e27 B A M) ∧ gF w' 1 4 = 4 ∧ gF w' 1 6 = kof (e27 B A M)))) 10 (lv, [], w, 0, 0) := by
  intro m
  induction m with
  | zero =>
    intro k w lv hkm o0 sm hJ7 l0
    obtain ⟨hB, hn1, hn2, hn940, hL940⟩ := txC_sm sm (by decide) tx
    have hw3 : gF w 1 3 = ((A + M : Nat) : Int) := (sm.1 1 3 (by decide)).trans h3
    have hw5 : gF w 1 5 = (A : Int) := (sm.1 1 5 (by decide)).trans h5
    refine h_iload rfl l0 rfl ?_
    refine h_aload rfl l0 rfl ?_
    refine h_getI rfl o0 fi_1_3 (fun b41a b41b => ?_)
    rw [hw3] at b41a b41b ⊢
    refine i_ge (kn := kn) (t := 3) (tgt := 50) (np := 18) rfl (by unfold R32; omega) (by unfold R32; omega) (fun e42 => ?_) (fun e42 => ?_)
    · exact xrw_m tx A M hAM hM hd h3 h5 _ o0 sm (by rw [hJ7, show k = M by omega]) l0
    · omega
  | succ m ih =>
    intro k w lv hkm o0 sm hJ7 l0
    obtain ⟨hB, hn1, hn2, hn940, hL940⟩ := txC_sm sm (by decide) tx
    have hw3 : gF w 1 3 = ((A + M : Nat) : Int) := (sm.1 1 3 (by decide)).trans h3
    have hw5 : gF w 1 5 = (A : Int) := (sm.1 1 5 (by decide)).trans h5
    refine h_iload rfl l0 rfl ?_
    refine h_aload rfl l0 rfl ?_
    refine h_getI rfl o0 fi_1_3 (fun b41a b41b => ?_)
    rw [hw3] at b41a b41b ⊢
    refine i_ge (kn := kn) (t := 3) (tgt := 50) (np := 18) rfl (by unfold R32; omega) (by unfold R32; omega) (fun e42 => ?_) (fun e42 => ?_)
    · omega
    · refine h_aload rfl l0 rfl ?_
      refine x_long 32 (by decide +kernel) rfl ?_
      refine h_aload rfl l0 rfl ?_
      refine h_getJv rfl o0 fj_1_7 ?_
      rw [hJ7]
      refine x_lmul rfl ?_
      refine h_aload rfl l0 rfl ?_
      refine h_getR rfl o0 fr_1_0 ?_
      refine h_iload rfl l0 rfl ?_
      refine h_ialdj ((A + k : Nat)) rfl o0 ai_2 rfl (by omega) (by omega) (fun b43a b43b => ?_)
      rw [hB (A + k : Nat) (by omega)] at b43a b43b ⊢
      refine x_i2l (by unfold R32; omega) rfl ?_
      refine x_ladd rfl ?_
      refine x_long 97 (by decide +kernel) rfl ?_
      refine x_lsub rfl ?_
      refine x_long 1 (by decide +kernel) rfl ?_
      refine x_ladd rfl ?_
      have ek : 32 * e32 B A k + B (A + k : Nat) - 97 + 1 = e32 B A (k + 1) := by
        have : e32 B A (k + 1) = 32 * e32 B A k + (B (A + k) - 96) := rfl
        omega
      rw [ek]
      refine x_putJ rfl o0 fj_1_7 rfl (fun w44 o44 q45a q45J q45X q45F q45Y q45R => ?_)
      refine h_iincv k_1 rfl l0 rfl (fun vl46 l46 => ?_)
      refine h_goto rfl ?_
      exact ih (k + 1) w44 _ (by omega) o44 (smW_tr sm (sm_pJ (by decide) q45J q45X q45F q45Y q45R)) (by rw [q45a]) l46
theorem x_readWord {kn : sKn} {w0 : sW} {B : Nat → Int} {n L : Nat} (tx : txC B n L w0) (hw : wOk ZZ w0) (A M : Nat) (hAM : A + M ≤ n) (hM : M ≤ 7) (hd : ∀ i, i < M → ltc (B (A + i))) (h3 : gF w0 1 3 = ((A + M : Nat) : Int)) (h5 : gF w0 1 5 = (A : Int)) : ∃ w', fX9_readWord kn [.ref 1] w0 = some (none, w', 0, 0) ∧ hO dH_tok w0 w' ∧ smW eRW w0 w' ∧ gJ w' 1 7 = Int64.ofInt (e32 B A M) ∧ ((kof (e27 B A M) = -1 ∧ gF w' 1 4 = 5) ∨ (0 ≤ kof (e27 B A M) ∧ gF w' 1 4 = 4 ∧ gF w' 1 6 = kof (e27 B A M))) := by
  have K : Tp (tX9_readWord kn) (fun r => ∃ w', r = (none, w', 0, 0) ∧ hO dH_tok w0 w' ∧ smW eRW w0 w' ∧ gJ w' 1 7 = Int64.ofInt (e32 B A M) ∧ ((kof (e27 B A M) = -1 ∧ gF w' 1 4 = 5) ∨ (0 ≤ kof (e27 B A M) ∧ gF w' 1 4 = 4 ∧ gF w' 1 6 = kof (e27 B A M)))) 0 (lv_args 0 [.ref 1], [], w0, 0, 0) := by
    have l0 : hL (lv_args 0 [.ref 1]) (lv_args 0 [.ref 1]) := hL_ex rfl
    have o0 : hO dH_tok w0 w0 := hO_rf hw
    have sm := smW_rf eRW w0
    refine h_aload rfl l0 rfl ?_
    refine x_long 0 (by decide +kernel) rfl ?_
    refine x_putJ rfl o0 fj_1_7 rfl (fun w41 o41 q42a q42J q42X q42F q42Y q42R => ?_)
    refine h_aload rfl l0 rfl ?_
    refine h_getI rfl o41 fi_1_5 (fun b43a b43b => ?_)
    rw [q42F 1 5, h5] at b43a b43b ⊢
    refine h_istore rfl l0 (fun vl44 l44 => ?_)
    exact xrw_n tx A M hAM hM hd h3 h5 M 0 w41 _ (by omega) o41 (smW_tr sm (sm_pJ (by decide) q42J q42X q42F q42Y q42R)) (by rw [q42a] <;> rfl) l44
  obtain ⟨r, h1, w2, h2, h3⟩ := h_meth1 (nL := 4) rfl K
  rw [h2] at h1
  exact ⟨w2, h1, h3⟩
theorem xad_z {kn : sKn} {w0 : sW} {B : Nat → Int} {n L : Nat} (tx : txC B n L w0) {A k E : Nat} (hE : E ≤ 940) (hk1 : 1 ≤ k) (hAk : A + k ≤ n) (hall : ∀ i, i < k → ltc (B (A + i)) ∨ dgc (B (A + i))) {w : sW} {lv : List (Nat × Value)} (o0 : hO dH_tok w0 w) (sm : smW eTk w0 w) (hw3 : gF w 1 3 = ((A + k : Nat) : Int)) (hw5 : gF w 1 5 = (A : Int)) (l0 : hL lv [(0, .ref 1), (1, hI E), (2, hI (nlt B A k))]) : Tp (tX9_advance kn) (fun r => ∃ w', r = (none, w', 0, 0) ∧ hO dH_tok w0 w' ∧ smW eTk w0 w' ∧ tkV n L (lexM B A k) (gF w' 1 4) (gF w' 1 5) (gF w' 1 6) (gJ w' 1 7) (gF w' 1 3)) 243 (lv, [], w, 0, 0) := by
  obtain ⟨hB, hn1, hn2, hn940, hL940⟩ := txC_sm sm (by decide) tx
  have hnk := nlt_le B A k
  refine h_aload rfl l0 rfl ?_
  refine h_getI rfl o0 fi_1_3 (fun b41a b41b => ?_)
  rw [hw3] at b41a b41b ⊢
  refine h_aload rfl l0 rfl ?_
  refine h_getI rfl o0 fi_1_5 (fun b42a b42b => ?_)
  rw [hw5] at b42a b42b ⊢
  refine h_isub rfl ?_
  rw [show ((A + k : Nat) : Int) - (A : Int) = (k : Int) by omega]
  refine h_istore rfl l0 (fun vl43 l43 => ?_)
  refine h_iload rfl l43 rfl ?_
  refine h_iload rfl l43 rfl ?_
  refine i_ne (kn := kn) (t := 1) (tgt := 271) (np := 258) rfl (by unfold R32; omega) (by unfold R32; omega) (fun e44 => ?_) (fun e44 => ?_)
  · refine h_iload rfl l43 rfl ?_
    refine j_ne (kn := kn) (t := 1) (tgt := 287) (np := 275) rfl (by unfold R32; omega) (fun e45 => ?_) (fun e45 => ?_)
    · refine h_aload rfl l43 rfl ?_
      refine h_intv k_1 rfl ?_
      refine x_putI rfl o0 fi_1_4 rfl (by omega) (by omega) (fun w46 o46 q47a q47F q47X q47J q47Y q47R => ?_)
      refine h_vret rfl ?_
      rw [lexM_x (fun hh => by omega) (fun hh => by omega)]
      exact ⟨_, rfl, o46, smW_tr sm (sm_pI (by decide) q47F q47X q47J q47Y q47R), by rw [q47F 1 5 (by decide), hw5], by rw [q47F 1 3 (by decide), hw3], Or.inr (Or.inl ⟨rfl, Or.inl (by rw [q47a])⟩)⟩
    · have h0 : nlt B A k = 0 := by omega
      refine h_iload rfl l43 rfl ?_
      refine h_intv k_3 rfl ?_
      refine i_gt (kn := kn) (t := 4) (tgt := 287) (np := 280) rfl (by unfold R32; omega) (by unfold R32; omega) (fun e48 => ?_) (fun e48 => ?_)
      · refine h_aload rfl l43 rfl ?_
        refine h_intv k_1 rfl ?_
        refine x_putI rfl o0 fi_1_4 rfl (by omega) (by omega) (fun w49 o49 q50a q50F q50X q50J q50Y q50R => ?_)
        refine h_vret rfl ?_
        rw [lexM_x (fun hh => by omega) (fun hh => by omega)]
        exact ⟨_, rfl, o49, smW_tr sm (sm_pI (by decide) q50F q50X q50J q50Y q50R), by rw [q50F 1 5 (by decide), hw5], by rw [q50F 1 3 (by decide), hw3], Or.inr (Or.inl ⟨rfl, Or.inl (by rw [q50a])⟩)⟩
      · refine h_aload rfl l43 rfl ?_
        obtain ⟨wA, hf51, oA', sA, kA, vA⟩ := x_readNumber (kn := kn) (txC_sm sm (by decide) tx) o0.1 A k hAk (by omega) (fun i hi => (hall i hi).resolve_left (nlt_none h0 i hi)) hw3 hw5
        have oA : hO dH_tok w0 wA := hO_tr o0 oA'
        refine h_W1 rfl o0 l43 ci_1 rfl rfl hf51 ?_
        refine h_goto rfl ?_
        refine h_vret rfl ?_
        rw [lexM_d (fun hh => by omega) h0 (by omega)]
        exact ⟨_, rfl, oA, smW_tr sm (smW_mono (by decide) sA), (sA.1 1 5 (by decide)).trans hw5, (sA.1 1 3 (by decide)).trans hw3, Or.inr (Or.inr (Or.inr (Or.inl ⟨rfl, kA, vA⟩)))⟩
  · have heq : nlt B A k = k := by omega
    refine h_iload rfl l43 rfl ?_
    refine h_intv k_7 rfl ?_
    refine i_gt (kn := kn) (t := 4) (tgt := 271) (np := 264) rfl (by unfold R32; omega) (by unfold R32; omega) (fun e52 => ?_) (fun e52 => ?_)
    · refine h_iload rfl l43 rfl ?_
      refine j_ne (kn := kn) (t := 1) (tgt := 287) (np := 275) rfl (by unfold R32; omega) (fun e53 => ?_) (fun e53 => ?_)
      · refine h_aload rfl l43 rfl ?_
        refine h_intv k_1 rfl ?_
        refine x_putI rfl o0 fi_1_4 rfl (by omega) (by omega) (fun w54 o54 q55a q55F q55X q55J q55Y q55R => ?_)
        refine h_vret rfl ?_
        rw [lexM_x (fun hh => by omega) (fun hh => by omega)]
        exact ⟨_, rfl, o54, smW_tr sm (sm_pI (by decide) q55F q55X q55J q55Y q55R), by rw [q55F 1 5 (by decide), hw5], by rw [q55F 1 3 (by decide), hw3], Or.inr (Or.inl ⟨rfl, Or.inl (by rw [q55a])⟩)⟩
      · have h0 : nlt B A k = 0 := by omega
        refine h_iload rfl l43 rfl ?_
        refine h_intv k_3 rfl ?_
        refine i_gt (kn := kn) (t := 4) (tgt := 287) (np := 280) rfl (by unfold R32; omega) (by unfold R32; omega) (fun e56 => ?_) (fun e56 => ?_)
        · refine h_aload rfl l43 rfl ?_
          refine h_intv k_1 rfl ?_
          refine x_putI rfl o0 fi_1_4 rfl (by omega) (by omega) (fun w57 o57 q58a q58F q58X q58J q58Y q58R => ?_)
          refine h_vret rfl ?_
          rw [lexM_x (fun hh => by omega) (fun hh => by omega)]
          exact ⟨_, rfl, o57, smW_tr sm (sm_pI (by decide) q58F q58X q58J q58Y q58R), by rw [q58F 1 5 (by decide), hw5], by rw [q58F 1 3 (by decide), hw3], Or.inr (Or.inl ⟨rfl, Or.inl (by rw [q58a])⟩)⟩
        · refine h_aload rfl l43 rfl ?_
          obtain ⟨wA, hf59, oA', sA, kA, vA⟩ := x_readNumber (kn := kn) (txC_sm sm (by decide) tx) o0.1 A k hAk (by omega) (fun i hi => (hall i hi).resolve_left (nlt_none h0 i hi)) hw3 hw5
          have oA : hO dH_tok w0 wA := hO_tr o0 oA'
          refine h_W1 rfl o0 l43 ci_1 rfl rfl hf59 ?_
          refine h_goto rfl ?_
          refine h_vret rfl ?_
          rw [lexM_d (fun hh => by omega) h0 (by omega)]
          exact ⟨_, rfl, oA, smW_tr sm (smW_mono (by decide) sA), (sA.1 1 5 (by decide)).trans hw5, (sA.1 1 3 (by decide)).trans hw3, Or.inr (Or.inr (Or.inr (Or.inl ⟨rfl, kA, vA⟩)))⟩
    · refine h_aload rfl l43 rfl ?_
      obtain ⟨wA, hf60, oA', sA, jA, qA⟩ := x_readWord (kn := kn) (txC_sm sm (by decide) tx) o0.1 A k hAk (by omega) (nlt_all heq) hw3 hw5
      have oA : hO dH_tok w0 wA := hO_tr o0 oA'
      refine h_W1 rfl o0 l43 ci_1 rfl rfl hf60 ?_
      refine h_goto rfl ?_
      refine h_vret rfl ?_
      rcases qA with ⟨k1, k2⟩ | ⟨k1, k2, k3⟩
      · rw [lexM_n heq (by omega) k1]
        exact ⟨_, rfl, oA, smW_tr sm (smW_mono (by decide) sA), (sA.1 1 5 (by decide)).trans hw5, (sA.1 1 3 (by decide)).trans hw3, Or.inr (Or.inr (Or.inr (Or.inr (Or.inr (⟨rfl, k2, by rw [jA, c32_e B A k 7 (by omega) (nlt_all heq)]⟩)))))⟩
      · rw [lexM_k heq (by omega) (by omega)]
        exact ⟨_, rfl, oA, smW_tr sm (smW_mono (by decide) sA), (sA.1 1 5 (by decide)).trans hw5, (sA.1 1 3 (by decide)).trans hw3, Or.inr (Or.inr (Or.inr (Or.inr (Or.inl ⟨rfl, k2, k3⟩))))⟩
theorem xad_l {kn : sKn} {w0 : sW} {B : Nat → Int} {n L : Nat} (tx : txC B n L w0) {A E : Nat} (hE : E ≤ 940) : ∀ (m k : Nat) (w : sW) (lv : List (Nat × Value)), A + k + m = n → 1 ≤ k → (∀ i, i < k → ltc (B (A + i)) ∨ dgc (B (A + i))) → hO dH_tok w0 w → smW eTk w0 w → gF w 1 3 = ((A + k : Nat) : Int) → gF w 1 5 = (A : Int) → hL lv [(0, .ref 1), (1, hI E), (2, hI (nlt B A k))] → Tp (tX9_advance kn) (fun r => ∃ w', r = (none, w', 0, 0) ∧ hO dH_tok w0 w' ∧ smW eTk w0 w' ∧ tkV n L (lexM B A (ale B m (A + k) - A)) (gF w' 1 4) (gF w' 1 5) (gF w' 1 6) (gJ w' 1 7) (gF w' 1 3)) 166 (lv, [], w, 0, 0) := by
  intro m
  induction m with
  | zero =>
    intro k w lv hkm hk1 hall o0 sm hw3 hw5 l0
    obtain ⟨hB, hn1, hn2, hn940, hL940⟩ := txC_sm sm (by decide) tx
    refine h_aload rfl l0 rfl ?_
    refine h_getI rfl o0 fi_1_3 (fun b41a b41b => ?_)
    rw [hw3] at b41a b41b ⊢
    refine h_aload rfl l0 rfl ?_
    refine h_getI rfl o0 fi_1_1 (fun b42a b42b => ?_)
    rw [hn1] at b42a b42b ⊢
    refine i_ge (kn := kn) (t := 3) (tgt := 243) (np := 177) rfl (by unfold R32; omega) (by unfold R32; omega) (fun e43 => ?_) (fun e43 => ?_)
    · have hq : ale B 0 (A + k) = A + k := rfl
      rw [hq, Nat.add_sub_cancel_left]
      exact xad_z tx hE hk1 (by omega) hall o0 sm hw3 hw5 l0
    · omega
  | succ m ih =>
    intro k w lv hkm hk1 hall o0 sm hw3 hw5 l0
    obtain ⟨hB, hn1, hn2, hn940, hL940⟩ := txC_sm sm (by decide) tx
    refine h_aload rfl l0 rfl ?_
    refine h_getI rfl o0 fi_1_3 (fun b41a b41b => ?_)
    rw [hw3] at b41a b41b ⊢
    refine h_aload rfl l0 rfl ?_
    refine h_getI rfl o0 fi_1_1 (fun b42a b42b => ?_)
    rw [hn1] at b42a b42b ⊢
    refine i_ge (kn := kn) (t := 3) (tgt := 243) (np := 177) rfl (by unfold R32; omega) (by unfold R32; omega) (fun e43 => ?_) (fun e43 => ?_)
    · omega
    · refine h_aload rfl l0 rfl ?_
      refine h_getR rfl o0 fr_1_0 ?_
      refine h_aload rfl l0 rfl ?_
      refine h_getI rfl o0 fi_1_3 (fun b44a b44b => ?_)
      rw [hw3] at b44a b44b ⊢
      refine h_ialdj ((A + k : Nat)) rfl o0 ai_2 rfl (by omega) (by omega) (fun b45a b45b => ?_)
      rw [hB (A + k : Nat) (by omega)] at b45a b45b ⊢
      obtain ⟨z46, hf46, hz46⟩ := x_isLet9 (kn := kn) o0.1 (B (A + k : Nat)) ⟨by omega, by omega⟩
      refine h_S1 rfl o0 l0 rfl rfl hf46 ?_
      refine j_ne (kn := kn) (t := 1) (tgt := 207) (np := 192) rfl (by unfold R32; omega) (fun e47 => ?_) (fun e47 => ?_)
      · have hal : ltc (B (A + k)) ∨ dgc (B (A + k)) := by
          show (97 ≤ B (A + k) ∧ B (A + k) ≤ 122) ∨ (48 ≤ B (A + k) ∧ B (A + k) ≤ 57)
          omega
        refine h_iload rfl l0 rfl ?_
        refine h_aload rfl l0 rfl ?_
        refine h_getR rfl o0 fr_1_0 ?_
        refine h_aload rfl l0 rfl ?_
        refine h_getI rfl o0 fi_1_3 (fun b48a b48b => ?_)
        rw [hw3] at b48a b48b ⊢
        refine h_ialdj ((A + k : Nat)) rfl o0 ai_2 rfl (by omega) (by omega) (fun b49a b49b => ?_)
        rw [hB (A + k : Nat) (by omega)] at b49a b49b ⊢
        obtain ⟨z50, hf50, hz50⟩ := x_isLet9 (kn := kn) o0.1 (B (A + k : Nat)) ⟨by omega, by omega⟩
        refine h_S1 rfl o0 l0 rfl rfl hf50 ?_
        refine j_eq (kn := kn) (t := 0) (tgt := 227) (np := 223) rfl (by unfold R32; omega) (fun e51 => ?_) (fun e51 => ?_)
        · have hlt : ¬ ltc (B (A + k)) := fun hh => by
            have hh : 97 ≤ B (A + k) ∧ B (A + k) ≤ 122 := hh
            omega
          refine h_intv k_0 rfl ?_
          refine h_iadd rfl ?_
          refine h_istore rfl l0 (fun vl52 l52 => ?_)
          refine h_aload rfl l52 rfl ?_
          refine h_dup rfl rfl ?_
          refine h_getI rfl o0 fi_1_3 (fun b53a b53b => ?_)
          rw [hw3] at b53a b53b ⊢
          refine h_intv k_1 rfl ?_
          refine h_iadd rfl ?_
          refine x_putI rfl o0 fi_1_3 rfl (by omega) (by omega) (fun w54 o54 q55a q55F q55X q55J q55Y q55R => ?_)
          refine h_goto rfl ?_
          have hq : ale B (m + 1) (A + k) = ale B m (A + (k + 1)) := ale_y hal
          rw [hq]
          have hn : ((nlt B A (k + 1) : Nat) : Int) = (nlt B A k : Int) + 0 := by
            rw [nlt_n hlt]
            omega
          rw [← hn] at l52
          exact ih (k + 1) w54 _ (by omega) (by omega) (fun i hi => by
            by_cases e : i = k
            · rw [e]
              exact hal
            · exact hall i (by omega)) o54 (smW_tr sm (sm_pI (by decide) q55F q55X q55J q55Y q55R)) (by rw [q55a]; omega) (by rw [q55F 1 5 (by decide), hw5]) l52
        · have hlt : ltc (B (A + k)) := by
            show 97 ≤ B (A + k) ∧ B (A + k) ≤ 122
            omega
          refine h_intv k_1 rfl ?_
          refine h_goto rfl ?_
          refine h_iadd rfl ?_
          refine h_istore rfl l0 (fun vl56 l56 => ?_)
          refine h_aload rfl l56 rfl ?_
          refine h_dup rfl rfl ?_
          refine h_getI rfl o0 fi_1_3 (fun b57a b57b => ?_)
          rw [hw3] at b57a b57b ⊢
          refine h_intv k_1 rfl ?_
          refine h_iadd rfl ?_
          refine x_putI rfl o0 fi_1_3 rfl (by omega) (by omega) (fun w58 o58 q59a q59F q59X q59J q59Y q59R => ?_)
          refine h_goto rfl ?_
          have hq : ale B (m + 1) (A + k) = ale B m (A + (k + 1)) := ale_y hal
          rw [hq]
          have hn : ((nlt B A (k + 1) : Nat) : Int) = (nlt B A k : Int) + 1 := by
            rw [nlt_y hlt]
            omega
          rw [← hn] at l56
          exact ih (k + 1) w58 _ (by omega) (by omega) (fun i hi => by
            by_cases e : i = k
            · rw [e]
              exact hal
            · exact hall i (by omega)) o58 (smW_tr sm (sm_pI (by decide) q59F q59X q59J q59Y q59R)) (by rw [q59a]; omega) (by rw [q59F 1 5 (by decide), hw5]) l56
      · refine h_aload rfl l0 rfl ?_
        refine h_getR rfl o0 fr_1_0 ?_
        refine h_aload rfl l0 rfl ?_
        refine h_getI rfl o0 fi_1_3 (fun b60a b60b => ?_)
        rw [hw3] at b60a b60b ⊢
        refine h_ialdj ((A + k : Nat)) rfl o0 ai_2 rfl (by omega) (by omega) (fun b61a b61b => ?_)
        rw [hB (A + k : Nat) (by omega)] at b61a b61b ⊢
        obtain ⟨z62, hf62, hz62⟩ := x_isDig9 (kn := kn) o0.1 (B (A + k : Nat)) ⟨by omega, by omega⟩
        refine h_S1 rfl o0 l0 rfl rfl hf62 ?_
        refine j_eq (kn := kn) (t := 0) (tgt := 243) (np := 207) rfl (by unfold R32; omega) (fun e63 => ?_) (fun e63 => ?_)
        · have hq : ale B (m + 1) (A + k) = A + k := ale_n (fun hh => by
            have hh : (97 ≤ B (A + k) ∧ B (A + k) ≤ 122) ∨ (48 ≤ B (A + k) ∧ B (A + k) ≤ 57) := hh
            omega)
          rw [hq, Nat.add_sub_cancel_left]
          exact xad_z tx hE hk1 (by omega) hall o0 sm hw3 hw5 l0
        · have hal : ltc (B (A + k)) ∨ dgc (B (A + k)) := by
            show (97 ≤ B (A + k) ∧ B (A + k) ≤ 122) ∨ (48 ≤ B (A + k) ∧ B (A + k) ≤ 57)
            omega
          refine h_iload rfl l0 rfl ?_
          refine h_aload rfl l0 rfl ?_
          refine h_getR rfl o0 fr_1_0 ?_
          refine h_aload rfl l0 rfl ?_
          refine h_getI rfl o0 fi_1_3 (fun b64a b64b => ?_)
          rw [hw3] at b64a b64b ⊢
          refine h_ialdj ((A + k : Nat)) rfl o0 ai_2 rfl (by omega) (by omega) (fun b65a b65b => ?_)
          rw [hB (A + k : Nat) (by omega)] at b65a b65b ⊢
          obtain ⟨z66, hf66, hz66⟩ := x_isLet9 (kn := kn) o0.1 (B (A + k : Nat)) ⟨by omega, by omega⟩
          refine h_S1 rfl o0 l0 rfl rfl hf66 ?_
          refine j_eq (kn := kn) (t := 0) (tgt := 227) (np := 223) rfl (by unfold R32; omega) (fun e67 => ?_) (fun e67 => ?_)
          · have hlt : ¬ ltc (B (A + k)) := fun hh => by
              have hh : 97 ≤ B (A + k) ∧ B (A + k) ≤ 122 := hh
              omega
            refine h_intv k_0 rfl ?_
            refine h_iadd rfl ?_
            refine h_istore rfl l0 (fun vl68 l68 => ?_)
            refine h_aload rfl l68 rfl ?_
            refine h_dup rfl rfl ?_
            refine h_getI rfl o0 fi_1_3 (fun b69a b69b => ?_)
            rw [hw3] at b69a b69b ⊢
            refine h_intv k_1 rfl ?_
            refine h_iadd rfl ?_
            refine x_putI rfl o0 fi_1_3 rfl (by omega) (by omega) (fun w70 o70 q71a q71F q71X q71J q71Y q71R => ?_)
            refine h_goto rfl ?_
            have hq : ale B (m + 1) (A + k) = ale B m (A + (k + 1)) := ale_y hal
            rw [hq]
            have hn : ((nlt B A (k + 1) : Nat) : Int) = (nlt B A k : Int) + 0 := by
              rw [nlt_n hlt]
              omega
            rw [← hn] at l68
            exact ih (k + 1) w70 _ (by omega) (by omega) (fun i hi => by
              by_cases e : i = k
              · rw [e]
                exact hal
              · exact hall i (by omega)) o70 (smW_tr sm (sm_pI (by decide) q71F q71X q71J q71Y q71R)) (by rw [q71a]; omega) (by rw [q71F 1 5 (by decide), hw5]) l68
          · have hlt : ltc (B (A + k)) := by
              show 97 ≤ B (A + k) ∧ B (A + k) ≤ 122
              omega
            refine h_intv k_1 rfl ?_
            refine h_goto rfl ?_
            refine h_iadd rfl ?_
            refine h_istore rfl l0 (fun vl72 l72 => ?_)
            refine h_aload rfl l72 rfl ?_
            refine h_dup rfl rfl ?_
            refine h_getI rfl o0 fi_1_3 (fun b73a b73b => ?_)
            rw [hw3] at b73a b73b ⊢
            refine h_intv k_1 rfl ?_
            refine h_iadd rfl ?_
            refine x_putI rfl o0 fi_1_3 rfl (by omega) (by omega) (fun w74 o74 q75a q75F q75X q75J q75Y q75R => ?_)
            refine h_goto rfl ?_
            have hq : ale B (m + 1) (A + k) = ale B m (A + (k + 1)) := ale_y hal
            rw [hq]
            have hn : ((nlt B A (k + 1) : Nat) : Int) = (nlt B A k : Int) + 1 := by
              rw [nlt_y hlt]
              omega
            rw [← hn] at l72
            exact ih (k + 1) w74 _ (by omega) (by omega) (fun i hi => by
              by_cases e : i = k
              · rw [e]
                exact hal
              · exact hall i (by omega)) o74 (smW_tr sm (sm_pI (by decide) q75F q75X q75J q75Y q75R)) (by rw [q75a]; omega) (by rw [q75F 1 5 (by decide), hw5]) l72
theorem xad_c {kn : sKn} {w0 : sW} {B : Nat → Int} {n L : Nat} (tx : txC B n L w0) {q E : Nat} (hE : E ≤ 940) (hEm : E = min n L) (hq : q ≤ n) {w : sW} {lv : List (Nat × Value)} (o0 : hO dH_tok w0 w) (sm : smW eTk w0 w) (hw3 : gF w 1 3 = (q : Int)) (l0 : hL lv [(0, .ref 1), (1, hI E)]) : Tp (tX9_advance kn) (fun r => ∃ w', r = (none, w', 0, 0) ∧ hO dH_tok w0 w' ∧ smW eTk w0 w' ∧ tkV n L (lexQ B n L q) (gF w' 1 4) (gF w' 1 5) (gF w' 1 6) (gJ w' 1 7) (gF w' 1 3)) 61 (lv, [], w, 0, 0) := by
  obtain ⟨hB, hn1, hn2, hn940, hL940⟩ := txC_sm sm (by decide) tx
  refine h_aload rfl l0 rfl ?_
  refine h_aload rfl l0 rfl ?_
  refine h_getI rfl o0 fi_1_3 (fun b41a b41b => ?_)
  rw [hw3] at b41a b41b ⊢
  refine h_iload rfl l0 rfl ?_
  refine h_mmin rfl rfl (by unfold R32; omega) (by unfold R32; omega) (fun m42 hm42 => ?_)
  refine x_putI rfl o0 fi_1_5 rfl (by omega) (by omega) (fun w43 o43 q44a q44F q44X q44J q44Y q44R => ?_)
  refine h_aload rfl l0 rfl ?_
  refine h_getI rfl o43 fi_1_3 (fun b45a b45b => ?_)
  rw [q44F 1 3 (by decide), hw3] at b45a b45b ⊢
  refine h_iload rfl l0 rfl ?_
  refine i_lt (kn := kn) (t := 2) (tgt := 87) (np := 81) rfl (by unfold R32; omega) (by unfold R32; omega) (fun e46 => ?_) (fun e46 => ?_)
  · refine h_aload rfl l0 rfl ?_
    refine h_aload rfl l0 rfl ?_
    refine h_getR rfl o43 fr_1_0 ?_
    refine h_aload rfl l0 rfl ?_
    refine h_getI rfl o43 fi_1_3 (fun b47a b47b => ?_)
    rw [q44F 1 3 (by decide), hw3] at b47a b47b ⊢
    refine h_ialdj (q) rfl o43 ai_2 rfl (by omega) (by omega) (fun b48a b48b => ?_)
    rw [q44X 2 q, hB q (by omega)] at b48a b48b ⊢
    refine x_putI rfl o43 fi_1_6 rfl (by omega) (by omega) (fun w49 o49 q50a q50F q50X q50J q50Y q50R => ?_)
    refine h_aload rfl l0 rfl ?_
    refine h_dup rfl rfl ?_
    refine h_getI rfl o49 fi_1_3 (fun b51a b51b => ?_)
    rw [q50F 1 3 (by decide), q44F 1 3 (by decide), hw3] at b51a b51b ⊢
    refine h_intv k_1 rfl ?_
    refine h_iadd rfl ?_
    refine x_putI rfl o49 fi_1_3 rfl (by omega) (by omega) (fun w52 o52 q53a q53F q53X q53J q53Y q53R => ?_)
    refine h_aload rfl l0 rfl ?_
    refine h_getI rfl o52 fi_1_6 (fun b54a b54b => ?_)
    rw [q53F 1 6 (by decide), q50a] at b54a b54b ⊢
    obtain ⟨z55, hf55, hz55⟩ := x_isLet9 (kn := kn) o52.1 (B q) ⟨by omega, by omega⟩
    refine h_S1 rfl o52 l0 rfl rfl hf55 ?_
    refine j_ne (kn := kn) (t := 1) (tgt := 150) (np := 120) rfl (by unfold R32; omega) (fun e56 => ?_) (fun e56 => ?_)
    · have hal : ltc (B q) ∨ dgc (B q) := by
        show (97 ≤ B q ∧ B q ≤ 122) ∨ (48 ≤ B q ∧ B q ≤ 57)
        omega
      refine h_aload rfl l0 rfl ?_
      refine h_getI rfl o52 fi_1_6 (fun b57a b57b => ?_)
      rw [q53F 1 6 (by decide), q50a] at b57a b57b ⊢
      obtain ⟨z58, hf58, hz58⟩ := x_isLet9 (kn := kn) o52.1 (B q) ⟨by omega, by omega⟩
      refine h_S1 rfl o52 l0 rfl rfl hf58 ?_
      refine j_eq (kn := kn) (t := 0) (tgt := 164) (np := 160) rfl (by unfold R32; omega) (fun e59 => ?_) (fun e59 => ?_)
      · have hlt : ¬ ltc (B (q + 0)) := fun hh => by
          have hh : 97 ≤ B q ∧ B q ≤ 122 := hh
          omega
        refine h_intv k_0 rfl ?_
        refine h_istore rfl l0 (fun vl60 l60 => ?_)
        rw [lexQ_a (by omega) hal]
        have hn : ((nlt B q 1 : Nat) : Int) = 0 := by
          rw [show (1 : Nat) = 0 + 1 from rfl, nlt_n hlt]
          rfl
        rw [← hn] at l60
        exact xad_l tx hE (n - (q + 1)) 1 w52 _ (by omega) (by omega) (fun i hi => by
          rw [show i = 0 by omega]
          exact hal) o52 (smW_tr (smW_tr (smW_tr sm (sm_pI (by decide) q44F q44X q44J q44Y q44R)) (sm_pI (by decide) q50F q50X q50J q50Y q50R)) (sm_pI (by decide) q53F q53X q53J q53Y q53R)) (by rw [q53a] <;> omega) (by rw [q53F 1 5 (by decide), q50F 1 5 (by decide), q44a] <;> omega) l60
      · have hlt : ltc (B (q + 0)) := by
          show 97 ≤ B q ∧ B q ≤ 122
          omega
        refine h_intv k_1 rfl ?_
        refine h_goto rfl ?_
        refine h_istore rfl l0 (fun vl61 l61 => ?_)
        rw [lexQ_a (by omega) hal]
        have hn : ((nlt B q 1 : Nat) : Int) = 1 := by
          rw [show (1 : Nat) = 0 + 1 from rfl, nlt_y hlt]
          rfl
        rw [← hn] at l61
        exact xad_l tx hE (n - (q + 1)) 1 w52 _ (by omega) (by omega) (fun i hi => by
          rw [show i = 0 by omega]
          exact hal) o52 (smW_tr (smW_tr (smW_tr sm (sm_pI (by decide) q44F q44X q44J q44Y q44R)) (sm_pI (by decide) q50F q50X q50J q50Y q50R)) (sm_pI (by decide) q53F q53X q53J q53Y q53R)) (by rw [q53a] <;> omega) (by rw [q53F 1 5 (by decide), q50F 1 5 (by decide), q44a] <;> omega) l61
    · refine h_aload rfl l0 rfl ?_
      refine h_getI rfl o52 fi_1_6 (fun b62a b62b => ?_)
      rw [q53F 1 6 (by decide), q50a] at b62a b62b ⊢
      obtain ⟨z63, hf63, hz63⟩ := x_isDig9 (kn := kn) o52.1 (B q) ⟨by omega, by omega⟩
      refine h_S1 rfl o52 l0 rfl rfl hf63 ?_
      refine j_ne (kn := kn) (t := 1) (tgt := 150) (np := 130) rfl (by unfold R32; omega) (fun e64 => ?_) (fun e64 => ?_)
      · have hal : ltc (B q) ∨ dgc (B q) := by
          show (97 ≤ B q ∧ B q ≤ 122) ∨ (48 ≤ B q ∧ B q ≤ 57)
          omega
        refine h_aload rfl l0 rfl ?_
        refine h_getI rfl o52 fi_1_6 (fun b65a b65b => ?_)
        rw [q53F 1 6 (by decide), q50a] at b65a b65b ⊢
        obtain ⟨z66, hf66, hz66⟩ := x_isLet9 (kn := kn) o52.1 (B q) ⟨by omega, by omega⟩
        refine h_S1 rfl o52 l0 rfl rfl hf66 ?_
        refine j_eq (kn := kn) (t := 0) (tgt := 164) (np := 160) rfl (by unfold R32; omega) (fun e67 => ?_) (fun e67 => ?_)
        · have hlt : ¬ ltc (B (q + 0)) := fun hh => by
            have hh : 97 ≤ B q ∧ B q ≤ 122 := hh
            omega
          refine h_intv k_0 rfl ?_
          refine h_istore rfl l0 (fun vl68 l68 => ?_)
          rw [lexQ_a (by omega) hal]
          have hn : ((nlt B q 1 : Nat) : Int) = 0 := by
            rw [show (1 : Nat) = 0 + 1 from rfl, nlt_n hlt]
            rfl
          rw [← hn] at l68
          exact xad_l tx hE (n - (q + 1)) 1 w52 _ (by omega) (by omega) (fun i hi => by
            rw [show i = 0 by omega]
            exact hal) o52 (smW_tr (smW_tr (smW_tr sm (sm_pI (by decide) q44F q44X q44J q44Y q44R)) (sm_pI (by decide) q50F q50X q50J q50Y q50R)) (sm_pI (by decide) q53F q53X q53J q53Y q53R)) (by rw [q53a] <;> omega) (by rw [q53F 1 5 (by decide), q50F 1 5 (by decide), q44a] <;> omega) l68
        · have hlt : ltc (B (q + 0)) := by
            show 97 ≤ B q ∧ B q ≤ 122
            omega
          refine h_intv k_1 rfl ?_
          refine h_goto rfl ?_
          refine h_istore rfl l0 (fun vl69 l69 => ?_)
          rw [lexQ_a (by omega) hal]
          have hn : ((nlt B q 1 : Nat) : Int) = 1 := by
            rw [show (1 : Nat) = 0 + 1 from rfl, nlt_y hlt]
            rfl
          rw [← hn] at l69
          exact xad_l tx hE (n - (q + 1)) 1 w52 _ (by omega) (by omega) (fun i hi => by
            rw [show i = 0 by omega]
            exact hal) o52 (smW_tr (smW_tr (smW_tr sm (sm_pI (by decide) q44F q44X q44J q44Y q44R)) (sm_pI (by decide) q50F q50X q50J q50Y q50R)) (sm_pI (by decide) q53F q53X q53J q53Y q53R)) (by rw [q53a] <;> omega) (by rw [q53F 1 5 (by decide), q50F 1 5 (by decide), q44a] <;> omega) l69
      · refine h_aload rfl l0 rfl ?_
        refine h_aload rfl l0 rfl ?_
        refine h_getI rfl o52 fi_1_6 (fun b70a b70b => ?_)
        rw [q53F 1 6 (by decide), q50a] at b70a b70b ⊢
        obtain ⟨z71, hf71, hz71⟩ := x_isSgn9 (kn := kn) o52.1 (B q) ⟨by omega, by omega⟩
        refine h_S1 rfl o52 l0 rfl rfl hf71 ?_
        refine j_eq (kn := kn) (t := 0) (tgt := 145) (np := 141) rfl (by unfold R32; omega) (fun e72 => ?_) (fun e72 => ?_)
        · refine h_intv k_1 rfl ?_
          refine x_putI rfl o52 fi_1_4 rfl (by omega) (by omega) (fun w73 o73 q74a q74F q74X q74J q74Y q74R => ?_)
          refine h_vret rfl ?_
          have hna : ¬ (ltc (B q) ∨ dgc (B q)) := fun hh => by
            have hh : (97 ≤ B q ∧ B q ≤ 122) ∨ (48 ≤ B q ∧ B q ≤ 57) := hh
            omega
          have hs : ¬ sgk (B q) := fun hh => by
            have hh : B q = 59 ∨ B q = 60 ∨ B q = 61 ∨ B q = 62 ∨ B q = 40 ∨ B q = 41 := hh
            omega
          rw [lexQ_s (by omega) hna, if_neg hs]
          exact ⟨_, rfl, o73, smW_tr (smW_tr (smW_tr (smW_tr sm (sm_pI (by decide) q44F q44X q44J q44Y q44R)) (sm_pI (by decide) q50F q50X q50J q50Y q50R)) (sm_pI (by decide) q53F q53X q53J q53Y q53R)) (sm_pI (by decide) q74F q74X q74J q74Y q74R), by rw [q74F 1 5 (by decide), q53F 1 5 (by decide), q50F 1 5 (by decide), q44a]; show _ = (q : Int); omega, by rw [q74F 1 3 (by decide), q53a]; show _ = ((q + 1 : Nat) : Int); omega, Or.inr (Or.inl ⟨rfl, Or.inl (by rw [q74a])⟩)⟩
        · refine h_intv k_2 rfl ?_
          refine h_goto rfl ?_
          refine x_putI rfl o52 fi_1_4 rfl (by omega) (by omega) (fun w75 o75 q76a q76F q76X q76J q76Y q76R => ?_)
          refine h_vret rfl ?_
          have hna : ¬ (ltc (B q) ∨ dgc (B q)) := fun hh => by
            have hh : (97 ≤ B q ∧ B q ≤ 122) ∨ (48 ≤ B q ∧ B q ≤ 57) := hh
            omega
          have hs : sgk (B q) := by
            show B q = 59 ∨ B q = 60 ∨ B q = 61 ∨ B q = 62 ∨ B q = 40 ∨ B q = 41
            omega
          rw [lexQ_s (by omega) hna, if_pos hs]
          exact ⟨_, rfl, o75, smW_tr (smW_tr (smW_tr (smW_tr sm (sm_pI (by decide) q44F q44X q44J q44Y q44R)) (sm_pI (by decide) q50F q50X q50J q50Y q50R)) (sm_pI (by decide) q53F q53X q53J q53Y q53R)) (sm_pI (by decide) q76F q76X q76J q76Y q76R), by rw [q76F 1 5 (by decide), q53F 1 5 (by decide), q50F 1 5 (by decide), q44a]; show _ = (q : Int); omega, by rw [q76F 1 3 (by decide), q53a]; show _ = ((q + 1 : Nat) : Int); omega, Or.inr (Or.inr (Or.inl ⟨rfl, by rw [q76a], by rw [q76F 1 6 (by decide), q53F 1 6 (by decide), q50a]⟩))⟩
  · refine h_aload rfl l0 rfl ?_
    refine h_intv k_0 rfl ?_
    refine x_putI rfl o43 fi_1_4 rfl (by omega) (by omega) (fun w77 o77 q78a q78F q78X q78J q78Y q78R => ?_)
    refine h_vret rfl ?_
    rw [lexQ_e (by omega)]
    by_cases hnL : n ≤ L
    · rw [if_pos hnL]
      exact ⟨_, rfl, o77, smW_tr (smW_tr sm (sm_pI (by decide) q44F q44X q44J q44Y q44R)) (sm_pI (by decide) q78F q78X q78J q78Y q78R), by rw [q78F 1 5 (by decide), q44a]; show _ = ((min n L : Nat) : Int); omega, by rw [q78F 1 3 (by decide), q44F 1 3 (by decide), hw3], Or.inl ⟨rfl, by rw [q78a], hnL⟩⟩
    · rw [if_neg hnL]
      exact ⟨_, rfl, o77, smW_tr (smW_tr sm (sm_pI (by decide) q44F q44X q44J q44Y q44R)) (sm_pI (by decide) q78F q78X q78J q78Y q78R), by rw [q78F 1 5 (by decide), q44a]; show _ = ((min n L : Nat) : Int); omega, by rw [q78F 1 3 (by decide), q44F 1 3 (by decide), hw3], Or.inr (Or.inl ⟨rfl, Or.inr ⟨by rw [q78a], by omega⟩⟩)⟩
theorem xad_b {kn : sKn} {w0 : sW} {B : Nat → Int} {n L : Nat} (tx : txC B n L w0) {E : Nat} (hE : E ≤ 940) (hEm : E = min n L) : ∀ (m p : Nat) (w : sW) (lv : List (Nat × Value)), (p + m = E ∨ (m = 0 ∧ E ≤ p)) → p ≤ n → hO dH_tok w0 w → smW eTk w0 w → gF w 1 3 = (p : Int) → hL lv [(0, .ref 1), (1, hI E)] → Tp (tX9_advance kn) (fun r => ∃ w', r = (none, w', 0, 0) ∧ hO dH_tok w0 w' ∧ smW eTk w0 w' ∧ tkV n L (lexQ B n L (skp B m p)) (gF w' 1 4) (gF w' 1 5) (gF w' 1 6) (gJ w' 1 7) (gF w' 1 3)) 12 (lv, [], w, 0, 0) := by
  intro m
  induction m with
  | zero =>
    intro p w lv hpm hp o0 sm hw3 l0
    obtain ⟨hB, hn1, hn2, hn940, hL940⟩ := txC_sm sm (by decide) tx
    show Tp (tX9_advance kn) (fun r => ∃ w', r = (none, w', 0, 0) ∧ hO dH_tok w0 w' ∧ smW eTk w0 w' ∧ tkV n L (lexQ B n L p) (gF w' 1 4) (gF w' 1 5) (gF w' 1 6) (gJ w' 1 7) (gF w' 1 3)) 12 (lv, [], w, 0, 0)
    refine h_aload rfl l0 rfl ?_
    refine h_getI rfl o0 fi_1_3 (fun b41a b41b => ?_)
    rw [hw3] at b41a b41b ⊢
    refine h_iload rfl l0 rfl ?_
    refine i_ge (kn := kn) (t := 3) (tgt := 61) (np := 20) rfl (by unfold R32; omega) (by unfold R32; omega) (fun e42 => ?_) (fun e42 => ?_)
    · exact xad_c tx hE hEm hp o0 sm hw3 l0
    · omega
  | succ m ih =>
    intro p w lv hpm hp o0 sm hw3 l0
    obtain ⟨hB, hn1, hn2, hn940, hL940⟩ := txC_sm sm (by decide) tx
    refine h_aload rfl l0 rfl ?_
    refine h_getI rfl o0 fi_1_3 (fun b41a b41b => ?_)
    rw [hw3] at b41a b41b ⊢
    refine h_iload rfl l0 rfl ?_
    refine i_ge (kn := kn) (t := 3) (tgt := 61) (np := 20) rfl (by unfold R32; omega) (by unfold R32; omega) (fun e42 => ?_) (fun e42 => ?_)
    · omega
    · refine h_aload rfl l0 rfl ?_
      refine h_getR rfl o0 fr_1_0 ?_
      refine h_aload rfl l0 rfl ?_
      refine h_getI rfl o0 fi_1_3 (fun b43a b43b => ?_)
      rw [hw3] at b43a b43b ⊢
      refine h_ialdj (p) rfl o0 ai_2 rfl (by omega) (by omega) (fun b44a b44b => ?_)
      rw [hB p (by omega)] at b44a b44b ⊢
      refine h_intv k_32 rfl ?_
      refine i_eq (kn := kn) (t := 0) (tgt := 48) (np := 34) rfl (by unfold R32; omega) (by unfold R32; omega) (fun e45 => ?_) (fun e45 => ?_)
      · refine h_aload rfl l0 rfl ?_
        refine h_dup rfl rfl ?_
        refine h_getI rfl o0 fi_1_3 (fun b46a b46b => ?_)
        rw [hw3] at b46a b46b ⊢
        refine h_intv k_1 rfl ?_
        refine h_iadd rfl ?_
        refine x_putI rfl o0 fi_1_3 rfl (by omega) (by omega) (fun w47 o47 q48a q48F q48X q48J q48Y q48R => ?_)
        refine h_goto rfl ?_
        have hbl : B p = 32 ∨ B p = 10 := by omega
        rw [skp_y hbl]
        exact ih (p + 1) w47 _ (by omega) (by omega) o47 (smW_tr sm (sm_pI (by decide) q48F q48X q48J q48Y q48R)) (by rw [q48a] <;> omega) l0
      · refine h_aload rfl l0 rfl ?_
        refine h_getR rfl o0 fr_1_0 ?_
        refine h_aload rfl l0 rfl ?_
        refine h_getI rfl o0 fi_1_3 (fun b49a b49b => ?_)
        rw [hw3] at b49a b49b ⊢
        refine h_ialdj (p) rfl o0 ai_2 rfl (by omega) (by omega) (fun b50a b50b => ?_)
        rw [hB p (by omega)] at b50a b50b ⊢
        refine h_intv k_10 rfl ?_
        refine i_ne (kn := kn) (t := 1) (tgt := 61) (np := 48) rfl (by unfold R32; omega) (by unfold R32; omega) (fun e51 => ?_) (fun e51 => ?_)
        · rw [skp_n (fun hh => by omega)]
          exact xad_c tx hE hEm hp o0 sm hw3 l0
        · refine h_aload rfl l0 rfl ?_
          refine h_dup rfl rfl ?_
          refine h_getI rfl o0 fi_1_3 (fun b52a b52b => ?_)
          rw [hw3] at b52a b52b ⊢
          refine h_intv k_1 rfl ?_
          refine h_iadd rfl ?_
          refine x_putI rfl o0 fi_1_3 rfl (by omega) (by omega) (fun w53 o53 q54a q54F q54X q54J q54Y q54R => ?_)
          refine h_goto rfl ?_
          have hbl : B p = 32 ∨ B p = 10 := by omega
          rw [skp_y hbl]
          exact ih (p + 1) w53 _ (by omega) (by omega) o53 (smW_tr sm (sm_pI (by decide) q54F q54X q54J q54Y q54R)) (by rw [q54a] <;> omega) l0
theorem x_advance {kn : sKn} {w0 : sW} {B : Nat → Int} {n L : Nat} (tx : txC B n L w0) (hw : wOk ZZ w0) {p : Nat} (hp : p ≤ n) (h3 : gF w0 1 3 = (p : Int)) : ∃ w', fX9_advance kn [.ref 1] w0 = some (none, w', 0, 0) ∧ hO dH_tok w0 w' ∧ smW eTk w0 w' ∧ tkC B n L (lexT B n L p) w' := by
  have K : Tp (tX9_advance kn) (fun r => ∃ w', r = (none, w', 0, 0) ∧ hO dH_tok w0 w' ∧ smW eTk w0 w' ∧ tkV n L (lexT B n L p) (gF w' 1 4) (gF w' 1 5) (gF w' 1 6) (gJ w' 1 7) (gF w' 1 3)) 0 (lv_args 0 [.ref 1], [], w0, 0, 0) := by
    have l0 : hL (lv_args 0 [.ref 1]) (lv_args 0 [.ref 1]) := hL_ex rfl
    have o0 : hO dH_tok w0 w0 := hO_rf hw
    have sm := smW_rf eTk w0
    obtain ⟨hB, hn1, hn2, hn940, hL940⟩ := txC_sm sm (by decide) tx
    show Tp (tX9_advance kn) (fun r => ∃ w', r = (none, w', 0, 0) ∧ hO dH_tok w0 w' ∧ smW eTk w0 w' ∧ tkV n L (lexQ B n L (skp B (min n L - p) p)) (gF w' 1 4) (gF w' 1 5) (gF w' 1 6) (gJ w' 1 7) (gF w' 1 3)) 0 (lv_args 0 [.ref 1], [], w0, 0, 0)
    refine h_aload rfl l0 rfl ?_
    refine h_getI rfl o0 fi_1_1 (fun b41a b41b => ?_)
    rw [hn1] at b41a b41b ⊢
    refine h_aload rfl l0 rfl ?_
    refine h_getI rfl o0 fi_1_2 (fun b42a b42b => ?_)
    rw [hn2] at b42a b42b ⊢
    refine h_mmin rfl rfl (by unfold R32; omega) (by unfold R32; omega) (fun m43 hm43 => ?_)
    refine h_istore rfl l0 (fun vl44 l44 => ?_)
    have em : m43 = ((min n L : Nat) : Int) := by omega
    rw [em] at l44
    exact xad_b tx (E := min n L) (by omega) rfl (min n L - p) p w0 _ (by omega) hp o0 sm h3 l44
  obtain ⟨r, h1, w2, h2, h3, h4, h5⟩ := h_meth1 (nL := 4) rfl K
  rw [h2] at h1
  exact ⟨w2, h1, h3, h4, txC_sm h4 (by decide) tx, h5⟩
end
