noncomputable section
theorem l_get_app {ps r : List (Nat × Value)} {i : Nat} {v : Value} (h : l_get ps i = some v) : l_get (ps ++ r) i = some v := by
  induction ps with
  | nil => cases h
  | cons q s ih =>
    obtain ⟨q1, q2⟩ := q
    by_cases e : q1 = i
    · subst e
      rw [l_get_head] at h
      rw [List.cons_append, l_get_head]
      exact h
    · rw [l_get_skip e] at h
      rw [List.cons_append, l_get_skip e]
      exact ih h
theorem hL_take (n : Nat) {lv ps : List (Nat × Value)} (h : hL lv ps) : hL lv (ps.take n) := by
  refine ⟨fun i v hi => ?_, h.2⟩
  have := l_get_app (r := ps.drop n) hi
  rw [List.take_append_drop] at this
  exact h.1 i v this
/-- a step of best: no better than one that may follow, and not none where it need not be -/
def bsG (sp : Nat → Nat → Int) (B : Nat → Int) (R r k : Nat) : Prop := -1 ≤ B (4 * r + k) ∧ (r + 1 < R → B (4 * r + k) = -1 ∨ ∃ n, n ≤ 3 ∧ folP k n ∧ B (4 * r + k) ≤ B (4 * r + 4 + n)) ∧ (sp r k ≠ -1 → (r + 1 = R ∨ ∃ n, n ≤ 3 ∧ folP k n ∧ B (4 * r + 4 + n) ≠ -1) → B (4 * r + k) ≠ -1) ∧ (B (4 * r + k) ≠ -1 → sp r k ≠ -1)
def bsI (B : Nat → Int) (R r k n : Nat) (rho : Int) : Prop := -1 ≤ rho ∧ rho ≤ 2147483647 ∧ (r + 1 = R → rho = 100000) ∧ (r + 1 < R → (rho = -1 ∨ ∃ m, m ≤ 3 ∧ folP k m ∧ B (4 * r + 4 + m) = rho) ∧ ∀ m, m < n → m ≤ 3 → folP k m → B (4 * r + 4 + m) ≤ rho)
theorem bsI_s {B : Nat → Int} {R r k n : Nat} {rho : Int} (h : bsI B R r k n rho) (hn : ¬ folP k n ∨ B (4 * r + 4 + n) ≤ rho) : bsI B R r k (n + 1) rho := by
  obtain ⟨h1, h2, h3, h4⟩ := h
  refine ⟨h1, h2, h3, fun hr => ⟨(h4 hr).1, fun m hm h5 hf => ?_⟩⟩
  by_cases e : m = n
  · subst e
    rcases hn with hn | hn
    · exact absurd hf hn
    · exact hn
  · exact (h4 hr).2 m (by omega) h5 hf
theorem bsI_t {B : Nat → Int} {R r k n : Nat} {rho : Int} (h : bsI B R r k n rho) (hr : r + 1 < R) (hn : n ≤ 3) (hf : folP k n) (hb : rho < B (4 * r + 4 + n)) (hb2 : B (4 * r + 4 + n) ≤ 2147483647) : bsI B R r k (n + 1) (B (4 * r + 4 + n)) := by
  obtain ⟨h1, h2, h3, h4⟩ := h
  refine ⟨by omega, hb2, fun h => by omega, fun _ => ⟨Or.inr ⟨n, hn, hf, rfl⟩, fun m hm h5 hf2 => ?_⟩⟩
  by_cases e : m = n
  · subst e
    exact Int.le_refl _
  · have := (h4 hr).2 m (by omega) h5 hf2
    omega
theorem bsI_x {B : Nat → Int} {R r k n n' : Nat} {rho : Int} (h : bsI B R r k n rho) (hn : 3 < n ∨ R ≤ r + 1) : bsI B R r k n' rho := by
  obtain ⟨h1, h2, h3, h4⟩ := h
  refine ⟨h1, h2, h3, fun hr => ⟨(h4 hr).1, fun m hm h5 hf => (h4 hr).2 m (by omega) h5 hf⟩⟩
/-- what is put into best is good -/
theorem bsG_of {sp : Nat → Nat → Int} {B : Nat → Int} {R r k : Nat} {rho b : Int} (h : bsI B R r k 4 rho) (hv : -1 ≤ sp r k) (hrR : r < R) (hB : ∀ n, n ≤ 3 → r + 1 < R → -1 ≤ B (4 * r + 4 + n)) (hb : (b = -1 ∧ (sp r k = -1 ∨ rho = -1)) ∨ (sp r k ≠ -1 ∧ rho ≠ -1 ∧ ((b = sp r k ∧ sp r k < rho) ∨ (b = rho ∧ rho ≤ sp r k)))) {B' : Nat → Int} (h1 : B' (4 * r + k) = b) (h2 : ∀ n, n ≤ 3 → B' (4 * r + 4 + n) = B (4 * r + 4 + n)) : bsG sp B' R r k := by
  obtain ⟨g1, g2, g3, g4⟩ := h
  have q1 : -1 ≤ b := by clear g4 hB h2; omega
  have q2 : b ≠ -1 → sp r k ≠ -1 := by clear g4 hB h2; omega
  refine ⟨by rw [h1]; exact q1, fun hr => ?_, fun hs hx => ?_, by rw [h1]; exact q2⟩
  · rw [h1]
    obtain ⟨g5, g6⟩ := g4 hr
    rcases g5 with g5 | ⟨m, m1, m2, m3⟩
    · left; clear g4 hB h2 g6; omega
    · right
      exact ⟨m, m1, m2, by rw [h2 m m1]; clear g4 hB h2 g6; omega⟩
  · rw [h1]
    have hn : ∀ n, n ≤ 3 → folP k n → B' (4 * r + 4 + n) ≠ -1 → rho ≠ -1 := by
      intro n n1 n2 n3 z
      rw [h2 n n1] at n3
      by_cases e : r + 1 = R
      · have := g3 e
        omega
      · have e2 : r + 1 < R := by omega
        have := (g4 e2).2 n (by omega) n1 n2
        have := hB n n1 e2
        omega
    have hrho : rho ≠ -1 := by
      rcases hx with hx | ⟨n, n1, n2, n3⟩
      · have := g3 hx
        omega
      · exact hn n n1 n2 n3
    clear g4 hB h2 hn hx
    omega
theorem lb_next {kn : sKn} {Po : sR → Prop} {D : List (Nat × Nat)} {w0 w : sW} (o0 : hO D w0 w) (wide : Nat) (weight v : Int) (R r k : Nat) (hR : gX w 215 0 = (R : Int)) (hr : r < R) (hR2 : R ≤ 12) (hk : k ≤ 3) (hx : ∀ (lv : List (Nat × Value)) (rho x : Int), hL lv [(0, .ref 213), (1, hI wide), (2, hI weight), (3, hI r), (4, hI k), (5, hI v), (6, hI rho), (7, hI x)] → bsI (gX w 225) R r k 4 rho → Tp (tX12_layBest kn) Po 124 (lv, [], w, 0, 0)) : ∀ (m n : Nat) (rho : Int) (lv : List (Nat × Value)) (x : Int), n + m = 4 → x = n → hL lv [(0, .ref 213), (1, hI wide), (2, hI weight), (3, hI r), (4, hI k), (5, hI v), (6, hI rho), (7, hI x)] → bsI (gX w 225) R r k n rho → Tp (tX12_layBest kn) Po 57 (lv, [], w, 0, 0) := by
  intro m
  induction m with
  | zero =>
    intro n rho lv x hnm hxn l0 hI0
    subst hxn
    have hI1 := hI0.1
    have hI2 := hI0.2.1
    refine h_iload rfl l0 rfl ?_
    refine h_intv k_3 rfl ?_
    refine i_gt (kn := kn) (t := 4) (tgt := 124) (np := 63) rfl (by unfold R32; omega) (by unfold R32; omega) (fun e1 => ?_) (fun e1 => ?_)
    · exact hx _ _ _ l0 (bsI_x hI0 (by omega))
    · omega
  | succ m ih =>
    intro n rho lv x hnm hxn l0 hI0
    subst hxn
    have hI1 := hI0.1
    have hI2 := hI0.2.1
    refine h_iload rfl l0 rfl ?_
    refine h_intv k_3 rfl ?_
    refine i_gt (kn := kn) (t := 4) (tgt := 124) (np := 63) rfl (by unfold R32; omega) (by unfold R32; omega) (fun e1 => ?_) (fun e1 => ?_)
    · exact hx _ _ _ l0 (bsI_x hI0 (by omega))
    · refine h_iload rfl l0 rfl ?_
      refine h_aload rfl l0 rfl ?_
      refine h_getR rfl o0 fr_14 ?_
      refine h_intv k_0 rfl ?_
      refine h_ialdj (0) rfl o0 ai_215 rfl (by omega) (by omega) (fun b2a b2b => ?_)
      rw [hR] at b2a b2b ⊢
      refine h_intv k_1 rfl ?_
      refine h_isub rfl ?_
      refine i_ge (kn := kn) (t := 3) (tgt := 124) (np := 75) rfl (by unfold R32; omega) (by unfold R32; omega) (fun e3 => ?_) (fun e3 => ?_)
      · exact hx _ _ _ l0 (bsI_x hI0 (by omega))
      · refine h_iload rfl l0 rfl ?_
        refine h_iload rfl l0 rfl ?_
        obtain ⟨z4, hf4, hz4, hq4⟩ := s_follows (kn := kn) o0.1 k n hk (by omega)
        refine h_S2 rfl o0 l0 rfl rfl hf4 ?_
        refine j_eq (kn := kn) (t := 0) (tgt := 118) (np := 85) rfl (by unfold R32; omega) (fun e5 => ?_) (fun e5 => ?_)
        · refine h_iincv k_1 rfl l0 rfl (fun vl6 l6 => ?_)
          refine h_goto rfl ?_
          exact ih (n + 1) rho _ ((n : Int) + 1) (by omega) (by omega) l6 (bsI_s hI0 (by first | exact Or.inr (by omega) | exact Or.inl (fun z => by have := hq4.mpr z; omega)))
        · refine h_aload rfl l0 rfl ?_
          refine h_getR rfl o0 fr_29 ?_
          refine h_intv k_4 rfl ?_
          refine h_iload rfl l0 rfl ?_
          refine h_imul rfl ?_
          refine h_intv k_4 rfl ?_
          refine h_iadd rfl ?_
          refine h_iload rfl l0 rfl ?_
          refine h_iadd rfl ?_
          refine h_ialdj (4 * r + 4 + n) rfl o0 ai_225 rfl (by omega) (by omega) (fun b7a b7b => ?_)
          refine h_iload rfl l0 rfl ?_
          refine i_le (kn := kn) (t := 5) (tgt := 118) (np := 103) rfl (by unfold R32; omega) (by unfold R32; omega) (fun e8 => ?_) (fun e8 => ?_)
          · refine h_iincv k_1 rfl l0 rfl (fun vl9 l9 => ?_)
            refine h_goto rfl ?_
            exact ih (n + 1) rho _ ((n : Int) + 1) (by omega) (by omega) l9 (bsI_s hI0 (by first | exact Or.inr (by omega) | exact Or.inl (fun z => by have := hq4.mpr z; omega)))
          · refine h_aload rfl l0 rfl ?_
            refine h_getR rfl o0 fr_29 ?_
            refine h_intv k_4 rfl ?_
            refine h_iload rfl l0 rfl ?_
            refine h_imul rfl ?_
            refine h_intv k_4 rfl ?_
            refine h_iadd rfl ?_
            refine h_iload rfl l0 rfl ?_
            refine h_iadd rfl ?_
            refine h_ialdj (4 * r + 4 + n) rfl o0 ai_225 rfl (by omega) (by omega) (fun b10a b10b => ?_)
            refine h_istore rfl l0 (fun vl11 l11 => ?_)
            refine h_iincv k_1 rfl l11 rfl (fun vl12 l12 => ?_)
            refine h_goto rfl ?_
            exact ih (n + 1) _ _ ((n : Int) + 1) (by omega) (by omega) l12 (bsI_t hI0 (by omega) (by omega) (hq4.mp (by omega)) (by omega) (by omega))
theorem bsG_c {sp : Nat → Nat → Int} {B B' : Nat → Int} {R r k : Nat} (h : bsG sp B R r k) (h1 : B' (4 * r + k) = B (4 * r + k)) (h2 : ∀ n, n ≤ 3 → B' (4 * r + 4 + n) = B (4 * r + 4 + n)) : bsG sp B' R r k := by
  obtain ⟨g1, g2, g3, g4⟩ := h
  unfold bsG
  rw [h1]
  refine ⟨g1, fun hr => ?_, fun hs hx => g3 hs ?_, g4⟩
  · rcases g2 hr with e | ⟨n, n1, n2, n3⟩
    · exact Or.inl e
    · exact Or.inr ⟨n, n1, n2, by rw [h2 n n1]; exact n3⟩
  · rcases hx with e | ⟨n, n1, n2, n3⟩
    · exact Or.inl e
    · exact Or.inr ⟨n, n1, n2, by rw [h2 n n1] at n3; exact n3⟩
def lbW (w0 w : sW) : Prop := hO dH_best w0 w ∧ (∀ c j, c ≠ 225 → gX w c j = gX w0 c j) ∧ ∀ c f, gF w c f = gF w0 c f
def lbS (w0 : sW) (wide : Nat) (weight : Int) (r k : Nat) : Int := spV (gX w0 215) (gX w0 224) (gF w0 213 28) r k wide weight
theorem lb_sp {kn : sKn} {w0 w : sW} (h : lbW w0 w) (wide : Nat) (weight : Int) (row k : Nat) (hr : row < 12) (hk : k ≤ 3) (hwd : wide ≤ 3) (hwt : 0 ≤ weight ∧ weight ≤ 2147483647) : ∃ v : Int, v = lbS w0 wide weight row k ∧ fX12_spareAt kn [.ref 213, hI row, hI k, hI wide, hI weight] w = some (some (hI v), w, 0, 0) ∧ -1 ≤ v ∧ v ≤ 2147483647 := by
  have h1 := s_spare (kn := kn) h.1.1 row k wide weight hr hk hwd (by omega)
  have e1 : gX w 215 = gX w0 215 := funext fun j => h.2.1 215 j (by decide)
  have e2 : gX w 224 = gX w0 224 := funext fun j => h.2.1 224 j (by decide)
  rw [e1, e2, h.2.2 213 28] at h1
  exact ⟨_, rfl, h1, spV_ge hwt.1⟩
theorem lb_k {kn : sKn} {Po : sR → Prop} {w0 : sW} (wide : Nat) (weight : Int) (hwd : wide ≤ 3) (hwt : 0 ≤ weight ∧ weight ≤ 2147483647) (R r : Nat) (hR : gX w0 215 0 = (R : Int)) (hr : r < R) (hR2 : R ≤ 12) (hx : ∀ (w : sW) (lv : List (Nat × Value)), lbW w0 w → (∀ a b, r ≤ a → a < R → b ≤ 3 → bsG (lbS w0 wide weight) (gX w 225) R a b) → hL lv [(0, .ref 213), (1, hI wide), (2, hI weight), (3, hI r)] → Tp (tX12_layBest kn) Po 164 (lv, [], w, 0, 0)) : ∀ (m k : Nat) (w : sW) (lv : List (Nat × Value)) (x : Int), k + m = 4 → x = k → lbW w0 w → hL lv [(0, .ref 213), (1, hI wide), (2, hI weight), (3, hI r), (4, hI x)] → (∀ a b, a < R → b ≤ 3 → (r < a ∨ (a = r ∧ b < k)) → bsG (lbS w0 wide weight) (gX w 225) R a b) → Tp (tX12_layBest kn) Po 16 (lv, [], w, 0, 0) := by
  intro m
  induction m with
  | zero =>
    intro k w lv x hkm hxk hW l0 hg
    subst hxk
    have o0 := hW.1
    refine h_iload rfl l0 rfl ?_
    refine h_intv k_3 rfl ?_
    refine i_gt (kn := kn) (t := 4) (tgt := 164) (np := 22) rfl (by unfold R32; omega) (by unfold R32; omega) (fun e1 => ?_) (fun e1 => ?_)
    · exact hx _ _ hW (fun a b h1 h2 h3 => hg a b h2 h3 (by omega)) (hL_take 4 l0)
    · omega
  | succ m ih =>
    intro k w lv x hkm hxk hW l0 hg
    subst hxk
    have o0 := hW.1
    have hR0 : gX w 215 0 = (R : Int) := by rw [hW.2.1 215 0 (by decide)]; exact hR
    refine h_iload rfl l0 rfl ?_
    refine h_intv k_3 rfl ?_
    refine i_gt (kn := kn) (t := 4) (tgt := 164) (np := 22) rfl (by unfold R32; omega) (by unfold R32; omega) (fun e1 => ?_) (fun e1 => ?_)
    · exact hx _ _ hW (fun a b h1 h2 h3 => hg a b h2 h3 (by omega)) (hL_take 4 l0)
    · refine h_aload rfl l0 rfl ?_
      refine h_iload rfl l0 rfl ?_
      refine h_iload rfl l0 rfl ?_
      refine h_iload rfl l0 rfl ?_
      refine h_iload rfl l0 rfl ?_
      obtain ⟨v, hv1, hf2, hv2, hv3⟩ := lb_sp (kn := kn) hW wide weight r k (by omega) (by omega) hwd hwt
      have b124 : ∀ (lv : List (Nat × Value)) (rho y : Int), hL lv [(0, .ref 213), (1, hI wide), (2, hI weight), (3, hI r), (4, hI k), (5, hI v), (6, hI rho), (7, hI y)] → bsI (gX w 225) R r k 4 rho → Tp (tX12_layBest kn) Po 124 (lv, [], w, 0, 0) := by
        intro lv rho y l0 hb4
        have hb1 := hb4.1
        have hb2 := hb4.2.1
        refine h_aload rfl l0 rfl ?_
        refine h_getR rfl o0 fr_29 ?_
        refine h_intv k_4 rfl ?_
        refine h_iload rfl l0 rfl ?_
        refine h_imul rfl ?_
        refine h_iload rfl l0 rfl ?_
        refine h_iadd rfl ?_
        refine h_iload rfl l0 rfl ?_
        refine h_intv k_n1 rfl ?_
        refine i_eq (kn := kn) (t := 0) (tgt := 146) (np := 140) rfl (by unfold R32; omega) (by unfold R32; omega) (fun e1 => ?_) (fun e1 => ?_)
        · refine h_intv k_n1 rfl ?_
          refine h_goto rfl ?_
          refine h_iastj (4 * r + k) rfl o0 ai_225 rfl rfl aw_225 (by omega) (by omega) (by omega) (by omega) (by omega) (by unfold R32; omega) (fun w2 o2 q3a q3b q3c => ?_)
          refine h_iincv k_1 rfl l0 rfl (fun vl4 l4 => ?_)
          refine h_goto rfl ?_
          have hG : bsG (lbS w0 wide weight) (gX w2 225) R r k := bsG_of hb4 (by rw [← hv1]; omega) hr (fun n h1 h2 => (hg (r + 1) n (by omega) h1 (Or.inl (by omega))).1) (by rw [← hv1]; omega) q3a (fun n h1 => q3b 225 _ (fun _ => by omega))
          exact ih (k + 1) w2 _ ((k : Int) + 1) (by omega) (by omega) ⟨o2, fun c j hc => by rw [q3b c j (fun z => absurd z hc)]; exact hW.2.1 c j hc, fun c f => by rw [q3c]; exact hW.2.2 c f⟩ (hL_take 5 l4) (fun a b h1 h2 h3 => by
            by_cases e : a = r ∧ b = k
            · rw [e.1, e.2]
              exact hG
            · exact bsG_c (hg a b h1 h2 (by omega)) (q3b 225 _ (fun _ => by omega)) (fun n hn => q3b 225 _ (fun _ => by omega)))
        · refine h_iload rfl l0 rfl ?_
          refine h_intv k_n1 rfl ?_
          refine i_ne (kn := kn) (t := 1) (tgt := 150) (np := 146) rfl (by unfold R32; omega) (by unfold R32; omega) (fun e5 => ?_) (fun e5 => ?_)
          · refine h_iload rfl l0 rfl ?_
            refine h_iload rfl l0 rfl ?_
            obtain ⟨z6, hf6, hz6⟩ := s_least (kn := kn) o0.1 v rho ⟨by omega, by omega⟩ ⟨by omega, by omega⟩
            refine h_S2 rfl o0 l0 rfl rfl hf6 ?_
            refine h_iastj (4 * r + k) rfl o0 ai_225 rfl rfl aw_225 (by omega) (by omega) (by omega) (by omega) (by omega) (by unfold R32; omega) (fun w7 o7 q8a q8b q8c => ?_)
            refine h_iincv k_1 rfl l0 rfl (fun vl9 l9 => ?_)
            refine h_goto rfl ?_
            have hG : bsG (lbS w0 wide weight) (gX w7 225) R r k := bsG_of hb4 (by rw [← hv1]; omega) hr (fun n h1 h2 => (hg (r + 1) n (by omega) h1 (Or.inl (by omega))).1) (by rw [← hv1]; omega) q8a (fun n h1 => q8b 225 _ (fun _ => by omega))
            exact ih (k + 1) w7 _ ((k : Int) + 1) (by omega) (by omega) ⟨o7, fun c j hc => by rw [q8b c j (fun z => absurd z hc)]; exact hW.2.1 c j hc, fun c f => by rw [q8c]; exact hW.2.2 c f⟩ (hL_take 5 l9) (fun a b h1 h2 h3 => by
              by_cases e : a = r ∧ b = k
              · rw [e.1, e.2]
                exact hG
              · exact bsG_c (hg a b h1 h2 (by omega)) (q8b 225 _ (fun _ => by omega)) (fun n hn => q8b 225 _ (fun _ => by omega)))
          · refine h_intv k_n1 rfl ?_
            refine h_goto rfl ?_
            refine h_iastj (4 * r + k) rfl o0 ai_225 rfl rfl aw_225 (by omega) (by omega) (by omega) (by omega) (by omega) (by unfold R32; omega) (fun w10 o10 q11a q11b q11c => ?_)
            refine h_iincv k_1 rfl l0 rfl (fun vl12 l12 => ?_)
            refine h_goto rfl ?_
            have hG : bsG (lbS w0 wide weight) (gX w10 225) R r k := bsG_of hb4 (by rw [← hv1]; omega) hr (fun n h1 h2 => (hg (r + 1) n (by omega) h1 (Or.inl (by omega))).1) (by rw [← hv1]; omega) q11a (fun n h1 => q11b 225 _ (fun _ => by omega))
            exact ih (k + 1) w10 _ ((k : Int) + 1) (by omega) (by omega) ⟨o10, fun c j hc => by rw [q11b c j (fun z => absurd z hc)]; exact hW.2.1 c j hc, fun c f => by rw [q11c]; exact hW.2.2 c f⟩ (hL_take 5 l12) (fun a b h1 h2 h3 => by
              by_cases e : a = r ∧ b = k
              · rw [e.1, e.2]
                exact hG
              · exact bsG_c (hg a b h1 h2 (by omega)) (q11b 225 _ (fun _ => by omega)) (fun n hn => q11b 225 _ (fun _ => by omega)))
      refine h_V5 rfl o0 l0 ci_213 rfl rfl hf2 ?_
      refine h_istore rfl l0 (fun vl3 l3 => ?_)
      refine h_iload rfl l3 rfl ?_
      refine h_aload rfl l3 rfl ?_
      refine h_getR rfl o0 fr_14 ?_
      refine h_intv k_0 rfl ?_
      refine h_ialdj (0) rfl o0 ai_215 rfl (by omega) (by omega) (fun b4a b4b => ?_)
      rw [hR0] at b4a b4b ⊢
      refine h_intv k_1 rfl ?_
      refine h_isub rfl ?_
      refine i_ne (kn := kn) (t := 1) (tgt := 51) (np := 45) rfl (by unfold R32; omega) (by unfold R32; omega) (fun e5 => ?_) (fun e5 => ?_)
      · refine h_intv k_n1 rfl ?_
        refine h_istore rfl l3 (fun vl6 l6 => ?_)
        refine h_intv k_0 rfl ?_
        refine h_istore rfl l6 (fun vl7 l7 => ?_)
        refine lb_next o0 wide weight v R r k hR0 hr hR2 (by omega) ?_ 4 0 _ _ 0 rfl rfl l7 ?_
        · intro lv rho y l0 hb4
          exact b124 lv rho y l0 hb4
        · exact ⟨by omega, by omega, fun _ => by omega, fun _ => by first | exact ⟨Or.inl rfl, fun m h1 => by omega⟩ | omega⟩
      · refine h_intv k_100000 rfl ?_
        refine h_goto rfl ?_
        refine h_istore rfl l3 (fun vl8 l8 => ?_)
        refine h_intv k_0 rfl ?_
        refine h_istore rfl l8 (fun vl9 l9 => ?_)
        refine lb_next o0 wide weight v R r k hR0 hr hR2 (by omega) ?_ 4 0 _ _ 0 rfl rfl l9 ?_
        · intro lv rho y l0 hb4
          exact b124 lv rho y l0 hb4
        · exact ⟨by omega, by omega, fun _ => by omega, fun _ => by first | exact ⟨Or.inl rfl, fun m h1 => by omega⟩ | omega⟩
theorem lb_r {kn : sKn} {Po : sR → Prop} {w0 : sW} (wide : Nat) (weight : Int) (hwd : wide ≤ 3) (hwt : 0 ≤ weight ∧ weight ≤ 2147483647) (R : Nat) (hR : gX w0 215 0 = (R : Int)) (hR2 : R ≤ 12) (hx : ∀ w : sW, lbW w0 w → (∀ a b, a < R → b ≤ 3 → bsG (lbS w0 wide weight) (gX w 225) R a b) → Po (none, w, 0, 0)) : ∀ (m : Nat) (w : sW) (lv : List (Nat × Value)) {x : Int}, x = (m : Int) - 1 → m ≤ R → lbW w0 w → hL lv [(0, .ref 213), (1, hI wide), (2, hI weight), (3, hI x)] → (∀ a b, m ≤ a → a < R → b ≤ 3 → bsG (lbS w0 wide weight) (gX w 225) R a b) → Tp (tX12_layBest kn) Po 9 (lv, [], w, 0, 0) := by
  intro m
  induction m with
  | zero =>
    intro w lv x hxm hm hW l0 hg
    refine h_iload rfl l0 rfl ?_
    refine j_lt (kn := kn) (t := 2) (tgt := 170) (np := 13) rfl (by unfold R32; omega) (fun e1 => ?_) (fun e1 => ?_)
    · refine h_vret rfl ?_
      exact hx _ hW (fun a b h1 h2 => hg a b (by omega) h1 h2)
    · omega
  | succ m ih =>
    intro w lv x hxm hm hW l0 hg
    obtain rfl : x = (m : Int) := by omega
    refine h_iload rfl l0 rfl ?_
    refine j_lt (kn := kn) (t := 2) (tgt := 170) (np := 13) rfl (by unfold R32; omega) (fun e1 => ?_) (fun e1 => ?_)
    · omega
    · refine h_intv k_0 rfl ?_
      refine h_istore rfl l0 (fun vl2 l2 => ?_)
      refine lb_k wide weight hwd hwt R m hR (by omega) hR2 ?_ 4 0 w _ 0 rfl rfl hW l2 (fun a b h1 h2 h3 => hg a b (by omega) h1 h2)
      intro w2 lv2 hW2 hg2 l0
      refine h_iincv k_n1 rfl l0 rfl (fun vl1 l1 => ?_)
      refine h_goto rfl ?_
      exact ih _ _ (by omega) (by omega) hW2 l1 hg2
theorem s_layBest {kn : sKn} {w : sW} (hw : wOk ZZ w) (wide : Nat) (weight : Int) (hwd : wide ≤ 3) (hwt : 0 ≤ weight ∧ weight ≤ 2147483647) (R : Nat) (hR : gX w 215 0 = (R : Int)) (hR2 : R ≤ 12) : ∃ w', fX12_layBest kn [.ref 213, hI wide, hI weight] w = some (none, w', 0, 0) ∧ lbW w w' ∧ ∀ a b, a < R → b ≤ 3 → bsG (lbS w wide weight) (gX w' 225) R a b := by
  have K : Tp (tX12_layBest kn) (fun r => ∃ w', r = (none, w', 0, 0) ∧ lbW w w' ∧ ∀ a b, a < R → b ≤ 3 → bsG (lbS w wide weight) (gX w' 225) R a b) 0 (lv_args 0 [.ref 213, hI wide, hI weight], [], w, 0, 0) := by
    have l0 : hL (lv_args 0 [.ref 213, hI wide, hI weight]) (lv_args 0 [.ref 213, hI wide, hI weight]) := hL_ex rfl
    have o0 : hO dH_best w w := hO_rf hw
    refine h_aload rfl l0 rfl ?_
    refine h_getR rfl o0 fr_14 ?_
    refine h_intv k_0 rfl ?_
    refine h_ialdj (0) rfl o0 ai_215 rfl (by omega) (by omega) (fun b1a b1b => ?_)
    rw [hR] at b1a b1b ⊢
    refine h_intv k_1 rfl ?_
    refine h_isub rfl ?_
    refine h_istore rfl l0 (fun vl2 l2 => ?_)
    exact lb_r wide weight hwd hwt R hR hR2 (fun w' h1 h2 => ⟨w', rfl, h1, h2⟩) R w _ rfl (by omega) ⟨o0, fun _ _ _ => rfl, fun _ _ => rfl⟩ l2 (fun a b h1 h2 => by omega)
  obtain ⟨r, h1, w2, h2, h3⟩ := h_meth1 (nL := 8) rfl K
  rw [h2] at h1
  exact ⟨w2, h1, h3⟩
end
