noncomputable section
theorem ar_miles : aR 215 15 10 0 9 = true := by decide +kernel
def dH_ts : List (Nat × Nat) := [(61, 36), (72, 999), (76, 999), (78, 999)]
def wup (W : Nat → Int) (p : Nat) (z : Int) : Nat → Int := fun q => if q = p then z else W q
def tsS (G : Nat → Int → Int) (dd : Nat → Bool) : Nat → Nat → Int → Int
  | 0, _, c => c
  | n + 1, s, c => tsS G dd n (s + 1) (if dd s = true then c else G s c)
def tsD (N : Nat → Int) (s : Nat) : Bool := decide (hasV (N 95) (s : Int) = 1)
def tsF (N : Nat → Int) (F : Int) (row k wide : Nat) (wt : Int) (S : Nat) : Nat → Nat → (Nat → Int) → Int → Int → Int
  | 0, _, W, m, c => if c ≤ m then c else if sumV N W F row k wide < wt then c else m
  | r + 1, i, W, m, c => if c ≤ m then c else if W (3 * row + k + i) ≠ -1 then tsF N F row k wide wt S r (i + 1) W m c else tsS (fun s c => tsF N F row k wide wt S r (i + 1) (wup W (3 * row + k + i) (s : Int)) (m + N (15 + s)) c) (tsD N) S 0 c
theorem tsF_ge {N : Nat → Int} {F : Int} {row k wide : Nat} {wt : Int} {S : Nat} {r i : Nat} {W : Nat → Int} {m c : Int} (h : c ≤ m) : tsF N F row k wide wt S r i W m c = c := by
  cases r with
  | zero => rw [tsF, if_pos h]
  | succ r => rw [tsF, if_pos h]
theorem tsS_b {G : Nat → Int → Int} {dd : Nat → Bool} {T : Nat} (hG : ∀ s c, s < T → 0 ≤ c → 0 ≤ G s c ∧ G s c ≤ c) : ∀ (n s : Nat) (c : Int), s + n ≤ T → 0 ≤ c → 0 ≤ tsS G dd n s c ∧ tsS G dd n s c ≤ c := by
  intro n
  induction n with
  | zero =>
    intro s c _ h
    exact ⟨h, Int.le_refl _⟩
  | succ n ih =>
    intro s c h1 h2
    rw [tsS]
    by_cases e : dd s = true
    · rw [if_pos e]
      exact ih (s + 1) c (by omega) h2
    · rw [if_neg e]
      have g := hG s c (by omega) h2
      have k := ih (s + 1) (G s c) (by omega) g.1
      exact ⟨k.1, Int.le_trans k.2 g.2⟩
theorem tsF_b {N : Nat → Int} {F : Int} {row k wide : Nat} {wt : Int} {S : Nat} (hN : ∀ s, s < S → 0 ≤ N (15 + s)) : ∀ (r i : Nat) (W : Nat → Int) (m c : Int), 0 ≤ m → 0 ≤ c → 0 ≤ tsF N F row k wide wt S r i W m c ∧ tsF N F row k wide wt S r i W m c ≤ c := by
  intro r
  induction r with
  | zero =>
    intro i W m c hm hc
    rw [tsF]
    split
    · exact ⟨hc, Int.le_refl _⟩
    · split
      · exact ⟨hc, Int.le_refl _⟩
      · exact ⟨hm, by omega⟩
  | succ r ih =>
    intro i W m c hm hc
    rw [tsF]
    split
    · exact ⟨hc, Int.le_refl _⟩
    · split
      · exact ih (i + 1) W m c hm hc
      · exact tsS_b (T := S) (fun s c hs hc => ih (i + 1) _ _ c (by have := hN s hs; omega) hc) S 0 c (by omega) hc
def tsR (w w' : sW) (c : Int) : Prop := hO dH_ts w w' ∧ gX w' 224 = gX w 224 ∧ gF w' 213 36 = c
theorem ts_N {w w' : sW} (hw : wOk ZZ w) (h : hO dH_ts w w') : gX w' 215 = gX w 215 ∧ gF w' 213 28 = gF w 213 28 := ⟨funext fun j => fr_gX (t := 63) (c := 215) h.2 rfl (by decide +kernel) hw (by decide +kernel) j, fr_gF (t := 61) (c := 213) h.2 rfl (by decide +kernel) hw (by decide +kernel)⟩
def tsH (g : List Value → sW → Option sR) (d : Nat) : Prop := ∀ (w : sW) (row k i l wd S : Nat) (m : Int), wOk ZZ w → row ≤ 11 → k + wd ≤ 3 → l < 6 → gX w 215 (88 + l) = (wd : Int) → gX w 215 1 = (S : Int) → i ≤ wd → wd < i + d → (0 ≤ m ∧ m ≤ 9 * (i : Int)) → (0 ≤ gF w 213 36 ∧ gF w 213 36 ≤ 100000) → ∃ w', g [.ref 213, hI row, hI k, hI i, hI l, hI m] w = some (none, w', 0, 0) ∧ tsR w w' (tsF (gX w 215) (gF w 213 28) row k wd (gX w 215 (82 + l)) S (wd - i) i (gX w 224) m (gF w 213 36))
theorem s_isDeadB {kn : sKn} {w : sW} (hw : wOk ZZ w) (x : Int) : ∃ b : Int, fX12_isDead kn [.ref 213, hI x] w = some (some (hI b), w, 0, 0) ∧ (b = 0 ∨ b = 1) ∧ (b = 1 ↔ hasV (gX w 215 95) x = 1) := by
  have K : Tp (tX12_isDead kn) (fun r => ∃ b : Int, r = (some (hI b), w, 0, 0) ∧ (b = 0 ∨ b = 1) ∧ (b = 1 ↔ hasV (gX w 215 95) x = 1)) 0 (lv_args 0 [.ref 213, hI x], [], w, 0, 0) := by
    have l0 : hL (lv_args 0 [.ref 213, hI x]) (lv_args 0 [.ref 213, hI x]) := hL_ex rfl
    have o0 : hO [] w w := hO_rf hw
    refine h_aload rfl l0 rfl ?_
    refine h_getR rfl o0 fr_14 ?_
    refine h_intv k_95 rfl ?_
    refine h_ialdj (95) rfl o0 ai_215 rfl (by omega) (by omega) (fun b41a b41b => ?_)
    refine h_iload rfl l0 rfl ?_
    obtain ⟨b42, hf42, hb42, hc42⟩ := s_has (kn := kn) o0.1 (gX w 215 (95)) x
    refine h_S2 rfl o0 l0 rfl rfl hf42 ?_
    refine h_zret (by omega) rfl ?_
    exact ⟨_, rfl, by assumption, by assumption⟩
  obtain ⟨r, h1, b, h2, h3⟩ := h_meth1 (nL := 2) rfl K
  rw [h2] at h1
  exact ⟨b, h1, h3⟩
theorem ts_cp {kn : sKn} {g : List Value → sW → Option sR} {w : sW} {T : Int} {row k i l : Nat} {m : Int} : ∀ (n j : Nat) (w1 : sW) (lv : List (Nat × Value)) (x : Int), j + n = 3 → x = (j : Int) → tsR w w1 T → hL lv [(0, .ref 213), (1, hI row), (2, hI k), (3, hI i), (4, hI l), (5, hI m), (6, hI x)] → Tp (tX12_trySigns_g kn g) (fun r => ∃ w', r = (none, w', 0, 0) ∧ tsR w w' T) 63 (lv, [], w1, 0, 0) := by
  intro n
  induction n with
  | zero =>
    intro j w1 lv x hm hx hJ l0
    subst hx
    have o0 := hJ.1
    refine h_iload rfl l0 rfl ?_
    refine h_intv k_3 rfl ?_
    refine i_ge (kn := kn) (t := 3) (tgt := 89) (np := 69) rfl (by unfold R32; omega) (by unfold R32; omega) (fun e41 => ?_) (fun e41 => ?_)
    · refine h_vret rfl ?_
      exact ⟨_, rfl, hJ⟩
    · omega
  | succ n ih =>
    intro j w1 lv x hm hx hJ l0
    subst hx
    have o0 := hJ.1
    refine h_iload rfl l0 rfl ?_
    refine h_intv k_3 rfl ?_
    refine i_ge (kn := kn) (t := 3) (tgt := 89) (np := 69) rfl (by unfold R32; omega) (by unfold R32; omega) (fun e41 => ?_) (fun e41 => ?_)
    · omega
    · refine h_aload rfl l0 rfl ?_
      refine h_getR rfl o0 fr_32 ?_
      refine h_iload rfl l0 rfl ?_
      refine h_aload rfl l0 rfl ?_
      refine h_getR rfl o0 fr_34 ?_
      refine h_iload rfl l0 rfl ?_
      refine h_ialdj (j) rfl o0 ai_230 rfl (by omega) (by omega) (fun b42a b42b => ?_)
      have b42c := gX_in o0 ai_230 ar_230 (j := j) (by omega) (by omega) (by omega)
      refine h_iastj (j) rfl o0 ai_228 rfl rfl aw_228 (by omega) (by omega) (by omega) (by omega) (by omega) (by unfold R32; omega) (fun w43 o43 q44a q44b q44c => ?_)
      refine h_iincv k_1 rfl l0 rfl (fun vl45 l45 => ?_)
      refine h_goto rfl ?_
      exact ih (j + 1) _ _ ((j : Int) + 1) (by omega) (by omega) ⟨o43, (funext fun q => by rw [q44b 224 q (fun z => absurd z (by decide)), hJ.2.1]), by rw [q44c]; exact hJ.2.2⟩ l45
theorem ts_l {kn : sKn} {g : List Value → sW → Option sR} {d : Nat} (hg : tsH g d) {w : sW} (hw : wOk ZZ w) {T : Int} {row k i l wd S r : Nat} {m : Int} (hrow : row ≤ 11) (hk : k + wd ≤ 3) (hl : l < 6) (hwd : gX w 215 (88 + l) = (wd : Int)) (hS : gX w 215 1 = (S : Int)) (hS10 : S ≤ 10) (hi : wd = i + (r + 1)) (hd : wd < i + (d + 1)) (hm : 0 ≤ m ∧ m ≤ 9 * (i : Int)) (hmi : ∀ s, s < S → 0 ≤ gX w 215 (15 + s)) (hWp : gX w 224 (3 * row + k + i) = -1) : ∀ (n s : Nat) (w1 : sW) (lv : List (Nat × Value)) (c x : Int), s + n = S → x = (s : Int) → (hO dH_ts w w1 ∧ (∀ j, j ≠ 3 * row + k + i → gX w1 224 j = gX w 224 j) ∧ gF w1 213 36 = c ∧ (0 ≤ c ∧ c ≤ 100000) ∧ tsS (fun s c => tsF (gX w 215) (gF w 213 28) row k wd (gX w 215 (82 + l)) S r (i + 1) (wup (gX w 224) (3 * row + k + i) (s : Int)) (m + gX w 215 (15 + s)) c) (tsD (gX w 215)) n s c = T) → hL lv [(0, .ref 213), (1, hI row), (2, hI k), (3, hI i), (4, hI l), (5, hI m), (6, hI (3 * row + k + i)), (7, hI x)] → Tp (tX12_trySigns_g kn g) (fun r => ∃ w', r = (none, w', 0, 0) ∧ tsR w w' T) 134 (lv, [], w1, 0, 0) := by
  intro n
  induction n with
  | zero =>
    intro s w1 lv c x hn hx hJ l0
    subst hx
    have o0 := hJ.1
    refine h_iload rfl l0 rfl ?_
    refine h_aload rfl l0 rfl ?_
    refine h_getR rfl o0 fr_14 ?_
    refine h_intv k_1 rfl ?_
    refine h_ialdj (1) rfl o0 ai_215 rfl (by omega) (by omega) (fun b41a b41b => ?_)
    rw [(ts_N hw o0).1, hS] at b41a b41b ⊢
    refine i_ge (kn := kn) (t := 3) (tgt := 204) (np := 145) rfl (by unfold R32; omega) (by unfold R32; omega) (fun e42 => ?_) (fun e42 => ?_)
    · refine h_aload rfl l0 rfl ?_
      refine h_getR rfl o0 fr_27 ?_
      refine h_iload rfl l0 rfl ?_
      refine h_intv k_n1 rfl ?_
      refine h_iastj (3 * row + k + i) rfl o0 ai_224 rfl rfl aw_224 (by omega) (by omega) (by omega) (by omega) (by omega) (by unfold R32; omega) (fun w43 o43 q44a q44b q44c => ?_)
      refine h_aload rfl l0 rfl ?_
      refine h_getR rfl o43 fr_34 ?_
      refine h_iload rfl l0 rfl ?_
      refine h_intv k_n1 rfl ?_
      refine h_iastj (i) rfl o43 ai_230 rfl rfl aw_230 (by omega) (by omega) (by omega) (by omega) (by omega) (by unfold R32; omega) (fun w45 o45 q46a q46b q46c => ?_)
      refine h_vret rfl ?_
      refine ⟨_, rfl, o45, funext fun j => ?_, by rw [q46c, q44c, hJ.2.2.1]; exact hJ.2.2.2.2⟩
      rw [q46b 224 j (fun z => absurd z (by decide))]
      by_cases e : j = 3 * row + k + i
      · rw [e, q44a]
        exact hWp.symm
      · rw [q44b 224 j (fun _ => e)]
        exact hJ.2.1 j e
    · omega
  | succ n ih =>
    intro s w1 lv c x hn hx hJ l0
    subst hx
    have o0 := hJ.1
    refine h_iload rfl l0 rfl ?_
    refine h_aload rfl l0 rfl ?_
    refine h_getR rfl o0 fr_14 ?_
    refine h_intv k_1 rfl ?_
    refine h_ialdj (1) rfl o0 ai_215 rfl (by omega) (by omega) (fun b41a b41b => ?_)
    rw [(ts_N hw o0).1, hS] at b41a b41b ⊢
    refine i_ge (kn := kn) (t := 3) (tgt := 204) (np := 145) rfl (by unfold R32; omega) (by unfold R32; omega) (fun e42 => ?_) (fun e42 => ?_)
    · omega
    · refine h_aload rfl l0 rfl ?_
      refine h_iload rfl l0 rfl ?_
      obtain ⟨b43, hf43, hb43, hc43⟩ := s_isDeadB (kn := kn) o0.1 (s : Int)
      rw [(ts_N hw o0).1] at hc43
      refine h_V2 rfl o0 l0 ci_213 rfl rfl hf43 ?_
      refine j_eq (kn := kn) (t := 0) (tgt := 157) (np := 154) rfl (by unfold R32; omega) (fun e44 => ?_) (fun e44 => ?_)
      · refine h_aload rfl l0 rfl ?_
        refine h_getR rfl o0 fr_27 ?_
        refine h_iload rfl l0 rfl ?_
        refine h_iload rfl l0 rfl ?_
        refine h_iastj (3 * row + k + i) rfl o0 ai_224 rfl rfl aw_224 (by omega) (by omega) (by omega) (by omega) (by omega) (by unfold R32; omega) (fun w45 o45 q46a q46b q46c => ?_)
        refine h_aload rfl l0 rfl ?_
        refine h_getR rfl o45 fr_34 ?_
        refine h_iload rfl l0 rfl ?_
        refine h_iload rfl l0 rfl ?_
        refine h_iastj (i) rfl o45 ai_230 rfl rfl aw_230 (by omega) (by omega) (by omega) (by omega) (by omega) (by unfold R32; omega) (fun w47 o47 q48a q48b q48c => ?_)
        refine h_aload rfl l0 rfl ?_
        refine h_iload rfl l0 rfl ?_
        refine h_iload rfl l0 rfl ?_
        refine h_iload rfl l0 rfl ?_
        refine h_intv k_1 rfl ?_
        refine h_iadd rfl ?_
        refine h_iload rfl l0 rfl ?_
        refine h_iload rfl l0 rfl ?_
        refine h_aload rfl l0 rfl ?_
        refine h_getR rfl o47 fr_14 ?_
        refine h_intv k_15 rfl ?_
        refine h_iload rfl l0 rfl ?_
        refine h_iadd rfl ?_
        refine h_ialdj (15 + s) rfl o47 ai_215 rfl (by omega) (by omega) (fun b49a b49b => ?_)
        have b49c := gX_in o47 ai_215 ar_miles (j := 15 + s) (by omega) (by omega) (by omega)
        refine h_iadd rfl ?_
        have hN := ts_N hw o47
        have e24 : gX w47 224 = wup (gX w 224) (3 * row + k + i) (s : Int) := funext fun j => by
          unfold wup
          rw [q48b 224 j (fun z => absurd z (by decide))]
          by_cases e : j = 3 * row + k + i
          · rw [if_pos e, e, q46a]
          · rw [if_neg e, q46b 224 j (fun _ => e)]
            exact hJ.2.1 j e
        have e36 : gF w47 213 36 = c := by rw [q48c, q46c]; exact hJ.2.2.1
        obtain ⟨wG, hf50, oG', eG1, eG2⟩ := hg w47 row k (i + 1) l wd S (m + gX w47 215 (15 + s)) o47.1 hrow hk hl (by rw [hN.1]; exact hwd) (by rw [hN.1]; exact hS) (by omega) (by omega) (by omega) (by omega)
        have oG : hO dH_ts w wG := hO_tr o47 oG'
        rw [show (((i + 1 : Nat) : Int)) = (i : Int) + 1 by omega] at hf50
        rw [hN.1, hN.2, e24, e36, show wd - (i + 1) = r by omega] at eG2
        rw [e24] at eG1
        have eM : gX w47 215 (15 + s) = gX w 215 (15 + s) := by rw [(ts_N hw o47).1]
        try rw [eM] at eG2
        refine h_W6 rfl o47 l0 ci_213 rfl rfl hf50 ?_
        refine h_iincv k_1 rfl l0 rfl (fun vl51 l51 => ?_)
        refine h_goto rfl ?_
        have bG := tsF_b (N := gX w 215) (F := gF w 213 28) (row := row) (k := k) (wide := wd) (wt := gX w 215 (82 + l)) (S := S) hmi r (i + 1) (wup (gX w 224) (3 * row + k + i) (s : Int)) (m + gX w 215 (15 + s)) c (by have := hmi s (by omega); omega) (by omega)
        rw [← eG2] at bG
        refine ih (s + 1) _ _ (gF wG 213 36) ((s : Int) + 1) (by omega) (by omega) ⟨oG, fun j hj => ?_, rfl, ⟨bG.1, by omega⟩, ?_⟩ l51
        · rw [eG1]
          unfold wup
          rw [if_neg hj]
        · have h5 := hJ.2.2.2.2
          rw [tsS] at h5
          rw [if_neg (by unfold tsD; rw [decide_eq_true_iff]; exact fun z => by have := hc43.mpr z; omega)] at h5
          rw [eG2]
          exact h5
      · refine h_goto rfl ?_
        refine h_iincv k_1 rfl l0 rfl (fun vl52 l52 => ?_)
        refine h_goto rfl ?_
        refine ih (s + 1) _ _ c ((s : Int) + 1) (by omega) (by omega) ⟨hJ.1, hJ.2.1, hJ.2.2.1, hJ.2.2.2.1, ?_⟩ l52
        have h5 := hJ.2.2.2.2
        rw [tsS] at h5
        rw [if_pos (by unfold tsD; rw [decide_eq_true_iff]; exact hc43.mp (by omega))] at h5
        exact h5
theorem ts_g {kn : sKn} {g : List Value → sW → Option sR} {d : Nat} (hg : tsH g d) : tsH (fX12_trySigns_g kn g) (d + 1) := by
  intro w row k i l wd S m hw hrow hk hl hwd hS hi hd hm hc
  obtain ⟨T, hT⟩ : ∃ T : Int, T = tsF (gX w 215) (gF w 213 28) row k wd (gX w 215 (82 + l)) S (wd - i) i (gX w 224) m (gF w 213 36) := ⟨_, rfl⟩
  rw [← hT]
  have hS10 : S ≤ 10 := by have := gX_in (hO_rf (D := []) hw) ai_215 ar_signers (j := 1) (by omega) (by omega) (by omega); omega
  have hmi : ∀ s, s < S → 0 ≤ gX w 215 (15 + s) := fun s hs => (gX_in (hO_rf (D := []) hw) ai_215 ar_miles (j := 15 + s) (by omega) (by omega) (by omega)).1
  have K : Tp (tX12_trySigns_g kn g) (fun r => ∃ w', r = (none, w', 0, 0) ∧ tsR w w' T) 0 (lv_args 0 [.ref 213, hI row, hI k, hI i, hI l, hI m], [], w, 0, 0) := by
    have l0 : hL (lv_args 0 [.ref 213, hI row, hI k, hI i, hI l, hI m]) (lv_args 0 [.ref 213, hI row, hI k, hI i, hI l, hI m]) := hL_ex rfl
    have o0 : hO dH_ts w w := hO_rf hw
    refine h_iload rfl l0 rfl ?_
    refine h_aload rfl l0 rfl ?_
    refine h_getI rfl o0 fi_36 (fun b41a b41b => ?_)
    refine i_lt (kn := kn) (t := 2) (tgt := 10) (np := 9) rfl (by unfold R32; omega) (by unfold R32; omega) (fun e42 => ?_) (fun e42 => ?_)
    · refine h_iload rfl l0 rfl ?_
      refine h_aload rfl l0 rfl ?_
      refine h_getR rfl o0 fr_14 ?_
      refine h_intv k_88 rfl ?_
      refine h_iload rfl l0 rfl ?_
      refine h_iadd rfl ?_
      refine h_ialdj (88 + l) rfl o0 ai_215 rfl (by omega) (by omega) (fun b43a b43b => ?_)
      rw [hwd] at b43a b43b ⊢
      refine i_ne (kn := kn) (t := 1) (tgt := 90) (np := 24) rfl (by unfold R32; omega) (by unfold R32; omega) (fun e44 => ?_) (fun e44 => ?_)
      · refine h_intv k_3 rfl ?_
        refine h_iload rfl l0 rfl ?_
        refine h_imul rfl ?_
        refine h_iload rfl l0 rfl ?_
        refine h_iadd rfl ?_
        refine h_iload rfl l0 rfl ?_
        refine h_iadd rfl ?_
        refine h_istore rfl l0 (fun vl45 l45 => ?_)
        refine h_aload rfl l45 rfl ?_
        refine h_getR rfl o0 fr_34 ?_
        refine h_iload rfl l45 rfl ?_
        refine h_intv k_n1 rfl ?_
        refine h_iastj (i) rfl o0 ai_230 rfl rfl aw_230 (by omega) (by omega) (by omega) (by omega) (by omega) (by unfold R32; omega) (fun w46 o46 q47a q47b q47c => ?_)
        refine h_aload rfl l45 rfl ?_
        refine h_getR rfl o46 fr_27 ?_
        refine h_iload rfl l45 rfl ?_
        refine h_ialdj (3 * row + k + i) rfl o46 ai_224 rfl (by omega) (by omega) (fun b48a b48b => ?_)
        refine h_intv k_n1 rfl ?_
        refine i_eq (kn := kn) (t := 0) (tgt := 131) (np := 117) rfl (by unfold R32; omega) (by unfold R32; omega) (fun e49 => ?_) (fun e49 => ?_)
        · refine h_intv k_0 rfl ?_
          refine h_istore rfl l45 (fun vl50 l50 => ?_)
          obtain ⟨r, hr⟩ : ∃ r, wd = i + (r + 1) := ⟨wd - i - 1, by omega⟩
          have e24 : gX w46 224 = gX w 224 := funext fun j => q47b 224 j (fun z => absurd z (by decide))
          rw [e24] at e49
          exact ts_l hg hw hrow hk hl hwd hS hS10 hr (by omega) hm hmi e49 S 0 _ _ (gF w 213 36) 0 (by omega) rfl ⟨o46, fun j _ => by rw [e24], q47c .., hc, by rw [hT, show wd - i = r + 1 by omega, tsF, if_neg (by omega), if_neg (fun z => z e49)]⟩ l50
        · refine h_aload rfl l45 rfl ?_
          refine h_iload rfl l45 rfl ?_
          refine h_iload rfl l45 rfl ?_
          refine h_iload rfl l45 rfl ?_
          refine h_intv k_1 rfl ?_
          refine h_iadd rfl ?_
          refine h_iload rfl l45 rfl ?_
          refine h_iload rfl l45 rfl ?_
          obtain ⟨r, hr⟩ : ∃ r, wd = i + (r + 1) := ⟨wd - i - 1, by omega⟩
          have hN := ts_N hw o46
          have e24 : gX w46 224 = gX w 224 := funext fun j => q47b 224 j (fun z => absurd z (by decide))
          obtain ⟨wG, hf51, oG', eG1, eG2⟩ := hg w46 row k (i + 1) l wd S m o46.1 hrow hk hl (by rw [hN.1]; exact hwd) (by rw [hN.1]; exact hS) (by omega) (by omega) (by omega) (by rw [q47c]; exact hc)
          rw [show (((i + 1 : Nat) : Int)) = (i : Int) + 1 by omega] at hf51
          rw [hN.1, hN.2, e24, q47c, show wd - (i + 1) = r by omega] at eG2
          rw [e24] at eG1
          rw [e24] at e49
          refine h_W6 rfl o46 l45 ci_213 rfl rfl hf51 ?_
          refine h_vret rfl ?_
          exact ⟨_, rfl, hO_tr o46 oG', eG1, by rw [hT, show wd - i = r + 1 by omega, tsF, if_neg (by omega), if_pos e49]; exact eG2⟩
      · refine h_aload rfl l0 rfl ?_
        refine h_iload rfl l0 rfl ?_
        refine h_iload rfl l0 rfl ?_
        refine h_aload rfl l0 rfl ?_
        refine h_getR rfl o0 fr_14 ?_
        refine h_intv k_88 rfl ?_
        refine h_iload rfl l0 rfl ?_
        refine h_iadd rfl ?_
        refine h_ialdj (88 + l) rfl o0 ai_215 rfl (by omega) (by omega) (fun b52a b52b => ?_)
        rw [hwd] at b52a b52b ⊢
        obtain ⟨v53, hv53⟩ : ∃ v : Int, v = sumV (gX w 215) (gX w 224) (gF w 213 28) row k wd := ⟨_, rfl⟩
        have vR53 := sumV_R (N := gX w 215) (W := gX w 224) (F := gF w 213 28) (row := row) (k := k) (wide := wd)
        rw [← hv53] at vR53
        have hf53 := s_sum (kn := kn) hw row k wd (by omega) (by omega) (by omega)
        rw [← hv53] at hf53
        refine h_V4 rfl o0 l0 ci_213 rfl rfl hf53 ?_
        refine h_aload rfl l0 rfl ?_
        refine h_getR rfl o0 fr_14 ?_
        refine h_intv k_82 rfl ?_
        refine h_iload rfl l0 rfl ?_
        refine h_iadd rfl ?_
        refine h_ialdj (82 + l) rfl o0 ai_215 rfl (by omega) (by omega) (fun b54a b54b => ?_)
        have b54c := weight_of o0 hl
        refine i_ge (kn := kn) (t := 3) (tgt := 54) (np := 53) rfl (by unfold R32; omega) (by unfold R32; omega) (fun e55 => ?_) (fun e55 => ?_)
        · refine h_aload rfl l0 rfl ?_
          refine h_iload rfl l0 rfl ?_
          refine h_putI rfl o0 fi_36 rfl (by omega) (by omega) (fun w56 o56 q57a q57b q57c => ?_)
          refine h_intv k_0 rfl ?_
          refine h_istore rfl l0 (fun vl58 l58 => ?_)
          exact ts_cp 3 0 _ _ 0 rfl rfl ⟨o56, funext fun j => q57c 224 j, by rw [q57a, hT, show wd - i = 0 by omega, tsF, if_neg (by omega), if_neg (by rw [← hv53]; omega)]⟩ l58
        · refine h_vret rfl ?_
          exact ⟨_, rfl, o0, rfl, by rw [hT, show wd - i = 0 by omega, tsF, if_neg (by omega), if_pos (by rw [← hv53]; omega)]⟩
    · refine h_vret rfl ?_
      exact ⟨_, rfl, o0, rfl, by rw [hT, tsF_ge (by omega)]⟩
  obtain ⟨r, h1, w2, h2, h3⟩ := h_meth1 (nL := 8) rfl K
  rw [h2] at h1
  exact ⟨w2, h1, h3⟩
theorem ts_n {kn : sKn} : ∀ d : Nat, tsH (fX12_trySigns_n kn d) d := by
  intro d
  induction d with
  | zero =>
    intro w row k i l wd S m _ _ _ _ _ _ hi hd
    omega
  | succ d ih => exact ts_g ih
theorem s_trySigns {kn : sKn} : tsH (fX12_trySigns kn) 5 := ts_n 5
def paV (N W : Nat → Int) (F : Int) (row k wide : Nat) (wt : Int) (S : Nat) : Int := if k = 3 then (if wt ≤ 9 then 0 else 100000) else if 3 < k + wide then 100000 else tsF N F row k wide wt S wide 0 W 0 100000
theorem paV_b {N W : Nat → Int} {F : Int} {row k wide : Nat} {wt : Int} {S : Nat} (hN : ∀ s, s < S → 0 ≤ N (15 + s)) : 0 ≤ paV N W F row k wide wt S ∧ paV N W F row k wide wt S ≤ 100000 := by
  unfold paV
  split
  · split <;> omega
  · split
    · omega
    · exact tsF_b hN wide 0 W 0 100000 (by omega) (by omega)
theorem pa_l {kn : sKn} {w : sW} (hw : wOk ZZ w) {row k l wd S : Nat} (hrow : row ≤ 11) (hk : k ≤ 3) (hl : l < 6) (hwd : gX w 215 (88 + l) = (wd : Int)) (hwd3 : wd ≤ 3) (hS : gX w 215 1 = (S : Int)) (hk3 : k ≠ 3) (hkw : k + wd ≤ 3) : ∀ (n j : Nat) (w1 : sW) (lv : List (Nat × Value)) (x : Int), j + n = 3 → x = (j : Int) → hO dH_ts w w1 → (gX w1 224 = gX w 224 ∧ gF w1 213 36 = 100000) → hL lv [(0, .ref 213), (1, hI row), (2, hI k), (3, hI l), (4, hI x)] → Tp (tX12_priceAt kn) (fun r => ∃ (w' : sW), r = (some (hI (paV (gX w 215) (gX w 224) (gF w 213 28) row k wd (gX w 215 (82 + l)) S)), w', 0, 0) ∧ hO dH_ts w w' ∧ gX w' 224 = gX w 224) 56 (lv, [], w1, 0, 0) := by
  intro n
  induction n with
  | zero =>
    intro j w1 lv x hn hx o0 hJ l0
    subst hx
    refine h_iload rfl l0 rfl ?_
    refine h_intv k_3 rfl ?_
    refine i_ge (kn := kn) (t := 3) (tgt := 76) (np := 62) rfl (by unfold R32; omega) (by unfold R32; omega) (fun e41 => ?_) (fun e41 => ?_)
    · refine h_aload rfl l0 rfl ?_
      refine h_iload rfl l0 rfl ?_
      refine h_iload rfl l0 rfl ?_
      refine h_intv k_0 rfl ?_
      refine h_iload rfl l0 rfl ?_
      refine h_intv k_0 rfl ?_
      have hN := ts_N hw o0
      obtain ⟨wG, hf42, oG', eG1, eG2⟩ := s_trySigns (kn := kn) w1 row k 0 l wd S 0 o0.1 hrow (by omega) hl (by rw [hN.1]; exact hwd) (by rw [hN.1]; exact hS) (by omega) (by omega) (by omega) (by omega)
      have oG : hO dH_ts w wG := hO_tr o0 oG'
      rw [hN.1, hN.2, hJ.1, hJ.2, show wd - 0 = wd by omega] at eG2
      rw [hJ.1] at eG1
      refine h_W6 rfl o0 l0 ci_213 rfl rfl hf42 ?_
      refine h_aload rfl l0 rfl ?_
      refine h_getI rfl oG fi_36 (fun b43a b43b => ?_)
      have eV : gF wG 213 36 = paV (gX w 215) (gX w 224) (gF w 213 28) row k wd (gX w 215 (82 + l)) S := by rw [eG2]; unfold paV; rw [if_neg (by omega), if_neg (by omega)]
      rw [eV]
      refine h_iret rfl ?_
      exact ⟨_, rfl, oG, eG1⟩
    · omega
  | succ n ih =>
    intro j w1 lv x hn hx o0 hJ l0
    subst hx
    refine h_iload rfl l0 rfl ?_
    refine h_intv k_3 rfl ?_
    refine i_ge (kn := kn) (t := 3) (tgt := 76) (np := 62) rfl (by unfold R32; omega) (by unfold R32; omega) (fun e41 => ?_) (fun e41 => ?_)
    · omega
    · refine h_aload rfl l0 rfl ?_
      refine h_getR rfl o0 fr_34 ?_
      refine h_iload rfl l0 rfl ?_
      refine h_intv k_n1 rfl ?_
      refine h_iastj (j) rfl o0 ai_230 rfl rfl aw_230 (by omega) (by omega) (by omega) (by omega) (by omega) (by unfold R32; omega) (fun w42 o42 q43a q43b q43c => ?_)
      refine h_iincv k_1 rfl l0 rfl (fun vl44 l44 => ?_)
      refine h_goto rfl ?_
      exact ih (j + 1) _ _ ((j : Int) + 1) (by omega) (by omega) o42 ⟨funext fun q => by rw [q43b 224 q (fun z => absurd z (by decide)), hJ.1], by rw [q43c]; exact hJ.2⟩ l44
theorem s_priceAt {kn : sKn} {w : sW} (hw : wOk ZZ w) {row k l wd S : Nat} (hrow : row ≤ 11) (hk : k ≤ 3) (hl : l < 6) (hwd : gX w 215 (88 + l) = (wd : Int)) (hwd3 : wd ≤ 3) (hS : gX w 215 1 = (S : Int)) : ∃ (w' : sW), fX12_priceAt kn [.ref 213, hI row, hI k, hI l] w = some (some (hI (paV (gX w 215) (gX w 224) (gF w 213 28) row k wd (gX w 215 (82 + l)) S)), w', 0, 0) ∧ hO dH_ts w w' ∧ gX w' 224 = gX w 224 := by
  have K : Tp (tX12_priceAt kn) (fun r => ∃ (w' : sW), r = (some (hI (paV (gX w 215) (gX w 224) (gF w 213 28) row k wd (gX w 215 (82 + l)) S)), w', 0, 0) ∧ hO dH_ts w w' ∧ gX w' 224 = gX w 224) 0 (lv_args 0 [.ref 213, hI row, hI k, hI l], [], w, 0, 0) := by
    have l0 : hL (lv_args 0 [.ref 213, hI row, hI k, hI l]) (lv_args 0 [.ref 213, hI row, hI k, hI l]) := hL_ex rfl
    have o0 : hO dH_ts w w := hO_rf hw
    refine h_iload rfl l0 rfl ?_
    refine h_intv k_3 rfl ?_
    refine i_ne (kn := kn) (t := 1) (tgt := 27) (np := 5) rfl (by unfold R32; omega) (by unfold R32; omega) (fun e41 => ?_) (fun e41 => ?_)
    · refine h_iload rfl l0 rfl ?_
      refine h_aload rfl l0 rfl ?_
      refine h_getR rfl o0 fr_14 ?_
      refine h_intv k_88 rfl ?_
      refine h_iload rfl l0 rfl ?_
      refine h_iadd rfl ?_
      refine h_ialdj (88 + l) rfl o0 ai_215 rfl (by omega) (by omega) (fun b42a b42b => ?_)
      rw [hwd] at b42a b42b ⊢
      refine h_iadd rfl ?_
      refine h_intv k_3 rfl ?_
      refine i_le (kn := kn) (t := 5) (tgt := 46) (np := 42) rfl (by unfold R32; omega) (by unfold R32; omega) (fun e43 => ?_) (fun e43 => ?_)
      · refine h_aload rfl l0 rfl ?_
        refine h_intv k_100000 rfl ?_
        refine h_putI rfl o0 fi_36 rfl (by omega) (by omega) (fun w44 o44 q45a q45b q45c => ?_)
        refine h_intv k_0 rfl ?_
        refine h_istore rfl l0 (fun vl46 l46 => ?_)
        exact pa_l hw hrow hk hl hwd hwd3 hS (by omega) (by omega) 3 0 _ _ 0 rfl rfl o44 ⟨funext fun j => q45c 224 j, q45a⟩ l46
      · refine h_intv k_100000 rfl ?_
        refine h_iret rfl ?_
        refine ⟨_, ?_, o0, rfl⟩
        first | rw [show paV (gX w 215) (gX w 224) (gF w 213 28) row k wd (gX w 215 (82 + l)) S = 0 from by unfold paV; rw [if_pos (by omega), if_pos (by omega)]] | rw [show paV (gX w 215) (gX w 224) (gF w 213 28) row k wd (gX w 215 (82 + l)) S = 100000 from by unfold paV; rw [if_pos (by omega), if_neg (by omega)]] | rw [show paV (gX w 215) (gX w 224) (gF w 213 28) row k wd (gX w 215 (82 + l)) S = 100000 from by unfold paV; rw [if_neg (by omega), if_pos (by omega)]]
    · refine h_aload rfl l0 rfl ?_
      refine h_getR rfl o0 fr_14 ?_
      refine h_intv k_82 rfl ?_
      refine h_iload rfl l0 rfl ?_
      refine h_iadd rfl ?_
      refine h_ialdj (82 + l) rfl o0 ai_215 rfl (by omega) (by omega) (fun b47a b47b => ?_)
      have b47c := weight_of o0 hl
      refine h_intv k_9 rfl ?_
      refine i_gt (kn := kn) (t := 4) (tgt := 23) (np := 19) rfl (by unfold R32; omega) (by unfold R32; omega) (fun e48 => ?_) (fun e48 => ?_)
      · refine h_intv k_100000 rfl ?_
        refine h_iret rfl ?_
        refine ⟨_, ?_, o0, rfl⟩
        first | rw [show paV (gX w 215) (gX w 224) (gF w 213 28) row k wd (gX w 215 (82 + l)) S = 0 from by unfold paV; rw [if_pos (by omega), if_pos (by omega)]] | rw [show paV (gX w 215) (gX w 224) (gF w 213 28) row k wd (gX w 215 (82 + l)) S = 100000 from by unfold paV; rw [if_pos (by omega), if_neg (by omega)]] | rw [show paV (gX w 215) (gX w 224) (gF w 213 28) row k wd (gX w 215 (82 + l)) S = 100000 from by unfold paV; rw [if_neg (by omega), if_pos (by omega)]]
      · refine h_intv k_0 rfl ?_
        refine h_goto rfl ?_
        refine h_iret rfl ?_
        refine ⟨_, ?_, o0, rfl⟩
        first | rw [show paV (gX w 215) (gX w 224) (gF w 213 28) row k wd (gX w 215 (82 + l)) S = 0 from by unfold paV; rw [if_pos (by omega), if_pos (by omega)]] | rw [show paV (gX w 215) (gX w 224) (gF w 213 28) row k wd (gX w 215 (82 + l)) S = 100000 from by unfold paV; rw [if_pos (by omega), if_neg (by omega)]] | rw [show paV (gX w 215) (gX w 224) (gF w 213 28) row k wd (gX w 215 (82 + l)) S = 100000 from by unfold paV; rw [if_neg (by omega), if_pos (by omega)]]
  obtain ⟨r, h1, w2, h2, h3⟩ := h_meth1 (nL := 5) rfl K
  rw [h2] at h1
  exact ⟨w2, h1, h3⟩
def dH_asks : List (Nat × Nat) := (61, 0) :: (61, 35) :: (75, 999) :: (77, 999) :: (dH_whose ++ dH_ts)
theorem dH_asks1 : msub dH_whose dH_asks = true := by decide +kernel
theorem dH_asks2 : msub dH_ts dH_asks = true := by decide +kernel
def asJ (w0 w w1 : sW) : Prop := hO dH_asks w0 w1 ∧ gX w1 215 = gX w 215 ∧ gX w1 224 = gX w 224 ∧ gF w1 213 28 = gF w 213 28
def asP (w : sW) (wd S l : Nat) (r k : Nat) : Int := paV (gX w 215) (gX w 224) (gF w 213 28) r k wd (gX w 215 (82 + l)) S
theorem as_st {w0 w w1 w2 : sW} (h : asJ w0 w w1) (o : hO dH_asks w0 w2) (h1 : ∀ c j, (c = 215 ∨ c = 224) → gX w2 c j = gX w1 c j) (h2 : gF w2 213 28 = gF w1 213 28) : asJ w0 w w2 := ⟨o, by rw [← h.2.1]; exact funext fun j => h1 _ j (Or.inl rfl), by rw [← h.2.2.1]; exact funext fun j => h1 _ j (Or.inr rfl), by rw [h2]; exact h.2.2.2⟩
theorem as_pa {kn : sKn} {w0 w w1 : sW} (h : asJ w0 w w1) {row k l wd S : Nat} (hrow : row ≤ 11) (hk : k ≤ 3) (hl : l < 6) (hwd : gX w 215 (88 + l) = (wd : Int)) (hwd3 : wd ≤ 3) (hS : gX w 215 1 = (S : Int)) : ∃ w2, fX12_priceAt kn [.ref 213, hI row, hI k, hI l] w1 = some (some (hI (asP w wd S l row k)), w2, 0, 0) ∧ asJ w0 w w2 ∧ gX w2 227 = gX w1 227 := by
  obtain ⟨w2, h1, h2, h3⟩ := s_priceAt (kn := kn) h.1.1 (row := row) (k := k) (l := l) (wd := wd) (S := S) hrow hk hl (by rw [h.2.1]; exact hwd) hwd3 (by rw [h.2.1]; exact hS)
  rw [h.2.1, h.2.2.1, h.2.2.2] at h1
  have hN := ts_N h.1.1 h2
  exact ⟨w2, h1, ⟨hO_tr h.1 (hO_mono dH_asks2 h2), by rw [hN.1]; exact h.2.1, by rw [h3]; exact h.2.2.1, by rw [hN.2]; exact h.2.2.2⟩, funext fun j => fr_gX (t := 75) (c := 227) h2.2 rfl (by decide +kernel) h.1.1 (by decide +kernel) j⟩
def asG (pa : Nat → Nat → Int) (P : Nat → Int) (R r k : Nat) : Prop := (0 ≤ P (4 * r + k) ∧ P (4 * r + k) ≤ 100000) ∧ (P (4 * r + k) < 100000 → pa r k < 100000 ∧ ((r + 1 = R ∧ P (4 * r + k) = pa r k) ∨ (r + 1 < R ∧ ∃ n, n ≤ 3 ∧ folP k n ∧ P (4 * r + k) = pa r k + P (4 * r + 4 + n))))
def arI (P : Nat → Int) (R r k : Nat) (rho : Int) : Prop := 0 ≤ rho ∧ rho ≤ 100000 ∧ (r + 1 = R → rho = 0) ∧ (r + 1 < R → rho = 100000 ∨ ∃ m, m ≤ 3 ∧ folP k m ∧ P (4 * r + 4 + m) = rho)
theorem asG_c {pa : Nat → Nat → Int} {P P' : Nat → Int} {R r k : Nat} (h : asG pa P R r k) (h1 : P' (4 * r + k) = P (4 * r + k)) (h2 : ∀ n, n ≤ 3 → P' (4 * r + 4 + n) = P (4 * r + 4 + n)) : asG pa P' R r k := by
  obtain ⟨g1, g2⟩ := h
  unfold asG
  rw [h1]
  refine ⟨g1, fun hx => ?_⟩
  obtain ⟨a, b⟩ := g2 hx
  refine ⟨a, ?_⟩
  rcases b with b | ⟨b1, n, n1, n2, n3⟩
  · exact Or.inl b
  · exact Or.inr ⟨b1, n, n1, n2, by rw [h2 n n1]; exact n3⟩
theorem asG_of {pa : Nat → Nat → Int} {P P' : Nat → Int} {R r k : Nat} {rho b : Int} (hpa : 0 ≤ pa r k ∧ pa r k ≤ 100000) (h : arI P R r k rho) (hr : r < R) (hk : k ≤ 3) (hb : (100000 < pa r k + rho ∧ b = 100000) ∨ (pa r k + rho ≤ 100000 ∧ b = pa r k + rho)) (h1 : P' (4 * r + k) = b) (h2 : ∀ n, n ≤ 3 → P' (4 * r + 4 + n) = P (4 * r + 4 + n)) : asG pa P' R r k := by
  obtain ⟨g1, g2, g3, g4⟩ := h
  unfold asG
  rw [h1]
  have q : 0 ≤ b ∧ b ≤ 100000 := by clear g4 h2; omega
  refine ⟨q, fun hx => ?_⟩
  have q2 : pa r k < 100000 := by clear g4 h2; omega
  refine ⟨q2, ?_⟩
  by_cases e : r + 1 = R
  · have := g3 e
    refine Or.inl ⟨e, ?_⟩
    clear g4 h2
    omega
  · have e2 : r + 1 < R := by omega
    rcases g4 e2 with g5 | ⟨m, m1, m2, m3⟩
    · exfalso
      clear g4 h2
      omega
    · refine Or.inr ⟨e2, m, m1, m2, ?_⟩
      rw [h2 m m1, m3]
      clear g4 h2
      omega
theorem pa_k {w : sW} {wd S l r k : Nat} (h : asP w wd S l r k < 100000) : k = 3 ∨ k + wd ≤ 3 := by
  by_cases e : k = 3
  · exact Or.inl e
  · right
    unfold asP paV at h
    rw [if_neg e] at h
    split at h
    · omega
    · omega
theorem as_n {kn : sKn} {Po : sR → Prop} {D : List (Nat × Nat)} {w0 w1 : sW} (o0 : hO D w0 w1) {l R r k : Nat} (hr : r < R) (hR2 : R ≤ 12) (hk : k ≤ 3) (hP : ∀ n, n ≤ 3 → r + 1 < R → 0 ≤ gX w1 227 (4 * r + 4 + n) ∧ gX w1 227 (4 * r + 4 + n) ≤ 100000) (hx : ∀ (lv : List (Nat × Value)) (rho x : Int), hL lv [(0, .ref 213), (1, hI l), (2, hI R), (3, hI r), (4, hI k), (5, hI rho), (6, hI x)] → arI (gX w1 227) R r k rho → Tp (tX12_asks kn) Po 111 (lv, [], w1, 0, 0)) : ∀ (m n : Nat) (rho : Int) (lv : List (Nat × Value)) (x : Int), n + m = 4 → x = (n : Int) → hL lv [(0, .ref 213), (1, hI l), (2, hI R), (3, hI r), (4, hI k), (5, hI rho), (6, hI x)] → arI (gX w1 227) R r k rho → Tp (tX12_asks kn) Po 62 (lv, [], w1, 0, 0) := by
  intro m
  induction m with
  | zero =>
    intro n rho lv x hm hx2 l0 hI
    subst hx2
    have hI1 := hI.1
    have hI2 := hI.2.1
    refine h_iload rfl l0 rfl ?_
    refine h_intv k_3 rfl ?_
    refine i_gt (kn := kn) (t := 4) (tgt := 111) (np := 68) rfl (by unfold R32; omega) (by unfold R32; omega) (fun e41 => ?_) (fun e41 => ?_)
    · exact hx _ _ _ l0 hI
    · omega
  | succ m ih =>
    intro n rho lv x hm hx2 l0 hI
    subst hx2
    have hI1 := hI.1
    have hI2 := hI.2.1
    refine h_iload rfl l0 rfl ?_
    refine h_intv k_3 rfl ?_
    refine i_gt (kn := kn) (t := 4) (tgt := 111) (np := 68) rfl (by unfold R32; omega) (by unfold R32; omega) (fun e41 => ?_) (fun e41 => ?_)
    · exact hx _ _ _ l0 hI
    · refine h_iload rfl l0 rfl ?_
      refine h_iload rfl l0 rfl ?_
      refine h_intv k_1 rfl ?_
      refine h_isub rfl ?_
      refine i_ge (kn := kn) (t := 3) (tgt := 111) (np := 75) rfl (by unfold R32; omega) (by unfold R32; omega) (fun e42 => ?_) (fun e42 => ?_)
      · exact hx _ _ _ l0 hI
      · refine h_iload rfl l0 rfl ?_
        refine h_iload rfl l0 rfl ?_
        obtain ⟨z43, hf43, hz43, hq43⟩ := s_follows (kn := kn) o0.1 k n hk (by omega)
        refine h_S2 rfl o0 l0 rfl rfl hf43 ?_
        refine j_eq (kn := kn) (t := 0) (tgt := 105) (np := 85) rfl (by unfold R32; omega) (fun e44 => ?_) (fun e44 => ?_)
        · refine h_iincv k_1 rfl l0 rfl (fun vl45 l45 => ?_)
          refine h_goto rfl ?_
          exact ih (n + 1) rho _ ((n : Int) + 1) (by omega) (by omega) l45 hI
        · refine h_iload rfl l0 rfl ?_
          refine h_aload rfl l0 rfl ?_
          refine h_getR rfl o0 fr_31 ?_
          refine h_intv k_4 rfl ?_
          refine h_iload rfl l0 rfl ?_
          refine h_imul rfl ?_
          refine h_intv k_4 rfl ?_
          refine h_iadd rfl ?_
          refine h_iload rfl l0 rfl ?_
          refine h_iadd rfl ?_
          refine h_ialdj (4 * r + 4 + n) rfl o0 ai_227 rfl (by omega) (by omega) (fun b46a b46b => ?_)
          have b46c := hP n (by omega) (by omega)
          obtain ⟨z47, hf47, hz47⟩ := s_least (kn := kn) o0.1 rho (gX w1 227 (4 * r + 4 + n)) ⟨by omega, by omega⟩ ⟨by omega, by omega⟩
          refine h_S2 rfl o0 l0 rfl rfl hf47 ?_
          refine h_istore rfl l0 (fun vl48 l48 => ?_)
          refine h_iincv k_1 rfl l48 rfl (fun vl49 l49 => ?_)
          refine h_goto rfl ?_
          exact ih (n + 1) _ _ ((n : Int) + 1) (by omega) (by omega) l49 (by
            have fo := hq43.mp (by omega)
            obtain ⟨g1, g2, g3, g4⟩ := hI
            rcases hz47 with ⟨a, b⟩ | ⟨a, b⟩
            · rw [b]
              exact ⟨g1, g2, g3, g4⟩
            · rw [b]
              exact ⟨by omega, by omega, fun z => by omega, fun _ => Or.inr ⟨n, by omega, fo, rfl⟩⟩)
theorem as_k {kn : sKn} {w0 w : sW} {l wd S R : Nat} (hl : l < 6) (hwd : gX w 215 (88 + l) = (wd : Int)) (hwd3 : wd ≤ 3) (hS : gX w 215 1 = (S : Int)) (hR : gX w 215 0 = (R : Int)) (hR1 : 1 ≤ R) (hR2 : R ≤ 12) (hmi : ∀ s, s < S → 0 ≤ gX w 215 (15 + s)) {r : Nat} (hr : r < R) (hx : ∀ (w1 : sW) (lv : List (Nat × Value)), asJ w0 w w1 → (∀ a b, r ≤ a → a < R → b ≤ 3 → asG (asP w wd S l) (gX w1 227) R a b) → hL lv [(0, .ref 213), (1, hI l), (2, hI R), (3, hI r)] → Tp (tX12_asks kn) (fun r => ∃ (w' : sW) (v : Int), r = (some (hI v), w', 0, 0) ∧ hO dH_asks w0 w') 145 (lv, [], w1, 0, 0)) : ∀ (m k : Nat) (w1 : sW) (lv : List (Nat × Value)) (x : Int), k + m = 4 → x = (k : Int) → asJ w0 w w1 → hL lv [(0, .ref 213), (1, hI l), (2, hI R), (3, hI r), (4, hI x)] → (∀ a b, a < R → b ≤ 3 → (r < a ∨ (a = r ∧ b < k)) → asG (asP w wd S l) (gX w1 227) R a b) → Tp (tX12_asks kn) (fun r => ∃ (w' : sW) (v : Int), r = (some (hI v), w', 0, 0) ∧ hO dH_asks w0 w') 37 (lv, [], w1, 0, 0) := by
  intro m
  induction m with
  | zero =>
    intro k w1 lv x hm hx2 hJ l0 hg
    subst hx2
    have o0 := hJ.1
    refine h_iload rfl l0 rfl ?_
    refine h_intv k_3 rfl ?_
    refine i_gt (kn := kn) (t := 4) (tgt := 145) (np := 43) rfl (by unfold R32; omega) (by unfold R32; omega) (fun e41 => ?_) (fun e41 => ?_)
    · exact hx _ _ hJ (fun a b h1 h2 h3 => hg a b h2 h3 (by omega)) (hL_take 4 l0)
    · omega
  | succ m ih =>
    intro k w1 lv x hm hx2 hJ l0 hg
    subst hx2
    have o0 := hJ.1
    have b111 : ∀ (lv : List (Nat × Value)) (rho y : Int), hL lv [(0, .ref 213), (1, hI l), (2, hI R), (3, hI r), (4, hI k), (5, hI rho), (6, hI y)] → arI (gX w1 227) R r k rho → Tp (tX12_asks kn) (fun r => ∃ (w' : sW) (v : Int), r = (some (hI v), w', 0, 0) ∧ hO dH_asks w0 w') 111 (lv, [], w1, 0, 0) := by
      intro lv rho y l0 hI
      have hI1 := hI.1
      have hI2 := hI.2.1
      refine h_aload rfl l0 rfl ?_
      refine h_getR rfl o0 fr_31 ?_
      refine h_intv k_4 rfl ?_
      refine h_iload rfl l0 rfl ?_
      refine h_imul rfl ?_
      refine h_iload rfl l0 rfl ?_
      refine h_iadd rfl ?_
      refine h_intv k_100000 rfl ?_
      refine h_aload rfl l0 rfl ?_
      refine h_iload rfl l0 rfl ?_
      refine h_iload rfl l0 rfl ?_
      refine h_iload rfl l0 rfl ?_
      obtain ⟨wP, hf41, jP, eP⟩ := as_pa (kn := kn) hJ (row := r) (k := k) (l := l) (by omega) (by omega) hl hwd hwd3 hS
      have oP := jP.1
      have bP : 0 ≤ asP w wd S l r k ∧ asP w wd S l r k ≤ 100000 := paV_b hmi
      refine h_V4 rfl o0 l0 ci_213 rfl rfl hf41 ?_
      refine h_iload rfl l0 rfl ?_
      refine h_iadd rfl ?_
      obtain ⟨z42, hf42, hz42⟩ := s_least (kn := kn) oP.1 100000 (asP w wd S l r k + rho) ⟨by omega, by omega⟩ ⟨by omega, by omega⟩
      refine h_S2 rfl oP l0 rfl rfl hf42 ?_
      refine h_iastj (4 * r + k) rfl oP ai_227 rfl rfl aw_227 (by omega) (by omega) (by omega) (by omega) (by omega) (by unfold R32; omega) (fun w43 o43 q44a q44b q44c => ?_)
      refine h_iincv k_1 rfl l0 rfl (fun vl45 l45 => ?_)
      refine h_goto rfl ?_
      refine ih (k + 1) _ _ ((k : Int) + 1) (by omega) (by omega) (as_st jP o43 (fun c j hc => q44b c j (fun e => absurd hc (by omega))) (q44c 213 28)) (hL_take 5 l45) (fun a b h1 h2 h3 => ?_)
      by_cases e : a = r ∧ b = k
      · rw [e.1, e.2]
        exact asG_of bP hI hr (by omega) hz42 q44a (fun n hn => by rw [q44b 227 _ (fun _ => by omega), eP])
      · exact asG_c (hg a b h1 h2 (by omega)) (by rw [q44b 227 _ (fun _ => by omega), eP]) (fun n hn => by rw [q44b 227 _ (fun _ => by omega), eP])
    refine h_iload rfl l0 rfl ?_
    refine h_intv k_3 rfl ?_
    refine i_gt (kn := kn) (t := 4) (tgt := 145) (np := 43) rfl (by unfold R32; omega) (by unfold R32; omega) (fun e41 => ?_) (fun e41 => ?_)
    · exact hx _ _ hJ (fun a b h1 h2 h3 => hg a b h2 h3 (by omega)) (hL_take 4 l0)
    · refine h_iload rfl l0 rfl ?_
      refine h_iload rfl l0 rfl ?_
      refine h_intv k_1 rfl ?_
      refine h_isub rfl ?_
      refine i_ne (kn := kn) (t := 1) (tgt := 54) (np := 50) rfl (by unfold R32; omega) (by unfold R32; omega) (fun e42 => ?_) (fun e42 => ?_)
      · refine h_intv k_100000 rfl ?_
        refine h_istore rfl l0 (fun vl43 l43 => ?_)
        refine h_intv k_0 rfl ?_
        refine h_istore rfl l43 (fun vl44 l44 => ?_)
        refine as_n o0 hr hR2 (by omega) (fun n h1 h2 => (hg (r + 1) n (by omega) h1 (Or.inl (by omega))).1) ?_ 4 0 _ _ 0 rfl rfl l44 ?_
        · intro lv rho y l0 hI
          exact b111 lv rho y l0 hI
        · exact ⟨by omega, by omega, fun _ => by omega, fun _ => by first | exact Or.inl rfl | omega⟩
      · refine h_intv k_0 rfl ?_
        refine h_goto rfl ?_
        refine h_istore rfl l0 (fun vl45 l45 => ?_)
        refine h_intv k_0 rfl ?_
        refine h_istore rfl l45 (fun vl46 l46 => ?_)
        refine as_n o0 hr hR2 (by omega) (fun n h1 h2 => (hg (r + 1) n (by omega) h1 (Or.inl (by omega))).1) ?_ 4 0 _ _ 0 rfl rfl l46 ?_
        · intro lv rho y l0 hI
          exact b111 lv rho y l0 hI
        · exact ⟨by omega, by omega, fun _ => by omega, fun _ => by first | exact Or.inl rfl | omega⟩
theorem as_r {kn : sKn} {w0 w : sW} {l wd S R : Nat} (hl : l < 6) (hwd : gX w 215 (88 + l) = (wd : Int)) (hwd3 : wd ≤ 3) (hS : gX w 215 1 = (S : Int)) (hR : gX w 215 0 = (R : Int)) (hR1 : 1 ≤ R) (hR2 : R ≤ 12) (hmi : ∀ s, s < S → 0 ≤ gX w 215 (15 + s)) (hx : ∀ (w1 : sW) (lv : List (Nat × Value)), asJ w0 w w1 → (∀ a b, a < R → b ≤ 3 → asG (asP w wd S l) (gX w1 227) R a b) → hL lv [(0, .ref 213), (1, hI l), (2, hI R)] → Tp (tX12_asks kn) (fun r => ∃ (w' : sW) (v : Int), r = (some (hI v), w', 0, 0) ∧ hO dH_asks w0 w') 151 (lv, [], w1, 0, 0)) : ∀ (m : Nat) (w1 : sW) (lv : List (Nat × Value)) {x : Int}, x = (m : Int) - 1 → m ≤ R → asJ w0 w w1 → (∀ a b, m ≤ a → a < R → b ≤ 3 → asG (asP w wd S l) (gX w1 227) R a b) → hL lv [(0, .ref 213), (1, hI l), (2, hI R), (3, hI x)] → Tp (tX12_asks kn) (fun r => ∃ (w' : sW) (v : Int), r = (some (hI v), w', 0, 0) ∧ hO dH_asks w0 w') 30 (lv, [], w1, 0, 0) := by
  intro m
  induction m with
  | zero =>
    intro w1 lv x hxm hm hJ hg l0
    obtain rfl : x = -1 := by omega
    have o0 := hJ.1
    refine h_iload rfl l0 rfl ?_
    refine j_lt (kn := kn) (t := 2) (tgt := 151) (np := 34) rfl (by unfold R32; omega) (fun e41 => ?_) (fun e41 => ?_)
    · exact hx _ _ hJ (fun a b h1 h2 => hg a b (by omega) h1 h2) (hL_take 3 l0)
    · omega
  | succ m ih =>
    intro w1 lv x hxm hm hJ hg l0
    obtain rfl : x = (m : Int) := by omega
    have o0 := hJ.1
    refine h_iload rfl l0 rfl ?_
    refine j_lt (kn := kn) (t := 2) (tgt := 151) (np := 34) rfl (by unfold R32; omega) (fun e41 => ?_) (fun e41 => ?_)
    · omega
    · refine h_intv k_0 rfl ?_
      refine h_istore rfl l0 (fun vl42 l42 => ?_)
      refine as_k hl hwd hwd3 hS hR hR1 hR2 hmi (r := m) (by omega) ?_ 4 0 _ _ 0 rfl rfl hJ l42 (fun a b h1 h2 h3 => hg a b (by omega) h1 h2)
      intro w2 lv2 hJ2 hg2 l0
      have o2 := hJ2.1
      refine h_iincv k_n1 rfl l0 rfl (fun vl41 l41 => ?_)
      refine h_goto rfl ?_
      exact ih _ _ (by omega) (by omega) hJ2 hg2 l41
theorem as_a {kn : sKn} {w0 w : sW} {l wd S R : Nat} (hl : l < 6) (hwd : gX w 215 (88 + l) = (wd : Int)) (hwd3 : wd ≤ 3) (hS : gX w 215 1 = (S : Int)) (hR : gX w 215 0 = (R : Int)) (hR1 : 1 ≤ R) (hR2 : R ≤ 12) (hmi : ∀ s, s < S → 0 ≤ gX w 215 (15 + s)) {P : Nat → Int} {r k : Nat} {al lf at_ : Int} (hr : r < R) (hk : k = 3 ∨ k + wd ≤ 3) (hx : ∀ (w1 : sW) (lv : List (Nat × Value)), asJ w0 w w1 → gX w1 227 = P → hL lv [(0, .ref 213), (1, hI l), (2, hI R), (3, hI al), (4, hI lf), (5, hI at_), (6, hI r), (7, hI k)] → Tp (tX12_asks kn) (fun r => ∃ (w' : sW) (v : Int), r = (some (hI v), w', 0, 0) ∧ hO dH_asks w0 w') 341 (lv, [], w1, 0, 0)) : ∀ (m i : Nat) (w1 : sW) (lv : List (Nat × Value)) (x : Int), i + m = wd → x = (i : Int) → asJ w0 w w1 → gX w1 227 = P → hL lv [(0, .ref 213), (1, hI l), (2, hI R), (3, hI al), (4, hI lf), (5, hI at_), (6, hI r), (7, hI k), (8, hI x)] → Tp (tX12_asks kn) (fun r => ∃ (w' : sW) (v : Int), r = (some (hI v), w', 0, 0) ∧ hO dH_asks w0 w') 293 (lv, [], w1, 0, 0) := by
  intro m
  induction m with
  | zero =>
    intro i w1 lv x hm hx2 hJ hP l0
    subst hx2
    have o0 := hJ.1
    refine h_iload rfl l0 rfl ?_
    refine h_aload rfl l0 rfl ?_
    refine h_getR rfl o0 fr_14 ?_
    refine h_intv k_88 rfl ?_
    refine h_iload rfl l0 rfl ?_
    refine h_iadd rfl ?_
    refine h_ialdj (88 + l) rfl o0 ai_215 rfl (by omega) (by omega) (fun b41a b41b => ?_)
    rw [hJ.2.1, hwd] at b41a b41b ⊢
    refine i_ge (kn := kn) (t := 3) (tgt := 341) (np := 307) rfl (by unfold R32; omega) (by unfold R32; omega) (fun e42 => ?_) (fun e42 => ?_)
    · exact hx _ _ hJ hP (hL_take 8 l0)
    · omega
  | succ m ih =>
    intro i w1 lv x hm hx2 hJ hP l0
    subst hx2
    have o0 := hJ.1
    refine h_iload rfl l0 rfl ?_
    refine h_aload rfl l0 rfl ?_
    refine h_getR rfl o0 fr_14 ?_
    refine h_intv k_88 rfl ?_
    refine h_iload rfl l0 rfl ?_
    refine h_iadd rfl ?_
    refine h_ialdj (88 + l) rfl o0 ai_215 rfl (by omega) (by omega) (fun b41a b41b => ?_)
    rw [hJ.2.1, hwd] at b41a b41b ⊢
    refine i_ge (kn := kn) (t := 3) (tgt := 341) (np := 307) rfl (by unfold R32; omega) (by unfold R32; omega) (fun e42 => ?_) (fun e42 => ?_)
    · exact hx _ _ hJ hP (hL_take 8 l0)
    · refine h_iload rfl l0 rfl ?_
      refine h_intv k_3 rfl ?_
      refine i_eq (kn := kn) (t := 0) (tgt := 341) (np := 313) rfl (by unfold R32; omega) (by unfold R32; omega) (fun e43 => ?_) (fun e43 => ?_)
      · exact hx _ _ hJ hP (hL_take 8 l0)
      · refine h_aload rfl l0 rfl ?_
        refine h_getR rfl o0 fr_33 ?_
        refine h_intv k_3 rfl ?_
        refine h_iload rfl l0 rfl ?_
        refine h_imul rfl ?_
        refine h_iload rfl l0 rfl ?_
        refine h_iadd rfl ?_
        refine h_iload rfl l0 rfl ?_
        refine h_iadd rfl ?_
        refine h_aload rfl l0 rfl ?_
        refine h_getR rfl o0 fr_32 ?_
        refine h_iload rfl l0 rfl ?_
        refine h_ialdj (i) rfl o0 ai_228 rfl (by omega) (by omega) (fun b44a b44b => ?_)
        have b44c := gX_in o0 ai_228 ar_228 (j := i) (by omega) (by omega) (by omega)
        refine h_iastj (3 * r + k + i) rfl o0 ai_229 rfl rfl aw_229 (by omega) (by omega) (by omega) (by omega) (by omega) (by unfold R32; omega) (fun w45 o45 q46a q46b q46c => ?_)
        refine h_iincv k_1 rfl l0 rfl (fun vl47 l47 => ?_)
        refine h_goto rfl ?_
        exact ih (i + 1) _ _ ((i : Int) + 1) (by omega) (by omega) (as_st hJ o45 (fun c j hc => q46b c j (fun e => absurd hc (by omega))) (q46c 213 28)) (by rw [← hP]; exact funext fun j => q46b 227 j (fun e => absurd e (by decide))) l47
theorem as_s {kn : sKn} {Po : sR → Prop} {D : List (Nat × Nat)} {w0 w1 : sW} (o0 : hO D w0 w1) {l R r k0 : Nat} {al L at_ : Int} (hr : r < R) (hR2 : R ≤ 12) (hL2 : R32 L) (hk0 : k0 ≤ 3) (hk1 : gX w1 227 (4 * r + k0) = L) (hat : r = 0 ∨ ∃ a : Nat, a ≤ 3 ∧ at_ = (a : Int) ∧ folP a k0) (hx : ∀ (lv : List (Nat × Value)) (k : Nat), k ≤ 3 → gX w1 227 (4 * r + k) = L → hL lv [(0, .ref 213), (1, hI l), (2, hI R), (3, hI al), (4, hI L), (5, hI at_), (6, hI r), (7, hI k)] → Tp (tX12_asks kn) Po 276 (lv, [], w1, 0, 0)) : ∀ (m k : Nat) (lv : List (Nat × Value)) (x : Int), k + m = k0 → x = (k : Int) → hL lv [(0, .ref 213), (1, hI l), (2, hI R), (3, hI al), (4, hI L), (5, hI at_), (6, hI r), (7, hI x)] → Tp (tX12_asks kn) Po 238 (lv, [], w1, 0, 0) := by
  have hL3 := hL2.1
  have hL4 := hL2.2
  intro m
  induction m with
  | zero =>
    intro k lv x hm hx2 l0
    subst hx2
    have hkk : k = k0 := by omega
    refine h_aload rfl l0 rfl ?_
    refine h_getR rfl o0 fr_31 ?_
    refine h_intv k_4 rfl ?_
    refine h_iload rfl l0 rfl ?_
    refine h_imul rfl ?_
    refine h_iload rfl l0 rfl ?_
    refine h_iadd rfl ?_
    refine h_ialdj (4 * r + k) rfl o0 ai_227 rfl (by omega) (by omega) (fun b41a b41b => ?_)
    refine h_iload rfl l0 rfl ?_
    refine i_ne (kn := kn) (t := 1) (tgt := 270) (np := 255) rfl (by unfold R32; omega) (by unfold R32; omega) (fun e42 => ?_) (fun e42 => ?_)
    · refine h_iincv k_1 rfl l0 rfl (fun vl43 l43 => ?_)
      refine h_goto rfl ?_
      have kn0 : k ≠ k0 := fun e => by rw [← e] at hk1; omega
      exact absurd hkk kn0 -- l43
    · refine h_iload rfl l0 rfl ?_
      refine j_le (kn := kn) (t := 5) (tgt := 276) (np := 260) rfl (by unfold R32; omega) (fun e44 => ?_) (fun e44 => ?_)
      · exact hx _ _ (by omega) (by omega) l0
      · refine h_iload rfl l0 rfl ?_
        refine h_iload rfl l0 rfl ?_
        obtain ⟨na, hna, hna2⟩ : ∃ n : Nat, n ≤ 3 ∧ at_ = (n : Int) := by
          rcases hat with e | ⟨a, a1, a2, _⟩
          · omega
          · exact ⟨a, a1, a2⟩
        obtain ⟨z45, hf45, hz45, hq45⟩ := s_follows (kn := kn) o0.1 na k hna (by omega)
        rw [← hna2] at hf45
        refine h_S2 rfl o0 l0 rfl rfl hf45 ?_
        refine j_ne (kn := kn) (t := 1) (tgt := 276) (np := 270) rfl (by unfold R32; omega) (fun e46 => ?_) (fun e46 => ?_)
        · exact hx _ _ (by omega) (by omega) l0
        · refine h_iincv k_1 rfl l0 rfl (fun vl47 l47 => ?_)
          refine h_goto rfl ?_
          have kn0 : k ≠ k0 := fun e => by
            rcases hat with e2 | ⟨a, a1, a2, a3⟩
            · omega
            · have e3 : a = na := by omega
              rw [e3, ← e] at a3
              have := hq45.mpr a3
              omega
          exact absurd hkk kn0 -- l47
  | succ m ih =>
    intro k lv x hm hx2 l0
    subst hx2
    refine h_aload rfl l0 rfl ?_
    refine h_getR rfl o0 fr_31 ?_
    refine h_intv k_4 rfl ?_
    refine h_iload rfl l0 rfl ?_
    refine h_imul rfl ?_
    refine h_iload rfl l0 rfl ?_
    refine h_iadd rfl ?_
    refine h_ialdj (4 * r + k) rfl o0 ai_227 rfl (by omega) (by omega) (fun b41a b41b => ?_)
    refine h_iload rfl l0 rfl ?_
    refine i_ne (kn := kn) (t := 1) (tgt := 270) (np := 255) rfl (by unfold R32; omega) (by unfold R32; omega) (fun e42 => ?_) (fun e42 => ?_)
    · refine h_iincv k_1 rfl l0 rfl (fun vl43 l43 => ?_)
      refine h_goto rfl ?_
      have kn0 : k ≠ k0 := fun e => by rw [← e] at hk1; omega
      exact ih (k + 1) _ ((k : Int) + 1) (by omega) (by omega) l43
    · refine h_iload rfl l0 rfl ?_
      refine j_le (kn := kn) (t := 5) (tgt := 276) (np := 260) rfl (by unfold R32; omega) (fun e44 => ?_) (fun e44 => ?_)
      · exact hx _ _ (by omega) (by omega) l0
      · refine h_iload rfl l0 rfl ?_
        refine h_iload rfl l0 rfl ?_
        obtain ⟨na, hna, hna2⟩ : ∃ n : Nat, n ≤ 3 ∧ at_ = (n : Int) := by
          rcases hat with e | ⟨a, a1, a2, _⟩
          · omega
          · exact ⟨a, a1, a2⟩
        obtain ⟨z45, hf45, hz45, hq45⟩ := s_follows (kn := kn) o0.1 na k hna (by omega)
        rw [← hna2] at hf45
        refine h_S2 rfl o0 l0 rfl rfl hf45 ?_
        refine j_ne (kn := kn) (t := 1) (tgt := 276) (np := 270) rfl (by unfold R32; omega) (fun e46 => ?_) (fun e46 => ?_)
        · exact hx _ _ (by omega) (by omega) l0
        · refine h_iincv k_1 rfl l0 rfl (fun vl47 l47 => ?_)
          refine h_goto rfl ?_
          have kn0 : k ≠ k0 := fun e => by
            rcases hat with e2 | ⟨a, a1, a2, a3⟩
            · omega
            · have e3 : a = na := by omega
              rw [e3, ← e] at a3
              have := hq45.mpr a3
              omega
          exact ih (k + 1) _ ((k : Int) + 1) (by omega) (by omega) l47
theorem as_f {kn : sKn} {w0 w : sW} {l wd S R : Nat} (hl : l < 6) (hwd : gX w 215 (88 + l) = (wd : Int)) (hwd3 : wd ≤ 3) (hS : gX w 215 1 = (S : Int)) (hR : gX w 215 0 = (R : Int)) (hR1 : 1 ≤ R) (hR2 : R ≤ 12) (hmi : ∀ s, s < S → 0 ≤ gX w 215 (15 + s)) {P : Nat → Int} {al : Int} (hg : ∀ a b, a < R → b ≤ 3 → asG (asP w wd S l) P R a b) : ∀ (m r : Nat) (w1 : sW) (lv : List (Nat × Value)) (L at_ x : Int), r + m = R → x = (r : Int) → asJ w0 w w1 → gX w1 227 = P → (r < R → (0 ≤ L ∧ L < 100000) ∧ ∃ k0 : Nat, k0 ≤ 3 ∧ P (4 * r + k0) = L ∧ (r = 0 ∨ ∃ a : Nat, a ≤ 3 ∧ at_ = (a : Int) ∧ folP a k0)) → hL lv [(0, .ref 213), (1, hI l), (2, hI R), (3, hI al), (4, hI L), (5, hI at_), (6, hI x)] → Tp (tX12_asks kn) (fun r => ∃ (w' : sW) (v : Int), r = (some (hI v), w', 0, 0) ∧ hO dH_asks w0 w') 229 (lv, [], w1, 0, 0) := by
  intro m
  induction m with
  | zero =>
    intro r w1 lv L at_ x hm hx2 hJ hP hF l0
    subst hx2
    have o0 := hJ.1
    refine h_iload rfl l0 rfl ?_
    refine h_iload rfl l0 rfl ?_
    refine i_ge (kn := kn) (t := 3) (tgt := 351) (np := 235) rfl (by unfold R32; omega) (by unfold R32; omega) (fun e41 => ?_) (fun e41 => ?_)
    · refine h_iload rfl l0 rfl ?_
      refine h_iret rfl ?_
      exact ⟨_, _, rfl, o0⟩
    · omega
  | succ m ih =>
    intro r w1 lv L at_ x hm hx2 hJ hP hF l0
    subst hx2
    have o0 := hJ.1
    have hr : r < R := by omega
    have hLb := (hF hr).1
    have b276 : ∀ (lv : List (Nat × Value)) (k : Nat), k ≤ 3 → gX w1 227 (4 * r + k) = L → hL lv [(0, .ref 213), (1, hI l), (2, hI R), (3, hI al), (4, hI L), (5, hI at_), (6, hI r), (7, hI k)] → Tp (tX12_asks kn) (fun r => ∃ (w' : sW) (v : Int), r = (some (hI v), w', 0, 0) ∧ hO dH_asks w0 w') 276 (lv, [], w1, 0, 0) := by
      intro lv k hk3 hkL l0
      refine h_iload rfl l0 rfl ?_
      refine h_aload rfl l0 rfl ?_
      refine h_iload rfl l0 rfl ?_
      refine h_iload rfl l0 rfl ?_
      refine h_iload rfl l0 rfl ?_
      obtain ⟨wP, hf41, jP, eP⟩ := as_pa (kn := kn) hJ (row := r) (k := k) (l := l) (by omega) hk3 hl hwd hwd3 hS
      have oP := jP.1
      have bP : 0 ≤ asP w wd S l r k ∧ asP w wd S l r k ≤ 100000 := paV_b hmi
      refine h_V4 rfl o0 l0 ci_213 rfl rfl hf41 ?_
      refine h_isub rfl ?_
      refine h_istore rfl l0 (fun vl42 l42 => ?_)
      refine h_intv k_0 rfl ?_
      refine h_istore rfl l42 (fun vl43 l43 => ?_)
      have gk := (hg r k (by omega) hk3).2 (by rw [← hP, hkL]; omega)
      refine as_a hl hwd hwd3 hS hR hR1 hR2 hmi (P := P) (r := r) (k := k) hr (pa_k gk.1) ?_ wd 0 _ _ 0 (by omega) rfl jP (by rw [eP]; exact hP) l43
      intro w2 lv2 hJ2 hP2 l2
      have o2 := hJ2.1
      refine h_iload rfl l2 rfl ?_
      refine h_istore rfl l2 (fun vl41 l41 => ?_)
      refine h_iincv k_1 rfl l41 rfl (fun vl42 l42 => ?_)
      refine h_goto rfl ?_
      refine ih (r + 1) _ _ _ _ ((r : Int) + 1) (by omega) (by omega) hJ2 hP2 (fun h9 => ?_) (hL_take 7 l42)
      have hkL2 : P (4 * r + k) = L := by rw [← hP]; exact hkL
      rcases gk.2 with ⟨e, _⟩ | ⟨_, n, n1, n2, n3⟩
      · omega
      · have gn := (hg (r + 1) n h9 n1).1
        rw [show 4 * (r + 1) + n = 4 * r + 4 + n by omega] at gn
        refine ⟨⟨by omega, by omega⟩, n, n1, ?_, Or.inr ⟨k, hk3, rfl, n2⟩⟩
        rw [show 4 * (r + 1) + n = 4 * r + 4 + n by omega]
        omega
    refine h_iload rfl l0 rfl ?_
    refine h_iload rfl l0 rfl ?_
    refine i_ge (kn := kn) (t := 3) (tgt := 351) (np := 235) rfl (by unfold R32; omega) (by unfold R32; omega) (fun e41 => ?_) (fun e41 => ?_)
    · refine h_iload rfl l0 rfl ?_
      refine h_iret rfl ?_
      exact ⟨_, _, rfl, o0⟩
    · refine h_intv k_0 rfl ?_
      refine h_istore rfl l0 (fun vl42 l42 => ?_)
      obtain ⟨hLb, k0, k1, k2, k3⟩ := hF (by omega)
      exact as_s o0 (k0 := k0) hr hR2 ⟨by omega, by omega⟩ k1 (by rw [hP]; exact k2) k3 b276 k0 0 _ 0 (by omega) rfl l42
theorem as_c {kn : sKn} {w0 w : sW} {l wd S R : Nat} (hl : l < 6) (hwd : gX w 215 (88 + l) = (wd : Int)) (hwd3 : wd ≤ 3) (hS : gX w 215 1 = (S : Int)) (hR : gX w 215 0 = (R : Int)) (hR1 : 1 ≤ R) (hR2 : R ≤ 12) (hmi : ∀ s, s < S → 0 ≤ gX w 215 (15 + s)) {P : Nat → Int} {al : Int} (hg : ∀ a b, a < R → b ≤ 3 → asG (asP w wd S l) P R a b) (hal : 0 ≤ al ∧ al < 100000) (hfa : ∃ k0 : Nat, k0 ≤ 3 ∧ P k0 = al) : ∀ (m j : Nat) (w1 : sW) (lv : List (Nat × Value)) (x : Int), j + m = 36 → x = (j : Int) → asJ w0 w w1 → gX w1 227 = P → hL lv [(0, .ref 213), (1, hI l), (2, hI R), (3, hI al), (4, hI x)] → Tp (tX12_asks kn) (fun r => ∃ (w' : sW) (v : Int), r = (some (hI v), w', 0, 0) ∧ hO dH_asks w0 w') 194 (lv, [], w1, 0, 0) := by
  intro m
  induction m with
  | zero =>
    intro j w1 lv x hm hx2 hJ hP l0
    subst hx2
    have o0 := hJ.1
    refine h_iload rfl l0 rfl ?_
    refine h_intv k_36 rfl ?_
    refine i_ge (kn := kn) (t := 3) (tgt := 215) (np := 201) rfl (by unfold R32; omega) (by unfold R32; omega) (fun e41 => ?_) (fun e41 => ?_)
    · refine h_aload rfl l0 rfl ?_
      refine h_iload rfl l0 rfl ?_
      refine h_putI rfl o0 fi_35 rfl (by omega) (by omega) (fun w42 o42 q43a q43b q43c => ?_)
      refine h_iload rfl l0 rfl ?_
      refine h_istore rfl l0 (fun vl44 l44 => ?_)
      refine h_intv k_n1 rfl ?_
      refine h_istore rfl l44 (fun vl45 l45 => ?_)
      refine h_intv k_0 rfl ?_
      refine h_istore rfl l45 (fun vl46 l46 => ?_)
      exact as_f hl hwd hwd3 hS hR hR1 hR2 hmi (P := P) hg R 0 _ _ al (-1) 0 (by omega) rfl (as_st hJ o42 (fun c j _ => q43c c j) (q43b 213 28 (fun _ => by decide))) (by rw [← hP]; exact funext fun j => q43c 227 j) (fun _ => ⟨hal, hfa.imp fun k0 h => ⟨h.1, by rw [Nat.mul_zero, Nat.zero_add]; exact h.2, Or.inl rfl⟩⟩) l46
    · omega
  | succ m ih =>
    intro j w1 lv x hm hx2 hJ hP l0
    subst hx2
    have o0 := hJ.1
    refine h_iload rfl l0 rfl ?_
    refine h_intv k_36 rfl ?_
    refine i_ge (kn := kn) (t := 3) (tgt := 215) (np := 201) rfl (by unfold R32; omega) (by unfold R32; omega) (fun e41 => ?_) (fun e41 => ?_)
    · omega
    · refine h_aload rfl l0 rfl ?_
      refine h_getR rfl o0 fr_33 ?_
      refine h_iload rfl l0 rfl ?_
      refine h_intv k_n1 rfl ?_
      refine h_iastj (j) rfl o0 ai_229 rfl rfl aw_229 (by omega) (by omega) (by omega) (by omega) (by omega) (by unfold R32; omega) (fun w42 o42 q43a q43b q43c => ?_)
      refine h_iincv k_1 rfl l0 rfl (fun vl44 l44 => ?_)
      refine h_goto rfl ?_
      exact ih (j + 1) _ _ ((j : Int) + 1) (by omega) (by omega) (as_st hJ o42 (fun c i hc => q43b c i (fun e => absurd hc (by omega))) (q43c 213 28)) (by rw [← hP]; exact funext fun i => q43b 227 i (fun e => absurd e (by decide))) l44
theorem as_m {kn : sKn} {w0 w : sW} {l wd S R : Nat} (hl : l < 6) (hwd : gX w 215 (88 + l) = (wd : Int)) (hwd3 : wd ≤ 3) (hS : gX w 215 1 = (S : Int)) (hR : gX w 215 0 = (R : Int)) (hR1 : 1 ≤ R) (hR2 : R ≤ 12) (hmi : ∀ s, s < S → 0 ≤ gX w 215 (15 + s)) {w1 : sW} (hJ : asJ w0 w w1) (hg : ∀ a b, a < R → b ≤ 3 → asG (asP w wd S l) (gX w1 227) R a b) : ∀ (m k : Nat) (lv : List (Nat × Value)) (al x : Int), k + m = 4 → x = (k : Int) → (0 ≤ al ∧ al ≤ 100000 ∧ (al < 100000 → ∃ k0 : Nat, k0 ≤ 3 ∧ gX w1 227 k0 = al)) → hL lv [(0, .ref 213), (1, hI l), (2, hI R), (3, hI al), (4, hI x)] → Tp (tX12_asks kn) (fun r => ∃ (w' : sW) (v : Int), r = (some (hI v), w', 0, 0) ∧ hO dH_asks w0 w') 158 (lv, [], w1, 0, 0) := by
  have o0 := hJ.1
  intro m
  induction m with
  | zero =>
    intro k lv al x hm hx2 hA l0
    subst hx2
    have hA1 := hA.1
    have hA2 := hA.2.1
    refine h_iload rfl l0 rfl ?_
    refine h_intv k_3 rfl ?_
    refine i_gt (kn := kn) (t := 4) (tgt := 182) (np := 164) rfl (by unfold R32; omega) (by unfold R32; omega) (fun e41 => ?_) (fun e41 => ?_)
    · refine h_iload rfl l0 rfl ?_
      refine h_intv k_100000 rfl ?_
      refine i_lt (kn := kn) (t := 2) (tgt := 191) (np := 189) rfl (by unfold R32; omega) (by unfold R32; omega) (fun e42 => ?_) (fun e42 => ?_)
      · refine h_intv k_0 rfl ?_
        refine h_istore rfl l0 (fun vl43 l43 => ?_)
        exact as_c hl hwd hwd3 hS hR hR1 hR2 hmi (P := gX w1 227) hg ⟨by omega, by omega⟩ (hA.2.2 (by omega)) 36 0 _ _ 0 (by omega) rfl hJ rfl l43
      · refine h_intv k_n1 rfl ?_
        refine h_iret rfl ?_
        exact ⟨_, _, rfl, o0⟩
    · omega
  | succ m ih =>
    intro k lv al x hm hx2 hA l0
    subst hx2
    have hA1 := hA.1
    have hA2 := hA.2.1
    refine h_iload rfl l0 rfl ?_
    refine h_intv k_3 rfl ?_
    refine i_gt (kn := kn) (t := 4) (tgt := 182) (np := 164) rfl (by unfold R32; omega) (by unfold R32; omega) (fun e41 => ?_) (fun e41 => ?_)
    · omega
    · refine h_iload rfl l0 rfl ?_
      refine h_aload rfl l0 rfl ?_
      refine h_getR rfl o0 fr_31 ?_
      refine h_iload rfl l0 rfl ?_
      refine h_ialdj (k) rfl o0 ai_227 rfl (by omega) (by omega) (fun b42a b42b => ?_)
      have b42c := (hg 0 k (by omega) (by omega)).1
      rw [Nat.mul_zero, Nat.zero_add] at b42c
      obtain ⟨z43, hf43, hz43⟩ := s_least (kn := kn) o0.1 al (gX w1 227 (k)) ⟨by omega, by omega⟩ ⟨by omega, by omega⟩
      refine h_S2 rfl o0 l0 rfl rfl hf43 ?_
      refine h_istore rfl l0 (fun vl44 l44 => ?_)
      refine h_iincv k_1 rfl l44 rfl (fun vl45 l45 => ?_)
      refine h_goto rfl ?_
      refine ih (k + 1) _ _ ((k : Int) + 1) (by omega) (by omega) ?_ l45
      rcases hz43 with ⟨a, b⟩ | ⟨a, b⟩
      · rw [b]
        exact hA
      · rw [b]
        exact ⟨by omega, by omega, fun _ => ⟨k, by omega, rfl⟩⟩
theorem s_asks {kn : sKn} {w0 : sW} (hw : wOk ZZ w0) (x : Int) (hx : R32 x) : ∃ (w' : sW) (v : Int), fX12_asks kn [.ref 213, hI x] w0 = some (some (hI v), w', 0, 0) ∧ hO dH_asks w0 w' := by
  have hx1 := hx.1
  have hx2 := hx.2
  have K : Tp (tX12_asks kn) (fun r => ∃ (w' : sW) (v : Int), r = (some (hI v), w', 0, 0) ∧ hO dH_asks w0 w') 0 (lv_args 0 [.ref 213, hI x], [], w0, 0, 0) := by
    have l0 : hL (lv_args 0 [.ref 213, hI x]) (lv_args 0 [.ref 213, hI x]) := hL_ex rfl
    have o0 : hO dH_asks w0 w0 := hO_rf hw
    refine h_aload rfl l0 rfl ?_
    refine h_intv k_0 rfl ?_
    refine h_putI rfl o0 fi_0 rfl (by omega) (by omega) (fun w41 o41 q42a q42b q42c => ?_)
    refine h_aload rfl l0 rfl ?_
    refine h_iload rfl l0 rfl ?_
    obtain ⟨z43, hf43, hz43, hq43⟩ := s_isLoad (kn := kn) o41.1 x hx
    refine h_V2 rfl o41 l0 ci_213 rfl rfl hf43 ?_
    refine j_ne (kn := kn) (t := 1) (tgt := 15) (np := 13) rfl (by unfold R32; omega) (fun e44 => ?_) (fun e44 => ?_)
    · refine h_aload rfl l0 rfl ?_
      obtain ⟨wA, hf45, oA', _⟩ := s_layWhose2 (kn := kn) o41.1
      have oA : hO dH_asks w0 wA := hO_tr o41 (hO_mono dH_asks1 oA')
      have hx6 := hq43 (by omega)
      refine h_W1 rfl o41 l0 ci_213 rfl rfl hf45 ?_
      refine h_aload rfl l0 rfl ?_
      refine h_getR rfl oA fr_14 ?_
      refine h_intv k_0 rfl ?_
      refine h_ialdj (0) rfl oA ai_215 rfl (by omega) (by omega) (fun b46a b46b => ?_)
      obtain ⟨R, hR, hR1, hR2⟩ := rows_of oA
      rw [hR] at b46a b46b ⊢
      refine h_istore rfl l0 (fun vl47 l47 => ?_)
      refine h_iload rfl l47 rfl ?_
      refine h_intv k_1 rfl ?_
      refine h_isub rfl ?_
      refine h_istore rfl l47 (fun vl48 l48 => ?_)
      obtain ⟨l, hxl⟩ : ∃ l : Nat, x = (l : Int) := ⟨x.toNat, by omega⟩
      obtain ⟨wd, hwd, hwd3⟩ := wide_of oA (l := l) (by omega)
      have bS := gX_in oA ai_215 ar_signers (j := 1) (by omega) (by omega) (by omega)
      obtain ⟨S, hS⟩ : ∃ S : Nat, gX wA 215 1 = (S : Int) := ⟨(gX wA 215 1).toNat, by omega⟩
      have hmi : ∀ s, s < S → 0 ≤ gX wA 215 (15 + s) := fun s hs => (gX_in oA ai_215 ar_miles (j := 15 + s) (by omega) (by omega) (by omega)).1
      refine as_r (w := wA) (l := l) (by omega) hwd hwd3 hS hR hR1 hR2 hmi ?_ R _ _ rfl (Nat.le_refl R) ⟨oA, rfl, rfl, rfl⟩ (fun a b h1 h2 => by omega) (by rw [← hxl]; exact l48)
      intro w1 lv1 hJ hg l0
      have o1 := hJ.1
      refine h_intv k_100000 rfl ?_
      refine h_istore rfl l0 (fun vl41 l41 => ?_)
      refine h_intv k_0 rfl ?_
      refine h_istore rfl l41 (fun vl42 l42 => ?_)
      exact as_m (w := wA) (l := l) (by omega) hwd hwd3 hS hR hR1 hR2 hmi hJ hg 4 0 _ 100000 0 (by omega) rfl ⟨by omega, by omega, fun z => by omega⟩ l42
    · refine h_intv k_n1 rfl ?_
      refine h_iret rfl ?_
      exact ⟨_, _, rfl, o41⟩
  obtain ⟨r, h1, w2, v, h2, h3⟩ := h_meth1 (nL := 9) rfl K
  rw [h2] at h1
  exact ⟨w2, v, h1, h3⟩
end
