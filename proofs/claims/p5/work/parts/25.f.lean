noncomputable section
/-- the worlds between two turns -/
def BI (w : sW) : Prop := wOk ZZ w ∧ PW w ∧ (∃ c, c ≤ 23 ∧ bdI w c) ∧ o98 w ∧ KV w
theorem bi_len {w : sW} (h : BI w) : w.length = 242 ∨ w.length = 243 := by
  obtain ⟨_, _, ⟨c, _, b, L, z, bs, ⟨_, hS⟩, _⟩, _⟩ := h
  omega
theorem ho_cell {D : List (Nat × Nat)} {w w' : sW} (o : hO D w w') {k : Nat} {c : sC} (hk : ZZ.2 k = none) (h : w[k]? = some c) : w'[k]? = some c := (o.2.2.1 k c h).1 hk
theorem bi_hO0 {D : List (Nat × Nat)} {w w' : sW} (h : BI w) (o : hO D w w') (hm : mIn D 61 778 = false) (hk : KV w') : BI w' := by
  obtain ⟨hw, hp, ⟨c, hc, b, L, z, bs, ⟨⟨h1, h2, h3, h4⟩, hS⟩, hcL⟩, ⟨vs, hv⟩, _⟩ := h
  have n97 : ZZ.2 97 = none := by decide +kernel
  have n98 : ZZ.2 98 = none := by decide +kernel
  have n242 : ZZ.2 242 = none := by decide +kernel
  refine ⟨o.1, pw_of o hm hp, ⟨c, hc, b, L, z, bs, ⟨⟨ho_cell o n97 h1, ?_, h3, h4⟩, ?_⟩, hcL⟩, ⟨vs, ho_cell o n98 hv⟩, hk⟩
  · rcases hS with ⟨e, _, _⟩ | ⟨e, _, _⟩
    · rw [e] at h2 ⊢
      exact ho_cell o n98 h2
    · rw [e] at h2 ⊢
      exact ho_cell o n242 h2
  · rw [o.2.1]
    exact hS
theorem bi_hO {D : List (Nat × Nat)} {w w' : sW} (h : BI w) (o : hO D w w') (hm : (mIn D 61 778 || (mIn D 65 999 || mIn D 71 999)) = false) : BI w' := by
  rw [Bool.or_eq_false_iff, Bool.or_eq_false_iff] at hm
  exact bi_hO0 h o hm.1 (kv_fr h.1 o hm.2.1 hm.2.2 h.2.2.2.2)
theorem bi_bdR {w w' : sW} {n m : Nat} (h : BI w) (hb : ∃ c', bdI w' c' ∧ c' ≤ 23) (hR : bdR w w' n m) : BI w' := by
  obtain ⟨hw, hp, _, ho, hk⟩ := h
  obtain ⟨c', h1, h2⟩ := hb
  refine ⟨bdR_w hR hw, PW_eq ?_ ?_ hp, ⟨c', h2, h1⟩, hR.2.2 ho, ?_⟩
  · intro c kf h
    unfold pRf at h
    unfold gR
    rw [hR.1 c (by omega) (by omega) (by omega)]
  · intro c j h
    unfold pRd at h
    unfold gX
    rw [hR.1 c (by omega) (by omega) (by omega)]
  · intro e he g
    have g1 : gX w' 223 e = gX w 223 e := by unfold gX; rw [hR.1 223 (by omega) (by omega) (by omega)]
    have g2 : gX w' 217 (438 * e) = gX w 217 (438 * e) := by unfold gX; rw [hR.1 217 (by omega) (by omega) (by omega)]
    rw [g2]
    rw [g1] at g
    exact hk e he g
/-- the text as long as it was -/
theorem fr_t2 {D : List (Nat × Nat)} {w w' : sW} (hw : wOk ZZ w) (o : hO D w w') (h : mIn D 3 999 = false) (i : Nat) : gX w' 2 i = gX w 2 i := fr_gX (t := 3) (c := 2) o.2 rfl h hw (by decide +kernel) i
theorem fr_t214 {D : List (Nat × Nat)} {w w' : sW} (hw : wOk ZZ w) (o : hO D w w') (h : mIn D 62 999 = false) (i : Nat) : gX w' 214 i = gX w 214 i := fr_gX (t := 62) (c := 214) o.2 rfl h hw (by decide +kernel) i
theorem fr_gR4 {D : List (Nat × Nat)} {w w' : sW} {kf : Nat} (hw : wOk ZZ w) (o : hO D w w') (h : mIn D 5 kf = false) : gR w' 4 kf = gR w 4 kf := by
  cases e : cIs 4 with
  | none => exact absurd e (by decide +kernel)
  | some q =>
    obtain ⟨fs, w1⟩ := cIs_ok (hO_rf (D := []) hw) e
    obtain ⟨fs', k1, k2⟩ := (o.2.2.1 4 _ w1).2 5 (show ZZ.2 4 = some 5 from rfl)
    unfold gR
    rw [k1, w1]
    dsimp only
    rw [k2 kf (mIn_no h)]
def pD (D : List (Nat × Nat)) : Bool := mIn D 5 6 || mIn D 5 7 || mIn D 5 8 || mIn D 5 9 || mIn D 5 10 || mIn D 5 11 || mIn D 5 12 || mIn D 5 13 || mIn D 5 14
def tD (D : List (Nat × Nat)) : Bool := mIn D 3 999 || (mIn D 62 999 || pD D)
def kD (D : List (Nat × Nat)) : Bool := tD D || (jD D || jR D)
def kT (w w' : sW) : Prop := (∀ i, gX w' 2 i = gX w 2 i) ∧ (∀ i, gX w' 214 i = gX w 214 i) ∧ (pl4 w → pl4 w')
def kk (w w' : sW) : Prop := kT w w' ∧ kC w w' ∧ kR w w'
def kp (w w' : sW) : Prop := gF w' 1 1 = gF w 1 1 ∧ gF w' 213 2 = gF w 213 2 ∧ kk w w'
theorem kk_rf (w : sW) : kk w w := ⟨⟨fun _ => rfl, fun _ => rfl, fun h => h⟩, kC_rf w, kR_rf w⟩
theorem kp_rf (w : sW) : kp w w := ⟨rfl, rfl, kk_rf w⟩
theorem pD_ok {D : List (Nat × Nat)} {w w' : sW} (hw : wOk ZZ w) (o : hO D w w') (h : pD D = false) (p : pl4 w) : pl4 w' := by
  unfold pD at h
  simp only [Bool.or_eq_false_iff] at h
  obtain ⟨⟨⟨⟨⟨⟨⟨⟨h6, h7⟩, h8⟩, h9⟩, h10⟩, h11⟩, h12⟩, h13⟩, h14⟩ := h
  obtain ⟨p6, p7, p8, p9, p10, p11, p12, p13, p14⟩ := p
  exact ⟨(fr_gR4 hw o h6).trans p6, (fr_gR4 hw o h7).trans p7, (fr_gR4 hw o h8).trans p8, (fr_gR4 hw o h9).trans p9, (fr_gR4 hw o h10).trans p10, (fr_gR4 hw o h11).trans p11, (fr_gR4 hw o h12).trans p12, (fr_gR4 hw o h13).trans p13, (fr_gR4 hw o h14).trans p14⟩
theorem kT_hO {D : List (Nat × Nat)} {w w' : sW} (hw : wOk ZZ w) (o : hO D w w') (h : tD D = false) : kT w w' := by
  unfold tD at h
  rw [Bool.or_eq_false_iff, Bool.or_eq_false_iff] at h
  exact ⟨fr_t2 hw o h.1, fr_t214 hw o h.2.1, pD_ok hw o h.2.2⟩
theorem kk_hO {D : List (Nat × Nat)} {w w' : sW} (hw : wOk ZZ w) (o : hO D w w') (h : kD D = false) : kk w w' := by
  unfold kD at h
  rw [Bool.or_eq_false_iff, Bool.or_eq_false_iff] at h
  exact ⟨kT_hO hw o h.1, kC_hO hw o h.2.1, kR_hO o h.2.2⟩
theorem l1_hO {D : List (Nat × Nat)} {w w' : sW} (hw : wOk ZZ w) (o : hO D w w') (h : mIn D 2 1 = false) : gF w' 1 1 = gF w 1 1 := fr_gF (t := 2) (c := 1) o.2 rfl h hw (by decide +kernel)
theorem l2_hO {D : List (Nat × Nat)} {w w' : sW} (hw : wOk ZZ w) (o : hO D w w') (h : mIn D 61 2 = false) : gF w' 213 2 = gF w 213 2 := fr_gF (t := 61) (c := 213) o.2 rfl h hw (by decide +kernel)
theorem kp_1 {D : List (Nat × Nat)} {w w' : sW} (hw : wOk ZZ w) (o : hO D w w') (h1 : (mIn D 2 1 || kD D) = false) : gF w' 1 1 = gF w 1 1 ∧ kk w w' := by
  rw [Bool.or_eq_false_iff] at h1
  exact ⟨l1_hO hw o h1.1, kk_hO hw o h1.2⟩
theorem kp_2 {D : List (Nat × Nat)} {w w' : sW} (hw : wOk ZZ w) (o : hO D w w') (h2 : (mIn D 61 2 || kD D) = false) : gF w' 213 2 = gF w 213 2 ∧ kk w w' := by
  rw [Bool.or_eq_false_iff] at h2
  exact ⟨l2_hO hw o h2.1, kk_hO hw o h2.2⟩
theorem kp_hO {D : List (Nat × Nat)} {w w' : sW} (hw : wOk ZZ w) (o : hO D w w') (h1 : mIn D 2 1 = false) (h2 : (mIn D 61 2 || kD D) = false) : kp w w' := ⟨l1_hO hw o h1, kp_2 hw o h2⟩
theorem kp_bdR {w w' : sW} {n m : Nat} (hR : bdR w w' n m) : kp w w' := by
  refine ⟨?_, ?_, ?_, kCR_bd (fun c hc => hR.1 c (by omega) (by omega) (by omega))⟩
  · unfold gF
    rw [hR.1 1 (by omega) (by omega) (by omega)]
  · unfold gF
    rw [hR.1 213 (by omega) (by omega) (by omega)]
  · unfold kT pl4 gX gR
    rw [hR.1 2 (by omega) (by omega) (by omega), hR.1 214 (by omega) (by omega) (by omega), hR.1 4 (by omega) (by omega) (by omega)]
    exact ⟨fun _ => rfl, fun _ => rfl, fun h => h⟩
/-- the tape of both, and the plan that a BRIDGE is read into -/
def tkT (w : sW) : Prop := (∀ i : Nat, (i : Int) < gF w 1 1 → gX w 2 i = gX w 214 i) ∧ pl4 w
def tkL5 (w : sW) : Prop := gF w 1 1 = gF w 213 2 ∧ tkT w ∧ JC w
theorem tkT_le {w w1 w2 : sW} (h : tkT w) (k1 : kT w w1) (k2 : kT w1 w2) (hl : gF w2 1 1 ≤ gF w 1 1) : tkT w2 := ⟨fun i hi => by
  rw [k2.1 i, k1.1 i, k2.2.1 i, k1.2.1 i]
  exact h.1 i (by omega), k2.2.2 (k1.2.2 h.2)⟩
theorem tk_kk {w w1 w2 : sW} (h : tkL5 w) (e : gF w2 1 1 = gF w2 213 2) (g1 : kk w w1) (g2 : kk w1 w2) (hl : gF w2 1 1 ≤ gF w 1 1) : tkL5 w2 := ⟨e, tkT_le h.2.1 g1.1 g2.1 hl, jc_k g2.2.1 g2.2.2 (jc_k g1.2.1 g1.2.2 h.2.2)⟩
theorem tk_kp {w w1 w2 : sW} (h : tkL5 w) (g1 : kp w w1) (g2 : kp w1 w2) : tkL5 w2 := by
  obtain ⟨a1, a2, a3⟩ := g1
  obtain ⟨b1, b2, b3⟩ := g2
  have := h.1
  exact tk_kk h (by omega) a3 b3 (by omega)
theorem tk_nn {w : sW} (h : wOk ZZ w) : 0 ≤ gF w 1 1 ∧ gF w 1 1 ≤ 940 := by
  obtain ⟨_, _, _, _, _, _, _, g1, g2⟩ := fI_ok (hO_rf (D := []) h) fi_1_1
  exact ⟨g1, g2⟩
/-- one world behind one call -/
theorem one_w {f : List Value → sW → Option sR} {av : List Value} {w w1 w2 : sW} {v1 v2 : Int} (e1 : f av w = some (some (hI v1), w1, 0, 0)) (e2 : f av w = some (some (hI v2), w2, 0, 0)) : w1 = w2 ∧ hI v1 = hI v2 := by
  have e3 := e1.symm.trans e2
  simp only [Option.some.injEq, Prod.mk.injEq] at e3
  exact ⟨e3.2.1, e3.1⟩
def fdB (n : Nat) (T : Nat → Int) (x1 x2 x3 x4 x5 : Int) (X : Nat → Int) : Prop := (940 < n + 20 ∧ ∀ i, i < n → X i = T i) ∨ (n + 20 ≤ 940 ∧ ∀ i, i < n + 20 → X i = (fbx (fbx (fbx (fbx (fbx T n x1) (n + 4) x2) (n + 8) x3) (n + 12) x4) (n + 16) x5) i)
theorem f1_hO {D : List (Nat × Nat)} {w w' : sW} (hw : wOk ZZ w) (o : hO D w w') (h : mIn D 2 11 = false) : gF w' 1 11 = gF w 1 11 := fr_gF (t := 2) (c := 1) (kf := 11) o.2 rfl h hw (by decide +kernel)
theorem f2_hO {D : List (Nat × Nat)} {w w' : sW} (hw : wOk ZZ w) (o : hO D w w') (h : mIn D 61 10 = false) : gF w' 213 10 = gF w 213 10 := fr_gF (t := 61) (c := 213) (kf := 10) o.2 rfl h hw (by decide +kernel)
/-- the fault of both as it was -/
def kF (w w' : sW) : Prop := gF w' 1 11 = gF w 1 11 ∧ gF w' 213 10 = gF w 213 10
theorem kF_rf (w : sW) : kF w w := ⟨rfl, rfl⟩
theorem kF_hO {D : List (Nat × Nat)} {w w' : sW} (hw : wOk ZZ w) (o : hO D w w') (h : (mIn D 2 11 || mIn D 61 10) = false) : kF w w' := by
  rw [Bool.or_eq_false_iff] at h
  exact ⟨f1_hO hw o h.1, f2_hO hw o h.2⟩
theorem kF_bdR {w w' : sW} {n m : Nat} (hR : bdR w w' n m) : kF w w' := by
  refine ⟨?_, ?_⟩
  · unfold gF
    rw [hR.1 1 (by omega) (by omega) (by omega)]
  · unfold gF
    rw [hR.1 213 (by omega) (by omega) (by omega)]
def ft (w : sW) : Prop := gF w 1 11 = gF w 213 10
theorem ft_k {w w1 w2 : sW} (h : ft w) (k1 : kF w w1) (k2 : kF w1 w2) : ft w2 := (k2.1.trans k1.1).trans (h.trans (k2.2.trans k1.2).symm)
def tkL (w : sW) : Prop := tkL5 w ∧ ft w
def cO (f : List Value → sW → Option sR) (av : List Value) (w : sW) (G : sW → Int → Prop) : Prop := ∃ (w' : sW) (v : Int) (n : Nat), f av w = some (some (hI v), w', n, 34 * n) ∧ BI w' ∧ w'.length = w.length + n ∧ G w' v
theorem co_hO {D : List (Nat × Nat)} {f : List Value → sW → Option sR} {av : List Value} {w w' : sW} {v : Int} {G : sW → Int → Prop} (h : BI w) (e : f av w = some (some (hI v), w', 0, 0)) (o : hO D w w') (hm : (mIn D 61 778 || (mIn D 65 999 || mIn D 71 999)) = false) (g : G w' v) : cO f av w G := ⟨w', v, 0, e, bi_hO h o hm, o.2.1, g⟩
theorem hI_inj {x y : Int} (h : hI x = hI y) (hx : R32 x) (hy : R32 y) : x = y := by
  have h : Value.int (Int32.ofInt x) = Value.int (Int32.ofInt y) := h
  have h : Int32.ofInt x = Int32.ofInt y := by injection h
  have h1 := hI_to hx
  have h2 := hI_to hy
  rw [h] at h1
  exact h1.symm.trans h2
theorem c_X11_feed {kn : sKn} {w : sW} (h : BI w) (x1 : Int) (hx1 : R32 x1) (x2 : Int) (hx2 : R32 x2) (x3 : Int) (hx3 : R32 x3) (x4 : Int) (hx4 : R32 x4) (x5 : Int) (hx5 : R32 x5) : cO (fX11_feed kn) [.ref 0, hI x1, hI x2, hI x3, hI x4, hI x5] w (fun w1 v => kF w w1 ∧ ((940 < gF w 1 1 + 20 ∧ v = -1 ∧ gF w1 1 1 = gF w 1 1 ∨ gF w 1 1 + 20 ≤ 940 ∧ v = gF w 1 1 + 20 ∧ gF w1 1 1 = gF w 1 1 + 20) ∧ gF w1 213 2 = gF w 213 2 ∧ (∀ i, gX w1 214 i = gX w 214 i) ∧ (pl4 w → pl4 w1) ∧ fdB (gF w 1 1).toNat (gX w 2) x1 x2 x3 x4 x5 (gX w1 2) ∧ kC w w1 ∧ kR w w1)) := by
  obtain ⟨w', v, e, o, q⟩ := s_feed7 (kn := kn) h.1 x1 hx1 x2 hx2 x3 hx3 x4 hx4 x5 hx5
  have hn := tk_nn h.1
  obtain ⟨w2, v2, e2, q2⟩ := e_feedC (kn := kn) (T := gX w 2) (n := (gF w 1 1).toNat) h.1 hx1 hx2 hx3 hx4 hx5 (by omega) (fun _ _ => rfl)
  have ew : w2 = w' := (one_w e2 e).1
  subst ew
  exact co_hO h e o (by decide +kernel) ⟨kF_hO h.1 o (by decide +kernel), ⟨q, l2_hO h.1 o (by decide +kernel), fr_t214 h.1 o (by decide +kernel), pD_ok h.1 o (by decide +kernel), q2, kC_hO h.1 o (by decide +kernel), kR_hO o (by decide +kernel)⟩⟩
theorem c_X12_feed {kn : sKn} {w : sW} (h : BI w) {n : Nat} {T : Nat → Int} (hk : gF w 213 2 = (n : Int)) (hT : ∀ i, i < n → gX w 214 i = T i) (x1 : Int) (hx1 : R32 x1) (x2 : Int) (hx2 : R32 x2) (x3 : Int) (hx3 : R32 x3) (x4 : Int) (hx4 : R32 x4) (x5 : Int) (hx5 : R32 x5) : cO (fX12_feed kn) [.ref 213, hI x1, hI x2, hI x3, hI x4, hI x5] w (fun w1 v => kF w w1 ∧ ((gF w1 1 1 = gF w 1 1 ∧ (∀ i, gX w1 2 i = gX w 2 i) ∧ (pl4 w → pl4 w1) ∧ fdB n T x1 x2 x3 x4 x5 (gX w1 214) ∧ kC w w1 ∧ kR w w1) ∧ (940 < gF w 213 2 + 20 ∧ v = -1 ∧ gF w1 213 2 = gF w 213 2 ∨ gF w 213 2 + 20 ≤ 940 ∧ v = gF w 213 2 + 20 ∧ gF w1 213 2 = gF w 213 2 + 20))) := by
  obtain ⟨w', v, e, o, q⟩ := s_feedR (kn := kn) h.1 x1 hx1 x2 hx2 x3 hx3 x4 hx4 x5 hx5
  obtain ⟨w2, v2, e2, q2⟩ := e_feedR (kn := kn) (T := T) (n := n) h.1 hx1 hx2 hx3 hx4 hx5 hk hT
  have ew : w2 = w' := (one_w e2 e).1
  subst ew
  exact co_hO h e o (by decide +kernel) ⟨kF_hO h.1 o (by decide +kernel), ⟨⟨l1_hO h.1 o (by decide +kernel), fr_t2 h.1 o (by decide +kernel), pD_ok h.1 o (by decide +kernel), q2, kC_hO h.1 o (by decide +kernel), kR_hO o (by decide +kernel)⟩, q⟩⟩
theorem c_X11_end {kn : sKn} {w : sW} (h : BI w) (x1 : Int) (hx1 : R32 x1) : cO (fX11_end kn) [.ref 0, hI x1] w (fun w1 v => kF w w1 ∧ (((x1 < 0 ∨ gF w 1 1 < x1) ∧ v = 0 ∧ gF w1 1 1 = gF w 1 1 ∨ (0 ≤ x1 ∧ x1 ≤ gF w 1 1) ∧ v = 1 ∧ gF w1 1 1 = x1) ∧ gF w1 213 2 = gF w 213 2 ∧ kk w w1)) := by
  obtain ⟨w', v, e, o, q⟩ := s_end7 (kn := kn) h.1 x1 hx1
  exact co_hO h e o (by decide +kernel) ⟨kF_hO h.1 o (by decide +kernel), ⟨q, kp_2 h.1 o (by decide +kernel)⟩⟩
theorem c_X12_end {kn : sKn} {w : sW} (h : BI w) (x1 : Int) (hx1 : R32 x1) : cO (fX12_end kn) [.ref 213, hI x1] w (fun w1 v => kF w w1 ∧ ((gF w1 1 1 = gF w 1 1 ∧ kk w w1) ∧ ((x1 < 0 ∨ gF w 213 2 < x1) ∧ v = 0 ∧ gF w1 213 2 = gF w 213 2 ∨ (0 ≤ x1 ∧ x1 ≤ gF w 213 2) ∧ v = 1 ∧ gF w1 213 2 = x1))) := by
  obtain ⟨w', v, e, o, q⟩ := s_endR (kn := kn) h.1 x1 hx1
  exact co_hO h e o (by decide +kernel) ⟨kF_hO h.1 o (by decide +kernel), ⟨kp_1 h.1 o (by decide +kernel), q⟩⟩
theorem u_X11_bridge {kn : sKn} {w : sW} (hw : wOk ZZ w)  : ∃ (w' : sW) (z : Int), fX11_bridge kn [.ref 0] w = some (some (hI z), w', 0, 0) ∧ hO dX11_bridge w w' ∧ ((R32 z ∧ gF w' 1 1 = 0)) := by
  obtain ⟨r, w', h1, h2, q, hq, σ', h3, h4, h5, h6⟩ := con_use (con_X11_bridge_0 kn) (σ := [0]) (av := [.ref 0]) (w := w) rfl rfl ⟨av_c (k := 0) rfl, trivial⟩ (fun q hq => by cases hq) (gE_n) hw rfl
  rcases List.mem_singleton.mp hq with rfl
  obtain ⟨z, z1, z2, z3⟩ := gS_i h4
  rw [z2] at h1
  have z5 := gE_at (a := (-2147483648)) (b := 2147483647) h6 (by first | exact List.mem_cons_self | exact List.mem_cons_of_mem _ List.mem_cons_self | exact List.mem_cons_of_mem _ (List.mem_cons_of_mem _ List.mem_cons_self) | exact List.mem_cons_of_mem _ (List.mem_cons_of_mem _ (List.mem_cons_of_mem _ List.mem_cons_self)) | exact List.mem_cons_of_mem _ (List.mem_cons_of_mem _ (List.mem_cons_of_mem _ (List.mem_cons_of_mem _ List.mem_cons_self))) | decide) z1
  obtain ⟨m1, n1, p1⟩ := mf_F (c := 1) (kf := 1) (u := 0) (h3 0 0 rfl) (h5 _ (by first | exact List.mem_cons_self | exact List.mem_cons_of_mem _ List.mem_cons_self | exact List.mem_cons_of_mem _ (List.mem_cons_of_mem _ List.mem_cons_self) | exact List.mem_cons_of_mem _ (List.mem_cons_of_mem _ (List.mem_cons_of_mem _ List.mem_cons_self)) | exact List.mem_cons_of_mem _ (List.mem_cons_of_mem _ (List.mem_cons_of_mem _ (List.mem_cons_of_mem _ List.mem_cons_self))) | decide))
  have n1' := h3 0 0 rfl
  rw [n1] at n1'
  cases n1'
  refine ⟨w', _, h1, h2, ?_⟩
  first | omega | (unfold R32; omega)
theorem c_X11_bridge {kn : sKn} {w : sW} (h : BI w) (hT : pl4 w) (h14 : plX w 14) : cO (fX11_bridge kn) [.ref 0] w (fun w1 v => (gF w1 213 10 = gF w 213 10 ∧ gF w1 1 11 = zFt (zBridge (gX w 2) (gF w 1 1).toNat 900 (fun _ => 0))) ∧ (gF w1 1 1 = 0 ∧ gF w1 213 2 = gF w 213 2 ∧ kT w w1 ∧ kA w w1 ∧ kR w w1) ∧ v = zAns (zBridge (gX w 2) (gF w 1 1).toNat 900 (fun _ => 0)) ∧ R32 v ∧ brC (zBridge (gX w 2) (gF w 1 1).toNat 900 (fun _ => 0)) w w1) := by
  obtain ⟨w', v, e, o, q⟩ := u_X11_bridge (kn := kn) h.1
  have hn := tk_nn h.1
  obtain ⟨w2, v2, e2, o2, q2⟩ := x_bridgeC (kn := kn) (B := gX w 2) (n := (gF w 1 1).toNat) (fun _ => 0) h.1 hT h14 (fun _ _ => rfl) (by omega) (by omega)
  have ew : w' = w2 := (one_w e e2).1
  subst ew
  obtain ⟨w3, v3, e3, f3⟩ := x_bridgeF (kn := kn) (B := gX w 2) (n := (gF w 1 1).toNat) (fun _ => 0) h.1 hT (fun _ _ => rfl) (by omega) (by omega)
  rw [← (one_w e2 e3).1] at f3
  exact co_hO h e2 o2 (by decide +kernel) ⟨⟨f2_hO h.1 o2 (by decide +kernel), f3⟩, ⟨⟨q.2, l2_hO h.1 o2 (by decide +kernel), kT_hO h.1 o2 (by decide +kernel), kA_hO o2 (by decide +kernel), kR_hO o2 (by decide +kernel)⟩, q2⟩⟩
theorem c_X12_bridge {kn : sKn} {w : sW} (h : BI w) {B : Nat → Int} {n : Nat} (h2 : gF w 213 2 = (n : Int)) (hn : n ≤ 940) (hB : ∀ i, i < n → gX w 214 i = B i) : cO (fX12_bridge kn) [.ref 213] w (fun w1 v => (gF w1 1 11 = gF w 1 11 ∧ gF w1 213 10 = zFt (zBridge B n 900 (fun _ => 0))) ∧ (gF w1 1 1 = gF w 1 1 ∧ kT w w1 ∧ kC w w1 ∧ kI w w1) ∧ gF w1 213 2 = 0 ∧ v = zAns (zBridge B n 900 (fun _ => 0)) ∧ brR (zBridge B n 900 (fun _ => 0)) w w1) := by
  obtain ⟨w', v, e, o, q⟩ := s_bridgeT (kn := kn) h.1
  obtain ⟨w2, v2, e2, q2⟩ := y_bridgeR (kn := kn) (B := B) (n := n) (fun _ => 0) h.1 h2 hB hn (fun i hi => by
    have a := gX_in (j := i) (hO_rf (D := []) h.1) ai_214 ar214 (by omega) (by omega) (by omega)
    rw [hB i hi] at a
    exact a)
  have ew : w' = w2 := (one_w e e2).1
  subst ew
  obtain ⟨w3, v3, e3, f3⟩ := z_bridgeR (kn := kn) (B := B) (n := n) (fun _ => 0) h.1 h2 hB hn (fun i hi => by
    have a := gX_in (j := i) (hO_rf (D := []) h.1) ai_214 ar214 (by omega) (by omega) (by omega)
    rw [hB i hi] at a
    exact a)
  rw [← (one_w e2 e3).1] at f3
  exact co_hO h e2 o (by decide +kernel) ⟨⟨f1_hO h.1 o (by decide +kernel), f3⟩, ⟨⟨l1_hO h.1 o (by decide +kernel), kT_hO h.1 o (by decide +kernel), kC_hO h.1 o (by decide +kernel), kI_hO o (by decide +kernel)⟩, q, q2⟩⟩
theorem u_X11_fault {kn : sKn} {w : sW} (hw : wOk ZZ w)  : ∃ (w' : sW) (z : Int), fX11_fault kn [.ref 0] w = some (some (hI z), w', 0, 0) ∧ hO dX11_fault w w' ∧ (R32 z) := by
  obtain ⟨r, w', h1, h2, q, hq, σ', h3, h4, h5, h6⟩ := con_use (con_X11_fault_0 kn) (σ := [0]) (av := [.ref 0]) (w := w) rfl rfl ⟨av_c (k := 0) rfl, trivial⟩ (fun q hq => by cases hq) (gE_n) hw rfl
  rcases List.mem_singleton.mp hq with rfl
  obtain ⟨z, z1, z2, z3⟩ := gS_i h4
  rw [z2] at h1
  have z5 := gE_at (a := (-2147483648)) (b := 2147483647) h6 (by first | exact List.mem_cons_self | exact List.mem_cons_of_mem _ List.mem_cons_self | exact List.mem_cons_of_mem _ (List.mem_cons_of_mem _ List.mem_cons_self) | exact List.mem_cons_of_mem _ (List.mem_cons_of_mem _ (List.mem_cons_of_mem _ List.mem_cons_self)) | exact List.mem_cons_of_mem _ (List.mem_cons_of_mem _ (List.mem_cons_of_mem _ (List.mem_cons_of_mem _ List.mem_cons_self))) | decide) z1
  refine ⟨w', _, h1, h2, ?_⟩
  exact z3
theorem c_X11_fault {kn : sKn} {w : sW} (h : BI w) : cO (fX11_fault kn) [.ref 0] w (fun w1 v => kF w w1 ∧ (kp w w1 ∧ v = gF w 1 11 ∧ R32 v)) := by
  obtain ⟨e, r⟩ := x_faultC (kn := kn) h.1
  exact co_hO h e (hO_rf (D := []) h.1) (by decide +kernel) ⟨kF_rf w, kp_rf w, rfl, r⟩
theorem u_X12_fault {kn : sKn} {w : sW} (hw : wOk ZZ w)  : ∃ (w' : sW) (z : Int), fX12_fault kn [.ref 213] w = some (some (hI z), w', 0, 0) ∧ hO dX12_fault w w' ∧ (R32 z) := by
  obtain ⟨r, w', h1, h2, q, hq, σ', h3, h4, h5, h6⟩ := con_use (con_X12_fault_0 kn) (σ := [0]) (av := [.ref 213]) (w := w) rfl rfl ⟨av_c (k := 213) rfl, trivial⟩ (fun q hq => by cases hq) (gE_n) hw rfl
  rcases List.mem_singleton.mp hq with rfl
  obtain ⟨z, z1, z2, z3⟩ := gS_i h4
  rw [z2] at h1
  have z5 := gE_at (a := (-2147483648)) (b := 2147483647) h6 (by first | exact List.mem_cons_self | exact List.mem_cons_of_mem _ List.mem_cons_self | exact List.mem_cons_of_mem _ (List.mem_cons_of_mem _ List.mem_cons_self) | exact List.mem_cons_of_mem _ (List.mem_cons_of_mem _ (List.mem_cons_of_mem _ List.mem_cons_self)) | exact List.mem_cons_of_mem _ (List.mem_cons_of_mem _ (List.mem_cons_of_mem _ (List.mem_cons_of_mem _ List.mem_cons_self))) | decide) z1
  refine ⟨w', _, h1, h2, ?_⟩
  exact z3
theorem c_X12_fault {kn : sKn} {w : sW} (h : BI w) : cO (fX12_fault kn) [.ref 213] w (fun w1 v => kF w w1 ∧ (kp w w1 ∧ v = gF w 213 10)) := by
  obtain ⟨w', e, o⟩ := x_faultR (kn := kn) h.1
  exact co_hO h e o (by decide +kernel) ⟨kF_hO h.1 o (by decide +kernel), kp_hO h.1 o (by decide +kernel) (by decide +kernel), rfl⟩
theorem u_X12_signer {kn : sKn} {w : sW} (hw : wOk ZZ w) (x1 : Int) (hx1 : (-2147483648) ≤ x1 ∧ x1 ≤ 2147483647) (x2 : Int) (hx2 : (-2147483648) ≤ x2 ∧ x2 ≤ 2147483647) : ∃ (w' : sW) (z : Int), fX12_signer kn [.ref 213, hI x1, hI x2] w = some (some (hI z), w', 0, 0) ∧ hO dX12_signer w w' ∧ ((R32 z ∧ 0 ≤ x1 ∧ x1 ≤ 9 ∧ 0 ≤ x2 ∧ x2 ≤ 7) ∨ (z = 1 ∧ 0 ≤ x1 ∧ x1 ≤ 9 ∧ 2 ≤ x2 ∧ x2 ≤ 5) ∨ z = 0) := by
  obtain ⟨r, w', h1, h2, q, hq, σ', h3, h4, h5, h6⟩ := con_use (con_X12_signer_0 kn) (σ := [0, x1, x2]) (av := [.ref 213, hI x1, hI x2]) (w := w) rfl rfl ⟨av_c (k := 213) rfl, av_i rfl ⟨by omega, by omega⟩, av_i rfl ⟨by omega, by omega⟩, trivial⟩ (fun q hq => by cases hq) (gE_c ⟨_, rfl, hx2⟩ (gE_c ⟨_, rfl, hx1⟩ (gE_n))) hw rfl
  rcases List.mem_cons.mp hq with rfl | hq
  · obtain ⟨z, z1, z2, z3⟩ := gS_i h4
    rw [z2] at h1
    have z5 := gE_at (a := (-2147483648)) (b := 2147483647) h6 (by first | exact List.mem_cons_self | exact List.mem_cons_of_mem _ List.mem_cons_self | exact List.mem_cons_of_mem _ (List.mem_cons_of_mem _ List.mem_cons_self) | exact List.mem_cons_of_mem _ (List.mem_cons_of_mem _ (List.mem_cons_of_mem _ List.mem_cons_self)) | exact List.mem_cons_of_mem _ (List.mem_cons_of_mem _ (List.mem_cons_of_mem _ (List.mem_cons_of_mem _ List.mem_cons_self))) | decide) z1
    have y1 := gE_at (a := 0) (b := 9) h6 (by first | exact List.mem_cons_self | exact List.mem_cons_of_mem _ List.mem_cons_self | exact List.mem_cons_of_mem _ (List.mem_cons_of_mem _ List.mem_cons_self) | exact List.mem_cons_of_mem _ (List.mem_cons_of_mem _ (List.mem_cons_of_mem _ List.mem_cons_self)) | exact List.mem_cons_of_mem _ (List.mem_cons_of_mem _ (List.mem_cons_of_mem _ (List.mem_cons_of_mem _ List.mem_cons_self))) | decide) (h3 1 _ rfl)
    have y2 := gE_at (a := 0) (b := 7) h6 (by first | exact List.mem_cons_self | exact List.mem_cons_of_mem _ List.mem_cons_self | exact List.mem_cons_of_mem _ (List.mem_cons_of_mem _ List.mem_cons_self) | exact List.mem_cons_of_mem _ (List.mem_cons_of_mem _ (List.mem_cons_of_mem _ List.mem_cons_self)) | exact List.mem_cons_of_mem _ (List.mem_cons_of_mem _ (List.mem_cons_of_mem _ (List.mem_cons_of_mem _ List.mem_cons_self))) | decide) (h3 2 _ rfl)
    refine ⟨w', _, h1, h2, ?_⟩
    first | omega | (unfold R32; omega)
  rcases List.mem_cons.mp hq with rfl | hq
  · obtain ⟨z, z1, z2, z3⟩ := gS_i h4
    rw [z2] at h1
    have z4 := h3 0 0 rfl
    rw [z4] at z1
    cases z1
    have y1 := gE_at (a := 0) (b := 9) h6 (by first | exact List.mem_cons_self | exact List.mem_cons_of_mem _ List.mem_cons_self | exact List.mem_cons_of_mem _ (List.mem_cons_of_mem _ List.mem_cons_self) | exact List.mem_cons_of_mem _ (List.mem_cons_of_mem _ (List.mem_cons_of_mem _ List.mem_cons_self)) | exact List.mem_cons_of_mem _ (List.mem_cons_of_mem _ (List.mem_cons_of_mem _ (List.mem_cons_of_mem _ List.mem_cons_self))) | decide) (h3 1 _ rfl)
    have y2 := gE_at (a := 2) (b := 5) h6 (by first | exact List.mem_cons_self | exact List.mem_cons_of_mem _ List.mem_cons_self | exact List.mem_cons_of_mem _ (List.mem_cons_of_mem _ List.mem_cons_self) | exact List.mem_cons_of_mem _ (List.mem_cons_of_mem _ (List.mem_cons_of_mem _ List.mem_cons_self)) | exact List.mem_cons_of_mem _ (List.mem_cons_of_mem _ (List.mem_cons_of_mem _ (List.mem_cons_of_mem _ List.mem_cons_self))) | decide) (h3 2 _ rfl)
    refine ⟨w', _, h1, h2, ?_⟩
    first | omega | (unfold R32; omega)
  rcases List.mem_singleton.mp hq with rfl
  obtain ⟨z, z1, z2, z3⟩ := gS_i h4
  rw [z2] at h1
  have z4 := h3 0 0 rfl
  rw [z4] at z1
  cases z1
  refine ⟨w', _, h1, h2, ?_⟩
  first | omega | (unfold R32; omega)
theorem c_X12_signer {kn : sKn} {w : sW} (h : BI w) (x1 : Int) (hx1 : R32 x1) (x2 : Int) (hx2 : R32 x2) : cO (fX12_signer kn) [.ref 213, hI x1, hI x2] w (fun w1 _ => kF w w1 ∧ (kp w w1)) := by
  obtain ⟨w', v, e, o, q⟩ := u_X12_signer (kn := kn) h.1 x1 hx1 x2 hx2
  exact co_hO h e o (by decide +kernel) ⟨kF_hO h.1 o (by decide +kernel), (kp_hO h.1 o (by decide +kernel) (by decide +kernel))⟩
theorem u_X12_plank {kn : sKn} {w : sW} (hw : wOk ZZ w) (x1 : Int) (hx1 : (-2147483648) ≤ x1 ∧ x1 ≤ 2147483647) (x2 : Int) (hx2 : (-2147483648) ≤ x2 ∧ x2 ≤ 2147483647) (x3 : Int) (hx3 : (-2147483648) ≤ x3 ∧ x3 ≤ 2147483647) : ∃ (w' : sW) (z : Int), fX12_plank kn [.ref 213, hI x1, hI x2, hI x3] w = some (some (hI z), w', 0, 0) ∧ hO dX12_plank w w' ∧ ((R32 z ∧ 0 ≤ x1 ∧ x1 ≤ 11 ∧ 0 ≤ x2 ∧ x2 ≤ 2 ∧ 0 ≤ x3 ∧ x3 ≤ 2) ∨ z = 0) := by
  obtain ⟨r, w', h1, h2, q, hq, σ', h3, h4, h5, h6⟩ := con_use (con_X12_plank_0 kn) (σ := [0, x1, x2, x3]) (av := [.ref 213, hI x1, hI x2, hI x3]) (w := w) rfl rfl ⟨av_c (k := 213) rfl, av_i rfl ⟨by omega, by omega⟩, av_i rfl ⟨by omega, by omega⟩, av_i rfl ⟨by omega, by omega⟩, trivial⟩ (fun q hq => by cases hq) (gE_c ⟨_, rfl, hx3⟩ (gE_c ⟨_, rfl, hx2⟩ (gE_c ⟨_, rfl, hx1⟩ (gE_n)))) hw rfl
  rcases List.mem_cons.mp hq with rfl | hq
  · obtain ⟨z, z1, z2, z3⟩ := gS_i h4
    rw [z2] at h1
    have z5 := gE_at (a := (-2147483648)) (b := 2147483647) h6 (by first | exact List.mem_cons_self | exact List.mem_cons_of_mem _ List.mem_cons_self | exact List.mem_cons_of_mem _ (List.mem_cons_of_mem _ List.mem_cons_self) | exact List.mem_cons_of_mem _ (List.mem_cons_of_mem _ (List.mem_cons_of_mem _ List.mem_cons_self)) | exact List.mem_cons_of_mem _ (List.mem_cons_of_mem _ (List.mem_cons_of_mem _ (List.mem_cons_of_mem _ List.mem_cons_self))) | decide) z1
    have y1 := gE_at (a := 0) (b := 11) h6 (by first | exact List.mem_cons_self | exact List.mem_cons_of_mem _ List.mem_cons_self | exact List.mem_cons_of_mem _ (List.mem_cons_of_mem _ List.mem_cons_self) | exact List.mem_cons_of_mem _ (List.mem_cons_of_mem _ (List.mem_cons_of_mem _ List.mem_cons_self)) | exact List.mem_cons_of_mem _ (List.mem_cons_of_mem _ (List.mem_cons_of_mem _ (List.mem_cons_of_mem _ List.mem_cons_self))) | decide) (h3 1 _ rfl)
    have y2 := gE_at (a := 0) (b := 2) h6 (by first | exact List.mem_cons_self | exact List.mem_cons_of_mem _ List.mem_cons_self | exact List.mem_cons_of_mem _ (List.mem_cons_of_mem _ List.mem_cons_self) | exact List.mem_cons_of_mem _ (List.mem_cons_of_mem _ (List.mem_cons_of_mem _ List.mem_cons_self)) | exact List.mem_cons_of_mem _ (List.mem_cons_of_mem _ (List.mem_cons_of_mem _ (List.mem_cons_of_mem _ List.mem_cons_self))) | decide) (h3 2 _ rfl)
    have y3 := gE_at (a := 0) (b := 2) h6 (by first | exact List.mem_cons_self | exact List.mem_cons_of_mem _ List.mem_cons_self | exact List.mem_cons_of_mem _ (List.mem_cons_of_mem _ List.mem_cons_self) | exact List.mem_cons_of_mem _ (List.mem_cons_of_mem _ (List.mem_cons_of_mem _ List.mem_cons_self)) | exact List.mem_cons_of_mem _ (List.mem_cons_of_mem _ (List.mem_cons_of_mem _ (List.mem_cons_of_mem _ List.mem_cons_self))) | decide) (h3 3 _ rfl)
    refine ⟨w', _, h1, h2, ?_⟩
    first | omega | (unfold R32; omega)
  rcases List.mem_singleton.mp hq with rfl
  obtain ⟨z, z1, z2, z3⟩ := gS_i h4
  rw [z2] at h1
  have z4 := h3 0 0 rfl
  rw [z4] at z1
  cases z1
  refine ⟨w', _, h1, h2, ?_⟩
  first | omega | (unfold R32; omega)
theorem c_X12_plank {kn : sKn} {w : sW} (h : BI w) (x1 : Int) (hx1 : R32 x1) (x2 : Int) (hx2 : R32 x2) (x3 : Int) (hx3 : R32 x3) : cO (fX12_plank kn) [.ref 213, hI x1, hI x2, hI x3] w (fun w1 _ => kF w w1 ∧ (kp w w1)) := by
  obtain ⟨w', v, e, o, q⟩ := u_X12_plank (kn := kn) h.1 x1 hx1 x2 hx2 x3 hx3
  exact co_hO h e o (by decide +kernel) ⟨kF_hO h.1 o (by decide +kernel), (kp_hO h.1 o (by decide +kernel) (by decide +kernel))⟩
theorem u_X12_load {kn : sKn} {w : sW} (hw : wOk ZZ w) (x1 : Int) (hx1 : (-2147483648) ≤ x1 ∧ x1 ≤ 2147483647) (x2 : Int) (hx2 : (-2147483648) ≤ x2 ∧ x2 ≤ 2147483647) : ∃ (w' : sW) (z : Int), fX12_load kn [.ref 213, hI x1, hI x2] w = some (some (hI z), w', 0, 0) ∧ hO dX12_load w w' ∧ ((R32 z ∧ 0 ≤ x1 ∧ x1 ≤ 5 ∧ 0 ≤ x2 ∧ x2 ≤ 3) ∨ z = 0 ∨ (z = 1 ∧ 0 ≤ x1 ∧ x1 ≤ 5 ∧ 1 ≤ x2 ∧ x2 ≤ 2)) := by
  obtain ⟨r, w', h1, h2, q, hq, σ', h3, h4, h5, h6⟩ := con_use (con_X12_load_0 kn) (σ := [0, x1, x2]) (av := [.ref 213, hI x1, hI x2]) (w := w) rfl rfl ⟨av_c (k := 213) rfl, av_i rfl ⟨by omega, by omega⟩, av_i rfl ⟨by omega, by omega⟩, trivial⟩ (fun q hq => by cases hq) (gE_c ⟨_, rfl, hx2⟩ (gE_c ⟨_, rfl, hx1⟩ (gE_n))) hw rfl
  rcases List.mem_cons.mp hq with rfl | hq
  · obtain ⟨z, z1, z2, z3⟩ := gS_i h4
    rw [z2] at h1
    have z5 := gE_at (a := (-2147483648)) (b := 2147483647) h6 (by first | exact List.mem_cons_self | exact List.mem_cons_of_mem _ List.mem_cons_self | exact List.mem_cons_of_mem _ (List.mem_cons_of_mem _ List.mem_cons_self) | exact List.mem_cons_of_mem _ (List.mem_cons_of_mem _ (List.mem_cons_of_mem _ List.mem_cons_self)) | exact List.mem_cons_of_mem _ (List.mem_cons_of_mem _ (List.mem_cons_of_mem _ (List.mem_cons_of_mem _ List.mem_cons_self))) | decide) z1
    have y1 := gE_at (a := 0) (b := 5) h6 (by first | exact List.mem_cons_self | exact List.mem_cons_of_mem _ List.mem_cons_self | exact List.mem_cons_of_mem _ (List.mem_cons_of_mem _ List.mem_cons_self) | exact List.mem_cons_of_mem _ (List.mem_cons_of_mem _ (List.mem_cons_of_mem _ List.mem_cons_self)) | exact List.mem_cons_of_mem _ (List.mem_cons_of_mem _ (List.mem_cons_of_mem _ (List.mem_cons_of_mem _ List.mem_cons_self))) | decide) (h3 1 _ rfl)
    have y2 := gE_at (a := 0) (b := 3) h6 (by first | exact List.mem_cons_self | exact List.mem_cons_of_mem _ List.mem_cons_self | exact List.mem_cons_of_mem _ (List.mem_cons_of_mem _ List.mem_cons_self) | exact List.mem_cons_of_mem _ (List.mem_cons_of_mem _ (List.mem_cons_of_mem _ List.mem_cons_self)) | exact List.mem_cons_of_mem _ (List.mem_cons_of_mem _ (List.mem_cons_of_mem _ (List.mem_cons_of_mem _ List.mem_cons_self))) | decide) (h3 2 _ rfl)
    refine ⟨w', _, h1, h2, ?_⟩
    first | omega | (unfold R32; omega)
  rcases List.mem_cons.mp hq with rfl | hq
  · obtain ⟨z, z1, z2, z3⟩ := gS_i h4
    rw [z2] at h1
    have z4 := h3 0 0 rfl
    rw [z4] at z1
    cases z1
    refine ⟨w', _, h1, h2, ?_⟩
    first | omega | (unfold R32; omega)
  rcases List.mem_singleton.mp hq with rfl
  obtain ⟨z, z1, z2, z3⟩ := gS_i h4
  rw [z2] at h1
  have z4 := h3 0 0 rfl
  rw [z4] at z1
  cases z1
  have y1 := gE_at (a := 0) (b := 5) h6 (by first | exact List.mem_cons_self | exact List.mem_cons_of_mem _ List.mem_cons_self | exact List.mem_cons_of_mem _ (List.mem_cons_of_mem _ List.mem_cons_self) | exact List.mem_cons_of_mem _ (List.mem_cons_of_mem _ (List.mem_cons_of_mem _ List.mem_cons_self)) | exact List.mem_cons_of_mem _ (List.mem_cons_of_mem _ (List.mem_cons_of_mem _ (List.mem_cons_of_mem _ List.mem_cons_self))) | decide) (h3 1 _ rfl)
  have y2 := gE_at (a := 1) (b := 2) h6 (by first | exact List.mem_cons_self | exact List.mem_cons_of_mem _ List.mem_cons_self | exact List.mem_cons_of_mem _ (List.mem_cons_of_mem _ List.mem_cons_self) | exact List.mem_cons_of_mem _ (List.mem_cons_of_mem _ (List.mem_cons_of_mem _ List.mem_cons_self)) | exact List.mem_cons_of_mem _ (List.mem_cons_of_mem _ (List.mem_cons_of_mem _ (List.mem_cons_of_mem _ List.mem_cons_self))) | decide) (h3 2 _ rfl)
  refine ⟨w', _, h1, h2, ?_⟩
  first | omega | (unfold R32; omega)
theorem c_X12_load {kn : sKn} {w : sW} (h : BI w) (x1 : Int) (hx1 : R32 x1) (x2 : Int) (hx2 : R32 x2) : cO (fX12_load kn) [.ref 213, hI x1, hI x2] w (fun w1 _ => kF w w1 ∧ (kp w w1)) := by
  obtain ⟨w', v, e, o, q⟩ := u_X12_load (kn := kn) h.1 x1 hx1 x2 hx2
  exact co_hO h e o (by decide +kernel) ⟨kF_hO h.1 o (by decide +kernel), (kp_hO h.1 o (by decide +kernel) (by decide +kernel))⟩
theorem u_X11_now {kn : sKn} {w : sW} (hw : wOk ZZ w) (x1 : Int) (hx1 : (-2147483648) ≤ x1 ∧ x1 ≤ 2147483647) : ∃ (w' : sW) (z : Int), fX11_now kn [.ref 0, hI x1] w = some (some (hI z), w', 0, 0) ∧ hO dX11_now w w' ∧ ((R32 z ∧ 0 ≤ x1 ∧ x1 ≤ 6) ∨ z = (-1)) := by
  obtain ⟨r, w', h1, h2, q, hq, σ', h3, h4, h5, h6⟩ := con_use (con_X11_now_0 kn) (σ := [0, x1]) (av := [.ref 0, hI x1]) (w := w) rfl rfl ⟨av_c (k := 0) rfl, av_i rfl ⟨by omega, by omega⟩, trivial⟩ (fun q hq => by cases hq) (gE_c ⟨_, rfl, hx1⟩ (gE_n)) hw rfl
  rcases List.mem_cons.mp hq with rfl | hq
  · obtain ⟨z, z1, z2, z3⟩ := gS_i h4
    rw [z2] at h1
    have z5 := gE_at (a := (-2147483648)) (b := 2147483647) h6 (by first | exact List.mem_cons_self | exact List.mem_cons_of_mem _ List.mem_cons_self | exact List.mem_cons_of_mem _ (List.mem_cons_of_mem _ List.mem_cons_self) | exact List.mem_cons_of_mem _ (List.mem_cons_of_mem _ (List.mem_cons_of_mem _ List.mem_cons_self)) | exact List.mem_cons_of_mem _ (List.mem_cons_of_mem _ (List.mem_cons_of_mem _ (List.mem_cons_of_mem _ List.mem_cons_self))) | decide) z1
    have y1 := gE_at (a := 0) (b := 6) h6 (by first | exact List.mem_cons_self | exact List.mem_cons_of_mem _ List.mem_cons_self | exact List.mem_cons_of_mem _ (List.mem_cons_of_mem _ List.mem_cons_self) | exact List.mem_cons_of_mem _ (List.mem_cons_of_mem _ (List.mem_cons_of_mem _ List.mem_cons_self)) | exact List.mem_cons_of_mem _ (List.mem_cons_of_mem _ (List.mem_cons_of_mem _ (List.mem_cons_of_mem _ List.mem_cons_self))) | decide) (h3 1 _ rfl)
    refine ⟨w', _, h1, h2, ?_⟩
    first | omega | (unfold R32; omega)
  rcases List.mem_singleton.mp hq with rfl
  obtain ⟨z, z1, z2, z3⟩ := gS_i h4
  rw [z2] at h1
  have z4 := h3 0 0 rfl
  rw [z4] at z1
  cases z1
  refine ⟨w', _, h1, h2, ?_⟩
  first | omega | (unfold R32; omega)
theorem c_X11_now {kn : sKn} {w : sW} (h : BI w) (x1 : Int) (hx1 : R32 x1) : cO (fX11_now kn) [.ref 0, hI x1] w (fun w1 _ => kF w w1 ∧ (kp w w1)) := by
  obtain ⟨w', v, e, o, q⟩ := u_X11_now (kn := kn) h.1 x1 hx1
  exact co_hO h e o (by decide +kernel) ⟨kF_hO h.1 o (by decide +kernel), (kp_hO h.1 o (by decide +kernel) (by decide +kernel))⟩
theorem u_X12_now {kn : sKn} {w : sW} (hw : wOk ZZ w) (x1 : Int) (hx1 : (-2147483648) ≤ x1 ∧ x1 ≤ 2147483647) : ∃ (w' : sW) (z : Int), fX12_now kn [.ref 213, hI x1] w = some (some (hI z), w', 0, 0) ∧ hO dX12_now w w' ∧ ((R32 z ∧ 0 ≤ x1 ∧ x1 ≤ 6) ∨ z = (-1)) := by
  obtain ⟨r, w', h1, h2, q, hq, σ', h3, h4, h5, h6⟩ := con_use (con_X12_now_0 kn) (σ := [0, x1]) (av := [.ref 213, hI x1]) (w := w) rfl rfl ⟨av_c (k := 213) rfl, av_i rfl ⟨by omega, by omega⟩, trivial⟩ (fun q hq => by cases hq) (gE_c ⟨_, rfl, hx1⟩ (gE_n)) hw rfl
  rcases List.mem_cons.mp hq with rfl | hq
  · obtain ⟨z, z1, z2, z3⟩ := gS_i h4
    rw [z2] at h1
    have z5 := gE_at (a := (-2147483648)) (b := 2147483647) h6 (by first | exact List.mem_cons_self | exact List.mem_cons_of_mem _ List.mem_cons_self | exact List.mem_cons_of_mem _ (List.mem_cons_of_mem _ List.mem_cons_self) | exact List.mem_cons_of_mem _ (List.mem_cons_of_mem _ (List.mem_cons_of_mem _ List.mem_cons_self)) | exact List.mem_cons_of_mem _ (List.mem_cons_of_mem _ (List.mem_cons_of_mem _ (List.mem_cons_of_mem _ List.mem_cons_self))) | decide) z1
    have y1 := gE_at (a := 0) (b := 6) h6 (by first | exact List.mem_cons_self | exact List.mem_cons_of_mem _ List.mem_cons_self | exact List.mem_cons_of_mem _ (List.mem_cons_of_mem _ List.mem_cons_self) | exact List.mem_cons_of_mem _ (List.mem_cons_of_mem _ (List.mem_cons_of_mem _ List.mem_cons_self)) | exact List.mem_cons_of_mem _ (List.mem_cons_of_mem _ (List.mem_cons_of_mem _ (List.mem_cons_of_mem _ List.mem_cons_self))) | decide) (h3 1 _ rfl)
    refine ⟨w', _, h1, h2, ?_⟩
    first | omega | (unfold R32; omega)
  rcases List.mem_singleton.mp hq with rfl
  obtain ⟨z, z1, z2, z3⟩ := gS_i h4
  rw [z2] at h1
  have z4 := h3 0 0 rfl
  rw [z4] at z1
  cases z1
  refine ⟨w', _, h1, h2, ?_⟩
  first | omega | (unfold R32; omega)
theorem c_X12_now {kn : sKn} {w : sW} (h : BI w) (x1 : Int) (hx1 : R32 x1) : cO (fX12_now kn) [.ref 213, hI x1] w (fun w1 _ => kF w w1 ∧ (kp w w1)) := by
  obtain ⟨w', v, e, o, q⟩ := u_X12_now (kn := kn) h.1 x1 hx1
  exact co_hO h e o (by decide +kernel) ⟨kF_hO h.1 o (by decide +kernel), (kp_hO h.1 o (by decide +kernel) (by decide +kernel))⟩
theorem u_X11_sign {kn : sKn} {w : sW} (hw : wOk ZZ w) (x1 : Int) (hx1 : (-2147483648) ≤ x1 ∧ x1 ≤ 2147483647) (x2 : Int) (hx2 : (-2147483648) ≤ x2 ∧ x2 ≤ 2147483647) (x3 : Int) (hx3 : (-2147483648) ≤ x3 ∧ x3 ≤ 2147483647) : ∃ (w' : sW) (z : Int), fX11_sign kn [.ref 0, hI x1, hI x2, hI x3] w = some (some (hI z), w', 0, 0) ∧ hO dX11_sign w w' ∧ (((-1) ≤ z ∧ z ≤ 3)) := by
  obtain ⟨r, w', h1, h2, q, hq, σ', h3, h4, h5, h6⟩ := con_use (con_X11_sign_0 kn) (σ := [0, x1, x2, x3]) (av := [.ref 0, hI x1, hI x2, hI x3]) (w := w) rfl rfl ⟨av_c (k := 0) rfl, av_i rfl ⟨by omega, by omega⟩, av_i rfl ⟨by omega, by omega⟩, av_i rfl ⟨by omega, by omega⟩, trivial⟩ (fun q hq => by cases hq) (gE_c ⟨_, rfl, hx3⟩ (gE_c ⟨_, rfl, hx2⟩ (gE_c ⟨_, rfl, hx1⟩ (gE_n)))) hw rfl
  rcases List.mem_singleton.mp hq with rfl
  obtain ⟨z, z1, z2, z3⟩ := gS_i h4
  rw [z2] at h1
  have z5 := gE_at (a := (-1)) (b := 3) h6 (by first | exact List.mem_cons_self | exact List.mem_cons_of_mem _ List.mem_cons_self | exact List.mem_cons_of_mem _ (List.mem_cons_of_mem _ List.mem_cons_self) | exact List.mem_cons_of_mem _ (List.mem_cons_of_mem _ (List.mem_cons_of_mem _ List.mem_cons_self)) | exact List.mem_cons_of_mem _ (List.mem_cons_of_mem _ (List.mem_cons_of_mem _ (List.mem_cons_of_mem _ List.mem_cons_self))) | decide) z1
  refine ⟨w', _, h1, h2, ?_⟩
  first | omega | (unfold R32; omega)
theorem c_X11_sign {kn : sKn} {w : sW} (h : BI w) (x1 : Int) (hx1 : R32 x1) (x2 : Int) (hx2 : R32 x2) (x3 : Int) (hx3 : R32 x3) : cO (fX11_sign kn) [.ref 0, hI x1, hI x2, hI x3] w (fun w1 _ => kF w w1 ∧ (kp w w1)) := by
  obtain ⟨w', v, e, o, q⟩ := u_X11_sign (kn := kn) h.1 x1 hx1 x2 hx2 x3 hx3
  exact co_hO h e o (by decide +kernel) ⟨kF_hO h.1 o (by decide +kernel), (kp_hO h.1 o (by decide +kernel) (by decide +kernel))⟩
theorem u_X12_sign {kn : sKn} {w : sW} (hw : wOk ZZ w) (x1 : Int) (hx1 : (-2147483648) ≤ x1 ∧ x1 ≤ 2147483647) (x2 : Int) (hx2 : (-2147483648) ≤ x2 ∧ x2 ≤ 2147483647) (x3 : Int) (hx3 : (-2147483648) ≤ x3 ∧ x3 ≤ 2147483647) : ∃ (w' : sW) (z : Int), fX12_sign kn [.ref 213, hI x1, hI x2, hI x3] w = some (some (hI z), w', 0, 0) ∧ hO dX12_sign w w' ∧ (((-1) ≤ z ∧ z ≤ 3)) := by
  obtain ⟨r, w', h1, h2, q, hq, σ', h3, h4, h5, h6⟩ := con_use (con_X12_sign_0 kn) (σ := [0, x1, x2, x3]) (av := [.ref 213, hI x1, hI x2, hI x3]) (w := w) rfl rfl ⟨av_c (k := 213) rfl, av_i rfl ⟨by omega, by omega⟩, av_i rfl ⟨by omega, by omega⟩, av_i rfl ⟨by omega, by omega⟩, trivial⟩ (fun q hq => by cases hq) (gE_c ⟨_, rfl, hx3⟩ (gE_c ⟨_, rfl, hx2⟩ (gE_c ⟨_, rfl, hx1⟩ (gE_n)))) hw rfl
  rcases List.mem_singleton.mp hq with rfl
  obtain ⟨z, z1, z2, z3⟩ := gS_i h4
  rw [z2] at h1
  have z5 := gE_at (a := (-1)) (b := 3) h6 (by first | exact List.mem_cons_self | exact List.mem_cons_of_mem _ List.mem_cons_self | exact List.mem_cons_of_mem _ (List.mem_cons_of_mem _ List.mem_cons_self) | exact List.mem_cons_of_mem _ (List.mem_cons_of_mem _ (List.mem_cons_of_mem _ List.mem_cons_self)) | exact List.mem_cons_of_mem _ (List.mem_cons_of_mem _ (List.mem_cons_of_mem _ (List.mem_cons_of_mem _ List.mem_cons_self))) | decide) z1
  refine ⟨w', _, h1, h2, ?_⟩
  first | omega | (unfold R32; omega)
theorem c_X12_sign {kn : sKn} {w : sW} (h : BI w) (x1 : Int) (hx1 : R32 x1) (x2 : Int) (hx2 : R32 x2) (x3 : Int) (hx3 : R32 x3) : cO (fX12_sign kn) [.ref 213, hI x1, hI x2, hI x3] w (fun w1 _ => kF w w1 ∧ (kp w w1)) := by
  obtain ⟨w', v, e, o, q⟩ := u_X12_sign (kn := kn) h.1 x1 hx1 x2 hx2 x3 hx3
  exact co_hO h e o (by decide +kernel) ⟨kF_hO h.1 o (by decide +kernel), (kp_hO h.1 o (by decide +kernel) (by decide +kernel))⟩
theorem u_X11_burn {kn : sKn} {w : sW} (hw : wOk ZZ w) (x1 : Int) (hx1 : (-2147483648) ≤ x1 ∧ x1 ≤ 2147483647) (x2 : Int) (hx2 : (-2147483648) ≤ x2 ∧ x2 ≤ 2147483647) : ∃ (w' : sW) (z : Int), fX11_burn kn [.ref 0, hI x1, hI x2] w = some (some (hI z), w', 0, 0) ∧ hO dX11_burn w w' ∧ ((z = 0 ∧ 0 ≤ x1 ∧ x1 ≤ 11 ∧ 0 ≤ x2 ∧ x2 ≤ 2) ∨ (z = 1 ∧ 0 ≤ x1 ∧ x1 ≤ 11 ∧ 0 ≤ x2 ∧ x2 ≤ 2) ∨ z = (-1)) := by
  obtain ⟨r, w', h1, h2, q, hq, σ', h3, h4, h5, h6⟩ := con_use (con_X11_burn_0 kn) (σ := [0, x1, x2]) (av := [.ref 0, hI x1, hI x2]) (w := w) rfl rfl ⟨av_c (k := 0) rfl, av_i rfl ⟨by omega, by omega⟩, av_i rfl ⟨by omega, by omega⟩, trivial⟩ (fun q hq => by cases hq) (gE_c ⟨_, rfl, hx2⟩ (gE_c ⟨_, rfl, hx1⟩ (gE_n))) hw rfl
  rcases List.mem_cons.mp hq with rfl | hq
  · obtain ⟨z, z1, z2, z3⟩ := gS_i h4
    rw [z2] at h1
    have z4 := h3 0 0 rfl
    rw [z4] at z1
    cases z1
    have y1 := gE_at (a := 0) (b := 11) h6 (by first | exact List.mem_cons_self | exact List.mem_cons_of_mem _ List.mem_cons_self | exact List.mem_cons_of_mem _ (List.mem_cons_of_mem _ List.mem_cons_self) | exact List.mem_cons_of_mem _ (List.mem_cons_of_mem _ (List.mem_cons_of_mem _ List.mem_cons_self)) | exact List.mem_cons_of_mem _ (List.mem_cons_of_mem _ (List.mem_cons_of_mem _ (List.mem_cons_of_mem _ List.mem_cons_self))) | decide) (h3 1 _ rfl)
    have y2 := gE_at (a := 0) (b := 2) h6 (by first | exact List.mem_cons_self | exact List.mem_cons_of_mem _ List.mem_cons_self | exact List.mem_cons_of_mem _ (List.mem_cons_of_mem _ List.mem_cons_self) | exact List.mem_cons_of_mem _ (List.mem_cons_of_mem _ (List.mem_cons_of_mem _ List.mem_cons_self)) | exact List.mem_cons_of_mem _ (List.mem_cons_of_mem _ (List.mem_cons_of_mem _ (List.mem_cons_of_mem _ List.mem_cons_self))) | decide) (h3 2 _ rfl)
    refine ⟨w', _, h1, h2, ?_⟩
    first | omega | (unfold R32; omega)
  rcases List.mem_cons.mp hq with rfl | hq
  · obtain ⟨z, z1, z2, z3⟩ := gS_i h4
    rw [z2] at h1
    have z4 := h3 0 0 rfl
    rw [z4] at z1
    cases z1
    have y1 := gE_at (a := 0) (b := 11) h6 (by first | exact List.mem_cons_self | exact List.mem_cons_of_mem _ List.mem_cons_self | exact List.mem_cons_of_mem _ (List.mem_cons_of_mem _ List.mem_cons_self) | exact List.mem_cons_of_mem _ (List.mem_cons_of_mem _ (List.mem_cons_of_mem _ List.mem_cons_self)) | exact List.mem_cons_of_mem _ (List.mem_cons_of_mem _ (List.mem_cons_of_mem _ (List.mem_cons_of_mem _ List.mem_cons_self))) | decide) (h3 1 _ rfl)
    have y2 := gE_at (a := 0) (b := 2) h6 (by first | exact List.mem_cons_self | exact List.mem_cons_of_mem _ List.mem_cons_self | exact List.mem_cons_of_mem _ (List.mem_cons_of_mem _ List.mem_cons_self) | exact List.mem_cons_of_mem _ (List.mem_cons_of_mem _ (List.mem_cons_of_mem _ List.mem_cons_self)) | exact List.mem_cons_of_mem _ (List.mem_cons_of_mem _ (List.mem_cons_of_mem _ (List.mem_cons_of_mem _ List.mem_cons_self))) | decide) (h3 2 _ rfl)
    refine ⟨w', _, h1, h2, ?_⟩
    first | omega | (unfold R32; omega)
  rcases List.mem_singleton.mp hq with rfl
  obtain ⟨z, z1, z2, z3⟩ := gS_i h4
  rw [z2] at h1
  have z4 := h3 0 0 rfl
  rw [z4] at z1
  cases z1
  refine ⟨w', _, h1, h2, ?_⟩
  first | omega | (unfold R32; omega)
theorem c_X11_burn {kn : sKn} {w : sW} (h : BI w) (x1 : Int) (hx1 : R32 x1) (x2 : Int) (hx2 : R32 x2) : cO (fX11_burn kn) [.ref 0, hI x1, hI x2] w (fun w1 _ => kF w w1 ∧ (kp w w1)) := by
  obtain ⟨w', v, e, o, q⟩ := u_X11_burn (kn := kn) h.1 x1 hx1 x2 hx2
  exact co_hO h e o (by decide +kernel) ⟨kF_hO h.1 o (by decide +kernel), (kp_hO h.1 o (by decide +kernel) (by decide +kernel))⟩
theorem u_X12_burn {kn : sKn} {w : sW} (hw : wOk ZZ w) (x1 : Int) (hx1 : (-2147483648) ≤ x1 ∧ x1 ≤ 2147483647) (x2 : Int) (hx2 : (-2147483648) ≤ x2 ∧ x2 ≤ 2147483647) : ∃ (w' : sW) (z : Int), fX12_burn kn [.ref 213, hI x1, hI x2] w = some (some (hI z), w', 0, 0) ∧ hO dX12_burn w w' ∧ ((z = 1 ∧ 0 ≤ x1 ∧ x1 ≤ 11 ∧ 0 ≤ x2 ∧ x2 ≤ 2) ∨ (z = 0 ∧ 0 ≤ x1 ∧ x1 ≤ 11 ∧ 0 ≤ x2 ∧ x2 ≤ 2) ∨ z = (-1)) := by
  obtain ⟨r, w', h1, h2, q, hq, σ', h3, h4, h5, h6⟩ := con_use (con_X12_burn_0 kn) (σ := [0, x1, x2]) (av := [.ref 213, hI x1, hI x2]) (w := w) rfl rfl ⟨av_c (k := 213) rfl, av_i rfl ⟨by omega, by omega⟩, av_i rfl ⟨by omega, by omega⟩, trivial⟩ (fun q hq => by cases hq) (gE_c ⟨_, rfl, hx2⟩ (gE_c ⟨_, rfl, hx1⟩ (gE_n))) hw rfl
  rcases List.mem_cons.mp hq with rfl | hq
  · obtain ⟨z, z1, z2, z3⟩ := gS_i h4
    rw [z2] at h1
    have z4 := h3 0 0 rfl
    rw [z4] at z1
    cases z1
    have y1 := gE_at (a := 0) (b := 11) h6 (by first | exact List.mem_cons_self | exact List.mem_cons_of_mem _ List.mem_cons_self | exact List.mem_cons_of_mem _ (List.mem_cons_of_mem _ List.mem_cons_self) | exact List.mem_cons_of_mem _ (List.mem_cons_of_mem _ (List.mem_cons_of_mem _ List.mem_cons_self)) | exact List.mem_cons_of_mem _ (List.mem_cons_of_mem _ (List.mem_cons_of_mem _ (List.mem_cons_of_mem _ List.mem_cons_self))) | decide) (h3 1 _ rfl)
    have y2 := gE_at (a := 0) (b := 2) h6 (by first | exact List.mem_cons_self | exact List.mem_cons_of_mem _ List.mem_cons_self | exact List.mem_cons_of_mem _ (List.mem_cons_of_mem _ List.mem_cons_self) | exact List.mem_cons_of_mem _ (List.mem_cons_of_mem _ (List.mem_cons_of_mem _ List.mem_cons_self)) | exact List.mem_cons_of_mem _ (List.mem_cons_of_mem _ (List.mem_cons_of_mem _ (List.mem_cons_of_mem _ List.mem_cons_self))) | decide) (h3 2 _ rfl)
    refine ⟨w', _, h1, h2, ?_⟩
    first | omega | (unfold R32; omega)
  rcases List.mem_cons.mp hq with rfl | hq
  · obtain ⟨z, z1, z2, z3⟩ := gS_i h4
    rw [z2] at h1
    have z4 := h3 0 0 rfl
    rw [z4] at z1
    cases z1
    have y1 := gE_at (a := 0) (b := 11) h6 (by first | exact List.mem_cons_self | exact List.mem_cons_of_mem _ List.mem_cons_self | exact List.mem_cons_of_mem _ (List.mem_cons_of_mem _ List.mem_cons_self) | exact List.mem_cons_of_mem _ (List.mem_cons_of_mem _ (List.mem_cons_of_mem _ List.mem_cons_self)) | exact List.mem_cons_of_mem _ (List.mem_cons_of_mem _ (List.mem_cons_of_mem _ (List.mem_cons_of_mem _ List.mem_cons_self))) | decide) (h3 1 _ rfl)
    have y2 := gE_at (a := 0) (b := 2) h6 (by first | exact List.mem_cons_self | exact List.mem_cons_of_mem _ List.mem_cons_self | exact List.mem_cons_of_mem _ (List.mem_cons_of_mem _ List.mem_cons_self) | exact List.mem_cons_of_mem _ (List.mem_cons_of_mem _ (List.mem_cons_of_mem _ List.mem_cons_self)) | exact List.mem_cons_of_mem _ (List.mem_cons_of_mem _ (List.mem_cons_of_mem _ (List.mem_cons_of_mem _ List.mem_cons_self))) | decide) (h3 2 _ rfl)
    refine ⟨w', _, h1, h2, ?_⟩
    first | omega | (unfold R32; omega)
  rcases List.mem_singleton.mp hq with rfl
  obtain ⟨z, z1, z2, z3⟩ := gS_i h4
  rw [z2] at h1
  have z4 := h3 0 0 rfl
  rw [z4] at z1
  cases z1
  refine ⟨w', _, h1, h2, ?_⟩
  first | omega | (unfold R32; omega)
theorem c_X12_burn {kn : sKn} {w : sW} (h : BI w) (x1 : Int) (hx1 : R32 x1) (x2 : Int) (hx2 : R32 x2) : cO (fX12_burn kn) [.ref 213, hI x1, hI x2] w (fun w1 _ => kF w w1 ∧ (kp w w1)) := by
  obtain ⟨w', v, e, o, q⟩ := u_X12_burn (kn := kn) h.1 x1 hx1 x2 hx2
  exact co_hO h e o (by decide +kernel) ⟨kF_hO h.1 o (by decide +kernel), (kp_hO h.1 o (by decide +kernel) (by decide +kernel))⟩
theorem u_X11_breaks {kn : sKn} {w : sW} (hw : wOk ZZ w) (x1 : Int) (hx1 : (-2147483648) ≤ x1 ∧ x1 ≤ 2147483647) : ∃ (w' : sW) (z : Int), fX11_breaks kn [.ref 0, hI x1] w = some (some (hI z), w', 0, 0) ∧ hO dX11_breaks w w' ∧ (z = (-1) ∨ (z = 0 ∧ 0 ≤ x1 ∧ x1 ≤ 9) ∨ (z = 1 ∧ 0 ≤ x1 ∧ x1 ≤ 9)) := by
  obtain ⟨r, w', h1, h2, q, hq, σ', h3, h4, h5, h6⟩ := con_use (con_X11_breaks_0 kn) (σ := [0, x1]) (av := [.ref 0, hI x1]) (w := w) rfl rfl ⟨av_c (k := 0) rfl, av_i rfl ⟨by omega, by omega⟩, trivial⟩ (fun q hq => by cases hq) (gE_c ⟨_, rfl, hx1⟩ (gE_n)) hw rfl
  rcases List.mem_cons.mp hq with rfl | hq
  · obtain ⟨z, z1, z2, z3⟩ := gS_i h4
    rw [z2] at h1
    have z4 := h3 0 0 rfl
    rw [z4] at z1
    cases z1
    refine ⟨w', _, h1, h2, ?_⟩
    first | omega | (unfold R32; omega)
  rcases List.mem_cons.mp hq with rfl | hq
  · obtain ⟨z, z1, z2, z3⟩ := gS_i h4
    rw [z2] at h1
    have z4 := h3 0 0 rfl
    rw [z4] at z1
    cases z1
    have y1 := gE_at (a := 0) (b := 9) h6 (by first | exact List.mem_cons_self | exact List.mem_cons_of_mem _ List.mem_cons_self | exact List.mem_cons_of_mem _ (List.mem_cons_of_mem _ List.mem_cons_self) | exact List.mem_cons_of_mem _ (List.mem_cons_of_mem _ (List.mem_cons_of_mem _ List.mem_cons_self)) | exact List.mem_cons_of_mem _ (List.mem_cons_of_mem _ (List.mem_cons_of_mem _ (List.mem_cons_of_mem _ List.mem_cons_self))) | decide) (h3 1 _ rfl)
    refine ⟨w', _, h1, h2, ?_⟩
    first | omega | (unfold R32; omega)
  rcases List.mem_singleton.mp hq with rfl
  obtain ⟨z, z1, z2, z3⟩ := gS_i h4
  rw [z2] at h1
  have z4 := h3 0 0 rfl
  rw [z4] at z1
  cases z1
  have y1 := gE_at (a := 0) (b := 9) h6 (by first | exact List.mem_cons_self | exact List.mem_cons_of_mem _ List.mem_cons_self | exact List.mem_cons_of_mem _ (List.mem_cons_of_mem _ List.mem_cons_self) | exact List.mem_cons_of_mem _ (List.mem_cons_of_mem _ (List.mem_cons_of_mem _ List.mem_cons_self)) | exact List.mem_cons_of_mem _ (List.mem_cons_of_mem _ (List.mem_cons_of_mem _ (List.mem_cons_of_mem _ List.mem_cons_self))) | decide) (h3 1 _ rfl)
  refine ⟨w', _, h1, h2, ?_⟩
  first | omega | (unfold R32; omega)
theorem c_X11_breaks {kn : sKn} {w : sW} (h : BI w) (x1 : Int) (hx1 : R32 x1) : cO (fX11_breaks kn) [.ref 0, hI x1] w (fun w1 _ => kF w w1 ∧ (kp w w1)) := by
  obtain ⟨w', v, e, o, q⟩ := u_X11_breaks (kn := kn) h.1 x1 hx1
  exact co_hO h e o (by decide +kernel) ⟨kF_hO h.1 o (by decide +kernel), (kp_hO h.1 o (by decide +kernel) (by decide +kernel))⟩
theorem u_X12_breaks {kn : sKn} {w : sW} (hw : wOk ZZ w) (x1 : Int) (hx1 : (-2147483648) ≤ x1 ∧ x1 ≤ 2147483647) : ∃ (w' : sW) (z : Int), fX12_breaks kn [.ref 213, hI x1] w = some (some (hI z), w', 0, 0) ∧ hO dX12_breaks w w' ∧ ((z = 1 ∧ 0 ≤ x1 ∧ x1 ≤ 9) ∨ (z = 0 ∧ 0 ≤ x1 ∧ x1 ≤ 9) ∨ z = (-1)) := by
  obtain ⟨r, w', h1, h2, q, hq, σ', h3, h4, h5, h6⟩ := con_use (con_X12_breaks_0 kn) (σ := [0, x1]) (av := [.ref 213, hI x1]) (w := w) rfl rfl ⟨av_c (k := 213) rfl, av_i rfl ⟨by omega, by omega⟩, trivial⟩ (fun q hq => by cases hq) (gE_c ⟨_, rfl, hx1⟩ (gE_n)) hw rfl
  rcases List.mem_cons.mp hq with rfl | hq
  · obtain ⟨z, z1, z2, z3⟩ := gS_i h4
    rw [z2] at h1
    have z4 := h3 0 0 rfl
    rw [z4] at z1
    cases z1
    have y1 := gE_at (a := 0) (b := 9) h6 (by first | exact List.mem_cons_self | exact List.mem_cons_of_mem _ List.mem_cons_self | exact List.mem_cons_of_mem _ (List.mem_cons_of_mem _ List.mem_cons_self) | exact List.mem_cons_of_mem _ (List.mem_cons_of_mem _ (List.mem_cons_of_mem _ List.mem_cons_self)) | exact List.mem_cons_of_mem _ (List.mem_cons_of_mem _ (List.mem_cons_of_mem _ (List.mem_cons_of_mem _ List.mem_cons_self))) | decide) (h3 1 _ rfl)
    refine ⟨w', _, h1, h2, ?_⟩
    first | omega | (unfold R32; omega)
  rcases List.mem_cons.mp hq with rfl | hq
  · obtain ⟨z, z1, z2, z3⟩ := gS_i h4
    rw [z2] at h1
    have z4 := h3 0 0 rfl
    rw [z4] at z1
    cases z1
    have y1 := gE_at (a := 0) (b := 9) h6 (by first | exact List.mem_cons_self | exact List.mem_cons_of_mem _ List.mem_cons_self | exact List.mem_cons_of_mem _ (List.mem_cons_of_mem _ List.mem_cons_self) | exact List.mem_cons_of_mem _ (List.mem_cons_of_mem _ (List.mem_cons_of_mem _ List.mem_cons_self)) | exact List.mem_cons_of_mem _ (List.mem_cons_of_mem _ (List.mem_cons_of_mem _ (List.mem_cons_of_mem _ List.mem_cons_self))) | decide) (h3 1 _ rfl)
    refine ⟨w', _, h1, h2, ?_⟩
    first | omega | (unfold R32; omega)
  rcases List.mem_singleton.mp hq with rfl
  obtain ⟨z, z1, z2, z3⟩ := gS_i h4
  rw [z2] at h1
  have z4 := h3 0 0 rfl
  rw [z4] at z1
  cases z1
  refine ⟨w', _, h1, h2, ?_⟩
  first | omega | (unfold R32; omega)
theorem c_X12_breaks {kn : sKn} {w : sW} (h : BI w) (x1 : Int) (hx1 : R32 x1) : cO (fX12_breaks kn) [.ref 213, hI x1] w (fun w1 _ => kF w w1 ∧ (kp w w1)) := by
  obtain ⟨w', v, e, o, q⟩ := u_X12_breaks (kn := kn) h.1 x1 hx1
  exact co_hO h e o (by decide +kernel) ⟨kF_hO h.1 o (by decide +kernel), (kp_hO h.1 o (by decide +kernel) (by decide +kernel))⟩
theorem u_X11_holds {kn : sKn} {w : sW} (hw : wOk ZZ w) (x1 : Int) (hx1 : (-2147483648) ≤ x1 ∧ x1 ≤ 2147483647) : ∃ (w' : sW) (z : Int), fX11_holds kn [.ref 0, hI x1] w = some (some (hI z), w', 0, 0) ∧ hO dX11_holds w w' ∧ (((-1) ≤ z ∧ z ≤ 2)) := by
  obtain ⟨r, w', h1, h2, q, hq, σ', h3, h4, h5, h6⟩ := con_use (con_X11_holds_0 kn) (σ := [0, x1]) (av := [.ref 0, hI x1]) (w := w) rfl rfl ⟨av_c (k := 0) rfl, av_i rfl ⟨by omega, by omega⟩, trivial⟩ (fun q hq => by cases hq) (gE_c ⟨_, rfl, hx1⟩ (gE_n)) hw rfl
  rcases List.mem_singleton.mp hq with rfl
  obtain ⟨z, z1, z2, z3⟩ := gS_i h4
  rw [z2] at h1
  have z5 := gE_at (a := (-1)) (b := 2) h6 (by first | exact List.mem_cons_self | exact List.mem_cons_of_mem _ List.mem_cons_self | exact List.mem_cons_of_mem _ (List.mem_cons_of_mem _ List.mem_cons_self) | exact List.mem_cons_of_mem _ (List.mem_cons_of_mem _ (List.mem_cons_of_mem _ List.mem_cons_self)) | exact List.mem_cons_of_mem _ (List.mem_cons_of_mem _ (List.mem_cons_of_mem _ (List.mem_cons_of_mem _ List.mem_cons_self))) | decide) z1
  refine ⟨w', _, h1, h2, ?_⟩
  first | omega | (unfold R32; omega)
theorem c_X11_holds {kn : sKn} {w : sW} (h : BI w) (x1 : Int) (hx1 : R32 x1) : cO (fX11_holds kn) [.ref 0, hI x1] w (fun w1 _ => kF w w1 ∧ (kp w w1)) := by
  obtain ⟨w', v, e, o, q⟩ := u_X11_holds (kn := kn) h.1 x1 hx1
  exact co_hO h e o (by decide +kernel) ⟨kF_hO h.1 o (by decide +kernel), (kp_hO h.1 o (by decide +kernel) (by decide +kernel))⟩
theorem u_X12_holds {kn : sKn} {w : sW} (hw : wOk ZZ w) (x1 : Int) (hx1 : (-2147483648) ≤ x1 ∧ x1 ≤ 2147483647) : ∃ (w' : sW) (z : Int), fX12_holds kn [.ref 213, hI x1] w = some (some (hI z), w', 0, 0) ∧ hO dX12_holds w w' ∧ (((-1) ≤ z ∧ z ≤ 2)) := by
  obtain ⟨r, w', h1, h2, q, hq, σ', h3, h4, h5, h6⟩ := con_use (con_X12_holds_0 kn) (σ := [0, x1]) (av := [.ref 213, hI x1]) (w := w) rfl rfl ⟨av_c (k := 213) rfl, av_i rfl ⟨by omega, by omega⟩, trivial⟩ (fun q hq => by cases hq) (gE_c ⟨_, rfl, hx1⟩ (gE_n)) hw rfl
  rcases List.mem_singleton.mp hq with rfl
  obtain ⟨z, z1, z2, z3⟩ := gS_i h4
  rw [z2] at h1
  have z5 := gE_at (a := (-1)) (b := 2) h6 (by first | exact List.mem_cons_self | exact List.mem_cons_of_mem _ List.mem_cons_self | exact List.mem_cons_of_mem _ (List.mem_cons_of_mem _ List.mem_cons_self) | exact List.mem_cons_of_mem _ (List.mem_cons_of_mem _ (List.mem_cons_of_mem _ List.mem_cons_self)) | exact List.mem_cons_of_mem _ (List.mem_cons_of_mem _ (List.mem_cons_of_mem _ (List.mem_cons_of_mem _ List.mem_cons_self))) | decide) z1
  refine ⟨w', _, h1, h2, ?_⟩
  first | omega | (unfold R32; omega)
theorem c_X12_holds {kn : sKn} {w : sW} (h : BI w) (x1 : Int) (hx1 : R32 x1) : cO (fX12_holds kn) [.ref 213, hI x1] w (fun w1 _ => kF w w1 ∧ (kp w w1)) := by
  obtain ⟨w', v, e, o, q⟩ := u_X12_holds (kn := kn) h.1 x1 hx1
  exact co_hO h e o (by decide +kernel) ⟨kF_hO h.1 o (by decide +kernel), (kp_hO h.1 o (by decide +kernel) (by decide +kernel))⟩
theorem u_X11_die {kn : sKn} {w : sW} (hw : wOk ZZ w) (x1 : Int) (hx1 : (-2147483648) ≤ x1 ∧ x1 ≤ 2147483647) : ∃ (w' : sW) (z : Int), fX11_die kn [.ref 0, hI x1] w = some (some (hI z), w', 0, 0) ∧ hO dX11_die w w' ∧ (z = (-1) ∨ (z = 0 ∧ 0 ≤ x1 ∧ x1 ≤ 9) ∨ (z = 1 ∧ 0 ≤ x1 ∧ x1 ≤ 9)) := by
  obtain ⟨r, w', h1, h2, q, hq, σ', h3, h4, h5, h6⟩ := con_use (con_X11_die_0 kn) (σ := [0, x1]) (av := [.ref 0, hI x1]) (w := w) rfl rfl ⟨av_c (k := 0) rfl, av_i rfl ⟨by omega, by omega⟩, trivial⟩ (fun q hq => by cases hq) (gE_c ⟨_, rfl, hx1⟩ (gE_n)) hw rfl
  rcases List.mem_cons.mp hq with rfl | hq
  · obtain ⟨z, z1, z2, z3⟩ := gS_i h4
    rw [z2] at h1
    have z4 := h3 0 0 rfl
    rw [z4] at z1
    cases z1
    refine ⟨w', _, h1, h2, ?_⟩
    first | omega | (unfold R32; omega)
  rcases List.mem_cons.mp hq with rfl | hq
  · obtain ⟨z, z1, z2, z3⟩ := gS_i h4
    rw [z2] at h1
    have z4 := h3 0 0 rfl
    rw [z4] at z1
    cases z1
    have y1 := gE_at (a := 0) (b := 9) h6 (by first | exact List.mem_cons_self | exact List.mem_cons_of_mem _ List.mem_cons_self | exact List.mem_cons_of_mem _ (List.mem_cons_of_mem _ List.mem_cons_self) | exact List.mem_cons_of_mem _ (List.mem_cons_of_mem _ (List.mem_cons_of_mem _ List.mem_cons_self)) | exact List.mem_cons_of_mem _ (List.mem_cons_of_mem _ (List.mem_cons_of_mem _ (List.mem_cons_of_mem _ List.mem_cons_self))) | decide) (h3 1 _ rfl)
    refine ⟨w', _, h1, h2, ?_⟩
    first | omega | (unfold R32; omega)
  rcases List.mem_singleton.mp hq with rfl
  obtain ⟨z, z1, z2, z3⟩ := gS_i h4
  rw [z2] at h1
  have z4 := h3 0 0 rfl
  rw [z4] at z1
  cases z1
  have y1 := gE_at (a := 0) (b := 9) h6 (by first | exact List.mem_cons_self | exact List.mem_cons_of_mem _ List.mem_cons_self | exact List.mem_cons_of_mem _ (List.mem_cons_of_mem _ List.mem_cons_self) | exact List.mem_cons_of_mem _ (List.mem_cons_of_mem _ (List.mem_cons_of_mem _ List.mem_cons_self)) | exact List.mem_cons_of_mem _ (List.mem_cons_of_mem _ (List.mem_cons_of_mem _ (List.mem_cons_of_mem _ List.mem_cons_self))) | decide) (h3 1 _ rfl)
  refine ⟨w', _, h1, h2, ?_⟩
  first | omega | (unfold R32; omega)
theorem c_X11_die {kn : sKn} {w : sW} (h : BI w) (x1 : Int) (hx1 : R32 x1) : cO (fX11_die kn) [.ref 0, hI x1] w (fun w1 _ => kF w w1 ∧ (kp w w1)) := by
  obtain ⟨w', v, e, o, q⟩ := u_X11_die (kn := kn) h.1 x1 hx1
  exact co_hO h e o (by decide +kernel) ⟨kF_hO h.1 o (by decide +kernel), (kp_hO h.1 o (by decide +kernel) (by decide +kernel))⟩
theorem u_X12_die {kn : sKn} {w : sW} (hw : wOk ZZ w) (x1 : Int) (hx1 : (-2147483648) ≤ x1 ∧ x1 ≤ 2147483647) : ∃ (w' : sW) (z : Int), fX12_die kn [.ref 213, hI x1] w = some (some (hI z), w', 0, 0) ∧ hO dX12_die w w' ∧ ((z = 1 ∧ 0 ≤ x1 ∧ x1 ≤ 9) ∨ (z = 0 ∧ 0 ≤ x1 ∧ x1 ≤ 9) ∨ z = (-1)) := by
  obtain ⟨r, w', h1, h2, q, hq, σ', h3, h4, h5, h6⟩ := con_use (con_X12_die_0 kn) (σ := [0, x1]) (av := [.ref 213, hI x1]) (w := w) rfl rfl ⟨av_c (k := 213) rfl, av_i rfl ⟨by omega, by omega⟩, trivial⟩ (fun q hq => by cases hq) (gE_c ⟨_, rfl, hx1⟩ (gE_n)) hw rfl
  rcases List.mem_cons.mp hq with rfl | hq
  · obtain ⟨z, z1, z2, z3⟩ := gS_i h4
    rw [z2] at h1
    have z4 := h3 0 0 rfl
    rw [z4] at z1
    cases z1
    have y1 := gE_at (a := 0) (b := 9) h6 (by first | exact List.mem_cons_self | exact List.mem_cons_of_mem _ List.mem_cons_self | exact List.mem_cons_of_mem _ (List.mem_cons_of_mem _ List.mem_cons_self) | exact List.mem_cons_of_mem _ (List.mem_cons_of_mem _ (List.mem_cons_of_mem _ List.mem_cons_self)) | exact List.mem_cons_of_mem _ (List.mem_cons_of_mem _ (List.mem_cons_of_mem _ (List.mem_cons_of_mem _ List.mem_cons_self))) | decide) (h3 1 _ rfl)
    refine ⟨w', _, h1, h2, ?_⟩
    first | omega | (unfold R32; omega)
  rcases List.mem_cons.mp hq with rfl | hq
  · obtain ⟨z, z1, z2, z3⟩ := gS_i h4
    rw [z2] at h1
    have z4 := h3 0 0 rfl
    rw [z4] at z1
    cases z1
    have y1 := gE_at (a := 0) (b := 9) h6 (by first | exact List.mem_cons_self | exact List.mem_cons_of_mem _ List.mem_cons_self | exact List.mem_cons_of_mem _ (List.mem_cons_of_mem _ List.mem_cons_self) | exact List.mem_cons_of_mem _ (List.mem_cons_of_mem _ (List.mem_cons_of_mem _ List.mem_cons_self)) | exact List.mem_cons_of_mem _ (List.mem_cons_of_mem _ (List.mem_cons_of_mem _ (List.mem_cons_of_mem _ List.mem_cons_self))) | decide) (h3 1 _ rfl)
    refine ⟨w', _, h1, h2, ?_⟩
    first | omega | (unfold R32; omega)
  rcases List.mem_singleton.mp hq with rfl
  obtain ⟨z, z1, z2, z3⟩ := gS_i h4
  rw [z2] at h1
  have z4 := h3 0 0 rfl
  rw [z4] at z1
  cases z1
  refine ⟨w', _, h1, h2, ?_⟩
  first | omega | (unfold R32; omega)
theorem c_X12_die {kn : sKn} {w : sW} (h : BI w) (x1 : Int) (hx1 : R32 x1) : cO (fX12_die kn) [.ref 213, hI x1] w (fun w1 _ => kF w w1 ∧ (kp w w1)) := by
  obtain ⟨w', v, e, o, q⟩ := u_X12_die (kn := kn) h.1 x1 hx1
  exact co_hO h e o (by decide +kernel) ⟨kF_hO h.1 o (by decide +kernel), (kp_hO h.1 o (by decide +kernel) (by decide +kernel))⟩
theorem u_X11_cross {kn : sKn} {w : sW} (hw : wOk ZZ w) (x1 : Int) (hx1 : (-2147483648) ≤ x1 ∧ x1 ≤ 2147483647) : ∃ (w' : sW) (z : Int), fX11_cross kn [.ref 0, hI x1] w = some (some (hI z), w', 0, 0) ∧ hO dX11_cross w w' ∧ (((-1) ≤ z ∧ z ≤ 2)) := by
  obtain ⟨r, w', h1, h2, q, hq, σ', h3, h4, h5, h6⟩ := con_use (con_X11_cross_0 kn) (σ := [0, x1]) (av := [.ref 0, hI x1]) (w := w) rfl rfl ⟨av_c (k := 0) rfl, av_i rfl ⟨by omega, by omega⟩, trivial⟩ (fun q hq => by cases hq) (gE_c ⟨_, rfl, hx1⟩ (gE_n)) hw rfl
  rcases List.mem_singleton.mp hq with rfl
  obtain ⟨z, z1, z2, z3⟩ := gS_i h4
  rw [z2] at h1
  have z5 := gE_at (a := (-1)) (b := 2) h6 (by first | exact List.mem_cons_self | exact List.mem_cons_of_mem _ List.mem_cons_self | exact List.mem_cons_of_mem _ (List.mem_cons_of_mem _ List.mem_cons_self) | exact List.mem_cons_of_mem _ (List.mem_cons_of_mem _ (List.mem_cons_of_mem _ List.mem_cons_self)) | exact List.mem_cons_of_mem _ (List.mem_cons_of_mem _ (List.mem_cons_of_mem _ (List.mem_cons_of_mem _ List.mem_cons_self))) | decide) z1
  refine ⟨w', _, h1, h2, ?_⟩
  first | omega | (unfold R32; omega)
theorem c_X11_cross {kn : sKn} {w : sW} (h : BI w) (x1 : Int) (hx1 : R32 x1) : cO (fX11_cross kn) [.ref 0, hI x1] w (fun w1 _ => kF w w1 ∧ (kp w w1)) := by
  obtain ⟨w', v, e, o, q⟩ := u_X11_cross (kn := kn) h.1 x1 hx1
  exact co_hO h e o (by decide +kernel) ⟨kF_hO h.1 o (by decide +kernel), (kp_hO h.1 o (by decide +kernel) (by decide +kernel))⟩
theorem u_X12_cross {kn : sKn} {w : sW} (hw : wOk ZZ w) (x1 : Int) (hx1 : (-2147483648) ≤ x1 ∧ x1 ≤ 2147483647) : ∃ (w' : sW) (z : Int), fX12_cross kn [.ref 213, hI x1] w = some (some (hI z), w', 0, 0) ∧ hO dX12_cross w w' ∧ (((0 ≤ z ∧ z ≤ 2) ∧ 0 ≤ x1 ∧ x1 ≤ 5) ∨ (z = 1 ∧ 0 ≤ x1 ∧ x1 ≤ 5) ∨ z = (-1)) := by
  obtain ⟨r, w', h1, h2, q, hq, σ', h3, h4, h5, h6⟩ := con_use (con_X12_cross_0 kn) (σ := [0, x1]) (av := [.ref 213, hI x1]) (w := w) rfl rfl ⟨av_c (k := 213) rfl, av_i rfl ⟨by omega, by omega⟩, trivial⟩ (fun q hq => by cases hq) (gE_c ⟨_, rfl, hx1⟩ (gE_n)) hw rfl
  rcases List.mem_cons.mp hq with rfl | hq
  · obtain ⟨z, z1, z2, z3⟩ := gS_i h4
    rw [z2] at h1
    have z5 := gE_at (a := 0) (b := 2) h6 (by first | exact List.mem_cons_self | exact List.mem_cons_of_mem _ List.mem_cons_self | exact List.mem_cons_of_mem _ (List.mem_cons_of_mem _ List.mem_cons_self) | exact List.mem_cons_of_mem _ (List.mem_cons_of_mem _ (List.mem_cons_of_mem _ List.mem_cons_self)) | exact List.mem_cons_of_mem _ (List.mem_cons_of_mem _ (List.mem_cons_of_mem _ (List.mem_cons_of_mem _ List.mem_cons_self))) | decide) z1
    have y1 := gE_at (a := 0) (b := 5) h6 (by first | exact List.mem_cons_self | exact List.mem_cons_of_mem _ List.mem_cons_self | exact List.mem_cons_of_mem _ (List.mem_cons_of_mem _ List.mem_cons_self) | exact List.mem_cons_of_mem _ (List.mem_cons_of_mem _ (List.mem_cons_of_mem _ List.mem_cons_self)) | exact List.mem_cons_of_mem _ (List.mem_cons_of_mem _ (List.mem_cons_of_mem _ (List.mem_cons_of_mem _ List.mem_cons_self))) | decide) (h3 1 _ rfl)
    refine ⟨w', _, h1, h2, ?_⟩
    first | omega | (unfold R32; omega)
  rcases List.mem_cons.mp hq with rfl | hq
  · obtain ⟨z, z1, z2, z3⟩ := gS_i h4
    rw [z2] at h1
    have z4 := h3 0 0 rfl
    rw [z4] at z1
    cases z1
    have y1 := gE_at (a := 0) (b := 5) h6 (by first | exact List.mem_cons_self | exact List.mem_cons_of_mem _ List.mem_cons_self | exact List.mem_cons_of_mem _ (List.mem_cons_of_mem _ List.mem_cons_self) | exact List.mem_cons_of_mem _ (List.mem_cons_of_mem _ (List.mem_cons_of_mem _ List.mem_cons_self)) | exact List.mem_cons_of_mem _ (List.mem_cons_of_mem _ (List.mem_cons_of_mem _ (List.mem_cons_of_mem _ List.mem_cons_self))) | decide) (h3 1 _ rfl)
    refine ⟨w', _, h1, h2, ?_⟩
    first | omega | (unfold R32; omega)
  rcases List.mem_singleton.mp hq with rfl
  obtain ⟨z, z1, z2, z3⟩ := gS_i h4
  rw [z2] at h1
  have z4 := h3 0 0 rfl
  rw [z4] at z1
  cases z1
  refine ⟨w', _, h1, h2, ?_⟩
  first | omega | (unfold R32; omega)
theorem c_X12_cross {kn : sKn} {w : sW} (h : BI w) (x1 : Int) (hx1 : R32 x1) : cO (fX12_cross kn) [.ref 213, hI x1] w (fun w1 _ => kF w w1 ∧ (kp w w1)) := by
  obtain ⟨w', v, e, o, q⟩ := u_X12_cross (kn := kn) h.1 x1 hx1
  exact co_hO h e o (by decide +kernel) ⟨kF_hO h.1 o (by decide +kernel), (kp_hO h.1 o (by decide +kernel) (by decide +kernel))⟩
theorem u_X11_days {kn : sKn} {w : sW} (hw : wOk ZZ w) (x1 : Int) (hx1 : (-2147483648) ≤ x1 ∧ x1 ≤ 2147483647) : ∃ (w' : sW) (z : Int), fX11_days kn [.ref 0, hI x1] w = some (some (hI z), w', 0, 0) ∧ hO dX11_days w w' ∧ (z = (-1) ∨ ((1 ≤ z ∧ z ≤ 2147483647) ∧ 1 ≤ x1 ∧ x1 ≤ 60) ∨ (z = 0 ∧ 1 ≤ x1 ∧ x1 ≤ 60)) := by
  obtain ⟨r, w', h1, h2, q, hq, σ', h3, h4, h5, h6⟩ := con_use (con_X11_days_0 kn) (σ := [0, x1]) (av := [.ref 0, hI x1]) (w := w) rfl rfl ⟨av_c (k := 0) rfl, av_i rfl ⟨by omega, by omega⟩, trivial⟩ (fun q hq => by cases hq) (gE_c ⟨_, rfl, hx1⟩ (gE_n)) hw rfl
  rcases List.mem_cons.mp hq with rfl | hq
  · obtain ⟨z, z1, z2, z3⟩ := gS_i h4
    rw [z2] at h1
    have z4 := h3 0 0 rfl
    rw [z4] at z1
    cases z1
    refine ⟨w', _, h1, h2, ?_⟩
    first | omega | (unfold R32; omega)
  rcases List.mem_cons.mp hq with rfl | hq
  · obtain ⟨z, z1, z2, z3⟩ := gS_i h4
    rw [z2] at h1
    have z5 := gE_at (a := 1) (b := 2147483647) h6 (by first | exact List.mem_cons_self | exact List.mem_cons_of_mem _ List.mem_cons_self | exact List.mem_cons_of_mem _ (List.mem_cons_of_mem _ List.mem_cons_self) | exact List.mem_cons_of_mem _ (List.mem_cons_of_mem _ (List.mem_cons_of_mem _ List.mem_cons_self)) | exact List.mem_cons_of_mem _ (List.mem_cons_of_mem _ (List.mem_cons_of_mem _ (List.mem_cons_of_mem _ List.mem_cons_self))) | decide) z1
    have y1 := gE_at (a := 1) (b := 60) h6 (by first | exact List.mem_cons_self | exact List.mem_cons_of_mem _ List.mem_cons_self | exact List.mem_cons_of_mem _ (List.mem_cons_of_mem _ List.mem_cons_self) | exact List.mem_cons_of_mem _ (List.mem_cons_of_mem _ (List.mem_cons_of_mem _ List.mem_cons_self)) | exact List.mem_cons_of_mem _ (List.mem_cons_of_mem _ (List.mem_cons_of_mem _ (List.mem_cons_of_mem _ List.mem_cons_self))) | decide) (h3 1 _ rfl)
    refine ⟨w', _, h1, h2, ?_⟩
    first | omega | (unfold R32; omega)
  rcases List.mem_singleton.mp hq with rfl
  obtain ⟨z, z1, z2, z3⟩ := gS_i h4
  rw [z2] at h1
  have z4 := h3 0 0 rfl
  rw [z4] at z1
  cases z1
  have y1 := gE_at (a := 1) (b := 60) h6 (by first | exact List.mem_cons_self | exact List.mem_cons_of_mem _ List.mem_cons_self | exact List.mem_cons_of_mem _ (List.mem_cons_of_mem _ List.mem_cons_self) | exact List.mem_cons_of_mem _ (List.mem_cons_of_mem _ (List.mem_cons_of_mem _ List.mem_cons_self)) | exact List.mem_cons_of_mem _ (List.mem_cons_of_mem _ (List.mem_cons_of_mem _ (List.mem_cons_of_mem _ List.mem_cons_self))) | decide) (h3 1 _ rfl)
  refine ⟨w', _, h1, h2, ?_⟩
  first | omega | (unfold R32; omega)
theorem c_X11_days {kn : sKn} {w : sW} (h : BI w) (x1 : Int) (hx1 : R32 x1) : cO (fX11_days kn) [.ref 0, hI x1] w (fun w1 _ => kF w w1 ∧ (kp w w1)) := by
  obtain ⟨w', v, e, o, q⟩ := u_X11_days (kn := kn) h.1 x1 hx1
  exact co_hO h e o (by decide +kernel) ⟨kF_hO h.1 o (by decide +kernel), (kp_hO h.1 o (by decide +kernel) (by decide +kernel))⟩
theorem u_X12_days {kn : sKn} {w : sW} (hw : wOk ZZ w) (x1 : Int) (hx1 : (-2147483648) ≤ x1 ∧ x1 ≤ 2147483647) : ∃ (w' : sW) (z : Int), fX12_days kn [.ref 213, hI x1] w = some (some (hI z), w', 0, 0) ∧ hO dX12_days w w' ∧ (z = (-1) ∨ (z = 0 ∧ 1 ≤ x1 ∧ x1 ≤ 60) ∨ (R32 z ∧ 1 ≤ x1 ∧ x1 ≤ 60)) := by
  obtain ⟨r, w', h1, h2, q, hq, σ', h3, h4, h5, h6⟩ := con_use (con_X12_days_0 kn) (σ := [0, x1]) (av := [.ref 213, hI x1]) (w := w) rfl rfl ⟨av_c (k := 213) rfl, av_i rfl ⟨by omega, by omega⟩, trivial⟩ (fun q hq => by cases hq) (gE_c ⟨_, rfl, hx1⟩ (gE_n)) hw rfl
  rcases List.mem_cons.mp hq with rfl | hq
  · obtain ⟨z, z1, z2, z3⟩ := gS_i h4
    rw [z2] at h1
    have z4 := h3 0 0 rfl
    rw [z4] at z1
    cases z1
    refine ⟨w', _, h1, h2, ?_⟩
    first | omega | (unfold R32; omega)
  rcases List.mem_cons.mp hq with rfl | hq
  · obtain ⟨z, z1, z2, z3⟩ := gS_i h4
    rw [z2] at h1
    have z4 := h3 0 0 rfl
    rw [z4] at z1
    cases z1
    have y1 := gE_at (a := 1) (b := 60) h6 (by first | exact List.mem_cons_self | exact List.mem_cons_of_mem _ List.mem_cons_self | exact List.mem_cons_of_mem _ (List.mem_cons_of_mem _ List.mem_cons_self) | exact List.mem_cons_of_mem _ (List.mem_cons_of_mem _ (List.mem_cons_of_mem _ List.mem_cons_self)) | exact List.mem_cons_of_mem _ (List.mem_cons_of_mem _ (List.mem_cons_of_mem _ (List.mem_cons_of_mem _ List.mem_cons_self))) | decide) (h3 1 _ rfl)
    refine ⟨w', _, h1, h2, ?_⟩
    first | omega | (unfold R32; omega)
  rcases List.mem_singleton.mp hq with rfl
  obtain ⟨z, z1, z2, z3⟩ := gS_i h4
  rw [z2] at h1
  have z5 := gE_at (a := (-2147483648)) (b := 2147483647) h6 (by first | exact List.mem_cons_self | exact List.mem_cons_of_mem _ List.mem_cons_self | exact List.mem_cons_of_mem _ (List.mem_cons_of_mem _ List.mem_cons_self) | exact List.mem_cons_of_mem _ (List.mem_cons_of_mem _ (List.mem_cons_of_mem _ List.mem_cons_self)) | exact List.mem_cons_of_mem _ (List.mem_cons_of_mem _ (List.mem_cons_of_mem _ (List.mem_cons_of_mem _ List.mem_cons_self))) | decide) z1
  have y1 := gE_at (a := 1) (b := 60) h6 (by first | exact List.mem_cons_self | exact List.mem_cons_of_mem _ List.mem_cons_self | exact List.mem_cons_of_mem _ (List.mem_cons_of_mem _ List.mem_cons_self) | exact List.mem_cons_of_mem _ (List.mem_cons_of_mem _ (List.mem_cons_of_mem _ List.mem_cons_self)) | exact List.mem_cons_of_mem _ (List.mem_cons_of_mem _ (List.mem_cons_of_mem _ (List.mem_cons_of_mem _ List.mem_cons_self))) | decide) (h3 1 _ rfl)
  refine ⟨w', _, h1, h2, ?_⟩
  first | omega | (unfold R32; omega)
theorem c_X12_days {kn : sKn} {w : sW} (h : BI w) (x1 : Int) (hx1 : R32 x1) : cO (fX12_days kn) [.ref 213, hI x1] w (fun w1 _ => kF w w1 ∧ (kp w w1)) := by
  obtain ⟨w', v, e, o, q⟩ := u_X12_days (kn := kn) h.1 x1 hx1
  exact co_hO h e o (by decide +kernel) ⟨kF_hO h.1 o (by decide +kernel), (kp_hO h.1 o (by decide +kernel) (by decide +kernel))⟩
theorem u_X11_undo {kn : sKn} {w : sW} (hw : wOk ZZ w)  : ∃ (w' : sW) (z : Int), fX11_undo kn [.ref 0] w = some (some (hI z), w', 0, 0) ∧ hO dX11_undo w w' ∧ (z = (-1) ∨ (0 ≤ z ∧ z ≤ 7)) := by
  obtain ⟨r, w', h1, h2, q, hq, σ', h3, h4, h5, h6⟩ := con_use (con_X11_undo_0 kn) (σ := [0]) (av := [.ref 0]) (w := w) rfl rfl ⟨av_c (k := 0) rfl, trivial⟩ (fun q hq => by cases hq) (gE_n) hw rfl
  rcases List.mem_cons.mp hq with rfl | hq
  · obtain ⟨z, z1, z2, z3⟩ := gS_i h4
    rw [z2] at h1
    have z4 := h3 0 0 rfl
    rw [z4] at z1
    cases z1
    refine ⟨w', _, h1, h2, ?_⟩
    first | omega | (unfold R32; omega)
  rcases List.mem_singleton.mp hq with rfl
  obtain ⟨z, z1, z2, z3⟩ := gS_i h4
  rw [z2] at h1
  have z5 := gE_at (a := 0) (b := 7) h6 (by first | exact List.mem_cons_self | exact List.mem_cons_of_mem _ List.mem_cons_self | exact List.mem_cons_of_mem _ (List.mem_cons_of_mem _ List.mem_cons_self) | exact List.mem_cons_of_mem _ (List.mem_cons_of_mem _ (List.mem_cons_of_mem _ List.mem_cons_self)) | exact List.mem_cons_of_mem _ (List.mem_cons_of_mem _ (List.mem_cons_of_mem _ (List.mem_cons_of_mem _ List.mem_cons_self))) | decide) z1
  refine ⟨w', _, h1, h2, ?_⟩
  first | omega | (unfold R32; omega)
theorem c_X11_undo {kn : sKn} {w : sW} (h : BI w)  : cO (fX11_undo kn) [.ref 0] w (fun w1 _ => kF w w1 ∧ (kp w w1)) := by
  obtain ⟨w', v, e, o, q⟩ := u_X11_undo (kn := kn) h.1 
  exact co_hO h e o (by decide +kernel) ⟨kF_hO h.1 o (by decide +kernel), (kp_hO h.1 o (by decide +kernel) (by decide +kernel))⟩
theorem u_X12_undo {kn : sKn} {w : sW} (hw : wOk ZZ w)  : ∃ (w' : sW) (z : Int), fX12_undo kn [.ref 213] w = some (some (hI z), w', 0, 0) ∧ hO dX12_undo w w' ∧ (((-1) ≤ z ∧ z ≤ 7)) := by
  obtain ⟨r, w', h1, h2, q, hq, σ', h3, h4, h5, h6⟩ := con_use (con_X12_undo_0 kn) (σ := [0]) (av := [.ref 213]) (w := w) rfl rfl ⟨av_c (k := 213) rfl, trivial⟩ (fun q hq => by cases hq) (gE_n) hw rfl
  rcases List.mem_singleton.mp hq with rfl
  obtain ⟨z, z1, z2, z3⟩ := gS_i h4
  rw [z2] at h1
  have z5 := gE_at (a := (-1)) (b := 7) h6 (by first | exact List.mem_cons_self | exact List.mem_cons_of_mem _ List.mem_cons_self | exact List.mem_cons_of_mem _ (List.mem_cons_of_mem _ List.mem_cons_self) | exact List.mem_cons_of_mem _ (List.mem_cons_of_mem _ (List.mem_cons_of_mem _ List.mem_cons_self)) | exact List.mem_cons_of_mem _ (List.mem_cons_of_mem _ (List.mem_cons_of_mem _ (List.mem_cons_of_mem _ List.mem_cons_self))) | decide) z1
  refine ⟨w', _, h1, h2, ?_⟩
  first | omega | (unfold R32; omega)
theorem c_X12_undo {kn : sKn} {w : sW} (h : BI w)  : cO (fX12_undo kn) [.ref 213] w (fun w1 _ => kF w w1 ∧ (kp w w1)) := by
  obtain ⟨w', v, e, o, q⟩ := u_X12_undo (kn := kn) h.1 
  exact co_hO h e o (by decide +kernel) ⟨kF_hO h.1 o (by decide +kernel), (kp_hO h.1 o (by decide +kernel) (by decide +kernel))⟩
theorem u_X11_spare {kn : sKn} {w : sW} (hw : wOk ZZ w) (x1 : Int) (hx1 : (-2147483648) ≤ x1 ∧ x1 ≤ 2147483647) : ∃ (w' : sW) (z : Int), fX11_spare kn [.ref 0, hI x1] w = some (some (hI z), w', 0, 0) ∧ hO dX11_spare w w' ∧ (z = (-1) ∨ ((0 ≤ z ∧ z ≤ 2147483647) ∧ 0 ≤ x1 ∧ x1 ≤ 5)) := by
  obtain ⟨r, w', h1, h2, q, hq, σ', h3, h4, h5, h6⟩ := con_use (con_X11_spare_0 kn) (σ := [0, x1]) (av := [.ref 0, hI x1]) (w := w) rfl rfl ⟨av_c (k := 0) rfl, av_i rfl ⟨by omega, by omega⟩, trivial⟩ (fun q hq => by cases hq) (gE_c ⟨_, rfl, hx1⟩ (gE_n)) hw rfl
  rcases List.mem_cons.mp hq with rfl | hq
  · obtain ⟨z, z1, z2, z3⟩ := gS_i h4
    rw [z2] at h1
    have z4 := h3 0 0 rfl
    rw [z4] at z1
    cases z1
    refine ⟨w', _, h1, h2, ?_⟩
    first | omega | (unfold R32; omega)
  rcases List.mem_singleton.mp hq with rfl
  obtain ⟨z, z1, z2, z3⟩ := gS_i h4
  rw [z2] at h1
  have z5 := gE_at (a := 0) (b := 2147483647) h6 (by first | exact List.mem_cons_self | exact List.mem_cons_of_mem _ List.mem_cons_self | exact List.mem_cons_of_mem _ (List.mem_cons_of_mem _ List.mem_cons_self) | exact List.mem_cons_of_mem _ (List.mem_cons_of_mem _ (List.mem_cons_of_mem _ List.mem_cons_self)) | exact List.mem_cons_of_mem _ (List.mem_cons_of_mem _ (List.mem_cons_of_mem _ (List.mem_cons_of_mem _ List.mem_cons_self))) | decide) z1
  have y1 := gE_at (a := 0) (b := 5) h6 (by first | exact List.mem_cons_self | exact List.mem_cons_of_mem _ List.mem_cons_self | exact List.mem_cons_of_mem _ (List.mem_cons_of_mem _ List.mem_cons_self) | exact List.mem_cons_of_mem _ (List.mem_cons_of_mem _ (List.mem_cons_of_mem _ List.mem_cons_self)) | exact List.mem_cons_of_mem _ (List.mem_cons_of_mem _ (List.mem_cons_of_mem _ (List.mem_cons_of_mem _ List.mem_cons_self))) | decide) (h3 1 _ rfl)
  refine ⟨w', _, h1, h2, ?_⟩
  first | omega | (unfold R32; omega)
theorem c_X11_spare {kn : sKn} {w : sW} (h : BI w) (x1 : Int) (hx1 : R32 x1) : cO (fX11_spare kn) [.ref 0, hI x1] w (fun w1 _ => kF w w1 ∧ (kp w w1)) := by
  obtain ⟨w', v, e, o, q⟩ := u_X11_spare (kn := kn) h.1 x1 hx1
  exact co_hO h e o (by decide +kernel) ⟨kF_hO h.1 o (by decide +kernel), (kp_hO h.1 o (by decide +kernel) (by decide +kernel))⟩
theorem u_X12_spare {kn : sKn} {w : sW} (hw : wOk ZZ w) (x1 : Int) (hx1 : (-2147483648) ≤ x1 ∧ x1 ≤ 2147483647) : ∃ (w' : sW) (z : Int), fX12_spare kn [.ref 213, hI x1] w = some (some (hI z), w', 0, 0) ∧ hO dX12_spare w w' ∧ ((((-1) ≤ z ∧ z ≤ 2147483647) ∧ 0 ≤ x1 ∧ x1 ≤ 5) ∨ z = (-1)) := by
  obtain ⟨r, w', h1, h2, q, hq, σ', h3, h4, h5, h6⟩ := con_use (con_X12_spare_0 kn) (σ := [0, x1]) (av := [.ref 213, hI x1]) (w := w) rfl rfl ⟨av_c (k := 213) rfl, av_i rfl ⟨by omega, by omega⟩, trivial⟩ (fun q hq => by cases hq) (gE_c ⟨_, rfl, hx1⟩ (gE_n)) hw rfl
  rcases List.mem_cons.mp hq with rfl | hq
  · obtain ⟨z, z1, z2, z3⟩ := gS_i h4
    rw [z2] at h1
    have z5 := gE_at (a := (-1)) (b := 2147483647) h6 (by first | exact List.mem_cons_self | exact List.mem_cons_of_mem _ List.mem_cons_self | exact List.mem_cons_of_mem _ (List.mem_cons_of_mem _ List.mem_cons_self) | exact List.mem_cons_of_mem _ (List.mem_cons_of_mem _ (List.mem_cons_of_mem _ List.mem_cons_self)) | exact List.mem_cons_of_mem _ (List.mem_cons_of_mem _ (List.mem_cons_of_mem _ (List.mem_cons_of_mem _ List.mem_cons_self))) | decide) z1
    have y1 := gE_at (a := 0) (b := 5) h6 (by first | exact List.mem_cons_self | exact List.mem_cons_of_mem _ List.mem_cons_self | exact List.mem_cons_of_mem _ (List.mem_cons_of_mem _ List.mem_cons_self) | exact List.mem_cons_of_mem _ (List.mem_cons_of_mem _ (List.mem_cons_of_mem _ List.mem_cons_self)) | exact List.mem_cons_of_mem _ (List.mem_cons_of_mem _ (List.mem_cons_of_mem _ (List.mem_cons_of_mem _ List.mem_cons_self))) | decide) (h3 1 _ rfl)
    refine ⟨w', _, h1, h2, ?_⟩
    first | omega | (unfold R32; omega)
  rcases List.mem_singleton.mp hq with rfl
  obtain ⟨z, z1, z2, z3⟩ := gS_i h4
  rw [z2] at h1
  have z4 := h3 0 0 rfl
  rw [z4] at z1
  cases z1
  refine ⟨w', _, h1, h2, ?_⟩
  first | omega | (unfold R32; omega)
theorem c_X12_spare {kn : sKn} {w : sW} (h : BI w) (x1 : Int) (hx1 : R32 x1) : cO (fX12_spare kn) [.ref 213, hI x1] w (fun w1 _ => kF w w1 ∧ (kp w w1)) := by
  obtain ⟨w', v, e, o, q⟩ := u_X12_spare (kn := kn) h.1 x1 hx1
  exact co_hO h e o (by decide +kernel) ⟨kF_hO h.1 o (by decide +kernel), (kp_hO h.1 o (by decide +kernel) (by decide +kernel))⟩
theorem u_X11_path {kn : sKn} {w : sW} (hw : wOk ZZ w) (x1 : Int) (hx1 : (-2147483648) ≤ x1 ∧ x1 ≤ 2147483647) (x2 : Int) (hx2 : (-2147483648) ≤ x2 ∧ x2 ≤ 2147483647) : ∃ (w' : sW) (z : Int), fX11_path kn [.ref 0, hI x1, hI x2] w = some (some (hI z), w', 0, 0) ∧ hO dX11_path w w' ∧ (z = (-1) ∨ ((0 ≤ z ∧ z ≤ 3) ∧ 0 ≤ x1 ∧ x1 ≤ 5 ∧ 0 ≤ x2 ∧ x2 ≤ 11)) := by
  obtain ⟨r, w', h1, h2, q, hq, σ', h3, h4, h5, h6⟩ := con_use (con_X11_path_0 kn) (σ := [0, x1, x2]) (av := [.ref 0, hI x1, hI x2]) (w := w) rfl rfl ⟨av_c (k := 0) rfl, av_i rfl ⟨by omega, by omega⟩, av_i rfl ⟨by omega, by omega⟩, trivial⟩ (fun q hq => by cases hq) (gE_c ⟨_, rfl, hx2⟩ (gE_c ⟨_, rfl, hx1⟩ (gE_n))) hw rfl
  rcases List.mem_cons.mp hq with rfl | hq
  · obtain ⟨z, z1, z2, z3⟩ := gS_i h4
    rw [z2] at h1
    have z4 := h3 0 0 rfl
    rw [z4] at z1
    cases z1
    refine ⟨w', _, h1, h2, ?_⟩
    first | omega | (unfold R32; omega)
  rcases List.mem_singleton.mp hq with rfl
  obtain ⟨z, z1, z2, z3⟩ := gS_i h4
  rw [z2] at h1
  have z5 := gE_at (a := 0) (b := 3) h6 (by first | exact List.mem_cons_self | exact List.mem_cons_of_mem _ List.mem_cons_self | exact List.mem_cons_of_mem _ (List.mem_cons_of_mem _ List.mem_cons_self) | exact List.mem_cons_of_mem _ (List.mem_cons_of_mem _ (List.mem_cons_of_mem _ List.mem_cons_self)) | exact List.mem_cons_of_mem _ (List.mem_cons_of_mem _ (List.mem_cons_of_mem _ (List.mem_cons_of_mem _ List.mem_cons_self))) | decide) z1
  have y1 := gE_at (a := 0) (b := 5) h6 (by first | exact List.mem_cons_self | exact List.mem_cons_of_mem _ List.mem_cons_self | exact List.mem_cons_of_mem _ (List.mem_cons_of_mem _ List.mem_cons_self) | exact List.mem_cons_of_mem _ (List.mem_cons_of_mem _ (List.mem_cons_of_mem _ List.mem_cons_self)) | exact List.mem_cons_of_mem _ (List.mem_cons_of_mem _ (List.mem_cons_of_mem _ (List.mem_cons_of_mem _ List.mem_cons_self))) | decide) (h3 1 _ rfl)
  have y2 := gE_at (a := 0) (b := 11) h6 (by first | exact List.mem_cons_self | exact List.mem_cons_of_mem _ List.mem_cons_self | exact List.mem_cons_of_mem _ (List.mem_cons_of_mem _ List.mem_cons_self) | exact List.mem_cons_of_mem _ (List.mem_cons_of_mem _ (List.mem_cons_of_mem _ List.mem_cons_self)) | exact List.mem_cons_of_mem _ (List.mem_cons_of_mem _ (List.mem_cons_of_mem _ (List.mem_cons_of_mem _ List.mem_cons_self))) | decide) (h3 2 _ rfl)
  refine ⟨w', _, h1, h2, ?_⟩
  first | omega | (unfold R32; omega)
theorem c_X11_path {kn : sKn} {w : sW} (h : BI w) (x1 : Int) (hx1 : R32 x1) (x2 : Int) (hx2 : R32 x2) : cO (fX11_path kn) [.ref 0, hI x1, hI x2] w (fun w1 _ => kF w w1 ∧ (kp w w1)) := by
  obtain ⟨w', v, e, o, q⟩ := u_X11_path (kn := kn) h.1 x1 hx1 x2 hx2
  exact co_hO h e o (by decide +kernel) ⟨kF_hO h.1 o (by decide +kernel), (kp_hO h.1 o (by decide +kernel) (by decide +kernel))⟩
theorem u_X12_path {kn : sKn} {w : sW} (hw : wOk ZZ w) (x1 : Int) (hx1 : (-2147483648) ≤ x1 ∧ x1 ≤ 2147483647) (x2 : Int) (hx2 : (-2147483648) ≤ x2 ∧ x2 ≤ 2147483647) : ∃ (w' : sW) (z : Int), fX12_path kn [.ref 213, hI x1, hI x2] w = some (some (hI z), w', 0, 0) ∧ hO dX12_path w w' ∧ (((0 ≤ z ∧ z ≤ 3) ∧ 0 ≤ x1 ∧ x1 ≤ 5 ∧ 0 ≤ x2 ∧ x2 ≤ 11) ∨ z = (-1)) := by
  obtain ⟨r, w', h1, h2, q, hq, σ', h3, h4, h5, h6⟩ := con_use (con_X12_path_0 kn) (σ := [0, x1, x2]) (av := [.ref 213, hI x1, hI x2]) (w := w) rfl rfl ⟨av_c (k := 213) rfl, av_i rfl ⟨by omega, by omega⟩, av_i rfl ⟨by omega, by omega⟩, trivial⟩ (fun q hq => by cases hq) (gE_c ⟨_, rfl, hx2⟩ (gE_c ⟨_, rfl, hx1⟩ (gE_n))) hw rfl
  rcases List.mem_cons.mp hq with rfl | hq
  · obtain ⟨z, z1, z2, z3⟩ := gS_i h4
    rw [z2] at h1
    have z5 := gE_at (a := 0) (b := 3) h6 (by first | exact List.mem_cons_self | exact List.mem_cons_of_mem _ List.mem_cons_self | exact List.mem_cons_of_mem _ (List.mem_cons_of_mem _ List.mem_cons_self) | exact List.mem_cons_of_mem _ (List.mem_cons_of_mem _ (List.mem_cons_of_mem _ List.mem_cons_self)) | exact List.mem_cons_of_mem _ (List.mem_cons_of_mem _ (List.mem_cons_of_mem _ (List.mem_cons_of_mem _ List.mem_cons_self))) | decide) z1
    have y1 := gE_at (a := 0) (b := 5) h6 (by first | exact List.mem_cons_self | exact List.mem_cons_of_mem _ List.mem_cons_self | exact List.mem_cons_of_mem _ (List.mem_cons_of_mem _ List.mem_cons_self) | exact List.mem_cons_of_mem _ (List.mem_cons_of_mem _ (List.mem_cons_of_mem _ List.mem_cons_self)) | exact List.mem_cons_of_mem _ (List.mem_cons_of_mem _ (List.mem_cons_of_mem _ (List.mem_cons_of_mem _ List.mem_cons_self))) | decide) (h3 1 _ rfl)
    have y2 := gE_at (a := 0) (b := 11) h6 (by first | exact List.mem_cons_self | exact List.mem_cons_of_mem _ List.mem_cons_self | exact List.mem_cons_of_mem _ (List.mem_cons_of_mem _ List.mem_cons_self) | exact List.mem_cons_of_mem _ (List.mem_cons_of_mem _ (List.mem_cons_of_mem _ List.mem_cons_self)) | exact List.mem_cons_of_mem _ (List.mem_cons_of_mem _ (List.mem_cons_of_mem _ (List.mem_cons_of_mem _ List.mem_cons_self))) | decide) (h3 2 _ rfl)
    refine ⟨w', _, h1, h2, ?_⟩
    first | omega | (unfold R32; omega)
  rcases List.mem_singleton.mp hq with rfl
  obtain ⟨z, z1, z2, z3⟩ := gS_i h4
  rw [z2] at h1
  have z4 := h3 0 0 rfl
  rw [z4] at z1
  cases z1
  refine ⟨w', _, h1, h2, ?_⟩
  first | omega | (unfold R32; omega)
theorem c_X12_path {kn : sKn} {w : sW} (h : BI w) (x1 : Int) (hx1 : R32 x1) (x2 : Int) (hx2 : R32 x2) : cO (fX12_path kn) [.ref 213, hI x1, hI x2] w (fun w1 _ => kF w w1 ∧ (kp w w1)) := by
  obtain ⟨w', v, e, o, q⟩ := u_X12_path (kn := kn) h.1 x1 hx1 x2 hx2
  exact co_hO h e o (by decide +kernel) ⟨kF_hO h.1 o (by decide +kernel), (kp_hO h.1 o (by decide +kernel) (by decide +kernel))⟩
theorem u_X11_limit {kn : sKn} {w : sW} (hw : wOk ZZ w) (x1 : Int) (hx1 : (-2147483648) ≤ x1 ∧ x1 ≤ 2147483647) : ∃ (w' : sW) (z : Int), fX11_limit kn [.ref 0, hI x1] w = some (some (hI z), w', 0, 0) ∧ hO dX11_limit w w' ∧ (z = (-1) ∨ ((0 ≤ z ∧ z ≤ 2147483647) ∧ 1 ≤ x1 ∧ x1 ≤ 3)) := by
  obtain ⟨r, w', h1, h2, q, hq, σ', h3, h4, h5, h6⟩ := con_use (con_X11_limit_0 kn) (σ := [0, x1]) (av := [.ref 0, hI x1]) (w := w) rfl rfl ⟨av_c (k := 0) rfl, av_i rfl ⟨by omega, by omega⟩, trivial⟩ (fun q hq => by cases hq) (gE_c ⟨_, rfl, hx1⟩ (gE_n)) hw rfl
  rcases List.mem_cons.mp hq with rfl | hq
  · obtain ⟨z, z1, z2, z3⟩ := gS_i h4
    rw [z2] at h1
    have z4 := h3 0 0 rfl
    rw [z4] at z1
    cases z1
    refine ⟨w', _, h1, h2, ?_⟩
    first | omega | (unfold R32; omega)
  rcases List.mem_singleton.mp hq with rfl
  obtain ⟨z, z1, z2, z3⟩ := gS_i h4
  rw [z2] at h1
  have z5 := gE_at (a := 0) (b := 2147483647) h6 (by first | exact List.mem_cons_self | exact List.mem_cons_of_mem _ List.mem_cons_self | exact List.mem_cons_of_mem _ (List.mem_cons_of_mem _ List.mem_cons_self) | exact List.mem_cons_of_mem _ (List.mem_cons_of_mem _ (List.mem_cons_of_mem _ List.mem_cons_self)) | exact List.mem_cons_of_mem _ (List.mem_cons_of_mem _ (List.mem_cons_of_mem _ (List.mem_cons_of_mem _ List.mem_cons_self))) | decide) z1
  have y1 := gE_at (a := 1) (b := 3) h6 (by first | exact List.mem_cons_self | exact List.mem_cons_of_mem _ List.mem_cons_self | exact List.mem_cons_of_mem _ (List.mem_cons_of_mem _ List.mem_cons_self) | exact List.mem_cons_of_mem _ (List.mem_cons_of_mem _ (List.mem_cons_of_mem _ List.mem_cons_self)) | exact List.mem_cons_of_mem _ (List.mem_cons_of_mem _ (List.mem_cons_of_mem _ (List.mem_cons_of_mem _ List.mem_cons_self))) | decide) (h3 1 _ rfl)
  refine ⟨w', _, h1, h2, ?_⟩
  first | omega | (unfold R32; omega)
theorem c_X11_limit {kn : sKn} {w : sW} (h : BI w) (x1 : Int) (hx1 : R32 x1) : cO (fX11_limit kn) [.ref 0, hI x1] w (fun w1 _ => kF w w1 ∧ (kp w w1)) := by
  obtain ⟨w', v, e, o, q⟩ := u_X11_limit (kn := kn) h.1 x1 hx1
  exact co_hO h e o (by decide +kernel) ⟨kF_hO h.1 o (by decide +kernel), (kp_hO h.1 o (by decide +kernel) (by decide +kernel))⟩
theorem u_X12_limit {kn : sKn} {w : sW} (hw : wOk ZZ w) (x1 : Int) (hx1 : (-2147483648) ≤ x1 ∧ x1 ≤ 2147483647) : ∃ (w' : sW) (z : Int), fX12_limit kn [.ref 213, hI x1] w = some (some (hI z), w', 0, 0) ∧ hO dX12_limit w w' ∧ (z = (-1) ∨ ((0 ≤ z ∧ z ≤ 2147483647) ∧ 1 ≤ x1 ∧ x1 ≤ 3)) := by
  obtain ⟨r, w', h1, h2, q, hq, σ', h3, h4, h5, h6⟩ := con_use (con_X12_limit_0 kn) (σ := [0, x1]) (av := [.ref 213, hI x1]) (w := w) rfl rfl ⟨av_c (k := 213) rfl, av_i rfl ⟨by omega, by omega⟩, trivial⟩ (fun q hq => by cases hq) (gE_c ⟨_, rfl, hx1⟩ (gE_n)) hw rfl
  rcases List.mem_cons.mp hq with rfl | hq
  · obtain ⟨z, z1, z2, z3⟩ := gS_i h4
    rw [z2] at h1
    have z4 := h3 0 0 rfl
    rw [z4] at z1
    cases z1
    refine ⟨w', _, h1, h2, ?_⟩
    first | omega | (unfold R32; omega)
  rcases List.mem_singleton.mp hq with rfl
  obtain ⟨z, z1, z2, z3⟩ := gS_i h4
  rw [z2] at h1
  have z5 := gE_at (a := 0) (b := 2147483647) h6 (by first | exact List.mem_cons_self | exact List.mem_cons_of_mem _ List.mem_cons_self | exact List.mem_cons_of_mem _ (List.mem_cons_of_mem _ List.mem_cons_self) | exact List.mem_cons_of_mem _ (List.mem_cons_of_mem _ (List.mem_cons_of_mem _ List.mem_cons_self)) | exact List.mem_cons_of_mem _ (List.mem_cons_of_mem _ (List.mem_cons_of_mem _ (List.mem_cons_of_mem _ List.mem_cons_self))) | decide) z1
  have y1 := gE_at (a := 1) (b := 3) h6 (by first | exact List.mem_cons_self | exact List.mem_cons_of_mem _ List.mem_cons_self | exact List.mem_cons_of_mem _ (List.mem_cons_of_mem _ List.mem_cons_self) | exact List.mem_cons_of_mem _ (List.mem_cons_of_mem _ (List.mem_cons_of_mem _ List.mem_cons_self)) | exact List.mem_cons_of_mem _ (List.mem_cons_of_mem _ (List.mem_cons_of_mem _ (List.mem_cons_of_mem _ List.mem_cons_self))) | decide) (h3 1 _ rfl)
  refine ⟨w', _, h1, h2, ?_⟩
  first | omega | (unfold R32; omega)
theorem c_X12_limit {kn : sKn} {w : sW} (h : BI w) (x1 : Int) (hx1 : R32 x1) : cO (fX12_limit kn) [.ref 213, hI x1] w (fun w1 _ => kF w w1 ∧ (kp w w1)) := by
  obtain ⟨w', v, e, o, q⟩ := u_X12_limit (kn := kn) h.1 x1 hx1
  exact co_hO h e o (by decide +kernel) ⟨kF_hO h.1 o (by decide +kernel), (kp_hO h.1 o (by decide +kernel) (by decide +kernel))⟩
theorem u_X11_asks {kn : sKn} {w : sW} (hw : wOk ZZ w) (x1 : Int) (hx1 : (-2147483648) ≤ x1 ∧ x1 ≤ 2147483647) : ∃ (w' : sW) (z : Int), fX11_asks kn [.ref 0, hI x1] w = some (some (hI z), w', 0, 0) ∧ hO dX11_asks w w' ∧ (z = (-1) ∨ (((-2147483648) ≤ z ∧ z ≤ 999999) ∧ 0 ≤ x1 ∧ x1 ≤ 5)) := by
  obtain ⟨r, w', h1, h2, q, hq, σ', h3, h4, h5, h6⟩ := con_use (con_X11_asks_0 kn) (σ := [0, x1]) (av := [.ref 0, hI x1]) (w := w) rfl rfl ⟨av_c (k := 0) rfl, av_i rfl ⟨by omega, by omega⟩, trivial⟩ (fun q hq => by cases hq) (gE_c ⟨_, rfl, hx1⟩ (gE_n)) hw rfl
  rcases List.mem_cons.mp hq with rfl | hq
  · obtain ⟨z, z1, z2, z3⟩ := gS_i h4
    rw [z2] at h1
    have z4 := h3 0 0 rfl
    rw [z4] at z1
    cases z1
    refine ⟨w', _, h1, h2, ?_⟩
    first | omega | (unfold R32; omega)
  rcases List.mem_singleton.mp hq with rfl
  obtain ⟨z, z1, z2, z3⟩ := gS_i h4
  rw [z2] at h1
  have z5 := gE_at (a := (-2147483648)) (b := 999999) h6 (by first | exact List.mem_cons_self | exact List.mem_cons_of_mem _ List.mem_cons_self | exact List.mem_cons_of_mem _ (List.mem_cons_of_mem _ List.mem_cons_self) | exact List.mem_cons_of_mem _ (List.mem_cons_of_mem _ (List.mem_cons_of_mem _ List.mem_cons_self)) | exact List.mem_cons_of_mem _ (List.mem_cons_of_mem _ (List.mem_cons_of_mem _ (List.mem_cons_of_mem _ List.mem_cons_self))) | decide) z1
  have y1 := gE_at (a := 0) (b := 5) h6 (by first | exact List.mem_cons_self | exact List.mem_cons_of_mem _ List.mem_cons_self | exact List.mem_cons_of_mem _ (List.mem_cons_of_mem _ List.mem_cons_self) | exact List.mem_cons_of_mem _ (List.mem_cons_of_mem _ (List.mem_cons_of_mem _ List.mem_cons_self)) | exact List.mem_cons_of_mem _ (List.mem_cons_of_mem _ (List.mem_cons_of_mem _ (List.mem_cons_of_mem _ List.mem_cons_self))) | decide) (h3 1 _ rfl)
  refine ⟨w', _, h1, h2, ?_⟩
  first | omega | (unfold R32; omega)
theorem c_X11_asks {kn : sKn} {w : sW} (h : BI w) (x1 : Int) (hx1 : R32 x1) : cO (fX11_asks kn) [.ref 0, hI x1] w (fun w1 _ => kF w w1 ∧ (kp w w1)) := by
  obtain ⟨w', v, e, o, q⟩ := u_X11_asks (kn := kn) h.1 x1 hx1
  exact co_hO h e o (by decide +kernel) ⟨kF_hO h.1 o (by decide +kernel), (kp_hO h.1 o (by decide +kernel) (by decide +kernel))⟩
theorem c_X12_asks {kn : sKn} {w : sW} (h : BI w) (x1 : Int) (hx1 : R32 x1) : cO (fX12_asks kn) [.ref 213, hI x1] w (fun w1 _ => kF w w1 ∧ (kp w w1)) := by
  obtain ⟨w', v, e, o⟩ := s_asks (kn := kn) h.1 x1 hx1
  exact co_hO h e o (by decide +kernel) ⟨kF_hO h.1 o (by decide +kernel), (kp_hO h.1 o (by decide +kernel) (by decide +kernel))⟩
theorem u_X11_asked {kn : sKn} {w : sW} (hw : wOk ZZ w) (x1 : Int) (hx1 : (-2147483648) ≤ x1 ∧ x1 ≤ 2147483647) (x2 : Int) (hx2 : (-2147483648) ≤ x2 ∧ x2 ≤ 2147483647) : ∃ (w' : sW) (z : Int), fX11_asked kn [.ref 0, hI x1, hI x2] w = some (some (hI z), w', 0, 0) ∧ hO dX11_asked w w' ∧ ((R32 z ∧ 0 ≤ x1 ∧ x1 ≤ 11 ∧ 0 ≤ x2 ∧ x2 ≤ 2) ∨ z = (-1)) := by
  obtain ⟨r, w', h1, h2, q, hq, σ', h3, h4, h5, h6⟩ := con_use (con_X11_asked_0 kn) (σ := [0, x1, x2]) (av := [.ref 0, hI x1, hI x2]) (w := w) rfl rfl ⟨av_c (k := 0) rfl, av_i rfl ⟨by omega, by omega⟩, av_i rfl ⟨by omega, by omega⟩, trivial⟩ (fun q hq => by cases hq) (gE_c ⟨_, rfl, hx2⟩ (gE_c ⟨_, rfl, hx1⟩ (gE_n))) hw rfl
  rcases List.mem_cons.mp hq with rfl | hq
  · obtain ⟨z, z1, z2, z3⟩ := gS_i h4
    rw [z2] at h1
    have z5 := gE_at (a := (-2147483648)) (b := 2147483647) h6 (by first | exact List.mem_cons_self | exact List.mem_cons_of_mem _ List.mem_cons_self | exact List.mem_cons_of_mem _ (List.mem_cons_of_mem _ List.mem_cons_self) | exact List.mem_cons_of_mem _ (List.mem_cons_of_mem _ (List.mem_cons_of_mem _ List.mem_cons_self)) | exact List.mem_cons_of_mem _ (List.mem_cons_of_mem _ (List.mem_cons_of_mem _ (List.mem_cons_of_mem _ List.mem_cons_self))) | decide) z1
    have y1 := gE_at (a := 0) (b := 11) h6 (by first | exact List.mem_cons_self | exact List.mem_cons_of_mem _ List.mem_cons_self | exact List.mem_cons_of_mem _ (List.mem_cons_of_mem _ List.mem_cons_self) | exact List.mem_cons_of_mem _ (List.mem_cons_of_mem _ (List.mem_cons_of_mem _ List.mem_cons_self)) | exact List.mem_cons_of_mem _ (List.mem_cons_of_mem _ (List.mem_cons_of_mem _ (List.mem_cons_of_mem _ List.mem_cons_self))) | decide) (h3 1 _ rfl)
    have y2 := gE_at (a := 0) (b := 2) h6 (by first | exact List.mem_cons_self | exact List.mem_cons_of_mem _ List.mem_cons_self | exact List.mem_cons_of_mem _ (List.mem_cons_of_mem _ List.mem_cons_self) | exact List.mem_cons_of_mem _ (List.mem_cons_of_mem _ (List.mem_cons_of_mem _ List.mem_cons_self)) | exact List.mem_cons_of_mem _ (List.mem_cons_of_mem _ (List.mem_cons_of_mem _ (List.mem_cons_of_mem _ List.mem_cons_self))) | decide) (h3 2 _ rfl)
    refine ⟨w', _, h1, h2, ?_⟩
    first | omega | (unfold R32; omega)
  rcases List.mem_singleton.mp hq with rfl
  obtain ⟨z, z1, z2, z3⟩ := gS_i h4
  rw [z2] at h1
  have z4 := h3 0 0 rfl
  rw [z4] at z1
  cases z1
  refine ⟨w', _, h1, h2, ?_⟩
  first | omega | (unfold R32; omega)
theorem c_X11_asked {kn : sKn} {w : sW} (h : BI w) (x1 : Int) (hx1 : R32 x1) (x2 : Int) (hx2 : R32 x2) : cO (fX11_asked kn) [.ref 0, hI x1, hI x2] w (fun w1 _ => kF w w1 ∧ (kp w w1)) := by
  obtain ⟨w', v, e, o, q⟩ := u_X11_asked (kn := kn) h.1 x1 hx1 x2 hx2
  exact co_hO h e o (by decide +kernel) ⟨kF_hO h.1 o (by decide +kernel), (kp_hO h.1 o (by decide +kernel) (by decide +kernel))⟩
theorem u_X12_asked {kn : sKn} {w : sW} (hw : wOk ZZ w) (x1 : Int) (hx1 : (-2147483648) ≤ x1 ∧ x1 ≤ 2147483647) (x2 : Int) (hx2 : (-2147483648) ≤ x2 ∧ x2 ≤ 2147483647) : ∃ (w' : sW) (z : Int), fX12_asked kn [.ref 213, hI x1, hI x2] w = some (some (hI z), w', 0, 0) ∧ hO dX12_asked w w' ∧ (z = (-1) ∨ (((-1) ≤ z ∧ z ≤ 9) ∧ 0 ≤ x1 ∧ x1 ≤ 11 ∧ 0 ≤ x2 ∧ x2 ≤ 2)) := by
  obtain ⟨r, w', h1, h2, q, hq, σ', h3, h4, h5, h6⟩ := con_use (con_X12_asked_0 kn) (σ := [0, x1, x2]) (av := [.ref 213, hI x1, hI x2]) (w := w) rfl rfl ⟨av_c (k := 213) rfl, av_i rfl ⟨by omega, by omega⟩, av_i rfl ⟨by omega, by omega⟩, trivial⟩ (fun q hq => by cases hq) (gE_c ⟨_, rfl, hx2⟩ (gE_c ⟨_, rfl, hx1⟩ (gE_n))) hw rfl
  rcases List.mem_cons.mp hq with rfl | hq
  · obtain ⟨z, z1, z2, z3⟩ := gS_i h4
    rw [z2] at h1
    have z4 := h3 0 0 rfl
    rw [z4] at z1
    cases z1
    refine ⟨w', _, h1, h2, ?_⟩
    first | omega | (unfold R32; omega)
  rcases List.mem_singleton.mp hq with rfl
  obtain ⟨z, z1, z2, z3⟩ := gS_i h4
  rw [z2] at h1
  have z5 := gE_at (a := (-1)) (b := 9) h6 (by first | exact List.mem_cons_self | exact List.mem_cons_of_mem _ List.mem_cons_self | exact List.mem_cons_of_mem _ (List.mem_cons_of_mem _ List.mem_cons_self) | exact List.mem_cons_of_mem _ (List.mem_cons_of_mem _ (List.mem_cons_of_mem _ List.mem_cons_self)) | exact List.mem_cons_of_mem _ (List.mem_cons_of_mem _ (List.mem_cons_of_mem _ (List.mem_cons_of_mem _ List.mem_cons_self))) | decide) z1
  have y1 := gE_at (a := 0) (b := 11) h6 (by first | exact List.mem_cons_self | exact List.mem_cons_of_mem _ List.mem_cons_self | exact List.mem_cons_of_mem _ (List.mem_cons_of_mem _ List.mem_cons_self) | exact List.mem_cons_of_mem _ (List.mem_cons_of_mem _ (List.mem_cons_of_mem _ List.mem_cons_self)) | exact List.mem_cons_of_mem _ (List.mem_cons_of_mem _ (List.mem_cons_of_mem _ (List.mem_cons_of_mem _ List.mem_cons_self))) | decide) (h3 1 _ rfl)
  have y2 := gE_at (a := 0) (b := 2) h6 (by first | exact List.mem_cons_self | exact List.mem_cons_of_mem _ List.mem_cons_self | exact List.mem_cons_of_mem _ (List.mem_cons_of_mem _ List.mem_cons_self) | exact List.mem_cons_of_mem _ (List.mem_cons_of_mem _ (List.mem_cons_of_mem _ List.mem_cons_self)) | exact List.mem_cons_of_mem _ (List.mem_cons_of_mem _ (List.mem_cons_of_mem _ (List.mem_cons_of_mem _ List.mem_cons_self))) | decide) (h3 2 _ rfl)
  refine ⟨w', _, h1, h2, ?_⟩
  first | omega | (unfold R32; omega)
theorem c_X12_asked {kn : sKn} {w : sW} (h : BI w) (x1 : Int) (hx1 : R32 x1) (x2 : Int) (hx2 : R32 x2) : cO (fX12_asked kn) [.ref 213, hI x1, hI x2] w (fun w1 _ => kF w w1 ∧ (kp w w1)) := by
  obtain ⟨w', v, e, o, q⟩ := u_X12_asked (kn := kn) h.1 x1 hx1 x2 hx2
  exact co_hO h e o (by decide +kernel) ⟨kF_hO h.1 o (by decide +kernel), (kp_hO h.1 o (by decide +kernel) (by decide +kernel))⟩
theorem u_X11_keystone {kn : sKn} {w : sW} (hw : wOk ZZ w)  : ∃ (w' : sW) (z : Int), fX11_keystone kn [.ref 0] w = some (some (hI z), w', 0, 0) ∧ hO dX11_keystone w w' ∧ (((-1) ≤ z ∧ z ≤ 9)) := by
  obtain ⟨r, w', h1, h2, q, hq, σ', h3, h4, h5, h6⟩ := con_use (con_X11_keystone_0 kn) (σ := [0]) (av := [.ref 0]) (w := w) rfl rfl ⟨av_c (k := 0) rfl, trivial⟩ (fun q hq => by cases hq) (gE_n) hw rfl
  rcases List.mem_singleton.mp hq with rfl
  obtain ⟨z, z1, z2, z3⟩ := gS_i h4
  rw [z2] at h1
  have z5 := gE_at (a := (-1)) (b := 9) h6 (by first | exact List.mem_cons_self | exact List.mem_cons_of_mem _ List.mem_cons_self | exact List.mem_cons_of_mem _ (List.mem_cons_of_mem _ List.mem_cons_self) | exact List.mem_cons_of_mem _ (List.mem_cons_of_mem _ (List.mem_cons_of_mem _ List.mem_cons_self)) | exact List.mem_cons_of_mem _ (List.mem_cons_of_mem _ (List.mem_cons_of_mem _ (List.mem_cons_of_mem _ List.mem_cons_self))) | decide) z1
  refine ⟨w', _, h1, h2, ?_⟩
  first | omega | (unfold R32; omega)
theorem c_X11_keystone {kn : sKn} {w : sW} (h : BI w)  : cO (fX11_keystone kn) [.ref 0] w (fun w1 _ => kF w w1 ∧ (kp w w1)) := by
  obtain ⟨w', v, e, o, q⟩ := u_X11_keystone (kn := kn) h.1 
  exact co_hO h e o (by decide +kernel) ⟨kF_hO h.1 o (by decide +kernel), (kp_hO h.1 o (by decide +kernel) (by decide +kernel))⟩
theorem u_X12_keystone {kn : sKn} {w : sW} (hw : wOk ZZ w)  : ∃ (w' : sW) (z : Int), fX12_keystone kn [.ref 213] w = some (some (hI z), w', 0, 0) ∧ hO dX12_keystone w w' ∧ (((-1) ≤ z ∧ z ≤ 9)) := by
  obtain ⟨r, w', h1, h2, q, hq, σ', h3, h4, h5, h6⟩ := con_use (con_X12_keystone_0 kn) (σ := [0]) (av := [.ref 213]) (w := w) rfl rfl ⟨av_c (k := 213) rfl, trivial⟩ (fun q hq => by cases hq) (gE_n) hw rfl
  rcases List.mem_singleton.mp hq with rfl
  obtain ⟨z, z1, z2, z3⟩ := gS_i h4
  rw [z2] at h1
  have z5 := gE_at (a := (-1)) (b := 9) h6 (by first | exact List.mem_cons_self | exact List.mem_cons_of_mem _ List.mem_cons_self | exact List.mem_cons_of_mem _ (List.mem_cons_of_mem _ List.mem_cons_self) | exact List.mem_cons_of_mem _ (List.mem_cons_of_mem _ (List.mem_cons_of_mem _ List.mem_cons_self)) | exact List.mem_cons_of_mem _ (List.mem_cons_of_mem _ (List.mem_cons_of_mem _ (List.mem_cons_of_mem _ List.mem_cons_self))) | decide) z1
  refine ⟨w', _, h1, h2, ?_⟩
  first | omega | (unfold R32; omega)
theorem c_X12_keystone {kn : sKn} {w : sW} (h : BI w)  : cO (fX12_keystone kn) [.ref 213] w (fun w1 _ => kF w w1 ∧ (kp w w1)) := by
  obtain ⟨w', v, e, o, q⟩ := u_X12_keystone (kn := kn) h.1 
  exact co_hO h e o (by decide +kernel) ⟨kF_hO h.1 o (by decide +kernel), (kp_hO h.1 o (by decide +kernel) (by decide +kernel))⟩
theorem u_X11_able {kn : sKn} {w : sW} (hw : wOk ZZ w)  : ∃ (w' : sW) (z : Int), fX11_able kn [.ref 0] w = some (some (hI z), w', 0, 0) ∧ hO dX11_able w w' ∧ ((0 ≤ z ∧ z ≤ 63)) := by
  obtain ⟨r, w', h1, h2, q, hq, σ', h3, h4, h5, h6⟩ := con_use (con_X11_able_0 kn) (σ := [0]) (av := [.ref 0]) (w := w) rfl rfl ⟨av_c (k := 0) rfl, trivial⟩ (fun q hq => by cases hq) (gE_n) hw rfl
  rcases List.mem_singleton.mp hq with rfl
  obtain ⟨z, z1, z2, z3⟩ := gS_i h4
  rw [z2] at h1
  have z5 := gE_at (a := 0) (b := 63) h6 (by first | exact List.mem_cons_self | exact List.mem_cons_of_mem _ List.mem_cons_self | exact List.mem_cons_of_mem _ (List.mem_cons_of_mem _ List.mem_cons_self) | exact List.mem_cons_of_mem _ (List.mem_cons_of_mem _ (List.mem_cons_of_mem _ List.mem_cons_self)) | exact List.mem_cons_of_mem _ (List.mem_cons_of_mem _ (List.mem_cons_of_mem _ (List.mem_cons_of_mem _ List.mem_cons_self))) | decide) z1
  refine ⟨w', _, h1, h2, ?_⟩
  first | omega | (unfold R32; omega)
theorem c_X11_able {kn : sKn} {w : sW} (h : BI w)  : cO (fX11_able kn) [.ref 0] w (fun w1 _ => kF w w1 ∧ (kp w w1)) := by
  obtain ⟨w', v, e, o, q⟩ := u_X11_able (kn := kn) h.1 
  exact co_hO h e o (by decide +kernel) ⟨kF_hO h.1 o (by decide +kernel), (kp_hO h.1 o (by decide +kernel) (by decide +kernel))⟩
theorem u_X12_able {kn : sKn} {w : sW} (hw : wOk ZZ w)  : ∃ (w' : sW) (z : Int), fX12_able kn [.ref 213] w = some (some (hI z), w', 0, 0) ∧ hO dX12_able w w' ∧ (R32 z) := by
  obtain ⟨r, w', h1, h2, q, hq, σ', h3, h4, h5, h6⟩ := con_use (con_X12_able_0 kn) (σ := [0]) (av := [.ref 213]) (w := w) rfl rfl ⟨av_c (k := 213) rfl, trivial⟩ (fun q hq => by cases hq) (gE_n) hw rfl
  rcases List.mem_singleton.mp hq with rfl
  obtain ⟨z, z1, z2, z3⟩ := gS_i h4
  rw [z2] at h1
  have z5 := gE_at (a := (-2147483648)) (b := 2147483647) h6 (by first | exact List.mem_cons_self | exact List.mem_cons_of_mem _ List.mem_cons_self | exact List.mem_cons_of_mem _ (List.mem_cons_of_mem _ List.mem_cons_self) | exact List.mem_cons_of_mem _ (List.mem_cons_of_mem _ (List.mem_cons_of_mem _ List.mem_cons_self)) | exact List.mem_cons_of_mem _ (List.mem_cons_of_mem _ (List.mem_cons_of_mem _ (List.mem_cons_of_mem _ List.mem_cons_self))) | decide) z1
  refine ⟨w', _, h1, h2, ?_⟩
  exact z3
theorem c_X12_able {kn : sKn} {w : sW} (h : BI w)  : cO (fX12_able kn) [.ref 213] w (fun w1 _ => kF w w1 ∧ (kp w w1)) := by
  obtain ⟨w', v, e, o, q⟩ := u_X12_able (kn := kn) h.1 
  exact co_hO h e o (by decide +kernel) ⟨kF_hO h.1 o (by decide +kernel), (kp_hO h.1 o (by decide +kernel) (by decide +kernel))⟩
theorem u_X11_cut {kn : sKn} {w : sW} (hw : wOk ZZ w) (x1 : Int) (hx1 : (-2147483648) ≤ x1 ∧ x1 ≤ 2147483647) : ∃ (w' : sW) (z : Int), fX11_cut kn [.ref 0, hI x1] w = some (some (hI z), w', 0, 0) ∧ hO dX11_cut w w' ∧ (z = (-1) ∨ (((-2147483648) ≤ z ∧ z ≤ 3) ∧ 0 ≤ x1 ∧ x1 ≤ 5)) := by
  obtain ⟨r, w', h1, h2, q, hq, σ', h3, h4, h5, h6⟩ := con_use (con_X11_cut_0 kn) (σ := [0, x1]) (av := [.ref 0, hI x1]) (w := w) rfl rfl ⟨av_c (k := 0) rfl, av_i rfl ⟨by omega, by omega⟩, trivial⟩ (fun q hq => by cases hq) (gE_c ⟨_, rfl, hx1⟩ (gE_n)) hw rfl
  rcases List.mem_cons.mp hq with rfl | hq
  · obtain ⟨z, z1, z2, z3⟩ := gS_i h4
    rw [z2] at h1
    have z4 := h3 0 0 rfl
    rw [z4] at z1
    cases z1
    refine ⟨w', _, h1, h2, ?_⟩
    first | omega | (unfold R32; omega)
  rcases List.mem_singleton.mp hq with rfl
  obtain ⟨z, z1, z2, z3⟩ := gS_i h4
  rw [z2] at h1
  have z5 := gE_at (a := (-2147483648)) (b := 3) h6 (by first | exact List.mem_cons_self | exact List.mem_cons_of_mem _ List.mem_cons_self | exact List.mem_cons_of_mem _ (List.mem_cons_of_mem _ List.mem_cons_self) | exact List.mem_cons_of_mem _ (List.mem_cons_of_mem _ (List.mem_cons_of_mem _ List.mem_cons_self)) | exact List.mem_cons_of_mem _ (List.mem_cons_of_mem _ (List.mem_cons_of_mem _ (List.mem_cons_of_mem _ List.mem_cons_self))) | decide) z1
  have y1 := gE_at (a := 0) (b := 5) h6 (by first | exact List.mem_cons_self | exact List.mem_cons_of_mem _ List.mem_cons_self | exact List.mem_cons_of_mem _ (List.mem_cons_of_mem _ List.mem_cons_self) | exact List.mem_cons_of_mem _ (List.mem_cons_of_mem _ (List.mem_cons_of_mem _ List.mem_cons_self)) | exact List.mem_cons_of_mem _ (List.mem_cons_of_mem _ (List.mem_cons_of_mem _ (List.mem_cons_of_mem _ List.mem_cons_self))) | decide) (h3 1 _ rfl)
  refine ⟨w', _, h1, h2, ?_⟩
  first | omega | (unfold R32; omega)
theorem c_X11_cut {kn : sKn} {w : sW} (h : BI w) (x1 : Int) (hx1 : R32 x1) : cO (fX11_cut kn) [.ref 0, hI x1] w (fun w1 _ => kF w w1 ∧ (kp w w1)) := by
  obtain ⟨w', v, e, o, q⟩ := u_X11_cut (kn := kn) h.1 x1 hx1
  exact co_hO h e o (by decide +kernel) ⟨kF_hO h.1 o (by decide +kernel), (kp_hO h.1 o (by decide +kernel) (by decide +kernel))⟩
theorem c_X12_cut {kn : sKn} {w : sW} (h : BI w) (x1 : Int) (hx1 : R32 x1) : cO (fX12_cut kn) [.ref 213, hI x1] w (fun w1 _ => kF w w1 ∧ (kp w w1)) := by
  obtain ⟨w', v, e, o, q⟩ := s_cut (kn := kn) h.1 x1 hx1
  exact co_hO h e o (by decide +kernel) ⟨kF_hO h.1 o (by decide +kernel), (kp_hO h.1 o (by decide +kernel) (by decide +kernel))⟩
theorem u_X11_cutAt {kn : sKn} {w : sW} (hw : wOk ZZ w) (x1 : Int) (hx1 : (-2147483648) ≤ x1 ∧ x1 ≤ 2147483647) : ∃ (w' : sW) (z : Int), fX11_cutAt kn [.ref 0, hI x1] w = some (some (hI z), w', 0, 0) ∧ hO dX11_cutAt w w' ∧ (z = (-1) ∨ ((0 ≤ z ∧ z ≤ 35) ∧ 0 ≤ x1 ∧ x1 ≤ 2)) := by
  obtain ⟨r, w', h1, h2, q, hq, σ', h3, h4, h5, h6⟩ := con_use (con_X11_cutAt_0 kn) (σ := [0, x1]) (av := [.ref 0, hI x1]) (w := w) rfl rfl ⟨av_c (k := 0) rfl, av_i rfl ⟨by omega, by omega⟩, trivial⟩ (fun q hq => by cases hq) (gE_c ⟨_, rfl, hx1⟩ (gE_n)) hw rfl
  rcases List.mem_cons.mp hq with rfl | hq
  · obtain ⟨z, z1, z2, z3⟩ := gS_i h4
    rw [z2] at h1
    have z4 := h3 0 0 rfl
    rw [z4] at z1
    cases z1
    refine ⟨w', _, h1, h2, ?_⟩
    first | omega | (unfold R32; omega)
  rcases List.mem_singleton.mp hq with rfl
  obtain ⟨z, z1, z2, z3⟩ := gS_i h4
  rw [z2] at h1
  have z5 := gE_at (a := 0) (b := 35) h6 (by first | exact List.mem_cons_self | exact List.mem_cons_of_mem _ List.mem_cons_self | exact List.mem_cons_of_mem _ (List.mem_cons_of_mem _ List.mem_cons_self) | exact List.mem_cons_of_mem _ (List.mem_cons_of_mem _ (List.mem_cons_of_mem _ List.mem_cons_self)) | exact List.mem_cons_of_mem _ (List.mem_cons_of_mem _ (List.mem_cons_of_mem _ (List.mem_cons_of_mem _ List.mem_cons_self))) | decide) z1
  have y1 := gE_at (a := 0) (b := 2) h6 (by first | exact List.mem_cons_self | exact List.mem_cons_of_mem _ List.mem_cons_self | exact List.mem_cons_of_mem _ (List.mem_cons_of_mem _ List.mem_cons_self) | exact List.mem_cons_of_mem _ (List.mem_cons_of_mem _ (List.mem_cons_of_mem _ List.mem_cons_self)) | exact List.mem_cons_of_mem _ (List.mem_cons_of_mem _ (List.mem_cons_of_mem _ (List.mem_cons_of_mem _ List.mem_cons_self))) | decide) (h3 1 _ rfl)
  refine ⟨w', _, h1, h2, ?_⟩
  first | omega | (unfold R32; omega)
theorem c_X11_cutAt {kn : sKn} {w : sW} (h : BI w) (x1 : Int) (hx1 : R32 x1) : cO (fX11_cutAt kn) [.ref 0, hI x1] w (fun w1 _ => kF w w1 ∧ (kp w w1)) := by
  obtain ⟨w', v, e, o, q⟩ := u_X11_cutAt (kn := kn) h.1 x1 hx1
  exact co_hO h e o (by decide +kernel) ⟨kF_hO h.1 o (by decide +kernel), (kp_hO h.1 o (by decide +kernel) (by decide +kernel))⟩
theorem u_X12_cutAt {kn : sKn} {w : sW} (hw : wOk ZZ w) (x1 : Int) (hx1 : (-2147483648) ≤ x1 ∧ x1 ≤ 2147483647) : ∃ (w' : sW) (z : Int), fX12_cutAt kn [.ref 213, hI x1] w = some (some (hI z), w', 0, 0) ∧ hO dX12_cutAt w w' ∧ (z = (-1) ∨ (R32 z ∧ 0 ≤ x1 ∧ x1 ≤ 2)) := by
  obtain ⟨r, w', h1, h2, q, hq, σ', h3, h4, h5, h6⟩ := con_use (con_X12_cutAt_0 kn) (σ := [0, x1]) (av := [.ref 213, hI x1]) (w := w) rfl rfl ⟨av_c (k := 213) rfl, av_i rfl ⟨by omega, by omega⟩, trivial⟩ (fun q hq => by cases hq) (gE_c ⟨_, rfl, hx1⟩ (gE_n)) hw rfl
  rcases List.mem_cons.mp hq with rfl | hq
  · obtain ⟨z, z1, z2, z3⟩ := gS_i h4
    rw [z2] at h1
    have z4 := h3 0 0 rfl
    rw [z4] at z1
    cases z1
    refine ⟨w', _, h1, h2, ?_⟩
    first | omega | (unfold R32; omega)
  rcases List.mem_singleton.mp hq with rfl
  obtain ⟨z, z1, z2, z3⟩ := gS_i h4
  rw [z2] at h1
  have z5 := gE_at (a := (-2147483648)) (b := 2147483647) h6 (by first | exact List.mem_cons_self | exact List.mem_cons_of_mem _ List.mem_cons_self | exact List.mem_cons_of_mem _ (List.mem_cons_of_mem _ List.mem_cons_self) | exact List.mem_cons_of_mem _ (List.mem_cons_of_mem _ (List.mem_cons_of_mem _ List.mem_cons_self)) | exact List.mem_cons_of_mem _ (List.mem_cons_of_mem _ (List.mem_cons_of_mem _ (List.mem_cons_of_mem _ List.mem_cons_self))) | decide) z1
  have y1 := gE_at (a := 0) (b := 2) h6 (by first | exact List.mem_cons_self | exact List.mem_cons_of_mem _ List.mem_cons_self | exact List.mem_cons_of_mem _ (List.mem_cons_of_mem _ List.mem_cons_self) | exact List.mem_cons_of_mem _ (List.mem_cons_of_mem _ (List.mem_cons_of_mem _ List.mem_cons_self)) | exact List.mem_cons_of_mem _ (List.mem_cons_of_mem _ (List.mem_cons_of_mem _ (List.mem_cons_of_mem _ List.mem_cons_self))) | decide) (h3 1 _ rfl)
  refine ⟨w', _, h1, h2, ?_⟩
  first | omega | (unfold R32; omega)
theorem c_X12_cutAt {kn : sKn} {w : sW} (h : BI w) (x1 : Int) (hx1 : R32 x1) : cO (fX12_cutAt kn) [.ref 213, hI x1] w (fun w1 _ => kF w w1 ∧ (kp w w1)) := by
  obtain ⟨w', v, e, o, q⟩ := u_X12_cutAt (kn := kn) h.1 x1 hx1
  exact co_hO h e o (by decide +kernel) ⟨kF_hO h.1 o (by decide +kernel), (kp_hO h.1 o (by decide +kernel) (by decide +kernel))⟩
theorem u_X11_order {kn : sKn} {w : sW} (hw : wOk ZZ w)  : ∃ (w' : sW) (z : Int), fX11_order kn [.ref 0] w = some (some (hI z), w', 0, 0) ∧ hO dX11_order w w' ∧ (z = 0 ∨ z = 1 ∨ (2 ≤ z ∧ z ≤ 6)) := by
  obtain ⟨r, w', h1, h2, q, hq, σ', h3, h4, h5, h6⟩ := con_use (con_X11_order_0 kn) (σ := [0]) (av := [.ref 0]) (w := w) rfl rfl ⟨av_c (k := 0) rfl, trivial⟩ (fun q hq => by cases hq) (gE_n) hw rfl
  rcases List.mem_cons.mp hq with rfl | hq
  · obtain ⟨z, z1, z2, z3⟩ := gS_i h4
    rw [z2] at h1
    have z4 := h3 0 0 rfl
    rw [z4] at z1
    cases z1
    refine ⟨w', _, h1, h2, ?_⟩
    first | omega | (unfold R32; omega)
  rcases List.mem_cons.mp hq with rfl | hq
  · obtain ⟨z, z1, z2, z3⟩ := gS_i h4
    rw [z2] at h1
    have z4 := h3 0 0 rfl
    rw [z4] at z1
    cases z1
    refine ⟨w', _, h1, h2, ?_⟩
    first | omega | (unfold R32; omega)
  rcases List.mem_singleton.mp hq with rfl
  obtain ⟨z, z1, z2, z3⟩ := gS_i h4
  rw [z2] at h1
  have z5 := gE_at (a := 2) (b := 6) h6 (by first | exact List.mem_cons_self | exact List.mem_cons_of_mem _ List.mem_cons_self | exact List.mem_cons_of_mem _ (List.mem_cons_of_mem _ List.mem_cons_self) | exact List.mem_cons_of_mem _ (List.mem_cons_of_mem _ (List.mem_cons_of_mem _ List.mem_cons_self)) | exact List.mem_cons_of_mem _ (List.mem_cons_of_mem _ (List.mem_cons_of_mem _ (List.mem_cons_of_mem _ List.mem_cons_self))) | decide) z1
  refine ⟨w', _, h1, h2, ?_⟩
  first | omega | (unfold R32; omega)
theorem c_X11_order {kn : sKn} {w : sW} (h : BI w)  : cO (fX11_order kn) [.ref 0] w (fun w1 _ => kF w w1 ∧ (kp w w1)) := by
  obtain ⟨w', v, e, o, q⟩ := u_X11_order (kn := kn) h.1 
  exact co_hO h e o (by decide +kernel) ⟨kF_hO h.1 o (by decide +kernel), (kp_hO h.1 o (by decide +kernel) (by decide +kernel))⟩
theorem u_X12_order {kn : sKn} {w : sW} (hw : wOk ZZ w)  : ∃ (w' : sW) (z : Int), fX12_order kn [.ref 213] w = some (some (hI z), w', 0, 0) ∧ hO dX12_order w w' ∧ (R32 z) := by
  obtain ⟨r, w', h1, h2, q, hq, σ', h3, h4, h5, h6⟩ := con_use (con_X12_order_0 kn) (σ := [0]) (av := [.ref 213]) (w := w) rfl rfl ⟨av_c (k := 213) rfl, trivial⟩ (fun q hq => by cases hq) (gE_n) hw rfl
  rcases List.mem_singleton.mp hq with rfl
  obtain ⟨z, z1, z2, z3⟩ := gS_i h4
  rw [z2] at h1
  have z5 := gE_at (a := (-2147483648)) (b := 2147483647) h6 (by first | exact List.mem_cons_self | exact List.mem_cons_of_mem _ List.mem_cons_self | exact List.mem_cons_of_mem _ (List.mem_cons_of_mem _ List.mem_cons_self) | exact List.mem_cons_of_mem _ (List.mem_cons_of_mem _ (List.mem_cons_of_mem _ List.mem_cons_self)) | exact List.mem_cons_of_mem _ (List.mem_cons_of_mem _ (List.mem_cons_of_mem _ (List.mem_cons_of_mem _ List.mem_cons_self))) | decide) z1
  refine ⟨w', _, h1, h2, ?_⟩
  exact z3
theorem c_X12_order {kn : sKn} {w : sW} (h : BI w)  : cO (fX12_order kn) [.ref 213] w (fun w1 _ => kF w w1 ∧ (kp w w1)) := by
  obtain ⟨w', v, e, o, q⟩ := u_X12_order (kn := kn) h.1 
  exact co_hO h e o (by decide +kernel) ⟨kF_hO h.1 o (by decide +kernel), (kp_hO h.1 o (by decide +kernel) (by decide +kernel))⟩
theorem u_X11_orderAt {kn : sKn} {w : sW} (hw : wOk ZZ w) (x1 : Int) (hx1 : (-2147483648) ≤ x1 ∧ x1 ≤ 2147483647) : ∃ (w' : sW) (z : Int), fX11_orderAt kn [.ref 0, hI x1] w = some (some (hI z), w', 0, 0) ∧ hO dX11_orderAt w w' ∧ (z = (-1) ∨ (R32 z ∧ 0 ≤ x1 ∧ x1 ≤ 5)) := by
  obtain ⟨r, w', h1, h2, q, hq, σ', h3, h4, h5, h6⟩ := con_use (con_X11_orderAt_0 kn) (σ := [0, x1]) (av := [.ref 0, hI x1]) (w := w) rfl rfl ⟨av_c (k := 0) rfl, av_i rfl ⟨by omega, by omega⟩, trivial⟩ (fun q hq => by cases hq) (gE_c ⟨_, rfl, hx1⟩ (gE_n)) hw rfl
  rcases List.mem_cons.mp hq with rfl | hq
  · obtain ⟨z, z1, z2, z3⟩ := gS_i h4
    rw [z2] at h1
    have z4 := h3 0 0 rfl
    rw [z4] at z1
    cases z1
    refine ⟨w', _, h1, h2, ?_⟩
    first | omega | (unfold R32; omega)
  rcases List.mem_singleton.mp hq with rfl
  obtain ⟨z, z1, z2, z3⟩ := gS_i h4
  rw [z2] at h1
  have z5 := gE_at (a := (-2147483648)) (b := 2147483647) h6 (by first | exact List.mem_cons_self | exact List.mem_cons_of_mem _ List.mem_cons_self | exact List.mem_cons_of_mem _ (List.mem_cons_of_mem _ List.mem_cons_self) | exact List.mem_cons_of_mem _ (List.mem_cons_of_mem _ (List.mem_cons_of_mem _ List.mem_cons_self)) | exact List.mem_cons_of_mem _ (List.mem_cons_of_mem _ (List.mem_cons_of_mem _ (List.mem_cons_of_mem _ List.mem_cons_self))) | decide) z1
  have y1 := gE_at (a := 0) (b := 5) h6 (by first | exact List.mem_cons_self | exact List.mem_cons_of_mem _ List.mem_cons_self | exact List.mem_cons_of_mem _ (List.mem_cons_of_mem _ List.mem_cons_self) | exact List.mem_cons_of_mem _ (List.mem_cons_of_mem _ (List.mem_cons_of_mem _ List.mem_cons_self)) | exact List.mem_cons_of_mem _ (List.mem_cons_of_mem _ (List.mem_cons_of_mem _ (List.mem_cons_of_mem _ List.mem_cons_self))) | decide) (h3 1 _ rfl)
  refine ⟨w', _, h1, h2, ?_⟩
  first | omega | (unfold R32; omega)
theorem c_X11_orderAt {kn : sKn} {w : sW} (h : BI w) (x1 : Int) (hx1 : R32 x1) : cO (fX11_orderAt kn) [.ref 0, hI x1] w (fun w1 _ => kF w w1 ∧ (kp w w1)) := by
  obtain ⟨w', v, e, o, q⟩ := u_X11_orderAt (kn := kn) h.1 x1 hx1
  exact co_hO h e o (by decide +kernel) ⟨kF_hO h.1 o (by decide +kernel), (kp_hO h.1 o (by decide +kernel) (by decide +kernel))⟩
theorem u_X12_orderAt {kn : sKn} {w : sW} (hw : wOk ZZ w) (x1 : Int) (hx1 : (-2147483648) ≤ x1 ∧ x1 ≤ 2147483647) : ∃ (w' : sW) (z : Int), fX12_orderAt kn [.ref 213, hI x1] w = some (some (hI z), w', 0, 0) ∧ hO dX12_orderAt w w' ∧ (z = (-1) ∨ (R32 z ∧ 0 ≤ x1 ∧ x1 ≤ 5)) := by
  obtain ⟨r, w', h1, h2, q, hq, σ', h3, h4, h5, h6⟩ := con_use (con_X12_orderAt_0 kn) (σ := [0, x1]) (av := [.ref 213, hI x1]) (w := w) rfl rfl ⟨av_c (k := 213) rfl, av_i rfl ⟨by omega, by omega⟩, trivial⟩ (fun q hq => by cases hq) (gE_c ⟨_, rfl, hx1⟩ (gE_n)) hw rfl
  rcases List.mem_cons.mp hq with rfl | hq
  · obtain ⟨z, z1, z2, z3⟩ := gS_i h4
    rw [z2] at h1
    have z4 := h3 0 0 rfl
    rw [z4] at z1
    cases z1
    refine ⟨w', _, h1, h2, ?_⟩
    first | omega | (unfold R32; omega)
  rcases List.mem_singleton.mp hq with rfl
  obtain ⟨z, z1, z2, z3⟩ := gS_i h4
  rw [z2] at h1
  have z5 := gE_at (a := (-2147483648)) (b := 2147483647) h6 (by first | exact List.mem_cons_self | exact List.mem_cons_of_mem _ List.mem_cons_self | exact List.mem_cons_of_mem _ (List.mem_cons_of_mem _ List.mem_cons_self) | exact List.mem_cons_of_mem _ (List.mem_cons_of_mem _ (List.mem_cons_of_mem _ List.mem_cons_self)) | exact List.mem_cons_of_mem _ (List.mem_cons_of_mem _ (List.mem_cons_of_mem _ (List.mem_cons_of_mem _ List.mem_cons_self))) | decide) z1
  have y1 := gE_at (a := 0) (b := 5) h6 (by first | exact List.mem_cons_self | exact List.mem_cons_of_mem _ List.mem_cons_self | exact List.mem_cons_of_mem _ (List.mem_cons_of_mem _ List.mem_cons_self) | exact List.mem_cons_of_mem _ (List.mem_cons_of_mem _ (List.mem_cons_of_mem _ List.mem_cons_self)) | exact List.mem_cons_of_mem _ (List.mem_cons_of_mem _ (List.mem_cons_of_mem _ (List.mem_cons_of_mem _ List.mem_cons_self))) | decide) (h3 1 _ rfl)
  refine ⟨w', _, h1, h2, ?_⟩
  first | omega | (unfold R32; omega)
theorem c_X12_orderAt {kn : sKn} {w : sW} (h : BI w) (x1 : Int) (hx1 : R32 x1) : cO (fX12_orderAt kn) [.ref 213, hI x1] w (fun w1 _ => kF w w1 ∧ (kp w w1)) := by
  obtain ⟨w', v, e, o, q⟩ := u_X12_orderAt (kn := kn) h.1 x1 hx1
  exact co_hO h e o (by decide +kernel) ⟨kF_hO h.1 o (by decide +kernel), (kp_hO h.1 o (by decide +kernel) (by decide +kernel))⟩
theorem u_X11_forgers {kn : sKn} {w : sW} (hw : wOk ZZ w)  : ∃ (w' : sW) (z : Int), fX11_forgers kn [.ref 0] w = some (some (hI z), w', 0, 0) ∧ hO dX11_forgers w w' ∧ ((R32 z ∧ gF w' 1 1 = 0) ∨ (z = (-1) ∧ gF w' 1 1 = 0)) := by
  obtain ⟨r, w', h1, h2, q, hq, σ', h3, h4, h5, h6⟩ := con_use (con_X11_forgers_0 kn) (σ := [0]) (av := [.ref 0]) (w := w) rfl rfl ⟨av_c (k := 0) rfl, trivial⟩ (fun q hq => by cases hq) (gE_n) hw rfl
  rcases List.mem_cons.mp hq with rfl | hq
  · obtain ⟨z, z1, z2, z3⟩ := gS_i h4
    rw [z2] at h1
    have z5 := gE_at (a := (-2147483648)) (b := 2147483647) h6 (by first | exact List.mem_cons_self | exact List.mem_cons_of_mem _ List.mem_cons_self | exact List.mem_cons_of_mem _ (List.mem_cons_of_mem _ List.mem_cons_self) | exact List.mem_cons_of_mem _ (List.mem_cons_of_mem _ (List.mem_cons_of_mem _ List.mem_cons_self)) | exact List.mem_cons_of_mem _ (List.mem_cons_of_mem _ (List.mem_cons_of_mem _ (List.mem_cons_of_mem _ List.mem_cons_self))) | decide) z1
    obtain ⟨m1, n1, p1⟩ := mf_F (c := 1) (kf := 1) (u := 0) (h3 0 0 rfl) (h5 _ (by first | exact List.mem_cons_self | exact List.mem_cons_of_mem _ List.mem_cons_self | exact List.mem_cons_of_mem _ (List.mem_cons_of_mem _ List.mem_cons_self) | exact List.mem_cons_of_mem _ (List.mem_cons_of_mem _ (List.mem_cons_of_mem _ List.mem_cons_self)) | exact List.mem_cons_of_mem _ (List.mem_cons_of_mem _ (List.mem_cons_of_mem _ (List.mem_cons_of_mem _ List.mem_cons_self))) | decide))
    have n1' := h3 0 0 rfl
    rw [n1] at n1'
    cases n1'
    refine ⟨w', _, h1, h2, ?_⟩
    first | omega | (unfold R32; omega)
  rcases List.mem_singleton.mp hq with rfl
  obtain ⟨z, z1, z2, z3⟩ := gS_i h4
  rw [z2] at h1
  have z4 := h3 0 0 rfl
  rw [z4] at z1
  cases z1
  obtain ⟨m1, n1, p1⟩ := mf_F (c := 1) (kf := 1) (u := 0) (h3 0 0 rfl) (h5 _ (by first | exact List.mem_cons_self | exact List.mem_cons_of_mem _ List.mem_cons_self | exact List.mem_cons_of_mem _ (List.mem_cons_of_mem _ List.mem_cons_self) | exact List.mem_cons_of_mem _ (List.mem_cons_of_mem _ (List.mem_cons_of_mem _ List.mem_cons_self)) | exact List.mem_cons_of_mem _ (List.mem_cons_of_mem _ (List.mem_cons_of_mem _ (List.mem_cons_of_mem _ List.mem_cons_self))) | decide))
  have n1' := h3 0 0 rfl
  rw [n1] at n1'
  cases n1'
  refine ⟨w', _, h1, h2, ?_⟩
  first | omega | (unfold R32; omega)
theorem c_X11_forgers {kn : sKn} {w : sW} (h : BI w)  : cO (fX11_forgers kn) [.ref 0] w (fun w1 _ => kF w w1 ∧ (gF w1 1 1 = 0 ∧ gF w1 213 2 = gF w 213 2 ∧ kk w w1)) := by
  obtain ⟨w', v, e, o, q⟩ := u_X11_forgers (kn := kn) h.1 
  exact co_hO h e o (by decide +kernel) ⟨kF_hO h.1 o (by decide +kernel), ⟨by omega, kp_2 h.1 o (by decide +kernel)⟩⟩
theorem u_X12_forgers {kn : sKn} {w : sW} (hw : wOk ZZ w)  : ∃ (w' : sW) (z : Int), fX12_forgers kn [.ref 213] w = some (some (hI z), w', 0, 0) ∧ hO dX12_forgers w w' ∧ ((z = (-1) ∧ gF w' 213 2 = 0) ∨ (z = 0 ∧ gF w' 213 2 = 0) ∨ (R32 z ∧ gF w' 213 2 = 0)) := by
  obtain ⟨r, w', h1, h2, q, hq, σ', h3, h4, h5, h6⟩ := con_use (con_X12_forgers_0 kn) (σ := [0]) (av := [.ref 213]) (w := w) rfl rfl ⟨av_c (k := 213) rfl, trivial⟩ (fun q hq => by cases hq) (gE_n) hw rfl
  rcases List.mem_cons.mp hq with rfl | hq
  · obtain ⟨z, z1, z2, z3⟩ := gS_i h4
    rw [z2] at h1
    have z4 := h3 0 0 rfl
    rw [z4] at z1
    cases z1
    obtain ⟨m2, n2, p2⟩ := mf_F (c := 213) (kf := 2) (u := 0) (h3 0 0 rfl) (h5 _ (by first | exact List.mem_cons_self | exact List.mem_cons_of_mem _ List.mem_cons_self | exact List.mem_cons_of_mem _ (List.mem_cons_of_mem _ List.mem_cons_self) | exact List.mem_cons_of_mem _ (List.mem_cons_of_mem _ (List.mem_cons_of_mem _ List.mem_cons_self)) | exact List.mem_cons_of_mem _ (List.mem_cons_of_mem _ (List.mem_cons_of_mem _ (List.mem_cons_of_mem _ List.mem_cons_self))) | decide))
    have n2' := h3 0 0 rfl
    rw [n2] at n2'
    cases n2'
    refine ⟨w', _, h1, h2, ?_⟩
    first | omega | (unfold R32; omega)
  rcases List.mem_cons.mp hq with rfl | hq
  · obtain ⟨z, z1, z2, z3⟩ := gS_i h4
    rw [z2] at h1
    have z4 := h3 0 0 rfl
    rw [z4] at z1
    cases z1
    obtain ⟨m2, n2, p2⟩ := mf_F (c := 213) (kf := 2) (u := 0) (h3 0 0 rfl) (h5 _ (by first | exact List.mem_cons_self | exact List.mem_cons_of_mem _ List.mem_cons_self | exact List.mem_cons_of_mem _ (List.mem_cons_of_mem _ List.mem_cons_self) | exact List.mem_cons_of_mem _ (List.mem_cons_of_mem _ (List.mem_cons_of_mem _ List.mem_cons_self)) | exact List.mem_cons_of_mem _ (List.mem_cons_of_mem _ (List.mem_cons_of_mem _ (List.mem_cons_of_mem _ List.mem_cons_self))) | decide))
    have n2' := h3 0 0 rfl
    rw [n2] at n2'
    cases n2'
    refine ⟨w', _, h1, h2, ?_⟩
    first | omega | (unfold R32; omega)
  rcases List.mem_singleton.mp hq with rfl
  obtain ⟨z, z1, z2, z3⟩ := gS_i h4
  rw [z2] at h1
  have z5 := gE_at (a := (-2147483648)) (b := 2147483647) h6 (by first | exact List.mem_cons_self | exact List.mem_cons_of_mem _ List.mem_cons_self | exact List.mem_cons_of_mem _ (List.mem_cons_of_mem _ List.mem_cons_self) | exact List.mem_cons_of_mem _ (List.mem_cons_of_mem _ (List.mem_cons_of_mem _ List.mem_cons_self)) | exact List.mem_cons_of_mem _ (List.mem_cons_of_mem _ (List.mem_cons_of_mem _ (List.mem_cons_of_mem _ List.mem_cons_self))) | decide) z1
  obtain ⟨m2, n2, p2⟩ := mf_F (c := 213) (kf := 2) (u := 0) (h3 0 0 rfl) (h5 _ (by first | exact List.mem_cons_self | exact List.mem_cons_of_mem _ List.mem_cons_self | exact List.mem_cons_of_mem _ (List.mem_cons_of_mem _ List.mem_cons_self) | exact List.mem_cons_of_mem _ (List.mem_cons_of_mem _ (List.mem_cons_of_mem _ List.mem_cons_self)) | exact List.mem_cons_of_mem _ (List.mem_cons_of_mem _ (List.mem_cons_of_mem _ (List.mem_cons_of_mem _ List.mem_cons_self))) | decide))
  have n2' := h3 0 0 rfl
  rw [n2] at n2'
  cases n2'
  refine ⟨w', _, h1, h2, ?_⟩
  first | omega | (unfold R32; omega)
theorem c_X12_forgers {kn : sKn} {w : sW} (h : BI w)  : cO (fX12_forgers kn) [.ref 213] w (fun w1 _ => kF w w1 ∧ ((gF w1 1 1 = gF w 1 1 ∧ kk w w1) ∧ gF w1 213 2 = 0)) := by
  obtain ⟨w', v, e, o, q⟩ := u_X12_forgers (kn := kn) h.1 
  exact co_hO h e o (by decide +kernel) ⟨kF_hO h.1 o (by decide +kernel), ⟨kp_1 h.1 o (by decide +kernel), by omega⟩⟩
theorem u_X11_surely {kn : sKn} {w : sW} (hw : wOk ZZ w)  : ∃ (w' : sW) (z : Int), fX11_surely kn [.ref 0] w = some (some (hI z), w', 0, 0) ∧ hO dX11_surely w w' ∧ (R32 z) := by
  obtain ⟨r, w', h1, h2, q, hq, σ', h3, h4, h5, h6⟩ := con_use (con_X11_surely_0 kn) (σ := [0]) (av := [.ref 0]) (w := w) rfl rfl ⟨av_c (k := 0) rfl, trivial⟩ (fun q hq => by cases hq) (gE_n) hw rfl
  rcases List.mem_singleton.mp hq with rfl
  obtain ⟨z, z1, z2, z3⟩ := gS_i h4
  rw [z2] at h1
  have z5 := gE_at (a := (-2147483648)) (b := 2147483647) h6 (by first | exact List.mem_cons_self | exact List.mem_cons_of_mem _ List.mem_cons_self | exact List.mem_cons_of_mem _ (List.mem_cons_of_mem _ List.mem_cons_self) | exact List.mem_cons_of_mem _ (List.mem_cons_of_mem _ (List.mem_cons_of_mem _ List.mem_cons_self)) | exact List.mem_cons_of_mem _ (List.mem_cons_of_mem _ (List.mem_cons_of_mem _ (List.mem_cons_of_mem _ List.mem_cons_self))) | decide) z1
  refine ⟨w', _, h1, h2, ?_⟩
  exact z3
theorem c_X11_surely {kn : sKn} {w : sW} (h : BI w)  : cO (fX11_surely kn) [.ref 0] w (fun w1 _ => kF w w1 ∧ (kp w w1)) := by
  obtain ⟨w', v, e, o, q⟩ := u_X11_surely (kn := kn) h.1 
  exact co_hO h e o (by decide +kernel) ⟨kF_hO h.1 o (by decide +kernel), (kp_hO h.1 o (by decide +kernel) (by decide +kernel))⟩
theorem u_X12_surely {kn : sKn} {w : sW} (hw : wOk ZZ w)  : ∃ (w' : sW) (z : Int), fX12_surely kn [.ref 213] w = some (some (hI z), w', 0, 0) ∧ hO dX12_surely w w' ∧ (R32 z) := by
  obtain ⟨r, w', h1, h2, q, hq, σ', h3, h4, h5, h6⟩ := con_use (con_X12_surely_0 kn) (σ := [0]) (av := [.ref 213]) (w := w) rfl rfl ⟨av_c (k := 213) rfl, trivial⟩ (fun q hq => by cases hq) (gE_n) hw rfl
  rcases List.mem_singleton.mp hq with rfl
  obtain ⟨z, z1, z2, z3⟩ := gS_i h4
  rw [z2] at h1
  have z5 := gE_at (a := (-2147483648)) (b := 2147483647) h6 (by first | exact List.mem_cons_self | exact List.mem_cons_of_mem _ List.mem_cons_self | exact List.mem_cons_of_mem _ (List.mem_cons_of_mem _ List.mem_cons_self) | exact List.mem_cons_of_mem _ (List.mem_cons_of_mem _ (List.mem_cons_of_mem _ List.mem_cons_self)) | exact List.mem_cons_of_mem _ (List.mem_cons_of_mem _ (List.mem_cons_of_mem _ (List.mem_cons_of_mem _ List.mem_cons_self))) | decide) z1
  refine ⟨w', _, h1, h2, ?_⟩
  exact z3
theorem c_X12_surely {kn : sKn} {w : sW} (h : BI w)  : cO (fX12_surely kn) [.ref 213] w (fun w1 _ => kF w w1 ∧ (kp w w1)) := by
  obtain ⟨w', v, e, o, q⟩ := u_X12_surely (kn := kn) h.1 
  exact co_hO h e o (by decide +kernel) ⟨kF_hO h.1 o (by decide +kernel), (kp_hO h.1 o (by decide +kernel) (by decide +kernel))⟩
theorem u_X11_tells {kn : sKn} {w : sW} (hw : wOk ZZ w)  : ∃ (w' : sW) (z : Int), fX11_tells kn [.ref 0] w = some (some (hI z), w', 0, 0) ∧ hO dX11_tells w w' ∧ (R32 z) := by
  obtain ⟨r, w', h1, h2, q, hq, σ', h3, h4, h5, h6⟩ := con_use (con_X11_tells_0 kn) (σ := [0]) (av := [.ref 0]) (w := w) rfl rfl ⟨av_c (k := 0) rfl, trivial⟩ (fun q hq => by cases hq) (gE_n) hw rfl
  rcases List.mem_singleton.mp hq with rfl
  obtain ⟨z, z1, z2, z3⟩ := gS_i h4
  rw [z2] at h1
  have z5 := gE_at (a := (-2147483648)) (b := 2147483647) h6 (by first | exact List.mem_cons_self | exact List.mem_cons_of_mem _ List.mem_cons_self | exact List.mem_cons_of_mem _ (List.mem_cons_of_mem _ List.mem_cons_self) | exact List.mem_cons_of_mem _ (List.mem_cons_of_mem _ (List.mem_cons_of_mem _ List.mem_cons_self)) | exact List.mem_cons_of_mem _ (List.mem_cons_of_mem _ (List.mem_cons_of_mem _ (List.mem_cons_of_mem _ List.mem_cons_self))) | decide) z1
  refine ⟨w', _, h1, h2, ?_⟩
  exact z3
theorem c_X11_tells {kn : sKn} {w : sW} (h : BI w)  : cO (fX11_tells kn) [.ref 0] w (fun w1 _ => kF w w1 ∧ (kp w w1)) := by
  obtain ⟨w', v, e, o, q⟩ := u_X11_tells (kn := kn) h.1 
  exact co_hO h e o (by decide +kernel) ⟨kF_hO h.1 o (by decide +kernel), (kp_hO h.1 o (by decide +kernel) (by decide +kernel))⟩
theorem u_X12_tells {kn : sKn} {w : sW} (hw : wOk ZZ w)  : ∃ (w' : sW) (z : Int), fX12_tells kn [.ref 213] w = some (some (hI z), w', 0, 0) ∧ hO dX12_tells w w' ∧ (R32 z) := by
  obtain ⟨r, w', h1, h2, q, hq, σ', h3, h4, h5, h6⟩ := con_use (con_X12_tells_0 kn) (σ := [0]) (av := [.ref 213]) (w := w) rfl rfl ⟨av_c (k := 213) rfl, trivial⟩ (fun q hq => by cases hq) (gE_n) hw rfl
  rcases List.mem_singleton.mp hq with rfl
  obtain ⟨z, z1, z2, z3⟩ := gS_i h4
  rw [z2] at h1
  have z5 := gE_at (a := (-2147483648)) (b := 2147483647) h6 (by first | exact List.mem_cons_self | exact List.mem_cons_of_mem _ List.mem_cons_self | exact List.mem_cons_of_mem _ (List.mem_cons_of_mem _ List.mem_cons_self) | exact List.mem_cons_of_mem _ (List.mem_cons_of_mem _ (List.mem_cons_of_mem _ List.mem_cons_self)) | exact List.mem_cons_of_mem _ (List.mem_cons_of_mem _ (List.mem_cons_of_mem _ (List.mem_cons_of_mem _ List.mem_cons_self))) | decide) z1
  refine ⟨w', _, h1, h2, ?_⟩
  exact z3
theorem c_X12_tells {kn : sKn} {w : sW} (h : BI w)  : cO (fX12_tells kn) [.ref 213] w (fun w1 _ => kF w w1 ∧ (kp w w1)) := by
  obtain ⟨w', v, e, o, q⟩ := u_X12_tells (kn := kn) h.1 
  exact co_hO h e o (by decide +kernel) ⟨kF_hO h.1 o (by decide +kernel), (kp_hO h.1 o (by decide +kernel) (by decide +kernel))⟩
theorem u_X11_law {kn : sKn} {w : sW} (hw : wOk ZZ w) (x1 : Int) (hx1 : (-2147483648) ≤ x1 ∧ x1 ≤ 2147483647) (x2 : Int) (hx2 : (-2147483648) ≤ x2 ∧ x2 ≤ 2147483647) : ∃ (w' : sW) (z : Int), fX11_law kn [.ref 0, hI x1, hI x2] w = some (some (hI z), w', 0, 0) ∧ hO dX11_law w w' ∧ (z = (-1) ∨ ((0 ≤ z ∧ z ≤ 30) ∧ 0 ≤ x1 ∧ x1 ≤ 5 ∧ 1 ≤ x2 ∧ x2 ≤ 60)) := by
  obtain ⟨r, w', h1, h2, q, hq, σ', h3, h4, h5, h6⟩ := con_use (con_X11_law_0 kn) (σ := [0, x1, x2]) (av := [.ref 0, hI x1, hI x2]) (w := w) rfl rfl ⟨av_c (k := 0) rfl, av_i rfl ⟨by omega, by omega⟩, av_i rfl ⟨by omega, by omega⟩, trivial⟩ (fun q hq => by cases hq) (gE_c ⟨_, rfl, hx2⟩ (gE_c ⟨_, rfl, hx1⟩ (gE_n))) hw rfl
  rcases List.mem_cons.mp hq with rfl | hq
  · obtain ⟨z, z1, z2, z3⟩ := gS_i h4
    rw [z2] at h1
    have z4 := h3 0 0 rfl
    rw [z4] at z1
    cases z1
    refine ⟨w', _, h1, h2, ?_⟩
    first | omega | (unfold R32; omega)
  rcases List.mem_singleton.mp hq with rfl
  obtain ⟨z, z1, z2, z3⟩ := gS_i h4
  rw [z2] at h1
  have z5 := gE_at (a := 0) (b := 30) h6 (by first | exact List.mem_cons_self | exact List.mem_cons_of_mem _ List.mem_cons_self | exact List.mem_cons_of_mem _ (List.mem_cons_of_mem _ List.mem_cons_self) | exact List.mem_cons_of_mem _ (List.mem_cons_of_mem _ (List.mem_cons_of_mem _ List.mem_cons_self)) | exact List.mem_cons_of_mem _ (List.mem_cons_of_mem _ (List.mem_cons_of_mem _ (List.mem_cons_of_mem _ List.mem_cons_self))) | decide) z1
  have y1 := gE_at (a := 0) (b := 5) h6 (by first | exact List.mem_cons_self | exact List.mem_cons_of_mem _ List.mem_cons_self | exact List.mem_cons_of_mem _ (List.mem_cons_of_mem _ List.mem_cons_self) | exact List.mem_cons_of_mem _ (List.mem_cons_of_mem _ (List.mem_cons_of_mem _ List.mem_cons_self)) | exact List.mem_cons_of_mem _ (List.mem_cons_of_mem _ (List.mem_cons_of_mem _ (List.mem_cons_of_mem _ List.mem_cons_self))) | decide) (h3 1 _ rfl)
  have y2 := gE_at (a := 1) (b := 60) h6 (by first | exact List.mem_cons_self | exact List.mem_cons_of_mem _ List.mem_cons_self | exact List.mem_cons_of_mem _ (List.mem_cons_of_mem _ List.mem_cons_self) | exact List.mem_cons_of_mem _ (List.mem_cons_of_mem _ (List.mem_cons_of_mem _ List.mem_cons_self)) | exact List.mem_cons_of_mem _ (List.mem_cons_of_mem _ (List.mem_cons_of_mem _ (List.mem_cons_of_mem _ List.mem_cons_self))) | decide) (h3 2 _ rfl)
  refine ⟨w', _, h1, h2, ?_⟩
  first | omega | (unfold R32; omega)
theorem c_X11_law {kn : sKn} {w : sW} (h : BI w) (x1 : Int) (hx1 : R32 x1) (x2 : Int) (hx2 : R32 x2) : cO (fX11_law kn) [.ref 0, hI x1, hI x2] w (fun w1 _ => kF w w1 ∧ (kp w w1)) := by
  obtain ⟨w', v, e, o, q⟩ := u_X11_law (kn := kn) h.1 x1 hx1 x2 hx2
  exact co_hO h e o (by decide +kernel) ⟨kF_hO h.1 o (by decide +kernel), (kp_hO h.1 o (by decide +kernel) (by decide +kernel))⟩
theorem u_X12_law {kn : sKn} {w : sW} (hw : wOk ZZ w) (x1 : Int) (hx1 : (-2147483648) ≤ x1 ∧ x1 ≤ 2147483647) (x2 : Int) (hx2 : (-2147483648) ≤ x2 ∧ x2 ≤ 2147483647) : ∃ (w' : sW) (z : Int), fX12_law kn [.ref 213, hI x1, hI x2] w = some (some (hI z), w', 0, 0) ∧ hO dX12_law w w' ∧ (z = (-1) ∨ (((-1) ≤ z ∧ z ≤ 30) ∧ 0 ≤ x1 ∧ x1 ≤ 5 ∧ 1 ≤ x2 ∧ x2 ≤ 60)) := by
  obtain ⟨r, w', h1, h2, q, hq, σ', h3, h4, h5, h6⟩ := con_use (con_X12_law_0 kn) (σ := [0, x1, x2]) (av := [.ref 213, hI x1, hI x2]) (w := w) rfl rfl ⟨av_c (k := 213) rfl, av_i rfl ⟨by omega, by omega⟩, av_i rfl ⟨by omega, by omega⟩, trivial⟩ (fun q hq => by cases hq) (gE_c ⟨_, rfl, hx2⟩ (gE_c ⟨_, rfl, hx1⟩ (gE_n))) hw rfl
  rcases List.mem_cons.mp hq with rfl | hq
  · obtain ⟨z, z1, z2, z3⟩ := gS_i h4
    rw [z2] at h1
    have z4 := h3 0 0 rfl
    rw [z4] at z1
    cases z1
    refine ⟨w', _, h1, h2, ?_⟩
    first | omega | (unfold R32; omega)
  rcases List.mem_singleton.mp hq with rfl
  obtain ⟨z, z1, z2, z3⟩ := gS_i h4
  rw [z2] at h1
  have z5 := gE_at (a := (-1)) (b := 30) h6 (by first | exact List.mem_cons_self | exact List.mem_cons_of_mem _ List.mem_cons_self | exact List.mem_cons_of_mem _ (List.mem_cons_of_mem _ List.mem_cons_self) | exact List.mem_cons_of_mem _ (List.mem_cons_of_mem _ (List.mem_cons_of_mem _ List.mem_cons_self)) | exact List.mem_cons_of_mem _ (List.mem_cons_of_mem _ (List.mem_cons_of_mem _ (List.mem_cons_of_mem _ List.mem_cons_self))) | decide) z1
  have y1 := gE_at (a := 0) (b := 5) h6 (by first | exact List.mem_cons_self | exact List.mem_cons_of_mem _ List.mem_cons_self | exact List.mem_cons_of_mem _ (List.mem_cons_of_mem _ List.mem_cons_self) | exact List.mem_cons_of_mem _ (List.mem_cons_of_mem _ (List.mem_cons_of_mem _ List.mem_cons_self)) | exact List.mem_cons_of_mem _ (List.mem_cons_of_mem _ (List.mem_cons_of_mem _ (List.mem_cons_of_mem _ List.mem_cons_self))) | decide) (h3 1 _ rfl)
  have y2 := gE_at (a := 1) (b := 60) h6 (by first | exact List.mem_cons_self | exact List.mem_cons_of_mem _ List.mem_cons_self | exact List.mem_cons_of_mem _ (List.mem_cons_of_mem _ List.mem_cons_self) | exact List.mem_cons_of_mem _ (List.mem_cons_of_mem _ (List.mem_cons_of_mem _ List.mem_cons_self)) | exact List.mem_cons_of_mem _ (List.mem_cons_of_mem _ (List.mem_cons_of_mem _ (List.mem_cons_of_mem _ List.mem_cons_self))) | decide) (h3 2 _ rfl)
  refine ⟨w', _, h1, h2, ?_⟩
  first | omega | (unfold R32; omega)
theorem c_X12_law {kn : sKn} {w : sW} (h : BI w) (x1 : Int) (hx1 : R32 x1) (x2 : Int) (hx2 : R32 x2) : cO (fX12_law kn) [.ref 213, hI x1, hI x2] w (fun w1 _ => kF w w1 ∧ (kp w w1)) := by
  obtain ⟨w', v, e, o, q⟩ := u_X12_law (kn := kn) h.1 x1 hx1 x2 hx2
  obtain ⟨w2, v2, e2, q2⟩ := x_lawR (kn := kn) h.1 x1 x2 hx1 hx2
  have ew : w' = w2 := (one_w e e2).1
  subst ew
  exact co_hO h e o (by decide +kernel) ⟨kF_hO h.1 o (by decide +kernel), ⟨l1_hO h.1 o (by decide +kernel), l2_hO h.1 o (by decide +kernel), kT_hO h.1 o (by decide +kernel), kC_hO h.1 o (by decide +kernel), kR_hX o q2 (by decide +kernel)⟩⟩
theorem u_X11_lasts {kn : sKn} {w : sW} (hw : wOk ZZ w) (x1 : Int) (hx1 : (-2147483648) ≤ x1 ∧ x1 ≤ 2147483647) : ∃ (w' : sW) (z : Int), fX11_lasts kn [.ref 0, hI x1] w = some (some (hI z), w', 0, 0) ∧ hO dX11_lasts w w' ∧ (z = (-1) ∨ (R32 z ∧ 0 ≤ x1 ∧ x1 ≤ 5)) := by
  obtain ⟨r, w', h1, h2, q, hq, σ', h3, h4, h5, h6⟩ := con_use (con_X11_lasts_0 kn) (σ := [0, x1]) (av := [.ref 0, hI x1]) (w := w) rfl rfl ⟨av_c (k := 0) rfl, av_i rfl ⟨by omega, by omega⟩, trivial⟩ (fun q hq => by cases hq) (gE_c ⟨_, rfl, hx1⟩ (gE_n)) hw rfl
  rcases List.mem_cons.mp hq with rfl | hq
  · obtain ⟨z, z1, z2, z3⟩ := gS_i h4
    rw [z2] at h1
    have z4 := h3 0 0 rfl
    rw [z4] at z1
    cases z1
    refine ⟨w', _, h1, h2, ?_⟩
    first | omega | (unfold R32; omega)
  rcases List.mem_singleton.mp hq with rfl
  obtain ⟨z, z1, z2, z3⟩ := gS_i h4
  rw [z2] at h1
  have z5 := gE_at (a := (-2147483648)) (b := 2147483647) h6 (by first | exact List.mem_cons_self | exact List.mem_cons_of_mem _ List.mem_cons_self | exact List.mem_cons_of_mem _ (List.mem_cons_of_mem _ List.mem_cons_self) | exact List.mem_cons_of_mem _ (List.mem_cons_of_mem _ (List.mem_cons_of_mem _ List.mem_cons_self)) | exact List.mem_cons_of_mem _ (List.mem_cons_of_mem _ (List.mem_cons_of_mem _ (List.mem_cons_of_mem _ List.mem_cons_self))) | decide) z1
  have y1 := gE_at (a := 0) (b := 5) h6 (by first | exact List.mem_cons_self | exact List.mem_cons_of_mem _ List.mem_cons_self | exact List.mem_cons_of_mem _ (List.mem_cons_of_mem _ List.mem_cons_self) | exact List.mem_cons_of_mem _ (List.mem_cons_of_mem _ (List.mem_cons_of_mem _ List.mem_cons_self)) | exact List.mem_cons_of_mem _ (List.mem_cons_of_mem _ (List.mem_cons_of_mem _ (List.mem_cons_of_mem _ List.mem_cons_self))) | decide) (h3 1 _ rfl)
  refine ⟨w', _, h1, h2, ?_⟩
  first | omega | (unfold R32; omega)
theorem c_X11_lasts {kn : sKn} {w : sW} (h : BI w) (x1 : Int) (hx1 : R32 x1) : cO (fX11_lasts kn) [.ref 0, hI x1] w (fun w1 _ => kF w w1 ∧ (kp w w1)) := by
  obtain ⟨w', v, e, o, q⟩ := u_X11_lasts (kn := kn) h.1 x1 hx1
  exact co_hO h e o (by decide +kernel) ⟨kF_hO h.1 o (by decide +kernel), (kp_hO h.1 o (by decide +kernel) (by decide +kernel))⟩
theorem u_X12_lasts {kn : sKn} {w : sW} (hw : wOk ZZ w) (x1 : Int) (hx1 : (-2147483648) ≤ x1 ∧ x1 ≤ 2147483647) : ∃ (w' : sW) (z : Int), fX12_lasts kn [.ref 213, hI x1] w = some (some (hI z), w', 0, 0) ∧ hO dX12_lasts w w' ∧ (z = (-1) ∨ (R32 z ∧ 0 ≤ x1 ∧ x1 ≤ 5)) := by
  obtain ⟨r, w', h1, h2, q, hq, σ', h3, h4, h5, h6⟩ := con_use (con_X12_lasts_0 kn) (σ := [0, x1]) (av := [.ref 213, hI x1]) (w := w) rfl rfl ⟨av_c (k := 213) rfl, av_i rfl ⟨by omega, by omega⟩, trivial⟩ (fun q hq => by cases hq) (gE_c ⟨_, rfl, hx1⟩ (gE_n)) hw rfl
  rcases List.mem_cons.mp hq with rfl | hq
  · obtain ⟨z, z1, z2, z3⟩ := gS_i h4
    rw [z2] at h1
    have z4 := h3 0 0 rfl
    rw [z4] at z1
    cases z1
    refine ⟨w', _, h1, h2, ?_⟩
    first | omega | (unfold R32; omega)
  rcases List.mem_singleton.mp hq with rfl
  obtain ⟨z, z1, z2, z3⟩ := gS_i h4
  rw [z2] at h1
  have z5 := gE_at (a := (-2147483648)) (b := 2147483647) h6 (by first | exact List.mem_cons_self | exact List.mem_cons_of_mem _ List.mem_cons_self | exact List.mem_cons_of_mem _ (List.mem_cons_of_mem _ List.mem_cons_self) | exact List.mem_cons_of_mem _ (List.mem_cons_of_mem _ (List.mem_cons_of_mem _ List.mem_cons_self)) | exact List.mem_cons_of_mem _ (List.mem_cons_of_mem _ (List.mem_cons_of_mem _ (List.mem_cons_of_mem _ List.mem_cons_self))) | decide) z1
  have y1 := gE_at (a := 0) (b := 5) h6 (by first | exact List.mem_cons_self | exact List.mem_cons_of_mem _ List.mem_cons_self | exact List.mem_cons_of_mem _ (List.mem_cons_of_mem _ List.mem_cons_self) | exact List.mem_cons_of_mem _ (List.mem_cons_of_mem _ (List.mem_cons_of_mem _ List.mem_cons_self)) | exact List.mem_cons_of_mem _ (List.mem_cons_of_mem _ (List.mem_cons_of_mem _ (List.mem_cons_of_mem _ List.mem_cons_self))) | decide) (h3 1 _ rfl)
  refine ⟨w', _, h1, h2, ?_⟩
  first | omega | (unfold R32; omega)
theorem c_X12_lasts {kn : sKn} {w : sW} (h : BI w) (x1 : Int) (hx1 : R32 x1) : cO (fX12_lasts kn) [.ref 213, hI x1] w (fun w1 _ => kF w w1 ∧ (kp w w1)) := by
  obtain ⟨w', v, e, o, q⟩ := u_X12_lasts (kn := kn) h.1 x1 hx1
  exact co_hO h e o (by decide +kernel) ⟨kF_hO h.1 o (by decide +kernel), (kp_hO h.1 o (by decide +kernel) (by decide +kernel))⟩
theorem u_X11_toll {kn : sKn} {w : sW} (hw : wOk ZZ w) (x1 : Int) (hx1 : (-2147483648) ≤ x1 ∧ x1 ≤ 2147483647) (x2 : Int) (hx2 : (-2147483648) ≤ x2 ∧ x2 ≤ 2147483647) : ∃ (w' : sW) (z : Int), fX11_toll kn [.ref 0, hI x1, hI x2] w = some (some (hI z), w', 0, 0) ∧ hO dX11_toll w w' ∧ (z = (-1) ∨ (R32 z ∧ 0 ≤ x1 ∧ x1 ≤ 9 ∧ 0 ≤ x2 ∧ x2 ≤ 5)) := by
  obtain ⟨r, w', h1, h2, q, hq, σ', h3, h4, h5, h6⟩ := con_use (con_X11_toll_0 kn) (σ := [0, x1, x2]) (av := [.ref 0, hI x1, hI x2]) (w := w) rfl rfl ⟨av_c (k := 0) rfl, av_i rfl ⟨by omega, by omega⟩, av_i rfl ⟨by omega, by omega⟩, trivial⟩ (fun q hq => by cases hq) (gE_c ⟨_, rfl, hx2⟩ (gE_c ⟨_, rfl, hx1⟩ (gE_n))) hw rfl
  rcases List.mem_cons.mp hq with rfl | hq
  · obtain ⟨z, z1, z2, z3⟩ := gS_i h4
    rw [z2] at h1
    have z4 := h3 0 0 rfl
    rw [z4] at z1
    cases z1
    refine ⟨w', _, h1, h2, ?_⟩
    first | omega | (unfold R32; omega)
  rcases List.mem_singleton.mp hq with rfl
  obtain ⟨z, z1, z2, z3⟩ := gS_i h4
  rw [z2] at h1
  have z5 := gE_at (a := (-2147483648)) (b := 2147483647) h6 (by first | exact List.mem_cons_self | exact List.mem_cons_of_mem _ List.mem_cons_self | exact List.mem_cons_of_mem _ (List.mem_cons_of_mem _ List.mem_cons_self) | exact List.mem_cons_of_mem _ (List.mem_cons_of_mem _ (List.mem_cons_of_mem _ List.mem_cons_self)) | exact List.mem_cons_of_mem _ (List.mem_cons_of_mem _ (List.mem_cons_of_mem _ (List.mem_cons_of_mem _ List.mem_cons_self))) | decide) z1
  have y1 := gE_at (a := 0) (b := 9) h6 (by first | exact List.mem_cons_self | exact List.mem_cons_of_mem _ List.mem_cons_self | exact List.mem_cons_of_mem _ (List.mem_cons_of_mem _ List.mem_cons_self) | exact List.mem_cons_of_mem _ (List.mem_cons_of_mem _ (List.mem_cons_of_mem _ List.mem_cons_self)) | exact List.mem_cons_of_mem _ (List.mem_cons_of_mem _ (List.mem_cons_of_mem _ (List.mem_cons_of_mem _ List.mem_cons_self))) | decide) (h3 1 _ rfl)
  have y2 := gE_at (a := 0) (b := 5) h6 (by first | exact List.mem_cons_self | exact List.mem_cons_of_mem _ List.mem_cons_self | exact List.mem_cons_of_mem _ (List.mem_cons_of_mem _ List.mem_cons_self) | exact List.mem_cons_of_mem _ (List.mem_cons_of_mem _ (List.mem_cons_of_mem _ List.mem_cons_self)) | exact List.mem_cons_of_mem _ (List.mem_cons_of_mem _ (List.mem_cons_of_mem _ (List.mem_cons_of_mem _ List.mem_cons_self))) | decide) (h3 2 _ rfl)
  refine ⟨w', _, h1, h2, ?_⟩
  first | omega | (unfold R32; omega)
theorem c_X11_toll {kn : sKn} {w : sW} (h : BI w) (x1 : Int) (hx1 : R32 x1) (x2 : Int) (hx2 : R32 x2) : cO (fX11_toll kn) [.ref 0, hI x1, hI x2] w (fun w1 _ => kF w w1 ∧ (kp w w1)) := by
  obtain ⟨w', v, e, o, q⟩ := u_X11_toll (kn := kn) h.1 x1 hx1 x2 hx2
  exact co_hO h e o (by decide +kernel) ⟨kF_hO h.1 o (by decide +kernel), (kp_hO h.1 o (by decide +kernel) (by decide +kernel))⟩
theorem c_X12_toll {kn : sKn} {w : sW} (h : BI w) (x1 : Int) (hx1 : R32 x1) (x2 : Int) (hx2 : R32 x2) : cO (fX12_toll kn) [.ref 213, hI x1, hI x2] w (fun w1 _ => kF w w1 ∧ (kp w w1)) := by
  obtain ⟨w', v, e, o, q⟩ := s_toll (kn := kn) h.1 x1 x2 hx1 hx2
  exact co_hO h e o (by decide +kernel) ⟨kF_hO h.1 o (by decide +kernel), (kp_hO h.1 o (by decide +kernel) (by decide +kernel))⟩
theorem c_X11_plate {kn : sKn} {w : sW} (h : BI w) (x1 : Int) (hx1 : R32 x1) : cO (fX11_plateB kn) [.ref 0, hI x1] w (fun w1 _ => kF w w1 ∧ (kp w w1)) := by
  obtain ⟨c, hc, hJ⟩ := h.2.2.1
  obtain ⟨r, e, hr⟩ := s_plate7 (kn := kn) h.1 hJ x1 hx1
  obtain ⟨y, rfl⟩ | ⟨w', y, n, k, rfl, hb, hR⟩ := hr
  · exact ⟨w, y, 0, e, h, rfl, kF_rf w, kp_rf w⟩
  · have hk : w'.length = w.length + n ∧ k = 34 * n := by have := hR.2.1; omega
    obtain ⟨hk1, rfl⟩ := hk
    exact ⟨w', y, n, e, bi_bdR h hb hR, hk1, kF_bdR hR, kp_bdR hR⟩
theorem c_X12_plate {kn : sKn} {w : sW} (h : BI w) (x1 : Int) (hx1 : R32 x1) : cO (fX12_plate kn) [.ref 213, hI x1] w (fun w1 _ => kF w w1 ∧ (kp w w1)) := by
  obtain ⟨w', v, e, o, q⟩ := s_plate (kn := kn) h.1 x1 hx1
  exact co_hO h e o (by decide +kernel) ⟨kF_hO h.1 o (by decide +kernel), (kp_hO h.1 o (by decide +kernel) (by decide +kernel))⟩
theorem c_X11_byteAt {kn : sKn} {w : sW} (h : BI w) (x1 : Int) (hx1 : R32 x1) : cO (fX11_byteAt kn) [.ref 0, hI x1] w (fun w1 _ => kF w w1 ∧ (kp w w1)) := by
  obtain ⟨c, hc, hJ⟩ := h.2.2.1
  obtain ⟨y, e⟩ := s_byteAt7 (kn := kn) h.1 hJ hc x1 hx1
  exact ⟨w, y, 0, e, h, rfl, kF_rf w, kp_rf w⟩
theorem u_X12_byteAt {kn : sKn} {w : sW} (hw : wOk ZZ w) (x1 : Int) (hx1 : (-2147483648) ≤ x1 ∧ x1 ≤ 2147483647) : ∃ (w' : sW) (z : Int), fX12_byteAt kn [.ref 213, hI x1] w = some (some (hI z), w', 0, 0) ∧ hO dX12_byteAt w w' ∧ (z = (-1) ∨ (R32 z ∧ 0 ≤ x1 ∧ x1 ≤ 63)) := by
  obtain ⟨r, w', h1, h2, q, hq, σ', h3, h4, h5, h6⟩ := con_use (con_X12_byteAt_0 kn) (σ := [0, x1]) (av := [.ref 213, hI x1]) (w := w) rfl rfl ⟨av_c (k := 213) rfl, av_i rfl ⟨by omega, by omega⟩, trivial⟩ (fun q hq => by cases hq) (gE_c ⟨_, rfl, hx1⟩ (gE_n)) hw rfl
  rcases List.mem_cons.mp hq with rfl | hq
  · obtain ⟨z, z1, z2, z3⟩ := gS_i h4
    rw [z2] at h1
    have z4 := h3 0 0 rfl
    rw [z4] at z1
    cases z1
    refine ⟨w', _, h1, h2, ?_⟩
    first | omega | (unfold R32; omega)
  rcases List.mem_singleton.mp hq with rfl
  obtain ⟨z, z1, z2, z3⟩ := gS_i h4
  rw [z2] at h1
  have z5 := gE_at (a := (-2147483648)) (b := 2147483647) h6 (by first | exact List.mem_cons_self | exact List.mem_cons_of_mem _ List.mem_cons_self | exact List.mem_cons_of_mem _ (List.mem_cons_of_mem _ List.mem_cons_self) | exact List.mem_cons_of_mem _ (List.mem_cons_of_mem _ (List.mem_cons_of_mem _ List.mem_cons_self)) | exact List.mem_cons_of_mem _ (List.mem_cons_of_mem _ (List.mem_cons_of_mem _ (List.mem_cons_of_mem _ List.mem_cons_self))) | decide) z1
  have y1 := gE_at (a := 0) (b := 63) h6 (by first | exact List.mem_cons_self | exact List.mem_cons_of_mem _ List.mem_cons_self | exact List.mem_cons_of_mem _ (List.mem_cons_of_mem _ List.mem_cons_self) | exact List.mem_cons_of_mem _ (List.mem_cons_of_mem _ (List.mem_cons_of_mem _ List.mem_cons_self)) | exact List.mem_cons_of_mem _ (List.mem_cons_of_mem _ (List.mem_cons_of_mem _ (List.mem_cons_of_mem _ List.mem_cons_self))) | decide) (h3 1 _ rfl)
  refine ⟨w', _, h1, h2, ?_⟩
  first | omega | (unfold R32; omega)
theorem c_X12_byteAt {kn : sKn} {w : sW} (h : BI w) (x1 : Int) (hx1 : R32 x1) : cO (fX12_byteAt kn) [.ref 213, hI x1] w (fun w1 _ => kF w w1 ∧ (kp w w1)) := by
  obtain ⟨w', v, e, o, q⟩ := u_X12_byteAt (kn := kn) h.1 x1 hx1
  exact co_hO h e o (by decide +kernel) ⟨kF_hO h.1 o (by decide +kernel), (kp_hO h.1 o (by decide +kernel) (by decide +kernel))⟩
theorem u_X11_drawn {kn : sKn} {w : sW} (hw : wOk ZZ w) (x1 : Int) (hx1 : (-2147483648) ≤ x1 ∧ x1 ≤ 2147483647) (x2 : Int) (hx2 : (-2147483648) ≤ x2 ∧ x2 ≤ 2147483647) : ∃ (w' : sW) (z : Int), fX11_drawn kn [.ref 0, hI x1, hI x2] w = some (some (hI z), w', 0, 0) ∧ hO dX11_drawn w w' ∧ (z = (-1) ∨ ((1 ≤ z ∧ z ≤ 2147483647) ∧ 1 ≤ x1 ∧ x1 ≤ 60) ∨ (z = 0 ∧ 1 ≤ x1 ∧ x1 ≤ 60)) := by
  obtain ⟨r, w', h1, h2, q, hq, σ', h3, h4, h5, h6⟩ := con_use (con_X11_drawn_0 kn) (σ := [0, x1, x2]) (av := [.ref 0, hI x1, hI x2]) (w := w) rfl rfl ⟨av_c (k := 0) rfl, av_i rfl ⟨by omega, by omega⟩, av_i rfl ⟨by omega, by omega⟩, trivial⟩ (fun q hq => by cases hq) (gE_c ⟨_, rfl, hx2⟩ (gE_c ⟨_, rfl, hx1⟩ (gE_n))) hw rfl
  rcases List.mem_cons.mp hq with rfl | hq
  · obtain ⟨z, z1, z2, z3⟩ := gS_i h4
    rw [z2] at h1
    have z4 := h3 0 0 rfl
    rw [z4] at z1
    cases z1
    refine ⟨w', _, h1, h2, ?_⟩
    first | omega | (unfold R32; omega)
  rcases List.mem_cons.mp hq with rfl | hq
  · obtain ⟨z, z1, z2, z3⟩ := gS_i h4
    rw [z2] at h1
    have z5 := gE_at (a := 1) (b := 2147483647) h6 (by first | exact List.mem_cons_self | exact List.mem_cons_of_mem _ List.mem_cons_self | exact List.mem_cons_of_mem _ (List.mem_cons_of_mem _ List.mem_cons_self) | exact List.mem_cons_of_mem _ (List.mem_cons_of_mem _ (List.mem_cons_of_mem _ List.mem_cons_self)) | exact List.mem_cons_of_mem _ (List.mem_cons_of_mem _ (List.mem_cons_of_mem _ (List.mem_cons_of_mem _ List.mem_cons_self))) | decide) z1
    have y1 := gE_at (a := 1) (b := 60) h6 (by first | exact List.mem_cons_self | exact List.mem_cons_of_mem _ List.mem_cons_self | exact List.mem_cons_of_mem _ (List.mem_cons_of_mem _ List.mem_cons_self) | exact List.mem_cons_of_mem _ (List.mem_cons_of_mem _ (List.mem_cons_of_mem _ List.mem_cons_self)) | exact List.mem_cons_of_mem _ (List.mem_cons_of_mem _ (List.mem_cons_of_mem _ (List.mem_cons_of_mem _ List.mem_cons_self))) | decide) (h3 1 _ rfl)
    refine ⟨w', _, h1, h2, ?_⟩
    first | omega | (unfold R32; omega)
  rcases List.mem_singleton.mp hq with rfl
  obtain ⟨z, z1, z2, z3⟩ := gS_i h4
  rw [z2] at h1
  have z4 := h3 0 0 rfl
  rw [z4] at z1
  cases z1
  have y1 := gE_at (a := 1) (b := 60) h6 (by first | exact List.mem_cons_self | exact List.mem_cons_of_mem _ List.mem_cons_self | exact List.mem_cons_of_mem _ (List.mem_cons_of_mem _ List.mem_cons_self) | exact List.mem_cons_of_mem _ (List.mem_cons_of_mem _ (List.mem_cons_of_mem _ List.mem_cons_self)) | exact List.mem_cons_of_mem _ (List.mem_cons_of_mem _ (List.mem_cons_of_mem _ (List.mem_cons_of_mem _ List.mem_cons_self))) | decide) (h3 1 _ rfl)
  refine ⟨w', _, h1, h2, ?_⟩
  first | omega | (unfold R32; omega)
theorem c_X11_drawn {kn : sKn} {w : sW} (h : BI w) (x1 : Int) (hx1 : R32 x1) (x2 : Int) (hx2 : R32 x2) : cO (fX11_drawn kn) [.ref 0, hI x1, hI x2] w (fun w1 _ => kF w w1 ∧ (kp w w1)) := by
  obtain ⟨w', v, e, o, q⟩ := u_X11_drawn (kn := kn) h.1 x1 hx1 x2 hx2
  exact co_hO h e o (by decide +kernel) ⟨kF_hO h.1 o (by decide +kernel), (kp_hO h.1 o (by decide +kernel) (by decide +kernel))⟩
theorem u_X12_drawn {kn : sKn} {w : sW} (hw : wOk ZZ w) (x1 : Int) (hx1 : (-2147483648) ≤ x1 ∧ x1 ≤ 2147483647) (x2 : Int) (hx2 : (-2147483648) ≤ x2 ∧ x2 ≤ 2147483647) : ∃ (w' : sW) (z : Int), fX12_drawn kn [.ref 213, hI x1, hI x2] w = some (some (hI z), w', 0, 0) ∧ hO dX12_drawn w w' ∧ (z = (-1) ∨ (z = 0 ∧ 1 ≤ x1 ∧ x1 ≤ 60) ∨ (R32 z ∧ 1 ≤ x1 ∧ x1 ≤ 60)) := by
  obtain ⟨r, w', h1, h2, q, hq, σ', h3, h4, h5, h6⟩ := con_use (con_X12_drawn_0 kn) (σ := [0, x1, x2]) (av := [.ref 213, hI x1, hI x2]) (w := w) rfl rfl ⟨av_c (k := 213) rfl, av_i rfl ⟨by omega, by omega⟩, av_i rfl ⟨by omega, by omega⟩, trivial⟩ (fun q hq => by cases hq) (gE_c ⟨_, rfl, hx2⟩ (gE_c ⟨_, rfl, hx1⟩ (gE_n))) hw rfl
  rcases List.mem_cons.mp hq with rfl | hq
  · obtain ⟨z, z1, z2, z3⟩ := gS_i h4
    rw [z2] at h1
    have z4 := h3 0 0 rfl
    rw [z4] at z1
    cases z1
    refine ⟨w', _, h1, h2, ?_⟩
    first | omega | (unfold R32; omega)
  rcases List.mem_cons.mp hq with rfl | hq
  · obtain ⟨z, z1, z2, z3⟩ := gS_i h4
    rw [z2] at h1
    have z4 := h3 0 0 rfl
    rw [z4] at z1
    cases z1
    have y1 := gE_at (a := 1) (b := 60) h6 (by first | exact List.mem_cons_self | exact List.mem_cons_of_mem _ List.mem_cons_self | exact List.mem_cons_of_mem _ (List.mem_cons_of_mem _ List.mem_cons_self) | exact List.mem_cons_of_mem _ (List.mem_cons_of_mem _ (List.mem_cons_of_mem _ List.mem_cons_self)) | exact List.mem_cons_of_mem _ (List.mem_cons_of_mem _ (List.mem_cons_of_mem _ (List.mem_cons_of_mem _ List.mem_cons_self))) | decide) (h3 1 _ rfl)
    refine ⟨w', _, h1, h2, ?_⟩
    first | omega | (unfold R32; omega)
  rcases List.mem_singleton.mp hq with rfl
  obtain ⟨z, z1, z2, z3⟩ := gS_i h4
  rw [z2] at h1
  have z5 := gE_at (a := (-2147483648)) (b := 2147483647) h6 (by first | exact List.mem_cons_self | exact List.mem_cons_of_mem _ List.mem_cons_self | exact List.mem_cons_of_mem _ (List.mem_cons_of_mem _ List.mem_cons_self) | exact List.mem_cons_of_mem _ (List.mem_cons_of_mem _ (List.mem_cons_of_mem _ List.mem_cons_self)) | exact List.mem_cons_of_mem _ (List.mem_cons_of_mem _ (List.mem_cons_of_mem _ (List.mem_cons_of_mem _ List.mem_cons_self))) | decide) z1
  have y1 := gE_at (a := 1) (b := 60) h6 (by first | exact List.mem_cons_self | exact List.mem_cons_of_mem _ List.mem_cons_self | exact List.mem_cons_of_mem _ (List.mem_cons_of_mem _ List.mem_cons_self) | exact List.mem_cons_of_mem _ (List.mem_cons_of_mem _ (List.mem_cons_of_mem _ List.mem_cons_self)) | exact List.mem_cons_of_mem _ (List.mem_cons_of_mem _ (List.mem_cons_of_mem _ (List.mem_cons_of_mem _ List.mem_cons_self))) | decide) (h3 1 _ rfl)
  refine ⟨w', _, h1, h2, ?_⟩
  first | omega | (unfold R32; omega)
theorem c_X12_drawn {kn : sKn} {w : sW} (h : BI w) (x1 : Int) (hx1 : R32 x1) (x2 : Int) (hx2 : R32 x2) : cO (fX12_drawn kn) [.ref 213, hI x1, hI x2] w (fun w1 _ => kF w w1 ∧ (kp w w1)) := by
  obtain ⟨w', v, e, o, q⟩ := u_X12_drawn (kn := kn) h.1 x1 hx1 x2 hx2
  exact co_hO h e o (by decide +kernel) ⟨kF_hO h.1 o (by decide +kernel), (kp_hO h.1 o (by decide +kernel) (by decide +kernel))⟩
theorem u_X11_odds {kn : sKn} {w : sW} (hw : wOk ZZ w) (x1 : Int) (hx1 : (-2147483648) ≤ x1 ∧ x1 ≤ 2147483647) (x2 : Int) (hx2 : (-2147483648) ≤ x2 ∧ x2 ≤ 2147483647) (x3 : Int) (hx3 : (-2147483648) ≤ x3 ∧ x3 ≤ 2147483647) : ∃ (w' : sW) (z : Int), fX11_odds kn [.ref 0, hI x1, hI x2, hI x3] w = some (some (hI z), w', 0, 0) ∧ hO dX11_odds w w' ∧ (z = (-1) ∨ (R32 z ∧ 0 ≤ x1 ∧ x1 ≤ 5 ∧ 1 ≤ x2 ∧ x2 ≤ 30)) := by
  obtain ⟨r, w', h1, h2, q, hq, σ', h3, h4, h5, h6⟩ := con_use (con_X11_odds_0 kn) (σ := [0, x1, x2, x3]) (av := [.ref 0, hI x1, hI x2, hI x3]) (w := w) rfl rfl ⟨av_c (k := 0) rfl, av_i rfl ⟨by omega, by omega⟩, av_i rfl ⟨by omega, by omega⟩, av_i rfl ⟨by omega, by omega⟩, trivial⟩ (fun q hq => by cases hq) (gE_c ⟨_, rfl, hx3⟩ (gE_c ⟨_, rfl, hx2⟩ (gE_c ⟨_, rfl, hx1⟩ (gE_n)))) hw rfl
  rcases List.mem_cons.mp hq with rfl | hq
  · obtain ⟨z, z1, z2, z3⟩ := gS_i h4
    rw [z2] at h1
    have z4 := h3 0 0 rfl
    rw [z4] at z1
    cases z1
    refine ⟨w', _, h1, h2, ?_⟩
    first | omega | (unfold R32; omega)
  rcases List.mem_singleton.mp hq with rfl
  obtain ⟨z, z1, z2, z3⟩ := gS_i h4
  rw [z2] at h1
  have z5 := gE_at (a := (-2147483648)) (b := 2147483647) h6 (by first | exact List.mem_cons_self | exact List.mem_cons_of_mem _ List.mem_cons_self | exact List.mem_cons_of_mem _ (List.mem_cons_of_mem _ List.mem_cons_self) | exact List.mem_cons_of_mem _ (List.mem_cons_of_mem _ (List.mem_cons_of_mem _ List.mem_cons_self)) | exact List.mem_cons_of_mem _ (List.mem_cons_of_mem _ (List.mem_cons_of_mem _ (List.mem_cons_of_mem _ List.mem_cons_self))) | decide) z1
  have y1 := gE_at (a := 0) (b := 5) h6 (by first | exact List.mem_cons_self | exact List.mem_cons_of_mem _ List.mem_cons_self | exact List.mem_cons_of_mem _ (List.mem_cons_of_mem _ List.mem_cons_self) | exact List.mem_cons_of_mem _ (List.mem_cons_of_mem _ (List.mem_cons_of_mem _ List.mem_cons_self)) | exact List.mem_cons_of_mem _ (List.mem_cons_of_mem _ (List.mem_cons_of_mem _ (List.mem_cons_of_mem _ List.mem_cons_self))) | decide) (h3 1 _ rfl)
  have y2 := gE_at (a := 1) (b := 30) h6 (by first | exact List.mem_cons_self | exact List.mem_cons_of_mem _ List.mem_cons_self | exact List.mem_cons_of_mem _ (List.mem_cons_of_mem _ List.mem_cons_self) | exact List.mem_cons_of_mem _ (List.mem_cons_of_mem _ (List.mem_cons_of_mem _ List.mem_cons_self)) | exact List.mem_cons_of_mem _ (List.mem_cons_of_mem _ (List.mem_cons_of_mem _ (List.mem_cons_of_mem _ List.mem_cons_self))) | decide) (h3 2 _ rfl)
  refine ⟨w', _, h1, h2, ?_⟩
  first | omega | (unfold R32; omega)
theorem c_X11_odds {kn : sKn} {w : sW} (h : BI w) (x1 : Int) (hx1 : R32 x1) (x2 : Int) (hx2 : R32 x2) (x3 : Int) (hx3 : R32 x3) : cO (fX11_odds kn) [.ref 0, hI x1, hI x2, hI x3] w (fun w1 _ => kF w w1 ∧ (kp w w1)) := by
  obtain ⟨w', v, e, o, q⟩ := u_X11_odds (kn := kn) h.1 x1 hx1 x2 hx2 x3 hx3
  exact co_hO h e o (by decide +kernel) ⟨kF_hO h.1 o (by decide +kernel), (kp_hO h.1 o (by decide +kernel) (by decide +kernel))⟩
theorem u_X12_odds {kn : sKn} {w : sW} (hw : wOk ZZ w) (x1 : Int) (hx1 : (-2147483648) ≤ x1 ∧ x1 ≤ 2147483647) (x2 : Int) (hx2 : (-2147483648) ≤ x2 ∧ x2 ≤ 2147483647) (x3 : Int) (hx3 : (-2147483648) ≤ x3 ∧ x3 ≤ 2147483647) : ∃ (w' : sW) (z : Int), fX12_odds kn [.ref 213, hI x1, hI x2, hI x3] w = some (some (hI z), w', 0, 0) ∧ hO dX12_odds w w' ∧ (z = (-1) ∨ (R32 z ∧ 0 ≤ x1 ∧ x1 ≤ 5 ∧ 1 ≤ x2 ∧ x2 ≤ 30)) := by
  obtain ⟨r, w', h1, h2, q, hq, σ', h3, h4, h5, h6⟩ := con_use (con_X12_odds_0 kn) (σ := [0, x1, x2, x3]) (av := [.ref 213, hI x1, hI x2, hI x3]) (w := w) rfl rfl ⟨av_c (k := 213) rfl, av_i rfl ⟨by omega, by omega⟩, av_i rfl ⟨by omega, by omega⟩, av_i rfl ⟨by omega, by omega⟩, trivial⟩ (fun q hq => by cases hq) (gE_c ⟨_, rfl, hx3⟩ (gE_c ⟨_, rfl, hx2⟩ (gE_c ⟨_, rfl, hx1⟩ (gE_n)))) hw rfl
  rcases List.mem_cons.mp hq with rfl | hq
  · obtain ⟨z, z1, z2, z3⟩ := gS_i h4
    rw [z2] at h1
    have z4 := h3 0 0 rfl
    rw [z4] at z1
    cases z1
    refine ⟨w', _, h1, h2, ?_⟩
    first | omega | (unfold R32; omega)
  rcases List.mem_singleton.mp hq with rfl
  obtain ⟨z, z1, z2, z3⟩ := gS_i h4
  rw [z2] at h1
  have z5 := gE_at (a := (-2147483648)) (b := 2147483647) h6 (by first | exact List.mem_cons_self | exact List.mem_cons_of_mem _ List.mem_cons_self | exact List.mem_cons_of_mem _ (List.mem_cons_of_mem _ List.mem_cons_self) | exact List.mem_cons_of_mem _ (List.mem_cons_of_mem _ (List.mem_cons_of_mem _ List.mem_cons_self)) | exact List.mem_cons_of_mem _ (List.mem_cons_of_mem _ (List.mem_cons_of_mem _ (List.mem_cons_of_mem _ List.mem_cons_self))) | decide) z1
  have y1 := gE_at (a := 0) (b := 5) h6 (by first | exact List.mem_cons_self | exact List.mem_cons_of_mem _ List.mem_cons_self | exact List.mem_cons_of_mem _ (List.mem_cons_of_mem _ List.mem_cons_self) | exact List.mem_cons_of_mem _ (List.mem_cons_of_mem _ (List.mem_cons_of_mem _ List.mem_cons_self)) | exact List.mem_cons_of_mem _ (List.mem_cons_of_mem _ (List.mem_cons_of_mem _ (List.mem_cons_of_mem _ List.mem_cons_self))) | decide) (h3 1 _ rfl)
  have y2 := gE_at (a := 1) (b := 30) h6 (by first | exact List.mem_cons_self | exact List.mem_cons_of_mem _ List.mem_cons_self | exact List.mem_cons_of_mem _ (List.mem_cons_of_mem _ List.mem_cons_self) | exact List.mem_cons_of_mem _ (List.mem_cons_of_mem _ (List.mem_cons_of_mem _ List.mem_cons_self)) | exact List.mem_cons_of_mem _ (List.mem_cons_of_mem _ (List.mem_cons_of_mem _ (List.mem_cons_of_mem _ List.mem_cons_self))) | decide) (h3 2 _ rfl)
  refine ⟨w', _, h1, h2, ?_⟩
  first | omega | (unfold R32; omega)
theorem c_X12_odds {kn : sKn} {w : sW} (h : BI w) (x1 : Int) (hx1 : R32 x1) (x2 : Int) (hx2 : R32 x2) (x3 : Int) (hx3 : R32 x3) : cO (fX12_odds kn) [.ref 213, hI x1, hI x2, hI x3] w (fun w1 _ => kF w w1 ∧ (kp w w1)) := by
  obtain ⟨w', v, e, o, q⟩ := u_X12_odds (kn := kn) h.1 x1 hx1 x2 hx2 x3 hx3
  exact co_hO h e o (by decide +kernel) ⟨kF_hO h.1 o (by decide +kernel), (kp_hO h.1 o (by decide +kernel) (by decide +kernel))⟩
theorem c_X11_book {kn : sKn} {w : sW} (h : BI w) {R N : Nat → Int} (hN : nmC R N w) (hLn : nlC R N w) (x1 : Int) (hx1 : R32 x1) : cO (fX11_book kn) [.ref 0, hI x1] w (fun w1 _ => (gF w1 213 10 = gF w 213 10 ∧ bkF x1 (gF w 1 11) (zBook (gX w 2) (gF w 1 1).toNat R N) (gF w1 1 11)) ∧ (((x1 = 0 ∨ x1 = 1) ∧ gF w1 1 1 = 0 ∨ (x1 ≠ 0 ∧ x1 ≠ 1) ∧ gF w1 1 1 = gF w 1 1) ∧ gF w1 213 2 = gF w 213 2 ∧ kk w w1)) := by
  have hn := tk_nn h.1
  obtain ⟨w', v, e, o, q⟩ := s_book7 (kn := kn) h.1 x1 hx1
  have hF : bkF x1 (gF w 1 11) (zBook (gX w 2) (gF w 1 1).toNat R N) (gF w' 1 11) := by
    by_cases z : x1 = 0 ∨ x1 = 1
    · obtain ⟨w3, v3, e3, f3⟩ := b_book7 (kn := kn) (B := gX w 2) (n := (gF w 1 1).toNat) h.1 hN hLn (fun _ _ => rfl) (by omega) (by omega) x1 hx1 z
      rw [← (one_w e e3).1] at f3
      exact ⟨fun _ => f3, fun y => absurd z (by omega)⟩
    · have e3 := b_book7n (kn := kn) h.1 x1 hx1 (by omega) (by omega)
      rw [(one_w e e3).1]
      exact ⟨fun y => absurd y z, fun _ => rfl⟩
  refine co_hO h e o (by decide +kernel) ⟨⟨f2_hO h.1 o (by decide +kernel), hF⟩, ?_, kp_2 h.1 o (by decide +kernel)⟩
  by_cases z : x1 = 0 ∨ x1 = 1
  · exact Or.inl ⟨z, q.2 z⟩
  · exact Or.inr ⟨by omega, by rw [q.1 (by omega)]⟩
theorem c_X12_book {kn : sKn} {w : sW} (h : BI w) {B : Nat → Int} {n : Nat} {R N : Nat → Int} (hN : nmS R N w) (hLn : nlR R N w) (h2 : gF w 213 2 = (n : Int)) (hn : n ≤ 940) (hB : ∀ i, i < n → gX w 214 i = B i) (x1 : Int) (hx1 : R32 x1) : cO (fX12_book kn) [.ref 213, hI x1] w (fun w1 _ => (gF w1 1 11 = gF w 1 11 ∧ bkF x1 (gF w 213 10) (zBook B n R N) (gF w1 213 10)) ∧ ((gF w1 1 1 = gF w 1 1 ∧ kk w w1) ∧ ((x1 = 0 ∨ x1 = 1) ∧ gF w1 213 2 = 0 ∨ (x1 ≠ 0 ∧ x1 ≠ 1) ∧ gF w1 213 2 = gF w 213 2))) := by
  obtain ⟨w', v, e, o, q⟩ := s_bookR (kn := kn) h.1 x1 hx1
  have hF : bkF x1 (gF w 213 10) (zBook B n R N) (gF w' 213 10) := by
    by_cases z : x1 = 0 ∨ x1 = 1
    · obtain ⟨w3, v3, e3, f3⟩ := b_bookR (kn := kn) (B := B) (n := n) h.1 hN hLn h2 hB hn (fun i hi => by
        have a := gX_in (j := i) (hO_rf (D := []) h.1) ai_214 ar214 (by omega) (by omega) (by omega)
        rw [hB i hi] at a
        exact a) x1 hx1 z
      rw [← (one_w e e3).1] at f3
      exact ⟨fun _ => f3, fun y => absurd z (by omega)⟩
    · obtain ⟨w3, e3, f3⟩ := b_bookRn (kn := kn) h.1 x1 hx1 (by omega) (by omega)
      rw [← (one_w e e3).1] at f3
      exact ⟨fun y => absurd y z, fun _ => f3⟩
  refine co_hO h e o (by decide +kernel) ⟨⟨f1_hO h.1 o (by decide +kernel), hF⟩, kp_1 h.1 o (by decide +kernel), ?_⟩
  by_cases z : x1 = 0 ∨ x1 = 1
  · exact Or.inl ⟨z, q.2 z⟩
  · exact Or.inr ⟨by omega, q.1 (by omega)⟩
theorem u_X11_told {kn : sKn} {w : sW} (hw : wOk ZZ w) (x1 : Int) (hx1 : (-2147483648) ≤ x1 ∧ x1 ≤ 2147483647) : ∃ (w' : sW) (z : Int), fX11_told kn [.ref 0, hI x1] w = some (some (hI z), w', 0, 0) ∧ hO dX11_told w w' ∧ (z = (-1) ∨ (R32 z ∧ 0 ≤ x1 ∧ x1 ≤ 3)) := by
  obtain ⟨r, w', h1, h2, q, hq, σ', h3, h4, h5, h6⟩ := con_use (con_X11_told_0 kn) (σ := [0, x1]) (av := [.ref 0, hI x1]) (w := w) rfl rfl ⟨av_c (k := 0) rfl, av_i rfl ⟨by omega, by omega⟩, trivial⟩ (fun q hq => by cases hq) (gE_c ⟨_, rfl, hx1⟩ (gE_n)) hw rfl
  rcases List.mem_cons.mp hq with rfl | hq
  · obtain ⟨z, z1, z2, z3⟩ := gS_i h4
    rw [z2] at h1
    have z4 := h3 0 0 rfl
    rw [z4] at z1
    cases z1
    refine ⟨w', _, h1, h2, ?_⟩
    first | omega | (unfold R32; omega)
  rcases List.mem_singleton.mp hq with rfl
  obtain ⟨z, z1, z2, z3⟩ := gS_i h4
  rw [z2] at h1
  have z5 := gE_at (a := (-2147483648)) (b := 2147483647) h6 (by first | exact List.mem_cons_self | exact List.mem_cons_of_mem _ List.mem_cons_self | exact List.mem_cons_of_mem _ (List.mem_cons_of_mem _ List.mem_cons_self) | exact List.mem_cons_of_mem _ (List.mem_cons_of_mem _ (List.mem_cons_of_mem _ List.mem_cons_self)) | exact List.mem_cons_of_mem _ (List.mem_cons_of_mem _ (List.mem_cons_of_mem _ (List.mem_cons_of_mem _ List.mem_cons_self))) | decide) z1
  have y1 := gE_at (a := 0) (b := 3) h6 (by first | exact List.mem_cons_self | exact List.mem_cons_of_mem _ List.mem_cons_self | exact List.mem_cons_of_mem _ (List.mem_cons_of_mem _ List.mem_cons_self) | exact List.mem_cons_of_mem _ (List.mem_cons_of_mem _ (List.mem_cons_of_mem _ List.mem_cons_self)) | exact List.mem_cons_of_mem _ (List.mem_cons_of_mem _ (List.mem_cons_of_mem _ (List.mem_cons_of_mem _ List.mem_cons_self))) | decide) (h3 1 _ rfl)
  refine ⟨w', _, h1, h2, ?_⟩
  first | omega | (unfold R32; omega)
theorem c_X11_told {kn : sKn} {w : sW} (h : BI w) (x1 : Int) (hx1 : R32 x1) : cO (fX11_told kn) [.ref 0, hI x1] w (fun w1 _ => kF w w1 ∧ (kp w w1)) := by
  obtain ⟨w', v, e, o, q⟩ := u_X11_told (kn := kn) h.1 x1 hx1
  exact co_hO h e o (by decide +kernel) ⟨kF_hO h.1 o (by decide +kernel), (kp_hO h.1 o (by decide +kernel) (by decide +kernel))⟩
theorem u_X12_told {kn : sKn} {w : sW} (hw : wOk ZZ w) (x1 : Int) (hx1 : (-2147483648) ≤ x1 ∧ x1 ≤ 2147483647) : ∃ (w' : sW) (z : Int), fX12_told kn [.ref 213, hI x1] w = some (some (hI z), w', 0, 0) ∧ hO dX12_told w w' ∧ (z = (-1) ∨ (R32 z ∧ 0 ≤ x1 ∧ x1 ≤ 3)) := by
  obtain ⟨r, w', h1, h2, q, hq, σ', h3, h4, h5, h6⟩ := con_use (con_X12_told_0 kn) (σ := [0, x1]) (av := [.ref 213, hI x1]) (w := w) rfl rfl ⟨av_c (k := 213) rfl, av_i rfl ⟨by omega, by omega⟩, trivial⟩ (fun q hq => by cases hq) (gE_c ⟨_, rfl, hx1⟩ (gE_n)) hw rfl
  rcases List.mem_cons.mp hq with rfl | hq
  · obtain ⟨z, z1, z2, z3⟩ := gS_i h4
    rw [z2] at h1
    have z4 := h3 0 0 rfl
    rw [z4] at z1
    cases z1
    refine ⟨w', _, h1, h2, ?_⟩
    first | omega | (unfold R32; omega)
  rcases List.mem_singleton.mp hq with rfl
  obtain ⟨z, z1, z2, z3⟩ := gS_i h4
  rw [z2] at h1
  have z5 := gE_at (a := (-2147483648)) (b := 2147483647) h6 (by first | exact List.mem_cons_self | exact List.mem_cons_of_mem _ List.mem_cons_self | exact List.mem_cons_of_mem _ (List.mem_cons_of_mem _ List.mem_cons_self) | exact List.mem_cons_of_mem _ (List.mem_cons_of_mem _ (List.mem_cons_of_mem _ List.mem_cons_self)) | exact List.mem_cons_of_mem _ (List.mem_cons_of_mem _ (List.mem_cons_of_mem _ (List.mem_cons_of_mem _ List.mem_cons_self))) | decide) z1
  have y1 := gE_at (a := 0) (b := 3) h6 (by first | exact List.mem_cons_self | exact List.mem_cons_of_mem _ List.mem_cons_self | exact List.mem_cons_of_mem _ (List.mem_cons_of_mem _ List.mem_cons_self) | exact List.mem_cons_of_mem _ (List.mem_cons_of_mem _ (List.mem_cons_of_mem _ List.mem_cons_self)) | exact List.mem_cons_of_mem _ (List.mem_cons_of_mem _ (List.mem_cons_of_mem _ (List.mem_cons_of_mem _ List.mem_cons_self))) | decide) (h3 1 _ rfl)
  refine ⟨w', _, h1, h2, ?_⟩
  first | omega | (unfold R32; omega)
theorem c_X12_told {kn : sKn} {w : sW} (h : BI w) (x1 : Int) (hx1 : R32 x1) : cO (fX12_told kn) [.ref 213, hI x1] w (fun w1 _ => kF w w1 ∧ (kp w w1)) := by
  obtain ⟨w', v, e, o, q⟩ := u_X12_told (kn := kn) h.1 x1 hx1
  exact co_hO h e o (by decide +kernel) ⟨kF_hO h.1 o (by decide +kernel), (kp_hO h.1 o (by decide +kernel) (by decide +kernel))⟩
theorem u_X11_sentence {kn : sKn} {w : sW} (hw : wOk ZZ w)  : ∃ (w' : sW) (z : Int), fX11_sentence kn [.ref 0] w = some (some (hI z), w', 0, 0) ∧ hO dX11_sentence w w' ∧ ((R32 z ∧ gF w' 1 1 = 0)) := by
  obtain ⟨r, w', h1, h2, q, hq, σ', h3, h4, h5, h6⟩ := con_use (con_X11_sentence_0 kn) (σ := [0]) (av := [.ref 0]) (w := w) rfl rfl ⟨av_c (k := 0) rfl, trivial⟩ (fun q hq => by cases hq) (gE_n) hw rfl
  rcases List.mem_singleton.mp hq with rfl
  obtain ⟨z, z1, z2, z3⟩ := gS_i h4
  rw [z2] at h1
  have z5 := gE_at (a := (-2147483648)) (b := 2147483647) h6 (by first | exact List.mem_cons_self | exact List.mem_cons_of_mem _ List.mem_cons_self | exact List.mem_cons_of_mem _ (List.mem_cons_of_mem _ List.mem_cons_self) | exact List.mem_cons_of_mem _ (List.mem_cons_of_mem _ (List.mem_cons_of_mem _ List.mem_cons_self)) | exact List.mem_cons_of_mem _ (List.mem_cons_of_mem _ (List.mem_cons_of_mem _ (List.mem_cons_of_mem _ List.mem_cons_self))) | decide) z1
  obtain ⟨m1, n1, p1⟩ := mf_F (c := 1) (kf := 1) (u := 0) (h3 0 0 rfl) (h5 _ (by first | exact List.mem_cons_self | exact List.mem_cons_of_mem _ List.mem_cons_self | exact List.mem_cons_of_mem _ (List.mem_cons_of_mem _ List.mem_cons_self) | exact List.mem_cons_of_mem _ (List.mem_cons_of_mem _ (List.mem_cons_of_mem _ List.mem_cons_self)) | exact List.mem_cons_of_mem _ (List.mem_cons_of_mem _ (List.mem_cons_of_mem _ (List.mem_cons_of_mem _ List.mem_cons_self))) | decide))
  have n1' := h3 0 0 rfl
  rw [n1] at n1'
  cases n1'
  refine ⟨w', _, h1, h2, ?_⟩
  first | omega | (unfold R32; omega)
theorem c_X11_sentence {kn : sKn} {w : sW} (h : BI w) {R N : Nat → Int} (hN : nmC R N w) : cO (fX11_sentence kn) [.ref 0] w (fun w1 _ => (gF w1 213 10 = gF w 213 10 ∧ gF w1 1 11 = zFt (zSent (gX w 2) (gF w 1 1).toNat 200 R N)) ∧ (gF w1 1 1 = 0 ∧ gF w1 213 2 = gF w 213 2 ∧ kk w w1)) := by
  have hn := tk_nn h.1
  obtain ⟨w3, v3, e3, f3⟩ := x_sentenceF (kn := kn) (B := gX w 2) (n := (gF w 1 1).toNat) h.1 hN (fun _ _ => rfl) (by omega) (by omega)
  obtain ⟨w', v, e, o, q⟩ := u_X11_sentence (kn := kn) h.1 
  exact co_hO h e o (by decide +kernel) ⟨⟨f2_hO h.1 o (by decide +kernel), by rw [(one_w e e3).1]; exact f3⟩, ⟨by omega, kp_2 h.1 o (by decide +kernel)⟩⟩
theorem c_X12_sentence {kn : sKn} {w : sW} (h : BI w) {B : Nat → Int} {n : Nat} {R N : Nat → Int} (hN : nmS R N w) (h2 : gF w 213 2 = (n : Int)) (hn : n ≤ 940) (hB : ∀ i, i < n → gX w 214 i = B i) : cO (fX12_sentence kn) [.ref 213] w (fun w1 _ => (gF w1 1 11 = gF w 1 11 ∧ gF w1 213 10 = zFt (zSent B n 200 R N)) ∧ ((gF w1 1 1 = gF w 1 1 ∧ kk w w1) ∧ gF w1 213 2 = 0)) := by
  obtain ⟨w3, v3, e3, f3⟩ := z_sentenceR (kn := kn) (B := B) (n := n) h.1 hN h2 hB hn (fun i hi => by
    have a := gX_in (j := i) (hO_rf (D := []) h.1) ai_214 ar214 (by omega) (by omega) (by omega)
    rw [hB i hi] at a
    exact a)
  obtain ⟨w', v, e, o, q⟩ := s_sentence (kn := kn) h.1
  exact co_hO h e o (by decide +kernel) ⟨⟨f1_hO h.1 o (by decide +kernel), by rw [(one_w e e3).1]; exact f3⟩, ⟨kp_1 h.1 o (by decide +kernel), q⟩⟩
theorem c_X11_said {kn : sKn} {w : sW} (h : BI w) (x1 : Int) (hx1 : R32 x1) : cO (fX11_said kn) [.ref 0, hI x1] w (fun w1 _ => kF w w1 ∧ (kp w w1)) := by
  obtain ⟨w', v, e, o⟩ := s_said7 (kn := kn) h.1 h.2.1 x1 hx1
  exact co_hO h e o (by decide +kernel) ⟨kF_hO h.1 o (by decide +kernel), (kp_hO h.1 o (by decide +kernel) (by decide +kernel))⟩
theorem c_X12_said {kn : sKn} {w : sW} (h : BI w) (x1 : Int) (hx1 : R32 x1) : cO (fX12_said kn) [.ref 213, hI x1] w (fun w1 _ => kF w w1 ∧ (kp w w1)) := by
  obtain ⟨w', v, e, o⟩ := s_said (kn := kn) h.1 h.2.1 x1 hx1
  exact co_hO h e o (by decide +kernel) ⟨kF_hO h.1 o (by decide +kernel), (kp_hO h.1 o (by decide +kernel) (by decide +kernel))⟩
theorem u_X11_image {kn : sKn} {w : sW} (hw : wOk ZZ w) (x1 : Int) (hx1 : (-2147483648) ≤ x1 ∧ x1 ≤ 2147483647) : ∃ (w' : sW) (z : Int), fX11_image kn [.ref 0, hI x1] w = some (some (hI z), w', 0, 0) ∧ hO dX11_image w w' ∧ (z = 0 ∨ (z = 1 ∧ 0 ≤ x1 ∧ x1 ≤ 1)) := by
  obtain ⟨r, w', h1, h2, q, hq, σ', h3, h4, h5, h6⟩ := con_use (con_X11_image_0 kn) (σ := [0, x1]) (av := [.ref 0, hI x1]) (w := w) rfl rfl ⟨av_c (k := 0) rfl, av_i rfl ⟨by omega, by omega⟩, trivial⟩ (fun q hq => by cases hq) (gE_c ⟨_, rfl, hx1⟩ (gE_n)) hw rfl
  rcases List.mem_cons.mp hq with rfl | hq
  · obtain ⟨z, z1, z2, z3⟩ := gS_i h4
    rw [z2] at h1
    have z4 := h3 0 0 rfl
    rw [z4] at z1
    cases z1
    refine ⟨w', _, h1, h2, ?_⟩
    first | omega | (unfold R32; omega)
  rcases List.mem_singleton.mp hq with rfl
  obtain ⟨z, z1, z2, z3⟩ := gS_i h4
  rw [z2] at h1
  have z4 := h3 0 0 rfl
  rw [z4] at z1
  cases z1
  have y1 := gE_at (a := 0) (b := 1) h6 (by first | exact List.mem_cons_self | exact List.mem_cons_of_mem _ List.mem_cons_self | exact List.mem_cons_of_mem _ (List.mem_cons_of_mem _ List.mem_cons_self) | exact List.mem_cons_of_mem _ (List.mem_cons_of_mem _ (List.mem_cons_of_mem _ List.mem_cons_self)) | exact List.mem_cons_of_mem _ (List.mem_cons_of_mem _ (List.mem_cons_of_mem _ (List.mem_cons_of_mem _ List.mem_cons_self))) | decide) (h3 1 _ rfl)
  refine ⟨w', _, h1, h2, ?_⟩
  first | omega | (unfold R32; omega)
theorem c_X11_image {kn : sKn} {w : sW} (h : BI w) (hP : ∀ c, cpl c → plX w c) (hA : pA w) (x1 : Int) (hx1 : R32 x1) : cO (fX11_image kn) [.ref 0, hI x1] w (fun w1 v => kF w w1 ∧ ((gF w1 1 1 = gF w 1 1 ∧ gF w1 213 2 = gF w 213 2 ∧ kT w w1) ∧ imC w w1 x1 v ∧ (∀ j, gQa w1 100 j = gQa w 100 j) ∧ kR w w1)) := by
  obtain ⟨w', v, e, o, q⟩ := x_imageC (kn := kn) h.1 hP hA x1 hx1
  exact co_hO h e o (by decide +kernel) ⟨kF_hO h.1 o (by decide +kernel), ⟨⟨l1_hO h.1 o (by decide +kernel), l2_hO h.1 o (by decide +kernel), kT_hO h.1 o (by decide +kernel)⟩, q, fun j => fr_gQa o.2 (show ztau 100 = some 57 from rfl) (by decide +kernel) j, kR_hO o (by decide +kernel)⟩⟩
theorem c_X12_image {kn : sKn} {w : sW} (h : BI w) (x1 : Int) (hx1 : R32 x1) : cO (fX12_image kn) [.ref 213, hI x1] w (fun w1 v => kF w w1 ∧ ((gF w1 1 1 = gF w 1 1 ∧ gF w1 213 2 = gF w 213 2 ∧ kT w w1) ∧ (imQ w w1 x1 v ∧ (v = 1 ↔ 0 ≤ x1 ∧ x1 ≤ 1) ∧ (v = 1 → gX w1 223 x1.toNat = 1) ∧ (∀ j : Nat, (v = 1 → (j : Int) ≠ x1) → gX w1 223 j = gX w 223 j)) ∧ kC w w1 ∧ (∀ j, j < 5 → gX w1 215 j = gX w 215 j) ∧ ∀ j, gY w1 220 j = gY w 220 j)) := by
  obtain ⟨w', v, e, o, q⟩ := s_image (kn := kn) h.1 x1 hx1
  have hk : KV w' := by
    intro f hf g
    obtain ⟨q1, q2, q3, q4, q5⟩ := q
    by_cases z : v = 1 ∧ (f : Int) = x1
    · exact (q5 f hf).1 z
    · rw [q4 f (fun z1 z2 => z ⟨z1, z2⟩)] at g
      rw [(q5 f hf).2 (fun z1 z2 => z ⟨z1, z2⟩)]
      exact h.2.2.2.2 f hf g
  obtain ⟨w2, v2, e2, q2⟩ := x_imageR (kn := kn) h.1 x1 hx1
  obtain ⟨ew, ev⟩ := one_w e e2
  subst ew
  have hv : v = v2 := by
    have a1 : v = 0 ∨ v = 1 := q.1
    have a2 : v2 = 0 ∨ v2 = 1 := q2.imp (fun z => z.1) (fun z => z.1)
    have a3 := hI_inj ev (by unfold R32; omega) (by unfold R32; omega)
    exact a3
  rw [← hv] at q2
  exact ⟨w', v, 0, e, bi_hO0 h o (by decide +kernel) hk, o.2.1, kF_hO h.1 o (by decide +kernel), ⟨l1_hO h.1 o (by decide +kernel), l2_hO h.1 o (by decide +kernel), kT_hO h.1 o (by decide +kernel)⟩, ⟨q2, q.2.1, q.2.2.1, q.2.2.2.1⟩, kC_hO h.1 o (by decide +kernel), fun j hj => hw_of o (by decide +kernel) hj, fun j => fr_gY o.2 (show ztau 220 = some 68 from rfl) (by decide +kernel) j⟩
theorem u_X11_restore {kn : sKn} {w : sW} (hw : wOk ZZ w) (x1 : Int) (hx1 : (-2147483648) ≤ x1 ∧ x1 ≤ 2147483647) : ∃ (w' : sW) (z : Int), fX11_restore kn [.ref 0, hI x1] w = some (some (hI z), w', 0, 0) ∧ hO dX11_restore w w' ∧ (z = 0 ∨ (z = 1 ∧ 0 ≤ x1 ∧ x1 ≤ 1)) := by
  obtain ⟨r, w', h1, h2, q, hq, σ', h3, h4, h5, h6⟩ := con_use (con_X11_restore_0 kn) (σ := [0, x1]) (av := [.ref 0, hI x1]) (w := w) rfl rfl ⟨av_c (k := 0) rfl, av_i rfl ⟨by omega, by omega⟩, trivial⟩ (fun q hq => by cases hq) (gE_c ⟨_, rfl, hx1⟩ (gE_n)) hw rfl
  rcases List.mem_cons.mp hq with rfl | hq
  · obtain ⟨z, z1, z2, z3⟩ := gS_i h4
    rw [z2] at h1
    have z4 := h3 0 0 rfl
    rw [z4] at z1
    cases z1
    refine ⟨w', _, h1, h2, ?_⟩
    first | omega | (unfold R32; omega)
  rcases List.mem_singleton.mp hq with rfl
  obtain ⟨z, z1, z2, z3⟩ := gS_i h4
  rw [z2] at h1
  have z4 := h3 0 0 rfl
  rw [z4] at z1
  cases z1
  have y1 := gE_at (a := 0) (b := 1) h6 (by first | exact List.mem_cons_self | exact List.mem_cons_of_mem _ List.mem_cons_self | exact List.mem_cons_of_mem _ (List.mem_cons_of_mem _ List.mem_cons_self) | exact List.mem_cons_of_mem _ (List.mem_cons_of_mem _ (List.mem_cons_of_mem _ List.mem_cons_self)) | exact List.mem_cons_of_mem _ (List.mem_cons_of_mem _ (List.mem_cons_of_mem _ (List.mem_cons_of_mem _ List.mem_cons_self))) | decide) (h3 1 _ rfl)
  refine ⟨w', _, h1, h2, ?_⟩
  first | omega | (unfold R32; omega)
theorem c_X11_restore {kn : sKn} {w : sW} (h : BI w) (hP : ∀ c, cpl c → plX w c) (hA : pA w) (x1 : Int) (hx1 : R32 x1) : cO (fX11_restore kn) [.ref 0, hI x1] w (fun w1 v => kF w w1 ∧ ((gF w1 1 1 = gF w 1 1 ∧ gF w1 213 2 = gF w 213 2 ∧ kT w w1) ∧ rtC w w1 x1 v ∧ kA w w1 ∧ kR w w1)) := by
  obtain ⟨w', v, e, o, q⟩ := x_restoreC (kn := kn) h.1 hP hA x1 hx1
  exact co_hO h e o (by decide +kernel) ⟨kF_hO h.1 o (by decide +kernel), ⟨⟨l1_hO h.1 o (by decide +kernel), l2_hO h.1 o (by decide +kernel), kT_hO h.1 o (by decide +kernel)⟩, q, kA_hO o (by decide +kernel), kR_hO o (by decide +kernel)⟩⟩
theorem c_X12_restore {kn : sKn} {w : sW} (h : BI w) (x1 : Int) (hx1 : R32 x1) : cO (fX12_restore kn) [.ref 213, hI x1] w (fun w1 v => kF w w1 ∧ ((gF w1 1 1 = gF w 1 1 ∧ gF w1 213 2 = gF w 213 2 ∧ kT w w1) ∧ (rtQ w w1 x1 v ∧ (v = 1 ↔ (0 ≤ x1 ∧ x1 ≤ 1) ∧ gX w 223 x1.toNat = 1)) ∧ kC w w1 ∧ kI w w1)) := by
  obtain ⟨w', v, e, o, q⟩ := s_restore (kn := kn) h.1 x1 hx1 h.2.2.2.2
  obtain ⟨w2, v2, e2, q2⟩ := x_restoreR (kn := kn) h.1 x1 hx1 h.2.2.2.2
  obtain ⟨ew, ev⟩ := one_w e e2
  subst ew
  have hv : v = v2 := by
    have a1 : v = 0 ∨ v = 1 := q.1
    have a2 : v2 = 0 ∨ v2 = 1 := q2.imp (fun z => z.1) (fun z => z.1)
    have a3 := hI_inj ev (by unfold R32; omega) (by unfold R32; omega)
    exact a3
  rw [← hv] at q2
  exact co_hO h e o (by decide +kernel) ⟨kF_hO h.1 o (by decide +kernel), ⟨⟨l1_hO h.1 o (by decide +kernel), l2_hO h.1 o (by decide +kernel), kT_hO h.1 o (by decide +kernel)⟩, ⟨q2, q.2⟩, kC_hO h.1 o (by decide +kernel), kI_hO o (by decide +kernel)⟩⟩
theorem u_X11_count {kn : sKn} {w : sW} (hw : wOk ZZ w) (x1 : Int) (hx1 : (-2147483648) ≤ x1 ∧ x1 ≤ 2147483647) : ∃ (w' : sW) (z : Int), fX11_count kn [.ref 0, hI x1] w = some (some (hI z), w', 0, 0) ∧ hO dX11_count w w' ∧ ((R32 z ∧ 0 ≤ x1 ∧ x1 ≤ 5) ∨ z = (-1)) := by
  obtain ⟨r, w', h1, h2, q, hq, σ', h3, h4, h5, h6⟩ := con_use (con_X11_count_0 kn) (σ := [0, x1]) (av := [.ref 0, hI x1]) (w := w) rfl rfl ⟨av_c (k := 0) rfl, av_i rfl ⟨by omega, by omega⟩, trivial⟩ (fun q hq => by cases hq) (gE_c ⟨_, rfl, hx1⟩ (gE_n)) hw rfl
  rcases List.mem_cons.mp hq with rfl | hq
  · obtain ⟨z, z1, z2, z3⟩ := gS_i h4
    rw [z2] at h1
    have z5 := gE_at (a := (-2147483648)) (b := 2147483647) h6 (by first | exact List.mem_cons_self | exact List.mem_cons_of_mem _ List.mem_cons_self | exact List.mem_cons_of_mem _ (List.mem_cons_of_mem _ List.mem_cons_self) | exact List.mem_cons_of_mem _ (List.mem_cons_of_mem _ (List.mem_cons_of_mem _ List.mem_cons_self)) | exact List.mem_cons_of_mem _ (List.mem_cons_of_mem _ (List.mem_cons_of_mem _ (List.mem_cons_of_mem _ List.mem_cons_self))) | decide) z1
    have y1 := gE_at (a := 0) (b := 5) h6 (by first | exact List.mem_cons_self | exact List.mem_cons_of_mem _ List.mem_cons_self | exact List.mem_cons_of_mem _ (List.mem_cons_of_mem _ List.mem_cons_self) | exact List.mem_cons_of_mem _ (List.mem_cons_of_mem _ (List.mem_cons_of_mem _ List.mem_cons_self)) | exact List.mem_cons_of_mem _ (List.mem_cons_of_mem _ (List.mem_cons_of_mem _ (List.mem_cons_of_mem _ List.mem_cons_self))) | decide) (h3 1 _ rfl)
    refine ⟨w', _, h1, h2, ?_⟩
    first | omega | (unfold R32; omega)
  rcases List.mem_singleton.mp hq with rfl
  obtain ⟨z, z1, z2, z3⟩ := gS_i h4
  rw [z2] at h1
  have z4 := h3 0 0 rfl
  rw [z4] at z1
  cases z1
  refine ⟨w', _, h1, h2, ?_⟩
  first | omega | (unfold R32; omega)
theorem c_X11_count {kn : sKn} {w : sW} (h : BI w) (x1 : Int) (hx1 : R32 x1) : cO (fX11_count kn) [.ref 0, hI x1] w (fun w1 v => kF w w1 ∧ (kp w w1 ∧ v = cntC w x1 ∧ R32 v)) := by
  obtain ⟨e, r⟩ := x_countC (kn := kn) h.1 x1 hx1
  exact co_hO h e (hO_rf (D := []) h.1) (by decide +kernel) ⟨kF_hO h.1 (hO_rf (D := []) h.1) (by decide +kernel), ⟨kp_rf w, rfl, r⟩⟩
theorem u_X12_count {kn : sKn} {w : sW} (hw : wOk ZZ w) (x1 : Int) (hx1 : (-2147483648) ≤ x1 ∧ x1 ≤ 2147483647) : ∃ (w' : sW) (z : Int), fX12_count kn [.ref 213, hI x1] w = some (some (hI z), w', 0, 0) ∧ hO dX12_count w w' ∧ ((R32 z ∧ 0 ≤ x1 ∧ x1 ≤ 5) ∨ z = (-1)) := by
  obtain ⟨r, w', h1, h2, q, hq, σ', h3, h4, h5, h6⟩ := con_use (con_X12_count_0 kn) (σ := [0, x1]) (av := [.ref 213, hI x1]) (w := w) rfl rfl ⟨av_c (k := 213) rfl, av_i rfl ⟨by omega, by omega⟩, trivial⟩ (fun q hq => by cases hq) (gE_c ⟨_, rfl, hx1⟩ (gE_n)) hw rfl
  rcases List.mem_cons.mp hq with rfl | hq
  · obtain ⟨z, z1, z2, z3⟩ := gS_i h4
    rw [z2] at h1
    have z5 := gE_at (a := (-2147483648)) (b := 2147483647) h6 (by first | exact List.mem_cons_self | exact List.mem_cons_of_mem _ List.mem_cons_self | exact List.mem_cons_of_mem _ (List.mem_cons_of_mem _ List.mem_cons_self) | exact List.mem_cons_of_mem _ (List.mem_cons_of_mem _ (List.mem_cons_of_mem _ List.mem_cons_self)) | exact List.mem_cons_of_mem _ (List.mem_cons_of_mem _ (List.mem_cons_of_mem _ (List.mem_cons_of_mem _ List.mem_cons_self))) | decide) z1
    have y1 := gE_at (a := 0) (b := 5) h6 (by first | exact List.mem_cons_self | exact List.mem_cons_of_mem _ List.mem_cons_self | exact List.mem_cons_of_mem _ (List.mem_cons_of_mem _ List.mem_cons_self) | exact List.mem_cons_of_mem _ (List.mem_cons_of_mem _ (List.mem_cons_of_mem _ List.mem_cons_self)) | exact List.mem_cons_of_mem _ (List.mem_cons_of_mem _ (List.mem_cons_of_mem _ (List.mem_cons_of_mem _ List.mem_cons_self))) | decide) (h3 1 _ rfl)
    refine ⟨w', _, h1, h2, ?_⟩
    first | omega | (unfold R32; omega)
  rcases List.mem_singleton.mp hq with rfl
  obtain ⟨z, z1, z2, z3⟩ := gS_i h4
  rw [z2] at h1
  have z4 := h3 0 0 rfl
  rw [z4] at z1
  cases z1
  refine ⟨w', _, h1, h2, ?_⟩
  first | omega | (unfold R32; omega)
theorem c_X12_count {kn : sKn} {w : sW} (h : BI w) (x1 : Int) (hx1 : R32 x1) : cO (fX12_count kn) [.ref 213, hI x1] w (fun w1 v => kF w w1 ∧ (kp w w1 ∧ v = cntR w x1)) := by
  obtain ⟨w', e, o⟩ := x_countR (kn := kn) h.1 x1 hx1
  exact co_hO h e o (by decide +kernel) ⟨kF_hO h.1 o (by decide +kernel), ⟨kp_hO h.1 o (by decide +kernel) (by decide +kernel), rfl⟩⟩
theorem aj_241 : aJ 241 = some (89, 1) := by decide +kernel
section HRZ
variable {tbl : List (Nat × sA)} {Po : sR → Prop} {pc np : Nat} {lv : List (Nat × Value)} {st : List Value} {w : sW} {n m : Nat} {kn : sKn}
theorem r_cVXv {f : List Value → sW → Option sR} {ci na hp c : Nat} {stk as : List Value} {fs : List Value} {v : Value} {w' : sW} {n' m' : Nat} (hs : (stk.take na).reverse = .ref c :: as) (hok : c_ok (lv, stk, w, n, m) na = true) (ha : t_get tbl pc = some (a_callVX f ci na np hp)) (hc : w[c]? = some (.inr (ci, fs))) (hf : f (.ref c :: as) w = some (some v, w', n', m')) (g : Tp tbl Po np (lv, v :: stk.drop na, w', n + n', m + m')) : Tp tbl Po pc (lv, stk, w, n, m) := by
  refine Tp_step ha (fun k => ?_) g
  unfold a_callVX
  rw [hok]
  dsimp only
  rw [hs]
  dsimp only
  rw [xg_eq, hc]
  dsimp only
  rw [if_pos rfl, hf]
theorem r_cVXt {f : List Value → sW → Option sR} {ci na hp c : Nat} {stk as : List Value} {fs : List Value} {w' : sW} {n' m' : Nat} (hs : (stk.take na).reverse = .ref c :: as) (hok : c_ok (lv, stk, w, n, m) na = true) (ha : t_get tbl pc = some (a_callVX f ci na np hp)) (hc : w[c]? = some (.inr (ci, fs))) (hf : f (.ref c :: as) w = some (none, w', n', m')) (h1 : xa (wfC w'.length) w' = true) (h2 : w'.length < 999999) (g : Tp tbl Po hp (lv, [.ref 999999], w', n + n', m + m')) : Tp tbl Po pc (lv, stk, w, n, m) := by
  refine Tp_step ha (fun k => ?_) g
  unfold a_callVX
  rw [hok]
  dsimp only
  rw [hs]
  dsimp only
  rw [xg_eq, hc]
  dsimp only
  rw [if_pos rfl, hf]
  dsimp only
  rw [xl_eq, h1]
  dsimp only
  rw [show Nat.blt w'.length 999999 = true from Nat.blt_eq.mpr h2]
end HRZ
/-- a call that may throw -/
def cX (f : List Value → sW → Option sR) (av : List Value) (w : sW) : Prop := ∃ (w' : sW) (v : Int) (n m : Nat), f av w = some (some (hI v), w', n, m) ∧ (n ≤ 1 ∧ m ≤ 6) ∧ BI w' ∧ w'.length = w.length ∧ kF w w' ∧ kp w w'
theorem c_L_signer {kn : sKn} {w : sW} (h : BI w) (x1 : Int) (hx1 : R32 x1) (x2 : Int) (hx2 : R32 x2) : cX (fL_signer kn) [.ref 0, hI x1, hI x2, .ref 241] w := by
  have hlen := bi_len h
  have hw := h.1
  obtain ⟨f0, p0, _⟩ := p_12 hw
  have hlv : wL w.length (lv_args 0 [.ref 0, hI x1, hI x2, .ref 241]) := wq_args (wl_c (wfr (by omega)) (wl_c rfl (wl_c rfl (wl_c (wfr (by omega)) wl_n))))
  have K : Tp (tL_signer kn) (fun r => ∃ (w1 : sW) (v : Int) (n m : Nat), r = (some (hI v), w1, n, m) ∧ (n ≤ 1 ∧ m ≤ 6) ∧ BI w1 ∧ w1.length = w.length ∧ kF w w1 ∧ kp w w1) 0 (lv_args 0 [.ref 0, hI x1, hI x2, .ref 241], [], w, 0, 0) := by
    refine r_aload rfl rfl ?_
    refine r_intv k_0 rfl ?_
    refine r_aload rfl rfl ?_
    refine r_iload rfl rfl ?_
    refine r_iload rfl rfl ?_
    obtain ⟨r, e, hr⟩ := s_signer7 (kn := kn) hw x1 hx1 x2 hx2
    have hst : wV w.length [hI 0, .ref 241] := wl_c rfl (wl_c (wfr (by omega)) wl_n)
    rcases hr with ⟨b, rfl⟩ | rfl
    · refine r_cVXv (na := 3) rfl (cok rfl rfl hlv hst) rfl p0 e ?_
      refine h_i2l rfl (fun j => ?_)
      refine h_last 0 rfl (hO_rf hw : hO [(89, 999)] w w) aj_241 rfl rfl (by omega) (by omega) (fun w1 o1 qb qc => ?_)
      refine r_goto rfl ?_
      refine r_intv k_0 rfl ?_
      refine r_iret rfl ?_
      exact ⟨w1, 0, 0, 0, rfl, by omega, bi_hO h o1 (by decide +kernel), o1.2.1, kF_hO hw o1 (by decide +kernel), kp_hO hw o1 (by decide +kernel) (by decide +kernel)⟩
    · obtain ⟨c, hc, hJ⟩ := h.2.2.1
      refine r_cVXt (na := 3) rfl (cok rfl rfl hlv hst) rfl p0 e (wf_all2 hw hJ h.2.2.2.1) (by omega) ?_
      refine r_astore rfl ?_
      refine r_intv k_1 rfl ?_
      refine r_iret rfl ?_
      exact ⟨w, 1, 1, 6, rfl, by omega, h, rfl, kF_rf w, kp_rf w⟩
  obtain ⟨r, h1, w1, v, n, m, e, h2⟩ := h_meth1 (nL := 5) rfl K
  rw [e] at h1
  exact ⟨w1, v, n, m, h1, h2⟩
theorem c_L_plank {kn : sKn} {w : sW} (h : BI w) (x1 : Int) (hx1 : R32 x1) (x2 : Int) (hx2 : R32 x2) (x3 : Int) (hx3 : R32 x3) : cX (fL_plank kn) [.ref 0, hI x1, hI x2, hI x3, .ref 241] w := by
  have hlen := bi_len h
  have hw := h.1
  obtain ⟨f0, p0, _⟩ := p_12 hw
  have hlv : wL w.length (lv_args 0 [.ref 0, hI x1, hI x2, hI x3, .ref 241]) := wq_args (wl_c (wfr (by omega)) (wl_c rfl (wl_c rfl (wl_c rfl (wl_c (wfr (by omega)) wl_n)))))
  have K : Tp (tL_plank kn) (fun r => ∃ (w1 : sW) (v : Int) (n m : Nat), r = (some (hI v), w1, n, m) ∧ (n ≤ 1 ∧ m ≤ 6) ∧ BI w1 ∧ w1.length = w.length ∧ kF w w1 ∧ kp w w1) 0 (lv_args 0 [.ref 0, hI x1, hI x2, hI x3, .ref 241], [], w, 0, 0) := by
    refine r_aload rfl rfl ?_
    refine r_intv k_0 rfl ?_
    refine r_aload rfl rfl ?_
    refine r_iload rfl rfl ?_
    refine r_iload rfl rfl ?_
    refine r_iload rfl rfl ?_
    obtain ⟨r, e, hr⟩ := s_plank7 (kn := kn) hw x1 hx1 x2 hx2 x3 hx3
    have hst : wV w.length [hI 0, .ref 241] := wl_c rfl (wl_c (wfr (by omega)) wl_n)
    rcases hr with ⟨b, rfl⟩ | rfl
    · refine r_cVXv (na := 4) rfl (cok rfl rfl hlv hst) rfl p0 e ?_
      refine h_i2l rfl (fun j => ?_)
      refine h_last 0 rfl (hO_rf hw : hO [(89, 999)] w w) aj_241 rfl rfl (by omega) (by omega) (fun w1 o1 qb qc => ?_)
      refine r_goto rfl ?_
      refine r_intv k_0 rfl ?_
      refine r_iret rfl ?_
      exact ⟨w1, 0, 0, 0, rfl, by omega, bi_hO h o1 (by decide +kernel), o1.2.1, kF_hO hw o1 (by decide +kernel), kp_hO hw o1 (by decide +kernel) (by decide +kernel)⟩
    · obtain ⟨c, hc, hJ⟩ := h.2.2.1
      refine r_cVXt (na := 4) rfl (cok rfl rfl hlv hst) rfl p0 e (wf_all2 hw hJ h.2.2.2.1) (by omega) ?_
      refine r_astore rfl ?_
      refine r_intv k_1 rfl ?_
      refine r_iret rfl ?_
      exact ⟨w, 1, 1, 6, rfl, by omega, h, rfl, kF_rf w, kp_rf w⟩
  obtain ⟨r, h1, w1, v, n, m, e, h2⟩ := h_meth1 (nL := 6) rfl K
  rw [e] at h1
  exact ⟨w1, v, n, m, h1, h2⟩
theorem c_L_load {kn : sKn} {w : sW} (h : BI w) (x1 : Int) (hx1 : R32 x1) (x2 : Int) (hx2 : R32 x2) : cX (fL_load kn) [.ref 0, hI x1, hI x2, .ref 241] w := by
  have hlen := bi_len h
  have hw := h.1
  obtain ⟨f0, p0, _⟩ := p_12 hw
  have hlv : wL w.length (lv_args 0 [.ref 0, hI x1, hI x2, .ref 241]) := wq_args (wl_c (wfr (by omega)) (wl_c rfl (wl_c rfl (wl_c (wfr (by omega)) wl_n))))
  have K : Tp (tL_load kn) (fun r => ∃ (w1 : sW) (v : Int) (n m : Nat), r = (some (hI v), w1, n, m) ∧ (n ≤ 1 ∧ m ≤ 6) ∧ BI w1 ∧ w1.length = w.length ∧ kF w w1 ∧ kp w w1) 0 (lv_args 0 [.ref 0, hI x1, hI x2, .ref 241], [], w, 0, 0) := by
    refine r_aload rfl rfl ?_
    refine r_intv k_0 rfl ?_
    refine r_aload rfl rfl ?_
    refine r_iload rfl rfl ?_
    refine r_iload rfl rfl ?_
    obtain ⟨r, e, hr⟩ := s_load7 (kn := kn) hw x1 hx1 x2 hx2
    have hst : wV w.length [hI 0, .ref 241] := wl_c rfl (wl_c (wfr (by omega)) wl_n)
    rcases hr with ⟨b, rfl⟩ | rfl
    · refine r_cVXv (na := 3) rfl (cok rfl rfl hlv hst) rfl p0 e ?_
      refine h_i2l rfl (fun j => ?_)
      refine h_last 0 rfl (hO_rf hw : hO [(89, 999)] w w) aj_241 rfl rfl (by omega) (by omega) (fun w1 o1 qb qc => ?_)
      refine r_goto rfl ?_
      refine r_intv k_0 rfl ?_
      refine r_iret rfl ?_
      exact ⟨w1, 0, 0, 0, rfl, by omega, bi_hO h o1 (by decide +kernel), o1.2.1, kF_hO hw o1 (by decide +kernel), kp_hO hw o1 (by decide +kernel) (by decide +kernel)⟩
    · obtain ⟨c, hc, hJ⟩ := h.2.2.1
      refine r_cVXt (na := 3) rfl (cok rfl rfl hlv hst) rfl p0 e (wf_all2 hw hJ h.2.2.2.1) (by omega) ?_
      refine r_astore rfl ?_
      refine r_intv k_1 rfl ?_
      refine r_iret rfl ?_
      exact ⟨w, 1, 1, 6, rfl, by omega, h, rfl, kF_rf w, kp_rf w⟩
  obtain ⟨r, h1, w1, v, n, m, e, h2⟩ := h_meth1 (nL := 5) rfl K
  rw [e] at h1
  exact ⟨w1, v, n, m, h1, h2⟩
end
