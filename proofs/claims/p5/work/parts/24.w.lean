noncomputable section
/-- the names of the plan in cell c, beside the reference's in cell nc from e on; how many there are is told in cell hc from d on -/
def pN (w : sW) (c hc d nc e : Nat) : Prop := (∀ s : Nat, (s : Int) < gX w hc (d + 1) → ∃ N : Int, (0 ≤ N ∧ N < 27 ^ 7) ∧ gY w nc (e + s) = Int64.ofInt N ∧ gY w (c + 1) s = Int64.ofInt (c32 7 N)) ∧ ∀ l : Nat, (l : Int) < gX w hc (d + 2) → ∃ N : Int, (0 ≤ N ∧ N < 27 ^ 7) ∧ gY w nc (e + (10 + l)) = Int64.ofInt N ∧ gY w (c + 7) l = Int64.ofInt (c32 7 N)
/-- a plan of the class and the reference's say the same -/
def pE (w : sW) (c hc d nc e : Nat) : Prop := (gF w c 0 = gX w hc (d + 0) ∧ gF w c 2 = gX w hc (d + 1) ∧ gF w c 3 = gX w hc (d + 2) ∧ gF w c 4 = gX w hc (d + 3) ∧ gF w c 1 = gX w hc (d + 4)) ∧ (gX w hc (d + 1) ≤ 10 ∧ gX w hc (d + 2) ≤ 6) ∧ pN w c hc d nc e
theorem pE_tr {w w' : sW} {c hc d nc e c' hc' d' nc' e' : Nat} (h1 : ∀ f, f < 5 → gF w' c' f = gF w c f) (h2 : ∀ j, j < 5 → gX w' hc' (d' + j) = gX w hc (d + j)) (h3 : ∀ j, gY w' (c' + 1) j = gY w (c + 1) j) (h4 : ∀ j, gY w' (c' + 7) j = gY w (c + 7) j) (h5 : ∀ j, j < 16 → gY w' nc' (e' + j) = gY w nc (e + j)) (h : pE w c hc d nc e) : pE w' c' hc' d' nc' e' := by
  obtain ⟨⟨a1, a2, a3, a4, a5⟩, ⟨b1, b2⟩, n1, n2⟩ := h
  refine ⟨⟨?_, ?_, ?_, ?_, ?_⟩, ⟨?_, ?_⟩, fun s hs => ?_, fun l hl => ?_⟩
  · rw [h1 0 (by omega), h2 0 (by omega)]
    exact a1
  · rw [h1 2 (by omega), h2 1 (by omega)]
    exact a2
  · rw [h1 3 (by omega), h2 2 (by omega)]
    exact a3
  · rw [h1 4 (by omega), h2 3 (by omega)]
    exact a4
  · rw [h1 1 (by omega), h2 4 (by omega)]
    exact a5
  · rw [h2 1 (by omega)]
    exact b1
  · rw [h2 2 (by omega)]
    exact b2
  · rw [h2 1 (by omega)] at hs
    obtain ⟨N, r, y1, y2⟩ := n1 s hs
    exact ⟨N, r, (h5 s (by omega)).trans y1, (h3 s).trans y2⟩
  · rw [h2 2 (by omega)] at hl
    obtain ⟨N, r, y1, y2⟩ := n2 l hl
    exact ⟨N, r, (h5 (10 + l) (by omega)).trans y1, (h4 l).trans y2⟩
def JS (w : sW) : Prop := (∀ c, cpl c → plX w c) ∧ pA w ∧ ∀ f : Nat, f < 2 → gX w 103 f = gX w 223 f
def jE (w : sW) : Prop := pE w 14 215 0 220 0 ∧ ∀ f : Nat, f < 2 → gX w 223 f = 1 → pE w (167 + 23 * f) 217 (438 * f) 222 (16 * f)
/-- the plan that stands and both images are the same for class and reference -/
def JC (w : sW) : Prop := JS w ∧ jE w
def kA (w w' : sW) : Prop := (∀ j, gQa w' 100 j = gQa w 100 j) ∧ ∀ j, j < 2 → gX w' 103 j = gX w 103 j
/-- the class's side of it is as it was -/
def kC (w w' : sW) : Prop := pkC w w' ∧ kA w w'
/-- the reference's side of it is as it was -/
def kR (w w' : sW) : Prop := (∀ j, j < 5 → gX w' 215 j = gX w 215 j) ∧ (∀ j, gX w' 217 j = gX w 217 j) ∧ (∀ j, gX w' 223 j = gX w 223 j) ∧ (∀ j, gY w' 220 j = gY w 220 j) ∧ ∀ j, gY w' 222 j = gY w 222 j
def kI (w w' : sW) : Prop := (∀ j, gX w' 217 j = gX w 217 j) ∧ (∀ j, gX w' 223 j = gX w 223 j) ∧ ∀ j, gY w' 222 j = gY w 222 j
def jA (D : List (Nat × Nat)) : Bool := mIn D 57 999 || mIn D 60 999
def jD (D : List (Nat × Nat)) : Bool := cD D || jA D
def jI (D : List (Nat × Nat)) : Bool := mIn D 65 999 || (mIn D 71 999 || mIn D 70 999)
def jR (D : List (Nat × Nat)) : Bool := mIn D 61 779 || (mIn D 68 999 || jI D)
theorem kC_rf (w : sW) : kC w w := ⟨pkC_rf w, fun _ => rfl, fun _ _ => rfl⟩
theorem kR_rf (w : sW) : kR w w := ⟨fun _ _ => rfl, fun _ => rfl, fun _ => rfl, fun _ => rfl, fun _ => rfl⟩
theorem kA_hO {D : List (Nat × Nat)} {w w' : sW} (o : hO D w w') (h : jA D = false) : kA w w' := by
  unfold jA at h
  rw [Bool.or_eq_false_iff] at h
  exact ⟨fun j => fr_gQa o.2 (show ztau 100 = some 57 from rfl) h.1 j, fun j _ => fr_gX2 o.2 (show ztau 103 = some 60 from rfl) h.2 j⟩
theorem kC_hO {D : List (Nat × Nat)} {w w' : sW} (hw : wOk ZZ w) (o : hO D w w') (h : jD D = false) : kC w w' := by
  unfold jD at h
  rw [Bool.or_eq_false_iff] at h
  exact ⟨pkC_hO hw o h.1, kA_hO o h.2⟩
theorem kI_hO {D : List (Nat × Nat)} {w w' : sW} (o : hO D w w') (h : jI D = false) : kI w w' := by
  unfold jI at h
  rw [Bool.or_eq_false_iff, Bool.or_eq_false_iff] at h
  exact ⟨fun j => fr_gX2 o.2 (show ztau 217 = some 65 from rfl) h.1 j, fun j => fr_gX2 o.2 (show ztau 223 = some 71 from rfl) h.2.1 j, fun j => fr_gY o.2 (show ztau 222 = some 70 from rfl) h.2.2 j⟩
/-- now's head is shown apart -/
theorem kR_hX {D : List (Nat × Nat)} {w w' : sW} (o : hO D w w') (g : ∀ j, j < 5 → gX w' 215 j = gX w 215 j) (h : (mIn D 68 999 || jI D) = false) : kR w w' := by
  rw [Bool.or_eq_false_iff] at h
  obtain ⟨i1, i2, i3⟩ := kI_hO o h.2
  exact ⟨g, i1, i2, fun j => fr_gY o.2 (show ztau 220 = some 68 from rfl) h.1 j, i3⟩
theorem kR_hO {D : List (Nat × Nat)} {w w' : sW} (o : hO D w w') (h : jR D = false) : kR w w' := by
  unfold jR at h
  rw [Bool.or_eq_false_iff] at h
  exact kR_hX o (fun j hj => hw_of o h.1 hj) h.2
theorem jc_k {w w' : sW} (k : kC w w') (r : kR w w') (h : JC w) : JC w' := by
  obtain ⟨⟨s1, s2, s3⟩, e1, e2⟩ := h
  obtain ⟨⟨p, q⟩, ga, gx⟩ := k
  obtain ⟨r1, r2, r3, r4, r5⟩ := r
  refine ⟨⟨fun c hc => plX_rk hc q (s1 c hc), ⟨(ga 0).trans s2.1, (ga 1).trans s2.2⟩, fun f hf => (gx f hf).trans ((s3 f hf).trans (r3 f).symm)⟩, ?_, fun f hf g => ?_⟩
  · obtain ⟨p1, p2, p3⟩ := p 14 (Or.inl rfl)
    exact pE_tr p1 (fun j hj => by rw [Nat.zero_add]; exact r1 j hj) p2 p3 (fun j _ => r4 _) e1
  · obtain ⟨p1, p2, p3⟩ := p (167 + 23 * f) (cpl_n (by omega))
    exact pE_tr p1 (fun j _ => r2 _) p2 p3 (fun j _ => r5 _) (e2 f hf ((r3 f).symm.trans g))
theorem jc_bridge {Z : zE ⊕ (Int × zZ)} {w w1 w2 : sW} (h : JC w) (b : brC Z w w1) (a : kA w w1) (r : kR w w1) (c : kC w1 w2) (d : brR Z w1 w2) (i : kI w1 w2) : JC w2 := by
  cases Z with
  | inl e =>
    rw [brC_l] at b
    rw [brR_l] at d
    exact jc_k c ⟨fun j _ => d.2.1 j, i.1, i.2.1, d.2.2, i.2.2⟩ (jc_k ⟨b, a⟩ r h)
  | inr q =>
    rw [brC_r] at b
    rw [brR_r] at d
    obtain ⟨b1, b2, b3⟩ := b
    obtain ⟨⟨d1, d2, d3⟩, zR⟩ := d
    obtain ⟨⟨s1, s2, s3⟩, e1, e2⟩ := h
    obtain ⟨⟨cp, cr⟩, cA, cx⟩ := c
    obtain ⟨r1, r2, r3, r4, r5⟩ := r
    obtain ⟨i1, i2, i3⟩ := i
    obtain ⟨⟨f0, f1, f2, f3, f4⟩, n1, n2⟩ := b1
    obtain ⟨p1, p2, p3⟩ := cp 14 (Or.inl rfl)
    refine ⟨⟨fun c hc => plX_rk hc cr (plX_rk hc b3 (s1 c hc)), ⟨((cA 0).trans (a.1 0)).trans s2.1, ((cA 1).trans (a.1 1)).trans s2.2⟩, fun f hf => ((cx f hf).trans (a.2 f hf)).trans ((s3 f hf).trans ((i2 f).trans (r3 f)).symm)⟩, ⟨⟨?_, ?_, ?_, ?_, ?_⟩, ⟨?_, ?_⟩, fun s hs => ?_, fun l hl => ?_⟩, fun f hf g => ?_⟩
    · exact ((p1 0 (by omega)).trans f0).trans (d1 0 (by omega)).symm
    · exact ((p1 2 (by omega)).trans f1).trans (d1 1 (by omega)).symm
    · exact ((p1 3 (by omega)).trans f2).trans (d1 2 (by omega)).symm
    · exact ((p1 4 (by omega)).trans f3).trans (d1 3 (by omega)).symm
    · exact ((p1 1 (by omega)).trans f4).trans (d1 4 (by omega)).symm
    · rw [show gX w2 215 (0 + 1) = q.2.2.1 1 from d1 1 (by omega)]
      exact zR.2.1.2
    · rw [show gX w2 215 (0 + 2) = q.2.2.1 2 from d1 2 (by omega)]
      exact zR.2.2.1.2
    · rw [show gX w2 215 (0 + 1) = q.2.2.1 1 from d1 1 (by omega)] at hs
      obtain ⟨y1, y2, y3⟩ := n1 s hs
      obtain ⟨z1, _, _⟩ := d2 s hs
      exact ⟨q.2.2.2.1 s, ⟨y2, y3⟩, by rw [Nat.zero_add]; exact z1, (p2 s).trans y1⟩
    · rw [show gX w2 215 (0 + 2) = q.2.2.1 2 from d1 2 (by omega)] at hl
      obtain ⟨y1, y2, y3⟩ := n2 l hl
      obtain ⟨z1, _, _⟩ := d3 l hl
      exact ⟨q.2.2.2.1 (10 + l), ⟨y2, y3⟩, by rw [Nat.zero_add]; exact z1, (p3 l).trans y1⟩
    · obtain ⟨m1, m2, m3⟩ := b2 (167 + 23 * f) (cpl_n (by omega)) (by omega)
      obtain ⟨k1, k2, k3⟩ := cp (167 + 23 * f) (cpl_n (by omega))
      exact pE_tr (fun f' hf' => (k1 f' hf').trans (m1 f' hf')) (fun j _ => (i1 _).trans (r2 _)) (fun j => (k2 j).trans (m2 j)) (fun j => (k3 j).trans (m3 j)) (fun j _ => (i3 _).trans (r5 _)) (e2 f hf (((i2 f).trans (r3 f)).symm.trans g))
theorem fl2_lt {w w' : sW} {c : Nat} (h : fl2 w w' c) : ∀ j, j < 2 → gX w' c j = gX w c j := by
  intro j hj
  rcases (by omega : j = 0 ∨ j = 1) with rfl | rfl
  · exact h.1
  · exact h.2
def imC (w w1 : sW) (x b : Int) : Prop := (b = 0 ∧ (x < 0 ∨ 1 < x) ∧ fl2 w w1 103 ∧ pkC w w1) ∨ (b = 1 ∧ ∃ e : Nat, e ≤ 1 ∧ x = (e : Int) ∧ fl1 w w1 103 e ∧ cpP w w1 (167 + 23 * e) 14)
def rtC (w w1 : sW) (x b : Int) : Prop := (b = 0 ∧ (x < 0 ∨ 1 < x ∨ (x = 0 ∧ gX w 103 0 = 0) ∨ (x = 1 ∧ gX w 103 1 = 0)) ∧ pkC w w1) ∨ (b = 1 ∧ ∃ e : Nat, e ≤ 1 ∧ x = (e : Int) ∧ gX w 103 e = 1 ∧ cpP w w1 14 (167 + 23 * e))
theorem jc_image {w w1 w2 : sW} {x b b' : Int} (h : JC w) (a : imC w w1 x b) (ga : ∀ j, gQa w1 100 j = gQa w 100 j) (r : kR w w1) (q : imQ w1 w2 x b') (g1 : b' = 1 ↔ 0 ≤ x ∧ x ≤ 1) (g2 : b' = 1 → gX w2 223 x.toNat = 1) (g3 : ∀ j : Nat, (b' = 1 → (j : Int) ≠ x) → gX w2 223 j = gX w1 223 j) (c : kC w1 w2) (k1 : ∀ j, j < 5 → gX w2 215 j = gX w1 215 j) (k2 : ∀ j, gY w2 220 j = gY w1 220 j) : JC w2 := by
  rcases a with ⟨hb, hx, fl, pk⟩ | ⟨hb, e, he, hxe, fl, cp⟩
  · have hb' : ¬ b' = 1 := fun z => by
      have := g1.mp z
      omega
    rcases q with ⟨_, q1, q2⟩ | ⟨q0, _⟩
    · exact jc_k c ⟨k1, q1, fun j => g3 j (fun z => absurd z hb'), k2, q2⟩ (jc_k ⟨pk, ga, fl2_lt fl⟩ r h)
    · exact absurd q0 hb'
  · have hb' : b' = 1 := g1.mpr (by omega)
    have G2 := g2 hb'
    rw [show x.toNat = e by omega] at G2
    rcases q with ⟨q0, _⟩ | ⟨_, e', he', hx', q1, q2, q3, q4, q5⟩
    · omega
    · have ee : e' = e := by omega
      rw [ee] at q1 q2 q3 q4
      obtain ⟨⟨s1, s2, s3⟩, e1, e2⟩ := h
      obtain ⟨r1, r2, r3, r4, r5⟩ := r
      obtain ⟨c1, c2, c3, c4, c5⟩ := cp
      obtain ⟨⟨cp, cr⟩, cA, cx⟩ := c
      obtain ⟨f1, f2⟩ := fl
      have hn : ∀ f, f < 2 → f ≠ e → gX w2 223 f = gX w 223 f := fun f hf hn => (g3 f (fun _ z => hn (by omega))).trans (r3 f)
      refine ⟨⟨fun c hc => plX_rk hc cr (plX_rk hc c5 (s1 c hc)), ⟨((cA 0).trans (ga 0)).trans s2.1, ((cA 1).trans (ga 1)).trans s2.2⟩, fun f hf => ?_⟩, ?_, fun f hf g => ?_⟩
      · rw [cx f hf]
        by_cases ef : f = e
        · rw [ef, f1, G2]
        · rw [hn f hf ef, show f = 1 - e by omega, f2]
          exact s3 _ (by omega)
      · obtain ⟨p1, p2, p3⟩ := c4 14 (Or.inl rfl) (by omega)
        obtain ⟨t1, t2, t3⟩ := cp 14 (Or.inl rfl)
        exact pE_tr (fun f' hf' => (t1 f' hf').trans (p1 f' hf')) (fun j hj => by rw [Nat.zero_add]; exact (k1 j hj).trans (r1 j hj)) (fun j => (t2 j).trans (p2 j)) (fun j => (t3 j).trans (p3 j)) (fun j _ => (k2 _).trans (r4 _)) e1
      · obtain ⟨t1, t2, t3⟩ := cp (167 + 23 * f) (cpl_n (by omega))
        by_cases ef : f = e
        · subst ef
          refine pE_tr (c := 14) (hc := 215) (d := 0) (nc := 220) (e := 0) (fun f' hf' => (t1 f' hf').trans (c1 f' hf')) (fun j hj => ?_) (fun j => (t2 j).trans (c2 j)) (fun j => (t3 j).trans (c3 j)) (fun j hj => ?_) e1
          · rw [Nat.zero_add, q1 j hj]
            exact r1 j hj
          · rw [Nat.zero_add, q3 j hj]
            exact r4 j
        · obtain ⟨p1, p2, p3⟩ := c4 (167 + 23 * f) (cpl_n (by omega)) (by omega)
          exact pE_tr (fun f' hf' => (t1 f' hf').trans (p1 f' hf')) (fun j hj => (q2 f hf ef j hj).trans (r2 _)) (fun j => (t2 j).trans (p2 j)) (fun j => (t3 j).trans (p3 j)) (fun j hj => (q4 f hf ef j hj).trans (r5 _)) (e2 f hf ((hn f hf ef).symm.trans g))
theorem jc_restore {w w1 w2 : sW} {x b b' : Int} (h : JC w) (a : rtC w w1 x b) (A : kA w w1) (r : kR w w1) (q : rtQ w1 w2 x b') (g : b' = 1 ↔ (0 ≤ x ∧ x ≤ 1) ∧ gX w1 223 x.toNat = 1) (c : kC w1 w2) (i : kI w1 w2) : JC w2 := by
  rcases a with ⟨hb, hx, pk⟩ | ⟨hb, e, he, hxe, fg, cp⟩
  · have hb' : ¬ b' = 1 := fun z => by
      obtain ⟨z1, z2⟩ := g.mp z
      obtain ⟨⟨_, _, s3⟩, _⟩ := h
      rcases hx with z3 | z3 | ⟨z3, z4⟩ | ⟨z3, z4⟩
      · omega
      · omega
      · rw [z3] at z2
        have z2 : gX w1 223 0 = 1 := z2
        have y1 := r.2.2.1 0
        have y2 := s3 0 (by omega)
        omega
      · rw [z3] at z2
        have z2 : gX w1 223 1 = 1 := z2
        have y1 := r.2.2.1 1
        have y2 := s3 1 (by omega)
        omega
    rcases q with ⟨_, q1, q2⟩ | ⟨q0, _⟩
    · exact jc_k c ⟨fun j _ => q1 j, i.1, i.2.1, q2, i.2.2⟩ (jc_k ⟨pk, A⟩ r h)
    · exact absurd q0 hb'
  · obtain ⟨⟨s1, s2, s3⟩, e1, e2⟩ := h
    obtain ⟨r1, r2, r3, r4, r5⟩ := r
    have fg2 : gX w 223 e = 1 := (s3 e (by omega)).symm.trans fg
    have hb' : b' = 1 := g.mpr ⟨by omega, by rw [show x.toNat = e by omega, r3 e]; exact fg2⟩
    rcases q with ⟨q0, _⟩ | ⟨_, e', he', hx', q0, q1, q2, q3⟩
    · omega
    · have ee : e' = e := by omega
      rw [ee] at q1 q2
      obtain ⟨c1, c2, c3, c4, c5⟩ := cp
      obtain ⟨⟨cp, cr⟩, cA, cx⟩ := c
      obtain ⟨i1, i2, i3⟩ := i
      refine ⟨⟨fun c hc => plX_rk hc cr (plX_rk hc c5 (s1 c hc)), ⟨((cA 0).trans (A.1 0)).trans s2.1, ((cA 1).trans (A.1 1)).trans s2.2⟩, fun f hf => ((cx f hf).trans (A.2 f hf)).trans ((s3 f hf).trans ((i2 f).trans (r3 f)).symm)⟩, ?_, fun f hf g => ?_⟩
      · obtain ⟨t1, t2, t3⟩ := cp 14 (Or.inl rfl)
        refine pE_tr (c := 167 + 23 * e) (hc := 217) (d := 438 * e) (nc := 222) (e := 16 * e) (fun f' hf' => (t1 f' hf').trans (c1 f' hf')) (fun j hj => ?_) (fun j => (t2 j).trans (c2 j)) (fun j => (t3 j).trans (c3 j)) (fun j hj => ?_) (e2 e (by omega) fg2)
        · rw [Nat.zero_add, q1 j hj]
          exact r2 _
        · rw [Nat.zero_add, q2 j hj]
          exact r5 _
      · obtain ⟨t1, t2, t3⟩ := cp (167 + 23 * f) (cpl_n (by omega))
        obtain ⟨p1, p2, p3⟩ := c4 (167 + 23 * f) (cpl_n (by omega)) (by omega)
        exact pE_tr (fun f' hf' => (t1 f' hf').trans (p1 f' hf')) (fun j _ => (i1 _).trans (r2 _)) (fun j => (t2 j).trans (p2 j)) (fun j => (t3 j).trans (p3 j)) (fun j _ => (i3 _).trans (r5 _)) (e2 f hf (((i2 f).trans (r3 f)).symm.trans g))
theorem cnt_eq {w : sW} (h : JC w) (ht : gF w 1 1 = gF w 213 2) (x : Int) : cntC w x = cntR w x := by
  obtain ⟨_, ⟨⟨a1, a2, a3, a4, a5⟩, _⟩, _⟩ := h
  unfold cntC cntR
  rw [show gF w 14 0 = gX w 215 0 from a1, show gF w 14 2 = gX w 215 1 from a2, show gF w 14 3 = gX w 215 2 from a3, show gF w 14 4 = gX w 215 3 from a4, show gF w 14 1 = gX w 215 4 from a5, ht]
theorem cntR_k {w w1 : sW} (r : kR w w1) (h : gF w1 213 2 = gF w 213 2) (x : Int) : cntR w1 x = cntR w x := by
  unfold cntR
  rw [r.1 0 (by omega), r.1 1 (by omega), r.1 2 (by omega), r.1 3 (by omega), r.1 4 (by omega), h]
theorem kCR_bd {w w' : sW} (g : ∀ c, (c ≤ 96 ∨ (99 ≤ c ∧ c ≤ 241)) → w'[c]? = w[c]?) : kC w w' ∧ kR w w' := by
  have F : ∀ c k, (c ≤ 96 ∨ (99 ≤ c ∧ c ≤ 241)) → gF w' c k = gF w c k := fun c k hc => by
    unfold gF
    rw [g c hc]
  have R : ∀ c k, (c ≤ 96 ∨ (99 ≤ c ∧ c ≤ 241)) → gR w' c k = gR w c k := fun c k hc => by
    unfold gR
    rw [g c hc]
  have X : ∀ c k, (c ≤ 96 ∨ (99 ≤ c ∧ c ≤ 241)) → gX w' c k = gX w c k := fun c k hc => by
    unfold gX
    rw [g c hc]
  have Y : ∀ c k, (c ≤ 96 ∨ (99 ≤ c ∧ c ≤ 241)) → gY w' c k = gY w c k := fun c k hc => by
    unfold gY
    rw [g c hc]
  have A : ∀ c k, (c ≤ 96 ∨ (99 ≤ c ∧ c ≤ 241)) → gQa w' c k = gQa w c k := fun c k hc => by
    unfold gQa
    rw [g c hc]
  refine ⟨⟨⟨fun c hc => ?_, fun c hc k hk => ?_⟩, fun j => A _ _ (by omega), fun j _ => X _ _ (by omega)⟩, fun j _ => X _ _ (by omega), fun j => X _ _ (by omega), fun j => X _ _ (by omega), fun j => Y _ _ (by omega), fun j => Y _ _ (by omega)⟩
  · rcases hc with rfl | rfl | rfl
    · exact ⟨fun f _ => F _ _ (by omega), fun j => Y _ _ (by omega), fun j => Y _ _ (by omega)⟩
    · exact ⟨fun f _ => F _ _ (by omega), fun j => Y _ _ (by omega), fun j => Y _ _ (by omega)⟩
    · exact ⟨fun f _ => F _ _ (by omega), fun j => Y _ _ (by omega), fun j => Y _ _ (by omega)⟩
  · rcases hc with rfl | rfl | rfl
    · exact R _ _ (by omega)
    · exact R _ _ (by omega)
    · exact R _ _ (by omega)
end
