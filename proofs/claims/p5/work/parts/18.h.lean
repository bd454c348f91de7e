noncomputable section
def zcl : List (Nat × Nat) := [(213, 61), (215, 63), (24, 15), (55, 15), (67, 15), (82, 15), (89, 15), (104, 15), (111, 15), (118, 15), (125, 15), (132, 15), (139, 15), (146, 15), (153, 15), (160, 15), (177, 15), (200, 15), (28, 19), (59, 19), (71, 19), (86, 19), (93, 19), (108, 19), (115, 19), (122, 19), (129, 19), (136, 19), (143, 19), (150, 19), (157, 19), (164, 19), (181, 19), (204, 19), (4, 5), (14, 5), (167, 5), (190, 5), (224, 72), (225, 73), (1, 2), (2, 3), (31, 22), (37, 22), (184, 22), (207, 22), (216, 64), (214, 62), (0, 1), (3, 4), (5, 6), (15, 6), (168, 6), (191, 6), (6, 7), (16, 7), (169, 7), (192, 7), (7, 8), (17, 8), (170, 8), (193, 8), (8, 9), (18, 9), (171, 9), (194, 9), (9, 10), (19, 10), (172, 10), (195, 10), (10, 11), (20, 11), (173, 11), (196, 11), (11, 12), (21, 12), (174, 12), (197, 12), (12, 13), (22, 13), (175, 13), (198, 13), (13, 14), (23, 14), (176, 14), (199, 14), (25, 16), (56, 16), (68, 16), (83, 16), (90, 16), (105, 16), (112, 16), (119, 16), (126, 16), (133, 16), (140, 16), (147, 16), (154, 16), (161, 16), (178, 16), (201, 16), (26, 17), (57, 17), (69, 17), (84, 17), (91, 17), (106, 17), (113, 17), (120, 17), (127, 17), (134, 17), (141, 17), (148, 17), (155, 17), (162, 17), (179, 17), (202, 17), (27, 18), (58, 18), (70, 18), (85, 18), (92, 18), (107, 18), (114, 18), (121, 18), (128, 18), (135, 18), (142, 18), (149, 18), (156, 18), (163, 18), (180, 18), (203, 18), (29, 20), (60, 20), (72, 20), (87, 20), (94, 20), (109, 20), (116, 20), (123, 20), (130, 20), (137, 20), (144, 20), (151, 20), (158, 20), (165, 20), (182, 20), (205, 20), (30, 21), (61, 21), (73, 21), (88, 21), (95, 21), (110, 21), (117, 21), (124, 21), (131, 21), (138, 21), (145, 21), (152, 21), (159, 21), (166, 21), (183, 21), (206, 21), (32, 23), (38, 23), (185, 23), (208, 23), (33, 24), (39, 24), (186, 24), (209, 24), (34, 25), (40, 25), (187, 25), (210, 25), (35, 26), (41, 26), (188, 26), (211, 26), (36, 27), (42, 27), (189, 27), (212, 27), (43, 28), (44, 29), (45, 30), (46, 31), (47, 32), (48, 33), (49, 34), (50, 35), (51, 36), (52, 37), (53, 38), (54, 39), (62, 40), (63, 41), (64, 42), (65, 43), (66, 44), (74, 45), (75, 46), (76, 47), (77, 48), (78, 49), (79, 50), (80, 51), (81, 52), (96, 53), (99, 56), (100, 57), (101, 58), (102, 59), (103, 60), (217, 65), (218, 66), (219, 67), (220, 68), (221, 69), (222, 70), (223, 71), (226, 74), (227, 75), (228, 76), (229, 77), (230, 78), (231, 79), (232, 80), (233, 81), (234, 82), (235, 83), (236, 84), (237, 85), (238, 86), (239, 87), (240, 88), (241, 89)]
theorem zt_mem {k t : Nat} (h : ztau k = some t) : (k, t) ∈ zcl := eg_mem (show eg zcl k = some t from h)
theorem zt_lt {k t : Nat} (h : ztau k = some t) (ht : t ≠ 89) : k < 241 := (by decide +kernel : ∀ q ∈ zcl, q.2 ≠ 89 → q.1 < 241) _ (zt_mem h) ht
theorem zt_22 {k : Nat} (h : ztau k = some 22) : k = 31 ∨ k = 37 ∨ k = 184 ∨ k = 207 := (by decide +kernel : ∀ q ∈ zcl, q.2 = 22 → q.1 = 31 ∨ q.1 = 37 ∨ q.1 = 184 ∨ q.1 = 207) _ (zt_mem h) rfl
theorem tw {k t : Nat} (h : ztau k = some t) (ht : t ≠ 89 := by decide) : wfV 241 (.ref k) = true := by
  have := zt_lt h ht
  show (Nat.blt k 241 || Nat.ble 1000000 k) = true
  rw [Nat.blt_eq.mpr this]
  rfl
theorem zt_ne {a b t u : Nat} (h : ztau a = some t) (h2 : ztau b = some u) (hn : t ≠ u) : a ≠ b := fun e => by
  rw [e, h2] at h
  cases h
  exact hn rfl
def fRt (t ci kf : Nat) : Option Nat := match fty ZZ t ci kf with
  | some (2, .inr t2) => some t2
  | _ => none
def fIt (t ci kf : Nat) : Option (Int × Int) := match fty ZZ t ci kf with
  | some (0, .inl q) => match zle (-2147483648) q.1 with
    | true => match zle q.2 2147483647 with
      | true => some q
      | false => none
    | false => none
  | _ => none
theorem fI_of {c t ci kf : Nat} {lo hi : Int} (hc : ztau c = some t) (h : fIt t ci kf = some (lo, hi)) : fI c ci kf = some (t, lo, hi) := by
  unfold fI
  rw [hc]
  try dsimp only
  unfold fIt at h
  split at h
  · rename_i q hq
    rw [hq]
    show (match zle (-2147483648) q.1 with
      | true => match zle q.2 2147483647 with
        | true => some (t, q)
        | false => none
      | false => none) = _
    split at h
    · rename_i c1
      try rw [c1]
      try dsimp only
      split at h
      · rename_i c2
        try rw [c2]
        cases h
        rfl
      · cases h
    · cases h
  · cases h
def aIt (t : Nat) : Option Nat := match aty ZZ t with
  | some q => match Nat.beq q.1 1 with
    | true => some q.2.1
    | false => none
  | none => none
theorem aI_of {c t n : Nat} (hc : ztau c = some t) (h : aIt t = some n) : aI c = some (t, n) := by
  unfold aI
  rw [hc]
  try dsimp only
  unfold aIt at h
  split at h
  · rename_i q hq
    rw [hq]
    try dsimp only
    split at h
    · rename_i c1
      try rw [c1]
      cases h
      rfl
    · cases h
  · cases h
def aSt (t : Nat) : List (Nat × eE) := match aty ZZ t with
  | some q => q.2.2
  | none => []
theorem aSg_of {c t : Nat} (hc : ztau c = some t) : aSg c = aSt t := by
  unfold aSg
  rw [hc]
  rfl
def aRt (t a n : Nat) (lo hi : Int) : Bool := xa (fun j => match sga (aSt t) (a + j) with
  | some (.inl q) => match zle lo q.1 with
    | true => zle q.2 hi
    | false => false
  | _ => false) (List.range n)
def aPt (t a n : Nat) (lo hi : Int) : Bool := xa (fun j => match sga (aSt t) (a + j) with
  | some (.inl q) => match zle q.1 lo with
    | true => zle hi q.2
    | false => false
  | _ => false) (List.range n)
theorem aR_of {c t a n : Nat} {lo hi : Int} (hc : ztau c = some t) (h : aRt t a n lo hi = true) : aR c a n lo hi = true := by
  unfold aR
  rw [aSg_of hc]
  exact h
theorem aP_of {c t a n : Nat} {lo hi : Int} (hc : ztau c = some t) (h : aPt t a n lo hi = true) : aP c a n lo hi = true := by
  unfold aP
  rw [aSg_of hc]
  exact h
def cIt (t : Nat) : Option Nat := match zly t with
  | some (.inr q) => some q.1
  | _ => none
theorem cI_of {c t ci : Nat} (hc : ztau c = some t) (h : cIt t = some ci) : cIs c = some ci := by
  unfold cIs
  rw [hc]
  exact h
theorem gR_at {w : sW} {c kf k ci : Nat} {fs : List Value} (h : w[c]? = some (.inr (ci, fs))) (hf : fs[kf]? = some (.ref k)) : gR w c kf = k := by
  unfold gR
  rw [h]
  try dsimp only
  rw [hf]
/-- what a frame says of references -/
theorem fr_gR {D : List (Nat × Nat)} {w w' : sW} {c t kf : Nat} (h : frOk ZZ D w w') (hc : ztau c = some t) (hm : mIn D t kf = false) (hx : cIs c ≠ none) (hw : wOk ZZ w) : gR w' c kf = gR w c kf := by
  cases e : cIs c with
  | none => exact absurd e hx
  | some ci =>
    obtain ⟨fs, w1⟩ := cIs_ok (D := []) (w0 := w) ⟨hw, frOk_rf w⟩ e
    obtain ⟨fs', e1, e2⟩ := (h.2.1 c _ w1).2 t hc
    unfold gR
    rw [w1, e1]
    try dsimp only
    rw [e2 kf (mIn_no hm)]
section HT2
variable {tbl : List (Nat × sA)} {Po : sR → Prop} {pc np : Nat} {lv ps : List (Nat × Value)} {st : List Value} {w w0 : sW} {D : List (Nat × Nat)} {kn : sKn}
theorem h_getT {ci kf c t t2 : Nat} (ha : t_get tbl pc = some (a_get ci kf np)) (ho : hO D w0 w) (hc : ztau c = some t) (hf : fRt t ci kf = some t2) (g : ∀ k, ztau k = some t2 → gR w c kf = k → Tp tbl Po np (lv, .ref k :: st, w, 0, 0)) : Tp tbl Po pc (lv, .ref c :: st, w, 0, 0) := by
  unfold fRt at hf
  split at hf
  · rename_i t3 hq
    cases hf
    obtain ⟨fs, v, w1, w2, ⟨z, z1, z2⟩, _⟩ := fty_ok ho.1 (show ZZ.2 c = some _ from hc) hq
    obtain ⟨k, rfl, z3⟩ := z1
    obtain ⟨k', z4, z5⟩ := z2
    have e : k' = k := by omega
    subst e
    exact Tp_step ha (fun kk => by simp only [a_get, xg_eq, w1, Nat.beq_refl, w2]) (g _ z5 (gR_at w1 w2))
  · cases hf
theorem h_tab {lo hi : Int} {offs : List Nat} {dflt tgt : Nat} {x : Int} (v : Int) (e : x = v) (r : R32 v) (ha : t_get tbl pc = some (a_table kn lo hi offs dflt)) (h1 : lo ≤ v) (h2 : v ≤ hi) (ht : offs[(v - lo).toNat]? = some tgt) (g : Tp tbl Po tgt (lv, st, w, 0, 0)) : Tp tbl Po pc (lv, hI x :: st, w, 0, 0) := by
  subst e
  refine Tp_step ha (fun k => ?_) g
  show (if (Int32.ofInt x).toInt < lo ∨ hi < (Int32.ofInt x).toInt then k dflt (lv, st, w, 0, 0) else match offs[((Int32.ofInt x).toInt - lo).toNat]? with
    | some t => k t (lv, st, w, 0, 0)
    | none => none) = _
  rw [hI_to r, if_neg (by omega), ht]
theorem h_tabd {lo hi : Int} {offs : List Nat} {dflt : Nat} {x : Int} (ha : t_get tbl pc = some (a_table kn lo hi offs dflt)) (r : R32 x) (h : x < lo ∨ hi < x) (g : Tp tbl Po dflt (lv, st, w, 0, 0)) : Tp tbl Po pc (lv, hI x :: st, w, 0, 0) := by
  refine Tp_step ha (fun k => ?_) g
  show (if (Int32.ofInt x).toInt < lo ∨ hi < (Int32.ofInt x).toInt then k dflt (lv, st, w, 0, 0) else match offs[((Int32.ofInt x).toInt - lo).toNat]? with
    | some t => k t (lv, st, w, 0, 0)
    | none => none) = _
  rw [hI_to r, if_pos h]
theorem h_look {ps' : List (Int × Nat)} {dflt : Nat} {q : Int × Nat} {x : Int} (v : Int) (e : x = v) (r : R32 v) (ha : t_get tbl pc = some (a_look ps' dflt)) (hf : ps'.find? (fun q => q.1 == v) = some q) (g : Tp tbl Po q.2 (lv, st, w, 0, 0)) : Tp tbl Po pc (lv, hI x :: st, w, 0, 0) := by
  subst e
  refine Tp_step ha (fun k => ?_) g
  show (match ps'.find? (fun q => q.1 == (Int32.ofInt x).toInt) with
    | some q => k q.2 (lv, st, w, 0, 0)
    | none => k dflt (lv, st, w, 0, 0)) = _
  rw [hI_to r, hf]
theorem h_lookd {ps' : List (Int × Nat)} {dflt : Nat} {x : Int} (ha : t_get tbl pc = some (a_look ps' dflt)) (r : R32 x) (hf : ∀ q ∈ ps', q.1 ≠ x) (g : Tp tbl Po dflt (lv, st, w, 0, 0)) : Tp tbl Po pc (lv, hI x :: st, w, 0, 0) := by
  refine Tp_step ha (fun k => ?_) g
  show (match ps'.find? (fun q => q.1 == (Int32.ofInt x).toInt) with
    | some q => k q.2 (lv, st, w, 0, 0)
    | none => k dflt (lv, st, w, 0, 0)) = _
  rw [hI_to r, List.find?_eq_none.mpr (fun q hq => by have := hf q hq; simpa using this)]
/-- a whole array of ints copied onto another of its type -/
theorem h_copyF {a b t n : Nat} {nI : Int} (ha : t_get tbl pc = some (a_copy np)) (ho : hO D w0 w) (hca : ztau a = some t) (hcb : ztau b = some t) (hn : aIt t = some n) (hl : nI = (n : Int)) (hs : Nat.ble n 999 = true) (hm : mIn D t 999 = true) (hst : Nat.ble (st.map fun v => v.category).sum 8 = true) (g : ∀ w', hO D w0 w' → (∀ j, gX w' b j = gX w a j) → (∀ c j, c ≠ b → gX w' c j = gX w c j) → (∀ c k, gF w' c k = gF w c k) → (∀ c k, gR w' c k = gR w c k) → Tp tbl Po np (lv, st, w', 0, 0)) (hq : pOkA D t 999 = true := by rfl) (hb : pOkB D t 0 = true := by rfl) : Tp tbl Po pc (lv, hI nI :: hI 0 :: .ref b :: hI 0 :: .ref a :: st, w, 0, 0) := by
  subst hl
  have hs := Nat.le_of_ble_eq_true hs
  have hst := Nat.le_of_ble_eq_true hst
  obtain ⟨vs, q, k1, k2, k3, k4, k5, k6, k7, k8⟩ := aI_ok ho (aI_of hca hn)
  obtain ⟨us, q', j1, j2, j3, j4, j5, j6, j7, j8⟩ := aI_ok ho (aI_of hcb hn)
  have e0 : (Int32.ofInt 0).toInt = 0 := hI_to ⟨by omega, by omega⟩
  have en : (Int32.ofInt (n : Int)).toInt = (n : Int) := hI_to ⟨by omega, by omega⟩
  obtain ⟨n1, n2⟩ := clampNeg (x := Int32.ofInt 0) (by omega)
  obtain ⟨n3, n4⟩ := clampNeg (x := Int32.ofInt (n : Int)) (by omega)
  rw [e0] at n2
  rw [en] at n4
  have c4 : 0 + n ≤ vs.length := by omega
  have c5 : 0 + n ≤ us.length := by omega
  have hl := (List.getElem?_eq_some_iff.mp j6).1
  have hget : ∀ j, (cpyL vs us 0 0 n)[j]? = vs[j]? := fun j => by
    rw [cpyL_get c4 c5]
    split
    · rename_i h
      rw [show 0 + (j - 0) = j by omega]
    · rename_i h
      rw [List.getElem?_eq_none (by omega), List.getElem?_eq_none (by omega)]
  have e1 : (w.set b (.inl (1, cpyL vs us 0 0 n)))[b]? = some (.inl (1, cpyL vs us 0 0 n)) := List.getElem?_set_self hl
  have hw' : wOk ZZ (w.set b (.inl (1, cpyL vs us 0 0 n))) := by
    have := wOk_arr (Z := ZZ) (vs' := cpyL vs us 0 0 n) ho.1 (show ZZ.2 b = some t from j1) j2 (by rw [cpyL_len c4 c5, j7, j4]) (by
      intro j v hv
      rw [hget] at hv
      rw [j5, j3, aSg_of hcb, ← aSg_of hca]
      exact k8 j v hv)
    rw [j3] at this
    exact this
  refine Tp_step ha (fun k => ?_) (g _ ⟨hw', frOk_arr ho.2 j1 j6 (mIn_mem hm) hq hb (fun j hj => by rw [List.getElem?_eq_none (by rw [cpyL_len c4 c5]; omega), List.getElem?_eq_none (by dsimp only; omega)]) (fun j hj => absurd hj (Nat.not_lt_zero j))⟩ ?_ ?_ (fun _ _ => gF_setX j6) (fun _ _ => gR_arr j6))
  · show a_copy np k (lv, Value.int (Int32.ofInt (n : Int)) :: Value.int (Int32.ofInt 0) :: .ref b :: Value.int (Int32.ofInt 0) :: .ref a :: st, w, 0, 0) = _
    simp only [a_copy, xg_eq, xs_eq, k6, j6]
    rw [if_pos ⟨n1, n1, n3, by rw [n2, n4]; exact c4, by rw [n2, n4]; exact c5, hst⟩, n2, n4]
    rfl
  · intro j
    unfold gX
    rw [e1, k6]
    try dsimp only
    rw [hget]
  · intro c j hc
    exact gX_set j6 (fun z => absurd z hc)
end HT2
/-- sentences that stay good need not be said to change -/
theorem fr_P {D : List (Nat × Nat)} {w w' : sW} (hw : wOk ZZ w) (hw' : wOk ZZ w') (h : frOk ZZ ((61, 778) :: D) w w') (hp : PW w → PW w') : frOk ZZ D w w' := by
  refine ⟨h.1, fun k c hc => ⟨(h.2.1 k c hc).1, fun t ht => ?_⟩, fun hz hm => h.2.2.1 hz (fun y => by
    rcases List.mem_cons.mp y with e | e
    · cases e
    · exact hm e), fun _ _ => hp, fun hz hm => h.2.2.2.2 hz (fun y => by
    rcases List.mem_cons.mp y with e | e
    · cases e
    · exact hm e)⟩
  have p := (h.2.1 k c hc).2 t ht
  cases c with
  | inl a =>
    intro z
    refine p (fun y => ?_)
    rcases List.mem_cons.mp y with e | e
    · cases e
    · exact z e
  | inr q =>
    obtain ⟨fs', e1, e2⟩ := p
    refine ⟨fs', e1, fun j hj2 => ?_⟩
    by_cases e : (t, j) = (61, 778)
    · cases e
      obtain ⟨ly, c1, a1, a2, a3⟩ := hw.2 k 61 ht
      obtain ⟨ly2, c2, b1, b2, b3⟩ := hw'.2 k 61 ht
      rw [hc] at a2
      cases a2
      rw [e1] at b2
      cases b2
      rw [show ZZ.1 61 = some zL61 from rfl] at a1 b1
      cases a1
      cases b1
      obtain ⟨fs1, f1, f2, _⟩ := a3
      obtain ⟨fs2, g1, g2, _⟩ := b3
      cases f1
      cases g1
      rw [List.getElem?_eq_none (by rw [g2]; decide), List.getElem?_eq_none (by rw [f2]; decide)]
    · exact e2 j (fun y => by
        rcases List.mem_cons.mp y with e' | e'
        · exact e e'
        · exact hj2 e')
/-- one place of a sentence anew -/
theorem PW_one {w w' : sW} {n a b : Nat} {x y : Int} (p : PW w) (hf : ∀ c kf, pRf c kf → gR w' c kf = gR w c kf) (hab : (a = 32 ∧ b = 34) ∨ (a = 38 ∧ b = 40) ∨ (a = 185 ∧ b = 187) ∨ (a = 208 ∧ b = 210)) (h1 : gX w' a n = x) (h2 : gX w' b n = y) (ho : okCN x y) (he : ∀ c j, pRd c j → (c = a ∨ c = b → j ≠ n) → gX w' c j = gX w c j) : PW w' := by
  have key : ∀ u v, (u = a ∧ v = b) ∨ (u ≠ a ∧ u ≠ b ∧ v ≠ a ∧ v ≠ b) → (∀ j, pRd u j) → (∀ j, pRd v j) → snG w u v → snG w' u v := by
    intro u v huv pu pv s i hi
    by_cases e : i = n
    · rcases huv with ⟨rfl, rfl⟩ | ⟨e1, e2, e3, e4⟩
      · subst e
        rw [h1, h2]
        exact ho
      · rw [he u i (pu i) (fun z => by omega), he v i (pv i) (fun z => by omega)]
        exact s i hi
    · rw [he u i (pu i) (fun _ => e), he v i (pv i) (fun _ => e)]
      exact s i hi
  obtain ⟨p0, p1, p2, p3, p4, p5, p6, p7⟩ := p
  refine ⟨rfG_eq hf p0, siG_eq (fun j hj => he _ _ (Or.inl ⟨rfl, hj⟩) (fun z => by omega)) p1, siG_eq (fun j _ => he _ _ (by unfold pRd; omega) (fun z => by omega)) p2, siG_eq (fun j _ => he _ _ (by unfold pRd; omega) (fun z => by omega)) p3, key _ _ (by omega) (fun j => by unfold pRd; omega) (fun j => by unfold pRd; omega) p4, key _ _ (by omega) (fun j => by unfold pRd; omega) (fun j => by unfold pRd; omega) p5, key _ _ (by omega) (fun j => by unfold pRd; omega) (fun j => by unfold pRd; omega) p6, key _ _ (by omega) (fun j => by unfold pRd; omega) (fun j => by unfold pRd; omega) p7⟩
/-- the arrays of a sentence -/
theorem rf_ab {w : sW} {k a b : Nat} (p : rfG w) (hk : ztau k = some 22) (ha : gR w k 0 = a) (hb : gR w k 2 = b) : (k = 31 ∧ a = 32 ∧ b = 34) ∨ (k = 37 ∧ a = 38 ∧ b = 40) ∨ (k = 184 ∧ a = 185 ∧ b = 187) ∨ (k = 207 ∧ a = 208 ∧ b = 210) := by
  obtain ⟨⟨a1, a2⟩, ⟨b1, b2⟩, ⟨c1, c2⟩, d1, d2⟩ := p
  rcases zt_22 hk with rfl | rfl | rfl | rfl <;> omega
def dX7_put : List (Nat × Nat) := [(22, 3), (23, 999), (24, 999), (25, 999)]
def dX7_copyOf : List (Nat × Nat) := [(22, 3), (22, 8), (23, 999), (24, 999), (25, 999)]
theorem fr_rf {D : List (Nat × Nat)} {w w' : sW} (hw : wOk ZZ w) (h : frOk ZZ D w w') (h0 : mIn D 22 0 = false) (h2 : mIn D 22 2 = false) : ∀ c kf, pRf c kf → gR w' c kf = gR w c kf := by
  intro c kf ⟨hc, hk⟩
  rcases hc with rfl | rfl | rfl | rfl <;> rcases hk with rfl | rfl <;> first | exact fr_gR (t := 22) h rfl h0 (by decide +kernel) hw | exact fr_gR (t := 22) h rfl h2 (by decide +kernel) hw
theorem ait_23 : aIt 23 = some 40 := by decide +kernel
theorem ait_24 : aIt 24 = some 40 := by decide +kernel
theorem ait_25 : aIt 25 = some 40 := by decide +kernel
theorem apt_23 : aPt 23 0 40 (-2147483648) 2147483647 = true := by decide +kernel
theorem art_23 : aRt 23 0 40 (-2147483648) 2147483647 = true := by decide +kernel
theorem apt_24 : aPt 24 0 40 (-2147483648) 2147483647 = true := by decide +kernel
theorem art_24 : aRt 24 0 40 (-2147483648) 2147483647 = true := by decide +kernel
theorem apt_25 : aPt 25 0 40 (-2147483648) 2147483647 = true := by decide +kernel
theorem art_25 : aRt 25 0 40 (-2147483648) 2147483647 = true := by decide +kernel
theorem cit_22 : cIt 22 = some 8 := by decide +kernel
theorem fit_22_3 : fIt 22 8 3 = some (0, 40) := by decide +kernel
theorem fit_22_8 : fIt 22 8 8 = some ((-2147483648), 2147483647) := by decide +kernel
theorem frt_22_0 : fRt 22 8 0 = some 23 := by decide +kernel
theorem frt_22_1 : fRt 22 8 1 = some 24 := by decide +kernel
theorem frt_22_2 : fRt 22 8 2 = some 25 := by decide +kernel
theorem s_put7 {kn : sKn} {w : sW} (hw : wOk ZZ w) {k0 : Nat} (hk0 : ztau k0 = some 22) (x y z : Int) (hx : R32 x) (hy : R32 y) (hz : R32 z) (hok : okCN x z) : ∃ w', fX7_put kn [.ref k0, hI x, hI y, hI z] w = some (none, w', 0, 0) ∧ hO dX7_put w w' := by
  have hx1 := hx.1
  have hx2 := hx.2
  have hy1 := hy.1
  have hy2 := hy.2
  have hz1 := hz.1
  have hz2 := hz.2
  obtain ⟨_, _, _, _, _, _, _, a1, a2⟩ := fI_ok (hO_rf (D := []) hw) (fI_of hk0 fit_22_3)
  obtain ⟨n, hn⟩ : ∃ n : Nat, gF w k0 3 = (n : Int) := ⟨(gF w k0 3).toNat, by omega⟩
  have K : Tp (tX7_put kn) (fun r => ∃ w', r = (none, w', 0, 0) ∧ hO ((61, 778) :: dX7_put) w w' ∧ (PW w → PW w')) 0 (lv_args 0 [.ref k0, hI x, hI y, hI z], [], w, 0, 0) := by
    have l0 : hL (lv_args 0 [.ref k0, hI x, hI y, hI z]) (lv_args 0 [.ref k0, hI x, hI y, hI z]) := ⟨fun _ _ h => h, fun q hq => by
      rcases List.mem_cons.mp hq with e | hq
      · rw [e]
        exact ⟨rfl, tw hk0⟩
      rcases List.mem_cons.mp hq with e | hq
      · rw [e]
        exact ⟨rfl, rfl⟩
      rcases List.mem_cons.mp hq with e | hq
      · rw [e]
        exact ⟨rfl, rfl⟩
      rcases List.mem_cons.mp hq with e | hq
      · rw [e]
        exact ⟨rfl, rfl⟩
      cases hq⟩
    have o0 : hO ((61, 778) :: dX7_put) w w := hO_rf hw
    refine h_aload rfl l0 rfl ?_
    refine h_getI rfl o0 (fI_of hk0 fit_22_3) (fun b1a b1b => ?_)
    rw [hn] at b1a b1b ⊢
    refine h_intv k_40 rfl ?_
    refine i_ge (kn := kn) (t := 3) (tgt := 49) (np := 9) rfl (by unfold R32; omega) (by unfold R32; omega) (fun e2 => ?_) (fun e2 => ?_)
    · refine h_vret rfl ?_
      exact ⟨_, rfl, o0, fun p => p⟩
    · refine h_aload rfl l0 rfl ?_
      refine h_getT rfl o0 hk0 frt_22_0 (fun k3 hk3 rk3 => ?_)
      refine h_aload rfl l0 rfl ?_
      refine h_getI rfl o0 (fI_of hk0 fit_22_3) (fun b4a b4b => ?_)
      rw [hn] at b4a b4b ⊢
      refine h_iload rfl l0 rfl ?_
      refine h_iastj (n) rfl o0 (aI_of hk3 ait_23) rfl rfl (aP_of hk3 apt_23) (by omega) (by omega) (by omega) (by omega) (by omega) (by unfold R32; omega) (fun w5 o5 q6a q6b q6c => ?_)
      refine h_aload rfl l0 rfl ?_
      refine h_getT rfl o5 hk0 frt_22_1 (fun k7 hk7 rk7 => ?_)
      refine h_aload rfl l0 rfl ?_
      refine h_getI rfl o5 (fI_of hk0 fit_22_3) (fun b8a b8b => ?_)
      rw [q6c, hn] at b8a b8b ⊢
      refine h_iload rfl l0 rfl ?_
      refine h_iastj (n) rfl o5 (aI_of hk7 ait_24) rfl rfl (aP_of hk7 apt_24) (by omega) (by omega) (by omega) (by omega) (by omega) (by unfold R32; omega) (fun w9 o9 q10a q10b q10c => ?_)
      refine h_aload rfl l0 rfl ?_
      refine h_getT rfl o9 hk0 frt_22_2 (fun k11 hk11 rk11 => ?_)
      refine h_aload rfl l0 rfl ?_
      refine h_getI rfl o9 (fI_of hk0 fit_22_3) (fun b12a b12b => ?_)
      rw [q10c, q6c, hn] at b12a b12b ⊢
      refine h_iload rfl l0 rfl ?_
      refine h_iastj (n) rfl o9 (aI_of hk11 ait_25) rfl rfl (aP_of hk11 apt_25) (by omega) (by omega) (by omega) (by omega) (by omega) (by unfold R32; omega) (fun w13 o13 q14a q14b q14c => ?_)
      refine h_aload rfl l0 rfl ?_
      refine h_dup rfl rfl ?_
      refine h_getI rfl o13 (fI_of hk0 fit_22_3) (fun b15a b15b => ?_)
      rw [q14c, q10c, q6c, hn] at b15a b15b ⊢
      refine h_intv k_1 rfl ?_
      refine h_iadd rfl ?_
      refine h_putI rfl o13 (fI_of hk0 fit_22_3) rfl (by omega) (by omega) (fun w16 o16 q17a q17b q17c => ?_)
      refine h_vret rfl ?_
      refine ⟨_, rfl, o16, fun p => ?_⟩
      have ab := rf_ab p.1 hk0 rk3 ((fr_gR (t := 22) o9.2 hk0 (by decide +kernel) (by rw [cI_of hk0 cit_22]; exact fun z => by cases z) hw).symm.trans rk11)
      have nab : k3 ≠ k11 := zt_ne hk3 hk11 (by decide)
      have nas : k3 ≠ k7 := zt_ne hk3 hk7 (by decide)
      have nbs : k11 ≠ k7 := zt_ne hk11 hk7 (by decide)
      refine PW_one (n := n) (a := k3) (b := k11) (x := x) (y := z) p (fr_rf hw o16.2 (by decide +kernel) (by decide +kernel)) (by omega) ?_ ?_ hok ?_
      · rw [q17c, q14b _ _ (fun e => absurd e nab), q10b _ _ (fun e => absurd e nas), q6a]
      · rw [q17c, q14a]
      · intro c j hr hcj
        have nc : c ≠ k7 := by
          unfold pRd at hr
          intro e
          rw [e] at hr
          have hks := hk7
          rcases hr with hr | hr | hr | hr | hr | hr | hr | hr | hr | hr
          · rw [hr.1] at hks
            exact absurd hks (by decide +kernel)
          · rw [hr] at hks
            exact absurd hks (by decide +kernel)
          · rw [hr] at hks
            exact absurd hks (by decide +kernel)
          · rw [hr] at hks
            exact absurd hks (by decide +kernel)
          · rw [hr] at hks
            exact absurd hks (by decide +kernel)
          · rw [hr] at hks
            exact absurd hks (by decide +kernel)
          · rw [hr] at hks
            exact absurd hks (by decide +kernel)
          · rw [hr] at hks
            exact absurd hks (by decide +kernel)
          · rw [hr] at hks
            exact absurd hks (by decide +kernel)
          · rw [hr] at hks
            exact absurd hks (by decide +kernel)
        rw [q17c, q14b _ _ (fun e => hcj (Or.inr e)), q10b _ _ (fun e => absurd e nc), q6b _ _ (fun e => hcj (Or.inl e))]
  obtain ⟨r, h1, w2, h2, h3, h4⟩ := h_meth1 (nL := 4) rfl K
  rw [h2] at h1
  exact ⟨w2, h1, h3.1, fr_P hw h3.1 h3.2 h4⟩
theorem PW_cp {w w' : sW} {a b a2 b2 : Nat} (p : PW w) (hf : ∀ c kf, pRf c kf → gR w' c kf = gR w c kf) (hab : (a = 32 ∧ b = 34) ∨ (a = 38 ∧ b = 40) ∨ (a = 185 ∧ b = 187) ∨ (a = 208 ∧ b = 210)) (hab2 : (a2 = 32 ∧ b2 = 34) ∨ (a2 = 38 ∧ b2 = 40) ∨ (a2 = 185 ∧ b2 = 187) ∨ (a2 = 208 ∧ b2 = 210)) (h1 : ∀ j, gX w' a j = gX w a2 j) (h2 : ∀ j, gX w' b j = gX w b2 j) (he : ∀ c j, pRd c j → (c = a ∨ c = b → False) → gX w' c j = gX w c j) : PW w' := by
  have key : ∀ u v, (u = a ∧ v = b) ∨ (u ≠ a ∧ u ≠ b ∧ v ≠ a ∧ v ≠ b) → (∀ j, pRd u j) → (∀ j, pRd v j) → snG w u v → snG w' u v := by
    intro u v huv pu pv s i hi
    rcases huv with ⟨rfl, rfl⟩ | ⟨e1, e2, e3, e4⟩
    · rw [h1, h2]
      obtain ⟨_, _, _, _, p4, p5, p6, p7⟩ := p
      rcases hab2 with ⟨rfl, rfl⟩ | ⟨rfl, rfl⟩ | ⟨rfl, rfl⟩ | ⟨rfl, rfl⟩
      · exact p4 i hi
      · exact p5 i hi
      · exact p6 i hi
      · exact p7 i hi
    · rw [he u i (pu i) (fun z => by omega), he v i (pv i) (fun z => by omega)]
      exact s i hi
  obtain ⟨p0, p1, p2, p3, p4, p5, p6, p7⟩ := p
  refine ⟨rfG_eq hf p0, siG_eq (fun j hj => he _ _ (Or.inl ⟨rfl, hj⟩) (fun z => by omega)) p1, siG_eq (fun j _ => he _ _ (by unfold pRd; omega) (fun z => by omega)) p2, siG_eq (fun j _ => he _ _ (by unfold pRd; omega) (fun z => by omega)) p3, key _ _ (by omega) (fun j => by unfold pRd; omega) (fun j => by unfold pRd; omega) p4, key _ _ (by omega) (fun j => by unfold pRd; omega) (fun j => by unfold pRd; omega) p5, key _ _ (by omega) (fun j => by unfold pRd; omega) (fun j => by unfold pRd; omega) p6, key _ _ (by omega) (fun j => by unfold pRd; omega) (fun j => by unfold pRd; omega) p7⟩
theorem s_copy7 {kn : sKn} {w : sW} (hw : wOk ZZ w) {k0 m0 : Nat} (hk0 : ztau k0 = some 22) (hm0 : ztau m0 = some 22) : ∃ w', fX7_copyOf kn [.ref k0, .ref m0] w = some (none, w', 0, 0) ∧ hO dX7_copyOf w w' := by
  have K : Tp (tX7_copyOf kn) (fun r => ∃ w', r = (none, w', 0, 0) ∧ hO ((61, 778) :: dX7_copyOf) w w' ∧ (PW w → PW w')) 0 (lv_args 0 [.ref k0, .ref m0], [], w, 0, 0) := by
    have l0 : hL (lv_args 0 [.ref k0, .ref m0]) (lv_args 0 [.ref k0, .ref m0]) := ⟨fun _ _ h => h, fun q hq => by
      rcases List.mem_cons.mp hq with e | hq
      · rw [e]
        exact ⟨rfl, tw hk0⟩
      rcases List.mem_cons.mp hq with e | hq
      · rw [e]
        exact ⟨rfl, tw hm0⟩
      cases hq⟩
    have o0 : hO ((61, 778) :: dX7_copyOf) w w := hO_rf hw
    refine h_aload rfl l0 rfl ?_
    refine h_aload rfl l0 rfl ?_
    refine h_getI rfl o0 (fI_of hm0 fit_22_8) (fun b1a b1b => ?_)
    refine h_putI rfl o0 (fI_of hk0 fit_22_8) rfl (by omega) (by omega) (fun w2 o2 q3a q3b q3c => ?_)
    refine h_aload rfl l0 rfl ?_
    refine h_aload rfl l0 rfl ?_
    refine h_getI rfl o2 (fI_of hm0 fit_22_3) (fun b4a b4b => ?_)
    refine h_putI rfl o2 (fI_of hk0 fit_22_3) rfl (by omega) (by omega) (fun w5 o5 q6a q6b q6c => ?_)
    refine h_aload rfl l0 rfl ?_
    refine h_getT rfl o5 hm0 frt_22_0 (fun k7 hk7 rk7 => ?_)
    refine h_intv k_0 rfl ?_
    refine h_aload rfl l0 rfl ?_
    refine h_getT rfl o5 hk0 frt_22_0 (fun k8 hk8 rk8 => ?_)
    refine h_intv k_0 rfl ?_
    refine h_intv k_40 rfl ?_
    refine h_copyF rfl o5 hk7 hk8 ait_23 rfl rfl rfl rfl (fun w9 o9 q10a q10b q10c q10d => ?_)
    refine h_aload rfl l0 rfl ?_
    refine h_getT rfl o9 hm0 frt_22_1 (fun k11 hk11 rk11 => ?_)
    refine h_intv k_0 rfl ?_
    refine h_aload rfl l0 rfl ?_
    refine h_getT rfl o9 hk0 frt_22_1 (fun k12 hk12 rk12 => ?_)
    refine h_intv k_0 rfl ?_
    refine h_intv k_40 rfl ?_
    refine h_copyF rfl o9 hk11 hk12 ait_24 rfl rfl rfl rfl (fun w13 o13 q14a q14b q14c q14d => ?_)
    refine h_aload rfl l0 rfl ?_
    refine h_getT rfl o13 hm0 frt_22_2 (fun k15 hk15 rk15 => ?_)
    refine h_intv k_0 rfl ?_
    refine h_aload rfl l0 rfl ?_
    refine h_getT rfl o13 hk0 frt_22_2 (fun k16 hk16 rk16 => ?_)
    refine h_intv k_0 rfl ?_
    refine h_intv k_40 rfl ?_
    refine h_copyF rfl o13 hk15 hk16 ait_25 rfl rfl rfl rfl (fun w17 o17 q18a q18b q18c q18d => ?_)
    refine h_vret rfl ?_
    refine ⟨_, rfl, o17, fun p => ?_⟩
    have rr := fr_rf hw o17.2 (by decide +kernel) (by decide +kernel)
    have e0 : gR w k0 0 = k8 := by rw [← rk8]; exact (fr_gR (t := 22) (kf := 0) o5.2 hk0 (by decide +kernel) (by rw [cI_of hk0 cit_22]; exact fun z => by cases z) hw).symm
    have e1 : gR w m0 0 = k7 := by rw [← rk7]; exact (fr_gR (t := 22) (kf := 0) o5.2 hm0 (by decide +kernel) (by rw [cI_of hm0 cit_22]; exact fun z => by cases z) hw).symm
    have e2 : gR w k0 2 = k16 := by rw [← rk16]; exact (fr_gR (t := 22) (kf := 2) o13.2 hk0 (by decide +kernel) (by rw [cI_of hk0 cit_22]; exact fun z => by cases z) hw).symm
    have e3 : gR w m0 2 = k15 := by rw [← rk15]; exact (fr_gR (t := 22) (kf := 2) o13.2 hm0 (by decide +kernel) (by rw [cI_of hm0 cit_22]; exact fun z => by cases z) hw).symm
    have ab := rf_ab p.1 hk0 e0 e2
    have ab2 := rf_ab p.1 hm0 e1 e3
    have nab : k8 ≠ k16 := zt_ne hk8 hk16 (by decide)
    have nab2 : k15 ≠ k8 := zt_ne hk15 hk8 (by decide)
    have nas2 : k15 ≠ k12 := zt_ne hk15 hk12 (by decide)
    have nas : k8 ≠ k12 := zt_ne hk8 hk12 (by decide)
    refine PW_cp (a := k8) (b := k16) (a2 := k7) (b2 := k15) p rr (by omega) (by omega) ?_ ?_ ?_
    · intro j
      rw [q18b _ _ nab, q14b _ _ nas, q10a, q6c, q3c]
    · intro j
      rw [q18a, q14b _ _ nas2, q10b _ _ nab2, q6c, q3c]
    · intro c j hr hcj
      have nc : c ≠ k12 := by
        unfold pRd at hr
        intro e
        rw [e] at hr
        have hks := hk12
        rcases hr with hr | hr | hr | hr | hr | hr | hr | hr | hr | hr
        · rw [hr.1] at hks
          exact absurd hks (by decide +kernel)
        · rw [hr] at hks
          exact absurd hks (by decide +kernel)
        · rw [hr] at hks
          exact absurd hks (by decide +kernel)
        · rw [hr] at hks
          exact absurd hks (by decide +kernel)
        · rw [hr] at hks
          exact absurd hks (by decide +kernel)
        · rw [hr] at hks
          exact absurd hks (by decide +kernel)
        · rw [hr] at hks
          exact absurd hks (by decide +kernel)
        · rw [hr] at hks
          exact absurd hks (by decide +kernel)
        · rw [hr] at hks
          exact absurd hks (by decide +kernel)
        · rw [hr] at hks
          exact absurd hks (by decide +kernel)
      rw [q18b _ _ (fun e => hcj (Or.inr e)), q14b _ _ nc, q10b _ _ (fun e => hcj (Or.inl e)), q6c, q3c]
  obtain ⟨r, h1, w2, h2, h3, h4⟩ := h_meth1 (nL := 2) rfl K
  rw [h2] at h1
  exact ⟨w2, h1, h3.1, fr_P hw h3.1 h3.2 h4⟩
theorem con_put7 {kn : sKn} {a b e g : Int} (h : ∀ x z : Int, a ≤ x → x ≤ b → e ≤ z → z ≤ g → okCN x z) : Con ZZ dX7_put (fX7_put kn) ([(2, 1, 0), (0, 2, 0), (0, 3, 0), (0, 4, 0)], [], [(4, .inl (e, g)), (3, fullI), (2, .inl (a, b)), (1, .inr 22)], 5, [([], [], [], [], 5)]) := by
  intro σ0 av w hN h0 hS hM hE hw hwf
  have hS : gS σ0 [(2, 1, 0), (0, 2, 0), (0, 3, 0), (0, 4, 0)] av := hS
  obtain ⟨v1, st1, rfl, ⟨z1, e1, e2⟩, hS1⟩ := gS_1 hS
  obtain ⟨v2, st2, rfl, ⟨z2, e3, e4⟩, hS2⟩ := gS_1 hS1
  obtain ⟨v3, st3, rfl, ⟨z3, e5, e6⟩, hS3⟩ := gS_1 hS2
  obtain ⟨v4, st4, rfl, ⟨z4, e7, e8⟩, hS4⟩ := gS_1 hS3
  rw [gS_0 hS4] at hwf ⊢
  obtain ⟨k, rfl, hk⟩ := e2
  have hk : (k : Int) = z1 + 0 := hk
  obtain ⟨rfl, r2⟩ := vOk_hI e4
  obtain ⟨rfl, r3⟩ := vOk_hI e6
  obtain ⟨rfl, r4⟩ := vOk_hI e8
  obtain ⟨y1, d1, k1, d2, d3⟩ := hE (1, .inr 22) (by simp)
  obtain ⟨y2, d4, d5⟩ := hE (2, .inl (a, b)) (by simp)
  obtain ⟨y4, d6, d7⟩ := hE (4, .inl (e, g)) (by simp)
  have e1 : σ0[1]? = some z1 := e1
  have e3 : σ0[2]? = some z2 := e3
  have e7 : σ0[4]? = some z4 := e7
  have d1 : σ0[1]? = some y1 := d1
  have d4 : σ0[2]? = some y2 := d4
  have d6 : σ0[4]? = some y4 := d6
  rw [e1] at d1
  rw [e3] at d4
  rw [e7] at d6
  cases d1
  cases d4
  cases d6
  have kk : k1 = k := by omega
  subst kk
  have d5 : a ≤ z2 ∧ z2 ≤ b := d5
  have d7 : e ≤ z4 ∧ z4 ≤ g := d7
  have x2 : z2 + ((0, 2, 0) : eV).2.2 = z2 := Int.add_zero _
  have x4 : z4 + ((0, 4, 0) : eV).2.2 = z4 := Int.add_zero _
  obtain ⟨w', f1, f2⟩ := s_put7 (kn := kn) hw d3 _ _ _ r2 r3 r4 (by rw [x2, x4]; exact h _ _ d5.1 d5.2 d7.1 d7.2)
  refine ⟨⟨_, f1⟩, fun r hr => ?_⟩
  rw [f1] at hr
  cases hr
  exact ⟨rfl, f2.2, f2.1, _, List.mem_cons_self, σ0, ext_rf σ0, hN, trivial, (fun q hq => by cases hq), fun q hq => by cases hq⟩
theorem con_copy7 {kn : sKn} : Con ZZ dX7_copyOf (fX7_copyOf kn) ([(2, 1, 0), (2, 2, 0)], [], [(2, .inr 22), (1, .inr 22)], 3, [([], [], [], [], 3)]) := by
  intro σ0 av w hN h0 hS hM hE hw hwf
  have hS : gS σ0 [(2, 1, 0), (2, 2, 0)] av := hS
  obtain ⟨v1, st1, rfl, ⟨z1, e1, e2⟩, hS1⟩ := gS_1 hS
  obtain ⟨v2, st2, rfl, ⟨z2, e3, e4⟩, hS2⟩ := gS_1 hS1
  rw [gS_0 hS2] at hwf ⊢
  obtain ⟨k, rfl, hk⟩ := e2
  obtain ⟨m, rfl, hm⟩ := e4
  have hk : (k : Int) = z1 + 0 := hk
  have hm : (m : Int) = z2 + 0 := hm
  obtain ⟨y1, d1, k1, d2, d3⟩ := hE (1, .inr 22) (by simp)
  obtain ⟨y2, d4, k2, d5, d6⟩ := hE (2, .inr 22) (by simp)
  have e1 : σ0[1]? = some z1 := e1
  have e3 : σ0[2]? = some z2 := e3
  have d1 : σ0[1]? = some y1 := d1
  have d4 : σ0[2]? = some y2 := d4
  rw [e1] at d1
  rw [e3] at d4
  cases d1
  cases d4
  have kk : k1 = k := by omega
  have mm : k2 = m := by omega
  subst kk
  subst mm
  obtain ⟨w', f1, f2⟩ := s_copy7 (kn := kn) hw d3 d6
  refine ⟨⟨_, f1⟩, fun r hr => ?_⟩
  rw [f1] at hr
  cases hr
  exact ⟨rfl, f2.2, f2.1, _, List.mem_cons_self, σ0, ext_rf σ0, hN, trivial, (fun q hq => by cases hq), fun q hq => by cases hq⟩
def xX7_put : List eX := [([(2, 1, 0), (0, 2, 0), (0, 3, 0), (0, 4, 0)], [], [(4, .inl (0, 0)), (3, fullI), (2, fullI), (1, .inr 22)], 5, [([], [], [], [], 5)]), ([(2, 1, 0), (0, 2, 0), (0, 3, 0), (0, 4, 0)], [], [(4, .inl (0, 9)), (3, fullI), (2, .inl (20, 21)), (1, .inr 22)], 5, [([], [], [], [], 5)]), ([(2, 1, 0), (0, 2, 0), (0, 3, 0), (0, 4, 0)], [], [(4, .inl (0, 11)), (3, fullI), (2, .inl (22, 22)), (1, .inr 22)], 5, [([], [], [], [], 5)]), ([(2, 1, 0), (0, 2, 0), (0, 3, 0), (0, 4, 0)], [], [(4, fullI), (3, fullI), (2, .inl (23, 2147483647)), (1, .inr 22)], 5, [([], [], [], [], 5)])]
theorem con_X7_put (kn : sKn) : Cons ZZ dX7_put (fX7_put kn) xX7_put := Cons_c (con_put7 (a := -2147483648) (b := 2147483647) (e := 0) (g := 0) (fun x z h1 h2 h3 h4 => by unfold okCN; omega)) (Cons_c (con_put7 (a := 20) (b := 21) (e := 0) (g := 9) (fun x z h1 h2 h3 h4 => by unfold okCN; omega)) (Cons_c (con_put7 (a := 22) (b := 22) (e := 0) (g := 11) (fun x z h1 h2 h3 h4 => by unfold okCN; omega)) (Cons_c (con_put7 (a := 23) (b := 2147483647) (e := -2147483648) (g := 2147483647) (fun x z h1 h2 h3 h4 => by unfold okCN; omega)) Cons_n)))
def xX7_copyOf : List eX := [([(2, 1, 0), (2, 2, 0)], [], [(2, .inr 22), (1, .inr 22)], 3, [([], [], [], [], 3)])]
theorem con_X7_copyOf (kn : sKn) : Cons ZZ dX7_copyOf (fX7_copyOf kn) xX7_copyOf := Cons_c con_copy7 Cons_n
end
