noncomputable section
section HM
variable {tbl : List (Nat × sA)} {Po : sR → Prop} {pc np : Nat} {lv ps : List (Nat × Value)} {st : List Value} {w w0 : sW} {D : List (Nat × Nat)} {kn : sKn}
theorem h_mmax {x y : Int} (ha : t_get tbl pc = some (a_mmax np)) (hc : Nat.ble (st.map fun v => v.category).sum 8 = true) (r : R32 x) (s : R32 y) (g : ∀ m : Int, ((x < y ∧ m = y) ∨ (y ≤ x ∧ m = x)) → Tp tbl Po np (lv, hI m :: st, w, 0, 0)) : Tp tbl Po pc (lv, hI y :: hI x :: st, w, 0, 0) := by
  by_cases p : x < y
  · refine Tp_step ha (fun k => ?_) (g y (Or.inl ⟨p, rfl⟩))
    have e : Int32.ofInt x < Int32.ofInt y := by rw [Int32.lt_iff_toInt_lt, hI_to r, hI_to s]; exact p
    show (if (st.map fun v => v.category).sum ≤ 8 then k np (lv, Value.int (if Int32.ofInt x < Int32.ofInt y then Int32.ofInt y else Int32.ofInt x) :: st, w, 0, 0) else none) = _
    rw [if_pos (Nat.le_of_ble_eq_true hc), if_pos e]
    rfl
  · refine Tp_step ha (fun k => ?_) (g x (Or.inr ⟨by omega, rfl⟩))
    have e : ¬ Int32.ofInt x < Int32.ofInt y := by rw [Int32.lt_iff_toInt_lt, hI_to r, hI_to s]; exact p
    show (if (st.map fun v => v.category).sum ≤ 8 then k np (lv, Value.int (if Int32.ofInt x < Int32.ofInt y then Int32.ofInt y else Int32.ofInt x) :: st, w, 0, 0) else none) = _
    rw [if_pos (Nat.le_of_ble_eq_true hc), if_neg e]
    rfl
/-- arrays of references of one type (kind 6) -/
def aAt (t : Nat) : Option (Nat × Nat) := match aty ZZ t with
  | some q => match Nat.beq q.1 6 with
    | true => match q.2.2 with
      | (n, .inr t2) :: _ => match Nat.beq n q.2.1 with
        | true => some (n, t2)
        | false => none
      | _ => none
    | false => none
  | none => none
theorem h_aaldT {c t n t2 : Nat} {i : Int} (j : Nat) (ha : t_get tbl pc = some (a_aald np)) (ho : hO D w0 w) (hc : ztau c = some t) (hf : aAt t = some (n, t2)) (hi : i = (j : Int)) (hj : j < n ∧ j < 1000) (g : ∀ k, ztau k = some t2 → Tp tbl Po np (lv, .ref k :: st, w, 0, 0)) : Tp tbl Po pc (lv, hI i :: .ref c :: st, w, 0, 0) := by
  subst hi
  unfold aAt at hf
  split at hf
  · rename_i q hq
    split at hf
    · rename_i c1
      have c1 := Nat.eq_of_beq_eq_true c1
      split at hf
      · rename_i n' t' r e1
        split at hf
        · rename_i c2
          have c2 := Nat.eq_of_beq_eq_true c2
          cases hf
          obtain ⟨_, vs, w1, w2, w3⟩ := aty_ok ho.1 (show ZZ.2 c = some t from hc) hq
          have hl : j < vs.length := by omega
          obtain ⟨e, f1, z, f2, f3⟩ := w3 j _ (List.getElem?_eq_getElem hl)
          rw [e1] at f1
          have hb : Nat.blt j n = true := Nat.blt_eq.mpr hj.1
          have f0 : e = .inr t2 := by
            have f1 : (match Nat.blt j n with
              | true => some (Sum.inr t2)
              | false => sga r j) = some e := f1
            rw [hb] at f1
            cases f1
            rfl
          rw [f0] at f3
          obtain ⟨k, k1, k2⟩ := f3
          have f2 : vOk (akd q.1) z vs[j] := f2
          rw [c1] at f2
          obtain ⟨k', d1, d2⟩ := f2
          have ek : k' = k := by omega
          subst ek
          have e2 := ixN_hI (i := (j : Int)) (by omega) (by omega)
          rw [show (j : Int).toNat = j by omega] at e2
          have e3 : Nat.blt j 2147483648 = true := Nat.blt_eq.mpr (by omega)
          refine Tp_step ha (fun kk => ?_) (g k' k2)
          show a_aald np kk (lv, Value.int (Int32.ofInt (j : Int)) :: .ref c :: st, w, 0, 0) = _
          rw [c1] at w1
          simp only [a_aald, xg_eq, w1, e2, e3, List.getElem?_eq_getElem hl, d1]
          rfl
        · cases hf
      · cases hf
    · cases hf
  · cases hf
theorem h_S4 {f : List Value → sW → Option sR} {x1 x2 x3 x4 : Value} {v : Value} {w' : sW} (ha : t_get tbl pc = some (a_callS false f 4 np)) (ho : hO D w0 w) (hl : hL lv ps) (h2 : Nat.ble (st.map fun v => v.category).sum 8 = true) (h3 : xa (wfV 241) st = true) (hf : f [x1, x2, x3, x4] w = some (some v, w', 0, 0)) (g : Tp tbl Po np (lv, v :: st, w', 0, 0)) : Tp tbl Po pc (lv, x4 :: x3 :: x2 :: x1 :: st, w, 0, 0) := h_callSg (na := 4) (r := some v) (Nat.ble_eq.mpr (by simp)) h2 h3 rfl ha ho hl hf g
end HM
theorem ait_10 : aIt 10 = some 10 := by decide +kernel
theorem ait_17 : aIt 17 = some 10 := by decide +kernel
theorem ait_20 : aIt 20 = some 36 := by decide +kernel
theorem ait_21 : aIt 21 = some 6 := by decide +kernel
theorem apt_10 : aPt 10 0 10 (-2147483648) 2147483647 = true := by decide +kernel
theorem art_10 : aRt 10 0 10 (-2147483648) 2147483647 = true := by decide +kernel
theorem apt_17 : aPt 17 0 10 (-2147483648) 2147483647 = true := by decide +kernel
theorem art_17 : aRt 17 0 10 (-2147483648) 2147483647 = true := by decide +kernel
theorem apt_20 : aPt 20 0 36 (-2147483648) 2147483647 = true := by decide +kernel
theorem art_20 : aRt 20 0 36 (-2147483648) 2147483647 = true := by decide +kernel
theorem apt_21 : aPt 21 0 6 (-2147483648) 2147483647 = true := by decide +kernel
theorem art_21 : aRt 21 0 6 (-2147483648) 2147483647 = true := by decide +kernel
theorem cit_1 : cIt 1 = some 12 := by decide +kernel
theorem fit_15_2 : fIt 15 9 2 = some ((-2147483648), 2147483647) := by decide +kernel
theorem frt_15_4 : fRt 15 9 4 = some 17 := by decide +kernel
theorem frt_15_7 : fRt 15 9 7 = some 20 := by decide +kernel
theorem frt_15_8 : fRt 15 9 8 = some 21 := by decide +kernel
theorem frt_5_10 : fRt 5 7 10 = some 10 := by decide +kernel
theorem s_isSigner7_ {kn : sKn} {w : sW} (hw : wOk ZZ w) (x1 : Int) (hx1 : (-2147483648) ≤ x1 ∧ x1 ≤ 2147483647) : ∃ (w' : sW) (z : Int), fX11_isSigner kn [.ref 0, hI x1] w = some (some (hI z), w', 0, 0) ∧ hO dX11_isSigner w w' ∧ ((z = 1 ∧ 0 ≤ x1 ∧ x1 ≤ 9) ∨ z = 0) := by
  obtain ⟨r, w', h1, h2, q, hq, σ', h3, h4, h5, h6⟩ := con_use (con_X11_isSigner_0 kn) (σ := [0, x1]) (av := [.ref 0, hI x1]) (w := w) rfl rfl ⟨av_c (k := 0) rfl, av_i rfl ⟨by omega, by omega⟩, trivial⟩ (fun q hq => by cases hq) (gE_c ⟨_, rfl, hx1⟩ (gE_n)) hw rfl
  rcases List.mem_cons.mp hq with rfl | hq
  · obtain ⟨z, z1, z2, z3⟩ := gS_i h4
    rw [z2] at h1
    have z4 := h3 0 0 rfl
    rw [z4] at z1
    cases z1
    have y1 := gE_at (a := 0) (b := 9) h6 (by first | exact List.mem_cons_self | exact List.mem_cons_of_mem _ List.mem_cons_self | exact List.mem_cons_of_mem _ (List.mem_cons_of_mem _ List.mem_cons_self) | exact List.mem_cons_of_mem _ (List.mem_cons_of_mem _ (List.mem_cons_of_mem _ List.mem_cons_self)) | decide) (h3 1 _ rfl)
    refine ⟨w', _, h1, h2, ?_⟩
    omega
  rcases List.mem_singleton.mp hq with rfl
  obtain ⟨z, z1, z2, z3⟩ := gS_i h4
  rw [z2] at h1
  have z4 := h3 0 0 rfl
  rw [z4] at z1
  cases z1
  refine ⟨w', _, h1, h2, ?_⟩
  omega
theorem s_isSigner7 {kn : sKn} {w : sW} (hw : wOk ZZ w) (x1 : Int) (hx1 : (-2147483648) ≤ x1 ∧ x1 ≤ 2147483647) : ∃ z : Int, fX11_isSigner kn [.ref 0, hI x1] w = some (some (hI z), w, 0, 0) ∧ ((z = 1 ∧ 0 ≤ x1 ∧ x1 ≤ 9) ∨ z = 0) := by
  obtain ⟨w', z, h1, h2, h3⟩ := s_isSigner7_ (kn := kn) hw x1 hx1
  have e : w' = w := fr_nil hw h2.1 h2.2
  subst e
  exact ⟨z, h1, h3⟩
theorem s_isLoad7_ {kn : sKn} {w : sW} (hw : wOk ZZ w) (x1 : Int) (hx1 : (-2147483648) ≤ x1 ∧ x1 ≤ 2147483647) : ∃ (w' : sW) (z : Int), fX11_isLoad kn [.ref 0, hI x1] w = some (some (hI z), w', 0, 0) ∧ hO dX11_isLoad w w' ∧ ((z = 1 ∧ 0 ≤ x1 ∧ x1 ≤ 5) ∨ z = 0) := by
  obtain ⟨r, w', h1, h2, q, hq, σ', h3, h4, h5, h6⟩ := con_use (con_X11_isLoad_0 kn) (σ := [0, x1]) (av := [.ref 0, hI x1]) (w := w) rfl rfl ⟨av_c (k := 0) rfl, av_i rfl ⟨by omega, by omega⟩, trivial⟩ (fun q hq => by cases hq) (gE_c ⟨_, rfl, hx1⟩ (gE_n)) hw rfl
  rcases List.mem_cons.mp hq with rfl | hq
  · obtain ⟨z, z1, z2, z3⟩ := gS_i h4
    rw [z2] at h1
    have z4 := h3 0 0 rfl
    rw [z4] at z1
    cases z1
    have y1 := gE_at (a := 0) (b := 5) h6 (by first | exact List.mem_cons_self | exact List.mem_cons_of_mem _ List.mem_cons_self | exact List.mem_cons_of_mem _ (List.mem_cons_of_mem _ List.mem_cons_self) | exact List.mem_cons_of_mem _ (List.mem_cons_of_mem _ (List.mem_cons_of_mem _ List.mem_cons_self)) | decide) (h3 1 _ rfl)
    refine ⟨w', _, h1, h2, ?_⟩
    omega
  rcases List.mem_singleton.mp hq with rfl
  obtain ⟨z, z1, z2, z3⟩ := gS_i h4
  rw [z2] at h1
  have z4 := h3 0 0 rfl
  rw [z4] at z1
  cases z1
  refine ⟨w', _, h1, h2, ?_⟩
  omega
theorem s_isLoad7 {kn : sKn} {w : sW} (hw : wOk ZZ w) (x1 : Int) (hx1 : (-2147483648) ≤ x1 ∧ x1 ≤ 2147483647) : ∃ z : Int, fX11_isLoad kn [.ref 0, hI x1] w = some (some (hI z), w, 0, 0) ∧ ((z = 1 ∧ 0 ≤ x1 ∧ x1 ≤ 5) ∨ z = 0) := by
  obtain ⟨w', z, h1, h2, h3⟩ := s_isLoad7_ (kn := kn) hw x1 hx1
  have e : w' = w := fr_nil hw h2.1 h2.2
  subst e
  exact ⟨z, h1, h3⟩
theorem s_isPlace_ {kn : sKn} {w : sW} (hw : wOk ZZ w) (x1 : Int) (hx1 : (-2147483648) ≤ x1 ∧ x1 ≤ 2147483647) (x2 : Int) (hx2 : (-2147483648) ≤ x2 ∧ x2 ≤ 2147483647) : ∃ (w' : sW) (z : Int), fX11_isPlace kn [.ref 0, hI x1, hI x2] w = some (some (hI z), w', 0, 0) ∧ hO dX11_isPlace w w' ∧ (z = 0 ∨ (z = 1 ∧ 0 ≤ x1 ∧ x1 ≤ 11 ∧ 0 ≤ x2 ∧ x2 ≤ 2)) := by
  obtain ⟨r, w', h1, h2, q, hq, σ', h3, h4, h5, h6⟩ := con_use (con_X11_isPlace_0 kn) (σ := [0, x1, x2]) (av := [.ref 0, hI x1, hI x2]) (w := w) rfl rfl ⟨av_c (k := 0) rfl, av_i rfl ⟨by omega, by omega⟩, av_i rfl ⟨by omega, by omega⟩, trivial⟩ (fun q hq => by cases hq) (gE_c ⟨_, rfl, hx2⟩ (gE_c ⟨_, rfl, hx1⟩ (gE_n))) hw rfl
  rcases List.mem_cons.mp hq with rfl | hq
  · obtain ⟨z, z1, z2, z3⟩ := gS_i h4
    rw [z2] at h1
    have z4 := h3 0 0 rfl
    rw [z4] at z1
    cases z1
    refine ⟨w', _, h1, h2, ?_⟩
    omega
  rcases List.mem_singleton.mp hq with rfl
  obtain ⟨z, z1, z2, z3⟩ := gS_i h4
  rw [z2] at h1
  have z4 := h3 0 0 rfl
  rw [z4] at z1
  cases z1
  have y1 := gE_at (a := 0) (b := 11) h6 (by first | exact List.mem_cons_self | exact List.mem_cons_of_mem _ List.mem_cons_self | exact List.mem_cons_of_mem _ (List.mem_cons_of_mem _ List.mem_cons_self) | exact List.mem_cons_of_mem _ (List.mem_cons_of_mem _ (List.mem_cons_of_mem _ List.mem_cons_self)) | decide) (h3 1 _ rfl)
  have y2 := gE_at (a := 0) (b := 2) h6 (by first | exact List.mem_cons_self | exact List.mem_cons_of_mem _ List.mem_cons_self | exact List.mem_cons_of_mem _ (List.mem_cons_of_mem _ List.mem_cons_self) | exact List.mem_cons_of_mem _ (List.mem_cons_of_mem _ (List.mem_cons_of_mem _ List.mem_cons_self)) | decide) (h3 2 _ rfl)
  refine ⟨w', _, h1, h2, ?_⟩
  omega
theorem s_isPlace {kn : sKn} {w : sW} (hw : wOk ZZ w) (x1 : Int) (hx1 : (-2147483648) ≤ x1 ∧ x1 ≤ 2147483647) (x2 : Int) (hx2 : (-2147483648) ≤ x2 ∧ x2 ≤ 2147483647) : ∃ z : Int, fX11_isPlace kn [.ref 0, hI x1, hI x2] w = some (some (hI z), w, 0, 0) ∧ (z = 0 ∨ (z = 1 ∧ 0 ≤ x1 ∧ x1 ≤ 11 ∧ 0 ≤ x2 ∧ x2 ≤ 2)) := by
  obtain ⟨w', z, h1, h2, h3⟩ := s_isPlace_ (kn := kn) hw x1 hx1 x2 hx2
  have e : w' = w := fr_nil hw h2.1 h2.2
  subst e
  exact ⟨z, h1, h3⟩
theorem s_isRow7_ {kn : sKn} {w : sW} (hw : wOk ZZ w) (x1 : Int) (hx1 : (-2147483648) ≤ x1 ∧ x1 ≤ 2147483647) : ∃ (w' : sW) (z : Int), fX11_isRow kn [.ref 0, hI x1] w = some (some (hI z), w', 0, 0) ∧ hO dX11_isRow w w' ∧ ((z = 1 ∧ 0 ≤ x1 ∧ x1 ≤ 11) ∨ z = 0) := by
  obtain ⟨r, w', h1, h2, q, hq, σ', h3, h4, h5, h6⟩ := con_use (con_X11_isRow_0 kn) (σ := [0, x1]) (av := [.ref 0, hI x1]) (w := w) rfl rfl ⟨av_c (k := 0) rfl, av_i rfl ⟨by omega, by omega⟩, trivial⟩ (fun q hq => by cases hq) (gE_c ⟨_, rfl, hx1⟩ (gE_n)) hw rfl
  rcases List.mem_cons.mp hq with rfl | hq
  · obtain ⟨z, z1, z2, z3⟩ := gS_i h4
    rw [z2] at h1
    have z4 := h3 0 0 rfl
    rw [z4] at z1
    cases z1
    have y1 := gE_at (a := 0) (b := 11) h6 (by first | exact List.mem_cons_self | exact List.mem_cons_of_mem _ List.mem_cons_self | exact List.mem_cons_of_mem _ (List.mem_cons_of_mem _ List.mem_cons_self) | exact List.mem_cons_of_mem _ (List.mem_cons_of_mem _ (List.mem_cons_of_mem _ List.mem_cons_self)) | decide) (h3 1 _ rfl)
    refine ⟨w', _, h1, h2, ?_⟩
    omega
  rcases List.mem_singleton.mp hq with rfl
  obtain ⟨z, z1, z2, z3⟩ := gS_i h4
  rw [z2] at h1
  have z4 := h3 0 0 rfl
  rw [z4] at z1
  cases z1
  refine ⟨w', _, h1, h2, ?_⟩
  omega
theorem s_isRow7 {kn : sKn} {w : sW} (hw : wOk ZZ w) (x1 : Int) (hx1 : (-2147483648) ≤ x1 ∧ x1 ≤ 2147483647) : ∃ z : Int, fX11_isRow kn [.ref 0, hI x1] w = some (some (hI z), w, 0, 0) ∧ ((z = 1 ∧ 0 ≤ x1 ∧ x1 ≤ 11) ∨ z = 0) := by
  obtain ⟨w', z, h1, h2, h3⟩ := s_isRow7_ (kn := kn) hw x1 hx1
  have e : w' = w := fr_nil hw h2.1 h2.2
  subst e
  exact ⟨z, h1, h3⟩
theorem s_bearing_ {kn : sKn} {w : sW} (hw : wOk ZZ w) {k1 : Nat} (hk1 : ztau k1 = some 5) {k2 : Nat} (hk2 : ztau k2 = some 15) (x3 : Int) (hx3 : (-2147483648) ≤ x3 ∧ x3 ≤ 2147483647) (x4 : Int) (hx4 : 0 ≤ x4 ∧ x4 ≤ 35) : ∃ (w' : sW) (z : Int), fX10_bearing kn [.ref k1, .ref k2, hI x3, hI x4] w = some (some (hI z), w', 0, 0) ∧ hO dX10_bearing w w' ∧ (z = (-1) ∨ z = 0 ∨ (0 ≤ z ∧ z ≤ 2147483647)) := by
  obtain ⟨r, w', h1, h2, q, hq, σ', h3, h4, h5, h6⟩ := con_use (con_X10_bearing_0 kn) (σ := [0, (k1 : Int), (k2 : Int), x3, x4]) (av := [.ref k1, .ref k2, hI x3, hI x4]) (w := w) rfl rfl ⟨av_r rfl, av_r rfl, av_i rfl ⟨by omega, by omega⟩, av_i rfl ⟨by omega, by omega⟩, trivial⟩ (fun q hq => by cases hq) (gE_c ⟨_, rfl, hx4⟩ (gE_c ⟨_, rfl, hx3⟩ (gE_c ⟨_, rfl, _, rfl, hk2⟩ (gE_c ⟨_, rfl, _, rfl, hk1⟩ (gE_n))))) hw (by simp only [xa_eq, List.all_cons, List.all_nil, Bool.and_true, Bool.and_eq_true]; exact ⟨tw hk1, tw hk2, rfl, rfl⟩)
  rcases List.mem_cons.mp hq with rfl | hq
  · obtain ⟨z, z1, z2, z3⟩ := gS_i h4
    rw [z2] at h1
    have z4 := h3 0 0 rfl
    rw [z4] at z1
    cases z1
    refine ⟨w', _, h1, h2, ?_⟩
    omega
  rcases List.mem_cons.mp hq with rfl | hq
  · obtain ⟨z, z1, z2, z3⟩ := gS_i h4
    rw [z2] at h1
    have z4 := h3 0 0 rfl
    rw [z4] at z1
    cases z1
    refine ⟨w', _, h1, h2, ?_⟩
    omega
  rcases List.mem_singleton.mp hq with rfl
  obtain ⟨z, z1, z2, z3⟩ := gS_i h4
  rw [z2] at h1
  have z5 := gE_at (a := 0) (b := 2147483647) h6 (by first | exact List.mem_cons_self | exact List.mem_cons_of_mem _ List.mem_cons_self | exact List.mem_cons_of_mem _ (List.mem_cons_of_mem _ List.mem_cons_self) | exact List.mem_cons_of_mem _ (List.mem_cons_of_mem _ (List.mem_cons_of_mem _ List.mem_cons_self)) | decide) z1
  refine ⟨w', _, h1, h2, ?_⟩
  omega
theorem s_bearing {kn : sKn} {w : sW} (hw : wOk ZZ w) {k1 : Nat} (hk1 : ztau k1 = some 5) {k2 : Nat} (hk2 : ztau k2 = some 15) (x3 : Int) (hx3 : (-2147483648) ≤ x3 ∧ x3 ≤ 2147483647) (x4 : Int) (hx4 : 0 ≤ x4 ∧ x4 ≤ 35) : ∃ z : Int, fX10_bearing kn [.ref k1, .ref k2, hI x3, hI x4] w = some (some (hI z), w, 0, 0) ∧ (z = (-1) ∨ z = 0 ∨ (0 ≤ z ∧ z ≤ 2147483647)) := by
  obtain ⟨w', z, h1, h2, h3⟩ := s_bearing_ (kn := kn) hw hk1 hk2 x3 hx3 x4 hx4
  have e : w' = w := fr_nil hw h2.1 h2.2
  subst e
  exact ⟨z, h1, h3⟩
theorem s_signer7_b {kn : sKn} {w : sW} (hw : wOk ZZ w) {n : Nat} (hn : n ≤ 9) {wh : Int} (hwh : R32 wh) (lv : List (Nat × Value)) (l0 : hL lv [(0, .ref 0), (1, hI n), (2, hI wh)]) : Tp (tX11_signer kn) (fun r => (∃ b : Int, r = (some (hI b), w, 0, 0)) ∨ r = (none, w, 1, 6)) 16 (lv, [], w, 0, 0) := by
  have o0 : hO [] w w := hO_rf hw
  have hwh1 := hwh.1
  have hwh2 := hwh.2
  refine h_iload rfl l0 rfl ?_
  by_cases e41_0 : wh = 0
  · refine h_tab 0 e41_0 (by unfold R32; omega) rfl (by omega) (by omega) rfl ?_
    refine h_aload rfl l0 rfl ?_
    refine h_getR rfl o0 frc_0_3 ?_
    refine h_getT rfl o0 (show ztau 24 = some 15 from rfl) frt_15_3 (fun k42 hk42 rk42 => ?_)
    refine h_iload rfl l0 rfl ?_
    refine h_ialdj (n) rfl o0 (aI_of hk42 ait_16) rfl (by omega) (by omega) (fun b43a b43b => ?_)
    refine h_iret rfl ?_
    exact Or.inl ⟨_, rfl⟩
  by_cases e41_1 : wh = 1
  · refine h_tab 1 e41_1 (by unfold R32; omega) rfl (by omega) (by omega) rfl ?_
    refine h_aload rfl l0 rfl ?_
    refine h_getR rfl o0 frc_0_2 ?_
    refine h_getT rfl o0 (show ztau 14 = some 5 from rfl) frt_5_8 (fun k44 hk44 rk44 => ?_)
    refine h_iload rfl l0 rfl ?_
    refine h_ialdj (n) rfl o0 (aI_of hk44 ait_8) rfl (by omega) (by omega) (fun b45a b45b => ?_)
    refine h_iret rfl ?_
    exact Or.inl ⟨_, rfl⟩
  by_cases e41_2 : wh = 2
  · refine h_tab 2 e41_2 (by unfold R32; omega) rfl (by omega) (by omega) rfl ?_
    refine h_aload rfl l0 rfl ?_
    refine h_getR rfl o0 frc_0_2 ?_
    refine h_getI rfl o0 (fI_of (show ztau 14 = some 5 from rfl) fit_5_5) (fun b46a b46b => ?_)
    refine h_iload rfl l0 rfl ?_
    refine h_ishrv rfl (fun z47 rz47 => ?_)
    have rz471 := rz47.1
    have rz472 := rz47.2
    refine h_intv k_1 rfl ?_
    refine h_iandv rfl (fun z48 rz48 => ?_)
    have rz481 := rz48.1
    have rz482 := rz48.2
    refine h_iret rfl ?_
    exact Or.inl ⟨_, rfl⟩
  by_cases e41_3 : wh = 3
  · refine h_tab 3 e41_3 (by unfold R32; omega) rfl (by omega) (by omega) rfl ?_
    refine h_aload rfl l0 rfl ?_
    refine h_getR rfl o0 frc_0_2 ?_
    refine h_getT rfl o0 (show ztau 14 = some 5 from rfl) frt_5_9 (fun k49 hk49 rk49 => ?_)
    refine h_iload rfl l0 rfl ?_
    refine h_ialdj (n) rfl o0 (aI_of hk49 ait_9) rfl (by omega) (by omega) (fun b50a b50b => ?_)
    refine h_iret rfl ?_
    exact Or.inl ⟨_, rfl⟩
  by_cases e41_4 : wh = 4
  · refine h_tab 4 e41_4 (by unfold R32; omega) rfl (by omega) (by omega) rfl ?_
    refine h_aload rfl l0 rfl ?_
    refine h_getR rfl o0 frc_0_2 ?_
    refine h_getT rfl o0 (show ztau 14 = some 5 from rfl) frt_5_10 (fun k51 hk51 rk51 => ?_)
    refine h_iload rfl l0 rfl ?_
    refine h_ialdj (n) rfl o0 (aI_of hk51 ait_10) rfl (by omega) (by omega) (fun b52a b52b => ?_)
    refine h_iret rfl ?_
    exact Or.inl ⟨_, rfl⟩
  by_cases e41_5 : wh = 5
  · refine h_tab 5 e41_5 (by unfold R32; omega) rfl (by omega) (by omega) rfl ?_
    refine h_aload rfl l0 rfl ?_
    refine h_getR rfl o0 frc_0_3 ?_
    refine h_iload rfl l0 rfl ?_
    obtain ⟨z53, hf53, hz53⟩ := s_lives (kn := kn) hw (show ztau 24 = some 15 from rfl) (n : Int) ⟨by omega, by omega⟩
    refine h_V2 rfl o0 l0 (cI_of (show ztau 24 = some 15 from rfl) cit_15) rfl rfl hf53 ?_
    refine j_eq (kn := kn) (t := 0) (tgt := 131) (np := 127) rfl (by unfold R32; omega) (fun e54 => ?_) (fun e54 => ?_)
    · refine h_intv k_1 rfl ?_
      refine h_iret rfl ?_
      exact Or.inl ⟨_, rfl⟩
    · refine h_intv k_0 rfl ?_
      refine h_goto rfl ?_
      refine h_iret rfl ?_
      exact Or.inl ⟨_, rfl⟩
  by_cases e41_6 : wh = 6
  · refine h_tab 6 e41_6 (by unfold R32; omega) rfl (by omega) (by omega) rfl ?_
    refine h_aload rfl l0 rfl ?_
    refine h_getR rfl o0 frc_0_3 ?_
    refine h_getT rfl o0 (show ztau 24 = some 15 from rfl) frt_15_5 (fun k55 hk55 rk55 => ?_)
    refine h_iload rfl l0 rfl ?_
    refine h_ialdj (n) rfl o0 (aI_of hk55 ait_18) rfl (by omega) (by omega) (fun b56a b56b => ?_)
    refine h_iret rfl ?_
    exact Or.inl ⟨_, rfl⟩
  by_cases e41_7 : wh = 7
  · refine h_tab 7 e41_7 (by unfold R32; omega) rfl (by omega) (by omega) rfl ?_
    refine h_aload rfl l0 rfl ?_
    refine h_getR rfl o0 frc_0_3 ?_
    refine h_getT rfl o0 (show ztau 24 = some 15 from rfl) frt_15_4 (fun k57 hk57 rk57 => ?_)
    refine h_iload rfl l0 rfl ?_
    refine h_ialdj (n) rfl o0 (aI_of hk57 ait_17) rfl (by omega) (by omega) (fun b58a b58b => ?_)
    refine h_iret rfl ?_
    exact Or.inl ⟨_, rfl⟩
  refine h_tabd rfl (by unfold R32; omega) (by omega) ?_
  refine h_throw rfl rfl ?_
  exact Or.inr rfl
theorem s_signer7 {kn : sKn} {w : sW} (hw : wOk ZZ w) (s : Int) (hs : R32 s) (wh : Int) (hwh : R32 wh) : ∃ r, fX11_signer kn [.ref 0, hI s, hI wh] w = some r ∧ ((∃ b : Int, r = (some (hI b), w, 0, 0)) ∨ r = (none, w, 1, 6)) := by
  have hs1 := hs.1
  have hs2 := hs.2
  have hwh1 := hwh.1
  have hwh2 := hwh.2
  have K : Tp (tX11_signer kn) (fun r => (∃ b : Int, r = (some (hI b), w, 0, 0)) ∨ r = (none, w, 1, 6)) 0 (lv_args 0 [.ref 0, hI s, hI wh], [], w, 0, 0) := by
    have l0 : hL (lv_args 0 [.ref 0, hI s, hI wh]) (lv_args 0 [.ref 0, hI s, hI wh]) := ⟨fun _ _ h => h, fun q hq => by
      rcases List.mem_cons.mp hq with e | hq
      · rw [e]
        exact ⟨rfl, rfl⟩
      rcases List.mem_cons.mp hq with e | hq
      · rw [e]
        exact ⟨rfl, rfl⟩
      rcases List.mem_cons.mp hq with e | hq
      · rw [e]
        exact ⟨rfl, rfl⟩
      cases hq⟩
    have o0 : hO [] w w := hO_rf hw
    refine h_aload rfl l0 rfl ?_
    refine h_iload rfl l0 rfl ?_
    obtain ⟨z41, hf41, hz41⟩ := s_isSigner7 (kn := kn) hw s ⟨by omega, by omega⟩
    refine h_V2 rfl o0 l0 (cI_of (show ztau 0 = some 1 from rfl) cit_1) rfl rfl hf41 ?_
    refine j_ne (kn := kn) (t := 1) (tgt := 16) (np := 8) rfl (by unfold R32; omega) (fun e42 => ?_) (fun e42 => ?_)
    · obtain ⟨n, hn⟩ : ∃ n : Nat, s = (n : Int) := ⟨(s).toNat, by omega⟩
      exact s_signer7_b hw (n := n) (by omega) hwh _ (by rw [← hn]; exact l0)
    · refine h_throw rfl rfl ?_
      exact Or.inr rfl
  exact h_meth1 (nL := 3) rfl K
theorem s_load7_b {kn : sKn} {w : sW} (hw : wOk ZZ w) {n : Nat} (hn : n ≤ 5) {wh : Int} (hwh : R32 wh) (lv : List (Nat × Value)) (l0 : hL lv [(0, .ref 0), (1, hI n), (2, hI wh)]) : Tp (tX11_load kn) (fun r => (∃ b : Int, r = (some (hI b), w, 0, 0)) ∨ r = (none, w, 1, 6)) 16 (lv, [], w, 0, 0) := by
  have o0 : hO [] w w := hO_rf hw
  have hwh1 := hwh.1
  have hwh2 := hwh.2
  refine h_iload rfl l0 rfl ?_
  by_cases e41_0 : wh = 0
  · refine h_tab 0 e41_0 (by unfold R32; omega) rfl (by omega) (by omega) rfl ?_
    refine h_aload rfl l0 rfl ?_
    refine h_getR rfl o0 frc_0_2 ?_
    refine h_getT rfl o0 (show ztau 14 = some 5 from rfl) frt_5_13 (fun k42 hk42 rk42 => ?_)
    refine h_iload rfl l0 rfl ?_
    refine h_ialdj (n) rfl o0 (aI_of hk42 ait_13) rfl (by omega) (by omega) (fun b43a b43b => ?_)
    refine h_iret rfl ?_
    exact Or.inl ⟨_, rfl⟩
  by_cases e41_1 : wh = 1
  · refine h_tab 1 e41_1 (by unfold R32; omega) rfl (by omega) (by omega) rfl ?_
    refine h_aload rfl l0 rfl ?_
    refine h_getR rfl o0 frc_0_2 ?_
    refine h_getT rfl o0 (show ztau 14 = some 5 from rfl) frt_5_14 (fun k44 hk44 rk44 => ?_)
    refine h_iload rfl l0 rfl ?_
    refine h_ialdj (n) rfl o0 (aI_of hk44 ait_14) rfl (by omega) (by omega) (fun b45a b45b => ?_)
    refine h_iret rfl ?_
    exact Or.inl ⟨_, rfl⟩
  by_cases e41_2 : wh = 2
  · refine h_tab 2 e41_2 (by unfold R32; omega) rfl (by omega) (by omega) rfl ?_
    refine h_aload rfl l0 rfl ?_
    refine h_getR rfl o0 frc_0_3 ?_
    refine h_getI rfl o0 (fI_of (show ztau 24 = some 15 from rfl) fit_15_2) (fun b46a b46b => ?_)
    refine h_iload rfl l0 rfl ?_
    refine h_ishrv rfl (fun z47 rz47 => ?_)
    have rz471 := rz47.1
    have rz472 := rz47.2
    refine h_intv k_1 rfl ?_
    refine h_iandv rfl (fun z48 rz48 => ?_)
    have rz481 := rz48.1
    have rz482 := rz48.2
    refine h_iret rfl ?_
    exact Or.inl ⟨_, rfl⟩
  by_cases e41_3 : wh = 3
  · refine h_tab 3 e41_3 (by unfold R32; omega) rfl (by omega) (by omega) rfl ?_
    refine h_aload rfl l0 rfl ?_
    refine h_getR rfl o0 frc_0_3 ?_
    refine h_getT rfl o0 (show ztau 24 = some 15 from rfl) frt_15_8 (fun k49 hk49 rk49 => ?_)
    refine h_iload rfl l0 rfl ?_
    refine h_ialdj (n) rfl o0 (aI_of hk49 ait_21) rfl (by omega) (by omega) (fun b50a b50b => ?_)
    refine h_iret rfl ?_
    exact Or.inl ⟨_, rfl⟩
  refine h_tabd rfl (by unfold R32; omega) (by omega) ?_
  refine h_throw rfl rfl ?_
  exact Or.inr rfl
theorem s_load7 {kn : sKn} {w : sW} (hw : wOk ZZ w) (s : Int) (hs : R32 s) (wh : Int) (hwh : R32 wh) : ∃ r, fX11_load kn [.ref 0, hI s, hI wh] w = some r ∧ ((∃ b : Int, r = (some (hI b), w, 0, 0)) ∨ r = (none, w, 1, 6)) := by
  have hs1 := hs.1
  have hs2 := hs.2
  have hwh1 := hwh.1
  have hwh2 := hwh.2
  have K : Tp (tX11_load kn) (fun r => (∃ b : Int, r = (some (hI b), w, 0, 0)) ∨ r = (none, w, 1, 6)) 0 (lv_args 0 [.ref 0, hI s, hI wh], [], w, 0, 0) := by
    have l0 : hL (lv_args 0 [.ref 0, hI s, hI wh]) (lv_args 0 [.ref 0, hI s, hI wh]) := ⟨fun _ _ h => h, fun q hq => by
      rcases List.mem_cons.mp hq with e | hq
      · rw [e]
        exact ⟨rfl, rfl⟩
      rcases List.mem_cons.mp hq with e | hq
      · rw [e]
        exact ⟨rfl, rfl⟩
      rcases List.mem_cons.mp hq with e | hq
      · rw [e]
        exact ⟨rfl, rfl⟩
      cases hq⟩
    have o0 : hO [] w w := hO_rf hw
    refine h_aload rfl l0 rfl ?_
    refine h_iload rfl l0 rfl ?_
    obtain ⟨z41, hf41, hz41⟩ := s_isLoad7 (kn := kn) hw s ⟨by omega, by omega⟩
    refine h_V2 rfl o0 l0 (cI_of (show ztau 0 = some 1 from rfl) cit_1) rfl rfl hf41 ?_
    refine j_ne (kn := kn) (t := 1) (tgt := 16) (np := 8) rfl (by unfold R32; omega) (fun e42 => ?_) (fun e42 => ?_)
    · obtain ⟨n, hn⟩ : ∃ n : Nat, s = (n : Int) := ⟨(s).toNat, by omega⟩
      exact s_load7_b hw (n := n) (by omega) hwh _ (by rw [← hn]; exact l0)
    · refine h_throw rfl rfl ?_
      exact Or.inr rfl
  exact h_meth1 (nL := 3) rfl K
theorem s_plank7_b {kn : sKn} {w : sW} (hw : wOk ZZ w) {r k : Nat} (hr : r ≤ 11) (hk : k ≤ 2) {wh : Int} (hwh : R32 wh) (lv : List (Nat × Value)) (l0 : hL lv [(0, .ref 0), (1, hI r), (2, hI k), (3, hI wh)]) : Tp (tX11_plank kn) (fun r => (∃ b : Int, r = (some (hI b), w, 0, 0)) ∨ r = (none, w, 1, 6)) 26 (lv, [], w, 0, 0) := by
  have o0 : hO [] w w := hO_rf hw
  have hwh1 := hwh.1
  have hwh2 := hwh.2
  refine h_intv k_3 rfl ?_
  refine h_iload rfl l0 rfl ?_
  refine h_imul rfl ?_
  refine h_iload rfl l0 rfl ?_
  refine h_iadd rfl ?_
  refine h_istore rfl l0 (fun vl41 l41 => ?_)
  refine h_iload rfl l41 rfl ?_
  refine j_ne (kn := kn) (t := 1) (tgt := 48) (np := 37) rfl (by unfold R32; omega) (fun e42 => ?_) (fun e42 => ?_)
  · refine h_iload rfl l41 rfl ?_
    refine h_intv k_1 rfl ?_
    refine i_ne (kn := kn) (t := 1) (tgt := 78) (np := 53) rfl (by unfold R32; omega) (by unfold R32; omega) (fun e43 => ?_) (fun e43 => ?_)
    · refine h_aload rfl l41 rfl ?_
      refine h_getR rfl o0 frc_0_3 ?_
      refine h_getT rfl o0 (show ztau 24 = some 15 from rfl) frt_15_7 (fun k44 hk44 rk44 => ?_)
      refine h_iload rfl l41 rfl ?_
      refine h_ialdj (3 * r + k) rfl o0 (aI_of hk44 ait_20) rfl (by omega) (by omega) (fun b45a b45b => ?_)
      refine h_iret rfl ?_
      exact Or.inl ⟨_, rfl⟩
    · refine h_intv k_0 rfl ?_
      refine h_aload rfl l41 rfl ?_
      refine h_getR rfl o0 frc_0_2 ?_
      refine h_aload rfl l41 rfl ?_
      refine h_getR rfl o0 frc_0_3 ?_
      refine h_aload rfl l41 rfl ?_
      refine h_getR rfl o0 frc_0_2 ?_
      refine h_getI rfl o0 (fI_of (show ztau 14 = some 5 from rfl) fit_5_5) (fun b46a b46b => ?_)
      refine h_iload rfl l41 rfl ?_
      obtain ⟨z47, hf47, hz47⟩ := s_bearing (kn := kn) hw (show ztau 14 = some 5 from rfl) (show ztau 24 = some 15 from rfl) (gF w 14 5) ⟨by omega, by omega⟩ ((3 * r + k : Nat) : Int) ⟨by omega, by omega⟩
      refine h_S4 rfl o0 l41 rfl rfl hf47 ?_
      refine h_mmax rfl rfl (by unfold R32; omega) (by unfold R32; omega) (fun m48 hm48 => ?_)
      refine h_iret rfl ?_
      exact Or.inl ⟨_, rfl⟩
  · refine h_aload rfl l41 rfl ?_
    refine h_getR rfl o0 frc_0_3 ?_
    refine h_getT rfl o0 (show ztau 24 = some 15 from rfl) frt_15_6 (fun k49 hk49 rk49 => ?_)
    refine h_iload rfl l41 rfl ?_
    refine h_ialdj (3 * r + k) rfl o0 (aI_of hk49 ait_19) rfl (by omega) (by omega) (fun b50a b50b => ?_)
    refine h_iret rfl ?_
    exact Or.inl ⟨_, rfl⟩
theorem s_plank7 {kn : sKn} {w : sW} (hw : wOk ZZ w) (s : Int) (hs : R32 s) (t : Int) (ht : R32 t) (wh : Int) (hwh : R32 wh) : ∃ r, fX11_plank kn [.ref 0, hI s, hI t, hI wh] w = some r ∧ ((∃ b : Int, r = (some (hI b), w, 0, 0)) ∨ r = (none, w, 1, 6)) := by
  have hs1 := hs.1
  have hs2 := hs.2
  have ht1 := ht.1
  have ht2 := ht.2
  have hwh1 := hwh.1
  have hwh2 := hwh.2
  have K : Tp (tX11_plank kn) (fun r => (∃ b : Int, r = (some (hI b), w, 0, 0)) ∨ r = (none, w, 1, 6)) 0 (lv_args 0 [.ref 0, hI s, hI t, hI wh], [], w, 0, 0) := by
    have l0 : hL (lv_args 0 [.ref 0, hI s, hI t, hI wh]) (lv_args 0 [.ref 0, hI s, hI t, hI wh]) := ⟨fun _ _ h => h, fun q hq => by
      rcases List.mem_cons.mp hq with e | hq
      · rw [e]
        exact ⟨rfl, rfl⟩
      rcases List.mem_cons.mp hq with e | hq
      · rw [e]
        exact ⟨rfl, rfl⟩
      rcases List.mem_cons.mp hq with e | hq
      · rw [e]
        exact ⟨rfl, rfl⟩
      rcases List.mem_cons.mp hq with e | hq
      · rw [e]
        exact ⟨rfl, rfl⟩
      cases hq⟩
    have o0 : hO [] w w := hO_rf hw
    refine h_aload rfl l0 rfl ?_
    refine h_iload rfl l0 rfl ?_
    refine h_iload rfl l0 rfl ?_
    obtain ⟨z41, hf41, hz41⟩ := s_isPlace (kn := kn) hw s ⟨by omega, by omega⟩ t ⟨by omega, by omega⟩
    refine h_V3 rfl o0 l0 (cI_of (show ztau 0 = some 1 from rfl) cit_1) rfl rfl hf41 ?_
    refine j_eq (kn := kn) (t := 0) (tgt := 18) (np := 9) rfl (by unfold R32; omega) (fun e42 => ?_) (fun e42 => ?_)
    · refine h_throw rfl rfl ?_
      exact Or.inr rfl
    · refine h_iload rfl l0 rfl ?_
      refine j_lt (kn := kn) (t := 2) (tgt := 18) (np := 13) rfl (by unfold R32; omega) (fun e43 => ?_) (fun e43 => ?_)
      · refine h_throw rfl rfl ?_
        exact Or.inr rfl
      · refine h_iload rfl l0 rfl ?_
        refine h_intv k_2 rfl ?_
        refine i_le (kn := kn) (t := 5) (tgt := 26) (np := 18) rfl (by unfold R32; omega) (by unfold R32; omega) (fun e44 => ?_) (fun e44 => ?_)
        · obtain ⟨n, hn⟩ : ∃ n : Nat, s = (n : Int) := ⟨s.toNat, by omega⟩
          obtain ⟨k, hk⟩ : ∃ k : Nat, t = (k : Int) := ⟨t.toNat, by omega⟩
          exact s_plank7_b hw (r := n) (k := k) (by omega) (by omega) hwh _ (by rw [← hn, ← hk]; exact l0)
        · refine h_throw rfl rfl ?_
          exact Or.inr rfl
  exact h_meth1 (nL := 5) rfl K
end
