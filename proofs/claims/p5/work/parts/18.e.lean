noncomputable section
def fJt (c ci kf : Nat) : Option Nat := match ztau c with
  | some t => match fty ZZ t ci kf with
    | some (1, .inl q) => match zle q.1 (-9223372036854775808) with
      | true => match zle 9223372036854775807 q.2 with
        | true => some t
        | false => none
      | false => none
    | _ => none
  | none => none
theorem fJ_ok {D : List (Nat × Nat)} {w0 w : sW} {c ci kf t : Nat} (ho : hO D w0 w) (h : fJt c ci kf = some t) : ∃ (fs : List Value) (x : Int64) (q : Int × Int), ztau c = some t ∧ fty ZZ t ci kf = some (1, .inl q) ∧ q.1 ≤ -9223372036854775808 ∧ 9223372036854775807 ≤ q.2 ∧ w[c]? = some (.inr (ci, fs)) ∧ fs[kf]? = some (.long x) := by
  unfold fJt at h
  split at h
  · rename_i t' ht
    split at h
    · rename_i q hq
      split at h
      · rename_i c1
        split at h
        · rename_i c2
          rw [zle_iff] at c1 c2
          cases h
          obtain ⟨fs, v, w1, w2, ⟨z, z1, z2⟩, _⟩ := fty_ok ho.1 (show ZZ.2 c = some _ from ht) hq
          obtain ⟨x, rfl, _⟩ := z1
          exact ⟨fs, x, q, ht, hq, c1, c2, w1, w2⟩
        · cases h
      · cases h
    · cases h
  · cases h
section HJ
variable {tbl : List (Nat × sA)} {Po : sR → Prop} {pc np : Nat} {lv ps : List (Nat × Value)} {st : List Value} {w w0 : sW} {D : List (Nat × Nat)} {kn : sKn}
theorem h_getJ {ci kf c t : Nat} (ha : t_get tbl pc = some (a_get ci kf np)) (ho : hO D w0 w) (hf : fJt c ci kf = some t) (g : ∀ x : Int64, Tp tbl Po np (lv, .long x :: st, w, 0, 0)) : Tp tbl Po pc (lv, .ref c :: st, w, 0, 0) := by
  obtain ⟨fs, x, q, _, _, _, _, h1, h2⟩ := fJ_ok ho hf
  exact Tp_step ha (fun k => by simp only [a_get, xg_eq, h1, Nat.beq_refl, h2]) (g x)
theorem h_putJ {ci kf c t : Nat} {x : Int64} (ha : t_get tbl pc = some (a_put ci kf ckJ np)) (ho : hO D w0 w) (hf : fJt c ci kf = some t) (hm : mJn D t kf = true) (g : ∀ w', hO D w0 w' → (∀ c' k', gF w' c' k' = gF w c' k') → (∀ c' j, gX w' c' j = gX w c' j) → Tp tbl Po np (lv, st, w', 0, 0)) : Tp tbl Po pc (lv, .long x :: .ref c :: st, w, 0, 0) := by
  obtain ⟨fs, y, q, k1, k2, k3, k4, k5, k6⟩ := fJ_ok ho hf
  have hl := (List.getElem?_eq_some_iff.mp k5).1
  have hkf := (List.getElem?_eq_some_iff.mp k6).1
  have hck : ckJ (.long x) = true := rfl
  have hfv : fvOk ZZ (1, .inl q) (.long x) := ⟨x.toInt, ⟨x, rfl, rfl⟩, by have := x.le_toInt; show q.1 ≤ _; omega, by have := x.toInt_lt; show _ ≤ q.2; omega⟩
  refine Tp_step ha (fun k => by simp only [a_put, xg_eq, xs_eq, k5, Nat.beq_refl, k6, hck]) (g _ ⟨wOk_put ho.1 k1 k5 k2 hfv, frOk_put ho.2 k1 k5 (mJn_1 hm) (mJn_2 hm)⟩ ?_ ?_)
  · intro c' k'
    by_cases e : c' = c ∧ k' = kf
    · obtain ⟨rfl, rfl⟩ := e
      unfold gF
      rw [List.getElem?_set_self hl, k5]
      dsimp only
      rw [List.getElem?_set_self hkf, k6]
    · refine gF_set k5 (fun e1 => ?_)
      exact List.getElem?_set_ne (fun z => e ⟨e1, z.symm⟩)
  · intro c' j
    exact gX_setF k5
theorem h_long {v : Int64} (ha : t_get tbl pc = some (a_stk (q_long v) np)) (g : Tp tbl Po np (lv, .long v :: st, w, 0, 0)) : Tp tbl Po pc (lv, st, w, 0, 0) := Tp_step ha (fun _ => rfl) g
theorem h_ladd {x y : Int64} (ha : t_get tbl pc = some (a_stk q_ladd np)) (g : Tp tbl Po np (lv, .long (x + y) :: st, w, 0, 0)) : Tp tbl Po pc (lv, .long y :: .long x :: st, w, 0, 0) := Tp_step ha (fun _ => rfl) g
theorem h_lsub {x y : Int64} (ha : t_get tbl pc = some (a_stk q_lsub np)) (g : Tp tbl Po np (lv, .long (x - y) :: st, w, 0, 0)) : Tp tbl Po pc (lv, .long y :: .long x :: st, w, 0, 0) := Tp_step ha (fun _ => rfl) g
theorem h_lmul {x y : Int64} (ha : t_get tbl pc = some (a_stk q_lmul np)) (g : Tp tbl Po np (lv, .long (x * y) :: st, w, 0, 0)) : Tp tbl Po pc (lv, .long y :: .long x :: st, w, 0, 0) := Tp_step ha (fun _ => rfl) g
theorem h_i2l {a : Int} (ha : t_get tbl pc = some (a_stk q_i2l np)) (g : ∀ x : Int64, Tp tbl Po np (lv, .long x :: st, w, 0, 0)) : Tp tbl Po pc (lv, hI a :: st, w, 0, 0) := Tp_step ha (fun _ => rfl) (g _)
theorem h_mmin {x y : Int} (ha : t_get tbl pc = some (a_mmin np)) (hc : Nat.ble (st.map fun v => v.category).sum 8 = true) (r : R32 x) (s : R32 y) (g : ∀ m : Int, ((x ≤ y ∧ m = x) ∨ (y < x ∧ m = y)) → Tp tbl Po np (lv, hI m :: st, w, 0, 0)) : Tp tbl Po pc (lv, hI y :: hI x :: st, w, 0, 0) := by
  by_cases p : y < x
  · refine Tp_step ha (fun k => ?_) (g y (Or.inr ⟨p, rfl⟩))
    have e : Int32.ofInt y < Int32.ofInt x := by rw [Int32.lt_iff_toInt_lt, hI_to r, hI_to s]; exact p
    show (if (st.map fun v => v.category).sum ≤ 8 then k np (lv, Value.int (if Int32.ofInt y < Int32.ofInt x then Int32.ofInt y else Int32.ofInt x) :: st, w, 0, 0) else none) = _
    rw [if_pos (Nat.le_of_ble_eq_true hc), if_pos e]
    rfl
  · refine Tp_step ha (fun k => ?_) (g x (Or.inl ⟨by omega, rfl⟩))
    have e : ¬ Int32.ofInt y < Int32.ofInt x := by rw [Int32.lt_iff_toInt_lt, hI_to r, hI_to s]; exact p
    show (if (st.map fun v => v.category).sum ≤ 8 then k np (lv, Value.int (if Int32.ofInt y < Int32.ofInt x then Int32.ofInt y else Int32.ofInt x) :: st, w, 0, 0) else none) = _
    rw [if_pos (Nat.le_of_ble_eq_true hc), if_neg e]
    rfl
theorem h_VK2 {f : List Value → sW → Option sR} {x1 v : Value} {w' : sW} (ha : t_get tbl pc = some (a_callVSK false f 2 np)) (ho : hO D w0 w) (hl : hL lv ps) (h2 : Nat.ble (st.map fun v => v.category).sum 8 = true) (h3 : xa (wfV 241) st = true) (hf : f [.ref 1000004, x1] w = some (some v, w', 0, 0)) (g : Tp tbl Po np (lv, v :: st, w', 0, 0)) : Tp tbl Po pc (lv, x1 :: .ref 1000004 :: st, w, 0, 0) := by
  refine Tp_step ha (fun k => ?_) g
  show (match c_ok (lv, x1 :: .ref 1000004 :: st, w, 0, 0) 2 with
    | true => a_back false k np lv st 0 0 (f [.ref 1000004, x1] w)
    | false => none) = _
  rw [c_ok_h (na := 2) (stk := x1 :: .ref 1000004 :: st) ho hl (Nat.ble_eq.mpr (by simp)) h2 h3, hf]
  rfl
end HJ
theorem ci_1 : cIs 1 = some 10 := by decide +kernel
theorem fr_1_0 : fR 1 10 0 = some 2 := by decide +kernel
theorem fi_1_1 : fI 1 10 1 = some (2, 0, 940) := by decide +kernel
theorem fi_1_2 : fI 1 10 2 = some (2, 0, 940) := by decide +kernel
theorem fi_1_3 : fI 1 10 3 = some (2, 0, 940) := by decide +kernel
theorem fi_1_4 : fI 1 10 4 = some (2, (-2147483648), 2147483647) := by decide +kernel
theorem fi_1_5 : fI 1 10 5 = some (2, 0, 940) := by decide +kernel
theorem fi_1_6 : fI 1 10 6 = some (2, (-2147483648), 2147483647) := by decide +kernel
theorem fj_1_7 : fJt 1 10 7 = some 2 := by decide +kernel
theorem fi_1_8 : fI 1 10 8 = some (2, (-2147483648), 2147483647) := by decide +kernel
theorem fj_1_9 : fJt 1 10 9 = some 2 := by decide +kernel
theorem fi_1_10 : fI 1 10 10 = some (2, (-2147483648), 2147483647) := by decide +kernel
theorem fi_1_11 : fI 1 10 11 = some (2, (-2147483648), 2147483647) := by decide +kernel
theorem fi_1_12 : fI 1 10 12 = some (2, (-2147483648), 2147483647) := by decide +kernel
theorem ai_2 : aI 2 = some (3, 940) := by decide +kernel
theorem aw_2 : aP 2 0 940 0 255 = true := by decide +kernel
theorem ar_2 : aR 2 0 940 0 255 = true := by decide +kernel
theorem k_27 : (27 : Int32) = Int32.ofInt (27) := by decide +kernel
def dH_tok : List (Nat × Nat) := [(2, 3), (2, 4), (2, 5), (2, 6), (2, 7)]
theorem ar_2b : aR 2 0 940 0 255 = true := by decide +kernel
theorem s_isLet {kn : sKn} {w : sW} (hw : wOk ZZ w) (x : Int) (hx : R32 x) : ∃ b : Int, fX9_isLetter kn [hI x] w = some (some (hI b), w, 0, 0) ∧ (b = 0 ∨ b = 1) := by
  have K : Tp (tX9_isLetter kn) (fun r => ∃ b : Int, r = (some (hI b), w, 0, 0) ∧ (b = 0 ∨ b = 1)) 0 (lv_args 0 [hI x], [], w, 0, 0) := by
    have l0 : hL (lv_args 0 [hI x]) (lv_args 0 [hI x]) := hL_ex rfl
    have o0 : hO [] w w := hO_rf hw
    have hx1 := hx.1
    have hx2 := hx.2
    refine h_iload rfl l0 rfl ?_
    refine h_intv k_97 rfl ?_
    refine i_lt (kn := kn) (t := 2) (tgt := 16) (np := 6) rfl (by unfold R32; omega) (by unfold R32; omega) (fun e1 => ?_) (fun e1 => ?_)
    · refine h_intv k_0 rfl ?_
      refine h_zret (by omega) rfl ?_
      exact ⟨_, rfl, by omega⟩
    · refine h_iload rfl l0 rfl ?_
      refine h_intv k_122 rfl ?_
      refine i_gt (kn := kn) (t := 4) (tgt := 16) (np := 12) rfl (by unfold R32; omega) (by unfold R32; omega) (fun e2 => ?_) (fun e2 => ?_)
      · refine h_intv k_0 rfl ?_
        refine h_zret (by omega) rfl ?_
        exact ⟨_, rfl, by omega⟩
      · refine h_intv k_1 rfl ?_
        refine h_goto rfl ?_
        refine h_zret (by omega) rfl ?_
        exact ⟨_, rfl, by omega⟩
  obtain ⟨r, h1, b, h2, h3⟩ := h_meth1 (nL := 1) rfl K
  rw [h2] at h1
  exact ⟨b, h1, h3⟩
theorem s_isDig {kn : sKn} {w : sW} (hw : wOk ZZ w) (x : Int) (hx : R32 x) : ∃ b : Int, fX9_isDigit kn [hI x] w = some (some (hI b), w, 0, 0) ∧ (b = 0 ∨ b = 1) := by
  have K : Tp (tX9_isDigit kn) (fun r => ∃ b : Int, r = (some (hI b), w, 0, 0) ∧ (b = 0 ∨ b = 1)) 0 (lv_args 0 [hI x], [], w, 0, 0) := by
    have l0 : hL (lv_args 0 [hI x]) (lv_args 0 [hI x]) := hL_ex rfl
    have o0 : hO [] w w := hO_rf hw
    have hx1 := hx.1
    have hx2 := hx.2
    refine h_iload rfl l0 rfl ?_
    refine h_intv k_48 rfl ?_
    refine i_lt (kn := kn) (t := 2) (tgt := 16) (np := 6) rfl (by unfold R32; omega) (by unfold R32; omega) (fun e1 => ?_) (fun e1 => ?_)
    · refine h_intv k_0 rfl ?_
      refine h_zret (by omega) rfl ?_
      exact ⟨_, rfl, by omega⟩
    · refine h_iload rfl l0 rfl ?_
      refine h_intv k_57 rfl ?_
      refine i_gt (kn := kn) (t := 4) (tgt := 16) (np := 12) rfl (by unfold R32; omega) (by unfold R32; omega) (fun e2 => ?_) (fun e2 => ?_)
      · refine h_intv k_0 rfl ?_
        refine h_zret (by omega) rfl ?_
        exact ⟨_, rfl, by omega⟩
      · refine h_intv k_1 rfl ?_
        refine h_goto rfl ?_
        refine h_zret (by omega) rfl ?_
        exact ⟨_, rfl, by omega⟩
  obtain ⟨r, h1, b, h2, h3⟩ := h_meth1 (nL := 1) rfl K
  rw [h2] at h1
  exact ⟨b, h1, h3⟩
theorem s_isSgn {kn : sKn} {w : sW} (hw : wOk ZZ w) (x : Int) (hx : R32 x) : ∃ b : Int, fX9_isSign kn [hI x] w = some (some (hI b), w, 0, 0) ∧ (b = 0 ∨ b = 1) := by
  have K : Tp (tX9_isSign kn) (fun r => ∃ b : Int, r = (some (hI b), w, 0, 0) ∧ (b = 0 ∨ b = 1)) 0 (lv_args 0 [hI x], [], w, 0, 0) := by
    have l0 : hL (lv_args 0 [hI x]) (lv_args 0 [hI x]) := hL_ex rfl
    have o0 : hO [] w w := hO_rf hw
    have hx1 := hx.1
    have hx2 := hx.2
    refine h_iload rfl l0 rfl ?_
    refine h_intv k_59 rfl ?_
    refine i_eq (kn := kn) (t := 0) (tgt := 36) (np := 6) rfl (by unfold R32; omega) (by unfold R32; omega) (fun e1 => ?_) (fun e1 => ?_)
    · refine h_intv k_1 rfl ?_
      refine h_goto rfl ?_
      refine h_zret (by omega) rfl ?_
      exact ⟨_, rfl, by omega⟩
    · refine h_iload rfl l0 rfl ?_
      refine h_intv k_60 rfl ?_
      refine i_eq (kn := kn) (t := 0) (tgt := 36) (np := 12) rfl (by unfold R32; omega) (by unfold R32; omega) (fun e2 => ?_) (fun e2 => ?_)
      · refine h_intv k_1 rfl ?_
        refine h_goto rfl ?_
        refine h_zret (by omega) rfl ?_
        exact ⟨_, rfl, by omega⟩
      · refine h_iload rfl l0 rfl ?_
        refine h_intv k_61 rfl ?_
        refine i_eq (kn := kn) (t := 0) (tgt := 36) (np := 18) rfl (by unfold R32; omega) (by unfold R32; omega) (fun e3 => ?_) (fun e3 => ?_)
        · refine h_intv k_1 rfl ?_
          refine h_goto rfl ?_
          refine h_zret (by omega) rfl ?_
          exact ⟨_, rfl, by omega⟩
        · refine h_iload rfl l0 rfl ?_
          refine h_intv k_62 rfl ?_
          refine i_eq (kn := kn) (t := 0) (tgt := 36) (np := 24) rfl (by unfold R32; omega) (by unfold R32; omega) (fun e4 => ?_) (fun e4 => ?_)
          · refine h_intv k_1 rfl ?_
            refine h_goto rfl ?_
            refine h_zret (by omega) rfl ?_
            exact ⟨_, rfl, by omega⟩
          · refine h_iload rfl l0 rfl ?_
            refine h_intv k_40 rfl ?_
            refine i_eq (kn := kn) (t := 0) (tgt := 36) (np := 30) rfl (by unfold R32; omega) (by unfold R32; omega) (fun e5 => ?_) (fun e5 => ?_)
            · refine h_intv k_1 rfl ?_
              refine h_goto rfl ?_
              refine h_zret (by omega) rfl ?_
              exact ⟨_, rfl, by omega⟩
            · refine h_iload rfl l0 rfl ?_
              refine h_intv k_41 rfl ?_
              refine i_ne (kn := kn) (t := 1) (tgt := 40) (np := 36) rfl (by unfold R32; omega) (by unfold R32; omega) (fun e6 => ?_) (fun e6 => ?_)
              · refine h_intv k_0 rfl ?_
                refine h_zret (by omega) rfl ?_
                exact ⟨_, rfl, by omega⟩
              · refine h_intv k_1 rfl ?_
                refine h_goto rfl ?_
                refine h_zret (by omega) rfl ?_
                exact ⟨_, rfl, by omega⟩
  obtain ⟨r, h1, b, h2, h3⟩ := h_meth1 (nL := 1) rfl K
  rw [h2] at h1
  exact ⟨b, h1, h3⟩
theorem rw_i {kn : sKn} {w0 : sW} (N A : Nat) (hN : N ≤ 940) (hA : A ≤ N) (S : Nat) (hS : A + S = N) (hS7 : S ≤ 7) (k : Nat) (hk : k < 27) (hx : ∀ (i : Nat) (w : sW) (lv : List (Nat × Value)), i ≤ S → hO dH_tok w0 w → gF w 1 3 = (N : Int) ∧ gF w 1 5 = (A : Int) → hL lv [(0, .ref 1), (1, hI S), (2, hI k), (3, hI i)] → Tp (tX9_readWord kn) (fun r => ∃ w', r = (none, w', 0, 0) ∧ hO dH_tok w0 w') 119 (lv, [], w, 0, 0)) : ∀ (m i : Nat) (w : sW) (lv : List (Nat × Value)) (x : Int), i + m = S → x = (i : Int) → hO dH_tok w0 w → gF w 1 3 = (N : Int) ∧ gF w 1 5 = (A : Int) → hL lv [(0, .ref 1), (1, hI S), (2, hI k), (3, hI x)] → Tp (tX9_readWord kn) (fun r => ∃ w', r = (none, w', 0, 0) ∧ hO dH_tok w0 w') 83 (lv, [], w, 0, 0) := by
  intro m
  induction m with
  | zero =>
    intro i w lv x hpm hxp o0 hna l0
    subst hxp
    obtain ⟨hn3, hn5⟩ := hna
    refine h_iload rfl l0 rfl ?_
    refine h_iload rfl l0 rfl ?_
    refine i_ge (kn := kn) (t := 3) (tgt := 119) (np := 88) rfl (by unfold R32; omega) (by unfold R32; omega) (fun e1 => ?_) (fun e1 => ?_)
    · exact hx i w _ (by omega) o0 ⟨hn3, hn5⟩ l0
    · omega
  | succ m ih =>
    intro i w lv x hpm hxp o0 hna l0
    subst hxp
    obtain ⟨hn3, hn5⟩ := hna
    refine h_iload rfl l0 rfl ?_
    refine h_iload rfl l0 rfl ?_
    refine i_ge (kn := kn) (t := 3) (tgt := 119) (np := 88) rfl (by unfold R32; omega) (by unfold R32; omega) (fun e1 => ?_) (fun e1 => ?_)
    · exact hx i w _ (by omega) o0 ⟨hn3, hn5⟩ l0
    · refine h_gets rfl ?_
      refine h_intv k_8 rfl ?_
      refine h_iload rfl l0 rfl ?_
      refine h_imul rfl ?_
      refine h_iload rfl l0 rfl ?_
      refine h_iadd rfl ?_
      have hi9 : 8 * (k : Int) + (i : Int) = ((8 * k + i : Nat) : Int) := by omega
      rw [hi9]
      obtain ⟨c2, hf2, hc2⟩ := s_charAt (kn := kn) o0.1 (8 * k + i) (by omega)
      refine h_VK2 rfl o0 l0 rfl rfl hf2 ?_
      refine h_aload rfl l0 rfl ?_
      refine h_getR rfl o0 fr_1_0 ?_
      refine h_aload rfl l0 rfl ?_
      refine h_getI rfl o0 fi_1_5 (fun b3a b3b => ?_)
      rw [hn5] at b3a b3b ⊢
      refine h_iload rfl l0 rfl ?_
      refine h_iadd rfl ?_
      refine h_ialdj (A + i) rfl o0 ai_2 rfl (by omega) (by omega) (fun b4a b4b => ?_)
      refine i_ne (kn := kn) (t := 1) (tgt := 119) (np := 113) rfl (by unfold R32; omega) (by unfold R32; omega) (fun e5 => ?_) (fun e5 => ?_)
      · exact hx i w _ (by omega) o0 ⟨hn3, hn5⟩ l0
      · refine h_iincv k_1 rfl l0 rfl (fun vl6 l6 => ?_)
        refine h_goto rfl ?_
        exact ih (i + 1) w _ ((i : Int) + 1) (by omega) (by omega) o0 ⟨hn3, hn5⟩ l6
theorem rw_k {kn : sKn} {w0 : sW} (N A : Nat) (hN : N ≤ 940) (hA : A ≤ N) (S : Nat) (hS : A + S = N) (hS7 : S ≤ 7) : ∀ (m k : Nat) (w : sW) (lv : List (Nat × Value)) (x : Int), k + m = 27 → x = (k : Int) → hO dH_tok w0 w → gF w 1 3 = (N : Int) ∧ gF w 1 5 = (A : Int) → hL lv [(0, .ref 1), (1, hI S), (2, hI x)] → Tp (tX9_readWord kn) (fun r => ∃ w', r = (none, w', 0, 0) ∧ hO dH_tok w0 w') 67 (lv, [], w, 0, 0) := by
  intro m
  induction m with
  | zero =>
    intro k w lv x hpm hxp o0 hna l0
    subst hxp
    obtain ⟨hn3, hn5⟩ := hna
    refine h_iload rfl l0 rfl ?_
    refine h_intv k_27 rfl ?_
    refine i_ge (kn := kn) (t := 3) (tgt := 156) (np := 73) rfl (by unfold R32; omega) (by unfold R32; omega) (fun e1 => ?_) (fun e1 => ?_)
    · refine h_vret rfl ?_
      exact ⟨_, rfl, o0⟩
    · omega
  | succ m ih =>
    intro k w lv x hpm hxp o0 hna l0
    subst hxp
    obtain ⟨hn3, hn5⟩ := hna
    refine h_iload rfl l0 rfl ?_
    refine h_intv k_27 rfl ?_
    refine i_ge (kn := kn) (t := 3) (tgt := 156) (np := 73) rfl (by unfold R32; omega) (by unfold R32; omega) (fun e1 => ?_) (fun e1 => ?_)
    · refine h_vret rfl ?_
      exact ⟨_, rfl, o0⟩
    · refine h_aload rfl l0 rfl ?_
      refine h_getI rfl o0 fi_1_4 (fun b2a b2b => ?_)
      refine h_intv k_5 rfl ?_
      refine i_ne (kn := kn) (t := 1) (tgt := 156) (np := 81) rfl (by unfold R32; omega) (by unfold R32; omega) (fun e3 => ?_) (fun e3 => ?_)
      · refine h_vret rfl ?_
        exact ⟨_, rfl, o0⟩
      · refine h_intv k_0 rfl ?_
        refine h_istore rfl l0 (fun vl4 l4 => ?_)
        refine rw_i N A hN hA S hS hS7 k (by omega) ?_ S 0 _ _ 0 (by omega) rfl o0 ⟨hn3, hn5⟩ l4
        intro i w lv hi o0 hna l0
        obtain ⟨hn3, hn5⟩ := hna
        refine h_iload rfl l0 rfl ?_
        refine h_iload rfl l0 rfl ?_
        refine i_ne (kn := kn) (t := 1) (tgt := 150) (np := 124) rfl (by unfold R32; omega) (by unfold R32; omega) (fun e1 => ?_) (fun e1 => ?_)
        · refine h_iincv k_1 rfl l0 rfl (fun vl2 l2 => ?_)
          refine h_goto rfl ?_
          exact ih (k + 1) w _ ((k : Int) + 1) (by omega) (by omega) o0 ⟨hn3, hn5⟩ (hL_take 3 l2)
        · refine h_gets rfl ?_
          refine h_intv k_8 rfl ?_
          refine h_iload rfl l0 rfl ?_
          refine h_imul rfl ?_
          refine h_iload rfl l0 rfl ?_
          refine h_iadd rfl ?_
          have hi9 : 8 * (k : Int) + (i : Int) = ((8 * k + i : Nat) : Int) := by omega
          rw [hi9]
          obtain ⟨c3, hf3, hc3⟩ := s_charAt (kn := kn) o0.1 (8 * k + i) (by omega)
          refine h_VK2 rfl o0 l0 rfl rfl hf3 ?_
          refine h_intv k_32 rfl ?_
          refine i_ne (kn := kn) (t := 1) (tgt := 150) (np := 140) rfl (by unfold R32; omega) (by unfold R32; omega) (fun e4 => ?_) (fun e4 => ?_)
          · refine h_iincv k_1 rfl l0 rfl (fun vl5 l5 => ?_)
            refine h_goto rfl ?_
            exact ih (k + 1) w _ ((k : Int) + 1) (by omega) (by omega) o0 ⟨hn3, hn5⟩ (hL_take 3 l5)
          · refine h_aload rfl l0 rfl ?_
            refine h_intv k_4 rfl ?_
            refine h_putI rfl o0 fi_1_4 rfl (by omega) (by omega) (fun w6 o6 q7a q7b q7c => ?_)
            refine h_aload rfl l0 rfl ?_
            refine h_iload rfl l0 rfl ?_
            refine h_putI rfl o6 fi_1_6 rfl (by omega) (by omega) (fun w8 o8 q9a q9b q9c => ?_)
            refine h_iincv k_1 rfl l0 rfl (fun vl10 l10 => ?_)
            refine h_goto rfl ?_
            exact ih (k + 1) w8 _ ((k : Int) + 1) (by omega) (by omega) o8 ⟨by rw [q9b 1 3 (by omega), q7b 1 3 (by omega)]; exact hn3, by rw [q9b 1 5 (by omega), q7b 1 5 (by omega)]; exact hn5⟩ (hL_take 3 l10)
theorem rw_n {kn : sKn} {w0 : sW} (N A : Nat) (hN : N ≤ 940) (hA : A ≤ N) (hx : ∀ (w : sW) (lv : List (Nat × Value)), hO dH_tok w0 w → gF w 1 3 = (N : Int) ∧ gF w 1 5 = (A : Int) → hL lv [(0, .ref 1), (1, hI N)] → Tp (tX9_readWord kn) (fun r => ∃ w', r = (none, w', 0, 0) ∧ hO dH_tok w0 w') 50 (lv, [], w, 0, 0)) : ∀ (m i : Nat) (w : sW) (lv : List (Nat × Value)) (x : Int), i + m = N → x = (i : Int) → hO dH_tok w0 w → gF w 1 3 = (N : Int) ∧ gF w 1 5 = (A : Int) → hL lv [(0, .ref 1), (1, hI x)] → Tp (tX9_readWord kn) (fun r => ∃ w', r = (none, w', 0, 0) ∧ hO dH_tok w0 w') 10 (lv, [], w, 0, 0) := by
  intro m
  induction m with
  | zero =>
    intro i w lv x hpm hxp o0 hna l0
    subst hxp
    obtain ⟨hn3, hn5⟩ := hna
    obtain rfl : i = N := by omega
    refine h_iload rfl l0 rfl ?_
    refine h_aload rfl l0 rfl ?_
    refine h_getI rfl o0 fi_1_3 (fun b1a b1b => ?_)
    rw [hn3] at b1a b1b ⊢
    refine i_ge (kn := kn) (t := 3) (tgt := 50) (np := 18) rfl (by unfold R32; omega) (by unfold R32; omega) (fun e2 => ?_) (fun e2 => ?_)
    · exact hx _ _ o0 ⟨hn3, hn5⟩ l0
    · omega
  | succ m ih =>
    intro i w lv x hpm hxp o0 hna l0
    subst hxp
    obtain ⟨hn3, hn5⟩ := hna
    refine h_iload rfl l0 rfl ?_
    refine h_aload rfl l0 rfl ?_
    refine h_getI rfl o0 fi_1_3 (fun b1a b1b => ?_)
    rw [hn3] at b1a b1b ⊢
    refine i_ge (kn := kn) (t := 3) (tgt := 50) (np := 18) rfl (by unfold R32; omega) (by unfold R32; omega) (fun e2 => ?_) (fun e2 => ?_)
    · omega
    · refine h_aload rfl l0 rfl ?_
      refine h_long rfl ?_
      refine h_aload rfl l0 rfl ?_
      refine h_getJ rfl o0 fj_1_7 (fun j3 => ?_)
      refine h_lmul rfl ?_
      refine h_aload rfl l0 rfl ?_
      refine h_getR rfl o0 fr_1_0 ?_
      refine h_iload rfl l0 rfl ?_
      refine h_ialdj (i) rfl o0 ai_2 rfl (by omega) (by omega) (fun b4a b4b => ?_)
      refine h_i2l rfl (fun j5 => ?_)
      refine h_ladd rfl ?_
      refine h_long rfl ?_
      refine h_lsub rfl ?_
      refine h_long rfl ?_
      refine h_ladd rfl ?_
      refine h_putJ rfl o0 fj_1_7 rfl (fun w6 o6 q7b q7c => ?_)
      refine h_iincv k_1 rfl l0 rfl (fun vl8 l8 => ?_)
      refine h_goto rfl ?_
      exact ih (i + 1) w6 _ ((i : Int) + 1) (by omega) (by omega) o6 ⟨by rw [q7b]; exact hn3, by rw [q7b]; exact hn5⟩ l8
theorem s_readWord {kn : sKn} {w0 : sW} (hw : wOk ZZ w0) (N A : Nat) (hn3 : gF w0 1 3 = (N : Int)) (hn5 : gF w0 1 5 = (A : Int)) (hN : N ≤ 940) (hA : A ≤ N) (h7 : N ≤ A + 7) : ∃ w', fX9_readWord kn [.ref 1] w0 = some (none, w', 0, 0) ∧ hO dH_tok w0 w' := by
  have K : Tp (tX9_readWord kn) (fun r => ∃ w', r = (none, w', 0, 0) ∧ hO dH_tok w0 w') 0 (lv_args 0 [.ref 1], [], w0, 0, 0) := by
    have l0 : hL (lv_args 0 [.ref 1]) (lv_args 0 [.ref 1]) := hL_ex rfl
    have o0 : hO dH_tok w0 w0 := hO_rf hw
    refine h_aload rfl l0 rfl ?_
    refine h_long rfl ?_
    refine h_putJ rfl o0 fj_1_7 rfl (fun w1 o1 q2b q2c => ?_)
    refine h_aload rfl l0 rfl ?_
    refine h_getI rfl o1 fi_1_5 (fun b3a b3b => ?_)
    rw [q2b 1 5, hn5] at b3a b3b ⊢
    refine h_istore rfl l0 (fun vl4 l4 => ?_)
    refine rw_n N A hN hA ?_ (N - A) A _ _ _ (by omega) rfl o1 ⟨by rw [q2b]; exact hn3, by rw [q2b]; exact hn5⟩ l4
    intro w lv o0 hna l0
    obtain ⟨hn3, hn5⟩ := hna
    refine h_aload rfl l0 rfl ?_
    refine h_intv k_5 rfl ?_
    refine h_putI rfl o0 fi_1_4 rfl (by omega) (by omega) (fun w1 o1 q2a q2b q2c => ?_)
    refine h_aload rfl l0 rfl ?_
    refine h_getI rfl o1 fi_1_3 (fun b3a b3b => ?_)
    rw [q2b 1 3 (by omega), hn3] at b3a b3b ⊢
    refine h_aload rfl l0 rfl ?_
    refine h_getI rfl o1 fi_1_5 (fun b4a b4b => ?_)
    rw [q2b 1 5 (by omega), hn5] at b4a b4b ⊢
    refine h_isub rfl ?_
    refine h_istore rfl l0 (fun vl5 l5 => ?_)
    refine h_intv k_0 rfl ?_
    refine h_istore rfl l5 (fun vl6 l6 => ?_)
    rw [show ((N : Int) - (A : Int)) = ((N - A : Nat) : Int) by omega] at l6
    exact rw_k N A hN hA (N - A) (by omega) (by omega) 27 0 _ _ 0 rfl rfl o1 ⟨by rw [q2b 1 3 (by omega)]; exact hn3, by rw [q2b 1 5 (by omega)]; exact hn5⟩ l6
  obtain ⟨r, h1, w2, h2, h3⟩ := h_meth1 (nL := 4) rfl K
  rw [h2] at h1
  exact ⟨w2, h1, h3⟩
end
