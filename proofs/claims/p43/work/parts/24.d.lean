noncomputable section
theorem az_103 : aZ 103 = some (60, 2) := by decide +kernel
theorem fr_gZ {D : List (Nat × Nat)} {w w' : sW} {c t n : Nat} (hw : wOk ZZ w) (o : hO D w w') (hf : aZ c = some (t, n)) (h : mIn D t 999 = false) (e : Nat) : gX w' c e = gX w c e := by
  obtain ⟨vs, q, k1, _, _, _, w1, _⟩ := aZ_ok (hO_rf (D := []) hw) hf
  have e3 := (o.2.2.1 c _ w1).2 t (show ZZ.2 c = some t from k1) (mIn_no h)
  unfold gX
  rw [e3, w1]
section HK4
variable {tbl : List (Nat × sA)} {Po : sR → Prop} {pc np : Nat} {lv ps : List (Nat × Value)} {st : List Value} {w w0 : sW} {D : List (Nat × Nat)} {kn : sKn}
/-- arrays of references of one type (kind 4) -/
def aA4t (t : Nat) : Option (Nat × Nat) := match aty ZZ t with
  | some q => match Nat.beq q.1 4 with
    | true => match q.2.2 with
      | (n, .inr t2) :: _ => match Nat.beq n q.2.1 with
        | true => some (n, t2)
        | false => none
      | _ => none
    | false => none
  | none => none
theorem h_aald4 {c t n t2 : Nat} {i : Int} (j : Nat) (ha : t_get tbl pc = some (a_aald np)) (ho : hO D w0 w) (hc : ztau c = some t) (hf : aA4t t = some (n, t2)) (hi : i = (j : Int)) (hj : j < n ∧ j < 1000) (g : ∀ k, ztau k = some t2 → Tp tbl Po np (lv, .ref k :: st, w, 0, 0)) : Tp tbl Po pc (lv, hI i :: .ref c :: st, w, 0, 0) := by
  subst hi
  unfold aA4t at hf
  split at hf
  · rename_i q hq
    split at hf
    · rename_i c1
      have c1 := Nat.eq_of_beq_eq_true c1
      split at hf
      · rename_i n' t' r e1
        split at hf
        · rename_i c2
          have c2 := Nat.eq_of_beq_eq_true c2
          cases hf
          obtain ⟨_, vs, w1, w2, w3⟩ := aty_ok ho.1 (show ZZ.2 c = some t from hc) hq
          have hl : j < vs.length := by omega
          obtain ⟨e, f1, z, f2, f3⟩ := w3 j _ (List.getElem?_eq_getElem hl)
          rw [e1] at f1
          have hb : Nat.blt j n = true := Nat.blt_eq.mpr hj.1
          have f0 : e = .inr t2 := by
            have f1 : (match Nat.blt j n with
              | true => some (Sum.inr t2)
              | false => sga r j) = some e := f1
            rw [hb] at f1
            cases f1
            rfl
          rw [f0] at f3
          obtain ⟨k, k1, k2⟩ := f3
          have f2 : vOk (akd q.1) z vs[j] := f2
          rw [c1] at f2
          obtain ⟨k', d1, d2⟩ := f2
          have ek : k' = k := by omega
          subst ek
          have e2 := ixN_hI (i := (j : Int)) (by omega) (by omega)
          rw [show (j : Int).toNat = j by omega] at e2
          have e3 : Nat.blt j 2147483648 = true := Nat.blt_eq.mpr (by omega)
          refine Tp_step ha (fun kk => ?_) (g k' k2)
          show a_aald np kk (lv, Value.int (Int32.ofInt (j : Int)) :: .ref c :: st, w, 0, 0) = _
          rw [c1] at w1
          simp only [a_aald, xg_eq, w1, e2, e3, List.getElem?_eq_getElem hl, d1]
          rfl
        · cases hf
      · cases hf
    · cases hf
  · cases hf
end HK4
section HK5
variable {tbl : List (Nat × sA)} {Po : sR → Prop} {pc np : Nat} {lv ps : List (Nat × Value)} {st : List Value} {w w0 : sW} {D : List (Nat × Nat)} {kn : sKn}
/-- arrays of references of one type (kind 5) -/
def aA5t (t : Nat) : Option (Nat × Nat) := match aty ZZ t with
  | some q => match Nat.beq q.1 5 with
    | true => match q.2.2 with
      | (n, .inr t2) :: _ => match Nat.beq n q.2.1 with
        | true => some (n, t2)
        | false => none
      | _ => none
    | false => none
  | none => none
theorem h_aald5 {c t n t2 : Nat} {i : Int} (j : Nat) (ha : t_get tbl pc = some (a_aald np)) (ho : hO D w0 w) (hc : ztau c = some t) (hf : aA5t t = some (n, t2)) (hi : i = (j : Int)) (hj : j < n ∧ j < 1000) (g : ∀ k, ztau k = some t2 → Tp tbl Po np (lv, .ref k :: st, w, 0, 0)) : Tp tbl Po pc (lv, hI i :: .ref c :: st, w, 0, 0) := by
  subst hi
  unfold aA5t at hf
  split at hf
  · rename_i q hq
    split at hf
    · rename_i c1
      have c1 := Nat.eq_of_beq_eq_true c1
      split at hf
      · rename_i n' t' r e1
        split at hf
        · rename_i c2
          have c2 := Nat.eq_of_beq_eq_true c2
          cases hf
          obtain ⟨_, vs, w1, w2, w3⟩ := aty_ok ho.1 (show ZZ.2 c = some t from hc) hq
          have hl : j < vs.length := by omega
          obtain ⟨e, f1, z, f2, f3⟩ := w3 j _ (List.getElem?_eq_getElem hl)
          rw [e1] at f1
          have hb : Nat.blt j n = true := Nat.blt_eq.mpr hj.1
          have f0 : e = .inr t2 := by
            have f1 : (match Nat.blt j n with
              | true => some (Sum.inr t2)
              | false => sga r j) = some e := f1
            rw [hb] at f1
            cases f1
            rfl
          rw [f0] at f3
          obtain ⟨k, k1, k2⟩ := f3
          have f2 : vOk (akd q.1) z vs[j] := f2
          rw [c1] at f2
          obtain ⟨k', d1, d2⟩ := f2
          have ek : k' = k := by omega
          subst ek
          have e2 := ixN_hI (i := (j : Int)) (by omega) (by omega)
          rw [show (j : Int).toNat = j by omega] at e2
          have e3 : Nat.blt j 2147483648 = true := Nat.blt_eq.mpr (by omega)
          refine Tp_step ha (fun kk => ?_) (g k' k2)
          show a_aald np kk (lv, Value.int (Int32.ofInt (j : Int)) :: .ref c :: st, w, 0, 0) = _
          rw [c1] at w1
          simp only [a_aald, xg_eq, w1, e2, e3, List.getElem?_eq_getElem hl, d1]
          rfl
        · cases hf
      · cases hf
    · cases hf
  · cases hf
end HK5
theorem aat_57 : aA4t 57 = some (2, 5) := by decide +kernel
theorem aat_59 : aA5t 59 = some (2, 22) := by decide +kernel
theorem aat_58 : aAt 58 = some (2, 15) := by decide +kernel
theorem fit_1_15 : fIt 1 12 15 = some (0, 8) := by decide +kernel
theorem frc_0_16 : fR 0 12 16 = some 100 := by decide +kernel
theorem frc_0_17 : fR 0 12 17 = some 101 := by decide +kernel
theorem frc_0_18 : fR 0 12 18 = some 102 := by decide +kernel
theorem frc_0_19 : fR 0 12 19 = some 103 := by decide +kernel
theorem s_copy6 {kn : sKn} {w : sW} (hw : wOk ZZ w) {k1 : Nat} (hk1 : ztau k1 = some 5) {k2 : Nat} (hk2 : ztau k2 = some 5) : ∃ (w' : sW), fX6_copyOf kn [.ref k1, .ref k2] w = some (none, w', 0, 0) ∧ hO dX6_copyOf w w' := by
  obtain ⟨r, w', h1, h2, q, hq, σ', h3, h4, h5, h6⟩ := con_use (con_X6_copyOf_0 kn) (σ := [0, (k1 : Int), (k2 : Int)]) (av := [.ref k1, .ref k2]) (w := w) rfl rfl ⟨av_r rfl, av_r rfl, trivial⟩ (fun q hq => by cases hq) (gE_c ⟨_, rfl, _, rfl, hk2⟩ (gE_c ⟨_, rfl, _, rfl, hk1⟩ (gE_n))) hw (by simp only [xa_eq, List.all_cons, List.all_nil, Bool.and_true, Bool.and_eq_true]; exact ⟨tw hk1, tw hk2⟩)
  rcases List.mem_singleton.mp hq with rfl
  rw [gS_v h4] at h1
  exact ⟨w', h1, h2⟩
def dH_i7 : List (Nat × Nat) := dX6_copyOf ++ dX8_copyOf ++ dX7_copyOf
theorem dH_i76 : msub dX6_copyOf dH_i7 = true := by decide +kernel
theorem dH_r76 : msub dX6_copyOf dX11_restore = true := by decide +kernel
theorem dH_i78 : msub dX8_copyOf dH_i7 = true := by decide +kernel
theorem dH_r78 : msub dX8_copyOf dX11_restore = true := by decide +kernel
theorem dH_i77 : msub dX7_copyOf dH_i7 = true := by decide +kernel
theorem dH_r77 : msub dX7_copyOf dX11_restore = true := by decide +kernel
theorem dH_i7i : msub dH_i7 dX11_image = true := by decide +kernel
theorem im7_b {kn : sKn} {w0 : sW} (hw : wOk ZZ w0) {n : Nat} (hn : n ≤ 1) (lv : List (Nat × Value)) (l0 : hL lv [(0, .ref 0), (1, hI (n : Int))]) : Tp (tX11_image kn) (fun r => ∃ (w' : sW) (b : Int), r = (some (hI b), w', 0, 0) ∧ hO dX11_image w0 w' ∧ ((b = 0 ∧ ((n : Int) < 0 ∨ 1 < (n : Int)) ∧ gX w' 103 0 = gX w0 103 0 ∧ gX w' 103 1 = gX w0 103 1) ∨ (b = 1 ∧ (((n : Int) = 0 ∧ gX w' 103 0 = 1 ∧ gX w' 103 1 = gX w0 103 1) ∨ ((n : Int) = 1 ∧ gX w' 103 1 = 1 ∧ gX w' 103 0 = gX w0 103 0))))) 11 (lv, [], w0, 0, 0) := by
  have o0 : hO dH_i7 w0 w0 := hO_rf hw
  refine h_aload rfl l0 rfl ?_
  refine h_getR rfl o0 frc_0_16 ?_
  refine h_iload rfl l0 rfl ?_
  refine h_aald4 (n) rfl o0 (show ztau 100 = some 57 from rfl) aat_57 (by omega) (by omega) (fun k41 hk41 => ?_)
  refine h_aload rfl l0 rfl ?_
  refine h_getR rfl o0 frc_0_2 ?_
  obtain ⟨wc6, hf42, oc6'⟩ := s_copy6 (kn := kn) o0.1 hk41 (show ztau 14 = some 5 from rfl)
  have oc6 : hO dH_i7 w0 wc6 := hO_tr o0 (hO_mono dH_i76 oc6')
  refine h_W2 rfl o0 l0 (cI_of hk41 cit_5) rfl rfl hf42 ?_
  refine h_aload rfl l0 rfl ?_
  refine h_getR rfl oc6 frc_0_17 ?_
  refine h_iload rfl l0 rfl ?_
  refine h_aaldT (n) rfl oc6 (show ztau 101 = some 58 from rfl) aat_58 (by omega) (by omega) (fun k43 hk43 => ?_)
  refine h_aload rfl l0 rfl ?_
  refine h_getR rfl oc6 frc_0_3 ?_
  obtain ⟨wc8, hf44, oc8'⟩ := s_copy8 (kn := kn) oc6.1 hk43 (show ztau 24 = some 15 from rfl)
  have oc8 : hO dH_i7 w0 wc8 := hO_tr oc6 (hO_mono dH_i78 oc8')
  refine h_W2 rfl oc6 l0 (cI_of hk43 cit_15) rfl rfl hf44 ?_
  refine h_aload rfl l0 rfl ?_
  refine h_getR rfl oc8 frc_0_18 ?_
  refine h_iload rfl l0 rfl ?_
  refine h_aald5 (n) rfl oc8 (show ztau 102 = some 59 from rfl) aat_59 (by omega) (by omega) (fun k45 hk45 => ?_)
  refine h_aload rfl l0 rfl ?_
  refine h_getT rfl oc8 (show ztau 0 = some 1 from rfl) frt_1_4 (fun k46 hk46 rk46 => ?_)
  obtain ⟨wc7, hf47, oc7'⟩ := s_copy7 (kn := kn) oc8.1 hk45 hk46
  have oc7 : hO dH_i7 w0 wc7 := hO_tr oc8 (hO_mono dH_i77 oc7')
  refine h_W2 rfl oc8 l0 (cI_of hk45 cit_22) rfl rfl hf47 ?_
  refine h_aload rfl l0 rfl ?_
  refine h_getR rfl oc7 frc_0_19 ?_
  refine h_iload rfl l0 rfl ?_
  refine h_intv k_1 rfl ?_
  have e1 : gX wc7 103 0 = gX w0 103 0 := fr_gZ hw oc7 az_103 (by decide +kernel) 0
  have e2 : gX wc7 103 1 = gX w0 103 1 := fr_gZ hw oc7 az_103 (by decide +kernel) 1
  have oD : hO dX11_image w0 wc7 := hO_mono dH_i7i oc7
  refine h_bast n (Or.inr rfl) rfl oD az_103 rfl rfl (by omega) (by omega) (fun w9 o9 q9a q9b q9c => ?_)
  refine h_intv k_1 rfl ?_
  refine h_zret (by omega) rfl ?_
  refine ⟨_, _, rfl, o9, Or.inr ⟨rfl, ?_⟩⟩
  have n01 : n = 0 ∨ n = 1 := by omega
  rcases n01 with rfl | rfl
  · exact Or.inl ⟨rfl, q9a, by rw [q9b 103 1 (fun _ => by decide)]; exact e2⟩
  · exact Or.inr ⟨rfl, q9a, by rw [q9b 103 0 (fun _ => by decide)]; exact e1⟩
theorem s_image7 {kn : sKn} {w0 : sW} (hw : wOk ZZ w0) (x : Int) (hx : R32 x) : ∃ (w' : sW) (b : Int), fX11_image kn [.ref 0, hI x] w0 = some (some (hI b), w', 0, 0) ∧ hO dX11_image w0 w' ∧ ((b = 0 ∧ (x < 0 ∨ 1 < x) ∧ gX w' 103 0 = gX w0 103 0 ∧ gX w' 103 1 = gX w0 103 1) ∨ (b = 1 ∧ ((x = 0 ∧ gX w' 103 0 = 1 ∧ gX w' 103 1 = gX w0 103 1) ∨ (x = 1 ∧ gX w' 103 1 = 1 ∧ gX w' 103 0 = gX w0 103 0)))) := by
  have hx1 := hx.1
  have hx2 := hx.2
  have K : Tp (tX11_image kn) (fun r => ∃ (w' : sW) (b : Int), r = (some (hI b), w', 0, 0) ∧ hO dX11_image w0 w' ∧ ((b = 0 ∧ (x < 0 ∨ 1 < x) ∧ gX w' 103 0 = gX w0 103 0 ∧ gX w' 103 1 = gX w0 103 1) ∨ (b = 1 ∧ ((x = 0 ∧ gX w' 103 0 = 1 ∧ gX w' 103 1 = gX w0 103 1) ∨ (x = 1 ∧ gX w' 103 1 = 1 ∧ gX w' 103 0 = gX w0 103 0))))) 0 (lv_args 0 [.ref 0, hI x], [], w0, 0, 0) := by
    have l0 : hL (lv_args 0 [.ref 0, hI x]) (lv_args 0 [.ref 0, hI x]) := ⟨fun _ _ h => h, fun q hq => by
      rcases List.mem_cons.mp hq with e | hq
      · rw [e]
        exact ⟨rfl, rfl⟩
      rcases List.mem_cons.mp hq with e | hq
      · rw [e]
        exact ⟨rfl, rfl⟩
      cases hq⟩
    have o0 : hO dH_i7 w0 w0 := hO_rf hw
    refine h_iload rfl l0 rfl ?_
    refine j_lt (kn := kn) (t := 2) (tgt := 9) (np := 4) rfl (by unfold R32; omega) (fun e41 => ?_) (fun e41 => ?_)
    · refine h_intv k_0 rfl ?_
      refine h_zret (by omega) rfl ?_
      exact ⟨_, _, rfl, hO_rf hw, Or.inl ⟨rfl, by omega, rfl, rfl⟩⟩
    · refine h_iload rfl l0 rfl ?_
      refine h_intv k_2 rfl ?_
      refine i_lt (kn := kn) (t := 2) (tgt := 11) (np := 9) rfl (by unfold R32; omega) (by unfold R32; omega) (fun e42 => ?_) (fun e42 => ?_)
      · obtain ⟨n, hn⟩ : ∃ n : Nat, x = (n : Int) := ⟨x.toNat, by omega⟩
        subst hn
        exact im7_b hw (n := n) (by omega) _ l0
      · refine h_intv k_0 rfl ?_
        refine h_zret (by omega) rfl ?_
        exact ⟨_, _, rfl, hO_rf hw, Or.inl ⟨rfl, by omega, rfl, rfl⟩⟩
  obtain ⟨r, h1, w2, b, h2, h3⟩ := h_meth1 (nL := 2) rfl K
  rw [h2] at h1
  exact ⟨w2, b, h1, h3⟩
theorem rt7_b {kn : sKn} {w0 : sW} (hw : wOk ZZ w0) {n : Nat} (hn : n ≤ 1) (hg : ((n : Int) = 0 ∧ gX w0 103 0 = 1) ∨ ((n : Int) = 1 ∧ gX w0 103 1 = 1)) (lv : List (Nat × Value)) (l0 : hL lv [(0, .ref 0), (1, hI (n : Int))]) : Tp (tX11_restore kn) (fun r => ∃ (w' : sW) (b : Int), r = (some (hI b), w', 0, 0) ∧ hO dX11_restore w0 w' ∧ ((b = 0 ∧ ((n : Int) < 0 ∨ 1 < (n : Int) ∨ ((n : Int) = 0 ∧ gX w0 103 0 = 0) ∨ ((n : Int) = 1 ∧ gX w0 103 1 = 0))) ∨ (b = 1 ∧ (((n : Int) = 0 ∧ gX w0 103 0 = 1) ∨ ((n : Int) = 1 ∧ gX w0 103 1 = 1))))) 20 (lv, [], w0, 0, 0) := by
  have o0 : hO dX11_restore w0 w0 := hO_rf hw
  refine h_aload rfl l0 rfl ?_
  refine h_getR rfl o0 frc_0_2 ?_
  refine h_aload rfl l0 rfl ?_
  refine h_getR rfl o0 frc_0_16 ?_
  refine h_iload rfl l0 rfl ?_
  refine h_aald4 (n) rfl o0 (show ztau 100 = some 57 from rfl) aat_57 (by omega) (by omega) (fun k41 hk41 => ?_)
  obtain ⟨wc6, hf42, oc6'⟩ := s_copy6 (kn := kn) o0.1 (show ztau 14 = some 5 from rfl) hk41
  have oc6 : hO dX11_restore w0 wc6 := hO_tr o0 (hO_mono dH_r76 oc6')
  refine h_W2 rfl o0 l0 (cI_of (show ztau 14 = some 5 from rfl) cit_5) rfl rfl hf42 ?_
  refine h_aload rfl l0 rfl ?_
  refine h_getR rfl oc6 frc_0_3 ?_
  refine h_aload rfl l0 rfl ?_
  refine h_getR rfl oc6 frc_0_17 ?_
  refine h_iload rfl l0 rfl ?_
  refine h_aaldT (n) rfl oc6 (show ztau 101 = some 58 from rfl) aat_58 (by omega) (by omega) (fun k43 hk43 => ?_)
  obtain ⟨wc8, hf44, oc8'⟩ := s_copy8 (kn := kn) oc6.1 (show ztau 24 = some 15 from rfl) hk43
  have oc8 : hO dX11_restore w0 wc8 := hO_tr oc6 (hO_mono dH_r78 oc8')
  refine h_W2 rfl oc6 l0 (cI_of (show ztau 24 = some 15 from rfl) cit_15) rfl rfl hf44 ?_
  refine h_aload rfl l0 rfl ?_
  refine h_getT rfl oc8 (show ztau 0 = some 1 from rfl) frt_1_4 (fun k45 hk45 rk45 => ?_)
  refine h_aload rfl l0 rfl ?_
  refine h_getR rfl oc8 frc_0_18 ?_
  refine h_iload rfl l0 rfl ?_
  refine h_aald5 (n) rfl oc8 (show ztau 102 = some 59 from rfl) aat_59 (by omega) (by omega) (fun k46 hk46 => ?_)
  obtain ⟨wc7, hf47, oc7'⟩ := s_copy7 (kn := kn) oc8.1 hk45 hk46
  have oc7 : hO dX11_restore w0 wc7 := hO_tr oc8 (hO_mono dH_r77 oc7')
  refine h_W2 rfl oc8 l0 (cI_of hk45 cit_22) rfl rfl hf47 ?_
  refine h_aload rfl l0 rfl ?_
  refine h_intv k_0 rfl ?_
  refine h_putI rfl oc7 (fI_of (show ztau 0 = some 1 from rfl) fit_1_15) rfl (by omega) (by omega) (fun w48 o48 q49a q49b q49c => ?_)
  refine h_intv k_1 rfl ?_
  refine h_zret (by omega) rfl ?_
  exact ⟨_, _, rfl, o48, Or.inr ⟨rfl, hg⟩⟩
theorem s_restore7 {kn : sKn} {w0 : sW} (hw : wOk ZZ w0) (x : Int) (hx : R32 x) : ∃ (w' : sW) (b : Int), fX11_restore kn [.ref 0, hI x] w0 = some (some (hI b), w', 0, 0) ∧ hO dX11_restore w0 w' ∧ ((b = 0 ∧ (x < 0 ∨ 1 < x ∨ (x = 0 ∧ gX w0 103 0 = 0) ∨ (x = 1 ∧ gX w0 103 1 = 0))) ∨ (b = 1 ∧ ((x = 0 ∧ gX w0 103 0 = 1) ∨ (x = 1 ∧ gX w0 103 1 = 1)))) := by
  have hx1 := hx.1
  have hx2 := hx.2
  have K : Tp (tX11_restore kn) (fun r => ∃ (w' : sW) (b : Int), r = (some (hI b), w', 0, 0) ∧ hO dX11_restore w0 w' ∧ ((b = 0 ∧ (x < 0 ∨ 1 < x ∨ (x = 0 ∧ gX w0 103 0 = 0) ∨ (x = 1 ∧ gX w0 103 1 = 0))) ∨ (b = 1 ∧ ((x = 0 ∧ gX w0 103 0 = 1) ∨ (x = 1 ∧ gX w0 103 1 = 1))))) 0 (lv_args 0 [.ref 0, hI x], [], w0, 0, 0) := by
    have l0 : hL (lv_args 0 [.ref 0, hI x]) (lv_args 0 [.ref 0, hI x]) := ⟨fun _ _ h => h, fun q hq => by
      rcases List.mem_cons.mp hq with e | hq
      · rw [e]
        exact ⟨rfl, rfl⟩
      rcases List.mem_cons.mp hq with e | hq
      · rw [e]
        exact ⟨rfl, rfl⟩
      cases hq⟩
    have o0 : hO dX11_restore w0 w0 := hO_rf hw
    refine h_iload rfl l0 rfl ?_
    refine j_lt (kn := kn) (t := 2) (tgt := 18) (np := 4) rfl (by unfold R32; omega) (fun e41 => ?_) (fun e41 => ?_)
    · refine h_intv k_0 rfl ?_
      refine h_zret (by omega) rfl ?_
      exact ⟨_, _, rfl, o0, Or.inl ⟨rfl, by omega⟩⟩
    · refine h_iload rfl l0 rfl ?_
      refine h_intv k_2 rfl ?_
      refine i_ge (kn := kn) (t := 3) (tgt := 18) (np := 9) rfl (by unfold R32; omega) (by unfold R32; omega) (fun e42 => ?_) (fun e42 => ?_)
      · refine h_intv k_0 rfl ?_
        refine h_zret (by omega) rfl ?_
        exact ⟨_, _, rfl, o0, Or.inl ⟨rfl, by omega⟩⟩
      · refine h_aload rfl l0 rfl ?_
        refine h_getR rfl o0 frc_0_19 ?_
        refine h_iload rfl l0 rfl ?_
        obtain ⟨n, hn⟩ : ∃ n : Nat, x = (n : Int) := ⟨x.toNat, by omega⟩
        subst hn
        refine h_bald n rfl o0 az_103 rfl rfl (by omega) (fun c1 c2 => ?_)
        have n01 : n = 0 ∨ n = 1 := by omega
        refine j_ne (kn := kn) (t := 1) (tgt := 20) (np := 18) rfl (by unfold R32; omega) (fun e => ?_) (fun e => ?_)
        · refine rt7_b hw (n := n) (by omega) ?_ _ l0
          rcases n01 with rfl | rfl
          · exact Or.inl ⟨rfl, by omega⟩
          · exact Or.inr ⟨rfl, by omega⟩
        · refine h_intv k_0 rfl ?_
          refine h_zret (by omega) rfl ?_
          refine ⟨_, _, rfl, o0, Or.inl ⟨rfl, ?_⟩⟩
          rcases n01 with rfl | rfl
          · exact Or.inr (Or.inr (Or.inl ⟨rfl, by omega⟩))
          · exact Or.inr (Or.inr (Or.inr ⟨rfl, by omega⟩))
  obtain ⟨r, h1, w2, b, h2, h3⟩ := h_meth1 (nL := 2) rfl K
  rw [h2] at h1
  exact ⟨w2, b, h1, h3⟩
end
