noncomputable section
theorem ar_k197 : aR 217 197 1 0 59 = true := by decide +kernel
theorem ar_k635 : aR 217 635 1 0 59 = true := by decide +kernel
def aZ (c : Nat) : Option (Nat × Nat) := match ztau c with
  | some t => match aty ZZ t with
    | some q => match Nat.beq q.1 3 with
      | true => match xa (fun j => match sga q.2.2 j with
        | some (.inl p) => match zeq p.1 0 with
          | true => zeq p.2 1
          | false => false
        | _ => false) (List.range q.2.1) with
        | true => some (t, q.2.1)
        | false => none
      | false => none
    | none => none
  | none => none
theorem aZ_ok {D : List (Nat × Nat)} {w0 w : sW} {c t n : Nat} (ho : hO D w0 w) (h : aZ c = some (t, n)) : ∃ (vs : List Value) (q : Nat × Nat × List (Nat × eE)), ztau c = some t ∧ aty ZZ t = some q ∧ q.1 = 3 ∧ q.2.1 = n ∧ w[c]? = some (.inl (3, vs)) ∧ vs.length = n ∧ (∀ (j : Nat) v, vs[j]? = some v → ∃ e, sga q.2.2 j = some e ∧ fvOk ZZ (0, e) v) ∧ ∀ (j : Nat), j < n → sga q.2.2 j = some (.inl (0, 1)) := by
  unfold aZ at h
  split at h
  · rename_i t' ht
    split at h
    · rename_i q hq
      split at h
      · rename_i c1
        split at h
        · rename_i c2
          cases h
          have c1 := Nat.eq_of_beq_eq_true c1
          obtain ⟨_, vs, w1, w2, w3⟩ := aty_ok ho.1 (show ZZ.2 c = some t from ht) hq
          rw [c1] at w1 w3
          refine ⟨vs, q, ht, hq, c1, rfl, w1, w2, w3, fun j hj => ?_⟩
          rw [xa_eq] at c2
          have k := List.all_eq_true.mp c2 j (List.mem_range.mpr hj)
          split at k
          · rename_i p hp
            split at k
            · rename_i k1
              rw [zeq_iff] at k k1
              obtain ⟨p1, p2⟩ := p
              dsimp only at k k1
              rw [hp, k, k1]
            · cases k
          · cases k
        · cases h
      · cases h
    · cases h
  · cases h
section HZZ
variable {tbl : List (Nat × sA)} {Po : sR → Prop} {pc np : Nat} {lv ps : List (Nat × Value)} {st : List Value} {w w0 : sW} {D : List (Nat × Nat)}
theorem gX_Z {c t n j : Nat} (ho : hO D w0 w) (hf : aZ c = some (t, n)) (hj : j < n) : ∃ vs, w[c]? = some (.inl (3, vs)) ∧ vs.length = n ∧ vs[j]? = some (hI (gX w c j)) ∧ 0 ≤ gX w c j ∧ gX w c j ≤ 1 := by
  obtain ⟨vs, q, _, _, _, _, w1, w2, w3, w4⟩ := aZ_ok ho hf
  have hj' : j < vs.length := by omega
  obtain ⟨e, e1, z, z1, z2⟩ := w3 j _ (List.getElem?_eq_getElem hj')
  rw [w4 j hj] at e1
  cases e1
  obtain ⟨e2, r⟩ := vOk_hI z1
  have z2 : 0 ≤ z ∧ z ≤ 1 := z2
  have eg := gX_at (c := c) w1 (by rw [List.getElem?_eq_getElem hj', e2]) r
  refine ⟨vs, w1, w2, ?_, ?_⟩
  · rw [eg, List.getElem?_eq_getElem hj', e2]
  · rw [eg]
    exact z2
theorem h_bald {c t n : Nat} {i : Int} (j : Nat) (ha : t_get tbl pc = some (a_bald np)) (ho : hO D w0 w) (hf : aZ c = some (t, n)) (hn : Nat.blt n 2147483648 = true) (hi : i = (j : Int)) (hj : j < n) (g : 0 ≤ gX w c j → gX w c j ≤ 1 → Tp tbl Po np (lv, hI (gX w c j) :: st, w, 0, 0)) : Tp tbl Po pc (lv, hI i :: .ref c :: st, w, 0, 0) := by
  subst hi
  have hn := Nat.blt_eq.mp hn
  obtain ⟨vs, k1, k2, k3, k4, k5⟩ := gX_Z ho hf hj
  have e := ixN_hI (i := (j : Int)) (by omega) (by omega)
  rw [show (j : Int).toNat = j by omega] at e
  have e3 : Nat.blt j 2147483648 = true := Nat.blt_eq.mpr (by omega)
  refine Tp_step ha (fun k => ?_) (g k4 k5)
  show a_bald np k (lv, Value.int (Int32.ofInt (j : Int)) :: .ref c :: st, w, 0, 0) = _
  simp only [a_bald, xg_eq, k1, e, e3, k3]
  rfl
theorem h_bast {c t n : Nat} {i z : Int} (j : Nat) (hz : z = 0 ∨ z = 1) (ha : t_get tbl pc = some (a_bast np)) (ho : hO D w0 w) (hf : aZ c = some (t, n)) (hn : Nat.blt n 2147483648 = true) (hm : mIn D t 999 = true) (hi : i = (j : Int)) (hj : j < n) (g : ∀ w', hO D w0 w' → gX w' c j = z → (∀ c' j', (c' = c → j' ≠ j) → gX w' c' j' = gX w c' j') → (∀ c' k, gF w' c' k = gF w c' k) → Tp tbl Po np (lv, st, w', 0, 0)) (hq : pOkA D t 999 = true := by rfl) (hb : pOkB D t 0 = true := by rfl) : Tp tbl Po pc (lv, hI z :: hI i :: .ref c :: st, w, 0, 0) := by
  subst hi
  have hn := Nat.blt_eq.mp hn
  obtain ⟨vs, q, k1, k2, k3, k4, k5, k6, k7, k8⟩ := aZ_ok ho hf
  have r : R32 z := by rcases hz with rfl | rfl <;> exact ⟨by omega, by omega⟩
  have hl := (List.getElem?_eq_some_iff.mp k5).1
  have hv : j < vs.length := by omega
  have e := ixN_hI (i := (j : Int)) (by omega) (by omega)
  rw [show (j : Int).toNat = j by omega] at e
  have e3 : Nat.blt j 2147483648 = true := Nat.blt_eq.mpr (by omega)
  have e1 : (w.set c (.inl (3, vs.set j (hI z))))[c]? = some (.inl (3, vs.set j (hI z))) := List.getElem?_set_self hl
  have hnar : vp_nar .boolean (Int32.ofInt z) = Int32.ofInt z := by rcases hz with rfl | rfl <;> decide +kernel
  have hw' : wOk ZZ (w.set c (.inl (3, vs.set j (hI z)))) := by
    have := wOk_arr (Z := ZZ) (vs' := vs.set j (hI z)) ho.1 (show ZZ.2 c = some t from k1) k2 (by rw [List.length_set, k6, k4]) (by
      intro j' v hv'
      rw [k3]
      by_cases ej : j' = j
      · subst ej
        rw [List.getElem?_set_self hv] at hv'
        cases hv'
        exact ⟨_, k8 j' hj, z, hI_vOk r, by show 0 ≤ z; omega, by show z ≤ 1; omega⟩
      · rw [List.getElem?_set_ne (fun z => ej z.symm)] at hv'
        exact k7 j' v hv')
    rw [k3] at this
    exact this
  refine Tp_step ha (fun k => ?_) (g _ ⟨hw', frOk_arr ho.2 k1 k5 (mIn_mem hm) (hi := j + 1000) (pOkA_up hq (by omega)) (pOkB_up (lo := 0) hb) (fun j2 hj2 => List.getElem?_set_ne (by omega)) (fun j2 hj2 => absurd hj2 (Nat.not_lt_zero j2))⟩ (gX_at e1 (List.getElem?_set_self hv) r) ?_ ?_)
  · show a_bast np k (lv, Value.int (Int32.ofInt z) :: Value.int (Int32.ofInt (j : Int)) :: .ref c :: st, w, 0, 0) = _
    simp only [a_bast, xg_eq, xs_eq, k5, e, e3, List.getElem?_eq_getElem hv, hnar]
    rfl
  · intro c' j' hc
    refine gX_set k5 (fun e => ?_)
    exact List.getElem?_set_ne (fun z => hc e z.symm)
  · intro c' k
    exact gF_setX k5
end HZZ
theorem az_223 : aZ 223 = some (71, 2) := by decide +kernel
theorem aj_222 : aJ 222 = some (70, 32) := by decide +kernel
theorem sg_kept : ∀ e < 2, ∀ k < 438, k ≠ 0 → sgq (sga (aSg 215) k) (sga (aSg 217) (438 * e + k)) = true := by decide +kernel
theorem sg_k0 : ∀ e < 2, sgq (sga (aSg 217) (438 * e + 0)) (some (.inl (0, 12))) = true := by decide +kernel
theorem sg_n0 : sgq (sga (aSg 215) 0) (some (.inl (1, 12))) = true := by decide +kernel
theorem ar_k0 : aR 217 0 1 0 12 = true := by decide +kernel
theorem ar_k438 : aR 217 438 1 0 12 = true := by decide +kernel
theorem ai_217x : aI 217 = some (65, 876) := by decide +kernel
def dH_im : List (Nat × Nat) := [(61, 0), (65, 999), (70, 999), (71, 999)]
def dH_im7 : List (Nat × Nat) := (61, 778) :: dH_im
theorem fit_im {D : List (Nat × Nat)} {w0 w : sW} {e k : Nat} (o0 : hO D w0 w) (he : e < 2) (hk : k < 438) : ∃ u, sga (aSg 217) (438 * e + k) = some u ∧ fvOk ZZ (0, u) (hI (gX w 215 k)) := by
  by_cases k0 : k = 0
  · subst k0
    have g := gX_in o0 ai_215 ar_rows (j := 0) (by omega) (by omega) (by omega)
    exact ⟨_, sgq_ok (sg_k0 e he), gX w 215 0, hI_vOk ⟨by omega, by omega⟩, by show (0 : Int) ≤ _; omega, by show _ ≤ (12 : Int); omega⟩
  · rw [← sgq_ok (sg_kept e he k hk k0)]
    exact gX_seg o0 ai_215 (by omega)
theorem fit_rt {D : List (Nat × Nat)} {w0 w : sW} {e k : Nat} (o0 : hO D w0 w) (he : e < 2) (hk : k < 438) (hV : 1 ≤ gX w 217 (438 * e)) : ∃ u, sga (aSg 215) k = some u ∧ fvOk ZZ (0, u) (hI (gX w 217 (438 * e + k))) := by
  by_cases k0 : k = 0
  · subst k0
    have g : gX w 217 (438 * e) ≤ 12 := by
      have e2 : e = 0 ∨ e = 1 := by omega
      rcases e2 with rfl | rfl
      · exact (gX_in o0 ai_217x ar_k0 (j := 0) (by omega) (by omega) (by omega)).2
      · exact (gX_in o0 ai_217x ar_k438 (j := 438) (by omega) (by omega) (by omega)).2
    exact ⟨_, sgq_ok sg_n0, gX w 217 (438 * e), hI_vOk ⟨by omega, by omega⟩, by show (1 : Int) ≤ _; omega, by show _ ≤ (12 : Int); omega⟩
  · rw [sgq_ok (sg_kept e he k hk k0)]
    exact gX_seg o0 ai_217x (by omega)
/-- an image that stands begins with a number of rows -/
def KV (w : sW) : Prop := ∀ e : Nat, e < 2 → gX w 223 e = 1 → 1 ≤ gX w 217 (438 * e)
def imK (w0 w' : sW) (x b : Int) : Prop := ∀ f : Nat, f < 2 → (b = 1 ∧ (f : Int) = x → 1 ≤ gX w' 217 (438 * f)) ∧ ((b = 1 → (f : Int) ≠ x) → gX w' 217 (438 * f) = gX w0 217 (438 * f))
theorem kv_fr {D : List (Nat × Nat)} {w w' : sW} (hw : wOk ZZ w) (o : hO D w w') (h1 : mIn D 65 999 = false) (h2 : mIn D 71 999 = false) (h : KV w) : KV w' := by
  obtain ⟨vs, q, _, _, _, _, w1, _⟩ := aZ_ok (hO_rf (D := []) hw) az_223
  have e3 := (o.2.2.1 223 _ w1).2 71 rfl (mIn_no h2)
  intro e he g
  have e4 : gX w' 223 e = gX w 223 e := by
    unfold gX
    rw [e3, w1]
  rw [e4] at g
  rw [fr_gX (t := 65) (c := 217) o.2 rfl h1 hw (by decide +kernel)]
  exact h e he g
def imI (w1 w : sW) (e k : Nat) : Prop := hO dH_im7 w1 w ∧ (∀ j, j < k → gX w 217 (438 * e + j) = gX w1 215 j) ∧ (∀ j, j < 438 * e ∨ 438 * e + 438 ≤ j → gX w 217 j = gX w1 217 j) ∧ (∀ c j, c ≠ 217 → gX w c j = gX w1 c j)
theorem im_pw {w1 w : sW} {e : Nat} (he : e < 2) (hw : wOk ZZ w1) (h : imI w1 w e 438) (p : PW w1) : PW w := by
  obtain ⟨p0, p1, p2, p3, p4, p5, p6, p7⟩ := p
  obtain ⟨o1, h0, h1, h2⟩ := h
  have key : ∀ f < 2, siG w1 217 (438 * f) → siG w 217 (438 * f) := by
    intro f hf s i hi
    by_cases ef : f = e
    · subst ef
      rw [h0 197 (by omega)] at hi
      have hc := gX_in o1 ai_217x ar_k197 (j := 197) (by omega) (by omega) (by omega)
      have ht := (gX_in (hO_rf (D := []) hw) ai_215 ar_top (j := 197) (by omega) (by omega) (by omega))
      have q := p1 i (by rw [Nat.zero_add]; exact hi)
      unfold ndG at q ⊢
      rw [show 438 * f + 198 + 4 * i + 1 = 438 * f + (198 + 4 * i + 1) by omega, show 438 * f + 198 + 4 * i + 2 = 438 * f + (198 + 4 * i + 2) by omega, show 438 * f + 198 + 4 * i = 438 * f + (198 + 4 * i) by omega, h0 _ (by omega), h0 _ (by omega), h0 _ (by omega)]
      rw [Nat.zero_add] at q
      exact q
    · rw [h1 _ (by omega)] at hi
      have ht : gX w1 217 (438 * f + 197) ≤ 59 := by
        have e2 : f = 0 ∨ f = 1 := by omega
        rcases e2 with rfl | rfl
        · exact (gX_in (hO_rf (D := []) hw) ai_217x ar_k197 (j := 197) (by omega) (by omega) (by omega)).2
        · exact (gX_in (hO_rf (D := []) hw) ai_217x ar_k635 (j := 635) (by omega) (by omega) (by omega)).2
      have q := s i hi
      unfold ndG at q ⊢
      rw [h1 _ (by omega), h1 _ (by omega), h1 _ (by omega)]
      exact q
  exact ⟨rfG_eq (fr_rf hw o1.2 (by decide +kernel) (by decide +kernel)) p0, siG_eq (fun j _ => h2 _ _ (by decide)) p1, key 0 (by omega) p2, key 1 (by omega) p3, snG_eq (fun j => h2 _ _ (by decide)) (fun j => h2 _ _ (by decide)) p4, snG_eq (fun j => h2 _ _ (by decide)) (fun j => h2 _ _ (by decide)) p5, snG_eq (fun j => h2 _ _ (by decide)) (fun j => h2 _ _ (by decide)) p6, snG_eq (fun j => h2 _ _ (by decide)) (fun j => h2 _ _ (by decide)) p7⟩
theorem im_e {kn : sKn} {w0 : sW} {x : Int} {e : Nat} (he : e < 2) (hxe : x = (e : Int)) {w : sW} {lv : List (Nat × Value)} (o0 : hO dH_im w0 w) (h3 : ∀ j, gX w 223 j = gX w0 223 j) (h4 : imK w0 w x 1) (l0 : hL lv [(0, .ref 213), (1, hI e)]) : Tp (tX12_image kn) (fun r => ∃ (w' : sW) (b : Int), r = (some (hI b), w', 0, 0) ∧ hO dH_im w0 w' ∧ ((b = 0 ∨ b = 1) ∧ (b = 1 ↔ 0 ≤ x ∧ x ≤ 1) ∧ (b = 1 → gX w' 223 x.toNat = 1) ∧ (∀ j : Nat, (b = 1 → (j : Int) ≠ x) → gX w' 223 j = gX w0 223 j) ∧ imK w0 w' x b)) 80 (lv, [], w, 0, 0) := by
  refine h_aload rfl l0 rfl ?_
  refine h_getR rfl o0 fr_22 ?_
  refine h_iload rfl l0 rfl ?_
  refine h_intv k_1 rfl ?_
  refine h_bast e (Or.inr rfl) rfl o0 az_223 rfl rfl (by omega) (by omega) (fun w9 o9 q9a q9b q9c => ?_)
  refine h_intv k_1 rfl ?_
  refine h_zret (by omega) rfl ?_
  exact ⟨_, _, rfl, o9, Or.inr rfl, ⟨fun _ => by omega, fun _ => rfl⟩, fun _ => by rw [show x.toNat = e by omega]; exact q9a, fun j hj => by rw [q9b 223 j (fun _ => by have := hj rfl; omega)]; exact h3 j, fun f hf => by have q := h4 f hf; rw [← q9b 217 (438 * f) (fun h => absurd h (by decide))] at q; exact q⟩
theorem im_n {kn : sKn} {w0 : sW} {x : Int} {e : Nat} (he : e < 2) (hxe : x = (e : Int)) : ∀ (m k : Nat) (w : sW) (lv : List (Nat × Value)) (y : Int), k + m = 16 → y = (k : Int) → hO dH_im w0 w → (∀ j, gX w 223 j = gX w0 223 j) → imK w0 w x 1 → hL lv [(0, .ref 213), (1, hI e), (2, hI y)] → Tp (tX12_image kn) (fun r => ∃ (w' : sW) (b : Int), r = (some (hI b), w', 0, 0) ∧ hO dH_im w0 w' ∧ ((b = 0 ∨ b = 1) ∧ (b = 1 ↔ 0 ≤ x ∧ x ≤ 1) ∧ (b = 1 → gX w' 223 x.toNat = 1) ∧ (∀ j : Nat, (b = 1 → (j : Int) ≠ x) → gX w' 223 j = gX w0 223 j) ∧ imK w0 w' x b)) 51 (lv, [], w, 0, 0) := by
  intro m
  induction m with
  | zero =>
    intro k w lv y hkm hyk o0 h3 h4 l0
    subst hyk
    refine h_iload rfl l0 rfl ?_
    refine h_intv k_16 rfl ?_
    refine i_ge (kn := kn) (t := 3) (tgt := 80) (np := 57) rfl (by unfold R32; omega) (by unfold R32; omega) (fun e41 => ?_) (fun e41 => ?_)
    · exact im_e he hxe o0 h3 h4 (hL_take 2 l0)
    · omega
  | succ m ih =>
    intro k w lv y hkm hyk o0 h3 h4 l0
    subst hyk
    refine h_iload rfl l0 rfl ?_
    refine h_intv k_16 rfl ?_
    refine i_ge (kn := kn) (t := 3) (tgt := 80) (np := 57) rfl (by unfold R32; omega) (by unfold R32; omega) (fun e41 => ?_) (fun e41 => ?_)
    · omega
    · refine h_aload rfl l0 rfl ?_
      refine h_getR rfl o0 fr_21 ?_
      refine h_intv k_16 rfl ?_
      refine h_iload rfl l0 rfl ?_
      refine h_imul rfl ?_
      refine h_iload rfl l0 rfl ?_
      refine h_iadd rfl ?_
      refine h_aload rfl l0 rfl ?_
      refine h_getR rfl o0 fr_19 ?_
      refine h_iload rfl l0 rfl ?_
      refine h_lald (k) rfl o0 aj_220 rfl (by omega) (by omega) (fun j42 => ?_)
      refine h_last (16 * e + k) rfl o0 aj_222 rfl rfl (by omega) (by omega) (fun w43 o43 q44b q44c => ?_)
      refine h_iincv k_1 rfl l0 rfl (fun vl45 l45 => ?_)
      refine h_goto rfl ?_
      exact ih (k + 1) _ _ ((k : Int) + 1) (by omega) (by omega) o43 (fun j => by rw [q44c 223 j (by decide)]; exact h3 j) (fun f hf => by have q := h4 f hf; rw [← q44c 217 (438 * f) (by decide)] at q; exact q) l45
theorem im_l {kn : sKn} {w0 : sW} {x : Int} {e : Nat} (he : e < 2) (hxe : x = (e : Int)) {w1 : sW} (o1 : hO dH_im w0 w1) (h3 : ∀ j, gX w1 223 j = gX w0 223 j) (h5 : ∀ j, gX w1 217 j = gX w0 217 j) : ∀ (m k : Nat) (w : sW) (lv : List (Nat × Value)) (y : Int), k + m = 438 → y = (k : Int) → imI w1 w e k → hL lv [(0, .ref 213), (1, hI e), (2, hI y)] → Tp (tX12_image kn) (fun r => ∃ (w' : sW) (b : Int), r = (some (hI b), w', 0, 0) ∧ hO dH_im w0 w' ∧ ((b = 0 ∨ b = 1) ∧ (b = 1 ↔ 0 ≤ x ∧ x ≤ 1) ∧ (b = 1 → gX w' 223 x.toNat = 1) ∧ (∀ j : Nat, (b = 1 → (j : Int) ≠ x) → gX w' 223 j = gX w0 223 j) ∧ imK w0 w' x b)) 18 (lv, [], w, 0, 0) := by
  intro m
  induction m with
  | zero =>
    intro k w lv y hkm hyk hJ l0
    subst hyk
    have o0 := hJ.1
    refine h_iload rfl l0 rfl ?_
    refine h_intv k_438 rfl ?_
    refine i_ge (kn := kn) (t := 3) (tgt := 49) (np := 25) rfl (by unfold R32; omega) (by unfold R32; omega) (fun e41 => ?_) (fun e41 => ?_)
    · refine h_intv k_0 rfl ?_
      refine h_istore rfl l0 (fun vl42 l42 => ?_)
      have h4 : imK w0 w x 1 := by
        intro f hf
        by_cases ef : f = e
        · refine ⟨fun _ => ?_, fun z => absurd (z rfl) (by omega)⟩
          have g := gX_in (hO_rf (D := []) o1.1) ai_215 ar_rows (j := 0) (by omega) (by omega) (by omega)
          have g2 := hJ.2.1 0 (by omega)
          rw [Nat.add_zero] at g2
          rw [ef, g2]
          exact g.1
        · refine ⟨fun z => by omega, fun _ => ?_⟩
          rw [hJ.2.2.1 _ (by omega)]
          exact h5 _
      exact im_n he hxe 16 0 _ _ 0 rfl rfl (hO_tr o1 ⟨hJ.1.1, fr_P (D := dH_im) o1.1 hJ.1.1 hJ.1.2 (im_pw he o1.1 (by rw [show (438 : Nat) = k by omega]; exact hJ))⟩) (fun j => by rw [hJ.2.2.2 223 j (by decide)]; exact h3 j) h4 l42
    · omega
  | succ m ih =>
    intro k w lv y hkm hyk hJ l0
    subst hyk
    have o0 := hJ.1
    refine h_iload rfl l0 rfl ?_
    refine h_intv k_438 rfl ?_
    refine i_ge (kn := kn) (t := 3) (tgt := 49) (np := 25) rfl (by unfold R32; omega) (by unfold R32; omega) (fun e41 => ?_) (fun e41 => ?_)
    · omega
    · refine h_aload rfl l0 rfl ?_
      refine h_getR rfl o0 fr_16 ?_
      refine h_intv k_438 rfl ?_
      refine h_iload rfl l0 rfl ?_
      refine h_imul rfl ?_
      refine h_iload rfl l0 rfl ?_
      refine h_iadd rfl ?_
      refine h_aload rfl l0 rfl ?_
      refine h_getR rfl o0 fr_14 ?_
      refine h_iload rfl l0 rfl ?_
      refine h_ialdj (k) rfl o0 ai_215 rfl (by omega) (by omega) (fun b42a b42b => ?_)
      refine h_iaste (438 * e + k) rfl o0 ai_217x rfl rfl (by omega) (by omega) (fit_im o0 he (by omega)) (by unfold R32; omega) (fun w43 o43 q44a q44b q44c => ?_)
      refine h_iincv k_1 rfl l0 rfl (fun vl45 l45 => ?_)
      refine h_goto rfl ?_
      refine ih (k + 1) _ _ ((k : Int) + 1) (by omega) (by omega) ⟨o43, fun j j2 => ?_, fun j j2 => ?_, fun c j hc => ?_⟩ l45
      · by_cases e1 : j = k
        · rw [e1, q44a]
          exact hJ.2.2.2 215 k (by decide)
        · rw [q44b 217 _ (fun _ => by omega)]
          exact hJ.2.1 j (by omega)
      · rw [q44b 217 _ (fun _ => by omega)]
        exact hJ.2.2.1 j j2
      · rw [q44b c j (fun e => absurd e hc)]
        exact hJ.2.2.2 c j hc
theorem s_image {kn : sKn} {w0 : sW} (hw : wOk ZZ w0) (x : Int) (hx : R32 x) : ∃ (w' : sW) (b : Int), fX12_image kn [.ref 213, hI x] w0 = some (some (hI b), w', 0, 0) ∧ hO dH_im w0 w' ∧ ((b = 0 ∨ b = 1) ∧ (b = 1 ↔ 0 ≤ x ∧ x ≤ 1) ∧ (b = 1 → gX w' 223 x.toNat = 1) ∧ (∀ j : Nat, (b = 1 → (j : Int) ≠ x) → gX w' 223 j = gX w0 223 j) ∧ imK w0 w' x b) := by
  have K : Tp (tX12_image kn) (fun r => ∃ (w' : sW) (b : Int), r = (some (hI b), w', 0, 0) ∧ hO dH_im w0 w' ∧ ((b = 0 ∨ b = 1) ∧ (b = 1 ↔ 0 ≤ x ∧ x ≤ 1) ∧ (b = 1 → gX w' 223 x.toNat = 1) ∧ (∀ j : Nat, (b = 1 → (j : Int) ≠ x) → gX w' 223 j = gX w0 223 j) ∧ imK w0 w' x b)) 0 (lv_args 0 [.ref 213, hI x], [], w0, 0, 0) := by
    have l0 : hL (lv_args 0 [.ref 213, hI x]) (lv_args 0 [.ref 213, hI x]) := hL_ex rfl
    have o0 : hO dH_im w0 w0 := hO_rf hw
    refine h_aload rfl l0 rfl ?_
    refine h_intv k_0 rfl ?_
    refine h_putI rfl o0 fi_0 rfl (by omega) (by omega) (fun w41 o41 q42a q42b q42c => ?_)
    refine h_iload rfl l0 rfl ?_
    refine h_intv k_0 rfl ?_
    refine h_intv k_1 rfl ?_
    obtain ⟨z43, hf43, hz43, hq43⟩ := s_isIn (kn := kn) o41.1 x 0 1 hx ⟨by omega, by omega⟩ ⟨by omega, by omega⟩
    refine h_S3 rfl o41 l0 rfl rfl hf43 ?_
    refine j_ne (kn := kn) (t := 1) (tgt := 16) (np := 14) rfl (by unfold R32; omega) (fun e44 => ?_) (fun e44 => ?_)
    · refine h_intv k_0 rfl ?_
      refine h_istore rfl l0 (fun vl45 l45 => ?_)
      obtain ⟨h01, h02⟩ := hq43.mp (by omega)
      obtain ⟨e, hxe⟩ : ∃ e : Nat, x = (e : Int) := ⟨x.toNat, by omega⟩
      exact im_l (e := e) (by omega) hxe o41 (fun j => q42c 223 j) (fun j => q42c 217 j) 438 0 _ _ 0 rfl rfl ⟨hO_rf o41.1, fun j hj => by omega, fun j _ => rfl, fun c j _ => rfl⟩ (by rw [← hxe]; exact l45)
    · refine h_intv k_0 rfl ?_
      refine h_zret (by omega) rfl ?_
      exact ⟨_, _, rfl, o41, Or.inl rfl, ⟨fun z => by omega, fun z => by have := hq43.mpr z; omega⟩, fun z => by omega, fun j _ => q42c 223 j, fun f hf => ⟨fun z => by omega, fun _ => q42c 217 _⟩⟩
  obtain ⟨r, h1, w2, b, h2, h3⟩ := h_meth1 (nL := 3) rfl K
  rw [h2] at h1
  exact ⟨w2, b, h1, h3⟩
def dH_rt : List (Nat × Nat) := [(61, 779), (61, 0), (61, 23), (63, 999), (68, 999)]
def dH_rt7 : List (Nat × Nat) := (61, 778) :: dH_rt
def rtI (w1 w : sW) (e k : Nat) : Prop := hO dH_rt7 w1 w ∧ (∀ j, j < k → gX w 215 j = gX w1 217 (438 * e + j)) ∧ (∀ c j, c ≠ 215 → gX w c j = gX w1 c j)
theorem rt_pw {w1 w : sW} {e : Nat} (he : e < 2) (hw : wOk ZZ w1) (h : rtI w1 w e 438) (p : PW w1) : PW w := by
  obtain ⟨p0, p1, p2, p3, p4, p5, p6, p7⟩ := p
  obtain ⟨o1, h0, h2⟩ := h
  refine ⟨rfG_eq (fr_rf hw o1.2 (by decide +kernel) (by decide +kernel)) p0, ?_, siG_eq (fun j _ => h2 _ _ (by decide)) p2, siG_eq (fun j _ => h2 _ _ (by decide)) p3, snG_eq (fun j => h2 _ _ (by decide)) (fun j => h2 _ _ (by decide)) p4, snG_eq (fun j => h2 _ _ (by decide)) (fun j => h2 _ _ (by decide)) p5, snG_eq (fun j => h2 _ _ (by decide)) (fun j => h2 _ _ (by decide)) p6, snG_eq (fun j => h2 _ _ (by decide)) (fun j => h2 _ _ (by decide)) p7⟩
  intro i hi
  have ht := (gX_in o1 ai_215 ar_top (j := 197) (by omega) (by omega) (by omega))
  rw [Nat.zero_add] at hi
  have q : ndG w1 217 (438 * e + 198) i := by
    have hi' := hi
    rw [h0 197 (by omega)] at hi'
    have e2 : e = 0 ∨ e = 1 := by omega
    rcases e2 with rfl | rfl
    · exact p2 i hi'
    · exact p3 i hi'
  unfold ndG at q ⊢
  rw [Nat.zero_add, h0 _ (by omega), h0 _ (by omega), h0 _ (by omega)]
  rw [show 438 * e + 198 + 4 * i + 1 = 438 * e + (198 + 4 * i + 1) by omega, show 438 * e + 198 + 4 * i + 2 = 438 * e + (198 + 4 * i + 2) by omega, show 438 * e + 198 + 4 * i = 438 * e + (198 + 4 * i) by omega] at q
  exact q
theorem rt_e {kn : sKn} {w0 : sW} {x : Int} {e : Nat} (he : e < 2) (hxe : x = (e : Int)) (hK : gX w0 223 e = 1) {w : sW} {lv : List (Nat × Value)} (o0 : hO dH_rt w0 w) (l0 : hL lv [(0, .ref 213), (1, hI e)]) : Tp (tX12_restore kn) (fun r => ∃ (w' : sW) (b : Int), r = (some (hI b), w', 0, 0) ∧ hO dH_rt w0 w' ∧ ((b = 0 ∨ b = 1) ∧ (b = 1 ↔ (0 ≤ x ∧ x ≤ 1) ∧ gX w0 223 x.toNat = 1))) 89 (lv, [], w, 0, 0) := by
  refine h_aload rfl l0 rfl ?_
  refine h_intv k_0 rfl ?_
  refine h_putI rfl o0 fi_23 rfl (by omega) (by omega) (fun w41 o41 q42a q42b q42c => ?_)
  refine h_intv k_1 rfl ?_
  refine h_zret (by omega) rfl ?_
  exact ⟨_, _, rfl, o41, Or.inr rfl, ⟨fun _ => ⟨⟨by omega, by omega⟩, by rw [show x.toNat = e by omega]; exact hK⟩, fun _ => rfl⟩⟩
theorem rt_n {kn : sKn} {w0 : sW} {x : Int} {e : Nat} (he : e < 2) (hxe : x = (e : Int)) (hK : gX w0 223 e = 1) : ∀ (m k : Nat) (w : sW) (lv : List (Nat × Value)) (y : Int), k + m = 16 → y = (k : Int) → hO dH_rt w0 w → hL lv [(0, .ref 213), (1, hI e), (2, hI y)] → Tp (tX12_restore kn) (fun r => ∃ (w' : sW) (b : Int), r = (some (hI b), w', 0, 0) ∧ hO dH_rt w0 w' ∧ ((b = 0 ∨ b = 1) ∧ (b = 1 ↔ (0 ≤ x ∧ x ≤ 1) ∧ gX w0 223 x.toNat = 1))) 60 (lv, [], w, 0, 0) := by
  intro m
  induction m with
  | zero =>
    intro k w lv y hkm hyk o0 l0
    subst hyk
    refine h_iload rfl l0 rfl ?_
    refine h_intv k_16 rfl ?_
    refine i_ge (kn := kn) (t := 3) (tgt := 89) (np := 66) rfl (by unfold R32; omega) (by unfold R32; omega) (fun e41 => ?_) (fun e41 => ?_)
    · exact rt_e he hxe hK o0 (hL_take 2 l0)
    · omega
  | succ m ih =>
    intro k w lv y hkm hyk o0 l0
    subst hyk
    refine h_iload rfl l0 rfl ?_
    refine h_intv k_16 rfl ?_
    refine i_ge (kn := kn) (t := 3) (tgt := 89) (np := 66) rfl (by unfold R32; omega) (by unfold R32; omega) (fun e41 => ?_) (fun e41 => ?_)
    · omega
    · refine h_aload rfl l0 rfl ?_
      refine h_getR rfl o0 fr_19 ?_
      refine h_iload rfl l0 rfl ?_
      refine h_aload rfl l0 rfl ?_
      refine h_getR rfl o0 fr_21 ?_
      refine h_intv k_16 rfl ?_
      refine h_iload rfl l0 rfl ?_
      refine h_imul rfl ?_
      refine h_iload rfl l0 rfl ?_
      refine h_iadd rfl ?_
      refine h_lald (16 * e + k) rfl o0 aj_222 rfl (by omega) (by omega) (fun j42 => ?_)
      refine h_last (k) rfl o0 aj_220 rfl rfl (by omega) (by omega) (fun w43 o43 q44b q44c => ?_)
      refine h_iincv k_1 rfl l0 rfl (fun vl45 l45 => ?_)
      refine h_goto rfl ?_
      exact ih (k + 1) _ _ ((k : Int) + 1) (by omega) (by omega) o43 l45
theorem rt_l {kn : sKn} {w0 : sW} {x : Int} {e : Nat} (he : e < 2) (hxe : x = (e : Int)) (hK : gX w0 223 e = 1) {w1 : sW} (hV : 1 ≤ gX w1 217 (438 * e)) (o1 : hO dH_rt w0 w1) : ∀ (m k : Nat) (w : sW) (lv : List (Nat × Value)) (y : Int), k + m = 438 → y = (k : Int) → rtI w1 w e k → hL lv [(0, .ref 213), (1, hI e), (2, hI y)] → Tp (tX12_restore kn) (fun r => ∃ (w' : sW) (b : Int), r = (some (hI b), w', 0, 0) ∧ hO dH_rt w0 w' ∧ ((b = 0 ∨ b = 1) ∧ (b = 1 ↔ (0 ≤ x ∧ x ≤ 1) ∧ gX w0 223 x.toNat = 1))) 27 (lv, [], w, 0, 0) := by
  intro m
  induction m with
  | zero =>
    intro k w lv y hkm hyk hJ l0
    subst hyk
    have o0 := hJ.1
    refine h_iload rfl l0 rfl ?_
    refine h_intv k_438 rfl ?_
    refine i_ge (kn := kn) (t := 3) (tgt := 58) (np := 34) rfl (by unfold R32; omega) (by unfold R32; omega) (fun e41 => ?_) (fun e41 => ?_)
    · refine h_intv k_0 rfl ?_
      refine h_istore rfl l0 (fun vl42 l42 => ?_)
      exact rt_n he hxe hK 16 0 _ _ 0 rfl rfl (hO_tr o1 ⟨hJ.1.1, fr_P (D := dH_rt) o1.1 hJ.1.1 hJ.1.2 (rt_pw he o1.1 (by rw [show (438 : Nat) = k by omega]; exact hJ))⟩) l42
    · omega
  | succ m ih =>
    intro k w lv y hkm hyk hJ l0
    subst hyk
    have o0 := hJ.1
    refine h_iload rfl l0 rfl ?_
    refine h_intv k_438 rfl ?_
    refine i_ge (kn := kn) (t := 3) (tgt := 58) (np := 34) rfl (by unfold R32; omega) (by unfold R32; omega) (fun e41 => ?_) (fun e41 => ?_)
    · omega
    · refine h_aload rfl l0 rfl ?_
      refine h_getR rfl o0 fr_14 ?_
      refine h_iload rfl l0 rfl ?_
      refine h_aload rfl l0 rfl ?_
      refine h_getR rfl o0 fr_16 ?_
      refine h_intv k_438 rfl ?_
      refine h_iload rfl l0 rfl ?_
      refine h_imul rfl ?_
      refine h_iload rfl l0 rfl ?_
      refine h_iadd rfl ?_
      refine h_ialdj (438 * e + k) rfl o0 ai_217x rfl (by omega) (by omega) (fun b42a b42b => ?_)
      refine h_iaste (k) rfl o0 ai_215 rfl rfl (by omega) (by omega) (fit_rt o0 he (by omega) (by rw [hJ.2.2 217 _ (by decide)]; exact hV)) (by unfold R32; omega) (fun w43 o43 q44a q44b q44c => ?_)
      refine h_iincv k_1 rfl l0 rfl (fun vl45 l45 => ?_)
      refine h_goto rfl ?_
      refine ih (k + 1) _ _ ((k : Int) + 1) (by omega) (by omega) ⟨o43, fun j j2 => ?_, fun c j hc => ?_⟩ l45
      · by_cases e1 : j = k
        · rw [e1, q44a]
          exact hJ.2.2 217 _ (by decide)
        · rw [q44b 215 _ (fun _ => by omega)]
          exact hJ.2.1 j (by omega)
      · rw [q44b c j (fun e => absurd e hc)]
        exact hJ.2.2 c j hc
theorem s_restore {kn : sKn} {w0 : sW} (hw : wOk ZZ w0) (x : Int) (hx : R32 x) (hV : KV w0) : ∃ (w' : sW) (b : Int), fX12_restore kn [.ref 213, hI x] w0 = some (some (hI b), w', 0, 0) ∧ hO dH_rt w0 w' ∧ ((b = 0 ∨ b = 1) ∧ (b = 1 ↔ (0 ≤ x ∧ x ≤ 1) ∧ gX w0 223 x.toNat = 1)) := by
  have K : Tp (tX12_restore kn) (fun r => ∃ (w' : sW) (b : Int), r = (some (hI b), w', 0, 0) ∧ hO dH_rt w0 w' ∧ ((b = 0 ∨ b = 1) ∧ (b = 1 ↔ (0 ≤ x ∧ x ≤ 1) ∧ gX w0 223 x.toNat = 1))) 0 (lv_args 0 [.ref 213, hI x], [], w0, 0, 0) := by
    have l0 : hL (lv_args 0 [.ref 213, hI x]) (lv_args 0 [.ref 213, hI x]) := hL_ex rfl
    have o0 : hO dH_rt w0 w0 := hO_rf hw
    refine h_aload rfl l0 rfl ?_
    refine h_intv k_0 rfl ?_
    refine h_putI rfl o0 fi_0 rfl (by omega) (by omega) (fun w41 o41 q42a q42b q42c => ?_)
    refine h_iload rfl l0 rfl ?_
    refine h_intv k_0 rfl ?_
    refine h_intv k_1 rfl ?_
    obtain ⟨z43, hf43, hz43, hq43⟩ := s_isIn (kn := kn) o41.1 x 0 1 hx ⟨by omega, by omega⟩ ⟨by omega, by omega⟩
    refine h_S3 rfl o41 l0 rfl rfl hf43 ?_
    refine j_eq (kn := kn) (t := 0) (tgt := 23) (np := 14) rfl (by unfold R32; omega) (fun e44 => ?_) (fun e44 => ?_)
    · refine h_intv k_0 rfl ?_
      refine h_zret (by omega) rfl ?_
      exact ⟨_, _, rfl, o41, Or.inl rfl, ⟨fun z => by omega, fun z => by have := hq43.mpr z.1; omega⟩⟩
    · refine h_aload rfl l0 rfl ?_
      refine h_getR rfl o41 fr_22 ?_
      refine h_iload rfl l0 rfl ?_
      obtain ⟨h01, h02⟩ := hq43.mp (by omega)
      obtain ⟨e, hxe⟩ : ∃ e : Nat, x = (e : Int) := ⟨x.toNat, by omega⟩
      refine h_bald e rfl o41 az_223 rfl hxe (by omega) (fun c1 c2 => ?_)
      rw [q42c 223 e] at c1 c2 ⊢
      refine j_ne (kn := kn) (t := 1) (tgt := 25) (np := 23) rfl (by unfold R32; omega) (fun e9 => ?_) (fun e9 => ?_)
      · refine h_intv k_0 rfl ?_
        refine h_istore rfl l0 (fun vl9 l9 => ?_)
        exact rt_l (e := e) (by omega) hxe (by omega) (by rw [q42c 217]; exact hV e (by omega) (by omega)) o41 438 0 _ _ 0 rfl rfl ⟨hO_rf o41.1, fun j hj => by omega, fun c j _ => rfl⟩ (by rw [← hxe]; exact l9)
      · refine h_intv k_0 rfl ?_
        refine h_zret (by omega) rfl ?_
        exact ⟨_, _, rfl, o41, Or.inl rfl, ⟨fun z => by omega, fun z => by have z2 := z.2; rw [show x.toNat = e by omega] at z2; omega⟩⟩
  obtain ⟨r, h1, w2, b, h2, h3⟩ := h_meth1 (nL := 3) rfl K
  rw [h2] at h1
  exact ⟨w2, b, h1, h3⟩
end
