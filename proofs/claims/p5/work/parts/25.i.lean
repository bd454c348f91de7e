noncomputable section
theorem g_eq {av : List Value} {w : sW} {r : sR} : g_of av w r av w = some r := by
  unfold g_of
  rw [decide_eq_true ⟨rfl, rfl⟩]
theorem g_X : gXi [.ref 0] wInit = some (none, WX, 212, 5700) := g_eq
theorem g_M : gMi [.ref 213] wM0 = some (none, W0, 27, 4763) := g_eq
theorem wf_a : wfS ([(1, .ref 0), (0, .ref 1000010)], [], WX, 213, 5720) = true := by decide +kernel
theorem ck_a : c_ok ([(1, .ref 0), (0, .ref 1000010)], [.ref 213, .ref 213], wM0, 214, 5780) 1 = true := by decide +kernel
theorem wf_b : wfS ([(2, .ref 213), (1, .ref 0), (0, .ref 1000010)], [], W0, 241, 10543) = true := by decide +kernel
theorem wl_1 : wL W1.length [(4, hI 0), (3, .ref 241), (2, .ref 213), (1, .ref 0), (0, .ref 1000010)] := fun q hq => List.all_eq_true.mp (show [(4, hI 0), (3, Value.ref 241), (2, Value.ref 213), (1, Value.ref 0), (0, Value.ref 1000010)].all (fun q => wfV W1.length q.2) = true by decide +kernel) q hq
theorem ft_1 : ft W1 := by
  unfold ft
  decide +kernel
theorem len_1 : W1.length = 242 := by decide +kernel
theorem pl_1 : pl4 W1 := by
  unfold pl4
  decide +kernel
theorem plb_1 : (List.range 9).all (fun k => Nat.beq (gR W1 14 (6 + k)) (14 + 1 + k) && (Nat.beq (gR W1 167 (6 + k)) (167 + 1 + k) && Nat.beq (gR W1 190 (6 + k)) (190 + 1 + k))) = true := by decide +kernel
theorem plx_1 (c : Nat) (hc : cpl c) : plX W1 c := by
  intro k hk
  have h := List.all_eq_true.mp plb_1 k (List.mem_range.mpr hk)
  rw [Bool.and_eq_true, Bool.and_eq_true] at h
  rcases hc with rfl | rfl | rfl
  · exact Nat.eq_of_beq_eq_true h.1
  · exact Nat.eq_of_beq_eq_true h.2.1
  · exact Nat.eq_of_beq_eq_true h.2.2
theorem fl_1 : gX W1 103 0 = 0 ∧ gX W1 103 1 = 0 ∧ gX W1 223 0 = 0 ∧ gX W1 223 1 = 0 := by decide +kernel
theorem hd_1 : gF W1 14 0 = gX W1 215 0 ∧ gF W1 14 2 = gX W1 215 1 ∧ gF W1 14 3 = gX W1 215 2 ∧ gF W1 14 4 = gX W1 215 3 ∧ gF W1 14 1 = gX W1 215 4 := by decide +kernel
theorem sg_1 : gX W1 215 1 = 0 ∧ gX W1 215 2 = 0 := by decide +kernel
theorem pa_1 : gQa W1 100 0 = 167 ∧ gQa W1 100 1 = 190 := by decide +kernel
theorem jc_1 : JC W1 := by
  obtain ⟨f1, f2, f3, f4⟩ := fl_1
  refine ⟨⟨plx_1, pa_1, fun f hf => ?_⟩, ⟨hd_1, ⟨?_, ?_⟩, fun s hs => ?_, fun l hl => ?_⟩, fun f hf g => ?_⟩
  · rcases (by omega : f = 0 ∨ f = 1) with rfl | rfl
    · rw [f1, f3]
    · rw [f2, f4]
  · rw [show gX W1 215 (0 + 1) = 0 from sg_1.1]
    omega
  · rw [show gX W1 215 (0 + 2) = 0 from sg_1.2]
    omega
  · rw [show gX W1 215 (0 + 1) = 0 from sg_1.1] at hs
    omega
  · rw [show gX W1 215 (0 + 2) = 0 from sg_1.2] at hl
    omega
  · rcases (by omega : f = 0 ∨ f = 1) with rfl | rfl
    · rw [f3] at g
      omega
    · rw [f4] at g
      omega
theorem loop {xs : List Int32} {z : Bool} {gx gm : List Value → sW → Option sR} (hx : xs.length ≤ 3072) : ∀ (d t : Nat) (w : sW) (lv : List (Nat × Value)) (n m : Nat), xs.length ≤ 6 * t + d → 6 * t ≤ 3078 → BI w → tkL w → lI lv w (6 * (t : Int)) → bu w t n m → Tp (tL_law (kx z xs) gx gm) (fun r => r.1 = some (.int 1) ∧ r.2.2.1 ≤ 601024 ∧ r.2.2.2 ≤ 7293034) 23 (lv, [], w, n, m) := by
  intro d
  induction d with
  | zero =>
    intro t w lv n m hd h6 hB hT hl hb
    have hl0 := hl
    have hlen := bi_len hB
    obtain ⟨l0, l1, l2, l3, l4, hlv⟩ := hl
    refine r_iload (tg_0 rfl) l4 ?_
    refine r_aload (tg_0 rfl) l0 ?_
    refine r_slen (tg_0 rfl) ?_
    refine r_intv k_6 (tg_0 rfl) ?_
    refine r_isub (tg_0 rfl) ?_
    refine r_icmp (kn := kx z xs) (b := b_gt) (t := 4) (tgt := 1443) (np := 33) (tg_0 rfl) (c_gt (by unfold R32; omega) (by unfold R32; omega)) (fun e => ?_) (fun e => ?_)
    · refine r_intv k_1 (tg_14 (Nat.le_of_ble_eq_true rfl) rfl) ?_
      refine r_zret1 (tg_14 (Nat.le_of_ble_eq_true rfl) rfl) ?_
      refine ⟨rfl, ?_, ?_⟩
      · exact (show n ≤ 601024 by unfold bu at hb; omega)
      · exact (show m ≤ 7293034 by unfold bu at hb; omega)
    · omega
  | succ d ih =>
    intro t w lv n m hd h6 hB hT hl hb
    have hl0 := hl
    have hlen := bi_len hB
    obtain ⟨l0, l1, l2, l3, l4, hlv⟩ := hl
    refine r_iload (tg_0 rfl) l4 ?_
    refine r_aload (tg_0 rfl) l0 ?_
    refine r_slen (tg_0 rfl) ?_
    refine r_intv k_6 (tg_0 rfl) ?_
    refine r_isub (tg_0 rfl) ?_
    refine r_icmp (kn := kx z xs) (b := b_gt) (t := 4) (tgt := 1443) (np := 33) (tg_0 rfl) (c_gt (by unfold R32; omega) (by unfold R32; omega)) (fun e => ?_) (fun e => ?_)
    · refine r_intv k_1 (tg_14 (Nat.le_of_ble_eq_true rfl) rfl) ?_
      refine r_zret1 (tg_14 (Nat.le_of_ble_eq_true rfl) rfl) ?_
      refine ⟨rfl, ?_, ?_⟩
      · exact (show n ≤ 601024 by unfold bu at hb; omega)
      · exact (show m ≤ 7293034 by unfold bu at hb; omega)
    · refine r_aload (tg_0 rfl) l0 ?_
      refine r_iload (tg_0 rfl) l4 ?_
      refine r_sldk (by omega) (tg_0 rfl) ?_
      refine r_intv k_63 (tg_0 rfl) ?_
      refine r_kop63 (tg_0 rfl) (fun z_ hz => ?_)
      have hK : ∀ (w' : sW) (lv' : List (Nat × Value)) (n' m' : Nat), BI w' → tkL w' → lI lv' w' (6 * (t : Int)) → bu w' (t + 1) n' m' → Tp (tL_law (kx z xs) gx gm) (fun r => r.1 = some (.int 1) ∧ r.2.2.1 ≤ 601024 ∧ r.2.2.2 ≤ 7293034) 1437 (lv', [], w', n', m') := by
        intro w' lv' n' m' hB' hT' hl' hb'
        obtain ⟨q0, q1, q2, q3, q4, qlv⟩ := hl'
        refine r_iincv k_6 (tg_14 (Nat.le_of_ble_eq_true rfl) rfl) q4 ?_
        refine r_goto (tg_14 (Nat.le_of_ble_eq_true rfl) rfl) ?_
        refine ih (t + 1) w' _ n' m' (by omega) (by omega) hB' hT' ⟨lp_get (by decide) q0 (Or.inl rfl), lp_get (by decide) q1 (Or.inl rfl), lp_get (by decide) q2 (Or.inl rfl), lp_get (by decide) q3 (Or.inl rfl), ?_, wq_put qlv rfl⟩ hb'
        rw [show (6 * ((t + 1 : Nat) : Int)) = 6 * (t : Int) + 6 by omega]
        exact l_get_head
      by_cases e0 : z_ = 0
      · exact r_tab 0 e0 (by unfold R32; omega) (tg_0 rfl) (by omega) (by omega) rfl (case_0 (by omega) hx w lv n m hB hT hl0 hb hK)
      by_cases e1 : z_ = 1
      · exact r_tab 1 e1 (by unfold R32; omega) (tg_0 rfl) (by omega) (by omega) rfl (case_1 (by omega) hx w lv n m hB hT hl0 hb hK)
      by_cases e2 : z_ = 2
      · exact r_tab 2 e2 (by unfold R32; omega) (tg_0 rfl) (by omega) (by omega) rfl (case_2 (by omega) hx w lv n m hB hT hl0 hb hK)
      by_cases e3 : z_ = 3
      · exact r_tab 3 e3 (by unfold R32; omega) (tg_0 rfl) (by omega) (by omega) rfl (case_3 (by omega) hx w lv n m hB hT hl0 hb hK)
      by_cases e4 : z_ = 4
      · exact r_tab 4 e4 (by unfold R32; omega) (tg_0 rfl) (by omega) (by omega) rfl (case_4 (by omega) hx w lv n m hB hT hl0 hb hK)
      by_cases e5 : z_ = 5
      · exact r_tab 5 e5 (by unfold R32; omega) (tg_0 rfl) (by omega) (by omega) rfl (case_5 (by omega) hx w lv n m hB hT hl0 hb hK)
      by_cases e6 : z_ = 6
      · exact r_tab 6 e6 (by unfold R32; omega) (tg_0 rfl) (by omega) (by omega) rfl (case_6 (by omega) hx w lv n m hB hT hl0 hb hK)
      by_cases e7 : z_ = 7
      · exact r_tab 7 e7 (by unfold R32; omega) (tg_0 rfl) (by omega) (by omega) rfl (case_7 (by omega) hx w lv n m hB hT hl0 hb hK)
      by_cases e8 : z_ = 8
      · exact r_tab 8 e8 (by unfold R32; omega) (tg_0 rfl) (by omega) (by omega) rfl (case_8 (by omega) hx w lv n m hB hT hl0 hb hK)
      by_cases e9 : z_ = 9
      · exact r_tab 9 e9 (by unfold R32; omega) (tg_0 rfl) (by omega) (by omega) rfl (case_9 (by omega) hx w lv n m hB hT hl0 hb hK)
      by_cases e10 : z_ = 10
      · exact r_tab 10 e10 (by unfold R32; omega) (tg_0 rfl) (by omega) (by omega) rfl (case_10 (by omega) hx w lv n m hB hT hl0 hb hK)
      by_cases e11 : z_ = 11
      · exact r_tab 11 e11 (by unfold R32; omega) (tg_0 rfl) (by omega) (by omega) rfl (case_11 (by omega) hx w lv n m hB hT hl0 hb hK)
      by_cases e12 : z_ = 12
      · exact r_tab 12 e12 (by unfold R32; omega) (tg_0 rfl) (by omega) (by omega) rfl (case_12 (by omega) hx w lv n m hB hT hl0 hb hK)
      by_cases e13 : z_ = 13
      · exact r_tab 13 e13 (by unfold R32; omega) (tg_0 rfl) (by omega) (by omega) rfl (case_13 (by omega) hx w lv n m hB hT hl0 hb hK)
      by_cases e14 : z_ = 14
      · exact r_tab 14 e14 (by unfold R32; omega) (tg_0 rfl) (by omega) (by omega) rfl (case_14 (by omega) hx w lv n m hB hT hl0 hb hK)
      by_cases e15 : z_ = 15
      · exact r_tab 15 e15 (by unfold R32; omega) (tg_0 rfl) (by omega) (by omega) rfl (case_15 (by omega) hx w lv n m hB hT hl0 hb hK)
      by_cases e16 : z_ = 16
      · exact r_tab 16 e16 (by unfold R32; omega) (tg_0 rfl) (by omega) (by omega) rfl (case_16 (by omega) hx w lv n m hB hT hl0 hb hK)
      by_cases e17 : z_ = 17
      · exact r_tab 17 e17 (by unfold R32; omega) (tg_0 rfl) (by omega) (by omega) rfl (case_17 (by omega) hx w lv n m hB hT hl0 hb hK)
      by_cases e18 : z_ = 18
      · exact r_tab 18 e18 (by unfold R32; omega) (tg_0 rfl) (by omega) (by omega) rfl (case_18 (by omega) hx w lv n m hB hT hl0 hb hK)
      by_cases e19 : z_ = 19
      · exact r_tab 19 e19 (by unfold R32; omega) (tg_0 rfl) (by omega) (by omega) rfl (case_19 (by omega) hx w lv n m hB hT hl0 hb hK)
      by_cases e20 : z_ = 20
      · exact r_tab 20 e20 (by unfold R32; omega) (tg_0 rfl) (by omega) (by omega) rfl (case_20 (by omega) hx w lv n m hB hT hl0 hb hK)
      by_cases e21 : z_ = 21
      · exact r_tab 21 e21 (by unfold R32; omega) (tg_0 rfl) (by omega) (by omega) rfl (case_21 (by omega) hx w lv n m hB hT hl0 hb hK)
      by_cases e22 : z_ = 22
      · exact r_tab 22 e22 (by unfold R32; omega) (tg_0 rfl) (by omega) (by omega) rfl (case_22 (by omega) hx w lv n m hB hT hl0 hb hK)
      by_cases e23 : z_ = 23
      · exact r_tab 23 e23 (by unfold R32; omega) (tg_0 rfl) (by omega) (by omega) rfl (case_23 (by omega) hx w lv n m hB hT hl0 hb hK)
      by_cases e24 : z_ = 24
      · exact r_tab 24 e24 (by unfold R32; omega) (tg_0 rfl) (by omega) (by omega) rfl (case_24 (by omega) hx w lv n m hB hT hl0 hb hK)
      by_cases e25 : z_ = 25
      · exact r_tab 25 e25 (by unfold R32; omega) (tg_0 rfl) (by omega) (by omega) rfl (case_25 (by omega) hx w lv n m hB hT hl0 hb hK)
      by_cases e26 : z_ = 26
      · exact r_tab 26 e26 (by unfold R32; omega) (tg_0 rfl) (by omega) (by omega) rfl (case_26 (by omega) hx w lv n m hB hT hl0 hb hK)
      by_cases e27 : z_ = 27
      · exact r_tab 27 e27 (by unfold R32; omega) (tg_0 rfl) (by omega) (by omega) rfl (case_27 (by omega) hx w lv n m hB hT hl0 hb hK)
      by_cases e28 : z_ = 28
      · exact r_tab 28 e28 (by unfold R32; omega) (tg_0 rfl) (by omega) (by omega) rfl (case_28 (by omega) hx w lv n m hB hT hl0 hb hK)
      by_cases e29 : z_ = 29
      · exact r_tab 29 e29 (by unfold R32; omega) (tg_0 rfl) (by omega) (by omega) rfl (case_29 (by omega) hx w lv n m hB hT hl0 hb hK)
      by_cases e30 : z_ = 30
      · exact r_tab 30 e30 (by unfold R32; omega) (tg_0 rfl) (by omega) (by omega) rfl (case_30 (by omega) hx w lv n m hB hT hl0 hb hK)
      by_cases e31 : z_ = 31
      · exact r_tab 31 e31 (by unfold R32; omega) (tg_0 rfl) (by omega) (by omega) rfl (case_31 (by omega) hx w lv n m hB hT hl0 hb hK)
      by_cases e32 : z_ = 32
      · exact r_tab 32 e32 (by unfold R32; omega) (tg_0 rfl) (by omega) (by omega) rfl (case_32 (by omega) hx w lv n m hB hT hl0 hb hK)
      by_cases e33 : z_ = 33
      · exact r_tab 33 e33 (by unfold R32; omega) (tg_0 rfl) (by omega) (by omega) rfl (case_33 (by omega) hx w lv n m hB hT hl0 hb hK)
      by_cases e34 : z_ = 34
      · exact r_tab 34 e34 (by unfold R32; omega) (tg_0 rfl) (by omega) (by omega) rfl (case_34 (by omega) hx w lv n m hB hT hl0 hb hK)
      by_cases e35 : z_ = 35
      · exact r_tab 35 e35 (by unfold R32; omega) (tg_0 rfl) (by omega) (by omega) rfl (case_35 (by omega) hx w lv n m hB hT hl0 hb hK)
      by_cases e36 : z_ = 36
      · exact r_tab 36 e36 (by unfold R32; omega) (tg_0 rfl) (by omega) (by omega) rfl (case_36 (by omega) hx w lv n m hB hT hl0 hb hK)
      by_cases e37 : z_ = 37
      · exact r_tab 37 e37 (by unfold R32; omega) (tg_0 rfl) (by omega) (by omega) rfl (case_37 (by omega) hx w lv n m hB hT hl0 hb hK)
      by_cases e38 : z_ = 38
      · exact r_tab 38 e38 (by unfold R32; omega) (tg_0 rfl) (by omega) (by omega) rfl (case_38 (by omega) hx w lv n m hB hT hl0 hb hK)
      by_cases e39 : z_ = 39
      · exact r_tab 39 e39 (by unfold R32; omega) (tg_0 rfl) (by omega) (by omega) rfl (case_39 (by omega) hx w lv n m hB hT hl0 hb hK)
      by_cases e40 : z_ = 40
      · exact r_tab 40 e40 (by unfold R32; omega) (tg_0 rfl) (by omega) (by omega) rfl (case_40 (by omega) hx w lv n m hB hT hl0 hb hK)
      by_cases e41 : z_ = 41
      · exact r_tab 41 e41 (by unfold R32; omega) (tg_0 rfl) (by omega) (by omega) rfl (case_41 (by omega) hx w lv n m hB hT hl0 hb hK)
      by_cases e42 : z_ = 42
      · exact r_tab 42 e42 (by unfold R32; omega) (tg_0 rfl) (by omega) (by omega) rfl (case_42 (by omega) hx w lv n m hB hT hl0 hb hK)
      by_cases e43 : z_ = 43
      · exact r_tab 43 e43 (by unfold R32; omega) (tg_0 rfl) (by omega) (by omega) rfl (case_43 (by omega) hx w lv n m hB hT hl0 hb hK)
      refine r_tabd (tg_0 rfl) (by unfold R32; omega) (by omega) ?_
      exact hK w lv n m hB hT hl0 (by unfold bu at *; omega)
theorem law_all (z : Bool) (xs : List Int32) (hx : xs.length ≤ 3072) : ∃ (k : Nat) (r : sR), mF (tL_law (kx z xs) gXi gMi) 7 k [.ref 1000010] [] = some r ∧ r.1 = some (.int 1) ∧ r.2.2.1 ≤ 601024 ∧ r.2.2.2 ≤ 7293034 := by
  have K : Tp (tL_law (kx z xs) gXi gMi) (fun r => r.1 = some (.int 1) ∧ r.2.2.1 ≤ 601024 ∧ r.2.2.2 ≤ 7293034) 0 (lv_args 0 [.ref 1000010], [], [], 0, 0) := by
    refine r_new (c := 0) rfl (tg_0 rfl) (by decide +kernel) ?_
    refine r_dup rfl (tg_0 rfl) ?_
    refine r_callI (w' := WX) (n' := 212) (m' := 5700) rfl (by decide +kernel) (tg_0 rfl) g_X ?_
    refine r_astore (tg_0 rfl) ?_
    refine r_new (c := 213) (by decide +kernel) (tg_0 rfl) wf_a ?_
    refine r_dup rfl (tg_0 rfl) ?_
    refine r_callI (w' := W0) (n' := 27) (m' := 4763) rfl ck_a (tg_0 rfl) g_M ?_
    refine r_astore (tg_0 rfl) ?_
    refine r_intv k_1 (tg_0 rfl) ?_
    refine r_newa1 (c := 241) (by decide +kernel) (tg_0 rfl) wf_b ?_
    refine r_astore (tg_0 rfl) ?_
    refine r_intv k_0 (tg_0 rfl) ?_
    refine r_istore (tg_0 rfl) ?_
    exact loop hx xs.length 0 W1 _ _ _ (by omega) (by omega) ⟨wok_1, pw_1, ⟨0, by omega, bd_1⟩, o98_1, kv_1⟩ ⟨⟨by rw [tk_1.1, tk_1.2], ⟨fun i hi => absurd hi (by rw [tk_1.1]; omega), pl_1⟩, jc_1⟩, ft_1⟩ ⟨rfl, rfl, rfl, rfl, by rw [show (6 * ((0 : Nat) : Int)) = 0 from rfl]; rfl, wl_1⟩ (show bu W1 0 242 10544 by unfold bu; rw [len_1]; omega)
  obtain ⟨⟨k, r, h1⟩, h2⟩ := K
  have e : mF (tL_law (kx z xs) gXi gMi) 7 k [.ref 1000010] [] = some r := by
    unfold mF
    rw [show Nat.ble (lg_sl [Value.ref 1000010]).length 7 = true from rfl]
    exact h1
  exact ⟨k, r, e, h2 k r h1⟩
end
