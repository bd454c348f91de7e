noncomputable section
def lI (lv : List (Nat × Value)) (w : sW) (i : Int) : Prop := l_get lv 0 = some (.ref 1000010) ∧ l_get lv 1 = some (.ref 0) ∧ l_get lv 2 = some (.ref 213) ∧ l_get lv 3 = some (.ref 241) ∧ l_get lv 4 = some (hI i) ∧ wL w.length lv
def bu (w : sW) (t n m : Nat) : Prop := n ≤ 242 + t + (w.length - 242) ∧ m ≤ 20000 + 6 * t + 34 * (w.length - 242)
def goC (xs : List Int32) (tbl : List (Nat × sA)) (Po : sR → Prop) (t pc : Nat) : Prop := ∀ (w : sW) (lv : List (Nat × Value)) (n m : Nat), BI w → tkL w → lI lv w (6 * (t : Int)) → bu w t n m → (∀ (w' : sW) (lv' : List (Nat × Value)) (n' m' : Nat), BI w' → tkL w' → lI lv' w' (6 * (t : Int)) → bu w' (t + 1) n' m' → Tp tbl Po 1437 (lv', [], w', n', m')) → Tp tbl Po pc (lv, [], w, n, m)
section CASES
variable {xs : List Int32} {z : Bool} {gx gm : List Value → sW → Option sR} {Po : sR → Prop} {t : Nat}
theorem case_0 (hL : 6 * t + 6 ≤ xs.length) (hx : xs.length ≤ 3072) : goC xs (tL_law (kx z xs) gx gm) Po t 232 := by
  intro w lv n m hB hT hl hb K
  obtain ⟨hT, hTF⟩ := hT
  obtain ⟨l0, l1, l2, l3, l4, hlv⟩ := hl
  have hlen := bi_len hB
  obtain ⟨f0, p0, _⟩ := p_12 hB.1
  refine r_aload (tg_0 rfl) l1 ?_
  refine r_arg 1 k_1 l0 l4 (by omega) (tg_0 rfl) (tg_0 rfl) (tg_0 rfl) (tg_0 rfl) (tg_0 rfl) ?_
  refine r_arg 2 k_2 l0 l4 (by omega) (tg_0 rfl) (tg_0 rfl) (tg_0 rfl) (tg_0 rfl) (tg_0 rfl) ?_
  refine r_arg 3 k_3 l0 l4 (by omega) (tg_0 rfl) (tg_0 rfl) (tg_0 rfl) (tg_0 rfl) (tg_0 rfl) ?_
  refine r_arg 4 k_4 l0 l4 (by omega) (tg_0 rfl) (tg_0 rfl) (tg_0 rfl) (tg_0 rfl) (tg_0 rfl) ?_
  refine r_arg 5 k_5 l0 l4 (by omega) (tg_0 rfl) (tg_0 rfl) (tg_0 rfl) (tg_0 rfl) (tg_0 rfl) ?_
  obtain ⟨w1, v1, n1, e1, hB1, hn1, g1⟩ := c_X11_feed (kn := kx z xs) hB _ (sc_R xs (6 * (t : Int) + 1)) _ (sc_R xs (6 * (t : Int) + 2)) _ (sc_R xs (6 * (t : Int) + 3)) _ (sc_R xs (6 * (t : Int) + 4)) _ (sc_R xs (6 * (t : Int) + 5))
  obtain ⟨kf1, g1⟩ := g1
  refine r_callV (na := 6) rfl (cok rfl rfl hlv wl_n) rfl (tg_0 rfl) p0 e1 ?_
  have hlv1 := wL_mono (show w.length ≤ w1.length by omega) hlv
  refine r_pop rfl (tg_0 rfl) ?_
  refine r_aload (tg_0 rfl) l2 ?_
  refine r_arg 1 k_1 l0 l4 (by omega) (tg_0 rfl) (tg_0 rfl) (tg_0 rfl) (tg_0 rfl) (tg_0 rfl) ?_
  refine r_arg 2 k_2 l0 l4 (by omega) (tg_0 rfl) (tg_1 (Nat.le_of_ble_eq_true rfl) rfl) (tg_1 (Nat.le_of_ble_eq_true rfl) rfl) (tg_1 (Nat.le_of_ble_eq_true rfl) rfl) (tg_1 (Nat.le_of_ble_eq_true rfl) rfl) ?_
  refine r_arg 3 k_3 l0 l4 (by omega) (tg_1 (Nat.le_of_ble_eq_true rfl) rfl) (tg_1 (Nat.le_of_ble_eq_true rfl) rfl) (tg_1 (Nat.le_of_ble_eq_true rfl) rfl) (tg_1 (Nat.le_of_ble_eq_true rfl) rfl) (tg_1 (Nat.le_of_ble_eq_true rfl) rfl) ?_
  refine r_arg 4 k_4 l0 l4 (by omega) (tg_1 (Nat.le_of_ble_eq_true rfl) rfl) (tg_1 (Nat.le_of_ble_eq_true rfl) rfl) (tg_1 (Nat.le_of_ble_eq_true rfl) rfl) (tg_1 (Nat.le_of_ble_eq_true rfl) rfl) (tg_1 (Nat.le_of_ble_eq_true rfl) rfl) ?_
  refine r_arg 5 k_5 l0 l4 (by omega) (tg_1 (Nat.le_of_ble_eq_true rfl) rfl) (tg_1 (Nat.le_of_ble_eq_true rfl) rfl) (tg_1 (Nat.le_of_ble_eq_true rfl) rfl) (tg_1 (Nat.le_of_ble_eq_true rfl) rfl) (tg_1 (Nat.le_of_ble_eq_true rfl) rfl) ?_
  obtain ⟨w2, v2, n2, e2, hB2, hn2, g2⟩ := c_X12_feed (kn := kx z xs) hB1 (n := (gF w 1 1).toNat) (T := gX w 2) (by have a := hT.1; have b := tk_nn hB.1; have c := g1.2.1; omega) (fun i hi => by rw [g1.2.2.1 i]; exact (hT.2.1.1 i (by omega)).symm) _ (sc_R xs (6 * (t : Int) + 1)) _ (sc_R xs (6 * (t : Int) + 2)) _ (sc_R xs (6 * (t : Int) + 3)) _ (sc_R xs (6 * (t : Int) + 4)) _ (sc_R xs (6 * (t : Int) + 5))
  obtain ⟨kf2, g2⟩ := g2
  obtain ⟨f213, p213⟩ := cIs_ok (hO_rf (D := []) hB1.1) ci_213
  refine r_callV (na := 6) rfl (cok rfl rfl hlv1 wl_n) rfl (tg_1 (Nat.le_of_ble_eq_true rfl) rfl) p213 e2 ?_
  have hlv2 := wL_mono (show w1.length ≤ w2.length by omega) hlv1
  refine r_pop rfl (tg_1 (Nat.le_of_ble_eq_true rfl) rfl) ?_
  have hlen2 := bi_len hB2
  have hb2 : bu w2 (t + 1) (n + n1 + n2) (m + 34 * n1 + 34 * n2) := by
    unfold bu at *
    omega
  try dsimp only at g1
  try dsimp only at g2
  have hT3 : tkL5 w2 := by
    have hnn := tk_nn hB.1
    have hT1 := hT.1
    obtain ⟨a1, a2, a3, a4, a5, ac, ar⟩ := g1
    obtain ⟨⟨b1, b2, b3, b4, bc, br⟩, b5⟩ := g2
    have hJ := jc_k bc br (jc_k ac ar hT.2.2)
    clear ac ar bc br
    refine ⟨by clear a3 a4 a5 b2 b3 b4; omega, ⟨fun i hi => ?_, b3 (a4 hT.2.1.2)⟩, hJ⟩
    rw [b2 i]
    rcases a5 with ⟨a6, a7⟩ | ⟨a6, a7⟩
    · rcases b4 with ⟨b6, b7⟩ | ⟨b6, b7⟩
      · rw [a7 i (by clear a7 b7 a3 a4 b2 b3; omega), b7 i (by clear a7 b7 a3 a4 b2 b3; omega)]
      · exact absurd b6 (by clear a7 b7 a3 a4 b2 b3; omega)
    · rcases b4 with ⟨b6, b7⟩ | ⟨b6, b7⟩
      · exact absurd b6 (by clear a7 b7 a3 a4 b2 b3; omega)
      · rw [a7 i (by clear a7 b7 a3 a4 b2 b3; omega), b7 i (by clear a7 b7 a3 a4 b2 b3; omega)]
  have hT2 : tkL w2 := ⟨hT3, ft_k hTF kf1 kf2⟩
  refine r_goto (tg_1 (Nat.le_of_ble_eq_true rfl) rfl) ?_
  exact K w2 lv _ _ hB2 hT2 ⟨l0, l1, l2, l3, l4, hlv2⟩ hb2
theorem case_1 (hL : 6 * t + 6 ≤ xs.length) (hx : xs.length ≤ 3072) : goC xs (tL_law (kx z xs) gx gm) Po t 305 := by
  intro w lv n m hB hT hl hb K
  obtain ⟨hT, hTF⟩ := hT
  obtain ⟨l0, l1, l2, l3, l4, hlv⟩ := hl
  have hlen := bi_len hB
  obtain ⟨f0, p0, _⟩ := p_12 hB.1
  refine r_aload (tg_1 (Nat.le_of_ble_eq_true rfl) rfl) l1 ?_
  refine r_arg 1 k_1 l0 l4 (by omega) (tg_1 (Nat.le_of_ble_eq_true rfl) rfl) (tg_1 (Nat.le_of_ble_eq_true rfl) rfl) (tg_1 (Nat.le_of_ble_eq_true rfl) rfl) (tg_1 (Nat.le_of_ble_eq_true rfl) rfl) (tg_1 (Nat.le_of_ble_eq_true rfl) rfl) ?_
  obtain ⟨w1, v1, n1, e1, hB1, hn1, g1⟩ := c_X11_end (kn := kx z xs) hB _ (sc_R xs (6 * (t : Int) + 1))
  obtain ⟨kf1, g1⟩ := g1
  refine r_callV (na := 2) rfl (cok rfl rfl hlv wl_n) rfl (tg_1 (Nat.le_of_ble_eq_true rfl) rfl) p0 e1 ?_
  have hlv1 := wL_mono (show w.length ≤ w1.length by omega) hlv
  refine r_pop rfl (tg_1 (Nat.le_of_ble_eq_true rfl) rfl) ?_
  refine r_aload (tg_1 (Nat.le_of_ble_eq_true rfl) rfl) l2 ?_
  refine r_arg 1 k_1 l0 l4 (by omega) (tg_1 (Nat.le_of_ble_eq_true rfl) rfl) (tg_1 (Nat.le_of_ble_eq_true rfl) rfl) (tg_1 (Nat.le_of_ble_eq_true rfl) rfl) (tg_1 (Nat.le_of_ble_eq_true rfl) rfl) (tg_1 (Nat.le_of_ble_eq_true rfl) rfl) ?_
  obtain ⟨w2, v2, n2, e2, hB2, hn2, g2⟩ := c_X12_end (kn := kx z xs) hB1 _ (sc_R xs (6 * (t : Int) + 1))
  obtain ⟨kf2, g2⟩ := g2
  obtain ⟨f213, p213⟩ := cIs_ok (hO_rf (D := []) hB1.1) ci_213
  refine r_callV (na := 2) rfl (cok rfl rfl hlv1 wl_n) rfl (tg_1 (Nat.le_of_ble_eq_true rfl) rfl) p213 e2 ?_
  have hlv2 := wL_mono (show w1.length ≤ w2.length by omega) hlv1
  refine r_pop rfl (tg_1 (Nat.le_of_ble_eq_true rfl) rfl) ?_
  have hlen2 := bi_len hB2
  have hb2 : bu w2 (t + 1) (n + n1 + n2) (m + 34 * n1 + 34 * n2) := by
    unfold bu at *
    omega
  try dsimp only at g1
  try dsimp only at g2
  have hT3 : tkL5 w2 := by
    have hnn := tk_nn hB.1
    have hT1 := hT.1
    have k1 := g1.2.2
    have k2 := g2.1.2
    refine tk_kk hT (by omega) k1 k2 (by omega)
  have hT2 : tkL w2 := ⟨hT3, ft_k hTF kf1 kf2⟩
  refine r_goto (tg_1 (Nat.le_of_ble_eq_true rfl) rfl) ?_
  exact K w2 lv _ _ hB2 hT2 ⟨l0, l1, l2, l3, l4, hlv2⟩ hb2
theorem case_2 (hL : 6 * t + 6 ≤ xs.length) (hx : xs.length ≤ 3072) : goC xs (tL_law (kx z xs) gx gm) Po t 330 := by
  intro w lv n m hB hT hl hb K
  obtain ⟨hT, hTF⟩ := hT
  obtain ⟨l0, l1, l2, l3, l4, hlv⟩ := hl
  have hlen := bi_len hB
  obtain ⟨f0, p0, _⟩ := p_12 hB.1
  refine r_aload (tg_1 (Nat.le_of_ble_eq_true rfl) rfl) l1 ?_
  obtain ⟨w1, v1, n1, e1, hB1, hn1, g1⟩ := c_X11_bridge (kn := kx z xs) hB hT.2.1.2 (hT.2.2.1.1 14 (Or.inl rfl))
  obtain ⟨kf1, g1⟩ := g1
  refine r_callV (na := 1) rfl (cok rfl rfl hlv wl_n) rfl (tg_1 (Nat.le_of_ble_eq_true rfl) rfl) p0 e1 ?_
  have hlv1 := wL_mono (show w.length ≤ w1.length by omega) hlv
  refine r_pop rfl (tg_1 (Nat.le_of_ble_eq_true rfl) rfl) ?_
  refine r_aload (tg_1 (Nat.le_of_ble_eq_true rfl) rfl) l2 ?_
  obtain ⟨w2, v2, n2, e2, hB2, hn2, g2⟩ := c_X12_bridge (kn := kx z xs) hB1 (B := gX w 2) (n := (gF w 1 1).toNat) (by have a := hT.1; have b := tk_nn hB.1; have c := g1.1.2.1; omega) (by have b := tk_nn hB.1; omega) (fun i hi => by rw [g1.1.2.2.1.2.1 i]; exact (hT.2.1.1 i (by omega)).symm)
  obtain ⟨kf2, g2⟩ := g2
  obtain ⟨f213, p213⟩ := cIs_ok (hO_rf (D := []) hB1.1) ci_213
  refine r_callV (na := 1) rfl (cok rfl rfl hlv1 wl_n) rfl (tg_1 (Nat.le_of_ble_eq_true rfl) rfl) p213 e2 ?_
  have hlv2 := wL_mono (show w1.length ≤ w2.length by omega) hlv1
  refine r_pop rfl (tg_1 (Nat.le_of_ble_eq_true rfl) rfl) ?_
  have hlen2 := bi_len hB2
  have hb2 : bu w2 (t + 1) (n + n1 + n2) (m + 34 * n1 + 34 * n2) := by
    unfold bu at *
    omega
  try dsimp only at g1
  try dsimp only at g2
  have hT3 : tkL5 w2 := by
    have hnn := tk_nn hB.1
    have hT1 := hT.1
    obtain ⟨⟨a1, a2, a3, a4, a5⟩, a6, a7, a8⟩ := g1
    obtain ⟨⟨b1, b2, b3, b4⟩, b5, b6, b7⟩ := g2
    exact ⟨by clear a6 b6; omega, tkT_le hT.2.1 a3 b2 (by clear a6 b6; omega), jc_bridge hT.2.2 a8 a4 a5 b3 b7 b4⟩
  have hT2 : tkL w2 := ⟨hT3, (kf2.1.trans kf1.2).trans kf2.2.symm⟩
  refine r_goto (tg_1 (Nat.le_of_ble_eq_true rfl) rfl) ?_
  exact K w2 lv _ _ hB2 hT2 ⟨l0, l1, l2, l3, l4, hlv2⟩ hb2
theorem case_3 (hL : 6 * t + 6 ≤ xs.length) (hx : xs.length ≤ 3072) : goC xs (tL_law (kx z xs) gx gm) Po t 343 := by
  intro w lv n m hB hT hl hb K
  obtain ⟨hT, hTF⟩ := hT
  obtain ⟨l0, l1, l2, l3, l4, hlv⟩ := hl
  have hlen := bi_len hB
  obtain ⟨f0, p0, _⟩ := p_12 hB.1
  refine r_aload (tg_1 (Nat.le_of_ble_eq_true rfl) rfl) l1 ?_
  obtain ⟨w1, v1, n1, e1, hB1, hn1, g1⟩ := c_X11_fault (kn := kx z xs) hB 
  obtain ⟨kf1, g1⟩ := g1
  refine r_callV (na := 1) rfl (cok rfl rfl hlv wl_n) rfl (tg_1 (Nat.le_of_ble_eq_true rfl) rfl) p0 e1 ?_
  have hlv1 := wL_mono (show w.length ≤ w1.length by omega) hlv
  show Tp (tL_law (kx z xs) gx gm) Po 347 (lv, [hI v1], w1, n + n1, m + 34 * n1)
  refine r_aload (tg_1 (Nat.le_of_ble_eq_true rfl) rfl) l2 ?_
  obtain ⟨w2, v2, n2, e2, hB2, hn2, g2⟩ := c_X12_fault (kn := kx z xs) hB1 
  obtain ⟨kf2, g2⟩ := g2
  obtain ⟨f213, p213⟩ := cIs_ok (hO_rf (D := []) hB1.1) ci_213
  refine r_callV (na := 1) rfl (cok rfl rfl hlv1 (wl_c rfl wl_n)) rfl (tg_1 (Nat.le_of_ble_eq_true rfl) rfl) p213 e2 ?_
  have hlv2 := wL_mono (show w1.length ≤ w2.length by omega) hlv1
  have hlen2 := bi_len hB2
  have hb2 : bu w2 (t + 1) (n + n1 + n2) (m + 34 * n1 + 34 * n2) := by
    unfold bu at *
    omega
  try dsimp only at g1
  try dsimp only at g2
  have hT3 : tkL5 w2 := tk_kp hT g1.1 g2.1
  have hT2 : tkL w2 := ⟨hT3, ft_k hTF kf1 kf2⟩
  have hv : v1 = v2 := g1.2.1.trans (hTF.trans (kf1.2.symm.trans g2.2.symm))
  have r1 : R32 v1 := g1.2.2
  refine r_icmp (kn := kx z xs) (b := b_eq) (t := 0) (tgt := 1437) (np := 354) (tg_1 (Nat.le_of_ble_eq_true rfl) rfl) (c_eq r1 (hv ▸ r1)) (fun _ => ?_) (fun h => absurd hv h)
  exact K w2 lv _ _ hB2 hT2 ⟨l0, l1, l2, l3, l4, hlv2⟩ hb2
theorem case_4 (hL : 6 * t + 6 ≤ xs.length) (hx : xs.length ≤ 3072) : goC xs (tL_law (kx z xs) gx gm) Po t 356 := by
  intro w lv n m hB hT hl hb K
  obtain ⟨hT, hTF⟩ := hT
  obtain ⟨l0, l1, l2, l3, l4, hlv⟩ := hl
  have hlen := bi_len hB
  obtain ⟨f0, p0, _⟩ := p_12 hB.1
  refine r_aload (tg_1 (Nat.le_of_ble_eq_true rfl) rfl) l1 ?_
  refine r_arg 1 k_1 l0 l4 (by omega) (tg_1 (Nat.le_of_ble_eq_true rfl) rfl) (tg_1 (Nat.le_of_ble_eq_true rfl) rfl) (tg_1 (Nat.le_of_ble_eq_true rfl) rfl) (tg_1 (Nat.le_of_ble_eq_true rfl) rfl) (tg_1 (Nat.le_of_ble_eq_true rfl) rfl) ?_
  refine r_arg 2 k_2 l0 l4 (by omega) (tg_1 (Nat.le_of_ble_eq_true rfl) rfl) (tg_2 (Nat.le_of_ble_eq_true rfl) rfl) (tg_2 (Nat.le_of_ble_eq_true rfl) rfl) (tg_2 (Nat.le_of_ble_eq_true rfl) rfl) (tg_2 (Nat.le_of_ble_eq_true rfl) rfl) ?_
  refine r_aload (tg_2 (Nat.le_of_ble_eq_true rfl) rfl) l3 ?_
  obtain ⟨w1, v1, n1, m1, e1, hm1, hB1, hn1, g1⟩ := c_L_signer (kn := kx z xs) hB _ (sc_R xs (6 * (t : Int) + 1)) _ (sc_R xs (6 * (t : Int) + 2))
  obtain ⟨kf1, g1⟩ := g1
  refine r_callS (na := 4) (cok rfl rfl hlv wl_n) rfl (tg_2 (Nat.le_of_ble_eq_true rfl) rfl) e1 ?_
  have hlv1 := wL_mono (show w.length ≤ w1.length by omega) hlv
  refine r_istore (tg_2 (Nat.le_of_ble_eq_true rfl) rfl) ?_
  have l0 : l_get (l_put lv 5 (hI v1)) 0 = _ := lp_get (by decide) l0 (Or.inl rfl)
  have l1 : l_get (l_put lv 5 (hI v1)) 1 = _ := lp_get (by decide) l1 (Or.inl rfl)
  have l2 : l_get (l_put lv 5 (hI v1)) 2 = _ := lp_get (by decide) l2 (Or.inl rfl)
  have l3 : l_get (l_put lv 5 (hI v1)) 3 = _ := lp_get (by decide) l3 (Or.inl rfl)
  have l4 : l_get (l_put lv 5 (hI v1)) 4 = _ := lp_get (by decide) l4 (Or.inl rfl)
  have hlv1 := wq_put (i := 5) (v := hI v1) hlv1 rfl
  refine r_aload (tg_2 (Nat.le_of_ble_eq_true rfl) rfl) l2 ?_
  refine r_arg 1 k_1 l0 l4 (by omega) (tg_2 (Nat.le_of_ble_eq_true rfl) rfl) (tg_2 (Nat.le_of_ble_eq_true rfl) rfl) (tg_2 (Nat.le_of_ble_eq_true rfl) rfl) (tg_2 (Nat.le_of_ble_eq_true rfl) rfl) (tg_2 (Nat.le_of_ble_eq_true rfl) rfl) ?_
  refine r_arg 2 k_2 l0 l4 (by omega) (tg_2 (Nat.le_of_ble_eq_true rfl) rfl) (tg_2 (Nat.le_of_ble_eq_true rfl) rfl) (tg_2 (Nat.le_of_ble_eq_true rfl) rfl) (tg_2 (Nat.le_of_ble_eq_true rfl) rfl) (tg_2 (Nat.le_of_ble_eq_true rfl) rfl) ?_
  obtain ⟨w2, v2, n2, e2, hB2, hn2, g2⟩ := c_X12_signer (kn := kx z xs) hB1 _ (sc_R xs (6 * (t : Int) + 1)) _ (sc_R xs (6 * (t : Int) + 2))
  obtain ⟨kf2, g2⟩ := g2
  obtain ⟨f213, p213⟩ := cIs_ok (hO_rf (D := []) hB1.1) ci_213
  refine r_callV (na := 3) rfl (cok rfl rfl hlv1 wl_n) rfl (tg_2 (Nat.le_of_ble_eq_true rfl) rfl) p213 e2 ?_
  have hlv2 := wL_mono (show w1.length ≤ w2.length by omega) hlv1
  refine r_istore (tg_2 (Nat.le_of_ble_eq_true rfl) rfl) ?_
  have l0 : l_get (l_put (l_put lv 5 (hI v1)) 6 (hI v2)) 0 = _ := lp_get (by decide) l0 (Or.inl rfl)
  have l1 : l_get (l_put (l_put lv 5 (hI v1)) 6 (hI v2)) 1 = _ := lp_get (by decide) l1 (Or.inl rfl)
  have l2 : l_get (l_put (l_put lv 5 (hI v1)) 6 (hI v2)) 2 = _ := lp_get (by decide) l2 (Or.inl rfl)
  have l3 : l_get (l_put (l_put lv 5 (hI v1)) 6 (hI v2)) 3 = _ := lp_get (by decide) l3 (Or.inl rfl)
  have l4 : l_get (l_put (l_put lv 5 (hI v1)) 6 (hI v2)) 4 = _ := lp_get (by decide) l4 (Or.inl rfl)
  have hlv2 := wq_put (i := 6) (v := hI v2) hlv2 rfl
  have hlen2 := bi_len hB2
  have hb2 : bu w2 (t + 1) (n + n1 + n2) (m + m1 + 34 * n2) := by
    unfold bu at *
    omega
  try dsimp only at g1
  try dsimp only at g2
  have hT3 : tkL5 w2 := tk_kp hT g1 g2
  have hT2 : tkL w2 := ⟨hT3, ft_k hTF kf1 kf2⟩
  refine r_goto (tg_2 (Nat.le_of_ble_eq_true rfl) rfl) ?_
  exact K w2 _ _ _ hB2 hT2 ⟨l0, l1, l2, l3, l4, hlv2⟩ hb2
theorem case_5 (hL : 6 * t + 6 ≤ xs.length) (hx : xs.length ≤ 3072) : goC xs (tL_law (kx z xs) gx gm) Po t 396 := by
  intro w lv n m hB hT hl hb K
  obtain ⟨hT, hTF⟩ := hT
  obtain ⟨l0, l1, l2, l3, l4, hlv⟩ := hl
  have hlen := bi_len hB
  obtain ⟨f0, p0, _⟩ := p_12 hB.1
  refine r_aload (tg_2 (Nat.le_of_ble_eq_true rfl) rfl) l1 ?_
  refine r_arg 1 k_1 l0 l4 (by omega) (tg_2 (Nat.le_of_ble_eq_true rfl) rfl) (tg_2 (Nat.le_of_ble_eq_true rfl) rfl) (tg_2 (Nat.le_of_ble_eq_true rfl) rfl) (tg_2 (Nat.le_of_ble_eq_true rfl) rfl) (tg_2 (Nat.le_of_ble_eq_true rfl) rfl) ?_
  refine r_arg 2 k_2 l0 l4 (by omega) (tg_2 (Nat.le_of_ble_eq_true rfl) rfl) (tg_2 (Nat.le_of_ble_eq_true rfl) rfl) (tg_2 (Nat.le_of_ble_eq_true rfl) rfl) (tg_2 (Nat.le_of_ble_eq_true rfl) rfl) (tg_2 (Nat.le_of_ble_eq_true rfl) rfl) ?_
  refine r_arg 3 k_3 l0 l4 (by omega) (tg_2 (Nat.le_of_ble_eq_true rfl) rfl) (tg_2 (Nat.le_of_ble_eq_true rfl) rfl) (tg_2 (Nat.le_of_ble_eq_true rfl) rfl) (tg_2 (Nat.le_of_ble_eq_true rfl) rfl) (tg_2 (Nat.le_of_ble_eq_true rfl) rfl) ?_
  refine r_aload (tg_2 (Nat.le_of_ble_eq_true rfl) rfl) l3 ?_
  obtain ⟨w1, v1, n1, m1, e1, hm1, hB1, hn1, g1⟩ := c_L_plank (kn := kx z xs) hB _ (sc_R xs (6 * (t : Int) + 1)) _ (sc_R xs (6 * (t : Int) + 2)) _ (sc_R xs (6 * (t : Int) + 3))
  obtain ⟨kf1, g1⟩ := g1
  refine r_callS (na := 5) (cok rfl rfl hlv wl_n) rfl (tg_2 (Nat.le_of_ble_eq_true rfl) rfl) e1 ?_
  have hlv1 := wL_mono (show w.length ≤ w1.length by omega) hlv
  refine r_istore (tg_2 (Nat.le_of_ble_eq_true rfl) rfl) ?_
  have l0 : l_get (l_put lv 5 (hI v1)) 0 = _ := lp_get (by decide) l0 (Or.inl rfl)
  have l1 : l_get (l_put lv 5 (hI v1)) 1 = _ := lp_get (by decide) l1 (Or.inl rfl)
  have l2 : l_get (l_put lv 5 (hI v1)) 2 = _ := lp_get (by decide) l2 (Or.inl rfl)
  have l3 : l_get (l_put lv 5 (hI v1)) 3 = _ := lp_get (by decide) l3 (Or.inl rfl)
  have l4 : l_get (l_put lv 5 (hI v1)) 4 = _ := lp_get (by decide) l4 (Or.inl rfl)
  have hlv1 := wq_put (i := 5) (v := hI v1) hlv1 rfl
  refine r_aload (tg_2 (Nat.le_of_ble_eq_true rfl) rfl) l2 ?_
  refine r_arg 1 k_1 l0 l4 (by omega) (tg_2 (Nat.le_of_ble_eq_true rfl) rfl) (tg_2 (Nat.le_of_ble_eq_true rfl) rfl) (tg_2 (Nat.le_of_ble_eq_true rfl) rfl) (tg_2 (Nat.le_of_ble_eq_true rfl) rfl) (tg_2 (Nat.le_of_ble_eq_true rfl) rfl) ?_
  refine r_arg 2 k_2 l0 l4 (by omega) (tg_2 (Nat.le_of_ble_eq_true rfl) rfl) (tg_2 (Nat.le_of_ble_eq_true rfl) rfl) (tg_2 (Nat.le_of_ble_eq_true rfl) rfl) (tg_2 (Nat.le_of_ble_eq_true rfl) rfl) (tg_2 (Nat.le_of_ble_eq_true rfl) rfl) ?_
  refine r_arg 3 k_3 l0 l4 (by omega) (tg_2 (Nat.le_of_ble_eq_true rfl) rfl) (tg_2 (Nat.le_of_ble_eq_true rfl) rfl) (tg_2 (Nat.le_of_ble_eq_true rfl) rfl) (tg_2 (Nat.le_of_ble_eq_true rfl) rfl) (tg_2 (Nat.le_of_ble_eq_true rfl) rfl) ?_
  obtain ⟨w2, v2, n2, e2, hB2, hn2, g2⟩ := c_X12_plank (kn := kx z xs) hB1 _ (sc_R xs (6 * (t : Int) + 1)) _ (sc_R xs (6 * (t : Int) + 2)) _ (sc_R xs (6 * (t : Int) + 3))
  obtain ⟨kf2, g2⟩ := g2
  obtain ⟨f213, p213⟩ := cIs_ok (hO_rf (D := []) hB1.1) ci_213
  refine r_callV (na := 4) rfl (cok rfl rfl hlv1 wl_n) rfl (tg_2 (Nat.le_of_ble_eq_true rfl) rfl) p213 e2 ?_
  have hlv2 := wL_mono (show w1.length ≤ w2.length by omega) hlv1
  refine r_istore (tg_2 (Nat.le_of_ble_eq_true rfl) rfl) ?_
  have l0 : l_get (l_put (l_put lv 5 (hI v1)) 6 (hI v2)) 0 = _ := lp_get (by decide) l0 (Or.inl rfl)
  have l1 : l_get (l_put (l_put lv 5 (hI v1)) 6 (hI v2)) 1 = _ := lp_get (by decide) l1 (Or.inl rfl)
  have l2 : l_get (l_put (l_put lv 5 (hI v1)) 6 (hI v2)) 2 = _ := lp_get (by decide) l2 (Or.inl rfl)
  have l3 : l_get (l_put (l_put lv 5 (hI v1)) 6 (hI v2)) 3 = _ := lp_get (by decide) l3 (Or.inl rfl)
  have l4 : l_get (l_put (l_put lv 5 (hI v1)) 6 (hI v2)) 4 = _ := lp_get (by decide) l4 (Or.inl rfl)
  have hlv2 := wq_put (i := 6) (v := hI v2) hlv2 rfl
  have hlen2 := bi_len hB2
  have hb2 : bu w2 (t + 1) (n + n1 + n2) (m + m1 + 34 * n2) := by
    unfold bu at *
    omega
  try dsimp only at g1
  try dsimp only at g2
  have hT3 : tkL5 w2 := tk_kp hT g1 g2
  have hT2 : tkL w2 := ⟨hT3, ft_k hTF kf1 kf2⟩
  refine r_goto (tg_2 (Nat.le_of_ble_eq_true rfl) rfl) ?_
  exact K w2 _ _ _ hB2 hT2 ⟨l0, l1, l2, l3, l4, hlv2⟩ hb2
theorem case_6 (hL : 6 * t + 6 ≤ xs.length) (hx : xs.length ≤ 3072) : goC xs (tL_law (kx z xs) gx gm) Po t 448 := by
  intro w lv n m hB hT hl hb K
  obtain ⟨hT, hTF⟩ := hT
  obtain ⟨l0, l1, l2, l3, l4, hlv⟩ := hl
  have hlen := bi_len hB
  obtain ⟨f0, p0, _⟩ := p_12 hB.1
  refine r_aload (tg_2 (Nat.le_of_ble_eq_true rfl) rfl) l1 ?_
  refine r_arg 1 k_1 l0 l4 (by omega) (tg_3 (Nat.le_of_ble_eq_true rfl) rfl) (tg_3 (Nat.le_of_ble_eq_true rfl) rfl) (tg_3 (Nat.le_of_ble_eq_true rfl) rfl) (tg_3 (Nat.le_of_ble_eq_true rfl) rfl) (tg_3 (Nat.le_of_ble_eq_true rfl) rfl) ?_
  refine r_arg 2 k_2 l0 l4 (by omega) (tg_3 (Nat.le_of_ble_eq_true rfl) rfl) (tg_3 (Nat.le_of_ble_eq_true rfl) rfl) (tg_3 (Nat.le_of_ble_eq_true rfl) rfl) (tg_3 (Nat.le_of_ble_eq_true rfl) rfl) (tg_3 (Nat.le_of_ble_eq_true rfl) rfl) ?_
  refine r_aload (tg_3 (Nat.le_of_ble_eq_true rfl) rfl) l3 ?_
  obtain ⟨w1, v1, n1, m1, e1, hm1, hB1, hn1, g1⟩ := c_L_load (kn := kx z xs) hB _ (sc_R xs (6 * (t : Int) + 1)) _ (sc_R xs (6 * (t : Int) + 2))
  obtain ⟨kf1, g1⟩ := g1
  refine r_callS (na := 4) (cok rfl rfl hlv wl_n) rfl (tg_3 (Nat.le_of_ble_eq_true rfl) rfl) e1 ?_
  have hlv1 := wL_mono (show w.length ≤ w1.length by omega) hlv
  refine r_istore (tg_3 (Nat.le_of_ble_eq_true rfl) rfl) ?_
  have l0 : l_get (l_put lv 5 (hI v1)) 0 = _ := lp_get (by decide) l0 (Or.inl rfl)
  have l1 : l_get (l_put lv 5 (hI v1)) 1 = _ := lp_get (by decide) l1 (Or.inl rfl)
  have l2 : l_get (l_put lv 5 (hI v1)) 2 = _ := lp_get (by decide) l2 (Or.inl rfl)
  have l3 : l_get (l_put lv 5 (hI v1)) 3 = _ := lp_get (by decide) l3 (Or.inl rfl)
  have l4 : l_get (l_put lv 5 (hI v1)) 4 = _ := lp_get (by decide) l4 (Or.inl rfl)
  have hlv1 := wq_put (i := 5) (v := hI v1) hlv1 rfl
  refine r_aload (tg_3 (Nat.le_of_ble_eq_true rfl) rfl) l2 ?_
  refine r_arg 1 k_1 l0 l4 (by omega) (tg_3 (Nat.le_of_ble_eq_true rfl) rfl) (tg_3 (Nat.le_of_ble_eq_true rfl) rfl) (tg_3 (Nat.le_of_ble_eq_true rfl) rfl) (tg_3 (Nat.le_of_ble_eq_true rfl) rfl) (tg_3 (Nat.le_of_ble_eq_true rfl) rfl) ?_
  refine r_arg 2 k_2 l0 l4 (by omega) (tg_3 (Nat.le_of_ble_eq_true rfl) rfl) (tg_3 (Nat.le_of_ble_eq_true rfl) rfl) (tg_3 (Nat.le_of_ble_eq_true rfl) rfl) (tg_3 (Nat.le_of_ble_eq_true rfl) rfl) (tg_3 (Nat.le_of_ble_eq_true rfl) rfl) ?_
  obtain ⟨w2, v2, n2, e2, hB2, hn2, g2⟩ := c_X12_load (kn := kx z xs) hB1 _ (sc_R xs (6 * (t : Int) + 1)) _ (sc_R xs (6 * (t : Int) + 2))
  obtain ⟨kf2, g2⟩ := g2
  obtain ⟨f213, p213⟩ := cIs_ok (hO_rf (D := []) hB1.1) ci_213
  refine r_callV (na := 3) rfl (cok rfl rfl hlv1 wl_n) rfl (tg_3 (Nat.le_of_ble_eq_true rfl) rfl) p213 e2 ?_
  have hlv2 := wL_mono (show w1.length ≤ w2.length by omega) hlv1
  refine r_istore (tg_3 (Nat.le_of_ble_eq_true rfl) rfl) ?_
  have l0 : l_get (l_put (l_put lv 5 (hI v1)) 6 (hI v2)) 0 = _ := lp_get (by decide) l0 (Or.inl rfl)
  have l1 : l_get (l_put (l_put lv 5 (hI v1)) 6 (hI v2)) 1 = _ := lp_get (by decide) l1 (Or.inl rfl)
  have l2 : l_get (l_put (l_put lv 5 (hI v1)) 6 (hI v2)) 2 = _ := lp_get (by decide) l2 (Or.inl rfl)
  have l3 : l_get (l_put (l_put lv 5 (hI v1)) 6 (hI v2)) 3 = _ := lp_get (by decide) l3 (Or.inl rfl)
  have l4 : l_get (l_put (l_put lv 5 (hI v1)) 6 (hI v2)) 4 = _ := lp_get (by decide) l4 (Or.inl rfl)
  have hlv2 := wq_put (i := 6) (v := hI v2) hlv2 rfl
  have hlen2 := bi_len hB2
  have hb2 : bu w2 (t + 1) (n + n1 + n2) (m + m1 + 34 * n2) := by
    unfold bu at *
    omega
  try dsimp only at g1
  try dsimp only at g2
  have hT3 : tkL5 w2 := tk_kp hT g1 g2
  have hT2 : tkL w2 := ⟨hT3, ft_k hTF kf1 kf2⟩
  refine r_goto (tg_3 (Nat.le_of_ble_eq_true rfl) rfl) ?_
  exact K w2 _ _ _ hB2 hT2 ⟨l0, l1, l2, l3, l4, hlv2⟩ hb2
theorem case_7 (hL : 6 * t + 6 ≤ xs.length) (hx : xs.length ≤ 3072) : goC xs (tL_law (kx z xs) gx gm) Po t 488 := by
  intro w lv n m hB hT hl hb K
  obtain ⟨hT, hTF⟩ := hT
  obtain ⟨l0, l1, l2, l3, l4, hlv⟩ := hl
  have hlen := bi_len hB
  obtain ⟨f0, p0, _⟩ := p_12 hB.1
  refine r_aload (tg_3 (Nat.le_of_ble_eq_true rfl) rfl) l1 ?_
  refine r_arg 1 k_1 l0 l4 (by omega) (tg_3 (Nat.le_of_ble_eq_true rfl) rfl) (tg_3 (Nat.le_of_ble_eq_true rfl) rfl) (tg_3 (Nat.le_of_ble_eq_true rfl) rfl) (tg_3 (Nat.le_of_ble_eq_true rfl) rfl) (tg_3 (Nat.le_of_ble_eq_true rfl) rfl) ?_
  obtain ⟨w1, v1, n1, e1, hB1, hn1, g1⟩ := c_X11_now (kn := kx z xs) hB _ (sc_R xs (6 * (t : Int) + 1))
  obtain ⟨kf1, g1⟩ := g1
  refine r_callV (na := 2) rfl (cok rfl rfl hlv wl_n) rfl (tg_3 (Nat.le_of_ble_eq_true rfl) rfl) p0 e1 ?_
  have hlv1 := wL_mono (show w.length ≤ w1.length by omega) hlv
  refine r_pop rfl (tg_3 (Nat.le_of_ble_eq_true rfl) rfl) ?_
  refine r_aload (tg_3 (Nat.le_of_ble_eq_true rfl) rfl) l2 ?_
  refine r_arg 1 k_1 l0 l4 (by omega) (tg_3 (Nat.le_of_ble_eq_true rfl) rfl) (tg_3 (Nat.le_of_ble_eq_true rfl) rfl) (tg_3 (Nat.le_of_ble_eq_true rfl) rfl) (tg_3 (Nat.le_of_ble_eq_true rfl) rfl) (tg_3 (Nat.le_of_ble_eq_true rfl) rfl) ?_
  obtain ⟨w2, v2, n2, e2, hB2, hn2, g2⟩ := c_X12_now (kn := kx z xs) hB1 _ (sc_R xs (6 * (t : Int) + 1))
  obtain ⟨kf2, g2⟩ := g2
  obtain ⟨f213, p213⟩ := cIs_ok (hO_rf (D := []) hB1.1) ci_213
  refine r_callV (na := 2) rfl (cok rfl rfl hlv1 wl_n) rfl (tg_3 (Nat.le_of_ble_eq_true rfl) rfl) p213 e2 ?_
  have hlv2 := wL_mono (show w1.length ≤ w2.length by omega) hlv1
  refine r_pop rfl (tg_3 (Nat.le_of_ble_eq_true rfl) rfl) ?_
  have hlen2 := bi_len hB2
  have hb2 : bu w2 (t + 1) (n + n1 + n2) (m + 34 * n1 + 34 * n2) := by
    unfold bu at *
    omega
  try dsimp only at g1
  try dsimp only at g2
  have hT3 : tkL5 w2 := tk_kp hT g1 g2
  have hT2 : tkL w2 := ⟨hT3, ft_k hTF kf1 kf2⟩
  refine r_goto (tg_3 (Nat.le_of_ble_eq_true rfl) rfl) ?_
  exact K w2 lv _ _ hB2 hT2 ⟨l0, l1, l2, l3, l4, hlv2⟩ hb2
theorem case_8 (hL : 6 * t + 6 ≤ xs.length) (hx : xs.length ≤ 3072) : goC xs (tL_law (kx z xs) gx gm) Po t 513 := by
  intro w lv n m hB hT hl hb K
  obtain ⟨hT, hTF⟩ := hT
  obtain ⟨l0, l1, l2, l3, l4, hlv⟩ := hl
  have hlen := bi_len hB
  obtain ⟨f0, p0, _⟩ := p_12 hB.1
  refine r_aload (tg_3 (Nat.le_of_ble_eq_true rfl) rfl) l1 ?_
  refine r_arg 1 k_1 l0 l4 (by omega) (tg_3 (Nat.le_of_ble_eq_true rfl) rfl) (tg_3 (Nat.le_of_ble_eq_true rfl) rfl) (tg_3 (Nat.le_of_ble_eq_true rfl) rfl) (tg_3 (Nat.le_of_ble_eq_true rfl) rfl) (tg_3 (Nat.le_of_ble_eq_true rfl) rfl) ?_
  refine r_arg 2 k_2 l0 l4 (by omega) (tg_3 (Nat.le_of_ble_eq_true rfl) rfl) (tg_3 (Nat.le_of_ble_eq_true rfl) rfl) (tg_3 (Nat.le_of_ble_eq_true rfl) rfl) (tg_3 (Nat.le_of_ble_eq_true rfl) rfl) (tg_3 (Nat.le_of_ble_eq_true rfl) rfl) ?_
  refine r_arg 3 k_3 l0 l4 (by omega) (tg_3 (Nat.le_of_ble_eq_true rfl) rfl) (tg_3 (Nat.le_of_ble_eq_true rfl) rfl) (tg_3 (Nat.le_of_ble_eq_true rfl) rfl) (tg_3 (Nat.le_of_ble_eq_true rfl) rfl) (tg_3 (Nat.le_of_ble_eq_true rfl) rfl) ?_
  obtain ⟨w1, v1, n1, e1, hB1, hn1, g1⟩ := c_X11_sign (kn := kx z xs) hB _ (sc_R xs (6 * (t : Int) + 1)) _ (sc_R xs (6 * (t : Int) + 2)) _ (sc_R xs (6 * (t : Int) + 3))
  obtain ⟨kf1, g1⟩ := g1
  refine r_callV (na := 4) rfl (cok rfl rfl hlv wl_n) rfl (tg_4 (Nat.le_of_ble_eq_true rfl) rfl) p0 e1 ?_
  have hlv1 := wL_mono (show w.length ≤ w1.length by omega) hlv
  refine r_pop rfl (tg_4 (Nat.le_of_ble_eq_true rfl) rfl) ?_
  refine r_aload (tg_4 (Nat.le_of_ble_eq_true rfl) rfl) l2 ?_
  refine r_arg 1 k_1 l0 l4 (by omega) (tg_4 (Nat.le_of_ble_eq_true rfl) rfl) (tg_4 (Nat.le_of_ble_eq_true rfl) rfl) (tg_4 (Nat.le_of_ble_eq_true rfl) rfl) (tg_4 (Nat.le_of_ble_eq_true rfl) rfl) (tg_4 (Nat.le_of_ble_eq_true rfl) rfl) ?_
  refine r_arg 2 k_2 l0 l4 (by omega) (tg_4 (Nat.le_of_ble_eq_true rfl) rfl) (tg_4 (Nat.le_of_ble_eq_true rfl) rfl) (tg_4 (Nat.le_of_ble_eq_true rfl) rfl) (tg_4 (Nat.le_of_ble_eq_true rfl) rfl) (tg_4 (Nat.le_of_ble_eq_true rfl) rfl) ?_
  refine r_arg 3 k_3 l0 l4 (by omega) (tg_4 (Nat.le_of_ble_eq_true rfl) rfl) (tg_4 (Nat.le_of_ble_eq_true rfl) rfl) (tg_4 (Nat.le_of_ble_eq_true rfl) rfl) (tg_4 (Nat.le_of_ble_eq_true rfl) rfl) (tg_4 (Nat.le_of_ble_eq_true rfl) rfl) ?_
  obtain ⟨w2, v2, n2, e2, hB2, hn2, g2⟩ := c_X12_sign (kn := kx z xs) hB1 _ (sc_R xs (6 * (t : Int) + 1)) _ (sc_R xs (6 * (t : Int) + 2)) _ (sc_R xs (6 * (t : Int) + 3))
  obtain ⟨kf2, g2⟩ := g2
  obtain ⟨f213, p213⟩ := cIs_ok (hO_rf (D := []) hB1.1) ci_213
  refine r_callV (na := 4) rfl (cok rfl rfl hlv1 wl_n) rfl (tg_4 (Nat.le_of_ble_eq_true rfl) rfl) p213 e2 ?_
  have hlv2 := wL_mono (show w1.length ≤ w2.length by omega) hlv1
  refine r_pop rfl (tg_4 (Nat.le_of_ble_eq_true rfl) rfl) ?_
  have hlen2 := bi_len hB2
  have hb2 : bu w2 (t + 1) (n + n1 + n2) (m + 34 * n1 + 34 * n2) := by
    unfold bu at *
    omega
  try dsimp only at g1
  try dsimp only at g2
  have hT3 : tkL5 w2 := tk_kp hT g1 g2
  have hT2 : tkL w2 := ⟨hT3, ft_k hTF kf1 kf2⟩
  refine r_goto (tg_4 (Nat.le_of_ble_eq_true rfl) rfl) ?_
  exact K w2 lv _ _ hB2 hT2 ⟨l0, l1, l2, l3, l4, hlv2⟩ hb2
theorem case_9 (hL : 6 * t + 6 ≤ xs.length) (hx : xs.length ≤ 3072) : goC xs (tL_law (kx z xs) gx gm) Po t 562 := by
  intro w lv n m hB hT hl hb K
  obtain ⟨hT, hTF⟩ := hT
  obtain ⟨l0, l1, l2, l3, l4, hlv⟩ := hl
  have hlen := bi_len hB
  obtain ⟨f0, p0, _⟩ := p_12 hB.1
  refine r_aload (tg_4 (Nat.le_of_ble_eq_true rfl) rfl) l1 ?_
  refine r_arg 1 k_1 l0 l4 (by omega) (tg_4 (Nat.le_of_ble_eq_true rfl) rfl) (tg_4 (Nat.le_of_ble_eq_true rfl) rfl) (tg_4 (Nat.le_of_ble_eq_true rfl) rfl) (tg_4 (Nat.le_of_ble_eq_true rfl) rfl) (tg_4 (Nat.le_of_ble_eq_true rfl) rfl) ?_
  refine r_arg 2 k_2 l0 l4 (by omega) (tg_4 (Nat.le_of_ble_eq_true rfl) rfl) (tg_4 (Nat.le_of_ble_eq_true rfl) rfl) (tg_4 (Nat.le_of_ble_eq_true rfl) rfl) (tg_4 (Nat.le_of_ble_eq_true rfl) rfl) (tg_4 (Nat.le_of_ble_eq_true rfl) rfl) ?_
  obtain ⟨w1, v1, n1, e1, hB1, hn1, g1⟩ := c_X11_burn (kn := kx z xs) hB _ (sc_R xs (6 * (t : Int) + 1)) _ (sc_R xs (6 * (t : Int) + 2))
  obtain ⟨kf1, g1⟩ := g1
  refine r_callV (na := 3) rfl (cok rfl rfl hlv wl_n) rfl (tg_4 (Nat.le_of_ble_eq_true rfl) rfl) p0 e1 ?_
  have hlv1 := wL_mono (show w.length ≤ w1.length by omega) hlv
  refine r_pop rfl (tg_4 (Nat.le_of_ble_eq_true rfl) rfl) ?_
  refine r_aload (tg_4 (Nat.le_of_ble_eq_true rfl) rfl) l2 ?_
  refine r_arg 1 k_1 l0 l4 (by omega) (tg_4 (Nat.le_of_ble_eq_true rfl) rfl) (tg_4 (Nat.le_of_ble_eq_true rfl) rfl) (tg_4 (Nat.le_of_ble_eq_true rfl) rfl) (tg_4 (Nat.le_of_ble_eq_true rfl) rfl) (tg_4 (Nat.le_of_ble_eq_true rfl) rfl) ?_
  refine r_arg 2 k_2 l0 l4 (by omega) (tg_4 (Nat.le_of_ble_eq_true rfl) rfl) (tg_4 (Nat.le_of_ble_eq_true rfl) rfl) (tg_4 (Nat.le_of_ble_eq_true rfl) rfl) (tg_4 (Nat.le_of_ble_eq_true rfl) rfl) (tg_4 (Nat.le_of_ble_eq_true rfl) rfl) ?_
  obtain ⟨w2, v2, n2, e2, hB2, hn2, g2⟩ := c_X12_burn (kn := kx z xs) hB1 _ (sc_R xs (6 * (t : Int) + 1)) _ (sc_R xs (6 * (t : Int) + 2))
  obtain ⟨kf2, g2⟩ := g2
  obtain ⟨f213, p213⟩ := cIs_ok (hO_rf (D := []) hB1.1) ci_213
  refine r_callV (na := 3) rfl (cok rfl rfl hlv1 wl_n) rfl (tg_4 (Nat.le_of_ble_eq_true rfl) rfl) p213 e2 ?_
  have hlv2 := wL_mono (show w1.length ≤ w2.length by omega) hlv1
  refine r_pop rfl (tg_4 (Nat.le_of_ble_eq_true rfl) rfl) ?_
  have hlen2 := bi_len hB2
  have hb2 : bu w2 (t + 1) (n + n1 + n2) (m + 34 * n1 + 34 * n2) := by
    unfold bu at *
    omega
  try dsimp only at g1
  try dsimp only at g2
  have hT3 : tkL5 w2 := tk_kp hT g1 g2
  have hT2 : tkL w2 := ⟨hT3, ft_k hTF kf1 kf2⟩
  refine r_goto (tg_4 (Nat.le_of_ble_eq_true rfl) rfl) ?_
  exact K w2 lv _ _ hB2 hT2 ⟨l0, l1, l2, l3, l4, hlv2⟩ hb2
theorem case_10 (hL : 6 * t + 6 ≤ xs.length) (hx : xs.length ≤ 3072) : goC xs (tL_law (kx z xs) gx gm) Po t 599 := by
  intro w lv n m hB hT hl hb K
  obtain ⟨hT, hTF⟩ := hT
  obtain ⟨l0, l1, l2, l3, l4, hlv⟩ := hl
  have hlen := bi_len hB
  obtain ⟨f0, p0, _⟩ := p_12 hB.1
  refine r_aload (tg_4 (Nat.le_of_ble_eq_true rfl) rfl) l1 ?_
  refine r_arg 1 k_1 l0 l4 (by omega) (tg_4 (Nat.le_of_ble_eq_true rfl) rfl) (tg_4 (Nat.le_of_ble_eq_true rfl) rfl) (tg_4 (Nat.le_of_ble_eq_true rfl) rfl) (tg_4 (Nat.le_of_ble_eq_true rfl) rfl) (tg_4 (Nat.le_of_ble_eq_true rfl) rfl) ?_
  obtain ⟨w1, v1, n1, e1, hB1, hn1, g1⟩ := c_X11_breaks (kn := kx z xs) hB _ (sc_R xs (6 * (t : Int) + 1))
  obtain ⟨kf1, g1⟩ := g1
  refine r_callV (na := 2) rfl (cok rfl rfl hlv wl_n) rfl (tg_4 (Nat.le_of_ble_eq_true rfl) rfl) p0 e1 ?_
  have hlv1 := wL_mono (show w.length ≤ w1.length by omega) hlv
  refine r_pop rfl (tg_4 (Nat.le_of_ble_eq_true rfl) rfl) ?_
  refine r_aload (tg_4 (Nat.le_of_ble_eq_true rfl) rfl) l2 ?_
  refine r_arg 1 k_1 l0 l4 (by omega) (tg_4 (Nat.le_of_ble_eq_true rfl) rfl) (tg_4 (Nat.le_of_ble_eq_true rfl) rfl) (tg_4 (Nat.le_of_ble_eq_true rfl) rfl) (tg_5 (Nat.le_of_ble_eq_true rfl) rfl) (tg_5 (Nat.le_of_ble_eq_true rfl) rfl) ?_
  obtain ⟨w2, v2, n2, e2, hB2, hn2, g2⟩ := c_X12_breaks (kn := kx z xs) hB1 _ (sc_R xs (6 * (t : Int) + 1))
  obtain ⟨kf2, g2⟩ := g2
  obtain ⟨f213, p213⟩ := cIs_ok (hO_rf (D := []) hB1.1) ci_213
  refine r_callV (na := 2) rfl (cok rfl rfl hlv1 wl_n) rfl (tg_5 (Nat.le_of_ble_eq_true rfl) rfl) p213 e2 ?_
  have hlv2 := wL_mono (show w1.length ≤ w2.length by omega) hlv1
  refine r_pop rfl (tg_5 (Nat.le_of_ble_eq_true rfl) rfl) ?_
  have hlen2 := bi_len hB2
  have hb2 : bu w2 (t + 1) (n + n1 + n2) (m + 34 * n1 + 34 * n2) := by
    unfold bu at *
    omega
  try dsimp only at g1
  try dsimp only at g2
  have hT3 : tkL5 w2 := tk_kp hT g1 g2
  have hT2 : tkL w2 := ⟨hT3, ft_k hTF kf1 kf2⟩
  refine r_goto (tg_5 (Nat.le_of_ble_eq_true rfl) rfl) ?_
  exact K w2 lv _ _ hB2 hT2 ⟨l0, l1, l2, l3, l4, hlv2⟩ hb2
theorem case_11 (hL : 6 * t + 6 ≤ xs.length) (hx : xs.length ≤ 3072) : goC xs (tL_law (kx z xs) gx gm) Po t 624 := by
  intro w lv n m hB hT hl hb K
  obtain ⟨hT, hTF⟩ := hT
  obtain ⟨l0, l1, l2, l3, l4, hlv⟩ := hl
  have hlen := bi_len hB
  obtain ⟨f0, p0, _⟩ := p_12 hB.1
  refine r_aload (tg_5 (Nat.le_of_ble_eq_true rfl) rfl) l1 ?_
  refine r_arg 1 k_1 l0 l4 (by omega) (tg_5 (Nat.le_of_ble_eq_true rfl) rfl) (tg_5 (Nat.le_of_ble_eq_true rfl) rfl) (tg_5 (Nat.le_of_ble_eq_true rfl) rfl) (tg_5 (Nat.le_of_ble_eq_true rfl) rfl) (tg_5 (Nat.le_of_ble_eq_true rfl) rfl) ?_
  obtain ⟨w1, v1, n1, e1, hB1, hn1, g1⟩ := c_X11_holds (kn := kx z xs) hB _ (sc_R xs (6 * (t : Int) + 1))
  obtain ⟨kf1, g1⟩ := g1
  refine r_callV (na := 2) rfl (cok rfl rfl hlv wl_n) rfl (tg_5 (Nat.le_of_ble_eq_true rfl) rfl) p0 e1 ?_
  have hlv1 := wL_mono (show w.length ≤ w1.length by omega) hlv
  refine r_pop rfl (tg_5 (Nat.le_of_ble_eq_true rfl) rfl) ?_
  refine r_aload (tg_5 (Nat.le_of_ble_eq_true rfl) rfl) l2 ?_
  refine r_arg 1 k_1 l0 l4 (by omega) (tg_5 (Nat.le_of_ble_eq_true rfl) rfl) (tg_5 (Nat.le_of_ble_eq_true rfl) rfl) (tg_5 (Nat.le_of_ble_eq_true rfl) rfl) (tg_5 (Nat.le_of_ble_eq_true rfl) rfl) (tg_5 (Nat.le_of_ble_eq_true rfl) rfl) ?_
  obtain ⟨w2, v2, n2, e2, hB2, hn2, g2⟩ := c_X12_holds (kn := kx z xs) hB1 _ (sc_R xs (6 * (t : Int) + 1))
  obtain ⟨kf2, g2⟩ := g2
  obtain ⟨f213, p213⟩ := cIs_ok (hO_rf (D := []) hB1.1) ci_213
  refine r_callV (na := 2) rfl (cok rfl rfl hlv1 wl_n) rfl (tg_5 (Nat.le_of_ble_eq_true rfl) rfl) p213 e2 ?_
  have hlv2 := wL_mono (show w1.length ≤ w2.length by omega) hlv1
  refine r_pop rfl (tg_5 (Nat.le_of_ble_eq_true rfl) rfl) ?_
  have hlen2 := bi_len hB2
  have hb2 : bu w2 (t + 1) (n + n1 + n2) (m + 34 * n1 + 34 * n2) := by
    unfold bu at *
    omega
  try dsimp only at g1
  try dsimp only at g2
  have hT3 : tkL5 w2 := tk_kp hT g1 g2
  have hT2 : tkL w2 := ⟨hT3, ft_k hTF kf1 kf2⟩
  refine r_goto (tg_5 (Nat.le_of_ble_eq_true rfl) rfl) ?_
  exact K w2 lv _ _ hB2 hT2 ⟨l0, l1, l2, l3, l4, hlv2⟩ hb2
theorem case_12 (hL : 6 * t + 6 ≤ xs.length) (hx : xs.length ≤ 3072) : goC xs (tL_law (kx z xs) gx gm) Po t 649 := by
  intro w lv n m hB hT hl hb K
  obtain ⟨hT, hTF⟩ := hT
  obtain ⟨l0, l1, l2, l3, l4, hlv⟩ := hl
  have hlen := bi_len hB
  obtain ⟨f0, p0, _⟩ := p_12 hB.1
  refine r_aload (tg_5 (Nat.le_of_ble_eq_true rfl) rfl) l1 ?_
  refine r_arg 1 k_1 l0 l4 (by omega) (tg_5 (Nat.le_of_ble_eq_true rfl) rfl) (tg_5 (Nat.le_of_ble_eq_true rfl) rfl) (tg_5 (Nat.le_of_ble_eq_true rfl) rfl) (tg_5 (Nat.le_of_ble_eq_true rfl) rfl) (tg_5 (Nat.le_of_ble_eq_true rfl) rfl) ?_
  obtain ⟨w1, v1, n1, e1, hB1, hn1, g1⟩ := c_X11_die (kn := kx z xs) hB _ (sc_R xs (6 * (t : Int) + 1))
  obtain ⟨kf1, g1⟩ := g1
  refine r_callV (na := 2) rfl (cok rfl rfl hlv wl_n) rfl (tg_5 (Nat.le_of_ble_eq_true rfl) rfl) p0 e1 ?_
  have hlv1 := wL_mono (show w.length ≤ w1.length by omega) hlv
  refine r_pop rfl (tg_5 (Nat.le_of_ble_eq_true rfl) rfl) ?_
  refine r_aload (tg_5 (Nat.le_of_ble_eq_true rfl) rfl) l2 ?_
  refine r_arg 1 k_1 l0 l4 (by omega) (tg_5 (Nat.le_of_ble_eq_true rfl) rfl) (tg_5 (Nat.le_of_ble_eq_true rfl) rfl) (tg_5 (Nat.le_of_ble_eq_true rfl) rfl) (tg_5 (Nat.le_of_ble_eq_true rfl) rfl) (tg_5 (Nat.le_of_ble_eq_true rfl) rfl) ?_
  obtain ⟨w2, v2, n2, e2, hB2, hn2, g2⟩ := c_X12_die (kn := kx z xs) hB1 _ (sc_R xs (6 * (t : Int) + 1))
  obtain ⟨kf2, g2⟩ := g2
  obtain ⟨f213, p213⟩ := cIs_ok (hO_rf (D := []) hB1.1) ci_213
  refine r_callV (na := 2) rfl (cok rfl rfl hlv1 wl_n) rfl (tg_5 (Nat.le_of_ble_eq_true rfl) rfl) p213 e2 ?_
  have hlv2 := wL_mono (show w1.length ≤ w2.length by omega) hlv1
  refine r_pop rfl (tg_5 (Nat.le_of_ble_eq_true rfl) rfl) ?_
  have hlen2 := bi_len hB2
  have hb2 : bu w2 (t + 1) (n + n1 + n2) (m + 34 * n1 + 34 * n2) := by
    unfold bu at *
    omega
  try dsimp only at g1
  try dsimp only at g2
  have hT3 : tkL5 w2 := tk_kp hT g1 g2
  have hT2 : tkL w2 := ⟨hT3, ft_k hTF kf1 kf2⟩
  refine r_goto (tg_5 (Nat.le_of_ble_eq_true rfl) rfl) ?_
  exact K w2 lv _ _ hB2 hT2 ⟨l0, l1, l2, l3, l4, hlv2⟩ hb2
theorem case_13 (hL : 6 * t + 6 ≤ xs.length) (hx : xs.length ≤ 3072) : goC xs (tL_law (kx z xs) gx gm) Po t 674 := by
  intro w lv n m hB hT hl hb K
  obtain ⟨hT, hTF⟩ := hT
  obtain ⟨l0, l1, l2, l3, l4, hlv⟩ := hl
  have hlen := bi_len hB
  obtain ⟨f0, p0, _⟩ := p_12 hB.1
  refine r_aload (tg_5 (Nat.le_of_ble_eq_true rfl) rfl) l1 ?_
  refine r_arg 1 k_1 l0 l4 (by omega) (tg_5 (Nat.le_of_ble_eq_true rfl) rfl) (tg_5 (Nat.le_of_ble_eq_true rfl) rfl) (tg_5 (Nat.le_of_ble_eq_true rfl) rfl) (tg_5 (Nat.le_of_ble_eq_true rfl) rfl) (tg_5 (Nat.le_of_ble_eq_true rfl) rfl) ?_
  obtain ⟨w1, v1, n1, e1, hB1, hn1, g1⟩ := c_X11_cross (kn := kx z xs) hB _ (sc_R xs (6 * (t : Int) + 1))
  obtain ⟨kf1, g1⟩ := g1
  refine r_callV (na := 2) rfl (cok rfl rfl hlv wl_n) rfl (tg_5 (Nat.le_of_ble_eq_true rfl) rfl) p0 e1 ?_
  have hlv1 := wL_mono (show w.length ≤ w1.length by omega) hlv
  refine r_pop rfl (tg_5 (Nat.le_of_ble_eq_true rfl) rfl) ?_
  refine r_aload (tg_5 (Nat.le_of_ble_eq_true rfl) rfl) l2 ?_
  refine r_arg 1 k_1 l0 l4 (by omega) (tg_5 (Nat.le_of_ble_eq_true rfl) rfl) (tg_5 (Nat.le_of_ble_eq_true rfl) rfl) (tg_5 (Nat.le_of_ble_eq_true rfl) rfl) (tg_5 (Nat.le_of_ble_eq_true rfl) rfl) (tg_5 (Nat.le_of_ble_eq_true rfl) rfl) ?_
  obtain ⟨w2, v2, n2, e2, hB2, hn2, g2⟩ := c_X12_cross (kn := kx z xs) hB1 _ (sc_R xs (6 * (t : Int) + 1))
  obtain ⟨kf2, g2⟩ := g2
  obtain ⟨f213, p213⟩ := cIs_ok (hO_rf (D := []) hB1.1) ci_213
  refine r_callV (na := 2) rfl (cok rfl rfl hlv1 wl_n) rfl (tg_5 (Nat.le_of_ble_eq_true rfl) rfl) p213 e2 ?_
  have hlv2 := wL_mono (show w1.length ≤ w2.length by omega) hlv1
  refine r_pop rfl (tg_5 (Nat.le_of_ble_eq_true rfl) rfl) ?_
  have hlen2 := bi_len hB2
  have hb2 : bu w2 (t + 1) (n + n1 + n2) (m + 34 * n1 + 34 * n2) := by
    unfold bu at *
    omega
  try dsimp only at g1
  try dsimp only at g2
  have hT3 : tkL5 w2 := tk_kp hT g1 g2
  have hT2 : tkL w2 := ⟨hT3, ft_k hTF kf1 kf2⟩
  refine r_goto (tg_5 (Nat.le_of_ble_eq_true rfl) rfl) ?_
  exact K w2 lv _ _ hB2 hT2 ⟨l0, l1, l2, l3, l4, hlv2⟩ hb2
theorem case_14 (hL : 6 * t + 6 ≤ xs.length) (hx : xs.length ≤ 3072) : goC xs (tL_law (kx z xs) gx gm) Po t 699 := by
  intro w lv n m hB hT hl hb K
  obtain ⟨hT, hTF⟩ := hT
  obtain ⟨l0, l1, l2, l3, l4, hlv⟩ := hl
  have hlen := bi_len hB
  obtain ⟨f0, p0, _⟩ := p_12 hB.1
  refine r_aload (tg_5 (Nat.le_of_ble_eq_true rfl) rfl) l1 ?_
  refine r_arg 1 k_1 l0 l4 (by omega) (tg_5 (Nat.le_of_ble_eq_true rfl) rfl) (tg_5 (Nat.le_of_ble_eq_true rfl) rfl) (tg_5 (Nat.le_of_ble_eq_true rfl) rfl) (tg_6 (Nat.le_of_ble_eq_true rfl) rfl) (tg_6 (Nat.le_of_ble_eq_true rfl) rfl) ?_
  obtain ⟨w1, v1, n1, e1, hB1, hn1, g1⟩ := c_X11_days (kn := kx z xs) hB _ (sc_R xs (6 * (t : Int) + 1))
  obtain ⟨kf1, g1⟩ := g1
  refine r_callV (na := 2) rfl (cok rfl rfl hlv wl_n) rfl (tg_6 (Nat.le_of_ble_eq_true rfl) rfl) p0 e1 ?_
  have hlv1 := wL_mono (show w.length ≤ w1.length by omega) hlv
  refine r_pop rfl (tg_6 (Nat.le_of_ble_eq_true rfl) rfl) ?_
  refine r_aload (tg_6 (Nat.le_of_ble_eq_true rfl) rfl) l2 ?_
  refine r_arg 1 k_1 l0 l4 (by omega) (tg_6 (Nat.le_of_ble_eq_true rfl) rfl) (tg_6 (Nat.le_of_ble_eq_true rfl) rfl) (tg_6 (Nat.le_of_ble_eq_true rfl) rfl) (tg_6 (Nat.le_of_ble_eq_true rfl) rfl) (tg_6 (Nat.le_of_ble_eq_true rfl) rfl) ?_
  obtain ⟨w2, v2, n2, e2, hB2, hn2, g2⟩ := c_X12_days (kn := kx z xs) hB1 _ (sc_R xs (6 * (t : Int) + 1))
  obtain ⟨kf2, g2⟩ := g2
  obtain ⟨f213, p213⟩ := cIs_ok (hO_rf (D := []) hB1.1) ci_213
  refine r_callV (na := 2) rfl (cok rfl rfl hlv1 wl_n) rfl (tg_6 (Nat.le_of_ble_eq_true rfl) rfl) p213 e2 ?_
  have hlv2 := wL_mono (show w1.length ≤ w2.length by omega) hlv1
  refine r_pop rfl (tg_6 (Nat.le_of_ble_eq_true rfl) rfl) ?_
  have hlen2 := bi_len hB2
  have hb2 : bu w2 (t + 1) (n + n1 + n2) (m + 34 * n1 + 34 * n2) := by
    unfold bu at *
    omega
  try dsimp only at g1
  try dsimp only at g2
  have hT3 : tkL5 w2 := tk_kp hT g1 g2
  have hT2 : tkL w2 := ⟨hT3, ft_k hTF kf1 kf2⟩
  refine r_goto (tg_6 (Nat.le_of_ble_eq_true rfl) rfl) ?_
  exact K w2 lv _ _ hB2 hT2 ⟨l0, l1, l2, l3, l4, hlv2⟩ hb2
theorem case_15 (hL : 6 * t + 6 ≤ xs.length) (hx : xs.length ≤ 3072) : goC xs (tL_law (kx z xs) gx gm) Po t 724 := by
  intro w lv n m hB hT hl hb K
  obtain ⟨hT, hTF⟩ := hT
  obtain ⟨l0, l1, l2, l3, l4, hlv⟩ := hl
  have hlen := bi_len hB
  obtain ⟨f0, p0, _⟩ := p_12 hB.1
  refine r_aload (tg_6 (Nat.le_of_ble_eq_true rfl) rfl) l1 ?_
  obtain ⟨w1, v1, n1, e1, hB1, hn1, g1⟩ := c_X11_undo (kn := kx z xs) hB 
  obtain ⟨kf1, g1⟩ := g1
  refine r_callV (na := 1) rfl (cok rfl rfl hlv wl_n) rfl (tg_6 (Nat.le_of_ble_eq_true rfl) rfl) p0 e1 ?_
  have hlv1 := wL_mono (show w.length ≤ w1.length by omega) hlv
  refine r_pop rfl (tg_6 (Nat.le_of_ble_eq_true rfl) rfl) ?_
  refine r_aload (tg_6 (Nat.le_of_ble_eq_true rfl) rfl) l2 ?_
  obtain ⟨w2, v2, n2, e2, hB2, hn2, g2⟩ := c_X12_undo (kn := kx z xs) hB1 
  obtain ⟨kf2, g2⟩ := g2
  obtain ⟨f213, p213⟩ := cIs_ok (hO_rf (D := []) hB1.1) ci_213
  refine r_callV (na := 1) rfl (cok rfl rfl hlv1 wl_n) rfl (tg_6 (Nat.le_of_ble_eq_true rfl) rfl) p213 e2 ?_
  have hlv2 := wL_mono (show w1.length ≤ w2.length by omega) hlv1
  refine r_pop rfl (tg_6 (Nat.le_of_ble_eq_true rfl) rfl) ?_
  have hlen2 := bi_len hB2
  have hb2 : bu w2 (t + 1) (n + n1 + n2) (m + 34 * n1 + 34 * n2) := by
    unfold bu at *
    omega
  try dsimp only at g1
  try dsimp only at g2
  have hT3 : tkL5 w2 := tk_kp hT g1 g2
  have hT2 : tkL w2 := ⟨hT3, ft_k hTF kf1 kf2⟩
  refine r_goto (tg_6 (Nat.le_of_ble_eq_true rfl) rfl) ?_
  exact K w2 lv _ _ hB2 hT2 ⟨l0, l1, l2, l3, l4, hlv2⟩ hb2
theorem case_16 (hL : 6 * t + 6 ≤ xs.length) (hx : xs.length ≤ 3072) : goC xs (tL_law (kx z xs) gx gm) Po t 737 := by
  intro w lv n m hB hT hl hb K
  obtain ⟨hT, hTF⟩ := hT
  obtain ⟨l0, l1, l2, l3, l4, hlv⟩ := hl
  have hlen := bi_len hB
  obtain ⟨f0, p0, _⟩ := p_12 hB.1
  refine r_aload (tg_6 (Nat.le_of_ble_eq_true rfl) rfl) l1 ?_
  refine r_arg 1 k_1 l0 l4 (by omega) (tg_6 (Nat.le_of_ble_eq_true rfl) rfl) (tg_6 (Nat.le_of_ble_eq_true rfl) rfl) (tg_6 (Nat.le_of_ble_eq_true rfl) rfl) (tg_6 (Nat.le_of_ble_eq_true rfl) rfl) (tg_6 (Nat.le_of_ble_eq_true rfl) rfl) ?_
  obtain ⟨w1, v1, n1, e1, hB1, hn1, g1⟩ := c_X11_spare (kn := kx z xs) hB _ (sc_R xs (6 * (t : Int) + 1))
  obtain ⟨kf1, g1⟩ := g1
  refine r_callV (na := 2) rfl (cok rfl rfl hlv wl_n) rfl (tg_6 (Nat.le_of_ble_eq_true rfl) rfl) p0 e1 ?_
  have hlv1 := wL_mono (show w.length ≤ w1.length by omega) hlv
  refine r_pop rfl (tg_6 (Nat.le_of_ble_eq_true rfl) rfl) ?_
  refine r_aload (tg_6 (Nat.le_of_ble_eq_true rfl) rfl) l2 ?_
  refine r_arg 1 k_1 l0 l4 (by omega) (tg_6 (Nat.le_of_ble_eq_true rfl) rfl) (tg_6 (Nat.le_of_ble_eq_true rfl) rfl) (tg_6 (Nat.le_of_ble_eq_true rfl) rfl) (tg_6 (Nat.le_of_ble_eq_true rfl) rfl) (tg_6 (Nat.le_of_ble_eq_true rfl) rfl) ?_
  obtain ⟨w2, v2, n2, e2, hB2, hn2, g2⟩ := c_X12_spare (kn := kx z xs) hB1 _ (sc_R xs (6 * (t : Int) + 1))
  obtain ⟨kf2, g2⟩ := g2
  obtain ⟨f213, p213⟩ := cIs_ok (hO_rf (D := []) hB1.1) ci_213
  refine r_callV (na := 2) rfl (cok rfl rfl hlv1 wl_n) rfl (tg_6 (Nat.le_of_ble_eq_true rfl) rfl) p213 e2 ?_
  have hlv2 := wL_mono (show w1.length ≤ w2.length by omega) hlv1
  refine r_pop rfl (tg_6 (Nat.le_of_ble_eq_true rfl) rfl) ?_
  have hlen2 := bi_len hB2
  have hb2 : bu w2 (t + 1) (n + n1 + n2) (m + 34 * n1 + 34 * n2) := by
    unfold bu at *
    omega
  try dsimp only at g1
  try dsimp only at g2
  have hT3 : tkL5 w2 := tk_kp hT g1 g2
  have hT2 : tkL w2 := ⟨hT3, ft_k hTF kf1 kf2⟩
  refine r_goto (tg_6 (Nat.le_of_ble_eq_true rfl) rfl) ?_
  exact K w2 lv _ _ hB2 hT2 ⟨l0, l1, l2, l3, l4, hlv2⟩ hb2
theorem case_17 (hL : 6 * t + 6 ≤ xs.length) (hx : xs.length ≤ 3072) : goC xs (tL_law (kx z xs) gx gm) Po t 762 := by
  intro w lv n m hB hT hl hb K
  obtain ⟨hT, hTF⟩ := hT
  obtain ⟨l0, l1, l2, l3, l4, hlv⟩ := hl
  have hlen := bi_len hB
  obtain ⟨f0, p0, _⟩ := p_12 hB.1
  refine r_aload (tg_6 (Nat.le_of_ble_eq_true rfl) rfl) l1 ?_
  refine r_arg 1 k_1 l0 l4 (by omega) (tg_6 (Nat.le_of_ble_eq_true rfl) rfl) (tg_6 (Nat.le_of_ble_eq_true rfl) rfl) (tg_6 (Nat.le_of_ble_eq_true rfl) rfl) (tg_6 (Nat.le_of_ble_eq_true rfl) rfl) (tg_6 (Nat.le_of_ble_eq_true rfl) rfl) ?_
  refine r_arg 2 k_2 l0 l4 (by omega) (tg_6 (Nat.le_of_ble_eq_true rfl) rfl) (tg_6 (Nat.le_of_ble_eq_true rfl) rfl) (tg_6 (Nat.le_of_ble_eq_true rfl) rfl) (tg_6 (Nat.le_of_ble_eq_true rfl) rfl) (tg_6 (Nat.le_of_ble_eq_true rfl) rfl) ?_
  obtain ⟨w1, v1, n1, e1, hB1, hn1, g1⟩ := c_X11_path (kn := kx z xs) hB _ (sc_R xs (6 * (t : Int) + 1)) _ (sc_R xs (6 * (t : Int) + 2))
  obtain ⟨kf1, g1⟩ := g1
  refine r_callV (na := 3) rfl (cok rfl rfl hlv wl_n) rfl (tg_6 (Nat.le_of_ble_eq_true rfl) rfl) p0 e1 ?_
  have hlv1 := wL_mono (show w.length ≤ w1.length by omega) hlv
  refine r_pop rfl (tg_6 (Nat.le_of_ble_eq_true rfl) rfl) ?_
  refine r_aload (tg_6 (Nat.le_of_ble_eq_true rfl) rfl) l2 ?_
  refine r_arg 1 k_1 l0 l4 (by omega) (tg_6 (Nat.le_of_ble_eq_true rfl) rfl) (tg_6 (Nat.le_of_ble_eq_true rfl) rfl) (tg_6 (Nat.le_of_ble_eq_true rfl) rfl) (tg_6 (Nat.le_of_ble_eq_true rfl) rfl) (tg_6 (Nat.le_of_ble_eq_true rfl) rfl) ?_
  refine r_arg 2 k_2 l0 l4 (by omega) (tg_6 (Nat.le_of_ble_eq_true rfl) rfl) (tg_6 (Nat.le_of_ble_eq_true rfl) rfl) (tg_6 (Nat.le_of_ble_eq_true rfl) rfl) (tg_6 (Nat.le_of_ble_eq_true rfl) rfl) (tg_7 (Nat.le_of_ble_eq_true rfl) rfl) ?_
  obtain ⟨w2, v2, n2, e2, hB2, hn2, g2⟩ := c_X12_path (kn := kx z xs) hB1 _ (sc_R xs (6 * (t : Int) + 1)) _ (sc_R xs (6 * (t : Int) + 2))
  obtain ⟨kf2, g2⟩ := g2
  obtain ⟨f213, p213⟩ := cIs_ok (hO_rf (D := []) hB1.1) ci_213
  refine r_callV (na := 3) rfl (cok rfl rfl hlv1 wl_n) rfl (tg_7 (Nat.le_of_ble_eq_true rfl) rfl) p213 e2 ?_
  have hlv2 := wL_mono (show w1.length ≤ w2.length by omega) hlv1
  refine r_pop rfl (tg_7 (Nat.le_of_ble_eq_true rfl) rfl) ?_
  have hlen2 := bi_len hB2
  have hb2 : bu w2 (t + 1) (n + n1 + n2) (m + 34 * n1 + 34 * n2) := by
    unfold bu at *
    omega
  try dsimp only at g1
  try dsimp only at g2
  have hT3 : tkL5 w2 := tk_kp hT g1 g2
  have hT2 : tkL w2 := ⟨hT3, ft_k hTF kf1 kf2⟩
  refine r_goto (tg_7 (Nat.le_of_ble_eq_true rfl) rfl) ?_
  exact K w2 lv _ _ hB2 hT2 ⟨l0, l1, l2, l3, l4, hlv2⟩ hb2
theorem case_18 (hL : 6 * t + 6 ≤ xs.length) (hx : xs.length ≤ 3072) : goC xs (tL_law (kx z xs) gx gm) Po t 799 := by
  intro w lv n m hB hT hl hb K
  obtain ⟨hT, hTF⟩ := hT
  obtain ⟨l0, l1, l2, l3, l4, hlv⟩ := hl
  have hlen := bi_len hB
  obtain ⟨f0, p0, _⟩ := p_12 hB.1
  refine r_aload (tg_7 (Nat.le_of_ble_eq_true rfl) rfl) l1 ?_
  refine r_arg 1 k_1 l0 l4 (by omega) (tg_7 (Nat.le_of_ble_eq_true rfl) rfl) (tg_7 (Nat.le_of_ble_eq_true rfl) rfl) (tg_7 (Nat.le_of_ble_eq_true rfl) rfl) (tg_7 (Nat.le_of_ble_eq_true rfl) rfl) (tg_7 (Nat.le_of_ble_eq_true rfl) rfl) ?_
  obtain ⟨w1, v1, n1, e1, hB1, hn1, g1⟩ := c_X11_limit (kn := kx z xs) hB _ (sc_R xs (6 * (t : Int) + 1))
  obtain ⟨kf1, g1⟩ := g1
  refine r_callV (na := 2) rfl (cok rfl rfl hlv wl_n) rfl (tg_7 (Nat.le_of_ble_eq_true rfl) rfl) p0 e1 ?_
  have hlv1 := wL_mono (show w.length ≤ w1.length by omega) hlv
  refine r_pop rfl (tg_7 (Nat.le_of_ble_eq_true rfl) rfl) ?_
  refine r_aload (tg_7 (Nat.le_of_ble_eq_true rfl) rfl) l2 ?_
  refine r_arg 1 k_1 l0 l4 (by omega) (tg_7 (Nat.le_of_ble_eq_true rfl) rfl) (tg_7 (Nat.le_of_ble_eq_true rfl) rfl) (tg_7 (Nat.le_of_ble_eq_true rfl) rfl) (tg_7 (Nat.le_of_ble_eq_true rfl) rfl) (tg_7 (Nat.le_of_ble_eq_true rfl) rfl) ?_
  obtain ⟨w2, v2, n2, e2, hB2, hn2, g2⟩ := c_X12_limit (kn := kx z xs) hB1 _ (sc_R xs (6 * (t : Int) + 1))
  obtain ⟨kf2, g2⟩ := g2
  obtain ⟨f213, p213⟩ := cIs_ok (hO_rf (D := []) hB1.1) ci_213
  refine r_callV (na := 2) rfl (cok rfl rfl hlv1 wl_n) rfl (tg_7 (Nat.le_of_ble_eq_true rfl) rfl) p213 e2 ?_
  have hlv2 := wL_mono (show w1.length ≤ w2.length by omega) hlv1
  refine r_pop rfl (tg_7 (Nat.le_of_ble_eq_true rfl) rfl) ?_
  have hlen2 := bi_len hB2
  have hb2 : bu w2 (t + 1) (n + n1 + n2) (m + 34 * n1 + 34 * n2) := by
    unfold bu at *
    omega
  try dsimp only at g1
  try dsimp only at g2
  have hT3 : tkL5 w2 := tk_kp hT g1 g2
  have hT2 : tkL w2 := ⟨hT3, ft_k hTF kf1 kf2⟩
  refine r_goto (tg_7 (Nat.le_of_ble_eq_true rfl) rfl) ?_
  exact K w2 lv _ _ hB2 hT2 ⟨l0, l1, l2, l3, l4, hlv2⟩ hb2
theorem case_19 (hL : 6 * t + 6 ≤ xs.length) (hx : xs.length ≤ 3072) : goC xs (tL_law (kx z xs) gx gm) Po t 824 := by
  intro w lv n m hB hT hl hb K
  obtain ⟨hT, hTF⟩ := hT
  obtain ⟨l0, l1, l2, l3, l4, hlv⟩ := hl
  have hlen := bi_len hB
  obtain ⟨f0, p0, _⟩ := p_12 hB.1
  refine r_aload (tg_7 (Nat.le_of_ble_eq_true rfl) rfl) l1 ?_
  refine r_arg 1 k_1 l0 l4 (by omega) (tg_7 (Nat.le_of_ble_eq_true rfl) rfl) (tg_7 (Nat.le_of_ble_eq_true rfl) rfl) (tg_7 (Nat.le_of_ble_eq_true rfl) rfl) (tg_7 (Nat.le_of_ble_eq_true rfl) rfl) (tg_7 (Nat.le_of_ble_eq_true rfl) rfl) ?_
  obtain ⟨w1, v1, n1, e1, hB1, hn1, g1⟩ := c_X11_asks (kn := kx z xs) hB _ (sc_R xs (6 * (t : Int) + 1))
  obtain ⟨kf1, g1⟩ := g1
  refine r_callV (na := 2) rfl (cok rfl rfl hlv wl_n) rfl (tg_7 (Nat.le_of_ble_eq_true rfl) rfl) p0 e1 ?_
  have hlv1 := wL_mono (show w.length ≤ w1.length by omega) hlv
  refine r_pop rfl (tg_7 (Nat.le_of_ble_eq_true rfl) rfl) ?_
  refine r_aload (tg_7 (Nat.le_of_ble_eq_true rfl) rfl) l2 ?_
  refine r_arg 1 k_1 l0 l4 (by omega) (tg_7 (Nat.le_of_ble_eq_true rfl) rfl) (tg_7 (Nat.le_of_ble_eq_true rfl) rfl) (tg_7 (Nat.le_of_ble_eq_true rfl) rfl) (tg_7 (Nat.le_of_ble_eq_true rfl) rfl) (tg_7 (Nat.le_of_ble_eq_true rfl) rfl) ?_
  obtain ⟨w2, v2, n2, e2, hB2, hn2, g2⟩ := c_X12_asks (kn := kx z xs) hB1 _ (sc_R xs (6 * (t : Int) + 1))
  obtain ⟨kf2, g2⟩ := g2
  obtain ⟨f213, p213⟩ := cIs_ok (hO_rf (D := []) hB1.1) ci_213
  refine r_callV (na := 2) rfl (cok rfl rfl hlv1 wl_n) rfl (tg_7 (Nat.le_of_ble_eq_true rfl) rfl) p213 e2 ?_
  have hlv2 := wL_mono (show w1.length ≤ w2.length by omega) hlv1
  refine r_pop rfl (tg_7 (Nat.le_of_ble_eq_true rfl) rfl) ?_
  have hlen2 := bi_len hB2
  have hb2 : bu w2 (t + 1) (n + n1 + n2) (m + 34 * n1 + 34 * n2) := by
    unfold bu at *
    omega
  try dsimp only at g1
  try dsimp only at g2
  have hT3 : tkL5 w2 := tk_kp hT g1 g2
  have hT2 : tkL w2 := ⟨hT3, ft_k hTF kf1 kf2⟩
  refine r_goto (tg_7 (Nat.le_of_ble_eq_true rfl) rfl) ?_
  exact K w2 lv _ _ hB2 hT2 ⟨l0, l1, l2, l3, l4, hlv2⟩ hb2
theorem case_20 (hL : 6 * t + 6 ≤ xs.length) (hx : xs.length ≤ 3072) : goC xs (tL_law (kx z xs) gx gm) Po t 849 := by
  intro w lv n m hB hT hl hb K
  obtain ⟨hT, hTF⟩ := hT
  obtain ⟨l0, l1, l2, l3, l4, hlv⟩ := hl
  have hlen := bi_len hB
  obtain ⟨f0, p0, _⟩ := p_12 hB.1
  refine r_aload (tg_7 (Nat.le_of_ble_eq_true rfl) rfl) l1 ?_
  refine r_arg 1 k_1 l0 l4 (by omega) (tg_7 (Nat.le_of_ble_eq_true rfl) rfl) (tg_7 (Nat.le_of_ble_eq_true rfl) rfl) (tg_7 (Nat.le_of_ble_eq_true rfl) rfl) (tg_7 (Nat.le_of_ble_eq_true rfl) rfl) (tg_7 (Nat.le_of_ble_eq_true rfl) rfl) ?_
  refine r_arg 2 k_2 l0 l4 (by omega) (tg_7 (Nat.le_of_ble_eq_true rfl) rfl) (tg_7 (Nat.le_of_ble_eq_true rfl) rfl) (tg_7 (Nat.le_of_ble_eq_true rfl) rfl) (tg_7 (Nat.le_of_ble_eq_true rfl) rfl) (tg_7 (Nat.le_of_ble_eq_true rfl) rfl) ?_
  obtain ⟨w1, v1, n1, e1, hB1, hn1, g1⟩ := c_X11_asked (kn := kx z xs) hB _ (sc_R xs (6 * (t : Int) + 1)) _ (sc_R xs (6 * (t : Int) + 2))
  obtain ⟨kf1, g1⟩ := g1
  refine r_callV (na := 3) rfl (cok rfl rfl hlv wl_n) rfl (tg_7 (Nat.le_of_ble_eq_true rfl) rfl) p0 e1 ?_
  have hlv1 := wL_mono (show w.length ≤ w1.length by omega) hlv
  refine r_pop rfl (tg_7 (Nat.le_of_ble_eq_true rfl) rfl) ?_
  refine r_aload (tg_7 (Nat.le_of_ble_eq_true rfl) rfl) l2 ?_
  refine r_arg 1 k_1 l0 l4 (by omega) (tg_7 (Nat.le_of_ble_eq_true rfl) rfl) (tg_7 (Nat.le_of_ble_eq_true rfl) rfl) (tg_7 (Nat.le_of_ble_eq_true rfl) rfl) (tg_7 (Nat.le_of_ble_eq_true rfl) rfl) (tg_7 (Nat.le_of_ble_eq_true rfl) rfl) ?_
  refine r_arg 2 k_2 l0 l4 (by omega) (tg_7 (Nat.le_of_ble_eq_true rfl) rfl) (tg_7 (Nat.le_of_ble_eq_true rfl) rfl) (tg_7 (Nat.le_of_ble_eq_true rfl) rfl) (tg_8 (Nat.le_of_ble_eq_true rfl) rfl) (tg_8 (Nat.le_of_ble_eq_true rfl) rfl) ?_
  obtain ⟨w2, v2, n2, e2, hB2, hn2, g2⟩ := c_X12_asked (kn := kx z xs) hB1 _ (sc_R xs (6 * (t : Int) + 1)) _ (sc_R xs (6 * (t : Int) + 2))
  obtain ⟨kf2, g2⟩ := g2
  obtain ⟨f213, p213⟩ := cIs_ok (hO_rf (D := []) hB1.1) ci_213
  refine r_callV (na := 3) rfl (cok rfl rfl hlv1 wl_n) rfl (tg_8 (Nat.le_of_ble_eq_true rfl) rfl) p213 e2 ?_
  have hlv2 := wL_mono (show w1.length ≤ w2.length by omega) hlv1
  refine r_pop rfl (tg_8 (Nat.le_of_ble_eq_true rfl) rfl) ?_
  have hlen2 := bi_len hB2
  have hb2 : bu w2 (t + 1) (n + n1 + n2) (m + 34 * n1 + 34 * n2) := by
    unfold bu at *
    omega
  try dsimp only at g1
  try dsimp only at g2
  have hT3 : tkL5 w2 := tk_kp hT g1 g2
  have hT2 : tkL w2 := ⟨hT3, ft_k hTF kf1 kf2⟩
  refine r_goto (tg_8 (Nat.le_of_ble_eq_true rfl) rfl) ?_
  exact K w2 lv _ _ hB2 hT2 ⟨l0, l1, l2, l3, l4, hlv2⟩ hb2
theorem case_21 (hL : 6 * t + 6 ≤ xs.length) (hx : xs.length ≤ 3072) : goC xs (tL_law (kx z xs) gx gm) Po t 886 := by
  intro w lv n m hB hT hl hb K
  obtain ⟨hT, hTF⟩ := hT
  obtain ⟨l0, l1, l2, l3, l4, hlv⟩ := hl
  have hlen := bi_len hB
  obtain ⟨f0, p0, _⟩ := p_12 hB.1
  refine r_aload (tg_8 (Nat.le_of_ble_eq_true rfl) rfl) l1 ?_
  obtain ⟨w1, v1, n1, e1, hB1, hn1, g1⟩ := c_X11_keystone (kn := kx z xs) hB 
  obtain ⟨kf1, g1⟩ := g1
  refine r_callV (na := 1) rfl (cok rfl rfl hlv wl_n) rfl (tg_8 (Nat.le_of_ble_eq_true rfl) rfl) p0 e1 ?_
  have hlv1 := wL_mono (show w.length ≤ w1.length by omega) hlv
  refine r_pop rfl (tg_8 (Nat.le_of_ble_eq_true rfl) rfl) ?_
  refine r_aload (tg_8 (Nat.le_of_ble_eq_true rfl) rfl) l2 ?_
  obtain ⟨w2, v2, n2, e2, hB2, hn2, g2⟩ := c_X12_keystone (kn := kx z xs) hB1 
  obtain ⟨kf2, g2⟩ := g2
  obtain ⟨f213, p213⟩ := cIs_ok (hO_rf (D := []) hB1.1) ci_213
  refine r_callV (na := 1) rfl (cok rfl rfl hlv1 wl_n) rfl (tg_8 (Nat.le_of_ble_eq_true rfl) rfl) p213 e2 ?_
  have hlv2 := wL_mono (show w1.length ≤ w2.length by omega) hlv1
  refine r_pop rfl (tg_8 (Nat.le_of_ble_eq_true rfl) rfl) ?_
  have hlen2 := bi_len hB2
  have hb2 : bu w2 (t + 1) (n + n1 + n2) (m + 34 * n1 + 34 * n2) := by
    unfold bu at *
    omega
  try dsimp only at g1
  try dsimp only at g2
  have hT3 : tkL5 w2 := tk_kp hT g1 g2
  have hT2 : tkL w2 := ⟨hT3, ft_k hTF kf1 kf2⟩
  refine r_goto (tg_8 (Nat.le_of_ble_eq_true rfl) rfl) ?_
  exact K w2 lv _ _ hB2 hT2 ⟨l0, l1, l2, l3, l4, hlv2⟩ hb2
theorem case_22 (hL : 6 * t + 6 ≤ xs.length) (hx : xs.length ≤ 3072) : goC xs (tL_law (kx z xs) gx gm) Po t 899 := by
  intro w lv n m hB hT hl hb K
  obtain ⟨hT, hTF⟩ := hT
  obtain ⟨l0, l1, l2, l3, l4, hlv⟩ := hl
  have hlen := bi_len hB
  obtain ⟨f0, p0, _⟩ := p_12 hB.1
  refine r_aload (tg_8 (Nat.le_of_ble_eq_true rfl) rfl) l1 ?_
  obtain ⟨w1, v1, n1, e1, hB1, hn1, g1⟩ := c_X11_able (kn := kx z xs) hB 
  obtain ⟨kf1, g1⟩ := g1
  refine r_callV (na := 1) rfl (cok rfl rfl hlv wl_n) rfl (tg_8 (Nat.le_of_ble_eq_true rfl) rfl) p0 e1 ?_
  have hlv1 := wL_mono (show w.length ≤ w1.length by omega) hlv
  refine r_pop rfl (tg_8 (Nat.le_of_ble_eq_true rfl) rfl) ?_
  refine r_aload (tg_8 (Nat.le_of_ble_eq_true rfl) rfl) l2 ?_
  obtain ⟨w2, v2, n2, e2, hB2, hn2, g2⟩ := c_X12_able (kn := kx z xs) hB1 
  obtain ⟨kf2, g2⟩ := g2
  obtain ⟨f213, p213⟩ := cIs_ok (hO_rf (D := []) hB1.1) ci_213
  refine r_callV (na := 1) rfl (cok rfl rfl hlv1 wl_n) rfl (tg_8 (Nat.le_of_ble_eq_true rfl) rfl) p213 e2 ?_
  have hlv2 := wL_mono (show w1.length ≤ w2.length by omega) hlv1
  refine r_pop rfl (tg_8 (Nat.le_of_ble_eq_true rfl) rfl) ?_
  have hlen2 := bi_len hB2
  have hb2 : bu w2 (t + 1) (n + n1 + n2) (m + 34 * n1 + 34 * n2) := by
    unfold bu at *
    omega
  try dsimp only at g1
  try dsimp only at g2
  have hT3 : tkL5 w2 := tk_kp hT g1 g2
  have hT2 : tkL w2 := ⟨hT3, ft_k hTF kf1 kf2⟩
  refine r_goto (tg_8 (Nat.le_of_ble_eq_true rfl) rfl) ?_
  exact K w2 lv _ _ hB2 hT2 ⟨l0, l1, l2, l3, l4, hlv2⟩ hb2
theorem case_23 (hL : 6 * t + 6 ≤ xs.length) (hx : xs.length ≤ 3072) : goC xs (tL_law (kx z xs) gx gm) Po t 912 := by
  intro w lv n m hB hT hl hb K
  obtain ⟨hT, hTF⟩ := hT
  obtain ⟨l0, l1, l2, l3, l4, hlv⟩ := hl
  have hlen := bi_len hB
  obtain ⟨f0, p0, _⟩ := p_12 hB.1
  refine r_aload (tg_8 (Nat.le_of_ble_eq_true rfl) rfl) l1 ?_
  refine r_arg 1 k_1 l0 l4 (by omega) (tg_8 (Nat.le_of_ble_eq_true rfl) rfl) (tg_8 (Nat.le_of_ble_eq_true rfl) rfl) (tg_8 (Nat.le_of_ble_eq_true rfl) rfl) (tg_8 (Nat.le_of_ble_eq_true rfl) rfl) (tg_8 (Nat.le_of_ble_eq_true rfl) rfl) ?_
  obtain ⟨w1, v1, n1, e1, hB1, hn1, g1⟩ := c_X11_cut (kn := kx z xs) hB _ (sc_R xs (6 * (t : Int) + 1))
  obtain ⟨kf1, g1⟩ := g1
  refine r_callV (na := 2) rfl (cok rfl rfl hlv wl_n) rfl (tg_8 (Nat.le_of_ble_eq_true rfl) rfl) p0 e1 ?_
  have hlv1 := wL_mono (show w.length ≤ w1.length by omega) hlv
  refine r_pop rfl (tg_8 (Nat.le_of_ble_eq_true rfl) rfl) ?_
  refine r_aload (tg_8 (Nat.le_of_ble_eq_true rfl) rfl) l2 ?_
  refine r_arg 1 k_1 l0 l4 (by omega) (tg_8 (Nat.le_of_ble_eq_true rfl) rfl) (tg_8 (Nat.le_of_ble_eq_true rfl) rfl) (tg_8 (Nat.le_of_ble_eq_true rfl) rfl) (tg_8 (Nat.le_of_ble_eq_true rfl) rfl) (tg_8 (Nat.le_of_ble_eq_true rfl) rfl) ?_
  obtain ⟨w2, v2, n2, e2, hB2, hn2, g2⟩ := c_X12_cut (kn := kx z xs) hB1 _ (sc_R xs (6 * (t : Int) + 1))
  obtain ⟨kf2, g2⟩ := g2
  obtain ⟨f213, p213⟩ := cIs_ok (hO_rf (D := []) hB1.1) ci_213
  refine r_callV (na := 2) rfl (cok rfl rfl hlv1 wl_n) rfl (tg_8 (Nat.le_of_ble_eq_true rfl) rfl) p213 e2 ?_
  have hlv2 := wL_mono (show w1.length ≤ w2.length by omega) hlv1
  refine r_pop rfl (tg_8 (Nat.le_of_ble_eq_true rfl) rfl) ?_
  have hlen2 := bi_len hB2
  have hb2 : bu w2 (t + 1) (n + n1 + n2) (m + 34 * n1 + 34 * n2) := by
    unfold bu at *
    omega
  try dsimp only at g1
  try dsimp only at g2
  have hT3 : tkL5 w2 := tk_kp hT g1 g2
  have hT2 : tkL w2 := ⟨hT3, ft_k hTF kf1 kf2⟩
  refine r_goto (tg_8 (Nat.le_of_ble_eq_true rfl) rfl) ?_
  exact K w2 lv _ _ hB2 hT2 ⟨l0, l1, l2, l3, l4, hlv2⟩ hb2
theorem case_24 (hL : 6 * t + 6 ≤ xs.length) (hx : xs.length ≤ 3072) : goC xs (tL_law (kx z xs) gx gm) Po t 937 := by
  intro w lv n m hB hT hl hb K
  obtain ⟨hT, hTF⟩ := hT
  obtain ⟨l0, l1, l2, l3, l4, hlv⟩ := hl
  have hlen := bi_len hB
  obtain ⟨f0, p0, _⟩ := p_12 hB.1
  refine r_aload (tg_8 (Nat.le_of_ble_eq_true rfl) rfl) l1 ?_
  refine r_arg 1 k_1 l0 l4 (by omega) (tg_8 (Nat.le_of_ble_eq_true rfl) rfl) (tg_8 (Nat.le_of_ble_eq_true rfl) rfl) (tg_8 (Nat.le_of_ble_eq_true rfl) rfl) (tg_8 (Nat.le_of_ble_eq_true rfl) rfl) (tg_8 (Nat.le_of_ble_eq_true rfl) rfl) ?_
  obtain ⟨w1, v1, n1, e1, hB1, hn1, g1⟩ := c_X11_cutAt (kn := kx z xs) hB _ (sc_R xs (6 * (t : Int) + 1))
  obtain ⟨kf1, g1⟩ := g1
  refine r_callV (na := 2) rfl (cok rfl rfl hlv wl_n) rfl (tg_8 (Nat.le_of_ble_eq_true rfl) rfl) p0 e1 ?_
  have hlv1 := wL_mono (show w.length ≤ w1.length by omega) hlv
  refine r_pop rfl (tg_8 (Nat.le_of_ble_eq_true rfl) rfl) ?_
  refine r_aload (tg_8 (Nat.le_of_ble_eq_true rfl) rfl) l2 ?_
  refine r_arg 1 k_1 l0 l4 (by omega) (tg_8 (Nat.le_of_ble_eq_true rfl) rfl) (tg_8 (Nat.le_of_ble_eq_true rfl) rfl) (tg_8 (Nat.le_of_ble_eq_true rfl) rfl) (tg_8 (Nat.le_of_ble_eq_true rfl) rfl) (tg_8 (Nat.le_of_ble_eq_true rfl) rfl) ?_
  obtain ⟨w2, v2, n2, e2, hB2, hn2, g2⟩ := c_X12_cutAt (kn := kx z xs) hB1 _ (sc_R xs (6 * (t : Int) + 1))
  obtain ⟨kf2, g2⟩ := g2
  obtain ⟨f213, p213⟩ := cIs_ok (hO_rf (D := []) hB1.1) ci_213
  refine r_callV (na := 2) rfl (cok rfl rfl hlv1 wl_n) rfl (tg_8 (Nat.le_of_ble_eq_true rfl) rfl) p213 e2 ?_
  have hlv2 := wL_mono (show w1.length ≤ w2.length by omega) hlv1
  refine r_pop rfl (tg_8 (Nat.le_of_ble_eq_true rfl) rfl) ?_
  have hlen2 := bi_len hB2
  have hb2 : bu w2 (t + 1) (n + n1 + n2) (m + 34 * n1 + 34 * n2) := by
    unfold bu at *
    omega
  try dsimp only at g1
  try dsimp only at g2
  have hT3 : tkL5 w2 := tk_kp hT g1 g2
  have hT2 : tkL w2 := ⟨hT3, ft_k hTF kf1 kf2⟩
  refine r_goto (tg_8 (Nat.le_of_ble_eq_true rfl) rfl) ?_
  exact K w2 lv _ _ hB2 hT2 ⟨l0, l1, l2, l3, l4, hlv2⟩ hb2
theorem case_25 (hL : 6 * t + 6 ≤ xs.length) (hx : xs.length ≤ 3072) : goC xs (tL_law (kx z xs) gx gm) Po t 962 := by
  intro w lv n m hB hT hl hb K
  obtain ⟨hT, hTF⟩ := hT
  obtain ⟨l0, l1, l2, l3, l4, hlv⟩ := hl
  have hlen := bi_len hB
  obtain ⟨f0, p0, _⟩ := p_12 hB.1
  refine r_aload (tg_8 (Nat.le_of_ble_eq_true rfl) rfl) l1 ?_
  obtain ⟨w1, v1, n1, e1, hB1, hn1, g1⟩ := c_X11_order (kn := kx z xs) hB 
  obtain ⟨kf1, g1⟩ := g1
  refine r_callV (na := 1) rfl (cok rfl rfl hlv wl_n) rfl (tg_8 (Nat.le_of_ble_eq_true rfl) rfl) p0 e1 ?_
  have hlv1 := wL_mono (show w.length ≤ w1.length by omega) hlv
  refine r_pop rfl (tg_8 (Nat.le_of_ble_eq_true rfl) rfl) ?_
  refine r_aload (tg_8 (Nat.le_of_ble_eq_true rfl) rfl) l2 ?_
  obtain ⟨w2, v2, n2, e2, hB2, hn2, g2⟩ := c_X12_order (kn := kx z xs) hB1 
  obtain ⟨kf2, g2⟩ := g2
  obtain ⟨f213, p213⟩ := cIs_ok (hO_rf (D := []) hB1.1) ci_213
  refine r_callV (na := 1) rfl (cok rfl rfl hlv1 wl_n) rfl (tg_8 (Nat.le_of_ble_eq_true rfl) rfl) p213 e2 ?_
  have hlv2 := wL_mono (show w1.length ≤ w2.length by omega) hlv1
  refine r_pop rfl (tg_8 (Nat.le_of_ble_eq_true rfl) rfl) ?_
  have hlen2 := bi_len hB2
  have hb2 : bu w2 (t + 1) (n + n1 + n2) (m + 34 * n1 + 34 * n2) := by
    unfold bu at *
    omega
  try dsimp only at g1
  try dsimp only at g2
  have hT3 : tkL5 w2 := tk_kp hT g1 g2
  have hT2 : tkL w2 := ⟨hT3, ft_k hTF kf1 kf2⟩
  refine r_goto (tg_8 (Nat.le_of_ble_eq_true rfl) rfl) ?_
  exact K w2 lv _ _ hB2 hT2 ⟨l0, l1, l2, l3, l4, hlv2⟩ hb2
theorem case_26 (hL : 6 * t + 6 ≤ xs.length) (hx : xs.length ≤ 3072) : goC xs (tL_law (kx z xs) gx gm) Po t 975 := by
  intro w lv n m hB hT hl hb K
  obtain ⟨hT, hTF⟩ := hT
  obtain ⟨l0, l1, l2, l3, l4, hlv⟩ := hl
  have hlen := bi_len hB
  obtain ⟨f0, p0, _⟩ := p_12 hB.1
  refine r_aload (tg_9 (Nat.le_of_ble_eq_true rfl) rfl) l1 ?_
  refine r_arg 1 k_1 l0 l4 (by omega) (tg_9 (Nat.le_of_ble_eq_true rfl) rfl) (tg_9 (Nat.le_of_ble_eq_true rfl) rfl) (tg_9 (Nat.le_of_ble_eq_true rfl) rfl) (tg_9 (Nat.le_of_ble_eq_true rfl) rfl) (tg_9 (Nat.le_of_ble_eq_true rfl) rfl) ?_
  obtain ⟨w1, v1, n1, e1, hB1, hn1, g1⟩ := c_X11_orderAt (kn := kx z xs) hB _ (sc_R xs (6 * (t : Int) + 1))
  obtain ⟨kf1, g1⟩ := g1
  refine r_callV (na := 2) rfl (cok rfl rfl hlv wl_n) rfl (tg_9 (Nat.le_of_ble_eq_true rfl) rfl) p0 e1 ?_
  have hlv1 := wL_mono (show w.length ≤ w1.length by omega) hlv
  refine r_pop rfl (tg_9 (Nat.le_of_ble_eq_true rfl) rfl) ?_
  refine r_aload (tg_9 (Nat.le_of_ble_eq_true rfl) rfl) l2 ?_
  refine r_arg 1 k_1 l0 l4 (by omega) (tg_9 (Nat.le_of_ble_eq_true rfl) rfl) (tg_9 (Nat.le_of_ble_eq_true rfl) rfl) (tg_9 (Nat.le_of_ble_eq_true rfl) rfl) (tg_9 (Nat.le_of_ble_eq_true rfl) rfl) (tg_9 (Nat.le_of_ble_eq_true rfl) rfl) ?_
  obtain ⟨w2, v2, n2, e2, hB2, hn2, g2⟩ := c_X12_orderAt (kn := kx z xs) hB1 _ (sc_R xs (6 * (t : Int) + 1))
  obtain ⟨kf2, g2⟩ := g2
  obtain ⟨f213, p213⟩ := cIs_ok (hO_rf (D := []) hB1.1) ci_213
  refine r_callV (na := 2) rfl (cok rfl rfl hlv1 wl_n) rfl (tg_9 (Nat.le_of_ble_eq_true rfl) rfl) p213 e2 ?_
  have hlv2 := wL_mono (show w1.length ≤ w2.length by omega) hlv1
  refine r_pop rfl (tg_9 (Nat.le_of_ble_eq_true rfl) rfl) ?_
  have hlen2 := bi_len hB2
  have hb2 : bu w2 (t + 1) (n + n1 + n2) (m + 34 * n1 + 34 * n2) := by
    unfold bu at *
    omega
  try dsimp only at g1
  try dsimp only at g2
  have hT3 : tkL5 w2 := tk_kp hT g1 g2
  have hT2 : tkL w2 := ⟨hT3, ft_k hTF kf1 kf2⟩
  refine r_goto (tg_9 (Nat.le_of_ble_eq_true rfl) rfl) ?_
  exact K w2 lv _ _ hB2 hT2 ⟨l0, l1, l2, l3, l4, hlv2⟩ hb2
theorem case_27 (hL : 6 * t + 6 ≤ xs.length) (hx : xs.length ≤ 3072) : goC xs (tL_law (kx z xs) gx gm) Po t 1000 := by
  intro w lv n m hB hT hl hb K
  obtain ⟨hT, hTF⟩ := hT
  obtain ⟨l0, l1, l2, l3, l4, hlv⟩ := hl
  have hlen := bi_len hB
  obtain ⟨f0, p0, _⟩ := p_12 hB.1
  refine r_aload (tg_9 (Nat.le_of_ble_eq_true rfl) rfl) l1 ?_
  obtain ⟨w1, v1, n1, e1, hB1, hn1, g1⟩ := c_X11_forgers (kn := kx z xs) hB 
  obtain ⟨kf1, g1⟩ := g1
  refine r_callV (na := 1) rfl (cok rfl rfl hlv wl_n) rfl (tg_9 (Nat.le_of_ble_eq_true rfl) rfl) p0 e1 ?_
  have hlv1 := wL_mono (show w.length ≤ w1.length by omega) hlv
  refine r_pop rfl (tg_9 (Nat.le_of_ble_eq_true rfl) rfl) ?_
  refine r_aload (tg_9 (Nat.le_of_ble_eq_true rfl) rfl) l2 ?_
  obtain ⟨w2, v2, n2, e2, hB2, hn2, g2⟩ := c_X12_forgers (kn := kx z xs) hB1 
  obtain ⟨kf2, g2⟩ := g2
  obtain ⟨f213, p213⟩ := cIs_ok (hO_rf (D := []) hB1.1) ci_213
  refine r_callV (na := 1) rfl (cok rfl rfl hlv1 wl_n) rfl (tg_9 (Nat.le_of_ble_eq_true rfl) rfl) p213 e2 ?_
  have hlv2 := wL_mono (show w1.length ≤ w2.length by omega) hlv1
  refine r_pop rfl (tg_9 (Nat.le_of_ble_eq_true rfl) rfl) ?_
  have hlen2 := bi_len hB2
  have hb2 : bu w2 (t + 1) (n + n1 + n2) (m + 34 * n1 + 34 * n2) := by
    unfold bu at *
    omega
  try dsimp only at g1
  try dsimp only at g2
  have hT3 : tkL5 w2 := by
    have hnn := tk_nn hB.1
    have hT1 := hT.1
    have k1 := g1.2.2
    have k2 := g2.1.2
    refine tk_kk hT (by omega) k1 k2 (by omega)
  have hT2 : tkL w2 := ⟨hT3, ft_k hTF kf1 kf2⟩
  refine r_goto (tg_9 (Nat.le_of_ble_eq_true rfl) rfl) ?_
  exact K w2 lv _ _ hB2 hT2 ⟨l0, l1, l2, l3, l4, hlv2⟩ hb2
theorem case_28 (hL : 6 * t + 6 ≤ xs.length) (hx : xs.length ≤ 3072) : goC xs (tL_law (kx z xs) gx gm) Po t 1013 := by
  intro w lv n m hB hT hl hb K
  obtain ⟨hT, hTF⟩ := hT
  obtain ⟨l0, l1, l2, l3, l4, hlv⟩ := hl
  have hlen := bi_len hB
  obtain ⟨f0, p0, _⟩ := p_12 hB.1
  refine r_aload (tg_9 (Nat.le_of_ble_eq_true rfl) rfl) l1 ?_
  obtain ⟨w1, v1, n1, e1, hB1, hn1, g1⟩ := c_X11_surely (kn := kx z xs) hB 
  obtain ⟨kf1, g1⟩ := g1
  refine r_callV (na := 1) rfl (cok rfl rfl hlv wl_n) rfl (tg_9 (Nat.le_of_ble_eq_true rfl) rfl) p0 e1 ?_
  have hlv1 := wL_mono (show w.length ≤ w1.length by omega) hlv
  refine r_pop rfl (tg_9 (Nat.le_of_ble_eq_true rfl) rfl) ?_
  refine r_aload (tg_9 (Nat.le_of_ble_eq_true rfl) rfl) l2 ?_
  obtain ⟨w2, v2, n2, e2, hB2, hn2, g2⟩ := c_X12_surely (kn := kx z xs) hB1 
  obtain ⟨kf2, g2⟩ := g2
  obtain ⟨f213, p213⟩ := cIs_ok (hO_rf (D := []) hB1.1) ci_213
  refine r_callV (na := 1) rfl (cok rfl rfl hlv1 wl_n) rfl (tg_9 (Nat.le_of_ble_eq_true rfl) rfl) p213 e2 ?_
  have hlv2 := wL_mono (show w1.length ≤ w2.length by omega) hlv1
  refine r_pop rfl (tg_9 (Nat.le_of_ble_eq_true rfl) rfl) ?_
  have hlen2 := bi_len hB2
  have hb2 : bu w2 (t + 1) (n + n1 + n2) (m + 34 * n1 + 34 * n2) := by
    unfold bu at *
    omega
  try dsimp only at g1
  try dsimp only at g2
  have hT3 : tkL5 w2 := tk_kp hT g1 g2
  have hT2 : tkL w2 := ⟨hT3, ft_k hTF kf1 kf2⟩
  refine r_goto (tg_9 (Nat.le_of_ble_eq_true rfl) rfl) ?_
  exact K w2 lv _ _ hB2 hT2 ⟨l0, l1, l2, l3, l4, hlv2⟩ hb2
theorem case_29 (hL : 6 * t + 6 ≤ xs.length) (hx : xs.length ≤ 3072) : goC xs (tL_law (kx z xs) gx gm) Po t 1026 := by
  intro w lv n m hB hT hl hb K
  obtain ⟨hT, hTF⟩ := hT
  obtain ⟨l0, l1, l2, l3, l4, hlv⟩ := hl
  have hlen := bi_len hB
  obtain ⟨f0, p0, _⟩ := p_12 hB.1
  refine r_aload (tg_9 (Nat.le_of_ble_eq_true rfl) rfl) l1 ?_
  obtain ⟨w1, v1, n1, e1, hB1, hn1, g1⟩ := c_X11_tells (kn := kx z xs) hB 
  obtain ⟨kf1, g1⟩ := g1
  refine r_callV (na := 1) rfl (cok rfl rfl hlv wl_n) rfl (tg_9 (Nat.le_of_ble_eq_true rfl) rfl) p0 e1 ?_
  have hlv1 := wL_mono (show w.length ≤ w1.length by omega) hlv
  refine r_pop rfl (tg_9 (Nat.le_of_ble_eq_true rfl) rfl) ?_
  refine r_aload (tg_9 (Nat.le_of_ble_eq_true rfl) rfl) l2 ?_
  obtain ⟨w2, v2, n2, e2, hB2, hn2, g2⟩ := c_X12_tells (kn := kx z xs) hB1 
  obtain ⟨kf2, g2⟩ := g2
  obtain ⟨f213, p213⟩ := cIs_ok (hO_rf (D := []) hB1.1) ci_213
  refine r_callV (na := 1) rfl (cok rfl rfl hlv1 wl_n) rfl (tg_9 (Nat.le_of_ble_eq_true rfl) rfl) p213 e2 ?_
  have hlv2 := wL_mono (show w1.length ≤ w2.length by omega) hlv1
  refine r_pop rfl (tg_9 (Nat.le_of_ble_eq_true rfl) rfl) ?_
  have hlen2 := bi_len hB2
  have hb2 : bu w2 (t + 1) (n + n1 + n2) (m + 34 * n1 + 34 * n2) := by
    unfold bu at *
    omega
  try dsimp only at g1
  try dsimp only at g2
  have hT3 : tkL5 w2 := tk_kp hT g1 g2
  have hT2 : tkL w2 := ⟨hT3, ft_k hTF kf1 kf2⟩
  refine r_goto (tg_9 (Nat.le_of_ble_eq_true rfl) rfl) ?_
  exact K w2 lv _ _ hB2 hT2 ⟨l0, l1, l2, l3, l4, hlv2⟩ hb2
theorem case_30 (hL : 6 * t + 6 ≤ xs.length) (hx : xs.length ≤ 3072) : goC xs (tL_law (kx z xs) gx gm) Po t 1039 := by
  intro w lv n m hB hT hl hb K
  obtain ⟨hT, hTF⟩ := hT
  obtain ⟨l0, l1, l2, l3, l4, hlv⟩ := hl
  have hlen := bi_len hB
  obtain ⟨f0, p0, _⟩ := p_12 hB.1
  refine r_aload (tg_9 (Nat.le_of_ble_eq_true rfl) rfl) l1 ?_
  refine r_arg 1 k_1 l0 l4 (by omega) (tg_9 (Nat.le_of_ble_eq_true rfl) rfl) (tg_9 (Nat.le_of_ble_eq_true rfl) rfl) (tg_9 (Nat.le_of_ble_eq_true rfl) rfl) (tg_9 (Nat.le_of_ble_eq_true rfl) rfl) (tg_9 (Nat.le_of_ble_eq_true rfl) rfl) ?_
  refine r_arg 2 k_2 l0 l4 (by omega) (tg_9 (Nat.le_of_ble_eq_true rfl) rfl) (tg_9 (Nat.le_of_ble_eq_true rfl) rfl) (tg_9 (Nat.le_of_ble_eq_true rfl) rfl) (tg_9 (Nat.le_of_ble_eq_true rfl) rfl) (tg_9 (Nat.le_of_ble_eq_true rfl) rfl) ?_
  obtain ⟨w1, v1, n1, e1, hB1, hn1, g1⟩ := c_X11_law (kn := kx z xs) hB _ (sc_R xs (6 * (t : Int) + 1)) _ (sc_R xs (6 * (t : Int) + 2))
  obtain ⟨kf1, g1⟩ := g1
  refine r_callV (na := 3) rfl (cok rfl rfl hlv wl_n) rfl (tg_9 (Nat.le_of_ble_eq_true rfl) rfl) p0 e1 ?_
  have hlv1 := wL_mono (show w.length ≤ w1.length by omega) hlv
  refine r_pop rfl (tg_9 (Nat.le_of_ble_eq_true rfl) rfl) ?_
  refine r_aload (tg_9 (Nat.le_of_ble_eq_true rfl) rfl) l2 ?_
  refine r_arg 1 k_1 l0 l4 (by omega) (tg_9 (Nat.le_of_ble_eq_true rfl) rfl) (tg_9 (Nat.le_of_ble_eq_true rfl) rfl) (tg_9 (Nat.le_of_ble_eq_true rfl) rfl) (tg_9 (Nat.le_of_ble_eq_true rfl) rfl) (tg_9 (Nat.le_of_ble_eq_true rfl) rfl) ?_
  refine r_arg 2 k_2 l0 l4 (by omega) (tg_9 (Nat.le_of_ble_eq_true rfl) rfl) (tg_9 (Nat.le_of_ble_eq_true rfl) rfl) (tg_9 (Nat.le_of_ble_eq_true rfl) rfl) (tg_10 (Nat.le_of_ble_eq_true rfl) rfl) (tg_10 (Nat.le_of_ble_eq_true rfl) rfl) ?_
  obtain ⟨w2, v2, n2, e2, hB2, hn2, g2⟩ := c_X12_law (kn := kx z xs) hB1 _ (sc_R xs (6 * (t : Int) + 1)) _ (sc_R xs (6 * (t : Int) + 2))
  obtain ⟨kf2, g2⟩ := g2
  obtain ⟨f213, p213⟩ := cIs_ok (hO_rf (D := []) hB1.1) ci_213
  refine r_callV (na := 3) rfl (cok rfl rfl hlv1 wl_n) rfl (tg_10 (Nat.le_of_ble_eq_true rfl) rfl) p213 e2 ?_
  have hlv2 := wL_mono (show w1.length ≤ w2.length by omega) hlv1
  refine r_pop rfl (tg_10 (Nat.le_of_ble_eq_true rfl) rfl) ?_
  have hlen2 := bi_len hB2
  have hb2 : bu w2 (t + 1) (n + n1 + n2) (m + 34 * n1 + 34 * n2) := by
    unfold bu at *
    omega
  try dsimp only at g1
  try dsimp only at g2
  have hT3 : tkL5 w2 := tk_kp hT g1 g2
  have hT2 : tkL w2 := ⟨hT3, ft_k hTF kf1 kf2⟩
  refine r_goto (tg_10 (Nat.le_of_ble_eq_true rfl) rfl) ?_
  exact K w2 lv _ _ hB2 hT2 ⟨l0, l1, l2, l3, l4, hlv2⟩ hb2
theorem case_31 (hL : 6 * t + 6 ≤ xs.length) (hx : xs.length ≤ 3072) : goC xs (tL_law (kx z xs) gx gm) Po t 1076 := by
  intro w lv n m hB hT hl hb K
  obtain ⟨hT, hTF⟩ := hT
  obtain ⟨l0, l1, l2, l3, l4, hlv⟩ := hl
  have hlen := bi_len hB
  obtain ⟨f0, p0, _⟩ := p_12 hB.1
  refine r_aload (tg_10 (Nat.le_of_ble_eq_true rfl) rfl) l1 ?_
  refine r_arg 1 k_1 l0 l4 (by omega) (tg_10 (Nat.le_of_ble_eq_true rfl) rfl) (tg_10 (Nat.le_of_ble_eq_true rfl) rfl) (tg_10 (Nat.le_of_ble_eq_true rfl) rfl) (tg_10 (Nat.le_of_ble_eq_true rfl) rfl) (tg_10 (Nat.le_of_ble_eq_true rfl) rfl) ?_
  obtain ⟨w1, v1, n1, e1, hB1, hn1, g1⟩ := c_X11_lasts (kn := kx z xs) hB _ (sc_R xs (6 * (t : Int) + 1))
  obtain ⟨kf1, g1⟩ := g1
  refine r_callV (na := 2) rfl (cok rfl rfl hlv wl_n) rfl (tg_10 (Nat.le_of_ble_eq_true rfl) rfl) p0 e1 ?_
  have hlv1 := wL_mono (show w.length ≤ w1.length by omega) hlv
  refine r_pop rfl (tg_10 (Nat.le_of_ble_eq_true rfl) rfl) ?_
  refine r_aload (tg_10 (Nat.le_of_ble_eq_true rfl) rfl) l2 ?_
  refine r_arg 1 k_1 l0 l4 (by omega) (tg_10 (Nat.le_of_ble_eq_true rfl) rfl) (tg_10 (Nat.le_of_ble_eq_true rfl) rfl) (tg_10 (Nat.le_of_ble_eq_true rfl) rfl) (tg_10 (Nat.le_of_ble_eq_true rfl) rfl) (tg_10 (Nat.le_of_ble_eq_true rfl) rfl) ?_
  obtain ⟨w2, v2, n2, e2, hB2, hn2, g2⟩ := c_X12_lasts (kn := kx z xs) hB1 _ (sc_R xs (6 * (t : Int) + 1))
  obtain ⟨kf2, g2⟩ := g2
  obtain ⟨f213, p213⟩ := cIs_ok (hO_rf (D := []) hB1.1) ci_213
  refine r_callV (na := 2) rfl (cok rfl rfl hlv1 wl_n) rfl (tg_10 (Nat.le_of_ble_eq_true rfl) rfl) p213 e2 ?_
  have hlv2 := wL_mono (show w1.length ≤ w2.length by omega) hlv1
  refine r_pop rfl (tg_10 (Nat.le_of_ble_eq_true rfl) rfl) ?_
  have hlen2 := bi_len hB2
  have hb2 : bu w2 (t + 1) (n + n1 + n2) (m + 34 * n1 + 34 * n2) := by
    unfold bu at *
    omega
  try dsimp only at g1
  try dsimp only at g2
  have hT3 : tkL5 w2 := tk_kp hT g1 g2
  have hT2 : tkL w2 := ⟨hT3, ft_k hTF kf1 kf2⟩
  refine r_goto (tg_10 (Nat.le_of_ble_eq_true rfl) rfl) ?_
  exact K w2 lv _ _ hB2 hT2 ⟨l0, l1, l2, l3, l4, hlv2⟩ hb2
theorem case_32 (hL : 6 * t + 6 ≤ xs.length) (hx : xs.length ≤ 3072) : goC xs (tL_law (kx z xs) gx gm) Po t 1101 := by
  intro w lv n m hB hT hl hb K
  obtain ⟨hT, hTF⟩ := hT
  obtain ⟨l0, l1, l2, l3, l4, hlv⟩ := hl
  have hlen := bi_len hB
  obtain ⟨f0, p0, _⟩ := p_12 hB.1
  refine r_aload (tg_10 (Nat.le_of_ble_eq_true rfl) rfl) l1 ?_
  refine r_arg 1 k_1 l0 l4 (by omega) (tg_10 (Nat.le_of_ble_eq_true rfl) rfl) (tg_10 (Nat.le_of_ble_eq_true rfl) rfl) (tg_10 (Nat.le_of_ble_eq_true rfl) rfl) (tg_10 (Nat.le_of_ble_eq_true rfl) rfl) (tg_10 (Nat.le_of_ble_eq_true rfl) rfl) ?_
  refine r_arg 2 k_2 l0 l4 (by omega) (tg_10 (Nat.le_of_ble_eq_true rfl) rfl) (tg_10 (Nat.le_of_ble_eq_true rfl) rfl) (tg_10 (Nat.le_of_ble_eq_true rfl) rfl) (tg_10 (Nat.le_of_ble_eq_true rfl) rfl) (tg_10 (Nat.le_of_ble_eq_true rfl) rfl) ?_
  obtain ⟨w1, v1, n1, e1, hB1, hn1, g1⟩ := c_X11_toll (kn := kx z xs) hB _ (sc_R xs (6 * (t : Int) + 1)) _ (sc_R xs (6 * (t : Int) + 2))
  obtain ⟨kf1, g1⟩ := g1
  refine r_callV (na := 3) rfl (cok rfl rfl hlv wl_n) rfl (tg_10 (Nat.le_of_ble_eq_true rfl) rfl) p0 e1 ?_
  have hlv1 := wL_mono (show w.length ≤ w1.length by omega) hlv
  refine r_pop rfl (tg_10 (Nat.le_of_ble_eq_true rfl) rfl) ?_
  refine r_aload (tg_10 (Nat.le_of_ble_eq_true rfl) rfl) l2 ?_
  refine r_arg 1 k_1 l0 l4 (by omega) (tg_10 (Nat.le_of_ble_eq_true rfl) rfl) (tg_10 (Nat.le_of_ble_eq_true rfl) rfl) (tg_10 (Nat.le_of_ble_eq_true rfl) rfl) (tg_10 (Nat.le_of_ble_eq_true rfl) rfl) (tg_10 (Nat.le_of_ble_eq_true rfl) rfl) ?_
  refine r_arg 2 k_2 l0 l4 (by omega) (tg_10 (Nat.le_of_ble_eq_true rfl) rfl) (tg_10 (Nat.le_of_ble_eq_true rfl) rfl) (tg_10 (Nat.le_of_ble_eq_true rfl) rfl) (tg_10 (Nat.le_of_ble_eq_true rfl) rfl) (tg_10 (Nat.le_of_ble_eq_true rfl) rfl) ?_
  obtain ⟨w2, v2, n2, e2, hB2, hn2, g2⟩ := c_X12_toll (kn := kx z xs) hB1 _ (sc_R xs (6 * (t : Int) + 1)) _ (sc_R xs (6 * (t : Int) + 2))
  obtain ⟨kf2, g2⟩ := g2
  obtain ⟨f213, p213⟩ := cIs_ok (hO_rf (D := []) hB1.1) ci_213
  refine r_callV (na := 3) rfl (cok rfl rfl hlv1 wl_n) rfl (tg_10 (Nat.le_of_ble_eq_true rfl) rfl) p213 e2 ?_
  have hlv2 := wL_mono (show w1.length ≤ w2.length by omega) hlv1
  refine r_pop rfl (tg_10 (Nat.le_of_ble_eq_true rfl) rfl) ?_
  have hlen2 := bi_len hB2
  have hb2 : bu w2 (t + 1) (n + n1 + n2) (m + 34 * n1 + 34 * n2) := by
    unfold bu at *
    omega
  try dsimp only at g1
  try dsimp only at g2
  have hT3 : tkL5 w2 := tk_kp hT g1 g2
  have hT2 : tkL w2 := ⟨hT3, ft_k hTF kf1 kf2⟩
  refine r_goto (tg_10 (Nat.le_of_ble_eq_true rfl) rfl) ?_
  exact K w2 lv _ _ hB2 hT2 ⟨l0, l1, l2, l3, l4, hlv2⟩ hb2
theorem case_33 (hL : 6 * t + 6 ≤ xs.length) (hx : xs.length ≤ 3072) : goC xs (tL_law (kx z xs) gx gm) Po t 1138 := by
  intro w lv n m hB hT hl hb K
  obtain ⟨hT, hTF⟩ := hT
  obtain ⟨l0, l1, l2, l3, l4, hlv⟩ := hl
  have hlen := bi_len hB
  obtain ⟨f0, p0, _⟩ := p_12 hB.1
  refine r_aload (tg_10 (Nat.le_of_ble_eq_true rfl) rfl) l1 ?_
  refine r_arg 1 k_1 l0 l4 (by omega) (tg_10 (Nat.le_of_ble_eq_true rfl) rfl) (tg_10 (Nat.le_of_ble_eq_true rfl) rfl) (tg_10 (Nat.le_of_ble_eq_true rfl) rfl) (tg_10 (Nat.le_of_ble_eq_true rfl) rfl) (tg_10 (Nat.le_of_ble_eq_true rfl) rfl) ?_
  obtain ⟨w1, v1, n1, e1, hB1, hn1, g1⟩ := c_X11_plate (kn := kx z xs) hB _ (sc_R xs (6 * (t : Int) + 1))
  obtain ⟨kf1, g1⟩ := g1
  refine r_callV (na := 2) rfl (cok rfl rfl hlv wl_n) rfl (tg_10 (Nat.le_of_ble_eq_true rfl) rfl) p0 e1 ?_
  have hlv1 := wL_mono (show w.length ≤ w1.length by omega) hlv
  refine r_pop rfl (tg_10 (Nat.le_of_ble_eq_true rfl) rfl) ?_
  refine r_aload (tg_10 (Nat.le_of_ble_eq_true rfl) rfl) l2 ?_
  refine r_arg 1 k_1 l0 l4 (by omega) (tg_10 (Nat.le_of_ble_eq_true rfl) rfl) (tg_10 (Nat.le_of_ble_eq_true rfl) rfl) (tg_11 (Nat.le_of_ble_eq_true rfl) rfl) (tg_11 (Nat.le_of_ble_eq_true rfl) rfl) (tg_11 (Nat.le_of_ble_eq_true rfl) rfl) ?_
  obtain ⟨w2, v2, n2, e2, hB2, hn2, g2⟩ := c_X12_plate (kn := kx z xs) hB1 _ (sc_R xs (6 * (t : Int) + 1))
  obtain ⟨kf2, g2⟩ := g2
  obtain ⟨f213, p213⟩ := cIs_ok (hO_rf (D := []) hB1.1) ci_213
  refine r_callV (na := 2) rfl (cok rfl rfl hlv1 wl_n) rfl (tg_11 (Nat.le_of_ble_eq_true rfl) rfl) p213 e2 ?_
  have hlv2 := wL_mono (show w1.length ≤ w2.length by omega) hlv1
  refine r_pop rfl (tg_11 (Nat.le_of_ble_eq_true rfl) rfl) ?_
  have hlen2 := bi_len hB2
  have hb2 : bu w2 (t + 1) (n + n1 + n2) (m + 34 * n1 + 34 * n2) := by
    unfold bu at *
    omega
  try dsimp only at g1
  try dsimp only at g2
  have hT3 : tkL5 w2 := tk_kp hT g1 g2
  have hT2 : tkL w2 := ⟨hT3, ft_k hTF kf1 kf2⟩
  refine r_goto (tg_11 (Nat.le_of_ble_eq_true rfl) rfl) ?_
  exact K w2 lv _ _ hB2 hT2 ⟨l0, l1, l2, l3, l4, hlv2⟩ hb2
theorem case_34 (hL : 6 * t + 6 ≤ xs.length) (hx : xs.length ≤ 3072) : goC xs (tL_law (kx z xs) gx gm) Po t 1163 := by
  intro w lv n m hB hT hl hb K
  obtain ⟨hT, hTF⟩ := hT
  obtain ⟨l0, l1, l2, l3, l4, hlv⟩ := hl
  have hlen := bi_len hB
  obtain ⟨f0, p0, _⟩ := p_12 hB.1
  refine r_aload (tg_11 (Nat.le_of_ble_eq_true rfl) rfl) l1 ?_
  refine r_arg 1 k_1 l0 l4 (by omega) (tg_11 (Nat.le_of_ble_eq_true rfl) rfl) (tg_11 (Nat.le_of_ble_eq_true rfl) rfl) (tg_11 (Nat.le_of_ble_eq_true rfl) rfl) (tg_11 (Nat.le_of_ble_eq_true rfl) rfl) (tg_11 (Nat.le_of_ble_eq_true rfl) rfl) ?_
  obtain ⟨w1, v1, n1, e1, hB1, hn1, g1⟩ := c_X11_byteAt (kn := kx z xs) hB _ (sc_R xs (6 * (t : Int) + 1))
  obtain ⟨kf1, g1⟩ := g1
  refine r_callV (na := 2) rfl (cok rfl rfl hlv wl_n) rfl (tg_11 (Nat.le_of_ble_eq_true rfl) rfl) p0 e1 ?_
  have hlv1 := wL_mono (show w.length ≤ w1.length by omega) hlv
  refine r_pop rfl (tg_11 (Nat.le_of_ble_eq_true rfl) rfl) ?_
  refine r_aload (tg_11 (Nat.le_of_ble_eq_true rfl) rfl) l2 ?_
  refine r_arg 1 k_1 l0 l4 (by omega) (tg_11 (Nat.le_of_ble_eq_true rfl) rfl) (tg_11 (Nat.le_of_ble_eq_true rfl) rfl) (tg_11 (Nat.le_of_ble_eq_true rfl) rfl) (tg_11 (Nat.le_of_ble_eq_true rfl) rfl) (tg_11 (Nat.le_of_ble_eq_true rfl) rfl) ?_
  obtain ⟨w2, v2, n2, e2, hB2, hn2, g2⟩ := c_X12_byteAt (kn := kx z xs) hB1 _ (sc_R xs (6 * (t : Int) + 1))
  obtain ⟨kf2, g2⟩ := g2
  obtain ⟨f213, p213⟩ := cIs_ok (hO_rf (D := []) hB1.1) ci_213
  refine r_callV (na := 2) rfl (cok rfl rfl hlv1 wl_n) rfl (tg_11 (Nat.le_of_ble_eq_true rfl) rfl) p213 e2 ?_
  have hlv2 := wL_mono (show w1.length ≤ w2.length by omega) hlv1
  refine r_pop rfl (tg_11 (Nat.le_of_ble_eq_true rfl) rfl) ?_
  have hlen2 := bi_len hB2
  have hb2 : bu w2 (t + 1) (n + n1 + n2) (m + 34 * n1 + 34 * n2) := by
    unfold bu at *
    omega
  try dsimp only at g1
  try dsimp only at g2
  have hT3 : tkL5 w2 := tk_kp hT g1 g2
  have hT2 : tkL w2 := ⟨hT3, ft_k hTF kf1 kf2⟩
  refine r_goto (tg_11 (Nat.le_of_ble_eq_true rfl) rfl) ?_
  exact K w2 lv _ _ hB2 hT2 ⟨l0, l1, l2, l3, l4, hlv2⟩ hb2
theorem case_35 (hL : 6 * t + 6 ≤ xs.length) (hx : xs.length ≤ 3072) : goC xs (tL_law (kx z xs) gx gm) Po t 1188 := by
  intro w lv n m hB hT hl hb K
  obtain ⟨hT, hTF⟩ := hT
  obtain ⟨l0, l1, l2, l3, l4, hlv⟩ := hl
  have hlen := bi_len hB
  obtain ⟨f0, p0, _⟩ := p_12 hB.1
  refine r_aload (tg_11 (Nat.le_of_ble_eq_true rfl) rfl) l1 ?_
  refine r_arg 1 k_1 l0 l4 (by omega) (tg_11 (Nat.le_of_ble_eq_true rfl) rfl) (tg_11 (Nat.le_of_ble_eq_true rfl) rfl) (tg_11 (Nat.le_of_ble_eq_true rfl) rfl) (tg_11 (Nat.le_of_ble_eq_true rfl) rfl) (tg_11 (Nat.le_of_ble_eq_true rfl) rfl) ?_
  refine r_arg 2 k_2 l0 l4 (by omega) (tg_11 (Nat.le_of_ble_eq_true rfl) rfl) (tg_11 (Nat.le_of_ble_eq_true rfl) rfl) (tg_11 (Nat.le_of_ble_eq_true rfl) rfl) (tg_11 (Nat.le_of_ble_eq_true rfl) rfl) (tg_11 (Nat.le_of_ble_eq_true rfl) rfl) ?_
  obtain ⟨w1, v1, n1, e1, hB1, hn1, g1⟩ := c_X11_drawn (kn := kx z xs) hB _ (sc_R xs (6 * (t : Int) + 1)) _ (sc_R xs (6 * (t : Int) + 2))
  obtain ⟨kf1, g1⟩ := g1
  refine r_callV (na := 3) rfl (cok rfl rfl hlv wl_n) rfl (tg_11 (Nat.le_of_ble_eq_true rfl) rfl) p0 e1 ?_
  have hlv1 := wL_mono (show w.length ≤ w1.length by omega) hlv
  refine r_pop rfl (tg_11 (Nat.le_of_ble_eq_true rfl) rfl) ?_
  refine r_aload (tg_11 (Nat.le_of_ble_eq_true rfl) rfl) l2 ?_
  refine r_arg 1 k_1 l0 l4 (by omega) (tg_11 (Nat.le_of_ble_eq_true rfl) rfl) (tg_11 (Nat.le_of_ble_eq_true rfl) rfl) (tg_11 (Nat.le_of_ble_eq_true rfl) rfl) (tg_11 (Nat.le_of_ble_eq_true rfl) rfl) (tg_11 (Nat.le_of_ble_eq_true rfl) rfl) ?_
  refine r_arg 2 k_2 l0 l4 (by omega) (tg_11 (Nat.le_of_ble_eq_true rfl) rfl) (tg_11 (Nat.le_of_ble_eq_true rfl) rfl) (tg_11 (Nat.le_of_ble_eq_true rfl) rfl) (tg_11 (Nat.le_of_ble_eq_true rfl) rfl) (tg_11 (Nat.le_of_ble_eq_true rfl) rfl) ?_
  obtain ⟨w2, v2, n2, e2, hB2, hn2, g2⟩ := c_X12_drawn (kn := kx z xs) hB1 _ (sc_R xs (6 * (t : Int) + 1)) _ (sc_R xs (6 * (t : Int) + 2))
  obtain ⟨kf2, g2⟩ := g2
  obtain ⟨f213, p213⟩ := cIs_ok (hO_rf (D := []) hB1.1) ci_213
  refine r_callV (na := 3) rfl (cok rfl rfl hlv1 wl_n) rfl (tg_11 (Nat.le_of_ble_eq_true rfl) rfl) p213 e2 ?_
  have hlv2 := wL_mono (show w1.length ≤ w2.length by omega) hlv1
  refine r_pop rfl (tg_11 (Nat.le_of_ble_eq_true rfl) rfl) ?_
  have hlen2 := bi_len hB2
  have hb2 : bu w2 (t + 1) (n + n1 + n2) (m + 34 * n1 + 34 * n2) := by
    unfold bu at *
    omega
  try dsimp only at g1
  try dsimp only at g2
  have hT3 : tkL5 w2 := tk_kp hT g1 g2
  have hT2 : tkL w2 := ⟨hT3, ft_k hTF kf1 kf2⟩
  refine r_goto (tg_11 (Nat.le_of_ble_eq_true rfl) rfl) ?_
  exact K w2 lv _ _ hB2 hT2 ⟨l0, l1, l2, l3, l4, hlv2⟩ hb2
theorem case_36 (hL : 6 * t + 6 ≤ xs.length) (hx : xs.length ≤ 3072) : goC xs (tL_law (kx z xs) gx gm) Po t 1225 := by
  intro w lv n m hB hT hl hb K
  obtain ⟨hT, hTF⟩ := hT
  obtain ⟨l0, l1, l2, l3, l4, hlv⟩ := hl
  have hlen := bi_len hB
  obtain ⟨f0, p0, _⟩ := p_12 hB.1
  refine r_aload (tg_11 (Nat.le_of_ble_eq_true rfl) rfl) l1 ?_
  refine r_arg 1 k_1 l0 l4 (by omega) (tg_11 (Nat.le_of_ble_eq_true rfl) rfl) (tg_11 (Nat.le_of_ble_eq_true rfl) rfl) (tg_11 (Nat.le_of_ble_eq_true rfl) rfl) (tg_11 (Nat.le_of_ble_eq_true rfl) rfl) (tg_11 (Nat.le_of_ble_eq_true rfl) rfl) ?_
  refine r_arg 2 k_2 l0 l4 (by omega) (tg_11 (Nat.le_of_ble_eq_true rfl) rfl) (tg_11 (Nat.le_of_ble_eq_true rfl) rfl) (tg_11 (Nat.le_of_ble_eq_true rfl) rfl) (tg_11 (Nat.le_of_ble_eq_true rfl) rfl) (tg_12 (Nat.le_of_ble_eq_true rfl) rfl) ?_
  refine r_arg 3 k_3 l0 l4 (by omega) (tg_12 (Nat.le_of_ble_eq_true rfl) rfl) (tg_12 (Nat.le_of_ble_eq_true rfl) rfl) (tg_12 (Nat.le_of_ble_eq_true rfl) rfl) (tg_12 (Nat.le_of_ble_eq_true rfl) rfl) (tg_12 (Nat.le_of_ble_eq_true rfl) rfl) ?_
  obtain ⟨w1, v1, n1, e1, hB1, hn1, g1⟩ := c_X11_odds (kn := kx z xs) hB _ (sc_R xs (6 * (t : Int) + 1)) _ (sc_R xs (6 * (t : Int) + 2)) _ (sc_R xs (6 * (t : Int) + 3))
  obtain ⟨kf1, g1⟩ := g1
  refine r_callV (na := 4) rfl (cok rfl rfl hlv wl_n) rfl (tg_12 (Nat.le_of_ble_eq_true rfl) rfl) p0 e1 ?_
  have hlv1 := wL_mono (show w.length ≤ w1.length by omega) hlv
  refine r_pop rfl (tg_12 (Nat.le_of_ble_eq_true rfl) rfl) ?_
  refine r_aload (tg_12 (Nat.le_of_ble_eq_true rfl) rfl) l2 ?_
  refine r_arg 1 k_1 l0 l4 (by omega) (tg_12 (Nat.le_of_ble_eq_true rfl) rfl) (tg_12 (Nat.le_of_ble_eq_true rfl) rfl) (tg_12 (Nat.le_of_ble_eq_true rfl) rfl) (tg_12 (Nat.le_of_ble_eq_true rfl) rfl) (tg_12 (Nat.le_of_ble_eq_true rfl) rfl) ?_
  refine r_arg 2 k_2 l0 l4 (by omega) (tg_12 (Nat.le_of_ble_eq_true rfl) rfl) (tg_12 (Nat.le_of_ble_eq_true rfl) rfl) (tg_12 (Nat.le_of_ble_eq_true rfl) rfl) (tg_12 (Nat.le_of_ble_eq_true rfl) rfl) (tg_12 (Nat.le_of_ble_eq_true rfl) rfl) ?_
  refine r_arg 3 k_3 l0 l4 (by omega) (tg_12 (Nat.le_of_ble_eq_true rfl) rfl) (tg_12 (Nat.le_of_ble_eq_true rfl) rfl) (tg_12 (Nat.le_of_ble_eq_true rfl) rfl) (tg_12 (Nat.le_of_ble_eq_true rfl) rfl) (tg_12 (Nat.le_of_ble_eq_true rfl) rfl) ?_
  obtain ⟨w2, v2, n2, e2, hB2, hn2, g2⟩ := c_X12_odds (kn := kx z xs) hB1 _ (sc_R xs (6 * (t : Int) + 1)) _ (sc_R xs (6 * (t : Int) + 2)) _ (sc_R xs (6 * (t : Int) + 3))
  obtain ⟨kf2, g2⟩ := g2
  obtain ⟨f213, p213⟩ := cIs_ok (hO_rf (D := []) hB1.1) ci_213
  refine r_callV (na := 4) rfl (cok rfl rfl hlv1 wl_n) rfl (tg_12 (Nat.le_of_ble_eq_true rfl) rfl) p213 e2 ?_
  have hlv2 := wL_mono (show w1.length ≤ w2.length by omega) hlv1
  refine r_pop rfl (tg_12 (Nat.le_of_ble_eq_true rfl) rfl) ?_
  have hlen2 := bi_len hB2
  have hb2 : bu w2 (t + 1) (n + n1 + n2) (m + 34 * n1 + 34 * n2) := by
    unfold bu at *
    omega
  try dsimp only at g1
  try dsimp only at g2
  have hT3 : tkL5 w2 := tk_kp hT g1 g2
  have hT2 : tkL w2 := ⟨hT3, ft_k hTF kf1 kf2⟩
  refine r_goto (tg_12 (Nat.le_of_ble_eq_true rfl) rfl) ?_
  exact K w2 lv _ _ hB2 hT2 ⟨l0, l1, l2, l3, l4, hlv2⟩ hb2
theorem case_37 (hL : 6 * t + 6 ≤ xs.length) (hx : xs.length ≤ 3072) : goC xs (tL_law (kx z xs) gx gm) Po t 1274 := by
  intro w lv n m hB hT hl hb K
  obtain ⟨hT, hTF⟩ := hT
  obtain ⟨l0, l1, l2, l3, l4, hlv⟩ := hl
  have hlen := bi_len hB
  obtain ⟨f0, p0, _⟩ := p_12 hB.1
  refine r_aload (tg_12 (Nat.le_of_ble_eq_true rfl) rfl) l1 ?_
  refine r_arg 1 k_1 l0 l4 (by omega) (tg_12 (Nat.le_of_ble_eq_true rfl) rfl) (tg_12 (Nat.le_of_ble_eq_true rfl) rfl) (tg_12 (Nat.le_of_ble_eq_true rfl) rfl) (tg_12 (Nat.le_of_ble_eq_true rfl) rfl) (tg_12 (Nat.le_of_ble_eq_true rfl) rfl) ?_
  obtain ⟨w1, v1, n1, e1, hB1, hn1, g1⟩ := c_X11_book (kn := kx z xs) hB (jc_nmC hT.2.2) (jc_nlC hT.2.2) _ (sc_R xs (6 * (t : Int) + 1))
  obtain ⟨kf1, g1⟩ := g1
  refine r_callV (na := 2) rfl (cok rfl rfl hlv wl_n) rfl (tg_12 (Nat.le_of_ble_eq_true rfl) rfl) p0 e1 ?_
  have hlv1 := wL_mono (show w.length ≤ w1.length by omega) hlv
  refine r_pop rfl (tg_12 (Nat.le_of_ble_eq_true rfl) rfl) ?_
  refine r_aload (tg_12 (Nat.le_of_ble_eq_true rfl) rfl) l2 ?_
  refine r_arg 1 k_1 l0 l4 (by omega) (tg_12 (Nat.le_of_ble_eq_true rfl) rfl) (tg_12 (Nat.le_of_ble_eq_true rfl) rfl) (tg_12 (Nat.le_of_ble_eq_true rfl) rfl) (tg_12 (Nat.le_of_ble_eq_true rfl) rfl) (tg_12 (Nat.le_of_ble_eq_true rfl) rfl) ?_
  obtain ⟨w2, v2, n2, e2, hB2, hn2, g2⟩ := c_X12_book (kn := kx z xs) hB1 (B := gX w 2) (n := (gF w 1 1).toNat) (nmS_kR g1.2.2.2.2 (jc_nmS hB.1 hT.2.2)) (nlR_kR g1.2.2.2.2 (jc_nlR hB.1 hT.2.2)) (by have a := hT.1; have b := tk_nn hB.1; have c := g1.2.1; omega) (by have b := tk_nn hB.1; omega) (fun i hi => by rw [g1.2.2.1.2.1 i]; exact (hT.2.1.1 i (by omega)).symm) _ (sc_R xs (6 * (t : Int) + 1))
  obtain ⟨kf2, g2⟩ := g2
  obtain ⟨f213, p213⟩ := cIs_ok (hO_rf (D := []) hB1.1) ci_213
  refine r_callV (na := 2) rfl (cok rfl rfl hlv1 wl_n) rfl (tg_12 (Nat.le_of_ble_eq_true rfl) rfl) p213 e2 ?_
  have hlv2 := wL_mono (show w1.length ≤ w2.length by omega) hlv1
  refine r_pop rfl (tg_12 (Nat.le_of_ble_eq_true rfl) rfl) ?_
  have hlen2 := bi_len hB2
  have hb2 : bu w2 (t + 1) (n + n1 + n2) (m + 34 * n1 + 34 * n2) := by
    unfold bu at *
    omega
  try dsimp only at g1
  try dsimp only at g2
  have hT3 : tkL5 w2 := by
    have hnn := tk_nn hB.1
    have hT1 := hT.1
    have k1 := g1.2.2
    have k2 := g2.1.2
    refine tk_kk hT (by omega) k1 k2 (by omega)
  have hT2 : tkL w2 := ⟨hT3, kf2.1.trans (bkF_e kf1.2 kf2.2 (hTF.trans kf1.1.symm))⟩
  refine r_goto (tg_12 (Nat.le_of_ble_eq_true rfl) rfl) ?_
  exact K w2 lv _ _ hB2 hT2 ⟨l0, l1, l2, l3, l4, hlv2⟩ hb2
theorem case_38 (hL : 6 * t + 6 ≤ xs.length) (hx : xs.length ≤ 3072) : goC xs (tL_law (kx z xs) gx gm) Po t 1299 := by
  intro w lv n m hB hT hl hb K
  obtain ⟨hT, hTF⟩ := hT
  obtain ⟨l0, l1, l2, l3, l4, hlv⟩ := hl
  have hlen := bi_len hB
  obtain ⟨f0, p0, _⟩ := p_12 hB.1
  refine r_aload (tg_12 (Nat.le_of_ble_eq_true rfl) rfl) l1 ?_
  refine r_arg 1 k_1 l0 l4 (by omega) (tg_12 (Nat.le_of_ble_eq_true rfl) rfl) (tg_12 (Nat.le_of_ble_eq_true rfl) rfl) (tg_12 (Nat.le_of_ble_eq_true rfl) rfl) (tg_12 (Nat.le_of_ble_eq_true rfl) rfl) (tg_12 (Nat.le_of_ble_eq_true rfl) rfl) ?_
  obtain ⟨w1, v1, n1, e1, hB1, hn1, g1⟩ := c_X11_told (kn := kx z xs) hB _ (sc_R xs (6 * (t : Int) + 1))
  obtain ⟨kf1, g1⟩ := g1
  refine r_callV (na := 2) rfl (cok rfl rfl hlv wl_n) rfl (tg_12 (Nat.le_of_ble_eq_true rfl) rfl) p0 e1 ?_
  have hlv1 := wL_mono (show w.length ≤ w1.length by omega) hlv
  refine r_pop rfl (tg_12 (Nat.le_of_ble_eq_true rfl) rfl) ?_
  refine r_aload (tg_12 (Nat.le_of_ble_eq_true rfl) rfl) l2 ?_
  refine r_arg 1 k_1 l0 l4 (by omega) (tg_12 (Nat.le_of_ble_eq_true rfl) rfl) (tg_12 (Nat.le_of_ble_eq_true rfl) rfl) (tg_12 (Nat.le_of_ble_eq_true rfl) rfl) (tg_12 (Nat.le_of_ble_eq_true rfl) rfl) (tg_12 (Nat.le_of_ble_eq_true rfl) rfl) ?_
  obtain ⟨w2, v2, n2, e2, hB2, hn2, g2⟩ := c_X12_told (kn := kx z xs) hB1 _ (sc_R xs (6 * (t : Int) + 1))
  obtain ⟨kf2, g2⟩ := g2
  obtain ⟨f213, p213⟩ := cIs_ok (hO_rf (D := []) hB1.1) ci_213
  refine r_callV (na := 2) rfl (cok rfl rfl hlv1 wl_n) rfl (tg_12 (Nat.le_of_ble_eq_true rfl) rfl) p213 e2 ?_
  have hlv2 := wL_mono (show w1.length ≤ w2.length by omega) hlv1
  refine r_pop rfl (tg_12 (Nat.le_of_ble_eq_true rfl) rfl) ?_
  have hlen2 := bi_len hB2
  have hb2 : bu w2 (t + 1) (n + n1 + n2) (m + 34 * n1 + 34 * n2) := by
    unfold bu at *
    omega
  try dsimp only at g1
  try dsimp only at g2
  have hT3 : tkL5 w2 := tk_kp hT g1 g2
  have hT2 : tkL w2 := ⟨hT3, ft_k hTF kf1 kf2⟩
  refine r_goto (tg_13 (Nat.le_of_ble_eq_true rfl) rfl) ?_
  exact K w2 lv _ _ hB2 hT2 ⟨l0, l1, l2, l3, l4, hlv2⟩ hb2
theorem case_39 (hL : 6 * t + 6 ≤ xs.length) (hx : xs.length ≤ 3072) : goC xs (tL_law (kx z xs) gx gm) Po t 1324 := by
  intro w lv n m hB hT hl hb K
  obtain ⟨hT, hTF⟩ := hT
  obtain ⟨l0, l1, l2, l3, l4, hlv⟩ := hl
  have hlen := bi_len hB
  obtain ⟨f0, p0, _⟩ := p_12 hB.1
  refine r_aload (tg_13 (Nat.le_of_ble_eq_true rfl) rfl) l1 ?_
  obtain ⟨w1, v1, n1, e1, hB1, hn1, g1⟩ := c_X11_sentence (kn := kx z xs) hB (jc_nmC hT.2.2)
  obtain ⟨kf1, g1⟩ := g1
  refine r_callV (na := 1) rfl (cok rfl rfl hlv wl_n) rfl (tg_13 (Nat.le_of_ble_eq_true rfl) rfl) p0 e1 ?_
  have hlv1 := wL_mono (show w.length ≤ w1.length by omega) hlv
  refine r_pop rfl (tg_13 (Nat.le_of_ble_eq_true rfl) rfl) ?_
  refine r_aload (tg_13 (Nat.le_of_ble_eq_true rfl) rfl) l2 ?_
  obtain ⟨w2, v2, n2, e2, hB2, hn2, g2⟩ := c_X12_sentence (kn := kx z xs) hB1 (B := gX w 2) (n := (gF w 1 1).toNat) (nmS_kR g1.2.2.2.2 (jc_nmS hB.1 hT.2.2)) (by have a := hT.1; have b := tk_nn hB.1; have c := g1.2.1; omega) (by have b := tk_nn hB.1; omega) (fun i hi => by rw [g1.2.2.1.2.1 i]; exact (hT.2.1.1 i (by omega)).symm)
  obtain ⟨kf2, g2⟩ := g2
  obtain ⟨f213, p213⟩ := cIs_ok (hO_rf (D := []) hB1.1) ci_213
  refine r_callV (na := 1) rfl (cok rfl rfl hlv1 wl_n) rfl (tg_13 (Nat.le_of_ble_eq_true rfl) rfl) p213 e2 ?_
  have hlv2 := wL_mono (show w1.length ≤ w2.length by omega) hlv1
  refine r_pop rfl (tg_13 (Nat.le_of_ble_eq_true rfl) rfl) ?_
  have hlen2 := bi_len hB2
  have hb2 : bu w2 (t + 1) (n + n1 + n2) (m + 34 * n1 + 34 * n2) := by
    unfold bu at *
    omega
  try dsimp only at g1
  try dsimp only at g2
  have hT3 : tkL5 w2 := by
    have hnn := tk_nn hB.1
    have hT1 := hT.1
    have k1 := g1.2.2
    have k2 := g2.1.2
    refine tk_kk hT (by omega) k1 k2 (by omega)
  have hT2 : tkL w2 := ⟨hT3, (kf2.1.trans kf1.2).trans kf2.2.symm⟩
  refine r_goto (tg_13 (Nat.le_of_ble_eq_true rfl) rfl) ?_
  exact K w2 lv _ _ hB2 hT2 ⟨l0, l1, l2, l3, l4, hlv2⟩ hb2
theorem case_40 (hL : 6 * t + 6 ≤ xs.length) (hx : xs.length ≤ 3072) : goC xs (tL_law (kx z xs) gx gm) Po t 1337 := by
  intro w lv n m hB hT hl hb K
  obtain ⟨hT, hTF⟩ := hT
  obtain ⟨l0, l1, l2, l3, l4, hlv⟩ := hl
  have hlen := bi_len hB
  obtain ⟨f0, p0, _⟩ := p_12 hB.1
  refine r_aload (tg_13 (Nat.le_of_ble_eq_true rfl) rfl) l1 ?_
  refine r_arg 1 k_1 l0 l4 (by omega) (tg_13 (Nat.le_of_ble_eq_true rfl) rfl) (tg_13 (Nat.le_of_ble_eq_true rfl) rfl) (tg_13 (Nat.le_of_ble_eq_true rfl) rfl) (tg_13 (Nat.le_of_ble_eq_true rfl) rfl) (tg_13 (Nat.le_of_ble_eq_true rfl) rfl) ?_
  obtain ⟨w1, v1, n1, e1, hB1, hn1, g1⟩ := c_X11_said (kn := kx z xs) hB _ (sc_R xs (6 * (t : Int) + 1))
  obtain ⟨kf1, g1⟩ := g1
  refine r_callV (na := 2) rfl (cok rfl rfl hlv wl_n) rfl (tg_13 (Nat.le_of_ble_eq_true rfl) rfl) p0 e1 ?_
  have hlv1 := wL_mono (show w.length ≤ w1.length by omega) hlv
  refine r_pop rfl (tg_13 (Nat.le_of_ble_eq_true rfl) rfl) ?_
  refine r_aload (tg_13 (Nat.le_of_ble_eq_true rfl) rfl) l2 ?_
  refine r_arg 1 k_1 l0 l4 (by omega) (tg_13 (Nat.le_of_ble_eq_true rfl) rfl) (tg_13 (Nat.le_of_ble_eq_true rfl) rfl) (tg_13 (Nat.le_of_ble_eq_true rfl) rfl) (tg_13 (Nat.le_of_ble_eq_true rfl) rfl) (tg_13 (Nat.le_of_ble_eq_true rfl) rfl) ?_
  obtain ⟨w2, v2, n2, e2, hB2, hn2, g2⟩ := c_X12_said (kn := kx z xs) hB1 _ (sc_R xs (6 * (t : Int) + 1))
  obtain ⟨kf2, g2⟩ := g2
  obtain ⟨f213, p213⟩ := cIs_ok (hO_rf (D := []) hB1.1) ci_213
  refine r_callV (na := 2) rfl (cok rfl rfl hlv1 wl_n) rfl (tg_13 (Nat.le_of_ble_eq_true rfl) rfl) p213 e2 ?_
  have hlv2 := wL_mono (show w1.length ≤ w2.length by omega) hlv1
  refine r_pop rfl (tg_13 (Nat.le_of_ble_eq_true rfl) rfl) ?_
  have hlen2 := bi_len hB2
  have hb2 : bu w2 (t + 1) (n + n1 + n2) (m + 34 * n1 + 34 * n2) := by
    unfold bu at *
    omega
  try dsimp only at g1
  try dsimp only at g2
  have hT3 : tkL5 w2 := tk_kp hT g1 g2
  have hT2 : tkL w2 := ⟨hT3, ft_k hTF kf1 kf2⟩
  refine r_goto (tg_13 (Nat.le_of_ble_eq_true rfl) rfl) ?_
  exact K w2 lv _ _ hB2 hT2 ⟨l0, l1, l2, l3, l4, hlv2⟩ hb2
theorem case_41 (hL : 6 * t + 6 ≤ xs.length) (hx : xs.length ≤ 3072) : goC xs (tL_law (kx z xs) gx gm) Po t 1362 := by
  intro w lv n m hB hT hl hb K
  obtain ⟨hT, hTF⟩ := hT
  obtain ⟨l0, l1, l2, l3, l4, hlv⟩ := hl
  have hlen := bi_len hB
  obtain ⟨f0, p0, _⟩ := p_12 hB.1
  refine r_aload (tg_13 (Nat.le_of_ble_eq_true rfl) rfl) l1 ?_
  refine r_arg 1 k_1 l0 l4 (by omega) (tg_13 (Nat.le_of_ble_eq_true rfl) rfl) (tg_13 (Nat.le_of_ble_eq_true rfl) rfl) (tg_13 (Nat.le_of_ble_eq_true rfl) rfl) (tg_13 (Nat.le_of_ble_eq_true rfl) rfl) (tg_13 (Nat.le_of_ble_eq_true rfl) rfl) ?_
  obtain ⟨w1, v1, n1, e1, hB1, hn1, g1⟩ := c_X11_image (kn := kx z xs) hB hT.2.2.1.1 hT.2.2.1.2.1 _ (sc_R xs (6 * (t : Int) + 1))
  obtain ⟨kf1, g1⟩ := g1
  refine r_callV (na := 2) rfl (cok rfl rfl hlv wl_n) rfl (tg_13 (Nat.le_of_ble_eq_true rfl) rfl) p0 e1 ?_
  have hlv1 := wL_mono (show w.length ≤ w1.length by omega) hlv
  refine r_pop rfl (tg_13 (Nat.le_of_ble_eq_true rfl) rfl) ?_
  refine r_aload (tg_13 (Nat.le_of_ble_eq_true rfl) rfl) l2 ?_
  refine r_arg 1 k_1 l0 l4 (by omega) (tg_13 (Nat.le_of_ble_eq_true rfl) rfl) (tg_13 (Nat.le_of_ble_eq_true rfl) rfl) (tg_13 (Nat.le_of_ble_eq_true rfl) rfl) (tg_13 (Nat.le_of_ble_eq_true rfl) rfl) (tg_13 (Nat.le_of_ble_eq_true rfl) rfl) ?_
  obtain ⟨w2, v2, n2, e2, hB2, hn2, g2⟩ := c_X12_image (kn := kx z xs) hB1 _ (sc_R xs (6 * (t : Int) + 1))
  obtain ⟨kf2, g2⟩ := g2
  obtain ⟨f213, p213⟩ := cIs_ok (hO_rf (D := []) hB1.1) ci_213
  refine r_callV (na := 2) rfl (cok rfl rfl hlv1 wl_n) rfl (tg_13 (Nat.le_of_ble_eq_true rfl) rfl) p213 e2 ?_
  have hlv2 := wL_mono (show w1.length ≤ w2.length by omega) hlv1
  refine r_pop rfl (tg_13 (Nat.le_of_ble_eq_true rfl) rfl) ?_
  have hlen2 := bi_len hB2
  have hb2 : bu w2 (t + 1) (n + n1 + n2) (m + 34 * n1 + 34 * n2) := by
    unfold bu at *
    omega
  try dsimp only at g1
  try dsimp only at g2
  have hT3 : tkL5 w2 := by
    have hT1 := hT.1
    obtain ⟨⟨a1, a2, a3⟩, a4, a5, a6⟩ := g1
    obtain ⟨⟨b1, b2, b3⟩, ⟨b4, b5, b6, b7⟩, b8, b9, b0⟩ := g2
    exact ⟨by clear a4 b4 b5 b6 b7; omega, tkT_le hT.2.1 a3 b3 (by clear a4 b4 b5 b6 b7; omega), jc_image hT.2.2 a4 a5 a6 b4 b5 b6 b7 b8 b9 b0⟩
  have hT2 : tkL w2 := ⟨hT3, ft_k hTF kf1 kf2⟩
  refine r_goto (tg_13 (Nat.le_of_ble_eq_true rfl) rfl) ?_
  exact K w2 lv _ _ hB2 hT2 ⟨l0, l1, l2, l3, l4, hlv2⟩ hb2
theorem case_42 (hL : 6 * t + 6 ≤ xs.length) (hx : xs.length ≤ 3072) : goC xs (tL_law (kx z xs) gx gm) Po t 1387 := by
  intro w lv n m hB hT hl hb K
  obtain ⟨hT, hTF⟩ := hT
  obtain ⟨l0, l1, l2, l3, l4, hlv⟩ := hl
  have hlen := bi_len hB
  obtain ⟨f0, p0, _⟩ := p_12 hB.1
  refine r_aload (tg_13 (Nat.le_of_ble_eq_true rfl) rfl) l1 ?_
  refine r_arg 1 k_1 l0 l4 (by omega) (tg_13 (Nat.le_of_ble_eq_true rfl) rfl) (tg_13 (Nat.le_of_ble_eq_true rfl) rfl) (tg_13 (Nat.le_of_ble_eq_true rfl) rfl) (tg_13 (Nat.le_of_ble_eq_true rfl) rfl) (tg_13 (Nat.le_of_ble_eq_true rfl) rfl) ?_
  obtain ⟨w1, v1, n1, e1, hB1, hn1, g1⟩ := c_X11_restore (kn := kx z xs) hB hT.2.2.1.1 hT.2.2.1.2.1 _ (sc_R xs (6 * (t : Int) + 1))
  obtain ⟨kf1, g1⟩ := g1
  refine r_callV (na := 2) rfl (cok rfl rfl hlv wl_n) rfl (tg_13 (Nat.le_of_ble_eq_true rfl) rfl) p0 e1 ?_
  have hlv1 := wL_mono (show w.length ≤ w1.length by omega) hlv
  refine r_pop rfl (tg_13 (Nat.le_of_ble_eq_true rfl) rfl) ?_
  refine r_aload (tg_13 (Nat.le_of_ble_eq_true rfl) rfl) l2 ?_
  refine r_arg 1 k_1 l0 l4 (by omega) (tg_13 (Nat.le_of_ble_eq_true rfl) rfl) (tg_13 (Nat.le_of_ble_eq_true rfl) rfl) (tg_13 (Nat.le_of_ble_eq_true rfl) rfl) (tg_13 (Nat.le_of_ble_eq_true rfl) rfl) (tg_13 (Nat.le_of_ble_eq_true rfl) rfl) ?_
  obtain ⟨w2, v2, n2, e2, hB2, hn2, g2⟩ := c_X12_restore (kn := kx z xs) hB1 _ (sc_R xs (6 * (t : Int) + 1))
  obtain ⟨kf2, g2⟩ := g2
  obtain ⟨f213, p213⟩ := cIs_ok (hO_rf (D := []) hB1.1) ci_213
  refine r_callV (na := 2) rfl (cok rfl rfl hlv1 wl_n) rfl (tg_13 (Nat.le_of_ble_eq_true rfl) rfl) p213 e2 ?_
  have hlv2 := wL_mono (show w1.length ≤ w2.length by omega) hlv1
  refine r_pop rfl (tg_13 (Nat.le_of_ble_eq_true rfl) rfl) ?_
  have hlen2 := bi_len hB2
  have hb2 : bu w2 (t + 1) (n + n1 + n2) (m + 34 * n1 + 34 * n2) := by
    unfold bu at *
    omega
  try dsimp only at g1
  try dsimp only at g2
  have hT3 : tkL5 w2 := by
    have hT1 := hT.1
    obtain ⟨⟨a1, a2, a3⟩, a4, a5, a6⟩ := g1
    obtain ⟨⟨b1, b2, b3⟩, ⟨b4, b5⟩, b6, b7⟩ := g2
    exact ⟨by clear a4 b4 b5; omega, tkT_le hT.2.1 a3 b3 (by clear a4 b4 b5; omega), jc_restore hT.2.2 a4 a5 a6 b4 b5 b6 b7⟩
  have hT2 : tkL w2 := ⟨hT3, ft_k hTF kf1 kf2⟩
  refine r_goto (tg_13 (Nat.le_of_ble_eq_true rfl) rfl) ?_
  exact K w2 lv _ _ hB2 hT2 ⟨l0, l1, l2, l3, l4, hlv2⟩ hb2
theorem case_43 (hL : 6 * t + 6 ≤ xs.length) (hx : xs.length ≤ 3072) : goC xs (tL_law (kx z xs) gx gm) Po t 1412 := by
  intro w lv n m hB hT hl hb K
  obtain ⟨hT, hTF⟩ := hT
  obtain ⟨l0, l1, l2, l3, l4, hlv⟩ := hl
  have hlen := bi_len hB
  obtain ⟨f0, p0, _⟩ := p_12 hB.1
  refine r_aload (tg_13 (Nat.le_of_ble_eq_true rfl) rfl) l1 ?_
  refine r_arg 1 k_1 l0 l4 (by omega) (tg_14 (Nat.le_of_ble_eq_true rfl) rfl) (tg_14 (Nat.le_of_ble_eq_true rfl) rfl) (tg_14 (Nat.le_of_ble_eq_true rfl) rfl) (tg_14 (Nat.le_of_ble_eq_true rfl) rfl) (tg_14 (Nat.le_of_ble_eq_true rfl) rfl) ?_
  obtain ⟨w1, v1, n1, e1, hB1, hn1, g1⟩ := c_X11_count (kn := kx z xs) hB _ (sc_R xs (6 * (t : Int) + 1))
  obtain ⟨kf1, g1⟩ := g1
  refine r_callV (na := 2) rfl (cok rfl rfl hlv wl_n) rfl (tg_14 (Nat.le_of_ble_eq_true rfl) rfl) p0 e1 ?_
  have hlv1 := wL_mono (show w.length ≤ w1.length by omega) hlv
  refine r_pop rfl (tg_14 (Nat.le_of_ble_eq_true rfl) rfl) ?_
  refine r_aload (tg_14 (Nat.le_of_ble_eq_true rfl) rfl) l2 ?_
  refine r_arg 1 k_1 l0 l4 (by omega) (tg_14 (Nat.le_of_ble_eq_true rfl) rfl) (tg_14 (Nat.le_of_ble_eq_true rfl) rfl) (tg_14 (Nat.le_of_ble_eq_true rfl) rfl) (tg_14 (Nat.le_of_ble_eq_true rfl) rfl) (tg_14 (Nat.le_of_ble_eq_true rfl) rfl) ?_
  obtain ⟨w2, v2, n2, e2, hB2, hn2, g2⟩ := c_X12_count (kn := kx z xs) hB1 _ (sc_R xs (6 * (t : Int) + 1))
  obtain ⟨kf2, g2⟩ := g2
  obtain ⟨f213, p213⟩ := cIs_ok (hO_rf (D := []) hB1.1) ci_213
  refine r_callV (na := 2) rfl (cok rfl rfl hlv1 wl_n) rfl (tg_14 (Nat.le_of_ble_eq_true rfl) rfl) p213 e2 ?_
  have hlv2 := wL_mono (show w1.length ≤ w2.length by omega) hlv1
  refine r_pop rfl (tg_14 (Nat.le_of_ble_eq_true rfl) rfl) ?_
  have hlen2 := bi_len hB2
  have hb2 : bu w2 (t + 1) (n + n1 + n2) (m + 34 * n1 + 34 * n2) := by
    unfold bu at *
    omega
  try dsimp only at g1
  try dsimp only at g2
  have hT3 : tkL5 w2 := tk_kp hT g1.1 g2.1
  have hT2 : tkL w2 := ⟨hT3, ft_k hTF kf1 kf2⟩
  refine r_goto (tg_14 (Nat.le_of_ble_eq_true rfl) rfl) ?_
  exact K w2 lv _ _ hB2 hT2 ⟨l0, l1, l2, l3, l4, hlv2⟩ hb2
end CASES
end
