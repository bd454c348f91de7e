noncomputable section
-- ===== every script: which op, which box =====
theorem nmV_lo (xs : Nat → Int32) {j : Nat} (h : j < 100) : nmV xs j = xs j := by
  unfold nmV nmB
  rw [if_pos (by omega), if_pos h]
theorem nmV_op (xs : Nat → Int32) : nmV xs 20000 = xs 0 &&& 63 := by
  unfold nmV nmB
  rw [if_neg (by omega), if_neg (by omega), if_pos (by omega)]
  rfl
theorem six_bits (x : Int32) : ∃ c, c < 64 ∧ sN (x &&& 63) = 2147483648 + c := by
  have h : (x &&& 63).toBitVec.toNat ≤ 63 := by
    rw [Int32.toBitVec_and, BitVec.toNat_and]
    exact Nat.and_le_right
  refine ⟨(x &&& 63).toBitVec.toNat, by omega, ?_⟩
  rw [sN_eq]
  omega
theorem ops_all : ∀ c, c < 64 → ∃ s1 s2 s3, chk c s1 s2 s3 = true := fun c hc => match c, hc with
  | 0, _ => ⟨_, _, _, op_0⟩
  | 1, _ => ⟨_, _, _, op_1⟩
  | 2, _ => ⟨_, _, _, op_2⟩
  | 3, _ => ⟨_, _, _, op_3⟩
  | 4, _ => ⟨_, _, _, op_4⟩
  | 5, _ => ⟨_, _, _, op_5⟩
  | 6, _ => ⟨_, _, _, op_6⟩
  | 7, _ => ⟨_, _, _, op_7⟩
  | 8, _ => ⟨_, _, _, op_8⟩
  | 9, _ => ⟨_, _, _, op_9⟩
  | 10, _ => ⟨_, _, _, op_10⟩
  | 11, _ => ⟨_, _, _, op_11⟩
  | 12, _ => ⟨_, _, _, op_12⟩
  | 13, _ => ⟨_, _, _, op_13⟩
  | 14, _ => ⟨_, _, _, op_14⟩
  | 15, _ => ⟨_, _, _, op_15⟩
  | 16, _ => ⟨_, _, _, op_16⟩
  | 17, _ => ⟨_, _, _, op_17⟩
  | 18, _ => ⟨_, _, _, op_18⟩
  | 19, _ => ⟨_, _, _, op_19⟩
  | 20, _ => ⟨_, _, _, op_20⟩
  | 21, _ => ⟨_, _, _, op_21⟩
  | 22, _ => ⟨_, _, _, op_22⟩
  | 23, _ => ⟨_, _, _, op_23⟩
  | 24, _ => ⟨_, _, _, op_24⟩
  | 25, _ => ⟨_, _, _, op_25⟩
  | 26, _ => ⟨_, _, _, op_26⟩
  | 27, _ => ⟨_, _, _, op_27⟩
  | 28, _ => ⟨_, _, _, op_28⟩
  | 29, _ => ⟨_, _, _, op_29⟩
  | 30, _ => ⟨_, _, _, op_30⟩
  | 31, _ => ⟨_, _, _, op_31⟩
  | 32, _ => ⟨_, _, _, op_32⟩
  | 33, _ => ⟨_, _, _, op_33⟩
  | 34, _ => ⟨_, _, _, op_34⟩
  | 35, _ => ⟨_, _, _, op_35⟩
  | 36, _ => ⟨_, _, _, op_36⟩
  | 37, _ => ⟨_, _, _, op_37⟩
  | 38, _ => ⟨_, _, _, op_38⟩
  | 39, _ => ⟨_, _, _, op_39⟩
  | 40, _ => ⟨_, _, _, op_40⟩
  | 41, _ => ⟨_, _, _, op_41⟩
  | 42, _ => ⟨_, _, _, op_42⟩
  | 43, _ => ⟨_, _, _, op_43⟩
  | 44, _ => ⟨_, _, _, op_44⟩
  | 45, _ => ⟨_, _, _, op_45⟩
  | 46, _ => ⟨_, _, _, op_46⟩
  | 47, _ => ⟨_, _, _, op_47⟩
  | 48, _ => ⟨_, _, _, op_48⟩
  | 49, _ => ⟨_, _, _, op_49⟩
  | 50, _ => ⟨_, _, _, op_50⟩
  | 51, _ => ⟨_, _, _, op_51⟩
  | 52, _ => ⟨_, _, _, op_52⟩
  | 53, _ => ⟨_, _, _, op_53⟩
  | 54, _ => ⟨_, _, _, op_54⟩
  | 55, _ => ⟨_, _, _, op_55⟩
  | 56, _ => ⟨_, _, _, op_56⟩
  | 57, _ => ⟨_, _, _, op_57⟩
  | 58, _ => ⟨_, _, _, op_58⟩
  | 59, _ => ⟨_, _, _, op_59⟩
  | 60, _ => ⟨_, _, _, op_60⟩
  | 61, _ => ⟨_, _, _, op_61⟩
  | 62, _ => ⟨_, _, _, op_62⟩
  | 63, _ => ⟨_, _, _, op_63⟩
  | n + 64, h => absurd h (by omega)
theorem kn6_at {o : Nat → Nat} {b : Nat} {xs : Nat → Int32} (j : Nat) (v : Value) (h : kn6[j]? = some v) : dv (nm o b xs) v = .int (xs j) := by
  have e : ∀ u : UInt32, u.toNat < 100 → dv (nm o b xs) (.float u) = .int (xs u.toNat) := fun u hu => by
    show Value.int (vi (nm o b xs) u) = _
    rw [vi_nm, nmV_lo xs hu]
  match j, h with
  | 0, h => cases h; exact e 0 (by decide)
  | 1, h => cases h; exact e 1 (by decide)
  | 2, h => cases h; exact e 2 (by decide)
  | 3, h => cases h; exact e 3 (by decide)
  | 4, h => cases h; exact e 4 (by decide)
  | 5, h => cases h; exact e 5 (by decide)
  | n + 6, h => simp [kn6] at h
theorem nm_b (o : Nat → Nat) (b : Nat) (xs : Nat → Int32) : nm o b xs 1000010 = b := by
  unfold nm
  rw [if_neg (by decide), if_pos rfl]
theorem whole_start {p : Program} {e : Env} {s : State} {m : MethodId} {below : List Frame} {meth : Method} {c : Code} (l : Launch) (hst : l.stackTraces = false) {b L : Nat} {xs : Nat → Int32} (hL : L ≤ 6) (C0 : lw_At p s m meth c b L xs) : W p l e room_1 s m #[Value.ref b] below meth c s.heap [] 0 0 (lw_Z below #[Value.ref b] s) (entryFrame m ([Value.ref b] : List Value).toArray 7) := by
  obtain ⟨dC, dI, cy, o, hK⟩ := law_env C0
  obtain ⟨hx, hb, hret, hml, hown, htb, hX, hbl, hlk, hgv⟩ := C0
  have hts : ∀ w ∈ wsL_law, w.before #[Value.ref b] s = true := fun w h => htb w (wsL_law_in w h)
  by_cases h6 : L = 6
  · subst h6
    obtain ⟨c1, hc1, e1⟩ := six_bits (xs 0)
    obtain ⟨s1, s2, s3, h1⟩ := ops_all c1 hc1
    obtain ⟨bx, hbx, hok⟩ := chk_at h1 xs (by rw [nmV_op]; exact e1)
    obtain ⟨r, hrun, k1, k2, k3⟩ := okR_spec hok
    exact law_of_run (kn := knI bx) (kL_law (knI bx) (mM_up (mg_of (mX11_init kn0) run_X)) (mM_up (mg_of (mX12_init kn0) run_M))) hst hx hb hret hml hown hts hlk (hK (knI bx) rfl kn6_at (knI_ok hbx)) (nm_b o b xs) hrun k1 k2 k3
  · obtain ⟨r, hrun, k1, k2, k3⟩ := okR_spec (short_all L (by omega))
    exact law_of_run (kn := knS L) (kL_law (knS L) (mX11_init (knS L)) (mX12_init (knS L))) hst hx hb hret hml hown hts hlk (hK (knS L) (by show (kn6.take L).length = L; rw [List.length_take]; show min L 6 = L; omega) (fun j v h => kn6_at j v (by
      have h : (kn6.take L)[j]? = some v := h
      rw [List.getElem?_take] at h
      split at h
      · exact h
      · cases h)) (fun t u y bb h => by cases h)) (nm_b o b xs) hrun k1 k2 k3
end
