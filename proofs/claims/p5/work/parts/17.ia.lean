noncomputable section
section HT
variable {tbl : List (Nat × sA)} {Po : sR → Prop} {pc np : Nat} {lv ps : List (Nat × Value)} {st : List Value} {w w0 : sW} {D : List (Nat × Nat)} {kn : sKn}
theorem h_intv {v : Int32} {z : Int} (hv : v = Int32.ofInt z) (ha : t_get tbl pc = some (a_stk (q_int v) np)) (g : Tp tbl Po np (lv, hI z :: st, w, 0, 0)) : Tp tbl Po pc (lv, st, w, 0, 0) := by
  subst hv
  exact h_int z ha g
theorem h_iincv {i : Nat} {z d : Int} {v : Int32} (hv : v = Int32.ofInt d) (ha : t_get tbl pc = some (a_iinc i v np)) (hl : hL lv ps) (hg : l_get ps i = some (hI z)) (g : ∀ lv', hL lv' (l_upd ps i (hI (z + d))) → Tp tbl Po np (lv', st, w, 0, 0)) : Tp tbl Po pc (lv, st, w, 0, 0) := by
  subst hv
  exact h_iinc d ha hl hg g
theorem h_ineg {a : Int} (ha : t_get tbl pc = some (a_stk q_ineg np)) (g : Tp tbl Po np (lv, hI (-a) :: st, w, 0, 0)) : Tp tbl Po pc (lv, hI a :: st, w, 0, 0) := Tp_step (ss' := (lv, hI (-a) :: st, w, 0, 0)) ha (fun k => by
  show k np (lv, Value.int (-Int32.ofInt a) :: st, w, 0, 0) = _
  rw [← Int32.ofInt_neg]
  rfl) g
theorem z0 : (0 : Int32) = Int32.ofInt 0 := by decide +kernel
theorem r0 : R32 0 := ⟨by omega, by omega⟩
theorem z_eq {x : Int} (r : R32 x) : b_eq (Int32.ofInt x) 0 = decide (x = 0) := by rw [z0]; exact c_eq r r0
theorem z_ne {x : Int} (r : R32 x) : b_ne (Int32.ofInt x) 0 = decide (x ≠ 0) := by rw [z0]; exact c_ne r r0
theorem z_lt {x : Int} (r : R32 x) : b_lt (Int32.ofInt x) 0 = decide (x < 0) := by rw [z0]; exact c_lt r r0
theorem z_ge {x : Int} (r : R32 x) : b_ge (Int32.ofInt x) 0 = decide (0 ≤ x) := by rw [z0]; exact c_ge r r0
theorem z_gt {x : Int} (r : R32 x) : b_gt (Int32.ofInt x) 0 = decide (0 < x) := by rw [z0]; exact c_gt r r0
theorem z_le {x : Int} (r : R32 x) : b_le (Int32.ofInt x) 0 = decide (x ≤ 0) := by rw [z0]; exact c_le r r0
theorem h_ifv {b : Int32 → Int32 → Bool} {t tgt : Nat} {x : Int} {P : Prop} {dP : Decidable P} (ha : t_get tbl pc = some (a_if kn b t tgt np)) (hb : b (Int32.ofInt x) 0 = decide P) (g1 : P → Tp tbl Po tgt (lv, st, w, 0, 0)) (g2 : ¬ P → Tp tbl Po np (lv, st, w, 0, 0)) : Tp tbl Po pc (lv, hI x :: st, w, 0, 0) := by
  by_cases p : P
  · refine Tp_step ha (fun k => ?_) (g1 p)
    show (match b (Int32.ofInt x) 0 with
      | true => k tgt (lv, st, w, 0, 0)
      | false => k np (lv, st, w, 0, 0)) = _
    rw [hb, decide_eq_true p]
  · refine Tp_step ha (fun k => ?_) (g2 p)
    show (match b (Int32.ofInt x) 0 with
      | true => k tgt (lv, st, w, 0, 0)
      | false => k np (lv, st, w, 0, 0)) = _
    rw [hb, decide_eq_false p]
theorem i_eq {t tgt : Nat} {x y : Int} (ha : t_get tbl pc = some (a_icmp kn b_eq t tgt np)) (r : R32 x) (s : R32 y) (g1 : x = y → Tp tbl Po tgt (lv, st, w, 0, 0)) (g2 : ¬ (x = y) → Tp tbl Po np (lv, st, w, 0, 0)) : Tp tbl Po pc (lv, hI y :: hI x :: st, w, 0, 0) := h_icmp ha (c_eq r s) g1 g2
theorem j_eq {t tgt : Nat} {x : Int} (ha : t_get tbl pc = some (a_if kn b_eq t tgt np)) (r : R32 x) (g1 : x = 0 → Tp tbl Po tgt (lv, st, w, 0, 0)) (g2 : ¬ (x = 0) → Tp tbl Po np (lv, st, w, 0, 0)) : Tp tbl Po pc (lv, hI x :: st, w, 0, 0) := h_ifv ha (z_eq r) g1 g2
theorem i_ne {t tgt : Nat} {x y : Int} (ha : t_get tbl pc = some (a_icmp kn b_ne t tgt np)) (r : R32 x) (s : R32 y) (g1 : x ≠ y → Tp tbl Po tgt (lv, st, w, 0, 0)) (g2 : ¬ (x ≠ y) → Tp tbl Po np (lv, st, w, 0, 0)) : Tp tbl Po pc (lv, hI y :: hI x :: st, w, 0, 0) := h_icmp ha (c_ne r s) g1 g2
theorem j_ne {t tgt : Nat} {x : Int} (ha : t_get tbl pc = some (a_if kn b_ne t tgt np)) (r : R32 x) (g1 : x ≠ 0 → Tp tbl Po tgt (lv, st, w, 0, 0)) (g2 : ¬ (x ≠ 0) → Tp tbl Po np (lv, st, w, 0, 0)) : Tp tbl Po pc (lv, hI x :: st, w, 0, 0) := h_ifv ha (z_ne r) g1 g2
theorem i_lt {t tgt : Nat} {x y : Int} (ha : t_get tbl pc = some (a_icmp kn b_lt t tgt np)) (r : R32 x) (s : R32 y) (g1 : x < y → Tp tbl Po tgt (lv, st, w, 0, 0)) (g2 : ¬ (x < y) → Tp tbl Po np (lv, st, w, 0, 0)) : Tp tbl Po pc (lv, hI y :: hI x :: st, w, 0, 0) := h_icmp ha (c_lt r s) g1 g2
theorem j_lt {t tgt : Nat} {x : Int} (ha : t_get tbl pc = some (a_if kn b_lt t tgt np)) (r : R32 x) (g1 : x < 0 → Tp tbl Po tgt (lv, st, w, 0, 0)) (g2 : ¬ (x < 0) → Tp tbl Po np (lv, st, w, 0, 0)) : Tp tbl Po pc (lv, hI x :: st, w, 0, 0) := h_ifv ha (z_lt r) g1 g2
theorem i_ge {t tgt : Nat} {x y : Int} (ha : t_get tbl pc = some (a_icmp kn b_ge t tgt np)) (r : R32 x) (s : R32 y) (g1 : y ≤ x → Tp tbl Po tgt (lv, st, w, 0, 0)) (g2 : ¬ (y ≤ x) → Tp tbl Po np (lv, st, w, 0, 0)) : Tp tbl Po pc (lv, hI y :: hI x :: st, w, 0, 0) := h_icmp ha (c_ge r s) g1 g2
theorem j_ge {t tgt : Nat} {x : Int} (ha : t_get tbl pc = some (a_if kn b_ge t tgt np)) (r : R32 x) (g1 : 0 ≤ x → Tp tbl Po tgt (lv, st, w, 0, 0)) (g2 : ¬ (0 ≤ x) → Tp tbl Po np (lv, st, w, 0, 0)) : Tp tbl Po pc (lv, hI x :: st, w, 0, 0) := h_ifv ha (z_ge r) g1 g2
theorem i_gt {t tgt : Nat} {x y : Int} (ha : t_get tbl pc = some (a_icmp kn b_gt t tgt np)) (r : R32 x) (s : R32 y) (g1 : y < x → Tp tbl Po tgt (lv, st, w, 0, 0)) (g2 : ¬ (y < x) → Tp tbl Po np (lv, st, w, 0, 0)) : Tp tbl Po pc (lv, hI y :: hI x :: st, w, 0, 0) := h_icmp ha (c_gt r s) g1 g2
theorem j_gt {t tgt : Nat} {x : Int} (ha : t_get tbl pc = some (a_if kn b_gt t tgt np)) (r : R32 x) (g1 : 0 < x → Tp tbl Po tgt (lv, st, w, 0, 0)) (g2 : ¬ (0 < x) → Tp tbl Po np (lv, st, w, 0, 0)) : Tp tbl Po pc (lv, hI x :: st, w, 0, 0) := h_ifv ha (z_gt r) g1 g2
theorem i_le {t tgt : Nat} {x y : Int} (ha : t_get tbl pc = some (a_icmp kn b_le t tgt np)) (r : R32 x) (s : R32 y) (g1 : x ≤ y → Tp tbl Po tgt (lv, st, w, 0, 0)) (g2 : ¬ (x ≤ y) → Tp tbl Po np (lv, st, w, 0, 0)) : Tp tbl Po pc (lv, hI y :: hI x :: st, w, 0, 0) := h_icmp ha (c_le r s) g1 g2
theorem j_le {t tgt : Nat} {x : Int} (ha : t_get tbl pc = some (a_if kn b_le t tgt np)) (r : R32 x) (g1 : x ≤ 0 → Tp tbl Po tgt (lv, st, w, 0, 0)) (g2 : ¬ (x ≤ 0) → Tp tbl Po np (lv, st, w, 0, 0)) : Tp tbl Po pc (lv, hI x :: st, w, 0, 0) := h_ifv ha (z_le r) g1 g2
theorem h_ialdj {c t n : Nat} {i : Int} (j : Nat) (ha : t_get tbl pc = some (a_iald np)) (ho : hO D w0 w) (hf : aI c = some (t, n)) (hn : Nat.blt n 2147483648 = true) (hi : i = (j : Int)) (hj : j < n) (g : -2147483648 ≤ gX w c j → gX w c j ≤ 2147483647 → Tp tbl Po np (lv, hI (gX w c j) :: st, w, 0, 0)) : Tp tbl Po pc (lv, hI i :: .ref c :: st, w, 0, 0) := by
  have e : i.toNat = j := by omega
  refine h_iald ha ho hf hn (by omega) (by omega) ?_
  rw [e]
  exact g
theorem h_iastj {c t n a m : Nat} {i z lo hi : Int} (j : Nat) (ha : t_get tbl pc = some (a_iast np)) (ho : hO D w0 w) (hf : aI c = some (t, n)) (hn : Nat.blt n 2147483648 = true) (hm : mIn D t 999 = true) (hp : aP c a m lo hi = true) (hi' : i = (j : Int)) (h0 : a ≤ j ∧ j < a + m) (h2 : j < n) (h3 : lo ≤ z) (h4 : z ≤ hi) (r : R32 z) (g : ∀ w', hO D w0 w' → gX w' c j = z → (∀ c' j', (c' = c → j' ≠ j) → gX w' c' j' = gX w c' j') → (∀ c' k, gF w' c' k = gF w c' k) → Tp tbl Po np (lv, st, w', 0, 0)) (hq : pOkA D t (a + m - 1) = true := by rfl) (hb : pOkB D t a = true := by rfl) : Tp tbl Po pc (lv, hI z :: hI i :: .ref c :: st, w, 0, 0) := by
  have e : i.toNat = j := by omega
  refine h_iast ha ho hf hn hm hp (by omega) (by omega) (by omega) h3 h4 r ?_ hq hb
  rw [e]
  exact g
end HT
theorem ci_213 : cIs 213 = some 13 := by decide +kernel
theorem fi_0 : fI 213 13 0 = some (61, (-2147483648), 2147483647) := by decide +kernel
theorem fr_1 : fR 213 13 1 = some 214 := by decide +kernel
theorem fi_2 : fI 213 13 2 = some (61, 0, 940) := by decide +kernel
theorem fi_3 : fI 213 13 3 = some (61, 0, 940) := by decide +kernel
theorem fi_4 : fI 213 13 4 = some (61, 0, 940) := by decide +kernel
theorem fi_5 : fI 213 13 5 = some (61, 0, 940) := by decide +kernel
theorem fi_6 : fI 213 13 6 = some (61, 0, 940) := by decide +kernel
theorem fi_7 : fI 213 13 7 = some (61, (-2147483648), 2147483647) := by decide +kernel
theorem fi_8 : fI 213 13 8 = some (61, (-2147483648), 2147483647) := by decide +kernel
theorem fi_9 : fI 213 13 9 = some (61, (-2147483648), 2147483647) := by decide +kernel
theorem fi_10 : fI 213 13 10 = some (61, (-2147483648), 2147483647) := by decide +kernel
theorem fi_11 : fI 213 13 11 = some (61, (-2147483648), 2147483647) := by decide +kernel
theorem fi_13 : fI 213 13 13 = some (61, (-2147483648), 2147483647) := by decide +kernel
theorem fr_14 : fR 213 13 14 = some 215 := by decide +kernel
theorem fr_15 : fR 213 13 15 = some 216 := by decide +kernel
theorem fr_16 : fR 213 13 16 = some 217 := by decide +kernel
theorem fr_17 : fR 213 13 17 = some 218 := by decide +kernel
theorem fr_18 : fR 213 13 18 = some 219 := by decide +kernel
theorem fr_19 : fR 213 13 19 = some 220 := by decide +kernel
theorem fr_20 : fR 213 13 20 = some 221 := by decide +kernel
theorem fr_21 : fR 213 13 21 = some 222 := by decide +kernel
theorem fr_22 : fR 213 13 22 = some 223 := by decide +kernel
theorem fi_23 : fI 213 13 23 = some (61, 0, 8) := by decide +kernel
theorem fi_24 : fI 213 13 24 = some (61, 0, 1) := by decide +kernel
theorem fi_25 : fI 213 13 25 = some (61, 0, 1) := by decide +kernel
theorem fi_26 : fI 213 13 26 = some (61, 0, 1) := by decide +kernel
theorem fr_27 : fR 213 13 27 = some 224 := by decide +kernel
theorem fi_28 : fI 213 13 28 = some (61, (-2147483648), 2147483647) := by decide +kernel
theorem fr_29 : fR 213 13 29 = some 225 := by decide +kernel
theorem fr_30 : fR 213 13 30 = some 226 := by decide +kernel
theorem fr_31 : fR 213 13 31 = some 227 := by decide +kernel
theorem fr_32 : fR 213 13 32 = some 228 := by decide +kernel
theorem fr_33 : fR 213 13 33 = some 229 := by decide +kernel
theorem fr_34 : fR 213 13 34 = some 230 := by decide +kernel
theorem fi_35 : fI 213 13 35 = some (61, 0, 12) := by decide +kernel
theorem fi_36 : fI 213 13 36 = some (61, (-2147483648), 2147483647) := by decide +kernel
theorem fr_37 : fR 213 13 37 = some 231 := by decide +kernel
theorem fr_38 : fR 213 13 38 = some 232 := by decide +kernel
theorem fi_39 : fI 213 13 39 = some (61, 0, 3) := by decide +kernel
theorem fr_40 : fR 213 13 40 = some 233 := by decide +kernel
theorem fr_41 : fR 213 13 41 = some 234 := by decide +kernel
theorem fr_42 : fR 213 13 42 = some 235 := by decide +kernel
theorem fi_43 : fI 213 13 43 = some (61, 0, 6) := by decide +kernel
theorem fi_44 : fI 213 13 44 = some (61, (-2147483648), 2147483647) := by decide +kernel
theorem fr_45 : fR 213 13 45 = some 236 := by decide +kernel
theorem fi_46 : fI 213 13 46 = some (61, (-2147483648), 2147483647) := by decide +kernel
theorem fi_47 : fI 213 13 47 = some (61, (-2147483648), 2147483647) := by decide +kernel
theorem fr_48 : fR 213 13 48 = some 237 := by decide +kernel
theorem fi_49 : fI 213 13 49 = some (61, 0, 64) := by decide +kernel
theorem fi_50 : fI 213 13 50 = some (61, (-2147483648), 2147483647) := by decide +kernel
theorem fr_51 : fR 213 13 51 = some 238 := by decide +kernel
theorem fr_52 : fR 213 13 52 = some 239 := by decide +kernel
theorem fi_53 : fI 213 13 53 = some (61, 0, 40) := by decide +kernel
theorem fi_54 : fI 213 13 54 = some (61, 0, 1) := by decide +kernel
theorem fr_55 : fR 213 13 55 = some 240 := by decide +kernel
theorem fi_56 : fI 213 13 56 = some (61, 0, 60) := by decide +kernel
theorem fi_57 : fI 213 13 57 = some (61, 0, 20) := by decide +kernel
theorem fi_58 : fI 213 13 58 = some (61, 0, 8) := by decide +kernel
theorem fi_59 : fI 213 13 59 = some (61, 0, 59) := by decide +kernel
theorem ai_214 : aI 214 = some (62, 940) := by decide +kernel
theorem aw_214 : aP 214 0 940 0 255 = true := by decide +kernel
theorem ar_214 : aR 214 0 940 0 255 = true := by decide +kernel
theorem ai_215 : aI 215 = some (63, 438) := by decide +kernel
theorem ai_216 : aI 216 = some (64, 94) := by decide +kernel
theorem ai_217 : aI 217 = some (65, 876) := by decide +kernel
theorem ai_218 : aI 218 = some (66, 816) := by decide +kernel
theorem ai_219 : aI 219 = some (67, 102) := by decide +kernel
theorem ai_224 : aI 224 = some (72, 36) := by decide +kernel
theorem aw_224 : aP 224 0 36 (-1) 9 = true := by decide +kernel
theorem ar_224 : aR 224 0 36 (-1) 9 = true := by decide +kernel
theorem ai_225 : aI 225 = some (73, 48) := by decide +kernel
theorem aw_225 : aP 225 0 48 (-2147483648) 2147483647 = true := by decide +kernel
theorem ar_225 : aR 225 0 48 (-2147483648) 2147483647 = true := by decide +kernel
theorem ai_226 : aI 226 = some (74, 12) := by decide +kernel
theorem aw_226 : aP 226 0 12 0 3 = true := by decide +kernel
theorem ar_226 : aR 226 0 12 0 3 = true := by decide +kernel
theorem ai_227 : aI 227 = some (75, 48) := by decide +kernel
theorem aw_227 : aP 227 0 48 (-2147483648) 2147483647 = true := by decide +kernel
theorem ar_227 : aR 227 0 48 (-2147483648) 2147483647 = true := by decide +kernel
theorem ai_228 : aI 228 = some (76, 36) := by decide +kernel
theorem aw_228 : aP 228 0 36 (-1) 9 = true := by decide +kernel
theorem ar_228 : aR 228 0 36 (-1) 9 = true := by decide +kernel
theorem ai_229 : aI 229 = some (77, 36) := by decide +kernel
theorem aw_229 : aP 229 0 36 (-1) 9 = true := by decide +kernel
theorem ar_229 : aR 229 0 36 (-1) 9 = true := by decide +kernel
theorem ai_230 : aI 230 = some (78, 3) := by decide +kernel
theorem aw_230 : aP 230 0 3 (-1) 9 = true := by decide +kernel
theorem ar_230 : aR 230 0 3 (-1) 9 = true := by decide +kernel
theorem ai_231 : aI 231 = some (79, 3) := by decide +kernel
theorem aw_231 : aP 231 0 3 (-2147483648) 2147483647 = true := by decide +kernel
theorem ar_231 : aR 231 0 3 (-2147483648) 2147483647 = true := by decide +kernel
theorem ai_232 : aI 232 = some (80, 3) := by decide +kernel
theorem aw_232 : aP 232 0 3 (-2147483648) 2147483647 = true := by decide +kernel
theorem ar_232 : aR 232 0 3 (-2147483648) 2147483647 = true := by decide +kernel
theorem ai_233 : aI 233 = some (81, 6) := by decide +kernel
theorem aw_233 : aP 233 0 6 (-2147483648) 2147483647 = true := by decide +kernel
theorem ar_233 : aR 233 0 6 (-2147483648) 2147483647 = true := by decide +kernel
theorem ai_234 : aI 234 = some (82, 6) := by decide +kernel
theorem aw_234 : aP 234 0 6 (-2147483648) 2147483647 = true := by decide +kernel
theorem ar_234 : aR 234 0 6 (-2147483648) 2147483647 = true := by decide +kernel
theorem ai_235 : aI 235 = some (83, 720) := by decide +kernel
theorem ai_236 : aI 236 = some (84, 6) := by decide +kernel
theorem aw_236 : aP 236 0 6 (-2147483648) 2147483647 = true := by decide +kernel
theorem ar_236 : aR 236 0 6 (-2147483648) 2147483647 = true := by decide +kernel
theorem ai_237 : aI 237 = some (85, 64) := by decide +kernel
theorem aw_237 : aP 237 0 64 (-2147483648) 2147483647 = true := by decide +kernel
theorem ar_237 : aR 237 0 64 (-2147483648) 2147483647 = true := by decide +kernel
theorem ai_238 : aI 238 = some (86, 160) := by decide +kernel
theorem aw_238 : aP 238 0 160 (-2147483648) 2147483647 = true := by decide +kernel
theorem ar_238 : aR 238 0 160 (-2147483648) 2147483647 = true := by decide +kernel
theorem ai_239 : aI 239 = some (87, 4) := by decide +kernel
theorem aw_239 : aP 239 0 4 (-2147483648) 2147483647 = true := by decide +kernel
theorem ar_239 : aR 239 0 4 (-2147483648) 2147483647 = true := by decide +kernel
theorem ai_240 : aI 240 = some (88, 240) := by decide +kernel
theorem aw_240 : aP 240 0 240 (-2147483648) 2147483647 = true := by decide +kernel
theorem ar_240 : aR 240 0 240 (-2147483648) 2147483647 = true := by decide +kernel
/-- which step may come behind which -/
def folP (k n : Nat) : Prop := (k = 3 ∧ n ≠ 3) ∨ (k ≠ 3 ∧ (n = 3 ∨ (k ≤ n + 1 ∧ n ≤ k + 1)))
theorem k_n1000 : (-1000 : Int32) = Int32.ofInt (-1000) := by decide +kernel
theorem k_n8 : (-8 : Int32) = Int32.ofInt (-8) := by decide +kernel
theorem k_n2 : (-2 : Int32) = Int32.ofInt (-2) := by decide +kernel
theorem k_n1 : (-1 : Int32) = Int32.ofInt (-1) := by decide +kernel
theorem k_0 : (0 : Int32) = Int32.ofInt (0) := by decide +kernel
theorem k_1 : (1 : Int32) = Int32.ofInt (1) := by decide +kernel
theorem k_2 : (2 : Int32) = Int32.ofInt (2) := by decide +kernel
theorem k_3 : (3 : Int32) = Int32.ofInt (3) := by decide +kernel
theorem k_4 : (4 : Int32) = Int32.ofInt (4) := by decide +kernel
theorem k_5 : (5 : Int32) = Int32.ofInt (5) := by decide +kernel
theorem k_6 : (6 : Int32) = Int32.ofInt (6) := by decide +kernel
theorem k_7 : (7 : Int32) = Int32.ofInt (7) := by decide +kernel
theorem k_8 : (8 : Int32) = Int32.ofInt (8) := by decide +kernel
theorem k_9 : (9 : Int32) = Int32.ofInt (9) := by decide +kernel
theorem k_10 : (10 : Int32) = Int32.ofInt (10) := by decide +kernel
theorem k_11 : (11 : Int32) = Int32.ofInt (11) := by decide +kernel
theorem k_12 : (12 : Int32) = Int32.ofInt (12) := by decide +kernel
theorem k_13 : (13 : Int32) = Int32.ofInt (13) := by decide +kernel
theorem k_14 : (14 : Int32) = Int32.ofInt (14) := by decide +kernel
theorem k_15 : (15 : Int32) = Int32.ofInt (15) := by decide +kernel
theorem k_16 : (16 : Int32) = Int32.ofInt (16) := by decide +kernel
theorem k_17 : (17 : Int32) = Int32.ofInt (17) := by decide +kernel
theorem k_20 : (20 : Int32) = Int32.ofInt (20) := by decide +kernel
theorem k_22 : (22 : Int32) = Int32.ofInt (22) := by decide +kernel
theorem k_23 : (23 : Int32) = Int32.ofInt (23) := by decide +kernel
theorem k_24 : (24 : Int32) = Int32.ofInt (24) := by decide +kernel
theorem k_25 : (25 : Int32) = Int32.ofInt (25) := by decide +kernel
theorem k_26 : (26 : Int32) = Int32.ofInt (26) := by decide +kernel
theorem k_30 : (30 : Int32) = Int32.ofInt (30) := by decide +kernel
theorem k_32 : (32 : Int32) = Int32.ofInt (32) := by decide +kernel
theorem k_36 : (36 : Int32) = Int32.ofInt (36) := by decide +kernel
theorem k_40 : (40 : Int32) = Int32.ofInt (40) := by decide +kernel
theorem k_41 : (41 : Int32) = Int32.ofInt (41) := by decide +kernel
theorem k_45 : (45 : Int32) = Int32.ofInt (45) := by decide +kernel
theorem k_46 : (46 : Int32) = Int32.ofInt (46) := by decide +kernel
theorem k_48 : (48 : Int32) = Int32.ofInt (48) := by decide +kernel
theorem k_50 : (50 : Int32) = Int32.ofInt (50) := by decide +kernel
theorem k_57 : (57 : Int32) = Int32.ofInt (57) := by decide +kernel
theorem k_59 : (59 : Int32) = Int32.ofInt (59) := by decide +kernel
theorem k_60 : (60 : Int32) = Int32.ofInt (60) := by decide +kernel
theorem k_61 : (61 : Int32) = Int32.ofInt (61) := by decide +kernel
theorem k_62 : (62 : Int32) = Int32.ofInt (62) := by decide +kernel
theorem k_64 : (64 : Int32) = Int32.ofInt (64) := by decide +kernel
theorem k_82 : (82 : Int32) = Int32.ofInt (82) := by decide +kernel
theorem k_88 : (88 : Int32) = Int32.ofInt (88) := by decide +kernel
theorem k_94 : (94 : Int32) = Int32.ofInt (94) := by decide +kernel
theorem k_95 : (95 : Int32) = Int32.ofInt (95) := by decide +kernel
theorem k_96 : (96 : Int32) = Int32.ofInt (96) := by decide +kernel
theorem k_97 : (97 : Int32) = Int32.ofInt (97) := by decide +kernel
theorem k_98 : (98 : Int32) = Int32.ofInt (98) := by decide +kernel
theorem k_99 : (99 : Int32) = Int32.ofInt (99) := by decide +kernel
theorem k_100 : (100 : Int32) = Int32.ofInt (100) := by decide +kernel
theorem k_101 : (101 : Int32) = Int32.ofInt (101) := by decide +kernel
theorem k_102 : (102 : Int32) = Int32.ofInt (102) := by decide +kernel
theorem k_103 : (103 : Int32) = Int32.ofInt (103) := by decide +kernel
theorem k_104 : (104 : Int32) = Int32.ofInt (104) := by decide +kernel
theorem k_105 : (105 : Int32) = Int32.ofInt (105) := by decide +kernel
theorem k_107 : (107 : Int32) = Int32.ofInt (107) := by decide +kernel
theorem k_108 : (108 : Int32) = Int32.ofInt (108) := by decide +kernel
theorem k_109 : (109 : Int32) = Int32.ofInt (109) := by decide +kernel
theorem k_110 : (110 : Int32) = Int32.ofInt (110) := by decide +kernel
theorem k_111 : (111 : Int32) = Int32.ofInt (111) := by decide +kernel
theorem k_112 : (112 : Int32) = Int32.ofInt (112) := by decide +kernel
theorem k_114 : (114 : Int32) = Int32.ofInt (114) := by decide +kernel
theorem k_115 : (115 : Int32) = Int32.ofInt (115) := by decide +kernel
theorem k_116 : (116 : Int32) = Int32.ofInt (116) := by decide +kernel
theorem k_117 : (117 : Int32) = Int32.ofInt (117) := by decide +kernel
theorem k_118 : (118 : Int32) = Int32.ofInt (118) := by decide +kernel
theorem k_119 : (119 : Int32) = Int32.ofInt (119) := by decide +kernel
theorem k_121 : (121 : Int32) = Int32.ofInt (121) := by decide +kernel
theorem k_122 : (122 : Int32) = Int32.ofInt (122) := by decide +kernel
theorem k_154 : (154 : Int32) = Int32.ofInt (154) := by decide +kernel
theorem k_160 : (160 : Int32) = Int32.ofInt (160) := by decide +kernel
theorem k_190 : (190 : Int32) = Int32.ofInt (190) := by decide +kernel
theorem k_196 : (196 : Int32) = Int32.ofInt (196) := by decide +kernel
theorem k_197 : (197 : Int32) = Int32.ofInt (197) := by decide +kernel
theorem k_198 : (198 : Int32) = Int32.ofInt (198) := by decide +kernel
theorem k_200 : (200 : Int32) = Int32.ofInt (200) := by decide +kernel
theorem k_240 : (240 : Int32) = Int32.ofInt (240) := by decide +kernel
theorem k_255 : (255 : Int32) = Int32.ofInt (255) := by decide +kernel
theorem k_300 : (300 : Int32) = Int32.ofInt (300) := by decide +kernel
theorem k_400 : (400 : Int32) = Int32.ofInt (400) := by decide +kernel
theorem k_438 : (438 : Int32) = Int32.ofInt (438) := by decide +kernel
theorem k_714 : (714 : Int32) = Int32.ofInt (714) := by decide +kernel
theorem k_720 : (720 : Int32) = Int32.ofInt (720) := by decide +kernel
theorem k_816 : (816 : Int32) = Int32.ofInt (816) := by decide +kernel
theorem k_876 : (876 : Int32) = Int32.ofInt (876) := by decide +kernel
theorem k_900 : (900 : Int32) = Int32.ofInt (900) := by decide +kernel
theorem k_940 : (940 : Int32) = Int32.ofInt (940) := by decide +kernel
theorem k_999 : (999 : Int32) = Int32.ofInt (999) := by decide +kernel
theorem k_12345 : (12345 : Int32) = Int32.ofInt (12345) := by decide +kernel
theorem k_100000 : (100000 : Int32) = Int32.ofInt (100000) := by decide +kernel
theorem k_1103515245 : (1103515245 : Int32) = Int32.ofInt (1103515245) := by decide +kernel
theorem s_size {kn : sKn} {w : sW} (hw : wOk ZZ w) (x : Int) (h : -1000000 ≤ x ∧ x ≤ 1000000) : ∃ b : Int, fX12_size kn [hI x] w = some (some (hI b), w, 0, 0) ∧ ((x < 0 ∧ b = -x) ∨ (0 ≤ x ∧ b = x)) := by
  have K : Tp (tX12_size kn) (fun r => ∃ b : Int, r = (some (hI b), w, 0, 0) ∧ ((x < 0 ∧ b = -x) ∨ (0 ≤ x ∧ b = x))) 0 (lv_args 0 [hI x], [], w, 0, 0) := by
    have l0 : hL (lv_args 0 [hI x]) (lv_args 0 [hI x]) := hL_ex rfl
    have o0 : hO [] w w := hO_rf hw
    refine h_iload rfl l0 rfl ?_
    refine j_ge (kn := kn) (t := 3) (tgt := 9) (np := 4) rfl (by unfold R32; omega) (fun e1 => ?_) (fun e1 => ?_)
    · refine h_iload rfl l0 rfl ?_
      refine h_iret rfl ?_
      exact ⟨_, rfl, by omega⟩
    · refine h_iload rfl l0 rfl ?_
      refine h_ineg rfl ?_
      refine h_goto rfl ?_
      refine h_iret rfl ?_
      exact ⟨_, rfl, by omega⟩
  obtain ⟨r, h1, b, h2, h3⟩ := h_meth1 (nL := 1) rfl K
  rw [h2] at h1
  exact ⟨b, h1, h3⟩
theorem s_least {kn : sKn} {w : sW} (hw : wOk ZZ w) (x y : Int) (hx : R32 x) (hy : R32 y) : ∃ b : Int, fX12_least kn [hI x, hI y] w = some (some (hI b), w, 0, 0) ∧ ((x < y ∧ b = x) ∨ (y ≤ x ∧ b = y)) := by
  have K : Tp (tX12_least kn) (fun r => ∃ b : Int, r = (some (hI b), w, 0, 0) ∧ ((x < y ∧ b = x) ∨ (y ≤ x ∧ b = y))) 0 (lv_args 0 [hI x, hI y], [], w, 0, 0) := by
    have l0 : hL (lv_args 0 [hI x, hI y]) (lv_args 0 [hI x, hI y]) := hL_ex rfl
    have o0 : hO [] w w := hO_rf hw
    have hx1 := hx.1
    have hx2 := hx.2
    have hy1 := hy.1
    have hy2 := hy.2
    refine h_iload rfl l0 rfl ?_
    refine h_iload rfl l0 rfl ?_
    refine i_ge (kn := kn) (t := 3) (tgt := 9) (np := 5) rfl (by unfold R32; omega) (by unfold R32; omega) (fun e1 => ?_) (fun e1 => ?_)
    · refine h_iload rfl l0 rfl ?_
      refine h_iret rfl ?_
      exact ⟨_, rfl, by omega⟩
    · refine h_iload rfl l0 rfl ?_
      refine h_goto rfl ?_
      refine h_iret rfl ?_
      exact ⟨_, rfl, by omega⟩
  obtain ⟨r, h1, b, h2, h3⟩ := h_meth1 (nL := 2) rfl K
  rw [h2] at h1
  exact ⟨b, h1, h3⟩
theorem s_follows {kn : sKn} {w : sW} (hw : wOk ZZ w) (k n : Nat) (hk : k ≤ 3) (hn : n ≤ 3) : ∃ b : Int, fX12_follows kn [hI k, hI n] w = some (some (hI b), w, 0, 0) ∧ ((b = 0 ∨ b = 1) ∧ (b = 1 ↔ folP k n)) := by
  have K : Tp (tX12_follows kn) (fun r => ∃ b : Int, r = (some (hI b), w, 0, 0) ∧ ((b = 0 ∨ b = 1) ∧ (b = 1 ↔ folP k n))) 0 (lv_args 0 [hI k, hI n], [], w, 0, 0) := by
    have l0 : hL (lv_args 0 [hI k, hI n]) (lv_args 0 [hI k, hI n]) := hL_ex rfl
    have o0 : hO [] w w := hO_rf hw
    refine h_iload rfl l0 rfl ?_
    refine h_intv k_3 rfl ?_
    refine i_ne (kn := kn) (t := 1) (tgt := 18) (np := 5) rfl (by unfold R32; omega) (by unfold R32; omega) (fun e1 => ?_) (fun e1 => ?_)
    · refine h_iload rfl l0 rfl ?_
      refine h_intv k_3 rfl ?_
      refine i_eq (kn := kn) (t := 0) (tgt := 33) (np := 23) rfl (by unfold R32; omega) (by unfold R32; omega) (fun e2 => ?_) (fun e2 => ?_)
      · refine h_intv k_1 rfl ?_
        refine h_goto rfl ?_
        refine h_zret (by omega) rfl ?_
        exact ⟨_, rfl, by omega, by unfold folP; omega⟩
      · refine h_iload rfl l0 rfl ?_
        refine h_iload rfl l0 rfl ?_
        refine h_isub rfl ?_
        obtain ⟨z3, hf3, hz3⟩ := s_size (kn := kn) hw (k - n) (by omega)
        refine h_S1 rfl o0 l0 rfl rfl hf3 ?_
        refine h_intv k_1 rfl ?_
        refine i_gt (kn := kn) (t := 4) (tgt := 37) (np := 33) rfl (by unfold R32; omega) (by unfold R32; omega) (fun e4 => ?_) (fun e4 => ?_)
        · refine h_intv k_0 rfl ?_
          refine h_zret (by omega) rfl ?_
          exact ⟨_, rfl, by omega, by unfold folP; omega⟩
        · refine h_intv k_1 rfl ?_
          refine h_goto rfl ?_
          refine h_zret (by omega) rfl ?_
          exact ⟨_, rfl, by omega, by unfold folP; omega⟩
    · refine h_iload rfl l0 rfl ?_
      refine h_intv k_3 rfl ?_
      refine i_eq (kn := kn) (t := 0) (tgt := 14) (np := 10) rfl (by unfold R32; omega) (by unfold R32; omega) (fun e5 => ?_) (fun e5 => ?_)
      · refine h_intv k_0 rfl ?_
        refine h_goto rfl ?_
        refine h_zret (by omega) rfl ?_
        exact ⟨_, rfl, by omega, by unfold folP; omega⟩
      · refine h_intv k_1 rfl ?_
        refine h_goto rfl ?_
        refine h_zret (by omega) rfl ?_
        exact ⟨_, rfl, by omega, by unfold folP; omega⟩
  obtain ⟨r, h1, b, h2, h3⟩ := h_meth1 (nL := 2) rfl K
  rw [h2] at h1
  exact ⟨b, h1, h3⟩
end
