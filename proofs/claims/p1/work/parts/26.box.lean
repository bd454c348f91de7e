noncomputable section
-- ===== boxes: what is known of the script's ints =====
def iv_eq (lo hi y : Nat) : Option Bool := match Nat.blt y lo with
  | true => some false
  | false => match Nat.blt hi y with
    | true => some false
    | false => match Nat.beq lo hi with
      | true => some true
      | false => none
def iv_lt (lo hi y : Nat) : Option Bool := match Nat.blt hi y with
  | true => some true
  | false => match Nat.ble y lo with
    | true => some false
    | false => none
def iv_gt (lo hi y : Nat) : Option Bool := match Nat.blt y lo with
  | true => some true
  | false => match Nat.ble hi y with
    | true => some false
    | false => none
def iv_not (o : Option Bool) : Option Bool := match o with
  | some true => some false
  | some false => some true
  | none => none
def ivK (t lo hi y : Nat) : Option Bool := match t with
  | 0 => iv_eq lo hi y
  | 1 => iv_not (iv_eq lo hi y)
  | 2 => iv_lt lo hi y
  | 3 => iv_not (iv_lt lo hi y)
  | 4 => iv_gt lo hi y
  | 5 => iv_not (iv_gt lo hi y)
  | 10 => iv_eq lo hi y
  | 11 => iv_not (iv_eq lo hi y)
  | 12 => iv_gt lo hi y
  | 13 => iv_not (iv_gt lo hi y)
  | 14 => iv_lt lo hi y
  | 15 => iv_not (iv_lt lo hi y)
  | _ => none
theorem blt_f {a b : Nat} (h : Nat.blt a b = false) : b ≤ a := by
  have : ¬ a < b := fun z => by
    rw [Nat.blt_eq.mpr z] at h
    cases h
  omega
theorem ble_f {a b : Nat} (h : Nat.ble a b = false) : b < a := by
  have : ¬ a ≤ b := fun z => by
    rw [Nat.ble_eq.mpr z] at h
    cases h
  omega
theorem iv_eq_ok {lo hi y x : Nat} {b : Bool} (h1 : lo ≤ x) (h2 : x ≤ hi) (h : iv_eq lo hi y = some b) : decide (x = y) = b := by
  unfold iv_eq at h
  split at h
  · rename_i e
    have e := Nat.blt_eq.mp e
    cases h
    exact decide_eq_false (by omega)
  · rename_i e
    have e := blt_f e
    split at h
    · rename_i e2
      have e2 := Nat.blt_eq.mp e2
      cases h
      exact decide_eq_false (by omega)
    · rename_i e2
      have e2 := blt_f e2
      split at h
      · rename_i e3
        have e3 := Nat.eq_of_beq_eq_true e3
        cases h
        exact decide_eq_true (by omega)
      · cases h
theorem iv_lt_ok {lo hi y x : Nat} {b : Bool} (h1 : lo ≤ x) (h2 : x ≤ hi) (h : iv_lt lo hi y = some b) : decide (x < y) = b := by
  unfold iv_lt at h
  split at h
  · rename_i e
    have e := Nat.blt_eq.mp e
    cases h
    exact decide_eq_true (by omega)
  · split at h
    · rename_i e2
      have e2 := Nat.ble_eq.mp e2
      cases h
      exact decide_eq_false (by omega)
    · cases h
theorem iv_gt_ok {lo hi y x : Nat} {b : Bool} (h1 : lo ≤ x) (h2 : x ≤ hi) (h : iv_gt lo hi y = some b) : decide (y < x) = b := by
  unfold iv_gt at h
  split at h
  · rename_i e
    have e := Nat.blt_eq.mp e
    cases h
    exact decide_eq_true (by omega)
  · split at h
    · rename_i e2
      have e2 := Nat.ble_eq.mp e2
      cases h
      exact decide_eq_false (by omega)
    · cases h
theorem iv_not_ok {o : Option Bool} {b : Bool} (h : iv_not o = some b) : o = some (!b) := by
  match o, h with
  | some true, h => cases h; rfl
  | some false, h => cases h; rfl
theorem sN_inj {x y : Int32} : x = y ↔ sN x = sN y := ⟨fun h => by rw [h], fun h => Int32.toInt_inj.mp (by
  have h1 := sN_int x
  have h2 := sN_int y
  omega)⟩
theorem sN_lt {x y : Int32} : x < y ↔ sN x < sN y := by
  rw [Int32.lt_iff_toInt_lt]
  have h1 := sN_int x
  have h2 := sN_int y
  omega
theorem sN_le {x y : Int32} : x ≤ y ↔ ¬ sN y < sN x := by
  rw [Int32.le_iff_toInt_le]
  have h1 := sN_int x
  have h2 := sN_int y
  omega
theorem dn {p q : Prop} {ip : Decidable p} {iq : Decidable q} {b : Bool} (e : p ↔ ¬ q) (h : decide q = !b) : decide p = b := by
  cases b with
  | true => exact decide_eq_true (e.mpr (of_decide_eq_false h))
  | false => exact decide_eq_false (fun z => e.mp z (of_decide_eq_true h))
theorem dy {p q : Prop} {ip : Decidable p} {iq : Decidable q} {b : Bool} (e : p ↔ q) (h : decide q = b) : decide p = b := by
  cases b with
  | true => exact decide_eq_true (e.mpr (of_decide_eq_true h))
  | false => exact decide_eq_false (fun z => of_decide_eq_false h (e.mp z))
theorem ivK_ok {t lo hi : Nat} {x y : Int32} {b : Bool} (h1 : lo ≤ sN x) (h2 : sN x ≤ hi) (h : ivK t lo hi (sN y) = some b) : bsem t x y = b := by
  unfold ivK at h
  split at h
  · exact (bsem_0 x y).trans ((b_eq_d x y).trans (dy sN_inj (iv_eq_ok h1 h2 h)))
  · exact (bsem_1 x y).trans ((b_ne_d x y).trans (dn (not_congr sN_inj) (iv_eq_ok h1 h2 (iv_not_ok h))))
  · exact (bsem_2 x y).trans ((b_lt_d x y).trans (dy sN_lt (iv_lt_ok h1 h2 h)))
  · exact (bsem_3 x y).trans ((b_ge_d x y).trans (dn sN_le (iv_lt_ok h1 h2 (iv_not_ok h))))
  · exact (bsem_4 x y).trans ((b_gt_d x y).trans (dy sN_lt (iv_gt_ok h1 h2 h)))
  · exact (bsem_5 x y).trans ((b_le_d x y).trans (dn sN_le (iv_gt_ok h1 h2 (iv_not_ok h))))
  · exact (bsem_10 x y).trans ((b_eq_d y x).trans (dy (eq_comm.trans sN_inj) (iv_eq_ok h1 h2 h)))
  · exact (bsem_11 x y).trans ((b_ne_d y x).trans (dn (not_congr (eq_comm.trans sN_inj)) (iv_eq_ok h1 h2 (iv_not_ok h))))
  · exact (bsem_12 x y).trans ((b_lt_d y x).trans (dy sN_lt (iv_gt_ok h1 h2 h)))
  · exact (bsem_13 x y).trans ((b_ge_d y x).trans (dn sN_le (iv_gt_ok h1 h2 (iv_not_ok h))))
  · exact (bsem_14 x y).trans ((b_gt_d y x).trans (dy sN_lt (iv_lt_ok h1 h2 h)))
  · exact (bsem_15 x y).trans ((b_le_d y x).trans (dn sN_le (iv_lt_ok h1 h2 (iv_not_ok h))))
  · cases h
def bx_get (bx : List (Nat × Nat × Nat)) (u : Nat) : Option (Nat × Nat) := List.rec (motive := fun _ => Option (Nat × Nat)) none (fun q _ ih => match Nat.beq q.1 u with
  | true => some q.2
  | false => ih) bx
theorem bx_get_mem {bx : List (Nat × Nat × Nat)} {u : Nat} {q : Nat × Nat} (h : bx_get bx u = some q) : (u, q) ∈ bx := by
  induction bx with
  | nil => cases h
  | cons p r ih =>
    have h : (match Nat.beq p.1 u with
      | true => some p.2
      | false => bx_get r u) = some q := h
    split at h
    · rename_i e
      cases h
      rw [← Nat.eq_of_beq_eq_true e]
      exact List.mem_cons_self
    · exact List.mem_cons_of_mem _ (ih h)
def knI (bx : List (Nat × Nat × Nat)) : sKn := (fun t u y => match bx_get bx u.toNat with
  | some q => ivK t q.1 q.2 (sN y)
  | none => none, kn6)
theorem knI_ok {bx : List (Nat × Nat × Nat)} {xs : Nat → Int32} (hb : ∀ q ∈ bx, q.2.1 ≤ sN (nmV xs q.1) ∧ sN (nmV xs q.1) ≤ q.2.2) (t : Nat) (u : UInt32) (y : Int32) (bb : Bool) (h : (knI bx).1 t u y = some bb) : bsem t (nmV xs u.toNat) y = bb := by
  have h : (match bx_get bx u.toNat with
    | some q => ivK t q.1 q.2 (sN y)
    | none => none) = some bb := h
  split at h
  · rename_i q hq
    obtain ⟨k1, k2⟩ := hb _ (bx_get_mem hq)
    exact ivK_ok k1 k2 h
  · cases h
def okR (o : Option sR) : Bool := match o with
  | some (some (.int x), _, nc, ns) => match b_eq x 1 with
    | true => match Nat.ble nc 600002 with
      | true => Nat.ble ns 7302232
      | false => false
    | false => false
  | _ => false
theorem okR_spec {o : Option sR} (h : okR o = true) : ∃ r, o = some r ∧ r.1 = some (.int 1) ∧ r.2.2.1 ≤ 600002 ∧ r.2.2.2 ≤ 7302232 := by
  unfold okR at h
  split at h
  · rename_i x w nc ns
    split at h
    · rename_i e
      have e : x = 1 := of_decide_eq_true ((b_eq_d x 1).symm.trans e)
      split at h
      · rename_i e2
        exact ⟨_, rfl, by rw [e], Nat.ble_eq.mp e2, Nat.ble_eq.mp h⟩
      · cases h
    · cases h
  · cases h
/-- the intervals between cuts -/
def ivs (cs : List Nat) : Nat → List (Nat × Nat) := List.rec (motive := fun _ => Nat → List (Nat × Nat)) (fun lo => [(lo, 4294967295)]) (fun c _ ih lo => (lo, Nat.pred c) :: ih c) cs
theorem ivs_cover (cs : List Nat) : ∀ lo n, lo ≤ n → n ≤ 4294967295 → ∃ q ∈ ivs cs lo, q.1 ≤ n ∧ n ≤ q.2 := by
  induction cs with
  | nil => intro lo n h1 h2; exact ⟨(lo, 4294967295), List.mem_cons_self, h1, h2⟩
  | cons c r ih =>
    intro lo n h1 h2
    by_cases e : n < c
    · exact ⟨(lo, Nat.pred c), List.mem_cons_self, h1, Nat.le_pred_of_lt e⟩
    · obtain ⟨q, hq, k⟩ := ih c n (by omega) h2
      exact ⟨q, List.mem_cons_of_mem _ hq, k⟩
theorem sN_le_max (x : Int32) : sN x ≤ 4294967295 := by
  have h := sN_int x
  have h2 := x.toInt_lt
  omega
theorem xa_mem {α : Type} {p : α → Bool} {l : List α} (h : xa p l = true) {a : α} (ha : a ∈ l) : p a = true := by
  rw [xa_eq] at h
  exact List.all_eq_true.mp h a ha
def bxOf (c : Nat) (i1 i2 i3 : Nat × Nat) : List (Nat × Nat × Nat) := [(20000, Nat.add 2147483648 c, Nat.add 2147483648 c), (1, i1), (2, i2), (3, i3)]
def runB (c : Nat) (i1 i2 i3 : Nat × Nat) : Option sR := mF (tL_law (knI (bxOf c i1 i2 i3)) gX gM) 7 1000000 [.ref 1000010] []
def chk (c : Nat) (s1 s2 s3 : List Nat) : Bool := xa (fun i1 => xa (fun i2 => xa (fun i3 => okR (runB c i1 i2 i3)) (ivs s3 0)) (ivs s2 0)) (ivs s1 0)
theorem chk_at {c : Nat} {s1 s2 s3 : List Nat} (h : chk c s1 s2 s3 = true) (xs : Nat → Int32) (hc : sN (nmV xs 20000) = 2147483648 + c) : ∃ bx, (∀ q ∈ bx, q.2.1 ≤ sN (nmV xs q.1) ∧ sN (nmV xs q.1) ≤ q.2.2) ∧ okR (mF (tL_law (knI bx) gX gM) 7 1000000 [.ref 1000010] []) = true := by
  obtain ⟨i1, m1, k1⟩ := ivs_cover s1 0 (sN (nmV xs 1)) (Nat.zero_le _) (sN_le_max _)
  obtain ⟨i2, m2, k2⟩ := ivs_cover s2 0 (sN (nmV xs 2)) (Nat.zero_le _) (sN_le_max _)
  obtain ⟨i3, m3, k3⟩ := ivs_cover s3 0 (sN (nmV xs 3)) (Nat.zero_le _) (sN_le_max _)
  refine ⟨bxOf c i1 i2 i3, ?_, xa_mem (xa_mem (xa_mem h m1) m2) m3⟩
  refine List.forall_mem_cons.mpr ⟨⟨Nat.le_of_eq hc.symm, Nat.le_of_eq hc⟩, List.forall_mem_cons.mpr ⟨k1, List.forall_mem_cons.mpr ⟨k2, List.forall_mem_cons.mpr ⟨k3, fun _ z => absurd z List.not_mem_nil⟩⟩⟩⟩
/-- cuts that leave the numbers from 0 to n - 1 alone -/
def cts (n : Nat) : List Nat := (List.range (n + 1)).map (fun k => 2147483648 + k)
def chk1 (c : Nat) (s2 s3 : List Nat) (i1 : Nat × Nat) : Bool := xa (fun i2 => xa (fun i3 => okR (runB c i1 i2 i3)) (ivs s3 0)) (ivs s2 0)
theorem chk_of {c : Nat} {s1 s2 s3 : List Nat} {l : List (Nat × Nat)} (e : ivs s1 0 = l) (h : ∀ i ∈ l, chk1 c s2 s3 i = true) : chk c s1 s2 s3 = true := by
  subst e
  show xa (chk1 c s2 s3) (ivs s1 0) = true
  rw [xa_eq]
  exact List.all_eq_true.mpr h
end
