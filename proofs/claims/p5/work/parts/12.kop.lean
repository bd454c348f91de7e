noncomputable section
-- ===== operations on ints that aren't known =====
/-- which of 0, 1 .. n - 1 it is, where that is known -/
def fv (kn : sKn) (u : UInt32) (n : Nat) : Option Int32 := Nat.rec (motive := fun _ => Option Int32) none (fun n ih => match kn.1 0 u (Int32.ofNat n) with
  | some true => some (Int32.ofNat n)
  | _ => ih) n
theorem fv_ok {kn : sKn} {u : UInt32} {c : Int32} (n : Nat) (h : fv kn u n = some c) : kn.1 0 u c = some true := by
  induction n with
  | zero => cases h
  | succ n ih =>
    have h : (match kn.1 0 u (Int32.ofNat n) with
      | some true => some (Int32.ofNat n)
      | _ => fv kn u n) = some c := h
    split at h
    · rename_i e
      cases h
      exact e
    · exact ih h
def a_kop (kn : sKn) (t : Nat) (q : List Value → Option (List Value)) (np : Nat) : sA := fun k ss => match ss.2.1 with
  | .int y :: .float u :: st => match kd t u y with
    | some u' => match fv kn u' 64 with
      | some c => k np (ss.1, .int c :: st, ss.2.2)
      | none => k np (ss.1, .float u' :: st, ss.2.2)
    | none => none
  | _ => a_stk q np k ss
theorem eq_of_bsem {b : Int32 → Int32 → Bool} (hbd : ∀ x y, b x y = decide (x = y)) (hbs : ∀ x y, bsem 0 x y = b x y) {x y : Int32} (h : bsem 0 x y = true) : x = y := of_decide_eq_true ((hbd x y).symm.trans ((hbs x y).symm.trans h))
theorem ok_kop {kn : sKn} {cc : ByteArray} {own : String} {nL : Nat} {Ts : List Cond} {D : Nat} {ret : Option FieldType} {ini : Bool} {pc np t : Nat} {q : List Value → Option (List Value)} (hf : stkOk cc pc np q) (hq : ∀ x y st, q (.int y :: .int x :: st) = some (.int (osem t x y) :: st)) : mOk kn cc own nL Ts D ret ini pc (a_kop kn t q np) := by
  intro p l e R s m args below meth c dC dI cy A ρ0 n0 Qc Q r X k hk ss h
  obtain ⟨lv, st, w, nc, ns⟩ := ss
  unfold a_kop at h
  split at h
  · rename_i y u st' hs
    dsimp only at hs
    subst hs
    split at h
    · rename_i u' hu
      split at h
      · rename_i c' hc
        have K := hk _ _ h
        refine ⟨K.1, fun H locs ls ρ hag hn hP hD hS hl => ?_⟩
        have e1 : vi ρ u' = osem t (vi ρ u) y := by
          rw [vi_ag (fun k hk => hag k (Or.inr hk)), vi_ag (fun k hk => hag k (Or.inr hk))]
          exact X.2.2.2.1.2.1.2.2.2 t u y u' hu
        have e2 : vi ρ u' = c' := eq_of_bsem b_eq_d bsem_0 (kn_at X.2.2.2.1.2.1.2.2 hag (fv_ok 64 hc))
        have G := K.2 H locs ls ρ hag hn hP hD hS hl
        refine hf p l e R s m args below meth c H locs nc ns _ ls ρ (.int y :: .int (vi ρ u) :: st') (.int (osem t (vi ρ u) y) :: st') X.1.1 X.1.2.1 (hq _ _ _) ?_
        rw [← e1, e2]
        exact G
      · have K := hk _ _ h
        refine ⟨K.1, fun H locs ls ρ hag hn hP hD hS hl => ?_⟩
        have e1 : vi ρ u' = osem t (vi ρ u) y := by
          rw [vi_ag (fun k hk => hag k (Or.inr hk)), vi_ag (fun k hk => hag k (Or.inr hk))]
          exact X.2.2.2.1.2.1.2.2.2 t u y u' hu
        have G := K.2 H locs ls ρ hag hn hP hD hS hl
        refine hf p l e R s m args below meth c H locs nc ns _ ls ρ (.int y :: .int (vi ρ u) :: st') (.int (osem t (vi ρ u) y) :: st') X.1.1 X.1.2.1 (hq _ _ _) ?_
        rw [← e1]
        exact G
    · cases h
  · exact ok_stk hf p l e R s m args below meth c dC dI cy A ρ0 n0 Qc Q r X k hk (lv, st, w, nc, ns) h
theorem ok_kushr {kn : sKn} {cc : ByteArray} {own : String} {nL : Nat} {Ts : List Cond} {D : Nat} {ret : Option FieldType} {ini : Bool} {pc : Nat} (hd : decode cc pc = .ok (.iushr, 1)) : mOk kn cc own nL Ts D ret ini pc (a_kop kn 0 q_iushr (pc + 1)) := ok_kop (s_iushr hd) (fun _ _ _ => rfl)
theorem ok_kand {kn : sKn} {cc : ByteArray} {own : String} {nL : Nat} {Ts : List Cond} {D : Nat} {ret : Option FieldType} {ini : Bool} {pc : Nat} (hd : decode cc pc = .ok (.iand, 1)) : mOk kn cc own nL Ts D ret ini pc (a_kop kn 1 q_iand (pc + 1)) := ok_kop (s_iand hd) (fun _ _ _ => rfl)
end
