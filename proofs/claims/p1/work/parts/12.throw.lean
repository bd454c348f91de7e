noncomputable section
-- ===== methods that throw NoSuchElementException; a call of such a one where it is caught =====
theorem table_nil {c : Code} (h : ∀ x ∈ c.exceptionTable.toList, False) : c.exceptionTable.toList = [] := List.eq_nil_iff_forall_not_mem.mpr h
abbrev NSE : String := "java/util/NoSuchElementException"
abbrev nseN : List String := ["java/lang/RuntimeException", "java/lang/Exception"]
def a_throw : sA := fun _ ss => match Nat.ble (ss.2.1.map fun v => v.category).sum 8 with
  | true => some (none, ss.2.2.1, ss.2.2.2.1 + 1, ss.2.2.2.2 + 6)
  | false => none
theorem nse_ng : ∀ w ∈ (vx_at0 RX11 156 NSE nseN).filter (fun w => !goodWord w), w ∈ Cond.castable NSE NSE :: nseD.map Cond.declares := by decide +kernel
theorem nse_ot : ∀ w ∈ Cond.classLink RX11 154 NSE :: Cond.initialized NSE :: vx_at0 RX11 156 NSE nseN, vx_ot w = true := by decide +kernel
theorem ok_throw {kn : sKn} {cc : ByteArray} {nL : Nat} {Ts : List Cond} {D : Nat} {ini : Bool} {pc : Nat} (hD6 : 6 ≤ D) (hk : Cond.classLink RX11 154 NSE ∈ Ts) (hini : Cond.initialized NSE ∈ Ts) (hat : ∀ w ∈ (vx_at0 RX11 156 NSE nseN).filter goodWord, w ∈ Ts) (d0 : decode cc pc = .ok (.new 154, 3)) (d3 : decode cc (pc + 3) = .ok (.dup, 1)) (d4 : decode cc (pc + 4) = .ok (.invokespecial 156, 3)) (d7 : decode cc (pc + 7) = .ok (.athrow, 1)) : mOk kn cc RX11 nL Ts D (some .int) ini pc a_throw := by
  intro p l e R s m args below meth c dC dI cy A ρ0 n0 Qc Q r X k hk' ss h
  obtain ⟨lv, st, w, nc, ns⟩ := ss
  unfold a_throw at h
  split at h
  · rename_i hc
    have hc := Nat.ble_eq.mp hc
    cases h
    obtain ⟨hl, htb, Q', XC, rfl, hx⟩ := X.2.2.2.2.2.2.2.2.2.2 (fun z => by cases z) rfl
    refine ⟨⟨Nat.le_add_right _ _, Nat.le_add_right _ _⟩, fun H locs ls ρ hag hn hP hD hS hl' => ?_⟩
    have hfr := X.2.2.2.2.2.2.1.1
    have hlo := X.2.2.2.2.2.2.1.2
    dsimp only at hc hl' ⊢
    exact vx_throw0 (own := RX11) (cls := NSE) (names := nseN) (ik := 154) (ic := 156) X.1.1 X.1.2.1 hl X.1.2.2.2.1 (by decide +kernel) (by decide +kernel) (X.1.2.2.2.2 _ hk) (X.1.2.2.2.2 _ hini) (vx_hat (fun w hw => X.1.2.2.2.2 _ (hat w hw)) nse_ng (vx_c (va_Nw.use rfl X.2.2.2.1.2.1.2.1.2.2.1) (fun w hw => by
      obtain ⟨q, hq, rfl⟩ := List.mem_map.mp hw
      exact va_Nw.use rfl (X.2.2.2.1.2.1.2.1.2.2.2 q hq)))) nse_ot X.2.2.2.1.2.2.2.2.2.2.2.2.1 X.2.2.2.1.2.2.2.2.2.2.2.2.2 hS (hl'.1.trans X.1.2.2.1.symm) d0 d3 d4 d7 (by rw [htb]; intro x hx; cases hx) (by show 2 + 3 < _; omega) (by rw [cat_map]; show _ + (13 * (2 + 1) + 42) ≤ _; omega) X.2.2.2.2.2.1.1 X.2.2.2.2.2.1.2 X.2.2.1 (fun t h1 h2 h3 => hx ρ H locs t hag hn hP hD hS h1 h2 h3) hS.2.2 (Nat.le_refl _) (Nat.le_refl _)
  · cases h
/-- where a method has thrown: what is so then -/
def mQx (dC : Nat → ClassId) (dI : Nat → Nat → Nat) (cy : Nat → ClassId) (ρ : Nat → Nat) (w : sW) (sz : Nat) (r : sR) : String → State → State → Prop := fun E st t =>
  r.1 = none ∧ E = NSE ∧ (∃ ρ' : Nat → Nat, ag w.length ρ' ρ ∧ w.length ≤ r.2.1.length ∧ va_P (dC, dI) vwCl (dW ρ' cy r.2.1) t.heap ∧ va_D (va_A (dW ρ cy w) sz) (dW ρ' cy r.2.1)) ∧ va_F (va_A (dW ρ cy w) sz) st t
/-- the function f says what method y does, which answers an int or throws (the answer is none then) -/
def mV (kn : sKn) (y : MethodName) (ws : List Cond) (D : Nat) (f : List Value → sW → Option sR) : Prop :=
  ∀ (l : Launch) (dC : Nat → ClassId) (dI : Nat → Nat → Nat) (cy : Nat → ClassId) (av : List Value) (w : sW) (r : sR), l.stackTraces = false → f av w = some r → ∀ (ρ : Nat → Nat) (sz : Nat),
    vx_Met l y ws ({ frames := D, cells := r.2.2.1, slots := r.2.2.2, locals := 40 * D }) (mPc kn dC dI cy ρ av w sz) (fun a st o t => r.1 ≠ none ∧ mQ dC dI cy ρ w sz r a st o t) (mQx dC dI cy ρ w sz r) r.2.2.1 r.2.2.2 (va_A (dW ρ cy w) sz)
theorem va_K_P_old {A : Nat → Prop} {dC : Nat → ClassId} {dI : Nat → Nat → Nat} {ws : va_W} {H H1 : Heap} (hP : va_P (dC, dI) vwCl ws H) (h : ∀ q : Nat, q < H.size → H1[q]? = H[q]?) : va_P (dC, dI) vwCl ws H1 := hP.kept (fun k q hk => h q.1 (hP k q hk).lt)
theorem mV_of {kn : sKn} {y : MethodName} {cc : ByteArray} {nL : Nat} {ws' : List Cond} {D : Nat} {own : String} {tbl : List (Nat × sA)} (ho : y.cls = own) (hpl : plainName y.cls = true) (ht : tOk kn cc own nL ws' D (some .int) false tbl) (n : Nat) : mV kn y (Cond.code y cc nL (some .int) :: ws') D (mF tbl nL n) := by
  subst ho
  intro l dC dI cy av w r hst hf ρ sz
  unfold mF at hf
  split at hf
  · rename_i hlen
    refine vx_ofW (cc := cc) (maxL := nL) (ret := some .int) hpl rfl ?_
    intro p e s m args below meth c s₁ B hml htab hv
    obtain ⟨rfl, hsz, hP, hK, hD0⟩ := hv
    have hts := atoms_spec (ws := Cond.code y cc nL (some .int) :: ws') B.pre
    have hown : s.vm.findClass y.cls = some m.cls := findClass_of_methodNamed B.named
    subst hsz
    have X : mX kn p l e (headSpec (Cond.code y cc nL (some .int) :: ws') ({ frames := D, cells := r.2.2.1, slots := r.2.2.2, locals := 40 * D } : Room)).room s m (av.map (dv ρ)).toArray below meth c dC dI cy (va_A (dW ρ cy w) s.heap.size) ρ w.length (fun a st o t => r.1 ≠ none ∧ mQ dC dI cy ρ w s.heap.size r a st o t) (vx_MQ below (fun a st o t => r.1 ≠ none ∧ mQ dC dI cy ρ w s.heap.size r a st o t) (mQx dC dI cy ρ w s.heap.size r) (av.map (dv ρ)).toArray s r.2.2.1 r.2.2.2 (va_A (dW ρ cy w) s.heap.size)) cc y.cls nL ws' D (some .int) false r :=
      ⟨⟨B.exec, B.bytes, hml, hown, fun w h => hts w (List.mem_cons_of_mem _ h)⟩, B.returns, B.notSynchronized, hK, fun q h => Or.inr h, ⟨Nat.le_refl _, Nat.le_refl _⟩, ⟨Nat.le_refl _, Nat.le_refl _⟩, (fun h => by cases h), (fun hne ρ' H locs t hag hln hP hD hS ht hW => ⟨hne.elim (fun z => by cases z) id, ⟨ρ', hag, hln, rfl, by rw [ht]; exact hP, hD⟩, hS.F ht⟩), (fun t ⟨o, b1, b2, b3, b4⟩ => ⟨o, b1, b2, Or.inl ⟨b3, b4⟩⟩), fun _ h2 => ⟨hst, table_nil htab, _, _, rfl, fun ρ' H locs t hag hln hP hD hS h1 h3 h4 => ⟨h2, rfl, ⟨ρ', hag, hln, va_K_P_old (A := fun _ => True) hP h4, hD⟩, Nat.le_trans hS.1 h3, fun q g1 g2 => (h4 q (Nat.lt_of_lt_of_le g1 hS.1)).trans (hS.2.1 q g1 g2)⟩⟩⟩
    have G := run_ok ht X n 0 _ hf
    have hl := lv_entry (av.map (dv ρ)) (n := nL) (by rw [lg_sl_len]; exact Nat.le_of_ble_eq_true hlen)
    rw [lg_entry_eq]
    rw [lv_args_dv] at hl
    exact G.2 s.heap [] _ ρ (fun _ _ => rfl) (Nat.le_refl _) hP hD0.self va_S.rf hl
  · cases hf
end
