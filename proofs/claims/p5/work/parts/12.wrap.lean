noncomputable section
-- ===== a method with a table of one row that always answers; its call =====
theorem z_ofWH {l : Launch} {y : MethodName} {ws ws' : List Cond} {rm : Room} {Pc : Array Value → State → Prop} {Qc : Array Value → State → Outcome → State → Prop} {mc ms : Nat} {free : Addr → Prop} {cc : ByteArray} {maxL : Nat} {ret : Option FieldType} {hh : List (Nat × Nat × Nat × Nat)}
    (hy : plainName y.cls = true) (hw : ws = Cond.codeWith y cc maxL ret hh :: ws')
    (body : ∀ p e s m args below meth c s₁, BodyLoose p l y (headSpec ws rm) cc maxL ret e s m args below meth c s₁ → c.maxLocals = maxL → Pc args s →
      W p l e (headSpec ws rm).room s m args below meth c s.heap [] 0 0 (MQ below Qc args s mc ms free) (entryFrame m args maxL)) : Met l y ws rm Pc Qc mc ms free := by
  refine MetFree.of_bodyS (code := cc) (maxLocals := maxL) (ret := ret) hy ?_ ?_
  · intro args s m h hn
    obtain ⟨m9, meth, c, hn9, h1, h2, h3, h4, -, h5, h6, -⟩ := Cond.codeWith_spec (atoms_spec (ws := ws) h _ (by rw [hw]; exact List.mem_cons_self))
    cases hn.symm.trans hn9
    exact ⟨meth, c, h1, h2, h3, h4, h5, h6⟩
  · intro p e s m args below meth c s₁ B hml hP _
    have hh0 : s₁.heap = s.heap := by rw [B.state]; rfl
    obtain ⟨t, a1, o, b1, b2, b3⟩ := body p e s m args below meth c s₁ B hml hP s₁ hh0 (Stand.of_body B)
    exact ⟨t, o, a1, b1, b2, ⟨b3.1, b3.2⟩⟩
theorem mM_ofH {kn : sKn} {y : MethodName} {cc : ByteArray} {nL : Nat} {ws' : List Cond} {D : Nat} {rt : FieldType} {own : String} {hh : List (Nat × Nat × Nat × Nat)} {x : ExceptionTableEntry} {tbl : List (Nat × sA)} (ho : y.cls = own) (hpl : plainName y.cls = true) (hx : tableOf hh = [x]) (ht : tOkT x kn cc own nL ws' D (some rt) false tbl) (n : Nat) : mM kn y (Cond.codeWith y cc nL (some rt) hh :: ws') D false (mF tbl nL n) := by
  subst ho
  intro l hst dC dI cy av w r hf hv0 ρ sz
  unfold mF at hf
  split at hf
  · rename_i hlen
    refine z_ofWH (cc := cc) (maxL := nL) (ret := some rt) (hh := hh) hpl rfl ?_
    intro p e s m args below meth c s₁ B hml hv
    obtain ⟨rfl, hsz, hP, hK, hD0⟩ := hv
    have hts := atoms_spec (ws := Cond.codeWith y cc nL (some rt) hh :: ws') B.pre
    have hown : s.vm.findClass y.cls = some m.cls := findClass_of_methodNamed B.named
    have htab : c.exceptionTable.toList = [x] := (vx_table (x := y) B (hts _ List.mem_cons_self)).trans hx
    subst hsz
    have X : mX kn p l e (headSpec (Cond.codeWith y cc nL (some rt) hh :: ws') ({ frames := D, cells := r.2.2.1, slots := r.2.2.2, locals := 40 * D } : Room)).room s m (av.map (dv ρ)).toArray below meth c dC dI cy (va_A (dW ρ cy w) s.heap.size) ρ w.length (mQ dC dI cy ρ w s.heap.size r) (MQ below (mQ dC dI cy ρ w s.heap.size r) (av.map (dv ρ)).toArray s r.2.2.1 r.2.2.2 (va_A (dW ρ cy w) s.heap.size)) cc y.cls nL ws' D (some rt) false r :=
      ⟨⟨B.exec, B.bytes, hml, hown, fun w h => hts w (List.mem_cons_of_mem _ h)⟩, B.returns, B.notSynchronized, hK, fun q h => Or.inr h, ⟨Nat.le_refl _, Nat.le_refl _⟩, ⟨Nat.le_refl _, Nat.le_refl _⟩, (fun h => by cases h), (fun _ ρ' H locs t hag hln hP hD hS ht hW => ⟨⟨ρ', hag, hln, rfl, by rw [ht]; exact hP, hD⟩, hS.F ht⟩), ⟨fun _ h => h, hst⟩, fun h1 h2 => by
        rw [h2] at hv0
        cases hv0⟩
    have G := run_okT ht htab X n 0 _ hf
    have hl := lv_entry (av.map (dv ρ)) (n := nL) (by rw [lg_sl_len]; exact Nat.le_of_ble_eq_true hlen)
    rw [lg_entry_eq]
    rw [lv_args_dv] at hl
    exact G.2 s.heap [] _ ρ (fun _ _ => rfl) (Nat.le_refl _) hP hD0.self va_S.rf hl
  · cases hf
theorem good_wsW {Ts ws' : List Cond} {y : MethodName} {cy : ByteArray} {n : Nat} {ret : Option FieldType} {hh : List (Nat × Nat × Nat × Nat)} (hg : ∀ w ∈ Ts, goodWord w = true) (hs : ∀ w ∈ ws', w ∈ Ts) (hc : Cond.codeWith y cy n ret hh ∈ Ts) : GoodIn Ts (Cond.codeWith y cy n ret hh :: ws') := by
  intro w hw
  rcases List.mem_cons.mp hw with h | h
  · rw [h]
    exact ⟨hc, good_of_word (hg _ hc)⟩
  · exact ⟨hs w h, good_of_word (hg _ (hs w h))⟩
theorem ok_callSW {kn : sKn} {cc : ByteArray} {own : String} {nL : Nat} {Ts : List Cond} {D : Nat} {ret : Option FieldType} {ini : Bool} {pc : Nat} {y : MethodName} {bytes : ByteArray} {maxL : Nat} {rt : Option FieldType} {hh : List (Nat × Nat × Nat × Nat)} {ws' : List Cond} {D' index na : Nat} {vd : Bool} {f : List Value → sW → Option sR} (hM : mM kn y (Cond.codeWith y bytes maxL rt hh :: ws') D' vd f) (hG : GoodIn Ts (Cond.codeWith y bytes maxL rt hh :: ws')) (hDD : D' + 1 ≤ D) (hml : maxL ≤ 21) (hlink : Cond.methodLink own index y ∈ Ts) (hst : Cond.static y ∈ Ts) (hini : Cond.initialized y.cls ∈ Ts) (hy : y.cls ≠ "java/lang/invoke/MethodHandle" ∧ y.cls ≠ "java/lang/invoke/VarHandle" ∧ (parseMethodDescriptor y.desc).map (fun d => d.parameters.length) = some na) (hd : decode cc pc = .ok (.invokestatic index, 3)) : mOk kn cc own nL Ts D ret ini pc (a_callS vd f na (pc + 3)) := by
  intro p l e R s m args below meth c dC dI cy A ρ0 n0 Qc Q r X k hk ss h
  obtain ⟨lv, st, w, nc, ns⟩ := ss
  unfold a_callS at h
  split at h
  · rename_i hok
    obtain ⟨k1, k2, k3, k4⟩ := c_ok_p hok
    dsimp only at k1 k2 k3 k4 h
    unfold a_back at h
    split at h
    · rename_i r1 hf
      split at h
      case h_2 => cases h
      rename_i hvd
      have K := hk _ _ h
      have hb := K.1
      dsimp only at hb
      refine ⟨by dsimp only; omega, fun H locs ls ρ hag hn hP hD hS hl => ?_⟩
      dsimp only at hn hP hD hl ⊢
      have hsub := va_A_sub (dC := dC) hD hS X.2.2.2.2.1
      have hcm : Cond.codeWith y bytes maxL rt hh ∈ (Cond.codeWith y bytes maxL rt hh :: ws') := List.mem_cons_self
      have hcw : vx_CSW R s args own index y bytes maxL rt hh (Cond.codeWith y bytes maxL rt hh :: ws') { frames := D', cells := r1.2.2.1, slots := r1.2.2.2, locals := 40 * D' } r1.2.2.1 r1.2.2.2 na :=
        ⟨⟨rfl, rfl, Nat.le_trans hDD X.2.2.2.2.2.2.1.1, by have := X.2.2.2.2.2.2.1.2; show 8 + (maxL + 11) + 40 * D' ≤ _; omega, pay_in X.1.2.2.2.2 hG, hcm⟩, X.1.2.2.2.2 _ (hG _ hcm).1, X.1.2.2.2.2 _ hini, ⟨hy.1, hy.2.1⟩, fun sig hs => by
          have h2 := hy.2.2
          rw [hs] at h2
          exact (Option.some.inj h2).symm, X.1.2.2.2.2 _ hlink, X.1.2.2.2.2 _ hst⟩
      refine z_call (vx_runSW (As := (st.take na).reverse.map (dv ρ)) (rest := (st.drop na).map (dv ρ)) X.1 (hM l X.2.2.2.2.2.2.2.2.2.1.2 dC dI cy _ w r1 hf hvd ρ H.size) hcw ⟨mPc_blind, fun U hU hW => ⟨rfl, by rw [hU], by rw [hU]; exact hP, mK_move X.2.2.2.1 hW.alike (mN_warm hW) hsub (fun q h1 h2 => by rw [hU]; exact hS.2.1 q h1 h2) (fun k hk => hag k (Or.inr hk)), hD.weaken (fun _ _ _ _ => trivial)⟩⟩ rfl (by simp; omega) hl.1 (by show st.map (dv ρ) = _; rw [List.map_reverse, List.reverse_reverse, ← List.map_append, List.take_append_drop]) (lv_room (by rw [cat_map]; exact k2)) hd ⟨Nat.le_trans hb.1 X.2.2.2.2.2.1.1, Nat.le_trans hb.2 X.2.2.2.2.2.1.2⟩) hS hsub (fun ρ' H1 locs1 hag1 hln hP1 hD1 hS1 => ?_)
      exact z_cont K.2 hag hn hag1 hln hP1 hD1 hS1 hl k3 k4
    · cases h
  · cases h
end
