noncomputable section
-- ===== methods that throw NoSuchElementException; a call of such a one where it is caught =====
theorem table_nil {c : Code} (h : ∀ x ∈ c.exceptionTable.toList, False) : c.exceptionTable.toList = [] := List.eq_nil_iff_forall_not_mem.mpr h
abbrev NSE : String := "java/util/NoSuchElementException"
abbrev nseN : List String := ["java/lang/RuntimeException", "java/lang/Exception"]
def a_throw : sA := fun _ ss => match Nat.ble (ss.2.1.map fun v => v.category).sum 8 with
  | true => some (none, ss.2.2.1, ss.2.2.2.1 + 1, ss.2.2.2.2 + 6)
  | false => none
theorem nse_ng : ∀ w ∈ (vx_at0 RX11 156 NSE nseN).filter (fun w => !goodWord w), w ∈ Cond.castable NSE NSE :: nseD.map Cond.declares := by decide +kernel
theorem nse_ot : ∀ w ∈ Cond.classLink RX11 154 NSE :: Cond.initialized NSE :: vx_at0 RX11 156 NSE nseN, vx_ot w = true := by decide +kernel
theorem ok_throw {kn : sKn} {cc : ByteArray} {nL : Nat} {Ts : List Cond} {D : Nat} {ini : Bool} {pc : Nat} (hD6 : 6 ≤ D) (hk : Cond.classLink RX11 154 NSE ∈ Ts) (hini : Cond.initialized NSE ∈ Ts) (hat : ∀ w ∈ (vx_at0 RX11 156 NSE nseN).filter goodWord, w ∈ Ts) (d0 : decode cc pc = .ok (.new 154, 3)) (d3 : decode cc (pc + 3) = .ok (.dup, 1)) (d4 : decode cc (pc + 4) = .ok (.invokespecial 156, 3)) (d7 : decode cc (pc + 7) = .ok (.athrow, 1)) : mOk kn cc RX11 nL Ts D (some .int) ini pc a_throw := by
  intro p l e R s m args below meth c dC dI cy A ρ0 n0 Qc Q r X k hk' ss h
  obtain ⟨lv, st, w, nc, ns⟩ := ss
  unfold a_throw at h
  split at h
  · rename_i hc
    have hc := Nat.ble_eq.mp hc
    cases h
    obtain ⟨hl, htb, Q', XC, rfl, hx⟩ := X.2.2.2.2.2.2.2.2.2.2 (fun z => by cases z) rfl
    refine ⟨⟨Nat.le_add_right _ _, Nat.le_add_right _ _⟩, fun H locs ls ρ hag hn hP hD hS hl' => ?_⟩
    have hfr := X.2.2.2.2.2.2.1.1
    have hlo := X.2.2.2.2.2.2.1.2
    dsimp only at hc hl' ⊢
    exact vx_throw0 (own := RX11) (cls := NSE) (names := nseN) (ik := 154) (ic := 156) X.1.1 X.1.2.1 hl X.1.2.2.2.1 (by decide +kernel) (by decide +kernel) (X.1.2.2.2.2 _ hk) (X.1.2.2.2.2 _ hini) (vx_hat (fun w hw => X.1.2.2.2.2 _ (hat w hw)) nse_ng (vx_c (va_Nw.use rfl X.2.2.2.1.2.1.2.1.2.2.1) (fun w hw => by
      obtain ⟨q, hq, rfl⟩ := List.mem_map.mp hw
      exact va_Nw.use rfl (X.2.2.2.1.2.1.2.1.2.2.2.1 q hq)))) nse_ot X.2.2.2.1.2.2.2.2.2.2.2.2.1 X.2.2.2.1.2.2.2.2.2.2.2.2.2.1 hS (hl'.1.trans X.1.2.2.1.symm) d0 d3 d4 d7 (by rw [htb]; intro x hx; cases hx) (by show 2 + 3 < _; omega) (by rw [cat_map]; show _ + (13 * (2 + 1) + 42) ≤ _; omega) X.2.2.2.2.2.1.1 X.2.2.2.2.2.1.2 X.2.2.1 (fun t h1 h2 h3 => hx ρ H locs t hag hn hP hD hS h1 h2 h3) hS.2.2 (Nat.le_refl _) (Nat.le_refl _)
  · cases h
/-- where a method has thrown: what is so then -/
def mQx (dC : Nat → ClassId) (dI : Nat → Nat → Nat) (cy : Nat → ClassId) (ρ : Nat → Nat) (w : sW) (sz : Nat) (r : sR) : String → State → State → Prop := fun E st t =>
  r.1 = none ∧ E = NSE ∧ (∃ ρ' : Nat → Nat, ag w.length ρ' ρ ∧ w.length ≤ r.2.1.length ∧ va_P (dC, dI) vwCl (dW ρ' cy r.2.1) t.heap ∧ va_D (va_A (dW ρ cy w) sz) (dW ρ' cy r.2.1)) ∧ va_F (va_A (dW ρ cy w) sz) st t
/-- the function f says what method y does, which answers an int or throws (the answer is none then) -/
def mV (kn : sKn) (y : MethodName) (ws : List Cond) (D : Nat) (f : List Value → sW → Option sR) : Prop :=
  ∀ (l : Launch) (dC : Nat → ClassId) (dI : Nat → Nat → Nat) (cy : Nat → ClassId) (av : List Value) (w : sW) (r : sR), l.stackTraces = false → f av w = some r → ∀ (ρ : Nat → Nat) (sz : Nat),
    vx_Met l y ws ({ frames := D, cells := r.2.2.1, slots := r.2.2.2, locals := 40 * D }) (mPc kn dC dI cy ρ av w sz) (fun a st o t => r.1 ≠ none ∧ mQ dC dI cy ρ w sz r a st o t) (mQx dC dI cy ρ w sz r) r.2.2.1 r.2.2.2 (va_A (dW ρ cy w) sz)
theorem va_K_P_old {A : Nat → Prop} {dC : Nat → ClassId} {dI : Nat → Nat → Nat} {ws : va_W} {H H1 : Heap} (hP : va_P (dC, dI) vwCl ws H) (h : ∀ q : Nat, q < H.size → H1[q]? = H[q]?) : va_P (dC, dI) vwCl ws H1 := hP.kept (fun k q hk => h q.1 (hP k q hk).lt)
theorem mV_of {kn : sKn} {y : MethodName} {cc : ByteArray} {nL : Nat} {ws' : List Cond} {D : Nat} {own : String} {tbl : List (Nat × sA)} (ho : y.cls = own) (hpl : plainName y.cls = true) (ht : tOk kn cc own nL ws' D (some .int) false tbl) (n : Nat) : mV kn y (Cond.code y cc nL (some .int) :: ws') D (mF tbl nL n) := by
  subst ho
  intro l dC dI cy av w r hst hf ρ sz
  unfold mF at hf
  split at hf
  · rename_i hlen
    refine vx_ofW (cc := cc) (maxL := nL) (ret := some .int) hpl rfl ?_
    intro p e s m args below meth c s₁ B hml htab hv
    obtain ⟨rfl, hsz, hP, hK, hD0⟩ := hv
    have hts := atoms_spec (ws := Cond.code y cc nL (some .int) :: ws') B.pre
    have hown : s.vm.findClass y.cls = some m.cls := findClass_of_methodNamed B.named
    subst hsz
    have X : mX kn p l e (headSpec (Cond.code y cc nL (some .int) :: ws') ({ frames := D, cells := r.2.2.1, slots := r.2.2.2, locals := 40 * D } : Room)).room s m (av.map (dv ρ)).toArray below meth c dC dI cy (va_A (dW ρ cy w) s.heap.size) ρ w.length (fun a st o t => r.1 ≠ none ∧ mQ dC dI cy ρ w s.heap.size r a st o t) (vx_MQ below (fun a st o t => r.1 ≠ none ∧ mQ dC dI cy ρ w s.heap.size r a st o t) (mQx dC dI cy ρ w s.heap.size r) (av.map (dv ρ)).toArray s r.2.2.1 r.2.2.2 (va_A (dW ρ cy w) s.heap.size)) cc y.cls nL ws' D (some .int) false r :=
      ⟨⟨B.exec, B.bytes, hml, hown, fun w h => hts w (List.mem_cons_of_mem _ h)⟩, B.returns, B.notSynchronized, hK, fun q h => Or.inr h, ⟨Nat.le_refl _, Nat.le_refl _⟩, ⟨Nat.le_refl _, Nat.le_refl _⟩, (fun h => by cases h), (fun hne ρ' H locs t hag hln hP hD hS ht hW => ⟨hne.elim (fun z => by cases z) id, ⟨ρ', hag, hln, rfl, by rw [ht]; exact hP, hD⟩, hS.F ht⟩), ⟨(fun t ⟨o, b1, b2, b3, b4⟩ => ⟨o, b1, b2, Or.inl ⟨b3, b4⟩⟩), hst⟩, fun _ h2 => ⟨hst, table_nil htab, _, _, rfl, fun ρ' H locs t hag hln hP hD hS h1 h3 h4 => ⟨h2, rfl, ⟨ρ', hag, hln, va_K_P_old (A := fun _ => True) hP h4, hD⟩, Nat.le_trans hS.1 h3, fun q g1 g2 => (h4 q (Nat.lt_of_lt_of_le g1 hS.1)).trans (hS.2.1 q g1 g2)⟩⟩⟩
    have G := run_ok ht X n 0 _ hf
    have hl := lv_entry (av.map (dv ρ)) (n := nL) (by rw [lg_sl_len]; exact Nat.le_of_ble_eq_true hlen)
    rw [lg_entry_eq]
    rw [lv_args_dv] at hl
    exact G.2 s.heap [] _ ρ (fun _ _ => rfl) (Nat.le_refl _) hP hD0.self va_S.rf hl
  · cases hf
-- ===== a method with a table of one row =====
/-- an act is right in a method whose table is [x] -/
def mOkT (x : ExceptionTableEntry) (kn : sKn) (cc : ByteArray) (own : String) (nL : Nat) (Ts : List Cond) (D : Nat) (ret : Option FieldType) (ini : Bool) (pc : Nat) (act : sA) : Prop :=
  ∀ (p : Program) (l : Launch) (e : Env) (R : Room) (s : State) (m : MethodId) (args : Array Value) (below : List Frame) (meth : Method) (c : Code) (dC : Nat → ClassId) (dI : Nat → Nat → Nat) (cy : Nat → ClassId) (A : Nat → Prop) (ρ0 : Nat → Nat) (n0 : Nat) (Qc : Array Value → State → Outcome → State → Prop) (Q : State → Prop) (r : sR), c.exceptionTable.toList = [x] →
    mX kn p l e R s m args below meth c dC dI cy A ρ0 n0 Qc Q cc own nL Ts D ret ini r → ∀ k : sK, (∀ pc' ss', k pc' ss' = some r → mG p l e R s m args below meth c dC dI cy A ρ0 n0 nL Q r pc' ss') → ∀ ss, act k ss = some r → mG p l e R s m args below meth c dC dI cy A ρ0 n0 nL Q r pc ss
theorem ok_T {x : ExceptionTableEntry} {kn : sKn} {cc : ByteArray} {own : String} {nL : Nat} {Ts : List Cond} {D : Nat} {ret : Option FieldType} {ini : Bool} {pc : Nat} {act : sA} (h : mOk kn cc own nL Ts D ret ini pc act) : mOkT x kn cc own nL Ts D ret ini pc act := fun p l e R s m args below meth c dC dI cy A ρ0 n0 Qc Q r _ X k hk ss hs => h p l e R s m args below meth c dC dI cy A ρ0 n0 Qc Q r X k hk ss hs
def tOkT (x : ExceptionTableEntry) (kn : sKn) (cc : ByteArray) (own : String) (nL : Nat) (Ts : List Cond) (D : Nat) (ret : Option FieldType) (ini : Bool) (tbl : List (Nat × sA)) : Prop := ∀ q ∈ tbl, mOkT x kn cc own nL Ts D ret ini q.1 q.2
theorem alT_c {x : ExceptionTableEntry} {kn : sKn} {cc : ByteArray} {own : String} {nL : Nat} {Ts : List Cond} {D : Nat} {ret : Option FieldType} {ini : Bool} {pc : Nat} {act : sA} {l : List (Nat × sA)} (h : mOkT x kn cc own nL Ts D ret ini pc act) (hl : tOkT x kn cc own nL Ts D ret ini l) : tOkT x kn cc own nL Ts D ret ini ((pc, act) :: l) := List.forall_mem_cons.mpr ⟨h, hl⟩
theorem alT_n {x : ExceptionTableEntry} {kn : sKn} {cc : ByteArray} {own : String} {nL : Nat} {Ts : List Cond} {D : Nat} {ret : Option FieldType} {ini : Bool} : tOkT x kn cc own nL Ts D ret ini [] := fun _ h => absurd h List.not_mem_nil
theorem run_okT {x : ExceptionTableEntry} {kn : sKn} {cc : ByteArray} {own : String} {nL : Nat} {Ts : List Cond} {D : Nat} {ret : Option FieldType} {ini : Bool} {tbl : List (Nat × sA)} (ht : tOkT x kn cc own nL Ts D ret ini tbl)
    {p : Program} {l : Launch} {e : Env} {R : Room} {s : State} {m : MethodId} {args : Array Value} {below : List Frame} {meth : Method} {c : Code} {dC : Nat → ClassId} {dI : Nat → Nat → Nat} {cy : Nat → ClassId} {A : Nat → Prop} {ρ0 : Nat → Nat} {n0 : Nat} {Qc : Array Value → State → Outcome → State → Prop} {Q : State → Prop} {r : sR} (hx : c.exceptionTable.toList = [x])
    (X : mX kn p l e R s m args below meth c dC dI cy A ρ0 n0 Qc Q cc own nL Ts D ret ini r) : ∀ (n pc : Nat) (ss : sS), runT tbl n pc ss = some r → mG p l e R s m args below meth c dC dI cy A ρ0 n0 nL Q r pc ss := by
  intro n
  induction n with
  | zero => intro pc ss h; cases h
  | succ n ih =>
    intro pc ss h
    have h : (match t_get tbl pc with
      | some act => act (runT tbl n) ss
      | none => none) = some r := h
    split at h
    · rename_i act ha
      exact ht _ (t_get_mem ha) p l e R s m args below meth c dC dI cy A ρ0 n0 Qc Q r hx X (runT tbl n) ih ss h
    · cases h
theorem z_callX {p : Program} {l : Launch} {e : Env} {R : Room} {s : State} {m : MethodId} {args : Array Value} {below : List Frame} {meth : Method} {c : Code} {H : Heap} {locs : List Loc} {cells slots : Nat} {Q : State → Prop} {dC : Nat → ClassId} {dI : Nat → Nat → Nat} {cy : Nat → ClassId} {A : Nat → Prop} {ρ : Nat → Nat} {w : sW} {r1 : sR} {pc : Nat} {ls : Array Slot} {st0 rest : List Value} {a : Array Value}
    (hr : vx_Run p l e R s m args below meth c H locs cells slots r1.2.2.1 r1.2.2.2 (F0 m pc ls st0) rest (fun st o t => r1.1 ≠ none ∧ mQ dC dI cy ρ w H.size r1 a st o t) (mQx dC dI cy ρ w H.size r1) (va_A (dW ρ cy w) H.size)) (hS : va_S A s.heap H locs) (hA : ∀ q, va_A (dW ρ cy w) H.size q → A q)
    (kk : r1.1 ≠ none → ∀ (ρ' : Nat → Nat) (H1 : Heap) (locs1 : List Loc), ag w.length ρ' ρ → w.length ≤ r1.2.1.length → va_P (dC, dI) vwCl (dW ρ' cy r1.2.1) H1 → va_D A (dW ρ' cy r1.2.1) → va_S A s.heap H1 locs1 → W p l e R s m args below meth c H1 locs1 (cells + r1.2.2.1) (slots + r1.2.2.2) Q (F0 m (pc + 3) ls ((r1.1.map (dv ρ')).toList ++ rest)))
    (kx : r1.1 = none → ∀ (ρ' : Nat → Nat) (H1 : Heap) (locs1 : List Loc) (q : Addr) (ce : Cell), ag w.length ρ' ρ → w.length ≤ r1.2.1.length → va_P (dC, dI) vwCl (dW ρ' cy r1.2.1) H1 → va_D A (dW ρ' cy r1.2.1) → va_S A s.heap H1 locs1 → H1[q]? = some ce → ce.vm = .none → s.vm.findClass NSE = some ce.cls → vx_W p l e R s m args below meth c H1 locs1 (cells + r1.2.2.1) (slots + r1.2.2.2) Q (F0 m pc ls rest) q) :
    W p l e R s m args below meth c H locs cells slots Q (F0 m pc ls st0) := by
  intro T hT X
  have hSS : ∀ (t T' : State) (L : List Loc) (st₀ : State), st₀.heap = H → T'.heap = t.heap → (∀ q ∈ L, va_A (dW ρ cy w) H.size q.base) → st₀.heap.size ≤ t.heap.size → (∀ q : Nat, q < st₀.heap.size → ¬ va_A (dW ρ cy w) H.size q → t.heap[q]? = st₀.heap[q]?) → va_S A s.heap T'.heap (locs ++ L) := by
    intro t T' L st₀ h0 e1 hL hz hk
    rw [h0] at hz hk
    exact ⟨Nat.le_trans hS.1 (by rw [e1]; exact hz), fun q h1 h2 => by rw [e1, hk q (Nat.lt_of_lt_of_le h1 hS.1) (fun z => h2 (hA q z))]; exact hS.2.1 q h1 h2, fun q hq => by
      rcases List.mem_append.mp hq with h | h
      · exact hS.2.2 q h
      · exact hA _ (hL q h)⟩
  rcases hr T hT X with ⟨v, st₀, t, T', L, h0, X', hL, e1, e2, ⟨hne, ⟨ρ', hag, hln, hv, hp, hd⟩, hz, hk⟩, st⟩ | ⟨q, st₀, t, T', L, E, ce, h0, X', hL, e1, e2, ⟨hn, rfl, ⟨ρ', hag, hln, hp, hd⟩, hz, hk⟩, hce, hcv, hcl, st⟩
  · cases hv
    obtain ⟨t2, a1, b1⟩ := kk hne ρ' T'.heap (locs ++ L) hag hln (by rw [e1]; exact hp) (hd.weaken (fun _ q _ z => hA q.1 z)) (hSS t T' L st₀ h0 e1 hL hz hk) T' rfl X'
    exact ⟨t2, st t2 a1, b1⟩
  · obtain ⟨t2, a1, b1⟩ := kx hn ρ' T'.heap (locs ++ L) q ce hag hln (by rw [e1]; exact hp) (hd.weaken (fun _ q _ z => hA q.1 z)) (hSS t T' L st₀ h0 e1 hL hz hk) (by rw [e1]; exact hce) hcv hcl T' rfl X'
    exact ⟨t2, st.trans a1, b1⟩
def a_callVX (f : List Value → sW → Option sR) (ci na np hp : Nat) : sA := fun k ss => match c_ok ss na with
  | true => match (ss.2.1.take na).reverse with
    | .ref h :: as => match xg ss.2.2.1 h with
      | some (.inr (c', _)) => if c' = ci then match f (.ref h :: as) ss.2.2.1 with
        | some r => match r.1 with
          | some v => k np (ss.1, v :: ss.2.1.drop na, r.2.1, ss.2.2.2.1 + r.2.2.1, ss.2.2.2.2 + r.2.2.2)
          | none => match xa (wfC (xl r.2.1)) r.2.1 with
            | true => match Nat.blt (xl r.2.1) 999999 with
              | true => k hp (ss.1, [.ref 999999], r.2.1, ss.2.2.2.1 + r.2.2.1, ss.2.2.2.2 + r.2.2.2)
              | false => none
            | false => none
        | none => none
        else none
      | _ => none
    | _ => none
  | false => none
theorem ok_callVX {x : ExceptionTableEntry} {kn : sKn} {cc : ByteArray} {own : String} {nL : Nat} {Ts : List Cond} {D : Nat} {ret : Option FieldType} {ini : Bool} {pc : Nat} {y : MethodName} {bytes : ByteArray} {maxL : Nat} {ws' : List Cond} {D' index na ci : Nat} {C : String} {T : u_T} {N : Nat} {f : List Value → sW → Option sR} (hM : mV kn y (Cond.code y bytes maxL (some .int) :: ws') D' f) (hG : GoodIn Ts (Cond.code y bytes maxL (some .int) :: ws')) (hDD : D' + 1 ≤ D) (hml : maxL ≤ 21) (hlink : Cond.methodLink own index y ∈ Ts) (hin : Cond.instanceMethod y ∈ Ts) (hsel : Cond.selects C y y ∈ Ts) (hini : Cond.initialized y.cls ∈ Ts) (hy : y.cls ≠ "java/lang/invoke/MethodHandle" ∧ y.cls ≠ "java/lang/invoke/VarHandle" ∧ (parseMethodDescriptor y.desc).map (fun d => d.parameters.length) = some na) (hc : vwCl[ci]? = some (C, T, N)) (hd : decode cc pc = .ok (.invokevirtual index, 3)) (hcov : covers x pc = true) (h0 : x.catchType ≠ 0) (hcl : Cond.classLink own x.catchType NSE ∈ Ts) : mOkT x kn cc own nL Ts D ret ini pc (a_callVX f ci (na + 1) (pc + 3) x.handlerPc) := by
  intro p l e R s m args below meth c dC dI cy A ρ0 n0 Qc Q r hx X k hk ss h
  obtain ⟨lv, st, w, nc, ns⟩ := ss
  unfold a_callVX at h
  split at h
  case h_2 => cases h
  rename_i hok
  obtain ⟨k1, k2, k3, k4⟩ := c_ok_p hok
  dsimp only at k1 k2 k3 k4 h
  split at h
  case h_2 => cases h
  rename_i h0' as hst
  split at h
  case h_2 => cases h
  rename_i c' fs hw
  rw [xg_eq] at hw
  split at h
  case isFalse => cases h
  rename_i e'
  subst e'
  split at h
  case h_2 => cases h
  rename_i r1 hf
  have hbase : (nc ≤ r.2.2.1 ∧ ns ≤ r.2.2.2) ∧ nc + r1.2.2.1 ≤ r.2.2.1 ∧ ns + r1.2.2.2 ≤ r.2.2.2 := by
    split at h
    · have hb := (hk _ _ h).1
      dsimp only at hb
      omega
    · split at h
      case h_2 => cases h
      split at h
      case h_2 => cases h
      have hb := (hk _ _ h).1
      dsimp only at hb
      omega
  refine ⟨hbase.1, fun H locs ls ρ hag hn hP hD hS hl => ?_⟩
  dsimp only at hn hP hD hl ⊢
  have hsub := va_A_sub (dC := dC) hD hS X.2.2.2.2.1
  have hcb : CallB R s args own index y bytes maxL (some .int) (Cond.code y bytes maxL (some .int) :: ws') { frames := D', cells := r1.2.2.1, slots := r1.2.2.2, locals := 40 * D' } r1.2.2.1 r1.2.2.2 na :=
    callB_of na X.1.2.2.2.2 hG rfl rfl rfl (X.1.2.2.2.2 _ hini) (X.1.2.2.2.2 _ hlink) hy ⟨Nat.le_trans hDD X.2.2.2.2.2.2.1.1, by have := X.2.2.2.2.2.2.1.2; show 8 + (maxL + 11) + 40 * D' ≤ _; omega⟩
  have hlen : as.length = na := by
    have e1 := congrArg List.length hst
    simp at e1
    omega
  have hstk : st.map (dv ρ) = (as.map (dv ρ)).reverse ++ .ref (ρ h0') :: (st.drop (na + 1)).map (dv ρ) := by
    have e1 : st.take (na + 1) = as.reverse ++ [.ref h0'] := by
      have e2 := congrArg List.reverse hst
      rw [List.reverse_reverse, List.reverse_cons] at e2
      exact e2
    conv => lhs; rw [← List.take_append_drop (na + 1) st, e1]
    simp [dv]
  refine z_callX (vx_runV (As := as.map (dv ρ)) (b := ρ h0') (rest := (st.drop (na + 1)).map (dv ρ)) X.1 (hM l dC dI cy _ w r1 X.2.2.2.2.2.2.2.2.2.1.2 hf ρ H.size) ⟨hcb, X.1.2.2.2.2 _ hin, X.1.2.2.2.2 _ hsel⟩ ⟨mPc_blind, va_recv X.2.2.2.1.1 hP hc (dW_get hw), fun U hU hW => ⟨rfl, by rw [hU], by rw [hU]; exact hP, mK_move X.2.2.2.1 hW.alike (mN_warm hW) hsub (fun q h1 h2 => by rw [hU]; exact hS.2.1 q h1 h2) (fun k hk => hag k (Or.inr hk)), hD.weaken (fun _ _ _ _ => trivial)⟩⟩ rfl (by simpa using hlen) hl.1 hstk (lv_room (by rw [cat_map]; exact k2)) hd ⟨Nat.le_trans hbase.2.1 X.2.2.2.2.2.1.1, Nat.le_trans hbase.2.2 X.2.2.2.2.2.1.2⟩) hS hsub ?_ ?_
  · intro hne ρ' H1 locs1 hag1 hln hP1 hD1 hS1
    split at h
    · rename_i v hv
      have K := hk _ _ h
      have G := z_cont (r1 := r1) (rest := st.drop (na + 1)) (w := w) (H1 := H1) (locs1 := locs1) (ls := ls) (by rw [hv]; exact K.2) hag hn hag1 hln hP1 hD1 hS1 hl k3 k4
      exact G
    · rename_i hv
      exact absurd hv hne
  · intro hnone ρ' H1 locs1 q ce hag1 hln hP1 hD1 hS1 hce hcv hcls
    rw [hnone] at h
    dsimp only at h
    split at h
    case h_2 => cases h
    rename_i hwf
    split at h
    case h_2 => cases h
    rename_i hlt
    rw [xa_eq, xl_eq] at hwf
    rw [xl_eq] at hlt
    have hlt := Nat.blt_eq.mp hlt
    have K := hk _ _ h
    have hagq : ag r1.2.1.length (ρup ρ' 999999 q) ρ' := by
      intro k hk
      have : ¬ k = 999999 := by omega
      simp [ρup, this]
    have e1 := dW_ag (cy := cy) hagq (Nat.le_refl _) hwf
    have G := K.2 H1 locs1 ls (ρup ρ' 999999 q) (ag_tr hagq (ag_tr hag1 hag hn) (Nat.le_trans hn hln)) (Nat.le_trans hn hln) (by dsimp only; rw [e1]; exact hP1) (by dsimp only; rw [e1]; exact hD1) hS1 (by dsimp only; rw [dL_ag (ag_tr hagq hag1 hln) k3]; exact hl)
    have e2 : dv (ρup ρ' 999999 q) (.ref 999999) = .ref q := by simp [dv, ρup]
    dsimp only [List.map] at G
    rw [e2] at G
    exact vx_catch1 X.1.2.2.2.1 x hx hcov h0 (X.1.2.2.2.2 _ hcl) (va_Nw.use rfl X.2.2.2.1.2.1.2.1.2.2.1) hce hcv hcls G
end
