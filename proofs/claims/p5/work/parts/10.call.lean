noncomputable section
-- ===== what a method does, as a function; its contract; calls =====
def mQ (dC : Nat → ClassId) (dI : Nat → Nat → Nat) (cy : Nat → ClassId) (ρ : Nat → Nat) (w : sW) (sz : Nat) (r : sR) : Array Value → State → Outcome → State → Prop := fun _ st oc t =>
  (∃ ρ' : Nat → Nat, ag w.length ρ' ρ ∧ w.length ≤ r.2.1.length ∧ oc = .returned (r.1.map (dv ρ')) ∧ va_P (dC, dI) vwCl (dW ρ' cy r.2.1) t.heap ∧ va_D (va_A (dW ρ cy w) sz) (dW ρ' cy r.2.1)) ∧ va_F (va_A (dW ρ cy w) sz) st t
def mPc (kn : sKn) (dC : Nat → ClassId) (dI : Nat → Nat → Nat) (cy : Nat → ClassId) (ρ : Nat → Nat) (av : List Value) (w : sW) (sz : Nat) : Array Value → State → Prop :=
  va_Pc (av.map (dv ρ)) (fun U => U.heap.size = sz ∧ va_P (dC, dI) vwCl (dW ρ cy w) U.heap ∧ mK kn dC dI cy ρ (va_A (dW ρ cy w) sz) U U.heap ∧ va_D (fun _ => True) (dW ρ cy w))
/-- the function f says what method y does: D calls may stand open over it -/
def mM (kn : sKn) (y : MethodName) (ws : List Cond) (D : Nat) (vd : Bool) (f : List Value → sW → Option sR) : Prop :=
  ∀ (l : Launch), l.stackTraces = false → ∀ (dC : Nat → ClassId) (dI : Nat → Nat → Nat) (cy : Nat → ClassId) (av : List Value) (w : sW) (r : sR), f av w = some r → (vd || r.1.isSome) = true → ∀ (ρ : Nat → Nat) (sz : Nat),
    Met l y ws ({ frames := D, cells := r.2.2.1, slots := r.2.2.2, locals := 40 * D }) (mPc kn dC dI cy ρ av w sz) (mQ dC dI cy ρ w sz r) r.2.2.1 r.2.2.2 (va_A (dW ρ cy w) sz)
theorem mPc_blind {kn : sKn} {dC : Nat → ClassId} {dI : Nat → Nat → Nat} {cy : Nat → ClassId} {ρ : Nat → Nat} {av : List Value} {w : sW} {sz : Nat} : FrameBlind (mPc kn dC dI cy ρ av w sz) := by
  intro a U g mk q
  obtain ⟨q0, q1, qP, qK, qD⟩ := q
  exact ⟨q0, q1, qP, mK_move (U := U.calling g mk a) qK (Vm.Alike.refl U.vm) (mN_same rfl) (fun _ z => z) (fun _ _ _ => rfl) (fun _ _ => rfl), qD⟩
theorem va_A_sub {dC : Nat → ClassId} {A : Nat → Prop} {ws : va_W} {H0 H : Heap} {locs : List Loc} (hD : va_D A ws) (hS : va_S A H0 H locs) (hA : ∀ q, H0.size ≤ q → A q) : ∀ q, va_A ws H.size q → A q := by
  intro q h
  rcases h with ⟨k, e, h⟩ | h
  · exact hD.2 k (q, e) h
  · exact hA q (Nat.le_trans hS.1 h)
theorem z_call {p : Program} {l : Launch} {e : Env} {R : Room} {s : State} {m : MethodId} {args : Array Value} {below : List Frame} {meth : Method} {c : Code} {H : Heap} {locs : List Loc} {cells slots : Nat} {Q : State → Prop} {dC : Nat → ClassId} {dI : Nat → Nat → Nat} {cy : Nat → ClassId} {A : Nat → Prop} {ρ : Nat → Nat} {w : sW} {r1 : sR} {pc : Nat} {ls : Array Slot} {st0 rest : List Value} {a : Array Value}
    (hr : va_Run p l e R s m args below meth c H locs cells slots r1.2.2.1 r1.2.2.2 (F0 m pc ls st0) rest (mQ dC dI cy ρ w H.size r1 a) (va_A (dW ρ cy w) H.size)) (hS : va_S A s.heap H locs) (hA : ∀ q, va_A (dW ρ cy w) H.size q → A q)
    (kk : ∀ (ρ' : Nat → Nat) (H1 : Heap) (locs1 : List Loc), ag w.length ρ' ρ → w.length ≤ r1.2.1.length → va_P (dC, dI) vwCl (dW ρ' cy r1.2.1) H1 → va_D A (dW ρ' cy r1.2.1) → va_S A s.heap H1 locs1 → W p l e R s m args below meth c H1 locs1 (cells + r1.2.2.1) (slots + r1.2.2.2) Q (F0 m (pc + 3) ls ((r1.1.map (dv ρ')).toList ++ rest))) : W p l e R s m args below meth c H locs cells slots Q (F0 m pc ls st0) := by
  intro T hT X
  obtain ⟨v, st₀, t, T', L, h0, X', hL, e1, e2, ⟨⟨ρ', hag, hln, hv, hp, hd⟩, hz, hk⟩, st⟩ := hr T hT X
  cases hv
  rw [h0] at hz hk
  obtain ⟨t2, a1, b1⟩ := kk ρ' T'.heap (locs ++ L) hag hln (by rw [e1]; exact hp) (hd.weaken (fun _ q _ z => hA q.1 z))
    ⟨Nat.le_trans hS.1 (by rw [e1]; exact hz), fun q h1 h2 => by rw [e1, hk q (Nat.lt_of_lt_of_le h1 hS.1) (fun z => h2 (hA q z))]; exact hS.2.1 q h1 h2, fun q hq => by
      rcases List.mem_append.mp hq with h | h
      · exact hS.2.2 q h
      · exact hA _ (hL q h)⟩ T' rfl X'
  exact ⟨t2, st t2 a1, b1⟩
/-- behind a call: what came back, over the rest -/
def a_back (vd : Bool) (k : sK) (np : Nat) (lv : List (Nat × Value)) (rest : List Value) (nc ns : Nat) (o : Option sR) : Option sR := match o with
  | some r => match vd || r.1.isSome with
    | true => k np (lv, r.1.toList ++ rest, r.2.1, nc + r.2.2.1, ns + r.2.2.2)
    | false => none
  | none => none
def c_ok (ss : sS) (na : Nat) : Bool := Nat.ble na ss.2.1.length && Nat.ble ((ss.2.1.drop na).map fun v => v.category).sum 8 && xa (fun q => wfV (xl ss.2.2.1) q.2) ss.1 && xa (wfV (xl ss.2.2.1)) (ss.2.1.drop na)
/-- a static call -/
def a_callS (vd : Bool) (f : List Value → sW → Option sR) (na np : Nat) : sA := fun k ss => match c_ok ss na with
  | true => a_back vd k np ss.1 (ss.2.1.drop na) ss.2.2.2.1 ss.2.2.2.2 (f (ss.2.1.take na).reverse ss.2.2.1)
  | false => none
/-- a call on an object: na counts it -/
def a_callV (vd : Bool) (f : List Value → sW → Option sR) (ci na np : Nat) : sA := fun k ss => match c_ok ss na with
  | true => match (ss.2.1.take na).reverse with
    | .ref h :: as => match xg ss.2.2.1 h with
      | some (.inr (c', _)) => if c' = ci then a_back vd k np ss.1 (ss.2.1.drop na) ss.2.2.2.1 ss.2.2.2.2 (f (.ref h :: as) ss.2.2.1) else none
      | _ => none
    | _ => none
  | false => none
/-- a constructor's call: na counts the object -/
def a_callI (vd : Bool) (f : List Value → sW → Option sR) (na np : Nat) : sA := fun k ss => match c_ok ss na with
  | true => match (ss.2.1.take na).reverse with
    | .ref h :: as => a_back vd k np ss.1 (ss.2.1.drop na) ss.2.2.2.1 ss.2.2.2.2 (f (.ref h :: as) ss.2.2.1)
    | _ => none
  | false => none
theorem c_ok_p {ss : sS} {na : Nat} (h : c_ok ss na = true) : na ≤ ss.2.1.length ∧ ((ss.2.1.drop na).map fun v => v.category).sum ≤ 8 ∧ ss.1.all (fun q => wfV ss.2.2.1.length q.2) = true ∧ (ss.2.1.drop na).all (wfV ss.2.2.1.length) = true := by
  unfold c_ok at h
  simp only [xa_eq, xl_eq] at h
  rw [Bool.and_eq_true, Bool.and_eq_true, Bool.and_eq_true, Nat.ble_eq, Nat.ble_eq] at h
  exact ⟨h.1.1.1, h.1.1.2, h.1.2, h.2⟩
/-- the words of a callee among the caller's -/
theorem good_ws {Ts ws' : List Cond} {y : MethodName} {cy : ByteArray} {n : Nat} {ret : Option FieldType} (hg : ∀ w ∈ Ts, goodWord w = true) (hs : ∀ w ∈ ws', w ∈ Ts) (hc : Cond.code y cy n ret ∈ Ts) : GoodIn Ts (Cond.code y cy n ret :: ws') := by
  intro w hw
  rcases List.mem_cons.mp hw with h | h
  · rw [h]
    exact ⟨hc, good_of_word (hg _ hc)⟩
  · exact ⟨hs w h, good_of_word (hg _ (hs w h))⟩
/-- the goal behind a call, out of the function's own continuation -/
theorem z_cont {p : Program} {l : Launch} {e : Env} {R : Room} {s : State} {m : MethodId} {args : Array Value} {below : List Frame} {meth : Method} {c : Code} {dC : Nat → ClassId} {dI : Nat → Nat → Nat} {cy : Nat → ClassId} {A : Nat → Prop} {ρ0 ρ ρ' : Nat → Nat} {n0 nL np nc ns : Nat} {Q : State → Prop} {r1 : sR} {lv : List (Nat × Value)} {rest : List Value} {w : sW} {H1 : Heap} {locs1 : List Loc} {ls : Array Slot}
    (K : ∀ (H : Heap) (locs : List Loc) (ls : Array Slot) (ρ : Nat → Nat), ag n0 ρ ρ0 → n0 ≤ r1.2.1.length → va_P (dC, dI) vwCl (dW ρ cy r1.2.1) H → va_D A (dW ρ cy r1.2.1) → va_S A s.heap H locs → lv_has ls nL (dL ρ lv) → W p l e R s m args below meth c H locs nc ns Q (F0 m np ls ((r1.1.toList ++ rest).map (dv ρ))))
    (hag : ag n0 ρ ρ0) (hn : n0 ≤ w.length) (hag1 : ag w.length ρ' ρ) (hln : w.length ≤ r1.2.1.length) (hP1 : va_P (dC, dI) vwCl (dW ρ' cy r1.2.1) H1) (hD1 : va_D A (dW ρ' cy r1.2.1)) (hS1 : va_S A s.heap H1 locs1) (hl : lv_has ls nL (dL ρ lv)) (k3 : lv.all (fun q => wfV w.length q.2) = true) (k4 : rest.all (wfV w.length) = true) :
    W p l e R s m args below meth c H1 locs1 nc ns Q (F0 m np ls ((r1.1.map (dv ρ')).toList ++ rest.map (dv ρ))) := by
  have G := K H1 locs1 ls ρ' (ag_tr hag1 hag hn) (Nat.le_trans hn hln) hP1 hD1 hS1 (by rw [dL_ag hag1 k3]; exact hl)
  rw [List.map_append, dv_agL hag1 k4] at G
  have e0 : r1.1.toList.map (dv ρ') = (r1.1.map (dv ρ')).toList := by cases r1.1 <;> rfl
  rw [e0] at G
  exact G
section OKC
variable {kn : sKn} {cc : ByteArray} {own : String} {nL : Nat} {Ts : List Cond} {D : Nat} {ret : Option FieldType} {ini : Bool} {pc : Nat}
theorem ok_callS {y : MethodName} {bytes : ByteArray} {maxL : Nat} {rt : Option FieldType} {ws' : List Cond} {D' index na : Nat} {vd : Bool} {f : List Value → sW → Option sR} (hM : mM kn y (Cond.code y bytes maxL rt :: ws') D' vd f) (hG : GoodIn Ts (Cond.code y bytes maxL rt :: ws')) (hDD : D' + 1 ≤ D) (hml : maxL ≤ 21) (hlink : Cond.methodLink own index y ∈ Ts) (hst : Cond.static y ∈ Ts) (hini : Cond.initialized y.cls ∈ Ts) (hy : y.cls ≠ "java/lang/invoke/MethodHandle" ∧ y.cls ≠ "java/lang/invoke/VarHandle" ∧ (parseMethodDescriptor y.desc).map (fun d => d.parameters.length) = some na) (hd : decode cc pc = .ok (.invokestatic index, 3)) : mOk kn cc own nL Ts D ret ini pc (a_callS vd f na (pc + 3)) := by
  intro p l e R s m args below meth c dC dI cy A ρ0 n0 Qc Q r X k hk ss h
  obtain ⟨lv, st, w, nc, ns⟩ := ss
  unfold a_callS at h
  split at h
  · rename_i hok
    obtain ⟨k1, k2, k3, k4⟩ := c_ok_p hok
    dsimp only at k1 k2 k3 k4 h
    unfold a_back at h
    split at h
    · rename_i r1 hf
      split at h
      case h_2 => cases h
      rename_i hvd
      have K := hk _ _ h
      have hb := K.1
      dsimp only at hb
      refine ⟨by dsimp only; omega, fun H locs ls ρ hag hn hP hD hS hl => ?_⟩
      dsimp only at hn hP hD hl ⊢
      have hsub := va_A_sub (dC := dC) hD hS X.2.2.2.2.1
      have hcw : CallB R s args own index y bytes maxL rt (Cond.code y bytes maxL rt :: ws') { frames := D', cells := r1.2.2.1, slots := r1.2.2.2, locals := 40 * D' } r1.2.2.1 r1.2.2.2 na ∧ (Cond.static y).before args s = true :=
        ⟨callB_of na X.1.2.2.2.2 hG rfl rfl rfl (X.1.2.2.2.2 _ hini) (X.1.2.2.2.2 _ hlink) hy ⟨Nat.le_trans hDD X.2.2.2.2.2.2.1.1, by have := X.2.2.2.2.2.2.1.2; show 8 + (maxL + 11) + 40 * D' ≤ _; omega⟩, X.1.2.2.2.2 _ hst⟩
      refine z_call (va_runS (As := (st.take na).reverse.map (dv ρ)) (rest := (st.drop na).map (dv ρ)) X.1 (hM l X.2.2.2.2.2.2.2.2.2.1.2 dC dI cy _ w r1 hf hvd ρ H.size) hcw ⟨mPc_blind, fun U hU hW => ⟨rfl, by rw [hU], by rw [hU]; exact hP, mK_move X.2.2.2.1 hW.alike (mN_warm hW) hsub (fun q h1 h2 => by rw [hU]; exact hS.2.1 q h1 h2) (fun k hk => hag k (Or.inr hk)), hD.weaken (fun _ _ _ _ => trivial)⟩⟩ rfl (by simp; omega) hl.1 (by show st.map (dv ρ) = _; rw [List.map_reverse, List.reverse_reverse, ← List.map_append, List.take_append_drop]) (lv_room (by rw [cat_map]; exact k2)) hd ⟨Nat.le_trans hb.1 X.2.2.2.2.2.1.1, Nat.le_trans hb.2 X.2.2.2.2.2.1.2⟩) hS hsub (fun ρ' H1 locs1 hag1 hln hP1 hD1 hS1 => ?_)
      exact z_cont K.2 hag hn hag1 hln hP1 hD1 hS1 hl k3 k4
    · cases h
  · cases h
theorem ok_callV {y : MethodName} {bytes : ByteArray} {maxL : Nat} {rt : Option FieldType} {ws' : List Cond} {D' index na ci : Nat} {C : String} {T : u_T} {N : Nat} {vd : Bool} {f : List Value → sW → Option sR} (hM : mM kn y (Cond.code y bytes maxL rt :: ws') D' vd f) (hG : GoodIn Ts (Cond.code y bytes maxL rt :: ws')) (hDD : D' + 1 ≤ D) (hml : maxL ≤ 21) (hlink : Cond.methodLink own index y ∈ Ts) (hin : Cond.instanceMethod y ∈ Ts) (hsel : Cond.selects C y y ∈ Ts) (hini : Cond.initialized y.cls ∈ Ts) (hy : y.cls ≠ "java/lang/invoke/MethodHandle" ∧ y.cls ≠ "java/lang/invoke/VarHandle" ∧ (parseMethodDescriptor y.desc).map (fun d => d.parameters.length) = some na) (hc : vwCl[ci]? = some (C, T, N)) (hd : decode cc pc = .ok (.invokevirtual index, 3)) : mOk kn cc own nL Ts D ret ini pc (a_callV vd f ci (na + 1) (pc + 3)) := by
  intro p l e R s m args below meth c dC dI cy A ρ0 n0 Qc Q r X k hk ss h
  obtain ⟨lv, st, w, nc, ns⟩ := ss
  unfold a_callV at h
  split at h
  · rename_i hok
    obtain ⟨k1, k2, k3, k4⟩ := c_ok_p hok
    dsimp only at k1 k2 k3 k4 h
    split at h
    · rename_i h0 as hst
      split at h
      · rename_i c' fs hw
        split at h
        · rename_i e'
          subst e'
          rw [xg_eq] at hw
          unfold a_back at h
          split at h
          · rename_i r1 hf
            split at h
            case h_2 => cases h
            rename_i hvd
            have K := hk _ _ h
            have hb := K.1
            dsimp only at hb
            refine ⟨by dsimp only; omega, fun H locs ls ρ hag hn hP hD hS hl => ?_⟩
            dsimp only at hn hP hD hl ⊢
            have hsub := va_A_sub (dC := dC) hD hS X.2.2.2.2.1
            have hcb : CallB R s args own index y bytes maxL rt (Cond.code y bytes maxL rt :: ws') { frames := D', cells := r1.2.2.1, slots := r1.2.2.2, locals := 40 * D' } r1.2.2.1 r1.2.2.2 na :=
              callB_of na X.1.2.2.2.2 hG rfl rfl rfl (X.1.2.2.2.2 _ hini) (X.1.2.2.2.2 _ hlink) hy ⟨Nat.le_trans hDD X.2.2.2.2.2.2.1.1, by have := X.2.2.2.2.2.2.1.2; show 8 + (maxL + 11) + 40 * D' ≤ _; omega⟩
            have hlen : as.length = na := by
              have e1 := congrArg List.length hst
              simp at e1
              omega
            have hstk : st.map (dv ρ) = (as.map (dv ρ)).reverse ++ .ref (ρ h0) :: (st.drop (na + 1)).map (dv ρ) := by
              have e1 : st.take (na + 1) = as.reverse ++ [.ref h0] := by
                have e2 := congrArg List.reverse hst
                rw [List.reverse_reverse, List.reverse_cons] at e2
                exact e2
              conv => lhs; rw [← List.take_append_drop (na + 1) st, e1]
              simp [dv]
            refine z_call (va_runV (As := as.map (dv ρ)) (b := ρ h0) (rest := (st.drop (na + 1)).map (dv ρ)) X.1 (hM l X.2.2.2.2.2.2.2.2.2.1.2 dC dI cy _ w r1 hf hvd ρ H.size) ⟨hcb, X.1.2.2.2.2 _ hin, X.1.2.2.2.2 _ hsel⟩ ⟨mPc_blind, va_recv X.2.2.2.1.1 hP hc (dW_get hw), fun U hU hW => ⟨rfl, by rw [hU], by rw [hU]; exact hP, mK_move X.2.2.2.1 hW.alike (mN_warm hW) hsub (fun q h1 h2 => by rw [hU]; exact hS.2.1 q h1 h2) (fun k hk => hag k (Or.inr hk)), hD.weaken (fun _ _ _ _ => trivial)⟩⟩ rfl (by simpa using hlen) hl.1 hstk (lv_room (by rw [cat_map]; exact k2)) hd ⟨Nat.le_trans hb.1 X.2.2.2.2.2.1.1, Nat.le_trans hb.2 X.2.2.2.2.2.1.2⟩) hS hsub (fun ρ' H1 locs1 hag1 hln hP1 hD1 hS1 => ?_)
            exact z_cont K.2 hag hn hag1 hln hP1 hD1 hS1 hl k3 k4
          · cases h
        · cases h
      · cases h
    · cases h
  · cases h
theorem ok_callI {y : MethodName} {bytes : ByteArray} {maxL : Nat} {ws' : List Cond} {D' index na : Nat} {vd : Bool} {f : List Value → sW → Option sR} (hM : mM kn y (Cond.code y bytes maxL none :: ws') D' vd f) (hG : GoodIn Ts (Cond.code y bytes maxL none :: ws')) (hDD : D' + 1 ≤ D) (hml : maxL ≤ 21) (hlink : Cond.methodLink own index y ∈ Ts) (hin : Cond.instanceMethod y ∈ Ts) (hnm : y.name = "<init>") (hini : Cond.initialized y.cls ∈ Ts) (hy : y.cls ≠ "java/lang/invoke/MethodHandle" ∧ y.cls ≠ "java/lang/invoke/VarHandle" ∧ (parseMethodDescriptor y.desc).map (fun d => d.parameters.length) = some na) (hd : decode cc pc = .ok (.invokespecial index, 3)) : mOk kn cc own nL Ts D ret ini pc (a_callI vd f (na + 1) (pc + 3)) := by
  intro p l e R s m args below meth c dC dI cy A ρ0 n0 Qc Q r X k hk ss h
  obtain ⟨lv, st, w, nc, ns⟩ := ss
  unfold a_callI at h
  split at h
  · rename_i hok
    obtain ⟨k1, k2, k3, k4⟩ := c_ok_p hok
    dsimp only at k1 k2 k3 k4 h
    split at h
    · rename_i h0 as hst
      unfold a_back at h
      split at h
      · rename_i r1 hf
        split at h
        case h_2 => cases h
        rename_i hvd
        have K := hk _ _ h
        have hb := K.1
        dsimp only at hb
        refine ⟨by dsimp only; omega, fun H locs ls ρ hag hn hP hD hS hl => ?_⟩
        dsimp only at hn hP hD hl ⊢
        have hsub := va_A_sub (dC := dC) hD hS X.2.2.2.2.1
        have hcb : CallB R s args own index y bytes maxL none (Cond.code y bytes maxL none :: ws') { frames := D', cells := r1.2.2.1, slots := r1.2.2.2, locals := 40 * D' } r1.2.2.1 r1.2.2.2 na :=
          callB_of na X.1.2.2.2.2 hG rfl rfl rfl (X.1.2.2.2.2 _ hini) (X.1.2.2.2.2 _ hlink) hy ⟨Nat.le_trans hDD X.2.2.2.2.2.2.1.1, by have := X.2.2.2.2.2.2.1.2; show 8 + (maxL + 11) + 40 * D' ≤ _; omega⟩
        have hlen : as.length = na := by
          have e1 := congrArg List.length hst
          simp at e1
          omega
        have hstk : st.map (dv ρ) = (as.map (dv ρ)).reverse ++ .ref (ρ h0) :: (st.drop (na + 1)).map (dv ρ) := by
          have e1 : st.take (na + 1) = as.reverse ++ [.ref h0] := by
            have e2 := congrArg List.reverse hst
            rw [List.reverse_reverse, List.reverse_cons] at e2
            exact e2
          conv => lhs; rw [← List.take_append_drop (na + 1) st, e1]
          simp [dv]
        refine z_call (va_runI (As := as.map (dv ρ)) (b := ρ h0) (rest := (st.drop (na + 1)).map (dv ρ)) X.1 (hM l X.2.2.2.2.2.2.2.2.2.1.2 dC dI cy _ w r1 hf hvd ρ H.size) ⟨hcb, hnm, X.1.2.2.2.2 _ hin⟩ ⟨mPc_blind, fun U hU hW => ⟨rfl, by rw [hU], by rw [hU]; exact hP, mK_move X.2.2.2.1 hW.alike (mN_warm hW) hsub (fun q h1 h2 => by rw [hU]; exact hS.2.1 q h1 h2) (fun k hk => hag k (Or.inr hk)), hD.weaken (fun _ _ _ _ => trivial)⟩⟩ rfl (by simpa using hlen) hl.1 hstk (lv_room (by rw [cat_map]; exact k2)) hd ⟨Nat.le_trans hb.1 X.2.2.2.2.2.1.1, Nat.le_trans hb.2 X.2.2.2.2.2.1.2⟩) hS hsub (fun ρ' H1 locs1 hag1 hln hP1 hD1 hS1 => ?_)
        exact z_cont K.2 hag hn hag1 hln hP1 hD1 hS1 hl k3 k4
      · cases h
    · cases h
  · cases h
theorem ok_callIN {y : MethodName} {bytes : ByteArray} {maxL : Nat} {ws' : List Cond} {D' index na : Nat} {vd : Bool} {f : List Value → sW → Option sR} (hM : mM kn y (Cond.code y bytes maxL none :: ws') D' vd f) (hG : GoodIn Ts (Cond.code y bytes maxL none :: ws')) (hDD : D' + 1 ≤ D) (hml : maxL ≤ 21) (hlink : (index, y) ∈ nestM) (hoe : own = RX11) (hin : Cond.instanceMethod y ∈ Ts) (hnm : y.name = "<init>") (hini : Cond.initialized y.cls ∈ Ts) (hy : y.cls ≠ "java/lang/invoke/MethodHandle" ∧ y.cls ≠ "java/lang/invoke/VarHandle" ∧ (parseMethodDescriptor y.desc).map (fun d => d.parameters.length) = some na) (hd : decode cc pc = .ok (.invokespecial index, 3)) : mOk kn cc own nL Ts D ret ini pc (a_callI vd f (na + 1) (pc + 3)) := by
  intro p l e R s m args below meth c dC dI cy A ρ0 n0 Qc Q r X k hk ss h
  obtain ⟨lv, st, w, nc, ns⟩ := ss
  unfold a_callI at h
  split at h
  · rename_i hok
    obtain ⟨k1, k2, k3, k4⟩ := c_ok_p hok
    dsimp only at k1 k2 k3 k4 h
    split at h
    · rename_i h0 as hst
      unfold a_back at h
      split at h
      · rename_i r1 hf
        split at h
        case h_2 => cases h
        rename_i hvd
        have K := hk _ _ h
        have hb := K.1
        dsimp only at hb
        refine ⟨by dsimp only; omega, fun H locs ls ρ hag hn hP hD hS hl => ?_⟩
        dsimp only at hn hP hD hl ⊢
        have hsub := va_A_sub (dC := dC) hD hS X.2.2.2.2.1
        have hcb : va_CN R s args own index y "SignedBridge" bytes maxL none (Cond.code y bytes maxL none :: ws') { frames := D', cells := r1.2.2.1, slots := r1.2.2.2, locals := 40 * D' } r1.2.2.1 r1.2.2.2 na :=
          va_cnB na X.1.2.2.2.2 hG rfl rfl rfl (by rw [hoe]; exact X.2.2.2.1.2.1.2.1.1 _ hlink) (X.1.2.2.2.2 _ hini) hy ⟨Nat.le_trans hDD X.2.2.2.2.2.2.1.1, by have := X.2.2.2.2.2.2.1.2; show 8 + (maxL + 11) + 40 * D' ≤ _; omega⟩
        have hlen : as.length = na := by
          have e1 := congrArg List.length hst
          simp at e1
          omega
        have hstk : st.map (dv ρ) = (as.map (dv ρ)).reverse ++ .ref (ρ h0) :: (st.drop (na + 1)).map (dv ρ) := by
          have e1 : st.take (na + 1) = as.reverse ++ [.ref h0] := by
            have e2 := congrArg List.reverse hst
            rw [List.reverse_reverse, List.reverse_cons] at e2
            exact e2
          conv => lhs; rw [← List.take_append_drop (na + 1) st, e1]
          simp [dv]
        refine z_call (va_runIN (As := as.map (dv ρ)) (b := ρ h0) (rest := (st.drop (na + 1)).map (dv ρ)) X.1 (hM l X.2.2.2.2.2.2.2.2.2.1.2 dC dI cy _ w r1 hf hvd ρ H.size) ⟨hcb, hnm, X.1.2.2.2.2 _ hin⟩ ⟨mPc_blind, fun U hU hW => ⟨rfl, by rw [hU], by rw [hU]; exact hP, mK_move X.2.2.2.1 hW.alike (mN_warm hW) hsub (fun q h1 h2 => by rw [hU]; exact hS.2.1 q h1 h2) (fun k hk => hag k (Or.inr hk)), hD.weaken (fun _ _ _ _ => trivial)⟩⟩ rfl (by simpa using hlen) hl.1 hstk (lv_room (by rw [cat_map]; exact k2)) hd ⟨Nat.le_trans hb.1 X.2.2.2.2.2.1.1, Nat.le_trans hb.2 X.2.2.2.2.2.1.2⟩) hS hsub (fun ρ' H1 locs1 hag1 hln hP1 hD1 hS1 => ?_)
        exact z_cont K.2 hag hn hag1 hln hP1 hD1 hS1 hl k3 k4
      · cases h
    · cases h
  · cases h
end OKC
end
