-- ===== the law's end and entry (out of the skeleton), its run as a function =====
def R_law : String := "SignedBridgeLaw"
def lw_P (b : Addr) (xs : List Int32) (args : Array Value) (s : State) : Prop := args = #[.ref b] ∧ s.IntsAt b xs ∧ xs.length ≤ 3072 ∧ (Jvm.Cond.and given_1 narrow_1).before args s = true
def lw_Q (_ : Array Value) (s : State) (o : Outcome) (t : State) : Prop := o = .returned (some (.int 1)) ∧ Framed s o t [] 601024 7293034
def lw_Z (below : List Frame) (a : Array Value) (s : State) : State → Prop := fun t => ∃ o, t.status = .running ∧ Ended t below o ∧ lw_Q a s o t
def lw_At (p : Program) (s : State) (m : MethodId) (meth : Method) (c : Code) (b L : Nat) (xs : Nat → Int32) : Prop :=
  p.tables.exec = Jvm.exec ∧ c.code = code ∧ meth.sig.returnType = ret ∧ c.maxLocals = 7 ∧ s.vm.findClass R_law = some m.cls ∧ (∀ w ∈ lw_tbl, w.before #[Value.ref b] s = true) ∧ va_X b L xs s s.heap ∧ b < s.heap.size ∧ meth.locks = false ∧ (Jvm.Cond.and given_1 narrow_1).before #[Value.ref b] s = true
theorem st_flags {l : Launch} (h : l.flags = flags0) : l.stackTraces = false := by
  unfold Launch.stackTraces
  rw [h]
  decide +kernel
theorem law_of_run {kn : sKn} {p : Program} {l : Launch} {e : Env} {s : State} {m : MethodId} {below : List Frame} {meth : Method} {c : Code} {b : Nat} {dC : Nat → ClassId} {dI : Nat → Nat → Nat} {cy : Nat → ClassId} {ρ : Nat → Nat} {r : sR} {tbl : List (Nat × sA)} (htb : tOk kn cL_law RL 7 wsL_law 185 (some .boolean) false tbl)
    (hst : l.stackTraces = false) (hx : p.tables.exec = Jvm.exec) (hb : c.code = code) (hret : meth.sig.returnType = ret) (hml : c.maxLocals = 7) (hown : s.vm.findClass RL = some m.cls) (hts : ∀ w ∈ wsL_law, w.before #[Value.ref b] s = true) (hlk : meth.locks = false)
    (hK : mK kn dC dI cy ρ (va_A [] s.heap.size) s s.heap) (hρ : ρ 1000010 = b) {n : Nat}
    (hrun : mF tbl 7 n [.ref 1000010] [] = some r) (hr : r.1 = some (.int 1)) (h1 : r.2.2.1 ≤ 601024) (h2 : r.2.2.2 ≤ 7293034) :
    W p l e room_1 s m #[Value.ref b] below meth c s.heap [] 0 0 (lw_Z below #[Value.ref b] s) (entryFrame m ([Value.ref b] : List Value).toArray 7) := by
  subst hρ
  unfold mF at hrun
  split at hrun
  · rename_i hlen
    have X : mX kn p l e room_1 s m #[Value.ref (ρ 1000010)] below meth c dC dI cy (va_A [] s.heap.size) ρ 0 (fun _ _ o _ => o = .returned (some (.int 1))) (lw_Z below #[Value.ref (ρ 1000010)] s) cL_law RL 7 wsL_law 185 (some .boolean) false r :=
      ⟨⟨hx, hb, hml, hown, hts⟩, hret, hlk, hK, fun q h => Or.inr h, ⟨h1, h2⟩, ⟨by decide, by decide⟩, (fun h => by cases h), (fun _ ρ' H locs t _ _ _ _ _ _ _ => by rw [hr]; rfl), ⟨fun t ht => by
        obtain ⟨o, k1, k2, k3, L, hF, hfree⟩ := ht
        refine ⟨o, k1, k2, k3, hF.1, hF.2.1, ?_⟩
        refine (State.sameButNew.drop_fresh (L := []) (J := L) hF.2.2 (fun x hx => ?_)).mono h1 h2
        rcases hfree x hx with ⟨k, e, h⟩ | h
        · simp at h
        · exact h, hst⟩, fun _ h => by
        rw [hr] at h
        cases h⟩
    have G := run_ok htb X n 0 _ hrun
    have hl := lv_entry (([.ref 1000010] : List Value).map (dv ρ)) (n := 7) (by rw [lg_sl_len]; exact Nat.le_of_ble_eq_true hlen)
    rw [lv_args_dv] at hl
    rw [lg_entry_eq]
    exact G.2 s.heap [] _ ρ (fun _ _ => rfl) (Nat.zero_le _) (fun k q h => by simp [dW] at h) ⟨fun i j p q h => by simp [dW] at h, fun k q h => by simp [dW] at h⟩ va_S.rf hl
  · cases hrun
