noncomputable section
-- ===== a method: its table of acts, run from its entry =====
def t_get (tbl : List (Nat × sA)) (pc : Nat) : Option sA := List.rec (motive := fun _ => Option sA) none (fun q _ ih => match Nat.beq q.1 pc with
  | true => some q.2
  | false => ih) tbl
theorem t_get_mem {tbl : List (Nat × sA)} {pc : Nat} {a : sA} (h : t_get tbl pc = some a) : (pc, a) ∈ tbl := by
  induction tbl with
  | nil => cases h
  | cons q r ih =>
    have h : (match Nat.beq q.1 pc with
      | true => some q.2
      | false => t_get r pc) = some a := h
    split at h
    · rename_i e
      cases h
      rw [← Nat.eq_of_beq_eq_true e]
      exact List.mem_cons_self
    · exact List.mem_cons_of_mem _ (ih h)
def runT (tbl : List (Nat × sA)) (n : Nat) : sK := Nat.rec (motive := fun _ => sK) (fun _ _ => none) (fun _ ih pc ss => match t_get tbl pc with
  | some act => act ih ss
  | none => none) n
def mF (tbl : List (Nat × sA)) (nL n : Nat) (av : List Value) (w : sW) : Option sR := match Nat.ble (lg_sl av).length nL with
  | true => runT tbl n 0 (lv_args 0 av, [], w, 0, 0)
  | false => none
theorem run_ok {kn : sKn} {cc : ByteArray} {own : String} {nL : Nat} {Ts : List Cond} {D : Nat} {ret : Option FieldType} {ini : Bool} {tbl : List (Nat × sA)} (ht : ∀ q ∈ tbl, mOk kn cc own nL Ts D ret ini q.1 q.2)
    {p : Program} {l : Launch} {e : Env} {R : Room} {s : State} {m : MethodId} {args : Array Value} {below : List Frame} {meth : Method} {c : Code} {dC : Nat → ClassId} {dI : Nat → Nat → Nat} {cy : Nat → ClassId} {A : Nat → Prop} {ρ0 : Nat → Nat} {n0 : Nat} {Qc : Array Value → State → Outcome → State → Prop} {Q : State → Prop} {r : sR}
    (X : mX kn p l e R s m args below meth c dC dI cy A ρ0 n0 Qc Q cc own nL Ts D ret ini r) : ∀ (n pc : Nat) (ss : sS), runT tbl n pc ss = some r → mG p l e R s m args below meth c dC dI cy A ρ0 n0 nL Q r pc ss := by
  intro n
  induction n with
  | zero => intro pc ss h; cases h
  | succ n ih =>
    intro pc ss h
    have h : (match t_get tbl pc with
      | some act => act (runT tbl n) ss
      | none => none) = some r := h
    split at h
    · rename_i act ha
      exact ht _ (t_get_mem ha) p l e R s m args below meth c dC dI cy A ρ0 n0 Qc Q r X (runT tbl n) ih ss h
    · cases h
theorem lg_sl_len (ρ : Nat → Nat) (av : List Value) : (lg_sl (av.map (dv ρ))).length = (lg_sl av).length := by
  induction av with
  | nil => rfl
  | cons v r ih => cases v <;> simp_all [lg_sl, dv, Value.category]
theorem lv_args_dv (ρ : Nat → Nat) (av : List Value) : ∀ i, lv_args i (av.map (dv ρ)) = dL ρ (lv_args i av) := by
  induction av with
  | nil => intro i; rfl
  | cons v r ih => intro i; simp only [List.map_cons, lv_args, dL, dv_cat, ih]
/-- a table's rows are right -/
def tOk (kn : sKn) (cc : ByteArray) (own : String) (nL : Nat) (Ts : List Cond) (D : Nat) (ret : Option FieldType) (ini : Bool) (tbl : List (Nat × sA)) : Prop := ∀ q ∈ tbl, mOk kn cc own nL Ts D ret ini q.1 q.2
theorem all_c {kn : sKn} {cc : ByteArray} {own : String} {nL : Nat} {Ts : List Cond} {D : Nat} {ret : Option FieldType} {ini : Bool} {pc : Nat} {act : sA} {l : List (Nat × sA)} (h : mOk kn cc own nL Ts D ret ini pc act) (hl : tOk kn cc own nL Ts D ret ini l) : tOk kn cc own nL Ts D ret ini ((pc, act) :: l) := List.forall_mem_cons.mpr ⟨h, hl⟩
theorem all_n {kn : sKn} {cc : ByteArray} {own : String} {nL : Nat} {Ts : List Cond} {D : Nat} {ret : Option FieldType} {ini : Bool} : tOk kn cc own nL Ts D ret ini [] := fun _ h => absurd h List.not_mem_nil
theorem mM_of {kn : sKn} {y : MethodName} {cc : ByteArray} {nL : Nat} {ws' : List Cond} {D : Nat} {ret : Option FieldType} {own : String} {ini : Bool} {tbl : List (Nat × sA)} (ho : y.cls = own) (hpl : plainName y.cls = true) (hin : ini = true → y.name = "<init>") (ht : tOk kn cc own nL ws' D ret ini tbl) (n : Nat) {vd : Bool} (hvd : vd = true → ret = none) : mM kn y (Cond.code y cc nL ret :: ws') D vd (mF tbl nL n) := by
  subst ho
  intro l hst dC dI cy av w r hf hv0 ρ sz
  unfold mF at hf
  split at hf
  · rename_i hlen
    refine Met.ofW (cc := cc) (maxL := nL) (ret := ret) hpl rfl ?_
    intro p e s m args below meth c s₁ B hml hv
    obtain ⟨rfl, hsz, hP, hK, hD0⟩ := hv
    have hts := atoms_spec (ws := Cond.code y cc nL ret :: ws') B.pre
    have hown : s.vm.findClass y.cls = some m.cls := findClass_of_methodNamed B.named
    have hnm : meth.name = y.name := (name_of_methodNamed B.named B.method).1
    subst hsz
    have X : mX kn p l e (headSpec (Cond.code y cc nL ret :: ws') ({ frames := D, cells := r.2.2.1, slots := r.2.2.2, locals := 40 * D } : Room)).room s m (av.map (dv ρ)).toArray below meth c dC dI cy (va_A (dW ρ cy w) s.heap.size) ρ w.length (mQ dC dI cy ρ w s.heap.size r) (MQ below (mQ dC dI cy ρ w s.heap.size r) (av.map (dv ρ)).toArray s r.2.2.1 r.2.2.2 (va_A (dW ρ cy w) s.heap.size)) cc y.cls nL ws' D ret ini r :=
      ⟨⟨B.exec, B.bytes, hml, hown, fun w h => hts w (List.mem_cons_of_mem _ h)⟩, B.returns, B.notSynchronized, hK, fun q h => Or.inr h, ⟨Nat.le_refl _, Nat.le_refl _⟩, ⟨Nat.le_refl _, Nat.le_refl _⟩, fun h => by rw [hnm]; exact hin h, fun _ ρ' H locs t hag hln hP hD hS ht hW => ⟨⟨ρ', hag, hln, rfl, by rw [ht]; exact hP, hD⟩, hS.F ht⟩, ⟨fun _ h => h, hst⟩, fun h1 h2 => by
        rw [h2] at hv0
        cases vd with
        | false => cases hv0
        | true => exact absurd (hvd rfl) h1⟩
    have G := run_ok ht X n 0 _ hf
    have hl := lv_entry (av.map (dv ρ)) (n := nL) (by rw [lg_sl_len]; exact Nat.le_of_ble_eq_true hlen)
    rw [lg_entry_eq]
    rw [lv_args_dv] at hl
    exact G.2 s.heap [] _ ρ (fun _ _ => rfl) (Nat.le_refl _) hP hD0.self va_S.rf hl
  · cases hf
end
