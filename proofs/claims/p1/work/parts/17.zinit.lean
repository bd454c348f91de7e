noncomputable section
-- ===== a load of the script, with what is known of it =====
def nrm (kn : sKn) (ss : sS) : sS := match ss.2.1 with
  | .float u :: st => match fv kn u 64 with
    | some c => (ss.1, .int c :: st, ss.2.2)
    | none => ss
  | _ => ss
def a_sldk (kn : sKn) (np : Nat) : sA := fun k ss => a_sld kn np (fun pc' ss' => k pc' (nrm kn ss')) ss
theorem ok_sldk {kn : sKn} {cc : ByteArray} {own : String} {nL : Nat} {Ts : List Cond} {D : Nat} {ret : Option FieldType} {ini : Bool} {pc : Nat} (hd : decode cc pc = .ok (.iaload, 1)) : mOk kn cc own nL Ts D ret ini pc (a_sldk kn (pc + 1)) := by
  intro p l e R s m args below meth c dC dI cy A ρ0 n0 Qc Q r X k hk ss h
  refine ok_sld hd p l e R s m args below meth c dC dI cy A ρ0 n0 Qc Q r X (fun pc' ss' => k pc' (nrm kn ss')) (fun pc' ss' hs => ?_) ss h
  have K := hk pc' _ hs
  unfold nrm at K
  split at K
  · rename_i u st hst
    split at K
    · rename_i c' hc
      refine ⟨K.1, fun H locs ls ρ hag hn hP hD hS hl => ?_⟩
      have e2 : vi ρ u = c' := eq_of_bsem b_eq_d bsem_0 (kn_at X.2.2.2.1.2.1.2.2 hag (fv_ok 64 hc))
      have G := K.2 H locs ls ρ hag hn hP hD hS hl
      rw [hst]
      show W p l e R s m args below meth c H locs ss'.2.2.2.1 ss'.2.2.2.2 Q (F0 m pc' ls (.int (vi ρ u) :: st.map (dv ρ)))
      rw [e2]
      exact G
    · exact K
  · exact K
-- ===== what is known may be more; a function known at one place =====
theorem mM_up {f1 : Nat → UInt32 → Int32 → Option Bool} {sc : List Value} {y : MethodName} {ws : List Cond} {D : Nat} {vd : Bool} {f : List Value → sW → Option sR} (h : mM (fun _ _ _ => none, sc) y ws D vd f) : mM (f1, sc) y ws D vd f := by
  intro l hst dC dI cy av w r hf hv ρ sz p e h1 h2 h3 s m args below h4 h5 hP h6
  refine h l hst dC dI cy av w r hf hv ρ sz p e h1 h2 h3 s m args below h4 h5 ?_ h6
  obtain ⟨q0, q1, qP, qK, qD⟩ := hP
  exact ⟨q0, q1, qP, ⟨qK.1, ⟨qK.2.1.1, qK.2.1.2.1, ⟨fun t u y b hb => (by cases hb), qK.2.1.2.2.2⟩⟩, qK.2.2⟩, qD⟩
def g_of (av0 : List Value) (w0 : sW) (r0 : sR) : List Value → sW → Option sR := fun av w => match decide (av = av0 ∧ w = w0) with
  | true => some r0
  | false => none
theorem mg_of {kn : sKn} {y : MethodName} {ws : List Cond} {D : Nat} {vd : Bool} {f : List Value → sW → Option sR} {av0 : List Value} {w0 : sW} {r0 : sR} (h : mM kn y ws D vd f) (hf : f av0 w0 = some r0) : mM kn y ws D vd (g_of av0 w0 r0) := by
  intro l hst dC dI cy av w r hg hv
  unfold g_of at hg
  split at hg
  · rename_i e
    obtain ⟨rfl, rfl⟩ := of_decide_eq_true e
    cases hg
    exact h l hst dC dI cy _ _ _ hf hv
  · cases hg
-- ===== the two constructors =====
def okE (o : Option sR) (w0 : sW) (a0 b0 : Nat) : Bool := match o with
  | some (none, w, a, b) => match decide (w = w0) with
    | true => match Nat.beq a a0 with
      | true => Nat.beq b b0
      | false => false
    | false => false
  | _ => false
theorem okE_spec {o : Option sR} {w0 : sW} {a0 b0 : Nat} (h : okE o w0 a0 b0 = true) : o = some (none, w0, a0, b0) := by
  unfold okE at h
  split at h
  · rename_i w a b
    split at h
    · rename_i e
      split at h
      · rename_i e2
        rw [of_decide_eq_true e, Nat.eq_of_beq_eq_true e2, Nat.eq_of_beq_eq_true h]
      · cases h
    · cases h
  · cases h
def kn6 : List Value := [.float 0, .float 1, .float 2, .float 3, .float 4, .float 5]
def kn0 : sKn := (fun _ _ _ => none, kn6)
def wM0 : sW := WX ++ [.inr (13, [.int 0, .null, .int 0, .int 0, .int 0, .int 0, .int 0, .int 0, .int 0, .int 0, .int 0, .int 0, .long 0, .int 0, .null, .null, .null, .null, .null, .null, .null, .null, .null, .int 0, .int 0, .int 0, .int 0, .null, .int 0, .null, .null, .null, .null, .null, .null, .int 0, .int 0, .null, .null, .int 0, .null, .null, .null, .int 0, .int 0, .null, .int 0, .int 0, .null, .int 0, .int 0, .null, .null, .int 0, .int 0, .null, .int 0, .int 0, .int 0, .int 0])]
set_option maxRecDepth 100000 in
theorem run_X : fX11_init kn0 [.ref 0] wInit = some (none, WX, 212, 5700) := okE_spec (by decide +kernel)
set_option maxRecDepth 100000 in
theorem run_M : fX12_init kn0 [.ref 213] wM0 = some (none, W0, 27, 4763) := okE_spec (by decide +kernel)
def gX : List Value → sW → Option sR := g_of [.ref 0] wInit (none, WX, 212, 5700)
def gM : List Value → sW → Option sR := g_of [.ref 213] wM0 (none, W0, 27, 4763)
end
