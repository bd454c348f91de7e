noncomputable section
-- ===== lookupswitch; the length of a static row =====
def lkB (pc : Nat) (ps : List (Int × Int)) (ts : List (Int × Nat)) : Bool := match ps, ts with
  | p :: r, t :: u => decide (p.1 = t.1) && (decide ((pc : Int) + p.2 = (t.2 : Int)) && lkB pc r u)
  | [], [] => true
  | _, _ => false
theorem lkB_ok {pc : Nat} {d : Int} : ∀ {ps : List (Int × Int)} {ts : List (Int × Nat)}, lkB pc ps ts = true → ∀ k : Int, (∀ q, ts.find? (fun q => q.1 == k) = some q → (pc : Int) + Op.lookupswitch.offset ps d k = (q.2 : Int)) ∧ (ts.find? (fun q => q.1 == k) = none → Op.lookupswitch.offset ps d k = d)
  | [], [], _, k => ⟨fun q h => by simp at h, fun _ => rfl⟩
  | [], _ :: _, h, _ => by simp [lkB] at h
  | _ :: _, [], h, _ => by simp [lkB] at h
  | p :: r, t :: u, h, k => by
    simp only [lkB, Bool.and_eq_true, decide_eq_true_eq] at h
    have ih := lkB_ok (d := d) h.2.2 k
    obtain ⟨a, o⟩ := p
    dsimp only at h
    rw [Op.lookupswitch.offset_cons, List.find?_cons]
    by_cases e : a = k
    · rw [if_pos e]
      have : (t.1 == k) = true := by rw [← h.1, e]; simp
      rw [this]
      exact ⟨fun q hq => by cases hq; exact h.2.1, fun hq => by cases hq⟩
    · rw [if_neg e]
      have : (t.1 == k) = false := by rw [← h.1]; simpa using e
      rw [this]
      exact ih
def a_alenK (np : Nat) : sA := fun k ss => match ss.2.1 with
  | .ref 1000001 :: st => k np (ss.1, .int 8 :: st, ss.2.2)
  | _ => none
section OKP
variable {kn : sKn} {cc : ByteArray} {own : String} {nL : Nat} {Ts : List Cond} {D : Nat} {ret : Option FieldType} {ini : Bool} {pc : Nat}
theorem ok_look {d : Int} {ps : Array (Int × Int)} {ts : List (Int × Nat)} {len dflt : Nat} (hd : decode cc pc = .ok (.lookupswitch d ps, len)) (hs : (ps.toList.zip (ps.toList.drop 1)).all (fun (a, next) => a.1 < next.1) = true) (ho : lkB pc ps.toList ts = true) (hdf : (pc : Int) + d = (dflt : Int)) : mOk kn cc own nL Ts D ret ini pc (a_look ts dflt) := by
  intro p l e R s m args below meth c dC dI cy A ρ0 n0 Qc Q r X k hk ss h
  obtain ⟨lv, st, w, nc, ns⟩ := ss
  unfold a_look at h
  split at h
  · rename_i x st' hx
    dsimp only at hx
    subst hx
    have L := lkB_ok (d := d) ho x.toInt
    split at h
    · rename_i q hq
      have K := hk _ _ h
      exact ⟨K.1, fun H locs ls ρ hag hn hP hD hS hl => lv_lookup X.1.1 X.1.2.1 hd hs rfl (L.1 q hq) (K.2 H locs ls ρ hag hn hP hD hS hl)⟩
    · rename_i hq
      have K := hk _ _ h
      exact ⟨K.1, fun H locs ls ρ hag hn hP hD hS hl => lv_lookup X.1.1 X.1.2.1 hd hs (L.2 hq) hdf (K.2 H locs ls ρ hag hn hP hD hS hl)⟩
  · cases h
theorem ok_alenK (hd : decode cc pc = .ok (.arraylength, 1)) : mOk kn cc own nL Ts D ret ini pc (a_alenK (pc + 1)) := by
  intro p l e R s m args below meth c dC dI cy A ρ0 n0 Qc Q r X k hk ss h
  obtain ⟨lv, st, w, nc, ns⟩ := ss
  unfold a_alenK at h
  split at h
  · rename_i st' hx
    dsimp only at hx
    subst hx
    have K := hk _ _ h
    refine ⟨K.1, fun H locs ls ρ hag hn hP hD hS hl => ?_⟩
    have e0 : ρ 1000001 = ρ0 1000001 := hag _ (Or.inr (by decide))
    have G := va_tlen (t := ρ0 1000001) X.1.1 X.1.2.1 X.2.2.2.1.2.2.2.2.2.1 hS (v := 8) rfl hd (K.2 H locs ls ρ hag hn hP hD hS hl)
    show W p l e R s m args below meth c H locs nc ns _ (F0 m pc ls (.ref (ρ 1000001) :: st'.map (dv ρ)))
    rw [e0]
    exact G
  · cases h
end OKP
def t_alenK (np : Nat) : tA := fun A => match A.2.1 with
  | r :: S => match Nat.beq r.1 2 with
    | true => match Nat.beq r.2.1 0 with
      | true => match zeq r.2.2 1000001 with
        | true => some [(some np, A.1, (0, 0, 8) :: S, A.2.2)]
        | false => none
      | false => none
    | false => none
  | _ => none
theorem tr_alenK {Z : eZ} {mods : List (Nat × Nat)} {np : Nat} : trOk Z mods (a_alenK np) (t_alenK np) := by
  intro A L h σ w0 ss hg
  obtain ⟨LL, S, M, E, N⟩ := A
  obtain ⟨lv, st, w, nn⟩ := ss
  unfold t_alenK at h
  split at h
  · rename_i r S' hS
    dsimp only at hS
    subst hS
    split at h
    · rename_i hk
      split at h
      · rename_i h0'
        split at h
        · rename_i hc
          rw [zeq_iff] at hc
          cases h
          obtain ⟨h0, hL, hS, hM, hE, hw, hr⟩ := hg
          obtain ⟨x, st', e1, hx, hS'⟩ := gS_1 hS
          dsimp only at e1
          subst e1
          obtain ⟨k, z, rfl, hz, hkz⟩ := avOk_R hx (Nat.eq_of_beq_eq_true hk)
          rw [Nat.eq_of_beq_eq_true h0', h0.2] at hz
          cases hz
          have : k = 1000001 := by omega
          subst this
          exact ⟨_, lmem, σ, (lv, .int 8 :: st', w, nn), ext_rf σ, ⟨h0, hL, ⟨⟨0, h0.2, 8, rfl, rfl⟩, hS'⟩, hM, hE, hw, hr⟩, fun kk => rfl⟩
        · cases h
      · cases h
    · cases h
  · cases h
end
