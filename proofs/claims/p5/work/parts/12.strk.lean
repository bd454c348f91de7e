noncomputable section
-- ===== the text of the WORDS (number 1000004), its bytes (1000005); SIOOBE_FORMATTER (1000006) =====
theorem str_recvK {kn : sKn} {dC : Nat → ClassId} {dI : Nat → Nat → Nat} {cy : Nat → ClassId} {ρ ρ0 : Nat → Nat} {A : Nat → Prop} {s : State} {H : Heap} {locs : List Loc} {n0 : Nat} (h : mK kn dC dI cy ρ0 A s s.heap) (hag : ag n0 ρ ρ0) (hS : va_S A s.heap H locs) : ∃ cell : Cell, H[ρ 1000004]? = some cell ∧ cell.vm.isStatics = false ∧ s.vm.findClass RJ0 = some cell.cls := by
  rw [hag 1000004 (Or.inr (by decide))]
  exact vk_recv (i := 0) (mK_str2 h) (by decide) hS
def a_strfK (v : Value) (np : Nat) : sA := fun k ss => match ss.2.1 with
  | .ref 1000004 :: st => k np (ss.1, v :: st, ss.2.2)
  | _ => none
def a_alenSK (np : Nat) : sA := fun k ss => match ss.2.1 with
  | .ref 1000005 :: st => k np (ss.1, .int 216 :: st, ss.2.2)
  | _ => none
def a_callVSK (vd : Bool) (f : List Value → sW → Option sR) (na np : Nat) : sA := fun k ss => match c_ok ss na with
  | true => match (ss.2.1.take na).reverse with
    | .ref 1000004 :: as => a_back vd k np ss.1 (ss.2.1.drop na) ss.2.2.2.1 ss.2.2.2.2 (f (.ref 1000004 :: as) ss.2.2.1)
    | _ => none
  | false => none
def a_baldK (np : Nat) : sA := fun k ss => match ss.2.1 with
  | .int i :: .ref 1000005 :: st => match Nat.blt (ixN i) 2147483648 with
    | true => match xg keyB (ixN i) with
      | some v => k np (ss.1, .int v :: st, ss.2.2)
      | none => none
    | false => none
  | _ => none
def a_cret : sA := fun _ ss => match ss.2.1 with
  | [.int x] => match Nat.blt (ixN x) 256 with
    | true => some (some (.int x), ss.2.2)
    | false => none
  | _ => none
theorem nar_all : ∀ b < 256, (Int32.ofNat b).toUInt32.toUInt16.toUInt32.toInt32 = Int32.ofNat b := by decide +kernel
theorem ix_all : ∀ b < 256, ixN (Int32.ofNat b) = b := by decide +kernel
theorem nar_c {x : Int32} (h : ixN x < 256) : narrow .char (.int x) = .int x := by
  have e : x = Int32.ofNat (ixN x) := ixN_inj (ix_all _ h).symm
  show Value.int _ = _
  rw [e]
  exact congrArg Value.int (nar_all _ h)
section OKGK
variable {kn : sKn} {cc : ByteArray} {own : String} {nL : Nat} {Ts : List Cond} {D : Nat} {ret : Option FieldType} {ini : Bool} {pc : Nat}
theorem ok_ldcK (hoe : own = RX9) (hd : decode cc pc = .ok (.ldc 70, 2)) : mOk kn cc own nL Ts D ret ini pc (a_gets 1000004 (pc + 2)) := by
  subst hoe
  intro p l e R s m args below meth c dC dI cy A ρ0 n0 Qc Q r X k hk ss h
  obtain ⟨lv, st, w, nc, ns⟩ := ss
  have K := hk _ _ h
  refine ⟨K.1, fun H locs ls ρ hag hn hP hD hS hl => ?_⟩
  have e1 : ρ 1000004 = ρ0 1000004 := hag _ (Or.inr (by decide))
  have hR : vk_R "SignedBridge$Tokens" 70 keyT (ρ 1000004) s := by rw [e1]; exact mK_R2 X.2.2.2.1
  intro T hT X'
  obtain ⟨t, a1, b1⟩ := K.2 H locs ls ρ hag hn hP hD hS hl T hT X'
  exact ⟨t, Stand.ldcString X' X.1.1 X.1.2.2.2.1 (text := keyT) (a := ρ 1000004) hR.1 hR.2 (g := F0 m pc ls (st.map (dv ρ))) rfl (by rw [X.1.2.1]; exact hd) t a1, b1⟩
def a_sio (kn : sKn) (np : Nat) : sA := fun k ss => k np (ss.1, siV kn :: ss.2.1, ss.2.2)
theorem ok_sio {index : Nat} (hlink : Cond.fieldLink own index "jdk/internal/util/Preconditions" "SIOOBE_FORMATTER" "Ljava/util/function/BiFunction;" ∈ Ts) (hd : decode cc pc = .ok (.getstatic index, 3)) : mOk kn cc own nL Ts D ret ini pc (a_sio kn (pc + 3)) := by
  intro p l e R s m args below meth c dC dI cy A ρ0 n0 Qc Q r X k hk ss h
  have K := hk _ _ h
  refine ⟨K.1, fun H locs ls ρ hag hn hP hD hS hl => ?_⟩
  have G := K.2 H locs ls ρ hag hn hP hD hS hl
  dsimp only at G
  rw [List.map_cons, siV_ag kn (hag 1000006 (Or.inr (by decide)))] at G
  exact va_gets X.1.1 X.1.2.1 (mK_sio X.2.2.2.1) hS X.1.2.2.2.1 (X.1.2.2.2.2 _ hlink) (fun _ z => z) hd G
theorem ok_baldK (hd : decode cc pc = .ok (.baload, 1)) : mOk kn cc own nL Ts D ret ini pc (a_baldK (pc + 1)) := by
  intro p l e R s m args below meth c dC dI cy A ρ0 n0 Qc Q r X k hk ss h
  obtain ⟨lv, st, w, nc, ns⟩ := ss
  unfold a_baldK at h
  split at h
  · rename_i i st' hs
    dsimp only at hs
    subst hs
    split at h
    case h_2 => cases h
    rename_i hb
    split at h
    case h_2 => cases h
    rename_i v hv
    obtain ⟨hin, hlt, hv⟩ := ixN_in (Nat.blt_eq.mp hb) hv
    have K := hk _ _ h
    refine ⟨K.1, fun H locs ls ρ hag hn hP hD hS hl => ?_⟩
    have e2 : ρ 1000005 = ρ0 1000005 := hag _ (Or.inr (by decide))
    have hv' := (mK_str2 X.2.2.2.1).1 0 (by decide)
    have G : W p l e R s m args below meth c H locs nc ns Q (F0 m (pc + 1) ls (.int v :: st'.map (dv ρ))) := K.2 H locs ls ρ hag hn hP hD hS hl
    show W p l e R s m args below meth c H locs nc ns Q (F0 m pc ls (.int i :: .ref (ρ 1000005) :: st'.map (dv ρ)))
    rw [e2]
    exact va_tb X.1.1 X.1.2.1 hv'.2.2.2 hS (i := i) hin (by show Value.int (keyB.getD i.toNatClampNeg 0) = .int v; simp [List.getD, hv]) hd G
  · cases h
theorem ok_cret (hd : decode cc pc = .ok (.ireturn, 1)) : mOk kn cc own nL Ts D (some .char) ini pc a_cret := by
  intro p l e R s m args below meth c dC dI cy A ρ0 n0 Qc Q r X k hk ss h
  obtain ⟨lv, st, w, nc, ns⟩ := ss
  unfold a_cret at h
  split at h
  · rename_i x hs
    dsimp only at hs
    subst hs
    split at h
    · rename_i hx
      cases h
      have hlocks := X.2.2.1
      exact ⟨⟨Nat.le_refl _, Nat.le_refl _⟩, fun H locs ls ρ hag hn hP hD hS hl => w_mono X.2.2.2.2.2.2.2.2.2.1.1 (W.zret X.1.1 X.1.2.1 X.2.1 (nar_c (Nat.blt_eq.mp hx)) (fun t ht hW => X.2.2.2.2.2.2.2.2.1 (Or.inr (fun z => by cases z)) ρ H locs t hag hn hP hD hS ht hW) hS.2.2 hd)⟩
    · cases h
  · cases h
theorem ok_strVK {index : Nat} (hlk : Cond.fieldLink own index "java/lang/String" "value" "[B" ∈ Ts) (hd : decode cc pc = .ok (.getfield index, 3)) : mOk kn cc own nL Ts D ret ini pc (a_strfK (.ref 1000005) (pc + 3)) := by
  intro p l e R s m args below meth c dC dI cy A ρ0 n0 Qc Q r X k hk ss h
  obtain ⟨lv, st, w, nc, ns⟩ := ss
  unfold a_strfK at h
  split at h
  · rename_i st' hs
    dsimp only at hs
    subst hs
    have K := hk _ _ h
    refine ⟨K.1, fun H locs ls ρ hag hn hP hD hS hl => ?_⟩
    have e1 : ρ 1000004 = ρ0 1000004 := hag _ (Or.inr (by decide))
    have e2 : ρ 1000005 = ρ0 1000005 := hag _ (Or.inr (by decide))
    have hv := (mK_str2 X.2.2.2.1).1 0 (by decide)
    have G : W p l e R s m args below meth c H locs nc ns Q (F0 m (pc + 3) ls (.ref (ρ 1000005) :: st'.map (dv ρ))) := K.2 H locs ls ρ hag hn hP hD hS hl
    show W p l e R s m args below meth c H locs nc ns Q (F0 m pc ls (.ref (ρ 1000004) :: st'.map (dv ρ)))
    rw [e2] at G
    rw [e1]
    exact vk_getf X.1.1 X.1.2.1 hv.2.2.1 hS X.1.2.2.2.1 (X.1.2.2.2.2 _ hlk) (fun _ h => h) hd G
  · cases h
theorem ok_strCK {index : Nat} (hlk : Cond.fieldLink own index "java/lang/String" "coder" "B" ∈ Ts) (hd : decode cc pc = .ok (.getfield index, 3)) : mOk kn cc own nL Ts D ret ini pc (a_strfK (.int 0) (pc + 3)) := by
  intro p l e R s m args below meth c dC dI cy A ρ0 n0 Qc Q r X k hk ss h
  obtain ⟨lv, st, w, nc, ns⟩ := ss
  unfold a_strfK at h
  split at h
  · rename_i st' hs
    dsimp only at hs
    subst hs
    have K := hk _ _ h
    refine ⟨K.1, fun H locs ls ρ hag hn hP hD hS hl => ?_⟩
    have e1 : ρ 1000004 = ρ0 1000004 := hag _ (Or.inr (by decide))
    have hv := (mK_str2 X.2.2.2.1).1 0 (by decide)
    have G : W p l e R s m args below meth c H locs nc ns Q (F0 m (pc + 3) ls (.int 0 :: st'.map (dv ρ))) := K.2 H locs ls ρ hag hn hP hD hS hl
    show W p l e R s m args below meth c H locs nc ns Q (F0 m pc ls (.ref (ρ 1000004) :: st'.map (dv ρ)))
    rw [e1]
    exact vk_getf X.1.1 X.1.2.1 hv.2.1 hS X.1.2.2.2.1 (X.1.2.2.2.2 _ hlk) (fun _ h => h) hd G
  · cases h
theorem ok_alenSK (hd : decode cc pc = .ok (.arraylength, 1)) : mOk kn cc own nL Ts D ret ini pc (a_alenSK (pc + 1)) := by
  intro p l e R s m args below meth c dC dI cy A ρ0 n0 Qc Q r X k hk ss h
  obtain ⟨lv, st, w, nc, ns⟩ := ss
  unfold a_alenSK at h
  split at h
  · rename_i st' hs
    dsimp only at hs
    subst hs
    have K := hk _ _ h
    refine ⟨K.1, fun H locs ls ρ hag hn hP hD hS hl => ?_⟩
    have e2 : ρ 1000005 = ρ0 1000005 := hag _ (Or.inr (by decide))
    have hv := (mK_str2 X.2.2.2.1).1 0 (by decide)
    have G : W p l e R s m args below meth c H locs nc ns Q (F0 m (pc + 1) ls (.int 216 :: st'.map (dv ρ))) := K.2 H locs ls ρ hag hn hP hD hS hl
    show W p l e R s m args below meth c H locs nc ns Q (F0 m pc ls (.ref (ρ 1000005) :: st'.map (dv ρ)))
    rw [e2]
    exact va_tlen X.1.1 X.1.2.1 hv.2.2.2 hS (v := 216) rfl hd G
  · cases h
theorem ok_callVSK {y : MethodName} {bytes : ByteArray} {maxL : Nat} {rt : Option FieldType} {ws' : List Cond} {D' index na : Nat} {vd : Bool} {f : List Value → sW → Option sR} (hM : mM kn y (Cond.code y bytes maxL rt :: ws') D' vd f) (hG : GoodIn Ts (Cond.code y bytes maxL rt :: ws')) (hDD : D' + 1 ≤ D) (hml : maxL ≤ 21) (hlink : Cond.methodLink own index y ∈ Ts) (hin : Cond.instanceMethod y ∈ Ts) (hsel : Cond.selects RJ0 y y ∈ Ts) (hini : Cond.initialized y.cls ∈ Ts) (hy : y.cls ≠ "java/lang/invoke/MethodHandle" ∧ y.cls ≠ "java/lang/invoke/VarHandle" ∧ (parseMethodDescriptor y.desc).map (fun d => d.parameters.length) = some na) (hd : decode cc pc = .ok (.invokevirtual index, 3)) : mOk kn cc own nL Ts D ret ini pc (a_callVSK vd f (na + 1) (pc + 3)) := by
  intro p l e R s m args below meth c dC dI cy A ρ0 n0 Qc Q r X k hk ss h
  obtain ⟨lv, st, w, nc, ns⟩ := ss
  unfold a_callVSK at h
  split at h
  · rename_i hok
    obtain ⟨k1, k2, k3, k4⟩ := c_ok_p hok
    dsimp only at k1 k2 k3 k4 h
    split at h
    · rename_i as hst
      unfold a_back at h
      split at h
      · rename_i r1 hf
        split at h
        case h_2 => cases h
        rename_i hvd
        have K := hk _ _ h
        have hb := K.1
        dsimp only at hb
        refine ⟨by dsimp only; omega, fun H locs ls ρ hag hn hP hD hS hl => ?_⟩
        dsimp only at hn hP hD hl ⊢
        have hsub := va_A_sub (dC := dC) hD hS X.2.2.2.2.1
        have hcb : CallB R s args own index y bytes maxL rt (Cond.code y bytes maxL rt :: ws') { frames := D', cells := r1.2.2.1, slots := r1.2.2.2, locals := 40 * D' } r1.2.2.1 r1.2.2.2 na :=
          callB_of na X.1.2.2.2.2 hG rfl rfl rfl (X.1.2.2.2.2 _ hini) (X.1.2.2.2.2 _ hlink) hy ⟨Nat.le_trans hDD X.2.2.2.2.2.2.1.1, by have := X.2.2.2.2.2.2.1.2; show 8 + (maxL + 11) + 40 * D' ≤ _; omega⟩
        have hlen : as.length = na := by
          have e1 := congrArg List.length hst
          simp at e1
          omega
        have hstk : st.map (dv ρ) = (as.map (dv ρ)).reverse ++ .ref (ρ 1000004) :: (st.drop (na + 1)).map (dv ρ) := by
          have e1 : st.take (na + 1) = as.reverse ++ [.ref 1000004] := by
            have e2 := congrArg List.reverse hst
            rw [List.reverse_reverse, List.reverse_cons] at e2
            exact e2
          conv => lhs; rw [← List.take_append_drop (na + 1) st, e1]
          simp [dv]
        refine z_call (va_runV (As := as.map (dv ρ)) (b := ρ 1000004) (rest := (st.drop (na + 1)).map (dv ρ)) X.1 (hM l X.2.2.2.2.2.2.2.2.2.1.2 dC dI cy _ w r1 hf hvd ρ H.size) ⟨hcb, X.1.2.2.2.2 _ hin, X.1.2.2.2.2 _ hsel⟩ ⟨mPc_blind, str_recvK X.2.2.2.1 hag hS, fun U hU hW => ⟨rfl, by rw [hU], by rw [hU]; exact hP, mK_move X.2.2.2.1 hW.alike (mN_warm hW) hsub (fun q h1 h2 => by rw [hU]; exact hS.2.1 q h1 h2) (fun k hk => hag k (Or.inr hk)), hD.weaken (fun _ _ _ _ => trivial)⟩⟩ rfl (by simpa using hlen) hl.1 hstk (lv_room (by rw [cat_map]; exact k2)) hd ⟨Nat.le_trans hb.1 X.2.2.2.2.2.1.1, Nat.le_trans hb.2 X.2.2.2.2.2.1.2⟩) hS hsub (fun ρ' H1 locs1 hag1 hln hP1 hD1 hS1 => ?_)
        exact z_cont K.2 hag hn hag1 hln hP1 hD1 hS1 hl k3 k4
      · cases h
    · cases h
  · cases h
end OKGK
end
