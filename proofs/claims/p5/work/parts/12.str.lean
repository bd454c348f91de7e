noncomputable section
-- ===== the String constant "gap" (number 1000002), its bytes (1000003); calls within java.lang's builder =====
def strV : List Value := [.int 103, .int 97, .int 112]
def strI (j : Nat) : Int32 := ([103, 97, 112] : List Int32).getD j 0
theorem strI_fit (j : Nat) : fits .byte (.int (strI j)) = true := by
  match j with
  | 0 => decide
  | 1 => decide
  | 2 => decide
  | n + 3 => exact (show fits .byte (.int 0) = true by decide)
theorem strI_eq (ρ : Nat → Nat) : (fun j => di ρ (strV.getD j .null)) = strI := by
  funext j
  match j with
  | 0 => rfl
  | 1 => rfl
  | 2 => rfl
  | n + 3 => rfl
theorem kn_at0 {D : va_G} {cl : List vw_C} {tys : List (ClassId × FieldType)} {s : State} {ci N : Nat} {C : String} {T : u_T} (hK : va_K D cl tys s) (hc : cl[ci]? = some (C, T, N)) : ClassAt s C (D.1 ci) := (hK.1 ci _ hc).2
theorem str_recv {kn : sKn} {dC : Nat → ClassId} {dI : Nat → Nat → Nat} {cy : Nat → ClassId} {ρ ρ0 : Nat → Nat} {A : Nat → Prop} {s : State} {H : Heap} {locs : List Loc} {n0 : Nat} (h : mK kn dC dI cy ρ0 A s s.heap) (hag : ag n0 ρ ρ0) (hS : va_S A s.heap H locs) : ∃ cell : Cell, H[ρ 1000002]? = some cell ∧ cell.vm.isStatics = false ∧ s.vm.findClass RJ0 = some cell.cls := by
  rw [hag 1000002 (Or.inr (by decide))]
  exact vk_recv (i := 0) (mK_str h) (by decide) hS
def a_ldcS (np : Nat) : sA := fun k ss => k np (ss.1, .ref 1000002 :: ss.2.1, ss.2.2)
def a_strf (v : Value) (np : Nat) : sA := fun k ss => match ss.2.1 with
  | .ref 1000002 :: st => k np (ss.1, v :: st, ss.2.2)
  | _ => none
def a_alenS (np : Nat) : sA := fun k ss => match ss.2.1 with
  | .ref 1000003 :: st => k np (ss.1, .int 3 :: st, ss.2.2)
  | _ => none
def a_ifnn (tgt np : Nat) : sA := fun k ss => match ss.2.1 with
  | .ref _ :: st => k tgt (ss.1, st, ss.2.2)
  | .null :: st => k np (ss.1, st, ss.2.2)
  | _ => none
def a_bret : sA := fun _ ss => match ss.2.1 with
  | [.int x] => match Nat.beq (ixN x) 0 with
    | true => some (some (.int 0), ss.2.2)
    | false => none
  | _ => none
def a_copyS (np : Nat) : sA := fun k ss => match ss.2.1 with
  | .int n :: .int dp :: .ref b :: .int sp :: .ref 1000003 :: st => match xg ss.2.2.1 b with
    | some (.inl (0, us)) => if ¬ sp < 0 ∧ ¬ dp < 0 ∧ ¬ n < 0 ∧ sp.toNatClampNeg + n.toNatClampNeg ≤ strV.length ∧ dp.toNatClampNeg + n.toNatClampNeg ≤ us.length ∧ (st.map fun v => v.category).sum ≤ 8 then k np (ss.1, st, xs ss.2.2.1 b (.inl (0, cpyL strV us sp.toNatClampNeg dp.toNatClampNeg n.toNatClampNeg)), ss.2.2.2) else none
    | _ => none
  | _ => none
def a_callVS (vd : Bool) (f : List Value → sW → Option sR) (na np : Nat) : sA := fun k ss => match c_ok ss na with
  | true => match (ss.2.1.take na).reverse with
    | .ref 1000002 :: as => a_back vd k np ss.1 (ss.2.1.drop na) ss.2.2.2.1 ss.2.2.2.2 (f (.ref 1000002 :: as) ss.2.2.1)
    | _ => none
  | false => none
section OKG
variable {kn : sKn} {cc : ByteArray} {own : String} {nL : Nat} {Ts : List Cond} {D : Nat} {ret : Option FieldType} {ini : Bool} {pc : Nat}
theorem ok_ldcS (hoe : own = RX11) (hd : decode cc pc = .ok (.ldc_w 350, 3)) : mOk kn cc own nL Ts D ret ini pc (a_ldcS (pc + 3)) := by
  subst hoe
  intro p l e R s m args below meth c dC dI cy A ρ0 n0 Qc Q r X k hk ss h
  obtain ⟨lv, st, w, nc, ns⟩ := ss
  have K := hk _ _ h
  refine ⟨K.1, fun H locs ls ρ hag hn hP hD hS hl => ?_⟩
  have e1 : ρ 1000002 = ρ0 1000002 := hag _ (Or.inr (by decide))
  have hR : vk_R "SignedBridge" 350 "gap" (ρ 1000002) s := by rw [e1]; exact mK_R X.2.2.2.1
  intro T hT X'
  obtain ⟨t, a1, b1⟩ := K.2 H locs ls ρ hag hn hP hD hS hl T hT X'
  exact ⟨t, Stand.ldcStringW X' X.1.1 X.1.2.2.2.1 (text := "gap") (a := ρ 1000002) hR.1 hR.2 (g := F0 m pc ls (st.map (dv ρ))) rfl (by rw [X.1.2.1]; exact hd) t a1, b1⟩
theorem ok_strV {index : Nat} (hlk : Cond.fieldLink own index "java/lang/String" "value" "[B" ∈ Ts) (hd : decode cc pc = .ok (.getfield index, 3)) : mOk kn cc own nL Ts D ret ini pc (a_strf (.ref 1000003) (pc + 3)) := by
  intro p l e R s m args below meth c dC dI cy A ρ0 n0 Qc Q r X k hk ss h
  obtain ⟨lv, st, w, nc, ns⟩ := ss
  unfold a_strf at h
  split at h
  · rename_i st' hs
    dsimp only at hs
    subst hs
    have K := hk _ _ h
    refine ⟨K.1, fun H locs ls ρ hag hn hP hD hS hl => ?_⟩
    have e1 : ρ 1000002 = ρ0 1000002 := hag _ (Or.inr (by decide))
    have e2 : ρ 1000003 = ρ0 1000003 := hag _ (Or.inr (by decide))
    have hv := (mK_str X.2.2.2.1).1 0 (by decide)
    have G : W p l e R s m args below meth c H locs nc ns Q (F0 m (pc + 3) ls (.ref (ρ 1000003) :: st'.map (dv ρ))) := K.2 H locs ls ρ hag hn hP hD hS hl
    show W p l e R s m args below meth c H locs nc ns Q (F0 m pc ls (.ref (ρ 1000002) :: st'.map (dv ρ)))
    rw [e2] at G
    rw [e1]
    exact vk_getf X.1.1 X.1.2.1 hv.2.2.1 hS X.1.2.2.2.1 (X.1.2.2.2.2 _ hlk) (fun _ h => h) hd G
  · cases h
theorem ok_strC {index : Nat} (hlk : Cond.fieldLink own index "java/lang/String" "coder" "B" ∈ Ts) (hd : decode cc pc = .ok (.getfield index, 3)) : mOk kn cc own nL Ts D ret ini pc (a_strf (.int 0) (pc + 3)) := by
  intro p l e R s m args below meth c dC dI cy A ρ0 n0 Qc Q r X k hk ss h
  obtain ⟨lv, st, w, nc, ns⟩ := ss
  unfold a_strf at h
  split at h
  · rename_i st' hs
    dsimp only at hs
    subst hs
    have K := hk _ _ h
    refine ⟨K.1, fun H locs ls ρ hag hn hP hD hS hl => ?_⟩
    have e1 : ρ 1000002 = ρ0 1000002 := hag _ (Or.inr (by decide))
    have hv := (mK_str X.2.2.2.1).1 0 (by decide)
    have G : W p l e R s m args below meth c H locs nc ns Q (F0 m (pc + 3) ls (.int 0 :: st'.map (dv ρ))) := K.2 H locs ls ρ hag hn hP hD hS hl
    show W p l e R s m args below meth c H locs nc ns Q (F0 m pc ls (.ref (ρ 1000002) :: st'.map (dv ρ)))
    rw [e1]
    exact vk_getf X.1.1 X.1.2.1 hv.2.1 hS X.1.2.2.2.1 (X.1.2.2.2.2 _ hlk) (fun _ h => h) hd G
  · cases h
theorem ok_alenS (hd : decode cc pc = .ok (.arraylength, 1)) : mOk kn cc own nL Ts D ret ini pc (a_alenS (pc + 1)) := by
  intro p l e R s m args below meth c dC dI cy A ρ0 n0 Qc Q r X k hk ss h
  obtain ⟨lv, st, w, nc, ns⟩ := ss
  unfold a_alenS at h
  split at h
  · rename_i st' hs
    dsimp only at hs
    subst hs
    have K := hk _ _ h
    refine ⟨K.1, fun H locs ls ρ hag hn hP hD hS hl => ?_⟩
    have e2 : ρ 1000003 = ρ0 1000003 := hag _ (Or.inr (by decide))
    have hv := (mK_str X.2.2.2.1).1 0 (by decide)
    have G : W p l e R s m args below meth c H locs nc ns Q (F0 m (pc + 1) ls (.int 3 :: st'.map (dv ρ))) := K.2 H locs ls ρ hag hn hP hD hS hl
    show W p l e R s m args below meth c H locs nc ns Q (F0 m pc ls (.ref (ρ 1000003) :: st'.map (dv ρ)))
    rw [e2]
    exact va_tlen X.1.1 X.1.2.1 hv.2.2.2 hS (v := 3) rfl hd G
  · cases h
theorem ok_ifnn {off : Int} {tgt : Nat} (hd : decode cc pc = .ok (.ifnonnull off, 3)) (ht : (pc : Int) + off = (tgt : Int)) : mOk kn cc own nL Ts D ret ini pc (a_ifnn tgt (pc + 3)) := by
  intro p l e R s m args below meth c dC dI cy A ρ0 n0 Qc Q r X k hk ss h
  obtain ⟨lv, st, w, nc, ns⟩ := ss
  unfold a_ifnn at h
  split at h
  · rename_i x st' hs
    dsimp only at hs
    subst hs
    have K := hk _ _ h
    exact ⟨K.1, fun H locs ls ρ hag hn hP hD hS hl => lv_ifnonnull X.1.1 X.1.2.1 hd ht (K.2 H locs ls ρ hag hn hP hD hS hl)⟩
  · rename_i st' hs
    dsimp only at hs
    subst hs
    have K := hk _ _ h
    exact ⟨K.1, fun H locs ls ρ hag hn hP hD hS hl => lv_ifnonnullN X.1.1 X.1.2.1 hd (K.2 H locs ls ρ hag hn hP hD hS hl)⟩
  · cases h
theorem ok_bret (hd : decode cc pc = .ok (.ireturn, 1)) : mOk kn cc own nL Ts D (some .byte) ini pc a_bret := by
  intro p l e R s m args below meth c dC dI cy A ρ0 n0 Qc Q r X k hk ss h
  obtain ⟨lv, st, w, nc, ns⟩ := ss
  unfold a_bret at h
  split at h
  · rename_i x hs
    dsimp only at hs
    subst hs
    split at h
    · rename_i hx
      have hx : x = 0 := ixN_inj (Nat.eq_of_beq_eq_true hx)
      subst hx
      cases h
      have hlocks := X.2.2.1
      exact ⟨⟨Nat.le_refl _, Nat.le_refl _⟩, fun H locs ls ρ hag hn hP hD hS hl => w_mono X.2.2.2.2.2.2.2.2.2.1.1 (W.zret X.1.1 X.1.2.1 X.2.1 rfl (fun t ht hW => X.2.2.2.2.2.2.2.2.1 (Or.inr (fun z => by cases z)) ρ H locs t hag hn hP hD hS ht hW) hS.2.2 hd)⟩
    · cases h
  · cases h
theorem ok_copyS {index : Nat} (hD1 : 1 ≤ D) (hlink : Cond.methodLink own index arraycopyName ∈ Ts) (hnat : Cond.native arraycopyName ∈ Ts) (hstat : Cond.static arraycopyName ∈ Ts) (hini : Cond.initialized "java/lang/System" ∈ Ts) (hd : decode cc pc = .ok (.invokestatic index, 3)) : mOk kn cc own nL Ts D ret ini pc (a_copyS (pc + 3)) := by
  intro p l e R s m args below meth c dC dI cy A ρ0 n0 Qc Q r X k hk ss h
  obtain ⟨lv, st, w, nc, ns⟩ := ss
  have hfr : 1 ≤ R.frames := Nat.le_trans hD1 X.2.2.2.2.2.2.1.1
  have hlo : 40 ≤ R.locals := Nat.le_trans (by omega) X.2.2.2.2.2.2.1.2
  unfold a_copyS at h
  split at h
  · rename_i n dp b sp st' hs
    dsimp only at hs
    subst hs
    split at h
    · rename_i us hw2
      rw [xg_eq] at hw2
      simp only [xs_eq] at h
      split at h
      · rename_i hc
        obtain ⟨c1, c2, c3, c4, c5, c6⟩ := hc
        have K := hk _ _ h
        refine ⟨K.1, fun H locs ls ρ hag hn hP hD hS hl => ?_⟩
        have e2 : ρ 1000003 = ρ0 1000003 := hag _ (Or.inr (by decide))
        have hv : va_T .byte (ρ0 1000003) 3 (fun j => .int (strI j)) A s s.heap := ((mK_str X.2.2.2.1).1 0 (by decide)).2.2.2
        rw [← e2] at hv
        refine vk_copyt X.1.1 X.1.2.1 (X.1.2.2.1.trans hl.1.symm) X.1.2.2.2.1 (X.1.2.2.2.2 _ hlink) (X.1.2.2.2.2 _ hnat) (X.1.2.2.2.2 _ hstat) (X.1.2.2.2.2 _ hini) X.2.2.2.1.1 hP hD hS hv b 0 (dW_get hw2) rfl c1 c2 c3 c4 c5 (fun i _ => strI_fit _) hfr (nfw_ok (by rw [cat_map]; exact c6) hlo) hd (fun H1 locs1 hP1 hD1 hS1 => ?_)
        have e1 : dW ρ cy (w.set b (.inl (0, cpyL strV us sp.toNatClampNeg dp.toNatClampNeg n.toNatClampNeg))) = (dW ρ cy w).set b (ρ b, .inl (cy 0, us.length, .inl (va_cpy strI (fun j => di ρ (us.getD j .null)) sp.toNatClampNeg dp.toNatClampNeg n.toNatClampNeg))) := by
          rw [dW_set, ← strI_eq ρ, ← di_cpy c4 c5]
          simp only [dE, dA, cpyL_len c4 c5]
        exact K.2 H1 locs1 ls ρ hag (by simpa using hn) (by dsimp only; rw [e1]; exact hP1) (by dsimp only; rw [e1]; exact hD1) hS1 hl
      · cases h
    · cases h
  · cases h
theorem ok_callVP {y : MethodName} {bytes : ByteArray} {maxL : Nat} {rt : Option FieldType} {ws' : List Cond} {D' index na ci : Nat} {T : u_T} {N : Nat} {vd : Bool} {f : List Value → sW → Option sR} (hM : mM kn y (Cond.code y bytes maxL rt :: ws') D' vd f) (hG : GoodIn Ts (Cond.code y bytes maxL rt :: ws')) (hDD : D' + 1 ≤ D) (hml : maxL ≤ 21) (hlink : Cond.methodLink own index y ∈ Ts) (hin : Cond.instanceMethod y ∈ Ts) (hsel : y ∈ privS) (hini : Cond.initialized y.cls ∈ Ts) (hy : y.cls ≠ "java/lang/invoke/MethodHandle" ∧ y.cls ≠ "java/lang/invoke/VarHandle" ∧ (parseMethodDescriptor y.desc).map (fun d => d.parameters.length) = some na) (hc : vwCl[ci]? = some (RJ4, T, N)) (hd : decode cc pc = .ok (.invokevirtual index, 3)) : mOk kn cc own nL Ts D ret ini pc (a_callV vd f ci (na + 1) (pc + 3)) := by
  intro p l e R s m args below meth c dC dI cy A ρ0 n0 Qc Q r X k hk ss h
  obtain ⟨lv, st, w, nc, ns⟩ := ss
  unfold a_callV at h
  split at h
  · rename_i hok
    obtain ⟨k1, k2, k3, k4⟩ := c_ok_p hok
    dsimp only at k1 k2 k3 k4 h
    split at h
    · rename_i h0 as hst
      split at h
      · rename_i c' fs hw
        split at h
        · rename_i e'
          subst e'
          rw [xg_eq] at hw
          unfold a_back at h
          split at h
          · rename_i r1 hf
            split at h
            case h_2 => cases h
            rename_i hvd
            have K := hk _ _ h
            have hb := K.1
            dsimp only at hb
            refine ⟨by dsimp only; omega, fun H locs ls ρ hag hn hP hD hS hl => ?_⟩
            dsimp only at hn hP hD hl ⊢
            have hsub := va_A_sub (dC := dC) hD hS X.2.2.2.2.1
            have hcb : CallB R s args own index y bytes maxL rt (Cond.code y bytes maxL rt :: ws') { frames := D', cells := r1.2.2.1, slots := r1.2.2.2, locals := 40 * D' } r1.2.2.1 r1.2.2.2 na :=
              callB_of na X.1.2.2.2.2 hG rfl rfl rfl (X.1.2.2.2.2 _ hini) (X.1.2.2.2.2 _ hlink) hy ⟨Nat.le_trans hDD X.2.2.2.2.2.2.1.1, by have := X.2.2.2.2.2.2.1.2; show 8 + (maxL + 11) + 40 * D' ≤ _; omega⟩
            have hlen : as.length = na := by
              have e1 := congrArg List.length hst
              simp at e1
              omega
            have hstk : st.map (dv ρ) = (as.map (dv ρ)).reverse ++ .ref (ρ h0) :: (st.drop (na + 1)).map (dv ρ) := by
              have e1 : st.take (na + 1) = as.reverse ++ [.ref h0] := by
                have e2 := congrArg List.reverse hst
                rw [List.reverse_reverse, List.reverse_cons] at e2
                exact e2
              conv => lhs; rw [← List.take_append_drop (na + 1) st, e1]
              simp [dv]
            refine z_call (va_runV (As := as.map (dv ρ)) (b := ρ h0) (rest := (st.drop (na + 1)).map (dv ρ)) X.1 (hM l X.2.2.2.2.2.2.2.2.2.1.2 dC dI cy _ w r1 hf hvd ρ H.size) ⟨hcb, X.1.2.2.2.2 _ hin, mK_sel X.2.2.2.1 hsel args⟩ ⟨mPc_blind, va_recv X.2.2.2.1.1 hP hc (dW_get hw), fun U hU hW => ⟨rfl, by rw [hU], by rw [hU]; exact hP, mK_move X.2.2.2.1 hW.alike (mN_warm hW) hsub (fun q h1 h2 => by rw [hU]; exact hS.2.1 q h1 h2) (fun k hk => hag k (Or.inr hk)), hD.weaken (fun _ _ _ _ => trivial)⟩⟩ rfl (by simpa using hlen) hl.1 hstk (lv_room (by rw [cat_map]; exact k2)) hd ⟨Nat.le_trans hb.1 X.2.2.2.2.2.1.1, Nat.le_trans hb.2 X.2.2.2.2.2.1.2⟩) hS hsub (fun ρ' H1 locs1 hag1 hln hP1 hD1 hS1 => ?_)
            exact z_cont K.2 hag hn hag1 hln hP1 hD1 hS1 hl k3 k4
          · cases h
        · cases h
      · cases h
    · cases h
  · cases h
theorem ok_callSup {y : MethodName} {bytes : ByteArray} {maxL : Nat} {rt : Option FieldType} {ws' : List Cond} {D' index na ci : Nat} {C : String} {T : u_T} {N : Nat} {vd : Bool} {f : List Value → sW → Option sR} (hM : mM kn y (Cond.code y bytes maxL rt :: ws') D' vd f) (hG : GoodIn Ts (Cond.code y bytes maxL rt :: ws')) (hDD : D' + 1 ≤ D) (hml : maxL ≤ 21) (hlink : Cond.methodLink own index y ∈ Ts) (hin : Cond.instanceMethod y ∈ Ts) (hsam : Cond.sameMethod y.cls y.cls y.name y.desc ∈ Ts) (hsup : Cond.superclass own y.cls ∈ Ts) (hno : y.name ≠ "<init>") (hini : Cond.initialized y.cls ∈ Ts) (hy : y.cls ≠ "java/lang/invoke/MethodHandle" ∧ y.cls ≠ "java/lang/invoke/VarHandle" ∧ (parseMethodDescriptor y.desc).map (fun d => d.parameters.length) = some na) (hc : vwCl[ci]? = some (C, T, N)) (hd : decode cc pc = .ok (.invokespecial index, 3)) : mOk kn cc own nL Ts D ret ini pc (a_callV vd f ci (na + 1) (pc + 3)) := by
  intro p l e R s m args below meth c dC dI cy A ρ0 n0 Qc Q r X k hk ss h
  obtain ⟨lv, st, w, nc, ns⟩ := ss
  unfold a_callV at h
  split at h
  · rename_i hok
    obtain ⟨k1, k2, k3, k4⟩ := c_ok_p hok
    dsimp only at k1 k2 k3 k4 h
    split at h
    · rename_i h0 as hst
      split at h
      · rename_i c' fs hw
        split at h
        · rename_i e'
          subst e'
          rw [xg_eq] at hw
          unfold a_back at h
          split at h
          · rename_i r1 hf
            split at h
            case h_2 => cases h
            rename_i hvd
            have K := hk _ _ h
            have hb := K.1
            dsimp only at hb
            refine ⟨by dsimp only; omega, fun H locs ls ρ hag hn hP hD hS hl => ?_⟩
            dsimp only at hn hP hD hl ⊢
            have hsub := va_A_sub (dC := dC) hD hS X.2.2.2.2.1
            have hcs : va_CS R s args own index y bytes maxL rt (Cond.code y bytes maxL rt :: ws') { frames := D', cells := r1.2.2.1, slots := r1.2.2.2, locals := 40 * D' } r1.2.2.1 r1.2.2.2 na := by
              have hcm : Cond.code y bytes maxL rt ∈ Cond.code y bytes maxL rt :: ws' := List.mem_cons_self
              refine ⟨⟨rfl, rfl, Nat.le_trans hDD X.2.2.2.2.2.2.1.1, by have := X.2.2.2.2.2.2.1.2; show 8 + (maxL + 11) + 40 * D' ≤ _; omega, pay_in X.1.2.2.2.2 hG, hcm⟩, X.1.2.2.2.2 _ hlink, X.1.2.2.2.2 _ hsam, X.1.2.2.2.2 _ hsup, X.1.2.2.2.2 _ hin, X.1.2.2.2.2 _ hini, X.1.2.2.2.2 _ (hG _ hcm).1, hno, fun sig h => ?_⟩
              have h2 := hy.2.2
              rw [h] at h2
              exact (Option.some.inj h2).symm
            have hlen : as.length = na := by
              have e1 := congrArg List.length hst
              simp at e1
              omega
            have hstk : st.map (dv ρ) = (as.map (dv ρ)).reverse ++ .ref (ρ h0) :: (st.drop (na + 1)).map (dv ρ) := by
              have e1 : st.take (na + 1) = as.reverse ++ [.ref h0] := by
                have e2 := congrArg List.reverse hst
                rw [List.reverse_reverse, List.reverse_cons] at e2
                exact e2
              conv => lhs; rw [← List.take_append_drop (na + 1) st, e1]
              simp [dv]
            refine z_call (va_runSU (kn_at0 X.2.2.2.1.1 hc) (As := as.map (dv ρ)) (b := ρ h0) (rest := (st.drop (na + 1)).map (dv ρ)) X.1 (hM l X.2.2.2.2.2.2.2.2.2.1.2 dC dI cy _ w r1 hf hvd ρ H.size) hcs ⟨mPc_blind, va_recv X.2.2.2.1.1 hP hc (dW_get hw), fun U hU hW => ⟨rfl, by rw [hU], by rw [hU]; exact hP, mK_move X.2.2.2.1 hW.alike (mN_warm hW) hsub (fun q h1 h2 => by rw [hU]; exact hS.2.1 q h1 h2) (fun k hk => hag k (Or.inr hk)), hD.weaken (fun _ _ _ _ => trivial)⟩⟩ rfl (by simpa using hlen) hl.1 hstk (lv_room (by rw [cat_map]; exact k2)) hd ⟨Nat.le_trans hb.1 X.2.2.2.2.2.1.1, Nat.le_trans hb.2 X.2.2.2.2.2.1.2⟩) hS hsub (fun ρ' H1 locs1 hag1 hln hP1 hD1 hS1 => ?_)
            exact z_cont K.2 hag hn hag1 hln hP1 hD1 hS1 hl k3 k4
          · cases h
        · cases h
      · cases h
    · cases h
  · cases h
theorem ok_callVS {y : MethodName} {bytes : ByteArray} {maxL : Nat} {rt : Option FieldType} {ws' : List Cond} {D' index na : Nat} {vd : Bool} {f : List Value → sW → Option sR} (hM : mM kn y (Cond.code y bytes maxL rt :: ws') D' vd f) (hG : GoodIn Ts (Cond.code y bytes maxL rt :: ws')) (hDD : D' + 1 ≤ D) (hml : maxL ≤ 21) (hlink : Cond.methodLink own index y ∈ Ts) (hin : Cond.instanceMethod y ∈ Ts) (hsel : Cond.selects RJ0 y y ∈ Ts) (hini : Cond.initialized y.cls ∈ Ts) (hy : y.cls ≠ "java/lang/invoke/MethodHandle" ∧ y.cls ≠ "java/lang/invoke/VarHandle" ∧ (parseMethodDescriptor y.desc).map (fun d => d.parameters.length) = some na) (hd : decode cc pc = .ok (.invokevirtual index, 3)) : mOk kn cc own nL Ts D ret ini pc (a_callVS vd f (na + 1) (pc + 3)) := by
  intro p l e R s m args below meth c dC dI cy A ρ0 n0 Qc Q r X k hk ss h
  obtain ⟨lv, st, w, nc, ns⟩ := ss
  unfold a_callVS at h
  split at h
  · rename_i hok
    obtain ⟨k1, k2, k3, k4⟩ := c_ok_p hok
    dsimp only at k1 k2 k3 k4 h
    split at h
    · rename_i as hst
      unfold a_back at h
      split at h
      · rename_i r1 hf
        split at h
        case h_2 => cases h
        rename_i hvd
        have K := hk _ _ h
        have hb := K.1
        dsimp only at hb
        refine ⟨by dsimp only; omega, fun H locs ls ρ hag hn hP hD hS hl => ?_⟩
        dsimp only at hn hP hD hl ⊢
        have hsub := va_A_sub (dC := dC) hD hS X.2.2.2.2.1
        have hcb : CallB R s args own index y bytes maxL rt (Cond.code y bytes maxL rt :: ws') { frames := D', cells := r1.2.2.1, slots := r1.2.2.2, locals := 40 * D' } r1.2.2.1 r1.2.2.2 na :=
          callB_of na X.1.2.2.2.2 hG rfl rfl rfl (X.1.2.2.2.2 _ hini) (X.1.2.2.2.2 _ hlink) hy ⟨Nat.le_trans hDD X.2.2.2.2.2.2.1.1, by have := X.2.2.2.2.2.2.1.2; show 8 + (maxL + 11) + 40 * D' ≤ _; omega⟩
        have hlen : as.length = na := by
          have e1 := congrArg List.length hst
          simp at e1
          omega
        have hstk : st.map (dv ρ) = (as.map (dv ρ)).reverse ++ .ref (ρ 1000002) :: (st.drop (na + 1)).map (dv ρ) := by
          have e1 : st.take (na + 1) = as.reverse ++ [.ref 1000002] := by
            have e2 := congrArg List.reverse hst
            rw [List.reverse_reverse, List.reverse_cons] at e2
            exact e2
          conv => lhs; rw [← List.take_append_drop (na + 1) st, e1]
          simp [dv]
        refine z_call (va_runV (As := as.map (dv ρ)) (b := ρ 1000002) (rest := (st.drop (na + 1)).map (dv ρ)) X.1 (hM l X.2.2.2.2.2.2.2.2.2.1.2 dC dI cy _ w r1 hf hvd ρ H.size) ⟨hcb, X.1.2.2.2.2 _ hin, X.1.2.2.2.2 _ hsel⟩ ⟨mPc_blind, str_recv X.2.2.2.1 hag hS, fun U hU hW => ⟨rfl, by rw [hU], by rw [hU]; exact hP, mK_move X.2.2.2.1 hW.alike (mN_warm hW) hsub (fun q h1 h2 => by rw [hU]; exact hS.2.1 q h1 h2) (fun k hk => hag k (Or.inr hk)), hD.weaken (fun _ _ _ _ => trivial)⟩⟩ rfl (by simpa using hlen) hl.1 hstk (lv_room (by rw [cat_map]; exact k2)) hd ⟨Nat.le_trans hb.1 X.2.2.2.2.2.1.1, Nat.le_trans hb.2 X.2.2.2.2.2.1.2⟩) hS hsub (fun ρ' H1 locs1 hag1 hln hP1 hD1 hS1 => ?_)
        exact z_cont K.2 hag hn hag1 hln hP1 hD1 hS1 hl k3 k4
      · cases h
    · cases h
  · cases h
end OKG
/-- a private method is the one that is run, on whatever object -/
theorem sel_priv {C : String} {y : MethodName} {s : State} {args : Array Value} {n : Nat} (hy : y.cls ≠ "java/lang/invoke/MethodHandle" ∧ y.cls ≠ "java/lang/invoke/VarHandle") (hins : (Cond.instantiable C n).before args s = true) (hself : (Cond.selects y.cls y y).before args s = true) (hpriv : (Cond.privateMethod y).before args s = true) (hinst : (Cond.instanceMethod y).before args s = true) : (Cond.selects C y y).before args s = true := by
  obtain ⟨c, k, hc, hk, -, hniab, -, -⟩ := Cond.instantiable_spec hins
  obtain ⟨mk, methM, hnamed, hmethM, -, -⟩ := Cond.instanceMethod_spec hinst
  have hfound : s.methodFound? y.cls y.name y.desc = some mk := State.methodFound?_of_named hnamed hy
  have hsel : selectMethod {} s.vm c mk = .method mk := selectMethod_private hmethM (Cond.privateMethod_at hpriv mk methM hnamed hmethM)
  have hcls : s.vm.findClass y.cls = some mk.cls := findClass_of_methodNamed hnamed
  have hsel0 : selectMethod {} s.vm mk.cls mk = .method mk := selectMethod_private hmethM (Cond.privateMethod_at hpriv mk methM hnamed hmethM)
  simp only [Cond.before, Cond.holds, Cond.value, hcls, hfound, hnamed, hsel0] at hself
  simp only [Cond.before, Cond.holds, Cond.value, hc, hfound, hnamed, hsel]
  exact hself
end
