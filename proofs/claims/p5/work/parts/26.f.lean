noncomputable section
-- ===== what holds at the law's entry, for any naming of its unknown ints =====
theorem eq_eval {args : Array Value} {s : State} {tm : Term} {z : Int32} (h : (Cond.eq tm (.int z)).before args s = true) : tm.eval args s none [] s = some (.int z) := by
  cases hv : tm.eval args s none [] s with
  | none => simp [Cond.before, Cond.holds, Cond.value, hv] at h
  | some w =>
    have hz : (Term.int z).eval args s none [] s = some (.int z) := rfl
    simp only [Cond.before, Cond.holds, Cond.value, hv, hz] at h
    cases w <;> simp_all
theorem isRef_eval {args : Array Value} {s : State} {tm : Term} (h : (Cond.isRef tm).before args s = true) : ∃ (z : Bool) (a : Nat), tm.eval args s none [] s = some (match z with
    | true => Value.null
    | false => Value.ref a) := by
  cases hv : tm.eval args s none [] s with
  | none => simp [Cond.before, Cond.holds, Cond.value, hv] at h
  | some w =>
    simp only [Cond.before, Cond.holds, Cond.value, hv] at h
    cases w with
    | null => exact ⟨true, 0, rfl⟩
    | ref a => exact ⟨false, a, rfl⟩
    | _ => simp_all
theorem wd_in : (((flatC (Jvm.Cond.and given_1 narrow_1)).drop 107).take 216) = (List.range 216).map (fun j => Cond.eq (.elem (.field (.string "SignedBridge$Tokens" 70) "java/lang/String" "value" "[B") (.int (Int32.ofNat j))) (.int (keyB.getD j 0))) := by decide +kernel
theorem wd_at : ∀ j < 216, Cond.eq (.elem (.field (.string "SignedBridge$Tokens" 70) "java/lang/String" "value" "[B") (.int (Int32.ofNat j))) (.int (keyB.getD j 0)) ∈ flatC (Jvm.Cond.and given_1 narrow_1) := fun j hj => List.mem_of_mem_drop (List.mem_of_mem_take (by rw [wd_in]; exact List.mem_map.mpr ⟨j, List.mem_range.mpr hj, rfl⟩))
theorem i32_back (x : Int32) : Int32.ofNat x.toUInt32.toNat = x := by
  rw [← Int32.toBitVec_inj]
  simp
/-- what the unknown ints are: the script's; these shifted; their bytes, and six bits -/
def nmB (xs : Nat → Int32) (u : Nat) : Int32 := if u < 100 then xs u else osem 0 (xs (u / 100 - 1)) (Int32.ofNat (u % 100))
def nmV (xs : Nat → Int32) (u : Nat) : Int32 := if u < 10000 then nmB xs u else if u < 20000 then osem 1 (nmB xs (u - 10000)) 255 else osem 1 (nmB xs (u - 20000)) 63
def nm (o : Nat → Nat) (b : Nat) (xs : Nat → Int32) : Nat → Nat := fun k => if k < 1000007 then o k else if k = 1000010 then b else (nmV xs (k - 2000000)).toUInt32.toNat
theorem vi_nm (o : Nat → Nat) (b : Nat) (xs : Nat → Int32) (u : UInt32) : vi (nm o b xs) u = nmV xs u.toNat := by
  unfold vi nm
  rw [if_neg (by omega), if_neg (by omega), i32_back, Nat.add_sub_cancel_left]
theorem nm_kd (o : Nat → Nat) (b : Nat) (xs : Nat → Int32) : kdOk (nm o b xs) := by
  intro t u y u' h
  rw [vi_nm, vi_nm]
  unfold kd at h
  split at h
  · split at h
    · rename_i h1 h2
      have h1 := Nat.blt_eq.mp h1
      have h2 := Nat.blt_eq.mp h2
      cases h
      have e : (UInt32.ofNat (100 + 100 * u.toNat + y.toUInt32.toNat)).toNat = 100 + 100 * u.toNat + y.toUInt32.toNat := UInt32.toNat_ofNat_of_lt' (by show _ < 4294967296; omega)
      rw [e]
      unfold nmV nmB
      rw [if_pos (by omega), if_neg (by omega), if_pos (by omega), if_pos (by omega), show (100 + 100 * u.toNat + y.toUInt32.toNat) / 100 - 1 = u.toNat by omega, show (100 + 100 * u.toNat + y.toUInt32.toNat) % 100 = y.toUInt32.toNat by omega, i32_back]
    · cases h
  · rename_i t' ht
    have eo : ∀ x y : Int32, osem t x y = osem 1 x y := fun x y => by
      match t, ht with
      | n + 1, _ => rfl
    rw [eo]
    split at h
    · rename_i h1
      have h1 := Nat.blt_eq.mp h1
      split at h
      · rename_i h2
        have h2 := Nat.eq_of_beq_eq_true h2
        cases h
        have ey : y = 255 := by rw [← i32_back y, h2]; rfl
        have e : (UInt32.ofNat (10000 + u.toNat)).toNat = 10000 + u.toNat := UInt32.toNat_ofNat_of_lt' (by show _ < 4294967296; omega)
        rw [e, ey]
        unfold nmV
        rw [if_neg (by omega), if_pos (by omega), if_pos (by omega), Nat.add_sub_cancel_left]
      · split at h
        · rename_i h2
          have h2 := Nat.eq_of_beq_eq_true h2
          cases h
          have ey : y = 63 := by rw [← i32_back y, h2]; rfl
          have e : (UInt32.ofNat (20000 + u.toNat)).toNat = 20000 + u.toNat := UInt32.toNat_ofNat_of_lt' (by show _ < 4294967296; omega)
          rw [e, ey]
          unfold nmV
          rw [if_neg (by omega), if_neg (by omega), if_pos (by omega), Nat.add_sub_cancel_left]
        · cases h
    · cases h
/-- a private method is the one that is run, on whatever object; of its class another method is known to be run-/
theorem sel_priv2 {C C' : String} {y z z' : MethodName} {s : State} {args : Array Value} {n : Nat} (hy : y.cls ≠ "java/lang/invoke/MethodHandle" ∧ y.cls ≠ "java/lang/invoke/VarHandle") (hins : (Cond.instantiable C n).before args s = true) (hz : (Cond.selects C' z z').before args s = true) (hzc : z'.cls = y.cls) (hpriv : (Cond.privateMethod y).before args s = true) (hinst : (Cond.instanceMethod y).before args s = true) : (Cond.selects C y y).before args s = true := by
  obtain ⟨c, k, hc, hk, -, hniab, -, -⟩ := Cond.instantiable_spec hins
  obtain ⟨mk, methM, hnamed, hmethM, -, -⟩ := Cond.instanceMethod_spec hinst
  have hfound : s.methodFound? y.cls y.name y.desc = some mk := State.methodFound?_of_named hnamed hy
  have hsel : selectMethod {} s.vm c mk = .method mk := selectMethod_private hmethM (Cond.privateMethod_at hpriv mk methM hnamed hmethM)
  have hcls : s.vm.findClass y.cls = some mk.cls := findClass_of_methodNamed hnamed
  obtain ⟨c2, r2, m2, -, -, hm2, -, k2, hk2, hni⟩ := Cond.selects_spec hz
  have hcls2 : s.vm.findClass z'.cls = some m2.cls := findClass_of_methodNamed hm2
  rw [hzc, hcls] at hcls2
  have hcc : mk.cls = m2.cls := Option.some.inj hcls2
  rw [← hcc] at hk2
  simp only [Cond.before, Cond.holds, Cond.value, hc, hfound, hnamed, hsel, hk2]
  simp
  exact hni
theorem in_J5L : Cond.selects RJ4 ⟨"java/lang/AbstractStringBuilder", "isLatin1", "()Z"⟩ yJ5_isLatin1_aae02 ∈ lw_tbl := by decide +kernel
theorem in_J4 : Cond.instantiable RJ4 4 ∈ lw_tbl := by decide +kernel
theorem lw6_at {args : Array Value} {s : State} (htb : ∀ w ∈ lw_tbl, w.before args s = true) : ∀ w ∈ lw6, w.before args s = true := by
  have key : ∀ q : MethodName, ((q.cls ≠ "java/lang/invoke/MethodHandle" ∧ q.cls ≠ "java/lang/invoke/VarHandle") ∧ q.cls = "java/lang/AbstractStringBuilder" ∧ Cond.privateMethod q ∈ lw_tbl ∧ Cond.instanceMethod q ∈ lw_tbl) → (Cond.selects RJ4 q q).before args s = true := fun q h => sel_priv2 h.1 (htb _ in_J4) (htb _ in_J5L) h.2.1.symm (htb _ h.2.2.1) (htb _ h.2.2.2)
  intro w hw
  simp only [lw6, List.mem_cons, List.not_mem_nil, or_false] at hw
  rcases hw with rfl | rfl | rfl | rfl | rfl | rfl
  · exact key _ (by decide +kernel)
  · exact key _ (by decide +kernel)
  · exact key _ (by decide +kernel)
  · exact key _ (by decide +kernel)
  · exact key _ (by decide +kernel)
  · exact key _ (by decide +kernel)
theorem words_at {args : Array Value} {s : State} (htb : ∀ w ∈ lw_tbl, w.before args s = true) : ∀ w ∈ wsL_law, w.before args s = true := fun w h => (List.mem_append.mp (wsL_law_in w h)).elim (lw6_at htb w) (htb w)
set_option maxRecDepth 20000 in
theorem law_env {p : Program} {s : State} {m : MethodId} {meth : Method} {c : Code} {b L : Nat} {xs : Nat → Int32} (C0 : lw_At p s m meth c b L xs) : ∃ (dC : Nat → ClassId) (dI : Nat → Nat → Nat) (cy : Nat → ClassId) (o : Nat → Nat) (zb0 : Bool), ∀ kn : sKn, kn.2.length = L → (∀ (j : Nat) (v : Value), kn.2[j]? = some v → dv (nm o b xs) v = .int (xs j)) → (∀ (t : Nat) (u : UInt32) (y : Int32) (bb : Bool), kn.1 t u y = some bb → bsem t (nmV xs u.toNat) y = bb) → siV kn = (match zb0 with
    | true => Value.null
    | false => Value.ref 1000006) → mK kn dC dI cy (nm o b xs) (va_A [] s.heap.size) s s.heap := by
  obtain ⟨hx, hb, hret, hml, hown, htb, hX, hbl, hlk, hgv⟩ := C0
  have hts : ∀ w ∈ wsL_law, w.before #[Value.ref b] s = true := words_at htb
  have hao : ∀ C ∈ [RX6, RX7, RX8], (Cond.arrayOver (.object C)).before #[Value.ref b] s = true := fun C h => by
    have h3 : ∀ C ∈ [RX6, RX7, RX8], Cond.arrayOver (.object C) ∈ lw_tbl := by decide +kernel
    exact htb _ (h3 C h)
  obtain ⟨dC, dI, cy, hK⟩ := law_K hts hao
  have hs := flat_of_before _ hgv
  have hA : ∀ a : Nat, a < s.heap.size → ¬ va_A [] s.heap.size a := fun a h z => by
    rcases z with ⟨k, e, h2⟩ | h2
    · simp at h2
    · omega
  obtain ⟨o1, ho1, hT1⟩ := va_Tof (tm := .static "SignedBridge" "OPEN" "[I") (ty := .int) (N := 16) (f := fun j => .int ((stV 1000000).getD j 0)) (by decide) (hs _ (by decide +kernel)) (eq_eval (z := 16) (hs _ (by decide +kernel))) (fun j hj => eq_eval (hs _ (by
    have h3 : ∀ j < 16, Cond.eq (.elem (.static "SignedBridge" "OPEN" "[I") (.int (Int32.ofNat j))) (.int ((stV 1000000).getD j 0)) ∈ flatC (Jvm.Cond.and given_1 narrow_1) := by decide +kernel
    exact h3 j hj))) hA
  obtain ⟨o2, ho2, hT2⟩ := va_Tof (tm := .static "SignedBridge$Cut" "SETS" "[I") (ty := .int) (N := 8) (f := fun j => .int ((stV 1000001).getD j 0)) (by decide) (hs _ (by decide +kernel)) (eq_eval (z := 8) (hs _ (by decide +kernel))) (fun j hj => eq_eval (hs _ (by
    have h3 : ∀ j < 8, Cond.eq (.elem (.static "SignedBridge$Cut" "SETS" "[I") (.int (Int32.ofNat j))) (.int ((stV 1000001).getD j 0)) ∈ flatC (Jvm.Cond.and given_1 narrow_1) := by decide +kernel
    exact h3 j hj))) hA
  have hZ1 := va_Zof (htb _ (by decide +kernel)) (htb _ (by decide +kernel)) ho1 hA
  have hZ2 := va_Zof (htb _ (by decide +kernel)) (htb _ (by decide +kernel)) ho2 hA
  have hZ3 := va_Zof (C := "java/lang/String") (n := "COMPACT_STRINGS") (d := "Z") (htb _ (by decide +kernel)) (htb _ (by decide +kernel)) (va_eqi (z := 1) (hs _ (by decide +kernel))) hA
  have hZ4 : vx_Zq Bundle.tN "UNASSIGNED_STACK" Bundle.steD (va_A [] s.heap.size) s s.heap := vx_Zqof (htb _ (by decide +kernel)) (htb _ (by decide +kernel)) (hs _ (by decide +kernel)) hA
  have hZ5 : vx_Zq Bundle.tN "SUPPRESSED_SENTINEL" Bundle.listD (va_A [] s.heap.size) s s.heap := vx_Zqof (htb _ (by decide +kernel)) (htb _ (by decide +kernel)) (hs _ (by decide +kernel)) hA
  obtain ⟨adK, adV, hVS, hVT⟩ := vk_Sof (N := 1) (tm := fun _ => .string "SignedBridge" 350) (len := [3]) (byt := [[103, 97, 112]]) (A := va_A [] s.heap.size) (args := #[Value.ref b]) (s := s) (fun i hi => by match i, hi with | 0, _ => decide) (fun i hi => hs _ (by decide +kernel)) (fun i hi => hs _ (by decide +kernel)) (fun i hi => hs _ (by decide +kernel)) (fun i hi => by match i, hi with | 0, _ => exact hs _ (by decide +kernel)) (fun i hi j hj => by
    match i, hi with
    | 0, _ =>
      match j, hj with
      | 0, _ => exact hs _ (by decide +kernel)
      | 1, _ => exact hs _ (by decide +kernel)
      | 2, _ => exact hs _ (by decide +kernel)) (fun i j hi hj hn => absurd (by omega : i = j) hn) hA
  have hVR : vk_R "SignedBridge" 350 "gap" (adK 0) s := vk_R.of (A := #[Value.ref b]) (htb _ (by decide +kernel)) (hVT 0 (by decide))
  have hVS0 : vk_S 1 [3] [[103, 97, 112]] (fun _ => adK 0) (fun _ => adV 0) (va_A [] s.heap.size) s s.heap := ⟨fun i hi => by
    match i, hi with
    | 0, _ => exact hVS.1 0 (by decide), fun i j hi hj _ => by omega⟩
  obtain ⟨adK2, adV2, hVS2, hVT2⟩ := vk_Sof (N := 1) (tm := fun _ => .string "SignedBridge$Tokens" 70) (len := [216]) (byt := [keyB]) (A := va_A [] s.heap.size) (args := #[Value.ref b]) (s := s) (fun i hi => by match i, hi with | 0, _ => decide) (fun i hi => hs _ (by decide +kernel)) (fun i hi => hs _ (by decide +kernel)) (fun i hi => hs _ (by decide +kernel)) (fun i hi => by match i, hi with | 0, _ => exact hs _ (by decide +kernel)) (fun i hi j hj => by
    match i, hi with
    | 0, _ =>
      exact hs _ (wd_at j hj)) (fun i j hi hj hn => absurd (by omega : i = j) hn) hA
  have hVR2 : vk_R "SignedBridge$Tokens" 70 keyT (adK2 0) s := vk_R.of (A := #[Value.ref b]) (htb _ (by decide +kernel)) (hVT2 0 (by decide))
  have hVS02 : vk_S 1 [216] [keyB] (fun _ => adK2 0) (fun _ => adV2 0) (va_A [] s.heap.size) s s.heap := ⟨fun i hi => by
    match i, hi with
    | 0, _ => exact hVS2.1 0 (by decide), fun i j hi hj _ => by omega⟩
  obtain ⟨zb0, sio, hsio⟩ : ∃ (zb0 : Bool) (a : Nat), (Term.static "jdk/internal/util/Preconditions" "SIOOBE_FORMATTER" "Ljava/util/function/BiFunction;").eval #[Value.ref b] s none [] s = some (match zb0 with
    | true => .null
    | false => .ref a) := isRef_eval (hs _ (by decide +kernel))
  have hZ6 := va_Zof (htb _ (by decide +kernel)) (htb _ (by decide +kernel)) hsio hA
  have hN : mN (adK 0) (adK2 0) s := by
    refine ⟨fun q hq => ?_, fun q hq => ?_, ?_, fun q hq => ?_, fun q hq => ?_, hVR, hVR2⟩
    · have h3 : ∀ q ∈ nestM, Cond.methodLinkNest RX11 q.1 q.2 "SignedBridge" ∈ lw_tbl := by decide +kernel
      exact va_Nw.of rfl (htb _ (h3 q hq))
    · have h3 : ∀ q ∈ nestF, Cond.fieldLinkNest q.1 q.2 "SignedBridge" "OPEN" "[I" "SignedBridge" ∈ lw_tbl := by decide +kernel
      exact va_Nw.of rfl (htb _ (h3 q hq))
    · exact va_Nw.of rfl (htb _ (by decide +kernel))
    · have h3 : ∀ q ∈ nseD, Cond.declares q ∈ lw_tbl := by decide +kernel
      exact va_Nw.of rfl (htb _ (h3 q hq))
    · have h3 : ∀ q ∈ privS, (q.cls ≠ "java/lang/invoke/MethodHandle" ∧ q.cls ≠ "java/lang/invoke/VarHandle") ∧ q.cls = "java/lang/AbstractStringBuilder" ∧ Cond.privateMethod q ∈ lw_tbl ∧ Cond.instanceMethod q ∈ lw_tbl := by decide +kernel
      obtain ⟨g1, g2, g3, g4⟩ := h3 q hq
      exact va_Nw.of rfl (sel_priv2 g1 (htb _ in_J4) (htb _ in_J5L) g2.symm (htb _ g3) (htb _ g4))
  refine ⟨dC, dI, cy, fun k => if k = 1000000 then o1 else if k = 1000001 then o2 else if k = 1000002 then adK 0 else if k = 1000003 then adV 0 else if k = 1000004 then adK2 0 else if k = 1000005 then adV2 0 else sio, zb0, fun kn hl hsc hkn hsi => ⟨hK, ⟨⟨va_AO.of (hao _ (by simp)), va_AO.of (hao _ (by simp)), va_AO.of (hao _ (by simp))⟩, hN, ⟨fun t u y bb h => by rw [vi_nm]; exact hkn t u y bb h, nm_kd _ b xs⟩⟩, hZ1, hT1, hZ2, hT2, hZ3, ⟨xs, by rw [hl]; exact hX, hbl, hA b hbl, hsc⟩, hZ4, hZ5, hVS0, hVS02, by rw [hsi]; cases zb0 <;> exact hZ6⟩⟩
end
