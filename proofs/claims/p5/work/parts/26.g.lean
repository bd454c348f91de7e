noncomputable section
theorem nm_b (o : Nat → Nat) (b : Nat) (xs : Nat → Int32) : nm o b xs 1000010 = b := by
  unfold nm
  rw [if_neg (by decide), if_pos rfl]
theorem kx_at {o : Nat → Nat} {b L : Nat} {xs : Nat → Int32} (j : Nat) (v : Value) {z : Bool} (h : (kx z ((List.range L).map xs)).2[j]? = some v) : dv (nm o b xs) v = .int (xs j) := by
  have h : (((List.range L).map xs).map Value.int)[j]? = some v := h
  rw [List.getElem?_map, List.getElem?_map] at h
  cases hj : (List.range L)[j]? with
  | none =>
    rw [hj] at h
    cases h
  | some k =>
    rw [hj] at h
    obtain ⟨hl, e⟩ := List.getElem?_eq_some_iff.mp hj
    rw [List.getElem_range] at e
    subst e
    cases h
    rfl
theorem kq_ok {z : Bool} {xs : List Int32} {t : Nat} {u : UInt32} {y x : Int32} {bb : Bool} (h : (kx z xs).1 t u y = some bb) : bsem t x y = bb := by
  cases z with
  | false => cases h
  | true =>
    have h : (match Nat.beq t 77 with
      | true => some false
      | false => none) = some bb := h
    split at h
    · rename_i e
      have e := Nat.eq_of_beq_eq_true e
      subst e
      cases h
      rfl
    · cases h
theorem whole_start {p : Program} {e : Env} {s : State} {m : MethodId} {below : List Frame} {meth : Method} {c : Code} (l : Launch) (hst : l.stackTraces = false) {b L : Nat} {xs : Nat → Int32} (hL : L ≤ 3072) (C0 : lw_At p s m meth c b L xs) : W p l e room_1 s m #[Value.ref b] below meth c s.heap [] 0 0 (lw_Z below #[Value.ref b] s) (entryFrame m ([Value.ref b] : List Value).toArray 7) := by
  obtain ⟨dC, dI, cy, o, zb0, hK⟩ := law_env C0
  obtain ⟨hx, hb, hret, hml, hown, htb, hX, hbl, hlk, hgv⟩ := C0
  have hts : ∀ w ∈ wsL_law, w.before #[Value.ref b] s = true := words_at htb
  have hlen : ((List.range L).map xs).length = L := by rw [List.length_map, List.length_range]
  obtain ⟨k, r, hrun, k1, k2, k3⟩ := law_all zb0 ((List.range L).map xs) (by omega)
  exact law_of_run (kn := kx zb0 ((List.range L).map xs)) (kL_law (kx zb0 ((List.range L).map xs)) (mg_of (mX11_initK (kx zb0 ((List.range L).map xs))) run_X) (mg_of (mX12_initK (kx zb0 ((List.range L).map xs))) run_M)) hst hx hb hret hml hown hts hlk (hK (kx zb0 ((List.range L).map xs)) (by show (((List.range L).map xs).map Value.int).length = L; rw [List.length_map]; exact hlen) (fun j v h => kx_at j v h) (fun t u y bb h => kq_ok h) (by cases zb0 <;> rfl)) (nm_b o b xs) hrun k1 k2 k3
end
