noncomputable section
theorem arrOfT_of {s : State} {args : Array Value} {ty : FieldType} (h : (Cond.arrayClass ty).before args s = true) : ∃ cA : ClassId, ArrOfT s cA ty ∧ s.vm.findClass ("[" ++ ty.toString) = some cA := by
  obtain ⟨c, k, comp, h1, h2, h3⟩ := Cond.arrayClass_spec h
  exact ⟨c, fun n z => ⟨fun _ => (fun h => by cases h), k, h2, comp, h3⟩, h1⟩
theorem arrOfT_ofO {s : State} {args : Array Value} {C : String} (h : (Cond.arrayOver (.object C)).before args s = true) : ∃ cA : ClassId, ArrOfT s cA (.object C) ∧ va_RA s cA (.object C) := by
  obtain ⟨comp, c, k, h1, h0, h2, h3, h4⟩ := Cond.arrayOver_spec h
  exact ⟨c, fun n z => ⟨fun _ => (fun h => by cases h), k, h2, comp, h3⟩, k, comp, h2, h3, h1, h4⟩
/-- the classes' numbers and slots, the arrays' classes -/
theorem law_K {s : State} {args : Array Value} (hts : ∀ w ∈ wsL_law, w.before args s = true) (hao : ∀ C ∈ [RX6, RX7, RX8], (Cond.arrayOver (.object C)).before args s = true) : ∃ (dC : Nat → ClassId) (dI : Nat → Nat → Nat) (cy : Nat → ClassId), va_K (dC, dI) vwCl (mT cy) s := by
  obtain ⟨cJ4, iJ4, hJ4⟩ := u_known hts inzJ4 (hts _ (inR3 _ (List.mem_of_getElem? (i := 11) rfl)))
  obtain ⟨cX0, iX0, hX0⟩ := u_known hts inzX0 (hts _ (inR2 _ (List.mem_of_getElem? (i := 19) rfl)))
  obtain ⟨cX1, iX1, hX1⟩ := u_known hts inzX1 (hts _ (inR2 _ (List.mem_of_getElem? (i := 11) rfl)))
  obtain ⟨cX2, iX2, hX2⟩ := u_known hts inzX2 (hts _ (inR1 _ (List.mem_of_getElem? (i := 18) rfl)))
  obtain ⟨cX3, iX3, hX3⟩ := u_known hts inzX3 (hts _ (inR2 _ (List.mem_of_getElem? (i := 23) rfl)))
  obtain ⟨cX4, iX4, hX4⟩ := u_known hts inzX4 (hts _ (inR3 _ (List.mem_of_getElem? (i := 7) rfl)))
  obtain ⟨cX5, iX5, hX5⟩ := u_known hts inzX5 (hts _ (inR3 _ (List.mem_of_getElem? (i := 3) rfl)))
  obtain ⟨cX6, iX6, hX6⟩ := u_known hts inzX6 (hts _ (inR1 _ (List.mem_of_getElem? (i := 22) rfl)))
  obtain ⟨cX7, iX7, hX7⟩ := u_known hts inzX7 (hts _ (inR2 _ (List.mem_of_getElem? (i := 6) rfl)))
  obtain ⟨cX8, iX8, hX8⟩ := u_known hts inzX8 (hts _ (inR2 _ (List.mem_of_getElem? (i := 2) rfl)))
  obtain ⟨cX9, iX9, hX9⟩ := u_known hts inzX9 (hts _ (inR1 _ (List.mem_of_getElem? (i := 14) rfl)))
  obtain ⟨cX10, iX10, hX10⟩ := u_known hts inzX10 (hts _ (inR2 _ (List.mem_of_getElem? (i := 15) rfl)))
  obtain ⟨cX11, iX11, hX11⟩ := u_known hts inzX11 (hts _ (inR1 _ (List.mem_of_getElem? (i := 1) rfl)))
  obtain ⟨cX12, iX12, hX12⟩ := u_known hts inzX12 (hts _ (inR1 _ (List.mem_of_getElem? (i := 4) rfl)))
  obtain ⟨a0, b0, e0⟩ := arrOfT_of (hts _ (inR8 _ (List.mem_of_getElem? (i := 18) rfl)))
  obtain ⟨a1, b1, e1⟩ := arrOfT_of (hts _ (inR3 _ (List.mem_of_getElem? (i := 23) rfl)))
  obtain ⟨a2, b2, e2⟩ := arrOfT_of (hts _ (inR1 _ (List.mem_of_getElem? (i := 6) rfl)))
  obtain ⟨a3, b3, e3⟩ := arrOfT_of (hts _ (inR3 _ (List.mem_of_getElem? (i := 18) rfl)))
  obtain ⟨a4, b4, e4⟩ := arrOfT_ofO (hao RX6 (by simp))
  obtain ⟨a5, b5, e5⟩ := arrOfT_ofO (hao RX7 (by simp))
  obtain ⟨a6, b6, e6⟩ := arrOfT_ofO (hao RX8 (by simp))
  refine ⟨fun k => [cJ4, cX0, cX1, cX2, cX3, cX4, cX5, cX6, cX7, cX8, cX9, cX10, cX11, cX12].getD k 0, fun k => [iJ4, iX0, iX1, iX2, iX3, iX4, iX5, iX6, iX7, iX8, iX9, iX10, iX11, iX12].getD k (fun _ => 0), fun k => [a0, a1, a2, a3, a4, a5, a6].getD k 0, fun c q hq => ?_, fun k q hq => ?_⟩
  · match c, hq with
    | 0, hq => cases hq; exact hJ4
    | 1, hq => cases hq; exact hX0
    | 2, hq => cases hq; exact hX1
    | 3, hq => cases hq; exact hX2
    | 4, hq => cases hq; exact hX3
    | 5, hq => cases hq; exact hX4
    | 6, hq => cases hq; exact hX5
    | 7, hq => cases hq; exact hX6
    | 8, hq => cases hq; exact hX7
    | 9, hq => cases hq; exact hX8
    | 10, hq => cases hq; exact hX9
    | 11, hq => cases hq; exact hX10
    | 12, hq => cases hq; exact hX11
    | 13, hq => cases hq; exact hX12
    | n + 14, hq => cases hq
  · match k, hq with
    | 0, hq => cases hq; exact ⟨b0, e0⟩
    | 1, hq => cases hq; exact ⟨b1, e1⟩
    | 2, hq => cases hq; exact ⟨b2, e2⟩
    | 3, hq => cases hq; exact ⟨b3, e3⟩
    | 4, hq => cases hq; exact ⟨b4, e4⟩
    | 5, hq => cases hq; exact ⟨b5, e5⟩
    | 6, hq => cases hq; exact ⟨b6, e6⟩
    | n + 7, hq => cases hq
end
