noncomputable section
def t_mabs (np : Nat) : tA := fun A => match A.2.1 with
  | a :: S => match Nat.beq a.1 0 with
    | true => match Nat.ble (catA S) 8 with
      | true => some [(some np, rpush 0 (.inr fullI) A.1 S A.2.2.1 A.2.2.2.1 A.2.2.2.2)]
      | false => none
    | false => none
  | _ => none
theorem tr_mabs {Z : eZ} {mods : List (Nat × Nat)} {np : Nat} : trOk Z mods (a_mabs np) (t_mabs np) := by
  intro A L h σ w0 ss hg
  obtain ⟨LL, S, M, E, N⟩ := A
  obtain ⟨lv, st, w, n⟩ := ss
  unfold t_mabs at h
  split at h
  · rename_i a S' hS
    dsimp only at hS
    subst hS
    split at h
    · rename_i ha
      split at h
      · rename_i hc
        cases h
        obtain ⟨⟨hN, h0⟩, hL, hSt, hM, hE, hw, hf, hl, hn⟩ := hg
        obtain ⟨v, st', e1, hv, hS'⟩ := gS_1 hSt
        dsimp only at e1
        subst e1
        obtain ⟨x, rfl, hx⟩ := avOk_I hv (Nat.eq_of_beq_eq_true ha)
        obtain ⟨σ', s1, s2⟩ := rpush_ok (kd := 0) (r := .inr fullI) (v := .int (if 0 ≤ x then x else 0 - x)) (L := LL) (S := S') (M := M) (E := E) (N := N) (lv := lv) (st := st') (w := w) (n := n) (mods := mods) (w0 := w0) ⟨⟨hN, h0⟩, hL, hS', hM, hE, hw, hf, hl, hn⟩ (fullI_ok Z _)
        refine ⟨_, lmem, σ', _, s1, s2, fun k => ?_⟩
        have : (st'.map fun v => v.category).sum ≤ 8 := by rw [catA_ok hS']; exact Nat.le_of_ble_eq_true hc
        simp only [a_mabs, if_pos this]
      · cases h
    · cases h
  · cases h
end
