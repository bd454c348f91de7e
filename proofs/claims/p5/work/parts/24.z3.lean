noncomputable section
/-- signers and names as the reference has them -/
def rW (w : sW) : Nat → Int := fun j => gX w 215 j
def nW (w : sW) : Nat → Int := fun s => (gY w 220 s).toInt
theorem nW_e {w : sW} {s : Nat} {N : Int} (r : 0 ≤ N ∧ N < 27 ^ 7) (h : gY w 220 s = Int64.ofInt N) : nW w s = N := by
  have e7 : (27 : Int) ^ 7 = 10460353203 := by decide +kernel
  rw [e7] at r
  unfold nW
  rw [h]
  exact hJ_to ⟨by omega, by omega⟩
theorem jc_nmS {w : sW} (hw : wOk ZZ w) (h : JC w) : nmS (rW w) (nW w) w := by
  have g := gX_in (hO_rf (D := []) hw) ai_215 ar_signers (j := 1) (by omega) (by omega) (by omega)
  obtain ⟨_, ⟨_, _, n1, _⟩, _⟩ := h
  refine ⟨⟨rfl, g.1, g.2⟩, fun s hs => ?_⟩
  obtain ⟨N, r, y1, y2⟩ := n1 s hs
  rw [Nat.zero_add] at y1
  have e := nW_e r y1
  rw [e]
  exact ⟨y1, r⟩
theorem jc_nmC {w : sW} (h : JC w) : nmC (rW w) (nW w) w := by
  obtain ⟨⟨s1, _, _⟩, ⟨⟨_, a2, _⟩, _, n1, _⟩, _⟩ := h
  refine ⟨s1 14 (Or.inl rfl) 0 (by omega), a2, fun s hs => ?_⟩
  obtain ⟨N, r, y1, y2⟩ := n1 s hs
  rw [Nat.zero_add] at y1
  have e := nW_e r y1
  rw [e]
  exact ⟨y2, r⟩
theorem nmS_kR {R N : Nat → Int} {w w1 : sW} (k : kR w w1) (h : nmS R N w) : nmS R N w1 := by
  refine ⟨⟨(k.1 1 (by omega)).trans h.1.1, h.1.2⟩, fun s hs => ?_⟩
  rw [k.2.2.2.1 s]
  exact h.2 s hs
end
