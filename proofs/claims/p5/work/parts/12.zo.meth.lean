noncomputable section
theorem mM_W {kn : sKn} {y : MethodName} {ws : List Cond} {D : Nat} {vd : Bool} {tbl : List (Nat × sA)} {nL : Nat} (h : ∀ n, mM kn y ws D vd (mF tbl nL n)) : mM kn y ws D vd (fW tbl nL) := by
  intro l hst dC dI cy av w r hf
  obtain ⟨n, hn⟩ := fW_some hf
  exact h n l hst dC dI cy av w r hn
theorem mV_W {kn : sKn} {y : MethodName} {ws : List Cond} {D : Nat} {tbl : List (Nat × sA)} {nL : Nat} (h : ∀ n, mV kn y ws D (mF tbl nL n)) : mV kn y ws D (fW tbl nL) := by
  intro l dC dI cy av w r hst hf
  obtain ⟨n, hn⟩ := fW_some hf
  exact h n l dC dI cy av w r hst hn
end
