noncomputable section
-- ===== a script of less than six ints: no call =====
def knS (L : Nat) : sKn := (fun _ _ _ => none, kn6.take L)
def shortB (L : Nat) : Bool := okR (mF (tL_law (knS L) (fX11_init (knS L)) (fX12_init (knS L))) 7 1000000 [.ref 1000010] [])
set_option maxRecDepth 100000 in
theorem short_0 : shortB 0 = true := by decide +kernel
set_option maxRecDepth 100000 in
theorem short_1 : shortB 1 = true := by decide +kernel
set_option maxRecDepth 100000 in
theorem short_2 : shortB 2 = true := by decide +kernel
set_option maxRecDepth 100000 in
theorem short_3 : shortB 3 = true := by decide +kernel
set_option maxRecDepth 100000 in
theorem short_4 : shortB 4 = true := by decide +kernel
set_option maxRecDepth 100000 in
theorem short_5 : shortB 5 = true := by decide +kernel
theorem short_all : ∀ L, L < 6 → shortB L = true := fun L h => match L, h with
  | 0, _ => short_0
  | 1, _ => short_1
  | 2, _ => short_2
  | 3, _ => short_3
  | 4, _ => short_4
  | 5, _ => short_5
  | n + 6, h => absurd h (by omega)
end
