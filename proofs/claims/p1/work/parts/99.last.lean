def knT : sKn := (fun _ _ _ => none, [])
def wInit : sW := [.inr (12, [.null, .null, .null, .null, .null, .null, .null, .null, .null, .null, .null, .null, .null, .null, .int 0, .int 0, .null, .null, .null, .null])]
theorem zz_ctor : (match fX11_init knT [.ref 0] wInit with | some r => Nat.beq r.2.1.length 0 | none => true) = false := by decide +kernel
