theorem zz_a : (match fX11_isSigner knT [.ref 0, .int 5] W0 with | some r => decide (r.1 = some (.int 0)) | none => false) = true := by decide +kernel
theorem zz_b : (match fX11_bridge knT [.ref 0] W0 with | some r => decide (r.1 = some (.int 0)) | none => false) = true := by decide +kernel
theorem zz_c : (match fX12_bridge knT [.ref 213] W0 with | some r => decide (r.1 = some (.int 0)) | none => false) = true := by decide +kernel
