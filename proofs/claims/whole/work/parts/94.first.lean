/-! the first text is read without a fault -/
set_option maxRecDepth 100000 in
theorem first_ok : (F12_text 171 tauE).map Prod.fst = some 0 := by decide +kernel
