-- ar
set_option maxRecDepth 100000 in
theorem gAr : ∀ i, i < 97 → wS i → gPick narrow_1 (sPa i 2) = .arrayOf (sFd i) .byte := by decide +kernel
set_option maxRecDepth 100000 in
theorem gLe : ∀ i, i < 97 → wS i → gPick narrow_1 (sPa i 3) = .eq (.length (sFd i)) (.int (Int32.ofNat (SLEN.getD i 0))) := by decide +kernel
