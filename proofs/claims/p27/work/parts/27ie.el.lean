-- el
set_option maxRecDepth 100000 in
theorem gEl : ∀ i, i < 97 → wS i → ∀ j, j < SLEN.getD i 0 → gPick narrow_1 (sPa i (4 + j)) = .eq (.elem (sFd i) (.int (Int32.ofNat j))) (.int ((SBYT.getD i []).getD j 0)) := by decide +kernel
