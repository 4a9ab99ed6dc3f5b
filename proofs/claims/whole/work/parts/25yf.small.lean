-- small
theorem gLn : ∀ i, i < 53 → SLEN.getD i 0 < 2 ^ 31 := by decide +kernel
theorem gDi : ∀ i, i < 53 → ∀ j, j < 53 → i ≠ j → SLEN.getD i 0 ≠ SLEN.getD j 0 ∨ ∃ k, k < SLEN.getD i 0 ∧ (SBYT.getD i []).getD k 0 ≠ (SBYT.getD j []).getD k 0 := by decide +kernel
set_option maxRecDepth 100000 in
theorem hAr : ∀ t, t < 5 → gPick narrow_1 (tPa t 0) = .arrayOf (tTm t) (.object "java/lang/String") := by decide +kernel
set_option maxRecDepth 100000 in
theorem hLe : ∀ t, t < 5 → gPick narrow_1 (tPa t 1) = .eq (.length (tTm t)) (.int (Int32.ofNat (sTab t).length)) := by decide +kernel
set_option maxRecDepth 100000 in
theorem hEl : ∀ t, t < 5 → ∀ j, j < (sTab t).length → gPick narrow_1 (tPa t (2 + j)) = .eq (.elem (tTm t) (.int (Int32.ofNat j))) (sTm ((sTab t).getD j 0)) ∧ (sTab t).getD j 0 < 53 := by decide +kernel
theorem hLn : ∀ t, t < 5 → (sTab t).length < 2 ^ 31 := by decide +kernel
