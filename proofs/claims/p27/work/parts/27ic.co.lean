-- co
set_option maxRecDepth 100000 in
theorem gCo : ∀ i, i < 97 → wS i → gPick narrow_1 (sPa i 1) = .eq (.field (sTm i) "java/lang/String" "coder" "B") (.int 0) := by decide +kernel
