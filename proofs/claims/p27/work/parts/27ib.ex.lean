-- ex
set_option maxRecDepth 100000 in
theorem gEx : ∀ i ∈ sIds, gPick narrow_1 (sPa i 0) = .exactly (sTm i) "java/lang/String" := by decide +kernel
