-- statics
set_option maxRecDepth 100000 in
theorem gG0 : gPick narrow_1 1792 = .eq (.static "java/lang/String" "COMPACT_STRINGS" "Z") (.int 1) := by decide +kernel
set_option maxRecDepth 100000 in
theorem gG1 : gPick narrow_1 1152 = .isRef (.static "jdk/internal/util/Preconditions" "SIOOBE_FORMATTER" "Ljava/util/function/BiFunction;") := by decide +kernel
set_option maxRecDepth 100000 in
theorem gG2 : gPick narrow_1 1088 = .isRef (.static Bundle.tN "UNASSIGNED_STACK" Bundle.steD) := by decide +kernel
set_option maxRecDepth 100000 in
theorem gG3 : gPick narrow_1 1600 = .isRef (.static Bundle.tN "SUPPRESSED_SENTINEL" Bundle.listD) := by decide +kernel
