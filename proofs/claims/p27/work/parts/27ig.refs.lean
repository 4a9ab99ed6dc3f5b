-- refs
theorem gRefs : ∀ q ∈ SREF, Cond.stringRef q.1 q.2.1 q.2.2.1 ∈ lw_tbl := by decide +kernel
theorem gRix : ∀ q ∈ SREF, q.2.2.2 ∈ sIds ∧ (SREF.getD q.2.2.2 ("", 0, "", 0)).1 = q.1 ∧ (SREF.getD q.2.2.2 ("", 0, "", 0)).2.1 = q.2.1 := by decide +kernel
theorem gNF : ∀ q ∈ NESTF, Cond.fieldLinkNest q.1 q.2.1 q.2.2.1 q.2.2.2.1 q.2.2.2.2.1 q.2.2.2.2.2 ∈ lw_tbl := by decide +kernel
theorem gNM : ∀ q ∈ NESTM, Cond.methodLinkNest q.1 q.2.1 q.2.2.1 q.2.2.2 ∈ lw_tbl := by decide +kernel
theorem gDe : ∀ y ∈ xDec, Cond.declares y ∈ lw_tbl := by decide +kernel
theorem gCa : ∀ k, k < 3 → Cond.castable (exN k) (exN k) ∈ lw_tbl := by decide +kernel
theorem gLst : ∀ q ∈ ([("java/lang/String", "COMPACT_STRINGS", "Z"), ("jdk/internal/util/Preconditions", "SIOOBE_FORMATTER", "Ljava/util/function/BiFunction;"), (Bundle.tN, "UNASSIGNED_STACK", Bundle.steD), (Bundle.tN, "SUPPRESSED_SENTINEL", Bundle.listD)] : List (String × String × String)), Cond.laysStatic q.1 q.2.1 q.2.2 ∈ lw_tbl ∧ Cond.initialized q.1 ∈ lw_tbl := by decide +kernel
theorem gAO : Cond.arrayOver (.object "java/lang/String") ∈ lw_tbl ∧ Cond.arrayOver (.array .long) ∈ lw_tbl := by decide +kernel
