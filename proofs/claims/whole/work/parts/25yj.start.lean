-- start
/-- all that is carried along holds at the start -/
theorem gStart {b : Nat} {s : State} {A : Nat → Prop} (hts : ∀ w ∈ lw_tbl, w.before #[Value.ref b] s = true) (hn : narrow_1.before #[Value.ref b] s = true) (hA : ∀ a : Nat, a < s.heap.size → ¬ A a) : ∃ adK adV tK : Nat → Nat, wKS adK adV tK A s := by
  obtain ⟨adK, adV, hS, hE⟩ := gTexts hn hA
  have hp := gPick_ok narrow_1 hn
  have g0 := hp 1280
  rw [gG0] at g0
  have g1 := hp 1792
  rw [gG1] at g1
  have g2 := hp 1920
  rw [gG2] at g2
  have g3 := hp 1088
  rw [gG3] at g3
  have g4 := hp 1688
  rw [gG4] at g4
  have g5 := hp 1848
  rw [gG5] at g5
  have hl := fun q hq => gLs q hq
  have hT : ∀ t : Nat, ∃ a : Nat, t < 5 → (va_Z RX11 (sNam t) "[Ljava/lang/String;" (.ref a) A s s.heap ∧ va_T (.object "java/lang/String") a (sTab t).length (fun j => .ref (adK ((sTab t).getD j 0))) A s s.heap) := by
    intro t
    by_cases h5 : t < 5
    · obtain ⟨a, e1, e2⟩ := va_Tof (tm := tTm t) (f := fun j => .ref (adK ((sTab t).getD j 0))) (A := A) (hLn t h5) (by have := hp (tPa t 0); rw [hAr t h5] at this; exact this) (va_eqt (by have := hp (tPa t 1); rw [hLe t h5] at this; exact this)) (fun j hj => by
        have h9 := hp (tPa t (2 + j))
        rw [(hEl t h5 j hj).1] at h9
        exact va_eqR2 h9 (hE _ (Nat.lt_of_lt_of_le (hEl t h5 j hj).2 (by decide)))) hA
      exact ⟨a, fun _ => ⟨va_Zof (hts _ (gLt t h5)) (hts _ gIx) e1 hA, e2⟩⟩
    · exact ⟨0, fun h => absurd h h5⟩
  obtain ⟨tK, htK⟩ := Classical.axiomOfChoice hT
  have hR : ∀ q ∈ SREF, vk_R q.1 q.2.1 q.2.2.1 (adK q.2.2.2) s := by
    intro q hq
    obtain ⟨i, hi⟩ := List.getElem?_of_mem hq
    have hlt : i < 71 := (List.getElem?_eq_some_iff.mp hi).1
    have he := hE i hlt
    have hx : sTm i = .string q.1 q.2.1 := by
      unfold sTm
      rw [List.getD_eq_getElem?_getD, hi]
      rfl
    rw [hx] at he
    rw [gRix i hlt q hi]
    exact vk_R.of (hts _ (gRefs q hq)) he
  refine ⟨adK, adV, tK, ⟨⟨⟨⟨⟨hS, hR, va_Zof (hts _ (hl _ (List.mem_of_getElem? (i := 0) rfl)).1) (hts _ (hl _ (List.mem_of_getElem? (i := 0) rfl)).2) (va_eqt g0) hA, va_Zqof (hts _ (hl _ (List.mem_of_getElem? (i := 1) rfl)).1) (hts _ (hl _ (List.mem_of_getElem? (i := 1) rfl)).2) g1 hA, fun t ht => htK t ht⟩, va_AO.of (hts _ gAO.1)⟩, fun q hq => va_Nw.of rfl (hts _ (gNF q hq)), fun q hq => va_Nw.of rfl (hts _ (gNM q hq))⟩, fun y hy => va_Nw.of rfl (hts _ (gDe y hy)), fun k hk => va_Nw.of rfl (hts _ (gCa k hk)), vx_Zqof (hts _ (hl _ (List.mem_of_getElem? (i := 2) rfl)).1) (hts _ (hl _ (List.mem_of_getElem? (i := 2) rfl)).2) g2 hA, vx_Zqof (hts _ (hl _ (List.mem_of_getElem? (i := 3) rfl)).1) (hts _ (hl _ (List.mem_of_getElem? (i := 3) rfl)).2) g3 hA⟩, over_moved (Vm.Alike.refl s.vm) (hts _ gAO.2)⟩, va_Nc.of g4, va_Nc.of g5⟩
