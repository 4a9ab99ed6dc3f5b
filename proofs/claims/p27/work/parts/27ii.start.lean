-- start
/-- all that is carried along holds at the start -/
theorem gStart {b : Nat} {s : State} {A : Nat → Prop} (hts : ∀ w ∈ lw_tbl, w.before #[Value.ref b] s = true) (hn : narrow_1.before #[Value.ref b] s = true) (hA : ∀ a : Nat, a < s.heap.size → ¬ A a) : ∃ adK adV tK : Nat → Nat, nKS adK adV tK A s := by
  obtain ⟨adK, adV, hS, hE⟩ := gTexts hn hA
  have hp := gPick_ok narrow_1 hn
  have g0 := hp 1792
  rw [gG0] at g0
  have g1 := hp 1152
  rw [gG1] at g1
  have g2 := hp 1088
  rw [gG2] at g2
  have g3 := hp 1600
  rw [gG3] at g3
  have hl := fun q hq => gLst q hq
  have hR : ∀ q ∈ SREF, vk_R q.1 q.2.1 q.2.2.1 (adK q.2.2.2) s := by
    intro q hq
    obtain ⟨h1, h2, h3⟩ := gRix q hq
    have he := hE q.2.2.2 h1
    have hx : sTm q.2.2.2 = .string q.1 q.2.1 := by
      unfold sTm
      rw [h2, h3]
    rw [hx] at he
    exact vk_R.of (hts _ (gRefs q hq)) he
  exact ⟨adK, adV, fun _ => 0, ⟨⟨⟨⟨hS, hR, va_Zof (hts _ (hl _ (List.mem_of_getElem? (i := 0) rfl)).1) (hts _ (hl _ (List.mem_of_getElem? (i := 0) rfl)).2) (va_eqt g0) hA, va_Zqof (hts _ (hl _ (List.mem_of_getElem? (i := 1) rfl)).1) (hts _ (hl _ (List.mem_of_getElem? (i := 1) rfl)).2) g1 hA, trivial⟩, va_AO.of (hts _ gAO.1)⟩, fun q hq => va_Nw.of rfl (hts _ (gNF q hq)), fun q hq => va_Nw.of rfl (hts _ (gNM q hq))⟩, fun y hy => va_Nw.of rfl (hts _ (gDe y hy)), fun k hk => va_Nw.of rfl (hts _ (gCa k hk)), vx_Zqof (hts _ (hl _ (List.mem_of_getElem? (i := 2) rfl)).1) (hts _ (hl _ (List.mem_of_getElem? (i := 2) rfl)).2) g2 hA, vx_Zqof (hts _ (hl _ (List.mem_of_getElem? (i := 3) rfl)).1) (hts _ (hl _ (List.mem_of_getElem? (i := 3) rfl)).2) g3 hA⟩, over_moved (Vm.Alike.refl s.vm) (hts _ gAO.2)⟩
