-- texts
theorem gLn : ∀ i, i < 97 → SLEN.getD i 0 < 2 ^ 31 := by decide +kernel
theorem gIn : ∀ i, i < 97 → wS i → i ∈ sIds := by decide +kernel
theorem wS.lt {i : Nat} (h : wS i) : i < 97 := by
  rcases h with h | h <;> omega
/-- texts: their addresses, and what lies there -/
theorem gTexts {args : Array Value} {s : State} {A : Nat → Prop} (hn : narrow_1.before args s = true) (hA : ∀ a : Nat, a < s.heap.size → ¬ A a) : ∃ adK adV : Nat → Nat, sS adK adV A s s.heap ∧ ∀ i ∈ sIds, (sTm i).eval args s none [] s = some (.ref (adK i)) := by
  have hp := gPick_ok narrow_1 hn
  have h0 : ∀ i : Nat, ∃ q : Nat × Nat, (i ∈ sIds → (sTm i).eval args s none [] s = some (.ref q.1)) ∧ (wS i → va_O "java/lang/String" q.1 A s s.heap ∧ va_OF "java/lang/String" "coder" "B" (.int 0) q.1 A s s.heap ∧ va_OF "java/lang/String" "value" "[B" (.ref q.2) q.1 A s s.heap ∧ va_T .byte q.2 (SLEN.getD i 0) (fun j => .int ((SBYT.getD i []).getD j 0)) A s s.heap) := by
    intro i
    by_cases hi : i ∈ sIds
    · obtain ⟨a, c, cA, kA, q1, q2, q3, q4, q5, q6, -⟩ := Cond.exactly_spec (args := args) (first := s) (o := none) (s := s) (idx := []) (t := sTm i) (cls := "java/lang/String") (by have := hp (sPa i 0); rw [gEx i hi] at this; exact this)
      by_cases hw : wS i
      · have h9 := hw.lt
        obtain ⟨t, ht, hT⟩ := va_Tof (f := fun j => .int ((SBYT.getD i []).getD j 0)) (A := A) (gLn i h9) (by have := hp (sPa i 2); rw [gAr i h9 hw] at this; exact this) (va_eqt (by have := hp (sPa i 3); rw [gLe i h9 hw] at this; exact this)) (fun j hj => va_eqt (by have := hp (sPa i (4 + j)); rw [gEl i h9 hw j hj] at this; exact this)) hA
        exact ⟨(a, t), fun _ => q1, fun _ => ⟨⟨cA, q3, q5, by rw [q6]; exact q2, hA a (Array.getElem?_eq_some_iff.mp q3).1⟩, vk_OFof q1 (va_eqt (by have := hp (sPa i 1); rw [gCo i h9 hw] at this; exact this)) hA, vk_OFof q1 ht hA, hT⟩⟩
      · exact ⟨(a, 0), fun _ => q1, fun h => absurd h hw⟩
    · exact ⟨(0, 0), fun h => absurd h hi, fun h => absurd (gIn i h.lt h) hi⟩
  obtain ⟨ad, had⟩ := Classical.axiomOfChoice h0
  exact ⟨fun i => (ad i).1, fun i => (ad i).2, fun i hi => (had i).2 hi, fun i hi => (had i).1 hi⟩
