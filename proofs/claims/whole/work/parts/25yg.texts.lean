-- texts
theorem va_eqR2 {args : Array Value} {s : State} {t u : Term} {a : Nat} (h : (Cond.eq t u).before args s = true) (hu : u.eval args s none [] s = some (.ref a)) : t.eval args s none [] s = some (.ref a) := by
  cases ht : t.eval args s none [] s with
  | none => simp [Cond.before, Cond.holds, Cond.value, ht, hu] at h
  | some w =>
    simp only [Cond.before, Cond.holds, Cond.value, ht, hu] at h
    cases w <;> first | (simp at h; done) | (simp at h ⊢; exact h)
theorem va_T_inj {ty : FieldType} {t N N2 : Nat} {f f2 : Nat → Value} {A : Nat → Prop} {U : State} {H : Heap} (hN : N < 2 ^ 31) (hN2 : N2 < 2 ^ 31) (h1 : va_T ty t N f A U H) (h2 : va_T ty t N2 f2 A U H) : N = N2 ∧ ∀ j, j < N → f j = f2 j := by
  obtain ⟨c1, a1, -, -, -, s1, e1, -⟩ := h1
  obtain ⟨c2, a2, -, -, -, s2, e2, -⟩ := h2
  cases Option.some.inj (a1.symm.trans a2)
  have hn : N = N2 := by
    have h3 := s1.symm.trans s2
    have h4 : (Int32.ofNat N).toInt = (Int32.ofNat N2).toInt := by rw [h3]
    rw [Int32.toInt_ofNat_of_lt hN, Int32.toInt_ofNat_of_lt hN2] at h4
    omega
  subst hn
  exact ⟨rfl, fun j hj => Option.some.inj ((e1 j hj).symm.trans (e2 j hj))⟩
theorem va_OF_inj {o n d : String} {v v2 : Value} {t : Nat} {A : Nat → Prop} {U : State} {H : Heap} (h1 : va_OF o n d v t A U H) (h2 : va_OF o n d v2 t A U H) : v = v2 := by
  obtain ⟨cf, k, i, f, c1, a1, -, b1, -, e1, -⟩ := h1
  obtain ⟨cf2, k2, i2, f2, c2, a2, -, b2, -, e2, -⟩ := h2
  cases Option.some.inj (a1.symm.trans a2)
  cases Option.some.inj (b1.symm.trans b2)
  exact Option.some.inj (e1.symm.trans e2)
/-- texts: their addresses, and what lies there -/
theorem gTexts {args : Array Value} {s : State} {A : Nat → Prop} (hn : narrow_1.before args s = true) (hA : ∀ a : Nat, a < s.heap.size → ¬ A a) : ∃ adK adV : Nat → Nat, vk_S 53 SLEN SBYT adK adV A s s.heap ∧ ∀ i : Nat, i < 71 → (sTm i).eval args s none [] s = some (.ref (adK i)) := by
  have hp := gPick_ok narrow_1 hn
  have h0 : ∀ i : Nat, ∃ q : Nat × Nat, (i < 71 → (sTm i).eval args s none [] s = some (.ref q.1)) ∧ (i < 53 → va_O "java/lang/String" q.1 A s s.heap ∧ va_OF "java/lang/String" "coder" "B" (.int 0) q.1 A s s.heap ∧ va_OF "java/lang/String" "value" "[B" (.ref q.2) q.1 A s s.heap ∧ va_T .byte q.2 (SLEN.getD i 0) (fun j => .int ((SBYT.getD i []).getD j 0)) A s s.heap) := by
    intro i
    by_cases hi : i < 71
    · obtain ⟨a, c, cA, kA, q1, q2, q3, q4, q5, q6, -⟩ := Cond.exactly_spec (args := args) (first := s) (o := none) (s := s) (idx := []) (t := sTm i) (cls := "java/lang/String") (by have := hp (sPa i 0); rw [gEx i hi] at this; exact this)
      by_cases h53 : i < 53
      · obtain ⟨t, ht, hT⟩ := va_Tof (f := fun j => .int ((SBYT.getD i []).getD j 0)) (A := A) (gLn i h53) (by have := hp (sPa i 2); rw [gAr i h53] at this; exact this) (va_eqt (by have := hp (sPa i 3); rw [gLe i h53] at this; exact this)) (fun j hj => va_eqt (by have := hp (sPa i (4 + j)); rw [gEl i h53 j hj] at this; exact this)) hA
        exact ⟨(a, t), fun _ => q1, fun _ => ⟨⟨cA, q3, q5, by rw [q6]; exact q2, hA a (Array.getElem?_eq_some_iff.mp q3).1⟩, vk_OFof q1 (va_eqt (by have := hp (sPa i 1); rw [gCo i h53] at this; exact this)) hA, vk_OFof q1 ht hA, hT⟩⟩
      · exact ⟨(a, 0), fun _ => q1, fun h => absurd h h53⟩
    · exact ⟨(0, 0), fun h => absurd h hi, fun h => absurd (Nat.lt_of_lt_of_le h (by decide)) hi⟩
  obtain ⟨ad, had⟩ := Classical.axiomOfChoice h0
  refine ⟨fun i => (ad i).1, fun i => (ad i).2, ⟨fun i hi => (had i).2 hi, fun i j hi hj e => ?_⟩, fun i hi => (had i).1 hi⟩
  by_cases hij : i = j
  · exact hij
  · exfalso
    obtain ⟨-, -, v1, t1⟩ := (had i).2 hi
    obtain ⟨-, -, v2, t2⟩ := (had j).2 hj
    have e : (ad i).1 = (ad j).1 := e
    rw [← e] at v2
    have ev : (ad i).2 = (ad j).2 := by
      have := va_OF_inj v1 v2
      exact Value.ref.inj this
    rw [← ev] at t2
    obtain ⟨hn, hf⟩ := va_T_inj (gLn i hi) (gLn j hj) t1 t2
    rcases gDi i hi j hj hij with h | ⟨k, hk, h⟩
    · exact h hn
    · exact h (by have := hf k hk; injection this)
