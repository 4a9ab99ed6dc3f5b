-- whole_start, out of a relation that every call keeps
theorem lk0 {C : String} {T : u_T} {N : Nat} {s : State} {args : Array Value} (hts : ∀ w ∈ wsL_law, w.before args s = true) (hin : ∀ w ∈ u_ws C T N, w ∈ wsL_law) {n : Nat} (hi : Cond.instantiable C n ∈ wsL_law) : ∃ (cC : ClassId) (iS : Nat → Nat), u_Kn s C T N cC iS := u_known hts hin (hts _ hi)
theorem lkA {ty : FieldType} {s : State} {args : Array Value} (h : (Cond.arrayClass ty).before args s = true) (hr : ∀ c, va_RA s c ty = (s.vm.findClass ("[" ++ ty.toString) = some c)) (hq : ∀ d, ty ≠ .object d) : ∃ cA : ClassId, ArrOfT s cA ty ∧ va_RA s cA ty := by
  obtain ⟨c, k, comp, h1, h2, h3⟩ := Cond.arrayClass_spec h
  refine ⟨c, fun n z => ⟨fun q hq9 => ?_, k, h2, comp, h3⟩, by rw [hr]; exact h1⟩
  first | cases hq9 | exact absurd hq9 (by cases hq9)
set_option maxRecDepth 100000 in
theorem whole_start {p : Program} {e : Env} {s : State} {m : MethodId} {below : List Frame} {meth : Method} {c : Code} (l : Launch) (hflags : l.flags = flags0) {b L : Nat} {xs : Nat → Int32} (hL : L ≤ 260) (C0 : lw_At p s m meth c b L xs) : W p l e room_1 s m #[Value.ref b] below meth c s.heap [] 0 0 (lw_Z below #[Value.ref b] s) (entryFrame m ([Value.ref b] : List Value).toArray 15) := by
  obtain ⟨kw, hkw⟩ := packSome
  obtain ⟨hx, hb, hr, hml, hown, hts, hX, hbl, hlocks, hgv⟩ := id C0
  have hn : narrow_1.before #[Value.ref b] s = true := by
    rw [Cond.before_and, Bool.and_eq_true] at hgv
    exact hgv.2
  have hA : ∀ q : Nat, s.heap.size ≤ q → (fun q : Nat => s.heap.size ≤ q) q := fun _ h => h
  have hbA : ¬ (fun q : Nat => s.heap.size ≤ q) b := Nat.not_le.mpr hbl
  have htw : ∀ w ∈ wsL_law, w.before #[Value.ref b] s = true := fun w hw => hts w (wsL_law_in w hw)
  obtain ⟨adK, adV, tK, hKS⟩ := gStart (A := fun q : Nat => s.heap.size ≤ q) hts hn (fun a h => Nat.not_le.mpr h)
  have hd0 := Drawn.sameBut.refl s.drawn lw_cs
  have hl9 : l.stackTraces = false := by
    unfold Launch.stackTraces
    rw [hflags]
    decide +kernel
  obtain ⟨c0, i0, n0⟩ := lk0 htw inlX0 wa_X0
  obtain ⟨c1, i1, n1⟩ := lk0 htw inlX1 wa_X1
  obtain ⟨c2, i2, n2⟩ := lk0 htw inlX2 wa_X2
  obtain ⟨c3, i3, n3⟩ := lk0 htw inlX3 wa_X3
  obtain ⟨c4, i4, n4⟩ := lk0 htw inlX4 wa_X4
  obtain ⟨c5, i5, n5⟩ := lk0 htw inlX5 wa_X5
  obtain ⟨c6, i6, n6⟩ := lk0 htw inlX6 wa_X6
  obtain ⟨c7, i7, n7⟩ := lk0 htw inlX7 wa_X7
  obtain ⟨c8, i8, n8⟩ := lk0 htw inlX8 wa_X8
  obtain ⟨c9, i9, n9⟩ := lk0 htw inlX9 wa_X9
  obtain ⟨c10, i10, n10⟩ := lk0 htw inlX10 wa_X10
  obtain ⟨dC, dI, hKc⟩ : ∃ (dC : Nat → ClassId) (dI : Nat → Nat → Nat), ∀ (k : Nat) (q : vw_C), vwCl[k]? = some q → u_Kn s q.1 q.2.1 q.2.2 (dC k) (dI k) := by
    refine ⟨fun k => ([c0, c1, c2, c3, c4, c5, c6, c7, c8, c9, c10] : List ClassId).getD k c0, fun k => ([i0, i1, i2, i3, i4, i5, i6, i7, i8, i9, i10] : List (Nat → Nat)).getD k i0, ?_⟩
    intro k q hq
    match k, hq with
    | 0, hq => cases hq; exact n0
    | 1, hq => cases hq; exact n1
    | 2, hq => cases hq; exact n2
    | 3, hq => cases hq; exact n3
    | 4, hq => cases hq; exact n4
    | 5, hq => cases hq; exact n5
    | 6, hq => cases hq; exact n6
    | 7, hq => cases hq; exact n7
    | 8, hq => cases hq; exact n8
    | 9, hq => cases hq; exact n9
    | 10, hq => cases hq; exact n10
    | k + 11, hq => simp [vwCl] at hq
  obtain ⟨cI, aI, rI⟩ := lkA (ty := .int) (htw _ wo_arr_int) (fun _ => rfl) (fun _ h => by cases h)
  obtain ⟨cJ, aJ, rJ⟩ := lkA (ty := .long) (htw _ wo_arr_long) (fun _ => rfl) (fun _ h => by cases h)
  obtain ⟨comp, cQ, k, -, -, hk, hkind, hq⟩ := arrayOverA_spec (t := .long) (hts _ gAO.2)
  have aQ : ArrOfT s cQ (.array .long) := fun n z => ⟨fun q hq9 => (by cases hq9), k, hk, comp, hkind⟩
  have hK : va_K (dC, dI) vwCl [(cI, .int), (cJ, .long), (cQ, .array .long)] s := ⟨hKc, fun k q h => by
    match k, h with
    | 0, h => cases h; exact ⟨aI, rI⟩
    | 1, h => cases h; exact ⟨aJ, rJ⟩
    | 2, h => cases h; exact ⟨aQ, hq⟩
    | k + 3, h => simp at h⟩
  refine W.base ?_
  have hl := lv_entry ([.ref b]) (n := 15) (Nat.le_of_ble_eq_true rfl)
  rw [lg_entry_eq]
  generalize (lg_sl ([.ref b]) ++ List.replicate (15 - (lg_sl ([.ref b])).length) Slot.unset).toArray = ls at hl ⊢
  have hl : lv_has ls 15 [(0, .ref b)] := hl
  have S : CallFix p m c cL_law 15 (s.setDrawn s.drawn) #[Value.ref b] (Cond.initialized RX10 :: wsL_law) RL := ⟨hx, hb, hml, hown, dr_words (fun w hw => (List.mem_cons.mp hw).elim (fun h => by rw [h]; exact htw _ wn_X10) (htw w)) _⟩
  refine lw_begin (s := s.setDrawn s.drawn) (A := fun q : Nat => s.heap.size ≤ q) hkw hl9 S hK hKS hA hX hbA hL hl ?_
  intro pc H locs ls cells slots hdg hS hc hsl
  refine W.widen (k := 600086) (n := 7301442) hc hsl ?_
  refine va_forget (fun q hq => hS.2.2 q hq) ?_
  exact lw_ret hd0 hx hb hr hlocks hdg
