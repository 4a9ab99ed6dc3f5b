-- the law's own rows, beside the program's objects
abbrev LwS : Type := CS × (Nat → Nat → Int32)
abbrev rR (σ : LwS) (k : Nat) (v : Nat → Int32) : LwS := (σ.1, va_up σ.2 k v)
abbrev rC (σ : LwS) (v : CS) : LwS := (v, σ.2)
abbrev LwR (cI : ClassId) (ar : Nat → Nat) (σ : LwS) : va_W := [(ar 0, .inl (cI, 1700, .inl (σ.2 0))), (ar 1, .inl (cI, 60, .inl (σ.2 1)))]
abbrev LwW (cI cJ cQ : ClassId) (ad : Nat → Nat) (ra : Nat → Nat → Nat) (ar : Nat → Nat) (σ : LwS) : va_W := LwR cI ar σ ++ CW cI cJ cQ ad ra σ.1
/-- the script, out of reach -/
def lKS (adK adV tK : Nat → Nat) (b N : Nat) (xs : Nat → Int32) (A : Nat → Prop) (U : State) : Prop := nKS adK adV tK A U ∧ ¬ A b ∧ va_X b N xs U U.heap
theorem va_X.lt {b N : Nat} {xs : Nat → Int32} {U : State} {H : Heap} (h : va_X b N xs U H) : b < H.size := by
  obtain ⟨scr, h1, -⟩ := h
  exact (Array.getElem?_eq_some_iff.mp h1).1
theorem lKSc {adK adV tK : Nat → Nat} {b N : Nat} {xs : Nat → Int32} : gC (lKS adK adV tK b N xs) := fun A A' U U' h hW hk hA hA2 => ⟨nKSc A A' U U' h.1 hW hk hA hA2, fun z => h.2.1 (hA b z), (va_X.moved hW.alike h.2.2).kept (hk b h.2.2.lt h.2.1)⟩
theorem gMetX.weak {l : Launch} {y : MethodName} {ws : List Cond} {rm : Room} {D : va_G} {cl : List vw_C} {tys : List (ClassId × FieldType)} {K1 K2 : (Nat → Prop) → State → Prop} {As : List Value} {w w' : va_W} {out : Nat ⊕ Option Value} (h : gMetX l y ws rm D cl tys K2 As w w' out) (hk : ∀ A U, K1 A U → K2 A U) : gMetX l y ws rm D cl tys K1 As w w' out := fun sz p e ha hc hkk s m args below hf happ q hK => h sz p e ha hc hkk s m args below hf happ ⟨q.1, q.2.1, q.2.2.1, q.2.2.2.1, q.2.2.2.2.1, hk _ _ q.2.2.2.2.2⟩ hK
def oRt {α : Type} (o : Nat ⊕ α) : Option α := match o with
  | .inr v => some v
  | .inl _ => none
theorem oRt_eq {α : Type} {o : Nat ⊕ α} {v : α} (h : oRt o = some v) : o = .inr v := by
  cases o with
  | inl k => cases h
  | inr u => exact congrArg Sum.inr (Option.some.inj h)
section LAWKIT
variable {p : Program} {l : Launch} {e : Env} {R : Room} {s : State} {m : MethodId} {args : Array Value} {below : List Frame} {meth : Method} {c : Code} {H : Heap} {locs : List Loc} {cells slots : Nat} {Q : State → Prop}
variable {cc : ByteArray} {pc nL : Nat} {ls : Array Slot} {rest st : List Value} {D : va_G} {cl : List vw_C} {A : Nat → Prop} {H0 : Heap} {w w' X X' : va_W} {tys : List (ClassId × FieldType)} {Ts : List Cond} {own : String} {KS : (Nat → Prop) → State → Prop} {k0 : Cond}
theorem lwC {w1 w2 : va_W} (h : gB D cl A H0 (w1 ++ w2) X H locs) : gB D cl A H0 w2 (w1 ++ X) H locs := gPerm (by
  rw [List.append_assoc]
  exact List.perm_append_comm_assoc _ _ _) h
theorem lwC2 {w1 w2 : va_W} (h : gB D cl A H0 w2 (w1 ++ X) H locs) : gB D cl A H0 (w1 ++ w2) X H locs := gPerm (by
  rw [List.append_assoc]
  exact List.perm_append_comm_assoc _ _ _) h
/-- a call that may throw, and doesn't -/
theorem gCallR {v0 : Option Value} {C : String} {T : u_T} {N ci : Nat} {y : MethodName} {bytes : ByteArray} {maxL n index : Nat} {ret : Option FieldType} {ws : List Cond} {rm : Room} {As : List Value} {b : Nat} {fs : List Value} (S : CallFix p m c cc nL s args Ts own) (hK : va_K D cl tys s) (hc : gC KS) (hKS : KS A s) (hA : ∀ q, s.heap.size ≤ q → A q) (hM : gMetX l y ws rm D cl tys KS (.ref b :: As) w w' (.inr v0)) (cw : CallW R s args own C index y bytes maxL ret ws rm 1 6 n) (hB : gB D cl A s.heap w X H locs)
    (q0 : Nat) (he : w[q0]? = some (b, .inr (ci, fs))) (hcl : cl[ci]? = some (C, T, N)) (hn : As.length = n) (hsize : ls.size = nL) (hst : st = As.reverse ++ .ref b :: rest) (hW : 2 * (F0 m pc ls st).monitorRoom + (rest.map fun v => v.category).sum ≤ 8) (hdg : decode cc pc = .ok (.invokevirtual index, 3)) (hf : cells + 1 ≤ R.cells ∧ slots + 6 ≤ R.slots)
    (kk : ∀ (H1 : Heap) (locs1 : List Loc), gB D cl A s.heap w' X H1 locs1 → W p l e R s m args below meth c H1 locs1 (cells + 1) (slots + 6) Q (F0 m (pc + 3) ls (v0.toList ++ rest))) : W p l e R s m args below meth c H locs cells slots Q (F0 m pc ls st) := by
  intro Tt hT X1
  have hAw := gAw hB hA
  have hS := hB.2.2
  rcases vx_runV S (hM H.size) cw ⟨gBlind hc, va_recv (q := (C, T, N)) hK hB.1 hcl (gApp he), gPreOf hc hB hA hK hKS⟩ rfl hn hsize hst hW hdg hf Tt hT X1 with ⟨v1, st₀, t, T', L, h0, X', hL, e1, e2, ⟨v, hv, ⟨hv2, hP1, hD1⟩, hz, hk⟩, stp⟩ | ⟨q, st₀, t, T', L, E, ce, h0, X', hL, e1, e2, ⟨k, hv, -⟩, -⟩
  · cases hv2
    cases hv
    rw [h0] at hz hk
    have hkk : ∀ q : Nat, q < H.size → ¬ va_A w H.size q → T'.heap[q]? = H[q]? := fun q h1 h2 => by rw [e1]; exact hk q h1 h2
    obtain ⟨hP2, hD2⟩ := gJoin hB hAw hkk (by rw [e1]; exact hP1) hD1
    obtain ⟨t2, a1, b1⟩ := kk T'.heap (locs ++ L) ⟨hP2, hD2, Nat.le_trans hS.1 (by rw [e1]; exact hz), fun q h1 h2 => by
        rw [hkk q (Nat.lt_of_lt_of_le h1 hS.1) (fun z => h2 (hAw q z))]
        exact hS.2.1 q h1 h2, fun q hq => by
        rcases List.mem_append.mp hq with h | h
        · exact hS.2.2 q h
        · exact hAw _ (hL q h)⟩ T' rfl X'
    exact ⟨t2, stp t2 a1, b1⟩
  · cases hv
theorem lXast {cI : ClassId} {q n t0 : Nat} {f : Nat → Int32} {i x : Int32} (S : CallFix p m c cc nL s args Ts own) (hK : va_K D cl tys s) (hB : gB D cl A H0 w X H locs) (j : Nat) (ha : X[j]? = some (q, .inl (cI, n, .inl f))) (ht : tys[t0]? = some (cI, .int)) (hin : vp_in i n) (hw : X.set j (q, .inl (cI, n, .inl (upd f i.toNatClampNeg x))) = X') (hdg : decode cc pc = .ok (.iastore, 1)) (kk : ∀ (H1 : Heap) (locs1 : List Loc), gB D cl A H0 w X' H1 locs1 → W p l e R s m args below meth c H1 locs1 cells slots Q (F0 m (pc + 1) ls rest)) : W p l e R s m args below meth c H locs cells slots Q (F0 m pc ls (.int x :: .int i :: .ref q :: rest)) :=
  gIast S hK (gPerm (w2 := X) (X2 := w) List.perm_append_comm hB) j t0 ha ht hin hw hdg (fun H1 locs1 h => kk H1 locs1 (gPerm List.perm_append_comm h))
theorem lXald {cI : ClassId} {q n t0 : Nat} {f : Nat → Int32} {i : Int32} (S : CallFix p m c cc nL s args Ts own) (hK : va_K D cl tys s) (hB : gB D cl A H0 w X H locs) (j : Nat) (ha : X[j]? = some (q, .inl (cI, n, .inl f))) (ht : tys[t0]? = some (cI, .int)) (hin : vp_in i n) (hdg : decode cc pc = .ok (.iaload, 1)) (kk : W p l e R s m args below meth c H locs cells slots Q (F0 m (pc + 1) ls (.int (f i.toNatClampNeg) :: rest))) : W p l e R s m args below meth c H locs cells slots Q (F0 m pc ls (.int i :: .ref q :: rest)) :=
  gIald S hK (gPerm (w2 := X) (X2 := w) List.perm_append_comm hB) j t0 ha ht hin hdg kk
theorem lXasts {cS : ClassId} {q n v t0 : Nat} {f : Nat → Option Nat} {i : Int32} {E : String} (S : CallFix p m c cc nL s args Ts own) (hK : va_K D cl tys s) (hB : gB D cl A H0 w X H locs) (j : Nat) (ha : X[j]? = some (q, .inl (cS, n, .inr (.inr (.inr (.inr f)))))) (ht : tys[t0]? = some (cS, .object E)) (hr : va_Any E s H v) (hin : vp_in i n) (hw : X.set j (q, .inl (cS, n, .inr (.inr (.inr (.inr (va_up f i.toNatClampNeg (some v))))))) = X') (hdg : decode cc pc = .ok (.aastore, 1)) (kk : ∀ (H1 : Heap) (locs1 : List Loc), gB D cl A H0 w X' H1 locs1 → W p l e R s m args below meth c H1 locs1 cells slots Q (F0 m (pc + 1) ls rest)) : W p l e R s m args below meth c H locs cells slots Q (F0 m pc ls (.ref v :: .int i :: .ref q :: rest)) := by
  have hB1 := gPerm (w2 := X) (X2 := w) List.perm_append_comm hB
  exact va_astqM S.1 S.2.1 hK hB1.1 hB1.2.1 hB1.2.2 j t0 (gApp ha) ht hr hin hdg (fun H1 locs1 a1 a2 a3 => kk H1 locs1 (gPerm (w := X') (X := w) List.perm_append_comm ⟨by rw [← hw, ← gSet ha]; exact a1, by rw [← hw, ← gSet ha]; exact a2, a3⟩))
theorem lXalds {cS : ClassId} {q n v t0 : Nat} {f : Nat → Option Nat} {i : Int32} {E : String} (S : CallFix p m c cc nL s args Ts own) (hK : va_K D cl tys s) (hB : gB D cl A H0 w X H locs) (j : Nat) (ha : X[j]? = some (q, .inl (cS, n, .inr (.inr (.inr (.inr f)))))) (ht : tys[t0]? = some (cS, .object E)) (hin : vp_in i n) (hv : f i.toNatClampNeg = some v) (hdg : decode cc pc = .ok (.aaload, 1)) (kk : W p l e R s m args below meth c H locs cells slots Q (F0 m (pc + 1) ls (.ref v :: rest))) : W p l e R s m args below meth c H locs cells slots Q (F0 m pc ls (.int i :: .ref q :: rest)) := by
  have hB1 := gPerm (w2 := X) (X2 := w) List.perm_append_comm hB
  exact va_aldq S.1 S.2.1 hK hB1.1 j t0 (gApp ha) ht hin hdg (by rw [hv]; exact kk)
theorem lXnews {index N : Nat} {n : Int32} (S : CallFix p m c cc nL s args Ts own) (hK : va_K D cl tys s) (hB : gB D cl A H0 w X H locs) (hA : ∀ q, H0.size ≤ q → A q) (hover : va_AO "java/lang/String" s) (hw : (Cond.classLink own index "java/lang/String").before args s = true) (hn : ¬ n < 0) (hN : n.toNatClampNeg = N) (hby : N * 4 ≤ 536870912) (hcs : cells + 1 ≤ R.cells ∧ slots + N ≤ R.slots) (hdg : decode cc pc = .ok (.anewarray index, 3))
    (kk : ∀ (q : Nat) (cA : ClassId) (H1 : Heap), va_K D cl (tys ++ [(cA, .object "java/lang/String")]) s → gB D cl A H0 w (X ++ [(q, .inl (cA, N, .inr (.inr (.inr (.inr (fun _ => none))))))]) H1 locs → W p l e R s m args below meth c H1 locs (cells + 1) (slots + N) Q (F0 m (pc + 3) ls (.ref q :: rest))) : W p l e R s m args below meth c H locs cells slots Q (F0 m pc ls (.int n :: rest)) :=
  va_newq S.1 S.2.1 S.2.2.2.1 hw hover hK hB.1 hB.2.1 hB.2.2 hA hn hN hby hcs.1 hcs.2 hdg (fun q cA H1 h1 h2 h3 h4 => kk q cA H1 h1 ⟨by rw [← List.append_assoc]; exact h2, by rw [← List.append_assoc]; exact h3, h4⟩)
theorem lXdrop {X0 : va_W} (hB : gB D cl A H0 w (X0 ++ X) H locs) : gB D cl A H0 w X0 H locs := by
  have h := gDrop (w := w ++ X0) (X := X) (by
    refine ⟨?_, ?_, hB.2.2⟩
    · rw [List.append_assoc]; exact hB.1
    · rw [List.append_assoc]; exact hB.2.1)
  refine ⟨?_, ?_, hB.2.2⟩
  · have := h.1; rw [List.append_nil] at this; exact this
  · have := h.2.1; rw [List.append_nil] at this; exact this
end LAWKIT
