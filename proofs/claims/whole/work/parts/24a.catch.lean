-- the law's own small methods: they call, and catch
/-- and that two kinds of exceptions are apart -/
def wKS (adK adV tK : Nat → Nat) (A : Nat → Prop) (U : State) : Prop := nKS adK adV tK A U ∧ va_Nc (exN 0) (exN 1) U ∧ va_Nc (exN 0) (exN 2) U
theorem wKSc {adK adV tK : Nat → Nat} : gC (wKS adK adV tK) := fun A A' U U' h hW hk hA hA2 => ⟨nKSc A A' U U' h.1 hW hk hA hA2, h.2.1.moved hW.alike, h.2.2.moved hW.alike⟩
theorem gMetX.weak {l : Launch} {y : MethodName} {ws : List Cond} {rm : Room} {D : va_G} {cl : List vw_C} {tys : List (ClassId × FieldType)} {K1 K2 : (Nat → Prop) → State → Prop} {As : List Value} {w w' : va_W} {out : Nat ⊕ Option Value} (h : gMetX l y ws rm D cl tys K2 As w w' out) (hk : ∀ A U, K1 A U → K2 A U) : gMetX l y ws rm D cl tys K1 As w w' out := fun sz p e ha hc hkk s m args below hf happ q hK => h sz p e ha hc hkk s m args below hf happ ⟨q.1, q.2.1, q.2.2.1, q.2.2.2.1, q.2.2.2.2.1, hk _ _ q.2.2.2.2.2⟩ hK
theorem gMetH.of {l : Launch} {y : MethodName} {ws ws' : List Cond} {rm : Room} {mc ms : Nat} {D : va_G} {cl : List vw_C} {tys : List (ClassId × FieldType)} {KS : (Nat → Prop) → State → Prop} {As : List Value} {w w' : va_W} {v : Option Value} {cc : ByteArray} {maxL : Nat} {ret : Option FieldType} {hh : List (Nat × Nat × Nat × Nat)} (hy : plainName y.cls = true) (hw : ws = Cond.codeWith y cc maxL ret hh :: ws') (hn : (lg_sl As).length ≤ maxL)
    (body : ∀ (p : Program) (e : Env) (s : State) (m : MethodId) (args : Array Value) (below : List Frame) (meth : Method) (c : Code), CallFix p m c cc maxL s args ws y.cls → meth.sig.returnType = ret → meth.locks = false → c.exceptionTable.toList = tableOf hh → va_K D cl tys s → KS (va_A w s.heap.size) s → (∀ q : Nat, s.heap.size ≤ q → va_A w s.heap.size q) → gB D cl (va_A w s.heap.size) s.heap w [] s.heap [] → ∀ ls : Array Slot, lv_has ls maxL (lv_args 0 As) → W p l e rm s m args below meth c s.heap [] 0 0 (vx_MQ below (gQ D cl w w' v s.heap.size) (fun _ _ _ => False) args s mc ms (va_A w s.heap.size)) (F0 m 0 ls [])) : gMet l y ws rm mc ms D cl tys KS As w w' v := by
  intro sz
  have hM : vx_Met l y ws rm (gPre D cl tys KS As w sz) (gQ D cl w w' v sz) (fun _ _ _ => False) mc ms (va_A w sz) := by
    refine vx_ofWH (cc := cc) (maxL := maxL) (ret := ret) (hh := hh) hy hw ?_
    intro p e s m args below meth c s₁ B hml hv
    obtain ⟨rfl, hsz, hP, hK, hD0, hKS⟩ := hv
    subst hsz
    have hown : s.vm.findClass y.cls = some m.cls := findClass_of_methodNamed B.named
    have hts := atoms_spec (ws := ws) B.pre
    have ht := vx_table (x := y) B (hts _ (by rw [hw]; exact List.mem_cons_self))
    have hl := lv_entry As (n := maxL) hn
    rw [lg_entry_eq]
    exact body p e s m As.toArray below meth c ⟨B.exec, B.bytes, hml, hown, hts⟩ B.returns B.notSynchronized ht hK hKS (fun q h => Or.inr h) ⟨by rw [List.append_nil]; exact hP, by rw [List.append_nil]; exact hD0.self, va_S.rf⟩ _ hl
  intro p e ha hc hkk s m args below hf happ q hK
  obtain ⟨t, o, a1, a2, a3, hQ⟩ := hM p e ha hc hkk s m args below hf happ q hK
  refine ⟨t, o, a1, a2, a3, ?_⟩
  rcases hQ with h | ⟨q9, -, E, ce, L, hF, -⟩
  · exact h
  · exact hF.elim
section LX
variable {p : Program} {l : Launch} {e : Env} {R : Room} {s : State} {m : MethodId} {args : Array Value} {below : List Frame} {meth : Method} {c : Code} {H : Heap} {locs : List Loc} {cells slots : Nat} {Q : State → Prop}
variable {cc : ByteArray} {pc nL : Nat} {ls : Array Slot} {rest st : List Value} {D : va_G} {cl : List vw_C} {A : Nat → Prop} {H0 : Heap} {w w' X : va_W} {tys : List (ClassId × FieldType)} {Ts : List Cond} {own : String} {KS : (Nat → Prop) → State → Prop}
theorem gCallX {out : Nat ⊕ Option Value} {C : String} {T : u_T} {N ci : Nat} {y : MethodName} {bytes : ByteArray} {maxL n index : Nat} {ret : Option FieldType} {ws : List Cond} {rm : Room} {As : List Value} {b : Nat} {fs : List Value} (S : CallFix p m c cc nL s args Ts own) (hK : va_K D cl tys s) (hc : gC KS) (hKS : KS A s) (hA : ∀ q, s.heap.size ≤ q → A q) (hM : gMetX l y ws rm D cl tys KS (.ref b :: As) w w' out) (cw : CallW R s args own C index y bytes maxL ret ws rm 1 6 n) (hB : gB D cl A s.heap w X H locs)
    (q0 : Nat) (he : w[q0]? = some (b, .inr (ci, fs))) (hcl : cl[ci]? = some (C, T, N)) (hn : As.length = n) (hsize : ls.size = nL) (hst : st = As.reverse ++ .ref b :: rest) (hW : 2 * (F0 m pc ls st).monitorRoom + (rest.map fun v => v.category).sum ≤ 8) (hdg : decode cc pc = .ok (.invokevirtual index, 3)) (hf : cells + 1 ≤ R.cells ∧ slots + 6 ≤ R.slots)
    (kk : ∀ (v : Option Value) (H1 : Heap) (locs1 : List Loc), out = .inr v → gB D cl A s.heap w' X H1 locs1 → W p l e R s m args below meth c H1 locs1 (cells + 1) (slots + 6) Q (F0 m (pc + 3) ls (v.toList ++ rest)))
    (kx : ∀ (k q : Nat) (ce : Cell) (H1 : Heap) (locs1 : List Loc), out = .inl k → gB D cl A s.heap w' X H1 locs1 → H1[q]? = some ce → ce.vm = .none → s.vm.findClass (exN k) = some ce.cls → vx_W p l e R s m args below meth c H1 locs1 (cells + 1) (slots + 6) Q (F0 m pc ls rest) q) : W p l e R s m args below meth c H locs cells slots Q (F0 m pc ls st) := by
  intro Tt hT X1
  have hAw := gAw hB hA
  have hS := hB.2.2
  rcases vx_runV S (hM H.size) cw ⟨gBlind hc, va_recv (q := (C, T, N)) hK hB.1 hcl (gApp he), gPreOf hc hB hA hK hKS⟩ rfl hn hsize hst hW hdg hf Tt hT X1 with ⟨v0, st₀, t, T', L, h0, X', hL, e1, e2, ⟨v, hv, ⟨hv2, hP1, hD1⟩, hz, hk⟩, stp⟩ | ⟨q, st₀, t, T', L, E, ce, h0, X', hL, e1, e2, ⟨k, hv, rfl, ⟨hP1, hD1⟩, hz, hk⟩, hce, hcv, hcl9, stp⟩
  · cases hv2
    rw [h0] at hz hk
    have hkk : ∀ q : Nat, q < H.size → ¬ va_A w H.size q → T'.heap[q]? = H[q]? := fun q h1 h2 => by rw [e1]; exact hk q h1 h2
    obtain ⟨hP2, hD2⟩ := gJoin hB hAw hkk (by rw [e1]; exact hP1) hD1
    obtain ⟨t2, a1, b1⟩ := kk v0 T'.heap (locs ++ L) hv ⟨hP2, hD2, Nat.le_trans hS.1 (by rw [e1]; exact hz), fun q h1 h2 => by
        rw [hkk q (Nat.lt_of_lt_of_le h1 hS.1) (fun z => h2 (hAw q z))]
        exact hS.2.1 q h1 h2, fun q hq => by
        rcases List.mem_append.mp hq with h | h
        · exact hS.2.2 q h
        · exact hAw _ (hL q h)⟩ T' rfl X'
    exact ⟨t2, stp t2 a1, b1⟩
  · rw [h0] at hz hk
    have hkk : ∀ q : Nat, q < H.size → ¬ va_A w H.size q → T'.heap[q]? = H[q]? := fun q h1 h2 => by rw [e1]; exact hk q h1 h2
    obtain ⟨hP2, hD2⟩ := gJoin hB hAw hkk (by rw [e1]; exact hP1) hD1
    obtain ⟨t2, a1, b1⟩ := kx k q ce T'.heap (locs ++ L) hv ⟨hP2, hD2, Nat.le_trans hS.1 (by rw [e1]; exact hz), fun q h1 h2 => by
        rw [hkk q (Nat.lt_of_lt_of_le h1 hS.1) (fun z => h2 (hAw q z))]
        exact hS.2.1 q h1 h2, fun q hq => by
        rcases List.mem_append.mp hq with h | h
        · exact hS.2.2 q h
        · exact hAw _ (hL q h)⟩ (by rw [e1]; exact hce) hcv hcl9 T' rfl X'
    exact ⟨t2, stp.trans a1, b1⟩
/-- the call's frame goes over to this one's rest -/
theorem gLast0 {o : Nat} {cJ : ClassId} {f : Nat → Int64} {x : Int64} (S : CallFix p m c cc nL s args Ts own) (hK : va_K D cl tys s) (ht : tys[1]? = some (cJ, .long)) (hB : gB D cl A H0 w [(o, .inl (cJ, 1, .inr (.inl f)))] H locs) (hdg : decode cc pc = .ok (.lastore, 1))
    (kk : ∀ (H1 : Heap) (locs1 : List Loc), gB D cl A H0 (w ++ [(o, .inl (cJ, 1, .inr (.inl (vp_updL f 0 x))))]) [] H1 locs1 → W p l e R s m args below meth c H1 locs1 cells slots Q (F0 m (pc + 1) ls rest)) : W p l e R s m args below meth c H locs cells slots Q (F0 m pc ls (.long x :: .int 0 :: .ref o :: rest)) :=
  gLast S hK (gPerm (w2 := [(o, .inl (cJ, 1, .inr (.inl f)))]) (X2 := w) List.perm_append_comm hB) 0 1 rfl ht (i := 0) (by unfold vp_in; decide) rfl hdg (fun H1 locs1 hB1 => kk H1 locs1 (gPerm (by rw [List.append_nil]; exact List.perm_append_comm) hB1))
theorem gDast0 {o i0 : Nat} {cD : ClassId} {f : Nat → UInt64} {x : UInt64} (S : CallFix p m c cc nL s args Ts own) (hK : va_K D cl tys s) (ht : tys[i0]? = some (cD, .double)) (hB : gB D cl A H0 w [(o, .inl (cD, 1, .inr (.inr (.inr (.inl f)))))] H locs) (hdg : decode cc pc = .ok (.dastore, 1))
    (kk : ∀ (H1 : Heap) (locs1 : List Loc), gB D cl A H0 (w ++ [(o, .inl (cD, 1, .inr (.inr (.inr (.inl (vf_upd f 0 x))))))]) [] H1 locs1 → W p l e R s m args below meth c H1 locs1 cells slots Q (F0 m (pc + 1) ls rest)) : W p l e R s m args below meth c H locs cells slots Q (F0 m pc ls (.double x :: .int 0 :: .ref o :: rest)) := by
  have hB1 := gPerm (w2 := [(o, .inl (cD, 1, .inr (.inr (.inr (.inl f)))))]) (X2 := w) List.perm_append_comm hB
  exact va_dast S.1 S.2.1 hK hB1.1 hB1.2.1 hB1.2.2 0 i0 rfl ht (i := 0) (by unfold vp_in; decide) hdg (fun H1 locs1 a1 a2 a3 => kk H1 locs1 (gPerm (w := [(o, .inl (cD, 1, .inr (.inr (.inr (.inl (vf_upd f 0 x))))))]) (X := w) (by rw [List.append_nil]; exact List.perm_append_comm) ⟨a1, a2, a3⟩))
end LX
theorem vx_retF {p : Program} {l : Launch} {e : Env} {R : Room} {s : State} {m : MethodId} {args : Array Value} {below : List Frame} {meth : Method} {c : Code} {H : Heap} {locs : List Loc} {cells slots mc ms : Nat} {Qc : Array Value → State → Outcome → State → Prop} {XC : String → State → State → Prop} {free : Addr → Prop} {g : JFrame} (h1 : cells ≤ mc) (h2 : slots ≤ ms) (k : W p l e R s m args below meth c H locs mc ms (MQ below Qc args s mc ms free) g) : W p l e R s m args below meth c H locs cells slots (vx_MQ below Qc XC args s mc ms free) g := W.widen (k := mc) (n := ms) h1 h2 (vx_ret k)
