-- methods that make cells: what stands afterwards is one of many worlds
def gQN (D : va_G) (cl : List vw_C) (w : va_W) (P : Option Value → va_W → Prop) (sz : Nat) : Array Value → State → Outcome → State → Prop := fun _ st oc t => (∃ (v : Option Value) (w' : va_W), oc = .returned v ∧ P v w' ∧ va_P D cl w' t.heap ∧ va_D (va_A w sz) w') ∧ va_F (va_A w sz) st t
def gMetN (l : Launch) (y : MethodName) (ws : List Cond) (rm : Room) (mc ms : Nat) (D : va_G) (cl : List vw_C) (tys : List (ClassId × FieldType)) (KS : (Nat → Prop) → State → Prop) (As : List Value) (w : va_W) (P : Option Value → va_W → Prop) : Prop :=
  ∀ sz : Nat, Met l y ws rm (gPre D cl tys KS As w sz) (gQN D cl w P sz) mc ms (va_A w sz)
theorem gMetN.weak {l : Launch} {y : MethodName} {ws : List Cond} {rm : Room} {mc ms : Nat} {D : va_G} {cl : List vw_C} {tys : List (ClassId × FieldType)} {K1 K2 : (Nat → Prop) → State → Prop} {As : List Value} {w : va_W} {P : Option Value → va_W → Prop} (h : gMetN l y ws rm mc ms D cl tys K2 As w P) (hk : ∀ A U, K1 A U → K2 A U) : gMetN l y ws rm mc ms D cl tys K1 As w P := fun sz p e ha hc hkk s m args below hf happ q hK => h sz p e ha hc hkk s m args below hf happ ⟨q.1, q.2.1, q.2.2.1, q.2.2.2.1, q.2.2.2.2.1, hk _ _ q.2.2.2.2.2⟩ hK
theorem gMetN.of {l : Launch} {y : MethodName} {ws ws' : List Cond} {rm : Room} {mc ms : Nat} {D : va_G} {cl : List vw_C} {tys : List (ClassId × FieldType)} {KS : (Nat → Prop) → State → Prop} {As : List Value} {w : va_W} {P : Option Value → va_W → Prop} {cc : ByteArray} {maxL : Nat} {ret : Option FieldType} (hy : plainName y.cls = true) (hw : ws = Cond.code y cc maxL ret :: ws') (hn : (lg_sl As).length ≤ maxL)
    (body : ∀ (p : Program) (e : Env) (s : State) (m : MethodId) (args : Array Value) (below : List Frame) (meth : Method) (c : Code), CallFix p m c cc maxL s args ws y.cls → meth.sig.returnType = ret → meth.locks = false → meth.name = y.name → va_K D cl tys s → KS (va_A w s.heap.size) s → (∀ q : Nat, s.heap.size ≤ q → va_A w s.heap.size q) → gB D cl (va_A w s.heap.size) s.heap w [] s.heap [] → ∀ ls : Array Slot, lv_has ls maxL (lv_args 0 As) → W p l e rm s m args below meth c s.heap [] 0 0 (MQ below (gQN D cl w P s.heap.size) args s mc ms (va_A w s.heap.size)) (F0 m 0 ls [])) : gMetN l y ws rm mc ms D cl tys KS As w P := by
  intro sz
  refine Met.ofW (cc := cc) (maxL := maxL) (ret := ret) hy hw ?_
  intro p e s m args below meth c s₁ B hml hv
  obtain ⟨rfl, hsz, hP, hK, hD0, hKS⟩ := hv
  subst hsz
  have hown : s.vm.findClass y.cls = some m.cls := findClass_of_methodNamed B.named
  have hl := lv_entry As (n := maxL) hn
  rw [lg_entry_eq]
  exact body p e s m As.toArray below meth c ⟨B.exec, B.bytes, hml, hown, atoms_spec (ws := ws) B.pre⟩ B.returns B.notSynchronized (name_of_methodNamed B.named B.method).1 hK hKS (fun q h => Or.inr h) ⟨by rw [List.append_nil]; exact hP, by rw [List.append_nil]; exact hD0.self, va_S.rf⟩ _ hl
/-- the classes of rows have their names alone -/
theorem gSame {D : va_G} {cl : List vw_C} {tys : List (ClassId × FieldType)} {s : State} {ty : FieldType} {cA cI : ClassId} {i : Nat} (hK : va_K D cl tys s) (hi : tys[i]? = some (cI, ty)) (hK2 : va_K D cl (tys ++ [(cA, ty)]) s) : cA = cI := by
  have h1 := (hK.2 i _ hi).2
  have h2 := (hK2.2 tys.length (cA, ty) (by rw [List.getElem?_append_right (Nat.le_refl _), Nat.sub_self]; rfl)).2
  cases ty with
  | object C =>
    obtain ⟨_, _, _, _, _, e1⟩ := h1
    obtain ⟨_, _, _, _, _, e2⟩ := h2
    exact Option.some.inj (Eq.trans (Eq.symm e2) e1)
  | _ => exact Option.some.inj (Eq.trans (Eq.symm h2) h1)
section MAKE
variable {p : Program} {l : Launch} {e : Env} {R : Room} {s : State} {m : MethodId} {args : Array Value} {below : List Frame} {meth : Method} {c : Code} {H : Heap} {locs : List Loc} {cells slots : Nat} {Q : State → Prop}
variable {k0 : Cond} {cc : ByteArray} {pc nL : Nat} {ls : Array Slot} {rest : List Value} {D : va_G} {cl : List vw_C} {A : Nat → Prop} {H0 : Heap} {w w' X X2 : va_W} {tys : List (ClassId × FieldType)} {Ts : List Cond} {own : String} {KS : (Nat → Prop) → State → Prop}
theorem gEq (h : gB D cl A H0 w X H locs) (e : w ++ X = w' ++ X2) : gB D cl A H0 w' X2 H locs := ⟨by rw [← e]; exact h.1, by rw [← e]; exact h.2.1, h.2.2⟩
theorem gBackN {st0 w0 : List Value} {mc ms : Nat} {As : List Value} {P : Option Value → va_W → Prop} (hr : va_Run p l e R s m args below meth c H locs cells slots mc ms (F0 m pc ls st0) w0 (gQN D cl w P H.size As.toArray) (va_A w H.size))
    (hB : gB D cl A s.heap w X H locs) (hAw : ∀ q, va_A w H.size q → A q)
    (kk : ∀ (v : Option Value) (w' : va_W) (H1 : Heap) (locs1 : List Loc), P v w' → gB D cl A s.heap w' X H1 locs1 → W p l e R s m args below meth c H1 locs1 (cells + mc) (slots + ms) Q (F0 m (pc + 3) ls (v.toList ++ w0))) : W p l e R s m args below meth c H locs cells slots Q (F0 m pc ls st0) := by
  intro T hT X1
  obtain ⟨v0, st₀, t, T', L, h0, X', hL, e1, e2, ⟨⟨v, w', hv, hPw, hP1, hD1⟩, hz, hk⟩, st⟩ := hr T hT X1
  cases hv
  rw [h0] at hz hk
  have hkk : ∀ q : Nat, q < H.size → ¬ va_A w H.size q → T'.heap[q]? = H[q]? := fun q h1 h2 => by rw [e1]; exact hk q h1 h2
  obtain ⟨hP2, hD2⟩ := gJoin hB hAw hkk (by rw [e1]; exact hP1) hD1
  have hS := hB.2.2
  obtain ⟨t2, a1, b1⟩ := kk v0 w' T'.heap (locs ++ L) hPw ⟨hP2, hD2, Nat.le_trans hS.1 (by rw [e1]; exact hz), fun q h1 h2 => by
      rw [hkk q (Nat.lt_of_lt_of_le h1 hS.1) (fun z => h2 (hAw q z))]
      exact hS.2.1 q h1 h2, fun q hq => by
      rcases List.mem_append.mp hq with h | h
      · exact hS.2.2 q h
      · exact hAw _ (hL q h)⟩ T' rfl X'
  exact ⟨t2, st t2 a1, b1⟩
theorem gCallN {y : MethodName} {bytes : ByteArray} {maxL mc ms n index : Nat} {ws : List Cond} {rm : Room} {As : List Value} {b : Nat} {P : Option Value → va_W → Prop} (S : CallFix p m c cc nL s args Ts own) (hK : va_K D cl tys s) (hc : gC KS) (hKS : KS A s) (hA : ∀ q, s.heap.size ≤ q → A q) (hM : gMetN l y ws rm mc ms D cl tys KS (.ref b :: As) w P) (cw : CallB R s args own index y bytes maxL none ws rm mc ms n ∧ y.name = "<init>" ∧ (Cond.instanceMethod y).before args s = true) (hB : gB D cl A s.heap w' (X ++ w) H locs)
    (hn : As.length = n) (hsize : ls.size = nL) {st : List Value} (hst : st = As.reverse ++ .ref b :: rest) (hW : 2 * (F0 m pc ls st).monitorRoom + (rest.map fun v => v.category).sum ≤ 8) (hdg : decode cc pc = .ok (.invokespecial index, 3)) (hf : cells + mc ≤ R.cells ∧ slots + ms ≤ R.slots)
    (kk : ∀ (v : Option Value) (w2 : va_W) (H1 : Heap) (locs1 : List Loc), P v w2 → gB D cl A s.heap w' (X ++ w2) H1 locs1 → W p l e R s m args below meth c H1 locs1 (cells + mc) (slots + ms) Q (F0 m (pc + 3) ls (v.toList ++ rest))) : W p l e R s m args below meth c H locs cells slots Q (F0 m pc ls st) := by
  have hB2 : gB D cl A s.heap w (w' ++ X) H locs := gPerm (by rw [← List.append_assoc]; exact List.perm_append_comm) hB
  exact gBackN (va_runI S (hM H.size) cw ⟨gBlind hc, gPreOf hc hB2 hA hK hKS⟩ rfl hn hsize hst hW hdg hf) hB2 (gAw hB2 hA) (fun v w2 H1 locs1 hP hB3 => kk v w2 H1 locs1 hP (gPerm (List.perm_append_comm.trans (by rw [List.append_assoc])) hB3))
theorem gCallNN {host : String} {y : MethodName} {bytes : ByteArray} {maxL mc ms n index : Nat} {ws : List Cond} {rm : Room} {As : List Value} {b : Nat} {P : Option Value → va_W → Prop} (S : CallFix p m c cc nL s args Ts own) (hK : va_K D cl tys s) (hc : gC KS) (hKS : KS A s) (hA : ∀ q, s.heap.size ≤ q → A q) (hM : gMetN l y ws rm mc ms D cl tys KS (.ref b :: As) w P) (cw : va_CN R s args own index y host bytes maxL none ws rm mc ms n ∧ y.name = "<init>" ∧ (Cond.instanceMethod y).before args s = true) (hB : gB D cl A s.heap w' (X ++ w) H locs)
    (hn : As.length = n) (hsize : ls.size = nL) {st : List Value} (hst : st = As.reverse ++ .ref b :: rest) (hW : 2 * (F0 m pc ls st).monitorRoom + (rest.map fun v => v.category).sum ≤ 8) (hdg : decode cc pc = .ok (.invokespecial index, 3)) (hf : cells + mc ≤ R.cells ∧ slots + ms ≤ R.slots)
    (kk : ∀ (v : Option Value) (w2 : va_W) (H1 : Heap) (locs1 : List Loc), P v w2 → gB D cl A s.heap w' (X ++ w2) H1 locs1 → W p l e R s m args below meth c H1 locs1 (cells + mc) (slots + ms) Q (F0 m (pc + 3) ls (v.toList ++ rest))) : W p l e R s m args below meth c H locs cells slots Q (F0 m pc ls st) := by
  have hB2 : gB D cl A s.heap w (w' ++ X) H locs := gPerm (by rw [← List.append_assoc]; exact List.perm_append_comm) hB
  exact gBackN (va_runIN S (hM H.size) cw ⟨gBlind hc, gPreOf hc hB2 hA hK hKS⟩ rfl hn hsize hst hW hdg hf) hB2 (gAw hB2 hA) (fun v w2 H1 locs1 hP hB3 => kk v w2 H1 locs1 hP (gPerm (List.perm_append_comm.trans (by rw [List.append_assoc])) hB3))
theorem gCallNS {y : MethodName} {bytes : ByteArray} {maxL mc ms n index : Nat} {ret : Option FieldType} {ws : List Cond} {rm : Room} {As : List Value} {P : Option Value → va_W → Prop} (S : CallFix p m c cc nL s args Ts own) (hK : va_K D cl tys s) (hc : gC KS) (hKS : KS A s) (hA : ∀ q, s.heap.size ≤ q → A q) (hM : gMetN l y ws rm mc ms D cl tys KS As [] P) (cw : CallB R s args own index y bytes maxL ret ws rm mc ms n ∧ (Cond.static y).before args s = true) (hB : gB D cl A s.heap w' X H locs)
    (hn : As.length = n) (hsize : ls.size = nL) {st : List Value} (hst : st = As.reverse ++ rest) (hW : 2 * (F0 m pc ls st).monitorRoom + (rest.map fun v => v.category).sum ≤ 8) (hdg : decode cc pc = .ok (.invokestatic index, 3)) (hf : cells + mc ≤ R.cells ∧ slots + ms ≤ R.slots)
    (kk : ∀ (v : Option Value) (w2 : va_W) (H1 : Heap) (locs1 : List Loc), P v w2 → gB D cl A s.heap w' (X ++ w2) H1 locs1 → W p l e R s m args below meth c H1 locs1 (cells + mc) (slots + ms) Q (F0 m (pc + 3) ls (v.toList ++ rest))) : W p l e R s m args below meth c H locs cells slots Q (F0 m pc ls st) := by
  have hB2 : gB D cl A s.heap [] (w' ++ X) H locs := hB
  exact gBackN (va_runS S (hM H.size) cw ⟨gBlind hc, gPreOf hc hB2 hA hK hKS⟩ rfl hn hsize hst hW hdg hf) hB2 (gAw hB2 hA) (fun v w2 H1 locs1 hP hB3 => kk v w2 H1 locs1 hP (gPerm (List.perm_append_comm.trans (by rw [List.append_assoc])) hB3))
theorem gNewO {C : String} {T : u_T} {N ci index : Nat} (S : CallFix p m c cc nL s args Ts own) (hK : va_K D cl tys s) (hB : gB D cl A H0 w X H locs) (hA : ∀ q, H0.size ≤ q → A q) (hin : ∀ w ∈ u_ws C T N, w ∈ Ts) (ty : Nat → FieldType) (hty : ∀ k, k < N → parseFieldDescriptor (T k).2.2.1 = some (ty k)) (hcl : (Cond.classLink own index C).before args s = true) (hinst : (Cond.instantiable C N).before args s = true) (hini : (Cond.initialized C).before args s = true) (hc : cl[ci]? = some (C, T, N)) {fs : List Value} (hfs : ∀ j, j < N → defaultValue (ty j) = vp_V fs j) (hcs : cells + 1 ≤ R.cells ∧ slots + N ≤ R.slots) (hdg : decode cc pc = .ok (.new index, 3))
    (kk : ∀ (q : Nat) (H1 : Heap), gB D cl A H0 w (X ++ [(q, .inr (ci, fs))]) H1 locs → W p l e R s m args below meth c H1 locs (cells + 1) (slots + N) Q (F0 m (pc + 3) ls (.ref q :: rest))) : W p l e R s m args below meth c H locs cells slots Q (F0 m pc ls rest) :=
  va_new S.1 S.2.1 S.2.2.2.2 hin ty hty S.2.2.2.1 hcl hinst hini hK hB.1 hB.2.1 hB.2.2 hA hc hfs hcs.1 hcs.2 hdg (fun q H1 h1 h2 h3 => kk q H1 ⟨by rw [← List.append_assoc]; exact h1, by rw [← List.append_assoc]; exact h2, h3⟩)
theorem gNewI {cI : ClassId} {i : Nat} (S : CallFix p m c cc nL s args Ts own) (hK : va_K D cl tys s) (hi : tys[i]? = some (cI, .int)) (hB : gB D cl A H0 w X H locs) (hA : ∀ q, H0.size ≤ q → A q) (harr : (Cond.arrayClass .int).before args s = true) {n : Int32} {N : Nat} (hn : ¬ n < 0) (hN : n.toNatClampNeg = N) (hby : N * 4 ≤ 536870912) (hcs : cells + 1 ≤ R.cells ∧ slots + N ≤ R.slots) (hdg : decode cc pc = .ok (.newarray .int, 2))
    (kk : ∀ (q : Nat) (H1 : Heap), gB D cl A H0 w (X ++ [(q, .inl (cI, N, .inl (fun _ => 0)))]) H1 locs → W p l e R s m args below meth c H1 locs (cells + 1) (slots + N) Q (F0 m (pc + 2) ls (.ref q :: rest))) : W p l e R s m args below meth c H locs cells slots Q (F0 m pc ls (.int n :: rest)) :=
  va_newa S.1 S.2.1 (atype := .int) (ty := .int) harr rfl hK hB.1 hB.2.1 hB.2.2 hA (N' := N) (a0 := (N, .inl (fun _ => 0))) (fun _ => rfl) hn hN hby hcs.1 hcs.2 hdg (fun q cA H1 h1 h2 h3 h4 => by
    cases gSame hK hi h1
    exact kk q H1 ⟨by rw [← List.append_assoc]; exact h2, by rw [← List.append_assoc]; exact h3, h4⟩)
theorem gNewL {cJ : ClassId} {i : Nat} (S : CallFix p m c cc nL s args Ts own) (hK : va_K D cl tys s) (hi : tys[i]? = some (cJ, .long)) (hB : gB D cl A H0 w X H locs) (hA : ∀ q, H0.size ≤ q → A q) (harr : (Cond.arrayClass .long).before args s = true) {n : Int32} {N : Nat} (hn : ¬ n < 0) (hN : n.toNatClampNeg = N) (hby : N * 8 ≤ 536870912) (hcs : cells + 1 ≤ R.cells ∧ slots + N ≤ R.slots) (hdg : decode cc pc = .ok (.newarray .long, 2))
    (kk : ∀ (q : Nat) (H1 : Heap), gB D cl A H0 w (X ++ [(q, .inl (cJ, N, .inr (.inl (fun _ => 0))))]) H1 locs → W p l e R s m args below meth c H1 locs (cells + 1) (slots + N) Q (F0 m (pc + 2) ls (.ref q :: rest))) : W p l e R s m args below meth c H locs cells slots Q (F0 m pc ls (.int n :: rest)) :=
  va_newa S.1 S.2.1 (atype := .long) (ty := .long) harr rfl hK hB.1 hB.2.1 hB.2.2 hA (N' := N) (a0 := (N, .inr (.inl (fun _ => 0)))) (fun _ => rfl) hn hN hby hcs.1 hcs.2 hdg (fun q cA H1 h1 h2 h3 h4 => by
    cases gSame hK hi h1
    exact kk q H1 ⟨by rw [← List.append_assoc]; exact h2, by rw [← List.append_assoc]; exact h3, h4⟩)
theorem gPutF {C : String} {T : u_T} {N ci index : Nat} (S : CallFix p m c cc nL s args Ts own) (hnm : meth.name = "<init>") (hK : va_K D cl tys s) (hB : gB D cl A H0 w X H locs) (hin : ∀ w ∈ u_ws C T N, w ∈ Ts) (ty0 : Nat → FieldType) (hty : ∀ k, k < N → parseFieldDescriptor (T k).2.2.1 = some (ty0 k)) (hnn : ∀ a, a < N → ∀ b, b < N → a ≠ b → (T a).2.1 ≠ (T b).2.1) (q0 : Nat) {a : Nat} {fs : List Value} (he : w[q0]? = some (a, .inr (ci, fs))) (hc : cl[ci]? = some (C, T, N)) (k : Nat) (hk : k < N) (hlink : (Cond.fieldLink own index (T k).1 (T k).2.1 (T k).2.2.1).before args s = true) (hfin : (T k).2.2.2 = true) (hdecl : (T k).1 = own) {v : Value} (hn : narrow (ty0 k) v = v) (hfit : fits (ty0 k) v = true) (hl : k < fs.length) (hw : w.set q0 (a, .inr (ci, fs.set k v)) = w') (hdg : decode cc pc = .ok (.putfield index, 3))
    (kk : ∀ (H1 : Heap) (locs1 : List Loc), gB D cl A H0 w' X H1 locs1 → W p l e R s m args below meth c H1 locs1 cells slots Q (F0 m (pc + 3) ls rest)) : W p l e R s m args below meth c H locs cells slots Q (F0 m pc ls (v :: .ref a :: rest)) :=
  va_putF S.1 S.2.1 S.2.2.2.2 hin ty0 hty hnn S.2.2.2.1 hK hB.1 hB.2.1 hB.2.2 q0 (gApp he) hc k hk hlink (fun _ h => h) hfin hnm hdecl (hty k hk) hn hfit hl hdg (fun H1 locs1 a1 a2 a3 => kk H1 locs1 ⟨by rw [← hw, ← gSet he]; exact a1, by rw [← hw, ← gSet he]; exact a2, a3⟩)
theorem gEndN {P : Option Value → va_W → Prop} {v : Option Value} {w0 : va_W} (hB : gB D cl (va_A w0 s.heap.size) s.heap w X H locs) (hP : P v (w ++ X)) : ∀ t : State, t.heap = H → s.WarmedH t.vm → gQN D cl w0 P s.heap.size args s (.returned v) t := fun t ht _ =>
  ⟨⟨v, _, rfl, hP, by rw [ht]; exact hB.1, hB.2.1⟩, hB.2.2.F ht⟩
theorem gRetN {P : Option Value → va_W → Prop} {w0 : va_W} {mc ms : Nat} (hx : p.tables.exec = Jvm.exec) (hb : c.code = cc) (hr : meth.sig.returnType = none) (hlocks : meth.locks = false) (hB : gB D cl (va_A w0 s.heap.size) s.heap w X H locs) (hP : P none (w ++ X)) (hc : cells ≤ mc) (hs : slots ≤ ms) (hdg : decode cc pc = .ok (.return_, 1)) : W p l e R s m args below meth c H locs cells slots (MQ below (gQN D cl w0 P s.heap.size) args s mc ms (va_A w0 s.heap.size)) (F0 m pc ls []) :=
  W.widen (k := mc) (n := ms) hc hs (W.vret hx hb hr (gEndN hB hP) hB.2.2.2.2 hdg hlocks)
theorem gObj (S : CallFix p m c cc nL s args (k0 :: wsL_law) own) {index a : Nat} (hlink : (Cond.methodLink own index objectInit).before args s = true) (hsize : ls.size = nL) (hf : 1 ≤ R.frames) (hlo : 0 + (rest.map fun v => v.category).sum + 12 ≤ R.locals) (hdg : decode cc pc = .ok (.invokespecial index, 3)) (kk : W p l e R s m args below meth c H locs cells slots Q (F0 m (pc + 3) ls rest)) : W p l e R s m args below meth c H locs cells slots Q (F0 m pc ls (.ref a :: rest)) :=
  W.objInit S.1 S.2.1 S.2.2.2.1 hlink (S.2.2.2.2 _ (List.mem_cons_of_mem _ wo_inst_objectInit)) (S.2.2.2.2 _ (List.mem_cons_of_mem _ wo_code_objectInit)) rfl (by rw [S.2.2.1]; exact hsize) rfl hdg hf hlo kk
end MAKE
theorem gWI {y : MethodName} {cc : ByteArray} {n : Nat} {ret : Option FieldType} {k : Cond} (h5 : Cond.code y cc n ret ∈ wsL_law) : GoodIn (k :: wsL_law) (Cond.code y cc n ret :: wsL_law) := by
  intro w hw
  have hm : w ∈ wsL_law := by
    rcases List.mem_cons.mp hw with rfl | hw <;> assumption
  exact ⟨List.mem_cons_of_mem _ hm, gW_good w hm⟩
/-- and that rows of rows can be made -/
def nKS (adK adV tK : Nat → Nat) (A : Nat → Prop) (U : State) : Prop := xKS adK adV tK A U ∧ va_AOA .long U
theorem nKSc {adK adV tK : Nat → Nat} : gC (nKS adK adV tK) := fun A A' U U' h hW hk hA hA2 => ⟨xKSc A A' U U' h.1 hW hk hA hA2, over_moved hW.alike h.2⟩
theorem gMax0 {p0 : Int32} (h : ¬ p0 < 0) : (if (0 : Int32) < p0 then p0 else 0) = p0 := by
  by_cases c : (0 : Int32) < p0
  · rw [if_pos c]
  · rw [if_neg c]; exact Int32.le_antisymm (Int32.not_lt.mp h) (Int32.not_lt.mp c)
