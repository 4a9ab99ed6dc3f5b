-- A world w beside cells X that nobody looks at; contracts that say just what comes out
def gB (D : va_G) (cl : List vw_C) (A : Nat → Prop) (H0 : Heap) (w X : va_W) (H : Heap) (locs : List Loc) : Prop := va_P D cl (w ++ X) H ∧ va_D A (w ++ X) ∧ va_S A H0 H locs
/-- what is carried along: it holds of a set of cells that a method may change, and of a state -/
def gC (KS : (Nat → Prop) → State → Prop) : Prop := ∀ (A A' : Nat → Prop) (U U' : State), KS A U → U.WarmedH U'.vm → (∀ a : Nat, a < U.heap.size → ¬ A a → U'.heap[a]? = U.heap[a]?) → (∀ q, A' q → A q) → (∀ q, A' q → q < U.heap.size → A q) → KS A' U'
def gQ (D : va_G) (cl : List vw_C) (w w' : va_W) (v : Option Value) (sz : Nat) : Array Value → State → Outcome → State → Prop := fun _ st oc t => (oc = .returned v ∧ va_P D cl w' t.heap ∧ va_D (va_A w sz) w') ∧ va_F (va_A w sz) st t
def gPre (D : va_G) (cl : List vw_C) (tys : List (ClassId × FieldType)) (KS : (Nat → Prop) → State → Prop) (As : List Value) (w : va_W) (sz : Nat) : Array Value → State → Prop := va_Pc As (fun U => U.heap.size = sz ∧ va_P D cl w U.heap ∧ va_K D cl tys U ∧ va_D (fun _ => True) w ∧ KS (va_A w sz) U)
def gMet (l : Launch) (y : MethodName) (ws : List Cond) (rm : Room) (mc ms : Nat) (D : va_G) (cl : List vw_C) (tys : List (ClassId × FieldType)) (KS : (Nat → Prop) → State → Prop) (As : List Value) (w w' : va_W) (v : Option Value) : Prop :=
  ∀ sz : Nat, Met l y ws rm (gPre D cl tys KS As w sz) (gQ D cl w w' v sz) mc ms (va_A w sz)
theorem gd {α : Type} {c : Prop} [Decidable c] {x : Option α} {y : α} (h : (if c then none else x) = some y) : ¬ c ∧ x = some y := by
  by_cases hc : c
  · rw [if_pos hc] at h; cases h
  · rw [if_neg hc] at h; exact ⟨hc, h⟩
theorem bnd {α β : Type} {x : Option α} {f : α → Option β} {y : β} (h : x.bind f = some y) : ∃ a, x = some a ∧ f a = some y := by
  cases x with
  | none => cases h
  | some a => exact ⟨a, rfl, h⟩
theorem gApp {w X : va_W} {q0 : Nat} {x : Nat × va_E} (h : w[q0]? = some x) : (w ++ X)[q0]? = some x := by
  rw [List.getElem?_append_left (List.getElem?_eq_some_iff.mp h).1]
  exact h
theorem gSet {w X : va_W} {q0 : Nat} {x y : Nat × va_E} (h : w[q0]? = some x) : (w ++ X).set q0 y = w.set q0 y ++ X := by
  rw [List.set_append_left _ _ (List.getElem?_eq_some_iff.mp h).1]
theorem gJoin {D : va_G} {cl : List vw_C} {A : Nat → Prop} {H0 H H1 : Heap} {w w' X : va_W} {locs : List Loc} (hB : gB D cl A H0 w X H locs) (hAw : ∀ q, va_A w H.size q → A q) (hk : ∀ q : Nat, q < H.size → ¬ va_A w H.size q → H1[q]? = H[q]?) (hP1 : va_P D cl w' H1) (hD1 : va_D (va_A w H.size) w') : va_P D cl (w' ++ X) H1 ∧ va_D A (w' ++ X) := by
  have hx : ∀ (k : Nat) (q : Nat × va_E), X[k]? = some q → (w ++ X)[w.length + k]? = some q := fun k q h => by
    rw [List.getElem?_append_right (by omega), Nat.add_sub_cancel_left]
    exact h
  have apart : ∀ (k : Nat) (q : Nat × va_E), X[k]? = some q → q.1 < H.size ∧ ¬ va_A w H.size q.1 := by
    intro k q h
    have h1 := hx k q h
    have hl := (hB.1 _ q h1).lt
    refine ⟨hl, fun z => ?_⟩
    rcases z with ⟨k2, e, z⟩ | z
    · have hz := hB.2.1.1 _ _ _ _ (gApp (X := X) z) h1 rfl
      have := (List.getElem?_eq_some_iff.mp z).1
      omega
    · omega
  have hDX : va_D A X := ⟨fun i j x y hi hj hxy => by
      have := hB.2.1.1 _ _ _ _ (hx i x hi) (hx j y hj) hxy
      omega, fun k q h => hB.2.1.2 _ q (hx k q h)⟩
  refine ⟨va_P.app hP1 (fun k q h => ?_), va_D.app (hD1.weaken (fun k q _ h => hAw q.1 h)) hDX (fun i j x y hi hj hxy => ?_)⟩
  · obtain ⟨g1, g2⟩ := apart k q h
    exact (hB.1 _ q (hx k q h)).kept (hk q.1 g1 g2)
  · exact (apart j y hj).2 (by rw [← hxy]; exact hD1.2 i x hi)
section GEN
variable {p : Program} {l : Launch} {e : Env} {R : Room} {s : State} {m : MethodId} {args : Array Value} {below : List Frame} {meth : Method} {c : Code} {H : Heap} {locs : List Loc} {cells slots : Nat} {Q : State → Prop}
variable {cc : ByteArray} {pc nL : Nat} {ls : Array Slot} {rest : List Value} {D : va_G} {cl : List vw_C} {A : Nat → Prop} {H0 : Heap} {w w' X : va_W} {tys : List (ClassId × FieldType)} {Ts : List Cond} {own : String} {KS : (Nat → Prop) → State → Prop}
theorem gGet (S : CallFix p m c cc nL s args Ts own) (hK : va_K D cl tys s) (hB : gB D cl A H0 w X H locs) {C : String} {T : u_T} {N ci index : Nat} (hin : ∀ w ∈ u_ws C T N, w ∈ Ts) (q0 : Nat) {a : Nat} {fs : List Value} (he : w[q0]? = some (a, .inr (ci, fs))) (hc : cl[ci]? = some (C, T, N)) (k : Nat) (hk : k < N) (hlink : (Cond.fieldLink own index (T k).1 (T k).2.1 (T k).2.2.1).before args s = true) {v : Value} (hv : fs[k]? = some v) (hdg : decode cc pc = .ok (.getfield index, 3))
    (kk : W p l e R s m args below meth c H locs cells slots Q (F0 m (pc + 3) ls (v :: rest))) : W p l e R s m args below meth c H locs cells slots Q (F0 m pc ls (.ref a :: rest)) :=
  va_get S.1 S.2.1 S.2.2.2.2 hin S.2.2.2.1 hK hB.1 q0 (gApp he) hc k hk hlink (fun _ h => h) hv hdg kk
theorem gPut (S : CallFix p m c cc nL s args Ts own) (hK : va_K D cl tys s) (hB : gB D cl A H0 w X H locs) {C : String} {T : u_T} {N ci index : Nat} (hin : ∀ w ∈ u_ws C T N, w ∈ Ts) (ty0 : Nat → FieldType) (hty : ∀ k, k < N → parseFieldDescriptor (T k).2.2.1 = some (ty0 k)) (hnm : ∀ a, a < N → ∀ b, b < N → a ≠ b → (T a).2.1 ≠ (T b).2.1) (q0 : Nat) {a : Nat} {fs : List Value} (he : w[q0]? = some (a, .inr (ci, fs))) (hc : cl[ci]? = some (C, T, N)) (k : Nat) (hk : k < N) (hlink : (Cond.fieldLink own index (T k).1 (T k).2.1 (T k).2.2.1).before args s = true) (hfin : (T k).2.2.2 = false) {v : Value} (hn : narrow (ty0 k) v = v) (hfit : fits (ty0 k) v = true) (hl : k < fs.length) (hw : w.set q0 (a, .inr (ci, fs.set k v)) = w') (hdg : decode cc pc = .ok (.putfield index, 3))
    (kk : ∀ (H1 : Heap) (locs1 : List Loc), gB D cl A H0 w' X H1 locs1 → W p l e R s m args below meth c H1 locs1 cells slots Q (F0 m (pc + 3) ls rest)) : W p l e R s m args below meth c H locs cells slots Q (F0 m pc ls (v :: .ref a :: rest)) :=
  va_put S.1 S.2.1 S.2.2.2.2 hin ty0 hty hnm S.2.2.2.1 hK hB.1 hB.2.1 hB.2.2 q0 (gApp he) hc k hk hlink (fun _ h => h) hfin (hty k hk) hn hfit hl hdg (fun H1 locs1 a1 a2 a3 => kk H1 locs1 ⟨by rw [← hw, ← gSet he]; exact a1, by rw [← hw, ← gSet he]; exact a2, a3⟩)
theorem gIald (S : CallFix p m c cc nL s args Ts own) (hK : va_K D cl tys s) (hB : gB D cl A H0 w X H locs) (q0 t0 : Nat) {a : Nat} {cA : ClassId} {n : Nat} {f : Nat → Int32} (ha : w[q0]? = some (a, .inl (cA, n, .inl f))) (ht : tys[t0]? = some (cA, .int)) {i : Int32} (hin : vp_in i n) (hdg : decode cc pc = .ok (.iaload, 1))
    (kk : W p l e R s m args below meth c H locs cells slots Q (F0 m (pc + 1) ls (.int (f i.toNatClampNeg) :: rest))) : W p l e R s m args below meth c H locs cells slots Q (F0 m pc ls (.int i :: .ref a :: rest)) :=
  va_iald S.1 S.2.1 hK hB.1 q0 t0 (gApp ha) ht hin hdg kk
theorem gLald (S : CallFix p m c cc nL s args Ts own) (hK : va_K D cl tys s) (hB : gB D cl A H0 w X H locs) (q0 t0 : Nat) {a : Nat} {cA : ClassId} {n : Nat} {f : Nat → Int64} (ha : w[q0]? = some (a, .inl (cA, n, .inr (.inl f)))) (ht : tys[t0]? = some (cA, .long)) {i : Int32} (hin : vp_in i n) (hdg : decode cc pc = .ok (.laload, 1))
    (kk : W p l e R s m args below meth c H locs cells slots Q (F0 m (pc + 1) ls (.long (f i.toNatClampNeg) :: rest))) : W p l e R s m args below meth c H locs cells slots Q (F0 m pc ls (.int i :: .ref a :: rest)) :=
  va_lald S.1 S.2.1 hK hB.1 q0 t0 (gApp ha) ht hin hdg kk
theorem gIast (S : CallFix p m c cc nL s args Ts own) (hK : va_K D cl tys s) (hB : gB D cl A H0 w X H locs) (q0 t0 : Nat) {a : Nat} {cA : ClassId} {n : Nat} {f : Nat → Int32} (ha : w[q0]? = some (a, .inl (cA, n, .inl f))) (ht : tys[t0]? = some (cA, .int)) {i x : Int32} (hin : vp_in i n) (hw : w.set q0 (a, .inl (cA, n, .inl (upd f i.toNatClampNeg x))) = w') (hdg : decode cc pc = .ok (.iastore, 1))
    (kk : ∀ (H1 : Heap) (locs1 : List Loc), gB D cl A H0 w' X H1 locs1 → W p l e R s m args below meth c H1 locs1 cells slots Q (F0 m (pc + 1) ls rest)) : W p l e R s m args below meth c H locs cells slots Q (F0 m pc ls (.int x :: .int i :: .ref a :: rest)) :=
  va_iast S.1 S.2.1 hK hB.1 hB.2.1 hB.2.2 q0 t0 (gApp ha) ht hin hdg (fun H1 locs1 a1 a2 a3 => kk H1 locs1 ⟨by rw [← hw, ← gSet ha]; exact a1, by rw [← hw, ← gSet ha]; exact a2, a3⟩)
theorem gLast (S : CallFix p m c cc nL s args Ts own) (hK : va_K D cl tys s) (hB : gB D cl A H0 w X H locs) (q0 t0 : Nat) {a : Nat} {cA : ClassId} {n : Nat} {f : Nat → Int64} (ha : w[q0]? = some (a, .inl (cA, n, .inr (.inl f)))) (ht : tys[t0]? = some (cA, .long)) {i : Int32} {x : Int64} (hin : vp_in i n) (hw : w.set q0 (a, .inl (cA, n, .inr (.inl (vp_updL f i.toNatClampNeg x)))) = w') (hdg : decode cc pc = .ok (.lastore, 1))
    (kk : ∀ (H1 : Heap) (locs1 : List Loc), gB D cl A H0 w' X H1 locs1 → W p l e R s m args below meth c H1 locs1 cells slots Q (F0 m (pc + 1) ls rest)) : W p l e R s m args below meth c H locs cells slots Q (F0 m pc ls (.long x :: .int i :: .ref a :: rest)) :=
  va_last S.1 S.2.1 hK hB.1 hB.2.1 hB.2.2 q0 t0 (gApp ha) ht hin hdg (fun H1 locs1 a1 a2 a3 => kk H1 locs1 ⟨by rw [← hw, ← gSet ha]; exact a1, by rw [← hw, ← gSet ha]; exact a2, a3⟩)
theorem gAlen (S : CallFix p m c cc nL s args Ts own) (hK : va_K D cl tys s) (hB : gB D cl A H0 w X H locs) (q0 t0 : Nat) {a : Nat} {cA : ClassId} {n : Nat} {z} {ty : FieldType} (ha : w[q0]? = some (a, .inl (cA, n, z))) (ht : tys[t0]? = some (cA, ty)) (hdg : decode cc pc = .ok (.arraylength, 1))
    (kk : W p l e R s m args below meth c H locs cells slots Q (F0 m (pc + 1) ls (.int (Int32.ofNat n) :: rest))) : W p l e R s m args below meth c H locs cells slots Q (F0 m pc ls (.ref a :: rest)) :=
  va_alen S.1 S.2.1 hK hB.1 q0 t0 (gApp ha) ht rfl hdg kk
/-- what a call leaves behind -/
theorem gBack {y : MethodName} {mc ms : Nat} {As : List Value} {v : Option Value} {g : JFrame} {cont : Option Value → JFrame} (hr : ∀ T : State, T.heap = H → Stand p l e R s m args below meth c T locs cells slots → ∃ (v0 : Option Value) (st₀ t T' : State) (L : List Loc), st₀.heap = H ∧ Stand p l e R s m args below meth c T' (locs ++ L) (cells + mc) (slots + ms) ∧ (∀ q ∈ L, va_A w H.size q.base) ∧ T'.heap = t.heap ∧ T'.vm = t.vm ∧ gQ D cl w w' v H.size As.toArray st₀ (.returned v0) t ∧ Goes p e below T g T' (cont v0))
    (hB : gB D cl A s.heap w X H locs) (hAw : ∀ q, va_A w H.size q → A q)
    (kk : ∀ (H1 : Heap) (locs1 : List Loc), gB D cl A s.heap w' X H1 locs1 → W p l e R s m args below meth c H1 locs1 (cells + mc) (slots + ms) Q (cont v)) : W p l e R s m args below meth c H locs cells slots Q g := by
  intro T hT X1
  obtain ⟨v0, st₀, t, T', L, h0, X', hL, e1, e2, ⟨⟨hv, hP1, hD1⟩, hz, hk⟩, st⟩ := hr T hT X1
  cases hv
  rw [h0] at hz hk
  have hkk : ∀ q : Nat, q < H.size → ¬ va_A w H.size q → T'.heap[q]? = H[q]? := fun q h1 h2 => by rw [e1]; exact hk q h1 h2
  obtain ⟨hP2, hD2⟩ := gJoin hB hAw hkk (by rw [e1]; exact hP1) hD1
  have hS := hB.2.2
  obtain ⟨t2, a1, b1⟩ := kk T'.heap (locs ++ L) ⟨hP2, hD2, Nat.le_trans hS.1 (by rw [e1]; exact hz), fun q h1 h2 => by
      rw [hkk q (Nat.lt_of_lt_of_le h1 hS.1) (fun z => h2 (hAw q z))]
      exact hS.2.1 q h1 h2, fun q hq => by
      rcases List.mem_append.mp hq with h | h
      · exact hS.2.2 q h
      · exact hAw _ (hL q h)⟩ T' rfl X'
  exact ⟨t2, st t2 a1, b1⟩
theorem gAw (hB : gB D cl A H0 w X H locs) (hA : ∀ q, H0.size ≤ q → A q) : ∀ q, va_A w H.size q → A q := by
  intro q h
  rcases h with ⟨k, e, h⟩ | h
  · exact hB.2.1.2 k (q, e) (gApp h)
  · exact hA q (Nat.le_trans hB.2.2.1 h)
theorem gBlind (hc : gC KS) {As : List Value} {sz : Nat} : FrameBlind (gPre D cl tys KS As w sz) := fun a U g mk q => by
  obtain ⟨q0, q1, qP, qK, qD, qS⟩ := q
  exact ⟨q0, q1, qP, va_K.moved (u := U) (U := U.calling g mk a) (Vm.Alike.refl U.vm) qK, qD, hc _ _ U (U.calling g mk a) qS (State.WarmedH.refl U) (fun _ _ _ => rfl) (fun _ h => h) (fun _ h _ => h)⟩
theorem gPreOf (hc : gC KS) (hB : gB D cl A s.heap w X H locs) (hA : ∀ q, s.heap.size ≤ q → A q) (hK : va_K D cl tys s) (hKS : KS A s) {As : List Value} : ∀ U : State, U.heap = H → s.WarmedH U.vm → gPre D cl tys KS As w H.size As.toArray U := fun U hU hW => by
  have hP : va_P D cl w H := fun k q h => hB.1 k q (gApp h)
  have hD : va_D A w := ⟨fun i j x y hi hj hxy => hB.2.1.1 i j x y (gApp hi) (gApp hj) hxy, fun k q h => hB.2.1.2 k q (gApp h)⟩
  exact ⟨rfl, by rw [hU], by rw [hU]; exact hP, va_K.moved hW.alike hK, hD.weaken (fun _ _ _ _ => trivial), hc A _ s U hKS hW (fun a h1 h2 => by rw [hU]; exact hB.2.2.2.1 a h1 h2) (gAw hB hA) (fun q h _ => gAw hB hA q h)⟩
theorem gCallV {C : String} {T : u_T} {N ci : Nat} {y : MethodName} {bytes : ByteArray} {maxL mc ms n index : Nat} {ret : Option FieldType} {ws : List Cond} {rm : Room} {As : List Value} {b : Nat} {v : Option Value} {fs : List Value} (S : CallFix p m c cc nL s args Ts own) (hK : va_K D cl tys s) (hc : gC KS) (hKS : KS A s) (hA : ∀ q, s.heap.size ≤ q → A q) (hM : gMet l y ws rm mc ms D cl tys KS (.ref b :: As) w w' v) (cw : CallW R s args own C index y bytes maxL ret ws rm mc ms n) (hB : gB D cl A s.heap w X H locs)
    (q0 : Nat) (he : w[q0]? = some (b, .inr (ci, fs))) (hcl : cl[ci]? = some (C, T, N)) (hn : As.length = n) (hsize : ls.size = nL) {st : List Value} (hst : st = As.reverse ++ .ref b :: rest) (hW : 2 * (F0 m pc ls st).monitorRoom + (rest.map fun v => v.category).sum ≤ 8) (hdg : decode cc pc = .ok (.invokevirtual index, 3)) (hf : cells + mc ≤ R.cells ∧ slots + ms ≤ R.slots)
    (kk : ∀ (H1 : Heap) (locs1 : List Loc), gB D cl A s.heap w' X H1 locs1 → W p l e R s m args below meth c H1 locs1 (cells + mc) (slots + ms) Q (F0 m (pc + 3) ls (v.toList ++ rest))) : W p l e R s m args below meth c H locs cells slots Q (F0 m pc ls st) :=
  gBack (y := y) (cont := fun v => F0 m (pc + 3) ls (v.toList ++ rest)) (va_runV S (hM H.size) cw ⟨gBlind hc, va_recv (q := (C, T, N)) hK hB.1 hcl (gApp he), gPreOf hc hB hA hK hKS⟩ rfl hn hsize hst hW hdg hf) hB (gAw hB hA) kk
theorem gCallS {y : MethodName} {bytes : ByteArray} {maxL mc ms n index : Nat} {ret : Option FieldType} {ws : List Cond} {rm : Room} {As : List Value} {v : Option Value} (S : CallFix p m c cc nL s args Ts own) (hK : va_K D cl tys s) (hc : gC KS) (hKS : KS A s) (hA : ∀ q, s.heap.size ≤ q → A q) (hM : gMet l y ws rm mc ms D cl tys KS As w w' v) (cw : CallB R s args own index y bytes maxL ret ws rm mc ms n ∧ (Cond.static y).before args s = true) (hB : gB D cl A s.heap w X H locs)
    (hn : As.length = n) (hsize : ls.size = nL) {st : List Value} (hst : st = As.reverse ++ rest) (hW : 2 * (F0 m pc ls st).monitorRoom + (rest.map fun v => v.category).sum ≤ 8) (hdg : decode cc pc = .ok (.invokestatic index, 3)) (hf : cells + mc ≤ R.cells ∧ slots + ms ≤ R.slots)
    (kk : ∀ (H1 : Heap) (locs1 : List Loc), gB D cl A s.heap w' X H1 locs1 → W p l e R s m args below meth c H1 locs1 (cells + mc) (slots + ms) Q (F0 m (pc + 3) ls (v.toList ++ rest))) : W p l e R s m args below meth c H locs cells slots Q (F0 m pc ls st) :=
  gBack (y := y) (cont := fun v => F0 m (pc + 3) ls (v.toList ++ rest)) (va_runS S (hM H.size) cw ⟨gBlind hc, gPreOf hc hB hA hK hKS⟩ rfl hn hsize hst hW hdg hf) hB (gAw hB hA) kk
theorem gEnd {v : Option Value} (hB : gB D cl (va_A w s.heap.size) s.heap w' [] H locs) : ∀ t : State, t.heap = H → s.WarmedH t.vm → gQ D cl w w' v s.heap.size args s (.returned v) t := fun t ht _ =>
  ⟨⟨rfl, by rw [ht]; have := hB.1; rw [List.append_nil] at this; exact this, by have := hB.2.1; rw [List.append_nil] at this; exact this⟩, hB.2.2.F ht⟩
theorem gDrop (hB : gB D cl A H0 w X H locs) : gB D cl A H0 w [] H locs := by
  refine ⟨?_, ?_, hB.2.2⟩
  · rw [List.append_nil]; exact fun k q h => hB.1 k q (gApp h)
  · rw [List.append_nil]; exact ⟨fun i j x y hi hj hxy => hB.2.1.1 i j x y (gApp hi) (gApp hj) hxy, fun k q h => hB.2.1.2 k q (gApp h)⟩
theorem gRetI {x : Int32} (hx : p.tables.exec = Jvm.exec) (hb : c.code = cc) (hr : meth.sig.returnType = some .int) (hlocks : meth.locks = false) (hB : gB D cl (va_A w s.heap.size) s.heap w' [] H locs) (hdg : decode cc pc = .ok (.ireturn, 1)) : W p l e R s m args below meth c H locs cells slots (MQ below (gQ D cl w w' (some (.int x)) s.heap.size) args s cells slots (va_A w s.heap.size)) (F0 m pc ls [.int x]) :=
  W.iret hx hb hr (gEnd hB) hB.2.2.2.2 hdg hlocks
theorem gRetZ {x : Int32} {ty : FieldType} (hx : p.tables.exec = Jvm.exec) (hb : c.code = cc) (hr : meth.sig.returnType = some ty) (hlocks : meth.locks = false) (hB : gB D cl (va_A w s.heap.size) s.heap w' [] H locs) (hn : narrow ty (.int x) = .int x) (hdg : decode cc pc = .ok (.ireturn, 1)) : W p l e R s m args below meth c H locs cells slots (MQ below (gQ D cl w w' (some (.int x)) s.heap.size) args s cells slots (va_A w s.heap.size)) (F0 m pc ls [.int x]) :=
  W.zret hx hb hr hn (gEnd hB) hB.2.2.2.2 hdg hlocks
theorem gRetL {x : Int64} (hx : p.tables.exec = Jvm.exec) (hb : c.code = cc) (hr : meth.sig.returnType = some .long) (hlocks : meth.locks = false) (hB : gB D cl (va_A w s.heap.size) s.heap w' [] H locs) (hdg : decode cc pc = .ok (.lreturn, 1)) : W p l e R s m args below meth c H locs cells slots (MQ below (gQ D cl w w' (some (.long x)) s.heap.size) args s cells slots (va_A w s.heap.size)) (F0 m pc ls [.long x]) :=
  W.lret hx hb hr (gEnd hB) hB.2.2.2.2 hdg hlocks
theorem gRetV (hx : p.tables.exec = Jvm.exec) (hb : c.code = cc) (hr : meth.sig.returnType = none) (hlocks : meth.locks = false) (hB : gB D cl (va_A w s.heap.size) s.heap w' [] H locs) (hdg : decode cc pc = .ok (.return_, 1)) : W p l e R s m args below meth c H locs cells slots (MQ below (gQ D cl w w' none s.heap.size) args s cells slots (va_A w s.heap.size)) (F0 m pc ls []) :=
  W.vret hx hb hr (gEnd hB) hB.2.2.2.2 hdg hlocks
end GEN
/-- a contract out of the walk of a body -/
theorem gMet.of {l : Launch} {y : MethodName} {ws ws' : List Cond} {rm : Room} {mc ms : Nat} {D : va_G} {cl : List vw_C} {tys : List (ClassId × FieldType)} {KS : (Nat → Prop) → State → Prop} {As : List Value} {w w' : va_W} {v : Option Value} {cc : ByteArray} {maxL : Nat} {ret : Option FieldType} (hy : plainName y.cls = true) (hw : ws = Cond.code y cc maxL ret :: ws') (hn : (lg_sl As).length ≤ maxL)
    (body : ∀ (p : Program) (e : Env) (s : State) (m : MethodId) (args : Array Value) (below : List Frame) (meth : Method) (c : Code), CallFix p m c cc maxL s args ws y.cls → meth.sig.returnType = ret → meth.locks = false → meth.name = y.name → va_K D cl tys s → KS (va_A w s.heap.size) s → (∀ q : Nat, s.heap.size ≤ q → va_A w s.heap.size q) → gB D cl (va_A w s.heap.size) s.heap w [] s.heap [] → ∀ ls : Array Slot, lv_has ls maxL (lv_args 0 As) → W p l e rm s m args below meth c s.heap [] 0 0 (MQ below (gQ D cl w w' v s.heap.size) args s mc ms (va_A w s.heap.size)) (F0 m 0 ls [])) : gMet l y ws rm mc ms D cl tys KS As w w' v := by
  intro sz
  refine Met.ofW (cc := cc) (maxL := maxL) (ret := ret) hy hw ?_
  intro p e s m args below meth c s₁ B hml hv
  obtain ⟨rfl, hsz, hP, hK, hD0, hKS⟩ := hv
  subst hsz
  have hown : s.vm.findClass y.cls = some m.cls := findClass_of_methodNamed B.named
  have hl := lv_entry As (n := maxL) hn
  rw [lg_entry_eq]
  exact body p e s m As.toArray below meth c ⟨B.exec, B.bytes, hml, hown, atoms_spec (ws := ws) B.pre⟩ B.returns B.notSynchronized (name_of_methodNamed B.named B.method).1 hK hKS (fun q h => Or.inr h) ⟨by rw [List.append_nil]; exact hP, by rw [List.append_nil]; exact hD0.self, va_S.rf⟩ _ hl
