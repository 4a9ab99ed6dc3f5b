-- the reference is not in this claim: its states stand beside the class as numbers alone
abbrev MS : Type := (Nat → Int32) × (Nat → Nat → Int32) × (Nat → Nat → Int64)
abbrev sI (σ : MS) (k : Nat) (v : Int32) : MS := (va_up σ.1 k v, σ.2)
abbrev sA (σ : MS) (k : Nat) (v : Nat → Int32) : MS := (σ.1, va_up σ.2.1 k v, σ.2.2)
abbrev sB (σ : MS) (k : Nat) (v : Nat → Int64) : MS := (σ.1, σ.2.1, va_up σ.2.2 k v)
section MCALL
variable {p : Program} {l : Launch} {e : Env} {R : Room} {s : State} {m : MethodId} {args : Array Value} {below : List Frame} {meth : Method} {c : Code} {H : Heap} {locs : List Loc} {cells slots : Nat} {Q : State → Prop}
variable {cc : ByteArray} {pc nL : Nat} {ls : Array Slot} {rest : List Value} {D : va_G} {A : Nat → Prop} {H0 : Heap} {X : va_W} {k0 : Cond}
variable {cI cJ : ClassId} {ad : Nat → Nat} {σ σ' : MS} {KS : (Nat → Prop) → State → Prop} {y : MethodName} {bytes : ByteArray} {maxL n index : Nat} {ret : Option FieldType} {ws : List Cond} {rm : Room} {As st : List Value}
theorem gRetD {cl : List vw_C} {w w' : va_W} {x : UInt64} (hx : p.tables.exec = Jvm.exec) (hb : c.code = cc) (hr : meth.sig.returnType = some .double) (hlocks : meth.locks = false) (hB : gB D cl (va_A w s.heap.size) s.heap w' [] H locs) (hdg : decode cc pc = .ok (.dreturn, 1)) : W p l e R s m args below meth c H locs cells slots (MQ below (gQ D cl w w' (some (.double x)) s.heap.size) args s cells slots (va_A w s.heap.size)) (F0 m pc ls [.double x]) := W.dret hx hb hr (gEnd hB) hB.2.2.2.2 hdg hlocks
end MCALL
