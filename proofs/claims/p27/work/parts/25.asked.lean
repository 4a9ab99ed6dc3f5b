-- what is asked of a relation between the two states
/-- what the law sees of it: a number of the throw, 0: none -/
def cdL_feed : Nat ⊕ Int32 → Option Int32
  | .inr _ => some 0
  | .inl 0 => some 1
  | .inl _ => none
def otL_feed (f : Nat → Int64) : Nat ⊕ Int32 → (Nat → Int64)
  | .inr v => vp_updL f 0 v.toInt64
  | .inl _ => f
/-- what the law sees of it: a number of the throw, 0: none -/
def cdL_trim : Nat ⊕ Int32 → Option Int32
  | .inr _ => some 0
  | .inl 1 => some 1
  | .inl _ => none
def otL_trim (f : Nat → Int64) : Nat ⊕ Int32 → (Nat → Int64)
  | .inr v => vp_updL f 0 v.toInt64
  | .inl _ => f
/-- what the law sees of it: a number of the throw, 0: none -/
def cdL_count : Nat ⊕ Int32 → Option Int32
  | .inr _ => some 0
  | .inl 2 => some 1
  | .inl _ => none
def otL_count (f : Nat → Int64) : Nat ⊕ Int32 → (Nat → Int64)
  | .inr v => vp_updL f 0 v.toInt64
  | .inl _ => f
/-- what the law sees of it: a number of the throw, 0: none -/
def cdL_set : Nat ⊕ Int64 → Option Int32
  | .inr _ => some 0
  | .inl 2 => some 1
  | .inl _ => none
def otL_set (f : Nat → Int64) : Nat ⊕ Int64 → (Nat → Int64)
  | .inr v => vp_updL f 0 v
  | .inl _ => f
/-- what the law sees of it: a number of the throw, 0: none -/
def cdL_tick : Nat ⊕ Int32 → Option Int32
  | .inr _ => some 0
  | .inl 0 => some 2
  | .inl 1 => some 1
  | .inl _ => none
def otL_tick (f : Nat → Int64) : Nat ⊕ Int32 → (Nat → Int64)
  | .inr v => vp_updL f 0 v.toInt64
  | .inl _ => f
/-- what the law sees of it: a number of the throw, 0: none -/
def cdL_back : Nat ⊕ Int32 → Option Int32
  | .inr _ => some 0
  | .inl 1 => some 1
  | .inl _ => none
def otL_back (f : Nat → Int64) : Nat ⊕ Int32 → (Nat → Int64)
  | .inr v => vp_updL f 0 v.toInt64
  | .inl _ => f
/-- what the law sees of it: a number of the throw, 0: none -/
def cdL_restart : Nat ⊕ Int32 → Option Int32
  | .inr _ => some 0
  | .inl 0 => some 1
  | .inl _ => none
def otL_restart (f : Nat → Int64) : Nat ⊕ Int32 → (Nat → Int64)
  | .inr v => vp_updL f 0 v.toInt64
  | .inl _ => f
/-- what the law sees of it: a number of the throw, 0: none -/
def cdL_replay : Nat ⊕ Int32 → Option Int32
  | .inr _ => some 0
  | .inl 0 => some 1
  | .inl _ => none
def otL_replay (f : Nat → Int64) : Nat ⊕ Int32 → (Nat → Int64)
  | .inr v => vp_updL f 0 v.toInt64
  | .inl _ => f
/-- what the law sees of it: a number of the throw, 0: none -/
def cdL_time : Nat ⊕ Int32 → Option Int32
  | .inr _ => some 0
  | .inl 2 => some 1
  | .inl _ => none
def otL_time (f : Nat → Int64) : Nat ⊕ Int32 → (Nat → Int64)
  | .inr v => vp_updL f 0 v.toInt64
  | .inl _ => f
/-- what the law sees of it: a number of the throw, 0: none -/
def cdL_signal : Nat ⊕ Int64 → Option Int32
  | .inr _ => some 0
  | .inl 2 => some 1
  | .inl _ => none
def otL_signal (f : Nat → Int64) : Nat ⊕ Int64 → (Nat → Int64)
  | .inr v => vp_updL f 0 v
  | .inl _ => f
/-- what the law sees of it: a number of the throw, 0: none -/
def cdL_value : Nat ⊕ Int64 → Option Int32
  | .inr _ => some 0
  | .inl 2 => some 1
  | .inl _ => none
def otL_value (f : Nat → Int64) : Nat ⊕ Int64 → (Nat → Int64)
  | .inr v => vp_updL f 0 v
  | .inl _ => f
/-- what the law sees of it: a number of the throw, 0: none -/
def cdL_let : Nat ⊕ Int32 → Option Int32
  | .inr _ => some 0
  | .inl 2 => some 1
  | .inl _ => none
def otL_let (f : Nat → Int64) : Nat ⊕ Int32 → (Nat → Int64)
  | .inr v => vp_updL f 0 (if v = 0 then 0 else 1)
  | .inl _ => f
/-- what the law sees of it: a number of the throw, 0: none -/
def cdL_watch : Nat ⊕ Int32 → Option Int32
  | .inr _ => some 0
  | .inl 2 => some 1
  | .inl _ => none
def otL_watch (f : Nat → Int64) : Nat ⊕ Int32 → (Nat → Int64)
  | .inr v => vp_updL f 0 (if v = 0 then 0 else 1)
  | .inl _ => f
/-- what the law sees of it: a number of the throw, 0: none -/
def cdL_told : Nat ⊕ Int32 → Option Int32
  | .inr _ => some 0
  | .inl 2 => some 1
  | .inl _ => none
def otL_told (f : Nat → Int64) : Nat ⊕ Int32 → (Nat → Int64)
  | .inr v => vp_updL f 0 v.toInt64
  | .inl _ => f
/-- what the law sees of it: a number of the throw, 0: none -/
def cdL_alarms : Nat ⊕ Int32 → Option Int32
  | .inr _ => some 0
  | .inl 1 => some 1
  | .inl _ => none
def otL_alarms (f : Nat → Int64) : Nat ⊕ Int32 → (Nat → Int64)
  | .inr v => vp_updL f 0 v.toInt64
  | .inl _ => f
/-- what the law sees of it: a number of the throw, 0: none -/
def cdL_why : Nat ⊕ Int32 → Option Int32
  | .inr _ => some 0
  | .inl 0 => some 2
  | .inl 2 => some 1
  | .inl _ => none
def otL_why (f : Nat → Int64) : Nat ⊕ Int32 → (Nat → Int64)
  | .inr v => vp_updL f 0 v.toInt64
  | .inl _ => f
/-- what the law sees of it: a number of the throw, 0: none -/
def cdL_differ : Nat ⊕ Int32 → Option Int32
  | .inr _ => some 0
  | .inl 2 => some 1
  | .inl _ => none
def otL_differ (f : Nat → Int64) : Nat ⊕ Int32 → (Nat → Int64)
  | .inr v => vp_updL f 0 v.toInt64
  | .inl _ => f
/-- what the law sees of it: a number of the throw, 0: none -/
def cdL_share : Nat ⊕ UInt64 → Option Int32
  | .inr _ => some 0
  | .inl 2 => some 1
  | .inl _ => none
def otL_share (f : Nat → UInt64) : Nat ⊕ UInt64 → (Nat → UInt64)
  | .inr v => vf_upd f 0 v
  | .inl _ => f
/-- what the law sees of it: a number of the throw, 0: none -/
def cdL_answer : Nat ⊕ Int32 → Option Int32
  | .inr _ => some 0
  | .inl 0 => some 2
  | .inl 2 => some 1
  | .inl _ => none
def otL_answer (f : Nat → Int64) : Nat ⊕ Int32 → (Nat → Int64)
  | .inr v => vp_updL f 0 (if v = 0 then 0 else 1)
  | .inl _ => f
def OK_feed (Rel : MS → CS → Prop) : Prop := ∀ (σ : MS) (τ : CS), Rel σ τ → ∀ (p0 : Int32) (p1 : Int32) (p2 : Int32) (p3 : Int32) (p4 : Int32), ∃ (o : Nat ⊕ Int32) (τ' : CS) (r : Int32) (b : Int32) (σ' : MS), FX10_feed LF p0 p1 p2 p3 p4 τ = some (o, τ') ∧ cdL_feed o = some r ∧ FX11_feed LF p0 p1 p2 p3 p4 σ = some (b, σ') ∧ σ'.1 0 = r ∧ (r = 0 → o = .inr b) ∧ Rel σ' τ'
def OK_trim (Rel : MS → CS → Prop) : Prop := ∀ (σ : MS) (τ : CS), Rel σ τ → ∀ (p0 : Int32), ∃ (o : Nat ⊕ Int32) (τ' : CS) (r : Int32) (b : Int32) (σ' : MS), FX10_trim p0 τ = some (o, τ') ∧ cdL_trim o = some r ∧ FX11_trim p0 σ = some (b, σ') ∧ σ'.1 0 = r ∧ (r = 0 → o = .inr b) ∧ Rel σ' τ'
def OK_compile (Rel : MS → CS → Prop) : Prop := ∀ (σ : MS) (τ : CS), Rel σ τ → ∃ (r : Int32) (τ' : CS) (σ' : MS), FX10_compile LF  τ = some (r, τ') ∧ FX11_compile LF  σ = some (r, σ') ∧ Rel σ' τ'
def OK_errorAt (Rel : MS → CS → Prop) : Prop := ∀ (σ : MS) (τ : CS), Rel σ τ → ∃ (r : Int32) (τ' : CS) (σ' : MS), FX10_errorAt  τ = some (r, τ') ∧ FX11_errorAt  σ = some (r, σ') ∧ Rel σ' τ'
def OK_count (Rel : MS → CS → Prop) : Prop := ∀ (σ : MS) (τ : CS), Rel σ τ → ∀ (p0 : Int32), ∃ (o : Nat ⊕ Int32) (τ' : CS) (r : Int32) (b : Int32) (σ' : MS), FX10_count p0 τ = some (o, τ') ∧ cdL_count o = some r ∧ FX11_count p0 σ = some (b, σ') ∧ σ'.1 0 = r ∧ (r = 0 → o = .inr b) ∧ Rel σ' τ'
def OK_set (Rel : MS → CS → Prop) : Prop := ∀ (σ : MS) (τ : CS), Rel σ τ → ∀ (p0 : Int32) (p1 : Int64), ∃ (o : Nat ⊕ Int64) (τ' : CS) (r : Int32) (b : Int64) (σ' : MS), FX10_set p0 p1 τ = some (o, τ') ∧ cdL_set o = some r ∧ FX11_set p0 p1 σ = some (b, σ') ∧ σ'.1 0 = r ∧ (r = 0 → o = .inr b) ∧ Rel σ' τ'
def OK_tick (Rel : MS → CS → Prop) : Prop := ∀ (σ : MS) (τ : CS), Rel σ τ → ∀ (p0 : Int32), ∃ (o : Nat ⊕ Int32) (τ' : CS) (r : Int32) (b : Int32) (σ' : MS), FX10_tick LF p0 τ = some (o, τ') ∧ cdL_tick o = some r ∧ FX11_tick LF p0 σ = some (b, σ') ∧ σ'.1 0 = r ∧ (r = 0 → o = .inr b) ∧ Rel σ' τ'
def OK_back (Rel : MS → CS → Prop) : Prop := ∀ (σ : MS) (τ : CS), Rel σ τ → ∀ (p0 : Int32), ∃ (o : Nat ⊕ Int32) (τ' : CS) (r : Int32) (b : Int32) (σ' : MS), FX10_back p0 τ = some (o, τ') ∧ cdL_back o = some r ∧ FX11_back p0 σ = some (b, σ') ∧ σ'.1 0 = r ∧ (r = 0 → o = .inr b) ∧ Rel σ' τ'
def OK_restart (Rel : MS → CS → Prop) : Prop := ∀ (σ : MS) (τ : CS), Rel σ τ → ∃ (o : Nat ⊕ Int32) (τ' : CS) (r : Int32) (b : Int32) (σ' : MS), FX10_restart LF  τ = some (o, τ') ∧ cdL_restart o = some r ∧ FX11_restart LF  σ = some (b, σ') ∧ σ'.1 0 = r ∧ (r = 0 → o = .inr b) ∧ Rel σ' τ'
def OK_keep (Rel : MS → CS → Prop) : Prop := ∀ (σ : MS) (τ : CS), Rel σ τ → ∃ (r : Int32) (τ' : CS) (σ' : MS), FX10_keep LF  τ = some (r, τ') ∧ FX11_keep  σ = some (r, σ') ∧ Rel σ' τ'
def OK_replay (Rel : MS → CS → Prop) : Prop := ∀ (σ : MS) (τ : CS), Rel σ τ → ∃ (o : Nat ⊕ Int32) (τ' : CS) (r : Int32) (b : Int32) (σ' : MS), FX10_replay LF  τ = some (o, τ') ∧ cdL_replay o = some r ∧ FX11_replay LF  σ = some (b, σ') ∧ σ'.1 0 = r ∧ (r = 0 → o = .inr b) ∧ Rel σ' τ'
def OK_time (Rel : MS → CS → Prop) : Prop := ∀ (σ : MS) (τ : CS), Rel σ τ → ∀ (p0 : Int32), ∃ (o : Nat ⊕ Int32) (τ' : CS) (r : Int32) (b : Int32) (σ' : MS), FX10_time p0 τ = some (o, τ') ∧ cdL_time o = some r ∧ FX11_time p0 σ = some (b, σ') ∧ σ'.1 0 = r ∧ (r = 0 → o = .inr b) ∧ Rel σ' τ'
def OK_signal (Rel : MS → CS → Prop) : Prop := ∀ (σ : MS) (τ : CS), Rel σ τ → ∀ (p0 : Int32) (p1 : Int32), ∃ (o : Nat ⊕ Int64) (τ' : CS) (r : Int32) (b : Int64) (σ' : MS), FX10_signal p0 p1 τ = some (o, τ') ∧ cdL_signal o = some r ∧ FX11_signal p0 p1 σ = some (b, σ') ∧ σ'.1 0 = r ∧ (r = 0 → o = .inr b) ∧ Rel σ' τ'
def OK_value (Rel : MS → CS → Prop) : Prop := ∀ (σ : MS) (τ : CS), Rel σ τ → ∀ (p0 : Int32) (p1 : Int32), ∃ (o : Nat ⊕ Int64) (τ' : CS) (r : Int32) (b : Int64) (σ' : MS), FX10_value p0 p1 τ = some (o, τ') ∧ cdL_value o = some r ∧ FX11_value p0 p1 σ = some (b, σ') ∧ σ'.1 0 = r ∧ (r = 0 → o = .inr b) ∧ Rel σ' τ'
def OK_let (Rel : MS → CS → Prop) : Prop := ∀ (σ : MS) (τ : CS), Rel σ τ → ∀ (p0 : Int32) (p1 : Int32), ∃ (o : Nat ⊕ Int32) (τ' : CS) (r : Int32) (b : Int32) (σ' : MS), FX10_let p0 p1 τ = some (o, τ') ∧ cdL_let o = some r ∧ FX11_let p0 p1 σ = some (b, σ') ∧ σ'.1 0 = r ∧ (r = 0 → o = .inr b) ∧ Rel σ' τ'
def OK_watch (Rel : MS → CS → Prop) : Prop := ∀ (σ : MS) (τ : CS), Rel σ τ → ∀ (p0 : Int32) (p1 : Int32), ∃ (o : Nat ⊕ Int32) (τ' : CS) (r : Int32) (b : Int32) (σ' : MS), FX10_watch p0 p1 τ = some (o, τ') ∧ cdL_watch o = some r ∧ FX11_watch p0 p1 σ = some (b, σ') ∧ σ'.1 0 = r ∧ (r = 0 → o = .inr b) ∧ Rel σ' τ'
def OK_told (Rel : MS → CS → Prop) : Prop := ∀ (σ : MS) (τ : CS), Rel σ τ → ∀ (p0 : Int32) (p1 : Int32), ∃ (o : Nat ⊕ Int32) (τ' : CS) (r : Int32) (b : Int32) (σ' : MS), FX10_told LF p0 p1 τ = some (o, τ') ∧ cdL_told o = some r ∧ FX11_told LF p0 p1 σ = some (b, σ') ∧ σ'.1 0 = r ∧ (r = 0 → o = .inr b) ∧ Rel σ' τ'
def OK_alarms (Rel : MS → CS → Prop) : Prop := ∀ (σ : MS) (τ : CS), Rel σ τ → ∀ (p0 : Int32), ∃ (o : Nat ⊕ Int32) (τ' : CS) (r : Int32) (b : Int32) (σ' : MS), FX10_alarms LF p0 τ = some (o, τ') ∧ cdL_alarms o = some r ∧ FX11_alarms LF p0 σ = some (b, σ') ∧ σ'.1 0 = r ∧ (r = 0 → o = .inr b) ∧ Rel σ' τ'
def OK_why (Rel : MS → CS → Prop) : Prop := ∀ (σ : MS) (τ : CS), Rel σ τ → ∀ (p0 : Int32) (p1 : Int32) (p2 : Int32), (p2 = 0 ∨ p2 = 1) → ∃ (o : Nat ⊕ Int32) (τ' : CS) (r : Int32) (b : Int32) (σ' : MS), FX10_why LF p0 p1 p2 τ = some (o, τ') ∧ cdL_why o = some r ∧ FX11_why LF p0 p1 p2 σ = some (b, σ') ∧ σ'.1 0 = r ∧ (r = 0 → o = .inr b) ∧ Rel σ' τ'
def OK_differ (Rel : MS → CS → Prop) : Prop := ∀ (σ : MS) (τ : CS), Rel σ τ → ∀ (p0 : Int32) (p1 : Int32), ∃ (o : Nat ⊕ Int32) (τ' : CS) (r : Int32) (b : Int32) (σ' : MS), FX10_differ LF p0 p1 τ = some (o, τ') ∧ cdL_differ o = some r ∧ FX11_differ LF p0 p1 σ = some (b, σ') ∧ σ'.1 0 = r ∧ (r = 0 → o = .inr b) ∧ Rel σ' τ'
def OK_share (Rel : MS → CS → Prop) : Prop := ∀ (σ : MS) (τ : CS), Rel σ τ → ∀ (p0 : Int32), ∃ (o : Nat ⊕ UInt64) (τ' : CS) (r : Int32) (b : UInt64) (σ' : MS), FX10_share LF p0 τ = some (o, τ') ∧ cdL_share o = some r ∧ FX11_share LF p0 σ = some (b, σ') ∧ σ'.1 0 = r ∧ (r = 0 → o = .inr b) ∧ Rel σ' τ'
def OK_ask (Rel : MS → CS → Prop) : Prop := ∀ (σ : MS) (τ : CS), Rel σ τ → ∃ (r : Int32) (τ' : CS) (σ' : MS), FX10_ask LF  τ = some (r, τ') ∧ FX11_ask LF  σ = some (r, σ') ∧ Rel σ' τ'
def OK_answer (Rel : MS → CS → Prop) : Prop := ∀ (σ : MS) (τ : CS), Rel σ τ → ∀ (p0 : Int32), ∃ (o : Nat ⊕ Int32) (τ' : CS) (r : Int32) (b : Int32) (σ' : MS), FX10_answer p0 τ = some (o, τ') ∧ cdL_answer o = some r ∧ FX11_answer LF p0 σ = some (b, σ') ∧ σ'.1 0 = r ∧ (r = 0 → o = .inr b) ∧ Rel σ' τ'
def OK_digest (Rel : MS → CS → Prop) : Prop := ∀ (σ : MS) (τ : CS), Rel σ τ → ∃ (r : Int64) (τ' : CS) (σ' : MS), FX10_digest LF  τ = some (r, τ') ∧ FX11_digest LF  σ = some (r, σ') ∧ Rel σ' τ'
/-- a relation that every call keeps, with the same answers -/
def LawOK (Rel : MS → CS → Prop) : Prop := OK_feed Rel ∧ OK_trim Rel ∧ OK_compile Rel ∧ OK_errorAt Rel ∧ OK_count Rel ∧ OK_set Rel ∧ OK_tick Rel ∧ OK_back Rel ∧ OK_restart Rel ∧ OK_keep Rel ∧ OK_replay Rel ∧ OK_time Rel ∧ OK_signal Rel ∧ OK_value Rel ∧ OK_let Rel ∧ OK_watch Rel ∧ OK_told Rel ∧ OK_alarms Rel ∧ OK_why Rel ∧ OK_differ Rel ∧ OK_share Rel ∧ OK_ask Rel ∧ OK_answer Rel ∧ OK_digest Rel
theorem upd0 {f : Nat → Int64} {x : Int64} : vp_updL f 0 x (0 : Int32).toNatClampNeg = x := rfl
theorem upd0D {f : Nat → UInt64} {x : UInt64} : vf_upd f 0 x (0 : Int32).toNatClampNeg = x := rfl

/-- a new object of the class -/
def s0C (kw : Nat → Int64) : CS := (fun k => if k = 9 then -1 else if k = 12 then 400 else if k = 13 then 400 else if k = 4308 then -1 else 0, fun _ => 0, fun _ _ => 0, fun k => if k = 6 then kw else fun _ => 0, fun _ _ _ => 0)
/-- a new object of the reference -/
def s0M : MS := (fun k => if k = 3 then -1 else if k = 28 then -1 else 0, fun _ _ => 0, fun _ _ => 0)
