def FX11_errorAt  (σ : MS) : Option (Int32 × MS) :=
  some (σ.1 3, (sI σ 0 (0 : Int32)))
abbrev rmX11_errorAt : Room := { frames := 0, cells := 0, slots := 0, locals := 0 }
set_option maxRecDepth 100000 in
set_option maxHeartbeats 4000000 in
theorem kX11_errorAt {l : Launch} {D : va_G} {cI cJ : ClassId} {ad : Nat → Nat} {KS : (Nat → Prop) → State → Prop} (hc : gC KS)  {σ σ' : MS} {r : Int32} (h : FX11_errorAt  σ = some (r, σ')) : gMet l yX11_errorAt qX11_errorAt rmX11_errorAt 0 0 D vwCl [(cI, .int), (cJ, .long)] KS [.ref (ad 0)] (MW cI cJ ad σ) (MW cI cJ ad σ') (some (.int r)) := by
  refine gMet.of (cc := cX11_errorAt) (maxL := 1) (ret := (some .int)) (by decide) rfl (Nat.le_of_ble_eq_true rfl) ?_
  intro p e s m args below meth c S hr hlk hnm hK hKS hA hB ls hl
  have hl : lv_has ls 1 [(0, .ref (ad 0))] := hl
  replace S : CallFix p m c cX11_errorAt 1 s args (_ :: wsL_law) RX11 := S
  rw [FX11_errorAt] at h
  refine lv_aload_n S.1 S.2.1 dX11_errorAt_0 rfl (lv_at hl 0 rfl) ?_
  refine lv_iconst (v := (0 : Int32)) S.1 S.2.1 dX11_errorAt_1 (by decide) ?_
  refine mp_thrown S hK hB wf_X11_91 dX11_errorAt_2 (fun H locs hB => ?_)
  refine lv_aload_n S.1 S.2.1 dX11_errorAt_5 rfl (lv_at hl 0 rfl) ?_
  refine mg_errorAt (v := (σ.1 3)) S hK hB wf_X11_13 rfl dX11_errorAt_6 ?_
  cases h
  exact gRetI S.1 S.2.1 hr hlk hB dX11_errorAt_9
-- the law's walk: what is asked of a relation between the two states, and the rows that take the worlds apart
abbrev LF : Nat := 5000
def OK_feed (Rel : MS → CS → Prop) : Prop := ∀ (σ : MS) (τ : CS), Rel σ τ → ∀ (p0 : Int32) (p1 : Int32) (p2 : Int32) (p3 : Int32) (p4 : Int32), ∃ (o : Nat ⊕ Int32) (τ' : CS) (r : Int32) (b : Int32) (σ' : MS), FX10_feed LF p0 p1 p2 p3 p4 τ = some (o, τ') ∧ cdL_feed o = some r ∧ FX11_feed LF p0 p1 p2 p3 p4 σ = some (b, σ') ∧ σ'.1 0 = r ∧ (r = 0 → o = .inr b) ∧ Rel σ' τ'
def OK_trim (Rel : MS → CS → Prop) : Prop := ∀ (σ : MS) (τ : CS), Rel σ τ → ∀ (p0 : Int32), ∃ (o : Nat ⊕ Int32) (τ' : CS) (r : Int32) (b : Int32) (σ' : MS), FX10_trim p0 τ = some (o, τ') ∧ cdL_trim o = some r ∧ FX11_trim p0 σ = some (b, σ') ∧ σ'.1 0 = r ∧ (r = 0 → o = .inr b) ∧ Rel σ' τ'
def OK_compile (Rel : MS → CS → Prop) : Prop := ∀ (σ : MS) (τ : CS), Rel σ τ → ∃ (r : Int32) (τ' : CS) (σ' : MS), FX10_compile LF  τ = some (r, τ') ∧ FX11_compile LF  σ = some (r, σ') ∧ Rel σ' τ'
def OK_errorAt (Rel : MS → CS → Prop) : Prop := ∀ (σ : MS) (τ : CS), Rel σ τ → ∃ (r : Int32) (τ' : CS) (σ' : MS), FX10_errorAt  τ = some (r, τ') ∧ FX11_errorAt  σ = some (r, σ') ∧ Rel σ' τ'
def OK_count (Rel : MS → CS → Prop) : Prop := ∀ (σ : MS) (τ : CS), Rel σ τ → ∀ (p0 : Int32), ∃ (o : Nat ⊕ Int32) (τ' : CS) (r : Int32) (b : Int32) (σ' : MS), FX10_count p0 τ = some (o, τ') ∧ cdL_count o = some r ∧ FX11_count p0 σ = some (b, σ') ∧ σ'.1 0 = r ∧ (r = 0 → o = .inr b) ∧ Rel σ' τ'
def OK_set (Rel : MS → CS → Prop) : Prop := ∀ (σ : MS) (τ : CS), Rel σ τ → ∀ (p0 : Int32) (p1 : Int64), ∃ (o : Nat ⊕ Int64) (τ' : CS) (r : Int32) (b : Int64) (σ' : MS), FX10_set p0 p1 τ = some (o, τ') ∧ cdL_set o = some r ∧ FX11_set p0 p1 σ = some (b, σ') ∧ σ'.1 0 = r ∧ (r = 0 → o = .inr b) ∧ Rel σ' τ'
def OK_tick (Rel : MS → CS → Prop) : Prop := ∀ (σ : MS) (τ : CS), Rel σ τ → ∀ (p0 : Int32), ∃ (o : Nat ⊕ Int32) (τ' : CS) (r : Int32) (b : Int32) (σ' : MS), FX10_tick LF p0 τ = some (o, τ') ∧ cdL_tick o = some r ∧ FX11_tick LF p0 σ = some (b, σ') ∧ σ'.1 0 = r ∧ (r = 0 → o = .inr b) ∧ Rel σ' τ'
def OK_back (Rel : MS → CS → Prop) : Prop := ∀ (σ : MS) (τ : CS), Rel σ τ → ∀ (p0 : Int32), ∃ (o : Nat ⊕ Int32) (τ' : CS) (r : Int32) (b : Int32) (σ' : MS), FX10_back p0 τ = some (o, τ') ∧ cdL_back o = some r ∧ FX11_back p0 σ = some (b, σ') ∧ σ'.1 0 = r ∧ (r = 0 → o = .inr b) ∧ Rel σ' τ'
def OK_restart (Rel : MS → CS → Prop) : Prop := ∀ (σ : MS) (τ : CS), Rel σ τ → ∃ (o : Nat ⊕ Int32) (τ' : CS) (r : Int32) (b : Int32) (σ' : MS), FX10_restart LF  τ = some (o, τ') ∧ cdL_restart o = some r ∧ FX11_restart LF  σ = some (b, σ') ∧ σ'.1 0 = r ∧ (r = 0 → o = .inr b) ∧ Rel σ' τ'
def OK_keep (Rel : MS → CS → Prop) : Prop := ∀ (σ : MS) (τ : CS), Rel σ τ → ∃ (r : Int32) (τ' : CS) (σ' : MS), FX10_keep LF  τ = some (r, τ') ∧ FX11_keep  σ = some (r, σ') ∧ Rel σ' τ'
def OK_replay (Rel : MS → CS → Prop) : Prop := ∀ (σ : MS) (τ : CS), Rel σ τ → ∃ (o : Nat ⊕ Int32) (τ' : CS) (r : Int32) (b : Int32) (σ' : MS), FX10_replay LF  τ = some (o, τ') ∧ cdL_replay o = some r ∧ FX11_replay LF  σ = some (b, σ') ∧ σ'.1 0 = r ∧ (r = 0 → o = .inr b) ∧ Rel σ' τ'
def OK_time (Rel : MS → CS → Prop) : Prop := ∀ (σ : MS) (τ : CS), Rel σ τ → ∀ (p0 : Int32), ∃ (o : Nat ⊕ Int32) (τ' : CS) (r : Int32) (b : Int32) (σ' : MS), FX10_time p0 τ = some (o, τ') ∧ cdL_time o = some r ∧ FX11_time p0 σ = some (b, σ') ∧ σ'.1 0 = r ∧ (r = 0 → o = .inr b) ∧ Rel σ' τ'
def OK_signal (Rel : MS → CS → Prop) : Prop := ∀ (σ : MS) (τ : CS), Rel σ τ → ∀ (p0 : Int32) (p1 : Int32), ∃ (o : Nat ⊕ Int64) (τ' : CS) (r : Int32) (b : Int64) (σ' : MS), FX10_signal p0 p1 τ = some (o, τ') ∧ cdL_signal o = some r ∧ FX11_signal p0 p1 σ = some (b, σ') ∧ σ'.1 0 = r ∧ (r = 0 → o = .inr b) ∧ Rel σ' τ'
def OK_value (Rel : MS → CS → Prop) : Prop := ∀ (σ : MS) (τ : CS), Rel σ τ → ∀ (p0 : Int32) (p1 : Int32), ∃ (o : Nat ⊕ Int64) (τ' : CS) (r : Int32) (b : Int64) (σ' : MS), FX10_value p0 p1 τ = some (o, τ') ∧ cdL_value o = some r ∧ FX11_value p0 p1 σ = some (b, σ') ∧ σ'.1 0 = r ∧ (r = 0 → o = .inr b) ∧ Rel σ' τ'
def OK_let (Rel : MS → CS → Prop) : Prop := ∀ (σ : MS) (τ : CS), Rel σ τ → ∀ (p0 : Int32) (p1 : Int32), ∃ (o : Nat ⊕ Int32) (τ' : CS) (r : Int32) (b : Int32) (σ' : MS), FX10_let p0 p1 τ = some (o, τ') ∧ cdL_let o = some r ∧ FX11_let p0 p1 σ = some (b, σ') ∧ σ'.1 0 = r ∧ (r = 0 → o = .inr b) ∧ Rel σ' τ'
def OK_watch (Rel : MS → CS → Prop) : Prop := ∀ (σ : MS) (τ : CS), Rel σ τ → ∀ (p0 : Int32) (p1 : Int32), ∃ (o : Nat ⊕ Int32) (τ' : CS) (r : Int32) (b : Int32) (σ' : MS), FX10_watch p0 p1 τ = some (o, τ') ∧ cdL_watch o = some r ∧ FX11_watch p0 p1 σ = some (b, σ') ∧ σ'.1 0 = r ∧ (r = 0 → o = .inr b) ∧ Rel σ' τ'
def OK_told (Rel : MS → CS → Prop) : Prop := ∀ (σ : MS) (τ : CS), Rel σ τ → ∀ (p0 : Int32) (p1 : Int32), ∃ (o : Nat ⊕ Int32) (τ' : CS) (r : Int32) (b : Int32) (σ' : MS), FX10_told LF p0 p1 τ = some (o, τ') ∧ cdL_told o = some r ∧ FX11_told LF p0 p1 σ = some (b, σ') ∧ σ'.1 0 = r ∧ (r = 0 → o = .inr b) ∧ Rel σ' τ'
def OK_alarms (Rel : MS → CS → Prop) : Prop := ∀ (σ : MS) (τ : CS), Rel σ τ → ∀ (p0 : Int32), ∃ (o : Nat ⊕ Int32) (τ' : CS) (r : Int32) (b : Int32) (σ' : MS), FX10_alarms LF p0 τ = some (o, τ') ∧ cdL_alarms o = some r ∧ FX11_alarms LF p0 σ = some (b, σ') ∧ σ'.1 0 = r ∧ (r = 0 → o = .inr b) ∧ Rel σ' τ'
def OK_why (Rel : MS → CS → Prop) : Prop := ∀ (σ : MS) (τ : CS), Rel σ τ → ∀ (p0 : Int32) (p1 : Int32) (p2 : Int32), (p2 = 0 ∨ p2 = 1) → ∃ (o : Nat ⊕ Int32) (τ' : CS) (r : Int32) (b : Int32) (σ' : MS), FX10_why LF p0 p1 p2 τ = some (o, τ') ∧ cdL_why o = some r ∧ FX11_why LF p0 p1 p2 σ = some (b, σ') ∧ σ'.1 0 = r ∧ (r = 0 → o = .inr b) ∧ Rel σ' τ'
def OK_differ (Rel : MS → CS → Prop) : Prop := ∀ (σ : MS) (τ : CS), Rel σ τ → ∀ (p0 : Int32) (p1 : Int32), ∃ (o : Nat ⊕ Int32) (τ' : CS) (r : Int32) (b : Int32) (σ' : MS), FX10_differ LF p0 p1 τ = some (o, τ') ∧ cdL_differ o = some r ∧ FX11_differ LF p0 p1 σ = some (b, σ') ∧ σ'.1 0 = r ∧ (r = 0 → o = .inr b) ∧ Rel σ' τ'
def OK_share (Rel : MS → CS → Prop) : Prop := ∀ (σ : MS) (τ : CS), Rel σ τ → ∀ (p0 : Int32), ∃ (o : Nat ⊕ UInt64) (τ' : CS) (r : Int32) (b : UInt64) (σ' : MS), FX10_share LF p0 τ = some (o, τ') ∧ cdL_share o = some r ∧ FX11_share LF p0 σ = some (b, σ') ∧ σ'.1 0 = r ∧ (r = 0 → o = .inr b) ∧ Rel σ' τ'
def OK_ask (Rel : MS → CS → Prop) : Prop := ∀ (σ : MS) (τ : CS), Rel σ τ → ∃ (r : Int32) (τ' : CS) (σ' : MS), FX10_ask LF  τ = some (r, τ') ∧ FX11_ask LF  σ = some (r, σ') ∧ Rel σ' τ'
def OK_answer (Rel : MS → CS → Prop) : Prop := ∀ (σ : MS) (τ : CS), Rel σ τ → ∀ (p0 : Int32), ∃ (o : Nat ⊕ Int32) (τ' : CS) (r : Int32) (b : Int32) (σ' : MS), FX10_answer p0 τ = some (o, τ') ∧ cdL_answer o = some r ∧ FX11_answer LF p0 σ = some (b, σ') ∧ σ'.1 0 = r ∧ (r = 0 → o = .inr b) ∧ Rel σ' τ'
def OK_digest (Rel : MS → CS → Prop) : Prop := ∀ (σ : MS) (τ : CS), Rel σ τ → ∃ (r : Int64) (τ' : CS) (σ' : MS), FX10_digest LF  τ = some (r, τ') ∧ FX11_digest LF  σ = some (r, σ') ∧ Rel σ' τ'
/-- a relation that every call keeps, with the same answers -/
def LawOK (Rel : MS → CS → Prop) : Prop := OK_feed Rel ∧ OK_trim Rel ∧ OK_compile Rel ∧ OK_errorAt Rel ∧ OK_count Rel ∧ OK_set Rel ∧ OK_tick Rel ∧ OK_back Rel ∧ OK_restart Rel ∧ OK_keep Rel ∧ OK_replay Rel ∧ OK_time Rel ∧ OK_signal Rel ∧ OK_value Rel ∧ OK_let Rel ∧ OK_watch Rel ∧ OK_told Rel ∧ OK_alarms Rel ∧ OK_why Rel ∧ OK_differ Rel ∧ OK_share Rel ∧ OK_ask Rel ∧ OK_answer Rel ∧ OK_digest Rel
section LW
variable {p : Program} {l : Launch} {e : Env} {R : Room} {s : State} {m : MethodId} {args : Array Value} {below : List Frame} {meth : Method} {c : Code} {H : Heap} {locs : List Loc} {cells slots : Nat} {Q : State → Prop}
variable {cc : ByteArray} {pc nL : Nat} {ls : Array Slot} {rest st : List Value} {D : va_G} {cl : List vw_C} {A : Nat → Prop} {H0 : Heap} {C C' M M' X : va_W} {a d a' d' : Nat × va_E} {tys : List (ClassId × FieldType)} {Ts : List Cond} {own : String} {KS : (Nat → Prop) → State → Prop}
theorem lpA (h : gB D cl A H0 C (M ++ [a, d]) H locs) : gB D cl A H0 (C ++ [a]) (M ++ [d]) H locs := gPerm (by
  rw [List.append_assoc]
  exact List.Perm.append_left _ (show (M ++ ([a] ++ [d])).Perm ([a] ++ (M ++ [d])) from List.perm_append_comm_assoc _ _ _)) h
theorem lpA2 (h : gB D cl A H0 (C ++ [a]) (M ++ [d]) H locs) : gB D cl A H0 C (M ++ [a, d]) H locs := gPerm (by
  rw [List.append_assoc]
  exact List.Perm.append_left _ (show ([a] ++ (M ++ [d])).Perm (M ++ ([a] ++ [d])) from List.perm_append_comm_assoc _ _ _)) h
theorem lpD (h : gB D cl A H0 C (M ++ [a, d]) H locs) : gB D cl A H0 (C ++ [d]) (M ++ [a]) H locs := gPerm (by
  rw [List.append_assoc]
  refine List.Perm.append_left _ ?_
  show (M ++ ([a] ++ [d])).Perm ([d] ++ (M ++ [a]))
  rw [← List.append_assoc]
  exact List.perm_append_comm) h
theorem lpD2 (h : gB D cl A H0 (C ++ [d]) (M ++ [a]) H locs) : gB D cl A H0 C (M ++ [a, d]) H locs := gPerm (by
  rw [List.append_assoc]
  refine List.Perm.append_left _ ?_
  show ([d] ++ (M ++ [a])).Perm (M ++ ([a] ++ [d]))
  rw [← List.append_assoc M]
  exact List.perm_append_comm) h
theorem lpM (h : gB D cl A H0 C (M ++ X) H locs) : gB D cl A H0 M (C ++ X) H locs := gPerm (List.perm_append_comm_assoc _ _ _) h
theorem lpO (h : gB D cl A H0 C (M ++ X) H locs) : gB D cl A H0 X (C ++ M) H locs := gPerm (by rw [← List.append_assoc]; exact List.perm_append_comm) h
theorem gWSW {own : String} {idx : Nat} {y : MethodName} {cc : ByteArray} {n : Nat} {ret : Option FieldType} {hh : List (Nat × Nat × Nat × Nat)} {k : Cond} (h1 : Cond.methodLink own idx y ∈ wsL_law) (h2 : Cond.static y ∈ wsL_law) (h4 : Cond.initialized y.cls ∈ wsL_law) (h5 : Cond.codeWith y cc n ret hh ∈ wsL_law) : GoodIn (k :: wsL_law) (va_wsS own idx y (Cond.codeWith y cc n ret hh :: wsL_law)) := by
  intro w hw
  have hm : w ∈ wsL_law := by
    simp only [va_wsS, List.cons_append, List.nil_append, List.mem_cons] at hw
    rcases hw with rfl | rfl | rfl | rfl | hw <;> assumption
  exact ⟨List.mem_cons_of_mem _ hm, gW_good w hm⟩
theorem gCallSW {w w' : va_W} {y : MethodName} {bytes : ByteArray} {maxL mc ms n index : Nat} {ret : Option FieldType} {hh : List (Nat × Nat × Nat × Nat)} {ws : List Cond} {rm : Room} {As : List Value} {v : Option Value} (S : CallFix p m c cc nL s args Ts own) (hK : va_K D cl tys s) (hc : gC KS) (hKS : KS A s) (hA : ∀ q, s.heap.size ≤ q → A q) (hM : gMet l y ws rm mc ms D cl tys KS As w w' v) (cw : vx_CSW R s args own index y bytes maxL ret hh ws rm mc ms n) (hB : gB D cl A s.heap w X H locs)
    (hn : As.length = n) (hsize : ls.size = nL) (hst : st = As.reverse ++ rest) (hW : 2 * (F0 m pc ls st).monitorRoom + (rest.map fun v => v.category).sum ≤ 8) (hdg : decode cc pc = .ok (.invokestatic index, 3)) (hf : cells + mc ≤ R.cells ∧ slots + ms ≤ R.slots)
    (kk : ∀ (H1 : Heap) (locs1 : List Loc), gB D cl A s.heap w' X H1 locs1 → W p l e R s m args below meth c H1 locs1 (cells + mc) (slots + ms) Q (F0 m (pc + 3) ls (v.toList ++ rest))) : W p l e R s m args below meth c H locs cells slots Q (F0 m pc ls st) :=
  gBack (y := y) (cont := fun v => F0 m (pc + 3) ls (v.toList ++ rest)) (vx_runSW S (hM H.size) cw ⟨gBlind hc, gPreOf hc hB hA hK hKS⟩ rfl hn hsize hst hW hdg hf) hB (gAw hB hA) kk
end LW
theorem upd0 {f : Nat → Int64} {x : Int64} : vp_updL f 0 x (0 : Int32).toNatClampNeg = x := rfl
theorem upd0D {f : Nat → UInt64} {x : UInt64} : vf_upd f 0 x (0 : Int32).toNatClampNeg = x := rfl
