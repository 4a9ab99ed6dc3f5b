-- the names of a program, and what its items make of them
abbrev EnvN : Type := Nat × (Nat → Int64) × (Nat → Nat) × (Nat → Nat) × (Nat → Nat) × (Nat → Nat → Den) × (Nat → Int64) × (Nat → Int32)
def EnvN.nn (E : EnvN) : Nat := E.1
def EnvN.wd (E : EnvN) : Nat → Int64 := E.2.1
def EnvN.so (E : EnvN) : Nat → Nat := E.2.2.1
def EnvN.no (E : EnvN) : Nat → Nat := E.2.2.2.1
def EnvN.ct (E : EnvN) : Nat → Nat := E.2.2.2.2.1
def EnvN.dn (E : EnvN) : Nat → Nat → Den := E.2.2.2.2.2.1
def EnvN.fi (E : EnvN) : Nat → Int64 := E.2.2.2.2.2.2.1
def EnvN.lv (E : EnvN) : Nat → Int32 := E.2.2.2.2.2.2.2
def EnvN.none : EnvN := (0, fun _ => 0, fun _ => 0, fun _ => 0, fun _ => 0, fun _ _ => (zV, zR), fun _ => 0, fun _ => 0)
def eUp {α : Type} (f : Nat → α) (i : Nat) (x : α) : Nat → α := fun j => if j = i then x else f j
theorem eUp_s {α : Type} {f : Nat → α} {i : Nat} {x : α} : eUp f i x i = x := if_pos rfl
theorem eUp_n {α : Type} {f : Nat → α} {i j : Nat} {x : α} (h : j ≠ i) : eUp f i x j = f j := if_neg h
def EnvN.add (E : EnvN) (w : Int64) (s : Nat) (D : Den) (v : Int64) (l : Int32) : EnvN :=
  (E.nn + 1, eUp E.wd E.nn w, eUp E.so E.nn s, eUp E.no E.nn (E.ct s), eUp E.ct s (E.ct s + 1), fun a => if a = s then eUp (E.dn a) (E.ct s) D else E.dn a, if s = 0 then eUp E.fi (E.ct 0) v else E.fi, if s = 3 then eUp E.lv (E.ct 3) l else E.lv)
def lkE (E : EnvN) (w : Int64) : Nat → Option (Int32 × Int32 × Den)
  | 0 => .none
  | n+1 => if E.wd n = w then some (nI (E.so n), nI (E.no n), E.dn (E.so n) (E.no n)) else lkE E w n
def gmE (E : EnvN) : Int64 → Option (Int32 × Int32 × Den) := fun w => lkE E w E.nn
theorem lkE_none {E : EnvN} {w : Int64} : ∀ n, lkE E w n = .none ↔ ∀ j, j < n → E.wd j ≠ w
  | 0 => ⟨fun _ j h => by omega, fun _ => rfl⟩
  | n+1 => by
    rw [lkE]
    by_cases e : E.wd n = w
    · rw [if_pos e]
      exact ⟨fun h => (by cases h), fun h => absurd e (h n (by omega))⟩
    · rw [if_neg e, lkE_none n]
      refine ⟨fun h j hj => ?_, fun h j hj => h j (by omega)⟩
      by_cases e2 : j = n
      · rw [e2]; exact e
      · exact h j (by omega)
theorem lkE_some {E : EnvN} {w : Int64} {s n : Int32} {D : Den} : ∀ m, lkE E w m = some (s, n, D) → ∃ j, j < m ∧ E.wd j = w ∧ s = nI (E.so j) ∧ n = nI (E.no j) ∧ D = E.dn (E.so j) (E.no j)
  | 0, h => by cases h
  | m+1, h => by
    rw [lkE] at h
    by_cases e : E.wd m = w
    · rw [if_pos e] at h
      have h := Option.some.inj h
      exact ⟨m, by omega, e, (Prod.ext_iff.mp h).1.symm, (Prod.ext_iff.mp (Prod.ext_iff.mp h).2).1.symm, (Prod.ext_iff.mp (Prod.ext_iff.mp h).2).2.symm⟩
    · rw [if_neg e] at h
      obtain ⟨j, hj, q⟩ := lkE_some m h
      exact ⟨j, by omega, q⟩
/-- how many of a sort there can be -/
def capE (s : Nat) : Nat := if s = 0 then 8 else 12
def EnvOK (E : EnvN) : Prop := E.nn = E.ct 0 + E.ct 1 + E.ct 2 + E.ct 3 ∧ (∀ s, s < 4 → E.ct s ≤ capE s) ∧ (∀ j, j < E.nn → E.so j < 4 ∧ E.no j < E.ct (E.so j)) ∧ ∀ i j, i < E.nn → j < E.nn → E.wd i = E.wd j → i = j
theorem EnvOK.none : EnvOK EnvN.none := ⟨rfl, fun s _ => Nat.zero_le _, fun j h => absurd h (Nat.not_lt_zero _), fun i j h => absurd h (Nat.not_lt_zero _)⟩
theorem EnvOK.nn44 {E : EnvN} (h : EnvOK E) : E.nn ≤ 44 := by
  obtain ⟨h1, h2, -, -⟩ := h
  have a := h2 0 (by omega)
  have b := h2 1 (by omega)
  have c := h2 2 (by omega)
  have d := h2 3 (by omega)
  simp only [capE] at a b c d
  simp at a b c d
  omega
theorem EnvOK.lt44 {E : EnvN} (h : EnvOK E) {s : Nat} (hs : s < 4) (hc : E.ct s < capE s) : E.nn < 44 := by
  obtain ⟨h1, h2, -, -⟩ := h
  have a := h2 0 (by omega)
  have b := h2 1 (by omega)
  have c := h2 2 (by omega)
  have d := h2 3 (by omega)
  have : s = 0 ∨ s = 1 ∨ s = 2 ∨ s = 3 := by omega
  rcases this with rfl | rfl | rfl | rfl <;> simp [capE] at a b c d hc <;> omega
theorem EnvOK.add {E : EnvN} {w : Int64} {s : Nat} {D : Den} {v : Int64} {l : Int32} (h : EnvOK E) (hs : s < 4) (hc : E.ct s < capE s) (hw : gmE E w = .none) : EnvOK (E.add w s D v l) := by
  obtain ⟨h1, h2, h3, h4⟩ := h
  have hn := (lkE_none _).mp hw
  refine ⟨?_, fun t ht => ?_, fun j hj => ?_, fun i j hi hj e => ?_⟩
  · show E.nn + 1 = eUp E.ct s (E.ct s + 1) 0 + eUp E.ct s (E.ct s + 1) 1 + eUp E.ct s (E.ct s + 1) 2 + eUp E.ct s (E.ct s + 1) 3
    have : s = 0 ∨ s = 1 ∨ s = 2 ∨ s = 3 := by omega
    rcases this with rfl | rfl | rfl | rfl <;> simp [eUp] <;> omega
  · show eUp E.ct s (E.ct s + 1) t ≤ _
    by_cases e : t = s
    · rw [e, eUp_s]; exact hc
    · rw [eUp_n e]; exact h2 t ht
  · show eUp E.so E.nn s j < 4 ∧ eUp E.no E.nn (E.ct s) j < eUp E.ct s (E.ct s + 1) (eUp E.so E.nn s j)
    by_cases e : j = E.nn
    · rw [e, eUp_s, eUp_s, eUp_s]; exact ⟨hs, by omega⟩
    · have hj2 : j < E.nn := by have : j < E.nn + 1 := hj; omega
      rw [eUp_n e, eUp_n e]
      obtain ⟨a, b⟩ := h3 j hj2
      refine ⟨a, ?_⟩
      by_cases e2 : E.so j = s
      · rw [e2, eUp_s]; rw [e2] at b; omega
      · rw [eUp_n e2]; exact b
  · have e : eUp E.wd E.nn w i = eUp E.wd E.nn w j := e
    have hi : i < E.nn + 1 := hi
    have hj : j < E.nn + 1 := hj
    by_cases e1 : i = E.nn
    · by_cases e2 : j = E.nn
      · omega
      · rw [e1, eUp_s, eUp_n e2] at e
        exact absurd e.symm (hn j (by omega))
    · by_cases e2 : j = E.nn
      · rw [e2, eUp_s, eUp_n e1] at e
        exact absurd e (hn i (by omega))
      · rw [eUp_n e1, eUp_n e2] at e
        exact h4 i j (by omega) (by omega) e
/-- an item's form, and what its formula means -/
def itC (s : Int32) : Int32 := if s = 3 then 37 else if s = 1 then 38 else 44
def lvM (c : Cx) (k : Nat) (a : MV) : MV := match a with
  | .error e => .error e
  | .ok D => if nb c k ≤ 9 then .ok D else .error (5, c.2.1 k)
def iBody (c : Cx) (s : Int32) (k3 : Nat) : Option Rs :=
  if s = 0 then (if c.1 k3 = 40 then go k3 fun k4 => ex c 52 k4 fun k5 => ex c 36 k5 fun k6 => some (k6, some (.ok (zV, zR))) else ex c 52 k3 fun k5 => ex c 36 k5 fun k6 => some (k6, some (.ok (zV, zR))))
  else if s = 2 then rb (spX c 700 4 0 k3) fun k4 a => ex c 36 k4 fun k5 => some (k5, some a)
  else if s = 1 then rb (spX c 700 0 0 k3) fun k4 a => ex c 36 k4 fun k5 => some (k5, some a)
  else rb (spX c 700 0 0 k3) fun k4 a => if c.1 k4 = 4 then go k4 fun k5 => ex c 52 k5 fun k6 => ex c 36 k6 fun k7 => some (k7, some (lvM c k5 a)) else ex c 36 k4 fun k5 => some (k5, some a)
def iForm (c : Cx) (k : Nat) : Option Rs :=
  if c.1 k = 0 ∨ c.1 k = 1 ∨ c.1 k = 2 ∨ c.1 k = 3 then go k fun k1 => ex c 51 k1 fun k2 => ex c (itC (c.1 k)) k2 fun k3 => iBody c (c.1 k) k3 else some (k, none)
theorem totBody {c : Cx} {s : Int32} {k : Nat} (hk : k ≤ 400) : Tot (iBody c s k) (k + 1) := by
  obtain ⟨t0, t4⟩ := tot700 (c := c) hk
  rw [iBody]
  by_cases e0 : s = 0
  · rw [if_pos e0]
    by_cases e : c.1 k = 40
    · rw [if_pos e]; exact totGo hk fun h1 => totEx h1 fun h2 => totEx h2 fun h3 => totRet (by omega) h3
    · rw [if_neg e]; exact totEx hk fun h2 => totEx h2 fun h3 => totRet (by omega) h3
  rw [if_neg e0]
  by_cases e2 : s = 2
  · rw [if_pos e2]; exact totRb t4 fun k4 a h1 h2 => totEx h2 fun h3 => totRet (by omega) h3
  rw [if_neg e2]
  by_cases e1 : s = 1
  · rw [if_pos e1]; exact totRb t0 fun k4 a h1 h2 => totEx h2 fun h3 => totRet (by omega) h3
  rw [if_neg e1]
  refine totRb t0 fun k4 a h1 h2 => ?_
  by_cases e : c.1 k4 = 4
  · rw [if_pos e]; exact totGo h2 fun h3 => totEx h3 fun h4 => totEx h4 fun h5 => totRet (by omega) h5
  · rw [if_neg e]; exact totEx h2 fun h3 => totRet (by omega) h3
theorem totForm {c : Cx} {k : Nat} (hk : k ≤ 400) : Tot (iForm c k) (k + 4) := by
  rw [iForm]
  split
  · exact totGo hk fun h1 => totEx h1 fun h2 => totEx h2 fun h3 => totMono (totBody h3) (by omega)
  · exact totFail
/-- what an item makes of the names -/
def iFi (c : Cx) (k : Nat) : Int64 := if c.1 (k + 3) = 40 then -(c.2.2.1 (k + 4)) else c.2.2.1 (k + 3)
def iLv (c : Cx) (k : Nat) : Int32 := match spX c 700 0 0 (k + 3) with
  | some (k1, _) => if c.1 k1 = 4 then nb c (k1 + 1) else 5
  | none => 5
def soK (s : Int32) : Nat := if s = 0 then 0 else if s = 1 then 1 else if s = 2 then 2 else 3
def iPre (E : EnvN) (c : Cx) (k : Nat) : Option En := if capE (soK (c.1 k)) ≤ E.ct (soK (c.1 k)) then some (4, c.2.1 k) else if gmE E (c.2.2.1 (k + 1)) = none then none else some (3, c.2.1 (k + 1))
def iAdd (E : EnvN) (c : Cx) (k : Nat) (m : MV) : Except En EnvN := match iPre E c k with
  | some e => .error e
  | none => match m with
    | .error e => .error e
    | .ok D => .ok (E.add (c.2.2.1 (k + 1)) (soK (c.1 k)) D (iFi c k) (iLv c k))
abbrev Tk : Type := (Nat → Int32) × (Nat → Int32) × (Nat → Int64)
def cxE (t : Tk) (X : Except En EnvN) : Cx := (t.1, t.2.1, t.2.2, match X with
  | .error _ => fun _ => none
  | .ok E => gmE E)
def xAdd (t : Tk) (X : Except En EnvN) (k : Nat) (m : MV) : Except En EnvN := match X with
  | .error e => .error e
  | .ok E => iAdd E (cxE t (.ok E)) k m
def xEnd (t : Tk) (X : Except En EnvN) (k : Nat) : Except En EnvN := match X with
  | .error e => .error e
  | .ok E => if E.ct 3 = 0 then .error (6, t.2.1 k) else .ok E
abbrev Ps : Type := Nat × Option (Except En EnvN)
/-- a whole program -/
def pgm (t : Tk) : Nat → Except En EnvN → Nat → Option Ps
  | 0, _, _ => none
  | n+1, X, k => match iForm (cxE t X) k with
    | none => none
    | some (k', none) => some (k', none)
    | some (k', some m) => if t.1 k' = 53 then some (k', some (xEnd t (xAdd t X k m) k')) else pgm t n (xAdd t X k m) k'
theorem pgm_tot {t : Tk} : ∀ (n : Nat) (X : Except En EnvN) (k : Nat), k ≤ 400 → 401 ≤ n + k → ∃ r, pgm t n X k = some r
  | 0, X, k, hk, hn => by omega
  | n+1, X, k, hk, hn => by
    rw [pgm]
    obtain ⟨⟨k', o⟩, e, p⟩ := totForm (c := cxE t X) hk
    rw [e]
    cases o with
    | none => exact ⟨_, rfl⟩
    | some m =>
      obtain ⟨p1, p2⟩ := p m rfl
      have p1 : k + 4 ≤ k' := p1
      show ∃ r, (if t.1 k' = 53 then some (k', some (xEnd t (xAdd t X k m) k')) else pgm t n (xAdd t X k m) k') = some r
      by_cases h : t.1 k' = 53
      · rw [if_pos h]; exact ⟨_, rfl⟩
      · rw [if_neg h]; exact pgm_tot n _ k' p2 (by omega)
section RI
variable {σ : MS} {L len k : Nat} {kw : Nat → Int64} {bt : Nat → Int32} {c : Cx}
theorem Qf_end1 {m : MV} (h : TkE kw bt len L c σ) (hk : Rk c.1 k) : Qf c σ (ex c 36 k fun k5 => some (k5, some m)) (b2 (FX11_takes L 4 (aM σ k)) fun r s => if r = 0 then some ((0 : Int32), s) else some ((1 : Int32), s)) :=
  Qf_ex_4 (g := fun s => some ((1 : Int32), s)) h hk (fun _ hk2 => Qf_end hk2)
theorem Qf_end41 {m : MV} (h : TkE kw bt len L c σ) (hk : Rk c.1 k) : Qf c σ (ex c 52 k fun k5 => ex c 36 k5 fun k6 => some (k6, some m)) (FX11_item_41 L (aM σ k)) := by
  rw [FX11_item_41]
  exact Qf_exNum (g := fun s => b2 (FX11_takes L 4 s) fun r s => if r = 0 then some ((0 : Int32), s) else some ((1 : Int32), s)) h hk (fun _ hk2 => Qf_end1 h hk2)
theorem dSC1_700 : dSC1 = 700 := rfl
theorem rTk_1 (h : TkE kw bt len L c σ) (hk : Rk c.1 k) : FX11_takes L 1 (aM σ k) = if c.1 k = 0 ∧ k ≠ 400 then some ((1 : Int32), aM σ (k + 1)) else some ((0 : Int32), aM σ k) := by
  have h4 := hk.1
  rw [FX11_takes, rSees_1 h hk, b2r, ibI]
  by_cases e : c.1 k = 0
  · rw [if_pos (decide_eq_true e), rGoes h4]
    by_cases e2 : k = 400
    · rw [if_pos e2, b2r, if_pos rfl, if_neg (fun q => q.2 e2)]
    · rw [if_neg e2, b2r, if_neg (show ¬ ((1 : Int32) = 0) by decide), if_pos ⟨e, e2⟩]
  · rw [if_neg (by simp [e]), if_neg (fun q => e q.1)]
theorem rTk_5 (h : TkE kw bt len L c σ) (hk : Rk c.1 k) : FX11_takes L 5 (aM σ k) = if c.1 k = 1 ∧ k ≠ 400 then some ((1 : Int32), aM σ (k + 1)) else some ((0 : Int32), aM σ k) := by
  have h4 := hk.1
  rw [FX11_takes, rSees_5 h hk, b2r, ibI]
  by_cases e : c.1 k = 1
  · rw [if_pos (decide_eq_true e), rGoes h4]
    by_cases e2 : k = 400
    · rw [if_pos e2, b2r, if_pos rfl, if_neg (fun q => q.2 e2)]
    · rw [if_neg e2, b2r, if_neg (show ¬ ((1 : Int32) = 0) by decide), if_pos ⟨e, e2⟩]
  · rw [if_neg (by simp [e]), if_neg (fun q => e q.1)]
theorem rTk_7 (h : TkE kw bt len L c σ) (hk : Rk c.1 k) : FX11_takes L 7 (aM σ k) = if c.1 k = 2 ∧ k ≠ 400 then some ((1 : Int32), aM σ (k + 1)) else some ((0 : Int32), aM σ k) := by
  have h4 := hk.1
  rw [FX11_takes, rSees_7 h hk, b2r, ibI]
  by_cases e : c.1 k = 2
  · rw [if_pos (decide_eq_true e), rGoes h4]
    by_cases e2 : k = 400
    · rw [if_pos e2, b2r, if_pos rfl, if_neg (fun q => q.2 e2)]
    · rw [if_neg e2, b2r, if_neg (show ¬ ((1 : Int32) = 0) by decide), if_pos ⟨e, e2⟩]
  · rw [if_neg (by simp [e]), if_neg (fun q => e q.1)]
theorem rTk_8 (h : TkE kw bt len L c σ) (hk : Rk c.1 k) : FX11_takes L 8 (aM σ k) = if c.1 k = 3 ∧ k ≠ 400 then some ((1 : Int32), aM σ (k + 1)) else some ((0 : Int32), aM σ k) := by
  have h4 := hk.1
  rw [FX11_takes, rSees_8 h hk, b2r, ibI]
  by_cases e : c.1 k = 3
  · rw [if_pos (decide_eq_true e), rGoes h4]
    by_cases e2 : k = 400
    · rw [if_pos e2, b2r, if_pos rfl, if_neg (fun q => q.2 e2)]
    · rw [if_neg e2, b2r, if_neg (show ¬ ((1 : Int32) = 0) by decide), if_pos ⟨e, e2⟩]
  · rw [if_neg (by simp [e]), if_neg (fun q => e q.1)]
/-- the reference's form of an item -/
theorem rItem (h : TkE kw bt len L c σ) (hk : Rk c.1 k) : Qf c σ (iForm c k) (FX11_item L (aM σ k)) := by
  have F := formOK h 700
  have h4 := hk.1
  have d4 : dSC1 = 700 := rfl
  rw [FX11_item, rTk_1 h hk, iForm, d4]
  by_cases e4 : k = 400
  · have z : ∀ s : Int32, ¬ (c.1 k = s ∧ k ≠ 400) := fun s q => q.2 e4
    rw [if_neg (z 0), b2r, if_pos rfl, rTk_5 h hk, if_neg (z 1), b2r, if_pos rfl, rTk_7 h hk, if_neg (z 2), b2r, if_pos rfl, rTk_8 h hk, if_neg (z 3), b2r, if_pos rfl]
    have : (if c.1 k = 0 ∨ c.1 k = 1 ∨ c.1 k = 2 ∨ c.1 k = 3 then go k fun k1 => ex c 51 k1 fun k2 => ex c (itC (c.1 k)) k2 fun k3 => iBody c (c.1 k) k3 else some (k, none)) = some (k, none) := by
      split
      · rw [go, if_pos e4]
      · rfl
    rw [this]
    exact Qf_fail hk
  have nx : ∀ s, c.1 k = s → s ≠ 53 → s ≠ 54 → Rk c.1 (k + 1) := fun s hs h1 h2 => hk.next e4 (by rw [hs]; exact h1) (by rw [hs]; exact h2)
  by_cases e0 : c.1 k = 0
  · rw [if_pos (show c.1 k = 0 ∧ k ≠ 400 from ⟨e0, e4⟩), b2r, if_neg (show ¬ ((1 : Int32) = 0) by decide), if_pos (show c.1 k = 0 ∨ c.1 k = 1 ∨ c.1 k = 2 ∨ c.1 k = 3 from Or.inl e0), go, if_neg e4, e0]
    refine Qf_exName h (nx _ e0 (by decide) (by decide)) (fun _ hk2 => ?_)
    rw [show itC 0 = 44 by decide]
    refine Qf_ex_2 h hk2 (fun _ hk3 => ?_)
    rw [iBody, if_pos rfl, rSees_3 h hk3, b2r, ibI]
    by_cases e40 : c.1 (k + 1 + 1 + 1) = 40
    · rw [if_pos e40, if_pos (decide_eq_true e40)]
      refine Qf_go (g := FX11_item_41 L) hk3 e40 (by decide) (by decide) (fun hk5 => ?_)
      exact Qf_end41 h hk5
    · rw [if_neg e40, if_neg (by simp [e40])]
      exact Qf_end41 h hk3
  rw [if_neg (show ¬ (c.1 k = 0 ∧ k ≠ 400) from fun q => e0 q.1), b2r, if_pos rfl, rTk_5 h hk]
  by_cases e1 : c.1 k = 1
  · rw [if_pos (show c.1 k = 1 ∧ k ≠ 400 from ⟨e1, e4⟩), b2r, if_neg (show ¬ ((1 : Int32) = 0) by decide), if_pos (show c.1 k = 0 ∨ c.1 k = 1 ∨ c.1 k = 2 ∨ c.1 k = 3 from Or.inr (Or.inl e1)), go, if_neg e4, e1]
    refine Qf_exName h (nx _ e1 (by decide) (by decide)) (fun _ hk2 => ?_)
    rw [show itC 1 = 38 by decide]
    refine Qf_ex_6 h hk2 (fun _ hk3 => ?_)
    rw [iBody, if_neg (by decide), if_neg (by decide), if_pos rfl]
    refine Qf_rb (F 0 _ (by omega) hk3).1 (fun k4 a hk4 => ?_)
    exact Qf_end1 h hk4
  rw [if_neg (show ¬ (c.1 k = 1 ∧ k ≠ 400) from fun q => e1 q.1), b2r, if_pos rfl, rTk_7 h hk]
  by_cases e2 : c.1 k = 2
  · rw [if_pos (show c.1 k = 2 ∧ k ≠ 400 from ⟨e2, e4⟩), b2r, if_neg (show ¬ ((1 : Int32) = 0) by decide), if_pos (show c.1 k = 0 ∨ c.1 k = 1 ∨ c.1 k = 2 ∨ c.1 k = 3 from Or.inr (Or.inr (Or.inl e2))), go, if_neg e4, e2]
    refine Qf_exName h (nx _ e2 (by decide) (by decide)) (fun _ hk2 => ?_)
    rw [show itC 2 = 44 by decide]
    refine Qf_ex_2 h hk2 (fun _ hk3 => ?_)
    rw [iBody, if_neg (by decide), if_pos rfl]
    refine Qf_rb (F 0 _ (by omega) hk3).2.2.2.2.2.1 (fun k4 a hk4 => ?_)
    exact Qf_end1 h hk4
  rw [if_neg (show ¬ (c.1 k = 2 ∧ k ≠ 400) from fun q => e2 q.1), b2r, if_pos rfl, rTk_8 h hk]
  by_cases e3 : c.1 k = 3
  · rw [if_pos (show c.1 k = 3 ∧ k ≠ 400 from ⟨e3, e4⟩), b2r, if_neg (show ¬ ((1 : Int32) = 0) by decide), if_pos (show c.1 k = 0 ∨ c.1 k = 1 ∨ c.1 k = 2 ∨ c.1 k = 3 from Or.inr (Or.inr (Or.inr e3))), go, if_neg e4, e3]
    refine Qf_exName h (nx _ e3 (by decide) (by decide)) (fun _ hk2 => ?_)
    rw [show itC 3 = 37 by decide]
    refine Qf_ex_9 h hk2 (fun _ hk3 => ?_)
    rw [iBody, if_neg (by decide), if_neg (by decide), if_neg (by decide)]
    refine Qf_rb (F 0 _ (by omega) hk3).1 (fun k4 a hk4 => ?_)
    rw [rSees_10 h hk4, b2r, ibI]
    by_cases e5 : c.1 k4 = 4
    · rw [if_pos e5, if_pos (decide_eq_true e5)]
      refine Qf_go hk4 e5 (by decide) (by decide) (fun hk5 => ?_)
      refine Qf_exNum h hk5 (fun _ hk6 => ?_)
      exact Qf_end1 h hk6
    · rw [if_neg e5, if_neg (by simp [e5])]
      exact Qf_end1 h hk4
  rw [if_neg (show ¬ (c.1 k = 3 ∧ k ≠ 400) from fun q => e3 q.1), b2r, if_pos rfl, if_neg (show ¬ (c.1 k = 0 ∨ c.1 k = 1 ∨ c.1 k = 2 ∨ c.1 k = 3) by simp [e0, e1, e2, e3])]
  exact Qf_fail hk
/-- the reference's form of a program -/
theorem rProgram {t : Tk} (h : ∀ X, TkE kw bt len L (cxE t X) σ) (hL : 1000 ≤ L) : ∀ (n f : Nat) (X : Except En EnvN) (k : Nat) (r : Ps), n < f → Rk t.1 k → pgm t n X k = some r → FX11_program_0 L f (aM σ k) = some (bI r.2.isSome, aM σ r.1) ∧ Rk t.1 r.1
  | 0, _, _, _, _, _, _, hr => by cases hr
  | n+1, f, X, k, r, hf, hk, hr => by
    obtain ⟨f, rfl⟩ : ∃ z, f = z + 1 := ⟨f - 1, by omega⟩
    rw [pgm] at hr
    rw [FX11_program_0]
    have q := rItem (h X) hk
    obtain ⟨⟨k', o⟩, e, p⟩ := totForm (c := cxE t X) hk.1
    obtain ⟨q1, q2⟩ := q _ e
    rw [e] at hr
    rw [q1, b2r]
    have q2 : Rk t.1 k' := q2
    have h400 := q2.1
    cases o with
    | none =>
      have hr : some (k', none) = some r := hr
      obtain rfl := Option.some.inj hr
      exact ⟨rfl, q2⟩
    | some m =>
      have hr : (if t.1 k' = 53 then some (k', some (xEnd t (xAdd t X k m) k')) else pgm t n (xAdd t X k m) k') = some r := hr
      rw [show bI (Option.isSome (some m)) = 1 from rfl, if_neg (by decide)]
      show (if ((aM σ k').1 7 < 0 ∨ 1801 ≤ ((aM σ k').1 7).toNatClampNeg) then none else if ((aM σ k').2.1 4 ((aM σ k').1 7).toNatClampNeg) = 0 then some ((1 : Int32), aM σ k') else FX11_program_0 L f (aM σ k')) = _ ∧ _
      rw [aM_7, if_neg (nI_in (show k' < 1801 by omega) (by decide)), nI_clamp (by omega)]
      by_cases e5 : t.1 k' = 53
      · rw [if_pos e5] at hr
        obtain rfl := Option.some.inj hr
        rw [if_pos ((rKind0 (h X) q2).mpr e5)]
        exact ⟨rfl, q2⟩
      · rw [if_neg e5] at hr
        rw [if_neg (fun z => e5 ((rKind0 (h X) q2).mp z))]
        exact rProgram h hL n f _ k' r (by omega) q2 hr
end RI
