-- what a row of tokens means: the grammar once more, with meanings, in one go
abbrev En : Type := Int32 × Int32
abbrev MV : Type := Except En Den
abbrev Rs : Type := Nat × Option MV
/-- tokens (sorts, places, worths) and names -/
abbrev Cx : Type := (Nat → Int32) × (Nat → Int32) × (Nat → Int64) × (Int64 → Option (Int32 × Int32 × Den))
abbrev RX : Type := Nat → Nat → Nat → Option Rs
def go (k : Nat) (f : Nat → Option Rs) : Option Rs := if k = 400 then some (k, none) else f (k + 1)
def rb (x : Option Rs) (f : Nat → MV → Option Rs) : Option Rs := match x with
  | none => none
  | some (k, none) => some (k, none)
  | some (k, some m) => f k m
def ex (c : Cx) (s : Int32) (k : Nat) (f : Nat → Option Rs) : Option Rs := if c.1 k = s then go k f else some (k, none)
def mo1 (g : Den → Den) (a : MV) : MV := match a with
  | .error e => .error e
  | .ok x => .ok (g x)
def mo2 (g : Den → Den → Den) (a b : MV) : MV := match a with
  | .error e => .error e
  | .ok x => mo1 (g x) b
def mo3 (g : Den → Den → Den → Den) (a b c : MV) : MV := match a with
  | .error e => .error e
  | .ok x => mo2 (g x) b c
def mvB (g : Int32 → Int32 → Den → Den) (b : Except En (Int32 × Int32)) (a : MV) : MV := match b with
  | .error e => .error e
  | .ok q => mo1 (g q.1 q.2) a
def mvS (g : Int32 → Int32 → Den → Den → Den) (a : MV) (b : Except En (Int32 × Int32)) (a2 : MV) : MV := match a with
  | .error e => .error e
  | .ok x => mvB (fun lo hi => g lo hi x) b a2
def zV : Vl := fun _ _ => 0
def zR : Rz := fun _ i => (0, nI i)
def dFront (s pl lo hi : Int32) (a : Den) : Den := (oV (s - 5) 0 lo hi 0 a.1 zV zV, oR (s - 5) lo hi pl a.1 a.2 zR)
def dCon (kd pl : Int32) : Den := (oV kd 0 0 (-1) 0 zV zV zV, oR kd 0 (-1) pl zV zR zR)
def dCmp (s pl : Int32) (a b : Den) : Den := (oV 9 0 0 (-1) (s - 44) a.1 b.1 zV, oR 9 0 (-1) pl zV zR zR)
def dSince (pl lo hi : Int32) (a b : Den) : Den := (oV 10 0 lo hi 0 a.1 b.1 zV, oR 10 lo hi pl zV zR zR)
def dAnd (a b : Den) : Den := (oV 11 0 0 (-1) 0 a.1 b.1 zV, oR 11 0 (-1) 0 a.1 a.2 b.2)
def dOr (a b : Den) : Den := (oV 12 0 0 (-1) 0 a.1 b.1 zV, oR 12 0 (-1) 0 zV zR b.2)
def dImV (A : Vl) (b : Den) : Den := (oV 13 0 0 (-1) 0 A b.1 zV, b.2)
def dImp (a b : Den) : Den := dImV a.1 b
def dVal (kd a th : Int32) (A B C : Vl) : Den := (oV kd a 0 (-1) th A B C, zR)
def dBin (s : Int32) (a b : Den) : Den := dVal 34 0 (s - 39) a.1 b.1 zV
def dUn (kd : Int32) (a : Den) : Den := dVal kd 0 0 a.1 zV zV
def dAt (a b : Den) : Den := dVal 32 0 0 a.1 b.1 zV
def dIf (a b c : Den) : Den := dVal 33 0 0 a.1 b.1 c.1
def nb (c : Cx) (k : Nat) : Int32 := (c.2.2.1 k).toInt32
def pFormula (c : Cx) (rc : RX) (D k : Nat) : Option Rs :=
  rb (rc 1 D k) fun k1 a => if c.1 k1 = 14 then go k1 fun k2 => rb (rc 0 D k2) fun k3 b => some (k3, some (mo2 dImp a b)) else some (k1, some a)
def pRowL (c : Cx) (rc : RX) (X : Nat) (s : Int32) (g : Den → Den → Den) (D : Nat) : Nat → Nat → MV → Option Rs
  | 0, _, _ => none
  | n+1, k, a => if c.1 k = s then go k fun k2 => rb (rc X D k2) fun k3 b => pRowL c rc X s g D n k3 (mo2 g a b) else some (k, some a)
def pRow1 (c : Cx) (rc : RX) (D k : Nat) : Option Rs := rb (rc 8 D k) fun k1 a => pRowL c rc 8 13 dOr D 400 k1 a
def pRow8 (c : Cx) (rc : RX) (D k : Nat) : Option Rs := rb (rc 2 D k) fun k1 a => pRowL c rc 2 12 dAnd D 400 k1 a
def bdM (c : Cx) (k1 k3 : Nat) : Except En (Int32 × Int32) := if nb c k1 ≤ 1000 then (if 1000 < nb c k3 ∨ nb c k3 < nb c k1 then .error (5, c.2.1 k3) else .ok (nb c k1, nb c k3)) else .error (5, c.2.1 k1)
def pBnd (c : Cx) (k : Nat) (f : Nat → Except En (Int32 × Int32) → Option Rs) : Option Rs :=
  if c.1 k = 34 then go k fun k1 => ex c 52 k1 fun k2 => ex c 50 k2 fun k3 => ex c 52 k3 fun k4 => ex c 35 k4 fun k5 => f k5 (bdM c k1 k3) else f k (.ok (0, -1))
def pSince (c : Cx) (rc : RX) (D k : Nat) : Option Rs :=
  rb (rc 3 D k) fun k1 a => if c.1 k1 = 11 then go k1 fun k2 => pBnd c k2 fun k3 bd => rb (rc 3 D k3) fun k4 b => some (k4, some (mvS (dSince (c.2.1 k)) a bd b)) else some (k1, some a)
def pBraces (c : Cx) (rc : RX) (D k : Nat) : Option Rs :=
  if c.1 k = 32 then (if 10 ≤ D then some (k, none) else go k fun k1 => rc 0 (D + 1) k1) else some (k, none)
def pBraced (c : Cx) (x : Option Rs) (f : Nat → MV → Option Rs) : Option Rs := rb x fun k2 a => ex c 33 k2 fun k3 => f k3 a
def nmF (c : Cx) (k : Nat) : MV := match c.2.2.2 (c.2.2.1 k) with
  | some q => if q.1 = 1 ∨ q.1 = 3 then .ok q.2.2 else .error (2, c.2.1 k)
  | none => .error (2, c.2.1 k)
def nmV' (c : Cx) (k : Nat) : MV := match c.2.2.2 (c.2.2.1 k) with
  | some q => if q.1 = 0 then .ok (dVal 21 q.2.1 0 zV zV zV) else if q.1 = 2 then .ok q.2.2 else .error (2, c.2.1 k)
  | none => .error (2, c.2.1 k)
def pOne (c : Cx) (rc : RX) (D k : Nat) : Option Rs :=
  if c.1 k = 5 ∨ c.1 k = 6 ∨ c.1 k = 7 ∨ c.1 k = 8 then (if 10 ≤ D then some (k, none) else go k fun k1 => rb (rc 3 (D + 1) k1) fun k3 a => some (k3, some (mvB (dFront (c.1 k) (c.2.1 k)) (.ok (0, -1)) a)))
  else if c.1 k = 9 ∨ c.1 k = 10 then (if 10 ≤ D then some (k, none) else go k fun k1 => pBnd c k1 fun k2 bd => rb (rc 3 (D + 1) k2) fun k3 a => some (k3, some (mvB (dFront (c.1 k) (c.2.1 k)) bd a)))
  else if c.1 k = 32 then pBraced c (pBraces c rc D k) fun k3 a => some (k3, some a)
  else if c.1 k = 16 then go k fun k1 => some (k1, some (.ok (dCon 6 (c.2.1 k))))
  else if c.1 k = 17 then go k fun k1 => some (k1, some (.ok (dCon 7 (c.2.1 k))))
  else if c.1 k = 15 then go k fun k1 => ex c 51 k1 fun k2 => some (k2, some (nmF c k1))
  else rb (rc 4 D k) fun k1 a => if 44 ≤ (c.1 k1).toInt ∧ (c.1 k1).toInt ≤ 49 then go k1 fun k2 => rb (rc 4 D k2) fun k3 b => some (k3, some (mo2 (dCmp (c.1 k1) (c.2.1 k)) a b)) else some (k1, none)
def pBinL (c : Cx) (rc : RX) (X : Nat) (lo hi : Int) (D : Nat) : Nat → Nat → MV → Option Rs
  | 0, _, _ => none
  | n+1, k, a => if lo ≤ (c.1 k).toInt ∧ (c.1 k).toInt ≤ hi then go k fun k2 => rb (rc X D k2) fun k3 b => pBinL c rc X lo hi D n k3 (mo2 (dBin (c.1 k)) a b) else some (k, some a)
def pExpr (c : Cx) (rc : RX) (D k : Nat) : Option Rs := rb (rc 5 D k) fun k1 a => pBinL c rc 5 39 40 D 400 k1 a
def pProd (c : Cx) (rc : RX) (D k : Nat) : Option Rs := rb (rc 7 D k) fun k1 a => pBinL c rc 7 41 43 D 400 k1 a
def unK (s : Int32) : Int32 := if s = 40 then 25 else s + 5
def pFactor (c : Cx) (rc : RX) (D k : Nat) : Option Rs :=
  if c.1 k = 52 then go k fun k1 => some (k1, some (.ok (dVal 20 (nb c k) 0 zV zV zV)))
  else if c.1 k = 51 then go k fun k1 => some (k1, some (nmV' c k))
  else if c.1 k = 28 then go k fun k1 => some (k1, some (.ok (dVal 23 0 0 zV zV zV)))
  else if c.1 k = 29 then go k fun k1 => some (k1, some (.ok (dVal 24 0 0 zV zV zV)))
  else if c.1 k = 30 then (if 10 ≤ D then some (k, none) else go k fun k1 => rb (rc 4 (D + 1) k1) fun k2 a => ex c 31 k2 fun k3 => some (k3, some a))
  else if c.1 k = 40 ∨ c.1 k = 21 ∨ c.1 k = 22 ∨ c.1 k = 23 ∨ c.1 k = 24 then (if 10 ≤ D then some (k, none) else go k fun k1 => rb (rc 7 (D + 1) k1) fun k2 a => some (k2, some (mo1 (dUn (unK (c.1 k))) a)))
  else if c.1 k = 25 then go k fun k1 => pBraced c (rc 6 D k1) fun k3 a => some (k3, some (mo1 (dUn 30) a))
  else if c.1 k = 27 then go k fun k1 => pBraced c (rc 6 D k1) fun k3 a => some (k3, some (mo1 (dUn 31) a))
  else if c.1 k = 26 then go k fun k1 => pBraced c (rc 6 D k1) fun k3 a => rb (rc 7 (D + 1) k3) fun k4 b => some (k4, some (mo2 dAt a b))
  else if c.1 k = 18 then go k fun k1 => pBraced c (rc 6 D k1) fun k3 a => ex c 19 k3 fun k4 => rb (rc 7 (D + 1) k4) fun k5 b => ex c 20 k5 fun k6 => rb (rc 7 (D + 1) k6) fun k7 e => some (k7, some (mo3 dIf a b e))
  else some (k, none)
def spX (c : Cx) : Nat → RX
  | 0 => fun _ _ _ => none
  | d+1 => fun X D k => if X = 0 then pFormula c (spX c d) D k else if X = 1 then pRow1 c (spX c d) D k else if X = 2 then pSince c (spX c d) D k else if X = 3 then pOne c (spX c d) D k else if X = 4 then pExpr c (spX c d) D k else if X = 5 then pProd c (spX c d) D k else if X = 6 then pBraces c (spX c d) D k else if X = 7 then pFactor c (spX c d) D k else if X = 8 then pRow8 c (spX c d) D k else none
/-- from a token that is bad, or one too many, nothing goes on -/
def Un (S : Nat → Int32) (k : Nat) : Prop := S k = 54 ∨ (k = 400 ∧ S k ≠ 53)
theorem go_un {k : Nat} {f : Nat → Option Rs} (h : k = 400) : go k f = some (k, none) := by rw [go, if_pos h]
theorem un_lit {S : Nat → Int32} {k : Nat} {s : Int32} (hu : Un S k) (h : S k = s) (h1 : s ≠ 54) : k = 400 := by
  rcases hu with e | e
  · exact absurd (h.symm.trans e) h1
  · exact e.1
theorem doomed {c : Cx} {k : Nat} (hu : Un c.1 k) : ∀ (d X D : Nat) (r : Rs), spX c d X D k = some r → r = (k, none)
  | 0, _, _, _, h => by cases h
  | d+1, X, D, r, h => by
    have ih := fun X D r => doomed (c := c) hu d X D r
    have rbI : ∀ {X D f}, rb (spX c d X D k) f = some r → r = (k, none) := by
      intro X D f h
      cases e : spX c d X D k with
      | none => rw [e] at h; cases h
      | some q => rw [e, ih X D q e] at h; exact (Option.some.inj h).symm
    have goI : ∀ {s f}, c.1 k = s → s ≠ 54 → go k f = some r → r = (k, none) := by
      intro s f h1 h2 h
      rw [go_un (un_lit hu h1 h2)] at h; exact (Option.some.inj h).symm
    simp only [spX] at h
    repeat' (split at h)
    · exact rbI h
    · exact rbI h
    · exact rbI h
    · unfold pOne at h
      by_cases c1 : c.1 k = 5 ∨ c.1 k = 6 ∨ c.1 k = 7 ∨ c.1 k = 8
      · rw [if_pos c1] at h
        split at h
        · exact (Option.some.inj h).symm
        · rcases c1 with e | e | e | e <;> exact goI e (by decide) h
      rw [if_neg c1] at h
      by_cases c2 : c.1 k = 9 ∨ c.1 k = 10
      · rw [if_pos c2] at h
        split at h
        · exact (Option.some.inj h).symm
        · rcases c2 with e | e <;> exact goI e (by decide) h
      rw [if_neg c2] at h
      by_cases c3 : c.1 k = 32
      · rw [if_pos c3] at h
        unfold pBraced pBraces at h
        rw [if_pos c3] at h
        split at h
        · exact (Option.some.inj h).symm
        · rw [go_un (un_lit hu c3 (by decide))] at h; exact (Option.some.inj h).symm
      rw [if_neg c3] at h
      by_cases c4 : c.1 k = 16
      · rw [if_pos c4] at h; exact goI c4 (by decide) h
      rw [if_neg c4] at h
      by_cases c5 : c.1 k = 17
      · rw [if_pos c5] at h; exact goI c5 (by decide) h
      rw [if_neg c5] at h
      by_cases c6 : c.1 k = 15
      · rw [if_pos c6] at h; exact goI c6 (by decide) h
      rw [if_neg c6] at h
      exact rbI h
    · exact rbI h
    · exact rbI h
    · unfold pBraces at h
      by_cases c3 : c.1 k = 32
      · rw [if_pos c3] at h
        split at h
        · exact (Option.some.inj h).symm
        · exact goI c3 (by decide) h
      · rw [if_neg c3] at h; exact (Option.some.inj h).symm
    · unfold pFactor at h
      by_cases c52 : c.1 k = 52
      · rw [if_pos c52] at h; exact goI c52 (by decide) h
      rw [if_neg c52] at h
      by_cases c51 : c.1 k = 51
      · rw [if_pos c51] at h; exact goI c51 (by decide) h
      rw [if_neg c51] at h
      by_cases c28 : c.1 k = 28
      · rw [if_pos c28] at h; exact goI c28 (by decide) h
      rw [if_neg c28] at h
      by_cases c29 : c.1 k = 29
      · rw [if_pos c29] at h; exact goI c29 (by decide) h
      rw [if_neg c29] at h
      by_cases c30 : c.1 k = 30
      · rw [if_pos c30] at h
        split at h
        · exact (Option.some.inj h).symm
        · exact goI c30 (by decide) h
      rw [if_neg c30] at h
      by_cases c40 : c.1 k = 40 ∨ c.1 k = 21 ∨ c.1 k = 22 ∨ c.1 k = 23 ∨ c.1 k = 24
      · rw [if_pos c40] at h
        split at h
        · exact (Option.some.inj h).symm
        · rcases c40 with e | e | e | e | e <;> exact goI e (by decide) h
      rw [if_neg c40] at h
      by_cases c25 : c.1 k = 25
      · rw [if_pos c25] at h; exact goI c25 (by decide) h
      rw [if_neg c25] at h
      by_cases c27 : c.1 k = 27
      · rw [if_pos c27] at h; exact goI c27 (by decide) h
      rw [if_neg c27] at h
      by_cases c26 : c.1 k = 26
      · rw [if_pos c26] at h; exact goI c26 (by decide) h
      rw [if_neg c26] at h
      by_cases c18 : c.1 k = 18
      · rw [if_pos c18] at h; exact goI c18 (by decide) h
      rw [if_neg c18] at h
      exact (Option.some.inj h).symm
    · exact rbI h
    · cases h
