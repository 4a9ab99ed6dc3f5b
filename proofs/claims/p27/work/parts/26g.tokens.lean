-- the tape cut into tokens, as both do it
def bAt (bt : Nat → Int32) (len p : Nat) : Int32 := if p < len then bt p else -1
def isL (x : Int32) : Bool := decide (¬ x < 97) && decide (¬ 122 < x)
def isD (x : Int32) : Bool := decide (¬ x < 48) && decide (¬ 57 < x)
def runF (c : Nat → Bool) : Nat → Nat → Nat
  | 0, p => p
  | f+1, p => if c p then runF c f (p + 1) else p
def run (c : Nat → Bool) (len p : Nat) : Nat := runF c (len + 1 - p) p
theorem run_t {c : Nat → Bool} {len p : Nat} (hp : p < len) (h : c p = true) : run c len p = run c len (p + 1) := by
  unfold run
  rw [show len + 1 - p = (len + 1 - (p + 1)) + 1 by omega, runF, if_pos h]
theorem run_f {c : Nat → Bool} {len p : Nat} (h : c p = false) : run c len p = p := by
  unfold run
  cases len + 1 - p with
  | zero => rfl
  | succ k => rw [runF, if_neg (by rw [h]; decide)]
theorem run_ge {c : Nat → Bool} {len : Nat} (hc : ∀ p, len ≤ p → c p = false) : ∀ (d p : Nat), p + d = len → p ≤ run c len p ∧ run c len p ≤ len ∧ c (run c len p) = false ∧ ∀ j, p ≤ j → j < run c len p → c j = true := by
  intro d
  induction d with
  | zero =>
    intro p hp
    have := hc p (by omega)
    rw [run_f this]
    exact ⟨Nat.le_refl _, by omega, this, fun j h1 h2 => by omega⟩
  | succ d ih =>
    intro p hp
    cases h : c p with
    | false => rw [run_f h]; exact ⟨Nat.le_refl _, by omega, h, fun j h1 h2 => by omega⟩
    | true =>
      obtain ⟨h1, h2, h3, h4⟩ := ih (p + 1) (by omega)
      rw [run_t (by omega) h]
      refine ⟨by omega, h2, h3, fun j h5 h6 => ?_⟩
      by_cases e : j = p
      · rw [e]; exact h
      · exact h4 j (by omega) h6
def cB (bt : Nat → Int32) (len p : Nat) : Bool := decide (bAt bt len p = 32) || decide (bAt bt len p = 10)
def cW (bt : Nat → Int32) (len p : Nat) : Bool := isL (bAt bt len p) || isD (bAt bt len p)
def cD (bt : Nat → Int32) (len p : Nat) : Bool := isD (bAt bt len p)
theorem bAt_out {bt : Nat → Int32} {len p : Nat} (h : len ≤ p) : bAt bt len p = -1 := if_neg (by omega)
theorem bAt_in {bt : Nat → Int32} {len p : Nat} (h : p < len) : bAt bt len p = bt p := if_pos h
theorem cB_out {bt : Nat → Int32} {len : Nat} : ∀ p, len ≤ p → cB bt len p = false := fun p h => by rw [cB, bAt_out h]; decide
theorem cW_out {bt : Nat → Int32} {len : Nat} : ∀ p, len ≤ p → cW bt len p = false := fun p h => by rw [cW, bAt_out h]; decide
theorem cD_out {bt : Nat → Int32} {len : Nat} : ∀ p, len ≤ p → cD bt len p = false := fun p h => by rw [cD, bAt_out h]; decide
def vV (m : Int64) (g : Nat → Int64) : Nat → Int64
  | 0 => 0
  | n+1 => vV m g n * m + g n
def wdV (bt : Nat → Int32) (p n : Nat) : Int64 := vV 256 (fun i => (bt (p + i)).toInt64) n
def nmV (bt : Nat → Int32) (p n : Nat) : Int64 := vV 10 (fun i => (bt (p + i) - 48).toInt64) n
def kwF (kw : Nat → Int64) (w : Int64) : Nat → Nat → Int32
  | 0, _ => 51
  | n+1, j => if kw j = w then nI j else kwF kw w n (j + 1)
def kwS (kw : Nat → Int64) (w : Int64) : Int32 := kwF kw w 30 0
def s2 (x y : Int32) : Int32 := if y = 61 then (if x = 58 then 38 else if x = 60 then 48 else if x = 62 then 49 else 54) else if x = 60 ∧ y = 62 then 45 else if x = 46 ∧ y = 46 then 50 else 54
def s1 (x : Int32) : Int32 := if x = 37 then 43 else if x = 40 then 30 else if x = 41 then 31 else if x = 42 then 41 else if x = 43 then 39 else if x = 45 then 40 else if x = 47 then 42 else if x = 58 then 37 else if x = 59 then 36 else if x = 60 then 46 else if x = 61 then 44 else if x = 62 then 47 else if x = 91 then 34 else if x = 93 then 35 else if x = 123 then 32 else if x = 125 then 33 else 54
theorem s2_e {x y : Int32} : FX9_symbolOfTwo x y = some (s2 x y) := by
  unfold FX9_symbolOfTwo FX9_symbolOfTwo_67 s2
  by_cases h1 : y = 61
  · subst h1
    by_cases a : x = 58
    · subst a; rfl
    by_cases b : x = 60
    · subst b; rfl
    by_cases c : x = 62
    · subst c; rfl
    simp [a, b, c]
  · by_cases b : x = 60
    · subst b
      by_cases c : y = 62 <;> simp [h1, c]
    · by_cases c : x = 46
      · subst c
        by_cases d : y = 46 <;> simp [h1, d]
      · simp [h1, b, c]
theorem s1_e {x : Int32} : FX9_symbolOfOne x = some (s1 x) := by
  unfold FX9_symbolOfOne s1
  by_cases h37 : x = 37
  · subst h37; rfl
  rw [if_neg h37, if_neg h37]
  by_cases h40 : x = 40
  · subst h40; rfl
  rw [if_neg h40, if_neg h40]
  by_cases h41 : x = 41
  · subst h41; rfl
  rw [if_neg h41, if_neg h41]
  by_cases h42 : x = 42
  · subst h42; rfl
  rw [if_neg h42, if_neg h42]
  by_cases h43 : x = 43
  · subst h43; rfl
  rw [if_neg h43, if_neg h43]
  by_cases h45 : x = 45
  · subst h45; rfl
  rw [if_neg h45, if_neg h45]
  by_cases h47 : x = 47
  · subst h47; rfl
  rw [if_neg h47, if_neg h47]
  by_cases h58 : x = 58
  · subst h58; rfl
  rw [if_neg h58, if_neg h58]
  by_cases h59 : x = 59
  · subst h59; rfl
  rw [if_neg h59, if_neg h59]
  by_cases h60 : x = 60
  · subst h60; rfl
  rw [if_neg h60, if_neg h60]
  by_cases h61 : x = 61
  · subst h61; rfl
  rw [if_neg h61, if_neg h61]
  by_cases h62 : x = 62
  · subst h62; rfl
  rw [if_neg h62, if_neg h62]
  by_cases h91 : x = 91
  · subst h91; rfl
  rw [if_neg h91, if_neg h91]
  by_cases h93 : x = 93
  · subst h93; rfl
  rw [if_neg h93, if_neg h93]
  by_cases h123 : x = 123
  · subst h123; rfl
  rw [if_neg h123, if_neg h123]
  by_cases h125 : x = 125
  · subst h125; rfl
  rw [if_neg h125, if_neg h125]
def sC (kw : Nat → Int64) (bt : Nat → Int32) (len p : Nat) : Int32 :=
  if bAt bt len p = -1 then 53
  else if isL (bAt bt len p) then (if 8 < run (cW bt len) len p - p then 54 else kwS kw (wdV bt p (run (cW bt len) len p - p)))
  else if isD (bAt bt len p) then (if 6 < run (cD bt len) len p - p then 54 else 52)
  else if s2 (bAt bt len p) (bAt bt len (p + 1)) = 54 then s1 (bAt bt len p) else s2 (bAt bt len p) (bAt bt len (p + 1))
def eC (bt : Nat → Int32) (len p : Nat) : Nat :=
  if bAt bt len p = -1 then p
  else if isL (bAt bt len p) then run (cW bt len) len p
  else if isD (bAt bt len p) then run (cD bt len) len p
  else if s2 (bAt bt len p) (bAt bt len (p + 1)) = 54 then p + 1 else p + 2
def wC (bt : Nat → Int32) (len p : Nat) : Int64 :=
  if isL (bAt bt len p) then wdV bt p (run (cW bt len) len p - p) else nmV bt p (run (cD bt len) len p - p)
def qC (bt : Nat → Int32) (len : Nat) : Nat → Nat
  | 0 => 0
  | n+1 => eC bt len (run (cB bt len) len (qC bt len n))
def pC (bt : Nat → Int32) (len n : Nat) : Nat := run (cB bt len) len (qC bt len n)
theorem qC_s {bt : Nat → Int32} {len n : Nat} : qC bt len (n + 1) = eC bt len (pC bt len n) := rfl
/-- bytes are bytes -/
def okBt (bt : Nat → Int32) (len : Nat) : Prop := len ≤ 1800 ∧ ∀ k, k < len → ∃ b, b < 256 ∧ bt k = nI b
theorem bAt_end {bt : Nat → Int32} {len p : Nat} (h : okBt bt len) : bAt bt len p = -1 ↔ len ≤ p := by
  constructor
  · intro e
    by_cases hp : p < len
    · rw [bAt_in hp] at e
      obtain ⟨b, hb, e2⟩ := h.2 p hp
      rw [e2] at e
      exact absurd e (nI_n1 (by omega))
    · omega
  · exact bAt_out
theorem s2_out {x y : Int32} (h : s2 x y ≠ 54) : y ≠ -1 := fun e => h (by subst e; unfold s2; rw [if_neg (by decide), if_neg (fun e => absurd e.2 (by decide)), if_neg (fun e => absurd e.2 (by decide))])
theorem eC_le {bt : Nat → Int32} {len p : Nat} (h : okBt bt len) (hp : p ≤ len) : p ≤ eC bt len p ∧ eC bt len p ≤ len ∧ (p < len → p < eC bt len p) := by
  unfold eC
  by_cases c : bAt bt len p = -1
  · rw [if_pos c]; exact ⟨Nat.le_refl _, hp, fun hl => absurd ((bAt_end h).mp c) (by omega)⟩
  rw [if_neg c]
  have hl : p < len := by
    by_cases hl : p < len
    · exact hl
    · exact absurd (bAt_out (by omega)) c
  by_cases c1 : isL (bAt bt len p) = true
  · rw [if_pos c1]
    obtain ⟨h1, h2, h3, h4⟩ := run_ge (c := cW bt len) cW_out (len - p) p (by omega)
    refine ⟨h1, h2, fun _ => ?_⟩
    have : cW bt len p = true := by rw [cW, c1]; rfl
    have := run_t hl this
    obtain ⟨g1, -⟩ := run_ge (c := cW bt len) cW_out (len - (p + 1)) (p + 1) (by omega)
    omega
  rw [if_neg c1]
  by_cases c2 : isD (bAt bt len p) = true
  · rw [if_pos c2]
    obtain ⟨h1, h2, h3, h4⟩ := run_ge (c := cD bt len) cD_out (len - p) p (by omega)
    refine ⟨h1, h2, fun _ => ?_⟩
    have := run_t (c := cD bt len) hl c2
    obtain ⟨g1, -⟩ := run_ge (c := cD bt len) cD_out (len - (p + 1)) (p + 1) (by omega)
    omega
  rw [if_neg c2]
  by_cases c3 : s2 (bAt bt len p) (bAt bt len (p + 1)) = 54
  · rw [if_pos c3]; omega
  · rw [if_neg c3]
    have := s2_out c3
    have : p + 1 < len := by
      by_cases hl : p + 1 < len
      · exact hl
      · exact absurd (bAt_out (by omega)) this
    omega
theorem pC_le {bt : Nat → Int32} {len : Nat} (h : okBt bt len) : ∀ n, qC bt len n ≤ len ∧ qC bt len n ≤ pC bt len n ∧ pC bt len n ≤ len ∧ cB bt len (pC bt len n) = false
  | 0 => by
    obtain ⟨h1, h2, h3, -⟩ := run_ge (c := cB bt len) cB_out len 0 (by omega)
    exact ⟨Nat.zero_le _, h1, h2, h3⟩
  | n+1 => by
    obtain ⟨-, -, h3, -⟩ := pC_le h n
    obtain ⟨e1, e2, -⟩ := eC_le h h3
    have hq : qC bt len (n + 1) ≤ len := e2
    obtain ⟨h1, h2, h3, -⟩ := run_ge (c := cB bt len) cB_out (len - qC bt len (n + 1)) (qC bt len (n + 1)) (by omega)
    exact ⟨hq, h1, h2, h3⟩
/-- the sorts and places of the tokens -/
def tkS (kw : Nat → Int64) (bt : Nat → Int32) (len : Nat) : Nat → Int32 := fun n => sC kw bt len (pC bt len n)
def tkW (bt : Nat → Int32) (len : Nat) : Nat → Int64 := fun n => wC bt len (pC bt len n)
/-- a token that is reached: none ahead of it is an end or bad -/
def Rk (S : Nat → Int32) (k : Nat) : Prop := k ≤ 400 ∧ ∀ j, j < k → S j ≠ 53 ∧ S j ≠ 54
def tS (S : Nat → Int32) (k : Nat) : Int32 := if k = 400 ∧ S k ≠ 53 then 54 else S k
-- the class reads them
section TC
variable {τ : CS} {L len : Nat}
theorem tI_id {σ : CS} {k : Nat} {v : Int32} (h : σ.1 k = v) : tI σ k v = σ := by
  show ((va_up σ.1 k v, σ.2) : CS) = σ
  have : va_up σ.1 k v = σ.1 := by
    funext j; unfold va_up; by_cases e : j = k
    · rw [if_pos e, e, h]
    · rw [if_neg e]
  rw [this]
theorem tI_tI {σ : CS} {k : Nat} {v w : Int32} : tI (tI σ k v) k w = tI σ k w := by
  show ((va_up (va_up σ.1 k v) k w, σ.2) : CS) = _
  rw [va_upup]
theorem isL_e {x : Int32} : FX9_isLetter x = some (bI (isL x)) := by
  unfold FX9_isLetter isL
  by_cases h : x < 97
  · simp [h, bI]
  · by_cases h2 : 122 < x <;> simp [h, h2, bI]
theorem isD_e {x : Int32} : FX9_isDigit x = some (bI (isD x)) := by
  unfold FX9_isDigit isD
  by_cases h : x < 48
  · simp [h, bI]
  · by_cases h2 : 57 < x <;> simp [h, h2, bI]
theorem cByte (hlen : τ.1 101 = nI len) (hl : len ≤ 1800) {p : Nat} (hp : p < 2 ^ 30) : FX8_byteAt (nI p) τ = some (bAt (τ.2.2.1 3) len p, τ) := by
  rw [FX8_byteAt, hlen]
  by_cases h : p < len
  · rw [if_neg (fun e => by rw [nI_leI (by omega) (by omega)] at e; omega), bAt_in h, gI (by omega) (by decide)]
  · rw [if_pos (nI_le (by omega) (by omega)), bAt_out (by omega)]
theorem cSkip (hlen : τ.1 101 = nI len) (hl : len ≤ 1800) : ∀ (d p fuel : Nat), p + d = len → d < fuel → FX9_skipBlanks_0 L fuel (tI τ 405 (nI p)) = some ((), tI τ 405 (nI (run (cB (τ.2.2.1 3) len) len p))) := by
  intro d
  induction d with
  | zero =>
    intro p fuel hp hf
    obtain ⟨q, rfl⟩ : ∃ z, fuel = z + 1 := ⟨fuel - 1, by omega⟩
    have e1 : (tI τ 405 (nI p)).1 405 = nI p := tI_g
    have e2 : (tI τ 405 (nI p)).1 101 = nI len := by rw [← hlen]; exact tI_o (by decide)
    rw [FX9_skipBlanks_0, e1, e2, if_pos (nI_le (by omega) (by omega)), run_f (cB_out p (by omega))]
  | succ d ih =>
    intro p fuel hp hf
    obtain ⟨q, rfl⟩ : ∃ z, fuel = z + 1 := ⟨fuel - 1, by omega⟩
    have e1 : (tI τ 405 (nI p)).1 405 = nI p := tI_g
    have e2 : (tI τ 405 (nI p)).1 101 = nI len := by rw [← hlen]; exact tI_o (by decide)
    have ih := ih (p + 1) q (by omega) (by omega)
    have cb := cByte (τ := tI τ 405 (nI p)) e2 hl (p := p) (by omega)
    rw [FX9_skipBlanks_0, e1, e2, if_neg (fun e => by rw [nI_leI (by omega) (by omega)] at e; omega), cb, b2r]
    show (if bAt (τ.2.2.1 3) len p = 32 then _ else _) = _
    by_cases c1 : bAt (τ.2.2.1 3) len p = 32
    · rw [if_pos c1, e1, ← nI_succ, tI_tI, ih, ← run_t (by omega) (by simp [cB, c1])]
    · rw [if_neg c1, e1, cb, b2r]
      show (if bAt (τ.2.2.1 3) len p = 10 then _ else _) = _
      by_cases c2 : bAt (τ.2.2.1 3) len p = 10
      · rw [if_pos c2, e1, ← nI_succ, tI_tI, ih, ← run_t (by omega) (by simp [cB, c2])]
      · rw [if_neg c2, run_f (by simp [cB, c1, c2])]
theorem cSortW {kw : Nat → Int64} (hkw : τ.2.2.2.1 6 = kw) {w : Int64} : ∀ (n j fuel : Nat), j + n = 30 → n < fuel → FX9_sortOfWord_2 L fuel w (nI j) τ = some (kwF kw w n j, τ) := by
  intro n
  induction n with
  | zero =>
    intro j fuel hj hf
    obtain ⟨q, rfl⟩ : ∃ z, fuel = z + 1 := ⟨fuel - 1, by omega⟩
    rw [FX9_sortOfWord_2, if_pos (by rw [show (30 : Int32) = nI 30 from rfl, nI_leI (by omega) (by omega)]; omega)]; rfl
  | succ n ih =>
    intro j fuel hj hf
    obtain ⟨q, rfl⟩ : ∃ z, fuel = z + 1 := ⟨fuel - 1, by omega⟩
    rw [FX9_sortOfWord_2, if_neg (by rw [show (30 : Int32) = nI 30 from rfl, nI_leI (by omega) (by omega)]; omega), gL (by omega) (by decide), hkw, kwF]
    by_cases c : kw j = w
    · rw [if_pos c, if_pos c]
    · rw [if_neg c, if_neg c, ← nI_succ]; exact ih (j + 1) q (by omega) (by omega)
/-- what a reading of tokens leaves as it is -/
def FrR (τ τ' : CS) : Prop := (∀ k, k ≠ 405 → τ'.1 k = τ.1 k) ∧ τ'.2.1 = τ.2.1 ∧ (∀ k, k ≠ 8 → k ≠ 10 → τ'.2.2.1 k = τ.2.2.1 k) ∧ (∀ k, k ≠ 12 → τ'.2.2.2.1 k = τ.2.2.2.1 k) ∧ τ'.2.2.2.2 = τ.2.2.2.2
theorem FrR.refl : FrR τ τ := ⟨fun _ _ => rfl, rfl, fun _ _ _ => rfl, fun _ _ => rfl, rfl⟩
theorem FrR.trans {a b c : CS} (h : FrR a b) (g : FrR b c) : FrR a c := ⟨fun k hk => (g.1 k hk).trans (h.1 k hk), g.2.1.trans h.2.1, fun k h1 h2 => (g.2.2.1 k h1 h2).trans (h.2.2.1 k h1 h2), fun k hk => (g.2.2.2.1 k hk).trans (h.2.2.2.1 k hk), g.2.2.2.2.trans h.2.2.2.2⟩
theorem FrR.place {p : Int32} : FrR τ (tI τ 405 p) := ⟨fun k hk => tI_o hk, rfl, fun _ _ _ => rfl, fun _ _ => rfl, rfl⟩
theorem FrR.sorts {f : Nat → Int32} : FrR τ (tA τ 8 f) := ⟨fun _ _ => rfl, rfl, fun k h1 _ => up_n h1, fun _ _ => rfl, rfl⟩
theorem FrR.starts {f : Nat → Int32} : FrR τ (tA τ 10 f) := ⟨fun _ _ => rfl, rfl, fun k _ h2 => up_n h2, fun _ _ => rfl, rfl⟩
theorem FrR.worths {f : Nat → Int64} : FrR τ (tB τ 12 f) := ⟨fun _ _ => rfl, rfl, fun _ _ _ => rfl, fun k h => up_n h, rfl⟩
theorem cWord {kw : Nat → Int64} (hkw : τ.2.2.2.1 6 = kw) (hlen : τ.1 101 = nI len) (hl : len ≤ 1800) (hL : 2000 ≤ L) {n p0 : Nat} (hn : n < 401) : ∀ (d p fuel : Nat), p + d = len → p0 ≤ p → d < fuel → FX9_readWord_7 L fuel (nI n) (nI p0) (wdV (τ.2.2.1 3) p0 (p - p0)) (tI τ 405 (nI p)) = some (if 8 < run (cW (τ.2.2.1 3) len) len p - p0 then 54 else kwS kw (wdV (τ.2.2.1 3) p0 (run (cW (τ.2.2.1 3) len) len p - p0)), tB (tI τ 405 (nI (run (cW (τ.2.2.1 3) len) len p))) 12 (vp_updL (τ.2.2.2.1 12) n (wdV (τ.2.2.1 3) p0 (run (cW (τ.2.2.1 3) len) len p - p0)))) := by
  intro d
  have fin : ∀ p, p0 ≤ p → p ≤ len → FX9_readWord_87 L (nI n) (nI p0) (wdV (τ.2.2.1 3) p0 (p - p0)) (tI τ 405 (nI p)) = some (if 8 < p - p0 then 54 else kwS kw (wdV (τ.2.2.1 3) p0 (p - p0)), tB (tI τ 405 (nI p)) 12 (vp_updL (τ.2.2.2.1 12) n (wdV (τ.2.2.1 3) p0 (p - p0)))) := by
    intro p hp hpl
    have e1 : (tI τ 405 (nI p)).1 405 = nI p := tI_g
    rw [FX9_readWord_87, e1, nI_sub hp, pL hn (by decide)]
    by_cases c : 8 < p - p0
    · rw [if_neg (fun e => by rw [show (8 : Int32) = nI 8 from rfl, nI_leI (by omega) (by omega)] at e; omega), if_pos c]
    · rw [if_pos (by rw [show (8 : Int32) = nI 8 from rfl, nI_leI (by omega) (by omega)]; omega), if_neg c, FX9_sortOfWord]
      have := cSortW (τ := tB (tI τ 405 (nI p)) 12 (vp_updL (τ.2.2.2.1 12) n (wdV (τ.2.2.1 3) p0 (p - p0)))) (L := L) (kw := kw) (by rw [← hkw]; exact tB_o (σ := tI τ 405 (nI p)) (k := 12) (j := 6) (by decide)) (w := wdV (τ.2.2.1 3) p0 (p - p0)) 30 0 L (by omega) (by omega)
      rw [show (0 : Int32) = nI 0 from rfl]
      show b2 (FX9_sortOfWord_2 L L (wdV (τ.2.2.1 3) p0 (p - p0)) (nI 0) (tB (tI τ 405 (nI p)) 12 (vp_updL (τ.2.2.2.1 12) n (wdV (τ.2.2.1 3) p0 (p - p0))))) _ = _
      rw [this, b2r]; rfl
  induction d with
  | zero =>
    intro p fuel hp hp0 hf
    obtain ⟨q, rfl⟩ : ∃ z, fuel = z + 1 := ⟨fuel - 1, by omega⟩
    have e1 : (tI τ 405 (nI p)).1 405 = nI p := tI_g
    have e2 : (tI τ 405 (nI p)).1 101 = nI len := by rw [← hlen]; exact tI_o (by decide)
    rw [FX9_readWord_7, e1, e2, if_pos (nI_le (by omega) (by omega)), run_f (cW_out p (by omega))]
    exact fin p hp0 (by omega)
  | succ d ih =>
    intro p fuel hp hp0 hf
    obtain ⟨q, rfl⟩ : ∃ z, fuel = z + 1 := ⟨fuel - 1, by omega⟩
    have e1 : (tI τ 405 (nI p)).1 405 = nI p := tI_g
    have e2 : (tI τ 405 (nI p)).1 101 = nI len := by rw [← hlen]; exact tI_o (by decide)
    have ih := ih (p + 1) q (by omega) (by omega) (by omega)
    have cb := cByte (τ := tI τ 405 (nI p)) e2 hl (p := p) (by omega)
    have next : cW (τ.2.2.1 3) len p = true → FX9_readWord_55 L (FX9_readWord_7 L q) (nI n) (nI p0) (wdV (τ.2.2.1 3) p0 (p - p0)) (tI τ 405 (nI p)) = some (if 8 < run (cW (τ.2.2.1 3) len) len p - p0 then 54 else kwS kw (wdV (τ.2.2.1 3) p0 (run (cW (τ.2.2.1 3) len) len p - p0)), tB (tI τ 405 (nI (run (cW (τ.2.2.1 3) len) len p))) 12 (vp_updL (τ.2.2.2.1 12) n (wdV (τ.2.2.1 3) p0 (run (cW (τ.2.2.1 3) len) len p - p0)))) := by
      intro hc
      rw [FX9_readWord_55, e1, cb, b2r, e1, ← nI_succ, tI_tI, run_t (by omega) hc, ← ih]
      congr 1
      show wdV (τ.2.2.1 3) p0 (p - p0) * 256 + (bAt (τ.2.2.1 3) len p).toInt64 = wdV (τ.2.2.1 3) p0 (p + 1 - p0)
      rw [show p + 1 - p0 = (p - p0) + 1 by omega, bAt_in (by omega)]
      show _ = vV 256 _ (p - p0) * 256 + (τ.2.2.1 3 (p0 + (p - p0))).toInt64
      rw [show p0 + (p - p0) = p by omega]; rfl
    rw [FX9_readWord_7, e1, e2, if_neg (fun e => by rw [nI_leI (by omega) (by omega)] at e; omega), cb, b2r, isL_e]
    show (if bI (isL (bAt (τ.2.2.1 3) len p)) = 0 then _ else _) = _
    rw [ibI]
    by_cases c1 : isL (bAt (τ.2.2.1 3) len p) = true
    · rw [if_pos c1]; exact next (by rw [cW, c1]; rfl)
    · rw [if_neg c1, e1, cb, b2r, isD_e]
      show (if bI (isD (bAt (τ.2.2.1 3) len p)) = 0 then _ else _) = _
      rw [ibI]
      by_cases c2 : isD (bAt (τ.2.2.1 3) len p) = true
      · rw [if_pos c2]; exact next (by rw [cW, c2, Bool.or_true])
      · rw [if_neg c2, run_f (by simp [cW, c1, c2])]
        exact fin p hp0 (by omega)
theorem cNumber (hlen : τ.1 101 = nI len) (hl : len ≤ 1800) {n p0 : Nat} (hn : n < 401) : ∀ (d p fuel : Nat), p + d = len → p0 ≤ p → d < fuel → FX9_readNumber_7 L fuel (nI n) (nI p0) (nmV (τ.2.2.1 3) p0 (p - p0)) (tI τ 405 (nI p)) = some (if 6 < run (cD (τ.2.2.1 3) len) len p - p0 then 54 else 52, tB (tI τ 405 (nI (run (cD (τ.2.2.1 3) len) len p))) 12 (vp_updL (τ.2.2.2.1 12) n (nmV (τ.2.2.1 3) p0 (run (cD (τ.2.2.1 3) len) len p - p0)))) := by
  intro d
  have fin : ∀ p, p0 ≤ p → p ≤ len → FX9_readNumber_73 L (nI n) (nI p0) (nmV (τ.2.2.1 3) p0 (p - p0)) (tI τ 405 (nI p)) = some (if 6 < p - p0 then 54 else 52, tB (tI τ 405 (nI p)) 12 (vp_updL (τ.2.2.2.1 12) n (nmV (τ.2.2.1 3) p0 (p - p0)))) := by
    intro p hp hpl
    have e1 : (tI τ 405 (nI p)).1 405 = nI p := tI_g
    rw [FX9_readNumber_73, e1, nI_sub hp, pL hn (by decide)]
    by_cases c : 6 < p - p0
    · rw [if_neg (fun e => by rw [show (6 : Int32) = nI 6 from rfl, nI_leI (by omega) (by omega)] at e; omega), if_pos c]
    · rw [if_pos (by rw [show (6 : Int32) = nI 6 from rfl, nI_leI (by omega) (by omega)]; omega), if_neg c]
  induction d with
  | zero =>
    intro p fuel hp hp0 hf
    obtain ⟨q, rfl⟩ : ∃ z, fuel = z + 1 := ⟨fuel - 1, by omega⟩
    have e1 : (tI τ 405 (nI p)).1 405 = nI p := tI_g
    have e2 : (tI τ 405 (nI p)).1 101 = nI len := by rw [← hlen]; exact tI_o (by decide)
    rw [FX9_readNumber_7, e1, e2, if_pos (nI_le (by omega) (by omega)), run_f (cD_out p (by omega))]
    exact fin p hp0 (by omega)
  | succ d ih =>
    intro p fuel hp hp0 hf
    obtain ⟨q, rfl⟩ : ∃ z, fuel = z + 1 := ⟨fuel - 1, by omega⟩
    have e1 : (tI τ 405 (nI p)).1 405 = nI p := tI_g
    have e2 : (tI τ 405 (nI p)).1 101 = nI len := by rw [← hlen]; exact tI_o (by decide)
    have ih := ih (p + 1) q (by omega) (by omega) (by omega)
    have cb := cByte (τ := tI τ 405 (nI p)) e2 hl (p := p) (by omega)
    rw [FX9_readNumber_7, e1, e2, if_neg (fun e => by rw [nI_leI (by omega) (by omega)] at e; omega), cb, b2r, isD_e]
    show (if bI (isD (bAt (τ.2.2.1 3) len p)) = 0 then _ else _) = _
    rw [ibI]
    by_cases c2 : isD (bAt (τ.2.2.1 3) len p) = true
    · rw [if_pos c2, e1, cb, b2r, e1, ← nI_succ, tI_tI, run_t (by omega) c2, ← ih]
      congr 1
      show nmV (τ.2.2.1 3) p0 (p - p0) * 10 + (bAt (τ.2.2.1 3) len p - 48).toInt64 = nmV (τ.2.2.1 3) p0 (p + 1 - p0)
      rw [show p + 1 - p0 = (p - p0) + 1 by omega, bAt_in (by omega)]
      show _ = vV 10 _ (p - p0) * 10 + (τ.2.2.1 3 (p0 + (p - p0)) - 48).toInt64
      rw [show p0 + (p - p0) = p by omega]; rfl
    · rw [if_neg c2, run_f (by simp [cD, c2])]
      exact fin p hp0 (by omega)
/-- a token at a place -/
theorem cToken {kw : Nat → Int64} (hkw : τ.2.2.2.1 6 = kw) (hlen : τ.1 101 = nI len) (hok : okBt (τ.2.2.1 3) len) (hL : 2000 ≤ L) {n p : Nat} (hn : n < 401) (hp : p ≤ len) (hpl : τ.1 405 = nI p) : ∃ τ' : CS, FX9_readToken L (nI n) τ = some (sC kw (τ.2.2.1 3) len p, τ') ∧ τ'.1 405 = nI (eC (τ.2.2.1 3) len p) ∧ FrR τ τ' ∧ τ'.2.2.1 = τ.2.2.1 ∧ (∀ j, j ≠ n → τ'.2.2.2.1 12 j = τ.2.2.2.1 12 j) ∧ (isL (bAt (τ.2.2.1 3) len p) = true ∨ isD (bAt (τ.2.2.1 3) len p) = true → τ'.2.2.2.1 12 n = wC (τ.2.2.1 3) len p) := by
  have hl := hok.1
  have cb := cByte hlen hl (p := p) (by omega)
  have eid : tI τ 405 (nI p) = τ := tI_id hpl
  rw [FX9_readToken, hpl, cb, b2r, sC, eC, wC]
  by_cases c0 : bAt (τ.2.2.1 3) len p = -1
  · rw [if_pos c0, if_pos c0, if_pos c0]
    refine ⟨τ, rfl, hpl, FrR.refl, rfl, fun _ _ => rfl, fun h => ?_⟩
    rw [c0] at h
    exact absurd h (by decide)
  rw [if_neg c0, if_neg c0, if_neg c0, isL_e]
  show ∃ τ', (if bI (isL (bAt (τ.2.2.1 3) len p)) = 0 then _ else _) = _ ∧ _
  rw [ibI]
  by_cases c1 : isL (bAt (τ.2.2.1 3) len p) = true
  · rw [if_pos c1, if_pos c1, if_pos c1, if_pos c1, FX9_readWord, hpl]
    have := cWord (τ := τ) hkw hlen hl hL (p0 := p) hn (len - p) p L (by omega) (Nat.le_refl _) (by omega)
    rw [eid, Nat.sub_self, show wdV (τ.2.2.1 3) p 0 = 0 from rfl] at this
    rw [this, b2r]
    refine ⟨_, rfl, by show (tI τ 405 _).1 405 = _; exact tI_g, FrR.place.trans FrR.worths, rfl, fun j hj => ?_, fun _ => ?_⟩
    · rw [tB_row]; exact if_neg hj
    · rw [tB_row]; exact if_pos rfl
  rw [if_neg c1, if_neg c1, if_neg c1, if_neg c1, isD_e]
  show ∃ τ', (if bI (isD (bAt (τ.2.2.1 3) len p)) = 0 then _ else _) = _ ∧ _
  rw [ibI]
  by_cases c2 : isD (bAt (τ.2.2.1 3) len p) = true
  · rw [if_pos c2, if_pos c2, if_pos c2, FX9_readNumber, hpl]
    have := cNumber (τ := τ) (L := L) hlen hl (p0 := p) hn (len - p) p L (by omega) (Nat.le_refl _) (by omega)
    rw [eid, Nat.sub_self, show nmV (τ.2.2.1 3) p 0 = 0 from rfl] at this
    rw [this, b2r]
    refine ⟨_, rfl, by show (tI τ 405 _).1 405 = _; exact tI_g, FrR.place.trans FrR.worths, rfl, fun j hj => ?_, fun _ => ?_⟩
    · rw [tB_row]; exact if_neg hj
    · rw [tB_row]; exact if_pos rfl
  rw [if_neg c2, if_neg c2, if_neg c2, FX9_readSymbol, hpl, ← nI_succ, cByte hlen hl (by omega), b2r, s2_e]
  show ∃ τ', b2 (if s2 _ _ = 54 then _ else _) _ = _ ∧ _
  by_cases c3 : s2 (bAt (τ.2.2.1 3) len p) (bAt (τ.2.2.1 3) len (p + 1)) = 54
  · rw [if_pos c3, if_pos c3, if_pos c3, s1_e]
    refine ⟨tI τ 405 (τ.1 405 + 1), rfl, ?_, FrR.place, rfl, fun _ _ => rfl, fun h => absurd h (by simp [c1, c2])⟩
    rw [tI_g, hpl, nI_succ]
  · rw [if_neg c3, if_neg c3, if_neg c3]
    refine ⟨tI τ 405 (τ.1 405 + 2), rfl, ?_, FrR.place, rfl, fun _ _ => rfl, fun h => absurd h (by simp [c1, c2])⟩
    rw [tI_g, hpl, show (2 : Int32) = nI 2 from rfl, nI_add]
/-- all tokens -/
theorem cRead {kw : Nat → Int64} {bt : Nat → Int32} (hL : 2000 ≤ L) (hok : okBt bt len) : ∀ (d n fuel : Nat) (τ : CS), n + d = 401 → d < fuel → τ.2.2.2.1 6 = kw → τ.1 101 = nI len → τ.2.2.1 3 = bt → τ.1 405 = nI (qC bt len n) → ∃ τ' : CS, FX9_read_9 L fuel 1 (nI n) τ = some ((), τ') ∧ FrR τ τ' ∧ (∀ j, j < n → τ'.2.2.1 8 j = τ.2.2.1 8 j ∧ τ'.2.2.1 10 j = τ.2.2.1 10 j ∧ τ'.2.2.2.1 12 j = τ.2.2.2.1 12 j) ∧ ∀ k, n ≤ k → k ≤ 400 → (∀ j, n ≤ j → j < k → tkS kw bt len j ≠ 53 ∧ tkS kw bt len j ≠ 54) → τ'.2.2.1 8 k = tS (tkS kw bt len) k ∧ τ'.2.2.1 10 k = nI (pC bt len k) ∧ (isL (bAt bt len (pC bt len k)) = true ∨ isD (bAt bt len (pC bt len k)) = true → τ'.2.2.2.1 12 k = tkW bt len k) := by
  intro d
  induction d with
  | zero =>
    intro n fuel τ hn hf hkw hlen hbt hpl
    obtain ⟨q, rfl⟩ : ∃ z, fuel = z + 1 := ⟨fuel - 1, by omega⟩
    refine ⟨τ, ?_, FrR.refl, fun _ _ => ⟨rfl, rfl, rfl⟩, fun k h1 h2 => by omega⟩
    rw [FX9_read_9, if_neg (by decide), if_pos (by rw [show (400 : Int32) = nI 400 from rfl, nI_ltI (by omega) (by omega)]; omega)]
  | succ d ih =>
    intro n fuel τ hn hf hkw hlen hbt hpl
    obtain ⟨q, rfl⟩ : ∃ z, fuel = z + 1 := ⟨fuel - 1, by omega⟩
    have hl := hok.1
    obtain ⟨g1, g2, g3, g4⟩ := pC_le hok n
    have sk := cSkip (τ := τ) (L := L) hlen hl (len - qC bt len n) (qC bt len n) L (by omega) (by omega)
    rw [tI_id hpl, hbt] at sk
    rw [FX9_read_9, if_neg (by decide), if_neg (by rw [show (400 : Int32) = nI 400 from rfl, nI_ltI (by omega) (by omega)]; omega), FX9_skipBlanks, sk, b2r]
    change ∃ τ', b2 (FX9_readToken L (nI n) (tA (tI τ 405 (nI (pC bt len n))) 10 (putI 401 (τ.2.2.1 10) (nI n) ((tI τ 405 (nI (pC bt len n))).1 405)))) _ = _ ∧ _
    rw [show (tI τ 405 (nI (pC bt len n))).1 405 = nI (pC bt len n) from tI_g, pI (by omega) (by decide)]
    generalize hτ1 : tA (tI τ 405 (nI (pC bt len n))) 10 (upd (τ.2.2.1 10) n (nI (pC bt len n))) = τ1
    have f1 : FrR τ τ1 := by rw [← hτ1]; exact FrR.place.trans FrR.starts
    have b3 : τ1.2.2.1 3 = bt := by rw [← hbt]; exact f1.2.2.1 3 (by decide) (by decide)
    have p1 : τ1.1 405 = nI (pC bt len n) := by rw [← hτ1]; show (tI τ 405 (nI (pC bt len n))).1 405 = _; exact tI_g
    have r10 : ∀ j, τ1.2.2.1 10 j = if j = n then nI (pC bt len n) else τ.2.2.1 10 j := fun j => by
      rw [← hτ1, tA_row]; rfl
    obtain ⟨τ2, t1, t2, t3, t4, t5, t6⟩ := cToken (τ := τ1) (L := L) (kw := kw) (len := len) (n := n) (p := pC bt len n) (by rw [f1.2.2.2.1 6 (by decide)]; exact hkw) (by rw [f1.1 101 (by decide)]; exact hlen) (by rw [b3]; exact hok) hL (by omega) g3 p1
    rw [b3] at t1 t2 t6
    rw [t1, b2r]
    have f2 : FrR τ τ2 := f1.trans t3
    -- the sort that is kept
    have sel : ∀ s : Int32, s = tS (tkS kw bt len) n → ∃ τ' : CS, FX9_read_58 L (FX9_read_9 L q) (nI n) s τ2 = some ((), τ') ∧ FrR τ τ' ∧ (∀ j, j < n → τ'.2.2.1 8 j = τ.2.2.1 8 j ∧ τ'.2.2.1 10 j = τ.2.2.1 10 j ∧ τ'.2.2.2.1 12 j = τ.2.2.2.1 12 j) ∧ ∀ k, n ≤ k → k ≤ 400 → (∀ j, n ≤ j → j < k → tkS kw bt len j ≠ 53 ∧ tkS kw bt len j ≠ 54) → τ'.2.2.1 8 k = tS (tkS kw bt len) k ∧ τ'.2.2.1 10 k = nI (pC bt len k) ∧ (isL (bAt bt len (pC bt len k)) = true ∨ isD (bAt bt len (pC bt len k)) = true → τ'.2.2.2.1 12 k = tkW bt len k) := by
      intro s hs
      rw [FX9_read_58, pI (by omega) (by decide)]
      generalize hτ3 : tA τ2 8 (upd (τ2.2.2.1 8) n s) = τ3
      have f3 : FrR τ τ3 := by rw [← hτ3]; exact f2.trans FrR.sorts
      have r8 : ∀ j, τ3.2.2.1 8 j = if j = n then s else τ.2.2.1 8 j := fun j => by
        rw [← hτ3, tA_row, t4]
        unfold upd
        rw [← hτ1]; rfl
      have r10 : ∀ j, τ3.2.2.1 10 j = if j = n then nI (pC bt len n) else τ.2.2.1 10 j := fun j => by
        rw [← hτ3, ← r10 j, ← t4]; rfl
      have r12 : ∀ j, j ≠ n → τ3.2.2.2.1 12 j = τ.2.2.2.1 12 j := fun j hj => by
        have : τ3.2.2.2.1 12 j = τ2.2.2.2.1 12 j := by rw [← hτ3]
        rw [this, t5 j hj, ← hτ1]
      have r12n : isL (bAt bt len (pC bt len n)) = true ∨ isD (bAt bt len (pC bt len n)) = true → τ3.2.2.2.1 12 n = tkW bt len n := fun h => by
        have : τ3.2.2.2.1 12 n = τ2.2.2.2.1 12 n := by rw [← hτ3]
        rw [this, t6 h]; rfl
      have stop : (s = 53 ∨ s = 54) → ∀ x, ∃ τ' : CS, FX9_read_9 L q 0 x τ3 = some ((), τ') ∧ FrR τ τ' ∧ (∀ j, j < n → τ'.2.2.1 8 j = τ.2.2.1 8 j ∧ τ'.2.2.1 10 j = τ.2.2.1 10 j ∧ τ'.2.2.2.1 12 j = τ.2.2.2.1 12 j) ∧ ∀ k, n ≤ k → k ≤ 400 → (∀ j, n ≤ j → j < k → tkS kw bt len j ≠ 53 ∧ tkS kw bt len j ≠ 54) → τ'.2.2.1 8 k = tS (tkS kw bt len) k ∧ τ'.2.2.1 10 k = nI (pC bt len k) ∧ (isL (bAt bt len (pC bt len k)) = true ∨ isD (bAt bt len (pC bt len k)) = true → τ'.2.2.2.1 12 k = tkW bt len k) := by
        intro hst x
        obtain ⟨q2, rfl⟩ : ∃ z, q = z + 1 := ⟨q - 1, by omega⟩
        refine ⟨τ3, by rw [FX9_read_9, if_pos rfl], f3, fun j hj => ⟨by rw [r8, if_neg (by omega)], by rw [r10, if_neg (by omega)], r12 j (by omega)⟩, fun k h1 h2 h3 => ?_⟩
        by_cases e : k = n
        · subst e
          exact ⟨by rw [r8, if_pos rfl, hs], by rw [r10, if_pos rfl], r12n⟩
        · exfalso
          have := h3 n (Nat.le_refl _) (by omega)
          unfold tS at hs
          rw [if_neg (fun e => by omega)] at hs
          rw [hs] at hst
          exact hst.elim this.1 this.2
      by_cases c53 : s = 53
      · rw [if_pos c53]; exact stop (Or.inl c53) _
      · rw [if_neg c53]
        by_cases c54 : s = 54
        · rw [if_pos c54]; exact stop (Or.inr c54) _
        · rw [if_neg c54, ← nI_succ]
          obtain ⟨τ', i1, i2, i3, i4⟩ := ih (n + 1) q τ3 (by omega) (by omega) (by rw [f3.2.2.2.1 6 (by decide)]; exact hkw) (by rw [f3.1 101 (by decide)]; exact hlen) (by rw [f3.2.2.1 3 (by decide) (by decide)]; exact hbt) (by
            have : τ3.1 405 = τ2.1 405 := by rw [← hτ3]
            rw [this, t2]; rfl)
          refine ⟨τ', i1, f3.trans i2, fun j hj => ?_, fun k h1 h2 h3 => ?_⟩
          · obtain ⟨a, b, c⟩ := i3 j (by omega)
            exact ⟨by rw [a, r8, if_neg (by omega)], by rw [b, r10, if_neg (by omega)], by rw [c, r12 j (by omega)]⟩
          · by_cases e : k = n
            · subst e
              obtain ⟨a, b, c⟩ := i3 k (by omega)
              exact ⟨by rw [a, r8, if_pos rfl, hs], by rw [b, r10, if_pos rfl], fun h => by rw [c]; exact r12n h⟩
            · exact i4 k (by omega) h2 (fun j h4 h5 => h3 j (by omega) h5)
    by_cases c4 : n = 400
    · rw [if_pos (by rw [c4]; rfl)]
      by_cases c5 : sC kw bt len (pC bt len n) = 53
      · rw [if_pos c5]
        exact sel _ (by unfold tS; rw [if_neg (fun e => e.2 c5)]; rfl)
      · rw [if_neg c5]
        exact sel _ (by unfold tS; rw [if_pos ⟨c4, c5⟩])
    · rw [if_neg (fun e => by rw [show (400 : Int32) = nI 400 from rfl, nI_eq (by omega) (by omega)] at e; omega)]
      exact sel _ (by unfold tS; rw [if_neg (fun e => c4 e.1)]; rfl)
end TC
