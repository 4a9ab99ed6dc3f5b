-- the reference cuts the same tokens
section TR
variable {σ : MS} {L len : Nat}
theorem rByte (hlen : σ.1 2 = nI len) (hl : len ≤ 1800) {p : Nat} (hp : p < 2 ^ 30) : FX11_byteAt (nI p) σ = some (bAt (σ.2.1 1) len p, σ) := by
  rw [FX11_byteAt, hlen]
  by_cases h : p < len
  · rw [if_neg (fun e => by rw [nI_leI (by omega) (by omega)] at e; omega), if_neg (nI_in (show p < 1800 by omega) (by decide)), bAt_in h, nI_clamp (by omega)]
  · rw [if_pos (nI_le (by omega) (by omega)), bAt_out (by omega)]
theorem risL {x : Int32} : FX11_isLetter x = some (bI (isL x)) := by
  rw [FX11_isLetter, rIsIn]
  show (if _ then none else _) = _
  rw [if_neg bI_nn]; rfl
theorem risD {x : Int32} : FX11_isDigit x = some (bI (isD x)) := by
  rw [FX11_isDigit, rIsIn]
  show (if _ then none else _) = _
  rw [if_neg bI_nn]; rfl
theorem ixOf : ∀ b, b < 256 → (FJ0_indexOf_0f7a4 5000 0 (nI b)).map (fun r => decide (r < 0)) = some (decide (s1 (nI b) = 54)) := by decide +kernel
def syV (x y : Int32) : Int32 := if s2 x y = 54 then (if s1 x = 54 then 0 else 1) else 2
theorem rSy79 {x : Int32} {b : Nat} (hb : b < 256) (hx : x = nI b) : FX11_symbolAt_79 5000 x 0 σ = some (if s1 x = 54 then 0 else 1, σ) := by
  rw [FX11_symbolAt_79, if_pos rfl]
  by_cases c : x ≤ 0
  · have : b = 0 := by
      rw [hx, show (0 : Int32) = nI 0 from rfl, nI_leI (by omega) (by omega)] at c; omega
    subst this
    subst hx
    rw [if_pos c]; rfl
  · rw [if_neg c]
    have := ixOf b hb
    rw [← hx] at this
    cases e : FJ0_indexOf_0f7a4 5000 0 x with
    | none => rw [e] at this; cases this
    | some r =>
      rw [e] at this
      have h2 : decide (r < 0) = decide (s1 x = 54) := by simpa using this
      show (if r < 0 then _ else _) = _
      by_cases c2 : s1 x = 54
      · rw [if_pos c2, if_pos (by simpa [c2] using h2)]
      · rw [if_neg c2, if_neg (by simpa [c2] using h2)]
theorem rSymbol (hlen : σ.1 2 = nI len) (hok : okBt (σ.2.1 1) len) {p : Nat} (hp : p < len) : FX11_symbolAt 5000 (nI p) σ = some (syV (bAt (σ.2.1 1) len p) (bAt (σ.2.1 1) len (p + 1)), σ) := by
  have hl := hok.1
  rw [FX11_symbolAt, rByte hlen hl (by omega), b2r, ← nI_succ, rByte hlen hl (by omega), b2r]
  obtain ⟨b, hb, hx⟩ := hok.2 p hp
  rw [← bAt_in (bt := σ.2.1 1) (len := len) hp] at hx
  generalize bAt (σ.2.1 1) len p = x at hx ⊢
  generalize bAt (σ.2.1 1) len (p + 1) = y
  have o1 := rSy79 (σ := σ) hb hx
  have two : FX11_symbolAt_79 5000 x 1 σ = some (2, σ) := by rw [FX11_symbolAt_79, if_neg (by decide)]
  unfold FX11_symbolAt_44 FX11_symbolAt_62 FX11_symbolAt_74 FX11_symbolAt_78
  rw [o1, two]
  unfold syV s2
  by_cases h46 : x = 46
  · subst h46
    by_cases y46 : y = 46
    · subst y46; rfl
    · by_cases y61 : y = 61
      · subst y61; rfl
      · simp [y46, y61]; decide
  by_cases h58 : x = 58
  · subst h58
    by_cases y61 : y = 61
    · subst y61; rfl
    · simp [y61]
  by_cases h60 : x = 60
  · subst h60
    by_cases y61 : y = 61
    · subst y61; rfl
    · by_cases y62 : y = 62
      · subst y62; rfl
      · simp [y61, y62]
  by_cases h62 : x = 62
  · subst h62
    by_cases y61 : y = 61
    · subst y61; rfl
    · simp [y61]
  simp [h46, h58, h60, h62]
/-- the kind of a token -/
def kC (bt : Nat → Int32) (len p : Nat) : Int32 :=
  if bAt bt len p = -1 then 0
  else if isL (bAt bt len p) then (if 8 < run (cW bt len) len p - p then 4 else 1)
  else if isD (bAt bt len p) then (if 6 < run (cD bt len) len p - p then 4 else 2)
  else if s2 (bAt bt len p) (bAt bt len (p + 1)) = 54 ∧ s1 (bAt bt len p) = 54 then 4 else 3
theorem rScanW (k6 : Int32 → Int32 → Int32 → MS → Option (Unit × MS)) (hlen : σ.1 2 = nI len) (hl : len ≤ 1800) {n p0 : Nat} : ∀ (d p fuel : Nat), p + d = len → p0 ≤ p → d < fuel → FX11_scan_53 L k6 fuel (nI n) (nI p0) (nI p) σ = FX11_scan_187 L k6 (nI n) (nI p0) (nI (run (cW (σ.2.1 1) len) len p)) (if 8 < run (cW (σ.2.1 1) len) len p - p0 then 4 else 1) σ := by
  intro d
  have fin : ∀ p, p0 ≤ p → p ≤ len → (if (8 : Int32) < (nI p - nI p0) then FX11_scan_97 L k6 (nI n) (nI p0) (nI p) 4 σ else FX11_scan_97 L k6 (nI n) (nI p0) (nI p) 1 σ) = FX11_scan_187 L k6 (nI n) (nI p0) (nI p) (if 8 < p - p0 then 4 else 1) σ := by
    intro p h1 h2
    rw [nI_sub h1]
    by_cases c : 8 < p - p0
    · rw [if_pos (by rw [show (8 : Int32) = nI 8 from rfl, nI_ltI (by omega) (by omega)]; exact c), if_pos c]; rfl
    · rw [if_neg (by rw [show (8 : Int32) = nI 8 from rfl, nI_ltI (by omega) (by omega)]; exact c), if_neg c]; rfl
  induction d with
  | zero =>
    intro p fuel hp hp0 hf
    obtain ⟨q, rfl⟩ : ∃ z, fuel = z + 1 := ⟨fuel - 1, by omega⟩
    have o := bAt_out (bt := σ.2.1 1) (show len ≤ p by omega)
    rw [FX11_scan_53, rByte hlen hl (by omega), b2r, o, risL, obS, ibI, if_neg (by decide), rByte hlen hl (by omega), b2r, o, risD, obS, ibI, if_neg (by decide), run_f (cW_out p (by omega))]
    exact fin p hp0 (by omega)
  | succ d ih =>
    intro p fuel hp hp0 hf
    obtain ⟨q, rfl⟩ : ∃ z, fuel = z + 1 := ⟨fuel - 1, by omega⟩
    have ih := ih (p + 1) q (by omega) (by omega) (by omega)
    rw [FX11_scan_53, rByte hlen hl (by omega), b2r, risL, obS, ibI]
    by_cases c1 : isL (bAt (σ.2.1 1) len p) = true
    · rw [if_pos c1, ← nI_succ, ih, run_t (by omega) (show cW (σ.2.1 1) len p = true by rw [cW, c1]; rfl)]
    · rw [if_neg c1, rByte hlen hl (by omega), b2r, risD, obS, ibI]
      by_cases c2 : isD (bAt (σ.2.1 1) len p) = true
      · rw [if_pos c2, ← nI_succ, ih, run_t (by omega) (show cW (σ.2.1 1) len p = true by rw [cW, c2, Bool.or_true])]
      · rw [if_neg c2, run_f (show cW (σ.2.1 1) len p = false by simp [cW, c1, c2])]
        exact fin p hp0 (by omega)
theorem rScanD (k6 : Int32 → Int32 → Int32 → MS → Option (Unit × MS)) (hlen : σ.1 2 = nI len) (hl : len ≤ 1800) {n p0 : Nat} : ∀ (d p fuel : Nat), p + d = len → p0 ≤ p → d < fuel → FX11_scan_113 L k6 fuel (nI n) (nI p0) (nI p) σ = FX11_scan_187 L k6 (nI n) (nI p0) (nI (run (cD (σ.2.1 1) len) len p)) (if 6 < run (cD (σ.2.1 1) len) len p - p0 then 4 else 2) σ := by
  intro d
  have fin : ∀ p, p0 ≤ p → p ≤ len → (if (6 : Int32) < (nI p - nI p0) then FX11_scan_145 L k6 (nI n) (nI p0) (nI p) 4 σ else FX11_scan_145 L k6 (nI n) (nI p0) (nI p) 2 σ) = FX11_scan_187 L k6 (nI n) (nI p0) (nI p) (if 6 < p - p0 then 4 else 2) σ := by
    intro p h1 h2
    rw [nI_sub h1]
    by_cases c : 6 < p - p0
    · rw [if_pos (by rw [show (6 : Int32) = nI 6 from rfl, nI_ltI (by omega) (by omega)]; exact c), if_pos c]; rfl
    · rw [if_neg (by rw [show (6 : Int32) = nI 6 from rfl, nI_ltI (by omega) (by omega)]; exact c), if_neg c]; rfl
  induction d with
  | zero =>
    intro p fuel hp hp0 hf
    obtain ⟨q, rfl⟩ : ∃ z, fuel = z + 1 := ⟨fuel - 1, by omega⟩
    have o := bAt_out (bt := σ.2.1 1) (show len ≤ p by omega)
    rw [FX11_scan_113, rByte hlen hl (by omega), b2r, o, risD, obS, ibI, if_neg (by decide), run_f (cD_out p (by omega))]
    exact fin p hp0 (by omega)
  | succ d ih =>
    intro p fuel hp hp0 hf
    obtain ⟨q, rfl⟩ : ∃ z, fuel = z + 1 := ⟨fuel - 1, by omega⟩
    have ih := ih (p + 1) q (by omega) (by omega) (by omega)
    rw [FX11_scan_113, rByte hlen hl (by omega), b2r, risD, obS, ibI]
    by_cases c2 : isD (bAt (σ.2.1 1) len p) = true
    · rw [if_pos c2, ← nI_succ, ih, run_t (by omega) (show cD (σ.2.1 1) len p = true from c2)]
    · rw [if_neg c2, run_f (show cD (σ.2.1 1) len p = false by simp [cD, c2])]
      exact fin p hp0 (by omega)
theorem rScan10 (k6 : Int32 → Int32 → Int32 → MS → Option (Unit × MS)) (hlen : σ.1 2 = nI len) (hok : okBt (σ.2.1 1) len) {n : Nat} : ∀ (d p fuel : Nat), p + d = len → d + 1 < fuel → FX11_scan_10 5000 k6 fuel (nI n) (nI p) σ = FX11_scan_187 5000 k6 (nI n) (nI (run (cB (σ.2.1 1) len) len p)) (nI (eC (σ.2.1 1) len (run (cB (σ.2.1 1) len) len p))) (kC (σ.2.1 1) len (run (cB (σ.2.1 1) len) len p)) σ := by
  have hl := hok.1
  have fin : ∀ p q, p ≤ len → bAt (σ.2.1 1) len p ≠ 32 → bAt (σ.2.1 1) len p ≠ 10 → FX11_scan_10 5000 k6 (q + 1) (nI n) (nI p) σ = FX11_scan_187 5000 k6 (nI n) (nI p) (nI (eC (σ.2.1 1) len p)) (kC (σ.2.1 1) len p) σ := by
    intro p q hp c1 c2
    rw [FX11_scan_10, rByte hlen hl (by omega), b2r, if_neg c1, rByte hlen hl (by omega), b2r, if_neg c2, rByte hlen hl (by omega), b2r, risL, obS, ibI, eC, kC]
    by_cases c0 : bAt (σ.2.1 1) len p = -1
    · have : len ≤ p := (bAt_end hok).mp c0
      rw [if_pos c0, if_pos c0, c0, if_neg (by decide), rByte hlen hl (by omega), b2r, c0, risD, obS, ibI, if_neg (by decide), hlen, if_pos (nI_le this (by omega))]
    have hpl : p < len := by
      by_cases hl : p < len
      · exact hl
      · exact absurd (bAt_out (by omega)) c0
    rw [if_neg c0, if_neg c0]
    by_cases c3 : isL (bAt (σ.2.1 1) len p) = true
    · rw [if_pos c3, if_pos c3, if_pos c3]
      exact rScanW k6 hlen hl (len - p) p 5000 (by omega) (Nat.le_refl _) (by omega)
    rw [if_neg c3, if_neg c3, if_neg c3, rByte hlen hl (by omega), b2r, risD, obS, ibI]
    by_cases c4 : isD (bAt (σ.2.1 1) len p) = true
    · rw [if_pos c4, if_pos c4, if_pos c4]
      exact rScanD k6 hlen hl (len - p) p 5000 (by omega) (Nat.le_refl _) (by omega)
    rw [if_neg c4, if_neg c4, if_neg c4, hlen, if_neg (fun e => by rw [nI_leI (by omega) (by omega)] at e; omega), rSymbol hlen hok hpl, b2r, rSymbol hlen hok hpl, b2r]
    by_cases c5 : s2 (bAt (σ.2.1 1) len p) (bAt (σ.2.1 1) len (p + 1)) = 54
    · by_cases c6 : s1 (bAt (σ.2.1 1) len p) = 54
      · have e0 : syV (bAt (σ.2.1 1) len p) (bAt (σ.2.1 1) len (p + 1)) = 0 := by rw [syV, if_pos c5, if_pos c6]
        have e1 : s2 (bAt (σ.2.1 1) len p) (bAt (σ.2.1 1) len (p + 1)) = 54 ∧ s1 (bAt (σ.2.1 1) len p) = 54 := ⟨c5, c6⟩
        rw [e0, if_pos c5, if_pos e1, if_pos (show (0 : Int32) ≤ 0 by decide), if_neg (show ¬ (1 : Int32) < 0 by decide), ← nI_succ]; rfl
      · have e0 : syV (bAt (σ.2.1 1) len p) (bAt (σ.2.1 1) len (p + 1)) = 1 := by rw [syV, if_pos c5, if_neg c6]
        have e1 : ¬ (s2 (bAt (σ.2.1 1) len p) (bAt (σ.2.1 1) len (p + 1)) = 54 ∧ s1 (bAt (σ.2.1 1) len p) = 54) := fun e => c6 e.2
        rw [e0, if_pos c5, if_neg e1, if_neg (show ¬ (1 : Int32) ≤ 0 by decide), if_neg (show ¬ (1 : Int32) < 1 by decide), ← nI_succ]; rfl
    · have e0 : syV (bAt (σ.2.1 1) len p) (bAt (σ.2.1 1) len (p + 1)) = 2 := by rw [syV, if_neg c5]
      have e1 : ¬ (s2 (bAt (σ.2.1 1) len p) (bAt (σ.2.1 1) len (p + 1)) = 54 ∧ s1 (bAt (σ.2.1 1) len p) = 54) := fun e => c5 e.1
      rw [e0, if_neg c5, if_neg e1, if_neg (show ¬ (2 : Int32) ≤ 0 by decide), if_pos (show (1 : Int32) < 2 by decide), show (2 : Int32) = nI 2 from rfl, nI_add]; rfl
  intro d
  induction d with
  | zero =>
    intro p fuel hp hf
    obtain ⟨q, rfl⟩ : ∃ z, fuel = z + 1 := ⟨fuel - 1, by omega⟩
    have o := bAt_out (bt := σ.2.1 1) (show len ≤ p by omega)
    rw [run_f (cB_out p (by omega))]
    exact fin p q (by omega) (by rw [o]; decide) (by rw [o]; decide)
  | succ d ih =>
    intro p fuel hp hf
    obtain ⟨q, rfl⟩ : ∃ z, fuel = z + 1 := ⟨fuel - 1, by omega⟩
    have ih := ih (p + 1) q (by omega) (by omega)
    by_cases c1 : bAt (σ.2.1 1) len p = 32
    · rw [FX11_scan_10, rByte hlen hl (by omega), b2r, if_pos c1, ← nI_succ, ih, run_t (by omega) (show cB (σ.2.1 1) len p = true by simp [cB, c1])]
    · by_cases c2 : bAt (σ.2.1 1) len p = 10
      · rw [FX11_scan_10, rByte hlen hl (by omega), b2r, if_neg c1, rByte hlen hl (by omega), b2r, if_pos c2, ← nI_succ, ih, run_t (by omega) (show cB (σ.2.1 1) len p = true by simp [cB, c2])]
      · rw [run_f (show cB (σ.2.1 1) len p = false by simp [cB, c1, c2])]
        exact fin p q (by omega) c1 c2
def FrS (σ σ' : MS) : Prop := σ'.1 = σ.1 ∧ (∀ k, k ≠ 4 → k ≠ 5 → k ≠ 6 → σ'.2.1 k = σ.2.1 k) ∧ σ'.2.2 = σ.2.2
theorem FrS.refl : FrS σ σ := ⟨rfl, fun _ _ _ _ => rfl, rfl⟩
theorem FrS.trans {a b c : MS} (h : FrS a b) (g : FrS b c) : FrS a c := ⟨g.1.trans h.1, fun k h1 h2 h3 => (g.2.1 k h1 h2 h3).trans (h.2.1 k h1 h2 h3), g.2.2.trans h.2.2⟩
def kS (bt : Nat → Int32) (len : Nat) : Nat → Int32 := fun n => kC bt len (pC bt len n)
theorem kC_0 {kw : Nat → Int64} {bt : Nat → Int32} {p : Nat} (h : kC bt len p = 0) : bAt bt len p = -1 := by
  unfold kC at h
  split at h
  · assumption
  · exfalso
    split at h
    · split at h <;> exact absurd h (by decide)
    · split at h
      · split at h <;> exact absurd h (by decide)
      · split at h <;> exact absurd h (by decide)
theorem rScan {bt : Nat → Int32} (hok : okBt bt len) : ∀ (d n fuel : Nat) (σ : MS), qC bt len n + d = len → n ≤ qC bt len n → d + 1 < fuel → σ.1 2 = nI len → σ.2.1 1 = bt → ∃ σ' : MS, FX11_scan_6 5000 fuel (nI n) (nI (qC bt len n)) 1 σ = some ((), σ') ∧ FrS σ σ' ∧ (∀ j, j < n → σ'.2.1 4 j = σ.2.1 4 j ∧ σ'.2.1 5 j = σ.2.1 5 j ∧ σ'.2.1 6 j = σ.2.1 6 j) ∧ ∀ k, n ≤ k → (∀ j, n ≤ j → j < k → kS bt len j ≠ 0) → σ'.2.1 4 k = kS bt len k ∧ σ'.2.1 5 k = nI (pC bt len k) ∧ σ'.2.1 6 k = nI (eC bt len (pC bt len k)) := by
  intro d
  induction d using Nat.strongRecOn with
  | _ d ih =>
    intro n fuel σ hd hn hf hlen hbt
    obtain ⟨q, rfl⟩ : ∃ z, fuel = z + 1 := ⟨fuel - 1, by omega⟩
    have hl := hok.1
    obtain ⟨g1, g2, g3, g4⟩ := pC_le hok n
    obtain ⟨e1, e2, e3⟩ := eC_le hok g3
    have s10 := rScan10 (σ := σ) (FX11_scan_6 5000 q) hlen (by rw [hbt]; exact hok) (n := n) (len - qC bt len n) (qC bt len n) 5000 (by omega) (by omega)
    rw [hbt] at s10
    rw [FX11_scan_6, if_neg (by decide), s10]
    change ∃ σ', FX11_scan_187 5000 (FX11_scan_6 5000 q) (nI n) (nI (pC bt len n)) (nI (eC bt len (pC bt len n))) (kS bt len n) σ = _ ∧ _
    have hi := nI_in (show n < 1801 by omega) (by decide)
    rw [FX11_scan_187, if_neg hi, if_neg hi, if_neg hi, nI_clamp (by omega)]
    generalize hσ1 : sA (sA (sA σ 4 (upd (σ.2.1 4) n (kS bt len n))) 5 (upd (σ.2.1 5) n (nI (pC bt len n)))) 6 (upd (σ.2.1 6) n (nI (eC bt len (pC bt len n)))) = σ1
    have f1 : FrS σ σ1 := by
      rw [← hσ1]
      refine ⟨rfl, fun k h4 h5 h6 => ?_, rfl⟩
      exact (up_n h6).trans ((up_n h5).trans (up_n h4))
    have r4 : ∀ j, σ1.2.1 4 j = if j = n then kS bt len n else σ.2.1 4 j := fun j => by
      rw [← hσ1, sA_o (σ := sA (sA σ 4 (upd (σ.2.1 4) n (kS bt len n))) 5 (upd (σ.2.1 5) n (nI (pC bt len n)))) (k := 6) (j := 4) (by decide), sA_o (σ := sA σ 4 (upd (σ.2.1 4) n (kS bt len n))) (k := 5) (j := 4) (by decide), sA_row]; rfl
    have r5 : ∀ j, σ1.2.1 5 j = if j = n then nI (pC bt len n) else σ.2.1 5 j := fun j => by
      rw [← hσ1, sA_o (σ := sA (sA σ 4 (upd (σ.2.1 4) n (kS bt len n))) 5 (upd (σ.2.1 5) n (nI (pC bt len n)))) (k := 6) (j := 5) (by decide), sA_row]; rfl
    have r6 : ∀ j, σ1.2.1 6 j = if j = n then nI (eC bt len (pC bt len n)) else σ.2.1 6 j := fun j => by
      rw [← hσ1, sA_row]; rfl
    have one : ∀ j, j < n → σ1.2.1 4 j = σ.2.1 4 j ∧ σ1.2.1 5 j = σ.2.1 5 j ∧ σ1.2.1 6 j = σ.2.1 6 j := fun j hj => ⟨by rw [r4, if_neg (by omega)], by rw [r5, if_neg (by omega)], by rw [r6, if_neg (by omega)]⟩
    have two : σ1.2.1 4 n = kS bt len n ∧ σ1.2.1 5 n = nI (pC bt len n) ∧ σ1.2.1 6 n = nI (eC bt len (pC bt len n)) := ⟨by rw [r4, if_pos rfl], by rw [r5, if_pos rfl], by rw [r6, if_pos rfl]⟩
    by_cases c : kS bt len n = 0
    · rw [if_pos c]
      obtain ⟨q2, rfl⟩ : ∃ z, q = z + 1 := ⟨q - 1, by omega⟩
      refine ⟨σ1, by rw [FX11_scan_6, if_pos rfl], f1, one, fun k h1 h2 => ?_⟩
      by_cases e : k = n
      · subst e; exact two
      · exact absurd c (h2 n (Nat.le_refl _) (by omega))
    · rw [if_neg c, ← nI_succ]
      have hpl : pC bt len n < len := by
        by_cases hl2 : pC bt len n < len
        · exact hl2
        · exfalso
          have : bAt bt len (pC bt len n) = -1 := bAt_out (by omega)
          exact c (by unfold kS kC; rw [if_pos this])
      have e3 := e3 hpl
      have hq : qC bt len (n + 1) = eC bt len (pC bt len n) := rfl
      obtain ⟨σ', i1, i2, i3, i4⟩ := ih (len - qC bt len (n + 1)) (by omega) (n + 1) q σ1 (by omega) (by omega) (by omega) (by rw [f1.1]; exact hlen) (by rw [f1.2.1 1 (by decide) (by decide) (by decide)]; exact hbt)
      refine ⟨σ', i1, f1.trans i2, fun j hj => ?_, fun k h1 h2 => ?_⟩
      · obtain ⟨a, b, c⟩ := i3 j (by omega)
        obtain ⟨a2, b2, c2⟩ := one j hj
        exact ⟨a.trans a2, b.trans b2, c.trans c2⟩
      · by_cases e : k = n
        · subst e
          obtain ⟨a, b, c⟩ := i3 k (by omega)
          exact ⟨a.trans two.1, b.trans two.2.1, c.trans two.2.2⟩
        · exact i4 k (by omega) (fun j h4 h5 => h2 j (by omega) h5)
end TR
