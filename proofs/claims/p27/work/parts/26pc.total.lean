-- every reading ends
def Tot (x : Option Rs) (a : Nat) : Prop := ∃ r, x = some r ∧ ∀ m, r.2 = some m → a ≤ r.1 ∧ r.1 ≤ 400
theorem totMono {x : Option Rs} {a b : Nat} (h : Tot x a) (hb : b ≤ a) : Tot x b := by
  obtain ⟨r, e, p⟩ := h
  exact ⟨r, e, fun m hm => ⟨by have := (p m hm).1; omega, (p m hm).2⟩⟩
theorem totFail {k a : Nat} : Tot (some (k, none)) a := ⟨_, rfl, fun m h => by cases h⟩
theorem totRet {k a : Nat} {m : MV} (h : a ≤ k) (h4 : k ≤ 400) : Tot (some (k, some m)) a := ⟨_, rfl, fun m' h' => ⟨h, h4⟩⟩
theorem totGo {k a : Nat} {f : Nat → Option Rs} (h4 : k ≤ 400) (h : k + 1 ≤ 400 → Tot (f (k + 1)) a) : Tot (go k f) a := by
  rw [go]
  by_cases e : k = 400
  · rw [if_pos e]; exact totFail
  · rw [if_neg e]; exact h (by omega)
theorem totEx {c : Cx} {s : Int32} {k a : Nat} {f : Nat → Option Rs} (h4 : k ≤ 400) (h : k + 1 ≤ 400 → Tot (f (k + 1)) a) : Tot (ex c s k f) a := by
  rw [ex]
  by_cases e : c.1 k = s
  · rw [if_pos e]; exact totGo h4 h
  · rw [if_neg e]; exact totFail
theorem totRb {x : Option Rs} {a b : Nat} {f : Nat → MV → Option Rs} (h : Tot x a) (hf : ∀ k m, a ≤ k → k ≤ 400 → Tot (f k m) b) : Tot (rb x f) b := by
  obtain ⟨⟨k, o⟩, rfl, p⟩ := h
  cases o with
  | none => exact totFail
  | some m => exact hf k m (p m rfl).1 (p m rfl).2
theorem totBnd {c : Cx} {k b : Nat} {f : Nat → Except En (Int32 × Int32) → Option Rs} (h4 : k ≤ 400) (hf : ∀ k2 bd, k ≤ k2 → k2 ≤ 400 → Tot (f k2 bd) b) : Tot (pBnd c k f) b := by
  rw [pBnd]
  by_cases e : c.1 k = 34
  · rw [if_pos e]
    exact totGo h4 fun h => totEx h fun h => totEx h fun h => totEx h fun h => totEx h fun h => hf _ _ (by omega) h
  · rw [if_neg e]
    exact hf _ _ (by omega) h4
def TotX (c : Cx) (d X rank : Nat) : Prop := ∀ D k, D ≤ 10 → k ≤ 400 → (400 - k) + 16 * (10 - D) + rank + 1 ≤ d → Tot (spX c d X D k) (k + 1)
def TotAll (c : Cx) (d : Nat) : Prop := TotX c d 0 9 ∧ TotX c d 1 8 ∧ TotX c d 8 7 ∧ TotX c d 2 6 ∧ TotX c d 3 5 ∧ TotX c d 4 4 ∧ TotX c d 5 3 ∧ TotX c d 6 0 ∧ TotX c d 7 2
theorem totRow {c : Cx} {d X rank : Nat} {s : Int32} {g : Den → Den → Den} {D : Nat} (ih : TotX c d X rank) (hD : D ≤ 10) : ∀ (n k : Nat) (a : MV), 400 < n + k → k ≤ 400 → (400 - k) + 16 * (10 - D) + rank + 1 ≤ d → Tot (pRowL c (spX c d) X s g D n k a) k
  | 0, k, a, hn, hk, _ => by omega
  | n+1, k, a, hn, hk, hd => by
    rw [pRowL]
    split
    · refine totGo hk fun h1 => totRb (ih D _ hD h1 (by omega)) fun k3 b h3 h4 => ?_
      exact totMono (totRow ih hD n k3 _ (by omega) h4 (by omega)) (by omega)
    · exact totRet (Nat.le_refl _) hk
theorem totBin {c : Cx} {d X rank : Nat} {l h9 : Int} {D : Nat} (ih : TotX c d X rank) (hD : D ≤ 10) : ∀ (n k : Nat) (a : MV), 400 < n + k → k ≤ 400 → (400 - k) + 16 * (10 - D) + rank + 1 ≤ d → Tot (pBinL c (spX c d) X l h9 D n k a) k
  | 0, k, a, hn, hk, _ => by omega
  | n+1, k, a, hn, hk, hd => by
    rw [pBinL]
    split
    · refine totGo hk fun h1 => totRb (ih D _ hD h1 (by omega)) fun k3 b h3 h4 => ?_
      exact totMono (totBin ih hD n k3 _ (by omega) h4 (by omega)) (by omega)
    · exact totRet (Nat.le_refl _) hk
theorem totBr {c : Cx} {d D k : Nat} (ih : TotX c d 0 9) (hk : k ≤ 400) (hd : D < 10 → k + 1 ≤ 400 → (400 - (k + 1)) + 16 * (10 - (D + 1)) + 9 + 1 ≤ d) : Tot (pBraces c (spX c d) D k) (k + 1) := by
  rw [pBraces]
  by_cases e : c.1 k = 32
  · rw [if_pos e]
    by_cases e2 : 10 ≤ D
    · rw [if_pos e2]; exact totFail
    · rw [if_neg e2]
      exact totGo hk fun h1 => totMono (ih (D + 1) _ (by omega) h1 (hd (by omega) h1)) (by omega)
  · rw [if_neg e]; exact totFail
theorem totBrd {c : Cx} {x : Option Rs} {a b : Nat} {f : Nat → MV → Option Rs} (h : Tot x a) (hf : ∀ k m, a + 1 ≤ k → k ≤ 400 → Tot (f k m) b) : Tot (pBraced c x f) b := by
  rw [pBraced]
  exact totRb h fun k m h1 h2 => totEx h2 fun h3 => hf _ _ (by omega) h3
theorem totOne {c : Cx} {d : Nat} (ih : TotAll c d) : TotX c (d + 1) 3 5 := by
  intro D k hD hk hd
  show Tot (pOne c (spX c d) D k) (k + 1)
  rw [pOne]
  have fr : ∀ (f : Den → Den → Den) (k2 : Nat) (g : MV → MV), k + 1 ≤ k2 → k2 ≤ 400 → ¬ (10 ≤ D) → Tot (rb (spX c d 3 (D + 1) k2) fun k3 a => some (k3, some (g a))) (k + 1) := by
    intro f k2 g h1 h2 h3
    exact totRb (ih.2.2.2.2.1 (D + 1) k2 (by omega) h2 (by omega)) fun k3 a h4 h5 => totRet (by omega) h5
  split
  · split
    · exact totFail
    · rename_i h1
      exact totGo hk fun h2 => fr dAnd _ _ (by omega) h2 h1
  split
  · split
    · exact totFail
    · rename_i h1
      exact totGo hk fun h2 => totBnd h2 fun k2 bd h3 h4 => fr dAnd _ _ (by omega) h4 h1
  split
  · exact totBrd (totBr ih.1 hk (fun h1 h2 => by omega)) fun k3 m h3 h4 => totRet (by omega) h4
  split
  · exact totGo hk fun h1 => totRet (by omega) h1
  split
  · exact totGo hk fun h1 => totRet (by omega) h1
  split
  · exact totGo hk fun h1 => totEx h1 fun h2 => totRet (by omega) h2
  · refine totRb (ih.2.2.2.2.2.1 D k hD hk (by omega)) fun k1 a h1 h2 => ?_
    split
    · exact totGo h2 fun h3 => totRb (ih.2.2.2.2.2.1 D _ hD h3 (by omega)) fun k3 b h4 h5 => totRet (by omega) h5
    · exact totFail
theorem br10 {c : Cx} {d D k : Nat} (hD : 10 ≤ D) (hd : 1 ≤ d) : spX c d 6 D k = some (k, none) := by
  obtain ⟨d, rfl⟩ : ∃ z, d = z + 1 := ⟨d - 1, by omega⟩
  show pBraces c (spX c d) D k = _
  rw [pBraces, if_pos hD]
  by_cases e : c.1 k = 32
  · rw [if_pos e]
  · rw [if_neg e]
theorem totFac {c : Cx} {d : Nat} (ih : TotAll c d) : TotX c (d + 1) 7 2 := by
  intro D k hD hk hd
  show Tot (pFactor c (spX c d) D k) (k + 1)
  have b6 : ∀ f : Nat → MV → Option Rs, (∀ k3 m, D < 10 → k + 3 ≤ k3 → k3 ≤ 400 → Tot (f k3 m) (k + 1)) → Tot (go k fun k1 => pBraced c (spX c d 6 D k1) f) (k + 1) := by
    intro f hf
    refine totGo hk fun h1 => ?_
    by_cases h10 : 10 ≤ D
    · rw [pBraced, br10 h10 (by omega)]
      exact totFail
    · exact totBrd (ih.2.2.2.2.2.2.2.1 D (k + 1) hD h1 (by omega)) fun k3 m h2 h3 => hf k3 m (by omega) (by omega) h3
  have f7 : ∀ k1 : Nat, D < 10 → k + 1 ≤ k1 → k1 ≤ 400 → ∀ f : Nat → MV → Option Rs, (∀ k3 m, k1 + 1 ≤ k3 → k3 ≤ 400 → Tot (f k3 m) (k + 1)) → Tot (rb (spX c d 7 (D + 1) k1) f) (k + 1) := by
    intro k1 h0 h1 h2 f hf
    exact totRb (ih.2.2.2.2.2.2.2.2 (D + 1) k1 (by omega) h2 (by omega)) fun k3 m h3 h4 => hf k3 m h3 h4
  rw [pFactor]
  by_cases c52 : c.1 k = 52
  · rw [if_pos c52]; exact totGo hk fun h1 => totRet (by omega) h1
  rw [if_neg c52]
  by_cases c51 : c.1 k = 51
  · rw [if_pos c51]; exact totGo hk fun h1 => totRet (by omega) h1
  rw [if_neg c51]
  by_cases c28 : c.1 k = 28
  · rw [if_pos c28]; exact totGo hk fun h1 => totRet (by omega) h1
  rw [if_neg c28]
  by_cases c29 : c.1 k = 29
  · rw [if_pos c29]; exact totGo hk fun h1 => totRet (by omega) h1
  rw [if_neg c29]
  by_cases c30 : c.1 k = 30
  · rw [if_pos c30]
    by_cases h9 : 10 ≤ D
    · rw [if_pos h9]; exact totFail
    · rw [if_neg h9]
      exact totGo hk fun h1 => totRb (ih.2.2.2.2.2.1 (D + 1) _ (by omega) h1 (by omega)) fun k2 a h2 h3 => totEx h3 fun h4 => totRet (by omega) h4
  rw [if_neg c30]
  by_cases c40 : c.1 k = 40 ∨ c.1 k = 21 ∨ c.1 k = 22 ∨ c.1 k = 23 ∨ c.1 k = 24
  · rw [if_pos c40]
    by_cases h9 : 10 ≤ D
    · rw [if_pos h9]; exact totFail
    · rw [if_neg h9]
      exact totGo hk fun h1 => totRb (ih.2.2.2.2.2.2.2.2 (D + 1) _ (by omega) h1 (by omega)) fun k2 a h2 h3 => totRet (by omega) h3
  rw [if_neg c40]
  by_cases c25 : c.1 k = 25
  · rw [if_pos c25]; exact b6 _ fun k3 m _ h2 h3 => totRet (by omega) h3
  rw [if_neg c25]
  by_cases c27 : c.1 k = 27
  · rw [if_pos c27]; exact b6 _ fun k3 m _ h2 h3 => totRet (by omega) h3
  rw [if_neg c27]
  by_cases c26 : c.1 k = 26
  · rw [if_pos c26]
    exact b6 _ fun k3 m h0 h2 h3 => f7 k3 h0 (by omega) h3 _ fun k4 b h4 h5 => totRet (by omega) h5
  rw [if_neg c26]
  by_cases c18 : c.1 k = 18
  · rw [if_pos c18]
    exact b6 _ fun k3 m h0 h2 h3 => totEx h3 fun h4 => f7 _ h0 (by omega) h4 _ fun k5 b h5 h6 => totEx h6 fun h7 => f7 _ h0 (by omega) h7 _ fun k7 b h8 h9 => totRet (by omega) h9
  rw [if_neg c18]
  exact totFail
theorem totAll {c : Cx} : ∀ d, TotAll c d
  | 0 => ⟨fun _ _ _ _ h => by omega, fun _ _ _ _ h => by omega, fun _ _ _ _ h => by omega, fun _ _ _ _ h => by omega, fun _ _ _ _ h => by omega, fun _ _ _ _ h => by omega, fun _ _ _ _ h => by omega, fun _ _ _ _ h => by omega, fun _ _ _ _ h => by omega⟩
  | d+1 => by
    have ih := totAll (c := c) d
    refine ⟨fun D k hD hk hd => ?_, fun D k hD hk hd => ?_, fun D k hD hk hd => ?_, fun D k hD hk hd => ?_, totOne ih, fun D k hD hk hd => ?_, fun D k hD hk hd => ?_, fun D k hD hk hd => ?_, totFac ih⟩
    · show Tot (pFormula c (spX c d) D k) (k + 1)
      rw [pFormula]
      refine totRb (ih.2.1 D k hD hk (by omega)) fun k1 a h1 h2 => ?_
      by_cases e : c.1 k1 = 14
      · rw [if_pos e]
        exact totGo h2 fun h3 => totRb (ih.1 D _ hD h3 (by omega)) fun k3 b h4 h5 => totRet (by omega) h5
      · rw [if_neg e]; exact totRet h1 h2
    · show Tot (pRow1 c (spX c d) D k) (k + 1)
      rw [pRow1]
      refine totRb (ih.2.2.1 D k hD hk (by omega)) fun k1 a h1 h2 => ?_
      exact totMono (totRow ih.2.2.1 hD 400 k1 a (by omega) h2 (by omega)) h1
    · show Tot (pRow8 c (spX c d) D k) (k + 1)
      rw [pRow8]
      refine totRb (ih.2.2.2.1 D k hD hk (by omega)) fun k1 a h1 h2 => ?_
      exact totMono (totRow ih.2.2.2.1 hD 400 k1 a (by omega) h2 (by omega)) h1
    · show Tot (pSince c (spX c d) D k) (k + 1)
      rw [pSince]
      refine totRb (ih.2.2.2.2.1 D k hD hk (by omega)) fun k1 a h1 h2 => ?_
      by_cases e : c.1 k1 = 11
      · rw [if_pos e]
        exact totGo h2 fun h3 => totBnd h3 fun k2 bd h4 h5 => totRb (ih.2.2.2.2.1 D _ hD h5 (by omega)) fun k3 b h6 h7 => totRet (by omega) h7
      · rw [if_neg e]; exact totRet h1 h2
    · show Tot (pExpr c (spX c d) D k) (k + 1)
      rw [pExpr]
      refine totRb (ih.2.2.2.2.2.2.1 D k hD hk (by omega)) fun k1 a h1 h2 => ?_
      exact totMono (totBin ih.2.2.2.2.2.2.1 hD 400 k1 a (by omega) h2 (by omega)) h1
    · show Tot (pProd c (spX c d) D k) (k + 1)
      rw [pProd]
      refine totRb (ih.2.2.2.2.2.2.2.2 D k hD hk (by omega)) fun k1 a h1 h2 => ?_
      exact totMono (totBin ih.2.2.2.2.2.2.2.2 hD 400 k1 a (by omega) h2 (by omega)) h1
    · show Tot (pBraces c (spX c d) D k) (k + 1)
      exact totBr ih.1 hk (fun h1 h2 => by omega)
/-- a formula and an expression, from any token -/
theorem tot700 {c : Cx} {k : Nat} (hk : k ≤ 400) : Tot (spX c 700 0 0 k) (k + 1) ∧ Tot (spX c 700 4 0 k) (k + 1) := ⟨(totAll 700).1 0 k (by omega) hk (by omega), (totAll 700).2.2.2.2.2.1 0 k (by omega) hk (by omega)⟩
