-- where a reading ends
theorem goM {k k' : Nat} {m : MV} {f : Nat → Option Rs} (h : go k f = some (k', some m)) : k ≠ 400 ∧ f (k + 1) = some (k', some m) := by
  rw [go] at h
  by_cases e : k = 400
  · rw [if_pos e] at h; cases h
  · rw [if_neg e] at h; exact ⟨e, h⟩
theorem rbM {x : Option Rs} {k' : Nat} {m : MV} {f : Nat → MV → Option Rs} (h : rb x f = some (k', some m)) : ∃ k1 m1, x = some (k1, some m1) ∧ f k1 m1 = some (k', some m) := by
  cases x with
  | none => cases h
  | some q =>
    obtain ⟨k1, o⟩ := q
    cases o with
    | none => cases h
    | some m1 => exact ⟨k1, m1, rfl, h⟩
theorem exM {c : Cx} {s : Int32} {k k' : Nat} {m : MV} {f : Nat → Option Rs} (h : ex c s k f = some (k', some m)) : f (k + 1) = some (k', some m) := by
  rw [ex] at h
  by_cases e : c.1 k = s
  · rw [if_pos e] at h; exact (goM h).2
  · rw [if_neg e] at h; cases h
theorem bndM {c : Cx} {k k' : Nat} {m : MV} {f : Nat → Except En (Int32 × Int32) → Option Rs} (h : pBnd c k f = some (k', some m)) : ∃ k2 bd, k ≤ k2 ∧ f k2 bd = some (k', some m) := by
  rw [pBnd] at h
  by_cases e : c.1 k = 34
  · rw [if_pos e] at h
    exact ⟨_, _, by omega, exM (exM (exM (exM (goM h).2)))⟩
  · rw [if_neg e] at h; exact ⟨_, _, Nat.le_refl _, h⟩
theorem spMono {c : Cx} : ∀ (d X D k k' : Nat) (m : MV), spX c d X D k = some (k', some m) → k < k'
  | 0, _, _, _, _, _, h => by cases h
  | d+1, X, D, k, k', m, h => by
    have ih := fun X D k k' m => spMono (c := c) d X D k k' m
    have loop : ∀ (X : Nat) (s : Int32) g D n k a k' m, pRowL c (spX c d) X s g D n k a = some (k', some m) → k ≤ k' := by
      intro X s g D n
      induction n with
      | zero => intro k a k' m h; cases h
      | succ n ihn =>
        intro k a k' m h
        rw [pRowL] at h
        split at h
        · obtain ⟨k3, m3, h1, h2⟩ := rbM (goM h).2
          have := ih _ _ _ _ _ h1
          have := ihn _ _ _ _ h2
          omega
        · cases h; omega
    have loop2 : ∀ (X : Nat) (l h9 : Int) D n k a k' m, pBinL c (spX c d) X l h9 D n k a = some (k', some m) → k ≤ k' := by
      intro X l h9 D n
      induction n with
      | zero => intro k a k' m h; cases h
      | succ n ihn =>
        intro k a k' m h
        rw [pBinL] at h
        split at h
        · obtain ⟨k3, m3, h1, h2⟩ := rbM (goM h).2
          have := ih _ _ _ _ _ h1
          have := ihn _ _ _ _ h2
          omega
        · cases h; omega
    have brk : ∀ {D k k' m}, pBraces c (spX c d) D k = some (k', some m) → k < k' := by
      intro D k k' m h1
      unfold pBraces at h1
      by_cases e : c.1 k = 32
      · rw [if_pos e] at h1
        by_cases e2 : 10 ≤ D
        · rw [if_pos e2] at h1; cases h1
        · rw [if_neg e2] at h1
          have := ih _ _ _ _ _ (goM h1).2
          omega
      · rw [if_neg e] at h1; cases h1
    simp only [spX] at h
    split at h
    · obtain ⟨k1, a, h1, h2⟩ := rbM h
      have := ih _ _ _ _ _ h1
      split at h2
      · obtain ⟨k3, b, h3, h4⟩ := rbM (goM h2).2
        have := ih _ _ _ _ _ h3
        cases h4; omega
      · cases h2; omega
    split at h
    · obtain ⟨k1, a, h1, h2⟩ := rbM h
      have := ih _ _ _ _ _ h1
      have := loop _ _ _ _ _ _ _ _ _ h2
      omega
    split at h
    · obtain ⟨k1, a, h1, h2⟩ := rbM h
      have := ih _ _ _ _ _ h1
      split at h2
      · obtain ⟨k2, bd, h3, h4⟩ := bndM (goM h2).2
        obtain ⟨k3, b, h5, h6⟩ := rbM h4
        have := ih _ _ _ _ _ h5
        cases h6; omega
      · cases h2; omega
    split at h
    · unfold pOne at h
      split at h
      · split at h
        · cases h
        · obtain ⟨k1, a, h1, h2⟩ := rbM (goM h).2
          have := ih _ _ _ _ _ h1
          cases h2; omega
      split at h
      · split at h
        · cases h
        · obtain ⟨k2, bd, h3, h4⟩ := bndM (goM h).2
          obtain ⟨k1, a, h1, h2⟩ := rbM h4
          have := ih _ _ _ _ _ h1
          cases h2; omega
      split at h
      · obtain ⟨k1, a, h1, h2⟩ := rbM h
        have h3 := exM h2
        have := brk h1
        cases h3; omega
      split at h
      · have := (goM h).2; cases this; omega
      split at h
      · have := (goM h).2; cases this; omega
      split at h
      · have := exM (goM h).2; cases this; omega
      · obtain ⟨k1, a, h1, h2⟩ := rbM h
        have := ih _ _ _ _ _ h1
        split at h2
        · obtain ⟨k3, b, h3, h4⟩ := rbM (goM h2).2
          have := ih _ _ _ _ _ h3
          cases h4; omega
        · cases h2
    split at h
    · obtain ⟨k1, a, h1, h2⟩ := rbM h
      have := ih _ _ _ _ _ h1
      have := loop2 _ _ _ _ _ _ _ _ _ h2
      omega
    split at h
    · obtain ⟨k1, a, h1, h2⟩ := rbM h
      have := ih _ _ _ _ _ h1
      have := loop2 _ _ _ _ _ _ _ _ _ h2
      omega
    split at h
    · exact brk h
    split at h
    · unfold pFactor at h
      have br : ∀ {k f}, pBraced c (spX c d 6 D k) f = some (k', some m) → ∃ k3 a, k < k3 ∧ f k3 a = some (k', some m) := by
        intro k f h
        obtain ⟨k1, a, h1, h2⟩ := rbM h
        have := ih _ _ _ _ _ h1
        exact ⟨k1 + 1, a, by omega, exM h2⟩
      by_cases c52 : c.1 k = 52
      · rw [if_pos c52] at h
        have := (goM h).2; cases this; omega
      rw [if_neg c52] at h
      by_cases c51 : c.1 k = 51
      · rw [if_pos c51] at h
        have := (goM h).2; cases this; omega
      rw [if_neg c51] at h
      by_cases c28 : c.1 k = 28
      · rw [if_pos c28] at h
        have := (goM h).2; cases this; omega
      rw [if_neg c28] at h
      by_cases c29 : c.1 k = 29
      · rw [if_pos c29] at h
        have := (goM h).2; cases this; omega
      rw [if_neg c29] at h
      by_cases c30 : c.1 k = 30
      · rw [if_pos c30] at h
        by_cases e2 : 10 ≤ D
        · rw [if_pos e2] at h; cases h
        · rw [if_neg e2] at h
          obtain ⟨k1, a, h1, h2⟩ := rbM (goM h).2
          have := ih _ _ _ _ _ h1
          have h3 := exM h2
          cases h3; omega
      rw [if_neg c30] at h
      by_cases c40 : c.1 k = 40 ∨ c.1 k = 21 ∨ c.1 k = 22 ∨ c.1 k = 23 ∨ c.1 k = 24
      · rw [if_pos c40] at h
        by_cases e2 : 10 ≤ D
        · rw [if_pos e2] at h; cases h
        · rw [if_neg e2] at h
          obtain ⟨k1, a, h1, h2⟩ := rbM (goM h).2
          have := ih _ _ _ _ _ h1
          cases h2; omega
      rw [if_neg c40] at h
      by_cases c25 : c.1 k = 25
      · rw [if_pos c25] at h
        obtain ⟨k3, a, h1, h2⟩ := br (goM h).2
        cases h2; omega
      rw [if_neg c25] at h
      by_cases c27 : c.1 k = 27
      · rw [if_pos c27] at h
        obtain ⟨k3, a, h1, h2⟩ := br (goM h).2
        cases h2; omega
      rw [if_neg c27] at h
      by_cases c26 : c.1 k = 26
      · rw [if_pos c26] at h
        obtain ⟨k3, a, h1, h2⟩ := br (goM h).2
        obtain ⟨k4, b, h3, h4⟩ := rbM h2
        have := ih _ _ _ _ _ h3
        cases h4; omega
      rw [if_neg c26] at h
      by_cases c18 : c.1 k = 18
      · rw [if_pos c18] at h
        obtain ⟨k3, a, h1, h2⟩ := br (goM h).2
        obtain ⟨k4, b, h3, h4⟩ := rbM (exM h2)
        have := ih _ _ _ _ _ h3
        obtain ⟨k5, e, h5, h6⟩ := rbM (exM h4)
        have := ih _ _ _ _ _ h5
        cases h6; omega
      rw [if_neg c18] at h
      cases h
    split at h
    · obtain ⟨k1, a, h1, h2⟩ := rbM h
      have := ih _ _ _ _ _ h1
      have := loop _ _ _ _ _ _ _ _ _ h2
      omega
    · cases h
-- behind an error of form all goes on as it was
section CB
variable {c : Cx} {τ0 σ : CS} {lo : Nat × Nat} {L : Nat} {p : Int32}
theorem badAdd {s q a b : Int32} (hlo : lo.2 ≤ 1200) (he : τ0.1 1308 = nI (lo.2)) (h : BdS τ0 lo p σ) : Tr (FX3_add s q a b σ) (fun r σ' => BdS τ0 lo p σ' ∧ (r = -1 ∨ ∃ q, r = nI q ∧ lo.1 ≤ q ∧ q < lo.2)) := by
  obtain ⟨n, h1, h2, h3⟩ := h.1.2.2.2.2.2
  obtain ⟨r, σ', e, g1, g2, -⟩ := cAdd (σ := σ) (s := s) (p := q) (a := a) (b := b) hlo h1 h2 h3 (by rw [h.1.1 1308 (by decide) (by decide)]; exact he)
  exact ⟨r, σ', e, h.ad g1, g2⟩
theorem badBound {r l h9 : Int32} (hlo : lo.2 ≤ 1200) (h : BdS τ0 lo p σ) (hr : r = -1 ∨ ∃ q, r = nI q ∧ lo.1 ≤ q ∧ q < lo.2) : Tr (FX3_bound r l h9 σ) (fun _ σ' => BdS τ0 lo p σ') := by
  obtain ⟨σ', e, g1, -⟩ := cBound (nx := 0) (σ := σ) (l := l) (h := h9) hlo hr h.1.2.2.2.2.2
  exact ⟨(), σ', e, h.ad g1⟩
theorem BdS.lh (h : BdS τ0 lo p σ) {v : Int32} {j : Nat} (hj : j = 4310 ∨ j = 4311) : BdS τ0 lo p (tI σ j v) := by
  obtain ⟨hF, hb, hc⟩ := h
  have o : ∀ i, i ≠ j → (tI σ j v).1 i = σ.1 i := fun i hi => tI_o hi
  refine ⟨?_, ?_, ?_⟩
  · refine hF.ch ⟨fun i _ _ _ a b => o i (by rcases hj with e | e <;> rw [e] <;> assumption), fun _ _ => rfl, rfl⟩
  · rw [o _ (by omega)]; exact hb
  · rw [o 4309 (by omega), o 4307 (by omega), o 4308 (by omega), o 4305 (by omega)]; exact hc
theorem badComplain {e q : Int32} (h : BdS τ0 lo p σ) : Tr (FX4_complain e q σ) (fun _ σ' => BdS τ0 lo p σ') := by
  obtain ⟨hF, hb, hc⟩ := h
  rw [FX4_complain]
  by_cases h0 : σ.1 4307 = 0
  · rw [if_pos h0]
    refine Tr.ret ⟨?_, ?_, ?_⟩
    · obtain ⟨a, b, d, e2, f, n, hn⟩ := hF
      refine ⟨fun j h1 h2 => ?_, b, d, e2, f, n, ?_, hn.2⟩
      · rw [tI_o (by omega), tI_o (by omega)]; exact a j h1 h2
      · rw [tI_o (by decide), tI_o (by decide)]; exact hn.1
    · rw [tI_o (by decide), tI_o (by decide)]; exact hb
    · rcases hc with ⟨h1, h2, h3⟩ | ⟨h1, h2⟩
      · rw [h0] at h2; exact absurd h2 (by decide)
      · refine Or.inr ⟨?_, ?_⟩
        · rw [tI_o (by decide), tI_o (by decide)]; exact h1
        · rw [tI_o (by decide), tI_o (by decide)]; exact h2
  · rw [if_neg h0]
    exact Tr.ret ⟨hF, hb, hc⟩
theorem bad121 (h : BdS τ0 lo p σ) : Tr (FX4_readBounds_121 σ) (fun _ σ' => BdS τ0 lo p σ') := by
  rw [FX4_readBounds_121]
  exact (badExpect h (by decide)).bind (fun _ σ1 h1 => (badExpect h1 (by decide)).bind (fun _ σ2 h2 => Tr.ret h2))
theorem bad61 (h : BdS τ0 lo p σ) : Tr (FX4_readBounds_61 σ) (fun _ σ' => BdS τ0 lo p σ') := by
  rw [FX4_readBounds_61]
  refine (badExpect h (by decide)).bind (fun _ σ1 h1 => (badExpect h1 (by decide)).bind (fun _ σ2 h2 => ?_))
  rw [if_neg (by rw [h2.2.1]; decide)]
  exact bad121 (h2.lh (Or.inr rfl))
theorem badBounds (h : BdS τ0 lo p σ) : Tr (FX4_readBounds σ) (fun _ σ' => BdS τ0 lo p σ') := by
  rw [FX4_readBounds, if_neg (by rw [h.2.1]; decide)]
  exact Tr.ret ((h.lh (Or.inl rfl)).lh (Or.inr rfl))
theorem badFactor {d : Nat} {a : Int32} (hd : 1 ≤ d) (h : BdS τ0 lo p σ) : Tr (FSC4 L d 10 a σ) (fun _ σ' => BdS τ0 lo p σ') := by
  obtain ⟨d, rfl⟩ : ∃ z, d = z + 1 := ⟨d - 1, by omega⟩
  show Tr (FX4_factor (FSC4 L d) L a σ) _
  rw [FX4_factor, h.2.1, if_neg (show ¬ ((54 : Int32) = 18) by decide), if_neg (show ¬ ((54 : Int32) = 21) by decide), if_neg (show ¬ ((54 : Int32) = 22) by decide), if_neg (show ¬ ((54 : Int32) = 23) by decide), if_neg (show ¬ ((54 : Int32) = 24) by decide), if_neg (show ¬ ((54 : Int32) = 25) by decide), if_neg (show ¬ ((54 : Int32) = 26) by decide), if_neg (show ¬ ((54 : Int32) = 27) by decide), if_neg (show ¬ ((54 : Int32) = 28) by decide), if_neg (show ¬ ((54 : Int32) = 29) by decide), if_neg (show ¬ ((54 : Int32) = 30) by decide), if_neg (show ¬ ((54 : Int32) = 40) by decide), if_neg (show ¬ ((54 : Int32) = 51) by decide), if_neg (show ¬ ((54 : Int32) = 52) by decide)]
  exact (badFail h).bind (fun _ σ1 h1 => Tr.ret h1)
theorem badProdL {d n : Nat} {a b x q : Int32} (h : BdS τ0 lo p σ) : Tr (FX4_product_14 (FSC4 L d) L (n + 1) a b x q σ) (fun r σ' => BdS τ0 lo p σ') := by
  rw [FX4_product_14, h.2.1]
  split
  · exact Tr.ret h
  · rw [if_neg (show ¬ (54 : Int32) < 41 by decide), if_pos (show (43 : Int32) < 54 by decide)]
    exact Tr.ret h
theorem badProduct {d : Nat} {a : Int32} (hL : 1 ≤ L) (hd : 2 ≤ d) (h : BdS τ0 lo p σ) : Tr (FSC4 L d 9 a σ) (fun _ σ' => BdS τ0 lo p σ') := by
  obtain ⟨d, rfl⟩ : ∃ z, d = z + 1 := ⟨d - 1, by omega⟩
  obtain ⟨L, rfl⟩ : ∃ z, L = z + 1 := ⟨L - 1, by omega⟩
  show Tr (FX4_product (FSC4 (L + 1) d) (L + 1) a σ) _
  rw [FX4_product]
  exact (badFactor (by omega) h).bind (fun _ σ1 h1 => badProdL h1)
theorem badExprL {d n : Nat} {a b x q : Int32} (h : BdS τ0 lo p σ) : Tr (FX4_expression_14 (FSC4 L d) L (n + 1) a b x q σ) (fun r σ' => BdS τ0 lo p σ') := by
  rw [FX4_expression_14, h.2.1]
  split
  · exact Tr.ret h
  · rw [if_neg (show ¬ (54 : Int32) = 39 by decide), if_neg (show ¬ (54 : Int32) = 40 by decide)]
    exact Tr.ret h
theorem badExpr {d : Nat} {a : Int32} (hL : 1 ≤ L) (hd : 3 ≤ d) (h : BdS τ0 lo p σ) : Tr (FSC4 L d 8 a σ) (fun _ σ' => BdS τ0 lo p σ') := by
  obtain ⟨d, rfl⟩ : ∃ z, d = z + 1 := ⟨d - 1, by omega⟩
  obtain ⟨L, rfl⟩ : ∃ z, L = z + 1 := ⟨L - 1, by omega⟩
  show Tr (FX4_expression (FSC4 (L + 1) d) (L + 1) a σ) _
  rw [FX4_expression]
  exact (badProduct (by omega) (by omega) h).bind (fun _ σ1 h1 => badExprL h1)
theorem badCmp31 {d : Nat} (h : BdS τ0 lo p σ) : Tr (FX4_compare_31 (FSC4 L d) σ) (fun _ σ' => BdS τ0 lo p σ') := by
  rw [FX4_compare_31]
  exact (badFail h).bind (fun _ σ2 h2 => Tr.ret h2)
theorem badCompare {d : Nat} {a : Int32} (hL : 1 ≤ L) (hd : 4 ≤ d) (h : BdS τ0 lo p σ) : Tr (FSC4 L d 7 a σ) (fun _ σ' => BdS τ0 lo p σ') := by
  obtain ⟨d, rfl⟩ : ∃ z, d = z + 1 := ⟨d - 1, by omega⟩
  show Tr (FX4_compare (FSC4 L d) a σ) _
  rw [FX4_compare]
  refine (badExpr hL (by omega) h).bind (fun _ σ1 h1 => ?_)
  rw [h1.2.1, if_neg (show ¬ (54 : Int32) < 44 by decide), if_neg (show ¬ (54 : Int32) ≤ 49 by decide)]
  exact badCmp31 h1
theorem badOne {d : Nat} {a : Int32} (hL : 1 ≤ L) (hd : 5 ≤ d) (h : BdS τ0 lo p σ) : Tr (FSC4 L d 4 a σ) (fun _ σ' => BdS τ0 lo p σ') := by
  obtain ⟨d, rfl⟩ : ∃ z, d = z + 1 := ⟨d - 1, by omega⟩
  show Tr (FX4_one (FSC4 L d) L a σ) _
  rw [FX4_one, h.2.1, if_neg (show ¬ ((54 : Int32) = 5) by decide), if_neg (show ¬ ((54 : Int32) = 6) by decide), if_neg (show ¬ ((54 : Int32) = 7) by decide), if_neg (show ¬ ((54 : Int32) = 8) by decide), if_neg (show ¬ ((54 : Int32) = 9) by decide), if_neg (show ¬ ((54 : Int32) = 10) by decide), if_neg (show ¬ ((54 : Int32) = 15) by decide), if_neg (show ¬ ((54 : Int32) = 16) by decide), if_neg (show ¬ ((54 : Int32) = 17) by decide), if_neg (show ¬ ((54 : Int32) = 32) by decide)]
  exact (badCompare hL (by omega) h).bind (fun _ σ1 h1 => Tr.ret h1)
theorem badSince {d : Nat} {a : Int32} (hL : 1 ≤ L) (hd : 6 ≤ d) (h : BdS τ0 lo p σ) : Tr (FSC4 L d 3 a σ) (fun _ σ' => BdS τ0 lo p σ') := by
  obtain ⟨d, rfl⟩ : ∃ z, d = z + 1 := ⟨d - 1, by omega⟩
  show Tr (FX4_since (FSC4 L d) a σ) _
  rw [FX4_since]
  refine (badOne hL (by omega) h).bind (fun _ σ1 h1 => ?_)
  rw [if_neg (by rw [h1.2.1]; decide)]
  exact Tr.ret h1
theorem badBothL {d n : Nat} {a b x q : Int32} (h : BdS τ0 lo p σ) : Tr (FX4_both_14 (FSC4 L d) L (n + 1) a b x q σ) (fun r σ' => BdS τ0 lo p σ') := by
  rw [FX4_both_14, h.2.1]
  split
  · exact Tr.ret h
  · rw [if_neg (show ¬ (54 : Int32) = 12 by decide)]
    exact Tr.ret h
theorem badBoth {d : Nat} {a : Int32} (hL : 1 ≤ L) (hd : 7 ≤ d) (h : BdS τ0 lo p σ) : Tr (FSC4 L d 2 a σ) (fun _ σ' => BdS τ0 lo p σ') := by
  obtain ⟨d, rfl⟩ : ∃ z, d = z + 1 := ⟨d - 1, by omega⟩
  obtain ⟨L, rfl⟩ : ∃ z, L = z + 1 := ⟨L - 1, by omega⟩
  show Tr (FX4_both (FSC4 (L + 1) d) (L + 1) a σ) _
  rw [FX4_both]
  exact (badSince (by omega) (by omega) h).bind (fun _ σ1 h1 => badBothL h1)
theorem badEitherL {d n : Nat} {a b x q : Int32} (h : BdS τ0 lo p σ) : Tr (FX4_either_14 (FSC4 L d) L (n + 1) a b x q σ) (fun r σ' => BdS τ0 lo p σ') := by
  rw [FX4_either_14, h.2.1]
  split
  · exact Tr.ret h
  · rw [if_neg (show ¬ (54 : Int32) = 13 by decide)]
    exact Tr.ret h
theorem badEither {d : Nat} {a : Int32} (hL : 1 ≤ L) (hd : 8 ≤ d) (h : BdS τ0 lo p σ) : Tr (FSC4 L d 1 a σ) (fun _ σ' => BdS τ0 lo p σ') := by
  obtain ⟨d, rfl⟩ : ∃ z, d = z + 1 := ⟨d - 1, by omega⟩
  obtain ⟨L, rfl⟩ : ∃ z, L = z + 1 := ⟨L - 1, by omega⟩
  show Tr (FX4_either (FSC4 (L + 1) d) (L + 1) a σ) _
  rw [FX4_either]
  exact (badBoth (by omega) (by omega) h).bind (fun _ σ1 h1 => badEitherL h1)
theorem badFormulaL {d n : Nat} {a b x q : Int32} (h : BdS τ0 lo p σ) : Tr (FX4_formula_14 (FSC4 L d) L (n + 1) a b x q σ) (fun r σ' => BdS τ0 lo p σ') := by
  rw [FX4_formula_14, h.2.1]
  split
  · exact Tr.ret h
  · rw [if_neg (show ¬ (54 : Int32) = 14 by decide)]
    exact Tr.ret h
theorem badFormula {d : Nat} {a : Int32} (hL : 1 ≤ L) (hd : 9 ≤ d) (h : BdS τ0 lo p σ) : Tr (FSC4 L d 0 a σ) (fun _ σ' => BdS τ0 lo p σ') := by
  obtain ⟨d, rfl⟩ : ∃ z, d = z + 1 := ⟨d - 1, by omega⟩
  obtain ⟨L, rfl⟩ : ∃ z, L = z + 1 := ⟨L - 1, by omega⟩
  show Tr (FX4_formula (FSC4 (L + 1) d) (L + 1) a σ) _
  rw [FX4_formula]
  exact (badEither (by omega) (by omega) h).bind (fun _ σ1 h1 => badFormulaL h1)
theorem badBraced {d : Nat} {a : Int32} (hd : 1 ≤ d) (h : BdS τ0 lo p σ) : Tr (FSC4 L d 6 a σ) (fun _ σ' => BdS τ0 lo p σ') := by
  obtain ⟨d, rfl⟩ : ∃ z, d = z + 1 := ⟨d - 1, by omega⟩
  show Tr (FX4_braced (FSC4 L d) a σ) _
  rw [FX4_braced, if_neg (by rw [h.2.1]; decide)]
  exact (badFail h).bind (fun _ σ1 h1 => Tr.ret h1)
end CB
