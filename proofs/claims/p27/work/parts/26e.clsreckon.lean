theorem opV_31 {a lo hi th : Int32} {h : Hs} {A B C : Nat → Int64} {i : Nat} : opV 31 a lo hi th h A B C i = (match laV A (i + 1) with | none => -1 | some j => (h.1 i - h.1 j).toInt64) := by
  simp [opV]
  cases laV A (i + 1) <;> rfl
theorem opV_32 {a lo hi th : Int32} {h : Hs} {A B C : Nat → Int64} {i : Nat} : opV 32 a lo hi th h A B C i = (match laV A (i + 1) with | none => 0 | some j => B j) := by
  simp [opV]
  cases laV A (i + 1) <;> rfl
theorem obS {α β : Type} (a : α) (f : α → Option β) : (some a).bind f = f a := rfl
section CSn
variable {τ : CS} {n m i L : Nat}
theorem cLast {A : Nat → Int64} {t : Nat → Int32} {o : Int64} (ht : VT t (i + 1)) (ho : o = match laV A (i + 1) with | none => -1 | some j => (t i - t j).toInt64) : (if nzV (A (i + 1)) = true then (0 : Int64) else if i + 1 = 0 then -1 else if ¬ o < 0 then o + (t (i + 1) - t (i + 1 - 1)).toInt64 else -1) = match laV A (i + 1 + 1) with | none => -1 | some j => (t (i + 1) - t j).toInt64 := by
  obtain ⟨f, h1, h2⟩ := ht
  rw [laV]
  by_cases h : nzV (A (i + 1)) = true
  · rw [if_pos h, if_pos h]
    simp only []
    rw [Int32.sub_self]; rfl
  · rw [if_neg h, if_neg h, if_neg (by omega), Nat.add_sub_cancel]
    cases hl : laV A (i + 1) with
    | none =>
      rw [hl] at ho
      simp only [] at ho ⊢
      rw [if_neg (by rw [ho]; decide)]
    | some j =>
      rw [hl] at ho
      have hj := laV_lt _ hl
      simp only [] at ho ⊢
      have m1 := h2 j i (by omega) (by omega)
      have m2 := h2 i (i + 1) (by omega) (by omega)
      have m3 := h2 j (i + 1) (by omega) (by omega)
      have b1 := (h1 (i + 1) (by omega)).2
      rw [(h1 i (by omega)).1, (h1 j (by omega)).1, nI_sub m1, nI_l (by omega)] at ho
      rw [(h1 i (by omega)).1, (h1 j (by omega)).1, (h1 (i + 1) (by omega)).1, nI_sub m2, nI_sub m3, nI_l (by omega), nI_l (by omega), ho]
      have : ¬ lN (f i - f j) < 0 := by
        rw [show (0 : Int64) = lN 0 from rfl, lN_lt (by omega) (by omega)]; omega
      rw [if_pos this, lN_add]
      congr 1
      omega
/-- one part at one step -/
theorem cNode {V : Nat → Prop} (hT : okT V (ntC τ)) (hb : bdC τ n) (hV : ∀ m, V m → m < 1200) (hn : V n) (hi : i < 120) (hL : 200 ≤ L) (ht : VT (τ.2.2.1 46) i) (hP : ∀ m, V m → m < n → ∀ j, j ≤ i → cellC τ m j = vaN (ntC τ) (hsC τ) m j) (hQ : ∀ j, j < i → cellC τ n j = vaN (ntC τ) (hsC τ) n j) : (FX6_isFormula (τ.2.2.1 15 n) = some 1 ∧ ∃ b : Bool, FX6_holds L (nI n) (nI i) τ = some (bI b, τ) ∧ vaN (ntC τ) (hsC τ) n i = b2l b) ∨ (FX6_isFormula (τ.2.2.1 15 n) = some 0 ∧ FX6_number (nI n) (nI i) τ = some (vaN (ntC τ) (hsC τ) n i, τ)) := by
  obtain ⟨h0, h1, h2, h3, h4⟩ := (hT n hn).2
  have e : ∀ i', i' ≤ i → vaN (ntC τ) (hsC τ) n i' = opV (ntC τ n).1 (ntC τ n).2.1 (ntC τ n).2.2.2.2.1 (ntC τ n).2.2.2.2.2 (ntC τ n).2.2.2.1 (hsC τ) (cellC τ (ntC τ n).2.1.toNatClampNeg) (cellC τ (ntC τ n).2.2.1.toNatClampNeg) (cellC τ (ntC τ n).2.2.2.1.toNatClampNeg) i' := by
    intro i' hi'
    rw [vaN_eq hT hn]
    refine opV_congr h0 hC.refl (fun u j hj => ?_) (fun u j hj => ?_) (fun u j hj => ?_)
    · obtain ⟨m, hv, hm, e⟩ := h1 u
      rw [e, nI_clamp (by have := hV m hv; omega)]; exact (hP m hv hm j (by omega)).symm
    · obtain ⟨m, hv, hm, e⟩ := h2 u
      rw [e, nI_clamp (by have := hV m hv; omega)]; exact (hP m hv hm j (by omega)).symm
    · obtain ⟨m, hv, hm, e⟩ := h3 u
      rw [e, nI_clamp (by have := hV m hv; omega)]; exact (hP m hv hm j (by omega)).symm
  have ho : i ≠ 0 → cellC τ n (i - 1) = opV (ntC τ n).1 (ntC τ n).2.1 (ntC τ n).2.2.2.2.1 (ntC τ n).2.2.2.2.2 (ntC τ n).2.2.2.1 (hsC τ) (cellC τ (ntC τ n).2.1.toNatClampNeg) (cellC τ (ntC τ n).2.2.1.toNatClampNeg) (cellC τ (ntC τ n).2.2.2.1.toNatClampNeg) (i - 1) := fun h => by
    rw [hQ (i - 1) (by omega), e (i - 1) (by omega)]
  replace e := e i (Nat.le_refl _)
  have hnl := hV n hn
  simp only [ntC, hsC] at h0 h1 h2 h3 h4 ho
  rw [e]
  simp only [ntC, hsC]
  clear e
  have hc := kK_cases h0
  rcases hc with hk | hk | hk | hk | hk | hk | hk | hk | hk | hk | hk | hk | hk | hk | hk | hk | hk | hk | hk | hk | hk | hk | hk | hk | hk | hk | hk | hk | hk | hk | hk | hk | hk | hk | hk | hk
  · rw [hk, show kK 5 = 0 by decide] at h1 h2 h3 h4 ho
    rw [hk, show kK 5 = 0 by decide]
    obtain ⟨m, hv, hm, e1⟩ := h1 (by decide)
    rw [e1, nI_clamp (show m < 2 ^ 31 by have := hV m hv; omega)] at ho
    rw [e1, nI_clamp (show m < 2 ^ 31 by have := hV m hv; omega)]
    refine Or.inl ⟨by decide, _, cHolds_5 hnl hi hL hk (hV m hv) e1, ?_⟩
    simp [opV]
  · rw [hk, show kK 6 = 1 by decide] at h1 h2 h3 h4 ho
    rw [hk, show kK 6 = 1 by decide]
    obtain ⟨m, hv, hm, e1⟩ := h1 (by decide)
    rw [e1, nI_clamp (show m < 2 ^ 31 by have := hV m hv; omega)] at ho
    rw [e1, nI_clamp (show m < 2 ^ 31 by have := hV m hv; omega)]
    refine Or.inl ⟨by decide, _, cHolds_6 hnl hi hL hk (hV m hv) e1, ?_⟩
    cases i <;> simp [opV, pvC, nzV]
  · rw [hk, show kK 7 = 2 by decide] at h1 h2 h3 h4 ho
    rw [hk, show kK 7 = 2 by decide]
    obtain ⟨m, hv, hm, e1⟩ := h1 (by decide)
    rw [e1, nI_clamp (show m < 2 ^ 31 by have := hV m hv; omega)] at ho
    rw [e1, nI_clamp (show m < 2 ^ 31 by have := hV m hv; omega)]
    refine Or.inl ⟨by decide, _, cHolds_7 hnl hi hL hk (hV m hv) e1, ?_⟩
    cases i <;> simp [opV, pvC, nzV]
  · rw [hk, show kK 8 = 3 by decide] at h1 h2 h3 h4 ho
    rw [hk, show kK 8 = 3 by decide]
    obtain ⟨m, hv, hm, e1⟩ := h1 (by decide)
    rw [e1, nI_clamp (show m < 2 ^ 31 by have := hV m hv; omega)] at ho
    rw [e1, nI_clamp (show m < 2 ^ 31 by have := hV m hv; omega)]
    refine Or.inl ⟨by decide, _, cHolds_8 hnl hi hL hk (hV m hv) e1, ?_⟩
    cases i <;> simp [opV, pvC, nzV]
  · rw [hk, show kK 9 = 4 by decide] at h1 h2 h3 h4 ho
    rw [hk, show kK 9 = 4 by decide]
    obtain ⟨m, hv, hm, e1⟩ := h1 (by decide)
    rw [e1, nI_clamp (show m < 2 ^ 31 by have := hV m hv; omega)] at ho
    rw [e1, nI_clamp (show m < 2 ^ 31 by have := hV m hv; omega)]
    refine Or.inl ⟨by decide, _, cHolds_9 hnl hi hL hk (hV m hv) e1 hb ht (fun h => by rw [ho h]; simp [opV]), ?_⟩
    simp [opV]
  · rw [hk, show kK 10 = 5 by decide] at h1 h2 h3 h4 ho
    rw [hk, show kK 10 = 5 by decide]
    obtain ⟨m, hv, hm, e1⟩ := h1 (by decide)
    rw [e1, nI_clamp (show m < 2 ^ 31 by have := hV m hv; omega)] at ho
    rw [e1, nI_clamp (show m < 2 ^ 31 by have := hV m hv; omega)]
    refine Or.inl ⟨by decide, _, cHolds_10 hnl hi hL hk (hV m hv) e1 hb ht (fun h => by rw [ho h]; simp [opV]), ?_⟩
    simp [opV]
  · rw [hk, show kK 16 = 6 by decide] at h1 h2 h3 h4 ho
    rw [hk, show kK 16 = 6 by decide]
    refine Or.inl ⟨by decide, _, cHolds_16 hnl hi hL hk , ?_⟩
    simp [opV, b2l]
  · rw [hk, show kK 17 = 7 by decide] at h1 h2 h3 h4 ho
    rw [hk, show kK 17 = 7 by decide]
    refine Or.inl ⟨by decide, _, cHolds_17 hnl hi hL hk , ?_⟩
    simp [opV, b2l]
  · rw [hk, show kK 44 = 9 by decide] at h1 h2 h3 h4 ho
    rw [hk, show kK 44 = 9 by decide]
    rw [show ∀ x, kT 44 x = 0 from fun x => by simp [kT]] at ho
    rw [show ∀ x, kT 44 x = 0 from fun x => by simp [kT]]
    obtain ⟨m, hv, hm, e1⟩ := h1 (by decide)
    rw [e1, nI_clamp (show m < 2 ^ 31 by have := hV m hv; omega)] at ho
    rw [e1, nI_clamp (show m < 2 ^ 31 by have := hV m hv; omega)]
    obtain ⟨m2, hv2, hm2, e2⟩ := h2 (by decide)
    rw [e2, nI_clamp (show m2 < 2 ^ 31 by have := hV m2 hv2; omega)] at ho
    rw [e2, nI_clamp (show m2 < 2 ^ 31 by have := hV m2 hv2; omega)]
    refine Or.inl ⟨by decide, _, cHolds_44 hnl hi hL hk (hV m hv) e1 (hV m2 hv2) e2, ?_⟩
    simp [opV]
  · rw [hk, show kK 45 = 9 by decide] at h1 h2 h3 h4 ho
    rw [hk, show kK 45 = 9 by decide]
    rw [show ∀ x, kT 45 x = 1 from fun x => by simp [kT]] at ho
    rw [show ∀ x, kT 45 x = 1 from fun x => by simp [kT]]
    obtain ⟨m, hv, hm, e1⟩ := h1 (by decide)
    rw [e1, nI_clamp (show m < 2 ^ 31 by have := hV m hv; omega)] at ho
    rw [e1, nI_clamp (show m < 2 ^ 31 by have := hV m hv; omega)]
    obtain ⟨m2, hv2, hm2, e2⟩ := h2 (by decide)
    rw [e2, nI_clamp (show m2 < 2 ^ 31 by have := hV m2 hv2; omega)] at ho
    rw [e2, nI_clamp (show m2 < 2 ^ 31 by have := hV m2 hv2; omega)]
    refine Or.inl ⟨by decide, _, cHolds_45 hnl hi hL hk (hV m hv) e1 (hV m2 hv2) e2, ?_⟩
    simp [opV]
  · rw [hk, show kK 46 = 9 by decide] at h1 h2 h3 h4 ho
    rw [hk, show kK 46 = 9 by decide]
    rw [show ∀ x, kT 46 x = 2 from fun x => by simp [kT]] at ho
    rw [show ∀ x, kT 46 x = 2 from fun x => by simp [kT]]
    obtain ⟨m, hv, hm, e1⟩ := h1 (by decide)
    rw [e1, nI_clamp (show m < 2 ^ 31 by have := hV m hv; omega)] at ho
    rw [e1, nI_clamp (show m < 2 ^ 31 by have := hV m hv; omega)]
    obtain ⟨m2, hv2, hm2, e2⟩ := h2 (by decide)
    rw [e2, nI_clamp (show m2 < 2 ^ 31 by have := hV m2 hv2; omega)] at ho
    rw [e2, nI_clamp (show m2 < 2 ^ 31 by have := hV m2 hv2; omega)]
    refine Or.inl ⟨by decide, _, cHolds_46 hnl hi hL hk (hV m hv) e1 (hV m2 hv2) e2, ?_⟩
    simp [opV]
  · rw [hk, show kK 47 = 9 by decide] at h1 h2 h3 h4 ho
    rw [hk, show kK 47 = 9 by decide]
    rw [show ∀ x, kT 47 x = 3 from fun x => by simp [kT]] at ho
    rw [show ∀ x, kT 47 x = 3 from fun x => by simp [kT]]
    obtain ⟨m, hv, hm, e1⟩ := h1 (by decide)
    rw [e1, nI_clamp (show m < 2 ^ 31 by have := hV m hv; omega)] at ho
    rw [e1, nI_clamp (show m < 2 ^ 31 by have := hV m hv; omega)]
    obtain ⟨m2, hv2, hm2, e2⟩ := h2 (by decide)
    rw [e2, nI_clamp (show m2 < 2 ^ 31 by have := hV m2 hv2; omega)] at ho
    rw [e2, nI_clamp (show m2 < 2 ^ 31 by have := hV m2 hv2; omega)]
    refine Or.inl ⟨by decide, _, cHolds_47 hnl hi hL hk (hV m hv) e1 (hV m2 hv2) e2, ?_⟩
    simp [opV]
  · rw [hk, show kK 48 = 9 by decide] at h1 h2 h3 h4 ho
    rw [hk, show kK 48 = 9 by decide]
    rw [show ∀ x, kT 48 x = 4 from fun x => by simp [kT]] at ho
    rw [show ∀ x, kT 48 x = 4 from fun x => by simp [kT]]
    obtain ⟨m, hv, hm, e1⟩ := h1 (by decide)
    rw [e1, nI_clamp (show m < 2 ^ 31 by have := hV m hv; omega)] at ho
    rw [e1, nI_clamp (show m < 2 ^ 31 by have := hV m hv; omega)]
    obtain ⟨m2, hv2, hm2, e2⟩ := h2 (by decide)
    rw [e2, nI_clamp (show m2 < 2 ^ 31 by have := hV m2 hv2; omega)] at ho
    rw [e2, nI_clamp (show m2 < 2 ^ 31 by have := hV m2 hv2; omega)]
    refine Or.inl ⟨by decide, _, cHolds_48 hnl hi hL hk (hV m hv) e1 (hV m2 hv2) e2, ?_⟩
    simp [opV]
  · rw [hk, show kK 49 = 9 by decide] at h1 h2 h3 h4 ho
    rw [hk, show kK 49 = 9 by decide]
    rw [show ∀ x, kT 49 x = 5 from fun x => by simp [kT]] at ho
    rw [show ∀ x, kT 49 x = 5 from fun x => by simp [kT]]
    obtain ⟨m, hv, hm, e1⟩ := h1 (by decide)
    rw [e1, nI_clamp (show m < 2 ^ 31 by have := hV m hv; omega)] at ho
    rw [e1, nI_clamp (show m < 2 ^ 31 by have := hV m hv; omega)]
    obtain ⟨m2, hv2, hm2, e2⟩ := h2 (by decide)
    rw [e2, nI_clamp (show m2 < 2 ^ 31 by have := hV m2 hv2; omega)] at ho
    rw [e2, nI_clamp (show m2 < 2 ^ 31 by have := hV m2 hv2; omega)]
    refine Or.inl ⟨by decide, _, cHolds_49 hnl hi hL hk (hV m hv) e1 (hV m2 hv2) e2, ?_⟩
    simp [opV]
  · rw [hk, show kK 11 = 10 by decide] at h1 h2 h3 h4 ho
    rw [hk, show kK 11 = 10 by decide]
    obtain ⟨m, hv, hm, e1⟩ := h1 (by decide)
    rw [e1, nI_clamp (show m < 2 ^ 31 by have := hV m hv; omega)] at ho
    rw [e1, nI_clamp (show m < 2 ^ 31 by have := hV m hv; omega)]
    obtain ⟨m2, hv2, hm2, e2⟩ := h2 (by decide)
    rw [e2, nI_clamp (show m2 < 2 ^ 31 by have := hV m2 hv2; omega)] at ho
    rw [e2, nI_clamp (show m2 < 2 ^ 31 by have := hV m2 hv2; omega)]
    refine Or.inl ⟨by decide, _, cHolds_11 hnl hi hL hk (hV m hv) e1 (hV m2 hv2) e2 hb ht (fun h => by rw [ho h]; simp [opV]), ?_⟩
    simp [opV]
  · rw [hk, show kK 12 = 11 by decide] at h1 h2 h3 h4 ho
    rw [hk, show kK 12 = 11 by decide]
    obtain ⟨m, hv, hm, e1⟩ := h1 (by decide)
    rw [e1, nI_clamp (show m < 2 ^ 31 by have := hV m hv; omega)] at ho
    rw [e1, nI_clamp (show m < 2 ^ 31 by have := hV m hv; omega)]
    obtain ⟨m2, hv2, hm2, e2⟩ := h2 (by decide)
    rw [e2, nI_clamp (show m2 < 2 ^ 31 by have := hV m2 hv2; omega)] at ho
    rw [e2, nI_clamp (show m2 < 2 ^ 31 by have := hV m2 hv2; omega)]
    refine Or.inl ⟨by decide, _, cHolds_12 hnl hi hL hk (hV m hv) e1 (hV m2 hv2) e2, ?_⟩
    simp [opV]
  · rw [hk, show kK 13 = 12 by decide] at h1 h2 h3 h4 ho
    rw [hk, show kK 13 = 12 by decide]
    obtain ⟨m, hv, hm, e1⟩ := h1 (by decide)
    rw [e1, nI_clamp (show m < 2 ^ 31 by have := hV m hv; omega)] at ho
    rw [e1, nI_clamp (show m < 2 ^ 31 by have := hV m hv; omega)]
    obtain ⟨m2, hv2, hm2, e2⟩ := h2 (by decide)
    rw [e2, nI_clamp (show m2 < 2 ^ 31 by have := hV m2 hv2; omega)] at ho
    rw [e2, nI_clamp (show m2 < 2 ^ 31 by have := hV m2 hv2; omega)]
    refine Or.inl ⟨by decide, _, cHolds_13 hnl hi hL hk (hV m hv) e1 (hV m2 hv2) e2, ?_⟩
    simp [opV]
  · rw [hk, show kK 14 = 13 by decide] at h1 h2 h3 h4 ho
    rw [hk, show kK 14 = 13 by decide]
    obtain ⟨m, hv, hm, e1⟩ := h1 (by decide)
    rw [e1, nI_clamp (show m < 2 ^ 31 by have := hV m hv; omega)] at ho
    rw [e1, nI_clamp (show m < 2 ^ 31 by have := hV m hv; omega)]
    obtain ⟨m2, hv2, hm2, e2⟩ := h2 (by decide)
    rw [e2, nI_clamp (show m2 < 2 ^ 31 by have := hV m2 hv2; omega)] at ho
    rw [e2, nI_clamp (show m2 < 2 ^ 31 by have := hV m2 hv2; omega)]
    refine Or.inl ⟨by decide, _, cHolds_14 hnl hi hL hk (hV m hv) e1 (hV m2 hv2) e2, ?_⟩
    simp [opV]
  · rw [hk, show kK 52 = 20 by decide] at h1 h2 h3 h4 ho
    rw [hk, show kK 52 = 20 by decide]
    refine Or.inr ⟨by decide, ?_⟩
    rw [cNum_52 hnl hi hk ]
    simp [opV]
  · rw [hk, show kK 0 = 21 by decide] at h1 h2 h3 h4 ho
    rw [hk, show kK 0 = 21 by decide]
    refine Or.inr ⟨by decide, ?_⟩
    obtain ⟨m, hm, e1⟩ := h4 rfl
    rw [cNum_0 hnl hi hk hm e1, e1, nI_clamp (show m < 2 ^ 31 by omega)]
    simp [opV, nI_clamp (show m < 2 ^ 31 by omega)]
  · rw [hk, show kK 28 = 23 by decide] at h1 h2 h3 h4 ho
    rw [hk, show kK 28 = 23 by decide]
    refine Or.inr ⟨by decide, ?_⟩
    rw [cNum_28 hnl hi hk ]
    simp [opV]
  · rw [hk, show kK 29 = 24 by decide] at h1 h2 h3 h4 ho
    rw [hk, show kK 29 = 24 by decide]
    refine Or.inr ⟨by decide, ?_⟩
    rw [cNum_29 hnl hi hk ]
    simp [opV]
  · rw [hk, show kK 55 = 25 by decide] at h1 h2 h3 h4 ho
    rw [hk, show kK 55 = 25 by decide]
    obtain ⟨m, hv, hm, e1⟩ := h1 (by decide)
    rw [e1, nI_clamp (show m < 2 ^ 31 by have := hV m hv; omega)] at ho
    rw [e1, nI_clamp (show m < 2 ^ 31 by have := hV m hv; omega)]
    refine Or.inr ⟨by decide, ?_⟩
    rw [cNum_55 hnl hi hk (hV m hv) e1]
    simp [opV]
  · rw [hk, show kK 21 = 26 by decide] at h1 h2 h3 h4 ho
    rw [hk, show kK 21 = 26 by decide]
    obtain ⟨m, hv, hm, e1⟩ := h1 (by decide)
    rw [e1, nI_clamp (show m < 2 ^ 31 by have := hV m hv; omega)] at ho
    rw [e1, nI_clamp (show m < 2 ^ 31 by have := hV m hv; omega)]
    refine Or.inr ⟨by decide, ?_⟩
    rw [cNum_21 hnl hi hk (hV m hv) e1]
    cases i <;> simp [opV, pvC]
  · rw [hk, show kK 22 = 27 by decide] at h1 h2 h3 h4 ho
    rw [hk, show kK 22 = 27 by decide]
    obtain ⟨m, hv, hm, e1⟩ := h1 (by decide)
    rw [e1, nI_clamp (show m < 2 ^ 31 by have := hV m hv; omega)] at ho
    rw [e1, nI_clamp (show m < 2 ^ 31 by have := hV m hv; omega)]
    refine Or.inr ⟨by decide, ?_⟩
    rw [cNum_22 hnl hi hk (hV m hv) e1]
    cases i with
    | zero => simp [opV, mxV]
    | succ i =>
      have ho := ho (by omega)
      simp only [Nat.add_sub_cancel] at ho
      simp [opV, pvC, mxV, ho]
  · rw [hk, show kK 23 = 28 by decide] at h1 h2 h3 h4 ho
    rw [hk, show kK 23 = 28 by decide]
    obtain ⟨m, hv, hm, e1⟩ := h1 (by decide)
    rw [e1, nI_clamp (show m < 2 ^ 31 by have := hV m hv; omega)] at ho
    rw [e1, nI_clamp (show m < 2 ^ 31 by have := hV m hv; omega)]
    refine Or.inr ⟨by decide, ?_⟩
    rw [cNum_23 hnl hi hk (hV m hv) e1]
    cases i with
    | zero => simp [opV, mnV]
    | succ i =>
      have ho := ho (by omega)
      simp only [Nat.add_sub_cancel] at ho
      simp [opV, pvC, mnV, ho]
  · rw [hk, show kK 24 = 29 by decide] at h1 h2 h3 h4 ho
    rw [hk, show kK 24 = 29 by decide]
    obtain ⟨m, hv, hm, e1⟩ := h1 (by decide)
    rw [e1, nI_clamp (show m < 2 ^ 31 by have := hV m hv; omega)] at ho
    rw [e1, nI_clamp (show m < 2 ^ 31 by have := hV m hv; omega)]
    refine Or.inr ⟨by decide, ?_⟩
    rw [cNum_24 hnl hi hk (hV m hv) e1]
    cases i with
    | zero => simp [opV, pvC, suV]
    | succ i =>
      have ho := ho (by omega)
      simp only [Nat.add_sub_cancel] at ho
      simp [opV, pvC, suV, ho]
  · rw [hk, show kK 25 = 30 by decide] at h1 h2 h3 h4 ho
    rw [hk, show kK 25 = 30 by decide]
    obtain ⟨m, hv, hm, e1⟩ := h1 (by decide)
    rw [e1, nI_clamp (show m < 2 ^ 31 by have := hV m hv; omega)] at ho
    rw [e1, nI_clamp (show m < 2 ^ 31 by have := hV m hv; omega)]
    refine Or.inr ⟨by decide, ?_⟩
    rw [cNum_25 hnl hi hk (hV m hv) e1]
    cases i with
    | zero => simp [opV, pvC, suV]
    | succ i =>
      have ho := ho (by omega)
      simp only [Nat.add_sub_cancel] at ho
      simp [opV, pvC, suV, ho]
  · rw [hk, show kK 27 = 31 by decide] at h1 h2 h3 h4 ho
    rw [hk, show kK 27 = 31 by decide]
    obtain ⟨m, hv, hm, e1⟩ := h1 (by decide)
    rw [e1, nI_clamp (show m < 2 ^ 31 by have := hV m hv; omega)] at ho
    rw [e1, nI_clamp (show m < 2 ^ 31 by have := hV m hv; omega)]
    refine Or.inr ⟨by decide, ?_⟩
    rw [cNum_27 hnl hi hk (hV m hv) e1]
    cases i with
    | zero =>
      rw [opV_31]
      by_cases h : nzV (cellC τ m 0) = true <;> simp [laV, h]
    | succ i =>
      have ho := ho (by omega)
      simp only [Nat.add_sub_cancel] at ho
      have := cLast (A := cellC τ m) (o := pvC τ n (i + 1)) ht (by rw [pvC, if_neg (by omega)]; simp only [Nat.add_sub_cancel]; rw [ho, opV_31])
      rw [this, opV_31]
  · rw [hk, show kK 26 = 32 by decide] at h1 h2 h3 h4 ho
    rw [hk, show kK 26 = 32 by decide]
    obtain ⟨m, hv, hm, e1⟩ := h1 (by decide)
    rw [e1, nI_clamp (show m < 2 ^ 31 by have := hV m hv; omega)] at ho
    rw [e1, nI_clamp (show m < 2 ^ 31 by have := hV m hv; omega)]
    obtain ⟨m2, hv2, hm2, e2⟩ := h2 (by decide)
    rw [e2, nI_clamp (show m2 < 2 ^ 31 by have := hV m2 hv2; omega)] at ho
    rw [e2, nI_clamp (show m2 < 2 ^ 31 by have := hV m2 hv2; omega)]
    refine Or.inr ⟨by decide, ?_⟩
    rw [cNum_26 hnl hi hk (hV m hv) e1 (hV m2 hv2) e2]
    cases i with
    | zero =>
      rw [opV_32]
      by_cases h : nzV (cellC τ m 0) = true <;> simp [laV, h, pvC]
    | succ i =>
      have ho := ho (by omega)
      simp only [Nat.add_sub_cancel] at ho
      rw [pvC, if_neg (show ¬ (i + 1 = 0) by omega)]
      simp only [Nat.add_sub_cancel]
      rw [ho, opV_32, opV_32]
      by_cases h : nzV (cellC τ m (i + 1)) = true
      · rw [if_pos h, laV, if_pos h]
      · rw [if_neg h]
        rw [show laV (cellC τ m) (i + 1 + 1) = laV (cellC τ m) (i + 1) by rw [laV, if_neg h]]
  · rw [hk, show kK 18 = 33 by decide] at h1 h2 h3 h4 ho
    rw [hk, show kK 18 = 33 by decide]
    obtain ⟨m, hv, hm, e1⟩ := h1 (by decide)
    rw [e1, nI_clamp (show m < 2 ^ 31 by have := hV m hv; omega)] at ho
    rw [e1, nI_clamp (show m < 2 ^ 31 by have := hV m hv; omega)]
    obtain ⟨m2, hv2, hm2, e2⟩ := h2 (by decide)
    rw [e2, nI_clamp (show m2 < 2 ^ 31 by have := hV m2 hv2; omega)] at ho
    rw [e2, nI_clamp (show m2 < 2 ^ 31 by have := hV m2 hv2; omega)]
    rw [show ∀ x, kT 18 x = x from fun x => by simp [kT]] at ho h3
    rw [show ∀ x, kT 18 x = x from fun x => by simp [kT]]
    obtain ⟨m3, hv3, hm3, e3⟩ := h3 (by decide)
    rw [e3, nI_clamp (show m3 < 2 ^ 31 by have := hV m3 hv3; omega)] at ho
    rw [e3, nI_clamp (show m3 < 2 ^ 31 by have := hV m3 hv3; omega)]
    refine Or.inr ⟨by decide, ?_⟩
    rw [cNum_18 hnl hi hk (hV m hv) e1 (hV m2 hv2) e2 (hV m3 hv3) e3]
    simp [opV]
  · rw [hk, show kK 39 = 34 by decide] at h1 h2 h3 h4 ho
    rw [hk, show kK 39 = 34 by decide]
    rw [show ∀ x, kT 39 x = 0 from fun x => by simp [kT]] at ho
    rw [show ∀ x, kT 39 x = 0 from fun x => by simp [kT]]
    obtain ⟨m, hv, hm, e1⟩ := h1 (by decide)
    rw [e1, nI_clamp (show m < 2 ^ 31 by have := hV m hv; omega)] at ho
    rw [e1, nI_clamp (show m < 2 ^ 31 by have := hV m hv; omega)]
    obtain ⟨m2, hv2, hm2, e2⟩ := h2 (by decide)
    rw [e2, nI_clamp (show m2 < 2 ^ 31 by have := hV m2 hv2; omega)] at ho
    rw [e2, nI_clamp (show m2 < 2 ^ 31 by have := hV m2 hv2; omega)]
    refine Or.inr ⟨by decide, ?_⟩
    rw [cNum_39 hnl hi hk (hV m hv) e1 (hV m2 hv2) e2]
    simp [opV, binV]
  · rw [hk, show kK 40 = 34 by decide] at h1 h2 h3 h4 ho
    rw [hk, show kK 40 = 34 by decide]
    rw [show ∀ x, kT 40 x = 1 from fun x => by simp [kT]] at ho
    rw [show ∀ x, kT 40 x = 1 from fun x => by simp [kT]]
    obtain ⟨m, hv, hm, e1⟩ := h1 (by decide)
    rw [e1, nI_clamp (show m < 2 ^ 31 by have := hV m hv; omega)] at ho
    rw [e1, nI_clamp (show m < 2 ^ 31 by have := hV m hv; omega)]
    obtain ⟨m2, hv2, hm2, e2⟩ := h2 (by decide)
    rw [e2, nI_clamp (show m2 < 2 ^ 31 by have := hV m2 hv2; omega)] at ho
    rw [e2, nI_clamp (show m2 < 2 ^ 31 by have := hV m2 hv2; omega)]
    refine Or.inr ⟨by decide, ?_⟩
    rw [cNum_40 hnl hi hk (hV m hv) e1 (hV m2 hv2) e2]
    simp [opV, binV]
  · rw [hk, show kK 41 = 34 by decide] at h1 h2 h3 h4 ho
    rw [hk, show kK 41 = 34 by decide]
    rw [show ∀ x, kT 41 x = 2 from fun x => by simp [kT]] at ho
    rw [show ∀ x, kT 41 x = 2 from fun x => by simp [kT]]
    obtain ⟨m, hv, hm, e1⟩ := h1 (by decide)
    rw [e1, nI_clamp (show m < 2 ^ 31 by have := hV m hv; omega)] at ho
    rw [e1, nI_clamp (show m < 2 ^ 31 by have := hV m hv; omega)]
    obtain ⟨m2, hv2, hm2, e2⟩ := h2 (by decide)
    rw [e2, nI_clamp (show m2 < 2 ^ 31 by have := hV m2 hv2; omega)] at ho
    rw [e2, nI_clamp (show m2 < 2 ^ 31 by have := hV m2 hv2; omega)]
    refine Or.inr ⟨by decide, ?_⟩
    rw [cNum_41 hnl hi hk (hV m hv) e1 (hV m2 hv2) e2]
    simp [opV, binV]
  · rw [hk, show kK 42 = 34 by decide] at h1 h2 h3 h4 ho
    rw [hk, show kK 42 = 34 by decide]
    rw [show ∀ x, kT 42 x = 3 from fun x => by simp [kT]] at ho
    rw [show ∀ x, kT 42 x = 3 from fun x => by simp [kT]]
    obtain ⟨m, hv, hm, e1⟩ := h1 (by decide)
    rw [e1, nI_clamp (show m < 2 ^ 31 by have := hV m hv; omega)] at ho
    rw [e1, nI_clamp (show m < 2 ^ 31 by have := hV m hv; omega)]
    obtain ⟨m2, hv2, hm2, e2⟩ := h2 (by decide)
    rw [e2, nI_clamp (show m2 < 2 ^ 31 by have := hV m2 hv2; omega)] at ho
    rw [e2, nI_clamp (show m2 < 2 ^ 31 by have := hV m2 hv2; omega)]
    refine Or.inr ⟨by decide, ?_⟩
    rw [cNum_42 hnl hi hk (hV m hv) e1 (hV m2 hv2) e2]
    simp [opV, binV]
  · rw [hk, show kK 43 = 34 by decide] at h1 h2 h3 h4 ho
    rw [hk, show kK 43 = 34 by decide]
    rw [show ∀ x, kT 43 x = 4 from fun x => by simp [kT]] at ho
    rw [show ∀ x, kT 43 x = 4 from fun x => by simp [kT]]
    obtain ⟨m, hv, hm, e1⟩ := h1 (by decide)
    rw [e1, nI_clamp (show m < 2 ^ 31 by have := hV m hv; omega)] at ho
    rw [e1, nI_clamp (show m < 2 ^ 31 by have := hV m hv; omega)]
    obtain ⟨m2, hv2, hm2, e2⟩ := h2 (by decide)
    rw [e2, nI_clamp (show m2 < 2 ^ 31 by have := hV m2 hv2; omega)] at ho
    rw [e2, nI_clamp (show m2 < 2 ^ 31 by have := hV m2 hv2; omega)]
    refine Or.inr ⟨by decide, ?_⟩
    rw [cNum_43 hnl hi hk (hV m hv) e1 (hV m2 hv2) e2]
    simp [opV, binV]

theorem tT_tT {σ : CS} {k : Nat} {x y : Nat → Nat → Int64} : tT (tT σ k x) k y = tT σ k y := by
  show ((σ.1, σ.2.1, σ.2.2.1, σ.2.2.2.1, va_up (va_up σ.2.2.2.2 k x) k y) : CS) = _
  rw [va_upup]
theorem tT_id {σ : CS} {k : Nat} : tT σ k (σ.2.2.2.2 k) = σ := by
  show ((σ.1, σ.2.1, σ.2.2.1, σ.2.2.2.1, va_up σ.2.2.2.2 k (σ.2.2.2.2 k)) : CS) = σ
  have : va_up σ.2.2.2.2 k (σ.2.2.2.2 k) = σ.2.2.2.2 := by
    funext j; unfold va_up; by_cases h : j = k
    · rw [if_pos h, h]
    · rw [if_neg h]
  rw [this]
theorem cell_up {T : Nat → Nat → Int64} {m j : Nat} {x : Int64} : va_up T n (vp_updL (T n) i x) m j = if m = n ∧ j = i then x else T m j := by
  unfold va_up vp_updL
  by_cases h : m = n
  · by_cases h2 : j = i
    · simp [h, h2]
    · simp [h, h2]
  · simp [h]
/-- the parts from one on, at a step -/
theorem cReckon {V : Nat → Prop} {N from' : Nat} (hN : N ≤ 1200) (hV : ∀ m, V m → m < N) (hVf : ∀ m, from' ≤ m → m < N → V m) (hi : i < 120) (hL : 1300 ≤ L) : ∀ (d n fuel : Nat) (τ : CS), okT V (ntC τ) → (∀ m, V m → bdC τ m) → VT (τ.2.2.1 46) i → from' ≤ n → n + d = N → d < fuel → (∀ m, V m → m < n → ∀ j, j ≤ i → cellC τ m j = vaN (ntC τ) (hsC τ) m j) → (∀ m, V m → ∀ j, j < i → cellC τ m j = vaN (ntC τ) (hsC τ) m j) → ∃ T : Nat → Nat → Int64, FX6_reckon_3 L fuel (nI N) (nI i) (nI n) τ = some ((), tT τ 2 T) ∧ (∀ m, V m → ∀ j, j ≤ i → T m j = vaN (ntC τ) (hsC τ) m j) ∧ (∀ m j, (m < n ∨ N ≤ m ∨ j ≠ i) → T m j = cellC τ m j) := by
  intro d
  induction d with
  | zero =>
    intro n fuel τ hT hb ht hf hd hfu hP hQ
    obtain ⟨q, rfl⟩ : ∃ z, fuel = z + 1 := ⟨fuel - 1, by omega⟩
    refine ⟨τ.2.2.2.2 2, ?_, fun m hv j hj => hP m hv (by have := hV m hv; omega) j hj, fun m j _ => rfl⟩
    rw [FX6_reckon_3, if_pos (nI_le (show N ≤ n by omega) (by omega)), tT_id]
  | succ d ih =>
    intro n fuel τ hT hb ht hf hd hfu hP hQ
    obtain ⟨q, rfl⟩ : ∃ z, fuel = z + 1 := ⟨fuel - 1, by omega⟩
    have hn : V n := hVf n hf (by omega)
    have hn2 : n < 1200 := by omega
    have hV3 : ∀ m, V m → m < 1200 := fun m hm => by have := hV m hm; omega
    have key : ∀ x : Int64, x = vaN (ntC τ) (hsC τ) n i → ∃ T : Nat → Nat → Int64, FX6_reckon_3 L q (nI N) (nI i) (nI n + 1) (tT τ 2 (putT 1200 (τ.2.2.2.2 2) (nI n) (nI i) x)) = some ((), tT τ 2 T) ∧ (∀ m, V m → ∀ j, j ≤ i → T m j = vaN (ntC τ) (hsC τ) m j) ∧ (∀ m j, (m < n ∨ N ≤ m ∨ j ≠ i) → T m j = cellC τ m j) := by
      intro x hx
      rw [pT hn2 (by decide) hi]
      have tb : ∀ m j, cellC (tT τ 2 (va_up (τ.2.2.2.2 2) n (vp_updL (τ.2.2.2.2 2 n) i x))) m j = if m = n ∧ j = i then x else cellC τ m j := fun m j => by
        rw [show cellC (tT τ 2 (va_up (τ.2.2.2.2 2) n (vp_updL (τ.2.2.2.2 2 n) i x))) m j = va_up (τ.2.2.2.2 2) n (vp_updL (τ.2.2.2.2 2 n) i x) m j from congrFun (congrFun tT_row _) _, cell_up]; rfl
      obtain ⟨T, h1, h2, h3⟩ := ih (n + 1) q (tT τ 2 (va_up (τ.2.2.2.2 2) n (vp_updL (τ.2.2.2.2 2 n) i x))) hT hb ht (by omega) (by omega) (by omega) (fun m hv hm j hj => by
          rw [tb m j]
          by_cases h : m = n ∧ j = i
          · rw [if_pos h, hx, h.1, h.2]; rfl
          · rw [if_neg h]
            by_cases hmn : m = n
            · rw [hmn]; exact hQ n hn j (by omega)
            · exact hP m hv (by omega) j hj) (fun m hv j hj => by
          rw [tb m j, if_neg (by omega)]; exact hQ m hv j hj)
      refine ⟨T, ?_, fun m hv j hj => h2 m hv j hj, fun m j hh => ?_⟩
      · rw [nI_succ] at h1
        rw [h1, tT_tT]
      · rw [h3 m j (by omega), tb m j, if_neg (by omega)]
    rw [FX6_reckon_3, if_neg (fun h => by rw [nI_leI (by omega) (by omega)] at h; omega), gI hn2 (by decide)]
    rcases cNode (L := L) hT (hb n hn) hV3 hn hi (by omega) ht (fun m hv hm j hj => hP m hv hm j hj) (fun j hj => hQ n hn j hj) with ⟨hk, b, h1, h2⟩ | ⟨hk, h1⟩
    · obtain ⟨T, g1, g2, g3⟩ := key (b2l b) h2.symm
      refine ⟨T, ?_, g2, g3⟩
      rw [hk, obS, if_neg (by decide), h1, b2r, ibI]
      cases b
      · rw [if_neg (by decide)]; exact g1
      · rw [if_pos rfl]; exact g1
    · obtain ⟨T, g1, g2, g3⟩ := key _ rfl
      refine ⟨T, ?_, g2, g3⟩
      rw [hk, obS, if_pos rfl, h1, b2r]
      exact g1
-- the reason
def st2 (τ : CS) (a b : Int32) : CS := tI (tI τ 5403 a) 5404 b
theorem st2_a {a b a' : Int32} : tI (st2 τ a b) 5403 a' = st2 τ a' b := by
  show ((va_up (va_up (va_up τ.1 5403 a) 5404 b) 5403 a', τ.2) : CS) = (va_up (va_up τ.1 5403 a') 5404 b, τ.2)
  congr 1
  funext k
  unfold va_up
  by_cases h : k = 5403
  · subst h; simp
  · simp [h]
theorem st2_b {a b b' : Int32} : tI (st2 τ a b) 5404 b' = st2 τ a b' := by
  show ((va_up (va_up (va_up τ.1 5403 a) 5404 b) 5404 b', τ.2) : CS) = (va_up (va_up τ.1 5403 a) 5404 b', τ.2)
  rw [va_upup]
theorem st2_1 {a b : Int32} : (st2 τ a b).1 5403 = a := by
  show va_up (va_up τ.1 5403 a) 5404 b 5403 = a
  rw [up_n (by decide), up_s]
theorem st2_2 {a b : Int32} : (st2 τ a b).1 5404 = b := by
  show va_up (va_up τ.1 5403 a) 5404 b 5404 = b
  exact up_s
theorem opV_miss {lo hi a th : Int32} {h : Hs} {A B C : Nat → Int64} (h0 : opV 5 a lo hi th h A B C i = 0) : ∃ j, miV lo hi h.1 A i (i + 1) = some j ∧ j ≤ i ∧ A j = 0 := by
  have : b2l (miV lo hi h.1 A i (i + 1)).isNone = 0 := by simpa [opV] using h0
  cases e : miV lo hi h.1 A i (i + 1) with
  | none => rw [e] at this; exact absurd this (by decide)
  | some j => exact ⟨j, rfl, by have := miV_lt _ e; omega, miV_zero _ e⟩
theorem b2l_0 {b : Bool} : b2l b = 0 ↔ b = false := by cases b <;> decide
theorem cReason {i0 : Nat} {V : Nat → Prop} (hT : okT V (ntC τ)) (hbd : ∀ m, V m → bdC τ m) (hV : ∀ m, V m → m < 1200) (hL : 200 ≤ L) (ht : ∀ i, i < i0 → VT (τ.2.2.1 46) i) (hi0 : i0 ≤ 120) (hP : ∀ m, V m → ∀ j, j < i0 → cellC τ m j = vaN (ntC τ) (hsC τ) m j) : ∀ (n i c fuel : Nat), V n → i < i0 → vaN (ntC τ) (hsC τ) n i = 0 → c + n < 1200 → n + 2 < fuel → ∃ r s : Nat, r < 1200 ∧ FX6_findReason_15 L fuel 1 (nI c) (st2 τ (nI n) (nI i)) = some ((), st2 τ (nI r) (nI s)) ∧ (τ.2.2.1 17 r, nI s) = reN (ntC τ) (τ.2.2.1 17) (hsC τ) n i := by
  intro n
  induction n using Nat.strongRecOn with
  | _ n ih =>
    intro i c fuel hn hi hz hc hfu
    obtain ⟨q, rfl⟩ : ∃ z, fuel = z + 1 := ⟨fuel - 1, by omega⟩
    have hnl := hV n hn
    obtain ⟨h0, h1, h2, h3, h4⟩ := (hT n hn).2
    rw [FX6_findReason_15, if_neg (by decide), if_neg (fun h => by rw [show (1200 : Int32) = nI 1200 from rfl, nI_leI (by omega) (by omega)] at h; omega), reN_eq hT hn]
    rw [vaN_eq hT hn] at hz
    have stop : FX6_goToPart L (st2 τ (nI n) (nI i)) = some (0, st2 τ (nI n) (nI i)) → opR (ntC τ n).1 (ntC τ n).2.2.2.2.1 (ntC τ n).2.2.2.2.2 (τ.2.2.1 17 n) (hsC τ) (vaN (ntC τ) (hsC τ) (ntC τ n).2.1.toNatClampNeg) (reN (ntC τ) (τ.2.2.1 17) (hsC τ) (ntC τ n).2.1.toNatClampNeg) (reN (ntC τ) (τ.2.2.1 17) (hsC τ) (ntC τ n).2.2.1.toNatClampNeg) i = (τ.2.2.1 17 n, nI i) → ∃ r s : Nat, r < 1200 ∧ (b2 (FX6_goToPart L (st2 τ (nI n) (nI i))) fun r_3 σ_3 => FX6_findReason_15 L q r_3 (nI c + 1) σ_3) = some ((), st2 τ (nI r) (nI s)) ∧ (τ.2.2.1 17 r, nI s) = opR (ntC τ n).1 (ntC τ n).2.2.2.2.1 (ntC τ n).2.2.2.2.2 (τ.2.2.1 17 n) (hsC τ) (vaN (ntC τ) (hsC τ) (ntC τ n).2.1.toNatClampNeg) (reN (ntC τ) (τ.2.2.1 17) (hsC τ) (ntC τ n).2.1.toNatClampNeg) (reN (ntC τ) (τ.2.2.1 17) (hsC τ) (ntC τ n).2.2.1.toNatClampNeg) i := by
      intro g1 g2
      obtain ⟨q2, rfl⟩ : ∃ z, q = z + 1 := ⟨q - 1, by omega⟩
      refine ⟨n, i, hnl, ?_, g2.symm⟩
      rw [g1, b2r, FX6_findReason_15, if_pos rfl]
    have goOn : ∀ m j, V m → m < n → j < i0 → vaN (ntC τ) (hsC τ) m j = 0 → FX6_goToPart L (st2 τ (nI n) (nI i)) = some (1, st2 τ (nI m) (nI j)) → opR (ntC τ n).1 (ntC τ n).2.2.2.2.1 (ntC τ n).2.2.2.2.2 (τ.2.2.1 17 n) (hsC τ) (vaN (ntC τ) (hsC τ) (ntC τ n).2.1.toNatClampNeg) (reN (ntC τ) (τ.2.2.1 17) (hsC τ) (ntC τ n).2.1.toNatClampNeg) (reN (ntC τ) (τ.2.2.1 17) (hsC τ) (ntC τ n).2.2.1.toNatClampNeg) i = reN (ntC τ) (τ.2.2.1 17) (hsC τ) m j → ∃ r s : Nat, r < 1200 ∧ (b2 (FX6_goToPart L (st2 τ (nI n) (nI i))) fun r_3 σ_3 => FX6_findReason_15 L q r_3 (nI c + 1) σ_3) = some ((), st2 τ (nI r) (nI s)) ∧ (τ.2.2.1 17 r, nI s) = opR (ntC τ n).1 (ntC τ n).2.2.2.2.1 (ntC τ n).2.2.2.2.2 (τ.2.2.1 17 n) (hsC τ) (vaN (ntC τ) (hsC τ) (ntC τ n).2.1.toNatClampNeg) (reN (ntC τ) (τ.2.2.1 17) (hsC τ) (ntC τ n).2.1.toNatClampNeg) (reN (ntC τ) (τ.2.2.1 17) (hsC τ) (ntC τ n).2.2.1.toNatClampNeg) i := by
      intro m j hm hmn hj hz2 g1 g2
      obtain ⟨r, s, k1, k2, k3⟩ := ih m hmn j (c + 1) q hm hj hz2 (by omega) (by omega)
      refine ⟨r, s, k1, ?_, by rw [g2]; exact k3⟩
      rw [g1, b2r, ← nI_succ]
      exact k2
    have gP : ∀ s : Int32, τ.2.2.1 15 n = s → getI 1200 ((st2 τ (nI n) (nI i)).2.2.1 15) ((st2 τ (nI n) (nI i)).1 5403) = s := fun s hs => by
      rw [st2_1, gI hnl (by decide)]; exact hs
    have gF : getI 1200 ((st2 τ (nI n) (nI i)).2.2.1 19) ((st2 τ (nI n) (nI i)).1 5403) = τ.2.2.1 19 n := by
      rw [st2_1, gI hnl (by decide)]; rfl
    have gS : getI 1200 ((st2 τ (nI n) (nI i)).2.2.1 21) ((st2 τ (nI n) (nI i)).1 5403) = τ.2.2.1 21 n := by
      rw [st2_1, gI hnl (by decide)]; rfl
    simp only [ntC] at h0 h1 h2
    have hc := kK_cases h0
    have e15 : (ntC τ n).1 = kK (τ.2.2.1 15 n) := rfl
    have e19 : (ntC τ n).2.1 = τ.2.2.1 19 n := rfl
    have e21 : (ntC τ n).2.2.1 = τ.2.2.1 21 n := rfl
    rw [e15, e19, e21] at stop goOn hz ⊢
    rcases hc with hk | hk | hk | hk | hk | hk | hk | hk | hk | hk | hk | hk | hk | hk | hk | hk | hk | hk | hk | hk | hk | hk | hk | hk | hk | hk | hk | hk | hk | hk | hk | hk | hk | hk | hk | hk
    · rw [hk, show kK 5 = 0 by decide] at h1 h2 stop goOn hz
      rw [hk, show kK 5 = 0 by decide]
      exact stop (by rw [FX6_goToPart, gP 5 hk, if_neg (show ¬ ((5 : Int32) = 6) by decide), if_neg (show ¬ ((5 : Int32) = 10) by decide), if_neg (show ¬ ((5 : Int32) = 12) by decide), if_neg (show ¬ ((5 : Int32) = 13) by decide), if_neg (show ¬ ((5 : Int32) = 14) by decide)]) (by simp [opR])
    · rw [hk, show kK 6 = 1 by decide] at h1 h2 stop goOn hz
      rw [hk, show kK 6 = 1 by decide]
      obtain ⟨m, hv, hm, e1⟩ := h1 (by decide)
      rw [e1, nI_clamp (show m < 2 ^ 31 by have := hV m hv; omega)] at stop goOn hz
      rw [e1, nI_clamp (show m < 2 ^ 31 by have := hV m hv; omega)]
      cases i with
      | zero => exact stop (by rw [FX6_goToPart, gP 6 hk, if_pos rfl, st2_2, if_pos nI_0]) (by simp [opR])
      | succ i =>
        refine goOn m i hv hm (by omega) (by simpa [opV, b2l_0, nzV] using hz) ?_ (by simp [opR])
        rw [FX6_goToPart, gP 6 hk, if_pos rfl, gF, st2_2, if_neg (nI_ne0 (by omega) (by omega)), nI_pred, st2_b, st2_a, e1]
    · rw [hk, show kK 7 = 2 by decide] at h1 h2 stop goOn hz
      rw [hk, show kK 7 = 2 by decide]
      exact stop (by rw [FX6_goToPart, gP 7 hk, if_neg (show ¬ ((7 : Int32) = 6) by decide), if_neg (show ¬ ((7 : Int32) = 10) by decide), if_neg (show ¬ ((7 : Int32) = 12) by decide), if_neg (show ¬ ((7 : Int32) = 13) by decide), if_neg (show ¬ ((7 : Int32) = 14) by decide)]) (by simp [opR])
    · rw [hk, show kK 8 = 3 by decide] at h1 h2 stop goOn hz
      rw [hk, show kK 8 = 3 by decide]
      exact stop (by rw [FX6_goToPart, gP 8 hk, if_neg (show ¬ ((8 : Int32) = 6) by decide), if_neg (show ¬ ((8 : Int32) = 10) by decide), if_neg (show ¬ ((8 : Int32) = 12) by decide), if_neg (show ¬ ((8 : Int32) = 13) by decide), if_neg (show ¬ ((8 : Int32) = 14) by decide)]) (by simp [opR])
    · rw [hk, show kK 9 = 4 by decide] at h1 h2 stop goOn hz
      rw [hk, show kK 9 = 4 by decide]
      exact stop (by rw [FX6_goToPart, gP 9 hk, if_neg (show ¬ ((9 : Int32) = 6) by decide), if_neg (show ¬ ((9 : Int32) = 10) by decide), if_neg (show ¬ ((9 : Int32) = 12) by decide), if_neg (show ¬ ((9 : Int32) = 13) by decide), if_neg (show ¬ ((9 : Int32) = 14) by decide)]) (by simp [opR])
    · rw [hk, show kK 10 = 5 by decide] at h1 h2 stop goOn hz
      rw [hk, show kK 10 = 5 by decide]
      obtain ⟨m, hv, hm, e1⟩ := h1 (by decide)
      rw [e1, nI_clamp (show m < 2 ^ 31 by have := hV m hv; omega)] at stop goOn hz
      rw [e1, nI_clamp (show m < 2 ^ 31 by have := hV m hv; omega)]
      obtain ⟨j, hj1, hj2, hj3⟩ := opV_miss hz
      have hcell : miV (τ.2.2.1 25 n) (hiC (τ.2.2.1 27 n)) (τ.2.2.1 46) (cellC τ m) i (i + 1) = some j := by
        rw [← hj1]
        exact miV_congr (fun _ _ => rfl) (i + 1) (Nat.le_refl _) (fun j hj => hP m hv j (by omega))
      refine goOn m j hv hm (by omega) hj3 ?_ ?_
      · have cb := cBreak (τ := st2 τ (nI n) (nI i)) (L := L) hnl (hV m hv) (show i < 120 by omega) hL e1 (hbd n hn) (ht i hi)
        rw [FX6_goToPart, gP 10 hk, if_neg (show ¬ ((10 : Int32) = 6) by decide), if_pos rfl, gF, st2_1, st2_2, cb, b2r]
        show some ((1 : Int32), tI (tI (st2 τ (nI n) (nI i)) 5404 (opI (miV (τ.2.2.1 25 n) (hiC (τ.2.2.1 27 n)) (τ.2.2.1 46) (cellC τ m) i (i + 1)))) 5403 (τ.2.2.1 19 n)) = _
        rw [hcell, st2_b, st2_a, e1]; rfl
      · have : miV (ntC τ n).2.2.2.2.1 (ntC τ n).2.2.2.2.2 (hsC τ).1 (vaN (ntC τ) (hsC τ) m) i (i + 1) = some j := hj1
        simp [opR, this]
    · rw [hk, show kK 16 = 6 by decide] at h1 h2 stop goOn hz
      rw [hk, show kK 16 = 6 by decide]
      exact stop (by rw [FX6_goToPart, gP 16 hk, if_neg (show ¬ ((16 : Int32) = 6) by decide), if_neg (show ¬ ((16 : Int32) = 10) by decide), if_neg (show ¬ ((16 : Int32) = 12) by decide), if_neg (show ¬ ((16 : Int32) = 13) by decide), if_neg (show ¬ ((16 : Int32) = 14) by decide)]) (by simp [opR])
    · rw [hk, show kK 17 = 7 by decide] at h1 h2 stop goOn hz
      rw [hk, show kK 17 = 7 by decide]
      exact stop (by rw [FX6_goToPart, gP 17 hk, if_neg (show ¬ ((17 : Int32) = 6) by decide), if_neg (show ¬ ((17 : Int32) = 10) by decide), if_neg (show ¬ ((17 : Int32) = 12) by decide), if_neg (show ¬ ((17 : Int32) = 13) by decide), if_neg (show ¬ ((17 : Int32) = 14) by decide)]) (by simp [opR])
    · rw [hk, show kK 44 = 9 by decide] at h1 h2 stop goOn hz
      rw [hk, show kK 44 = 9 by decide]
      exact stop (by rw [FX6_goToPart, gP 44 hk, if_neg (show ¬ ((44 : Int32) = 6) by decide), if_neg (show ¬ ((44 : Int32) = 10) by decide), if_neg (show ¬ ((44 : Int32) = 12) by decide), if_neg (show ¬ ((44 : Int32) = 13) by decide), if_neg (show ¬ ((44 : Int32) = 14) by decide)]) (by simp [opR])
    · rw [hk, show kK 45 = 9 by decide] at h1 h2 stop goOn hz
      rw [hk, show kK 45 = 9 by decide]
      exact stop (by rw [FX6_goToPart, gP 45 hk, if_neg (show ¬ ((45 : Int32) = 6) by decide), if_neg (show ¬ ((45 : Int32) = 10) by decide), if_neg (show ¬ ((45 : Int32) = 12) by decide), if_neg (show ¬ ((45 : Int32) = 13) by decide), if_neg (show ¬ ((45 : Int32) = 14) by decide)]) (by simp [opR])
    · rw [hk, show kK 46 = 9 by decide] at h1 h2 stop goOn hz
      rw [hk, show kK 46 = 9 by decide]
      exact stop (by rw [FX6_goToPart, gP 46 hk, if_neg (show ¬ ((46 : Int32) = 6) by decide), if_neg (show ¬ ((46 : Int32) = 10) by decide), if_neg (show ¬ ((46 : Int32) = 12) by decide), if_neg (show ¬ ((46 : Int32) = 13) by decide), if_neg (show ¬ ((46 : Int32) = 14) by decide)]) (by simp [opR])
    · rw [hk, show kK 47 = 9 by decide] at h1 h2 stop goOn hz
      rw [hk, show kK 47 = 9 by decide]
      exact stop (by rw [FX6_goToPart, gP 47 hk, if_neg (show ¬ ((47 : Int32) = 6) by decide), if_neg (show ¬ ((47 : Int32) = 10) by decide), if_neg (show ¬ ((47 : Int32) = 12) by decide), if_neg (show ¬ ((47 : Int32) = 13) by decide), if_neg (show ¬ ((47 : Int32) = 14) by decide)]) (by simp [opR])
    · rw [hk, show kK 48 = 9 by decide] at h1 h2 stop goOn hz
      rw [hk, show kK 48 = 9 by decide]
      exact stop (by rw [FX6_goToPart, gP 48 hk, if_neg (show ¬ ((48 : Int32) = 6) by decide), if_neg (show ¬ ((48 : Int32) = 10) by decide), if_neg (show ¬ ((48 : Int32) = 12) by decide), if_neg (show ¬ ((48 : Int32) = 13) by decide), if_neg (show ¬ ((48 : Int32) = 14) by decide)]) (by simp [opR])
    · rw [hk, show kK 49 = 9 by decide] at h1 h2 stop goOn hz
      rw [hk, show kK 49 = 9 by decide]
      exact stop (by rw [FX6_goToPart, gP 49 hk, if_neg (show ¬ ((49 : Int32) = 6) by decide), if_neg (show ¬ ((49 : Int32) = 10) by decide), if_neg (show ¬ ((49 : Int32) = 12) by decide), if_neg (show ¬ ((49 : Int32) = 13) by decide), if_neg (show ¬ ((49 : Int32) = 14) by decide)]) (by simp [opR])
    · rw [hk, show kK 11 = 10 by decide] at h1 h2 stop goOn hz
      rw [hk, show kK 11 = 10 by decide]
      exact stop (by rw [FX6_goToPart, gP 11 hk, if_neg (show ¬ ((11 : Int32) = 6) by decide), if_neg (show ¬ ((11 : Int32) = 10) by decide), if_neg (show ¬ ((11 : Int32) = 12) by decide), if_neg (show ¬ ((11 : Int32) = 13) by decide), if_neg (show ¬ ((11 : Int32) = 14) by decide)]) (by simp [opR])
    · rw [hk, show kK 12 = 11 by decide] at h1 h2 stop goOn hz
      rw [hk, show kK 12 = 11 by decide]
      obtain ⟨m, hv, hm, e1⟩ := h1 (by decide)
      obtain ⟨m2, hv2, hm2, e2⟩ := h2 (by decide)
      rw [e1, e2, nI_clamp (show m < 2 ^ 31 by have := hV m hv; omega), nI_clamp (show m2 < 2 ^ 31 by have := hV m2 hv2; omega)] at stop goOn hz
      rw [e1, e2, nI_clamp (show m < 2 ^ 31 by have := hV m hv; omega), nI_clamp (show m2 < 2 ^ 31 by have := hV m2 hv2; omega)]
      have gt : getT 1200 ((st2 τ (nI n) (nI i)).2.2.2.2 2) (τ.2.2.1 19 n) (nI i) = vaN (ntC τ) (hsC τ) m i := by
        rw [e1, gT (hV m hv) (by decide) (by omega)]; exact hP m hv i hi
      by_cases hz1 : vaN (ntC τ) (hsC τ) m i = 0
      · refine goOn m i hv hm hi hz1 ?_ (by simp [opR, nzV, hz1])
        rw [FX6_goToPart, gP 12 hk, if_neg (show ¬ ((12 : Int32) = 6) by decide), if_neg (show ¬ ((12 : Int32) = 10) by decide), if_pos rfl, gF, st2_2, gt, if_pos hz1, st2_a, e1]
      · refine goOn m2 i hv2 hm2 hi (by simpa [opV, b2l_0, nzV, hz1] using hz) ?_ (by simp [opR, nzV, hz1])
        rw [FX6_goToPart, gP 12 hk, if_neg (show ¬ ((12 : Int32) = 6) by decide), if_neg (show ¬ ((12 : Int32) = 10) by decide), if_pos rfl, gF, gS, st2_2, gt, if_neg hz1, st2_a, e2]
    · rw [hk, show kK 13 = 12 by decide] at h1 h2 stop goOn hz
      rw [hk, show kK 13 = 12 by decide]
      obtain ⟨m2, hv2, hm2, e2⟩ := h2 (by decide)
      rw [e2, nI_clamp (show m2 < 2 ^ 31 by have := hV m2 hv2; omega)] at stop goOn hz
      rw [e2, nI_clamp (show m2 < 2 ^ 31 by have := hV m2 hv2; omega)]
      refine goOn m2 i hv2 hm2 hi (by simp [opV, b2l_0, nzV] at hz; simp [hz]) ?_ (by simp [opR])
      rw [FX6_goToPart, gP 13 hk, if_neg (show ¬ ((13 : Int32) = 6) by decide), if_neg (show ¬ ((13 : Int32) = 10) by decide), if_neg (show ¬ ((13 : Int32) = 12) by decide), if_pos rfl, gS, st2_a, e2]
    · rw [hk, show kK 14 = 13 by decide] at h1 h2 stop goOn hz
      rw [hk, show kK 14 = 13 by decide]
      obtain ⟨m2, hv2, hm2, e2⟩ := h2 (by decide)
      rw [e2, nI_clamp (show m2 < 2 ^ 31 by have := hV m2 hv2; omega)] at stop goOn hz
      rw [e2, nI_clamp (show m2 < 2 ^ 31 by have := hV m2 hv2; omega)]
      refine goOn m2 i hv2 hm2 hi (by simp [opV, b2l_0, nzV] at hz; simp [hz]) ?_ (by simp [opR])
      rw [FX6_goToPart, gP 14 hk, if_neg (show ¬ ((14 : Int32) = 6) by decide), if_neg (show ¬ ((14 : Int32) = 10) by decide), if_neg (show ¬ ((14 : Int32) = 12) by decide), if_neg (show ¬ ((14 : Int32) = 13) by decide), if_pos rfl, gS, st2_a, e2]
    · rw [hk, show kK 52 = 20 by decide] at h1 h2 stop goOn hz
      rw [hk, show kK 52 = 20 by decide]
      exact stop (by rw [FX6_goToPart, gP 52 hk, if_neg (show ¬ ((52 : Int32) = 6) by decide), if_neg (show ¬ ((52 : Int32) = 10) by decide), if_neg (show ¬ ((52 : Int32) = 12) by decide), if_neg (show ¬ ((52 : Int32) = 13) by decide), if_neg (show ¬ ((52 : Int32) = 14) by decide)]) (by simp [opR])
    · rw [hk, show kK 0 = 21 by decide] at h1 h2 stop goOn hz
      rw [hk, show kK 0 = 21 by decide]
      exact stop (by rw [FX6_goToPart, gP 0 hk, if_neg (show ¬ ((0 : Int32) = 6) by decide), if_neg (show ¬ ((0 : Int32) = 10) by decide), if_neg (show ¬ ((0 : Int32) = 12) by decide), if_neg (show ¬ ((0 : Int32) = 13) by decide), if_neg (show ¬ ((0 : Int32) = 14) by decide)]) (by simp [opR])
    · rw [hk, show kK 28 = 23 by decide] at h1 h2 stop goOn hz
      rw [hk, show kK 28 = 23 by decide]
      exact stop (by rw [FX6_goToPart, gP 28 hk, if_neg (show ¬ ((28 : Int32) = 6) by decide), if_neg (show ¬ ((28 : Int32) = 10) by decide), if_neg (show ¬ ((28 : Int32) = 12) by decide), if_neg (show ¬ ((28 : Int32) = 13) by decide), if_neg (show ¬ ((28 : Int32) = 14) by decide)]) (by simp [opR])
    · rw [hk, show kK 29 = 24 by decide] at h1 h2 stop goOn hz
      rw [hk, show kK 29 = 24 by decide]
      exact stop (by rw [FX6_goToPart, gP 29 hk, if_neg (show ¬ ((29 : Int32) = 6) by decide), if_neg (show ¬ ((29 : Int32) = 10) by decide), if_neg (show ¬ ((29 : Int32) = 12) by decide), if_neg (show ¬ ((29 : Int32) = 13) by decide), if_neg (show ¬ ((29 : Int32) = 14) by decide)]) (by simp [opR])
    · rw [hk, show kK 55 = 25 by decide] at h1 h2 stop goOn hz
      rw [hk, show kK 55 = 25 by decide]
      exact stop (by rw [FX6_goToPart, gP 55 hk, if_neg (show ¬ ((55 : Int32) = 6) by decide), if_neg (show ¬ ((55 : Int32) = 10) by decide), if_neg (show ¬ ((55 : Int32) = 12) by decide), if_neg (show ¬ ((55 : Int32) = 13) by decide), if_neg (show ¬ ((55 : Int32) = 14) by decide)]) (by simp [opR])
    · rw [hk, show kK 21 = 26 by decide] at h1 h2 stop goOn hz
      rw [hk, show kK 21 = 26 by decide]
      exact stop (by rw [FX6_goToPart, gP 21 hk, if_neg (show ¬ ((21 : Int32) = 6) by decide), if_neg (show ¬ ((21 : Int32) = 10) by decide), if_neg (show ¬ ((21 : Int32) = 12) by decide), if_neg (show ¬ ((21 : Int32) = 13) by decide), if_neg (show ¬ ((21 : Int32) = 14) by decide)]) (by simp [opR])
    · rw [hk, show kK 22 = 27 by decide] at h1 h2 stop goOn hz
      rw [hk, show kK 22 = 27 by decide]
      exact stop (by rw [FX6_goToPart, gP 22 hk, if_neg (show ¬ ((22 : Int32) = 6) by decide), if_neg (show ¬ ((22 : Int32) = 10) by decide), if_neg (show ¬ ((22 : Int32) = 12) by decide), if_neg (show ¬ ((22 : Int32) = 13) by decide), if_neg (show ¬ ((22 : Int32) = 14) by decide)]) (by simp [opR])
    · rw [hk, show kK 23 = 28 by decide] at h1 h2 stop goOn hz
      rw [hk, show kK 23 = 28 by decide]
      exact stop (by rw [FX6_goToPart, gP 23 hk, if_neg (show ¬ ((23 : Int32) = 6) by decide), if_neg (show ¬ ((23 : Int32) = 10) by decide), if_neg (show ¬ ((23 : Int32) = 12) by decide), if_neg (show ¬ ((23 : Int32) = 13) by decide), if_neg (show ¬ ((23 : Int32) = 14) by decide)]) (by simp [opR])
    · rw [hk, show kK 24 = 29 by decide] at h1 h2 stop goOn hz
      rw [hk, show kK 24 = 29 by decide]
      exact stop (by rw [FX6_goToPart, gP 24 hk, if_neg (show ¬ ((24 : Int32) = 6) by decide), if_neg (show ¬ ((24 : Int32) = 10) by decide), if_neg (show ¬ ((24 : Int32) = 12) by decide), if_neg (show ¬ ((24 : Int32) = 13) by decide), if_neg (show ¬ ((24 : Int32) = 14) by decide)]) (by simp [opR])
    · rw [hk, show kK 25 = 30 by decide] at h1 h2 stop goOn hz
      rw [hk, show kK 25 = 30 by decide]
      exact stop (by rw [FX6_goToPart, gP 25 hk, if_neg (show ¬ ((25 : Int32) = 6) by decide), if_neg (show ¬ ((25 : Int32) = 10) by decide), if_neg (show ¬ ((25 : Int32) = 12) by decide), if_neg (show ¬ ((25 : Int32) = 13) by decide), if_neg (show ¬ ((25 : Int32) = 14) by decide)]) (by simp [opR])
    · rw [hk, show kK 27 = 31 by decide] at h1 h2 stop goOn hz
      rw [hk, show kK 27 = 31 by decide]
      exact stop (by rw [FX6_goToPart, gP 27 hk, if_neg (show ¬ ((27 : Int32) = 6) by decide), if_neg (show ¬ ((27 : Int32) = 10) by decide), if_neg (show ¬ ((27 : Int32) = 12) by decide), if_neg (show ¬ ((27 : Int32) = 13) by decide), if_neg (show ¬ ((27 : Int32) = 14) by decide)]) (by simp [opR])
    · rw [hk, show kK 26 = 32 by decide] at h1 h2 stop goOn hz
      rw [hk, show kK 26 = 32 by decide]
      exact stop (by rw [FX6_goToPart, gP 26 hk, if_neg (show ¬ ((26 : Int32) = 6) by decide), if_neg (show ¬ ((26 : Int32) = 10) by decide), if_neg (show ¬ ((26 : Int32) = 12) by decide), if_neg (show ¬ ((26 : Int32) = 13) by decide), if_neg (show ¬ ((26 : Int32) = 14) by decide)]) (by simp [opR])
    · rw [hk, show kK 18 = 33 by decide] at h1 h2 stop goOn hz
      rw [hk, show kK 18 = 33 by decide]
      exact stop (by rw [FX6_goToPart, gP 18 hk, if_neg (show ¬ ((18 : Int32) = 6) by decide), if_neg (show ¬ ((18 : Int32) = 10) by decide), if_neg (show ¬ ((18 : Int32) = 12) by decide), if_neg (show ¬ ((18 : Int32) = 13) by decide), if_neg (show ¬ ((18 : Int32) = 14) by decide)]) (by simp [opR])
    · rw [hk, show kK 39 = 34 by decide] at h1 h2 stop goOn hz
      rw [hk, show kK 39 = 34 by decide]
      exact stop (by rw [FX6_goToPart, gP 39 hk, if_neg (show ¬ ((39 : Int32) = 6) by decide), if_neg (show ¬ ((39 : Int32) = 10) by decide), if_neg (show ¬ ((39 : Int32) = 12) by decide), if_neg (show ¬ ((39 : Int32) = 13) by decide), if_neg (show ¬ ((39 : Int32) = 14) by decide)]) (by simp [opR])
    · rw [hk, show kK 40 = 34 by decide] at h1 h2 stop goOn hz
      rw [hk, show kK 40 = 34 by decide]
      exact stop (by rw [FX6_goToPart, gP 40 hk, if_neg (show ¬ ((40 : Int32) = 6) by decide), if_neg (show ¬ ((40 : Int32) = 10) by decide), if_neg (show ¬ ((40 : Int32) = 12) by decide), if_neg (show ¬ ((40 : Int32) = 13) by decide), if_neg (show ¬ ((40 : Int32) = 14) by decide)]) (by simp [opR])
    · rw [hk, show kK 41 = 34 by decide] at h1 h2 stop goOn hz
      rw [hk, show kK 41 = 34 by decide]
      exact stop (by rw [FX6_goToPart, gP 41 hk, if_neg (show ¬ ((41 : Int32) = 6) by decide), if_neg (show ¬ ((41 : Int32) = 10) by decide), if_neg (show ¬ ((41 : Int32) = 12) by decide), if_neg (show ¬ ((41 : Int32) = 13) by decide), if_neg (show ¬ ((41 : Int32) = 14) by decide)]) (by simp [opR])
    · rw [hk, show kK 42 = 34 by decide] at h1 h2 stop goOn hz
      rw [hk, show kK 42 = 34 by decide]
      exact stop (by rw [FX6_goToPart, gP 42 hk, if_neg (show ¬ ((42 : Int32) = 6) by decide), if_neg (show ¬ ((42 : Int32) = 10) by decide), if_neg (show ¬ ((42 : Int32) = 12) by decide), if_neg (show ¬ ((42 : Int32) = 13) by decide), if_neg (show ¬ ((42 : Int32) = 14) by decide)]) (by simp [opR])
    · rw [hk, show kK 43 = 34 by decide] at h1 h2 stop goOn hz
      rw [hk, show kK 43 = 34 by decide]
      exact stop (by rw [FX6_goToPart, gP 43 hk, if_neg (show ¬ ((43 : Int32) = 6) by decide), if_neg (show ¬ ((43 : Int32) = 10) by decide), if_neg (show ¬ ((43 : Int32) = 12) by decide), if_neg (show ¬ ((43 : Int32) = 13) by decide), if_neg (show ¬ ((43 : Int32) = 14) by decide)]) (by simp [opR])
end CSn
