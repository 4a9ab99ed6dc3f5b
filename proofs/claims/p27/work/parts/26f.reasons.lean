section RR
variable {σ : MS} {n m i L : Nat}
theorem isK_cases {kd : Int32} (h : isK kd = true) : kd = 0 ∨ kd = 1 ∨ kd = 2 ∨ kd = 3 ∨ kd = 4 ∨ kd = 5 ∨ kd = 6 ∨ kd = 7 ∨ kd = 8 ∨ kd = 9 ∨ kd = 10 ∨ kd = 11 ∨ kd = 12 ∨ kd = 13 ∨ kd = 20 ∨ kd = 21 ∨ kd = 22 ∨ kd = 23 ∨ kd = 24 ∨ kd = 25 ∨ kd = 26 ∨ kd = 27 ∨ kd = 28 ∨ kd = 29 ∨ kd = 30 ∨ kd = 31 ∨ kd = 32 ∨ kd = 33 ∨ kd = 34 := by
  simp only [isK, Bool.or_eq_true, decide_eq_true_eq] at h
  rcases h with (((((((((((((((((((((((((((h|h)|h)|h)|h)|h)|h)|h)|h)|h)|h)|h)|h)|h)|h)|h)|h)|h)|h)|h)|h)|h)|h)|h)|h)|h)|h)|h)|h
  all_goals simp [h]
theorem rReason {i0 : Nat} {V : Nat → Prop} (hT : okT V (ntM σ)) (hV : ∀ m, V m → m < 1203) (hL : 200 ≤ L) (hi0 : i0 ≤ 120) (hP : ∀ m, V m → ∀ j, j < i0 → tabM σ m j = vaN (ntM σ) (hsM σ) m j) : ∀ (n i d : Nat), V n → i < i0 → vaN (ntM σ) (hsM σ) n i = 0 → n < d → FSC3 L d 0 (nI n) (nI i) 0 σ = some ((reN (ntM σ) (σ.2.1 15) (hsM σ) n i).1, sI σ 39 (reN (ntM σ) (σ.2.1 15) (hsM σ) n i).2) := by
  intro n
  induction n using Nat.strongRecOn with
  | _ n ih =>
    intro i d hn hi hz hd
    obtain ⟨d, rfl⟩ : ∃ z, d = z + 1 := ⟨d - 1, by omega⟩
    have hnl := hV n hn
    have e1 := nI_i hnl (show 1203 < 2 ^ 31 by decide)
    obtain ⟨h0, h1, h2, h3, h4⟩ := (hT n hn).2
    rw [reN_eq hT hn]
    rw [vaN_eq hT hn] at hz
    show FX11_reason (FSC3 L d) L (nI n) (nI i) σ = _
    rw [FX11_reason, nI_clamp (show n < 2 ^ 31 by omega), if_neg e1, if_neg e1, if_neg e1]
    simp only [ntM] at h0 h1 h2
    have e9 : (ntM σ n).1 = σ.2.1 9 n := rfl
    have e10 : (ntM σ n).2.1 = σ.2.1 10 n := rfl
    have e11 : (ntM σ n).2.2.1 = σ.2.1 11 n := rfl
    rw [e9, e10, e11] at hz ⊢
    have go : ∀ m j, V m → m < n → j < i0 → vaN (ntM σ) (hsM σ) m j = 0 → (b2 (FSC3 L d 0 (nI m) (nI j) 0 σ) fun r_6 σ_6 => some (r_6, σ_6)) = some ((reN (ntM σ) (σ.2.1 15) (hsM σ) m j).1, sI σ 39 (reN (ntM σ) (σ.2.1 15) (hsM σ) m j).2) := by
      intro m j hm hmn hj hz
      rw [ih m hmn j d hm hj hz (by omega), b2r]
    rcases isK_cases h0 with hk | hk | hk | hk | hk | hk | hk | hk | hk | hk | hk | hk | hk | hk | hk | hk | hk | hk | hk | hk | hk | hk | hk | hk | hk | hk | hk | hk | hk
    · rw [hk] at h1 h2 hz
      rw [hk]
      rw [if_neg (show ¬ ((0 : Int32) = 5) by decide), if_neg (show ¬ ((0 : Int32) = 8) by decide), if_neg (show ¬ ((0 : Int32) = 11) by decide), if_neg (show ¬ ((0 : Int32) = 12) by decide), if_neg (show ¬ ((0 : Int32) = 13) by decide), if_neg e1, if_neg (show ¬ ((0 : Int32) = 1) by decide), if_neg e1]
      simp [opR]
    · rw [hk] at h1 h2 hz
      rw [hk]
      obtain ⟨m, hv, hm, q1⟩ := h1 (by decide)
      rw [q1, nI_clamp (show m < 2 ^ 31 by have := hV m hv; omega)] at hz
      rw [q1, nI_clamp (show m < 2 ^ 31 by have := hV m hv; omega)]
      rw [if_neg (show ¬ ((1 : Int32) = 5) by decide), if_neg (show ¬ ((1 : Int32) = 8) by decide), if_neg (show ¬ ((1 : Int32) = 11) by decide), if_neg (show ¬ ((1 : Int32) = 12) by decide), if_neg (show ¬ ((1 : Int32) = 13) by decide), if_neg e1, if_pos rfl]
      cases i with
      | zero => rw [if_pos (by decide), if_neg e1]; simp [opR]
      | succ i => rw [if_neg (nI_nle (by omega) (by omega)), nI_pred, go m i hv hm (by omega) (by simpa [opV, b2l_0, nzV] using hz)]; simp [opR]
    · rw [hk] at h1 h2 hz
      rw [hk]
      rw [if_neg (show ¬ ((2 : Int32) = 5) by decide), if_neg (show ¬ ((2 : Int32) = 8) by decide), if_neg (show ¬ ((2 : Int32) = 11) by decide), if_neg (show ¬ ((2 : Int32) = 12) by decide), if_neg (show ¬ ((2 : Int32) = 13) by decide), if_neg e1, if_neg (show ¬ ((2 : Int32) = 1) by decide), if_neg e1]
      simp [opR]
    · rw [hk] at h1 h2 hz
      rw [hk]
      rw [if_neg (show ¬ ((3 : Int32) = 5) by decide), if_neg (show ¬ ((3 : Int32) = 8) by decide), if_neg (show ¬ ((3 : Int32) = 11) by decide), if_neg (show ¬ ((3 : Int32) = 12) by decide), if_neg (show ¬ ((3 : Int32) = 13) by decide), if_neg e1, if_neg (show ¬ ((3 : Int32) = 1) by decide), if_neg e1]
      simp [opR]
    · rw [hk] at h1 h2 hz
      rw [hk]
      rw [if_neg (show ¬ ((4 : Int32) = 5) by decide), if_neg (show ¬ ((4 : Int32) = 8) by decide), if_neg (show ¬ ((4 : Int32) = 11) by decide), if_neg (show ¬ ((4 : Int32) = 12) by decide), if_neg (show ¬ ((4 : Int32) = 13) by decide), if_neg e1, if_neg (show ¬ ((4 : Int32) = 1) by decide), if_neg e1]
      simp [opR]
    · rw [hk] at h1 h2 hz
      rw [hk]
      obtain ⟨m, hv, hm, q1⟩ := h1 (by decide)
      rw [q1, nI_clamp (show m < 2 ^ 31 by have := hV m hv; omega)] at hz
      rw [q1, nI_clamp (show m < 2 ^ 31 by have := hV m hv; omega)]
      obtain ⟨j, hj1, hj2, hj3⟩ := opV_miss hz
      have hcell : miV (σ.2.1 13 n) (σ.2.1 14 n) (σ.2.1 30) (tabM σ m) i (i + 1) = some j := by
        rw [← hj1]
        exact miV_congr (fun _ _ => rfl) (i + 1) (Nat.le_refl _) (fun j hj => hP m hv j (by omega))
      rw [if_pos rfl, rFirstMiss hnl (hV m hv) (by omega) q1 hL, b2r, hcell]
      rw [show opI (some j) = nI j from rfl, go m j hv hm (by omega) hj3]
      have : miV (ntM σ n).2.2.2.2.1 (ntM σ n).2.2.2.2.2 (hsM σ).1 (vaN (ntM σ) (hsM σ) m) i (i + 1) = some j := hj1
      simp [opR, this]
    · rw [hk] at h1 h2 hz
      rw [hk]
      rw [if_neg (show ¬ ((6 : Int32) = 5) by decide), if_neg (show ¬ ((6 : Int32) = 8) by decide), if_neg (show ¬ ((6 : Int32) = 11) by decide), if_neg (show ¬ ((6 : Int32) = 12) by decide), if_neg (show ¬ ((6 : Int32) = 13) by decide), if_neg e1, if_neg (show ¬ ((6 : Int32) = 1) by decide), if_neg e1]
      simp [opR]
    · rw [hk] at h1 h2 hz
      rw [hk]
      rw [if_neg (show ¬ ((7 : Int32) = 5) by decide), if_neg (show ¬ ((7 : Int32) = 8) by decide), if_neg (show ¬ ((7 : Int32) = 11) by decide), if_neg (show ¬ ((7 : Int32) = 12) by decide), if_neg (show ¬ ((7 : Int32) = 13) by decide), if_neg e1, if_neg (show ¬ ((7 : Int32) = 1) by decide), if_neg e1]
      simp [opR]
    · rw [hk] at h1 h2 hz
      rw [hk]
      obtain ⟨m, hv, hm, q1⟩ := h1 (by decide)
      rw [q1, nI_clamp (show m < 2 ^ 31 by have := hV m hv; omega)] at hz
      rw [q1, nI_clamp (show m < 2 ^ 31 by have := hV m hv; omega)]
      rw [if_neg (show ¬ ((8 : Int32) = 5) by decide), if_pos rfl, go m i hv hm hi (by simpa [opV, b2l_0, nzV] using hz)]
      simp [opR]
    · rw [hk] at h1 h2 hz
      rw [hk]
      rw [if_neg (show ¬ ((9 : Int32) = 5) by decide), if_neg (show ¬ ((9 : Int32) = 8) by decide), if_neg (show ¬ ((9 : Int32) = 11) by decide), if_neg (show ¬ ((9 : Int32) = 12) by decide), if_neg (show ¬ ((9 : Int32) = 13) by decide), if_neg e1, if_neg (show ¬ ((9 : Int32) = 1) by decide), if_neg e1]
      simp [opR]
    · rw [hk] at h1 h2 hz
      rw [hk]
      rw [if_neg (show ¬ ((10 : Int32) = 5) by decide), if_neg (show ¬ ((10 : Int32) = 8) by decide), if_neg (show ¬ ((10 : Int32) = 11) by decide), if_neg (show ¬ ((10 : Int32) = 12) by decide), if_neg (show ¬ ((10 : Int32) = 13) by decide), if_neg e1, if_neg (show ¬ ((10 : Int32) = 1) by decide), if_neg e1]
      simp [opR]
    · rw [hk] at h1 h2 hz
      rw [hk]
      obtain ⟨m, hv, hm, q1⟩ := h1 (by decide)
      rw [q1, nI_clamp (show m < 2 ^ 31 by have := hV m hv; omega)] at hz
      rw [q1, nI_clamp (show m < 2 ^ 31 by have := hV m hv; omega)]
      obtain ⟨m2, hv2, hm2, q2⟩ := h2 (by decide)
      rw [q2, nI_clamp (show m2 < 2 ^ 31 by have := hV m2 hv2; omega)] at hz
      rw [q2, nI_clamp (show m2 < 2 ^ 31 by have := hV m2 hv2; omega)]
      rw [if_neg (show ¬ ((11 : Int32) = 5) by decide), if_neg (show ¬ ((11 : Int32) = 8) by decide), if_pos rfl, rHolds (hV m hv) (by omega), b2r, ibI, hP m hv i hi]
      by_cases hz1 : vaN (ntM σ) (hsM σ) m i = 0
      · rw [if_neg (by simp [nzV, hz1]), go m i hv hm hi hz1]; simp [opR, nzV, hz1]
      · rw [if_pos (by simp [nzV, hz1]), go m2 i hv2 hm2 hi (by simpa [opV, b2l_0, nzV, hz1] using hz)]; simp [opR, nzV, hz1]
    · rw [hk] at h1 h2 hz
      rw [hk]
      obtain ⟨m2, hv2, hm2, q2⟩ := h2 (by decide)
      rw [q2, nI_clamp (show m2 < 2 ^ 31 by have := hV m2 hv2; omega)] at hz
      rw [q2, nI_clamp (show m2 < 2 ^ 31 by have := hV m2 hv2; omega)]
      rw [if_neg (show ¬ ((12 : Int32) = 5) by decide), if_neg (show ¬ ((12 : Int32) = 8) by decide), if_neg (show ¬ ((12 : Int32) = 11) by decide), if_pos rfl, go m2 i hv2 hm2 hi (by simp [opV, b2l_0, nzV] at hz; simp [hz])]
      simp [opR]
    · rw [hk] at h1 h2 hz
      rw [hk]
      obtain ⟨m2, hv2, hm2, q2⟩ := h2 (by decide)
      rw [q2, nI_clamp (show m2 < 2 ^ 31 by have := hV m2 hv2; omega)] at hz
      rw [q2, nI_clamp (show m2 < 2 ^ 31 by have := hV m2 hv2; omega)]
      rw [if_neg (show ¬ ((13 : Int32) = 5) by decide), if_neg (show ¬ ((13 : Int32) = 8) by decide), if_neg (show ¬ ((13 : Int32) = 11) by decide), if_neg (show ¬ ((13 : Int32) = 12) by decide), if_pos rfl, go m2 i hv2 hm2 hi (by simp [opV, b2l_0, nzV] at hz; simp [hz])]
      simp [opR]
    · rw [hk] at h1 h2 hz
      rw [hk]
      rw [if_neg (show ¬ ((20 : Int32) = 5) by decide), if_neg (show ¬ ((20 : Int32) = 8) by decide), if_neg (show ¬ ((20 : Int32) = 11) by decide), if_neg (show ¬ ((20 : Int32) = 12) by decide), if_neg (show ¬ ((20 : Int32) = 13) by decide), if_neg e1, if_neg (show ¬ ((20 : Int32) = 1) by decide), if_neg e1]
      simp [opR]
    · rw [hk] at h1 h2 hz
      rw [hk]
      rw [if_neg (show ¬ ((21 : Int32) = 5) by decide), if_neg (show ¬ ((21 : Int32) = 8) by decide), if_neg (show ¬ ((21 : Int32) = 11) by decide), if_neg (show ¬ ((21 : Int32) = 12) by decide), if_neg (show ¬ ((21 : Int32) = 13) by decide), if_neg e1, if_neg (show ¬ ((21 : Int32) = 1) by decide), if_neg e1]
      simp [opR]
    · rw [hk] at h1 h2 hz
      rw [hk]
      rw [if_neg (show ¬ ((22 : Int32) = 5) by decide), if_neg (show ¬ ((22 : Int32) = 8) by decide), if_neg (show ¬ ((22 : Int32) = 11) by decide), if_neg (show ¬ ((22 : Int32) = 12) by decide), if_neg (show ¬ ((22 : Int32) = 13) by decide), if_neg e1, if_neg (show ¬ ((22 : Int32) = 1) by decide), if_neg e1]
      simp [opR]
    · rw [hk] at h1 h2 hz
      rw [hk]
      rw [if_neg (show ¬ ((23 : Int32) = 5) by decide), if_neg (show ¬ ((23 : Int32) = 8) by decide), if_neg (show ¬ ((23 : Int32) = 11) by decide), if_neg (show ¬ ((23 : Int32) = 12) by decide), if_neg (show ¬ ((23 : Int32) = 13) by decide), if_neg e1, if_neg (show ¬ ((23 : Int32) = 1) by decide), if_neg e1]
      simp [opR]
    · rw [hk] at h1 h2 hz
      rw [hk]
      rw [if_neg (show ¬ ((24 : Int32) = 5) by decide), if_neg (show ¬ ((24 : Int32) = 8) by decide), if_neg (show ¬ ((24 : Int32) = 11) by decide), if_neg (show ¬ ((24 : Int32) = 12) by decide), if_neg (show ¬ ((24 : Int32) = 13) by decide), if_neg e1, if_neg (show ¬ ((24 : Int32) = 1) by decide), if_neg e1]
      simp [opR]
    · rw [hk] at h1 h2 hz
      rw [hk]
      rw [if_neg (show ¬ ((25 : Int32) = 5) by decide), if_neg (show ¬ ((25 : Int32) = 8) by decide), if_neg (show ¬ ((25 : Int32) = 11) by decide), if_neg (show ¬ ((25 : Int32) = 12) by decide), if_neg (show ¬ ((25 : Int32) = 13) by decide), if_neg e1, if_neg (show ¬ ((25 : Int32) = 1) by decide), if_neg e1]
      simp [opR]
    · rw [hk] at h1 h2 hz
      rw [hk]
      rw [if_neg (show ¬ ((26 : Int32) = 5) by decide), if_neg (show ¬ ((26 : Int32) = 8) by decide), if_neg (show ¬ ((26 : Int32) = 11) by decide), if_neg (show ¬ ((26 : Int32) = 12) by decide), if_neg (show ¬ ((26 : Int32) = 13) by decide), if_neg e1, if_neg (show ¬ ((26 : Int32) = 1) by decide), if_neg e1]
      simp [opR]
    · rw [hk] at h1 h2 hz
      rw [hk]
      rw [if_neg (show ¬ ((27 : Int32) = 5) by decide), if_neg (show ¬ ((27 : Int32) = 8) by decide), if_neg (show ¬ ((27 : Int32) = 11) by decide), if_neg (show ¬ ((27 : Int32) = 12) by decide), if_neg (show ¬ ((27 : Int32) = 13) by decide), if_neg e1, if_neg (show ¬ ((27 : Int32) = 1) by decide), if_neg e1]
      simp [opR]
    · rw [hk] at h1 h2 hz
      rw [hk]
      rw [if_neg (show ¬ ((28 : Int32) = 5) by decide), if_neg (show ¬ ((28 : Int32) = 8) by decide), if_neg (show ¬ ((28 : Int32) = 11) by decide), if_neg (show ¬ ((28 : Int32) = 12) by decide), if_neg (show ¬ ((28 : Int32) = 13) by decide), if_neg e1, if_neg (show ¬ ((28 : Int32) = 1) by decide), if_neg e1]
      simp [opR]
    · rw [hk] at h1 h2 hz
      rw [hk]
      rw [if_neg (show ¬ ((29 : Int32) = 5) by decide), if_neg (show ¬ ((29 : Int32) = 8) by decide), if_neg (show ¬ ((29 : Int32) = 11) by decide), if_neg (show ¬ ((29 : Int32) = 12) by decide), if_neg (show ¬ ((29 : Int32) = 13) by decide), if_neg e1, if_neg (show ¬ ((29 : Int32) = 1) by decide), if_neg e1]
      simp [opR]
    · rw [hk] at h1 h2 hz
      rw [hk]
      rw [if_neg (show ¬ ((30 : Int32) = 5) by decide), if_neg (show ¬ ((30 : Int32) = 8) by decide), if_neg (show ¬ ((30 : Int32) = 11) by decide), if_neg (show ¬ ((30 : Int32) = 12) by decide), if_neg (show ¬ ((30 : Int32) = 13) by decide), if_neg e1, if_neg (show ¬ ((30 : Int32) = 1) by decide), if_neg e1]
      simp [opR]
    · rw [hk] at h1 h2 hz
      rw [hk]
      rw [if_neg (show ¬ ((31 : Int32) = 5) by decide), if_neg (show ¬ ((31 : Int32) = 8) by decide), if_neg (show ¬ ((31 : Int32) = 11) by decide), if_neg (show ¬ ((31 : Int32) = 12) by decide), if_neg (show ¬ ((31 : Int32) = 13) by decide), if_neg e1, if_neg (show ¬ ((31 : Int32) = 1) by decide), if_neg e1]
      simp [opR]
    · rw [hk] at h1 h2 hz
      rw [hk]
      rw [if_neg (show ¬ ((32 : Int32) = 5) by decide), if_neg (show ¬ ((32 : Int32) = 8) by decide), if_neg (show ¬ ((32 : Int32) = 11) by decide), if_neg (show ¬ ((32 : Int32) = 12) by decide), if_neg (show ¬ ((32 : Int32) = 13) by decide), if_neg e1, if_neg (show ¬ ((32 : Int32) = 1) by decide), if_neg e1]
      simp [opR]
    · rw [hk] at h1 h2 hz
      rw [hk]
      rw [if_neg (show ¬ ((33 : Int32) = 5) by decide), if_neg (show ¬ ((33 : Int32) = 8) by decide), if_neg (show ¬ ((33 : Int32) = 11) by decide), if_neg (show ¬ ((33 : Int32) = 12) by decide), if_neg (show ¬ ((33 : Int32) = 13) by decide), if_neg e1, if_neg (show ¬ ((33 : Int32) = 1) by decide), if_neg e1]
      simp [opR]
    · rw [hk] at h1 h2 hz
      rw [hk]
      rw [if_neg (show ¬ ((34 : Int32) = 5) by decide), if_neg (show ¬ ((34 : Int32) = 8) by decide), if_neg (show ¬ ((34 : Int32) = 11) by decide), if_neg (show ¬ ((34 : Int32) = 12) by decide), if_neg (show ¬ ((34 : Int32) = 13) by decide), if_neg e1, if_neg (show ¬ ((34 : Int32) = 1) by decide), if_neg e1]
      simp [opR]
end RR
