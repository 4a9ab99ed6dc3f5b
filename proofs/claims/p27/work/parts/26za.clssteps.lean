-- the class reckons a question over all steps
theorem cAskL {L N p0 steps : Nat} {V : Nat → Prop} (hN : N ≤ 1200) (hpN : p0 ≤ N) (hV : ∀ m, V m → m < N) (hVf : ∀ m, p0 ≤ m → m < N → V m) (hL : 1300 ≤ L) (hs : steps ≤ 120) : ∀ (d j f : Nat) (τ : CS), j + d = steps → d < f → τ.1 12 = nI p0 → τ.1 13 = nI N → τ.1 4402 = nI steps → okT V (ntC τ) → (∀ m, V m → bdC τ m) → (∀ i, i < steps → VT (τ.2.2.1 46) i) → (∀ m, V m → m < p0 → ∀ i, i < steps → cellC τ m i = vaN (ntC τ) (hsC τ) m i) → (∀ m, V m → ∀ i, i < j → cellC τ m i = vaN (ntC τ) (hsC τ) m i) → ∃ T : Nat → Nat → Int64, FX10_ask_101 L f (nI j) τ = some (0, tT τ 2 T) ∧ ∀ m, V m → ∀ i, i < steps → T m i = vaN (ntC τ) (hsC τ) m i := by
  intro d
  induction d with
  | zero =>
    intro j f τ hj hf h12 h13 h44 hT hB hVT ho hd
    obtain ⟨f, rfl⟩ : ∃ z, f = z + 1 := ⟨f - 1, by omega⟩
    refine ⟨τ.2.2.2.2 2, ?_, fun m hm i hi => hd m hm i (by omega)⟩
    rw [FX10_ask_101, h44, if_pos (by rw [nI_leI (by omega) (by omega)]; omega)]
    have : tT τ 2 (τ.2.2.2.2 2) = τ := by
      show ((τ.1, τ.2.1, τ.2.2.1, τ.2.2.2.1, va_up τ.2.2.2.2 2 (τ.2.2.2.2 2)) : CS) = τ
      have e : va_up τ.2.2.2.2 2 (τ.2.2.2.2 2) = τ.2.2.2.2 := by
        funext k; unfold va_up; by_cases z : k = 2
        · rw [if_pos z, z]
        · rw [if_neg z]
      rw [e]
    rw [this]
  | succ d ih =>
    intro j f τ hj hf h12 h13 h44 hT hB hVT ho hd
    obtain ⟨f, rfl⟩ : ∃ z, f = z + 1 := ⟨f - 1, by omega⟩
    obtain ⟨T, e, g1, g2⟩ := cReckon (L := L) hN hV hVf (show j < 120 by omega) hL (N - p0) p0 L τ hT hB (hVT j (by omega)) (Nat.le_refl p0) (by omega) (by omega) (fun m hm hl i hi => ho m hm hl i (by omega)) (fun m hm i hi => hd m hm i hi)
    rw [FX10_ask_101, h44, if_neg (by rw [nI_leI (by omega) (by omega)]; omega), h12, h13, FX6_reckon, e, b2r, ← nI_succ]
    obtain ⟨T2, e2, q⟩ := ih (j + 1) f (tT τ 2 T) (by omega) (by omega) h12 h13 h44 hT hB hVT (fun m hm hl i hi => by
      have := g2 m i (Or.inl hl)
      show (va_up τ.2.2.2.2 2 T) 2 m i = _
      rw [up_s, this]; exact ho m hm hl i hi) (fun m hm i hi => by
      show (va_up τ.2.2.2.2 2 T) 2 m i = _
      rw [up_s]; exact g1 m hm i (by omega))
    refine ⟨T2, ?_, q⟩
    rw [e2]
    have : tT (tT τ 2 T) 2 T2 = tT τ 2 T2 := by
      show ((τ.1, τ.2.1, τ.2.2.1, τ.2.2.2.1, va_up (va_up τ.2.2.2.2 2 T) 2 T2) : CS) = _
      rw [va_upup]
    rw [this]
