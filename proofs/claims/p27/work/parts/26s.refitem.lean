-- the reference's second reading of items
def RefE (E : EnvN) (nx : Nat) (σ : MS) : Prop := σ.1 19 = nI E.nn ∧ (∀ j, j < E.nn → TX (E.wd j) (σ.2.2 20 j) ∧ σ.2.1 21 j = nI (E.so j) ∧ σ.2.1 22 j = nI (E.no j)) ∧ (∀ s, s < 4 → σ.2.1 23 s = nI (E.ct s)) ∧ (∀ s i, s < 4 → s ≠ 0 → i < E.ct s → ∃ q, q < nx ∧ σ.2.1 25 (12 * s + i) = nI q ∧ dnV (ntM σ) q = (E.dn s i).1 ∧ (s = 1 ∨ s = 3 → dnR (ntM σ) (σ.2.1 15) q = (E.dn s i).2 ∧ BlD (E.dn s i))) ∧ (∀ i, i < E.ct 0 → σ.2.2 24 i = E.fi i) ∧ ∀ i, i < E.ct 3 → σ.2.1 26 i = E.lv i
/-- what the second reading leaves -/
def FrN (σ0 σ : MS) : Prop := (∀ j, j ≠ 3 → j ≠ 7 → j ≠ 8 → j ≠ 17 → j ≠ 37 → j ≠ 38 → j ≠ 19 → σ.1 j = σ0.1 j) ∧ (∀ j, (j < 9 ∨ 15 < j) → j ≠ 21 → j ≠ 22 → j ≠ 23 → j ≠ 25 → j ≠ 26 → σ.2.1 j = σ0.2.1 j) ∧ (∀ j, j ≠ 20 → j ≠ 24 → σ.2.2 j = σ0.2.2 j)
section RM
variable {σ00 σ0 σ σ1 σ2 σ3 : MS} {V0 : Nat → Prop} {lo L len k nx : Nat} {kw : Nat → Int64} {bt : Nat → Int32} {c : Cx} {E : EnvN}
theorem FrN.refl : FrN σ0 σ0 := ⟨fun _ _ _ _ _ _ _ _ => rfl, fun _ _ _ _ _ _ _ => rfl, fun _ _ _ => rfl⟩
theorem FrN.trans (h : FrN σ0 σ1) (g : FrN σ1 σ) : FrN σ0 σ := ⟨fun j a b d e f i z => (g.1 j a b d e f i z).trans (h.1 j a b d e f i z), fun j a b d e f i => (g.2.1 j a b d e f i).trans (h.2.1 j a b d e f i), fun j a b => (g.2.2 j a b).trans (h.2.2 j a b)⟩
theorem FrN.fr (h : FrN σ00 σ0) (g : FrM σ0 lo σ) : FrN σ00 σ := h.trans ⟨fun j a b d e f i _ => g.1 j a b d e f i, fun j a _ _ _ _ _ => g.2.1 j a, fun j _ _ => by rw [g.2.2.2]⟩
theorem FrN.int (h : FrN σ00 σ) {j : Nat} {v : Int32} (hj : j = 3 ∨ j = 7) : FrN σ00 (sI σ j v) := h.trans ⟨fun i a b _ _ _ _ _ => sI_o (by omega), fun _ _ _ _ _ _ _ => rfl, fun _ _ _ => rfl⟩
theorem TkE.frN (h : TkE kw bt len L c σ0) (g : FrN σ0 σ) : TkE kw bt len L c σ := by
  obtain ⟨a, b, d, e, f, t, l⟩ := h
  refine ⟨a, b, d, e, f, ⟨by rw [g.2.1 1 (by omega) (by decide) (by decide) (by decide) (by decide) (by decide)]; exact t.1, fun k hk => ?_⟩, l⟩
  rw [g.2.1 4 (by omega) (by decide) (by decide) (by decide) (by decide) (by decide), g.2.1 5 (by omega) (by decide) (by decide) (by decide) (by decide) (by decide), g.2.1 6 (by omega) (by decide) (by decide) (by decide) (by decide) (by decide)]
  exact t.2 k hk
theorem rNm (h : TkE kw bt len L c σ) (hk : Rk c.1 k) (h51 : c.1 k = 51) : ∃ w, TX (c.2.2.1 k) w ∧ FX11_nameOf L (nI k) σ = some (w, σ) := by
  have e := h.2.2.1
  rw [e] at hk h51
  rw [h.2.2.2.2.1]
  exact rNameOf h.2.1 h.2.2.2.2.2.1 hk h.2.2.2.2.2.2 h51
theorem rFind_none {w : Int64} {x2 : Int32} {nn : Nat} (hw : FX11_nameOf L (nI k) σ = some (w, σ)) (h19 : σ.1 19 = nI nn) (hn : nn ≤ 44) : ∀ (d x f : Nat), x + d = nn → d < f → (∀ j, x ≤ j → j < nn → σ.2.2 20 j ≠ w) → FX11_find_4 L f (nI k) x2 (nI x) σ = some (x2, σ)
  | 0, x, f, hx, hf, _ => by
    obtain ⟨f, rfl⟩ : ∃ z, f = z + 1 := ⟨f - 1, by omega⟩
    rw [FX11_find_4, h19, if_pos (by rw [nI_leI (by omega) (by omega)]; omega)]
  | d+1, x, f, hx, hf, hj => by
    obtain ⟨f, rfl⟩ : ∃ z, f = z + 1 := ⟨f - 1, by omega⟩
    rw [FX11_find_4, h19, if_neg (by rw [nI_leI (by omega) (by omega)]; omega), if_neg (nI_in (show x < 44 by omega) (by decide)), hw, b2r, nI_clamp (by omega), if_neg (hj x (by omega) (by omega)), ← nI_succ]
    exact rFind_none hw h19 hn d (x + 1) f (by omega) (by omega) (fun j h1 h2 => hj j (by omega) h2)
theorem rFind_some {w : Int64} {nn j : Nat} (hw : FX11_nameOf L (nI k) σ = some (w, σ)) (h19 : σ.1 19 = nI nn) (hn : nn ≤ 44) (hj : j < nn) (hjw : σ.2.2 20 j = w) (hu : ∀ i, i < nn → σ.2.2 20 i = w → i = j) : ∀ (d x f : Nat) (x2 : Int32), x + d = j → nn < f + x → FX11_find_4 L f (nI k) x2 (nI x) σ = some (nI j, σ)
  | 0, x, f, x2, hx, hf => by
    obtain ⟨f, rfl⟩ : ∃ z, f = z + 1 := ⟨f - 1, by omega⟩
    have : x = j := by omega
    subst this
    rw [FX11_find_4, h19, if_neg (by rw [nI_leI (by omega) (by omega)]; omega), if_neg (nI_in (show x < 44 by omega) (by decide)), hw, b2r, nI_clamp (by omega), if_pos hjw, ← nI_succ]
    exact rFind_none hw h19 hn (nn - (x + 1)) (x + 1) f (by omega) (by omega) (fun i h1 h2 z => by have := hu i h2 z; omega)
  | d+1, x, f, x2, hx, hf => by
    obtain ⟨f, rfl⟩ : ∃ z, f = z + 1 := ⟨f - 1, by omega⟩
    rw [FX11_find_4, h19, if_neg (by rw [nI_leI (by omega) (by omega)]; omega), if_neg (nI_in (show x < 44 by omega) (by decide)), hw, b2r, nI_clamp (by omega), if_neg (fun z => by have := hu x (by omega) z; omega), ← nI_succ]
    exact rFind_some hw h19 hn hj hjw hu d (x + 1) f x2 (by omega) (by omega)
/-- finding a name among the reference's -/
theorem RefE.find (h : RefE E nx σ) (hE : EnvOK E) (hT : TkE kw bt len L c σ) (hk : Rk c.1 k) (h51 : c.1 k = 51) : (gmE E (c.2.2.1 k) = none → FX11_find L (nI k) σ = some (-1, σ)) ∧ ∀ j, j < E.nn → E.wd j = c.2.2.1 k → FX11_find L (nI k) σ = some (nI j, σ) := by
  obtain ⟨w, hw, ew⟩ := rNm hT hk h51
  have hn := hE.nn44
  have hL := hT.2.2.2.2.2.2
  refine ⟨fun e => ?_, fun j hj e => ?_⟩
  · exact rFind_none ew h.1 hn E.nn 0 L (by omega) (by omega) (fun j _ hj z => (lkE_none _).mp e j hj ((TX_inj (h.2.1 j hj).1 hw).mpr z))
  · refine rFind_some ew h.1 hn hj ((TX_inj (h.2.1 j hj).1 hw).mp e) (fun i hi z => ?_) j 0 L _ (by omega) (by omega)
    exact hE.2.2.2 i j hi hj (((TX_inj (h.2.1 i hi).1 hw).mpr z).trans e.symm)
theorem RefE.gm (h : RefE E nx σ) (hE : EnvOK E) (hT : TkE kw bt len L c σ) (hok : okT (fun q => q < nx) (ntM σ)) (hΓ : c.2.2.2 = gmE E) : GM c σ (fun q => q < nx) nx L := by
  refine ⟨hok, fun k hk h51 => ⟨fun e σ' hF => ?_, fun s n D e => ?_⟩⟩
  · rw [hΓ] at e
    obtain ⟨w, hw, ew⟩ := rNm (hT.fr hF) hk h51
    have hn := hE.nn44
    have hL := hT.2.2.2.2.2.2
    exact rFind_none ew ((hF.1 19 (by decide) (by decide) (by decide) (by decide) (by decide) (by decide)).trans h.1) hn E.nn 0 L (by omega) (by omega) (fun j _ hj z => (lkE_none _).mp e j hj ((TX_inj (h.2.1 j hj).1 hw).mpr (by rw [hF.2.2.2] at z; exact z)))
  · rw [hΓ] at e
    obtain ⟨j, hj, hwj, rfl, rfl, rfl⟩ := lkE_some _ e
    obtain ⟨a1, a2, a3⟩ := h.2.1 j hj
    obtain ⟨b1, b2⟩ := hE.2.2.1 j hj
    have hn := hE.nn44
    have hL := hT.2.2.2.2.2.2
    refine ⟨j, E.so j, E.no j, by omega, fun σ' hF => ?_, b1, rfl, a2, a3, rfl, fun z => ?_, fun z => ?_⟩
    · obtain ⟨w, hw, ew⟩ := rNm (hT.fr hF) hk h51
      have r20 : ∀ i, σ'.2.2 20 i = σ.2.2 20 i := fun i => by rw [hF.2.2.2]
      refine rFind_some ew ((hF.1 19 (by decide) (by decide) (by decide) (by decide) (by decide) (by decide)).trans h.1) hn hj (by rw [r20]; exact (TX_inj a1 hw).mp hwj) (fun i hi z => ?_) j 0 L _ (by omega) (by omega)
      rw [r20] at z
      exact hE.2.2.2 i j hi hj (((TX_inj (h.2.1 i hi).1 hw).mpr z).trans hwj.symm)
    · rw [z] at b2
      have : E.ct 0 ≤ 8 := hE.2.1 0 (by decide)
      omega
    · have y3 : E.ct (E.so j) ≤ 12 := by
        have := hE.2.1 (E.so j) b1
        unfold capE at this; split at this <;> omega
      obtain ⟨q, q1, q2, q3, q4⟩ := h.2.2.2.1 (E.so j) (E.no j) b1 z b2
      exact ⟨by omega, q, q1, q2, q3, q4⟩
end RM
