-- the reference compiles, to the end
section RQ
variable {σ00 σ0 σ σ1 σ2 σ3 : MS} {L len k nx : Nat} {kw : Nat → Int64} {bt : Nat → Int32} {E : EnvN}
/-- what forgetting leaves -/
def ClrM (σ σ' : MS) : Prop := (∀ j, j ≠ 8 → j ≠ 18 → j ≠ 19 → j ≠ 27 → j ≠ 28 → j ≠ 29 → σ'.1 j = σ.1 j) ∧ (∀ j, j ≠ 23 → σ'.2.1 j = σ.2.1 j) ∧ σ'.2.2 = σ.2.2 ∧ σ'.1 8 = 0 ∧ σ'.1 18 = 0 ∧ σ'.1 19 = 0 ∧ σ'.1 27 = 0 ∧ σ'.1 28 = -1 ∧ σ'.1 29 = 0 ∧ ∀ s, s < 4 → σ'.2.1 23 s = 0
theorem rClr_L : ∀ (d x f : Nat) (σ : MS), x + d = 4 → d < f → ∃ σ1 : MS, FX11_forget_12 L f (nI x) σ = some ((), sI (sI (sI (sI σ1 8 0) 27 0) 28 (-1)) 29 0) ∧ σ1.1 = σ.1 ∧ (∀ j, j ≠ 23 → σ1.2.1 j = σ.2.1 j) ∧ σ1.2.2 = σ.2.2 ∧ (∀ s, s < x → σ1.2.1 23 s = σ.2.1 23 s) ∧ ∀ s, x ≤ s → s < 4 → σ1.2.1 23 s = 0
  | 0, x, f, σ, hx, hf => by
    obtain ⟨f, rfl⟩ : ∃ z, f = z + 1 := ⟨f - 1, by omega⟩
    rw [FX11_forget_12, if_pos (by rw [show (4 : Int32) = nI 4 from rfl, nI_leI (by omega) (by omega)]; omega)]
    exact ⟨σ, rfl, rfl, fun _ _ => rfl, rfl, fun _ _ => rfl, fun s h1 h2 => by omega⟩
  | d+1, x, f, σ, hx, hf => by
    obtain ⟨f, rfl⟩ : ∃ z, f = z + 1 := ⟨f - 1, by omega⟩
    rw [FX11_forget_12, if_neg (by rw [show (4 : Int32) = nI 4 from rfl, nI_leI (by omega) (by omega)]; omega), if_neg (nI_in (show x < 4 by omega) (by decide)), nI_clamp (by omega), ← nI_succ]
    obtain ⟨σ1, e, a, b, c1, g, i⟩ := rClr_L d (x + 1) f (sA σ 23 (upd (σ.2.1 23) x 0)) (by omega) (by omega)
    refine ⟨σ1, e, a, fun j hj => (b j hj).trans (sA_o hj), c1, fun s hs => ?_, fun s h1 h2 => ?_⟩
    · rw [g s (by omega), sA_row, upd_n (by omega)]
    · by_cases z : s = x
      · rw [z, g x (by omega), sA_row, upd_s]
      · exact i s (by omega) h2
theorem rClr (hL : 1000 ≤ L) : ∃ σ', FX11_forget L σ = some ((), σ') ∧ ClrM σ σ' := by
  obtain ⟨σ1, e, a, b, c1, g, i⟩ := rClr_L (L := L) 4 0 L (sI (sI σ 18 0) 19 0) (by omega) (by omega)
  refine ⟨_, e, fun j h1 h2 h3 h4 h5 h6 => ?_, b, c1, ?_, ?_, ?_, ?_, ?_, sI_g, fun s hs => i s (Nat.zero_le s) hs⟩
  · rw [sI_o h6, sI_o h5, sI_o h4, sI_o h1, a, sI_o h3, sI_o h2]
  · rw [sI_o (by decide), sI_o (by decide), sI_o (by decide), sI_g]
  · rw [sI_o (by decide), sI_o (by decide), sI_o (by decide), sI_o (by decide), a, sI_o (by decide), sI_g]
  · rw [sI_o (by decide), sI_o (by decide), sI_o (by decide), sI_o (by decide), a, sI_g]
  · rw [sI_o (by decide), sI_o (by decide), sI_g]
  · rw [sI_o (by decide), sI_g]
/-- what a beginning leaves -/
def BgM (c : Nat) (σ σ' : MS) : Prop := (∀ j, j ≠ 29 → σ'.1 j = σ.1 j) ∧ σ'.1 29 = 0 ∧ σ'.2.1 = σ.2.1 ∧ (∀ j, j ≠ 32 → σ'.2.2 j = σ.2.2 j) ∧ ∀ i, i < c → σ'.2.2 32 i = σ.2.2 24 i
theorem rBg_L {c : Nat} (hc : c ≤ 8) : ∀ (d x f : Nat) (σ : MS), x + d = c → d < f → σ.2.1 23 0 = nI c → ∃ σ' : MS, FX11_begin_7 L f (nI x) σ = some ((), σ') ∧ σ'.1 = σ.1 ∧ σ'.2.1 = σ.2.1 ∧ (∀ j, j ≠ 32 → σ'.2.2 j = σ.2.2 j) ∧ (∀ i, i < x → σ'.2.2 32 i = σ.2.2 32 i) ∧ ∀ i, x ≤ i → i < c → σ'.2.2 32 i = σ.2.2 24 i
  | 0, x, f, σ, hx, hf, h => by
    obtain ⟨f, rfl⟩ : ∃ z, f = z + 1 := ⟨f - 1, by omega⟩
    have h0 : σ.2.1 23 (0 : Int32).toNatClampNeg = nI c := h
    rw [FX11_begin_7, if_neg (by decide), h0, if_pos (by rw [nI_leI (by omega) (by omega)]; omega)]
    exact ⟨σ, rfl, rfl, rfl, fun _ _ => rfl, fun _ _ => rfl, fun s h1 h2 => by omega⟩
  | d+1, x, f, σ, hx, hf, h => by
    obtain ⟨f, rfl⟩ : ∃ z, f = z + 1 := ⟨f - 1, by omega⟩
    have h0 : σ.2.1 23 (0 : Int32).toNatClampNeg = nI c := h
    rw [FX11_begin_7, if_neg (by decide), h0, if_neg (by rw [nI_leI (by omega) (by omega)]; omega), if_neg (nI_in (show x < 8 by omega) (by decide)), if_neg (nI_in (show x < 8 by omega) (by decide)), nI_clamp (by omega), ← nI_succ]
    obtain ⟨σ1, e, a, b, c1, g, i⟩ := rBg_L hc d (x + 1) f (sB σ 32 (vp_updL (σ.2.2 32) x (σ.2.2 24 x))) (by omega) (by omega) h
    refine ⟨σ1, e, a, b, fun j hj => (c1 j hj).trans (sB_o hj), fun s hs => ?_, fun s h1 h2 => ?_⟩
    · rw [g s (by omega), sB_row, updL_n (by omega)]
    · by_cases z : s = x
      · rw [z, g x (by omega), sB_row, updL_s]
      · rw [i s (by omega) h2, sB_o (by decide)]
theorem rBegin {c : Nat} (hL : 1000 ≤ L) (hc : c ≤ 8) (h : σ.2.1 23 0 = nI c) : ∃ σ', FX11_begin L σ = some ((), σ') ∧ BgM c σ σ' := by
  obtain ⟨σ', e, a, b, c1, g, i⟩ := rBg_L (L := L) hc c 0 L (sI σ 29 0) (by omega) (by omega) h
  refine ⟨σ', e, fun j hj => by rw [a, sI_o hj], by rw [a, sI_g], b, c1, fun i' hi => i i' (Nat.zero_le _) hi⟩
/-- what compiling leaves as it is -/
def FrCM (σ σ' : MS) : Prop := (∀ j, j ≠ 0 → j ≠ 2 → j ≠ 3 → j ≠ 7 → j ≠ 8 → j ≠ 17 → j ≠ 18 → j ≠ 19 → j ≠ 27 → j ≠ 28 → j ≠ 29 → j ≠ 37 → j ≠ 38 → σ'.1 j = σ.1 j) ∧ (∀ j, (j < 9 ∨ 15 < j) → j ≠ 4 → j ≠ 5 → j ≠ 6 → j ≠ 21 → j ≠ 22 → j ≠ 23 → j ≠ 25 → j ≠ 26 → σ'.2.1 j = σ.2.1 j) ∧ ∀ j, j ≠ 20 → j ≠ 24 → j ≠ 32 → σ'.2.2 j = σ.2.2 j
theorem FrCM.trans (h : FrCM σ0 σ) (g : FrCM σ σ1) : FrCM σ0 σ1 := ⟨fun j a1 a2 a3 a4 a5 a6 a7 a8 a9 b1 b2 b3 b4 => (g.1 j a1 a2 a3 a4 a5 a6 a7 a8 a9 b1 b2 b3 b4).trans (h.1 j a1 a2 a3 a4 a5 a6 a7 a8 a9 b1 b2 b3 b4), fun j a1 a2 a3 a4 a5 a6 a7 a8 a9 => (g.2.1 j a1 a2 a3 a4 a5 a6 a7 a8 a9).trans (h.2.1 j a1 a2 a3 a4 a5 a6 a7 a8 a9), fun j a b d => (g.2.2 j a b d).trans (h.2.2 j a b d)⟩
theorem FrCM.int {j : Nat} {v : Int32} (hj : j = 0 ∨ j = 2 ∨ j = 3 ∨ j = 7 ∨ j = 18 ∨ j = 27) : FrCM σ (sI σ j v) := ⟨fun i _ _ _ _ _ _ _ _ _ _ _ _ _ => sI_o (by omega), fun _ _ _ _ _ _ _ _ _ _ => rfl, fun _ _ _ _ => rfl⟩
theorem ClrM.fr (h : ClrM σ σ1) : FrCM σ σ1 := ⟨fun j _ _ _ _ a _ b d e f g _ _ => h.1 j a b d e f g, fun j _ _ _ _ _ _ a _ _ => h.2.1 j a, fun j _ _ _ => by rw [h.2.2.1]⟩
theorem BgM.fr {c : Nat} (h : BgM c σ σ1) : FrCM σ σ1 := ⟨fun j _ _ _ _ _ _ _ _ _ _ a _ _ => h.1 j a, fun j _ _ _ _ _ _ _ _ _ => by rw [h.2.2.1], fun j _ _ a => h.2.2.2.1 j a⟩
theorem FrS.cm (h : FrS σ σ1) : FrCM σ σ1 := ⟨fun j _ _ _ _ _ _ _ _ _ _ _ _ _ => by rw [h.1], fun j _ a b d _ _ _ _ _ => h.2.1 j a b d, fun j _ _ _ => by rw [h.2.2]⟩
theorem FrN.cm (h : FrN σ σ1) : FrCM σ σ1 := ⟨fun j _ _ a b d e _ f _ _ _ g i => h.1 j a b d e g i f, fun j a _ _ _ b d e f g => h.2.1 j a b d e f g, fun j a b _ => h.2.2 j a b⟩
theorem ClrM.env (h : ClrM σ0 σ) : RefE EnvN.none 0 σ := ⟨h.2.2.2.2.2.1, fun j hj => absurd hj (Nat.not_lt_zero _), fun s hs => h.2.2.2.2.2.2.2.2.2 s hs, fun s i _ _ hi => absurd hi (Nat.not_lt_zero _), fun i hi => absurd hi (Nat.not_lt_zero _), fun i hi => absurd hi (Nat.not_lt_zero _)⟩
theorem RefE.bg {c : Nat} (h : RefE E nx σ) (g : BgM c σ σ1) : RefE E nx σ1 := by
  obtain ⟨c1, c2, c3, c4, c5, c6⟩ := h
  obtain ⟨g1, g2, g3, g4, g5⟩ := g
  have nt : ntM σ1 = ntM σ := by unfold ntM; rw [g3]
  exact ⟨by rw [g1 19 (by decide)]; exact c1, fun j hj => by rw [g4 20 (by decide), g3]; exact c2 j hj, fun s hs => by rw [g3]; exact c3 s hs, fun s i a b d => by rw [nt, g3]; exact c4 s i a b d, fun i hi => by rw [g4 24 (by decide)]; exact c5 i hi, fun i hi => by rw [g3]; exact c6 i hi⟩
/-- what the reference makes of a tape -/
def CmM (σ : MS) (t : Tk) (r : Ps) (err : Int32) (σ' : MS) : Prop := FrCM σ σ' ∧ σ'.1 0 = 0 ∧ σ'.1 2 = 0 ∧ σ'.1 28 = -1 ∧ σ'.1 29 = 0 ∧ match r with
  | (k', none) => err = 1 ∧ σ'.1 3 = t.2.1 k' ∧ σ'.1 18 = 0 ∧ σ'.1 27 = 0 ∧ RefE EnvN.none 0 σ'
  | (_, some (.error e)) => err = e.1 ∧ e.1 ≠ 0 ∧ σ'.1 3 = e.2 ∧ σ'.1 18 = 0 ∧ σ'.1 27 = 0 ∧ RefE EnvN.none 0 σ'
  | (k', some (.ok E)) => err = 0 ∧ σ'.1 3 = -1 ∧ σ'.1 18 = 1 ∧ k' ≤ 400 ∧ EnvOK E ∧ E.ct 3 ≠ 0 ∧ (∀ i, i < E.ct 0 → σ'.2.2 32 i = E.fi i) ∧ ∃ nx, σ'.1 27 = nI nx ∧ nx ≤ k' ∧ okT (fun q => q < nx) (ntM σ') ∧ (∀ q, q < nx → okB (ntM σ' q)) ∧ RefE E nx σ'
/-- behind an error -/
theorem rBadEnd {e : Int32} (hL : 1000 ≤ L) (he : e ≠ 0) (hF : FrCM σ0 σ) (h0 : σ.1 0 = 0) : ∃ σ', FX11_compile_58 L e σ = some (e, σ') ∧ FrCM σ0 σ' ∧ σ'.1 0 = 0 ∧ σ'.1 2 = 0 ∧ σ'.1 28 = -1 ∧ σ'.1 29 = 0 ∧ σ'.1 3 = σ.1 3 ∧ σ'.1 18 = 0 ∧ σ'.1 27 = 0 ∧ RefE EnvN.none 0 σ' := by
  obtain ⟨σ1, e1, c1⟩ := rClr (σ := sI σ 2 0) hL
  obtain ⟨a1, a2, a3, a4, a5, a6, a7, a8, a9, b1⟩ := id c1
  obtain ⟨σ2, e2, c2⟩ := rBegin (c := 0) (σ := sI (sI σ1 18 0) 27 (σ1.1 8)) hL (by decide) (b1 0 (by decide))
  obtain ⟨d1, d2, d3, d4, d5⟩ := id c2
  rw [FX11_compile_58, if_neg he, e1, b2r, FX11_compile_71, if_neg he, FX11_compile_81, if_neg (by decide), e2, b2r]
  have R : RefE EnvN.none 0 (sI (sI σ1 18 0) 27 (σ1.1 8)) := (c1.env.int (by decide)).int (by decide)
  refine ⟨σ2, rfl, (((hF.trans (FrCM.int (by omega))).trans c1.fr).trans ((FrCM.int (j := 18) (by omega)).trans (FrCM.int (j := 27) (by omega)))).trans c2.fr, ?_, ?_, ?_, d2, ?_, ?_, ?_, R.bg c2⟩
  · rw [d1 0 (by decide), sI_o (by decide), sI_o (by decide), a1 0 (by decide) (by decide) (by decide) (by decide) (by decide) (by decide), sI_o (by decide)]; exact h0
  · rw [d1 2 (by decide), sI_o (by decide), sI_o (by decide), a1 2 (by decide) (by decide) (by decide) (by decide) (by decide) (by decide), sI_g]
  · rw [d1 28 (by decide), sI_o (by decide), sI_o (by decide)]; exact a8
  · rw [d1 3 (by decide), sI_o (by decide), sI_o (by decide), a1 3 (by decide) (by decide) (by decide) (by decide) (by decide) (by decide), sI_o (by decide)]
  · rw [d1 18 (by decide), sI_o (by decide), sI_g]
  · rw [d1 27 (by decide), sI_g]; exact a4
end RQ
