-- the class compiles
section CC
variable {τ τ0 τ1 σ : CS} {L len : Nat} {kw : Nat → Int64} {bt : Nat → Int32}
/-- the tokens of a tape -/
def tkT (kw : Nat → Int64) (bt : Nat → Int32) (len : Nat) : Tk := (tkS kw bt len, (fun n => nI (pC bt len n)), tkW bt len)
theorem sC_w {p : Nat} (h : sC kw bt len p = 51 ∨ sC kw bt len p = 52) : isL (bAt bt len p) = true ∨ isD (bAt bt len p) = true := by
  by_cases c1 : isL (bAt bt len p) = true
  · exact Or.inl c1
  by_cases c2 : isD (bAt bt len p) = true
  · exact Or.inr c2
  exfalso
  unfold sC at h
  by_cases c0 : bAt bt len p = -1
  · rw [if_pos c0] at h
    rcases h with h | h <;> exact absurd h (by decide)
  rw [if_neg c0, if_neg c1, if_neg c2] at h
  split at h
  · rcases h with h | h
    · exact absurd h s1_51.1
    · exact absurd h s1_51.2.1
  · next c3 => rcases s2_val c3 with g | g | g | g | g <;> rw [g] at h <;> rcases h with h | h <;> exact absurd h (by decide)
theorem cRd (hL : 2000 ≤ L) (hok : okBt bt len) (h6 : τ.2.2.2.1 6 = kw) (h1 : τ.1 101 = nI len) (h3 : τ.2.2.1 3 = bt) : ∃ τ', FX9_read L τ = some ((), τ') ∧ FrR τ τ' ∧ TkC (tkT kw bt len) τ' := by
  obtain ⟨τ', e, f, -, g⟩ := cRead (L := L) hL hok 401 0 L (tI τ 405 0) (by omega) (by omega) h6 (by rw [tI_o (by decide)]; exact h1) h3 tI_g
  refine ⟨τ', e, FrR.place.trans f, fun k hk => ?_⟩
  obtain ⟨a, b, d⟩ := g k (Nat.zero_le k) hk.1 (fun j _ hj => hk.2 j hj)
  exact ⟨a, b, fun z => d (sC_w z)⟩
/-- what forgetting leaves -/
def ClrC (τ τ' : CS) : Prop := (∀ j, j ≠ 2807 → j ≠ 2808 → j ≠ 2809 → τ'.1 j = τ.1 j) ∧ τ'.2.1 = τ.2.1 ∧ (∀ j, j ≠ 36 → τ'.2.2.1 j = τ.2.2.1 j) ∧ τ'.2.2.2 = τ.2.2.2 ∧ τ'.1 2807 = 0 ∧ τ'.1 2808 = 0 ∧ τ'.1 2809 = 0 ∧ ∀ s, s < 4 → τ'.2.2.1 36 s = 0
theorem cClr_L : ∀ (d x f : Nat) (τ : CS), x + d = 4 → d < f → ∃ τ', FX5_clear_17 L f (nI x) τ = some ((), τ') ∧ τ'.1 = τ.1 ∧ τ'.2.1 = τ.2.1 ∧ (∀ j, j ≠ 36 → τ'.2.2.1 j = τ.2.2.1 j) ∧ τ'.2.2.2 = τ.2.2.2 ∧ (∀ s, s < x → τ'.2.2.1 36 s = τ.2.2.1 36 s) ∧ ∀ s, x ≤ s → s < 4 → τ'.2.2.1 36 s = 0
  | 0, x, f, τ, hx, hf => by
    obtain ⟨f, rfl⟩ : ∃ z, f = z + 1 := ⟨f - 1, by omega⟩
    rw [FX5_clear_17, if_pos (by rw [show (3 : Int32) = nI 3 from rfl, nI_ltI (by omega) (by omega)]; omega)]
    exact ⟨τ, rfl, rfl, rfl, fun _ _ => rfl, rfl, fun _ _ => rfl, fun s h1 h2 => by omega⟩
  | d+1, x, f, τ, hx, hf => by
    obtain ⟨f, rfl⟩ : ∃ z, f = z + 1 := ⟨f - 1, by omega⟩
    rw [FX5_clear_17, if_neg (by rw [show (3 : Int32) = nI 3 from rfl, nI_ltI (by omega) (by omega)]; omega), pI (show x < 4 by omega) (by decide), ← nI_succ]
    obtain ⟨τ', e, a, b, c1, d1, g, i⟩ := cClr_L d (x + 1) f (tA τ 36 (upd (τ.2.2.1 36) x 0)) (by omega) (by omega)
    refine ⟨τ', e, a, b, fun j hj => (c1 j hj).trans (tA_o hj), d1, fun s hs => ?_, fun s h1 h2 => ?_⟩
    · rw [g s (by omega), tA_row, upd_n (by omega)]
    · by_cases z : s = x
      · rw [z, g x (by omega), tA_row, upd_s]
      · exact i s (by omega) h2
theorem cClr (hL : 2000 ≤ L) : ∃ τ', FX5_clear L τ = some ((), τ') ∧ ClrC τ τ' := by
  obtain ⟨τ', e, a, b, c1, d1, g, i⟩ := cClr_L (L := L) 4 0 L (tI (tI (tI τ 2807 0) 2808 0) 2809 0) (by omega) (by omega)
  refine ⟨τ', e, fun j h1 h2 h3 => ?_, b, c1, d1, ?_, ?_, ?_, fun s hs => i s (by omega) hs⟩
  · rw [a, tI_o h3, tI_o h2, tI_o h1]
  · rw [a, tI_o (by decide), tI_o (by decide), tI_g]
  · rw [a, tI_o (by decide), tI_g]
  · rw [a, tI_g]
theorem ClrC.env (h : ClrC τ0 τ) : ClsE EnvN.none 0 τ := ⟨h.2.2.2.2.1, fun j hj => absurd hj (Nat.not_lt_zero _), fun s hs => h.2.2.2.2.2.2.2 s hs, fun s i _ _ hi => absurd hi (Nat.not_lt_zero _), fun i hi => absurd hi (Nat.not_lt_zero _), fun i hi => absurd hi (Nat.not_lt_zero _)⟩
/-- the class reads its tokens as a program -/
theorem cReadProg {t : Tk} {r : Ps} (hL : 2000 ≤ L) (hT : TkC t τ) (hN : ∀ X, NumOK (cxE t X)) (hE : ClsE EnvN.none 0 τ) (hr : pgm t 401 (.ok EnvN.none) 0 = some r) : ∃ τ3, (∀ j, j ≠ 1307 → j ≠ 1308 → (j < 4303 ∨ 4309 < j) → τ3.1 j = τ.1 j) ∧ (∀ j, j ≠ 4306 → τ3.2.1 j = τ.2.1 j) ∧ τ3.2.2 = τ.2.2 ∧ Tr (FX4_readProgram L τ) (fun _ σ' => QFin τ3 t r σ') := by
  have hk0 : Rk t.1 0 := ⟨by decide, fun j hj => absurd hj (Nat.not_lt_zero _)⟩
  obtain ⟨t1, t2, t3⟩ := hT 0 hk0
  rw [FX4_readProgram, FX4_beginAt, FX3_beginAt, b2r, FX4_advance]
  have e9 : (tI (tI (tI (tI (tI (tI τ 1307 0) 1308 (0 + 400)) 4307 0) 4308 (-1)) 4309 0) 4303 (-1)).1 4309 = 0 := by rw [tI_o (by decide), tI_g]
  have e3 : (tI (tI (tI (tI (tI (tI τ 1307 0) 1308 (0 + 400)) 4307 0) 4308 (-1)) 4309 0) 4303 (-1)).1 4303 + 1 = nI 0 := by rw [tI_g]; decide
  rw [if_pos e9, e3, gI (by decide) (by decide), gI (by decide) (by decide), gL (by decide) (by decide), b2r, b2r]
  have hB : ∃ τ3, τ3 = tL (tI (tI (tI (tI (tI (tI (tI (tI (tI τ 1307 0) 1308 (0 + 400)) 4307 0) 4308 (-1)) 4309 0) 4303 (-1)) 4303 (nI 0)) 4304 (τ.2.2.1 8 0)) 4305 (τ.2.2.1 10 0)) 4306 (τ.2.2.2.1 12 0) := ⟨_, rfl⟩
  obtain ⟨τ3, hσ⟩ := hB
  have i : ∀ j, τ3.1 j = (tI (tI (tI (tI (tI (tI (tI (tI (tI τ 1307 0) 1308 (0 + 400)) 4307 0) 4308 (-1)) 4309 0) 4303 (-1)) 4303 (nI 0)) 4304 (τ.2.2.1 8 0)) 4305 (τ.2.2.1 10 0)).1 j := fun j => by rw [hσ]
  have l6 : τ3.2.1 4306 = τ.2.2.2.1 12 0 := by
    rw [hσ]
    show va_up τ.2.1 4306 (τ.2.2.2.1 12 0) 4306 = _
    exact up_s
  have r2 : τ3.2.2 = τ.2.2 := by rw [hσ]
  have i7 : τ3.1 4307 = 0 := by rw [i, tI_o (by decide), tI_o (by decide), tI_o (by decide), tI_o (by decide), tI_o (by decide), tI_o (by decide), tI_g]
  have i8 : τ3.1 4308 = -1 := by rw [i, tI_o (by decide), tI_o (by decide), tI_o (by decide), tI_o (by decide), tI_o (by decide), tI_g]
  have i9 : τ3.1 4309 = 0 := by rw [i, tI_o (by decide), tI_o (by decide), tI_o (by decide), tI_o (by decide), tI_g]
  have i3 : τ3.1 4303 = nI 0 := by rw [i, tI_o (by decide), tI_o (by decide), tI_g]
  have i4 : τ3.1 4304 = τ.2.2.1 8 0 := by rw [i, tI_o (by decide), tI_g]
  have i5 : τ3.1 4305 = τ.2.2.1 10 0 := by rw [i, tI_g]
  have a7 : τ3.1 1307 = 0 := by rw [i, tI_o (by decide), tI_o (by decide), tI_o (by decide), tI_o (by decide), tI_o (by decide), tI_o (by decide), tI_o (by decide), tI_o (by decide), tI_g]
  have a8 : τ3.1 1308 = nI 400 := by
    rw [i, tI_o (by decide), tI_o (by decide), tI_o (by decide), tI_o (by decide), tI_o (by decide), tI_o (by decide), tI_o (by decide), tI_g]
    decide
  have io : ∀ j, j ≠ 1307 → j ≠ 1308 → (j < 4303 ∨ 4309 < j) → τ3.1 j = τ.1 j := by
    intro j h1 h2 h3
    rw [i, tI_o (by omega), tI_o (by omega), tI_o (by omega), tI_o (by omega), tI_o (by omega), tI_o (by omega), tI_o (by omega), tI_o (by omega), tI_o (by omega)]
  have lo6 : ∀ j, j ≠ 4306 → τ3.2.1 j = τ.2.1 j := by
    intro j h1
    rw [hσ]
    exact up_n h1
  refine ⟨τ3, io, lo6, r2, ?_⟩
  have hT3 : TkC t τ3 := fun k hk => by rw [r2]; exact hT k hk
  obtain ⟨n1, n2, n3, n4, n5, n6⟩ := hE
  have n1' : τ3.1 2807 = 0 := by rw [io 2807 (by decide) (by decide) (by decide)]; exact n1
  have hP : PSt τ3 (cxE t (.ok EnvN.none)) (.ok EnvN.none) 0 τ3 := by
    refine ⟨FrP.refl, ⟨hk0, i9, i3, i4.trans t1, i5.trans t2, fun z => l6.trans (t3 z)⟩, ⟨0, a7, by decide⟩, ⟨0, by decide, n1'⟩, i7, EnvOK.none, 0, a7, Nat.le_refl 0, fun n hn => absurd hn (Nat.not_lt_zero _), fun q hq => absurd hq (Nat.not_lt_zero _), ⟨n1', fun j hj => absurd hj (Nat.not_lt_zero _), fun s hs => by rw [r2]; exact n3 s hs, fun s i _ _ hi => absurd hi (Nat.not_lt_zero _), fun i hi => absurd hi (Nat.not_lt_zero _), fun i hi => absurd hi (Nat.not_lt_zero _)⟩, i8⟩
  have := cProgL hL hT3 hN a8 401 L 1 (.ok EnvN.none) 0 r τ3 (by omega) (by omega) hP hr
  clear i l6 r2 i7 i8 i9 i3 i4 i5 a7 a8 io lo6 hT3 n1' hP
  subst hσ
  exact this
end CC
