-- the class compiles, to the end
section CE
variable {τ τ0 τ1 σ : CS} {L len : Nat} {kw : Nat → Int64} {bt : Nat → Int32} {E : EnvN}
/-- what a beginning leaves -/
def BgC (τ τ' : CS) : Prop := (∀ j, j ≠ 4402 → j ≠ 4403 → τ'.1 j = τ.1 j) ∧ τ'.2.1 = τ.2.1 ∧ τ'.2.2.1 = τ.2.2.1 ∧ (∀ j, j ≠ 58 → τ'.2.2.2.1 j = τ.2.2.2.1 j) ∧ τ'.2.2.2.2 = τ.2.2.2.2 ∧ τ'.1 4402 = 0 ∧ τ'.1 4403 = getI 4 (τ.2.2.1 36) 0 ∧ ∀ i, i < 8 → τ'.2.2.2.1 58 i = τ.2.2.2.1 40 i
theorem cBg_L : ∀ (d x f : Nat) (τ : CS), x + d = 8 → d < f → ∃ τ', FX10_begin_22 L f (nI x) τ = some ((), τ') ∧ τ'.1 = τ.1 ∧ τ'.2.1 = τ.2.1 ∧ τ'.2.2.1 = τ.2.2.1 ∧ (∀ j, j ≠ 58 → τ'.2.2.2.1 j = τ.2.2.2.1 j) ∧ τ'.2.2.2.2 = τ.2.2.2.2 ∧ (∀ i, i < x → τ'.2.2.2.1 58 i = τ.2.2.2.1 58 i) ∧ ∀ i, x ≤ i → i < 8 → τ'.2.2.2.1 58 i = τ.2.2.2.1 40 i
  | 0, x, f, τ, hx, hf => by
    obtain ⟨f, rfl⟩ : ∃ z, f = z + 1 := ⟨f - 1, by omega⟩
    rw [FX10_begin_22, if_pos (by rw [show (8 : Int32) = nI 8 from rfl, nI_leI (by omega) (by omega)]; omega)]
    exact ⟨τ, rfl, rfl, rfl, rfl, fun _ _ => rfl, rfl, fun _ _ => rfl, fun s h1 h2 => by omega⟩
  | d+1, x, f, τ, hx, hf => by
    obtain ⟨f, rfl⟩ : ∃ z, f = z + 1 := ⟨f - 1, by omega⟩
    rw [FX10_begin_22, if_neg (by rw [show (8 : Int32) = nI 8 from rfl, nI_leI (by omega) (by omega)]; omega), pL (show x < 8 by omega) (by decide), gL (show x < 8 by omega) (by decide), ← nI_succ]
    obtain ⟨τ', e, a, b, c1, d1, e1, g, i⟩ := cBg_L d (x + 1) f (tB τ 58 (vp_updL (τ.2.2.2.1 58) x (τ.2.2.2.1 40 x))) (by omega) (by omega)
    refine ⟨τ', e, a, b, c1, fun j hj => (d1 j hj).trans (tB_o hj), e1, fun s hs => ?_, fun s h1 h2 => ?_⟩
    · rw [g s (by omega), tB_row, updL_n (by omega)]
    · by_cases z : s = x
      · rw [z, g x (by omega), tB_row, updL_s]
      · rw [i s (by omega) h2, tB_o (by decide)]
theorem cBegin (hL : 2000 ≤ L) : ∃ τ', FX10_begin L τ = some ((), τ') ∧ BgC τ τ' := by
  rw [FX10_begin, FX10_howMany, if_neg (by decide), if_neg (by decide), if_neg (by decide), b2r]
  obtain ⟨τ', e, a, b, c1, d1, e1, g, i⟩ := cBg_L (L := L) 8 0 L (tI (tI τ 4402 0) 4403 (getI 4 ((tI τ 4402 0).2.2.1 36) 0)) (by omega) (by omega)
  refine ⟨τ', e, fun j h1 h2 => ?_, b, c1, d1, e1, ?_, ?_, fun i' hi => i i' (Nat.zero_le _) hi⟩
  · rw [a, tI_o h2, tI_o h1]
  · rw [a, tI_o (by decide), tI_g]
  · rw [a, tI_g]
/-- what compiling leaves as it is -/
def FrCC (τ τ' : CS) : Prop := (∀ j, (j < 4303 ∨ 4311 < j) → j ≠ 9 → j ≠ 10 → j ≠ 101 → j ≠ 405 → j ≠ 1307 → j ≠ 1308 → j ≠ 2807 → j ≠ 2808 → j ≠ 2809 → j ≠ 4402 → j ≠ 4403 → τ'.1 j = τ.1 j) ∧ (∀ j, j ≠ 4306 → τ'.2.1 j = τ.2.1 j) ∧ (∀ j, nNR j → j ≠ 8 → j ≠ 10 → j ≠ 32 → j ≠ 34 → j ≠ 36 → j ≠ 38 → j ≠ 42 → τ'.2.2.1 j = τ.2.2.1 j) ∧ (∀ j, j ≠ 12 → j ≠ 30 → j ≠ 40 → j ≠ 58 → τ'.2.2.2.1 j = τ.2.2.2.1 j) ∧ τ'.2.2.2.2 = τ.2.2.2.2
theorem FrCC.refl : FrCC τ τ := ⟨fun _ _ _ _ _ _ _ _ _ _ _ _ _ => rfl, fun _ _ => rfl, fun _ _ _ _ _ _ _ _ _ => rfl, fun _ _ _ _ _ => rfl, rfl⟩
theorem FrCC.trans (h : FrCC τ0 τ) (g : FrCC τ τ1) : FrCC τ0 τ1 := ⟨fun j a1 a2 a3 a4 a5 a6 a7 a8 a9 b1 b2 b3 => (g.1 j a1 a2 a3 a4 a5 a6 a7 a8 a9 b1 b2 b3).trans (h.1 j a1 a2 a3 a4 a5 a6 a7 a8 a9 b1 b2 b3), fun j a => (g.2.1 j a).trans (h.2.1 j a), fun j a1 a2 a3 a4 a5 a6 a7 a8 => (g.2.2.1 j a1 a2 a3 a4 a5 a6 a7 a8).trans (h.2.2.1 j a1 a2 a3 a4 a5 a6 a7 a8), fun j a1 a2 a3 a4 => (g.2.2.2.1 j a1 a2 a3 a4).trans (h.2.2.2.1 j a1 a2 a3 a4), g.2.2.2.2.trans h.2.2.2.2⟩
theorem ClrC.fr (h : ClrC τ τ1) : FrCC τ τ1 := ⟨fun j _ _ _ _ _ _ _ a b d _ _ => h.1 j a b d, fun j _ => by rw [h.2.1], fun j _ _ _ _ _ a _ _ => h.2.2.1 j a, fun j _ _ _ _ => by rw [h.2.2.2.1], by rw [h.2.2.2.1]⟩
theorem BgC.fr (h : BgC τ τ1) : FrCC τ τ1 := ⟨fun j _ _ _ _ _ _ _ _ _ _ a b => h.1 j a b, fun j _ => by rw [h.2.1], fun j _ _ _ _ _ _ _ _ => by rw [h.2.2.1], fun j _ _ _ a => h.2.2.2.1 j a, h.2.2.2.2.1⟩
theorem FrR.cc (h : FrR τ τ1) : FrCC τ τ1 := ⟨fun j _ _ _ _ a _ _ _ _ _ _ _ => h.1 j a, fun j _ => by rw [h.2.1], fun j _ a b _ _ _ _ _ => h.2.2.1 j a b, fun j a _ _ _ => h.2.2.2.1 j a, h.2.2.2.2⟩
theorem FrP.cc (h : FrP τ τ1) : FrCC τ τ1 := ⟨fun j a _ _ _ _ b _ d _ _ _ _ => h.1 j a b d, h.2.1, fun j a _ _ b d e f g => h.2.2.1 j a b d e f g, fun j _ a b _ => h.2.2.2.1 j a b, h.2.2.2.2⟩
theorem FrCC.int {j : Nat} {v : Int32} (h : FrCC τ τ1) (hj : j = 9 ∨ j = 10 ∨ j = 101 ∨ j = 2808 ∨ j = 2809) : FrCC τ (tI τ1 j v) := h.trans ⟨fun i _ b1 b2 b3 _ _ _ _ b4 b5 _ _ => tI_o (by omega), fun _ _ => rfl, fun _ _ _ _ _ _ _ _ _ => rfl, fun _ _ _ _ _ => rfl, rfl⟩
/-- what the class makes of a tape -/
def CmC (τ : CS) (t : Tk) (r : Ps) (err : Int32) (τ' : CS) : Prop := FrCC τ τ' ∧ τ'.1 10 = 0 ∧ τ'.1 101 = 0 ∧ τ'.1 4402 = 0 ∧ match r with
  | (k', none) => err = 1 ∧ τ'.1 9 = t.2.1 k' ∧ τ'.1 2808 = 0 ∧ τ'.1 2809 = 0 ∧ ClsE EnvN.none 0 τ' ∧ τ'.1 4403 = 0
  | (_, some (.error e)) => err = e.1 ∧ e.1 ≠ 0 ∧ τ'.1 9 = e.2 ∧ τ'.1 2808 = 0 ∧ τ'.1 2809 = 0 ∧ ClsE EnvN.none 0 τ' ∧ τ'.1 4403 = 0
  | (k', some (.ok E)) => err = 0 ∧ τ'.1 9 = -1 ∧ τ'.1 2808 = 1 ∧ k' ≤ 400 ∧ EnvOK E ∧ E.ct 3 ≠ 0 ∧ τ'.1 4403 = nI (E.ct 0) ∧ (∀ i, i < E.ct 0 → τ'.2.2.2.1 58 i = E.fi i) ∧ ∃ nx, τ'.1 2809 = nI nx ∧ nx ≤ k' ∧ okT (fun q => q < nx) (ntC τ') ∧ (∀ q, q < nx → bdC τ' q) ∧ ClsE E nx τ'
theorem ClsE.bg {nx : Nat} (h : ClsE E nx τ) (g : BgC τ τ1) : ClsE E nx τ1 := by
  obtain ⟨c1, c2, c3, c4, c5, c6⟩ := h
  obtain ⟨g1, g2, g3, g4, g5, -⟩ := g
  have nt : ntC τ1 = ntC τ := by unfold ntC; rw [g3]
  refine ⟨by rw [g1 2807 (by decide) (by decide)]; exact c1, fun j hj => by rw [g4 30 (by decide), g3]; exact c2 j hj, fun s hs => by rw [g3]; exact c3 s hs, fun s i a b d => by rw [nt, g3]; exact c4 s i a b d, fun i hi => by rw [g4 40 (by decide)]; exact c5 i hi, fun i hi => by rw [g3]; exact c6 i hi⟩
theorem ClsE.int {nx j : Nat} {v : Int32} (h : ClsE E nx τ) (hj : j ≠ 2807) : ClsE E nx (tI τ j v) := ⟨by rw [tI_o (fun z => hj z.symm)]; exact h.1, h.2⟩
theorem ClsE.cnt {nx : Nat} (h : ClsE E nx τ) : getI 4 (τ.2.2.1 36) 0 = nI (E.ct 0) := by
  have : getI 4 (τ.2.2.1 36) (nI 0) = nI (E.ct 0) := by rw [gI (by decide) (by decide)]; exact h.2.2.1 0 (by decide)
  exact this
/-- behind an error -/
theorem cBadEnd {e p : Int32} (hL : 2000 ≤ L) (hF : FrCC τ0 τ) (h10 : τ.1 10 = 0) (h7 : τ.1 4307 = e) (h8 : τ.1 4308 = p) : ∃ err τ', (b2 (FX5_clear L (tI (tI τ 101 0) 9 (τ.1 4308))) fun (_ : Unit) σ_5 => FX10_compile_87 L σ_5) = some (err, τ') ∧ FrCC τ0 τ' ∧ τ'.1 10 = 0 ∧ τ'.1 101 = 0 ∧ τ'.1 4402 = 0 ∧ err = e ∧ τ'.1 9 = p ∧ τ'.1 2808 = 0 ∧ τ'.1 2809 = 0 ∧ ClsE EnvN.none 0 τ' ∧ τ'.1 4403 = 0 := by
  obtain ⟨τ4, e4, c4⟩ := cClr (τ := tI (tI τ 101 0) 9 (τ.1 4308)) hL
  obtain ⟨τ5, e5, c5⟩ := cBegin (τ := τ4) hL
  rw [e4, b2r, FX10_compile_87, e5, b2r]
  have f4 := ((hF.int (j := 101) (v := 0) (by omega)).int (j := 9) (v := τ.1 4308) (by omega)).trans c4.fr
  obtain ⟨a1, a2, a3, a4, a5, a6, a7, a8⟩ := c5
  obtain ⟨b1, b2', b3, b4, b5, b6, b7, b8⟩ := id c4
  have C : ClsE EnvN.none 0 τ4 := c4.env
  refine ⟨_, τ5, rfl, f4.trans (BgC.fr ⟨a1, a2, a3, a4, a5, a6, a7, a8⟩), ?_, ?_, a6, ?_, ?_, ?_, ?_, C.bg ⟨a1, a2, a3, a4, a5, a6, a7, a8⟩, ?_⟩
  · rw [a1 10 (by decide) (by decide), b1 10 (by decide) (by decide) (by decide), tI_o (by decide), tI_o (by decide)]; exact h10
  · rw [a1 101 (by decide) (by decide), b1 101 (by decide) (by decide) (by decide), tI_o (by decide), tI_g]
  · rw [a1 4307 (by decide) (by decide), b1 4307 (by decide) (by decide) (by decide), tI_o (by decide), tI_o (by decide)]; exact h7
  · rw [a1 9 (by decide) (by decide), b1 9 (by decide) (by decide) (by decide), tI_g]; exact h8
  · rw [a1 2808 (by decide) (by decide)]; exact b6
  · rw [a1 2809 (by decide) (by decide)]; exact b7
  · rw [a7]; exact C.cnt
theorem cCompile {r : Ps} (hL : 2000 ≤ L) (hok : okBt bt len) (h6 : τ.2.2.2.1 6 = kw) (h1 : τ.1 101 = nI len) (h3 : τ.2.2.1 3 = bt) (hN : ∀ X, NumOK (cxE (tkT kw bt len) X)) (hr : pgm (tkT kw bt len) 401 (.ok EnvN.none) 0 = some r) : ∃ err τ', FX10_compile L τ = some (err, τ') ∧ CmC τ (tkT kw bt len) r err τ' := by
  obtain ⟨τ1, e1, c1⟩ := cClr (τ := τ) hL
  obtain ⟨a1, a2, a3, a4, a5, a6, a7, a8⟩ := id c1
  obtain ⟨τ2, e2, f2, k2⟩ := cRd (τ := tI τ1 10 0) (kw := kw) (bt := bt) hL hok (by show τ1.2.2.2.1 6 = kw; rw [a4]; exact h6) (by rw [tI_o (by decide), a1 101 (by decide) (by decide) (by decide)]; exact h1) (by show τ1.2.2.1 3 = bt; rw [a3 3 (by decide)]; exact h3)
  have F2 : FrCC τ τ2 := (c1.fr.int (j := 10) (v := 0) (by omega)).trans f2.cc
  have C2 : ClsE EnvN.none 0 τ2 := by
    obtain ⟨n1, n2, n3, n4, n5, n6⟩ := c1.env
    exact ⟨by rw [f2.1 2807 (by decide), tI_o (by decide)]; exact n1, fun j hj => absurd hj (Nat.not_lt_zero _), fun s hs => by rw [f2.2.2.1 36 (by decide) (by decide)]; exact n3 s hs, fun s i _ _ hi => absurd hi (Nat.not_lt_zero _), fun i hi => absurd hi (Nat.not_lt_zero _), fun i hi => absurd hi (Nat.not_lt_zero _)⟩
  have t2 : τ2.1 10 = 0 := by rw [f2.1 10 (by decide), tI_g]
  obtain ⟨τ3, i3, l3, r3, u, τ4, e4, q4⟩ := cReadProg hL k2 hN C2 hr
  have F3 : FrCC τ τ3 := F2.trans ⟨fun j a _ _ _ _ b d _ _ _ _ _ => i3 j b d (by omega), fun j a => l3 j a, fun j _ _ _ _ _ _ _ _ => by rw [r3], fun j _ _ _ _ => by rw [r3], by rw [r3]⟩
  have t3 : τ3.1 10 = 0 := by rw [i3 10 (by decide) (by decide) (by decide)]; exact t2
  rw [FX10_compile, e1, b2r, e2, b2r, e4, b2r]
  obtain ⟨k', o⟩ := r
  cases o with
  | none =>
    obtain ⟨q1, q2, q3⟩ := q4
    rw [if_neg (by rw [q2]; decide)]
    obtain ⟨err, τ', e, z1, z2, z3, z4, z5, z6⟩ := cBadEnd (e := 1) hL (F3.trans q1.cc) (by rw [q1.1 10 (by decide) (by decide) (by decide)]; exact t3) q2 q3
    exact ⟨err, τ', e, z1, z2, z3, z4, z5, z6⟩
  | some X =>
    cases X with
    | error x =>
      obtain ⟨q1, q0, q2, q3⟩ := q4
      rw [if_neg (by rw [q2]; exact q0)]
      obtain ⟨err, τ', e, z1, z2, z3, z4, z5, z6⟩ := cBadEnd hL (F3.trans q1.cc) (by rw [q1.1 10 (by decide) (by decide) (by decide)]; exact t3) q2 q3
      exact ⟨err, τ', e, z1, z2, z3, z4, z5, q0, z6⟩
    | ok E =>
      obtain ⟨⟨q1, qs, -, -, p1, p2, nx, p3, p4, p5, p6, p7, p8⟩, q5⟩ := q4
      rw [if_pos p1]
      obtain ⟨τ5, e5, c5⟩ := cBegin (τ := tI (tI (tI (tI τ4 101 0) 9 (τ4.1 4308)) 2808 1) 2809 (τ4.1 1307)) hL
      rw [FX10_compile_87, e5, b2r]
      have F4 := ((((F3.trans q1.cc).int (j := 101) (v := 0) (by omega)).int (j := 9) (v := τ4.1 4308) (by omega)).int (j := 2808) (v := 1) (by omega)).int (j := 2809) (v := τ4.1 1307) (by omega)
      have C5 : ClsE E nx (tI (tI (tI (tI τ4 101 0) 9 (τ4.1 4308)) 2808 1) 2809 (τ4.1 1307)) := (((p7.int (by decide)).int (by decide)).int (by decide)).int (by decide)
      have C6 := C5.bg c5
      obtain ⟨b1, b2', b3, b4, b5, b6, b7, b8⟩ := id c5
      have nt : ntC τ5 = ntC τ4 := by unfold ntC; rw [b3]
      have h8 : E.ct 0 ≤ 8 := p2.2.1 0 (by decide)
      refine ⟨_, τ5, rfl, F4.trans c5.fr, ?_, ?_, b6, ?_, ?_, ?_, qs.1.1, p2, q5, ?_, fun i hi => ?_, nx, ?_, p4, by rw [nt]; exact p5, fun q hq => ?_, C6⟩
      · rw [b1 10 (by decide) (by decide), tI_o (by decide), tI_o (by decide), tI_o (by decide), tI_o (by decide), q1.1 10 (by decide) (by decide) (by decide)]; exact t3
      · rw [b1 101 (by decide) (by decide), tI_o (by decide), tI_o (by decide), tI_o (by decide), tI_g]
      · rw [b1 4307 (by decide) (by decide), tI_o (by decide), tI_o (by decide), tI_o (by decide), tI_o (by decide)]; exact p1
      · rw [b1 9 (by decide) (by decide), tI_o (by decide), tI_o (by decide), tI_g]; exact p8
      · rw [b1 2808 (by decide) (by decide), tI_o (by decide), tI_g]
      · rw [b7]; exact C5.cnt
      · rw [b8 i (by omega)]; exact C5.2.2.2.2.1 i hi
      · rw [b1 2809 (by decide) (by decide), tI_g]; exact p3
      · have := p6 q hq
        unfold bdC at this ⊢
        rw [b3]; exact this
end CE
