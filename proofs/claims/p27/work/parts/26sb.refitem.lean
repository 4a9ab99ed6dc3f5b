-- the reference's second reading of an item: its pieces
section RO
variable {σ00 σ0 σ σ1 σ2 σ3 : MS} {V0 : Nat → Prop} {lo L len k nx : Nat} {kw : Nat → Int64} {bt : Nat → Int32} {c : Cx} {E : EnvN}
/-- while an item is read again -/
def Ib (σ00 : MS) (S : Nat → Int32) (E : EnvN) (nx kk : Nat) (σ : MS) : Prop := FrN σ00 σ ∧ σ.1 7 = nI kk ∧ Rk S kk ∧ σ.1 8 = nI nx ∧ nx ≤ kk ∧ okT (fun q => q < nx) (ntM σ) ∧ (∀ q, q < nx → okB (ntM σ q)) ∧ RefE E nx σ ∧ σ.1 3 = -1
theorem Ib.go {k1 : Nat} (h : Ib σ00 c.1 E nx k σ) (hk : Rk c.1 k1) (h1 : k ≤ k1) : Ib σ00 c.1 E nx k1 (sI σ 7 (nI k1)) := by
  obtain ⟨a, b, d, e, f, g, i, j⟩ := h
  exact ⟨a.int (Or.inr rfl), sI_g, hk, by rw [sI_o (by decide)]; exact e, by omega, g, i, j.1.int (by decide), by rw [sI_o (by decide)]; exact j.2⟩
theorem Ib.next {s : Int32} (h : Ib σ00 c.1 E nx k σ) (hs : c.1 k = s) (h4 : k ≠ 400) (h1 : s ≠ 53) (h2 : s ≠ 54) : Ib σ00 c.1 E nx (k + 1) (sI σ 7 (σ.1 7 + 1)) := by
  rw [h.2.1, ← nI_succ]
  exact h.go (h.2.2.1.next h4 (by rw [hs]; exact h1) (by rw [hs]; exact h2)) (by omega)
/-- what the reference makes of an item -/
def PIt (σ00 : MS) (S : Nat → Int32) (X : Except En EnvN) (k' : Nat) (err : Int32) (σ' : MS) : Prop := match X with
  | .error e => err = e.1 ∧ e.1 ≠ 0 ∧ σ'.1 3 = e.2 ∧ FrN σ00 σ'
  | .ok E' => err = 0 ∧ PSm σ00 S E' k' (sI σ' 7 (σ'.1 7 + 1))
/-- what an item finds, and its name -/
def HmE (c : Cx) (E : EnvN) (s k : Nat) : Prop := EnvOK E ∧ s < 4 ∧ E.ct s < capE s ∧ gmE E (c.2.2.1 (k + 1)) = none ∧ Rk c.1 (k + 1) ∧ c.1 (k + 1) = 51
theorem HmE.c12 {s : Nat} (h : HmE c E s k) : E.ct s < 12 := by
  have := h.2.2.1
  unfold capE at this; split at this <;> omega
theorem r36 {s kk : Nat} {D : Den} {v : Int64} {l : Int32} (hT : TkE kw bt len L c σ00) (hI : Ib σ00 c.1 E nx kk σ) (h36 : c.1 kk = 36) (h4 : kk ≠ 400) (hm : HmE c E s k) (hr : s ≠ 0 → ∃ q, q < nx ∧ σ.2.1 25 (12 * s + E.ct s) = nI q ∧ dnV (ntM σ) q = D.1 ∧ (s = 1 ∨ s = 3 → dnR (ntM σ) (σ.2.1 15) q = D.2 ∧ BlD D)) (h24 : s = 0 → σ.2.2 24 (E.ct 0) = v) (h26 : s = 3 → σ.2.1 26 (E.ct 3) = l) : ∃ σ', FX11_itemMeant_334 L (nI s) (nI (k + 1)) σ = some (0, σ') ∧ PSm σ00 c.1 (E.add (c.2.2.1 (k + 1)) s D v l) (kk + 1) (sI σ' 7 (σ'.1 7 + 1)) := by
  obtain ⟨a, b, d, e, f, g, i, j⟩ := hI
  obtain ⟨m1, m2, m3, m4, m5, m6⟩ := hm
  obtain ⟨w, hTX, hw⟩ := rNm (hT.frN a) m5 m6
  exact r334 a b d h36 h4 e j.2 (by omega) g i m1 j.1 m2 m3 m4 hw hTX hr h24 h26
theorem r263 {s kk : Nat} {D : Den} {v : Int64} {l : Int32} (hT : TkE kw bt len L c σ00) (hI : Ib σ00 c.1 E nx kk σ) (h36 : c.1 kk = 36) (h4 : kk ≠ 400) (hm : HmE c E s k) (hr : s ≠ 0 → ∃ q, q < nx ∧ σ.2.1 25 (12 * s + E.ct s) = nI q ∧ dnV (ntM σ) q = D.1 ∧ (s = 1 ∨ s = 3 → dnR (ntM σ) (σ.2.1 15) q = D.2 ∧ BlD D)) (h24 : s = 0 → σ.2.2 24 (E.ct 0) = v) (h26 : s = 3 → σ.2.1 26 (E.ct 3) = l) : ∃ σ', FX11_itemMeant_263 L (nI s) (nI (k + 1)) σ = some (0, σ') ∧ PSm σ00 c.1 (E.add (c.2.2.1 (k + 1)) s D v l) (kk + 1) (sI σ' 7 (σ'.1 7 + 1)) := by
  rw [FX11_itemMeant_263, rS_10 (hT.frN hI.1) hI.2.1 hI.2.2.1, b2r, ibI, if_neg (show ¬ (decide (c.1 kk = 4) = true) by simp [h36])]
  exact r36 hT hI h36 h4 hm hr h24 h26
def xMv (m : MV) (F : Den → EnvN) : Except En EnvN := match m with
  | .error e => .error e
  | .ok D => .ok (F D)
theorem lvM_y {k5 : Nat} {D : Den} (h : nb c k5 ≤ 9) : lvM c k5 (.ok D) = .ok D := if_pos h
theorem lvM_n {k5 : Nat} {D : Den} (h : ¬ (nb c k5 ≤ 9)) : lvM c k5 (.ok D) = .error (5, c.2.1 k5) := if_neg h
/-- behind the formula of a watch: its level -/
theorem r263L {k4 k' : Nat} {D : Den} {m : MV} {v : Int64} (hT : TkE kw bt len L c σ00) (hI : Ib σ00 c.1 E nx k4 σ) (hm : HmE c E 3 k) (hr : ∃ q, q < nx ∧ σ.2.1 25 (12 * 3 + E.ct 3) = nI q ∧ dnV (ntM σ) q = D.1 ∧ (3 = 1 ∨ 3 = 3 → dnR (ntM σ) (σ.2.1 15) q = D.2 ∧ BlD D)) (h26 : σ.2.1 26 (E.ct 3) = 5) (hq : (if c.1 k4 = 4 then go k4 fun k5 => ex c 52 k5 fun k6 => ex c 36 k6 fun k7 => some (k7, some (lvM c k5 (.ok D))) else ex c 36 k4 fun k5 => some (k5, some (.ok D))) = some (k', some m)) : ∃ err σ', FX11_itemMeant_263 L 3 (nI (k + 1)) σ = some (err, σ') ∧ PIt σ00 c.1 (xMv m fun D => E.add (c.2.2.1 (k + 1)) 3 D v (if c.1 k4 = 4 then nb c (k4 + 1) else 5)) k' err σ' := by
  by_cases e4 : c.1 k4 = 4
  · rw [if_pos e4] at hq
    obtain ⟨n4, hq⟩ := goM hq
    obtain ⟨e52, n5, hq⟩ := exM2 hq
    obtain ⟨e36, n6, hq⟩ := exM2 hq
    obtain ⟨rfl, rfl⟩ := someM hq
    have I1 := hI.next e4 n4 (by decide) (by decide)
    have w0 : σ.1 7 + 1 = nI (k4 + 1) := by rw [hI.2.1, nI_succ]
    obtain ⟨vv, hv, hnb, -, hf⟩ := rNum (hT.frN I1.1) I1.2.2.1 e52
    rw [FX11_itemMeant_263, rS_10 (hT.frN hI.1) hI.2.1 hI.2.2.1, b2r, ibI, if_pos (decide_eq_true e4)]
    rw [w0] at I1 hf ⊢
    rw [hf, b2r]
    have c9 : (nI vv ≤ 9) ↔ nb c (k4 + 1) ≤ 9 := by rw [hnb]
    by_cases z : nb c (k4 + 1) ≤ 9
    · rw [lvM_y z, if_pos (c9.mpr z), if_neg (by decide), I1.2.1, hf, b2r]
      have h12 := hm.c12
      have i12 : (sI σ 7 (nI (k4 + 1))).2.1 23 (3 : Int32).toNatClampNeg = nI (E.ct 3) := I1.2.2.2.2.2.2.2.1.2.2.1 3 (by decide)
      rw [i12, if_neg (nI_in h12 (by decide)), nI_clamp (by omega)]
      have I2 : Ib σ00 c.1 E nx (k4 + 1) (sA (sI σ 7 (nI (k4 + 1))) 26 (upd ((sI σ 7 (nI (k4 + 1))).2.1 26) (E.ct 3) (nI vv))) := by
        obtain ⟨a, b, d, e, f, g, i, j⟩ := I1
        exact ⟨a.trans ⟨fun _ _ _ _ _ _ _ _ => rfl, fun j' _ _ _ _ _ z => up_n z, fun _ _ _ => rfl⟩, b, d, e, f, g, i, j.1.w26, j.2⟩
      have I3 := I2.next e52 n5 (by decide) (by decide)
      obtain ⟨σ', e9, p⟩ := r36 (s := 3) (D := D) (v := v) (l := nb c (k4 + 1)) hT I3 e36 n6 hm (fun _ => hr) (fun z => absurd z (by decide)) (fun _ => by
        have q9 : (sA (sI σ 7 (nI (k4 + 1))) 26 (upd ((sI σ 7 (nI (k4 + 1))).2.1 26) (E.ct 3) (nI vv))).2.1 26 (E.ct 3) = nI vv := by rw [sA_row, upd_s]
        exact q9.trans hnb.symm)
      refine ⟨0, σ', e9, rfl, ?_⟩
      show PSm σ00 c.1 (E.add (c.2.2.1 (k + 1)) 3 D v (if c.1 k4 = 4 then nb c (k4 + 1) else 5)) _ _
      rw [if_pos e4]
      exact p
    · rw [lvM_n z, if_neg (fun y => z (c9.mp y)), I1.2.1, rWr (hT.frN I1.1) I1.2.2.1, b2r]
      exact ⟨_, _, rfl, rfl, (show (5 : Int32) ≠ 0 by decide), sI_g, I1.1.int (Or.inl rfl)⟩
  · rw [if_neg e4] at hq
    obtain ⟨e36, n6, hq⟩ := exM2 hq
    obtain ⟨rfl, rfl⟩ := someM hq
    obtain ⟨σ', e9, p⟩ := r263 (s := 3) (D := D) (v := v) (l := 5) hT hI e36 n6 hm (fun _ => hr) (fun z => absurd z (by decide)) (fun _ => h26)
    refine ⟨0, σ', e9, rfl, ?_⟩
    show PSm σ00 c.1 (E.add (c.2.2.1 (k + 1)) 3 D v (if c.1 k4 = 4 then nb c (k4 + 1) else 5)) _ _
    rw [if_neg e4]
    exact p
/-- a formula or an expression, read again -/
theorem rCall {X Y rank kk k1 : Nat} {f : Bool} {m : MV} (hT : TkE kw bt len L c σ00) (hE : EnvOK E) (hΓ : c.2.2.2 = gmE E) (hI : Ib σ00 c.1 E nx kk σ) (hX : ∀ σ0 V0 lo, CtM kw bt len c σ0 V0 lo L → MXs c σ0 V0 lo L 700 X Y 0 rank f) (hrk : rank ≤ 13) (h1 : spX c 700 X 0 kk = some (k1, some m)) : ∃ err σ', FSC2 L dSC2 Y 0 0 0 σ = some (err, σ') ∧ ((∃ e, m = .error e ∧ err = e.1 ∧ e.1 ≠ 0 ∧ σ'.1 3 = e.2 ∧ FrN σ00 σ') ∨ ∃ D nx1, m = .ok D ∧ err = 0 ∧ Ib σ00 c.1 E nx1 k1 σ' ∧ ∃ q, σ'.1 17 = nI q ∧ q < nx1 ∧ dnV (ntM σ') q = D.1 ∧ (f = true → dnR (ntM σ') (σ'.2.1 15) q = D.2 ∧ BlD D)) := by
  obtain ⟨a, b, d, e, g, i, j, l⟩ := hI
  have hk := d.1
  have hTk := hT.frN a
  have hct : CtM kw bt len c σ (fun q => q < nx) nx L := ⟨hTk, by omega, fun q hq => hq, l.1.gm hE hTk i hΓ⟩
  have hV : Vx (fun q => q < nx) nx nx = fun q => q < nx := funext fun q => propext ⟨fun z => z.elim id (fun y => by omega), fun z => Or.inl z⟩
  have hS : SM c σ (fun q => q < nx) nx nx kk σ := ⟨FrM.refl, b, d, ⟨e, Nat.le_refl nx, by rw [hV]; exact i, by rw [hV]; exact j⟩, by omega, rfl⟩
  have d7 : dSC2 = 700 := rfl
  obtain ⟨err, σ', e1, p⟩ := hX σ _ nx hct 0 kk nx σ 700 (by decide) (by omega) hS k1 m h1
  refine ⟨err, σ', by rw [d7]; exact e1, ?_⟩
  cases m with
  | error x =>
    obtain ⟨p1, p2, p3, p4⟩ := p
    exact Or.inl ⟨x, rfl, p1, p2, p3, a.fr p4⟩
  | ok D =>
    obtain ⟨p1, nx1, p2, p3, ⟨s1, s2, s3, ⟨s4, s5, s6, s7⟩, s8, s9⟩, ⟨⟨q, n1, n2, n3, n4⟩, n5⟩, p6⟩ := p
    have hV1 : Vx (fun q => q < nx) nx nx1 = fun q => q < nx1 := funext fun q => propext ⟨fun z => z.elim (fun y => by omega) (fun y => y.2), fun z => if y : q < nx then Or.inl y else Or.inr ⟨by omega, z⟩⟩
    rw [hV1] at s6 s7 n2
    exact Or.inr ⟨D, nx1, rfl, p1, ⟨a.fr s1, s2, s3, s4, by omega, s6, s7, l.1.fr s1 i p2, s9.trans l.2⟩, q, n1, n2, n3, n4⟩
/-- a part's number is kept -/
theorem Ib.w25 {s : Nat} {v : Int32} (h : Ib σ00 c.1 E nx k σ) (hE : EnvOK E) (hs : s < 4) (hct : E.ct s < 12) : Ib σ00 c.1 E nx k (sA σ 25 (upd (σ.2.1 25) (12 * s + E.ct s) v)) := by
  obtain ⟨a, b, d, e, f, g, i, j⟩ := h
  exact ⟨a.trans ⟨fun _ _ _ _ _ _ _ _ => rfl, fun j' _ _ _ _ z _ => up_n z, fun _ _ _ => rfl⟩, b, d, e, f, g, i, j.1.w25 hE hs hct, j.2⟩
theorem Ib.w26 {v : Int32} (h : Ib σ00 c.1 E nx k σ) : Ib σ00 c.1 E nx k (sA σ 26 (upd (σ.2.1 26) (E.ct 3) v)) := by
  obtain ⟨a, b, d, e, f, g, i, j⟩ := h
  exact ⟨a.trans ⟨fun _ _ _ _ _ _ _ _ => rfl, fun j' _ _ _ _ _ z => up_n z, fun _ _ _ => rfl⟩, b, d, e, f, g, i, j.1.w26, j.2⟩
/-- behind a formula or an expression -/
theorem r214 {s k4 k' : Nat} {D : Den} {m : MV} {v : Int64} (hT : TkE kw bt len L c σ00) (hI : Ib σ00 c.1 E nx k4 σ) (hm : HmE c E s k) (h0 : s ≠ 0) (hr : ∃ q, σ.1 17 = nI q ∧ q < nx ∧ dnV (ntM σ) q = D.1 ∧ (decide (s = 1 ∨ s = 3) = true → dnR (ntM σ) (σ.2.1 15) q = D.2 ∧ BlD D)) (hq : (if s = 3 then (if c.1 k4 = 4 then go k4 fun k5 => ex c 52 k5 fun k6 => ex c 36 k6 fun k7 => some (k7, some (lvM c k5 (.ok D))) else ex c 36 k4 fun k5 => some (k5, some (.ok D))) else ex c 36 k4 fun k5 => some (k5, some (.ok D))) = some (k', some m)) : ∃ err σ', FX11_itemMeant_214 L (nI s) (nI (k + 1)) 0 σ = some (err, σ') ∧ PIt σ00 c.1 (xMv m fun D => E.add (c.2.2.1 (k + 1)) s D v (if c.1 k4 = 4 then nb c (k4 + 1) else 5)) k' err σ' := by
  obtain ⟨m1, m2, m3, m4, m5, m6⟩ := id hm
  have h12 := hm.c12
  have c3 : σ.2.1 23 s = nI (E.ct s) := hI.2.2.2.2.2.2.2.1.2.2.1 s m2
  have ix : (12 : Int32) * nI s + nI (E.ct s) = nI (12 * s + E.ct s) := by
    have : s = 0 ∨ s = 1 ∨ s = 2 ∨ s = 3 := by omega
    rcases this with rfl | rfl | rfl | rfl
    · exact absurd rfl h0
    · rw [show (12 : Int32) * nI 1 = nI 12 from by decide, nI_add]
    · rw [show (12 : Int32) * nI 2 = nI 24 from by decide, nI_add]
    · rw [show (12 : Int32) * nI 3 = nI 36 from by decide, nI_add]
  have hp : ¬ (nI s ≤ 0) := by
    have : s = 0 ∨ s = 1 ∨ s = 2 ∨ s = 3 := by omega
    rcases this with rfl | rfl | rfl | rfl
    · exact absurd rfl h0
    · decide
    · decide
    · decide
  rw [FX11_itemMeant_214, if_pos rfl, if_neg hp, if_neg (nI_in m2 (by decide)), nI_clamp (by omega), c3, ix, if_neg (nI_in (show 12 * s + E.ct s < 48 by omega) (by decide)), nI_clamp (by omega), FX11_itemMeant_246]
  obtain ⟨q, q1, q2, q3, q4⟩ := hr
  have I1 := hI.w25 (v := σ.1 17) m1 m2 h12
  have r25 : (sA σ 25 (upd (σ.2.1 25) (12 * s + E.ct s) (σ.1 17))).2.1 25 (12 * s + E.ct s) = nI q := by rw [sA_row, upd_s, q1]
  by_cases h3 : s = 3
  · subst h3
    rw [if_pos rfl] at hq
    have c33 : (sA σ 25 (upd (σ.2.1 25) (12 * 3 + E.ct 3) (σ.1 17))).2.1 23 (3 : Int32).toNatClampNeg = nI (E.ct 3) := c3
    rw [if_pos (show nI 3 = 3 by decide), if_neg (by decide), c33, if_neg (nI_in h12 (by decide)), nI_clamp (by omega)]
    exact r263L hT I1.w26 hm ⟨q, q2, r25, q3, fun _ => q4 (by decide)⟩ (by rw [sA_row, upd_s]) hq
  · rw [if_neg h3] at hq
    obtain ⟨e36, n6, hq⟩ := exM2 hq
    obtain ⟨rfl, rfl⟩ := someM hq
    have hn3 : ¬ (nI s = 3) := by
      have : s = 0 ∨ s = 1 ∨ s = 2 ∨ s = 3 := by omega
      rcases this with rfl | rfl | rfl | rfl
      · decide
      · decide
      · decide
      · exact absurd rfl h3
    rw [if_neg hn3]
    obtain ⟨σ', e9, p⟩ := r263 (s := s) (D := D) (v := v) (l := if c.1 k4 = 4 then nb c (k4 + 1) else 5) hT I1 e36 n6 hm (fun _ => ⟨q, q2, r25, q3, fun z => q4 (decide_eq_true z)⟩) (fun z => absurd z h0) (fun z => absurd z h3)
    exact ⟨0, σ', e9, rfl, p⟩
end RO
