-- asking, in both
section AK
variable {σ σ0 σ1 σ2 : MS} {τ τ1 τ2 : CS} {kw : Nat → Int64} {bt : Nat → Int32} {len nm nc st ks km c m L k p0 fr : Nat} {E : EnvN}
/-- what asking leaves as it is -/
def FrQM (nq : Nat) (σ σ1 : MS) : Prop := (∀ j, j ≠ 0 → j ≠ 2 → j ≠ 3 → j ≠ 7 → j ≠ 8 → j ≠ 17 → j ≠ 28 → j ≠ 37 → j ≠ 38 → j ≠ 40 → σ1.1 j = σ.1 j) ∧ (∀ j, (j < 9 ∨ 15 < j) → j ≠ 4 → j ≠ 5 → j ≠ 6 → σ1.2.1 j = σ.2.1 j) ∧ (∀ j q, 9 ≤ j → j ≤ 15 → q < nq → σ1.2.1 j q = σ.2.1 j q) ∧ σ1.2.2 = σ.2.2
def FrQC (p0 : Nat) (τ τ1 : CS) : Prop := (∀ j, (j < 4303 ∨ 4311 < j) → j ≠ 9 → j ≠ 10 → j ≠ 11 → j ≠ 12 → j ≠ 13 → j ≠ 101 → j ≠ 405 → j ≠ 1307 → j ≠ 1308 → τ1.1 j = τ.1 j) ∧ (∀ j, nNR j → j ≠ 8 → j ≠ 10 → τ1.2.2.1 j = τ.2.2.1 j) ∧ (∀ j q, (q < p0 ∨ p0 + 400 ≤ q) → j ≠ 8 → j ≠ 10 → τ1.2.2.1 j q = τ.2.2.1 j q) ∧ (∀ j, j ≠ 12 → τ1.2.2.2.1 j = τ.2.2.2.1 j) ∧ ∀ j, j ≠ 2 → τ1.2.2.2.2 j = τ.2.2.2.2 j
theorem FrQM.nt {nq q : Nat} (h : FrQM nq σ σ1) (hq : q < nq) : ntM σ1 q = ntM σ q := by
  unfold ntM
  rw [h.2.2.1 9 q (by decide) (by decide) hq, h.2.2.1 10 q (by decide) (by decide) hq, h.2.2.1 11 q (by decide) (by decide) hq, h.2.2.1 12 q (by decide) (by decide) hq, h.2.2.1 13 q (by decide) (by decide) hq, h.2.2.1 14 q (by decide) (by decide) hq]
theorem FrQC.nt {q : Nat} (h : FrQC p0 τ τ1) (hq : q < p0 ∨ p0 + 400 ≤ q) : ntC τ1 q = ntC τ q := by
  unfold ntC
  rw [h.2.2.1 15 q hq (by decide) (by decide), h.2.2.1 19 q hq (by decide) (by decide), h.2.2.1 21 q hq (by decide) (by decide), h.2.2.1 23 q hq (by decide) (by decide), h.2.2.1 25 q hq (by decide) (by decide), h.2.2.1 27 q hq (by decide) (by decide)]
theorem FrQC.bd {q : Nat} (h : FrQC p0 τ τ1) (hq : q < p0 ∨ p0 + 400 ≤ q) (hb : bdC τ q) : bdC τ1 q := by
  unfold bdC at hb ⊢
  rw [h.2.2.1 25 q hq (by decide) (by decide), h.2.2.1 27 q hq (by decide) (by decide)]; exact hb
theorem FrQC.hs (h : FrQC p0 τ τ1) : hsC τ1 = hsC τ := by
  unfold hsC
  rw [h.2.1 46 (nNRd (by decide)) (by decide) (by decide), h.2.2.2.2 0 (by decide)]
theorem FrQM.hs {nq : Nat} (h : FrQM nq σ σ1) : hsM σ1 = hsM σ := by
  unfold hsM
  rw [h.2.1 30 (by decide) (by decide) (by decide) (by decide), h.2.2.2]
theorem okT.tr {V : Nat → Prop} {T T' : NT} (h : okT V T) (he : ∀ n, V n → T' n = T n) : okT V T' := fun n hn => ⟨(h n hn).1, by rw [he n hn]; exact (h n hn).2⟩
theorem RefE.tr {nq : Nat} (h : RefE E nm σ) (hT : okT (fun q => q < nm) (ntM σ)) (hq : nm ≤ nq) (f : FrQM nq σ σ1) : RefE E nm σ1 := by
  obtain ⟨c1, c2, c3, c4, c5, c6⟩ := h
  obtain ⟨f1, f2, f3, f4⟩ := id f
  have r : ∀ j, 15 < j → σ1.2.1 j = σ.2.1 j := fun j hj => f2 j (Or.inr hj) (by omega) (by omega) (by omega)
  refine ⟨by rw [f1 19 (by decide) (by decide) (by decide) (by decide) (by decide) (by decide) (by decide) (by decide) (by decide) (by decide)]; exact c1, fun j hj => by rw [f4, r 21 (by decide), r 22 (by decide)]; exact c2 j hj, fun s hs => by rw [r 23 (by decide)]; exact c3 s hs, fun s i hs h0 hi => ?_, fun i hi => by rw [f4]; exact c5 i hi, fun i hi => by rw [r 26 (by decide)]; exact c6 i hi⟩
  obtain ⟨q, q1, q2, q3, q4⟩ := c4 s i hs h0 hi
  refine ⟨q, q1, by rw [r 25 (by decide)]; exact q2, ?_, fun z => ⟨?_, (q4 z).2⟩⟩
  · rw [← q3]; exact dnV_table hT (fun n hn => f.nt (by have hn : n < nm := hn; omega)) q1
  · rw [← (q4 z).1]; exact dnR_table hT (fun n hn => ⟨f.nt (by have hn : n < nm := hn; omega), f3 15 n (by decide) (by decide) (by have hn : n < nm := hn; omega)⟩) q1
theorem ClsE.tr (h : ClsE E nc τ) (hT : okT (fun q => q < nc) (ntC τ)) (hp : nc ≤ p0) (f : FrQC p0 τ τ1) : ClsE E nc τ1 := by
  obtain ⟨c1, c2, c3, c4, c5, c6⟩ := h
  obtain ⟨f1, f2, f3, f4, f5⟩ := id f
  have r : ∀ j, 27 < j → τ1.2.2.1 j = τ.2.2.1 j := fun j hj => f2 j (nNRd hj) (by omega) (by omega)
  refine ⟨by rw [f1 2807 (by decide) (by decide) (by decide) (by decide) (by decide) (by decide) (by decide) (by decide) (by decide) (by decide)]; exact c1, fun j hj => by rw [f4 30 (by decide), r 32 (by decide), r 34 (by decide), r 38 (by decide)]; exact c2 j hj, fun s hs => by rw [r 36 (by decide)]; exact c3 s hs, fun s i hs h0 hi => ?_, fun i hi => by rw [f4 40 (by decide)]; exact c5 i hi, fun i hi => by rw [r 42 (by decide)]; exact c6 i hi⟩
  obtain ⟨q, q1, q2, q3, q4⟩ := c4 s i hs h0 hi
  refine ⟨q, q1, by rw [r 38 (by decide)]; exact q2, ?_, fun z => ?_⟩
  · rw [← q3]; exact dnV_table hT (fun n hn => f.nt (Or.inl (by have hn : n < nc := hn; omega))) q1
  · rw [← q4 z]; exact dnR_table hT (fun n hn => ⟨f.nt (Or.inl (by have hn : n < nc := hn; omega)), f3 17 n (Or.inl (by have hn : n < nc := hn; omega)) (by decide) (by decide)⟩) q1
/-- the relation after asking -/
theorem RelW.ask (h : RelW kw len E nm nc st ks km σ τ) (fM : FrQM nm σ σ1) (fC : FrQC p0 τ τ1) (hp : nc ≤ p0) (h2 : σ1.1 2 = 0) (h101 : τ1.1 101 = 0) (h3 : σ1.1 3 = τ1.1 9) (hTC : TabC (fun q => q < nc) st τ1) (hA : AskNo σ1 τ1 ∨ AskYes nm nc st σ1 τ1) : RelW kw 0 E nm nc st ks km σ1 τ1 := by
  obtain ⟨⟨t1, t2, t3, t4, t5, t6⟩, ⟨p1, p2, p3, p4, ⟨p5, p6, p7, p8⟩, ⟨p9, q1, q2, q3⟩, q4, q5⟩, ⟨x1, x2, x3, x4, x5, x6, x7⟩, ⟨k1, k2, k3, k4, k5, k6, k7, k8, k9⟩, hM, hC, -⟩ := h
  obtain ⟨f1, f2, f3, f4, f5⟩ := id fC
  obtain ⟨g1, g2, g3, g4⟩ := id fM
  have iM : ∀ j, 8 < j → j ≠ 17 → j ≠ 28 → j ≠ 37 → j ≠ 38 → j ≠ 40 → σ1.1 j = σ.1 j := fun j a b d e f g => g1 j (by omega) (by omega) (by omega) (by omega) (by omega) b d e f g
  have iC : ∀ j, (j < 4303 ∨ 4311 < j) → 1308 < j → τ1.1 j = τ.1 j := fun j a b => f1 j a (by omega) (by omega) (by omega) (by omega) (by omega) (by omega) (by omega) (by omega) (by omega)
  have rC : ∀ j, 27 < j → τ1.2.2.1 j = τ.2.2.1 j := fun j hj => f2 j (nNRd hj) (by omega) (by omega)
  have rM : ∀ j, 15 < j → σ1.2.1 j = σ.2.1 j := fun j hj => g2 j (Or.inr hj) (by omega) (by omega) (by omega)
  have r3 : τ1.2.2.1 3 = τ.2.2.1 3 := f2 3 (by unfold nNR; decide) (by decide) (by decide)
  refine ⟨⟨by rw [f4 6 (by decide)]; exact t1, h2, h101, ⟨Nat.zero_le _, fun k hk => absurd hk (Nat.not_lt_zero _)⟩, by rw [g2 1 (by decide) (by decide) (by decide) (by decide), r3]; exact t5, h3⟩, ⟨p1, p2, p3.tr p7 (Nat.le_refl _) fM, p4.tr q2 hp fC, ⟨by rw [iM 27 (by decide) (by decide) (by decide) (by decide) (by decide) (by decide)]; exact p5, p6, p7.tr (fun n hn => fM.nt hn), fun q hq => by rw [fM.nt hq]; exact p8 q hq⟩, ⟨by rw [iC 2809 (by decide) (by decide)]; exact p9, q1, q2.tr (fun n hn => fC.nt (Or.inl (by have hn : n < nc := hn; omega))), fun q hq => fC.bd (Or.inl (by omega)) (q3 q hq)⟩, by rw [iC 4403 (by decide) (by decide)]; exact q4, by rw [iM 18 (by decide) (by decide) (by decide) (by decide) (by decide) (by decide), iC 2808 (by decide) (by decide)]; exact q5⟩, ⟨x1, by rw [iM 29 (by decide) (by decide) (by decide) (by decide) (by decide) (by decide)]; exact x2, by rw [iC 4402 (by decide) (by decide)]; exact x3, by rw [rC 46 (by decide)]; exact x4, fun i hi => by rw [rM 30 (by decide), rC 46 (by decide)]; exact x5 i hi, fun k i hk hi => by rw [g4, f5 0 (by decide)]; exact x6 k i hk hi, fun k hk => by rw [g4, f4 58 (by decide)]; exact x7 k hk⟩, ⟨k1, k2, by rw [iM 33 (by decide) (by decide) (by decide) (by decide) (by decide) (by decide)]; exact k3, by rw [iC 4902 (by decide) (by decide)]; exact k4, by rw [iM 34 (by decide) (by decide) (by decide) (by decide) (by decide) (by decide)]; exact k5, by rw [iC 4903 (by decide) (by decide)]; exact k6, by rw [rC 51 (by decide)]; exact k7, fun i hi => by rw [rM 35 (by decide), rC 51 (by decide)]; exact k8 i hi, fun k i hk hi => by rw [g4, f5 1 (by decide)]; exact k9 k i hk hi⟩, fun q hq i hi => ?_, hTC, hA⟩
  have : tabM σ1 q i = tabM σ q i := by unfold tabM; rw [g4]
  rw [this, hM q hq i hi, fM.hs]
  exact (congrFun (vaN_table (h := hsM σ) p7 (fun n hn => fM.nt hn) hq) i).symm
theorem TabC.tr {V : Nat → Prop} (h : TabC V st τ) (hT : okT V (ntC τ)) (f : FrQC p0 τ τ1) (hV : ∀ q, V q → q < p0 ∨ p0 + 400 ≤ q) (h2 : τ1.2.2.2.2 2 = τ.2.2.2.2 2) : TabC V st τ1 := fun q hq i hi => by
  have : cellC τ1 q i = cellC τ q i := by unfold cellC; rw [h2]
  rw [this, h q hq i hi, f.hs]
  exact (congrFun (vaN_table (h := hsC τ) hT (fun n hn => f.nt (hV n hn)) hq) i).symm
/-- what the class makes of a question -/
def AsC (p0 nc st : Nat) (τ : CS) (t : Tk) (r : Rs) (err : Int32) (τ1 : CS) : Prop := FrQC p0 τ τ1 ∧ τ1.1 101 = 0 ∧ match r with
  | (k', none) => err = 1 ∧ τ1.1 9 = t.2.1 k' ∧ (∀ j, j = 10 ∨ j = 11 ∨ j = 12 ∨ j = 13 → τ1.1 j = τ.1 j) ∧ τ1.2.2.2.2 2 = τ.2.2.2.2 2
  | (_, some (.error e)) => err = e.1 ∧ τ1.1 9 = e.2 ∧ (∀ j, j = 10 ∨ j = 11 ∨ j = 12 ∨ j = 13 → τ1.1 j = τ.1 j) ∧ τ1.2.2.2.2 2 = τ.2.2.2.2 2
  | (_, some (.ok D)) => err = 0 ∧ τ1.1 9 = -1 ∧ τ1.1 10 = 1 ∧ TabC (fun q => q < nc) st τ1 ∧ ∃ ne qc, AskC nc st p0 ne qc τ1 ∧ dnV (ntC τ1) qc = D.1
theorem cAsk {r : Rs} (h : RelW kw len E nm nc st ks km σ τ) (hN : NumOK (cxE (tkT kw (τ.2.2.1 3) len) (.ok E))) (hr : qst (cxE (tkT kw (τ.2.2.1 3) len) (.ok E)) = some r) (hp : p0 = 400 ∨ p0 = 800) : ∃ err τ1, FX10_ask_19 LF (nI p0) τ = some (err, τ1) ∧ AsC p0 nc st τ (tkT kw (τ.2.2.1 3) len) r err τ1 := by
  obtain ⟨⟨t1, t2, t3, t4, t5, t6⟩, ⟨p1, p2, p3, p4, ⟨p5, p6, p7, p8⟩, ⟨p9, q1, q2, q3⟩, q4, q5⟩, ⟨x1, x2, x3, x4, x5, x6, x7⟩, hK, hM, hC, hA⟩ := h
  have hp400 : 400 ≤ p0 ∧ p0 ≤ 800 := by omega
  have hl : (2000 : Nat) ≤ LF := by decide
  obtain ⟨τ2, e2, f2, k2⟩ := cRd (L := LF) hl t4 t1 t3 rfl
  have F2 : FrQC p0 τ τ2 := ⟨fun j _ _ _ _ _ _ _ a _ _ => f2.1 j a, fun j _ a b => f2.2.2.1 j a b, fun j q _ a b => by rw [f2.2.2.1 j a b], fun j a => f2.2.2.2.1 j a, fun j _ => by rw [f2.2.2.2.2]⟩
  have nt2 : ntC τ2 = ntC τ := by
    unfold ntC
    rw [f2.2.2.1 15 (by decide) (by decide), f2.2.2.1 19 (by decide) (by decide), f2.2.2.1 21 (by decide) (by decide), f2.2.2.1 23 (by decide) (by decide), f2.2.2.1 25 (by decide) (by decide), f2.2.2.1 27 (by decide) (by decide)]
  obtain ⟨τ3, i3, l3, r3, a, τ4, e4, F4, g4⟩ := cQuestion (L := LF) hl k2 hN p1 (p4.tr q2 (show nc ≤ p0 by omega) F2) (by rw [nt2]; exact q2) (fun q hq => F2.bd (Or.inl (by omega)) (q3 q hq)) (show nc ≤ p0 by omega) (show p0 + 400 ≤ 1200 by omega) hr
  obtain ⟨f1, f2', f3, f5, f6, -⟩ := F4
  have FX : FrQC p0 τ τ4 := ⟨fun j b1 b2 b3 b4 b5 b6 b7 b8 b9 c1 => (f1 j b1 b9).trans ((i3 j b9 c1 (by omega)).trans (f2.1 j b8)), fun j b1 b2 b3 => (f3 j b1).trans ((congrFun (congrArg Prod.fst r3) j).trans (f2.2.2.1 j b2 b3)), fun j q b1 b2 b3 => (f5 j q b1).trans (by rw [r3, f2.2.2.1 j b2 b3]), fun j b1 => by rw [f6, r3]; exact f2.2.2.2.1 j b1, fun j _ => by rw [f6, r3, f2.2.2.2.2]⟩
  have T4 : τ4.2.2.2.2 = τ.2.2.2.2 := by rw [f6, r3, f2.2.2.2.2]
  have i4 : ∀ j, j = 10 ∨ j = 11 ∨ j = 12 ∨ j = 13 → τ4.1 j = τ.1 j := fun j hj => (f1 j (by omega) (by omega)).trans ((i3 j (by omega) (by omega) (by omega)).trans (f2.1 j (by omega)))
  rw [FX10_ask_19, e2, b2r, e4, b2r]
  have FE : ∀ {v}, FrQC p0 τ (tI (tI τ4 101 0) 9 v) := fun {v} => ⟨fun j b1 b2 b3 b4 b5 b6 b7 b8 b9 c1 => by rw [tI_o b2, tI_o b7]; exact FX.1 j b1 b2 b3 b4 b5 b6 b7 b8 b9 c1, FX.2.1, FX.2.2.1, FX.2.2.2.1, FX.2.2.2.2⟩
  have iE : ∀ {v}, ∀ j, j = 10 ∨ j = 11 ∨ j = 12 ∨ j = 13 → (tI (tI τ4 101 0) 9 v).1 j = τ.1 j := fun {v} j hj => by rw [tI_o (by omega), tI_o (by omega)]; exact i4 j hj
  have z101 : ∀ {v}, (tI (tI τ4 101 0) 9 v).1 101 = 0 := fun {v} => by rw [tI_o (by decide), tI_g]
  obtain ⟨k', o⟩ := r
  cases o with
  | none =>
    obtain ⟨y1, y2⟩ := g4
    rw [if_neg (by rw [y1]; decide)]
    exact ⟨_, _, rfl, FE, z101, y1, by rw [tI_g]; exact y2, iE, by rw [T4]⟩
  | some X =>
    cases X with
    | error e =>
      obtain ⟨y0, y1, y2⟩ := g4
      rw [if_neg (by rw [y1]; exact y0)]
      exact ⟨_, _, rfl, FE, z101, y1, by rw [tI_g]; exact y2, iE, by rw [T4]⟩
    | ok D =>
      obtain ⟨y1, y2, nx, q, y3, y4, y5, y6, y7, y8, y9, w1, w2⟩ := g4
      rw [if_pos y1]
      have hx : ∃ τ5, τ5 = tI (tI (tI (tI (tI (tI τ4 101 (0 : Int32)) 9 (τ4.1 4308)) 10 (1 : Int32)) 11 a) 12 (nI p0)) 13 (τ4.1 1307) := ⟨_, rfl⟩
      obtain ⟨τ5, h5⟩ := hx
      have j5 : ∀ j, j ≠ 101 → j ≠ 9 → j ≠ 10 → j ≠ 11 → j ≠ 12 → j ≠ 13 → τ5.1 j = τ4.1 j := fun j b1 b2 b3 b4 b5 b6 => by rw [h5, tI_o b6, tI_o b5, tI_o b4, tI_o b3, tI_o b2, tI_o b1]
      have v101 : τ5.1 101 = 0 := by rw [h5, tI_o (by decide), tI_o (by decide), tI_o (by decide), tI_o (by decide), tI_o (by decide), tI_g]
      have v9 : τ5.1 9 = -1 := by rw [h5, tI_o (by decide), tI_o (by decide), tI_o (by decide), tI_o (by decide), tI_g]; exact y2
      have v10 : τ5.1 10 = 1 := by rw [h5, tI_o (by decide), tI_o (by decide), tI_o (by decide), tI_g]
      have v11 : τ5.1 11 = nI q := by rw [h5, tI_o (by decide), tI_o (by decide), tI_g]; exact y6
      have v12 : τ5.1 12 = nI p0 := by rw [h5, tI_o (by decide), tI_g]
      have v13 : τ5.1 13 = nI nx := by rw [h5, tI_g]; exact y3
      have s5 : τ5.2 = τ4.2 := by rw [h5]
      have nt5 : ntC τ5 = ntC τ4 := by unfold ntC; rw [s5]
      have F5 : FrQC p0 τ τ5 := ⟨fun j b1 b2 b3 b4 b5 b6 b7 b8 b9 c1 => by rw [j5 j b7 b2 b3 b4 b5 b6]; exact FX.1 j b1 b2 b3 b4 b5 b6 b7 b8 b9 c1, by rw [s5]; exact FX.2.1, by rw [s5]; exact FX.2.2.1, by rw [s5]; exact FX.2.2.2.1, by rw [s5]; exact FX.2.2.2.2⟩
      have old : TabC (fun q => q < nc) st τ5 := hC.tr q2 F5 (fun q hq => Or.inl (by have hq : q < nc := hq; omega)) (by rw [s5, T4])
      have v44 : τ5.1 4402 = nI st := by rw [F5.1 4402 (by decide) (by decide) (by decide) (by decide) (by decide) (by decide) (by decide) (by decide) (by decide) (by decide)]; exact x3
      have bd5 : ∀ q, Vx (fun q => q < nc) p0 nx q → bdC τ5 q := fun q hq => by
        have := w2 q hq
        unfold bdC at this ⊢
        rw [s5]; exact this
      obtain ⟨T, e6, g6⟩ := cAskL (L := LF) (N := nx) (p0 := p0) (steps := st) (V := Vx (fun q => q < nc) p0 nx) (by omega) y4 (fun m hm => hm.elim (fun z => by have z : m < nc := z; omega) (fun z => z.2)) (fun m h1 h2 => Or.inr ⟨h1, h2⟩) (by decide) x1 st 0 5000 τ5 (by omega) (by omega) v12 v13 v44 (by rw [nt5]; exact w1) bd5 (fun i hi => by rw [F5.2.1 46 (nNRd (by decide)) (by decide) (by decide)]; exact x4.vt x1 hi) (fun m hm hlt i hi => old m (hm.elim id (fun z => by omega)) i hi) (fun m _ i hi => absurd hi (Nat.not_lt_zero _))
      have e6 : FX10_ask_101 LF LF 0 τ5 = some (0, tT τ5 2 T) := e6
      have cT : ∀ q i, cellC (tT τ5 2 T) q i = T q i := fun q i => congrFun (congrFun tT_row q) i
      have tc : TabC (Vx (fun q => q < nc) p0 nx) st (tT τ5 2 T) := fun q hq i hi => by rw [cT]; exact g6 q hq i hi
      refine ⟨0, tT τ5 2 T, by rw [← h5]; exact e6, ⟨F5.1, F5.2.1, F5.2.2.1, F5.2.2.2.1, fun j hj => by rw [tT_o hj]; exact F5.2.2.2.2 j hj⟩, v101, rfl, v9, v10, fun q hq i hi => tc q (Or.inl hq) i hi, nx, q, ⟨hp, y4, y5, v12, v13, v11, y7, by rw [show ntC (tT τ5 2 T) = ntC τ5 from rfl, nt5]; exact w1, fun q hq => bd5 q hq, tc⟩, ?_⟩
      rw [show ntC (tT τ5 2 T) = ntC τ5 from rfl, nt5]; exact y8
/-- what the reference makes of a question -/
def AsM (fr nm : Nat) (σ : MS) (t : Tk) (r : Rs) (err : Int32) (σ1 : MS) : Prop := FrQM nm σ σ1 ∧ σ1.1 2 = 0 ∧ match r with
  | (k', none) => err = 1 ∧ σ1.1 3 = t.2.1 k' ∧ σ1.1 28 = σ.1 28 ∧ σ1.1 40 = σ.1 40 ∧ FrQM fr σ σ1
  | (_, some (.error e)) => err = e.1 ∧ σ1.1 3 = e.2 ∧ σ1.1 28 = σ.1 28 ∧ σ1.1 40 = σ.1 40 ∧ FrQM fr σ σ1
  | (_, some (.ok D)) => err = 0 ∧ σ1.1 3 = -1 ∧ ∃ na qm, AskM nm na qm σ1 ∧ dnV (ntM σ1) qm = D.1
theorem FrQM.le {n n' : Nat} (h : FrQM n σ σ1) (hn : n' ≤ n) : FrQM n' σ σ1 := ⟨h.1, h.2.1, fun j q a b d => h.2.2.1 j q a b (by omega), h.2.2.2⟩
theorem rAsk {r : Rs} (hkw : kwOK kw) (h : RelW kw len E nm nc st ks km σ τ) (hr : qst (cxE (tkT kw (τ.2.2.1 3) len) (.ok E)) = some r) (hfr : (σ.1 28 = -1 ∧ fr = nm) ∨ (¬ σ.1 28 = -1 ∧ σ.1 40 = nI fr)) (hf1 : nm ≤ fr) (hf2 : fr ≤ nm + 400) : (∃ err σ1, FX11_ask LF σ = some (err, σ1) ∧ AsM fr nm σ (tkT kw (τ.2.2.1 3) len) r err σ1 ∧ σ1.1 0 = 0) ∧ NumOK (cxE (tkT kw (τ.2.2.1 3) len) (.ok E)) := by
  obtain ⟨⟨t1, t2, t3, t4, t5, t6⟩, ⟨p1, p2, p3, p4, ⟨p5, p6, p7, p8⟩, ⟨p9, q1, q2, q3⟩, q4, q5⟩, ⟨x1, x2, x3, x4, x5, x6, x7⟩, hK, hM, hC, hA⟩ := h
  generalize hbt : τ.2.2.1 3 = bt at *
  obtain ⟨σ1, e1, f1, tk1⟩ := rScn (kw := kw) (σ := sI (sI σ 0 0) 3 (-1)) t4 (by rw [sI_o (by decide), sI_o (by decide)]; exact t2) t5
  have hT : TkE kw bt len 5000 (cxE (tkT kw bt len) (.ok E)) σ1 := tkE_all hkw t4 tk1 (.ok E)
  have hk0 : Rk (tkT kw bt len).1 0 := ⟨by decide, fun j hj => absurd hj (Nat.not_lt_zero _)⟩
  have hN : NumOK (cxE (tkT kw bt len) (.ok E)) := fun k hk h52 => by
    obtain ⟨v, hv, -, hw, -⟩ := rNum hT hk h52
    exact ⟨v, hv, hw⟩
  refine ⟨?_, hN⟩
  have i1 : ∀ j, j ≠ 0 → j ≠ 3 → σ1.1 j = σ.1 j := fun j a b => by rw [f1.1, sI_o b, sI_o a]
  have i0 : σ1.1 0 = 0 := by rw [f1.1, sI_o (by decide), sI_g]
  have i3 : σ1.1 3 = -1 := by rw [f1.1, sI_g]
  have r1 : ∀ j, j ≠ 4 → j ≠ 5 → j ≠ 6 → σ1.2.1 j = σ.2.1 j := f1.2.1
  have l1 : σ1.2.2 = σ.2.2 := f1.2.2
  have nt1 : ntM σ1 = ntM σ := by
    unfold ntM
    rw [r1 9 (by decide) (by decide) (by decide), r1 10 (by decide) (by decide) (by decide), r1 11 (by decide) (by decide) (by decide), r1 12 (by decide) (by decide) (by decide), r1 13 (by decide) (by decide) (by decide), r1 14 (by decide) (by decide) (by decide)]
  have form := (formOK hT 700 0 0 (by decide) hk0).1
  -- behind an error of form at a token
  have bad : ∀ k', Rk (tkT kw bt len).1 k' → ∃ σ', FX11_ask_43 LF (aM σ1 k') = some (1, σ') ∧ FrQM fr σ σ' ∧ σ'.1 2 = 0 ∧ σ'.1 3 = (tkT kw bt len).2.1 k' ∧ σ'.1 28 = σ.1 28 ∧ σ'.1 40 = σ.1 40 ∧ σ'.1 0 = 0 := by
    intro k' hk'
    have hTa : TkE kw bt len 5000 (cxE (tkT kw bt len) (.ok E)) (aM σ1 k') := hT.frN (FrN.refl.int (Or.inr rfl))
    have end' : ∀ y : Int32, ∃ σ', FX11_ask_77 LF 1 y (sI (sI (aM σ1 k') 3 ((tkT kw bt len).2.1 k')) 7 0) = some (1, σ') ∧ FrQM fr σ σ' ∧ σ'.1 2 = 0 ∧ σ'.1 3 = (tkT kw bt len).2.1 k' ∧ σ'.1 28 = σ.1 28 ∧ σ'.1 40 = σ.1 40 ∧ σ'.1 0 = 0 := by
      intro y
      rw [FX11_ask_77, if_neg (by decide), FX11_ask_92, if_neg (by decide)]
      refine ⟨_, rfl, ⟨fun j b1 b2 b3 b4 b5 b6 b7 b8 b9 c1 => ?_, fun j b1 b2 b3 b4 => r1 j b2 b3 b4, fun j q b1 b2 b3 => by rw [show (sI (sI (sI (sI (aM σ1 k') 3 ((tkT kw bt len).2.1 k')) 7 0) 8 y) 2 0).2.1 = σ1.2.1 from rfl, r1 j (by omega) (by omega) (by omega)], l1⟩, sI_g, ?_, ?_, ?_, ?_⟩
      · rw [sI_o b2, sI_o b5, sI_o b4, sI_o b3]
        show (sI σ1 7 (nI k')).1 j = _
        rw [sI_o b4]; exact i1 j b1 b3
      · rw [sI_o (by decide), sI_o (by decide), sI_o (by decide), sI_g]
      · rw [sI_o (by decide), sI_o (by decide), sI_o (by decide), sI_o (by decide)]
        show (sI σ1 7 (nI k')).1 28 = _
        rw [sI_o (by decide)]; exact i1 28 (by decide) (by decide)
      · rw [sI_o (by decide), sI_o (by decide), sI_o (by decide), sI_o (by decide)]
        show (sI σ1 7 (nI k')).1 40 = _
        rw [sI_o (by decide)]; exact i1 40 (by decide) (by decide)
      · rw [sI_o (by decide), sI_o (by decide), sI_o (by decide), sI_o (by decide)]
        show (sI σ1 7 (nI k')).1 0 = _
        rw [sI_o (by decide)]; exact i0
    rw [FX11_ask_43, aM_7, rWr hTa hk', b2r, FX11_ask_52]
    by_cases z : (sI (aM σ1 k') 3 ((cxE (tkT kw bt len) (.ok E)).2.1 k')).1 28 = -1
    · rw [if_pos z]; exact end' _
    · rw [if_neg z]; exact end' _
  have head : FX11_ask LF σ = (b2 (FSC1 5000 700 0 (nI 0) 0 0 (aM σ1 0)) fun r_2 σ_2 => if r_2 = 0 then FX11_ask_43 LF σ_2 else if ((σ_2.1 7) < 0 ∨ 1801 ≤ (σ_2.1 7).toNatClampNeg) then none else if (σ_2.2.1 4 (σ_2.1 7).toNatClampNeg) = 0 then FX11_ask_52 LF (0 : Int32) σ_2 else FX11_ask_43 LF σ_2) := by
    rw [FX11_ask, e1, b2r]; rfl
  rw [qst] at hr
  rcases rbI hr with ⟨k1, h1, rfl⟩ | ⟨k1, mm, h1, h2⟩
  · obtain ⟨g1, g2⟩ := form _ h1
    obtain ⟨σ', b1, b2', b3, b4, b5, b6, b7⟩ := bad k1 g2
    rw [head, g1, b2r, if_pos (show bI (Option.isSome (none : Option MV)) = 0 from rfl), b1]
    exact ⟨1, σ', rfl, ⟨b2'.le hf1, b3, rfl, b4, b5, b6, b2'⟩, b7⟩
  · obtain ⟨g1, g2⟩ := form _ h1
    have g2 : Rk (tkT kw bt len).1 k1 := g2
    have hTa : TkE kw bt len 5000 (cxE (tkT kw bt len) (.ok E)) (aM σ1 k1) := hT.frN (FrN.refl.int (Or.inr rfl))
    rw [head, g1, b2r, if_neg (show ¬ bI (Option.isSome (some mm)) = 0 by show ¬ (1 : Int32) = 0; decide)]
    show ∃ err σ', (if ((aM σ1 k1).1 7 < 0 ∨ 1801 ≤ ((aM σ1 k1).1 7).toNatClampNeg) then none else if ((aM σ1 k1).2.1 4 ((aM σ1 k1).1 7).toNatClampNeg) = 0 then FX11_ask_52 LF (0 : Int32) (aM σ1 k1) else FX11_ask_43 LF (aM σ1 k1)) = some (err, σ') ∧ _
    rw [aM_7, if_neg (kin (c := cxE (tkT kw bt len) (.ok E)) g2), kcl (c := cxE (tkT kw bt len) (.ok E)) g2]
    by_cases z : (tkT kw bt len).1 k1 = 53
    · have h2 : (if (tkT kw bt len).1 k1 = 53 then some (k1, some mm) else some (k1, none)) = some r := h2
      rw [if_pos z] at h2
      obtain rfl := Option.some.inj h2
      rw [if_pos ((rK0 hTa g2).mpr z)]
      -- the second reading
      have hx : ∃ σs, σs = sI (aM σ1 0) 8 (nI fr) := ⟨_, rfl⟩
      obtain ⟨σs, hσs⟩ := hx
      have s52 : FX11_ask_52 LF 0 (aM σ1 k1) = b2 (FSC2 LF dSC2 0 0 0 0 σs) fun r_9 σ_9 => FX11_ask_92 LF r_9 (nI fr) σ_9 := by
        have w0 : sI (aM σ1 k1) 7 0 = aM σ1 0 := aM_aM (j := 0)
        have i28 : (aM σ1 k1).1 28 = σ.1 28 := by
          show (sI σ1 7 (nI k1)).1 28 = _
          rw [sI_o (by decide)]; exact i1 28 (by decide) (by decide)
        have i27 : (aM σ1 k1).1 27 = nI nm := by
          show (sI σ1 7 (nI k1)).1 27 = _
          rw [sI_o (by decide), i1 27 (by decide) (by decide)]; exact p5
        have i40 : (aM σ1 k1).1 40 = σ.1 40 := by
          show (sI σ1 7 (nI k1)).1 40 = _
          rw [sI_o (by decide)]; exact i1 40 (by decide) (by decide)
        rw [FX11_ask_52, i28, i27, i40, w0]
        rcases hfr with ⟨a1, a2⟩ | ⟨a1, a2⟩
        · rw [if_pos a1, FX11_ask_77, if_pos rfl, hσs, a2]
        · rw [if_neg a1, FX11_ask_77, if_pos rfl, hσs, a2]
      have js : ∀ j, j ≠ 0 → j ≠ 3 → j ≠ 7 → j ≠ 8 → σs.1 j = σ.1 j := fun j a b d e => by
        rw [hσs, sI_o e]
        show (sI σ1 7 (nI 0)).1 j = _
        rw [sI_o d]; exact i1 j a b
      have js8 : σs.1 8 = nI fr := by rw [hσs, sI_g]
      have js7 : σs.1 7 = nI 0 := by rw [hσs, sI_o (by decide)]; exact sI_g
      have js3 : σs.1 3 = -1 := by
        rw [hσs, sI_o (by decide)]
        show (sI σ1 7 (nI 0)).1 3 = _
        rw [sI_o (by decide)]; exact i3
      have js0 : σs.1 0 = 0 := by
        rw [hσs, sI_o (by decide)]
        show (sI σ1 7 (nI 0)).1 0 = _
        rw [sI_o (by decide)]; exact i0
      have ss : σs.2 = σ1.2 := by rw [hσs]; rfl
      have nts : ntM σs = ntM σ := by
        have : ntM σs = ntM σ1 := by unfold ntM; rw [ss]
        rw [this, nt1]
      have Fs : FrQM 2000 σ σs := ⟨fun j b1 b2 b3 b4 b5 b6 b7 b8 b9 c1 => js j b1 b3 b4 b5, fun j b1 b2 b3 b4 => by rw [ss]; exact r1 j b2 b3 b4, fun j q b1 b2 _ => by rw [ss, r1 j (by omega) (by omega) (by omega)], by rw [ss]; exact l1⟩
      have hTs : TkE kw bt len 5000 (cxE (tkT kw bt len) (.ok E)) σs := by
        obtain ⟨a1, a2, a3, a4, a5, ⟨a6, a7⟩, a8⟩ := hT
        exact ⟨a1, a2, a3, a4, a5, ⟨by rw [ss]; exact a6, fun k hk => by rw [ss]; exact a7 k hk⟩, a8⟩
      have Rs' : RefE E nm σs := p3.tr p7 (by omega) Fs
      have gm := Rs'.gm p1 hTs (by rw [nts]; exact p7) (show (cxE (tkT kw bt len) (.ok E)).2.2.2 = gmE E from rfl)
      have up : ∀ {s : MS}, FrM σs fr s → FrM σs nm s := fun {s} hs => ⟨hs.1, hs.2.1, fun j q hq => hs.2.2.1 j q (by omega), hs.2.2.2⟩
      have gm' : GM (cxE (tkT kw bt len) (.ok E)) σs (fun q => q < nm) fr 5000 := by
        refine ⟨gm.1, fun k hk h51 => ⟨fun e s hs => (gm.2 k hk h51).1 e s (up hs), fun s n D e => ?_⟩⟩
        obtain ⟨j, sn, mm, b1, b2, b3⟩ := (gm.2 k hk h51).2 s n D e
        exact ⟨j, sn, mm, b1, fun s hs => b2 s (up hs), b3⟩
      have hct : CtM kw bt len (cxE (tkT kw bt len) (.ok E)) σs (fun q => q < nm) fr 5000 := ⟨hTs, by omega, fun q hq => by have hq : q < nm := hq; omega, gm'⟩
      have hV : ∀ q, Vx (fun q => q < nm) fr fr q → q < nm := fun q hq => hq.elim id (fun z => by omega)
      have hS : SM (cxE (tkT kw bt len) (.ok E)) σs (fun q => q < nm) fr fr 0 σs := by
        refine ⟨FrM.refl, js7, hk0, ⟨js8, Nat.le_refl _, fun n hn => ?_, fun q hq => ?_⟩, by omega, rfl⟩
        · rw [nts]
          exact ⟨(p7 n (hV n hn)).1, (p7 n (hV n hn)).2.mono (fun m hm => Or.inl hm)⟩
        · rw [nts]; exact p8 q (hV q hq)
      obtain ⟨err, σ4, e4, P⟩ := (meanOK hct 700).1 0 0 fr σs 700 (by decide) (by decide) hS k1 mm h1
      have e4 : FSC2 LF dSC2 0 0 0 0 σs = some (err, σ4) := e4
      rw [s52, e4, b2r]
      cases mm with
      | error e =>
        obtain ⟨y1, y2, y3, y4⟩ := P
        rw [FX11_ask_92, if_neg (by rw [y1]; exact y2)]
        have FF : FrQM fr σ (sI σ4 2 0) := by
          refine ⟨fun j b1 b2 b3 b4 b5 b6 b7 b8 b9 c1 => ?_, fun j b1 b2 b3 b4 => ?_, fun j q b1 b2 b3 => ?_, ?_⟩
          · rw [sI_o b2, y4.1 j b3 b4 b5 b6 b8 b9]; exact js j b1 b3 b4 b5
          · exact (y4.2.1 j b1).trans (Fs.2.1 j b1 b2 b3 b4)
          · exact (y4.2.2.1 j q b3).trans (Fs.2.2.1 j q b1 b2 (by omega))
          · exact y4.2.2.2.trans Fs.2.2.2
        refine ⟨err, sI σ4 2 0, rfl, ⟨FF.le hf1, sI_g, y1, ?_, ?_, ?_, FF⟩, ?_⟩
        · rw [sI_o (by decide)]; exact y3
        · rw [sI_o (by decide), y4.1 28 (by decide) (by decide) (by decide) (by decide) (by decide) (by decide)]; exact js 28 (by decide) (by decide) (by decide) (by decide)
        · rw [sI_o (by decide), y4.1 40 (by decide) (by decide) (by decide) (by decide) (by decide) (by decide)]; exact js 40 (by decide) (by decide) (by decide) (by decide)
        · rw [sI_o (by decide), y4.1 0 (by decide) (by decide) (by decide) (by decide) (by decide) (by decide)]; exact js0
      | ok D =>
        obtain ⟨y1, nx, y2, y3, S4, ⟨⟨q, w1, w2, w3, w4⟩, q', w5, w6, w7⟩, y5⟩ := P
        obtain ⟨u1, u2, u3, ⟨u4, u5, u6, u7⟩, u8, u9⟩ := id S4
        have nx4 := S4.nx4
        have hq2 : q < 2000 := (u6 q w2).1
        have eqq : q = q' := (nI_eq (by omega) (by omega)).mp (w1.symm.trans w5)
        subst eqq
        have hqn : q < nx := w2.elim (fun z => by have z : q < nm := z; omega) (fun z => z.2)
        subst y1
        have i27 : (sI σ4 2 0).1 27 = nI nm := by
          rw [sI_o (by decide), u1.1 27 (by decide) (by decide) (by decide) (by decide) (by decide) (by decide), js 27 (by decide) (by decide) (by decide) (by decide)]; exact p5
        have eby : nI fr - nI nm = nI (fr - nm) := nI_sub hf1
        obtain ⟨σ5, e5, M5⟩ := rMoveL (σ0 := sI σ4 2 0) (pn := nm) (by' := fr - nm) (fr := fr) (nx := nx) (L := 5000) (by omega) (by omega) (by rw [sI_o (by decide)]; exact u4) rfl (nx - fr) 0 5000 (sI σ4 2 0) (by omega) (by omega) ⟨rfl, fun _ _ => rfl, fun j q _ _ => by rw [if_neg (by omega)], rfl⟩
        have e5 : FX11_moveQuestion LF (nI fr) (sI σ4 2 0) = some ((sI σ4 2 0).1 17 - nI (fr - nm), sI σ5 8 (nI nx - nI (fr - nm))) := by
          rw [FX11_moveQuestion, i27, eby]; exact e5
        obtain ⟨v1, v2, v3⟩ := moved (σ0 := sI σ4 2 0) (σ1 := σ5) (pn := nm) (by' := fr - nm) (fr := fr) (nx := nx) (by omega) u5 (by omega) u6 u7 M5
        obtain ⟨m1, m2, m3, m4⟩ := M5
        have e17 : (sI σ4 2 0).1 17 - nI (fr - nm) = nI (q - (fr - nm)) := by
          rw [sI_o (by decide), w1, nI_sub (by omega)]
        have e8 : nI nx - nI (fr - nm) = nI (nm + (nx - fr)) := by
          rw [nI_sub (by omega)]; congr 1; omega
        rw [FX11_ask_92, if_pos rfl, e5, b2r, e17, e8, sI_g]
        have j5 : ∀ j, j ≠ 2 → j ≠ 8 → j ≠ 28 → j ≠ 40 → (sI (sI (sI σ5 8 (nI (nm + (nx - fr)))) 28 (nI (q - (fr - nm)))) 40 (nI (nm + (nx - fr)))).1 j = σ4.1 j := fun j b1 b2 b3 b4 => by
          rw [sI_o b4, sI_o b3, sI_o b2, m1, sI_o b1]
        have FF : FrQM nm σ (sI (sI (sI σ5 8 (nI (nm + (nx - fr)))) 28 (nI (q - (fr - nm)))) 40 (nI (nm + (nx - fr)))) := by
          refine ⟨fun j b1 b2 b3 b4 b5 b6 b7 b8 b9 c1 => ?_, fun j b1 b2 b3 b4 => ?_, fun j q b1 b2 b3 => ?_, ?_⟩
          · rw [j5 j b2 b5 b7 c1, u1.1 j b3 b4 b5 b6 b8 b9]; exact js j b1 b3 b4 b5
          · exact (m2 j b1).trans ((u1.2.1 j b1).trans (Fs.2.1 j b1 b2 b3 b4))
          · show σ5.2.1 j q = _
            rw [m3 j q b1 b2, if_neg (by omega)]
            exact (u1.2.2.1 j q (by omega)).trans (Fs.2.2.1 j q b1 b2 (by omega))
          · exact m4.trans (u1.2.2.2.trans Fs.2.2.2)
        refine ⟨0, _, rfl, ⟨FF, ?_, rfl, ?_, nm + (nx - fr), q - (fr - nm), ⟨by omega, by omega, ?_, ?_, by omega, v1, v2⟩, ?_⟩, ?_⟩
        · rw [sI_o (by decide), sI_o (by decide), sI_o (by decide), m1, sI_g]
        · rw [j5 3 (by decide) (by decide) (by decide) (by decide), u9]; exact js3
        · rw [sI_o (by decide), sI_g]
        · rw [sI_g]
        · exact (v3 q w6 hqn).trans w3
        · rw [j5 0 (by decide) (by decide) (by decide) (by decide), u1.1 0 (by decide) (by decide) (by decide) (by decide) (by decide) (by decide)]; exact js0
    · have h2 : (if (tkT kw bt len).1 k1 = 53 then some (k1, some mm) else some (k1, none)) = some r := h2
      rw [if_neg z] at h2
      obtain rfl := Option.some.inj h2
      obtain ⟨σ', b1, b2', b3, b4, b5, b6, b7⟩ := bad k1 g2
      rw [if_neg (fun y => z ((rK0 hTa g2).mp y)), b1]
      exact ⟨1, σ', rfl, ⟨b2'.le hf1, b3, rfl, b4, b5, b6, b2'⟩, b7⟩
theorem ok_ask (hkw : kwOK kw) : OK_ask (Rel kw) := by
  intro σ τ h
  obtain ⟨len, E, nm, nc, st, ks, km, hW⟩ := id h
  obtain ⟨hT, hP, hH, hK, hM, hC, hA⟩ := id hW
  have nc400 : nc ≤ 400 := hP.2.2.2.2.2.1.2.1
  have nm400 : nm ≤ 400 := hP.2.2.2.2.1.2.1
  obtain ⟨r, hr, -⟩ := qst_tot (c := cxE (tkT kw (τ.2.2.1 3) len) (.ok E))
  -- where the reference reads, and where the class reads
  have hfr : ∃ fr, ((σ.1 28 = -1 ∧ fr = nm) ∨ (¬ σ.1 28 = -1 ∧ σ.1 40 = nI fr)) ∧ nm ≤ fr ∧ fr ≤ nm + 400 ∧ ∀ na qm, AskM nm na qm σ → na = fr := by
    rcases hA with ⟨a1, a2, a3⟩ | ⟨a0, p0, ne, qc, na, qm, b, ⟨d1, d2, d3, d4, d5, d6, d7⟩, e⟩
    · refine ⟨nm, Or.inl ⟨a1, rfl⟩, Nat.le_refl _, by omega, fun na qm hq => ?_⟩
      obtain ⟨d1, d2, d3, d4, d5, d6, d7⟩ := hq
      have := (d6 qm d5).1
      rw [a1] at d3
      exact absurd d3.symm (nI_n1 (by omega))
    · have := (d6 qm d5).1
      refine ⟨na, Or.inr ⟨by rw [d3]; exact nI_n1 (by omega), d4⟩, d1, d2, fun na' qm' hq => ?_⟩
      obtain ⟨d1', d2', d3', d4', d5', d6', d7'⟩ := hq
      rw [d4] at d4'
      exact ((nI_eq (by omega) (by omega)).mp d4').symm
  obtain ⟨fr, hf, hf1, hf2, hf3⟩ := hfr
  obtain ⟨⟨err, σ1, e1, g1, -⟩, hN⟩ := rAsk hkw hW hr hf hf1 hf2
  have hp : ∃ p0, (p0 = 400 ∨ p0 = 800) ∧ FX10_ask LF τ = FX10_ask_19 LF (nI p0) τ ∧ ∀ p, (p = 400 ∨ p = 800) → τ.1 12 = nI p → p ≠ p0 := by
    have e12 : τ.1 12 = nI 400 ∨ τ.1 12 = nI 800 := by
      rcases hA with hA | ⟨-, p0, ne, qc, na, qm, hq, -⟩
      · exact hA.2.2
      · rw [hq.2.2.2.1]
        rcases hq.1 with z | z
        · left; rw [z]
        · right; rw [z]
    rcases e12 with z | z
    · refine ⟨800, Or.inr rfl, ?_, fun p hp' e => ?_⟩
      · rw [FX10_ask, if_pos (by rw [z]; decide)]; rfl
      · rw [z, nI_eq (by decide) (by omega)] at e; omega
    · refine ⟨400, Or.inl rfl, ?_, fun p hp' e => ?_⟩
      · rw [FX10_ask, if_neg (by rw [z]; decide)]; rfl
      · rw [z, nI_eq (by decide) (by omega)] at e; omega
  obtain ⟨p0, hp1, hp2, hp3⟩ := hp
  obtain ⟨err2, τ1, e2, g2⟩ := cAsk hW hN hr hp1
  obtain ⟨m1, m2, m3⟩ := g1
  obtain ⟨c1, c2, c3⟩ := g2
  have hncp : nc ≤ p0 := by omega
  -- where the question has an error, the one before stays
  have keep : FrQM fr σ σ1 → σ1.1 28 = σ.1 28 → σ1.1 40 = σ.1 40 → (∀ j, j = 10 ∨ j = 11 ∨ j = 12 ∨ j = 13 → τ1.1 j = τ.1 j) → τ1.2.2.2.2 2 = τ.2.2.2.2 2 → TabC (fun q => q < nc) st τ1 ∧ (AskNo σ1 τ1 ∨ AskYes nm nc st σ1 τ1) := by
    intro f i28 i40 ij t2
    refine ⟨hC.tr hP.2.2.2.2.2.1.2.2.1 c1 (fun q hq => Or.inl (by have hq : q < nc := hq; omega)) t2, ?_⟩
    rcases hA with ⟨a1, a2, a3⟩ | ⟨a0, p, ne, qc, na, qm, ⟨b1, b2', b3, b4, b5, b6, b7, b8, b9, b10⟩, hM', e⟩
    · exact Or.inl ⟨by rw [i28]; exact a1, by rw [ij 10 (by decide)]; exact a2, by rw [ij 12 (by decide)]; exact a3⟩
    · have hna := hf3 na qm hM'
      obtain ⟨d1, d2, d3, d4, d5, d6, d7⟩ := hM'
      have hpp := hp3 p b1 b4
      have hV : ∀ q, Vx (fun q => q < nc) p ne q → q < p0 ∨ p0 + 400 ≤ q := fun q hq => hq.elim (fun z => Or.inl (by have z : q < nc := z; omega)) (fun z => by omega)
      refine Or.inr ⟨by rw [ij 10 (by decide)]; exact a0, p, ne, qc, na, qm, ⟨b1, b2', b3, by rw [ij 12 (by decide)]; exact b4, by rw [ij 13 (by decide)]; exact b5, by rw [ij 11 (by decide)]; exact b6, b7, b8.tr (fun n hn => c1.nt (hV n hn)), fun q hq => c1.bd (hV q hq) (b9 q hq), b10.tr b8 c1 hV t2⟩, ⟨d1, d2, by rw [i28]; exact d3, by rw [i40]; exact d4, d5, d6.tr (fun n hn => f.nt (by have hn : n < na := hn; omega)), fun q hq => by rw [f.nt (by omega)]; exact d7 q hq⟩, ?_⟩
      rw [dnV_table d6 (fun n hn => f.nt (by have hn : n < na := hn; omega)) d5, e]
      exact (dnV_table b8 (fun n hn => c1.nt (hV n hn)) b7).symm
  obtain ⟨k', o⟩ := r
  rw [hp2]
  cases o with
  | none =>
    obtain ⟨y1, y2, y3, y4, y5⟩ := m3
    obtain ⟨z1, z2, z3, z4⟩ := c3
    obtain ⟨w1, w2⟩ := keep y5 y3 y4 z3 z4
    exact ⟨err2, τ1, σ1, e2, by rw [z1, ← y1]; exact e1, 0, E, nm, nc, st, ks, km, hW.ask m1 c1 hncp m2 c2 (y2.trans z2.symm) w1 w2⟩
  | some X =>
    cases X with
    | error e =>
      obtain ⟨y1, y2, y3, y4, y5⟩ := m3
      obtain ⟨z1, z2, z3, z4⟩ := c3
      obtain ⟨w1, w2⟩ := keep y5 y3 y4 z3 z4
      exact ⟨err2, τ1, σ1, e2, by rw [z1, ← y1]; exact e1, 0, E, nm, nc, st, ks, km, hW.ask m1 c1 hncp m2 c2 (y2.trans z2.symm) w1 w2⟩
    | ok D =>
      obtain ⟨y1, y2, na, qm, y3, y4⟩ := m3
      obtain ⟨z1, z2, z3, z4, ne, qc, z5, z6⟩ := c3
      exact ⟨err2, τ1, σ1, e2, by rw [z1, ← y1]; exact e1, 0, E, nm, nc, st, ks, km, hW.ask m1 c1 hncp m2 c2 (y2.trans z2.symm) z4 (Or.inr ⟨z3, p0, ne, qc, na, qm, z5, y3, y4.trans z6.symm⟩)⟩
end AK
