-- the reference compiles a tape
section RT
variable {σ00 σ0 σ σ1 σ2 σ3 : MS} {L len k nx : Nat} {kw : Nat → Int64} {bt : Nat → Int32} {E : EnvN}
/-- the tokens after a scan -/
theorem rScn (hok : okBt bt len) (h2 : σ.1 2 = nI len) (h1 : σ.2.1 1 = bt) : ∃ σ', FX11_scan 5000 σ = some ((), σ') ∧ FrS σ σ' ∧ TKR bt len (tkS kw bt len) σ' := by
  obtain ⟨σ', e, f, -, g⟩ := rScan hok len 0 5000 σ (by show 0 + len = len; omega) (Nat.le_refl 0) (by have := hok.1; omega) h2 h1
  refine ⟨σ', e, f, ⟨by rw [f.2.1 1 (by decide) (by decide) (by decide)]; exact h1, fun k hk => ?_⟩⟩
  exact g k (Nat.zero_le k) (fun j _ hj z => (hk.2 j hj).1 (kind0.mp z))
theorem tkE_all (hkw : kwOK kw) (hok : okBt bt len) (hT : TKR bt len (tkS kw bt len) σ) : ∀ X, TkE kw bt len 5000 (cxE (tkT kw bt len) X) σ := fun X => ⟨hkw, hok, rfl, rfl, rfl, hT, by decide⟩
theorem rCompile {r : Ps} (hkw : kwOK kw) (hok : okBt bt len) (h2 : σ.1 2 = nI len) (h1 : σ.2.1 1 = bt) (hr : pgm (tkT kw bt len) 401 (.ok EnvN.none) 0 = some r) : (∃ err σ', FX11_compile 5000 σ = some (err, σ') ∧ CmM σ (tkT kw bt len) r err σ') ∧ ∀ X, NumOK (cxE (tkT kw bt len) X) := by
  obtain ⟨σ1, e1, c1⟩ := rClr (L := 5000) (σ := sI σ 0 0) (by decide)
  obtain ⟨a1, a2, a3, a4, a5, a6, a7, a8, a9, b1⟩ := id c1
  obtain ⟨σ2, e2, f2, t2⟩ := rScn (kw := kw) (σ := sI σ1 3 (-1)) hok (by rw [sI_o (by decide), a1 2 (by decide) (by decide) (by decide) (by decide) (by decide) (by decide), sI_o (by decide)]; exact h2) (by show σ1.2.1 1 = bt; rw [a2 1 (by decide)]; exact h1)
  have hT2 : ∀ X, TkE kw bt len 5000 (cxE (tkT kw bt len) X) σ2 := tkE_all hkw hok t2
  have hk0 : Rk (tkT kw bt len).1 0 := ⟨by decide, fun j hj => absurd hj (Nat.not_lt_zero _)⟩
  obtain ⟨p1, p2⟩ := rProgram hT2 (by decide) 401 5000 (.ok EnvN.none) 0 r (by decide) hk0 hr
  have p1' : FX11_program 5000 (sI σ2 7 0) = some (bI r.2.isSome, aM σ2 r.1) := p1
  have F2 : FrCM σ σ2 := (((FrCM.int (j := 0) (v := 0) (by omega)).trans c1.fr).trans (FrCM.int (j := 3) (by omega))).trans f2.cm
  have z0 : σ2.1 0 = 0 := by rw [f2.1, sI_o (by decide), a1 0 (by decide) (by decide) (by decide) (by decide) (by decide) (by decide), sI_g]
  have z3 : σ2.1 3 = -1 := by rw [f2.1, sI_g]
  have hN : ∀ X, NumOK (cxE (tkT kw bt len) X) := fun X k hk h52 => by
    obtain ⟨v, hv, -, hw, -⟩ := rNum (hT2 X) hk h52
    exact ⟨v, hv, hw⟩
  refine ⟨?_, hN⟩
  rw [FX11_compile, e1, b2r, e2, b2r, p1', b2r]
  obtain ⟨k', o⟩ := r
  have hk' : Rk (tkT kw bt len).1 k' := p2
  have bad : ∀ (e : Int32) (s9 : MS), e ≠ 0 → FrCM σ s9 → s9.1 0 = 0 → ∃ σ', FX11_compile_58 5000 e s9 = some (e, σ') ∧ FrCM σ σ' ∧ σ'.1 0 = 0 ∧ σ'.1 2 = 0 ∧ σ'.1 28 = -1 ∧ σ'.1 29 = 0 ∧ σ'.1 3 = s9.1 3 ∧ σ'.1 18 = 0 ∧ σ'.1 27 = 0 ∧ RefE EnvN.none 0 σ' := fun e s9 he hF h0 => rBadEnd (by decide) he hF h0
  cases o with
  | none =>
    have hTa : TkE kw bt len 5000 (cxE (tkT kw bt len) (.ok EnvN.none)) (aM σ2 k') := (hT2 _).frN (FrN.refl.int (Or.inr rfl))
    show ∃ err σ', (if bI false = 0 then _ else _) = some (err, σ') ∧ _
    rw [if_pos (by decide)]
    show ∃ err σ', (b2 (FX11_wrong 1 ((aM σ2 k').1 7) (aM σ2 k')) fun r_5 σ_5 => FX11_compile_43 5000 r_5 σ_5) = some (err, σ') ∧ _
    rw [aM_7, rWr hTa hk', b2r, FX11_compile_43, if_neg (by decide)]
    obtain ⟨σ', e9, q1, q2, q3, q4, q5, q6, q7, q8, q9⟩ := bad 1 (sI (sI (aM σ2 k') 3 ((tkT kw bt len).2.1 k')) 7 0) (by decide) (((F2.trans (FrCM.int (j := 7) (by omega))).trans (FrCM.int (j := 3) (by omega))).trans (FrCM.int (j := 7) (by omega))) (by rw [sI_o (by decide), sI_o (by decide)]; show (sI σ2 7 (nI k')).1 0 = 0; rw [sI_o (by decide)]; exact z0)
    refine ⟨1, σ', e9, q1, q2, q3, q4, q5, rfl, ?_, q7, q8, q9⟩
    rw [q6, sI_o (by decide), sI_g]
  | some X =>
    show ∃ err σ', (if bI true = 0 then _ else _) = some (err, σ') ∧ _
    rw [if_neg (by decide)]
    show ∃ err σ', FX11_compile_43 5000 0 (aM σ2 k') = some (err, σ') ∧ _
    have w0 : sI (aM σ2 k') 7 0 = aM σ2 0 := aM_aM (j := 0)
    rw [FX11_compile_43, if_pos rfl, w0, FX11_meaning]
    have R2 : RefE EnvN.none 0 σ2 := by
      obtain ⟨n1, n2, n3, n4, n5, n6⟩ := c1.env
      exact ⟨by rw [f2.1, sI_o (by decide)]; exact n1, fun j hj => absurd hj (Nat.not_lt_zero _), fun s hs => by rw [f2.2.1 23 (by decide) (by decide) (by decide)]; exact n3 s hs, fun s i _ _ hi => absurd hi (Nat.not_lt_zero _), fun i hi => absurd hi (Nat.not_lt_zero _), fun i hi => absurd hi (Nat.not_lt_zero _)⟩
    have hP : PSm (aM σ2 0) (tkT kw bt len).1 EnvN.none 0 (aM σ2 0) := by
      refine ⟨FrN.refl, aM_7, hk0, EnvOK.none, 0, ?_, Nat.le_refl 0, fun n hn => absurd hn (Nat.not_lt_zero _), fun q hq => absurd hq (Nat.not_lt_zero _), R2.int (by decide), ?_⟩
      · show (sI σ2 7 (nI 0)).1 8 = nI 0
        rw [sI_o (by decide), f2.1, sI_o (by decide)]; exact a4
      · show (sI σ2 7 (nI 0)).1 3 = -1
        rw [sI_o (by decide)]; exact z3
    have h53 : (tkT kw bt len).1 0 ≠ 53 := by
      intro z
      rw [pgm] at hr
      have : iForm (cxE (tkT kw bt len) (.ok EnvN.none)) 0 = some (0, none) := by
        have z' : (cxE (tkT kw bt len) (.ok EnvN.none)).1 0 = 53 := z
        rw [iForm, z', if_neg (by decide)]
      rw [this] at hr
      cases hr
    have hTa : ∀ X, TkE kw bt len 5000 (cxE (tkT kw bt len) X) (aM σ2 0) := fun X => (hT2 X).frN (FrN.refl.int (Or.inr rfl))
    obtain ⟨err, σ5, e5, P⟩ := rMeaning hTa 401 50 EnvN.none 0 k' X (aM σ2 0) (by decide) hP h53 hr
    rw [e5, b2r]
    have Fa : FrCM σ (aM σ2 0) := F2.trans (FrCM.int (j := 7) (by omega))
    have za : (aM σ2 0).1 0 = 0 := by
      show (sI σ2 7 (nI 0)).1 0 = 0
      rw [sI_o (by decide)]; exact z0
    cases X with
    | error x =>
      obtain ⟨x1, x2, x3, x4⟩ := P
      subst x1
      obtain ⟨σ', e9, q1, q2, q3, q4, q5, q6, q7, q8, q9⟩ := bad x.1 σ5 x2 (Fa.trans x4.cm) (by rw [x4.1 0 (by decide) (by decide) (by decide) (by decide) (by decide) (by decide) (by decide)]; exact za)
      exact ⟨x.1, σ', e9, q1, q2, q3, q4, q5, rfl, x2, by rw [q6]; exact x3, q7, q8, q9⟩
    | ok E =>
      obtain ⟨x1, ⟨y1, y2, y3, y4, nx, y5, y6, y7, y8, y9, y10⟩, x3⟩ := P
      subst x1
      have h8 : E.ct 0 ≤ 8 := y4.2.1 0 (by decide)
      obtain ⟨σ6, e6, c6⟩ := rBegin (L := 5000) (c := E.ct 0) (σ := sI (sI (sI σ5 2 0) 18 1) 27 ((sI σ5 2 0).1 8)) (by decide) h8 (y9.2.2.1 0 (by decide))
      obtain ⟨d1, d2, d3, d4, d5⟩ := id c6
      rw [FX11_compile_58, if_pos rfl, FX11_compile_71, if_pos rfl, FX11_compile_81, if_neg (by decide), e6, b2r]
      have R6 : RefE E nx σ6 := (((y9.int (by decide)).int (by decide)).int (by decide) : RefE E nx (sI (sI (sI σ5 2 0) 18 1) 27 ((sI σ5 2 0).1 8))).bg c6
      have nt : ntM σ6 = ntM σ5 := by unfold ntM; rw [d3]
      refine ⟨0, σ6, rfl, (((Fa.trans y1.cm).trans (FrCM.int (j := 2) (by omega))).trans ((FrCM.int (j := 18) (by omega)).trans (FrCM.int (j := 27) (by omega)))).trans c6.fr, ?_, ?_, ?_, d2, rfl, ?_, ?_, hk'.1, y4, x3, fun i hi => ?_, nx, ?_, y6, by rw [nt]; exact y7, fun q hq => by rw [nt]; exact y8 q hq, R6⟩
      · rw [d1 0 (by decide), sI_o (by decide), sI_o (by decide), sI_o (by decide), y1.1 0 (by decide) (by decide) (by decide) (by decide) (by decide) (by decide) (by decide)]; exact za
      · rw [d1 2 (by decide), sI_o (by decide), sI_o (by decide), sI_g]
      · rw [d1 28 (by decide), sI_o (by decide), sI_o (by decide), sI_o (by decide), y1.1 28 (by decide) (by decide) (by decide) (by decide) (by decide) (by decide) (by decide)]
        show (sI σ2 7 (nI 0)).1 28 = -1
        rw [sI_o (by decide), f2.1, sI_o (by decide)]; exact a8
      · rw [d1 3 (by decide), sI_o (by decide), sI_o (by decide), sI_o (by decide)]; exact y10
      · rw [d1 18 (by decide), sI_o (by decide), sI_g]
      · rw [d5 i hi]; exact y9.2.2.2.2.1 i hi
      · rw [d1 27 (by decide), sI_g, sI_o (by decide)]; exact y5
end RT
