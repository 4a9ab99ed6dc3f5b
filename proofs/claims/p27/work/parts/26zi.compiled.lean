-- compiling, in both
section CK
variable {σ σ1 σ2 : MS} {τ τ1 τ2 : CS} {kw : Nat → Int64} {bt : Nat → Int32} {len nm nc st ks km c m L k : Nat} {E : EnvN}
theorem tkNum (hok : okBt bt len) (h : tkS kw bt len k = 52) : ∃ v, v < 1000000 ∧ tkW bt len k = lN v := by
  have hp := (pC_le hok k).2.2.1
  have hl := hok.1
  obtain ⟨d1, d2, d3, d4, d5⟩ := numD hok hp h
  obtain ⟨r1, r2, -, -⟩ := run_ge (c := cD bt len) cD_out (len - pC bt len k) (pC bt len k) (by omega)
  generalize hp0 : pC bt len k = p at *
  generalize hn : run (cD bt len) len p - p = n at *
  have hb : ∀ i, i < n → bt (p + i) = nI (bt (p + i)).toNatClampNeg ∧ 48 ≤ (bt (p + i)).toNatClampNeg ∧ (bt (p + i)).toNatClampNeg ≤ 57 := fun i hi => by
    obtain ⟨b, e, h1, h2⟩ := d5 i hi
    have : (bt (p + i)).toNatClampNeg = b := by rw [e, nI_clamp (by omega)]
    rw [this]; exact ⟨e, h1, h2⟩
  refine ⟨vN 10 (fun i => (bt (p + i)).toNatClampNeg - 48) n, ?_, ?_⟩
  · exact Nat.lt_of_lt_of_le (vN_lt n (fun i hi => by have := hb i hi; omega)) (pow10 d2)
  · unfold tkW wC
    rw [hp0, d3, if_neg (by decide), hn]
    refine vN_lN (m := 10) n (fun i hi => ?_)
    obtain ⟨b, e, g1, g2⟩ := d5 i hi
    have cl : (bt (p + i)).toNatClampNeg = b := by rw [e, nI_clamp (by omega)]
    show (bt (p + i) - 48).toInt64 = lN ((bt (p + i)).toNatClampNeg - 48)
    rw [cl, e, show (48 : Int32) = nI 48 from rfl, nI_sub g1, nI_l (by omega)]
/-- the level of a watch is no less than 0 -/
theorem iLv_pos {c : Cx} {k' : Nat} {m : MV} (hN : ∀ k, c.1 k = 52 → ∃ v, v < 1000000 ∧ c.2.2.1 k = lN v) (h : iForm c k = some (k', some m)) (h3 : soK (c.1 k) = 3) : ¬ iLv c k < 0 := by
  have n0 : c.1 k ≠ 0 := fun z => by rw [z] at h3; exact absurd h3 (by decide)
  have n1 : c.1 k ≠ 1 := fun z => by rw [z] at h3; exact absurd h3 (by decide)
  have n2 : c.1 k ≠ 2 := fun z => by rw [z] at h3; exact absurd h3 (by decide)
  rw [iForm] at h
  by_cases q : c.1 k = 0 ∨ c.1 k = 1 ∨ c.1 k = 2 ∨ c.1 k = 3
  · rw [if_pos q] at h
    obtain ⟨-, h⟩ := goM h
    obtain ⟨-, -, h⟩ := exM2 h
    obtain ⟨-, -, h⟩ := exM2 h
    rw [iBody, if_neg n0, if_neg n2, if_neg n1] at h
    obtain ⟨k1, m1, e, h⟩ := rbM h
    have e : spX c 700 0 0 (k + 3) = some (k1, some m1) := e
    unfold iLv
    rw [e]
    show ¬ (if c.1 k1 = 4 then nb c (k1 + 1) else 5) < 0
    by_cases z : c.1 k1 = 4
    · rw [if_pos z] at h
      rw [if_pos z]
      obtain ⟨-, h⟩ := goM h
      obtain ⟨h52, -, -⟩ := exM2 h
      obtain ⟨v, hv, hw⟩ := hN _ h52
      unfold nb
      rw [hw, lN_i]
      exact nI_pos (by omega)
    · rw [if_neg z]; decide
  · rw [if_neg q] at h; cases h
theorem pgmLv {t : Tk} (hN : ∀ k, t.1 k = 52 → ∃ v, v < 1000000 ∧ t.2.2 k = lN v) : ∀ (n : Nat) (X : Except En EnvN) (k k' : Nat) (E : EnvN), pgm t n X k = some (k', some (.ok E)) → (∀ E0, X = .ok E0 → LvE E0) → LvE E
  | 0, _, _, _, _, h, _ => by cases h
  | n+1, X, k, k', E, h, hX => by
    rw [pgm] at h
    cases hi : iForm (cxE t X) k with
    | none => rw [hi] at h; cases h
    | some q =>
      obtain ⟨k1, o⟩ := q
      rw [hi] at h
      cases o with
      | none => cases h
      | some m =>
        have h : (if t.1 k1 = 53 then some (k1, some (xEnd t (xAdd t X k m) k1)) else pgm t n (xAdd t X k m) k1) = some (k', some (.ok E)) := h
        have hx : ∀ E1, xAdd t X k m = .ok E1 → LvE E1 := by
          intro E1 e1
          cases X with
          | error e => cases e1
          | ok E0 =>
            have e1 : iAdd E0 (cxE t (.ok E0)) k m = .ok E1 := e1
            unfold iAdd at e1
            cases hp : iPre E0 (cxE t (.ok E0)) k with
            | some e => rw [hp] at e1; cases e1
            | none =>
              rw [hp] at e1
              cases m with
              | error e => cases e1
              | ok D =>
                have e1 := Except.ok.inj e1
                subst e1
                have l0 := hX E0 rfl
                intro i
                show ¬ (if soK ((cxE t (.ok E0)).1 k) = 3 then eUp E0.lv (E0.ct 3) (iLv (cxE t (.ok E0)) k) else E0.lv) i < 0
                by_cases s3 : soK ((cxE t (.ok E0)).1 k) = 3
                · rw [if_pos s3]
                  by_cases zi : i = E0.ct 3
                  · rw [zi, eUp_s]; exact iLv_pos hN hi s3
                  · rw [eUp_n zi]; exact l0 i
                · rw [if_neg s3]; exact l0 i
        by_cases z : t.1 k1 = 53
        · rw [if_pos z] at h
          have e := Option.some.inj (Prod.ext_iff.mp (Option.some.inj h)).2
          have e : xEnd t (xAdd t X k m) k1 = .ok E := e
          cases hxa : xAdd t X k m with
          | error e2 => rw [hxa] at e; cases e
          | ok E1 =>
            rw [hxa] at e
            have e : (if E1.ct 3 = 0 then .error (6, t.2.1 k1) else .ok E1 : Except En EnvN) = .ok E := e
            by_cases z3 : E1.ct 3 = 0
            · rw [if_pos z3] at e; cases e
            · rw [if_neg z3] at e
              have := Except.ok.inj e
              subst this
              exact hx E1 hxa
        · rw [if_neg z] at h
          exact pgmLv hN n _ k1 k' E h hx
/-- what compiling leaves in the relation -/
theorem relCm {E' : EnvN} {nm' nc' : Nat} (h : RelW kw len E nm nc st ks km σ τ) (fC : FrCC τ τ1) (fM : FrCM σ σ1) (hP : RProg E' nm' nc' σ1 τ1) (h10 : τ1.1 10 = 0) (h101 : τ1.1 101 = 0) (h44 : τ1.1 4402 = 0) (h2 : σ1.1 2 = 0) (h28 : σ1.1 28 = -1) (h29 : σ1.1 29 = 0) (h3 : σ1.1 3 = τ1.1 9) (hset : ∀ k, k < E'.ct 0 → σ1.2.2 32 k = τ1.2.2.2.1 58 k) : RelW kw 0 E' nm' nc' 0 ks km σ1 τ1 := by
  obtain ⟨⟨t1, t2, t3, t4, t5, t6⟩, -, ⟨x1, x2, x3, x4, x5, x6, x7⟩, ⟨k1, k2, k3, k4, k5, k6, k7, k8, k9⟩, -, -, hA⟩ := h
  obtain ⟨a1, a2, a3, a4, a5⟩ := id fC
  obtain ⟨m1, m2, m3⟩ := id fM
  have r : ∀ j, nNR j → j ≠ 8 → j ≠ 10 → j ≠ 32 → j ≠ 34 → j ≠ 36 → j ≠ 38 → j ≠ 42 → τ1.2.2.1 j = τ.2.2.1 j := a3
  have r3 : τ1.2.2.1 3 = τ.2.2.1 3 := r 3 (by unfold nNR; decide) (by decide) (by decide) (by decide) (by decide) (by decide) (by decide) (by decide)
  have r51 : τ1.2.2.1 51 = τ.2.2.1 51 := r 51 (nNRd (by decide)) (by decide) (by decide) (by decide) (by decide) (by decide) (by decide) (by decide)
  have s1 : σ1.2.1 1 = σ.2.1 1 := m2 1 (by decide) (by decide) (by decide) (by decide) (by decide) (by decide) (by decide) (by decide) (by decide)
  have s35 : σ1.2.1 35 = σ.2.1 35 := m2 35 (by decide) (by decide) (by decide) (by decide) (by decide) (by decide) (by decide) (by decide) (by decide)
  have i12 : τ1.1 12 = τ.1 12 := a1 12 (by decide) (by decide) (by decide) (by decide) (by decide) (by decide) (by decide) (by decide) (by decide) (by decide) (by decide) (by decide)
  refine ⟨⟨by rw [a4 6 (by decide) (by decide) (by decide) (by decide)]; exact t1, h2, h101, ⟨Nat.zero_le _, fun k hk => absurd hk (Nat.not_lt_zero _)⟩, by rw [s1, r3]; exact t5, h3⟩, hP, ⟨Nat.zero_le _, h29, h44, TmOK.zero, fun i hi => absurd hi (Nat.not_lt_zero _), fun k i hk hi => by rw [m3 31 (by decide) (by decide) (by decide), a5]; exact x6 k i hk hi, hset⟩, ⟨k1, k2, ?_, ?_, ?_, ?_, by rw [r51]; exact k7, fun i hi => by rw [s35, r51]; exact k8 i hi, fun k i hk hi => by rw [m3 36 (by decide) (by decide) (by decide), a5]; exact k9 k i hk hi⟩, fun q _ i hi => absurd hi (Nat.not_lt_zero _), fun q _ i hi => absurd hi (Nat.not_lt_zero _), Or.inl ⟨h28, h10, ?_⟩⟩
  · rw [m1 33 (by decide) (by decide) (by decide) (by decide) (by decide) (by decide) (by decide) (by decide) (by decide) (by decide) (by decide) (by decide) (by decide)]; exact k3
  · rw [a1 4902 (by decide) (by decide) (by decide) (by decide) (by decide) (by decide) (by decide) (by decide) (by decide) (by decide) (by decide) (by decide)]; exact k4
  · rw [m1 34 (by decide) (by decide) (by decide) (by decide) (by decide) (by decide) (by decide) (by decide) (by decide) (by decide) (by decide) (by decide) (by decide)]; exact k5
  · rw [a1 4903 (by decide) (by decide) (by decide) (by decide) (by decide) (by decide) (by decide) (by decide) (by decide) (by decide) (by decide) (by decide)]; exact k6
  · rw [i12]
    rcases hA with hA | ⟨-, p0, ne, qc, na, qm, hq, -⟩
    · exact hA.2.2
    · rw [hq.2.2.2.1]
      rcases hq.1 with z | z
      · left; rw [z]
      · right; rw [z]
theorem progNone (hE : RefE EnvN.none 0 σ) (hC : ClsE EnvN.none 0 τ) (h18 : σ.1 18 = 0) (h27 : σ.1 27 = 0) (h28 : τ.1 2808 = 0) (h29 : τ.1 2809 = 0) (h44 : τ.1 4403 = 0) : RProg EnvN.none 0 0 σ τ := ⟨EnvOK.none, fun i => (by decide : ¬ (0 : Int32) < 0), hE, hC, ⟨h27, Nat.zero_le _, fun n hn => absurd hn (Nat.not_lt_zero _), fun q hq => absurd hq (Nat.not_lt_zero _)⟩, ⟨h29, Nat.zero_le _, fun n hn => absurd hn (Nat.not_lt_zero _), fun q hq => absurd hq (Nat.not_lt_zero _)⟩, h44, h18.trans h28.symm⟩
theorem ok_compile (hkw : kwOK kw) : OK_compile (Rel kw) := by
  intro σ τ h
  obtain ⟨len, E, nm, nc, st, ks, km, hW⟩ := id h
  obtain ⟨hT, hP, hH, hK, hM, hC, hA⟩ := id hW
  obtain ⟨t1, t2, t3, t4, t5, t6⟩ := hT
  obtain ⟨r, hr⟩ := pgm_tot (t := tkT kw (τ.2.2.1 3) len) 401 (.ok EnvN.none) 0 (by decide) (by decide)
  obtain ⟨⟨err, σ', e1, g1⟩, hN⟩ := rCompile hkw t4 t2 t5 hr
  obtain ⟨err2, τ', e2, g2⟩ := cCompile (L := LF) (by decide) t4 t1 t3 rfl hN hr
  obtain ⟨m1, m2, m3, m4, m5, m6⟩ := g1
  obtain ⟨c1, c2, c3, c4, c5⟩ := g2
  obtain ⟨k', o⟩ := r
  have noset : ∀ k, k < EnvN.none.ct 0 → σ'.2.2 32 k = τ'.2.2.2.1 58 k := fun k hk => absurd hk (Nat.not_lt_zero _)
  cases o with
  | none =>
    obtain ⟨y1, y2, y3, y4, y5⟩ := m6
    obtain ⟨z1, z2, z3, z4, z5, z6⟩ := c5
    exact ⟨err2, τ', σ', e2, by rw [z1, ← y1]; exact e1, 0, EnvN.none, 0, 0, 0, ks, km, relCm hW c1 m1 (progNone y5 z5 y3 y4 z3 z4 z6) c2 c3 c4 m3 m4 m5 (y2.trans z2.symm) noset⟩
  | some X =>
    cases X with
    | error x =>
      obtain ⟨y1, y0, y2, y3, y4, y5⟩ := m6
      obtain ⟨z1, z0, z2, z3, z4, z5, z6⟩ := c5
      exact ⟨err2, τ', σ', e2, by rw [z1, ← y1]; exact e1, 0, EnvN.none, 0, 0, 0, ks, km, relCm hW c1 m1 (progNone y5 z5 y3 y4 z3 z4 z6) c2 c3 c4 m3 m4 m5 (y2.trans z2.symm) noset⟩
    | ok E' =>
      obtain ⟨y1, y2, y3, y4, y5, y6, y7, nm', y8, y9, y10, y11, y12⟩ := m6
      obtain ⟨z1, z2, z3, z4, z5, z6, z7, z8, nc', z9, w1, w2, w3, w4⟩ := c5
      have lv : LvE E' := pgmLv (fun k hk => tkNum t4 hk) 401 _ 0 k' E' hr (fun E0 e => by
        have e := Except.ok.inj e
        subst e
        exact fun i => (by decide : ¬ (0 : Int32) < 0))
      exact ⟨err2, τ', σ', e2, by rw [z1, ← y1]; exact e1, 0, E', nm', nc', 0, ks, km, relCm hW c1 m1 ⟨y5, lv, y12, w4, ⟨y8, by omega, y10, y11⟩, ⟨z9, by omega, w2, w3⟩, z7, y3.trans z3.symm⟩ c2 c3 c4 m3 m4 m5 (y2.trans z2.symm) (fun k hk => (y7 k hk).trans (z8 k hk).symm)⟩
end CK
