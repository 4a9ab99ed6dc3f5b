-- the reference's second reading: factors; every piece
section MQ3
variable {σ0 σ σ1 σ2 σ3 : MS} {V0 : Nat → Prop} {lo L len k nx : Nat} {kw : Nat → Int64} {bt : Nat → Int32} {c : Cx}
/-- a name that stands for a number -/
theorem mNam (hc : CtM kw bt len c σ0 V0 lo L) (hS : SM c σ0 V0 lo nx k σ) (hk1 : Rk c.1 k) (e51 : c.1 k = 51) (S1 : SM c σ0 V0 lo nx (k + 1) σ1) (e1 : σ1.2 = σ.2) : ∃ err σ', FX11_namedValue L (nI k) σ1 = some (err, σ') ∧ PM c σ0 V0 lo false nx k σ (k + 1) (nmV' c k) err σ' := by
  obtain ⟨hT0, hG⟩ := hc.2.2.2
  obtain ⟨g1, g2⟩ := hG k hk1 e51
  have hx := hS.room hc S1 (by omega)
  have w23 : FX11_namedValue_23 L (nI k) σ1 = some (2, sI σ1 3 (c.2.1 k)) := by
    rw [FX11_namedValue_23, rWr (hc.1.fr S1.1) hk1, b2r]
  have bad : PM c σ0 V0 lo false nx k σ (k + 1) (.error (2, c.2.1 k)) 2 (sI σ1 3 (c.2.1 k)) := ⟨rfl, (show (2 : Int32) ≠ 0 by decide), sI_g, S1.1.int (by omega)⟩
  unfold nmV'
  rw [FX11_namedValue]
  cases hq : c.2.2.2 (c.2.2.1 k) with
  | none =>
    rw [g1 hq _ S1.1, b2r, if_pos rfl, w23]
    exact ⟨_, _, rfl, bad⟩
  | some q =>
    obtain ⟨s, n, D'⟩ := q
    obtain ⟨j, sn, m', hj, hf, hsn, rfl, r21, r22, hn, hm8, hqq⟩ := g2 s n D' hq
    have i44 : ¬ (nI j < 0 ∨ 44 ≤ (nI j).toNatClampNeg) := nI_in hj (by decide)
    have i44' : ¬ (nI j < 0 ∨ 44 ≤ j) := by rw [nI_clamp (by omega)] at i44; exact i44
    rw [hf _ S1.1, b2r, if_neg (nI_m1 (by omega)), if_neg i44, if_neg (by decide), nI_clamp (by omega)]
    have a21 : σ1.2.1 21 j = nI sn := by rw [S1.1.2.1 21 (by omega), r21]
    have a22 : σ1.2.1 22 j = nI m' := by rw [S1.1.2.1 22 (by omega), r22, hn]
    rw [a21, a22]
    have sc : sn = 0 ∨ sn = 2 ∨ (sn = 1 ∨ sn = 3) := by omega
    rcases sc with rfl | rfl | od
    · obtain ⟨σ4, e4, hN⟩ := rNode2 (kd := 21) (a := nI m') (b := -1) (t := -1) (pl := c.2.1 k) hc S1.2.2.2.1 hx
      rw [if_neg (by decide), if_neg i44', if_pos (by decide), if_neg i44', if_neg (kin hk1), kcl hk1, rFrom (hc.1.fr S1.1) hk1, e4, b2r]
      refine ⟨_, _, rfl, ?_⟩
      show PM c σ0 V0 lo false nx k σ (k + 1) (.ok (dVal 21 n 0 zV zV zV)) 0 σ4
      rw [hn]
      exact ⟨rfl, nx + 1, genM (f := false) (f1 := false) (f2 := false) hc hS S1 (by omega) (by omega) (fun q hq j => by rw [e1]) (oM0 (by decide) (fun _ => ⟨m', hm8 rfl, rfl⟩) (fun _ => rfl) nx _) hN⟩
    · obtain ⟨hm, q, hv, h25, hdv, -⟩ := hqq (by omega)
      have ix : (24 : Int32) + nI m' = nI (24 + m') := by rw [show (24 : Int32) = nI 24 from rfl, nI_add]
      have a25 : σ1.2.1 25 (24 + m') = nI q := by rw [S1.1.2.1 25 (by omega)]; exact h25
      rw [if_neg (by decide), if_neg i44', if_neg (by decide), if_neg i44', ix, if_neg (nI_in (show 24 + m' < 48 by omega) (by decide)), if_neg (kin hk1), kcl hk1, rFrom (hc.1.fr S1.1) hk1, nI_clamp (by omega), a25]
      obtain ⟨σ4, e4, hN⟩ := rNode2 (kd := 22) (a := nI q) (b := -1) (t := -1) (pl := c.2.1 k) hc S1.2.2.2.1 hx
      rw [e4, b2r]
      refine ⟨_, _, rfl, ?_⟩
      show PM c σ0 V0 lo false nx k σ (k + 1) (.ok D') 0 σ4
      have nq : NIM V0 lo nx false σ1 (nI q) D' := NIM.old hc.2.2.1 hT0 S1.1 hv hdv (fun h => by cases h)
      exact ⟨rfl, nx + 1, genM (f := false) (f1 := false) (f2 := false) (D1 := D') (D2 := (zV, zR)) (D3 := (zV, zR)) hc hS S1 (by omega) (by omega) (fun q hq j => by rw [e1]) ⟨⟨by decide, fun _ => nq, fun h => absurd h (by decide), fun h => absurd h (by decide), fun h => absurd h (by decide), fun h => absurd h (by decide), fun h => by cases h⟩, oV_22⟩ hN⟩
    · have o1 : nI sn - nI sn / (2 : Int32) * (2 : Int32) = 1 := by rcases od with rfl | rfl <;> decide
      have o2 : ¬ (nI sn = 0) := by rcases od with rfl | rfl <;> decide
      have o3 : ¬ (nI sn = 2) := by rcases od with rfl | rfl <;> decide
      rw [if_pos o1, w23]
      refine ⟨_, _, rfl, ?_⟩
      show PM c σ0 V0 lo false nx k σ (k + 1) (if nI sn = 0 then .ok (dVal 21 n 0 zV zV zV) else if nI sn = 2 then .ok D' else .error (2, c.2.1 k)) 2 _
      rw [if_neg o2, if_neg o3]
      exact bad
/-- a factor -/
theorem mFac {d : Nat} (hc : CtM kw bt len c σ0 V0 lo L) (ihs : ∀ d', d' ≤ d → MeanOK c σ0 V0 lo L d') : MXs c σ0 V0 lo L (d + 1) 7 10 0 2 false := by
  intro D k nx σ d2 hD hd hS k' m hr
  have ih := ihs d (by omega)
  have ihF := ih.2.2.2.2.2.2.2
  have hk0 := hS.2.2.1.1
  have hK := hS.2.2.1
  obtain ⟨z, rfl⟩ : ∃ z, d2 = z + 1 := ⟨d2 - 1, by omega⟩
  have hr : pFactor c (spX c d) D k = some (k', some m) := hr
  show ∃ err σ', FX11_factor (FSC2 L z) L σ = some (err, σ') ∧ _
  have hT1 : TkE kw bt len L c (sI σ 7 (σ.1 7 + 1)) := hc.1.fr (hS.1.int (by omega))
  rw [pFactor] at hr
  rw [FX11_factor, hS.2.1, if_neg (kin hK), if_neg (kin hK), kcl hK, rFrom (hc.1.fr hS.1) hK]
  rw [hS.2.1] at hT1
  have nxt : ∀ {s : Int32}, c.1 k = s → k ≠ 400 → s ≠ 53 → s ≠ 54 → SM c σ0 V0 lo nx (k + 1) (sI σ 7 (nI k + 1)) := by
    intro s hs h4 h1 h2
    have := hS.next hs h4 h1 h2
    rw [hS.2.1] at this
    exact this
  by_cases e52 : c.1 k = 52
  · rw [if_pos e52] at hr
    rw [if_pos ((rK2 (hc.1.fr hS.1) hK).mpr e52)]
    obtain ⟨n4, hr⟩ := goM hr
    obtain ⟨rfl, rfl⟩ := someM hr
    have S1 := nxt e52 n4 (by decide) (by decide)
    have hx := hS.room hc S1 (by omega)
    obtain ⟨v, hv, hnb, -, hf⟩ := rNum hT1 hK e52
    obtain ⟨σ4, e4, hN⟩ := rNode2 (kd := 20) (a := nI v) (b := -1) (t := -1) (pl := c.2.1 k) hc S1.2.2.2.1 hx
    rw [hf, b2r, e4, b2r]
    exact ⟨_, _, rfl, rfl, nx + 1, genM (f1 := false) (f2 := false) hc hS S1 (by omega) (by omega) (fun q hq j => rfl) (oM0 (by decide) (fun h => absurd h (by decide)) (fun _ => hnb.symm) nx _) hN⟩
  rw [if_neg e52] at hr
  rw [if_neg (fun q => e52 ((rK2 (hc.1.fr hS.1) hK).mp q)), rI_27 hT1 hK, b2r, ibI]
  by_cases e51 : c.1 k = 51
  · rw [if_pos e51] at hr
    obtain ⟨n4, hr⟩ := goM hr
    obtain ⟨rfl, rfl⟩ := someM hr
    have S1 := nxt e51 n4 (by decide) (by decide)
    rw [if_neg (show ¬ (decide (c.1 k = 28) = true) by simp [e51]), rI_28 hT1 hK, b2r, ibI, if_neg (show ¬ (decide (c.1 k = 29) = true) by simp [e51]), rN hT1 hK, b2r, ibI, if_pos (decide_eq_true e51)]
    obtain ⟨err, σ', e1, p⟩ := mNam hc hS hK e51 S1 rfl
    rw [e1, b2r]
    exact ⟨_, _, rfl, p⟩
  rw [if_neg e51] at hr
  by_cases e28 : c.1 k = 28
  · rw [if_pos e28] at hr
    rw [if_pos (decide_eq_true e28)]
    obtain ⟨n4, hr⟩ := goM hr
    obtain ⟨rfl, rfl⟩ := someM hr
    have S1 := nxt e28 n4 (by decide) (by decide)
    have hx := hS.room hc S1 (by omega)
    obtain ⟨σ4, e4, hN⟩ := rNode2 (kd := 23) (a := -1) (b := -1) (t := -1) (pl := c.2.1 k) hc S1.2.2.2.1 hx
    rw [e4, b2r]
    exact ⟨_, _, rfl, rfl, nx + 1, genM (f1 := false) (f2 := false) hc hS S1 (by omega) (by omega) (fun q hq j => rfl) (oM0 (a2 := 0) (by decide) (fun h => absurd h (by decide)) (fun h => absurd h (by decide)) nx _) hN⟩
  rw [if_neg e28] at hr
  rw [if_neg (show ¬ (decide (c.1 k = 28) = true) by simp [e28]), rI_28 hT1 hK, b2r, ibI]
  by_cases e29 : c.1 k = 29
  · rw [if_pos e29] at hr
    rw [if_pos (decide_eq_true e29)]
    obtain ⟨n4, hr⟩ := goM hr
    obtain ⟨rfl, rfl⟩ := someM hr
    have S1 := nxt e29 n4 (by decide) (by decide)
    have hx := hS.room hc S1 (by omega)
    obtain ⟨σ4, e4, hN⟩ := rNode2 (kd := 24) (a := -1) (b := -1) (t := -1) (pl := c.2.1 k) hc S1.2.2.2.1 hx
    rw [e4, b2r]
    exact ⟨_, _, rfl, rfl, nx + 1, genM (f1 := false) (f2 := false) hc hS S1 (by omega) (by omega) (fun q hq j => rfl) (oM0 (a2 := 0) (by decide) (fun h => absurd h (by decide)) (fun h => absurd h (by decide)) nx _) hN⟩
  rw [if_neg e29] at hr
  rw [if_neg (show ¬ (decide (c.1 k = 29) = true) by simp [e29]), rN hT1 hK, b2r, ibI]
  rw [if_neg (show ¬ (decide (c.1 k = 51) = true) by simp [e51]), rI_29 hT1 hK, b2r, ibI]
  by_cases e30 : c.1 k = 30
  · rw [if_pos e30] at hr
    rw [if_pos (decide_eq_true e30)]
    by_cases e2 : 10 ≤ D
    · rw [if_pos e2] at hr; cases hr
    rw [if_neg e2] at hr
    obtain ⟨n4, hr⟩ := goM hr
    have S1 := nxt e30 n4 (by decide) (by decide)
    obtain ⟨k3, m3, hk3, hr, r3, σ3, e3, q⟩ := cM9 ih.2.2.2.2.2.1 (show D + 1 ≤ 10 by omega) (show _ ≤ z by omega) S1 hr
    rw [e3, b2r]
    obtain ⟨e31, n5, hr⟩ := exM2 hr
    obtain ⟨rfl, rfl⟩ := someM hr
    refine ⟨_, _, rfl, ?_⟩
    rcases q with ⟨e, rfl, q2, q3, q4, q5⟩ | ⟨x, rfl, q2, nx1, l1, b1, S2, n1, x1⟩
    · exact ⟨q2, q3, by rw [sI_o (by decide)]; exact q4, q5.int (by omega)⟩
    · refine ⟨q2, nx1, l1, by omega, S2.next e31 n5 (by decide) (by decide), ?_, x1⟩
      rw [sI_o (by decide)]
      exact ⟨n1.1.same rfl, n1.2⟩
  rw [if_neg e30] at hr
  rw [if_neg (show ¬ (decide (c.1 k = 30) = true) by simp [e30]), rW_4 hT1 hK, b2r]
  have lst : ∀ s t : Int32, c.1 k = s → s ≠ 53 → s ≠ 54 → (∀ (pl : Int32) (x : Den) (nx : Nat) (a : Int32) (σ : MS), NIM V0 lo nx false σ a x → OpM V0 lo nx σ (25 + t) pl a (-1) (-1) 0 (-1) false false false x (zV, zR) (zV, zR) (dUn (unK s) x).2 ∧ oV (25 + t) a 0 (-1) (-1) x.1 zV zV = (dUn (unK s) x).1) → (if 10 ≤ D then some (k, none) else go k fun k1 => rb (spX c d 7 (D + 1) k1) fun k2 a => some (k2, some (mo1 (dUn (unK (c.1 k))) a))) = some (k', some m) → ∃ err σ', (b2 (FSC2 L z 10 0 0 0 (sI σ 7 (nI k + 1))) fun r_33 σ_33 => if r_33 = 0 then b2 (FX11_node (25 + t) (σ_33.1 17) (-1) (-1) (c.2.1 k) σ_33) fun r_35 σ_35 => some (r_35, σ_35) else some (r_33, σ_33)) = some (err, σ') ∧ PM c σ0 V0 lo false nx k σ k' m err σ' := by
    intro s t hs h1 h2 hop hr
    by_cases e2 : 10 ≤ D
    · rw [if_pos e2] at hr; cases hr
    rw [if_neg e2, hs] at hr
    obtain ⟨n4, hr⟩ := goM hr
    have S1 := nxt hs n4 h1 h2
    obtain ⟨k3, m3, hk3, hr, r3, σ3, e3, q⟩ := cM9 ihF (show D + 1 ≤ 10 by omega) (show _ ≤ z by omega) S1 hr
    rw [e3, b2r]
    obtain ⟨rfl, rfl⟩ := someM hr
    rcases q with ⟨e, rfl, rfl, he, q3, q4⟩ | ⟨x, rfl, rfl, nx3, l3, b3, S3, n3, x3⟩
    · rw [if_neg he]
      exact ⟨_, _, rfl, rfl, he, q3, q4⟩
    · have hx3 := hS.room hc S3 (by omega)
      obtain ⟨σ4, e4, hN⟩ := rNode2 (kd := 25 + t) (a := σ3.1 17) (b := -1) (t := -1) (pl := c.2.1 k) hc S3.2.2.2.1 hx3
      rw [if_pos rfl, e4, b2r]
      exact ⟨_, _, rfl, rfl, nx3 + 1, genM hc hS S3 (by omega) l3 (fun q hq j => x3 q hq j) (hop _ x nx3 _ σ3 n3.1) hN⟩
  by_cases e40 : c.1 k = 40
  · rw [if_pos (show c.1 k = 40 ∨ c.1 k = 21 ∨ c.1 k = 22 ∨ c.1 k = 23 ∨ c.1 k = 24 by simp [e40])] at hr
    rw [wh4_40 e40, if_neg (show ¬ ((0 : Int32) = -1) by decide)]
    exact lst _ _ e40 (by decide) (by decide) (fun _ => oMUn25) hr
  by_cases e21 : c.1 k = 21
  · rw [if_pos (show c.1 k = 40 ∨ c.1 k = 21 ∨ c.1 k = 22 ∨ c.1 k = 23 ∨ c.1 k = 24 by simp [e21])] at hr
    rw [wh4_21 e21, if_neg (show ¬ ((1 : Int32) = -1) by decide)]
    exact lst _ _ e21 (by decide) (by decide) (fun _ => oMUn26) hr
  by_cases e22 : c.1 k = 22
  · rw [if_pos (show c.1 k = 40 ∨ c.1 k = 21 ∨ c.1 k = 22 ∨ c.1 k = 23 ∨ c.1 k = 24 by simp [e22])] at hr
    rw [wh4_22 e22, if_neg (show ¬ ((2 : Int32) = -1) by decide)]
    exact lst _ _ e22 (by decide) (by decide) (fun _ => oMUn27) hr
  by_cases e23 : c.1 k = 23
  · rw [if_pos (show c.1 k = 40 ∨ c.1 k = 21 ∨ c.1 k = 22 ∨ c.1 k = 23 ∨ c.1 k = 24 by simp [e23])] at hr
    rw [wh4_23 e23, if_neg (show ¬ ((3 : Int32) = -1) by decide)]
    exact lst _ _ e23 (by decide) (by decide) (fun _ => oMUn28) hr
  by_cases e24 : c.1 k = 24
  · rw [if_pos (show c.1 k = 40 ∨ c.1 k = 21 ∨ c.1 k = 22 ∨ c.1 k = 23 ∨ c.1 k = 24 by simp [e24])] at hr
    rw [wh4_24 e24, if_neg (show ¬ ((4 : Int32) = -1) by decide)]
    exact lst _ _ e24 (by decide) (by decide) (fun _ => oMUn29) hr
  rw [if_neg (show ¬ (c.1 k = 40 ∨ c.1 k = 21 ∨ c.1 k = 22 ∨ c.1 k = 23 ∨ c.1 k = 24) by simp [e40, e21, e22, e23, e24])] at hr
  rw [wh4_n ⟨e40, e21, e22, e23, e24⟩, if_pos rfl]
  have br : ∀ (s : Int32) (f : Nat → MV → Option Rs), c.1 k = s → s ≠ 53 → s ≠ 54 → (go k fun k1 => pBraced c (spX c d 6 D k1) f) = some (k', some m) → D + 1 ≤ 10 ∧ ∃ k3 m3, k + 1 < k3 ∧ f k3 m3 = some (k', some m) ∧ ∃ err σ', FSC2 L z 9 0 0 0 (sI σ 7 (nI k + 1)) = some (err, σ') ∧ EoM c σ0 V0 lo true nx (k + 1) (sI σ 7 (nI k + 1)) k3 m3 err σ' id := by
    intro s f hs h1 h2 hr
    obtain ⟨n4, hr⟩ := goM hr
    have S1 := nxt hs n4 h1 h2
    cases d with
    | zero =>
      rw [pBraced] at hr
      obtain ⟨_, _, h1, -⟩ := rbM hr
      cases h1
    | succ d =>
      have hr : pBraced c (pBraces c (spX c d) D (k + 1)) f = some (k', some m) := hr
      obtain ⟨z, rfl⟩ : ∃ y, z = y + 1 := ⟨z - 1, by have := S1.2.2.1.1; omega⟩
      exact mBr hc (ihs d (by omega)).1 S1 (show D + 1 ≤ 10 → _ ≤ z from fun _ => by omega) hr
  by_cases e25 : c.1 k = 25
  · rw [if_pos e25] at hr
    obtain ⟨hD2, k3, m3, hk3, hr, err, σ3, e3, q⟩ := br _ _ e25 (by decide) (by decide) hr
    rw [e3, b2r]
    obtain ⟨rfl, rfl⟩ := someM hr
    rcases q with ⟨e, rfl, rfl, he, q3, q4⟩ | ⟨x, rfl, rfl, nx3, l3, b3, S3, n3, x3⟩
    · rw [if_neg he]
      exact ⟨_, _, rfl, rfl, he, q3, q4⟩
    · have hT3 := hc.1.fr S3.1
      have hx3 := hS.room hc S3 (by omega)
      rw [if_pos rfl, rI_31 hT3 hK, b2r, ibI, if_pos (decide_eq_true e25), FX11_factor_220, rI_31 hT3 hK, b2r, ibI, if_pos (decide_eq_true e25), FX11_factor_239]
      obtain ⟨σ4, e4, hN⟩ := rNode2 (kd := 30) (a := σ3.1 17) (b := -1) (t := -1) (pl := c.2.1 k) hc S3.2.2.2.1 hx3
      rw [e4, b2r]
      exact ⟨_, _, rfl, rfl, nx3 + 1, genM hc hS S3 (by omega) l3 (fun q hq j => x3 q hq j) (oMUn30 x nx3 _ σ3 n3.1) hN⟩
  rw [if_neg e25] at hr
  by_cases e27 : c.1 k = 27
  · rw [if_pos e27] at hr
    obtain ⟨hD2, k3, m3, hk3, hr, err, σ3, e3, q⟩ := br _ _ e27 (by decide) (by decide) hr
    rw [e3, b2r]
    obtain ⟨rfl, rfl⟩ := someM hr
    rcases q with ⟨e, rfl, rfl, he, q3, q4⟩ | ⟨x, rfl, rfl, nx3, l3, b3, S3, n3, x3⟩
    · rw [if_neg he]
      exact ⟨_, _, rfl, rfl, he, q3, q4⟩
    · have hT3 := hc.1.fr S3.1
      have hx3 := hS.room hc S3 (by omega)
      rw [if_pos rfl, rI_31 hT3 hK, b2r, ibI, if_neg (show ¬ (decide (c.1 k = 25) = true) by simp [e25]), rI_32 hT3 hK, b2r, ibI, if_pos (decide_eq_true e27), FX11_factor_220, rI_31 hT3 hK, b2r, ibI, if_neg (show ¬ (decide (c.1 k = 25) = true) by simp [e25]), FX11_factor_239]
      obtain ⟨σ4, e4, hN⟩ := rNode2 (kd := 31) (a := σ3.1 17) (b := -1) (t := -1) (pl := c.2.1 k) hc S3.2.2.2.1 hx3
      rw [e4, b2r]
      exact ⟨_, _, rfl, rfl, nx3 + 1, genM hc hS S3 (by omega) l3 (fun q hq j => x3 q hq j) (oMUn31 x nx3 _ σ3 n3.1) hN⟩
  rw [if_neg e27] at hr
  by_cases e26 : c.1 k = 26
  · rw [if_pos e26] at hr
    obtain ⟨hD2, k3, m3, hk3, hr, err, σ3, e3, q⟩ := br _ _ e26 (by decide) (by decide) hr
    rw [e3, b2r]
    rcases q with ⟨e, rfl, rfl, he, q3, q4⟩ | ⟨x, rfl, rfl, nx3, l3, b3, S3, n3, x3⟩
    · rw [if_neg he]
      obtain ⟨k4, m4, -, h4⟩ := rbM hr
      obtain ⟨rfl, rfl⟩ := someM h4
      exact ⟨_, _, rfl, rfl, he, q3, q4⟩
    · have hT3 := hc.1.fr S3.1
      rw [if_pos rfl, rI_31 hT3 hK, b2r, ibI, if_neg (show ¬ (decide (c.1 k = 25) = true) by simp [e25]), rI_32 hT3 hK, b2r, ibI, if_neg (show ¬ (decide (c.1 k = 27) = true) by simp [e27]), rI_34 hT3 hK, b2r, ibI, if_neg (show ¬ (decide (c.1 k = 18) = true) by simp [e26]), FX11_factor_269]
      obtain ⟨k5, m5, hk5, hr, r5, σ5, e5, q⟩ := cM9 ihF hD2 (show _ ≤ z by omega) S3 hr
      rw [e5, b2r]
      obtain ⟨rfl, rfl⟩ := someM hr
      rcases q with ⟨e, rfl, rfl, he, q3, q4⟩ | ⟨y, rfl, rfl, nx5, l5, b5, S5, n5, x5⟩
      · rw [if_neg he]
        exact ⟨_, _, rfl, rfl, he, q3, q4⟩
      · have hT5 := hc.1.fr S5.1
        have hx5 := hS.room hc S5 (by omega)
        rw [if_pos rfl, rI_33 hT5 hK, b2r, ibI, if_pos (decide_eq_true e26)]
        obtain ⟨σ4, e4, hN⟩ := rNode2 (kd := 32) (a := σ3.1 17) (b := σ5.1 17) (t := -1) (pl := c.2.1 k) hc S5.2.2.2.1 hx5
        rw [e4, b2r]
        have n3' := n3.1.ext S3.2.2.2.1.2.2.1 x5 l5
        exact ⟨_, _, rfl, rfl, nx5 + 1, genM hc hS S5 (by omega) (by omega) (fun q hq j => ((x3.trans l3 x5) q hq j)) (oMAt x y nx5 _ _ σ5 n3' n5.1) hN⟩
  rw [if_neg e26] at hr
  by_cases e18 : c.1 k = 18
  · rw [if_pos e18] at hr
    obtain ⟨hD2, k3, m3, hk3, hr, err, σ3, e3, q⟩ := br _ _ e18 (by decide) (by decide) hr
    rw [e3, b2r]
    obtain ⟨e19, n6, hr⟩ := exM2 hr
    rcases q with ⟨e, rfl, rfl, he, q3, q4⟩ | ⟨x, rfl, rfl, nx3, l3, b3, S3, n3, x3⟩
    · rw [if_neg he]
      obtain ⟨k4, m4, -, h4⟩ := rbM hr
      obtain ⟨-, -, h5⟩ := exM2 h4
      obtain ⟨k7, m7, -, h6⟩ := rbM h5
      obtain ⟨rfl, rfl⟩ := someM h6
      exact ⟨_, _, rfl, rfl, he, q3, q4⟩
    · have hT3 := hc.1.fr S3.1
      rw [if_pos rfl, rI_31 hT3 hK, b2r, ibI, if_neg (show ¬ (decide (c.1 k = 25) = true) by simp [e25]), rI_32 hT3 hK, b2r, ibI, if_neg (show ¬ (decide (c.1 k = 27) = true) by simp [e27]), rI_34 hT3 hK, b2r, ibI, if_pos (decide_eq_true e18), FX11_factor_269]
      have S4 := S3.next e19 n6 (by decide) (by decide)
      have hk4 := S4.2.2.1.1
      obtain ⟨k5, m5, hk5, hr, r5, σ5, e5, q⟩ := cM9 ihF hD2 (show _ ≤ z by omega) S4 hr
      rw [e5, b2r]
      obtain ⟨e20, n7, hr⟩ := exM2 hr
      rcases q with ⟨e, rfl, rfl, he, q3, q4⟩ | ⟨y, rfl, rfl, nx5, l5, b5, S5, n5, x5⟩
      · rw [if_neg he]
        obtain ⟨k7, m7, -, h6⟩ := rbM hr
        obtain ⟨rfl, rfl⟩ := someM h6
        exact ⟨_, _, rfl, rfl, he, q3, q4⟩
      · have hT5 := hc.1.fr S5.1
        rw [if_pos rfl, rI_33 hT5 hK, b2r, ibI, if_neg (show ¬ (decide (c.1 k = 26) = true) by simp [e26])]
        have S6 := S5.next e20 n7 (by decide) (by decide)
        have hk6 := S6.2.2.1.1
        obtain ⟨k7, m7, hk7, hr, r7, σ7, e7, q⟩ := cM9 ihF hD2 (show _ ≤ z by omega) S6 hr
        rw [e7, b2r]
        obtain ⟨rfl, rfl⟩ := someM hr
        rcases q with ⟨e, rfl, rfl, he, q3, q4⟩ | ⟨w, rfl, rfl, nx7, l7, b7, S7, n7, x7⟩
        · rw [if_neg he]
          exact ⟨_, _, rfl, rfl, he, q3, q4⟩
        · have hx7 := hS.room hc S7 (by omega)
          rw [if_pos rfl]
          obtain ⟨σ4, e4, hN⟩ := rNode2 (kd := 33) (a := σ3.1 17) (b := σ5.1 17) (t := σ7.1 17) (pl := c.2.1 k) hc S7.2.2.2.1 hx7
          rw [e4, b2r]
          have X5 : ExtM V0 lo nx3 σ3 σ5 := fun q hq j => x5 q hq j
          have X7 : ExtM V0 lo nx5 σ5 σ7 := fun q hq j => x7 q hq j
          have n3' := (n3.1.ext S3.2.2.2.1.2.2.1 X5 l5).ext S5.2.2.2.1.2.2.1 X7 l7
          have n5' := n5.1.ext S5.2.2.2.1.2.2.1 X7 l7
          exact ⟨_, _, rfl, rfl, nx7 + 1, genM hc hS S7 (by omega) (by omega) (fun q hq j => (((x3.trans l3 X5).trans (by omega) X7) q hq j)) (oMIf x y w nx7 _ _ _ σ7 n3' n5' n7.1) hN⟩
  rw [if_neg e18] at hr
  cases hr
theorem mNone {X Y w rank : Nat} {f : Bool} : MXs c σ0 V0 lo L 0 X Y w rank f := by
  intro D k nx σ d2 hD hd hS k' m hr
  cases hr
/-- every piece, at every depth -/
theorem meanOK (hc : CtM kw bt len c σ0 V0 lo L) : ∀ d, MeanOK c σ0 V0 lo L d := by
  intro d
  induction d using Nat.strongRecOn with
  | ind d ih =>
    cases d with
    | zero => exact ⟨mNone, mNone, mNone, mNone, mNone, mNone, mNone, mNone⟩
    | succ d =>
      have i := ih d (by omega)
      exact ⟨mFormula hc i, mOr hc i, mAnd hc i, mSince hc i, mOne hc i, mExp hc i, mPro hc i, mFac hc (fun d' h => ih d' (by omega))⟩
end MQ3
