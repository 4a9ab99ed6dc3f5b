-- the reference's second reading of a program
theorem nI64 {v : Nat} (h : v < 1000000) : (nI v).toInt64 = lN v := by
  apply Int64.toInt_inj.mp
  rw [Int32.toInt_toInt64, nI_toInt (by omega)]
  unfold lN
  exact (Int64.toInt_ofNat_of_lt (by omega)).symm
theorem nI64n {v : Nat} (h : v < 1000000) : (-(nI v)).toInt64 = -(lN v) := by
  apply Int64.toInt_inj.mp
  rw [Int32.toInt_toInt64, Int64.toInt_neg, ← nI64 h, Int32.toInt_toInt64, Int32.toInt_neg, nI_toInt (by omega), Int.bmod_eq_of_le (by omega) (by omega), Int.bmod_eq_of_le (by omega) (by omega)]
section RP
variable {σ00 σ0 σ σ1 σ2 σ3 : MS} {lo L len k nx : Nat} {kw : Nat → Int64} {bt : Nat → Int32} {c : Cx} {E : EnvN}
/-- a signal's first value -/
theorem r141 {kk : Nat} {x6 : Int32} (hT : TkE kw bt len L c σ00) (hI : Ib σ00 c.1 E nx (k + 3) σ) (hm : HmE c E 0 k) (hk : Rk c.1 kk) (hkk : k + 3 ≤ kk) (h52 : c.1 kk = 52) (n52 : kk ≠ 400) (h36 : c.1 (kk + 1) = 36) (n36 : kk + 1 ≠ 400) (hx : (x6 = 0 ∧ iFi c k = c.2.2.1 kk) ∨ (x6 ≠ 0 ∧ iFi c k = -(c.2.2.1 kk))) {y1 y2 : Int32} (hy : y1 + y2 = nI kk) : ∃ err σ', FX11_itemMeant_141 L 0 (nI (k + 1)) 0 x6 y1 y2 σ = some (err, σ') ∧ err = 0 ∧ PSm σ00 c.1 (E.add (c.2.2.1 (k + 1)) 0 (zV, zR) (iFi c k) (iLv c k)) (kk + 1 + 1) (sI σ' 7 (σ'.1 7 + 1)) := by
  obtain ⟨m1, m2, m3, m4, m5, m6⟩ := id hm
  have h8 : E.ct 0 < 8 := m3
  have I1 := hI.go hk hkk
  obtain ⟨v, hv, hnb, hW, hf⟩ := rNum (hT.frN I1.1) hk h52
  have c0 : σ.2.1 23 (0 : Int32).toNatClampNeg = nI (E.ct 0) := hI.2.2.2.2.2.2.2.1.2.2.1 0 (by decide)
  have tail : ∀ y : Int64, y = iFi c k → ∃ err σ', FX11_itemMeant_182 L 0 (nI (k + 1)) 0 (nI (E.ct 0)) y (sI σ 7 (nI kk)) = some (err, σ') ∧ err = 0 ∧ PSm σ00 c.1 (E.add (c.2.2.1 (k + 1)) 0 (zV, zR) (iFi c k) (iLv c k)) (kk + 1 + 1) (sI σ' 7 (σ'.1 7 + 1)) := by
    intro y hy
    rw [FX11_itemMeant_182, if_neg (nI_in h8 (by decide)), nI_clamp (by omega), FX11_itemMeant_214, if_pos rfl, if_pos (by decide), FX11_itemMeant_246, if_neg (by decide)]
    have I2 : Ib σ00 c.1 E nx kk (sB (sI σ 7 (nI kk)) 24 (vp_updL ((sI σ 7 (nI kk)).2.2 24) (E.ct 0) y)) := by
      obtain ⟨a, b, d, e, f, g, i, j⟩ := I1
      exact ⟨a.trans ⟨fun _ _ _ _ _ _ _ _ => rfl, fun _ _ _ _ _ _ _ => rfl, fun j' _ z => up_n z⟩, b, d, e, f, g, i, j.1.w24, j.2⟩
    have I3 := I2.next h52 n52 (by decide) (by decide)
    obtain ⟨σ', e9, p⟩ := r263 (s := 0) (D := (zV, zR)) (v := iFi c k) (l := iLv c k) hT I3 h36 n36 hm (fun z => absurd rfl z) (fun _ => by
      have q9 : (sB (sI σ 7 (nI kk)) 24 (vp_updL ((sI σ 7 (nI kk)).2.2 24) (E.ct 0) y)).2.2 24 (E.ct 0) = y := by rw [sB_row, updL_s]
      exact q9.trans hy) (fun z => absurd z (by decide))
    exact ⟨0, σ', e9, rfl, p⟩
  rw [FX11_itemMeant_141, if_neg (by decide), hy, c0]
  rcases hx with ⟨rfl, hx⟩ | ⟨hx0, hx⟩
  · rw [if_pos rfl, hf, b2r]
    exact tail _ (by rw [nI64 hv, hx, hW])
  · rw [if_neg hx0, hf, b2r]
    exact tail _ (by rw [nI64n hv, hx, hW])
theorem addL {w : Int64} {s : Nat} {D : Den} {v : Int64} {l l' : Int32} (h : s ≠ 3) : E.add w s D v l = E.add w s D v l' := by
  unfold EnvN.add
  rw [if_neg h, if_neg h]
/-- behind a formula or an expression, read well or badly -/
theorem rBodyM {X Y rank s k' : Nat} {f : Bool} {m : MV} (hT : TkE kw bt len L c σ00) (hΓ : c.2.2.2 = gmE E) (hI : Ib σ00 c.1 E nx (k + 3) σ) (hm : HmE c E s k) (h0 : s ≠ 0) (hX : ∀ σ0 V0 lo, CtM kw bt len c σ0 V0 lo L → MXs c σ0 V0 lo L 700 X Y 0 rank f) (hrk : rank ≤ 13) (hf : f = decide (s = 1 ∨ s = 3)) (hX3 : s = 3 → X = 0) (hr : (rb (spX c 700 X 0 (k + 3)) fun k4 a => if s = 3 then (if c.1 k4 = 4 then go k4 fun k5 => ex c 52 k5 fun k6 => ex c 36 k6 fun k7 => some (k7, some (lvM c k5 a)) else ex c 36 k4 fun k5 => some (k5, some a)) else ex c 36 k4 fun k5 => some (k5, some a)) = some (k', some m)) : ∃ err σ', (b2 (FSC2 L dSC2 Y 0 0 0 σ) fun r_9 σ_9 => FX11_itemMeant_212 L (nI s) (nI (k + 1)) r_9 σ_9) = some (err, σ') ∧ PIt σ00 c.1 (xMv m fun D => E.add (c.2.2.1 (k + 1)) s D (iFi c k) (iLv c k)) k' err σ' := by
  obtain ⟨k4, a, h1, h2⟩ := rbM hr
  obtain ⟨err, σ1, e1, q⟩ := rCall hT hm.1 hΓ hI hX hrk h1
  rw [e1, b2r, FX11_itemMeant_212]
  rcases q with ⟨e, rfl, rfl, he, q3, q4⟩ | ⟨D, nx1, rfl, rfl, hI1, hq⟩
  · rw [FX11_itemMeant_214, if_neg he]
    have : m = .error e := by
      split at h2
      · split at h2
        · obtain ⟨-, h3⟩ := goM h2
          obtain ⟨-, -, h4⟩ := exM2 h3
          obtain ⟨-, -, h5⟩ := exM2 h4
          exact (someM h5).2
        · obtain ⟨-, -, h5⟩ := exM2 h2
          exact (someM h5).2
      · obtain ⟨-, -, h5⟩ := exM2 h2
        exact (someM h5).2
    subst this
    exact ⟨_, _, rfl, rfl, he, q3, q4⟩
  · obtain ⟨err, σ', e9, p⟩ := r214 (v := iFi c k) hT hI1 hm h0 (by rw [← hf]; exact hq) h2
    refine ⟨err, σ', e9, ?_⟩
    have e3 : (fun D => E.add (c.2.2.1 (k + 1)) s D (iFi c k) (if c.1 k4 = 4 then nb c (k4 + 1) else 5)) = fun D => E.add (c.2.2.1 (k + 1)) s D (iFi c k) (iLv c k) := by
      funext D'
      by_cases z : s = 3
      · have hX0 := hX3 z
        subst hX0
        have : iLv c k = if c.1 k4 = 4 then nb c (k4 + 1) else 5 := by unfold iLv; rw [h1]
        rw [this]
      · exact addL z
    rw [← e3]
    exact p
/-- an item, read again -/
theorem rItemM {t : Tk} {k' : Nat} {m : MV} (hT : TkE kw bt len L (cxE t (.ok E)) σ00) (h : PSm σ00 t.1 E k σ) (hr : iForm (cxE t (.ok E)) k = some (k', some m)) : ∃ err σ', FX11_itemMeant L σ = some (err, σ') ∧ PIt σ00 t.1 (xAdd t (.ok E) k m) k' err σ' := by
  obtain ⟨a, b, d, hE, nx, e, f, g, i, j⟩ := h
  generalize hc : cxE t (.ok E) = c at hT hr
  have hc1 : c.1 = t.1 := by rw [← hc]; rfl
  have hΓ : c.2.2.2 = gmE E := by rw [← hc]; rfl
  rw [← hc1] at d ⊢
  have hX : xAdd t (.ok E) k m = iAdd E c k m := by rw [← hc]; rfl
  rw [hX]
  have hI : Ib σ00 c.1 E nx k σ := ⟨a, b, d, e, f, g, i, j⟩
  rw [iForm] at hr
  by_cases hin : c.1 k = 0 ∨ c.1 k = 1 ∨ c.1 k = 2 ∨ c.1 k = 3
  · rw [if_pos hin] at hr
    obtain ⟨n0, hr⟩ := goM hr
    obtain ⟨e51, n1, hr⟩ := exM2 hr
    obtain ⟨eC, n2, hr⟩ := exM2 hr
    obtain ⟨s, hs, hcs⟩ : ∃ s, s < 4 ∧ c.1 k = nI s := by
      rcases hin with z | z | z | z
      · exact ⟨0, by decide, z⟩
      · exact ⟨1, by decide, z⟩
      · exact ⟨2, by decide, z⟩
      · exact ⟨3, by decide, z⟩
    obtain ⟨y1, y2, y3, y4⟩ := nI_s4 hs
    have s53 : nI s ≠ 53 := by rw [show (53 : Int32) = nI 53 from rfl]; intro e; rw [nI_eq (by omega) (by omega)] at e; omega
    have s54 : nI s ≠ 54 := by rw [show (54 : Int32) = nI 54 from rfl]; intro e; rw [nI_eq (by omega) (by omega)] at e; omega
    have hTk := hT.frN a
    have I1 := hI.next hcs n0 s53 s54
    have I2 := I1.next e51 n1 (by decide) (by decide)
    have I3 := I2.next eC n2 itC_53 itC_54
    have w1 : σ.1 7 + 1 = nI (k + 1) := by rw [b, nI_succ]
    have hwf : wF (fun i => decide (c.1 k = cs5.getD i 99)) 4 = nI s := by
      rw [hcs]
      have : s = 0 ∨ s = 1 ∨ s = 2 ∨ s = 3 := by omega
      rcases this with rfl | rfl | rfl | rfl <;> decide
    have c23 : σ.2.1 23 s = nI (E.ct s) := j.1.2.2.1 s hs
    have hcap := hE.2.1 s hs
    have hcap2 : E.ct s ≤ 12 := by unfold capE at hcap; split at hcap <;> omega
    have to57 : FX11_itemMeant L σ = FX11_itemMeant_57 L (nI k) (nI s) (nI (E.ct s)) (nI (capE s)) σ := by
      rw [FX11_itemMeant, b, rW_5 hTk d, b2r, hwf, if_neg (nI_in hs (by decide)), nI_clamp (by omega), c23]
      by_cases z : s = 0
      · rw [if_pos (y4.mpr z), show capE s = 8 from if_pos z]; rfl
      · rw [if_neg (fun q => z (y4.mp q)), show capE s = 12 from if_neg z]; rfl
    have hcap12 : capE s ≤ 12 := by unfold capE; split <;> omega
    rw [to57, FX11_itemMeant_57]
    by_cases hfull : E.ct s < capE s
    · rw [if_neg (by rw [nI_eq (by omega) (by omega)]; omega), w1]
      rw [w1] at I1
      obtain ⟨f1, f2⟩ := I1.2.2.2.2.2.2.2.1.find hE (hT.frN I1.1) I1.2.2.1 e51
      by_cases hg : gmE E (c.2.2.1 (k + 1)) = none
      · have hm : HmE c E s k := ⟨hE, hs, hfull, hg, I1.2.2.1, e51⟩
        have hpre : iPre E c k = none := by
          unfold iPre
          rw [hcs, y1, if_neg (by omega), if_pos hg]
        have hAdd : iAdd E c k m = xMv m fun D => E.add (c.2.2.1 (k + 1)) s D (iFi c k) (iLv c k) := by
          unfold iAdd
          rw [hpre, hcs, y1]
          cases m <;> rfl
        rw [f1 hg, b2r, if_pos rfl, hAdd]
        have w3 : (sI σ 7 (nI (k + 1))).1 7 + 2 = nI (k + 3) := by rw [I1.2.1, show (2 : Int32) = nI 2 from rfl, nI_add]
        rw [w3]
        have I3' : Ib σ00 c.1 E nx (k + 3) (sI (sI σ 7 (nI (k + 1))) 7 (nI (k + 3))) := I1.go I3.2.2.1 (by omega)
        have hT3 := hT.frN I3'.1
        rw [hcs] at hr
        have sc : s = 0 ∨ s = 1 ∨ s = 2 ∨ s = 3 := by omega
        rcases sc with rfl | rfl | rfl | rfl
        · rw [if_pos (show nI 0 = 0 by decide), rS_3 hT3 I3'.2.1 I3'.2.2.1, b2r]
          rw [iBody, if_pos (show nI 0 = 0 by decide)] at hr
          have out : ∀ (y : Option (Int32 × MS)) (kk : Nat), k' = kk → m = .ok (zV, zR) → (∃ err σ', y = some (err, σ') ∧ err = 0 ∧ PSm σ00 c.1 (E.add (c.2.2.1 (k + 1)) 0 (zV, zR) (iFi c k) (iLv c k)) kk (sI σ' 7 (σ'.1 7 + 1))) → ∃ err σ', y = some (err, σ') ∧ PIt σ00 c.1 (xMv m fun D => E.add (c.2.2.1 (k + 1)) 0 D (iFi c k) (iLv c k)) k' err σ' := by
            rintro y kk rfl rfl ⟨err, σ', q1, q2, q3⟩
            exact ⟨err, σ', q1, q2, q3⟩
          by_cases e40 : c.1 (k + 3) = 40
          · have b1 : bI (decide (c.1 (k + 3) = 40)) = 1 := by rw [decide_eq_true e40]; rfl
            rw [if_pos e40] at hr
            obtain ⟨n3, hr⟩ := goM hr
            obtain ⟨e52, n4, hr⟩ := exM2 hr
            obtain ⟨e36, n5, hr⟩ := exM2 hr
            obtain ⟨rfl, rfl⟩ := someM hr
            rw [b1, if_neg (by decide), I3'.2.1]
            have I4 := I3'.next e40 n3 (by decide) (by decide)
            exact out _ _ rfl rfl (r141 (kk := k + 3 + 1) hT I3' hm I4.2.2.1 (by omega) e52 n4 e36 n5 (Or.inr ⟨by decide, by unfold iFi; rw [if_pos e40]⟩) (by rw [nI_succ (k + 3)]))
          · have b1 : bI (decide (c.1 (k + 3) = 40)) = 0 := by rw [decide_eq_false e40]; rfl
            rw [if_neg e40] at hr
            obtain ⟨e52, n4, hr⟩ := exM2 hr
            obtain ⟨e36, n5, hr⟩ := exM2 hr
            obtain ⟨rfl, rfl⟩ := someM hr
            rw [b1, if_pos rfl, I3'.2.1]
            exact out _ _ rfl rfl (r141 (kk := k + 3) hT I3' hm I3'.2.2.1 (by omega) e52 n4 e36 n5 (Or.inl ⟨rfl, by unfold iFi; rw [if_neg e40]⟩) (by rw [show (0 : Int32) = nI 0 from rfl, nI_add]))
        · rw [if_neg (show ¬ (nI 1 = 0) by decide), if_neg (show ¬ (nI 1 = 2) by decide)]
          rw [iBody, if_neg (show ¬ (nI 1 = 0) by decide), if_neg (show ¬ (nI 1 = 2) by decide), if_pos (show nI 1 = 1 by decide)] at hr
          exact rBodyM (X := 0) (Y := 0) (rank := 13) (f := true) hT hΓ I3' hm (by decide) (fun σ0 V0 lo h => (meanOK h 700).1) (by decide) (by decide) (fun _ => rfl) hr
        · rw [if_neg (show ¬ (nI 2 = 0) by decide), if_pos (show nI 2 = 2 by decide)]
          rw [iBody, if_neg (show ¬ (nI 2 = 0) by decide), if_pos (show nI 2 = 2 by decide)] at hr
          exact rBodyM (X := 4) (Y := 6) (rank := 6) (f := false) hT hΓ I3' hm (by decide) (fun σ0 V0 lo h => (meanOK h 700).2.2.2.2.2.1) (by decide) (by decide) (fun z => absurd z (by decide)) hr
        · rw [if_neg (show ¬ (nI 3 = 0) by decide), if_neg (show ¬ (nI 3 = 2) by decide)]
          rw [iBody, if_neg (show ¬ (nI 3 = 0) by decide), if_neg (show ¬ (nI 3 = 2) by decide), if_neg (show ¬ (nI 3 = 1) by decide)] at hr
          exact rBodyM (X := 0) (Y := 0) (rank := 13) (f := true) hT hΓ I3' hm (by decide) (fun σ0 V0 lo h => (meanOK h 700).1) (by decide) (by decide) (fun _ => rfl) hr
      · obtain ⟨j', hj', hw'⟩ : ∃ j, j < E.nn ∧ E.wd j = c.2.2.1 (k + 1) := Classical.byContradiction fun q => hg ((lkE_none _).mpr fun j hj z => q ⟨j, hj, z⟩)
        have hpre : iPre E c k = some (3, c.2.1 (k + 1)) := by
          unfold iPre
          rw [hcs, y1, if_neg (by omega), if_neg hg]
        have hAdd : iAdd E c k m = .error (3, c.2.1 (k + 1)) := by
          unfold iAdd
          rw [hpre]
        rw [f2 j' hj' hw', b2r, if_neg (nI_m1 (by have := hE.nn44; omega)), rWr (hT.frN I1.1) I1.2.2.1, b2r, hAdd]
        exact ⟨_, _, rfl, rfl, (show (3 : Int32) ≠ 0 by decide), sI_g, I1.1.int (Or.inl rfl)⟩
    · have hpre : iPre E c k = some (4, c.2.1 k) := by
        unfold iPre
        rw [hcs, y1, if_pos (by omega)]
      have hAdd : iAdd E c k m = .error (4, c.2.1 k) := by
        unfold iAdd
        rw [hpre]
      rw [if_pos (by rw [nI_eq (by omega) (by omega)]; omega), rWr hTk d, b2r, hAdd]
      exact ⟨_, _, rfl, rfl, (show (4 : Int32) ≠ 0 by decide), sI_g, a.int (Or.inl rfl)⟩
  · rw [if_neg hin] at hr; cases hr
end RP
