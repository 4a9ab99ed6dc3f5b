-- one, and factors
section CO
variable {c : Cx} {τ0 σ σ1 σ2 σ3 : CS} {V0 : Nat → Prop} {lo : Nat × Nat} {L k nx : Nat} {md : Option En} {p : Int32}
theorem cSingle {s p0 : Int32} {f : Bool} {Dn : Den} (hc : CtP c τ0 V0 lo L) (hS : St c τ0 V0 lo L md nx k σ) (hs : tS c.1 k = s) (h1 : s ≠ 53) (h2 : s ≠ 54) (hop : ∀ nx σ, OpH V0 lo nx σ s (c.2.1 k) p0 (-1) (-1) 0 1000000 f false false (zV, zR) (zV, zR) (zV, zR) Dn.2 ∧ oV (kK s) p0 0 (hiC 1000000) (kT s (-1)) zV zV zV = Dn.1) : Tr (FX4_single p0 σ) (PO c τ0 V0 lo L f md nx k σ (k + 1, some (.ok Dn))) := by
  obtain ⟨e1, e2⟩ := tS_lit hs h2 h1
  have hk := hS.2.1.1.1
  rw [FX4_single, show σ.1 4304 = s from hS.2.1.2.2.2.1.trans hs, hS.2.1.2.2.2.2.1]
  have H : md = none → nx + 401 ≤ lo.2 + (k + 1) ∧ OpH V0 lo nx σ s (c.2.1 k) p0 (-1) (-1) 0 1000000 f false false (zV, zR) (zV, zR) (zV, zR) Dn.2 := fun h => by
    subst h
    have := hS.2.2.2.2.2
    exact ⟨by omega, (hop nx σ).1⟩
  obtain ⟨r, σ', e, n1, n2, nx4, l4, M4, i4⟩ := cF0 (kb := k + 1) hc hS.1 hS.2.1 hS.2.2 (by omega) H
  rw [e, b2r]
  obtain ⟨σ2, e3, g1, g2, g3, g4⟩ := adv2 hc n1 n2 M4 hs h1 h2
  rw [e3, b2r]
  refine Tr.ret ⟨nx4, l4, ⟨g1, g2, ?_⟩, fun h D hD => ?_⟩
  · have : nmd md (.ok Dn) = md := by cases md <;> rfl
    rw [this]; exact g3
  · have hD := (Except.ok.inj hD).symm
    subst hD
    obtain ⟨z1, z2, z3⟩ := i4 h
    have ev := (hop nx σ).2
    refine ⟨by omega, ?_, z3.same g4.2.2⟩
    have : ((oV (kK s) p0 0 (hiC 1000000) (kT s (-1)) zV zV zV, D.2) : Den) = D := by rw [ev]
    rw [this] at z2
    exact z2.same g4.2.2
theorem opTrue {pl v : Int32} : ∀ nx σ, OpH V0 lo nx σ 16 pl 0 (-1) (-1) 0 1000000 true false false (zV, zR) (zV, zR) (zV, zR) (dCon 6 pl).2 ∧ oV (kK 16) 0 0 (hiC 1000000) (kT 16 (-1)) zV zV zV = (dCon 6 pl).1 := by
  intro nx σ
  refine ⟨⟨by decide, bdF_0, fun h => absurd h (by decide), fun h => absurd h (by decide), fun h => absurd h (by decide), kd21 (by decide), fun _ A ra rb u1 u2 => by
    rw [show kK 16 = 6 by decide, show hiC 1000000 = -1 by decide] at *
    show _ = oR 6 0 (-1) pl zV zR zR
    exact oR_congr2 (fun h => absurd h (by decide)) (fun _ => rfl) (fun h => absurd h (by decide)) (fun h => absurd h (by decide)) (fun h => absurd h (by decide))⟩, ?_⟩
  rw [show kK 16 = 6 by decide, show hiC 1000000 = -1 by decide]
  show _ = oV 6 0 0 (-1) 0 zV zV zV
  exact oV_congr (by decide) (fun _ => rfl) (fun h => absurd h (by decide)) (fun h => absurd h (by decide)) (fun _ => rfl) (fun _ => rfl) (fun _ => rfl)
theorem opFalse {pl v : Int32} : ∀ nx σ, OpH V0 lo nx σ 17 pl 0 (-1) (-1) 0 1000000 true false false (zV, zR) (zV, zR) (zV, zR) (dCon 7 pl).2 ∧ oV (kK 17) 0 0 (hiC 1000000) (kT 17 (-1)) zV zV zV = (dCon 7 pl).1 := by
  intro nx σ
  refine ⟨⟨by decide, bdF_0, fun h => absurd h (by decide), fun h => absurd h (by decide), fun h => absurd h (by decide), kd21 (by decide), fun _ A ra rb u1 u2 => by
    rw [show kK 17 = 7 by decide, show hiC 1000000 = -1 by decide] at *
    show _ = oR 7 0 (-1) pl zV zR zR
    exact oR_congr2 (fun h => absurd h (by decide)) (fun _ => rfl) (fun h => absurd h (by decide)) (fun h => absurd h (by decide)) (fun h => absurd h (by decide))⟩, ?_⟩
  rw [show kK 17 = 7 by decide, show hiC 1000000 = -1 by decide]
  show _ = oV 7 0 0 (-1) 0 zV zV zV
  exact oV_congr (by decide) (fun _ => rfl) (fun h => absurd h (by decide)) (fun h => absurd h (by decide)) (fun _ => rfl) (fun _ => rfl) (fun _ => rfl)
theorem opNum {pl v : Int32} : ∀ nx σ, OpH V0 lo nx σ 52 pl v (-1) (-1) 0 1000000 false false false (zV, zR) (zV, zR) (zV, zR) (dVal 20 v 0 zV zV zV).2 ∧ oV (kK 52) v 0 (hiC 1000000) (kT 52 (-1)) zV zV zV = (dVal 20 v 0 zV zV zV).1 := by
  intro nx σ
  refine ⟨⟨by decide, bdF_0, fun h => absurd h (by decide), fun h => absurd h (by decide), fun h => absurd h (by decide), kd21 (by decide), fun h => by cases h⟩, ?_⟩
  rw [show kK 52 = 20 by decide, show hiC 1000000 = -1 by decide]
  show _ = oV 20 v 0 (-1) 0 zV zV zV
  exact oV_congr (by decide) (fun _ => rfl) (fun h => absurd h (by decide)) (fun h => absurd h (by decide)) (fun _ => rfl) (fun _ => rfl) (fun _ => rfl)
theorem opTime {pl v : Int32} : ∀ nx σ, OpH V0 lo nx σ 28 pl 0 (-1) (-1) 0 1000000 false false false (zV, zR) (zV, zR) (zV, zR) (dVal 23 0 0 zV zV zV).2 ∧ oV (kK 28) 0 0 (hiC 1000000) (kT 28 (-1)) zV zV zV = (dVal 23 0 0 zV zV zV).1 := by
  intro nx σ
  refine ⟨⟨by decide, bdF_0, fun h => absurd h (by decide), fun h => absurd h (by decide), fun h => absurd h (by decide), kd21 (by decide), fun h => by cases h⟩, ?_⟩
  rw [show kK 28 = 23 by decide, show hiC 1000000 = -1 by decide]
  show _ = oV 23 0 0 (-1) 0 zV zV zV
  exact oV_congr (by decide) (fun _ => rfl) (fun h => absurd h (by decide)) (fun h => absurd h (by decide)) (fun _ => rfl) (fun _ => rfl) (fun _ => rfl)
theorem opStep {pl v : Int32} : ∀ nx σ, OpH V0 lo nx σ 29 pl 0 (-1) (-1) 0 1000000 false false false (zV, zR) (zV, zR) (zV, zR) (dVal 24 0 0 zV zV zV).2 ∧ oV (kK 29) 0 0 (hiC 1000000) (kT 29 (-1)) zV zV zV = (dVal 24 0 0 zV zV zV).1 := by
  intro nx σ
  refine ⟨⟨by decide, bdF_0, fun h => absurd h (by decide), fun h => absurd h (by decide), fun h => absurd h (by decide), kd21 (by decide), fun h => by cases h⟩, ?_⟩
  rw [show kK 29 = 24 by decide, show hiC 1000000 = -1 by decide]
  show _ = oV 24 0 0 (-1) 0 zV zV zV
  exact oV_congr (by decide) (fun _ => rfl) (fun h => absurd h (by decide)) (fun h => absurd h (by decide)) (fun _ => rfl) (fun _ => rfl) (fun _ => rfl)
theorem sortE {rr : Int32} : ∃ sv, FX5_sortOf rr σ = some (sv, σ) ∧ (rr = -1 → sv = -1) ∧ ∀ j, j < 44 → rr = nI j → sv = σ.2.2.1 32 j := by
  rw [FX5_sortOf]
  by_cases e : rr = -1
  · rw [if_pos e]
    exact ⟨-1, rfl, fun _ => rfl, fun j hj h => absurd (h.symm.trans e) (nI_n1 (by omega))⟩
  · rw [if_neg e]
    refine ⟨_, rfl, fun h => absurd h e, fun j hj h => ?_⟩
    rw [h, gI hj (by decide)]
/-- what a name that is told stands for -/
theorem nameNI {s n : Int32} {D : Den} {w : Int64} (hG : GC c τ0 V0 L) (hF : Fr τ0 lo σ) (hV : ∀ q, V0 q → q < lo.1) (hw : c.2.2.2 w = some (s, n, D)) (hs : s ≠ 0) {j : Nat} (hj : j < 44) (hf : FX5_find L w σ = some (nI j, σ)) : NI V0 lo nx false σ (σ.2.2.1 34 j) D ∧ (s = 1 ∨ s = 3 → NI V0 lo nx true σ (σ.2.2.1 34 j) D) := by
  obtain ⟨g1, g2, g3⟩ := hG
  obtain ⟨j', hj', f1, f2, f3, f4, f5⟩ := (g3 w).2 s n D hw
  have ej : j' = j := by
    have := f1 σ hF.nm
    rw [hf] at this
    have := congrArg (fun q : Option (Int32 × CS) => q.map Prod.fst) this
    have := Option.some.inj this
    rw [nI_eq (by omega) (by omega)] at this
    exact this.symm
  subst ej
  obtain ⟨q, v1, v2, v3, v4⟩ := f5 hs
  have r34 : σ.2.2.1 34 = τ0.2.2.1 34 := hF.2.2.1 34 (by unfold nNR; decide)
  have row : ∀ n, V0 n → ∀ j, σ.2.2.1 j n = τ0.2.2.1 j n := fun n hn j => hF.2.2.2.1 j n (Or.inl (hV n hn))
  have eV : dnV (ntC σ) q = dnV (ntC τ0) q := dnV_table g1 (fun n hn => ntC_row (row n hn)) v1
  have eR : dnR (ntC σ) (σ.2.2.1 17) q = dnR (ntC τ0) (τ0.2.2.1 17) q := dnR_table g1 (fun n hn => ⟨ntC_row (row n hn), row n hn 17⟩) v1
  rw [r34]
  exact ⟨⟨q, v2, Or.inl v1, eV.trans v3, fun h => by cases h⟩, fun h => ⟨q, v2, Or.inl v1, eV.trans v3, fun _ => eR.trans (v4 h)⟩⟩
/-- a token is taken, and a number of old is told -/
theorem tk53 {s x1 : Int32} (hc : CtP c τ0 V0 lo L) (hS : St c τ0 V0 lo L md nx k σ) (h1 : s ≠ 53) (h2 : s ≠ 54) : (tS c.1 k = s → ∃ σ', (b2 (FX4_expect s σ) fun (_ : Unit) σ_5 => some ((getI 44 (σ_5.2.2.1 34) x1), σ_5)) = some (getI 44 (σ.2.2.1 34) x1, σ') ∧ St c τ0 V0 lo L md nx (k + 1) σ' ∧ Ch σ σ') ∧ (tS c.1 k ≠ s → Tr (b2 (FX4_expect s σ) fun (_ : Unit) σ_5 => some ((getI 44 (σ_5.2.2.1 34) x1), σ_5)) (fun _ σ' => BdS τ0 lo (c.2.1 k) σ')) := by
  obtain ⟨a, b⟩ := expS hc hS (s := s) h1 h2
  refine ⟨fun e => ?_, fun e => ?_⟩
  · obtain ⟨σ', e1, g, ch⟩ := a e
    rw [e1, b2r]
    exact ⟨σ', by rw [ch.2.2], g, ch⟩
  · exact (b e).bind (fun _ σ' q => Tr.ret q)
theorem cNamed {r : Rs} (hc : CtP c τ0 V0 lo L) (hS : St c τ0 V0 lo L md nx k σ) (hs : tS c.1 k = 15) (hr : (ex c 51 (k + 1) fun k2 => some (k2, some (nmF c (k + 1)))) = some r) : Tr (FX4_named L σ) (PO c τ0 V0 lo L true md nx k σ r) := by
  rw [FX4_named]
  obtain ⟨σ1, e1, S1, ch1⟩ := adv hc hS hs (by decide) (by decide)
  rw [e1, b2r]
  obtain ⟨rr, er⟩ := hc.2.2.2.2.2 (σ1.2.1 4306) σ1 S1.1.nm
  rw [er, b2r]
  obtain ⟨sv, es, s1, s2⟩ := sortE (σ := σ1) (rr := rr)
  rw [es, b2r, S1.2.1.2.2.2.1]
  rcases exI (by decide) (by decide) hr with ⟨e51, hr⟩ | ⟨e51, hr⟩
  · have er2 := (Option.some.inj hr).symm
    subst er2
    rw [if_pos e51]
    have t51 := (tS_lit e51 (by decide) (by decide)).1
    have hw : σ1.2.1 4306 = c.2.2.1 (k + 1) := S1.2.1.2.2.2.2.2 (Or.inl t51)
    rw [hw] at er
    -- without a complaint
    have plain : (md = none → ∃ D, nmF c (k + 1) = .ok D ∧ NI V0 lo nx true σ1 (getI 44 (σ1.2.2.1 34) rr) D) → Tr (FX4_named_53 L rr σ1) (PO c τ0 V0 lo L true md nx k σ (k + 1 + 1, some (nmF c (k + 1)))) := by
      intro hn
      rw [FX4_named_53]
      obtain ⟨σ', e', g, ch⟩ := (tk53 (x1 := rr) hc S1 (s := 51) (by decide) (by decide)).1 e51
      rw [e']
      refine Tr.ret ⟨nx, Nat.le_refl _, ?_, fun h D hD => ?_⟩
      · cases md with
        | some e => exact g
        | none =>
          obtain ⟨D, eD, -⟩ := hn rfl
          rw [eD]; exact g
      · obtain ⟨D2, eD, hN⟩ := hn h
        rw [eD] at hD
        have := Except.ok.inj hD
        subst this
        exact ⟨by omega, hN.same ch.2.2, Ext.same0 (ch.2.2.trans ch1.2.2)⟩
    have compl : (md = none → nmF c (k + 1) = .error (2, c.2.1 (k + 1))) → Tr (b2 (FX4_complain 2 (σ1.1 4305) σ1) fun (_ : Unit) σ_8 => FX4_named_53 L rr σ_8) (PO c τ0 V0 lo L true md nx k σ (k + 1 + 1, some (nmF c (k + 1)))) := by
      intro hn
      obtain ⟨σ7, e7, f7, y7, m7, d7, i7⟩ := cComplain (e := 2) (q := σ1.1 4305) S1.1 S1.2.1 S1.2.2 (by decide)
      rw [e7, b2r, FX4_named_53]
      have S7 : St c τ0 V0 lo L (nmdE md (2, σ1.1 4305)) nx (k + 1) σ7 := ⟨f7, y7, m7⟩
      obtain ⟨σ', e', g, ch⟩ := (tk53 (x1 := rr) hc S7 (s := 51) (by decide) (by decide)).1 e51
      rw [e']
      refine Tr.ret ⟨nx, Nat.le_refl _, ?_, fun h D hD => ?_⟩
      · rw [S1.2.1.2.2.2.2.1] at g
        cases md with
        | some e => exact g
        | none => rw [hn rfl]; exact g
      · rw [hn h] at hD; cases hD
    by_cases c1 : sv = 1 ∨ sv = 3
    · have pl := plain (fun h => by
        subst h
        have hG := S1.2.2.1
        cases hw2 : c.2.2.2 (c.2.2.1 (k + 1)) with
        | none =>
          exfalso
          have := (hG.2.2 _).1 hw2 σ1 S1.1.nm
          rw [er] at this
          have e9 : rr = -1 := congrArg Prod.fst (Option.some.inj this)
          have := s1 e9
          rw [this] at c1
          rcases c1 with h | h <;> exact absurd h (by decide)
        | some z =>
          obtain ⟨s, n, D⟩ := z
          obtain ⟨j, hj, f1, f2, f3, f4, f5⟩ := (hG.2.2 _).2 s n D hw2
          have e9 : rr = nI j := by
            have := f1 σ1 S1.1.nm
            rw [er] at this
            exact congrArg Prod.fst (Option.some.inj this)
          have sv9 : sv = s := by
            rw [s2 j hj e9, show σ1.2.2.1 32 = τ0.2.2.1 32 from S1.1.2.2.1 32 (by unfold nNR; decide)]; exact f2
          rw [sv9] at c1
          refine ⟨D, ?_, ?_⟩
          · unfold nmF; rw [hw2]
            show (if s = 1 ∨ s = 3 then Except.ok D else _) = _
            rw [if_pos c1]
          · have := (nameNI (nx := nx) hG S1.1 hc.2.2.1 hw2 (by rcases c1 with h | h <;> rw [h] <;> decide) hj (by rw [er, e9])).2 c1
            rw [e9, gI hj (by decide)]; exact this)
      rcases c1 with c1 | c1
      · rw [if_pos c1]; exact pl
      · rw [c1, if_neg (show ¬ (3 : Int32) = 1 by decide), if_pos rfl]; exact pl
    · rw [if_neg (fun h => c1 (Or.inl h)), if_neg (fun h => c1 (Or.inr h))]
      refine compl (fun h => ?_)
      subst h
      have hG := S1.2.2.1
      unfold nmF
      cases hw2 : c.2.2.2 (c.2.2.1 (k + 1)) with
      | none => rfl
      | some z =>
        obtain ⟨s, n, D⟩ := z
        obtain ⟨j, hj, f1, f2, f3, f4, f5⟩ := (hG.2.2 _).2 s n D hw2
        have e9 : rr = nI j := by
          have := f1 σ1 S1.1.nm
          rw [er] at this
          exact congrArg Prod.fst (Option.some.inj this)
        have sv9 : sv = s := by
          rw [s2 j hj e9, show σ1.2.2.1 32 = τ0.2.2.1 32 from S1.1.2.2.1 32 (by unfold nNR; decide)]; exact f2
        rw [sv9] at c1
        show (if s = 1 ∨ s = 3 then _ else _) = _
        rw [if_neg c1]
  · subst hr
    rw [if_neg e51, FX4_named_53]
    exact (tk53 hc S1 (s := 51) (by decide) (by decide)).2 e51
theorem opSig {pl n : Int32} (hn : ∃ m, m < 8 ∧ n = nI m) : ∀ nx σ, OpH V0 lo nx σ 0 pl n (-1) (-1) 0 1000000 false false false (zV, zR) (zV, zR) (zV, zR) (dVal 21 n 0 zV zV zV).2 ∧ oV (kK 0) n 0 (hiC 1000000) (kT 0 (-1)) zV zV zV = (dVal 21 n 0 zV zV zV).1 := by
  intro nx σ
  refine ⟨⟨by decide, bdF_0, fun h => absurd h (by decide), fun h => absurd h (by decide), fun h => absurd h (by decide), fun _ => hn, fun h => by cases h⟩, ?_⟩
  rw [show kK 0 = 21 by decide, show hiC 1000000 = -1 by decide]
  show _ = oV 21 n 0 (-1) 0 zV zV zV
  exact oV_congr (by decide) (fun _ => rfl) (fun h => absurd h (by decide)) (fun h => absurd h (by decide)) (fun _ => rfl) (fun _ => rfl) (fun _ => rfl)
theorem cVariable (hc : CtP c τ0 V0 lo L) (hS : St c τ0 V0 lo L md nx k σ) (hs : tS c.1 k = 51) : Tr (FX4_variable L σ) (PO c τ0 V0 lo L false md nx k σ (k + 1, some (nmV' c k))) := by
  rw [FX4_variable]
  obtain ⟨rr, er⟩ := hc.2.2.2.2.2 (σ.2.1 4306) σ hS.1.nm
  rw [er, b2r]
  obtain ⟨sv, es, s1, s2⟩ := sortE (σ := σ) (rr := rr)
  rw [es, b2r]
  have t51 := (tS_lit hs (by decide) (by decide)).1
  have hk := hS.2.1.1.1
  have hk4 := (tS_lit hs (by decide) (by decide)).2
  have hw : σ.2.1 4306 = c.2.2.1 k := hS.2.1.2.2.2.2.2 (Or.inl t51)
  rw [hw] at er
  have a70 : ∀ (md1 : Option En) (s9 : CS), St c τ0 V0 lo L md1 nx k s9 → ∃ σ', FX4_variable_70 L rr s9 = some (getI 44 (s9.2.2.1 34) rr, σ') ∧ St c τ0 V0 lo L md1 nx (k + 1) σ' ∧ Ch s9 σ' := by
    intro md1 s9 S9
    rw [FX4_variable_70]
    obtain ⟨σ', e', g, ch⟩ := adv hc S9 hs (by decide) (by decide)
    rw [e', b2r]
    exact ⟨σ', by rw [ch.2.2], g, ch⟩
  -- what the names say, where nothing is wrong
  have look : md = none → (nmV' c k = .error (2, c.2.1 k) ∧ sv ≠ 0 ∧ sv ≠ 2) ∨ (∃ n, nmV' c k = .ok (dVal 21 n 0 zV zV zV) ∧ sv = 0 ∧ getI 44 (σ.2.2.1 34) rr = n ∧ ∃ m, m < 8 ∧ n = nI m) ∨ (∃ D, nmV' c k = .ok D ∧ sv = 2 ∧ NI V0 lo nx false σ (getI 44 (σ.2.2.1 34) rr) D) := by
    intro h
    subst h
    have hG := hS.2.2.1
    cases hw2 : c.2.2.2 (c.2.2.1 k) with
    | none =>
      have := (hG.2.2 _).1 hw2 σ hS.1.nm
      rw [er] at this
      have e9 : rr = -1 := congrArg Prod.fst (Option.some.inj this)
      rw [s1 e9]
      exact Or.inl ⟨by unfold nmV'; rw [hw2], by decide, by decide⟩
    | some z =>
      obtain ⟨s, n, D⟩ := z
      obtain ⟨j, hj, f1, f2, f3, f4, f5⟩ := (hG.2.2 _).2 s n D hw2
      have e9 : rr = nI j := by
        have := f1 σ hS.1.nm
        rw [er] at this
        exact congrArg Prod.fst (Option.some.inj this)
      have sv9 : sv = s := by
        rw [s2 j hj e9, show σ.2.2.1 32 = τ0.2.2.1 32 from hS.1.2.2.1 32 (by unfold nNR; decide)]; exact f2
      rw [sv9, e9, gI hj (by decide)]
      have hv : nmV' c k = (if s = 0 then Except.ok (dVal 21 n 0 zV zV zV) else if s = 2 then Except.ok D else Except.error (2, c.2.1 k)) := by unfold nmV'; rw [hw2]
      rw [hv]
      by_cases c0 : s = 0
      · obtain ⟨g1, g2⟩ := f4 c0
        rw [if_pos c0]
        exact Or.inr (Or.inl ⟨n, rfl, c0, by rw [show σ.2.2.1 34 = τ0.2.2.1 34 from hS.1.2.2.1 34 (by unfold nNR; decide)]; exact g1, g2⟩)
      · rw [if_neg c0]
        by_cases c2 : s = 2
        · rw [if_pos c2]
          exact Or.inr (Or.inr ⟨D, rfl, c2, (nameNI (nx := nx) hG hS.1 hc.2.2.1 hw2 c0 hj (by rw [er, e9])).1⟩)
        · rw [if_neg c2]
          exact Or.inl ⟨rfl, c0, c2⟩
  by_cases c0 : sv = 0
  · rw [if_pos c0, hS.2.1.2.2.2.2.1]
    have H : md = none → nx + 401 ≤ lo.2 + (k + 1) ∧ OpH V0 lo nx σ 0 (c.2.1 k) (getI 44 (σ.2.2.1 34) rr) (-1) (-1) 0 1000000 false false false (zV, zR) (zV, zR) (zV, zR) zR := fun h => by
      have hl := look h
      subst h
      have := hS.2.2.2.2.2
      refine ⟨by omega, ?_⟩
      rcases hl with ⟨-, h, -⟩ | ⟨n, -, -, h1, h2⟩ | ⟨D, -, h, -⟩
      · exact absurd c0 h
      · rw [h1]; exact (opSig h2 nx σ).1
      · rw [c0] at h; exact absurd h (by decide)
    obtain ⟨r, σ', e, n1, n2, nx4, l4, M4, i4⟩ := cF0 (kb := k + 1) hc hS.1 hS.2.1 hS.2.2 (by omega) H
    rw [e, b2r]
    obtain ⟨σ2, e3, g1, g2, g3, g4⟩ := adv2 hc n1 n2 M4 hs (by decide) (by decide)
    rw [e3, b2r]
    refine Tr.ret ⟨nx4, l4, ⟨g1, g2, ?_⟩, fun h D hD => ?_⟩
    · cases md with
      | some e => exact g3
      | none =>
        rcases look rfl with ⟨-, h, -⟩ | ⟨n, h1, -, -, -⟩ | ⟨D, -, h, -⟩
        · exact absurd c0 h
        · rw [h1]; exact g3
        · rw [c0] at h; exact absurd h (by decide)
    · obtain ⟨z1, z2, z3⟩ := i4 h
      rcases look h with ⟨-, h, -⟩ | ⟨n, h1, -, h3, h4⟩ | ⟨D, -, h, -⟩
      · exact absurd c0 h
      · rw [h1] at hD
        have hD := Except.ok.inj hD
        subst hD
        rw [h3] at z2
        have ev := (opSig (V0 := V0) (lo := lo) (pl := c.2.1 k) h4 nx σ).2
        refine ⟨by omega, ?_, z3.same g4.2.2⟩
        have : ((oV (kK 0) n 0 (hiC 1000000) (kT 0 (-1)) zV zV zV, zR) : Den) = dVal 21 n 0 zV zV zV := by
          show ((_, zR) : Den) = ((dVal 21 n 0 zV zV zV).1, zR)
          rw [← ev]
        rw [← this]
        exact z2.same g4.2.2
      · rw [c0] at h; exact absurd h (by decide)
  · rw [if_neg c0]
    by_cases c2 : sv = 2
    · rw [if_pos c2]
      obtain ⟨σ', e', g, ch⟩ := a70 md σ hS
      rw [e']
      refine Tr.ret ⟨nx, Nat.le_refl _, ?_, fun h D hD => ?_⟩
      · cases md with
        | some e => exact g
        | none =>
          rcases look rfl with ⟨-, -, h⟩ | ⟨n, -, h, -⟩ | ⟨D, h1, -, -⟩
          · exact absurd c2 h
          · exact absurd h c0
          · rw [h1]; exact g
      · rcases look h with ⟨-, -, h⟩ | ⟨n, -, h, -⟩ | ⟨D2, h1, -, hN⟩
        · exact absurd c2 h
        · exact absurd h c0
        · rw [h1] at hD
          have := Except.ok.inj hD
          subst this
          exact ⟨by omega, hN.same ch.2.2, Ext.same0 ch.2.2⟩
    · rw [if_neg c2]
      obtain ⟨σ7, e7, f7, y7, m7, d7, i7⟩ := cComplain (e := 2) (q := σ.1 4305) hS.1 hS.2.1 hS.2.2 (by decide)
      rw [e7, b2r]
      obtain ⟨σ', e', g, ch⟩ := a70 _ σ7 ⟨f7, y7, m7⟩
      rw [e']
      have lk : md = none → nmV' c k = .error (2, c.2.1 k) := fun h => by
        rcases look h with ⟨h1, -, -⟩ | ⟨n, -, h, -⟩ | ⟨D, -, h, -⟩
        · exact h1
        · exact absurd h c0
        · exact absurd h c2
      refine Tr.ret ⟨nx, Nat.le_refl _, ?_, fun h D hD => ?_⟩
      · rw [hS.2.1.2.2.2.2.1] at g
        cases md with
        | some e => exact g
        | none => rw [lk rfl]; exact g
      · rw [lk h] at hD; cases hD
theorem deepE {D : Nat} (hc : CtP c τ0 V0 lo L) (hD : D ≤ 10) (hS : St c τ0 V0 lo L md nx k σ) {s : Int32} (hs : tS c.1 k = s) (h1 : s ≠ 53) (h2 : s ≠ 54) : (10 ≤ D → Tr (FX4_deepen (nI D) σ) (fun _ σ' => BdS τ0 lo (c.2.1 k) σ')) ∧ (¬ 10 ≤ D → ∃ σ', FX4_deepen (nI D) σ = some ((), σ') ∧ St c τ0 V0 lo L md nx (k + 1) σ' ∧ Ch σ σ') := by
  refine ⟨fun h => ?_, fun h => ?_⟩
  · rw [FX4_deepen, if_pos ((dep hD).mpr h)]
    exact (failed hS).bind (fun _ σ' q => Tr.ret q)
  · rw [FX4_deepen, if_neg (fun e => h ((dep hD).mp e))]
    obtain ⟨σ', e, g, ch⟩ := adv hc hS hs h1 h2
    exact ⟨σ', by rw [e, b2r], g, ch⟩
def GxB (c : Cx) (τ0 : CS) (V0 : Nat → Prop) (lo : Nat × Nat) (L D : Nat) (f : Bool) (md : Option En) (nx k : Nat) (σ : CS) (x : Option (Int32 × CS)) (g : Nat → MV → Option Rs) (r : Rs) : Prop := ∃ a σ', x = some (a, σ') ∧ ((∃ k', BdS τ0 lo (c.2.1 k') σ' ∧ r = (k', none)) ∨ (D + 1 ≤ 10 ∧ ∃ k1 m, k < k1 ∧ g k1 m = some r ∧ PO c τ0 V0 lo L f md nx k σ (k1, some m) a σ'))
theorem two0 {f1 f2 : Bool} {k1 nx1 nx3 : Nat} {m1 m2 : MV} {a b : Int32} {md2 : Option En} (l1 : nx ≤ nx1) (S1 : St c τ0 V0 lo L (nmd md m1) nx1 k1 σ1) (i1 : md = none → ∀ D, m1 = .ok D → NI V0 lo nx1 f1 σ1 a D ∧ Ext V0 lo nx σ σ1) (hs : σ2.2.2 = σ1.2.2) (l3 : nx1 ≤ nx3) (i3 : md2 = none → ∀ D, m2 = .ok D → NI V0 lo nx3 f2 σ3 b D ∧ Ext V0 lo nx1 σ2 σ3) : md = none → md2 = none → ∀ x y, m1 = .ok x → m2 = .ok y → NI V0 lo nx3 f1 σ3 a x ∧ NI V0 lo nx3 f2 σ3 b y ∧ Ext V0 lo nx σ σ3 := by
  intro h1 h2 x y e1 e2
  subst h1
  subst e1
  obtain ⟨n1, x1⟩ := i1 rfl x rfl
  obtain ⟨n3, x3⟩ := i3 h2 y e2
  have hT : okT (Vx V0 lo.1 nx1) (ntC σ2) := by
    have := MD_okT (show MD c τ0 V0 lo L none nx1 k1 σ1 from S1.2.2)
    have q1 : ntC σ2 = ntC σ1 := by unfold ntC; rw [hs]
    rw [q1]; exact this
  exact ⟨(n1.same hs).ext hT x3 l3, n3, (x1.same hs).trans l1 x3⟩
/-- a formula in braces -/
theorem cBraced {e D d2 : Nat} {f : Nat → MV → Option Rs} {r : Rs} (hc : CtP c τ0 V0 lo L) (ih : CXs c τ0 V0 lo L e 0 0 11 true) (hD : D ≤ 10) (hd : 16 * (10 - D) + 1 + 12 ≤ d2) (hS : St c τ0 V0 lo L md nx k σ) (hr : pBraced c (pBraces c (spX c e) D k) f = some r) : GxB c τ0 V0 lo L D true md nx k σ (FSC4 L d2 6 (nI D) σ) f r := by
  obtain ⟨z, rfl⟩ : ∃ z, d2 = z + 1 := ⟨d2 - 1, by omega⟩
  have hL := hc.2.2.2.1
  show GxB c τ0 V0 lo L D true md nx k σ (FX4_braced (FSC4 L z) (nI D) σ) f r
  rw [FX4_braced, hS.2.1.2.2.2.1]
  rw [pBraced, pBraces] at hr
  by_cases e32 : tS c.1 k = 32
  · obtain ⟨e0, ek⟩ := tS_lit e32 (by decide) (by decide)
    rw [if_pos e32]
    rw [if_pos e0] at hr
    obtain ⟨dp1, dp2⟩ := deepE hc hD hS e32 (by decide) (by decide)
    by_cases hD2 : 10 ≤ D
    · rw [if_pos hD2] at hr
      have er := (Option.some.inj hr).symm
      subst er
      obtain ⟨u, σ1, e1, q1⟩ := dp1 hD2
      rw [e1, b2r]
      obtain ⟨a, σ2, e2, q2⟩ := badFormula (d := z) (a := nI D + 1) (show 1 ≤ L by omega) (by omega) q1
      rw [e2, b2r]
      obtain ⟨u3, σ3, e3, q3⟩ := badExpect q2 (s := 33) (by decide)
      rw [e3, b2r]
      exact ⟨a, σ3, rfl, Or.inl ⟨k, q3, rfl⟩⟩
    · rw [if_neg hD2, go, if_neg ek] at hr
      obtain ⟨σ1, e1, S1, ch1⟩ := dp2 hD2
      rw [e1, b2r, ← nI_succ]
      obtain ⟨a, σ2, e2, q⟩ := callX ih (show D + 1 ≤ 10 by omega) (show _ ≤ z by omega) S1 hr
      rw [e2, b2r]
      rcases q with ⟨k', q, er⟩ | ⟨k3, m, hk3, hr, q⟩
      · obtain ⟨u3, σ3, e3, q3⟩ := badExpect q (s := 33) (by decide)
        rw [e3, b2r]
        exact ⟨a, σ3, rfl, Or.inl ⟨k', q3, er⟩⟩
      · obtain ⟨nx3, l3, S3, i3⟩ := q
        rcases exI (by decide) (by decide) hr with ⟨e33, hr⟩ | ⟨e33, hr⟩
        · obtain ⟨σ3, e3, S4, ch4⟩ := (expS hc S3 (s := 33) (by decide) (by decide)).1 e33
          rw [e3, b2r]
          refine ⟨a, σ3, rfl, Or.inr ⟨by omega, k3 + 1, m, by omega, hr, nx3, l3, S4, fun h D hD => ?_⟩⟩
          obtain ⟨b1, b2, b3⟩ := i3 h D hD
          exact ⟨by omega, b2.same ch4.2.2, (fun q hq j => by rw [ch4.2.2, b3 q hq j, ch1.2.2])⟩
        · obtain ⟨u3, σ3, e3, q3⟩ := (expS hc S3 (s := 33) (by decide) (by decide)).2 e33
          rw [e3, b2r]
          exact ⟨a, σ3, rfl, Or.inl ⟨k3, q3, hr⟩⟩
  · rw [if_neg e32]
    obtain ⟨u, σ1, e1, q1⟩ := failed hS
    rw [e1, b2r]
    refine ⟨-1, σ1, rfl, Or.inl ⟨k, q1, ?_⟩⟩
    by_cases e0 : c.1 k = 32
    · have e400 := tS_no e32 e0
      rw [if_pos e0] at hr
      by_cases hD2 : 10 ≤ D
      · rw [if_pos hD2] at hr; exact (Option.some.inj hr).symm
      · rw [if_neg hD2, go_un e400] at hr; exact (Option.some.inj hr).symm
    · rw [if_neg e0] at hr; exact (Option.some.inj hr).symm
theorem opFront5 {pl l h : Int32} (hb : bdF l h) : ∀ x nx a σ, NI V0 lo nx true σ a x → OpH V0 lo nx σ 5 pl a (-1) (-1) l h true true true x (zV, zR) (zV, zR) (dFront 5 pl l (hiC h) x).2 ∧ oV (kK 5) a l (hiC h) (kT 5 (-1)) x.1 zV zV = (dFront 5 pl l (hiC h) x).1 := by
  intro x nx a σ h1
  refine ⟨⟨by decide, hb, fun _ => h1, fun h => absurd h (by decide), fun h => absurd h (by decide), kd21 (by decide), fun _ A ra rb u1 u2 => ?_⟩, ?_⟩
  · rw [show kK 5 = 0 by decide] at *
    show _ = oR 0 l (hiC h) pl x.1 x.2 zR
    exact oR_congr2 (fun _ => ⟨rfl, rfl⟩) (fun _ => rfl) (fun _ => (u1 (by decide)).1) (fun _ => (u1 (by decide)).2 rfl) (fun h => absurd h (by decide))
  · rw [show kK 5 = 0 by decide]
    show _ = oV 0 0 l (hiC h) 0 x.1 zV zV
    exact oV_congr (by decide) (fun h => absurd h (by decide)) (fun _ => ⟨rfl, rfl⟩) (fun h => absurd h (by decide)) (fun _ => rfl) (fun _ => rfl) (fun _ => rfl)
theorem opFront6 {pl l h : Int32} (hb : bdF l h) : ∀ x nx a σ, NI V0 lo nx true σ a x → OpH V0 lo nx σ 6 pl a (-1) (-1) l h true true true x (zV, zR) (zV, zR) (dFront 6 pl l (hiC h) x).2 ∧ oV (kK 6) a l (hiC h) (kT 6 (-1)) x.1 zV zV = (dFront 6 pl l (hiC h) x).1 := by
  intro x nx a σ h1
  refine ⟨⟨by decide, hb, fun _ => h1, fun h => absurd h (by decide), fun h => absurd h (by decide), kd21 (by decide), fun _ A ra rb u1 u2 => ?_⟩, ?_⟩
  · rw [show kK 6 = 1 by decide] at *
    show _ = oR 1 l (hiC h) pl x.1 x.2 zR
    exact oR_congr2 (fun _ => ⟨rfl, rfl⟩) (fun _ => rfl) (fun _ => (u1 (by decide)).1) (fun _ => (u1 (by decide)).2 rfl) (fun h => absurd h (by decide))
  · rw [show kK 6 = 1 by decide]
    show _ = oV 1 0 l (hiC h) 0 x.1 zV zV
    exact oV_congr (by decide) (fun h => absurd h (by decide)) (fun _ => ⟨rfl, rfl⟩) (fun h => absurd h (by decide)) (fun _ => rfl) (fun _ => rfl) (fun _ => rfl)
theorem opFront7 {pl l h : Int32} (hb : bdF l h) : ∀ x nx a σ, NI V0 lo nx true σ a x → OpH V0 lo nx σ 7 pl a (-1) (-1) l h true true true x (zV, zR) (zV, zR) (dFront 7 pl l (hiC h) x).2 ∧ oV (kK 7) a l (hiC h) (kT 7 (-1)) x.1 zV zV = (dFront 7 pl l (hiC h) x).1 := by
  intro x nx a σ h1
  refine ⟨⟨by decide, hb, fun _ => h1, fun h => absurd h (by decide), fun h => absurd h (by decide), kd21 (by decide), fun _ A ra rb u1 u2 => ?_⟩, ?_⟩
  · rw [show kK 7 = 2 by decide] at *
    show _ = oR 2 l (hiC h) pl x.1 x.2 zR
    exact oR_congr2 (fun _ => ⟨rfl, rfl⟩) (fun _ => rfl) (fun _ => (u1 (by decide)).1) (fun _ => (u1 (by decide)).2 rfl) (fun h => absurd h (by decide))
  · rw [show kK 7 = 2 by decide]
    show _ = oV 2 0 l (hiC h) 0 x.1 zV zV
    exact oV_congr (by decide) (fun h => absurd h (by decide)) (fun _ => ⟨rfl, rfl⟩) (fun h => absurd h (by decide)) (fun _ => rfl) (fun _ => rfl) (fun _ => rfl)
theorem opFront8 {pl l h : Int32} (hb : bdF l h) : ∀ x nx a σ, NI V0 lo nx true σ a x → OpH V0 lo nx σ 8 pl a (-1) (-1) l h true true true x (zV, zR) (zV, zR) (dFront 8 pl l (hiC h) x).2 ∧ oV (kK 8) a l (hiC h) (kT 8 (-1)) x.1 zV zV = (dFront 8 pl l (hiC h) x).1 := by
  intro x nx a σ h1
  refine ⟨⟨by decide, hb, fun _ => h1, fun h => absurd h (by decide), fun h => absurd h (by decide), kd21 (by decide), fun _ A ra rb u1 u2 => ?_⟩, ?_⟩
  · rw [show kK 8 = 3 by decide] at *
    show _ = oR 3 l (hiC h) pl x.1 x.2 zR
    exact oR_congr2 (fun _ => ⟨rfl, rfl⟩) (fun _ => rfl) (fun _ => (u1 (by decide)).1) (fun _ => (u1 (by decide)).2 rfl) (fun h => absurd h (by decide))
  · rw [show kK 8 = 3 by decide]
    show _ = oV 3 0 l (hiC h) 0 x.1 zV zV
    exact oV_congr (by decide) (fun h => absurd h (by decide)) (fun _ => ⟨rfl, rfl⟩) (fun h => absurd h (by decide)) (fun _ => rfl) (fun _ => rfl) (fun _ => rfl)
theorem opFront9 {pl l h : Int32} (hb : bdF l h) : ∀ x nx a σ, NI V0 lo nx true σ a x → OpH V0 lo nx σ 9 pl a (-1) (-1) l h true true true x (zV, zR) (zV, zR) (dFront 9 pl l (hiC h) x).2 ∧ oV (kK 9) a l (hiC h) (kT 9 (-1)) x.1 zV zV = (dFront 9 pl l (hiC h) x).1 := by
  intro x nx a σ h1
  refine ⟨⟨by decide, hb, fun _ => h1, fun h => absurd h (by decide), fun h => absurd h (by decide), kd21 (by decide), fun _ A ra rb u1 u2 => ?_⟩, ?_⟩
  · rw [show kK 9 = 4 by decide] at *
    show _ = oR 4 l (hiC h) pl x.1 x.2 zR
    exact oR_congr2 (fun _ => ⟨rfl, rfl⟩) (fun _ => rfl) (fun _ => (u1 (by decide)).1) (fun _ => (u1 (by decide)).2 rfl) (fun h => absurd h (by decide))
  · rw [show kK 9 = 4 by decide]
    show _ = oV 4 0 l (hiC h) 0 x.1 zV zV
    exact oV_congr (by decide) (fun h => absurd h (by decide)) (fun _ => ⟨rfl, rfl⟩) (fun h => absurd h (by decide)) (fun _ => rfl) (fun _ => rfl) (fun _ => rfl)
theorem opFront10 {pl l h : Int32} (hb : bdF l h) : ∀ x nx a σ, NI V0 lo nx true σ a x → OpH V0 lo nx σ 10 pl a (-1) (-1) l h true true true x (zV, zR) (zV, zR) (dFront 10 pl l (hiC h) x).2 ∧ oV (kK 10) a l (hiC h) (kT 10 (-1)) x.1 zV zV = (dFront 10 pl l (hiC h) x).1 := by
  intro x nx a σ h1
  refine ⟨⟨by decide, hb, fun _ => h1, fun h => absurd h (by decide), fun h => absurd h (by decide), kd21 (by decide), fun _ A ra rb u1 u2 => ?_⟩, ?_⟩
  · rw [show kK 10 = 5 by decide] at *
    show _ = oR 5 l (hiC h) pl x.1 x.2 zR
    exact oR_congr2 (fun _ => ⟨rfl, rfl⟩) (fun _ => rfl) (fun _ => (u1 (by decide)).1) (fun _ => (u1 (by decide)).2 rfl) (fun h => absurd h (by decide))
  · rw [show kK 10 = 5 by decide]
    show _ = oV 5 0 l (hiC h) 0 x.1 zV zV
    exact oV_congr (by decide) (fun h => absurd h (by decide)) (fun _ => ⟨rfl, rfl⟩) (fun h => absurd h (by decide)) (fun _ => rfl) (fun _ => rfl) (fun _ => rfl)
/-- a part of one operand -/
theorem cP42 {d z D k1 : Nat} {s : Int32} {bd : Except En (Int32 × Int32)} {r : Rs} (hc : CtP c τ0 V0 lo L) (ih : CXs c τ0 V0 lo L d 3 4 7 true) (hD : D + 1 ≤ 10) (hz : 16 * (10 - (D + 1)) + 7 + 12 ≤ z) (hop : ∀ {l h : Int32}, bdF l h → ∀ x nx a σ, NI V0 lo nx true σ a x → OpH V0 lo nx σ s (c.2.1 k) a (-1) (-1) l h true true true x (zV, zR) (zV, zR) (dFront s (c.2.1 k) l (hiC h) x).2 ∧ oV (kK s) a l (hiC h) (kT s (-1)) x.1 zV zV = (dFront s (c.2.1 k) l (hiC h) x).1) (hS : St c τ0 V0 lo L md nx k σ) (hk : k < k1) (S1 : St c τ0 V0 lo L (nmdB md bd) nx k1 σ1) (r1 : σ1.2.2 = σ.2.2) (b1 : ∀ q, bd = .ok q → σ1.1 4310 = q.1 ∧ hiC (σ1.1 4311) = q.2 ∧ bdF (σ1.1 4310) (σ1.1 4311)) (hr : (rb (spX c d 3 (D + 1) k1) fun k3 a => some (k3, some (mvB (dFront s (c.2.1 k)) bd a))) = some r) : Tr (FX4_prefixed_42 (FSC4 L z) (nI D) s (c.2.1 k) σ1) (PO c τ0 V0 lo L true md nx k σ r) := by
  rw [FX4_prefixed_42, ← nI_succ]
  obtain ⟨a, σ2, e2, q⟩ := callX ih hD hz S1 hr
  rw [e2, b2r]
  rcases q with ⟨k', q, er⟩ | ⟨k3, m, hk3, hr, q⟩
  · subst er
    refine (badAdd hc.2.1 hc.2.2.2.2.1 q).bind (fun r5 σ5 q5 => ?_)
    exact (badBound hc.2.1 q5.1 q5.2).bind (fun _ σ6 q6 => Tr.ret q6)
  · have er := (Option.some.inj hr).symm
    subst er
    obtain ⟨nx4, l4, S4, i4⟩ := q
    have hk5 : k3 ≤ 400 := S4.2.1.1.1
    have H : nmd (nmdB md bd) m = none → nx4 + 401 ≤ lo.2 + k3 ∧ OpH V0 lo nx4 σ2 s (c.2.1 k) a (-1) (-1) (σ1.1 4310) (σ1.1 4311) true true true (vl m) (zV, zR) (zV, zR) (dFront s (c.2.1 k) (σ1.1 4310) (hiC (σ1.1 4311)) (vl m)).2 := by
      intro h
      obtain ⟨h1, y, e2⟩ := nmd_n h
      obtain ⟨h0, bq, eb⟩ := nmdB_n h1
      obtain ⟨z1, z2, z3⟩ := i4 h1 y e2
      subst h0
      have := hS.2.2.2.2.2
      subst e2
      exact ⟨by omega, (hop (b1 bq eb).2.2 _ _ _ _ z2).1⟩
    obtain ⟨rr, σ', e5, n1, n2, nx5, l5, M5, i5⟩ := cF1 (kb := k3) (b := -1) hc S4.1 S4.2.1 S4.2.2 hk5 H
    refine ⟨rr, σ', e5, nx5, by omega, ⟨n1, n2, by rw [nmd_mvB]; exact M5⟩, fun h0 Dn hDn => ?_⟩
    obtain ⟨bq, x, eb, e1, eD⟩ := mvB_ok hDn
    subst h0; subst eb; subst e1; subst eD
    obtain ⟨g1, g2, g3⟩ := b1 bq rfl
    obtain ⟨z1, z2, z3⟩ := i4 rfl x rfl
    obtain ⟨y1, y2, y3⟩ := i5 rfl
    have ev := (hop g3 x nx4 a σ2 z2).2
    refine ⟨by omega, ?_, (show Ext V0 lo nx σ σ2 from fun q hq j => by rw [z3 q hq j, r1]).trans l4 y3⟩
    have : ((oV (kK s) a (σ1.1 4310) (hiC (σ1.1 4311)) (kT s (-1)) x.1 zV zV, (dFront s (c.2.1 k) (σ1.1 4310) (hiC (σ1.1 4311)) x).2) : Den) = dFront s (c.2.1 k) bq.1 bq.2 x := by rw [ev, g1, g2]
    rw [← this]
    exact y2
theorem bad42 {z D : Nat} {s pl : Int32} (hlo : lo.2 ≤ 1200) (he : τ0.1 1308 = nI (lo.2)) (hL : 1 ≤ L) (hz : 5 ≤ z) (h : BdS τ0 lo p σ) : Tr (FX4_prefixed_42 (FSC4 L z) (nI D) s pl σ) (fun _ σ' => BdS τ0 lo p σ') := by
  rw [FX4_prefixed_42]
  refine (badOne hL hz h).bind (fun a σ1 q => ?_)
  refine (badAdd hlo he q).bind (fun r5 σ5 q5 => ?_)
  exact (badBound hlo q5.1 q5.2).bind (fun _ σ6 q6 => Tr.ret q6)
theorem cCompare {d z D : Nat} {r : Rs} (hc : CtP c τ0 V0 lo L) (ih : CXs c τ0 V0 lo L d 4 8 5 false) (hD : D ≤ 10) (hz : 16 * (10 - D) + 5 + 12 ≤ z) (hS : St c τ0 V0 lo L md nx k σ) (hr : (rb (spX c d 4 D k) fun k1 a => if 44 ≤ (c.1 k1).toInt ∧ (c.1 k1).toInt ≤ 49 then go k1 fun k2 => rb (spX c d 4 D k2) fun k3 b => some (k3, some (mo2 (dCmp (c.1 k1) (c.2.1 k)) a b)) else some (k1, none)) = some r) : Tr (FX4_compare (FSC4 L z) (nI D) σ) (PO c τ0 V0 lo L true md nx k σ r) := by
  have hL := hc.2.2.2.1
  rw [FX4_compare, hS.2.1.2.2.2.2.1]
  obtain ⟨a, σ1, e1, q⟩ := callX ih hD hz hS hr
  rw [e1, b2r]
  rcases q with ⟨k', q, er⟩ | ⟨k1, m1, hk1, hr, q⟩
  · subst er
    rw [q.2.1, if_neg (show ¬ (54 : Int32) < 44 by decide), if_neg (show ¬ (54 : Int32) ≤ 49 by decide)]
    exact badCmp31 q
  obtain ⟨nx1, l1, S1, i1⟩ := id q
  have hs := S1.2.1.2.2.2.1
  have hr : (if 44 ≤ (c.1 k1).toInt ∧ (c.1 k1).toInt ≤ 49 then go k1 (fun k2 => rb (spX c d 4 D k2) fun k3 b => some (k3, some (mo2 (dCmp (c.1 k1) (c.2.1 k)) m1 b))) else some (k1, none)) = some r := hr
  have one : ∀ s : Int32, tS c.1 k1 = s → s ≠ 53 → s ≠ 54 → (44 ≤ s.toInt ∧ s.toInt ≤ 49) → (∀ x y nx a b σ, NI V0 lo nx false σ a x → NI V0 lo nx false σ b y → OpH V0 lo nx σ s (c.2.1 k) a b (-1) 0 1000000 true false false x y (zV, zR) (dCmp s (c.2.1 k) x y).2 ∧ oV (kK s) a 0 (hiC 1000000) (kT s (-1)) x.1 y.1 zV = (dCmp s (c.2.1 k) x y).1) → Tr (b2 (FX4_advance σ1) fun (_ : Unit) σ_5 => b2 (FSC4 L z 8 (nI D) σ_5) fun r_6 σ_6 => b2 (FX3_add (σ1.1 4304) (c.2.1 k) a r_6 σ_6) fun r_7 σ_7 => some (r_7, σ_7)) (PO c τ0 V0 lo L true md nx k σ r) := by
    intro s e h53 h54 hin hop
    obtain ⟨e0, ek⟩ := tS_lit e h54 h53
    rw [e0, if_pos hin, go, if_neg ek] at hr
    obtain ⟨σ2, e2, S2, ch2⟩ := adv hc S1 e h53 h54
    rw [e2, b2r]
    obtain ⟨b, σ3, e3, q⟩ := callX ih hD hz S2 hr
    rw [e3, b2r, show σ1.1 4304 = s from hs.trans e]
    rcases q with ⟨k', q, er⟩ | ⟨k3, m, hk3, hr, q⟩
    · subst er
      exact Tr.id ((badAdd hc.2.1 hc.2.2.2.2.1 q).mono (fun r σ h => h.1))
    · have er := (Option.some.inj hr).symm
      subst er
      exact Tr.id (binNode hc hS hop l1 S1 i1 ch2.2.2 (by omega) q)
  rw [hs]
  by_cases e44 : tS c.1 k1 = 44
  · rw [e44, if_neg (show ¬ (44 : Int32) < 44 by decide), if_pos (show (44 : Int32) ≤ 49 by decide)]
    have := one 44 e44 (by decide) (by decide) (by decide) opCmp44
    rw [hs, e44] at this
    exact this
  by_cases e45 : tS c.1 k1 = 45
  · rw [e45, if_neg (show ¬ (45 : Int32) < 44 by decide), if_pos (show (45 : Int32) ≤ 49 by decide)]
    have := one 45 e45 (by decide) (by decide) (by decide) opCmp45
    rw [hs, e45] at this
    exact this
  by_cases e46 : tS c.1 k1 = 46
  · rw [e46, if_neg (show ¬ (46 : Int32) < 44 by decide), if_pos (show (46 : Int32) ≤ 49 by decide)]
    have := one 46 e46 (by decide) (by decide) (by decide) opCmp46
    rw [hs, e46] at this
    exact this
  by_cases e47 : tS c.1 k1 = 47
  · rw [e47, if_neg (show ¬ (47 : Int32) < 44 by decide), if_pos (show (47 : Int32) ≤ 49 by decide)]
    have := one 47 e47 (by decide) (by decide) (by decide) opCmp47
    rw [hs, e47] at this
    exact this
  by_cases e48 : tS c.1 k1 = 48
  · rw [e48, if_neg (show ¬ (48 : Int32) < 44 by decide), if_pos (show (48 : Int32) ≤ 49 by decide)]
    have := one 48 e48 (by decide) (by decide) (by decide) opCmp48
    rw [hs, e48] at this
    exact this
  by_cases e49 : tS c.1 k1 = 49
  · rw [e49, if_neg (show ¬ (49 : Int32) < 44 by decide), if_pos (show (49 : Int32) ≤ 49 by decide)]
    have := one 49 e49 (by decide) (by decide) (by decide) opCmp49
    rw [hs, e49] at this
    exact this
  have bad : tS c.1 k1 = 54 ∨ ¬ (44 ≤ (c.1 k1).toInt ∧ (c.1 k1).toInt ≤ 49) := by
    by_cases z : 44 ≤ (c.1 k1).toInt ∧ (c.1 k1).toInt ≤ 49
    · left
      unfold tS
      by_cases e4 : k1 = 400 ∧ c.1 k1 ≠ 53
      · rw [if_pos e4]
      · exfalso
        have w : tS c.1 k1 = c.1 k1 := by unfold tS; rw [if_neg e4]
        have a44 : (c.1 k1).toInt ≠ 44 := fun z => e44 (w.trans (Int32.toInt_inj.mp (by rw [z]; decide)))
        have a45 : (c.1 k1).toInt ≠ 45 := fun z => e45 (w.trans (Int32.toInt_inj.mp (by rw [z]; decide)))
        have a46 : (c.1 k1).toInt ≠ 46 := fun z => e46 (w.trans (Int32.toInt_inj.mp (by rw [z]; decide)))
        have a47 : (c.1 k1).toInt ≠ 47 := fun z => e47 (w.trans (Int32.toInt_inj.mp (by rw [z]; decide)))
        have a48 : (c.1 k1).toInt ≠ 48 := fun z => e48 (w.trans (Int32.toInt_inj.mp (by rw [z]; decide)))
        have a49 : (c.1 k1).toInt ≠ 49 := fun z => e49 (w.trans (Int32.toInt_inj.mp (by rw [z]; decide)))
        omega
    · exact Or.inr z
  have fin : Tr (FX4_compare_31 (FSC4 L z) σ1) (PO c τ0 V0 lo L true md nx k σ r) := by
    rw [FX4_compare_31]
    obtain ⟨u, σ2, e2, q2⟩ := failed S1
    rw [e2, b2r]
    refine Tr.ret ?_
    have er : r = (k1, none) := by
      by_cases z : 44 ≤ (c.1 k1).toInt ∧ (c.1 k1).toInt ≤ 49
      · rw [if_pos z] at hr
        have e400 : k1 = 400 := by
          rcases bad with b | b
          · rcases un_tS b with e | e
            · rw [e] at z; exact absurd z (by decide)
            · exact e.1
          · exact absurd z b
        rw [go_un e400] at hr
        exact (Option.some.inj hr).symm
      · rw [if_neg z] at hr; exact (Option.some.inj hr).symm
    subst er
    exact q2
  by_cases g1 : tS c.1 k1 < 44
  · rw [if_pos g1]; exact fin
  · rw [if_neg g1]
    by_cases g2 : tS c.1 k1 ≤ 49
    · exfalso
      have h1 := Int32.le_iff_toInt_le.mp (Int32.not_lt.mp g1)
      have h2 := Int32.le_iff_toInt_le.mp g2
      rw [show (44 : Int32).toInt = 44 by decide] at h1
      rw [show (49 : Int32).toInt = 49 by decide] at h2
      have a44 : (tS c.1 k1).toInt ≠ 44 := fun z => e44 (Int32.toInt_inj.mp (by rw [z]; decide))
      have a45 : (tS c.1 k1).toInt ≠ 45 := fun z => e45 (Int32.toInt_inj.mp (by rw [z]; decide))
      have a46 : (tS c.1 k1).toInt ≠ 46 := fun z => e46 (Int32.toInt_inj.mp (by rw [z]; decide))
      have a47 : (tS c.1 k1).toInt ≠ 47 := fun z => e47 (Int32.toInt_inj.mp (by rw [z]; decide))
      have a48 : (tS c.1 k1).toInt ≠ 48 := fun z => e48 (Int32.toInt_inj.mp (by rw [z]; decide))
      have a49 : (tS c.1 k1).toInt ≠ 49 := fun z => e49 (Int32.toInt_inj.mp (by rw [z]; decide))
      omega
    · rw [if_neg g2]; exact fin
theorem cOne {d : Nat} (hc : CtP c τ0 V0 lo L) (hn : NumOK c) (ih : ClsOK c τ0 V0 lo L d) : CXs c τ0 V0 lo L (d + 1) 3 4 7 true := by
  intro D k nx md σ d2 hD hd hS r hr
  have hL := hc.2.2.2.1
  by_cases hu : tS c.1 k = 54
  · exact uncl hS hu (fun p h => badOne (by omega) (by omega) h) hr
  obtain ⟨z, rfl⟩ : ∃ z, d2 = z + 1 := ⟨d2 - 1, by omega⟩
  have hr : pOne c (spX c d) D k = some r := hr
  show Tr (FX4_one (FSC4 L z) L (nI D) σ) _
  have hsc : tS c.1 k = c.1 k := by
    unfold tS at hu ⊢
    split
    · next e => rw [if_pos e] at hu; exact absurd rfl hu
    · rfl
  have hs : σ.1 4304 = c.1 k := hS.2.1.2.2.2.1.trans hsc
  have hk4 : ∀ s, c.1 k = s → s ≠ 53 → s ≠ 54 → k ≠ 400 := fun s e h1 h2 => (tS_lit (hsc.trans e) h2 h1).2
  rw [FX4_one, hs]
  rw [pOne] at hr
  obtain ⟨y, rfl⟩ : ∃ y, z = y + 1 := ⟨z - 1, by omega⟩
  have pre : ∀ (s : Int32) (i : Nat), c.1 k = s → s ≠ 53 → s ≠ 54 → (s = 9 ∨ s = 10 → i = 1) → (s ≠ 9 → s ≠ 10 → i = 0) → (∀ {l h : Int32}, bdF l h → ∀ x nx a σ, NI V0 lo nx true σ a x → OpH V0 lo nx σ s (c.2.1 k) a (-1) (-1) l h true true true x (zV, zR) (zV, zR) (dFront s (c.2.1 k) l (hiC h) x).2 ∧ oV (kK s) a l (hiC h) (kT s (-1)) x.1 zV zV = (dFront s (c.2.1 k) l (hiC h) x).1) → (if 10 ≤ D then some (k, none) else go k fun k1 => (if i = 1 then pBnd c k1 else (fun f => f k1 (.ok (0, -1)))) fun k2 bd => rb (spX c d 3 (D + 1) k2) fun k3 a => some (k3, some (mvB (dFront s (c.2.1 k)) bd a))) = some r → Tr (FSC4 L (y + 1) 5 (nI D) σ) (PO c τ0 V0 lo L true md nx k σ r) := by
    intro s i e h53 h54 hi1 hi0 hop hr
    show Tr (FX4_prefixed (FSC4 L y) (nI D) σ) _
    have ets := hsc.trans e
    rw [FX4_prefixed, hs, e, hS.2.1.2.2.2.2.1]
    obtain ⟨dp1, dp2⟩ := deepE hc hD hS ets h53 h54
    by_cases hD2 : 10 ≤ D
    · rw [if_pos hD2] at hr
      have er := (Option.some.inj hr).symm
      subst er
      obtain ⟨u, σ1, e1, q1⟩ := dp1 hD2
      rw [e1, b2r]
      have qq : BdS τ0 lo (c.2.1 k) (tI (tI σ1 4310 0) 4311 1000000) := (q1.lh (Or.inl rfl)).lh (Or.inr rfl)
      have b38 : Tr (FX4_prefixed_38 (FSC4 L y) (nI D) s (c.2.1 k) (tI (tI σ1 4310 0) 4311 1000000)) (PO c τ0 V0 lo L true md nx k σ (k, none)) := by
        rw [FX4_prefixed_38]
        exact (badBounds qq).bind (fun _ σ3 q3 => bad42 hc.2.1 hc.2.2.2.2.1 (by omega) (by omega) q3)
      by_cases c9 : s = 9
      · rw [if_pos c9]; exact b38
      · rw [if_neg c9]
        by_cases c10 : s = 10
        · rw [if_pos c10]; exact b38
        · rw [if_neg c10]
          exact bad42 hc.2.1 hc.2.2.2.2.1 (by omega) (by omega) qq
    · rw [if_neg hD2, go, if_neg (hk4 s e h53 h54)] at hr
      obtain ⟨σ1, e1, S1, ch1⟩ := dp2 hD2
      rw [e1, b2r]
      have S1' : St c τ0 V0 lo L md nx (k + 1) (tI (tI σ1 4310 0) 4311 1000000) := (S1.lh (Or.inl rfl)).lh (Or.inr rfl)
      have b38 : i = 1 → Tr (FX4_prefixed_38 (FSC4 L y) (nI D) s (c.2.1 k) (tI (tI σ1 4310 0) 4311 1000000)) (PO c τ0 V0 lo L true md nx k σ r) := by
        intro hi
        rw [if_pos hi] at hr
        rw [FX4_prefixed_38]
        obtain ⟨σ3, e3, q3⟩ := cBnd hc hn S1' hr
        rw [e3, b2r]
        rcases q3 with ⟨k', q3, er⟩ | ⟨k3, bd, hk3, hr, S3, r3, b3⟩
        · subst er
          exact bad42 hc.2.1 hc.2.2.2.2.1 (by omega) (by omega) q3
        · exact cP42 hc ih.2.2.2.2.1 (by omega) (by omega) hop hS (by omega) S3 (r3.trans ch1.2.2) b3 hr
      by_cases c9 : s = 9
      · rw [if_pos c9]; exact b38 (hi1 (Or.inl c9))
      · rw [if_neg c9]
        by_cases c10 : s = 10
        · rw [if_pos c10]; exact b38 (hi1 (Or.inr c10))
        · rw [if_neg c10]
          have hi := hi0 c9 c10
          rw [if_neg (by omega)] at hr
          refine cP42 (bd := .ok (0, -1)) hc ih.2.2.2.2.1 (by omega) (by omega) hop hS (show k < k + 1 by omega) ?_ ch1.2.2 (fun q hq => ?_) hr
          · have : nmdB md (.ok (0, -1)) = md := by cases md <;> rfl
            rw [this]; exact S1'
          · have hq := Except.ok.inj hq
            rw [← hq, tI_g, tI_o (by decide), tI_g]
            exact ⟨rfl, by decide, bdF_0⟩
  by_cases e5 : c.1 k = 5
  · rw [e5, if_pos rfl]
    rw [if_pos (by simp [e5])] at hr
    rw [e5] at hr
    exact Tr.id (pre 5 0 e5 (by decide) (by decide) (by decide) (by decide) opFront5 hr)
  by_cases e6 : c.1 k = 6
  · rw [e6, if_neg (show ¬ ((6 : Int32) = 5) by decide), if_pos rfl]
    rw [if_pos (by simp [e6])] at hr
    rw [e6] at hr
    exact Tr.id (pre 6 0 e6 (by decide) (by decide) (by decide) (by decide) opFront6 hr)
  by_cases e7 : c.1 k = 7
  · rw [e7, if_neg (show ¬ ((7 : Int32) = 5) by decide), if_neg (show ¬ ((7 : Int32) = 6) by decide), if_pos rfl]
    rw [if_pos (by simp [e7])] at hr
    rw [e7] at hr
    exact Tr.id (pre 7 0 e7 (by decide) (by decide) (by decide) (by decide) opFront7 hr)
  by_cases e8 : c.1 k = 8
  · rw [e8, if_neg (show ¬ ((8 : Int32) = 5) by decide), if_neg (show ¬ ((8 : Int32) = 6) by decide), if_neg (show ¬ ((8 : Int32) = 7) by decide), if_pos rfl]
    rw [if_pos (by simp [e8])] at hr
    rw [e8] at hr
    exact Tr.id (pre 8 0 e8 (by decide) (by decide) (by decide) (by decide) opFront8 hr)
  by_cases e9 : c.1 k = 9
  · rw [e9, if_neg (show ¬ ((9 : Int32) = 5) by decide), if_neg (show ¬ ((9 : Int32) = 6) by decide), if_neg (show ¬ ((9 : Int32) = 7) by decide), if_neg (show ¬ ((9 : Int32) = 8) by decide), if_pos rfl]
    rw [if_neg (by rw [e9]; decide), if_pos (by simp [e9])] at hr
    rw [e9] at hr
    exact Tr.id (pre 9 1 e9 (by decide) (by decide) (by decide) (by decide) opFront9 hr)
  by_cases e10 : c.1 k = 10
  · rw [e10, if_neg (show ¬ ((10 : Int32) = 5) by decide), if_neg (show ¬ ((10 : Int32) = 6) by decide), if_neg (show ¬ ((10 : Int32) = 7) by decide), if_neg (show ¬ ((10 : Int32) = 8) by decide), if_neg (show ¬ ((10 : Int32) = 9) by decide), if_pos rfl]
    rw [if_neg (by rw [e10]; decide), if_pos (by simp [e10])] at hr
    rw [e10] at hr
    exact Tr.id (pre 10 1 e10 (by decide) (by decide) (by decide) (by decide) opFront10 hr)
  rw [if_neg (show ¬ (c.1 k = 5 ∨ c.1 k = 6 ∨ c.1 k = 7 ∨ c.1 k = 8) by simp [e5, e6, e7, e8]), if_neg (show ¬ (c.1 k = 9 ∨ c.1 k = 10) by simp [e9, e10])] at hr
  by_cases e32 : c.1 k = 32
  · rw [e32, if_neg (show ¬ ((32 : Int32) = 5) by decide), if_neg (show ¬ ((32 : Int32) = 6) by decide), if_neg (show ¬ ((32 : Int32) = 7) by decide), if_neg (show ¬ ((32 : Int32) = 8) by decide), if_neg (show ¬ ((32 : Int32) = 9) by decide), if_neg (show ¬ ((32 : Int32) = 10) by decide), if_neg (show ¬ ((32 : Int32) = 15) by decide), if_neg (show ¬ ((32 : Int32) = 16) by decide), if_neg (show ¬ ((32 : Int32) = 17) by decide), if_pos rfl]
    rw [if_pos e32] at hr
    obtain ⟨a, σ', e', q⟩ := cBraced hc ih.1 hD (show _ ≤ y + 1 by omega) hS hr
    rw [e', b2r]
    refine Tr.ret ?_
    rcases q with ⟨k', q, er⟩ | ⟨-, k3, m, hk3, hr, q⟩
    · subst er; exact q
    · have er := (Option.some.inj hr).symm
      subst er; exact q
  rw [if_neg e32] at hr
  by_cases e16 : c.1 k = 16
  · rw [e16, if_neg (show ¬ ((16 : Int32) = 5) by decide), if_neg (show ¬ ((16 : Int32) = 6) by decide), if_neg (show ¬ ((16 : Int32) = 7) by decide), if_neg (show ¬ ((16 : Int32) = 8) by decide), if_neg (show ¬ ((16 : Int32) = 9) by decide), if_neg (show ¬ ((16 : Int32) = 10) by decide), if_neg (show ¬ ((16 : Int32) = 15) by decide), if_pos rfl]
    rw [if_pos e16, go, if_neg (hk4 _ e16 (by decide) (by decide))] at hr
    have er := (Option.some.inj hr).symm
    subst er
    exact Tr.id (cSingle hc hS (hsc.trans e16) (by decide) (by decide) (opTrue (v := 0)))
  rw [if_neg e16] at hr
  by_cases e17 : c.1 k = 17
  · rw [e17, if_neg (show ¬ ((17 : Int32) = 5) by decide), if_neg (show ¬ ((17 : Int32) = 6) by decide), if_neg (show ¬ ((17 : Int32) = 7) by decide), if_neg (show ¬ ((17 : Int32) = 8) by decide), if_neg (show ¬ ((17 : Int32) = 9) by decide), if_neg (show ¬ ((17 : Int32) = 10) by decide), if_neg (show ¬ ((17 : Int32) = 15) by decide), if_neg (show ¬ ((17 : Int32) = 16) by decide), if_pos rfl]
    rw [if_pos e17, go, if_neg (hk4 _ e17 (by decide) (by decide))] at hr
    have er := (Option.some.inj hr).symm
    subst er
    exact Tr.id (cSingle hc hS (hsc.trans e17) (by decide) (by decide) (opFalse (v := 0)))
  rw [if_neg e17] at hr
  by_cases e15 : c.1 k = 15
  · rw [e15, if_neg (show ¬ ((15 : Int32) = 5) by decide), if_neg (show ¬ ((15 : Int32) = 6) by decide), if_neg (show ¬ ((15 : Int32) = 7) by decide), if_neg (show ¬ ((15 : Int32) = 8) by decide), if_neg (show ¬ ((15 : Int32) = 9) by decide), if_neg (show ¬ ((15 : Int32) = 10) by decide), if_pos rfl]
    rw [if_pos e15, go, if_neg (hk4 _ e15 (by decide) (by decide))] at hr
    exact Tr.id (cNamed hc hS (hsc.trans e15) hr)
  rw [if_neg e15] at hr
  rw [if_neg e5, if_neg e6, if_neg e7, if_neg e8, if_neg e9, if_neg e10, if_neg e15, if_neg e16, if_neg e17, if_neg e32]
  exact Tr.id (show Tr (FX4_compare (FSC4 L y) (nI D) σ) _ from cCompare hc ih.2.2.2.2.2.1 hD (by omega) hS hr)
theorem opUn {s pl : Int32} {kd : Int32} (hk : kK s = kd) (hi : isK kd = true) (h2 : us2 kd = false) (h3 : us3 kd = false) (h21 : kd ≠ 20 ∧ kd ≠ 21) (hb : kd ≠ 4 ∧ kd ≠ 5 ∧ kd ≠ 10) (ht : kd ≠ 9 ∧ kd ≠ 34) {f1 : Bool} {t : Int32} : ∀ x nx a σ, NI V0 lo nx f1 σ a x → OpH V0 lo nx σ s pl a (-1) t 0 1000000 false f1 false x (zV, zR) (zV, zR) (dUn kd x).2 ∧ oV (kK s) a 0 (hiC 1000000) (kT s t) x.1 zV zV = (dUn kd x).1 := by
  intro x nx a σ h1
  refine ⟨⟨by rw [hk]; exact hi, bdF_0, fun _ => h1, fun h => (by rw [hk, h2] at h; cases h), fun h => (by rw [hk, h3] at h; cases h), fun h => absurd (hk.symm.trans h) h21.2, fun h => by cases h⟩, ?_⟩
  rw [hk, show hiC 1000000 = -1 by decide]
  show _ = oV kd 0 0 (-1) 0 x.1 zV zV
  exact oV_congr hi (fun h => h.elim (fun e => absurd e h21.1) (fun e => absurd e h21.2)) (fun _ => ⟨rfl, rfl⟩) (fun h => h.elim (fun e => absurd e ht.1) (fun e => absurd e ht.2)) (fun _ => rfl) (fun _ => rfl) (fun _ => rfl)
/-- a part of one operand, with no bounds -/
theorem unNode {s pl kd : Int32} {f1 : Bool} {k1 : Nat} {m : MV} {a : Int32} {k2 : Nat} (hc : CtP c τ0 V0 lo L) (hS : St c τ0 V0 lo L md nx k σ) (hop : ∀ x nx a σ, NI V0 lo nx f1 σ a x → OpH V0 lo nx σ s pl a (-1) (-1) 0 1000000 false f1 false x (zV, zR) (zV, zR) (dUn kd x).2 ∧ oV (kK s) a 0 (hiC 1000000) (kT s (-1)) x.1 zV zV = (dUn kd x).1) (hk : k < k1) (r1 : σ1.2.2 = σ.2.2) (q : PO c τ0 V0 lo L f1 md nx k1 σ1 (k2, some m) a σ2) : Tr (FX3_add s pl a (-1) σ2) (PO c τ0 V0 lo L false md nx k σ (k2, some (mo1 (dUn kd) m))) := by
  obtain ⟨nx4, l4, S4, i4⟩ := q
  have hk5 : k2 ≤ 400 := S4.2.1.1.1
  have H : nmd md m = none → nx4 + 401 ≤ lo.2 + k2 ∧ OpH V0 lo nx4 σ2 s pl a (-1) (-1) 0 1000000 false f1 false (vl m) (zV, zR) (zV, zR) (dUn kd (vl m)).2 := by
    intro h
    obtain ⟨h0, y, e2⟩ := nmd_n h
    obtain ⟨z1, z2, z3⟩ := i4 h0 y e2
    subst h0
    have := hS.2.2.2.2.2
    subst e2
    exact ⟨by omega, (hop _ _ _ _ z2).1⟩
  obtain ⟨rr, σ', e5, n1, n2, nx5, l5, M5, i5⟩ := cF0 (kb := k2) hc S4.1 S4.2.1 S4.2.2 hk5 H
  refine ⟨rr, σ', e5, nx5, by omega, ⟨n1, n2, by rw [nmd_mo1]; exact M5⟩, fun h0 Dn hDn => ?_⟩
  obtain ⟨x, e1, eD⟩ := mo1_ok hDn
  subst h0; subst e1; subst eD
  obtain ⟨z1, z2, z3⟩ := i4 rfl x rfl
  obtain ⟨y1, y2, y3⟩ := i5 rfl
  have ev := (hop x nx4 a σ2 z2).2
  refine ⟨by omega, ?_, (show Ext V0 lo nx σ σ2 from fun q hq j => by rw [z3 q hq j, r1]).trans l4 y3⟩
  have : ((oV (kK s) a 0 (hiC 1000000) (kT s (-1)) x.1 zV zV, (dUn kd x).2) : Den) = dUn kd x := by rw [ev]
  rw [← this]
  exact y2
theorem cPF18 {d z D : Nat} {s y0 kd : Int32} {r : Rs} (hc : CtP c τ0 V0 lo L) (ih : CXs c τ0 V0 lo L d 7 10 3 false) (hD : D ≤ 10) (hz : 16 * (10 - D) + 12 ≤ z) (hS : St c τ0 V0 lo L md nx k σ) (hs : tS c.1 k = s) (h53 : s ≠ 53) (h54 : s ≠ 54) (hop : ∀ x nx a σ, NI V0 lo nx false σ a x → OpH V0 lo nx σ y0 (c.2.1 k) a (-1) (-1) 0 1000000 false false false x (zV, zR) (zV, zR) (dUn kd x).2 ∧ oV (kK y0) a 0 (hiC 1000000) (kT y0 (-1)) x.1 zV zV = (dUn kd x).1) (hr : (if 10 ≤ D then some (k, none) else go k fun k1 => rb (spX c d 7 (D + 1) k1) fun k2 a => some (k2, some (mo1 (dUn kd) a))) = some r) : Tr (FX4_prefixedFactor_18 (FSC4 L z) (nI D) y0 σ) (PO c τ0 V0 lo L false md nx k σ r) := by
  have hL := hc.2.2.2.1
  rw [FX4_prefixedFactor_18, hS.2.1.2.2.2.2.1]
  obtain ⟨dp1, dp2⟩ := deepE hc hD hS hs h53 h54
  by_cases hD2 : 10 ≤ D
  · rw [if_pos hD2] at hr
    have er := (Option.some.inj hr).symm
    subst er
    obtain ⟨u, σ1, e1, q1⟩ := dp1 hD2
    rw [e1, b2r]
    refine (badFactor (by omega) q1).bind (fun a σ2 q2 => ?_)
    exact Tr.id ((badAdd hc.2.1 hc.2.2.2.2.1 q2).mono (fun r σ h => h.1))
  · rw [if_neg hD2, go, if_neg (tS_lit hs h54 h53).2] at hr
    obtain ⟨σ1, e1, S1, ch1⟩ := dp2 hD2
    rw [e1, b2r, ← nI_succ]
    obtain ⟨a, σ2, e2, q⟩ := callX ih (show D + 1 ≤ 10 by omega) (show _ ≤ z by omega) S1 hr
    rw [e2, b2r]
    rcases q with ⟨k', q, er⟩ | ⟨k3, m, hk3, hr, q⟩
    · subst er
      exact Tr.id ((badAdd hc.2.1 hc.2.2.2.2.1 q).mono (fun r σ h => h.1))
    · have er := (Option.some.inj hr).symm
      subst er
      exact Tr.id (unNode hc hS hop (by omega) ch1.2.2 q)
theorem cBracketed {d z D : Nat} {r : Rs} (hc : CtP c τ0 V0 lo L) (ih : CXs c τ0 V0 lo L d 4 8 5 false) (hD : D ≤ 10) (hz : 16 * (10 - D) + 12 ≤ z) (hS : St c τ0 V0 lo L md nx k σ) (hs : tS c.1 k = 30) (hr : (if 10 ≤ D then some (k, none) else go k fun k1 => rb (spX c d 4 (D + 1) k1) fun k2 a => ex c 31 k2 fun k3 => some (k3, some a)) = some r) : Tr (FX4_bracketed (FSC4 L z) (nI D) σ) (PO c τ0 V0 lo L false md nx k σ r) := by
  have hL := hc.2.2.2.1
  rw [FX4_bracketed]
  obtain ⟨dp1, dp2⟩ := deepE hc hD hS hs (by decide) (by decide)
  by_cases hD2 : 10 ≤ D
  · rw [if_pos hD2] at hr
    have er := (Option.some.inj hr).symm
    subst er
    obtain ⟨u, σ1, e1, q1⟩ := dp1 hD2
    rw [e1, b2r]
    refine (badExpr (by omega) (by omega) q1).bind (fun a σ2 q2 => ?_)
    exact (badExpect q2 (s := 31) (by decide)).bind (fun _ σ3 q3 => Tr.ret q3)
  · rw [if_neg hD2, go, if_neg (tS_lit hs (by decide) (by decide)).2] at hr
    obtain ⟨σ1, e1, S1, ch1⟩ := dp2 hD2
    rw [e1, b2r, ← nI_succ]
    obtain ⟨a, σ2, e2, q⟩ := callX ih (show D + 1 ≤ 10 by omega) (show _ ≤ z by omega) S1 hr
    rw [e2, b2r]
    rcases q with ⟨k', q, er⟩ | ⟨k3, m, hk3, hr, q⟩
    · subst er
      exact (badExpect q (s := 31) (by decide)).bind (fun _ σ3 q3 => Tr.ret q3)
    · obtain ⟨nx3, l3, S3, i3⟩ := q
      rcases exI (by decide) (by decide) hr with ⟨e31, hr⟩ | ⟨e31, hr⟩
      · obtain ⟨σ3, e3, S4, ch4⟩ := (expS hc S3 (s := 31) (by decide) (by decide)).1 e31
        rw [e3, b2r]
        have er := (Option.some.inj hr).symm
        subst er
        refine Tr.ret ⟨nx3, l3, S4, fun h D hD => ?_⟩
        obtain ⟨b1, b2, b3⟩ := i3 h D hD
        exact ⟨by omega, b2.same ch4.2.2, (fun q hq j => by rw [ch4.2.2, b3 q hq j, ch1.2.2])⟩
      · obtain ⟨u3, σ3, e3, q3⟩ := (expS hc S3 (s := 31) (by decide) (by decide)).2 e31
        rw [e3, b2r]
        subst hr
        exact Tr.ret q3
theorem bad78 {z : Nat} {x2 x3 x4 x5 x6 : Int32} (hlo : lo.2 ≤ 1200) (he : τ0.1 1308 = nI (lo.2)) (h : BdS τ0 lo p σ) : Tr (FX4_factorOfFormula_78 (FSC4 L z) x2 x3 x4 x5 x6 σ) (fun _ σ' => BdS τ0 lo p σ') := by
  rw [FX4_factorOfFormula_78]
  refine (badAdd hlo he h).bind (fun r σ1 q => Tr.ret ?_)
  have := cThird (nx := 0) (σ := σ1) (r := r) (t := x6) hlo q.2 q.1.1.2.2.2.2.2
  exact q.1.ad this.1
theorem bad42f {z : Nat} {a x2 x3 x4 x5 x6 : Int32} (hlo : lo.2 ≤ 1200) (he : τ0.1 1308 = nI (lo.2)) (hz : 1 ≤ z) (h : BdS τ0 lo p σ) : Tr (FX4_factorOfFormula_42 (FSC4 L z) a x2 x3 x4 x5 x6 σ) (fun _ σ' => BdS τ0 lo p σ') := by
  rw [FX4_factorOfFormula_42]
  split
  · refine (badExpect h (by decide)).bind (fun _ σ1 q1 => ?_)
    refine (badFactor hz q1).bind (fun b σ2 q2 => ?_)
    refine (badExpect q2 (by decide)).bind (fun _ σ3 q3 => ?_)
    exact (badFactor hz q3).bind (fun b σ2 q2 => bad78 hlo he q2)
  · exact bad78 hlo he h
theorem opIf {pl : Int32} : ∀ x y w nx a b t σ, NI V0 lo nx true σ a x → NI V0 lo nx false σ b y → NI V0 lo nx false σ t w → OpH V0 lo nx σ 18 pl a b t 0 1000000 false true false x y w (dIf x y w).2 ∧ oV (kK 18) a 0 (hiC 1000000) (kT 18 t) x.1 y.1 w.1 = (dIf x y w).1 := by
  intro x y w nx a b t σ h1 h2 h3
  refine ⟨⟨by decide, bdF_0, fun _ => h1, fun _ => h2, fun _ => by rw [show kT 18 t = t by simp [kT]]; exact h3, kd21 (by decide), fun h => by cases h⟩, ?_⟩
  rw [show kK 18 = 33 by decide, show hiC 1000000 = -1 by decide]
  show _ = oV 33 0 0 (-1) 0 x.1 y.1 w.1
  exact oV_congr (by decide) (fun h => absurd h (by decide)) (fun h => absurd h (by decide)) (fun h => absurd h (by decide)) (fun _ => rfl) (fun _ => rfl) (fun _ => rfl)
/-- count, last, at and if -/
theorem cFOF {d z D : Nat} {s : Int32} {r : Rs} (hc : CtP c τ0 V0 lo L) (ih : ∀ e, e ≤ d → ClsOK c τ0 V0 lo L e) (hD : D ≤ 10) (hz : 16 * (10 - D) + 13 ≤ z) (hS : St c τ0 V0 lo L md nx k σ) (hs : tS c.1 k = s) (hs4 : s = 25 ∨ s = 27 ∨ s = 26 ∨ s = 18) (hr : pFactor c (spX c d) D k = some r) : Tr (FX4_factorOfFormula (FSC4 L z) (nI D) σ) (PO c τ0 V0 lo L false md nx k σ r) := by
  have hL := hc.2.2.2.1
  have h53 : s ≠ 53 := by rcases hs4 with h | h | h | h <;> rw [h] <;> decide
  have h54 : s ≠ 54 := by rcases hs4 with h | h | h | h <;> rw [h] <;> decide
  obtain ⟨e0, ek⟩ := tS_lit hs h54 h53
  rw [FX4_factorOfFormula, show σ.1 4304 = s from hS.2.1.2.2.2.1.trans hs, hS.2.1.2.2.2.2.1]
  obtain ⟨σ1, e1, S1, ch1⟩ := adv hc hS hs h53 h54
  rw [e1, b2r]
  -- the braces, with what goes on behind them
  have br : ∀ f, pBraced c (spX c d 6 D (k + 1)) f = some r → GxB c τ0 V0 lo L D true md nx (k + 1) σ1 (FSC4 L z 6 (nI D) σ1) f r := by
    intro f hf
    cases d with
    | zero => cases hf
    | succ d =>
      have hf : pBraced c (pBraces c (spX c d) D (k + 1)) f = some r := hf
      exact cBraced hc (ih d (by omega)).1 hD (by omega) S1 hf
  rw [pFactor, if_neg (by rw [e0]; rcases hs4 with h | h | h | h <;> rw [h] <;> decide), if_neg (by rw [e0]; rcases hs4 with h | h | h | h <;> rw [h] <;> decide), if_neg (by rw [e0]; rcases hs4 with h | h | h | h <;> rw [h] <;> decide), if_neg (by rw [e0]; rcases hs4 with h | h | h | h <;> rw [h] <;> decide), if_neg (by rw [e0]; rcases hs4 with h | h | h | h <;> rw [h] <;> decide), if_neg (by rw [e0]; rcases hs4 with h | h | h | h <;> rw [h] <;> decide)] at hr
  rcases hs4 with h | h | h | h
  · subst h
    rw [e0, if_pos rfl, go, if_neg ek] at hr
    obtain ⟨a, σ2, e2, q⟩ := br _ hr
    rw [e2, b2r, if_neg (show ¬ ((25 : Int32) = 26) by decide)]
    rcases q with ⟨k', q, er⟩ | ⟨-, k3, m, hk3, hr, q⟩
    · subst er
      exact bad42f hc.2.1 hc.2.2.2.2.1 (by omega) q
    · have er := (Option.some.inj hr).symm
      subst er
      rw [FX4_factorOfFormula_42, if_neg (show ¬ ((25 : Int32) = 18) by decide), FX4_factorOfFormula_78]
      obtain ⟨nx4, l4, S4, i4⟩ := q
      have hk5 : k3 ≤ 400 := S4.2.1.1.1
      have hop := opUn (V0 := V0) (lo := lo) (s := 25) (pl := c.2.1 k) (kd := 30) (f1 := true) (t := -1) (by decide) (by decide) (by decide) (by decide) (by decide) (by decide) (by decide)
      have H : nmd md m = none → nx4 + 401 ≤ lo.2 + k3 ∧ OpH V0 lo nx4 σ2 25 (c.2.1 k) a (-1) (-1) 0 1000000 false true false (vl m) (zV, zR) (zV, zR) (dUn 30 (vl m)).2 := by
        intro h
        obtain ⟨h0, y, e2⟩ := nmd_n h
        obtain ⟨z1, z2, z3⟩ := i4 h0 y e2
        subst h0
        have := hS.2.2.2.2.2
        subst e2
        exact ⟨by omega, (hop _ _ _ _ z2).1⟩
      obtain ⟨rr, σ', e5, n1, n2, nx5, l5, M5, i5⟩ := cF2 (kb := k3) hc S4.1 S4.2.1 S4.2.2 hk5 H
      refine ⟨rr, σ', e5, nx5, by omega, ⟨n1, n2, by rw [nmd_mo1]; exact M5⟩, fun h0 Dn hDn => ?_⟩
      obtain ⟨x, e1, eD⟩ := mo1_ok hDn
      subst h0; subst e1; subst eD
      obtain ⟨z1, z2, z3⟩ := i4 rfl x rfl
      obtain ⟨y1, y2, y3⟩ := i5 rfl
      have ev := (hop x nx4 a σ2 z2).2
      refine ⟨by omega, ?_, (show Ext V0 lo nx σ σ2 from fun q hq j => by rw [z3 q hq j, ch1.2.2]).trans l4 y3⟩
      have : ((oV (kK 25) a 0 (hiC 1000000) (kT 25 (-1)) x.1 zV zV, (dUn 30 x).2) : Den) = dUn 30 x := by rw [ev]
      rw [← this]
      exact y2
  · subst h
    rw [e0, if_neg (show ¬ ((27 : Int32) = 25) by decide), if_pos rfl, go, if_neg ek] at hr
    obtain ⟨a, σ2, e2, q⟩ := br _ hr
    rw [e2, b2r, if_neg (show ¬ ((27 : Int32) = 26) by decide)]
    rcases q with ⟨k', q, er⟩ | ⟨-, k3, m, hk3, hr, q⟩
    · subst er
      exact bad42f hc.2.1 hc.2.2.2.2.1 (by omega) q
    · have er := (Option.some.inj hr).symm
      subst er
      rw [FX4_factorOfFormula_42, if_neg (show ¬ ((27 : Int32) = 18) by decide), FX4_factorOfFormula_78]
      obtain ⟨nx4, l4, S4, i4⟩ := q
      have hk5 : k3 ≤ 400 := S4.2.1.1.1
      have hop := opUn (V0 := V0) (lo := lo) (s := 27) (pl := c.2.1 k) (kd := 31) (f1 := true) (t := -1) (by decide) (by decide) (by decide) (by decide) (by decide) (by decide) (by decide)
      have H : nmd md m = none → nx4 + 401 ≤ lo.2 + k3 ∧ OpH V0 lo nx4 σ2 27 (c.2.1 k) a (-1) (-1) 0 1000000 false true false (vl m) (zV, zR) (zV, zR) (dUn 31 (vl m)).2 := by
        intro h
        obtain ⟨h0, y, e2⟩ := nmd_n h
        obtain ⟨z1, z2, z3⟩ := i4 h0 y e2
        subst h0
        have := hS.2.2.2.2.2
        subst e2
        exact ⟨by omega, (hop _ _ _ _ z2).1⟩
      obtain ⟨rr, σ', e5, n1, n2, nx5, l5, M5, i5⟩ := cF2 (kb := k3) hc S4.1 S4.2.1 S4.2.2 hk5 H
      refine ⟨rr, σ', e5, nx5, by omega, ⟨n1, n2, by rw [nmd_mo1]; exact M5⟩, fun h0 Dn hDn => ?_⟩
      obtain ⟨x, e1, eD⟩ := mo1_ok hDn
      subst h0; subst e1; subst eD
      obtain ⟨z1, z2, z3⟩ := i4 rfl x rfl
      obtain ⟨y1, y2, y3⟩ := i5 rfl
      have ev := (hop x nx4 a σ2 z2).2
      refine ⟨by omega, ?_, (show Ext V0 lo nx σ σ2 from fun q hq j => by rw [z3 q hq j, ch1.2.2]).trans l4 y3⟩
      have : ((oV (kK 27) a 0 (hiC 1000000) (kT 27 (-1)) x.1 zV zV, (dUn 31 x).2) : Den) = dUn 31 x := by rw [ev]
      rw [← this]
      exact y2
  · subst h
    rw [e0, if_neg (show ¬ ((26 : Int32) = 25) by decide), if_neg (show ¬ ((26 : Int32) = 27) by decide), if_pos rfl, go, if_neg ek] at hr
    obtain ⟨a, σ2, e2, q⟩ := br _ hr
    rw [e2, b2r, if_pos rfl]
    rcases q with ⟨k', q, er⟩ | ⟨hD2, k3, m, hk3, hr, q⟩
    · subst er
      exact (badFactor (by omega) q).bind (fun b σ3 q3 => bad42f hc.2.1 hc.2.2.2.2.1 (by omega) q3)
    · obtain ⟨nx1, l1, S2, i1⟩ := id q
      rw [← nI_succ]
      obtain ⟨b, σ3, e3, q3⟩ := callX (ih d (Nat.le_refl _)).2.2.2.2.2.2.2 hD2 (show _ ≤ z by omega) S2 hr
      rw [e3, b2r]
      rcases q3 with ⟨k', q3, er⟩ | ⟨k4, m2, hk4, hr, q3⟩
      · subst er
        exact bad42f hc.2.1 hc.2.2.2.2.1 (by omega) q3
      · have er := (Option.some.inj hr).symm
        subst er
        rw [FX4_factorOfFormula_42, if_neg (show ¬ ((26 : Int32) = 18) by decide), FX4_factorOfFormula_78]
        obtain ⟨nx3, l3, S3, i3⟩ := q3
        have tw := two0 (nx := nx) (σ := σ) l1 S2 (fun h D hD => ⟨(i1 h D hD).2.1, fun q hq j => by rw [(i1 h D hD).2.2 q hq j, ch1.2.2]⟩) rfl l3 (fun h D hD => (i3 h D hD).2)
        have hk5 : k4 ≤ 400 := S3.2.1.1.1
        have ar : md = none → nmd md m = none → ∀ x y, m = .ok x → m2 = .ok y → nx3 + 1 + k ≤ nx + k4 := fun h0 h1 x y e1 e2 => by
          have := (i1 h0 x e1).1
          have := (i3 h1 y e2).1
          omega
        have H : nmd (nmd md m) m2 = none → nx3 + 401 ≤ lo.2 + k4 ∧ OpH V0 lo nx3 σ3 26 (c.2.1 k) a b (-1) 0 1000000 false true false (vl m) (vl m2) (zV, zR) (dAt (vl m) (vl m2)).2 := by
          intro h
          obtain ⟨h1, y, e2⟩ := nmd_n h
          obtain ⟨h0, x, e1⟩ := nmd_n h1
          obtain ⟨n1, n2, x3⟩ := tw h0 h1 x y e1 e2
          have b1 := ar h0 h1 x y e1 e2
          subst h0
          have := hS.2.2.2.2.2
          subst e1; subst e2
          exact ⟨by omega, (opAt _ _ _ _ _ _ n1 n2).1⟩
        obtain ⟨r, σ', e, n1, n2, nx4, l4, M4, i4⟩ := cF2 (kb := k4) hc S3.1 S3.2.1 S3.2.2 hk5 H
        refine ⟨r, σ', e, nx4, by omega, ⟨n1, n2, by rw [nmd_mo2]; exact M4⟩, fun h0 D hD => ?_⟩
        obtain ⟨x, y, e1, e2, eD⟩ := mo2_ok hD
        subst h0; subst e1; subst e2; subst eD
        obtain ⟨q1, q2, x3⟩ := tw rfl rfl x y rfl rfl
        have b1 := ar rfl rfl x y rfl rfl
        obtain ⟨z1, z2, z3⟩ := i4 rfl
        have ev := (opAt (V0 := V0) (lo := lo) (pl := c.2.1 k) x y nx3 a b σ3 q1 q2).2
        refine ⟨by omega, ?_, x3.trans (by omega) z3⟩
        have : ((oV (kK 26) a 0 (hiC 1000000) (kT 26 (-1)) x.1 y.1 zV, (dAt x y).2) : Den) = dAt x y := by rw [ev]
        rw [← this]
        exact z2
  · subst h
    rw [e0, if_neg (show ¬ ((18 : Int32) = 25) by decide), if_neg (show ¬ ((18 : Int32) = 27) by decide), if_neg (show ¬ ((18 : Int32) = 26) by decide), if_pos rfl, go, if_neg ek] at hr
    obtain ⟨a, σ2, e2, q⟩ := br _ hr
    rw [e2, b2r, if_neg (show ¬ ((18 : Int32) = 26) by decide)]
    rcases q with ⟨k', q, er⟩ | ⟨hD2, k3, m, hk3, hr, q⟩
    · subst er
      exact bad42f hc.2.1 hc.2.2.2.2.1 (by omega) q
    · obtain ⟨nx1, l1, S2, i1⟩ := id q
      rw [FX4_factorOfFormula_42, if_pos rfl]
      have ihF := (ih d (Nat.le_refl _)).2.2.2.2.2.2.2
      rcases exI (by decide) (by decide) hr with ⟨e19, hr⟩ | ⟨e19, hr⟩
      · obtain ⟨σ3, e3, S3, ch3⟩ := (expS hc S2 (s := 19) (by decide) (by decide)).1 e19
        rw [e3, b2r, ← nI_succ]
        obtain ⟨b, σ4, e4, q4⟩ := callX ihF hD2 (show _ ≤ z by omega) S3 hr
        rw [e4, b2r]
        rcases q4 with ⟨k', q4, er⟩ | ⟨k4, m2, hk4, hr, q4⟩
        · subst er
          refine (badExpect q4 (s := 20) (by decide)).bind (fun _ σ5 q5 => ?_)
          exact (badFactor (by omega) q5).bind (fun b σ6 q6 => bad78 hc.2.1 hc.2.2.2.2.1 q6)
        · obtain ⟨nx4, l4, S4, i4⟩ := q4
          have tw := two0 (nx := nx) (σ := σ) l1 S2 (fun h D hD => ⟨(i1 h D hD).2.1, fun q hq j => by rw [(i1 h D hD).2.2 q hq j, ch1.2.2]⟩) ch3.2.2 l4 (fun h D hD => (i4 h D hD).2)
          rcases exI (by decide) (by decide) hr with ⟨e20, hr⟩ | ⟨e20, hr⟩
          · obtain ⟨σ5, e5, S5, ch5⟩ := (expS hc S4 (s := 20) (by decide) (by decide)).1 e20
            rw [e5, b2r]
            obtain ⟨t, σ6, e6, q6⟩ := callX ihF hD2 (show _ ≤ z by omega) S5 hr
            rw [e6, b2r]
            rcases q6 with ⟨k', q6, er⟩ | ⟨k6, m3, hk6, hr, q6⟩
            · subst er
              exact bad78 hc.2.1 hc.2.2.2.2.1 q6
            · have er := (Option.some.inj hr).symm
              subst er
              obtain ⟨nx6, l6, S6, i6⟩ := q6
              rw [FX4_factorOfFormula_78]
              have hk5 : k6 ≤ 400 := S6.2.1.1.1
              have hT5 : nmd (nmd md m) m2 = none → okT (Vx V0 lo.1 nx4) (ntC σ5) := fun h => by
                rw [h] at S5
                exact MD_okT (show MD c τ0 V0 lo L none nx4 _ σ5 from S5.2.2)
              have all : ∀ x y w, md = none → nmd md m = none → nmd (nmd md m) m2 = none → m = .ok x → m2 = .ok y → m3 = .ok w → nx6 + 1 + k ≤ nx + k6 ∧ NI V0 lo nx6 true σ6 a x ∧ NI V0 lo nx6 false σ6 b y ∧ NI V0 lo nx6 false σ6 t w ∧ Ext V0 lo nx σ σ6 := by
                intro x y w h0 h1 h2 e1 e2 e3
                obtain ⟨n1, n2, x3⟩ := tw h0 h1 x y e1 e2
                obtain ⟨b6, n6, x6⟩ := i6 h2 w e3
                have := (i1 h0 x e1).1
                have := (i4 h1 y e2).1
                exact ⟨by omega, (n1.same ch5.2.2).ext (hT5 h2) x6 l6, (n2.same ch5.2.2).ext (hT5 h2) x6 l6, n6, (x3.same ch5.2.2).trans (by omega) x6⟩
              have H : nmd (nmd (nmd md m) m2) m3 = none → nx6 + 401 ≤ lo.2 + k6 ∧ OpH V0 lo nx6 σ6 18 (c.2.1 k) a b t 0 1000000 false true false (vl m) (vl m2) (vl m3) (dIf (vl m) (vl m2) (vl m3)).2 := by
                intro h
                obtain ⟨h2, w, e3⟩ := nmd_n h
                obtain ⟨h1, y, e2⟩ := nmd_n h2
                obtain ⟨h0, x, e1⟩ := nmd_n h1
                obtain ⟨b1, n1, n2, n3, x3⟩ := all x y w h0 h1 h2 e1 e2 e3
                subst h0
                have := hS.2.2.2.2.2
                subst e1; subst e2; subst e3
                exact ⟨by omega, (opIf _ _ _ _ _ _ _ _ n1 n2 n3).1⟩
              obtain ⟨r, σ', e, n1, n2, nx7, l7, M7, i7⟩ := cF2 (kb := k6) hc S6.1 S6.2.1 S6.2.2 hk5 H
              refine ⟨r, σ', e, nx7, by omega, ⟨n1, n2, by rw [nmd_mo3]; exact M7⟩, fun h0 D hD => ?_⟩
              obtain ⟨x, y, w, e1, e2, e3, eD⟩ := mo3_ok hD
              subst h0; subst e1; subst e2; subst e3; subst eD
              obtain ⟨b1, q1, q2, q3, x3⟩ := all x y w rfl rfl rfl rfl rfl rfl
              obtain ⟨z1, z2, z3⟩ := i7 rfl
              have ev := (opIf (V0 := V0) (lo := lo) (pl := c.2.1 k) x y w nx6 a b t σ6 q1 q2 q3).2
              refine ⟨by omega, ?_, x3.trans (by omega) z3⟩
              have : ((oV (kK 18) a 0 (hiC 1000000) (kT 18 t) x.1 y.1 w.1, (dIf x y w).2) : Den) = dIf x y w := by rw [ev]
              rw [← this]
              exact z2
          · obtain ⟨u, σ5, e5, q5⟩ := (expS hc S4 (s := 20) (by decide) (by decide)).2 e20
            rw [e5, b2r]
            subst hr
            exact (badFactor (by omega) q5).bind (fun b σ6 q6 => bad78 hc.2.1 hc.2.2.2.2.1 q6)
      · obtain ⟨u, σ3, e3, q3⟩ := (expS hc S2 (s := 19) (by decide) (by decide)).2 e19
        rw [e3, b2r]
        subst hr
        refine (badFactor (by omega) q3).bind (fun b σ4 q4 => ?_)
        refine (badExpect q4 (s := 20) (by decide)).bind (fun _ σ5 q5 => ?_)
        exact (badFactor (by omega) q5).bind (fun b σ6 q6 => bad78 hc.2.1 hc.2.2.2.2.1 q6)
theorem cFactor {d : Nat} (hc : CtP c τ0 V0 lo L) (ih : ∀ e, e ≤ d → ClsOK c τ0 V0 lo L e) : CXs c τ0 V0 lo L (d + 1) 7 10 3 false := by
  intro D k nx md σ d2 hD hd hS r hr
  have hL := hc.2.2.2.1
  by_cases hu : tS c.1 k = 54
  · exact uncl hS hu (fun p h => badFactor (by omega) h) hr
  obtain ⟨z, rfl⟩ : ∃ z, d2 = z + 1 := ⟨d2 - 1, by omega⟩
  have hr : pFactor c (spX c d) D k = some r := hr
  show Tr (FX4_factor (FSC4 L z) L (nI D) σ) _
  have hsc : tS c.1 k = c.1 k := by
    unfold tS at hu ⊢
    split
    · next e => rw [if_pos e] at hu; exact absurd rfl hu
    · rfl
  have hs : σ.1 4304 = c.1 k := hS.2.1.2.2.2.1.trans hsc
  have hk4 : ∀ s, c.1 k = s → s ≠ 53 → s ≠ 54 → k ≠ 400 := fun s e h1 h2 => (tS_lit (hsc.trans e) h2 h1).2
  rw [FX4_factor, hs]
  obtain ⟨y, rfl⟩ : ∃ y, z = y + 1 := ⟨z - 1, by omega⟩
  by_cases e25 : c.1 k = 25
  · rw [e25, if_neg (show ¬ ((25 : Int32) = 18) by decide), if_neg (show ¬ ((25 : Int32) = 21) by decide), if_neg (show ¬ ((25 : Int32) = 22) by decide), if_neg (show ¬ ((25 : Int32) = 23) by decide), if_neg (show ¬ ((25 : Int32) = 24) by decide), if_pos rfl]
    exact Tr.id (show Tr (FX4_factorOfFormula (FSC4 L y) (nI D) σ) _ from cFOF hc ih hD (by omega) hS (hsc.trans e25) (by simp) hr)
  by_cases e27 : c.1 k = 27
  · rw [e27, if_neg (show ¬ ((27 : Int32) = 18) by decide), if_neg (show ¬ ((27 : Int32) = 21) by decide), if_neg (show ¬ ((27 : Int32) = 22) by decide), if_neg (show ¬ ((27 : Int32) = 23) by decide), if_neg (show ¬ ((27 : Int32) = 24) by decide), if_neg (show ¬ ((27 : Int32) = 25) by decide), if_neg (show ¬ ((27 : Int32) = 26) by decide), if_pos rfl]
    exact Tr.id (show Tr (FX4_factorOfFormula (FSC4 L y) (nI D) σ) _ from cFOF hc ih hD (by omega) hS (hsc.trans e27) (by simp) hr)
  by_cases e26 : c.1 k = 26
  · rw [e26, if_neg (show ¬ ((26 : Int32) = 18) by decide), if_neg (show ¬ ((26 : Int32) = 21) by decide), if_neg (show ¬ ((26 : Int32) = 22) by decide), if_neg (show ¬ ((26 : Int32) = 23) by decide), if_neg (show ¬ ((26 : Int32) = 24) by decide), if_neg (show ¬ ((26 : Int32) = 25) by decide), if_pos rfl]
    exact Tr.id (show Tr (FX4_factorOfFormula (FSC4 L y) (nI D) σ) _ from cFOF hc ih hD (by omega) hS (hsc.trans e26) (by simp) hr)
  by_cases e18 : c.1 k = 18
  · rw [e18, if_pos rfl]
    exact Tr.id (show Tr (FX4_factorOfFormula (FSC4 L y) (nI D) σ) _ from cFOF hc ih hD (by omega) hS (hsc.trans e18) (by simp) hr)
  rw [pFactor] at hr
  by_cases e52 : c.1 k = 52
  · rw [e52, if_neg (show ¬ ((52 : Int32) = 18) by decide), if_neg (show ¬ ((52 : Int32) = 21) by decide), if_neg (show ¬ ((52 : Int32) = 22) by decide), if_neg (show ¬ ((52 : Int32) = 23) by decide), if_neg (show ¬ ((52 : Int32) = 24) by decide), if_neg (show ¬ ((52 : Int32) = 25) by decide), if_neg (show ¬ ((52 : Int32) = 26) by decide), if_neg (show ¬ ((52 : Int32) = 27) by decide), if_neg (show ¬ ((52 : Int32) = 28) by decide), if_neg (show ¬ ((52 : Int32) = 29) by decide), if_neg (show ¬ ((52 : Int32) = 30) by decide), if_neg (show ¬ ((52 : Int32) = 40) by decide), if_neg (show ¬ ((52 : Int32) = 51) by decide), if_pos rfl]
    rw [if_pos e52, go, if_neg (hk4 _ e52 (by decide) (by decide))] at hr
    have er := (Option.some.inj hr).symm
    subst er
    rw [show σ.2.1 4306 = c.2.2.1 k from hS.2.1.2.2.2.2.2 (Or.inr e52)]
    exact Tr.id (cSingle hc hS (hsc.trans e52) (by decide) (by decide) opNum)
  rw [if_neg e52] at hr
  by_cases e51 : c.1 k = 51
  · rw [e51, if_neg (show ¬ ((51 : Int32) = 18) by decide), if_neg (show ¬ ((51 : Int32) = 21) by decide), if_neg (show ¬ ((51 : Int32) = 22) by decide), if_neg (show ¬ ((51 : Int32) = 23) by decide), if_neg (show ¬ ((51 : Int32) = 24) by decide), if_neg (show ¬ ((51 : Int32) = 25) by decide), if_neg (show ¬ ((51 : Int32) = 26) by decide), if_neg (show ¬ ((51 : Int32) = 27) by decide), if_neg (show ¬ ((51 : Int32) = 28) by decide), if_neg (show ¬ ((51 : Int32) = 29) by decide), if_neg (show ¬ ((51 : Int32) = 30) by decide), if_neg (show ¬ ((51 : Int32) = 40) by decide), if_pos rfl]
    rw [if_pos e51, go, if_neg (hk4 _ e51 (by decide) (by decide))] at hr
    have er := (Option.some.inj hr).symm
    subst er
    exact Tr.id (cVariable hc hS (hsc.trans e51))
  rw [if_neg e51] at hr
  by_cases e28 : c.1 k = 28
  · rw [e28, if_neg (show ¬ ((28 : Int32) = 18) by decide), if_neg (show ¬ ((28 : Int32) = 21) by decide), if_neg (show ¬ ((28 : Int32) = 22) by decide), if_neg (show ¬ ((28 : Int32) = 23) by decide), if_neg (show ¬ ((28 : Int32) = 24) by decide), if_neg (show ¬ ((28 : Int32) = 25) by decide), if_neg (show ¬ ((28 : Int32) = 26) by decide), if_neg (show ¬ ((28 : Int32) = 27) by decide), if_pos rfl]
    rw [if_pos e28, go, if_neg (hk4 _ e28 (by decide) (by decide))] at hr
    have er := (Option.some.inj hr).symm
    subst er
    exact Tr.id (cSingle hc hS (hsc.trans e28) (by decide) (by decide) (opTime (v := 0)))
  rw [if_neg e28] at hr
  by_cases e29 : c.1 k = 29
  · rw [e29, if_neg (show ¬ ((29 : Int32) = 18) by decide), if_neg (show ¬ ((29 : Int32) = 21) by decide), if_neg (show ¬ ((29 : Int32) = 22) by decide), if_neg (show ¬ ((29 : Int32) = 23) by decide), if_neg (show ¬ ((29 : Int32) = 24) by decide), if_neg (show ¬ ((29 : Int32) = 25) by decide), if_neg (show ¬ ((29 : Int32) = 26) by decide), if_neg (show ¬ ((29 : Int32) = 27) by decide), if_neg (show ¬ ((29 : Int32) = 28) by decide), if_pos rfl]
    rw [if_pos e29, go, if_neg (hk4 _ e29 (by decide) (by decide))] at hr
    have er := (Option.some.inj hr).symm
    subst er
    exact Tr.id (cSingle hc hS (hsc.trans e29) (by decide) (by decide) (opStep (v := 0)))
  rw [if_neg e29] at hr
  by_cases e30 : c.1 k = 30
  · rw [e30, if_neg (show ¬ ((30 : Int32) = 18) by decide), if_neg (show ¬ ((30 : Int32) = 21) by decide), if_neg (show ¬ ((30 : Int32) = 22) by decide), if_neg (show ¬ ((30 : Int32) = 23) by decide), if_neg (show ¬ ((30 : Int32) = 24) by decide), if_neg (show ¬ ((30 : Int32) = 25) by decide), if_neg (show ¬ ((30 : Int32) = 26) by decide), if_neg (show ¬ ((30 : Int32) = 27) by decide), if_neg (show ¬ ((30 : Int32) = 28) by decide), if_neg (show ¬ ((30 : Int32) = 29) by decide), if_pos rfl]
    rw [if_pos e30] at hr
    exact Tr.id (show Tr (FX4_bracketed (FSC4 L y) (nI D) σ) _ from cBracketed hc (ih d (Nat.le_refl _)).2.2.2.2.2.1 hD (by omega) hS (hsc.trans e30) hr)
  rw [if_neg e30] at hr
  by_cases e40 : c.1 k = 40
  · rw [e40, if_neg (show ¬ ((40 : Int32) = 18) by decide), if_neg (show ¬ ((40 : Int32) = 21) by decide), if_neg (show ¬ ((40 : Int32) = 22) by decide), if_neg (show ¬ ((40 : Int32) = 23) by decide), if_neg (show ¬ ((40 : Int32) = 24) by decide), if_neg (show ¬ ((40 : Int32) = 25) by decide), if_neg (show ¬ ((40 : Int32) = 26) by decide), if_neg (show ¬ ((40 : Int32) = 27) by decide), if_neg (show ¬ ((40 : Int32) = 28) by decide), if_neg (show ¬ ((40 : Int32) = 29) by decide), if_neg (show ¬ ((40 : Int32) = 30) by decide), if_pos rfl]
    rw [if_pos (show c.1 k = 40 ∨ c.1 k = 21 ∨ c.1 k = 22 ∨ c.1 k = 23 ∨ c.1 k = 24 by simp [e40]), e40, show unK 40 = 25 by decide] at hr
    refine Tr.id (show Tr (FX4_prefixedFactor (FSC4 L y) (nI D) σ) _ from ?_)
    rw [FX4_prefixedFactor, hs, e40, if_pos rfl]
    exact cPF18 (kd := 25) hc (ih d (Nat.le_refl _)).2.2.2.2.2.2.2 hD (by omega) hS (hsc.trans e40) (by decide) (by decide) (opUn (by decide) (by decide) (by decide) (by decide) (by decide) (by decide) (by decide)) hr
  by_cases e21 : c.1 k = 21
  · rw [e21, if_neg (show ¬ ((21 : Int32) = 18) by decide), if_pos rfl]
    rw [if_pos (show c.1 k = 40 ∨ c.1 k = 21 ∨ c.1 k = 22 ∨ c.1 k = 23 ∨ c.1 k = 24 by simp [e21]), e21, show unK 21 = 26 by decide] at hr
    refine Tr.id (show Tr (FX4_prefixedFactor (FSC4 L y) (nI D) σ) _ from ?_)
    rw [FX4_prefixedFactor, hs, e21, if_neg (show ¬ ((21 : Int32) = 40) by decide)]
    exact cPF18 (kd := 26) hc (ih d (Nat.le_refl _)).2.2.2.2.2.2.2 hD (by omega) hS (hsc.trans e21) (by decide) (by decide) (opUn (by decide) (by decide) (by decide) (by decide) (by decide) (by decide) (by decide)) hr
  by_cases e22 : c.1 k = 22
  · rw [e22, if_neg (show ¬ ((22 : Int32) = 18) by decide), if_neg (show ¬ ((22 : Int32) = 21) by decide), if_pos rfl]
    rw [if_pos (show c.1 k = 40 ∨ c.1 k = 21 ∨ c.1 k = 22 ∨ c.1 k = 23 ∨ c.1 k = 24 by simp [e22]), e22, show unK 22 = 27 by decide] at hr
    refine Tr.id (show Tr (FX4_prefixedFactor (FSC4 L y) (nI D) σ) _ from ?_)
    rw [FX4_prefixedFactor, hs, e22, if_neg (show ¬ ((22 : Int32) = 40) by decide)]
    exact cPF18 (kd := 27) hc (ih d (Nat.le_refl _)).2.2.2.2.2.2.2 hD (by omega) hS (hsc.trans e22) (by decide) (by decide) (opUn (by decide) (by decide) (by decide) (by decide) (by decide) (by decide) (by decide)) hr
  by_cases e23 : c.1 k = 23
  · rw [e23, if_neg (show ¬ ((23 : Int32) = 18) by decide), if_neg (show ¬ ((23 : Int32) = 21) by decide), if_neg (show ¬ ((23 : Int32) = 22) by decide), if_pos rfl]
    rw [if_pos (show c.1 k = 40 ∨ c.1 k = 21 ∨ c.1 k = 22 ∨ c.1 k = 23 ∨ c.1 k = 24 by simp [e23]), e23, show unK 23 = 28 by decide] at hr
    refine Tr.id (show Tr (FX4_prefixedFactor (FSC4 L y) (nI D) σ) _ from ?_)
    rw [FX4_prefixedFactor, hs, e23, if_neg (show ¬ ((23 : Int32) = 40) by decide)]
    exact cPF18 (kd := 28) hc (ih d (Nat.le_refl _)).2.2.2.2.2.2.2 hD (by omega) hS (hsc.trans e23) (by decide) (by decide) (opUn (by decide) (by decide) (by decide) (by decide) (by decide) (by decide) (by decide)) hr
  by_cases e24 : c.1 k = 24
  · rw [e24, if_neg (show ¬ ((24 : Int32) = 18) by decide), if_neg (show ¬ ((24 : Int32) = 21) by decide), if_neg (show ¬ ((24 : Int32) = 22) by decide), if_neg (show ¬ ((24 : Int32) = 23) by decide), if_pos rfl]
    rw [if_pos (show c.1 k = 40 ∨ c.1 k = 21 ∨ c.1 k = 22 ∨ c.1 k = 23 ∨ c.1 k = 24 by simp [e24]), e24, show unK 24 = 29 by decide] at hr
    refine Tr.id (show Tr (FX4_prefixedFactor (FSC4 L y) (nI D) σ) _ from ?_)
    rw [FX4_prefixedFactor, hs, e24, if_neg (show ¬ ((24 : Int32) = 40) by decide)]
    exact cPF18 (kd := 29) hc (ih d (Nat.le_refl _)).2.2.2.2.2.2.2 hD (by omega) hS (hsc.trans e24) (by decide) (by decide) (opUn (by decide) (by decide) (by decide) (by decide) (by decide) (by decide) (by decide)) hr
  rw [if_neg (show ¬ (c.1 k = 40 ∨ c.1 k = 21 ∨ c.1 k = 22 ∨ c.1 k = 23 ∨ c.1 k = 24) by simp [e40, e21, e22, e23, e24]), if_neg e25, if_neg e27, if_neg e26, if_neg e18] at hr
  have er := (Option.some.inj hr).symm
  subst er
  rw [if_neg e18, if_neg e21, if_neg e22, if_neg e23, if_neg e24, if_neg e25, if_neg e26, if_neg e27, if_neg e28, if_neg e29, if_neg e30, if_neg e40, if_neg e51, if_neg e52]
  exact (failed hS).bind (fun _ σ' q => Tr.ret q)
theorem cxs0 {X Y rank : Nat} {f : Bool} : CXs c τ0 V0 lo L 0 X Y rank f := fun D k nx md σ d2 _ _ _ r h => by cases h
/-- every piece, at every depth of calls -/
theorem clsOK (hc : CtP c τ0 V0 lo L) (hn : NumOK c) : ∀ d, ClsOK c τ0 V0 lo L d := by
  intro d
  induction d using Nat.strongRecOn with
  | _ d ih =>
    cases d with
    | zero => exact ⟨cxs0, cxs0, cxs0, cxs0, cxs0, cxs0, cxs0, cxs0⟩
    | succ d =>
      have i := ih d (by omega)
      have ia : ∀ e, e ≤ d → ClsOK c τ0 V0 lo L e := fun e he => ih e (by omega)
      exact ⟨cFormula hc ia, ceither hc i, cboth hc i, cSince' hc hn i, cOne hc hn i, cexpression hc i, cproduct hc i, cFactor hc ia⟩
end CO
