-- the rest of the class's parser
section CN
variable {c : Cx} {τ0 σ σ1 σ2 σ3 : CS} {V0 : Nat → Prop} {lo : Nat × Nat} {L k nx : Nat} {md : Option En} {p : Int32}
theorem expressionN {d z D : Nat} {st : Int32} (hc : CtP c τ0 V0 lo L) (ih : CXs c τ0 V0 lo L d 5 9 4 false) (hD : D ≤ 10) (hz : 16 * (10 - D) + 4 + 12 ≤ z) (hS : St c τ0 V0 lo L md nx k σ) {n kc i nx1 : Nat} {acc : MV} {x3 s : Int32} {σc : CS} {r : Rs} {K : Nat → Int32 → CS → Option (Int32 × CS)} (hop : ∀ pl x y nx a b σ, NI V0 lo nx false σ a x → NI V0 lo nx false σ b y → OpH V0 lo nx σ s pl a b (-1) 0 1000000 false false false x y (zV, zR) (dBin s x y).2 ∧ oV (kK s) a 0 (hiC 1000000) (kT s (-1)) x.1 y.1 zV = (dBin s x y).1) (l1 : nx ≤ nx1) (S1 : St c τ0 V0 lo L (nmd md acc) nx1 kc σc) (i1 : md = none → ∀ D, acc = .ok D → nx1 + k ≤ nx + kc ∧ NI V0 lo nx1 false σc x3 D ∧ Ext V0 lo nx σ σc) (e : tS c.1 kc = s) (h53 : s ≠ 53) (h54 : s ≠ 54) (hr : (go kc fun k2 => rb (spX c d 5 D k2) fun k3 b => pBinL c (spX c d) 5 39 40 D n k3 (mo2 (dBin (c.1 kc)) acc b)) = some r) (hB : ∀ p σ4 r4, BdS τ0 lo p σ4 → Tr (K (i + 1) r4 σ4) (fun _ σ' => BdS τ0 lo p σ')) (hK : ∀ k3 m r4 σ4, kc < k3 → PO c τ0 V0 lo L false md nx k σ (k3, some (mo2 (dBin s) acc m)) r4 σ4 → pBinL c (spX c d) 5 39 40 D n k3 (mo2 (dBin s) acc m) = some r → Tr (K (i + 1) r4 σ4) (PO c τ0 V0 lo L false md nx k σ r)) : Tr (b2 (FX4_advance σc) fun (_ : Unit) σ_4 => b2 (FSC4 L z 9 (nI D) σ_4) fun r_5 σ_5 => b2 (FX3_add (σc.1 4304) st x3 r_5 σ_5) fun r_6 σ_6 => K (i + 1) r_6 σ_6) (PO c τ0 V0 lo L false md nx k σ r) := by
  have e0 := (tS_lit e h54 h53).1
  obtain ⟨σ2, e2, S2, ch2⟩ := adv hc S1 e h53 h54
  rw [e2, b2r]
  have hr : rb (spX c d 5 D (kc + 1)) (fun k3 b => pBinL c (spX c d) 5 39 40 D n k3 (mo2 (dBin s) acc b)) = some r := by
    rw [e0] at hr
    rcases goI (s := s) h53 e0 hr with ⟨-, hr⟩ | ⟨e9, -⟩
    · exact hr
    · rw [e] at e9; exact absurd e9 h54
  obtain ⟨b, σ3, e3, q⟩ := callX ih hD hz S2 hr
  rw [e3, b2r]
  have hsE : σc.1 4304 = s := by rw [S1.2.1.2.2.2.1]; exact e
  rw [hsE]
  rcases q with ⟨k', q, er⟩ | ⟨k3, m, hk3, hr, q⟩
  · subst er
    exact (badAdd hc.2.1 hc.2.2.2.2.1 q).bind (fun r4 σ4 q4 => hB _ _ _ q4.1)
  · exact (binNode hc hS (hop st) l1 S1 i1 ch2.2.2 (by omega) q).bind (fun r4 σ4 q4 => hK k3 m r4 σ4 (by omega) q4 hr)
theorem expressionL {d z D : Nat} {st : Int32} (hc : CtP c τ0 V0 lo L) (ih : CXs c τ0 V0 lo L d 5 9 4 false) (hD : D ≤ 10) (hz : 16 * (10 - D) + 4 + 12 ≤ z) (hS : St c τ0 V0 lo L md nx k σ) : ∀ (n kc i nf : Nat) (acc : MV) (x3 : Int32) (σc : CS) (r : Rs), i + n = 400 → n < nf → PO c τ0 V0 lo L false md nx k σ (kc, some acc) x3 σc → pBinL c (spX c d) 5 39 40 D n kc acc = some r → Tr (FX4_expression_14 (FSC4 L z) L nf (nI D) st x3 (nI i) σc) (PO c τ0 V0 lo L false md nx k σ r)
  | 0, _, _, _, _, _, _, _, _, _, _, hr => by cases hr
  | n+1, kc, i, nf, acc, x3, σc, r, hi, hf, hP, hr => by
    obtain ⟨nf, rfl⟩ : ∃ z, nf = z + 1 := ⟨nf - 1, by omega⟩
    obtain ⟨nx1, l1, S1, i1⟩ := id hP
    have hs := S1.2.1.2.2.2.1
    have hB : ∀ p σ4 r4, BdS τ0 lo p σ4 → Tr (FX4_expression_14 (FSC4 L z) L nf (nI D) st r4 (nI (i + 1)) σ4) (fun _ σ' => BdS τ0 lo p σ') := by
      intro p σ4 r4 q4
      obtain ⟨nf, rfl⟩ : ∃ z, nf = z + 1 := ⟨nf - 1, by omega⟩
      exact badExprL q4
    rw [pBinL] at hr
    rw [FX4_expression_14, if_neg (by rw [show (400 : Int32) = nI 400 from rfl, nI_leI (by omega) (by omega)]; omega)]
    have hK : ∀ s k3 m r4 σ4, kc < k3 → PO c τ0 V0 lo L false md nx k σ (k3, some (mo2 (dBin s) acc m)) r4 σ4 → pBinL c (spX c d) 5 39 40 D n k3 (mo2 (dBin s) acc m) = some r → Tr (FX4_expression_14 (FSC4 L z) L nf (nI D) st r4 (nI (i + 1)) σ4) (PO c τ0 V0 lo L false md nx k σ r) :=
      fun s k3 m r4 σ4 h1 h2 h3 => expressionL hc ih hD hz hS n k3 (i + 1) nf _ r4 σ4 r (by omega) (by omega) h2 h3
    by_cases e39 : tS c.1 kc = 39
    · rw [if_pos (by rw [(tS_lit e39 (by decide) (by decide)).1]; decide)] at hr
      rw [if_pos (show σc.1 4304 = 39 from hs.trans e39), FX4_expression_40]
      have := expressionN (st := st) (K := fun j a σ => FX4_expression_14 (FSC4 L z) L nf (nI D) st a (nI j) σ) hc ih hD hz hS (fun pl => opBin39 (pl := pl)) l1 S1 i1 e39 (by decide) (by decide) hr hB (hK 39)
      rw [nI_succ] at this
      exact this
    by_cases e40 : tS c.1 kc = 40
    · rw [if_pos (by rw [(tS_lit e40 (by decide) (by decide)).1]; decide)] at hr
      rw [if_neg (show ¬ σc.1 4304 = 39 by rw [hs]; exact e39), if_pos (show σc.1 4304 = 40 from hs.trans e40), FX4_expression_40]
      have := expressionN (st := st) (K := fun j a σ => FX4_expression_14 (FSC4 L z) L nf (nI D) st a (nI j) σ) hc ih hD hz hS (fun pl => opBin40 (pl := pl)) l1 S1 i1 e40 (by decide) (by decide) hr hB (hK 40)
      rw [nI_succ] at this
      exact this
    have out : Tr (some (x3, σc)) (PO c τ0 V0 lo L false md nx k σ r) := by
      refine Tr.ret ?_
      by_cases e0 : 39 ≤ (c.1 kc).toInt ∧ (c.1 kc).toInt ≤ 40
      · rw [if_pos e0] at hr
        have e400 : kc = 400 := by
          have hh : c.1 kc = 39 ∨ c.1 kc = 40 := by
            have : (c.1 kc).toInt = 39 ∨ (c.1 kc).toInt = 40 := by omega
            rcases this with h | h
            · exact Or.inl (Int32.toInt_inj.mp (by rw [h]; decide))
            · exact Or.inr (Int32.toInt_inj.mp (by rw [h]; decide))
          rcases hh with h | h
          · exact tS_no e39 h
          · exact tS_no e40 h
        rw [go_un e400] at hr
        have er := (Option.some.inj hr).symm
        subst er
        exact ⟨S1.1, S1.2.1.bad (tS_400 e400 (fun e53 => by rw [e53] at e0; exact absurd e0 (by decide)))⟩
      · rw [if_neg e0] at hr
        have er := (Option.some.inj hr).symm
        subst er
        exact hP
    rw [if_neg (show ¬ σc.1 4304 = 39 by rw [hs]; exact e39), if_neg (show ¬ σc.1 4304 = 40 by rw [hs]; exact e40)]
    exact out
theorem cexpression {d : Nat} (hc : CtP c τ0 V0 lo L) (ih : ClsOK c τ0 V0 lo L d) : CXs c τ0 V0 lo L (d + 1) 4 8 5 false := by
  intro D k nx md σ d2 hD hd hS r hr
  have hL := hc.2.2.2.1
  by_cases hu : tS c.1 k = 54
  · exact uncl hS hu (fun p h => badExpr (by omega) (by omega) h) hr
  obtain ⟨z, rfl⟩ : ∃ z, d2 = z + 1 := ⟨d2 - 1, by omega⟩
  have hr : pExpr c (spX c d) D k = some r := hr
  show Tr (FX4_expression (FSC4 L z) L (nI D) σ) _
  rw [FX4_expression]
  rw [pExpr] at hr
  obtain ⟨b, σ3, e3, q⟩ := callX ih.2.2.2.2.2.2.1 hD (show _ ≤ z by omega) hS hr
  rw [e3, b2r]
  rcases q with ⟨k', q, er⟩ | ⟨k3, m, hk3, hr, q⟩
  · subst er
    obtain ⟨L, rfl⟩ : ∃ z, L = z + 1 := ⟨L - 1, by omega⟩
    exact badExprL q
  · exact expressionL hc ih.2.2.2.2.2.2.1 hD (by omega) hS 400 k3 0 L m b σ3 r (by omega) (by omega) q hr
theorem productN {d z D : Nat} {st : Int32} (hc : CtP c τ0 V0 lo L) (ih : CXs c τ0 V0 lo L d 7 10 3 false) (hD : D ≤ 10) (hz : 16 * (10 - D) + 3 + 12 ≤ z) (hS : St c τ0 V0 lo L md nx k σ) {n kc i nx1 : Nat} {acc : MV} {x3 s : Int32} {σc : CS} {r : Rs} {K : Nat → Int32 → CS → Option (Int32 × CS)} (hop : ∀ pl x y nx a b σ, NI V0 lo nx false σ a x → NI V0 lo nx false σ b y → OpH V0 lo nx σ s pl a b (-1) 0 1000000 false false false x y (zV, zR) (dBin s x y).2 ∧ oV (kK s) a 0 (hiC 1000000) (kT s (-1)) x.1 y.1 zV = (dBin s x y).1) (l1 : nx ≤ nx1) (S1 : St c τ0 V0 lo L (nmd md acc) nx1 kc σc) (i1 : md = none → ∀ D, acc = .ok D → nx1 + k ≤ nx + kc ∧ NI V0 lo nx1 false σc x3 D ∧ Ext V0 lo nx σ σc) (e : tS c.1 kc = s) (h53 : s ≠ 53) (h54 : s ≠ 54) (hr : (go kc fun k2 => rb (spX c d 7 D k2) fun k3 b => pBinL c (spX c d) 7 41 43 D n k3 (mo2 (dBin (c.1 kc)) acc b)) = some r) (hB : ∀ p σ4 r4, BdS τ0 lo p σ4 → Tr (K (i + 1) r4 σ4) (fun _ σ' => BdS τ0 lo p σ')) (hK : ∀ k3 m r4 σ4, kc < k3 → PO c τ0 V0 lo L false md nx k σ (k3, some (mo2 (dBin s) acc m)) r4 σ4 → pBinL c (spX c d) 7 41 43 D n k3 (mo2 (dBin s) acc m) = some r → Tr (K (i + 1) r4 σ4) (PO c τ0 V0 lo L false md nx k σ r)) : Tr (b2 (FX4_advance σc) fun (_ : Unit) σ_4 => b2 (FSC4 L z 10 (nI D) σ_4) fun r_5 σ_5 => b2 (FX3_add (σc.1 4304) st x3 r_5 σ_5) fun r_6 σ_6 => K (i + 1) r_6 σ_6) (PO c τ0 V0 lo L false md nx k σ r) := by
  have e0 := (tS_lit e h54 h53).1
  obtain ⟨σ2, e2, S2, ch2⟩ := adv hc S1 e h53 h54
  rw [e2, b2r]
  have hr : rb (spX c d 7 D (kc + 1)) (fun k3 b => pBinL c (spX c d) 7 41 43 D n k3 (mo2 (dBin s) acc b)) = some r := by
    rw [e0] at hr
    rcases goI (s := s) h53 e0 hr with ⟨-, hr⟩ | ⟨e9, -⟩
    · exact hr
    · rw [e] at e9; exact absurd e9 h54
  obtain ⟨b, σ3, e3, q⟩ := callX ih hD hz S2 hr
  rw [e3, b2r]
  have hsE : σc.1 4304 = s := by rw [S1.2.1.2.2.2.1]; exact e
  rw [hsE]
  rcases q with ⟨k', q, er⟩ | ⟨k3, m, hk3, hr, q⟩
  · subst er
    exact (badAdd hc.2.1 hc.2.2.2.2.1 q).bind (fun r4 σ4 q4 => hB _ _ _ q4.1)
  · exact (binNode hc hS (hop st) l1 S1 i1 ch2.2.2 (by omega) q).bind (fun r4 σ4 q4 => hK k3 m r4 σ4 (by omega) q4 hr)
theorem productL {d z D : Nat} {st : Int32} (hc : CtP c τ0 V0 lo L) (ih : CXs c τ0 V0 lo L d 7 10 3 false) (hD : D ≤ 10) (hz : 16 * (10 - D) + 3 + 12 ≤ z) (hS : St c τ0 V0 lo L md nx k σ) : ∀ (n kc i nf : Nat) (acc : MV) (x3 : Int32) (σc : CS) (r : Rs), i + n = 400 → n < nf → PO c τ0 V0 lo L false md nx k σ (kc, some acc) x3 σc → pBinL c (spX c d) 7 41 43 D n kc acc = some r → Tr (FX4_product_14 (FSC4 L z) L nf (nI D) st x3 (nI i) σc) (PO c τ0 V0 lo L false md nx k σ r)
  | 0, _, _, _, _, _, _, _, _, _, _, hr => by cases hr
  | n+1, kc, i, nf, acc, x3, σc, r, hi, hf, hP, hr => by
    obtain ⟨nf, rfl⟩ : ∃ z, nf = z + 1 := ⟨nf - 1, by omega⟩
    obtain ⟨nx1, l1, S1, i1⟩ := id hP
    have hs := S1.2.1.2.2.2.1
    have hB : ∀ p σ4 r4, BdS τ0 lo p σ4 → Tr (FX4_product_14 (FSC4 L z) L nf (nI D) st r4 (nI (i + 1)) σ4) (fun _ σ' => BdS τ0 lo p σ') := by
      intro p σ4 r4 q4
      obtain ⟨nf, rfl⟩ : ∃ z, nf = z + 1 := ⟨nf - 1, by omega⟩
      exact badProdL q4
    rw [pBinL] at hr
    rw [FX4_product_14, if_neg (by rw [show (400 : Int32) = nI 400 from rfl, nI_leI (by omega) (by omega)]; omega)]
    have hK : ∀ s k3 m r4 σ4, kc < k3 → PO c τ0 V0 lo L false md nx k σ (k3, some (mo2 (dBin s) acc m)) r4 σ4 → pBinL c (spX c d) 7 41 43 D n k3 (mo2 (dBin s) acc m) = some r → Tr (FX4_product_14 (FSC4 L z) L nf (nI D) st r4 (nI (i + 1)) σ4) (PO c τ0 V0 lo L false md nx k σ r) :=
      fun s k3 m r4 σ4 h1 h2 h3 => productL hc ih hD hz hS n k3 (i + 1) nf _ r4 σ4 r (by omega) (by omega) h2 h3
    by_cases e41 : tS c.1 kc = 41
    · rw [if_pos (by rw [(tS_lit e41 (by decide) (by decide)).1]; decide)] at hr
      rw [if_neg (show ¬ σc.1 4304 < 41 by rw [hs, e41]; decide), if_neg (show ¬ 43 < σc.1 4304 by rw [hs, e41]; decide)]
      have := productN (st := st) (K := fun j a σ => FX4_product_14 (FSC4 L z) L nf (nI D) st a (nI j) σ) hc ih hD hz hS (fun pl => opBin41 (pl := pl)) l1 S1 i1 e41 (by decide) (by decide) hr hB (hK 41)
      rw [nI_succ] at this
      exact this
    by_cases e42 : tS c.1 kc = 42
    · rw [if_pos (by rw [(tS_lit e42 (by decide) (by decide)).1]; decide)] at hr
      rw [if_neg (show ¬ σc.1 4304 < 41 by rw [hs, e42]; decide), if_neg (show ¬ 43 < σc.1 4304 by rw [hs, e42]; decide)]
      have := productN (st := st) (K := fun j a σ => FX4_product_14 (FSC4 L z) L nf (nI D) st a (nI j) σ) hc ih hD hz hS (fun pl => opBin42 (pl := pl)) l1 S1 i1 e42 (by decide) (by decide) hr hB (hK 42)
      rw [nI_succ] at this
      exact this
    by_cases e43 : tS c.1 kc = 43
    · rw [if_pos (by rw [(tS_lit e43 (by decide) (by decide)).1]; decide)] at hr
      rw [if_neg (show ¬ σc.1 4304 < 41 by rw [hs, e43]; decide), if_neg (show ¬ 43 < σc.1 4304 by rw [hs, e43]; decide)]
      have := productN (st := st) (K := fun j a σ => FX4_product_14 (FSC4 L z) L nf (nI D) st a (nI j) σ) hc ih hD hz hS (fun pl => opBin43 (pl := pl)) l1 S1 i1 e43 (by decide) (by decide) hr hB (hK 43)
      rw [nI_succ] at this
      exact this
    have out : Tr (some (x3, σc)) (PO c τ0 V0 lo L false md nx k σ r) := by
      refine Tr.ret ?_
      by_cases e0 : 41 ≤ (c.1 kc).toInt ∧ (c.1 kc).toInt ≤ 43
      · rw [if_pos e0] at hr
        have e400 : kc = 400 := by
          have hh : c.1 kc = 41 ∨ c.1 kc = 42 ∨ c.1 kc = 43 := by
            have : (c.1 kc).toInt = 41 ∨ (c.1 kc).toInt = 42 ∨ (c.1 kc).toInt = 43 := by omega
            rcases this with h | h | h
            · exact Or.inl (Int32.toInt_inj.mp (by rw [h]; decide))
            · exact Or.inr (Or.inl (Int32.toInt_inj.mp (by rw [h]; decide)))
            · exact Or.inr (Or.inr (Int32.toInt_inj.mp (by rw [h]; decide)))
          rcases hh with h | h | h
          · exact tS_no e41 h
          · exact tS_no e42 h
          · exact tS_no e43 h
        rw [go_un e400] at hr
        have er := (Option.some.inj hr).symm
        subst er
        exact ⟨S1.1, S1.2.1.bad (tS_400 e400 (fun e53 => by rw [e53] at e0; exact absurd e0 (by decide)))⟩
      · rw [if_neg e0] at hr
        have er := (Option.some.inj hr).symm
        subst er
        exact hP
    by_cases g1 : σc.1 4304 < 41
    · rw [if_pos g1]; exact out
    · rw [if_neg g1]
      by_cases g2 : 43 < σc.1 4304
      · rw [if_pos g2]; exact out
      · exfalso
        rw [hs] at g1 g2
        have h1 := Int32.not_lt.mp g1
        have h2 := Int32.not_lt.mp g2
        have h1 := Int32.le_iff_toInt_le.mp h1
        have h2 := Int32.le_iff_toInt_le.mp h2
        rw [show (41 : Int32).toInt = 41 by decide] at h1
        rw [show (43 : Int32).toInt = 43 by decide] at h2
        have a41 : (tS c.1 kc).toInt ≠ 41 := fun z => e41 (Int32.toInt_inj.mp (by rw [z]; decide))
        have a42 : (tS c.1 kc).toInt ≠ 42 := fun z => e42 (Int32.toInt_inj.mp (by rw [z]; decide))
        have a43 : (tS c.1 kc).toInt ≠ 43 := fun z => e43 (Int32.toInt_inj.mp (by rw [z]; decide))
        omega
theorem cproduct {d : Nat} (hc : CtP c τ0 V0 lo L) (ih : ClsOK c τ0 V0 lo L d) : CXs c τ0 V0 lo L (d + 1) 5 9 4 false := by
  intro D k nx md σ d2 hD hd hS r hr
  have hL := hc.2.2.2.1
  by_cases hu : tS c.1 k = 54
  · exact uncl hS hu (fun p h => badProduct (by omega) (by omega) h) hr
  obtain ⟨z, rfl⟩ : ∃ z, d2 = z + 1 := ⟨d2 - 1, by omega⟩
  have hr : pProd c (spX c d) D k = some r := hr
  show Tr (FX4_product (FSC4 L z) L (nI D) σ) _
  rw [FX4_product]
  rw [pProd] at hr
  obtain ⟨b, σ3, e3, q⟩ := callX ih.2.2.2.2.2.2.2 hD (show _ ≤ z by omega) hS hr
  rw [e3, b2r]
  rcases q with ⟨k', q, er⟩ | ⟨k3, m, hk3, hr, q⟩
  · subst er
    obtain ⟨L, rfl⟩ : ∃ z, L = z + 1 := ⟨L - 1, by omega⟩
    exact badProdL q
  · exact productL hc ih.2.2.2.2.2.2.2 hD (by omega) hS 400 k3 0 L m b σ3 r (by omega) (by omega) q hr
theorem opSince {pl l h : Int32} (hb : bdF l h) : ∀ x y nx a b σ, NI V0 lo nx true σ a x → NI V0 lo nx true σ b y → OpH V0 lo nx σ 11 pl a b (-1) l h true true true x y (zV, zR) (dSince pl l (hiC h) x y).2 ∧ oV (kK 11) a l (hiC h) (kT 11 (-1)) x.1 y.1 zV = (dSince pl l (hiC h) x y).1 := by
  intro x y nx a b σ h1 h2
  refine ⟨⟨by decide, hb, fun _ => h1, fun _ => h2, fun h => absurd h (by decide), kd21 (by decide), fun _ A ra rb u1 u2 => ?_⟩, ?_⟩
  · rw [show kK 11 = 10 by decide] at *
    show _ = oR 10 l (hiC h) pl zV zR zR
    exact oR_congr2 (fun h => absurd h (by decide)) (fun _ => rfl) (fun h => absurd h (by decide)) (fun h => absurd h (by decide)) (fun h => absurd h (by decide))
  · rw [show kK 11 = 10 by decide]
    show _ = oV 10 0 l (hiC h) 0 x.1 y.1 zV
    exact oV_congr (by decide) (fun h => absurd h (by decide)) (fun _ => ⟨rfl, rfl⟩) (fun h => absurd h (by decide)) (fun _ => rfl) (fun _ => rfl) (fun _ => rfl)
theorem cSince' {d : Nat} (hc : CtP c τ0 V0 lo L) (hn : NumOK c) (ih : ClsOK c τ0 V0 lo L d) : CXs c τ0 V0 lo L (d + 1) 2 3 8 true := by
  intro D k nx md σ d2 hD hd hS r hr
  have hL := hc.2.2.2.1
  by_cases hu : tS c.1 k = 54
  · exact uncl hS hu (fun p h => badSince (by omega) (by omega) h) hr
  obtain ⟨z, rfl⟩ : ∃ z, d2 = z + 1 := ⟨d2 - 1, by omega⟩
  have hr : pSince c (spX c d) D k = some r := hr
  show Tr (FX4_since (FSC4 L z) (nI D) σ) _
  rw [FX4_since]
  rw [pSince] at hr
  obtain ⟨a, σ1, e1, q⟩ := callX ih.2.2.2.2.1 hD (show _ ≤ z by omega) hS hr
  rw [e1, b2r]
  rcases q with ⟨k', q, er⟩ | ⟨k1, m1, hk1, hr, q⟩
  · subst er
    rw [if_neg (by rw [q.2.1]; decide)]
    exact Tr.ret q
  obtain ⟨nx1, l1, S1, i1⟩ := id q
  rw [S1.2.1.2.2.2.1]
  have hr : (if c.1 k1 = 11 then go k1 (fun k2 => pBnd c k2 fun k3 bd => rb (spX c d 3 D k3) fun k4 b => some (k4, some (mvS (dSince (c.2.1 k)) m1 bd b))) else some (k1, some m1)) = some r := hr
  by_cases e : tS c.1 k1 = 11
  · obtain ⟨e0, ek⟩ := tS_lit e (by decide) (by decide)
    rw [if_pos e]
    rw [if_pos e0, go, if_neg ek] at hr
    obtain ⟨σ2, e2, S2, ch2⟩ := adv hc S1 e (by decide) (by decide)
    rw [e2, b2r]
    obtain ⟨σ3, e3, q3⟩ := cBnd hc hn S2 hr
    rw [e3, b2r]
    rcases q3 with ⟨k', q3, er⟩ | ⟨k3, bd, hk3, hr, S3, r3, b3⟩
    · subst er
      refine (badOne (by omega) (by omega) q3).bind (fun b σ4 q4 => ?_)
      refine (badAdd hc.2.1 hc.2.2.2.2.1 q4).bind (fun r5 σ5 q5 => ?_)
      exact (badBound hc.2.1 q5.1 q5.2).bind (fun _ σ6 q6 => Tr.ret q6)
    · obtain ⟨b, σ4, e4, q4⟩ := callX ih.2.2.2.2.1 hD (show _ ≤ z by omega) S3 hr
      rw [e4, b2r]
      rcases q4 with ⟨k', q4, er⟩ | ⟨k4, m2, hk4, hr, q4⟩
      · subst er
        refine (badAdd hc.2.1 hc.2.2.2.2.1 q4).bind (fun r5 σ5 q5 => ?_)
        exact (badBound hc.2.1 q5.1 q5.2).bind (fun _ σ6 q6 => Tr.ret q6)
      · have er := (Option.some.inj hr).symm
        subst er
        obtain ⟨nx4, l4, S4, i4⟩ := q4
        have tw := two l1 S1 i1 (show σ3.2.2 = σ1.2.2 from r3.trans ch2.2.2) (show k1 < k3 by omega) l4 i4
        have hk5 : k4 ≤ 400 := S4.2.1.1.1
        have hpl : σ.1 4305 = c.2.1 k := hS.2.1.2.2.2.2.1
        rw [hpl]
        have H : nmd (nmdB (nmd md m1) bd) m2 = none → nx4 + 401 ≤ lo.2 + k4 ∧ OpH V0 lo nx4 σ4 11 (c.2.1 k) a b (-1) (σ3.1 4310) (σ3.1 4311) true true true (vl m1) (vl m2) (zV, zR) (dSince (c.2.1 k) (σ3.1 4310) (hiC (σ3.1 4311)) (vl m1) (vl m2)).2 := by
          intro h
          obtain ⟨h1, y, e2⟩ := nmd_n h
          obtain ⟨h2, bq, eb⟩ := nmdB_n h1
          obtain ⟨h0, x, e1⟩ := nmd_n h2
          obtain ⟨b1, n1, n2, x3⟩ := tw h0 h1 x y e1 e2
          subst h0
          have := hS.2.2.2.2.2
          subst e1; subst e2
          exact ⟨by omega, (opSince (b3 bq eb).2.2 _ _ _ _ _ _ n1 n2).1⟩
        obtain ⟨rr, σ', e5, n1, n2, nx5, l5, M5, i5⟩ := cF1 (kb := k4) (b := b) hc S4.1 S4.2.1 S4.2.2 hk5 H
        refine ⟨rr, σ', e5, nx5, by omega, ⟨n1, n2, by rw [nmd_mvS]; exact M5⟩, fun h0 Dn hDn => ?_⟩
        obtain ⟨x, bq, y, e1, eb, e2, eD⟩ := mvS_ok hDn
        subst h0; subst e1; subst eb; subst e2; subst eD
        obtain ⟨b1, q1, q2, x3⟩ := tw rfl rfl x y rfl rfl
        obtain ⟨z1, z2, z3⟩ := i5 rfl
        obtain ⟨g1, g2, g3⟩ := b3 bq rfl
        have ev := (opSince (pl := c.2.1 k) g3 x y nx4 a b σ4 q1 q2).2
        refine ⟨by omega, ?_, x3.trans (by omega) z3⟩
        have : ((oV (kK 11) a (σ3.1 4310) (hiC (σ3.1 4311)) (kT 11 (-1)) x.1 y.1 zV, (dSince (c.2.1 k) (σ3.1 4310) (hiC (σ3.1 4311)) x y).2) : Den) = dSince (c.2.1 k) bq.1 bq.2 x y := by rw [ev, g1, g2]
        rw [← this]
        exact z2
  · rw [if_neg e]
    refine Tr.ret ?_
    by_cases e0 : c.1 k1 = 11
    · rw [if_pos e0] at hr
      have e400 : k1 = 400 := tS_no e e0
      rw [go_un e400] at hr
      have er := (Option.some.inj hr).symm
      subst er
      exact ⟨S1.1, S1.2.1.bad (tS_400 e400 (by rw [e0]; decide))⟩
    · rw [if_neg e0] at hr
      have er := (Option.some.inj hr).symm
      subst er
      exact q
end CN
