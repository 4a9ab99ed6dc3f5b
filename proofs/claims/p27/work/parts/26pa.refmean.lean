-- the reference's second reading: single forms, comparisons, numbers
section MQ2
variable {σ0 σ σ1 σ2 σ3 : MS} {V0 : Nat → Prop} {lo L len k nx : Nat} {kw : Nat → Int64} {bt : Nat → Int32} {c : Cx}
def EoM (c : Cx) (σ0 : MS) (V0 : Nat → Prop) (lo : Nat) (f : Bool) (nx k : Nat) (σ : MS) (k1 : Nat) (m1 : MV) (err : Int32) (σ' : MS) (g : Den → Den) : Prop := (∃ e, m1 = .error e ∧ err = e.1 ∧ e.1 ≠ 0 ∧ σ'.1 3 = e.2 ∧ FrM σ0 lo σ') ∨ ∃ D1, m1 = .ok D1 ∧ err = 0 ∧ ∃ nx1, OKm c σ0 V0 lo f nx k σ k1 (g D1) nx1 σ'
theorem someM {k1 k' : Nat} {m m1 : MV} (h : (some (k1, some m1) : Option Rs) = some (k', some m)) : k' = k1 ∧ m = m1 :=
  ⟨(Prod.ext_iff.mp (Option.some.inj h)).1.symm, (Option.some.inj (Prod.ext_iff.mp (Option.some.inj h)).2).symm⟩
theorem genM {kd a b t l h pl : Int32} {D1 D2 D3 Dn : Den} {f f1 f2 : Bool} {k3 nx3 : Nat} {σ' : MS} (hc : CtM kw bt len c σ0 V0 lo L) (hS : SM c σ0 V0 lo nx k σ) (S3 : SM c σ0 V0 lo nx3 k3 σ3) (hb : nx3 + k + 1 ≤ nx + k3) (hl : nx ≤ nx3) (x3 : ExtM V0 lo nx σ σ3) (hop : OpM V0 lo nx3 σ3 kd pl a b t l h f f1 f2 D1 D2 D3 Dn.2 ∧ oV kd a l h t D1.1 D2.1 D3.1 = Dn.1) (hN : NodeM nx3 kd a b t l h pl σ3 σ') : OKm c σ0 V0 lo f nx k σ k3 Dn (nx3 + 1) σ' := by
  have hk := hS.2.2.2.2
  obtain ⟨o1, o2⟩ := hop
  obtain ⟨m1, m2, m3⟩ := nodeSM hc S3 (by omega) hN o1
  refine ⟨by omega, by omega, m1, ?_, x3.trans hl m3⟩
  have : ((oV kd a l h t D1.1 D2.1 D3.1, Dn.2) : Den) = Dn := by rw [o2]
  refine ⟨?_, nx3, hN.2.2.1, S3.2.2.2.1.2.1, by have := S3.nx4; have := hc.2.1; omega⟩
  rw [← this]
  exact m2
/-- room for one more part -/
theorem SM.room (hc : CtM kw bt len c σ0 V0 lo L) {nx3 k3 : Nat} (hS : SM c σ0 V0 lo nx k σ) (S3 : SM c σ0 V0 lo nx3 k3 σ3) (hb : nx3 + k + 1 ≤ nx + k3) : nx3 < 1203 := by
  have := hc.2.1
  have := S3.nx4
  have := S3.2.2.2.2
  have := hS.2.2.2.2
  have := S3.2.2.1.1
  omega
theorem NIM.old {f : Bool} {q : Nat} {D : Den} (hV : ∀ q, V0 q → q < lo) (hT0 : okT V0 (ntM σ0)) (hF : FrM σ0 lo σ) (hq : V0 q) (h1 : dnV (ntM σ0) q = D.1) (h2 : f = true → dnR (ntM σ0) (σ0.2.1 15) q = D.2 ∧ BlD D) : NIM V0 lo nx f σ (nI q) D := by
  refine ⟨q, rfl, Or.inl hq, ?_, fun hf => ⟨?_, (h2 hf).2⟩⟩
  · rw [← h1]
    exact dnV_table hT0 (fun n hn => ntM_row (fun j => hF.2.2.1 j n (hV n hn))) hq
  · rw [← (h2 hf).1]
    exact dnR_table hT0 (fun n hn => ⟨ntM_row (fun j => hF.2.2.1 j n (hV n hn)), hF.2.2.1 15 n (hV n hn)⟩) hq
/-- a part in braces -/
theorem mBr {d z D : Nat} {f : Nat → MV → Option Rs} {k' : Nat} {m : MV} (hc : CtM kw bt len c σ0 V0 lo L) (ih : MXs c σ0 V0 lo L d 0 0 0 13 true) (hS : SM c σ0 V0 lo nx k σ) (hz : D + 1 ≤ 10 → (401 - (k + 1)) + 20 * (10 - (D + 1)) + 13 ≤ z) (hr : pBraced c (pBraces c (spX c d) D k) f = some (k', some m)) : D + 1 ≤ 10 ∧ ∃ k3 m3, k < k3 ∧ f k3 m3 = some (k', some m) ∧ ∃ err σ', FX11_braces (FSC2 L z) σ = some (err, σ') ∧ EoM c σ0 V0 lo true nx k σ k3 m3 err σ' id := by
  rw [pBraced, pBraces] at hr
  by_cases e : c.1 k = 32
  · rw [if_pos e] at hr
    by_cases e2 : 10 ≤ D
    · rw [if_pos e2] at hr; cases hr
    · rw [if_neg e2] at hr
      refine ⟨by omega, ?_⟩
      have hr2 : (go k fun k1 => rb (spX c d 0 (D + 1) k1) fun k2 a => ex c 33 k2 fun k3 => f k3 a) = some (k', some m) := by
        rw [← hr, go, go]
        by_cases c4 : k = 400
        · rw [if_pos c4, if_pos c4]; rfl
        · rw [if_neg c4, if_neg c4]
      obtain ⟨n4, hr⟩ := goM hr2
      have S1 := hS.next e n4 (by decide) (by decide)
      obtain ⟨k1, m1, hk1, hr, err, σ1, e1, q⟩ := cM9 ih (show D + 1 ≤ 10 by omega) (hz (by omega)) S1 hr
      obtain ⟨e33, n5, hr⟩ := exM2 hr
      refine ⟨k1 + 1, m1, by omega, hr, err, sI σ1 7 (σ1.1 7 + 1), ?_, ?_⟩
      · rw [FX11_braces, e1, b2r]
      · rcases q with ⟨e, q1, q2, q3, q4, q5⟩ | ⟨x, q1, q2, nx1, l1, b1, S2, n1, x1⟩
        · exact Or.inl ⟨e, q1, q2, q3, by rw [sI_o (by decide)]; exact q4, q5.int (by omega)⟩
        · refine Or.inr ⟨x, q1, q2, nx1, l1, by omega, S2.next e33 n5 (by decide) (by decide), ?_, x1⟩
          rw [sI_o (by decide)]
          exact ⟨n1.1.same rfl, n1.2⟩
  · rw [if_neg e] at hr; cases hr
/-- a form with something in front of it -/
theorem mFrT {d z D k2 : Nat} {kd s l h : Int32} {k' : Nat} {m : MV} (hc : CtM kw bt len c σ0 V0 lo L) (ih : MXs c σ0 V0 lo L d 3 3 0 9 true) (hop : ∀ (pl l h : Int32) (x : Den) (nx : Nat) (a : Int32) (σ : MS), NIM V0 lo nx true σ a x → OpM V0 lo nx σ kd pl a (-1) (-1) l h true true false x (zV, zR) (zV, zR) (dFront s pl l h x).2 ∧ oV kd a l h (-1) x.1 zV zV = (dFront s pl l h x).1) (hD : D + 1 ≤ 10) (hS : SM c σ0 V0 lo nx k σ) (hS2 : SM c σ0 V0 lo nx k2 σ2) (e2 : σ2.2 = σ.2) (hk : k < k2) (hz : (401 - k2) + 20 * (10 - (D + 1)) + 9 ≤ z) (hr : rb (spX c d 3 (D + 1) k2) (fun k3 a => some (k3, some (mvB (dFront s (c.2.1 k)) (.ok (l, h)) a))) = some (k', some m)) : ∃ err σ', FX11_fronted_52 (FSC2 L z) L (nI k) kd 0 l h σ2 = some (err, σ') ∧ PM c σ0 V0 lo true nx k σ k' m err σ' := by
  rw [FX11_fronted_52, if_pos rfl]
  obtain ⟨k3, m3, hk3, hr, r3, σ3, e3, q⟩ := cM9 ih hD hz hS2 hr
  rw [e3, b2r, FX11_fronted_63]
  obtain ⟨rfl, rfl⟩ := someM hr
  rcases q with ⟨e, rfl, rfl, he, q3, q4⟩ | ⟨x, rfl, rfl, nx3, ok3⟩
  · rw [if_neg he]
    exact ⟨_, _, rfl, rfl, he, q3, q4⟩
  · obtain ⟨l3, b3, S3, n3, x3⟩ := id ok3
    have hx3 := hS.room hc S3 (by omega)
    rw [if_pos rfl, if_neg (kin hS.2.2.1), kcl hS.2.2.1, rFrom (hc.1.fr S3.1) hS.2.2.1]
    obtain ⟨σ4, e4, hN⟩ := rNode2 (kd := kd) (a := σ3.1 17) (b := -1) (t := -1) (pl := c.2.1 k) hc S3.2.2.2.1 hx3
    rw [e4, b2r, hN.2.2.1, if_neg (idx17 hx3), if_neg (idx17 hx3), nI_clamp (by omega)]
    refine ⟨_, _, rfl, rfl, nx3 + 1, ?_⟩
    exact genM hc hS S3 (by omega) l3 (fun q hq j => by rw [x3 q hq j, e2]) (hop _ _ _ x nx3 _ σ3 n3.1) (hN.bounds (l2 := l) (h2 := h) hx3)
theorem mFrA {d z D i : Nat} {kd s : Int32} {k' : Nat} {m : MV} (hc : CtM kw bt len c σ0 V0 lo L) (ih : MXs c σ0 V0 lo L d 3 3 0 9 true) (hop : ∀ (pl l h : Int32) (x : Den) (nx : Nat) (a : Int32) (σ : MS), NIM V0 lo nx true σ a x → OpM V0 lo nx σ kd pl a (-1) (-1) l h true true false x (zV, zR) (zV, zR) (dFront s pl l h x).2 ∧ oV kd a l h (-1) x.1 zV zV = (dFront s pl l h x).1) (h4 : ¬ ((4 : Int32) ≤ kd)) (hS : SM c σ0 V0 lo nx k σ) (he : c.1 k = s) (hs1 : s ≠ 53) (hs2 : s ≠ 54) (hz : D + 1 ≤ 10 → (401 - (k + 1)) + 20 * (10 - (D + 1)) + 9 ≤ z) (hr : (if 10 ≤ D then some (k, none) else go k fun k1 => rb (spX c d 3 (D + 1) k1) fun k3 a => some (k3, some (mvB (dFront (c.1 k) (c.2.1 k)) (.ok (0, -1)) a))) = some (k', some m)) : ∃ err σ', FX11_fronted (FSC2 L z) L (nI k) kd σ = some (err, σ') ∧ PM c σ0 V0 lo true nx k σ k' m err σ' := by
  by_cases e2 : 10 ≤ D
  · rw [if_pos e2] at hr; cases hr
  rw [if_neg e2, he] at hr
  obtain ⟨n4, hr⟩ := goM hr
  rw [FX11_fronted, if_neg h4, FX11_fronted_23, if_neg h4, FX11_fronted_37, if_neg h4]
  exact mFrT hc ih hop (by omega) hS (hS.next he n4 hs1 hs2) rfl (by omega) (hz (by omega)) hr
theorem mFrB {d z D : Nat} {kd s : Int32} {k' : Nat} {m : MV} (hc : CtM kw bt len c σ0 V0 lo L) (ih : MXs c σ0 V0 lo L d 3 3 0 9 true) (hop : ∀ (pl l h : Int32) (x : Den) (nx : Nat) (a : Int32) (σ : MS), NIM V0 lo nx true σ a x → OpM V0 lo nx σ kd pl a (-1) (-1) l h true true false x (zV, zR) (zV, zR) (dFront s pl l h x).2 ∧ oV kd a l h (-1) x.1 zV zV = (dFront s pl l h x).1) (h4 : (4 : Int32) ≤ kd) (hS : SM c σ0 V0 lo nx k σ) (he : c.1 k = s) (hs1 : s ≠ 53) (hs2 : s ≠ 54) (hz : D + 1 ≤ 10 → (401 - (k + 1)) + 20 * (10 - (D + 1)) + 9 ≤ z) (hr : (if 10 ≤ D then some (k, none) else go k fun k1 => pBnd c k1 fun k2 bd => rb (spX c d 3 (D + 1) k2) fun k3 a => some (k3, some (mvB (dFront (c.1 k) (c.2.1 k)) bd a))) = some (k', some m)) : ∃ err σ', FX11_fronted (FSC2 L z) L (nI k) kd σ = some (err, σ') ∧ PM c σ0 V0 lo true nx k σ k' m err σ' := by
  by_cases e2 : 10 ≤ D
  · rw [if_pos e2] at hr; cases hr
  rw [if_neg e2, he] at hr
  obtain ⟨n4, hr⟩ := goM hr
  rw [FX11_fronted, if_pos h4]
  obtain ⟨k2, bd, hk2, hr, err, σ2, e3, q⟩ := mBnd hc (hS.next he n4 hs1 hs2) hr
  rw [e3, b2r, FX11_fronted_23, if_pos h4, FX11_fronted_37, if_pos h4]
  rcases q with ⟨e, rfl, rfl, he, q3, q4⟩ | ⟨q, rfl, rfl, S2, q1, q2, q3, q4⟩
  · rw [FX11_fronted_52, if_neg he, FX11_fronted_63, if_neg he]
    obtain ⟨k3, m3, -, h3⟩ := rbM hr
    obtain ⟨rfl, rfl⟩ := someM h3
    exact ⟨_, _, rfl, rfl, he, q3, q4⟩
  · rw [q2, q3]
    exact mFrT hc ih hop (by omega) hS S2 q1 (by omega) (by have := hz (by omega); omega) hr
/-- two sides of a number's operator -/
theorem mTwo {d y D X Y rank kc nx1 : Nat} {p s t : Int32} {x : Den} {σc : MS} {g : Nat → MV → Option Rs} {k' : Nat} {m : MV} (hc : CtM kw bt len c σ0 V0 lo L) (ih : MXs c σ0 V0 lo L d X Y 0 rank false) (hY : p = 0 ∧ Y = 10 ∨ p ≠ 0 ∧ Y = 7) (hD : D ≤ 10) (hS : SM c σ0 V0 lo nx k σ) (hO : OKm c σ0 V0 lo false nx k σ kc x nx1 σc) (he : c.1 kc = s) (h4 : kc ≠ 400) (hs1 : s ≠ 53) (hs2 : s ≠ 54) (hw : wF (fun i => decide (s = cs2.getD i 99)) 5 = t) (hop : ∀ (pl : Int32) (x y : Den) (nx : Nat) (a b : Int32) (σ : MS), NIM V0 lo nx false σ a x → NIM V0 lo nx false σ b y → OpM V0 lo nx σ 34 pl a b t 0 (-1) false false false x y (zV, zR) (dBin s x y).2 ∧ oV 34 a 0 (-1) t x.1 y.1 zV = (dBin s x y).1) (hz : (401 - (kc + 1)) + 20 * (10 - D) + rank ≤ y) (hr : rb (spX c d X D (kc + 1)) g = some (k', some m)) : ∃ k3 m3, kc < k3 ∧ g k3 m3 = some (k', some m) ∧ ∃ err σ', FX11_twoSided (FSC2 L y) L p σc = some (err, σ') ∧ EoM c σ0 V0 lo false nx k σ k3 m3 err σ' (dBin s x) := by
  obtain ⟨l1, b1, S1, n1, x1⟩ := id hO
  have S2 := S1.next he h4 hs1 hs2
  obtain ⟨k3, m3, hk3, hr, r3, σ3, e3, q⟩ := cM9 ih hD hz S2 hr
  refine ⟨k3, m3, by omega, hr, ?_⟩
  have tw : FX11_twoSided (FSC2 L y) L p σc = FX11_twoSided_42 (FSC2 L y) L (σc.1 17) t r3 σ3 := by
    rw [FX11_twoSided, S1.2.1, rW_2 (hc.1.fr S1.1) S1.2.2.1, b2r, he, hw]
    rcases hY with ⟨rfl, rfl⟩ | ⟨hp, rfl⟩
    · rw [if_pos rfl, e3, b2r]
    · rw [if_neg hp, e3, b2r]
  rw [tw, FX11_twoSided_42]
  rcases q with ⟨e, rfl, rfl, he, q3, q4⟩ | ⟨y', rfl, rfl, nx3, ok3⟩
  · rw [if_neg he]
    exact ⟨_, _, rfl, Or.inl ⟨e, rfl, rfl, he, q3, q4⟩⟩
  · obtain ⟨l3, b3, S3, n3, x3⟩ := id ok3
    have hx3 := hS.room hc S3 (by omega)
    obtain ⟨q, eq, hq⟩ := n1.1.lt hc.2.2.1 hc.2.1 S1.nx4
    rw [if_pos rfl, eq, if_neg (idx17 hq), ← eq]
    obtain ⟨σ4, e4, hN⟩ := rNode2 (kd := 34) (a := σc.1 17) (b := σ3.1 17) (t := t) (pl := σ3.2.1 15 (σc.1 17).toNatClampNeg) hc S3.2.2.2.1 hx3
    rw [e4, b2r]
    refine ⟨_, _, rfl, Or.inr ⟨y', rfl, rfl, nx3 + 1, ?_⟩⟩
    have n1' : NIM V0 lo nx3 false σ3 (σc.1 17) x := (n1.1.same (σ := sI σc 7 (σc.1 7 + 1)) rfl).ext S2.2.2.2.1.2.2.1 x3 l3
    exact genM hc hS S3 (by omega) (by omega) (x1.trans l1 (fun q hq j => x3 q hq j)) (hop _ x y' nx3 _ _ σ3 n1' n3.1) hN
theorem mExpL {d z D : Nat} (hc : CtM kw bt len c σ0 V0 lo L) (ih : MXs c σ0 V0 lo L d 5 7 0 4 false) (hD : D ≤ 10) (hS : SM c σ0 V0 lo nx k σ) (hz : (401 - k) + 20 * (10 - D) + 5 ≤ z) : ∀ (n kc nf nx1 k' : Nat) (x : Den) (m : MV) (σc : MS), n < nf → k < kc → OKm c σ0 V0 lo false nx k σ kc x nx1 σc → pBinL c (spX c d) 5 39 40 D n kc (.ok x) = some (k', some m) → ∃ err σ', FX11_expression_5 (FSC2 L z) L nf 0 σc = some (err, σ') ∧ PM c σ0 V0 lo false nx k σ k' m err σ'
  | 0, _, _, _, _, _, _, _, _, _, _, hr => by cases hr
  | n+1, kc, nf, nx1, k', x, m, σc, hf, hkc, hO, hr => by
    obtain ⟨nf, rfl⟩ : ∃ z, nf = z + 1 := ⟨nf - 1, by omega⟩
    obtain ⟨z, rfl⟩ : ∃ y, z = y + 1 := ⟨z - 1, by omega⟩
    obtain ⟨l1, b1, S1, n1, x1⟩ := id hO
    have h400 := S1.2.2.1.1
    have nxt : ∀ s t : Int32, c.1 kc = s → s ≠ 53 → s ≠ 54 → wF (fun i => decide (s = cs2.getD i 99)) 5 = t → (∀ (pl : Int32) (x y : Den) (nx : Nat) (a b : Int32) (σ : MS), NIM V0 lo nx false σ a x → NIM V0 lo nx false σ b y → OpM V0 lo nx σ 34 pl a b t 0 (-1) false false false x y (zV, zR) (dBin s x y).2 ∧ oV 34 a 0 (-1) t x.1 y.1 zV = (dBin s x y).1) → (go kc fun k2 => rb (spX c d 5 D k2) fun k3 b => pBinL c (spX c d) 5 39 40 D n k3 (mo2 (dBin (c.1 kc)) (.ok x) b)) = some (k', some m) → ∃ err σ', FX11_expression_27 (FSC2 L (z + 1)) L (FX11_expression_5 (FSC2 L (z + 1)) L nf) σc = some (err, σ') ∧ PM c σ0 V0 lo false nx k σ k' m err σ' := by
      intro s t hs h1 h2 hw hop hr
      obtain ⟨n4, hr⟩ := goM hr
      rw [hs] at hr
      obtain ⟨k3, m3, hk3, hr, err, σ3, e3, q⟩ := mTwo (p := 1) (Y := 7) hc ih (by decide) hD hS hO hs n4 h1 h2 hw hop (show _ ≤ z by omega) hr
      have e3' : FSC2 L (z + 1) 8 1 0 0 σc = some (err, σ3) := e3
      rw [FX11_expression_27, e3', b2r]
      rcases q with ⟨e, rfl, rfl, he, q3, q4⟩ | ⟨y, rfl, rfl, nx3, ok3⟩
      · obtain ⟨nf, rfl⟩ : ∃ z, nf = z + 1 := ⟨nf - 1, by omega⟩
        rw [FX11_expression_5, if_neg he]
        have := binErr _ _ _ _ hr
        subst this
        exact ⟨_, _, rfl, rfl, he, q3, q4⟩
      · exact mExpL hc ih hD hS hz n k3 nf nx3 k' _ m σ3 (by omega) (by omega) ok3 hr
    rw [pBinL] at hr
    rw [FX11_expression_5, if_pos rfl]
    rw [rS_23 (hc.1.fr S1.1) S1.2.1 S1.2.2.1, b2r, ibI]
    by_cases e39 : c.1 kc = 39
    · rw [if_pos (by rw [e39]; decide)] at hr
      rw [if_pos (decide_eq_true e39)]
      exact nxt _ _ e39 (by decide) (by decide) (wh2_39 rfl) (fun _ => oMBin39) hr
    rw [if_neg (show ¬ (decide (c.1 kc = 39) = true) by simp [e39])]
    rw [rS_3 (hc.1.fr S1.1) S1.2.1 S1.2.2.1, b2r, ibI]
    by_cases e40 : c.1 kc = 40
    · rw [if_pos (by rw [e40]; decide)] at hr
      rw [if_pos (decide_eq_true e40)]
      exact nxt _ _ e40 (by decide) (by decide) (wh2_40 rfl) (fun _ => oMBin40) hr
    rw [if_neg (show ¬ (decide (c.1 kc = 40) = true) by simp [e40])]
    rw [if_neg (fun q => by
      have h39 : (c.1 kc).toInt ≠ 39 := fun z => e39 (Int32.toInt_inj.mp (by rw [z]; decide))
      have h40 : (c.1 kc).toInt ≠ 40 := fun z => e40 (Int32.toInt_inj.mp (by rw [z]; decide))
      omega)] at hr
    obtain ⟨rfl, rfl⟩ := someM hr
    exact ⟨_, _, rfl, rfl, nx1, hO⟩
theorem mProL {d z D : Nat} (hc : CtM kw bt len c σ0 V0 lo L) (ih : MXs c σ0 V0 lo L d 7 10 0 2 false) (hD : D ≤ 10) (hS : SM c σ0 V0 lo nx k σ) (hz : (401 - k) + 20 * (10 - D) + 3 ≤ z) : ∀ (n kc nf nx1 k' : Nat) (x : Den) (m : MV) (σc : MS), n < nf → k < kc → OKm c σ0 V0 lo false nx k σ kc x nx1 σc → pBinL c (spX c d) 7 41 43 D n kc (.ok x) = some (k', some m) → ∃ err σ', FX11_product_5 (FSC2 L z) L nf 0 σc = some (err, σ') ∧ PM c σ0 V0 lo false nx k σ k' m err σ'
  | 0, _, _, _, _, _, _, _, _, _, _, hr => by cases hr
  | n+1, kc, nf, nx1, k', x, m, σc, hf, hkc, hO, hr => by
    obtain ⟨nf, rfl⟩ : ∃ z, nf = z + 1 := ⟨nf - 1, by omega⟩
    obtain ⟨z, rfl⟩ : ∃ y, z = y + 1 := ⟨z - 1, by omega⟩
    obtain ⟨l1, b1, S1, n1, x1⟩ := id hO
    have h400 := S1.2.2.1.1
    have nxt : ∀ s t : Int32, c.1 kc = s → s ≠ 53 → s ≠ 54 → wF (fun i => decide (s = cs2.getD i 99)) 5 = t → (∀ (pl : Int32) (x y : Den) (nx : Nat) (a b : Int32) (σ : MS), NIM V0 lo nx false σ a x → NIM V0 lo nx false σ b y → OpM V0 lo nx σ 34 pl a b t 0 (-1) false false false x y (zV, zR) (dBin s x y).2 ∧ oV 34 a 0 (-1) t x.1 y.1 zV = (dBin s x y).1) → (go kc fun k2 => rb (spX c d 7 D k2) fun k3 b => pBinL c (spX c d) 7 41 43 D n k3 (mo2 (dBin (c.1 kc)) (.ok x) b)) = some (k', some m) → ∃ err σ', FX11_product_37 (FSC2 L (z + 1)) L (FX11_product_5 (FSC2 L (z + 1)) L nf) σc = some (err, σ') ∧ PM c σ0 V0 lo false nx k σ k' m err σ' := by
      intro s t hs h1 h2 hw hop hr
      obtain ⟨n4, hr⟩ := goM hr
      rw [hs] at hr
      obtain ⟨k3, m3, hk3, hr, err, σ3, e3, q⟩ := mTwo (p := 0) (Y := 10) hc ih (by decide) hD hS hO hs n4 h1 h2 hw hop (show _ ≤ z by omega) hr
      have e3' : FSC2 L (z + 1) 8 0 0 0 σc = some (err, σ3) := e3
      rw [FX11_product_37, e3', b2r]
      rcases q with ⟨e, rfl, rfl, he, q3, q4⟩ | ⟨y, rfl, rfl, nx3, ok3⟩
      · obtain ⟨nf, rfl⟩ : ∃ z, nf = z + 1 := ⟨nf - 1, by omega⟩
        rw [FX11_product_5, if_neg he]
        have := binErr _ _ _ _ hr
        subst this
        exact ⟨_, _, rfl, rfl, he, q3, q4⟩
      · exact mProL hc ih hD hS hz n k3 nf nx3 k' _ m σ3 (by omega) (by omega) ok3 hr
    rw [pBinL] at hr
    rw [FX11_product_5, if_pos rfl]
    rw [rS_24 (hc.1.fr S1.1) S1.2.1 S1.2.2.1, b2r, ibI]
    by_cases e41 : c.1 kc = 41
    · rw [if_pos (by rw [e41]; decide)] at hr
      rw [if_pos (decide_eq_true e41)]
      exact nxt _ _ e41 (by decide) (by decide) (wh2_41 rfl) (fun _ => oMBin41) hr
    rw [if_neg (show ¬ (decide (c.1 kc = 41) = true) by simp [e41])]
    rw [rS_25 (hc.1.fr S1.1) S1.2.1 S1.2.2.1, b2r, ibI]
    by_cases e42 : c.1 kc = 42
    · rw [if_pos (by rw [e42]; decide)] at hr
      rw [if_pos (decide_eq_true e42)]
      exact nxt _ _ e42 (by decide) (by decide) (wh2_42 rfl) (fun _ => oMBin42) hr
    rw [if_neg (show ¬ (decide (c.1 kc = 42) = true) by simp [e42])]
    rw [rS_26 (hc.1.fr S1.1) S1.2.1 S1.2.2.1, b2r, ibI]
    by_cases e43 : c.1 kc = 43
    · rw [if_pos (by rw [e43]; decide)] at hr
      rw [if_pos (decide_eq_true e43)]
      exact nxt _ _ e43 (by decide) (by decide) (wh2_43 rfl) (fun _ => oMBin43) hr
    rw [if_neg (show ¬ (decide (c.1 kc = 43) = true) by simp [e43])]
    rw [if_neg (fun q => by
      have h41 : (c.1 kc).toInt ≠ 41 := fun z => e41 (Int32.toInt_inj.mp (by rw [z]; decide))
      have h42 : (c.1 kc).toInt ≠ 42 := fun z => e42 (Int32.toInt_inj.mp (by rw [z]; decide))
      have h43 : (c.1 kc).toInt ≠ 43 := fun z => e43 (Int32.toInt_inj.mp (by rw [z]; decide))
      omega)] at hr
    obtain ⟨rfl, rfl⟩ := someM hr
    exact ⟨_, _, rfl, rfl, nx1, hO⟩
theorem mExp {d : Nat} (hc : CtM kw bt len c σ0 V0 lo L) (ih : MeanOK c σ0 V0 lo L d) : MXs c σ0 V0 lo L (d + 1) 4 6 0 6 false := by
  intro D k nx σ d2 hD hd hS k' m hr
  have hL := hc.1.2.2.2.2.2.2
  have hk0 := hS.2.2.1.1
  obtain ⟨z, rfl⟩ : ∃ z, d2 = z + 1 := ⟨d2 - 1, by omega⟩
  have hr : pExpr c (spX c d) D k = some (k', some m) := hr
  show ∃ err σ', FX11_expression (FSC2 L z) L σ = some (err, σ') ∧ _
  rw [pExpr] at hr
  rw [FX11_expression]
  obtain ⟨k1, m1, hk1, hr, r1, σ1, e1, q⟩ := cM9 ih.2.2.2.2.2.2.1 hD (show _ ≤ z by omega) hS hr
  rw [e1, b2r]
  rcases q with ⟨e, rfl, rfl, he, q3, q4⟩ | ⟨x, rfl, rfl, nx1, hO⟩
  · obtain ⟨L, rfl⟩ : ∃ z, L = z + 1 := ⟨L - 1, by omega⟩
    rw [FX11_expression_5, if_neg he]
    have := binErr _ _ _ _ hr
    subst this
    exact ⟨_, _, rfl, rfl, he, q3, q4⟩
  · exact mExpL hc ih.2.2.2.2.2.2.1 hD hS (by omega) 400 k1 L nx1 k' x m σ1 (by omega) (by omega) hO hr
theorem mPro {d : Nat} (hc : CtM kw bt len c σ0 V0 lo L) (ih : MeanOK c σ0 V0 lo L d) : MXs c σ0 V0 lo L (d + 1) 5 7 0 4 false := by
  intro D k nx σ d2 hD hd hS k' m hr
  have hL := hc.1.2.2.2.2.2.2
  have hk0 := hS.2.2.1.1
  obtain ⟨z, rfl⟩ : ∃ z, d2 = z + 1 := ⟨d2 - 1, by omega⟩
  have hr : pProd c (spX c d) D k = some (k', some m) := hr
  show ∃ err σ', FX11_product (FSC2 L z) L σ = some (err, σ') ∧ _
  rw [pProd] at hr
  rw [FX11_product]
  obtain ⟨k1, m1, hk1, hr, r1, σ1, e1, q⟩ := cM9 ih.2.2.2.2.2.2.2 hD (show _ ≤ z by omega) hS hr
  rw [e1, b2r]
  rcases q with ⟨e, rfl, rfl, he, q3, q4⟩ | ⟨x, rfl, rfl, nx1, hO⟩
  · obtain ⟨L, rfl⟩ : ∃ z, L = z + 1 := ⟨L - 1, by omega⟩
    rw [FX11_product_5, if_neg he]
    have := binErr _ _ _ _ hr
    subst this
    exact ⟨_, _, rfl, rfl, he, q3, q4⟩
  · exact mProL hc ih.2.2.2.2.2.2.2 hD hS (by omega) 400 k1 L nx1 k' x m σ1 (by omega) (by omega) hO hr
/-- behind the first side of a comparison -/
theorem mCmpT {d y D k1 nx1 : Nat} {s t : Int32} {x : Den} {k' : Nat} {m : MV} (hc : CtM kw bt len c σ0 V0 lo L) (ih : MXs c σ0 V0 lo L d 4 6 0 6 false) (hD : D ≤ 10) (hS : SM c σ0 V0 lo nx k σ) (hO : OKm c σ0 V0 lo false nx k σ k1 x nx1 σ1) (hk : k < k1) (he : c.1 k1 = s) (hs1 : s ≠ 53) (hs2 : s ≠ 54) (hw : wF (fun i => decide (s = cs1.getD i 99)) 6 = t) (hop : ∀ (pl : Int32) (x y : Den) (nx : Nat) (a b : Int32) (σ : MS), NIM V0 lo nx false σ a x → NIM V0 lo nx false σ b y → OpM V0 lo nx σ 9 pl a b t 0 (-1) true false false x y (zV, zR) (dCmp s pl x y).2 ∧ oV 9 a 0 (-1) t x.1 y.1 zV = (dCmp s pl x y).1) (hz : (401 - k) + 20 * (10 - D) + 6 ≤ y) (hr : (go k1 fun k2 => rb (spX c d 4 D k2) fun k3 b => some (k3, some (mo2 (dCmp (c.1 k1) (c.2.1 k)) (.ok x) b))) = some (k', some m)) : ∃ err σ', (b2 (FX11_which L (σ1.1 7) 1 σ1) fun r_3 σ_3 => b2 (FSC2 L y 6 0 0 0 (sI σ_3 7 ((σ_3.1 7) + (1 : Int32)))) fun r_4 σ_4 => if r_4 = 0 then (if (nI k < 0 ∨ 1801 ≤ (nI k).toNatClampNeg) then none else b2 (FX11_node (9 : Int32) (σ1.1 17) (σ_4.1 17) r_3 (σ_4.2.1 5 (nI k).toNatClampNeg) σ_4) fun r_7 σ_7 => some (r_7, σ_7)) else some (r_4, σ_4)) = some (err, σ') ∧ PM c σ0 V0 lo true nx k σ k' m err σ' := by
  obtain ⟨n4, hr⟩ := goM hr
  obtain ⟨l1, b1, S1, n1, x1⟩ := id hO
  rw [he] at hr
  have S2 := S1.next he n4 hs1 hs2
  rw [S1.2.1, rW_1 (hc.1.fr S1.1) S1.2.2.1, b2r, he, hw]
  obtain ⟨k3, m3, hk3, hr, r3, σ3, e3, q⟩ := cM9 ih hD (show _ ≤ y by omega) S2 hr
  rw [e3, b2r]
  obtain ⟨rfl, rfl⟩ := someM hr
  rcases q with ⟨e, rfl, rfl, he, q3, q4⟩ | ⟨y', rfl, rfl, nx3, ok3⟩
  · rw [if_neg he]
    exact ⟨_, _, rfl, rfl, he, q3, q4⟩
  · obtain ⟨l3, b3, S3, n3, x3⟩ := id ok3
    have hx3 := hS.room hc S3 (by omega)
    rw [if_pos rfl, if_neg (kin hS.2.2.1), kcl hS.2.2.1, rFrom (hc.1.fr S3.1) hS.2.2.1]
    obtain ⟨σ4, e4, hN⟩ := rNode2 (kd := 9) (a := σ1.1 17) (b := σ3.1 17) (t := t) (pl := c.2.1 k) hc S3.2.2.2.1 hx3
    rw [e4, b2r]
    refine ⟨_, _, rfl, rfl, nx3 + 1, ?_⟩
    have n1' : NIM V0 lo nx3 false σ3 (σ1.1 17) x := (n1.1.same (σ := sI σ1 7 (σ1.1 7 + 1)) rfl).ext S2.2.2.2.1.2.2.1 x3 l3
    exact genM hc hS S3 (by omega) (by omega) (x1.trans l1 (fun q hq j => x3 q hq j)) (hop _ x y' nx3 _ _ σ3 n1' n3.1) hN
theorem nI_m1 {j : Nat} (h : j < 2 ^ 31) : ¬ (nI j = -1) := by
  intro e
  have h1 := congrArg Int32.toInt e
  rw [nI_toInt h] at h1
  have h2 : (-1 : Int32).toInt = -1 := by decide
  omega
/-- one form -/
theorem mOne {d : Nat} (hc : CtM kw bt len c σ0 V0 lo L) (ih : MeanOK c σ0 V0 lo L d) : MXs c σ0 V0 lo L (d + 1) 3 3 0 9 true := by
  intro D k nx σ d2 hD hd hS k' m hr
  have hk0 := hS.2.2.1.1
  obtain ⟨z, rfl⟩ : ∃ z, d2 = z + 2 := ⟨d2 - 2, by omega⟩
  have hr : pOne c (spX c d) D k = some (k', some m) := hr
  show ∃ err σ', FX11_one (FSC2 L (z + 1)) L σ = some (err, σ') ∧ _
  have fr : ∀ (y : Option (Int32 × MS)), (∃ err σ', y = some (err, σ') ∧ PM c σ0 V0 lo true nx k σ k' m err σ') → ∃ err σ', (b2 y fun r s => some (r, s)) = some (err, σ') ∧ PM c σ0 V0 lo true nx k σ k' m err σ' := by
    rintro y ⟨err, σ', e, p⟩
    exact ⟨err, σ', by rw [e, b2r], p⟩
  rw [pOne] at hr
  rw [FX11_one, hS.2.1, rW_3 (hc.1.fr hS.1) hS.2.2.1, b2r]
  by_cases e5 : c.1 k = 5
  · rw [if_pos (by simp [e5])] at hr
    rw [wh3_5 e5, if_neg (show ¬ ((0 : Int32) = -1) by decide)]
    exact fr _ (mFrA (i := 0) hc ih.2.2.2.2.1 (fun _ _ _ => oMFr0) (by decide) hS e5 (by decide) (by decide) (fun _ => by omega) hr)
  by_cases e6 : c.1 k = 6
  · rw [if_pos (by simp [e6])] at hr
    rw [wh3_6 e6, if_neg (show ¬ ((1 : Int32) = -1) by decide)]
    exact fr _ (mFrA (i := 0) hc ih.2.2.2.2.1 (fun _ _ _ => oMFr1) (by decide) hS e6 (by decide) (by decide) (fun _ => by omega) hr)
  by_cases e7 : c.1 k = 7
  · rw [if_pos (by simp [e7])] at hr
    rw [wh3_7 e7, if_neg (show ¬ ((2 : Int32) = -1) by decide)]
    exact fr _ (mFrA (i := 0) hc ih.2.2.2.2.1 (fun _ _ _ => oMFr2) (by decide) hS e7 (by decide) (by decide) (fun _ => by omega) hr)
  by_cases e8 : c.1 k = 8
  · rw [if_pos (by simp [e8])] at hr
    rw [wh3_8 e8, if_neg (show ¬ ((3 : Int32) = -1) by decide)]
    exact fr _ (mFrA (i := 0) hc ih.2.2.2.2.1 (fun _ _ _ => oMFr3) (by decide) hS e8 (by decide) (by decide) (fun _ => by omega) hr)
  by_cases e9 : c.1 k = 9
  · rw [if_neg (by rw [e9]; decide), if_pos (by simp [e9])] at hr
    rw [wh3_9 e9, if_neg (show ¬ ((4 : Int32) = -1) by decide)]
    exact fr _ (mFrB hc ih.2.2.2.2.1 (fun _ _ _ => oMFr4) (by decide) hS e9 (by decide) (by decide) (fun _ => by omega) hr)
  by_cases e10 : c.1 k = 10
  · rw [if_neg (by rw [e10]; decide), if_pos (by simp [e10])] at hr
    rw [wh3_10 e10, if_neg (show ¬ ((5 : Int32) = -1) by decide)]
    exact fr _ (mFrB hc ih.2.2.2.2.1 (fun _ _ _ => oMFr5) (by decide) hS e10 (by decide) (by decide) (fun _ => by omega) hr)
  rw [if_neg (by simp [e5, e6, e7, e8]), if_neg (by simp [e9, e10])] at hr
  rw [wh3_n ⟨e5, e6, e7, e8, e9, e10⟩, if_pos rfl, rS_18 (hc.1.fr hS.1) hS.2.1 hS.2.2.1, b2r, ibI]
  by_cases e32 : c.1 k = 32
  · rw [if_pos e32] at hr
    rw [if_pos (decide_eq_true e32)]
    obtain ⟨hD2, k3, m3, hk3, hr, err, σ', e1, q⟩ := mBr hc ih.1 hS (show D + 1 ≤ 10 → _ ≤ z + 1 from fun _ => by omega) hr
    rw [FX11_braces] at e1
    refine ⟨err, σ', e1, ?_⟩
    obtain ⟨rfl, rfl⟩ := someM hr
    rcases q with ⟨e, rfl, q2, q3, q4, q5⟩ | ⟨x, rfl, q2, nx1, q3⟩
    · exact ⟨q2, q3, q4, q5⟩
    · exact ⟨q2, nx1, q3⟩
  rw [if_neg e32] at hr
  rw [if_neg (show ¬ (decide (c.1 k = 32) = true) by simp [e32]), rS_20 (hc.1.fr hS.1) hS.2.1 hS.2.2.1, b2r, ibI]
  by_cases e16 : c.1 k = 16
  · rw [if_pos e16] at hr
    rw [if_pos (decide_eq_true e16), FX11_one_83]
    obtain ⟨n4, hr⟩ := goM hr
    obtain ⟨rfl, rfl⟩ := someM hr
    have S1 := hS.next e16 n4 (by decide) (by decide)
    have hx := hS.room hc S1 (by omega)
    rw [rI_20 (hc.1.fr S1.1) hS.2.2.1, b2r, ibI, if_pos (decide_eq_true e16), FX11_one_111, if_neg (kin hS.2.2.1), kcl hS.2.2.1, rFrom (hc.1.fr S1.1) hS.2.2.1]
    obtain ⟨σ4, e4, hN⟩ := rNode2 (kd := 6) (a := -1) (b := -1) (t := -1) (pl := c.2.1 k) hc S1.2.2.2.1 hx
    rw [e4, b2r]
    exact ⟨_, _, rfl, rfl, nx + 1, genM hc hS S1 (by omega) (by omega) (fun q hq j => rfl) (oMCon (by decide) nx _) hN⟩
  rw [if_neg e16] at hr
  rw [if_neg (show ¬ (decide (c.1 k = 16) = true) by simp [e16]), rS_21 (hc.1.fr hS.1) hS.2.1 hS.2.2.1, b2r, ibI]
  by_cases e17 : c.1 k = 17
  · rw [if_pos e17] at hr
    rw [if_pos (decide_eq_true e17), FX11_one_83]
    obtain ⟨n4, hr⟩ := goM hr
    obtain ⟨rfl, rfl⟩ := someM hr
    have S1 := hS.next e17 n4 (by decide) (by decide)
    have hx := hS.room hc S1 (by omega)
    rw [rI_20 (hc.1.fr S1.1) hS.2.2.1, b2r, ibI, if_neg (show ¬ (decide (c.1 k = 16) = true) by simp [e16]), FX11_one_111, if_neg (kin hS.2.2.1), kcl hS.2.2.1, rFrom (hc.1.fr S1.1) hS.2.2.1]
    obtain ⟨σ4, e4, hN⟩ := rNode2 (kd := 7) (a := -1) (b := -1) (t := -1) (pl := c.2.1 k) hc S1.2.2.2.1 hx
    rw [e4, b2r]
    exact ⟨_, _, rfl, rfl, nx + 1, genM hc hS S1 (by omega) (by omega) (fun q hq j => rfl) (oMCon (by decide) nx _) hN⟩
  rw [if_neg e17] at hr
  rw [if_neg (show ¬ (decide (c.1 k = 17) = true) by simp [e17]), rS_22 (hc.1.fr hS.1) hS.2.1 hS.2.2.1, b2r, ibI]
  by_cases e15 : c.1 k = 15
  · rw [if_pos e15] at hr
    rw [if_pos (decide_eq_true e15)]
    obtain ⟨n4, hr⟩ := goM hr
    obtain ⟨e51, n5, hr⟩ := exM2 hr
    obtain ⟨rfl, rfl⟩ := someM hr
    have S1 := hS.next e15 n4 (by decide) (by decide)
    have S2 := S1.next e51 n5 (by decide) (by decide)
    have w0 : σ.1 7 + 1 = nI (k + 1) := by rw [hS.2.1, nI_succ]
    rw [← hS.2.1, w0]
    rw [w0] at S1 S2
    obtain ⟨hT0, hG⟩ := hc.2.2.2
    obtain ⟨g1, g2⟩ := hG (k + 1) S1.2.2.1 e51
    have w174 : FX11_one_174 (FSC2 L (z + 1)) L (sI σ 7 (nI (k + 1))) = some (2, sI (sI σ 7 (nI (k + 1))) 3 (c.2.1 (k + 1))) := by
      rw [FX11_one_174, S1.2.1, rWr (hc.1.fr S1.1) S1.2.2.1, b2r]
    have bad : PM c σ0 V0 lo true nx k σ (k + 1 + 1) (.error (2, c.2.1 (k + 1))) 2 (sI (sI σ 7 (nI (k + 1))) 3 (c.2.1 (k + 1))) := ⟨rfl, (show (2 : Int32) ≠ 0 by decide), sI_g, S1.1.int (by omega)⟩
    unfold nmF
    cases hq : c.2.2.2 (c.2.2.1 (k + 1)) with
    | none =>
      rw [g1 hq _ S1.1, b2r, if_pos rfl, w174]
      exact ⟨_, _, rfl, bad⟩
    | some q =>
      obtain ⟨s, n, D'⟩ := q
      obtain ⟨j, sn, m', hj, hf, hsn, rfl, r21, r22, hn, -, hqq⟩ := g2 s n D' hq
      have i44 : ¬ (nI j < 0 ∨ 44 ≤ (nI j).toNatClampNeg) := nI_in hj (by decide)
      have i44' : ¬ (nI j < 0 ∨ 44 ≤ j) := by rw [nI_clamp (by omega)] at i44; exact i44
      rw [hf _ S1.1, b2r, if_neg (nI_m1 (by omega)), if_neg i44, if_neg (by decide), nI_clamp (by omega)]
      have a21 : (sI σ 7 (nI (k + 1))).2.1 21 j = nI sn := by rw [S1.1.2.1 21 (by omega), r21]
      have a22 : (sI σ 7 (nI (k + 1))).2.1 22 j = nI m' := by rw [S1.1.2.1 22 (by omega), r22, hn]
      rw [a21, a22]
      by_cases od : sn = 1 ∨ sn = 3
      · have o1 : ¬ (nI sn - nI sn / (2 : Int32) * (2 : Int32) = 0) := by rcases od with rfl | rfl <;> decide
        have o2 : nI sn = 1 ∨ nI sn = 3 := by rcases od with rfl | rfl <;> decide
        obtain ⟨hm, q, hv, h25, hdv, hdr⟩ := hqq (by omega)
        have ix : (12 : Int32) * nI sn + nI m' = nI (12 * sn + m') := by
          rcases od with rfl | rfl
          · rw [show (12 : Int32) * nI 1 = nI 12 from by decide, nI_add]
          · rw [show (12 : Int32) * nI 3 = nI 36 from by decide, nI_add]
        have a25 : (sI σ 7 (nI (k + 1))).2.1 25 (12 * sn + m') = nI q := by rw [S1.1.2.1 25 (by omega), h25]
        have hx := hS.room hc S2 (by omega)
        rw [if_neg o1, if_neg i44', if_neg i44', ix, if_neg (nI_in (show 12 * sn + m' < 48 by omega) (by decide)), hS.2.1, if_neg (kin hS.2.2.1), kcl hS.2.2.1, rFrom (hc.1.fr S1.1) hS.2.2.1, nI_clamp (by omega), a25, S1.2.1]
        have S2' : SM c σ0 V0 lo nx (k + 1 + 1) (sI (sI σ 7 (nI (k + 1))) 7 (nI (k + 1) + 1)) := by rw [← S1.2.1]; exact S2
        obtain ⟨σ4, e4, hN⟩ := rNode2 (kd := 8) (a := nI q) (b := -1) (t := -1) (pl := c.2.1 k) hc S2'.2.2.2.1 hx
        rw [e4, b2r]
        have hbl := (hdr od).2
        have nq : NIM V0 lo nx true (sI (sI σ 7 (nI (k + 1))) 7 (nI (k + 1) + 1)) (nI q) D' := NIM.old hc.2.2.1 hT0 S2'.1 hv hdv (fun _ => hdr od)
        refine ⟨_, _, rfl, ?_⟩
        show PM c σ0 V0 lo true nx k σ (k + 1 + 1) (if nI sn = 1 ∨ nI sn = 3 then .ok D' else .error (2, c.2.1 (k + 1))) 0 σ4
        rw [if_pos o2]
        refine ⟨rfl, nx + 1, genM (f1 := true) (f2 := false) (D1 := D') (D2 := (zV, zR)) (D3 := (zV, zR)) hc hS S2' (by omega) (by omega) (fun q hq j => rfl) ⟨⟨by decide, fun _ => nq, fun h => absurd h (by decide), fun h => absurd h (by decide), fun h => absurd h (by decide), fun h => absurd h (by decide), fun _ => ⟨by unfold isF; decide, fun A ra rb u1 u2 => ?_⟩⟩, oV_8 hbl⟩ hN⟩
        rw [oR_8]
        exact (u1 (by decide)).2 rfl
      · have o1 : nI sn - nI sn / (2 : Int32) * (2 : Int32) = 0 := by
          have : sn = 0 ∨ sn = 2 := by omega
          rcases this with rfl | rfl <;> decide
        have o2 : ¬ (nI sn = 1 ∨ nI sn = 3) := by
          have : sn = 0 ∨ sn = 2 := by omega
          rcases this with rfl | rfl <;> decide
        rw [if_pos o1, w174]
        refine ⟨_, _, rfl, ?_⟩
        show PM c σ0 V0 lo true nx k σ (k + 1 + 1) (if nI sn = 1 ∨ nI sn = 3 then .ok D' else .error (2, c.2.1 (k + 1))) 2 _
        rw [if_neg o2]
        exact bad
  rw [if_neg e15] at hr
  rw [if_neg (show ¬ (decide (c.1 k = 15) = true) by simp [e15])]
  refine fr _ ?_
  show ∃ err σ', FX11_compare (FSC2 L z) L (nI k) σ = some (err, σ') ∧ _
  rw [FX11_compare]
  obtain ⟨k1, m1, hk1, hr, r1, σ1, e1, q⟩ := cM9 ih.2.2.2.2.2.1 hD (show _ ≤ z by omega) hS hr
  rw [e1, b2r]
  rcases q with ⟨e, rfl, rfl, he, q3, q4⟩ | ⟨x, rfl, rfl, nx1, hO⟩
  · rw [if_neg he]
    split at hr
    · obtain ⟨k3, m3, h1, h2⟩ := rbM (goM hr).2
      obtain ⟨rfl, rfl⟩ := someM h2
      exact ⟨_, _, rfl, rfl, he, q3, q4⟩
    · cases hr
  · rw [if_pos rfl]
    by_cases f44 : c.1 k1 = 44
    · rw [if_pos (by rw [f44]; decide)] at hr
      exact mCmpT hc ih.2.2.2.2.2.1 hD hS hO hk1 f44 (by decide) (by decide) (wh1_44 rfl) (fun _ => oMCmp44) (by omega) hr
    by_cases f45 : c.1 k1 = 45
    · rw [if_pos (by rw [f45]; decide)] at hr
      exact mCmpT hc ih.2.2.2.2.2.1 hD hS hO hk1 f45 (by decide) (by decide) (wh1_45 rfl) (fun _ => oMCmp45) (by omega) hr
    by_cases f46 : c.1 k1 = 46
    · rw [if_pos (by rw [f46]; decide)] at hr
      exact mCmpT hc ih.2.2.2.2.2.1 hD hS hO hk1 f46 (by decide) (by decide) (wh1_46 rfl) (fun _ => oMCmp46) (by omega) hr
    by_cases f47 : c.1 k1 = 47
    · rw [if_pos (by rw [f47]; decide)] at hr
      exact mCmpT hc ih.2.2.2.2.2.1 hD hS hO hk1 f47 (by decide) (by decide) (wh1_47 rfl) (fun _ => oMCmp47) (by omega) hr
    by_cases f48 : c.1 k1 = 48
    · rw [if_pos (by rw [f48]; decide)] at hr
      exact mCmpT hc ih.2.2.2.2.2.1 hD hS hO hk1 f48 (by decide) (by decide) (wh1_48 rfl) (fun _ => oMCmp48) (by omega) hr
    by_cases f49 : c.1 k1 = 49
    · rw [if_pos (by rw [f49]; decide)] at hr
      exact mCmpT hc ih.2.2.2.2.2.1 hD hS hO hk1 f49 (by decide) (by decide) (wh1_49 rfl) (fun _ => oMCmp49) (by omega) hr
    rw [if_neg (fun q => by
      have g44 : (c.1 k1).toInt ≠ 44 := fun z => f44 (Int32.toInt_inj.mp (by rw [z]; decide))
      have g45 : (c.1 k1).toInt ≠ 45 := fun z => f45 (Int32.toInt_inj.mp (by rw [z]; decide))
      have g46 : (c.1 k1).toInt ≠ 46 := fun z => f46 (Int32.toInt_inj.mp (by rw [z]; decide))
      have g47 : (c.1 k1).toInt ≠ 47 := fun z => f47 (Int32.toInt_inj.mp (by rw [z]; decide))
      have g48 : (c.1 k1).toInt ≠ 48 := fun z => f48 (Int32.toInt_inj.mp (by rw [z]; decide))
      have g49 : (c.1 k1).toInt ≠ 49 := fun z => f49 (Int32.toInt_inj.mp (by rw [z]; decide))
      omega)] at hr
    cases hr
end MQ2
