-- the reference's second reading finds what the grammar means
theorem exM2 {c : Cx} {s : Int32} {k k' : Nat} {m : MV} {f : Nat → Option Rs} (h : ex c s k f = some (k', some m)) : c.1 k = s ∧ k ≠ 400 ∧ f (k + 1) = some (k', some m) := by
  rw [ex] at h
  by_cases e : c.1 k = s
  · rw [if_pos e] at h; exact ⟨e, (goM h).1, (goM h).2⟩
  · rw [if_neg e] at h; cases h
theorem rowErr {c : Cx} {rc : RX} {X : Nat} {s : Int32} {g : Den → Den → Den} {D : Nat} {e : En} : ∀ (n k k' : Nat) (m : MV), pRowL c rc X s g D n k (.error e) = some (k', some m) → m = .error e
  | 0, _, _, _, h => by cases h
  | n+1, k, k', m, h => by
    rw [pRowL] at h
    split at h
    · obtain ⟨k1, m1, h1, h2⟩ := rbM (goM h).2
      exact rowErr n _ _ _ h2
    · exact (Option.some.inj (Prod.ext_iff.mp (Option.some.inj h)).2).symm
theorem binErr {c : Cx} {rc : RX} {X : Nat} {l h9 : Int} {D : Nat} {e : En} : ∀ (n k k' : Nat) (m : MV), pBinL c rc X l h9 D n k (.error e) = some (k', some m) → m = .error e
  | 0, _, _, _, h => by cases h
  | n+1, k, k', m, h => by
    rw [pBinL] at h
    split at h
    · obtain ⟨k1, m1, h1, h2⟩ := rbM (goM h).2
      exact binErr n _ _ _ h2
    · exact (Option.some.inj (Prod.ext_iff.mp (Option.some.inj h)).2).symm
section MQ
variable {σ0 σ σ1 σ2 σ3 : MS} {V0 : Nat → Prop} {lo L len k nx : Nat} {kw : Nat → Int64} {bt : Nat → Int32} {c : Cx}
def MXs (c : Cx) (σ0 : MS) (V0 : Nat → Prop) (lo L d X Y w rank : Nat) (f : Bool) : Prop := ∀ D k nx σ d2, D ≤ 10 → (401 - k) + 20 * (10 - D) + rank ≤ d2 → SM c σ0 V0 lo nx k σ → ∀ k' m, spX c d X D k = some (k', some m) → ∃ err σ', FSC2 L d2 Y 0 0 w σ = some (err, σ') ∧ PM c σ0 V0 lo f nx k σ k' m err σ'
def MeanOK (c : Cx) (σ0 : MS) (V0 : Nat → Prop) (lo L d : Nat) : Prop := MXs c σ0 V0 lo L d 0 0 0 13 true ∧ MXs c σ0 V0 lo L d 1 1 11 12 true ∧ MXs c σ0 V0 lo L d 8 1 13 11 true ∧ MXs c σ0 V0 lo L d 2 2 0 10 true ∧ MXs c σ0 V0 lo L d 3 3 0 9 true ∧ MXs c σ0 V0 lo L d 4 6 0 6 false ∧ MXs c σ0 V0 lo L d 5 7 0 4 false ∧ MXs c σ0 V0 lo L d 7 10 0 2 false
/-- what a good reading gives -/
def OKm (c : Cx) (σ0 : MS) (V0 : Nat → Prop) (lo : Nat) (f : Bool) (nx k : Nat) (σ : MS) (k' : Nat) (D : Den) (nx' : Nat) (σ' : MS) : Prop := nx ≤ nx' ∧ nx' + k ≤ nx + k' ∧ SM c σ0 V0 lo nx' k' σ' ∧ (NIM V0 lo nx' f σ' (σ'.1 17) D ∧ LoA lo (σ'.1 17)) ∧ ExtM V0 lo nx σ σ'
theorem cM9 {d X Y w rank D d2 : Nat} {f : Bool} (h : MXs c σ0 V0 lo L d X Y w rank f) (hD : D ≤ 10) (hd : (401 - k) + 20 * (10 - D) + rank ≤ d2) (hS : SM c σ0 V0 lo nx k σ) {g : Nat → MV → Option Rs} {k' : Nat} {m : MV} (hr : rb (spX c d X D k) g = some (k', some m)) : ∃ k1 m1, k < k1 ∧ g k1 m1 = some (k', some m) ∧ ∃ err σ', FSC2 L d2 Y 0 0 w σ = some (err, σ') ∧ ((∃ e, m1 = .error e ∧ err = e.1 ∧ e.1 ≠ 0 ∧ σ'.1 3 = e.2 ∧ FrM σ0 lo σ') ∨ ∃ D1, m1 = .ok D1 ∧ err = 0 ∧ ∃ nx1, OKm c σ0 V0 lo f nx k σ k1 D1 nx1 σ') := by
  obtain ⟨k1, m1, e1, h2⟩ := rbM hr
  obtain ⟨err, σ', e2, q⟩ := h D k nx σ d2 hD hd hS k1 m1 e1
  refine ⟨k1, m1, spMono _ _ _ _ _ _ e1, h2, err, σ', e2, ?_⟩
  cases m1 with
  | error e => exact Or.inl ⟨e, rfl, q⟩
  | ok D1 =>
    obtain ⟨q1, nx1, q2⟩ := q
    exact Or.inr ⟨D1, rfl, q1, nx1, q2⟩
theorem idx17 {q : Nat} (h : q < 1203) : ¬ (nI q < 0 ∨ 1203 ≤ (nI q).toNatClampNeg) := nI_in h (by decide)
theorem NIM.lt {f : Bool} {a : Int32} {D : Den} (hV : ∀ q, V0 q → q < lo) (hlo : lo + 400 ≤ 1203) (hx : nx ≤ lo + 400) (h : NIM V0 lo nx f σ a D) : ∃ q, a = nI q ∧ q < 1203 := by
  obtain ⟨q, e, hq, -⟩ := h
  refine ⟨q, e, ?_⟩
  rcases hq with hq | hq
  · have := hV q hq; omega
  · omega
theorem SM.nx4 (h : SM c σ0 V0 lo nx k σ) : nx ≤ lo + 400 := by
  have := h.2.2.1.1
  have := h.2.2.2.2
  omega
theorem SM.okT (h : SM c σ0 V0 lo nx k σ) : (fun V T => ∀ n, V n → n < 2000 ∧ okN V (T n) n) (Vx V0 lo nx) (ntM σ) := h.2.2.2.1.2.2.1
/-- a part of two operands -/
theorem binM {kd t l h pl : Int32} {g : Den → Den → Den} {f f1 f2 : Bool} {k1 k3 nx1 nx3 : Nat} {x y : Den} {a : Int32} (hc : CtM kw bt len c σ0 V0 lo L) (hS : SM c σ0 V0 lo nx k σ) (hop : ∀ nx a b σ, NIM V0 lo nx f1 σ a x → NIM V0 lo nx f2 σ b y → OpM V0 lo nx σ kd pl a b t l h f f1 f2 x y (zV, zR) (g x y).2 ∧ oV kd a l h t x.1 y.1 zV = (g x y).1) (l1 : nx ≤ nx1) (b1 : nx1 + k + 1 ≤ nx + k1) (hT : CMm V0 lo nx1 σ1) (n1 : NIM V0 lo nx1 f1 σ1 a x) (x1 : ExtM V0 lo nx σ σ1) (h3 : OKm c σ0 V0 lo f2 nx1 k1 σ1 k3 y nx3 σ3) {σ' : MS} (hN : NodeM nx3 kd a (σ3.1 17) t l h pl σ3 σ') : OKm c σ0 V0 lo f nx k σ k3 (g x y) (nx3 + 1) σ' := by
  obtain ⟨l3, b3, S3, n3, x3⟩ := h3
  have hk := hS.2.2.2.2
  have n1' := n1.ext hT.2.2.1 x3 l3
  obtain ⟨o1, o2⟩ := hop nx3 a (σ3.1 17) σ3 n1' n3.1
  obtain ⟨m1, m2, m3⟩ := nodeSM hc S3 (by omega) hN o1
  refine ⟨by omega, by omega, m1, ?_, (x1.trans l1 x3).trans (by omega) m3⟩
  have : ((oV kd a l h t x.1 y.1 zV, (g x y).2) : Den) = g x y := by rw [o2]
  refine ⟨?_, nx3, hN.2.2.1, S3.2.2.2.1.2.1, by have := S3.nx4; have := hc.2.1; omega⟩
  rw [← this]
  exact m2
/-- a part of one operand -/
theorem unM {kd t l h pl : Int32} {Dn : Den} {f f1 : Bool} {k1 k3 nx1 nx3 : Nat} {x : Den} (hc : CtM kw bt len c σ0 V0 lo L) (hS : SM c σ0 V0 lo nx k σ) (hop : ∀ nx a σ, NIM V0 lo nx f1 σ a x → OpM V0 lo nx σ kd pl a (-1) t l h f f1 false x (zV, zR) (zV, zR) Dn.2 ∧ oV kd a l h t x.1 zV zV = Dn.1) (l1 : nx ≤ nx1) (b1 : nx1 + k + 1 ≤ nx + k1) (x1 : ExtM V0 lo nx σ σ1) (h3 : OKm c σ0 V0 lo f1 nx1 k1 σ1 k3 x nx3 σ3) {σ' : MS} (hN : NodeM nx3 kd (σ3.1 17) (-1) t l h pl σ3 σ') : OKm c σ0 V0 lo f nx k σ k3 Dn (nx3 + 1) σ' := by
  obtain ⟨l3, b3, S3, n3, x3⟩ := h3
  have hk := hS.2.2.2.2
  obtain ⟨o1, o2⟩ := hop nx3 (σ3.1 17) σ3 n3.1
  obtain ⟨m1, m2, m3⟩ := nodeSM hc S3 (by omega) hN o1
  refine ⟨by omega, by omega, m1, ?_, (x1.trans l1 x3).trans (by omega) m3⟩
  have : ((oV kd (σ3.1 17) l h t x.1 zV zV, Dn.2) : Den) = Dn := by rw [o2]
  refine ⟨?_, nx3, hN.2.2.1, S3.2.2.2.1.2.1, by have := S3.nx4; have := hc.2.1; omega⟩
  rw [← this]
  exact m2
theorem rNode2 {kd a b t pl : Int32} (hc : CtM kw bt len c σ0 V0 lo L) (h3 : CMm V0 lo nx σ) (hx : nx < 1203) : ∃ σ', FX11_node kd a b t pl σ = some (0, σ') ∧ NodeM nx kd a b t 0 (-1) pl σ σ' := rNode1 h3.1 hx
theorem oMAnd {pl : Int32} : ∀ x y nx a b σ, NIM V0 lo nx true σ a x → NIM V0 lo nx true σ b y → OpM V0 lo nx σ 11 pl a b (-1) 0 (-1) true true true x y (zV, zR) (dAnd x y).2 ∧ oV 11 a 0 (-1) (-1) x.1 y.1 zV = (dAnd x y).1 := by
  intro x y nx a b σ h1 h2
  refine ⟨⟨by decide, fun _ => h1, fun _ => h2, fun h => absurd h (by decide), fun h => absurd h (by decide), fun h => absurd h (by decide), fun _ => ⟨by unfold isF; decide, fun A ra rb u1 u2 => by
    show _ = oR 11 0 (-1) 0 x.1 x.2 y.2
    exact oR_congr2 (fun h => absurd h (by decide)) (fun h => absurd rfl h.2.1) (fun _ => (u1 (by decide)).1) (fun _ => (u1 (by decide)).2 rfl) (fun _ => u2 (by decide) rfl)⟩⟩, ?_⟩
  show _ = oV 11 0 0 (-1) 0 x.1 y.1 zV
  exact oV_congr (by decide) (fun h => absurd h (by decide)) (fun h => absurd h (by decide)) (fun h => absurd h (by decide)) (fun _ => rfl) (fun _ => rfl) (fun _ => rfl)
theorem oMOr {pl : Int32} : ∀ x y nx a b σ, NIM V0 lo nx true σ a x → NIM V0 lo nx true σ b y → OpM V0 lo nx σ 12 pl a b (-1) 0 (-1) true true true x y (zV, zR) (dOr x y).2 ∧ oV 12 a 0 (-1) (-1) x.1 y.1 zV = (dOr x y).1 := by
  intro x y nx a b σ h1 h2
  refine ⟨⟨by decide, fun _ => h1, fun _ => h2, fun h => absurd h (by decide), fun h => absurd h (by decide), fun h => absurd h (by decide), fun _ => ⟨by unfold isF; decide, fun A ra rb u1 u2 => by
    show _ = oR 12 0 (-1) 0 zV zR y.2
    exact oR_congr2 (fun h => absurd h (by decide)) (fun h => absurd rfl h.2.2.1) (fun h => absurd h (by decide)) (fun h => absurd h (by decide)) (fun _ => u2 (by decide) rfl)⟩⟩, ?_⟩
  show _ = oV 12 0 0 (-1) 0 x.1 y.1 zV
  exact oV_congr (by decide) (fun h => absurd h (by decide)) (fun h => absurd h (by decide)) (fun h => absurd h (by decide)) (fun _ => rfl) (fun _ => rfl) (fun _ => rfl)
theorem oMImp {pl : Int32} : ∀ x y nx a b σ, NIM V0 lo nx true σ a x → NIM V0 lo nx true σ b y → OpM V0 lo nx σ 13 pl a b (-1) 0 (-1) true true true x y (zV, zR) (dImp x y).2 ∧ oV 13 a 0 (-1) (-1) x.1 y.1 zV = (dImp x y).1 := by
  intro x y nx a b σ h1 h2
  refine ⟨⟨by decide, fun _ => h1, fun _ => h2, fun h => absurd h (by decide), fun h => absurd h (by decide), fun h => absurd h (by decide), fun _ => ⟨by unfold isF; decide, fun A ra rb u1 u2 => by rw [oR_13]; exact u2 (by decide) rfl⟩⟩, ?_⟩
  show _ = oV 13 0 0 (-1) 0 x.1 y.1 zV
  exact oV_congr (by decide) (fun h => absurd h (by decide)) (fun h => absurd h (by decide)) (fun h => absurd h (by decide)) (fun _ => rfl) (fun _ => rfl) (fun _ => rfl)
theorem oMSince {l h : Int32} {pl : Int32} : ∀ x y nx a b σ, NIM V0 lo nx true σ a x → NIM V0 lo nx true σ b y → OpM V0 lo nx σ 10 pl a b (-1) l h true true true x y (zV, zR) (dSince pl l h x y).2 ∧ oV 10 a l h (-1) x.1 y.1 zV = (dSince pl l h x y).1 := by
  intro x y nx a b σ h1 h2
  refine ⟨⟨by decide, fun _ => h1, fun _ => h2, fun h => absurd h (by decide), fun h => absurd h (by decide), fun h => absurd h (by decide), fun _ => ⟨by unfold isF; decide, fun A ra rb u1 u2 => by
    show _ = oR 10 l h pl zV zR zR
    exact oR_congr2 (fun h => absurd h (by decide)) (fun _ => rfl) (fun h => absurd h (by decide)) (fun h => absurd h (by decide)) (fun h => absurd h (by decide))⟩⟩, ?_⟩
  show _ = oV 10 0 l h 0 x.1 y.1 zV
  exact oV_congr (by decide) (fun h => absurd h (by decide)) (fun _ => ⟨rfl, rfl⟩) (fun h => absurd h (by decide)) (fun _ => rfl) (fun _ => rfl) (fun _ => rfl)
theorem oMCmp44 {pl : Int32} : ∀ x y nx a b σ, NIM V0 lo nx false σ a x → NIM V0 lo nx false σ b y → OpM V0 lo nx σ 9 pl a b 0 0 (-1) true false false x y (zV, zR) (dCmp 44 pl x y).2 ∧ oV 9 a 0 (-1) 0 x.1 y.1 zV = (dCmp 44 pl x y).1 := by
  intro x y nx a b σ h1 h2
  refine ⟨⟨by decide, fun _ => h1, fun _ => h2, fun h => absurd h (by decide), fun h => absurd h (by decide), fun h => absurd h (by decide), fun _ => ⟨by unfold isF; decide, fun A ra rb u1 u2 => by
    show _ = oR 9 0 (-1) pl zV zR zR
    exact oR_congr2 (fun h => absurd h (by decide)) (fun _ => rfl) (fun h => absurd h (by decide)) (fun h => absurd h (by decide)) (fun h => absurd h (by decide))⟩⟩, ?_⟩
  show _ = oV 9 0 0 (-1) (44 - 44) x.1 y.1 zV
  exact oV_congr (by decide) (fun h => absurd h (by decide)) (fun h => absurd h (by decide)) (by decide) (fun _ => rfl) (fun _ => rfl) (fun _ => rfl)
theorem oMCmp45 {pl : Int32} : ∀ x y nx a b σ, NIM V0 lo nx false σ a x → NIM V0 lo nx false σ b y → OpM V0 lo nx σ 9 pl a b 1 0 (-1) true false false x y (zV, zR) (dCmp 45 pl x y).2 ∧ oV 9 a 0 (-1) 1 x.1 y.1 zV = (dCmp 45 pl x y).1 := by
  intro x y nx a b σ h1 h2
  refine ⟨⟨by decide, fun _ => h1, fun _ => h2, fun h => absurd h (by decide), fun h => absurd h (by decide), fun h => absurd h (by decide), fun _ => ⟨by unfold isF; decide, fun A ra rb u1 u2 => by
    show _ = oR 9 0 (-1) pl zV zR zR
    exact oR_congr2 (fun h => absurd h (by decide)) (fun _ => rfl) (fun h => absurd h (by decide)) (fun h => absurd h (by decide)) (fun h => absurd h (by decide))⟩⟩, ?_⟩
  show _ = oV 9 0 0 (-1) (45 - 44) x.1 y.1 zV
  exact oV_congr (by decide) (fun h => absurd h (by decide)) (fun h => absurd h (by decide)) (by decide) (fun _ => rfl) (fun _ => rfl) (fun _ => rfl)
theorem oMCmp46 {pl : Int32} : ∀ x y nx a b σ, NIM V0 lo nx false σ a x → NIM V0 lo nx false σ b y → OpM V0 lo nx σ 9 pl a b 2 0 (-1) true false false x y (zV, zR) (dCmp 46 pl x y).2 ∧ oV 9 a 0 (-1) 2 x.1 y.1 zV = (dCmp 46 pl x y).1 := by
  intro x y nx a b σ h1 h2
  refine ⟨⟨by decide, fun _ => h1, fun _ => h2, fun h => absurd h (by decide), fun h => absurd h (by decide), fun h => absurd h (by decide), fun _ => ⟨by unfold isF; decide, fun A ra rb u1 u2 => by
    show _ = oR 9 0 (-1) pl zV zR zR
    exact oR_congr2 (fun h => absurd h (by decide)) (fun _ => rfl) (fun h => absurd h (by decide)) (fun h => absurd h (by decide)) (fun h => absurd h (by decide))⟩⟩, ?_⟩
  show _ = oV 9 0 0 (-1) (46 - 44) x.1 y.1 zV
  exact oV_congr (by decide) (fun h => absurd h (by decide)) (fun h => absurd h (by decide)) (by decide) (fun _ => rfl) (fun _ => rfl) (fun _ => rfl)
theorem oMCmp47 {pl : Int32} : ∀ x y nx a b σ, NIM V0 lo nx false σ a x → NIM V0 lo nx false σ b y → OpM V0 lo nx σ 9 pl a b 3 0 (-1) true false false x y (zV, zR) (dCmp 47 pl x y).2 ∧ oV 9 a 0 (-1) 3 x.1 y.1 zV = (dCmp 47 pl x y).1 := by
  intro x y nx a b σ h1 h2
  refine ⟨⟨by decide, fun _ => h1, fun _ => h2, fun h => absurd h (by decide), fun h => absurd h (by decide), fun h => absurd h (by decide), fun _ => ⟨by unfold isF; decide, fun A ra rb u1 u2 => by
    show _ = oR 9 0 (-1) pl zV zR zR
    exact oR_congr2 (fun h => absurd h (by decide)) (fun _ => rfl) (fun h => absurd h (by decide)) (fun h => absurd h (by decide)) (fun h => absurd h (by decide))⟩⟩, ?_⟩
  show _ = oV 9 0 0 (-1) (47 - 44) x.1 y.1 zV
  exact oV_congr (by decide) (fun h => absurd h (by decide)) (fun h => absurd h (by decide)) (by decide) (fun _ => rfl) (fun _ => rfl) (fun _ => rfl)
theorem oMCmp48 {pl : Int32} : ∀ x y nx a b σ, NIM V0 lo nx false σ a x → NIM V0 lo nx false σ b y → OpM V0 lo nx σ 9 pl a b 4 0 (-1) true false false x y (zV, zR) (dCmp 48 pl x y).2 ∧ oV 9 a 0 (-1) 4 x.1 y.1 zV = (dCmp 48 pl x y).1 := by
  intro x y nx a b σ h1 h2
  refine ⟨⟨by decide, fun _ => h1, fun _ => h2, fun h => absurd h (by decide), fun h => absurd h (by decide), fun h => absurd h (by decide), fun _ => ⟨by unfold isF; decide, fun A ra rb u1 u2 => by
    show _ = oR 9 0 (-1) pl zV zR zR
    exact oR_congr2 (fun h => absurd h (by decide)) (fun _ => rfl) (fun h => absurd h (by decide)) (fun h => absurd h (by decide)) (fun h => absurd h (by decide))⟩⟩, ?_⟩
  show _ = oV 9 0 0 (-1) (48 - 44) x.1 y.1 zV
  exact oV_congr (by decide) (fun h => absurd h (by decide)) (fun h => absurd h (by decide)) (by decide) (fun _ => rfl) (fun _ => rfl) (fun _ => rfl)
theorem oMCmp49 {pl : Int32} : ∀ x y nx a b σ, NIM V0 lo nx false σ a x → NIM V0 lo nx false σ b y → OpM V0 lo nx σ 9 pl a b 5 0 (-1) true false false x y (zV, zR) (dCmp 49 pl x y).2 ∧ oV 9 a 0 (-1) 5 x.1 y.1 zV = (dCmp 49 pl x y).1 := by
  intro x y nx a b σ h1 h2
  refine ⟨⟨by decide, fun _ => h1, fun _ => h2, fun h => absurd h (by decide), fun h => absurd h (by decide), fun h => absurd h (by decide), fun _ => ⟨by unfold isF; decide, fun A ra rb u1 u2 => by
    show _ = oR 9 0 (-1) pl zV zR zR
    exact oR_congr2 (fun h => absurd h (by decide)) (fun _ => rfl) (fun h => absurd h (by decide)) (fun h => absurd h (by decide)) (fun h => absurd h (by decide))⟩⟩, ?_⟩
  show _ = oV 9 0 0 (-1) (49 - 44) x.1 y.1 zV
  exact oV_congr (by decide) (fun h => absurd h (by decide)) (fun h => absurd h (by decide)) (by decide) (fun _ => rfl) (fun _ => rfl) (fun _ => rfl)
theorem oMBin39 {pl : Int32} : ∀ x y nx a b σ, NIM V0 lo nx false σ a x → NIM V0 lo nx false σ b y → OpM V0 lo nx σ 34 pl a b 0 0 (-1) false false false x y (zV, zR) (dBin 39 x y).2 ∧ oV 34 a 0 (-1) 0 x.1 y.1 zV = (dBin 39 x y).1 := by
  intro x y nx a b σ h1 h2
  refine ⟨⟨by decide, fun _ => h1, fun _ => h2, fun h => absurd h (by decide), fun h => absurd h (by decide), by decide, fun h => by cases h⟩, ?_⟩
  show _ = oV 34 0 0 (-1) (39 - 39) x.1 y.1 zV
  exact oV_congr (by decide) (fun h => absurd h (by decide)) (fun h => absurd h (by decide)) (by decide) (fun _ => rfl) (fun _ => rfl) (fun _ => rfl)
theorem oMBin40 {pl : Int32} : ∀ x y nx a b σ, NIM V0 lo nx false σ a x → NIM V0 lo nx false σ b y → OpM V0 lo nx σ 34 pl a b 1 0 (-1) false false false x y (zV, zR) (dBin 40 x y).2 ∧ oV 34 a 0 (-1) 1 x.1 y.1 zV = (dBin 40 x y).1 := by
  intro x y nx a b σ h1 h2
  refine ⟨⟨by decide, fun _ => h1, fun _ => h2, fun h => absurd h (by decide), fun h => absurd h (by decide), by decide, fun h => by cases h⟩, ?_⟩
  show _ = oV 34 0 0 (-1) (40 - 39) x.1 y.1 zV
  exact oV_congr (by decide) (fun h => absurd h (by decide)) (fun h => absurd h (by decide)) (by decide) (fun _ => rfl) (fun _ => rfl) (fun _ => rfl)
theorem oMBin41 {pl : Int32} : ∀ x y nx a b σ, NIM V0 lo nx false σ a x → NIM V0 lo nx false σ b y → OpM V0 lo nx σ 34 pl a b 2 0 (-1) false false false x y (zV, zR) (dBin 41 x y).2 ∧ oV 34 a 0 (-1) 2 x.1 y.1 zV = (dBin 41 x y).1 := by
  intro x y nx a b σ h1 h2
  refine ⟨⟨by decide, fun _ => h1, fun _ => h2, fun h => absurd h (by decide), fun h => absurd h (by decide), by decide, fun h => by cases h⟩, ?_⟩
  show _ = oV 34 0 0 (-1) (41 - 39) x.1 y.1 zV
  exact oV_congr (by decide) (fun h => absurd h (by decide)) (fun h => absurd h (by decide)) (by decide) (fun _ => rfl) (fun _ => rfl) (fun _ => rfl)
theorem oMBin42 {pl : Int32} : ∀ x y nx a b σ, NIM V0 lo nx false σ a x → NIM V0 lo nx false σ b y → OpM V0 lo nx σ 34 pl a b 3 0 (-1) false false false x y (zV, zR) (dBin 42 x y).2 ∧ oV 34 a 0 (-1) 3 x.1 y.1 zV = (dBin 42 x y).1 := by
  intro x y nx a b σ h1 h2
  refine ⟨⟨by decide, fun _ => h1, fun _ => h2, fun h => absurd h (by decide), fun h => absurd h (by decide), by decide, fun h => by cases h⟩, ?_⟩
  show _ = oV 34 0 0 (-1) (42 - 39) x.1 y.1 zV
  exact oV_congr (by decide) (fun h => absurd h (by decide)) (fun h => absurd h (by decide)) (by decide) (fun _ => rfl) (fun _ => rfl) (fun _ => rfl)
theorem oMBin43 {pl : Int32} : ∀ x y nx a b σ, NIM V0 lo nx false σ a x → NIM V0 lo nx false σ b y → OpM V0 lo nx σ 34 pl a b 4 0 (-1) false false false x y (zV, zR) (dBin 43 x y).2 ∧ oV 34 a 0 (-1) 4 x.1 y.1 zV = (dBin 43 x y).1 := by
  intro x y nx a b σ h1 h2
  refine ⟨⟨by decide, fun _ => h1, fun _ => h2, fun h => absurd h (by decide), fun h => absurd h (by decide), by decide, fun h => by cases h⟩, ?_⟩
  show _ = oV 34 0 0 (-1) (43 - 39) x.1 y.1 zV
  exact oV_congr (by decide) (fun h => absurd h (by decide)) (fun h => absurd h (by decide)) (by decide) (fun _ => rfl) (fun _ => rfl) (fun _ => rfl)
theorem oMAt {pl : Int32} : ∀ x y nx a b σ, NIM V0 lo nx true σ a x → NIM V0 lo nx false σ b y → OpM V0 lo nx σ 32 pl a b (-1) 0 (-1) false true false x y (zV, zR) (dAt x y).2 ∧ oV 32 a 0 (-1) (-1) x.1 y.1 zV = (dAt x y).1 := by
  intro x y nx a b σ h1 h2
  refine ⟨⟨by decide, fun _ => h1, fun _ => h2, fun h => absurd h (by decide), fun h => absurd h (by decide), fun h => absurd h (by decide), fun h => by cases h⟩, ?_⟩
  show _ = oV 32 0 0 (-1) 0 x.1 y.1 zV
  exact oV_congr (by decide) (fun h => absurd h (by decide)) (fun h => absurd h (by decide)) (fun h => absurd h (by decide)) (fun _ => rfl) (fun _ => rfl) (fun _ => rfl)
theorem oMFr0 {pl l h : Int32} : ∀ x nx a σ, NIM V0 lo nx true σ a x → OpM V0 lo nx σ 0 pl a (-1) (-1) l h true true false x (zV, zR) (zV, zR) (dFront 5 pl l h x).2 ∧ oV 0 a l h (-1) x.1 zV zV = (dFront 5 pl l h x).1 := by
  intro x nx a σ h1
  refine ⟨⟨by decide, fun _ => h1, fun h => absurd h (by decide), fun h => absurd h (by decide), fun h => absurd h (by decide), fun h => absurd h (by decide), fun _ => ⟨by unfold isF; decide, fun A ra rb u1 u2 => ?_⟩⟩, ?_⟩
  · show _ = oR 0 l h pl x.1 x.2 zR
    exact oR_congr2 (fun _ => ⟨rfl, rfl⟩) (fun _ => rfl) (fun _ => (u1 (by decide)).1) (fun _ => (u1 (by decide)).2 rfl) (fun h => absurd h (by decide))
  · show _ = oV 0 0 l h 0 x.1 zV zV
    exact oV_congr (by decide) (fun h => absurd h (by decide)) (fun _ => ⟨rfl, rfl⟩) (fun h => absurd h (by decide)) (fun _ => rfl) (fun _ => rfl) (fun _ => rfl)
theorem oMFr1 {pl l h : Int32} : ∀ x nx a σ, NIM V0 lo nx true σ a x → OpM V0 lo nx σ 1 pl a (-1) (-1) l h true true false x (zV, zR) (zV, zR) (dFront 6 pl l h x).2 ∧ oV 1 a l h (-1) x.1 zV zV = (dFront 6 pl l h x).1 := by
  intro x nx a σ h1
  refine ⟨⟨by decide, fun _ => h1, fun h => absurd h (by decide), fun h => absurd h (by decide), fun h => absurd h (by decide), fun h => absurd h (by decide), fun _ => ⟨by unfold isF; decide, fun A ra rb u1 u2 => ?_⟩⟩, ?_⟩
  · show _ = oR 1 l h pl x.1 x.2 zR
    exact oR_congr2 (fun _ => ⟨rfl, rfl⟩) (fun _ => rfl) (fun _ => (u1 (by decide)).1) (fun _ => (u1 (by decide)).2 rfl) (fun h => absurd h (by decide))
  · show _ = oV 1 0 l h 0 x.1 zV zV
    exact oV_congr (by decide) (fun h => absurd h (by decide)) (fun _ => ⟨rfl, rfl⟩) (fun h => absurd h (by decide)) (fun _ => rfl) (fun _ => rfl) (fun _ => rfl)
theorem oMFr2 {pl l h : Int32} : ∀ x nx a σ, NIM V0 lo nx true σ a x → OpM V0 lo nx σ 2 pl a (-1) (-1) l h true true false x (zV, zR) (zV, zR) (dFront 7 pl l h x).2 ∧ oV 2 a l h (-1) x.1 zV zV = (dFront 7 pl l h x).1 := by
  intro x nx a σ h1
  refine ⟨⟨by decide, fun _ => h1, fun h => absurd h (by decide), fun h => absurd h (by decide), fun h => absurd h (by decide), fun h => absurd h (by decide), fun _ => ⟨by unfold isF; decide, fun A ra rb u1 u2 => ?_⟩⟩, ?_⟩
  · show _ = oR 2 l h pl x.1 x.2 zR
    exact oR_congr2 (fun _ => ⟨rfl, rfl⟩) (fun _ => rfl) (fun _ => (u1 (by decide)).1) (fun _ => (u1 (by decide)).2 rfl) (fun h => absurd h (by decide))
  · show _ = oV 2 0 l h 0 x.1 zV zV
    exact oV_congr (by decide) (fun h => absurd h (by decide)) (fun _ => ⟨rfl, rfl⟩) (fun h => absurd h (by decide)) (fun _ => rfl) (fun _ => rfl) (fun _ => rfl)
theorem oMFr3 {pl l h : Int32} : ∀ x nx a σ, NIM V0 lo nx true σ a x → OpM V0 lo nx σ 3 pl a (-1) (-1) l h true true false x (zV, zR) (zV, zR) (dFront 8 pl l h x).2 ∧ oV 3 a l h (-1) x.1 zV zV = (dFront 8 pl l h x).1 := by
  intro x nx a σ h1
  refine ⟨⟨by decide, fun _ => h1, fun h => absurd h (by decide), fun h => absurd h (by decide), fun h => absurd h (by decide), fun h => absurd h (by decide), fun _ => ⟨by unfold isF; decide, fun A ra rb u1 u2 => ?_⟩⟩, ?_⟩
  · show _ = oR 3 l h pl x.1 x.2 zR
    exact oR_congr2 (fun _ => ⟨rfl, rfl⟩) (fun _ => rfl) (fun _ => (u1 (by decide)).1) (fun _ => (u1 (by decide)).2 rfl) (fun h => absurd h (by decide))
  · show _ = oV 3 0 l h 0 x.1 zV zV
    exact oV_congr (by decide) (fun h => absurd h (by decide)) (fun _ => ⟨rfl, rfl⟩) (fun h => absurd h (by decide)) (fun _ => rfl) (fun _ => rfl) (fun _ => rfl)
theorem oMFr4 {pl l h : Int32} : ∀ x nx a σ, NIM V0 lo nx true σ a x → OpM V0 lo nx σ 4 pl a (-1) (-1) l h true true false x (zV, zR) (zV, zR) (dFront 9 pl l h x).2 ∧ oV 4 a l h (-1) x.1 zV zV = (dFront 9 pl l h x).1 := by
  intro x nx a σ h1
  refine ⟨⟨by decide, fun _ => h1, fun h => absurd h (by decide), fun h => absurd h (by decide), fun h => absurd h (by decide), fun h => absurd h (by decide), fun _ => ⟨by unfold isF; decide, fun A ra rb u1 u2 => ?_⟩⟩, ?_⟩
  · show _ = oR 4 l h pl x.1 x.2 zR
    exact oR_congr2 (fun _ => ⟨rfl, rfl⟩) (fun _ => rfl) (fun _ => (u1 (by decide)).1) (fun _ => (u1 (by decide)).2 rfl) (fun h => absurd h (by decide))
  · show _ = oV 4 0 l h 0 x.1 zV zV
    exact oV_congr (by decide) (fun h => absurd h (by decide)) (fun _ => ⟨rfl, rfl⟩) (fun h => absurd h (by decide)) (fun _ => rfl) (fun _ => rfl) (fun _ => rfl)
theorem oMFr5 {pl l h : Int32} : ∀ x nx a σ, NIM V0 lo nx true σ a x → OpM V0 lo nx σ 5 pl a (-1) (-1) l h true true false x (zV, zR) (zV, zR) (dFront 10 pl l h x).2 ∧ oV 5 a l h (-1) x.1 zV zV = (dFront 10 pl l h x).1 := by
  intro x nx a σ h1
  refine ⟨⟨by decide, fun _ => h1, fun h => absurd h (by decide), fun h => absurd h (by decide), fun h => absurd h (by decide), fun h => absurd h (by decide), fun _ => ⟨by unfold isF; decide, fun A ra rb u1 u2 => ?_⟩⟩, ?_⟩
  · show _ = oR 5 l h pl x.1 x.2 zR
    exact oR_congr2 (fun _ => ⟨rfl, rfl⟩) (fun _ => rfl) (fun _ => (u1 (by decide)).1) (fun _ => (u1 (by decide)).2 rfl) (fun h => absurd h (by decide))
  · show _ = oV 5 0 l h 0 x.1 zV zV
    exact oV_congr (by decide) (fun h => absurd h (by decide)) (fun _ => ⟨rfl, rfl⟩) (fun h => absurd h (by decide)) (fun _ => rfl) (fun _ => rfl) (fun _ => rfl)
theorem oMUn25 {pl : Int32} : ∀ x nx a σ, NIM V0 lo nx false σ a x → OpM V0 lo nx σ 25 pl a (-1) (-1) 0 (-1) false false false x (zV, zR) (zV, zR) (dUn 25 x).2 ∧ oV 25 a 0 (-1) (-1) x.1 zV zV = (dUn 25 x).1 := by
  intro x nx a σ h1
  refine ⟨⟨by decide, fun _ => h1, fun h => absurd h (by decide), fun h => absurd h (by decide), fun h => absurd h (by decide), fun h => absurd h (by decide), fun h => by cases h⟩, ?_⟩
  show _ = oV 25 0 0 (-1) 0 x.1 zV zV
  exact oV_congr (by decide) (fun h => absurd h (by decide)) (fun h => absurd h (by decide)) (fun h => absurd h (by decide)) (fun _ => rfl) (fun _ => rfl) (fun _ => rfl)
theorem oMUn26 {pl : Int32} : ∀ x nx a σ, NIM V0 lo nx false σ a x → OpM V0 lo nx σ 26 pl a (-1) (-1) 0 (-1) false false false x (zV, zR) (zV, zR) (dUn 26 x).2 ∧ oV 26 a 0 (-1) (-1) x.1 zV zV = (dUn 26 x).1 := by
  intro x nx a σ h1
  refine ⟨⟨by decide, fun _ => h1, fun h => absurd h (by decide), fun h => absurd h (by decide), fun h => absurd h (by decide), fun h => absurd h (by decide), fun h => by cases h⟩, ?_⟩
  show _ = oV 26 0 0 (-1) 0 x.1 zV zV
  exact oV_congr (by decide) (fun h => absurd h (by decide)) (fun h => absurd h (by decide)) (fun h => absurd h (by decide)) (fun _ => rfl) (fun _ => rfl) (fun _ => rfl)
theorem oMUn27 {pl : Int32} : ∀ x nx a σ, NIM V0 lo nx false σ a x → OpM V0 lo nx σ 27 pl a (-1) (-1) 0 (-1) false false false x (zV, zR) (zV, zR) (dUn 27 x).2 ∧ oV 27 a 0 (-1) (-1) x.1 zV zV = (dUn 27 x).1 := by
  intro x nx a σ h1
  refine ⟨⟨by decide, fun _ => h1, fun h => absurd h (by decide), fun h => absurd h (by decide), fun h => absurd h (by decide), fun h => absurd h (by decide), fun h => by cases h⟩, ?_⟩
  show _ = oV 27 0 0 (-1) 0 x.1 zV zV
  exact oV_congr (by decide) (fun h => absurd h (by decide)) (fun h => absurd h (by decide)) (fun h => absurd h (by decide)) (fun _ => rfl) (fun _ => rfl) (fun _ => rfl)
theorem oMUn28 {pl : Int32} : ∀ x nx a σ, NIM V0 lo nx false σ a x → OpM V0 lo nx σ 28 pl a (-1) (-1) 0 (-1) false false false x (zV, zR) (zV, zR) (dUn 28 x).2 ∧ oV 28 a 0 (-1) (-1) x.1 zV zV = (dUn 28 x).1 := by
  intro x nx a σ h1
  refine ⟨⟨by decide, fun _ => h1, fun h => absurd h (by decide), fun h => absurd h (by decide), fun h => absurd h (by decide), fun h => absurd h (by decide), fun h => by cases h⟩, ?_⟩
  show _ = oV 28 0 0 (-1) 0 x.1 zV zV
  exact oV_congr (by decide) (fun h => absurd h (by decide)) (fun h => absurd h (by decide)) (fun h => absurd h (by decide)) (fun _ => rfl) (fun _ => rfl) (fun _ => rfl)
theorem oMUn29 {pl : Int32} : ∀ x nx a σ, NIM V0 lo nx false σ a x → OpM V0 lo nx σ 29 pl a (-1) (-1) 0 (-1) false false false x (zV, zR) (zV, zR) (dUn 29 x).2 ∧ oV 29 a 0 (-1) (-1) x.1 zV zV = (dUn 29 x).1 := by
  intro x nx a σ h1
  refine ⟨⟨by decide, fun _ => h1, fun h => absurd h (by decide), fun h => absurd h (by decide), fun h => absurd h (by decide), fun h => absurd h (by decide), fun h => by cases h⟩, ?_⟩
  show _ = oV 29 0 0 (-1) 0 x.1 zV zV
  exact oV_congr (by decide) (fun h => absurd h (by decide)) (fun h => absurd h (by decide)) (fun h => absurd h (by decide)) (fun _ => rfl) (fun _ => rfl) (fun _ => rfl)
theorem oMUn30 {pl : Int32} : ∀ x nx a σ, NIM V0 lo nx true σ a x → OpM V0 lo nx σ 30 pl a (-1) (-1) 0 (-1) false true false x (zV, zR) (zV, zR) (dUn 30 x).2 ∧ oV 30 a 0 (-1) (-1) x.1 zV zV = (dUn 30 x).1 := by
  intro x nx a σ h1
  refine ⟨⟨by decide, fun _ => h1, fun h => absurd h (by decide), fun h => absurd h (by decide), fun h => absurd h (by decide), fun h => absurd h (by decide), fun h => by cases h⟩, ?_⟩
  show _ = oV 30 0 0 (-1) 0 x.1 zV zV
  exact oV_congr (by decide) (fun h => absurd h (by decide)) (fun h => absurd h (by decide)) (fun h => absurd h (by decide)) (fun _ => rfl) (fun _ => rfl) (fun _ => rfl)
theorem oMUn31 {pl : Int32} : ∀ x nx a σ, NIM V0 lo nx true σ a x → OpM V0 lo nx σ 31 pl a (-1) (-1) 0 (-1) false true false x (zV, zR) (zV, zR) (dUn 31 x).2 ∧ oV 31 a 0 (-1) (-1) x.1 zV zV = (dUn 31 x).1 := by
  intro x nx a σ h1
  refine ⟨⟨by decide, fun _ => h1, fun h => absurd h (by decide), fun h => absurd h (by decide), fun h => absurd h (by decide), fun h => absurd h (by decide), fun h => by cases h⟩, ?_⟩
  show _ = oV 31 0 0 (-1) 0 x.1 zV zV
  exact oV_congr (by decide) (fun h => absurd h (by decide)) (fun h => absurd h (by decide)) (fun h => absurd h (by decide)) (fun _ => rfl) (fun _ => rfl) (fun _ => rfl)
theorem oMIf {pl : Int32} : ∀ x y w nx a b t σ, NIM V0 lo nx true σ a x → NIM V0 lo nx false σ b y → NIM V0 lo nx false σ t w → OpM V0 lo nx σ 33 pl a b t 0 (-1) false true false x y w (dIf x y w).2 ∧ oV 33 a 0 (-1) t x.1 y.1 w.1 = (dIf x y w).1 := by
  intro x y w nx a b t σ h1 h2 h3
  refine ⟨⟨by decide, fun _ => h1, fun _ => h2, fun _ => h3, fun h => absurd h (by decide), fun h => absurd h (by decide), fun h => by cases h⟩, ?_⟩
  show _ = oV 33 0 0 (-1) 0 x.1 y.1 w.1
  exact oV_congr (by decide) (fun h => absurd h (by decide)) (fun h => absurd h (by decide)) (fun h => absurd h (by decide)) (fun _ => rfl) (fun _ => rfl) (fun _ => rfl)
theorem oM0 {kd pl a : Int32} (hk : kd = 20 ∨ kd = 21 ∨ kd = 23 ∨ kd = 24) (hs : kd = 21 → ∃ m, m < 8 ∧ a = nI m) {a2 : Int32} (ha : kd = 20 ∨ kd = 21 → a = a2) : ∀ nx σ, OpM V0 lo nx σ kd pl a (-1) (-1) 0 (-1) false false false (zV, zR) (zV, zR) (zV, zR) (dVal kd a2 0 zV zV zV).2 ∧ oV kd a 0 (-1) (-1) zV zV zV = (dVal kd a2 0 zV zV zV).1 := by
  intro nx σ
  refine ⟨⟨by rcases hk with e | e | e | e <;> subst e <;> decide, fun h => ?_, fun h => ?_, fun h => ?_, hs, fun h => ?_, fun h => by cases h⟩, ?_⟩
  · rcases hk with e | e | e | e <;> subst e <;> exact absurd h (by decide)
  · rcases hk with e | e | e | e <;> subst e <;> exact absurd h (by decide)
  · rcases hk with e | e | e | e <;> subst e <;> exact absurd h (by decide)
  · rcases hk with e | e | e | e <;> subst e <;> exact absurd h (by decide)
  · show _ = oV kd a2 0 (-1) 0 zV zV zV
    refine oV_congr (by rcases hk with e | e | e | e <;> subst e <;> decide) ha (fun h => ?_) (fun h => ?_) (fun _ => rfl) (fun _ => rfl) (fun _ => rfl)
    · rcases hk with e | e | e | e <;> subst e <;> exact absurd h (by decide)
    · rcases hk with e | e | e | e <;> subst e <;> exact absurd h (by decide)
theorem oMCon {kd pl : Int32} (hk : kd = 6 ∨ kd = 7) : ∀ nx σ, OpM V0 lo nx σ kd pl (-1) (-1) (-1) 0 (-1) true false false (zV, zR) (zV, zR) (zV, zR) (dCon kd pl).2 ∧ oV kd (-1) 0 (-1) (-1) zV zV zV = (dCon kd pl).1 := by
  intro nx σ
  rcases hk with rfl | rfl
  · refine ⟨⟨by decide, fun h => absurd h (by decide), fun h => absurd h (by decide), fun h => absurd h (by decide), fun h => absurd h (by decide), fun h => absurd h (by decide), fun _ => ⟨by unfold isF; decide, fun A ra rb u1 u2 => ?_⟩⟩, ?_⟩
    · show _ = oR 6 0 (-1) pl zV zR zR
      exact oR_congr2 (fun h => absurd h (by decide)) (fun _ => rfl) (fun h => absurd h (by decide)) (fun h => absurd h (by decide)) (fun h => absurd h (by decide))
    · show _ = oV 6 0 0 (-1) 0 zV zV zV
      exact oV_congr (by decide) (fun h => absurd h (by decide)) (fun h => absurd h (by decide)) (fun h => absurd h (by decide)) (fun _ => rfl) (fun _ => rfl) (fun _ => rfl)
  · refine ⟨⟨by decide, fun h => absurd h (by decide), fun h => absurd h (by decide), fun h => absurd h (by decide), fun h => absurd h (by decide), fun h => absurd h (by decide), fun _ => ⟨by unfold isF; decide, fun A ra rb u1 u2 => ?_⟩⟩, ?_⟩
    · show _ = oR 7 0 (-1) pl zV zR zR
      exact oR_congr2 (fun h => absurd h (by decide)) (fun _ => rfl) (fun h => absurd h (by decide)) (fun h => absurd h (by decide)) (fun h => absurd h (by decide))
    · show _ = oV 7 0 0 (-1) 0 zV zV zV
      exact oV_congr (by decide) (fun h => absurd h (by decide)) (fun h => absurd h (by decide)) (fun h => absurd h (by decide)) (fun _ => rfl) (fun _ => rfl) (fun _ => rfl)
theorem oV_22 {a lo hi th : Int32} {A B C : Vl} : oV 22 a lo hi th A B C = A := by funext h i; simp [oV, opV]
theorem oV_8 {a lo hi th : Int32} {D : Den} {B C : Vl} (hb : BlD D) : oV 8 a lo hi th D.1 B C = D.1 := by
  funext h i
  have : oV 8 a lo hi th D.1 B C h i = b2l (nzV (D.1 h i)) := by simp [oV, opV]
  rw [this, hb]
theorem oR_8 {lo hi pl : Int32} {A : Vl} {ra rb : Rz} : oR 8 lo hi pl A ra rb = ra := by funext h i; simp [oR, opR]
/-- bounds -/
theorem mBnd (hc : CtM kw bt len c σ0 V0 lo L) (hS : SM c σ0 V0 lo nx k σ) {f : Nat → Except En (Int32 × Int32) → Option Rs} {k' : Nat} {m : MV} (hr : pBnd c k f = some (k', some m)) : ∃ k2 bd, k ≤ k2 ∧ f k2 bd = some (k', some m) ∧ ∃ err σ', FX11_bounds L σ = some (err, σ') ∧ ((∃ e, bd = .error e ∧ err = e.1 ∧ e.1 ≠ 0 ∧ σ'.1 3 = e.2 ∧ FrM σ0 lo σ') ∨ ∃ q, bd = .ok q ∧ err = 0 ∧ SM c σ0 V0 lo nx k2 σ' ∧ σ'.2 = σ.2 ∧ σ'.1 37 = q.1 ∧ σ'.1 38 = q.2 ∧ σ'.1 17 = σ.1 17) := by
  have h0 : SM c σ0 V0 lo nx k (sI (sI σ 37 0) 38 (-1)) := ⟨(hS.1.int (by omega)).int (by omega), by rw [sI_o (by decide), sI_o (by decide)]; exact hS.2.1, hS.2.2.1, (hS.2.2.2.1.int (by decide)).int (by decide), hS.2.2.2.2⟩
  have ht0 := hc.1.fr h0.1
  rw [FX11_bounds, rS_15 ht0 h0.2.1 h0.2.2.1, b2r, ibI]
  rw [pBnd] at hr
  by_cases e34 : c.1 k = 34
  · rw [if_pos e34] at hr
    rw [if_pos (decide_eq_true e34)]
    obtain ⟨n0, hr⟩ := goM hr
    obtain ⟨t1, n1, hr⟩ := exM2 hr
    obtain ⟨t2, n2, hr⟩ := exM2 hr
    obtain ⟨t3, n3, hr⟩ := exM2 hr
    obtain ⟨t4, n4, hr⟩ := exM2 hr
    have R1 : Rk c.1 (k + 1) := hS.2.2.1.next n0 (by rw [e34]; decide) (by rw [e34]; decide)
    have R2 : Rk c.1 (k + 1 + 1) := R1.next n1 (by rw [t1]; decide) (by rw [t1]; decide)
    have R3 : Rk c.1 (k + 1 + 1 + 1) := R2.next n2 (by rw [t2]; decide) (by rw [t2]; decide)
    have R4 : Rk c.1 (k + 1 + 1 + 1 + 1) := R3.next n3 (by rw [t3]; decide) (by rw [t3]; decide)
    have R5 : Rk c.1 (k + 1 + 1 + 1 + 1 + 1) := R4.next n4 (by rw [t4]; decide) (by rw [t4]; decide)
    refine ⟨_, _, by omega, hr, ?_⟩
    rw [h0.2.1, ← nI_succ]
    have h1 : SM c σ0 V0 lo nx (k + 1) (sI (sI (sI σ 37 0) 38 (-1)) 7 (nI (k + 1))) := h0.go R1 (by omega)
    obtain ⟨v1, hv1, nb1, -, f1⟩ := rNum (hc.1.fr h1.1) R1 t1
    rw [f1, b2r]
    have c1 : (nI v1 ≤ 1000) ↔ v1 ≤ 1000 := by rw [show (1000 : Int32) = nI 1000 from rfl, nI_leI (by omega) (by omega)]
    unfold bdM
    rw [nb1]
    by_cases z1 : v1 ≤ 1000
    · rw [if_pos (c1.mpr z1), if_pos (c1.mpr z1), h1.2.1, f1, b2r, h1.2.1, show (2 : Int32) = nI 2 from rfl, nI_add]
      have h3 : SM c σ0 V0 lo nx (k + 1 + 2) (sI (sI (sI (sI (sI σ 37 0) 38 (-1)) 7 (nI (k + 1))) 37 (nI v1)) 7 (nI (k + 1 + 2))) := by
        have : SM c σ0 V0 lo nx (k + 1) (sI (sI (sI (sI σ 37 0) 38 (-1)) 7 (nI (k + 1))) 37 (nI v1)) := ⟨h1.1.int (by omega), by rw [sI_o (by decide)]; exact h1.2.1, h1.2.2.1, h1.2.2.2.1.int (by decide), h1.2.2.2.2⟩
        exact this.go R3 (by omega)
      obtain ⟨v3, hv3, nb3, -, f3⟩ := rNum (hc.1.fr h3.1) (show Rk c.1 (k + 1 + 2) from R3) t3
      have nb3' : nb c (k + 1 + 1 + 1) = nI v3 := nb3
      rw [nb3', f3, b2r]
      have c5 : (1000 < nI v3) ↔ 1000 < v3 := by rw [show (1000 : Int32) = nI 1000 from rfl, nI_ltI (by omega) (by omega)]
      have wr : ∀ s9 : MS, SM c σ0 V0 lo nx (k + 1 + 2) s9 → FX11_bounds_106 L s9 = some (5, sI s9 3 (c.2.1 (k + 1 + 1 + 1))) := by
        intro s9 hs9
        rw [FX11_bounds_106, hs9.2.1, rWr (hc.1.fr hs9.1) hs9.2.2.1, b2r]
      by_cases z3 : 1000 < v3
      · rw [if_pos (c5.mpr z3), if_pos (Or.inl (c5.mpr z3)), wr _ h3]
        exact ⟨_, _, rfl, Or.inl ⟨_, rfl, rfl, (show (5 : Int32) ≠ 0 by decide), sI_g, h3.1.int (by omega)⟩⟩
      · rw [if_neg (fun z => z3 (c5.mp z)), h3.2.1, f3, b2r]
        have e37 : (sI (sI (sI (sI (sI σ 37 0) 38 (-1)) 7 (nI (k + 1))) 37 (nI v1)) 7 (nI (k + 1 + 2))).1 37 = nI v1 := by rw [sI_o (by decide), sI_g]
        rw [e37]
        have c3 : (nI v1 ≤ nI v3) ↔ v1 ≤ v3 := nI_leI (by omega) (by omega)
        have c4 : (nI v3 < nI v1) ↔ v3 < v1 := nI_ltI (by omega) (by omega)
        by_cases z4 : v1 ≤ v3
        · rw [if_pos (c3.mpr z4), if_neg (fun z => z.elim (fun z => z3 (c5.mp z)) (fun z => by have := c4.mp z; omega)), h3.2.1, f3, b2r]
          refine ⟨_, _, rfl, Or.inr ⟨_, rfl, rfl, ?_, rfl, ?_, ?_, ?_⟩⟩
          · have h4 : SM c σ0 V0 lo nx (k + 1 + 2) (sI (sI (sI (sI (sI (sI σ 37 0) 38 (-1)) 7 (nI (k + 1))) 37 (nI v1)) 7 (nI (k + 1 + 2))) 38 (nI v3)) := ⟨h3.1.int (by omega), by rw [sI_o (by decide)]; exact h3.2.1, h3.2.2.1, h3.2.2.2.1.int (by decide), h3.2.2.2.2⟩
            rw [h3.2.1, nI_add]
            exact h4.go R5 (by omega)
          · rw [sI_o (by decide), sI_o (by decide)]; exact e37
          · rw [sI_o (by decide), sI_g]
          · rw [sI_o (by decide), sI_o (by decide), sI_o (by decide), sI_o (by decide), sI_o (by decide), sI_o (by decide), sI_o (by decide)]
        · rw [if_neg (fun z => z4 (c3.mp z)), if_pos (Or.inr (c4.mpr (by omega))), wr _ h3]
          exact ⟨_, _, rfl, Or.inl ⟨_, rfl, rfl, (show (5 : Int32) ≠ 0 by decide), sI_g, h3.1.int (by omega)⟩⟩
    · rw [if_neg (fun z => z1 (c1.mp z)), if_neg (fun z => z1 (c1.mp z)), h1.2.1, rWr (hc.1.fr h1.1) R1, b2r]
      exact ⟨_, _, rfl, Or.inl ⟨_, rfl, rfl, (show (5 : Int32) ≠ 0 by decide), sI_g, h1.1.int (by omega)⟩⟩
  · rw [if_neg e34] at hr
    rw [if_neg (show ¬ (decide (c.1 k = 34) = true) by simp [e34])]
    refine ⟨k, _, Nat.le_refl _, hr, 0, _, rfl, Or.inr ⟨_, rfl, rfl, h0, rfl, ?_, ?_, ?_⟩⟩
    · rw [sI_o (by decide), sI_g]
    · rw [sI_g]
    · rw [sI_o (by decide), sI_o (by decide)]
theorem mFormula {d : Nat} (hc : CtM kw bt len c σ0 V0 lo L) (ih : MeanOK c σ0 V0 lo L d) : MXs c σ0 V0 lo L (d + 1) 0 0 0 13 true := by
  intro D k nx σ d2 hD hd hS k' m hr
  have hk0 := hS.2.2.1.1
  obtain ⟨z, rfl⟩ : ∃ z, d2 = z + 1 := ⟨d2 - 1, by omega⟩
  have hr : pFormula c (spX c d) D k = some (k', some m) := hr
  show ∃ err σ', FX11_formula (FSC2 L z) L σ = some (err, σ') ∧ _
  rw [pFormula] at hr
  rw [FX11_formula]
  obtain ⟨k1, m1, hk1, hr, r1, σ1, e1, q⟩ := cM9 ih.2.1 hD (show _ ≤ z by omega) hS hr
  rw [e1, b2r]
  rcases q with ⟨e, rfl, rfl, he, q3, q4⟩ | ⟨x, rfl, rfl, nx1, l1, b1, S1, n1, x1⟩
  · rw [if_neg he]
    have hr : (if c.1 k1 = 14 then go k1 (fun k2 => rb (spX c d 0 D k2) fun k3 b => some (k3, some (mo2 dImp (.error e) b))) else some (k1, some (.error e))) = some (k', some m) := hr
    have : m = .error e := by
      split at hr
      · obtain ⟨k3, m3, h1, h2⟩ := rbM (goM hr).2
        exact (Option.some.inj (Prod.ext_iff.mp (Option.some.inj h2)).2).symm
      · exact (Option.some.inj (Prod.ext_iff.mp (Option.some.inj hr)).2).symm
    subst this
    exact ⟨_, _, rfl, rfl, he, q3, q4⟩
  · rw [if_pos rfl, rS_12 (hc.1.fr S1.1) S1.2.1 S1.2.2.1, b2r, ibI]
    have hr : (if c.1 k1 = 14 then go k1 (fun k2 => rb (spX c d 0 D k2) fun k3 b => some (k3, some (mo2 dImp (.ok x) b))) else some (k1, some (.ok x))) = some (k', some m) := hr
    by_cases e14 : c.1 k1 = 14
    · rw [if_pos e14] at hr
      rw [if_pos (decide_eq_true e14)]
      obtain ⟨n4, hr⟩ := goM hr
      have S2 := S1.next e14 n4 (by decide) (by decide)
      have hk2 := S2.2.2.1.1
      obtain ⟨k3, m3, hk3, hr, r3, σ3, e3, q⟩ := cM9 ih.1 hD (show _ ≤ z by omega) S2 hr
      rw [e3, b2r]
      have er := (Option.some.inj hr).symm
      have ek : k' = k3 := (Prod.ext_iff.mp er).1
      have em : m = mo2 dImp (.ok x) m3 := Option.some.inj (Prod.ext_iff.mp er).2
      subst ek; subst em
      rcases q with ⟨e, rfl, rfl, he, q3, q4⟩ | ⟨y, rfl, rfl, nx3, ok3⟩
      · rw [if_neg he]
        exact ⟨_, _, rfl, rfl, he, q3, q4⟩
      · obtain ⟨l3, b3, S3, n3, x3⟩ := id ok3
        have h1203 := hc.2.1
        have hk3' := S3.2.2.1.1
        obtain ⟨q, eq, hq⟩ := n1.1.lt hc.2.2.1 hc.2.1 S1.nx4
        rw [if_pos rfl, eq, if_neg (idx17 hq), ← eq]
        obtain ⟨σ4, e4, hN⟩ := rNode2 (kd := 13) (a := σ1.1 17) (b := σ3.1 17) (t := -1) (pl := σ3.2.1 15 (σ1.1 17).toNatClampNeg) hc S3.2.2.2.1 (by have := S3.nx4; have := S3.2.2.2.2; have := hS.2.2.2.2; omega)
        rw [e4, b2r]
        refine ⟨_, _, rfl, rfl, nx3 + 1, ?_⟩
        exact binM hc hS (oMImp x y) l1 (show nx1 + k + 1 ≤ nx + (k1 + 1) by omega) (S2.2.2.2.1) (n1.1.same rfl) x1 ok3 hN
    · rw [if_neg e14] at hr
      rw [if_neg (show ¬ (decide (c.1 k1 = 14) = true) by simp [e14])]
      have er := (Option.some.inj hr).symm
      have ek : k' = k1 := (Prod.ext_iff.mp er).1
      have em : m = .ok x := Option.some.inj (Prod.ext_iff.mp er).2
      subst ek; subst em
      exact ⟨_, _, rfl, rfl, nx1, l1, b1, S1, n1, x1⟩
theorem mOrL {d z D : Nat} (hc : CtM kw bt len c σ0 V0 lo L) (ih : MXs c σ0 V0 lo L d 8 1 13 11 true) (hD : D ≤ 10) (hS : SM c σ0 V0 lo nx k σ) (hz : (401 - k) + 20 * (10 - D) + 11 ≤ z) : ∀ (n kc nf nx1 k' : Nat) (x : Den) (m : MV) (σc : MS), n < nf → k ≤ kc → OKm c σ0 V0 lo true nx k σ kc x nx1 σc → pRowL c (spX c d) 8 13 dOr D n kc (.ok x) = some (k', some m) → ∃ err σ', FX11_row_32 (FSC2 L z) L 11 nf 1 0 σc = some (err, σ') ∧ PM c σ0 V0 lo true nx k σ k' m err σ'
  | 0, _, _, _, _, _, _, _, _, _, _, hr => by cases hr
  | n+1, kc, nf, nx1, k', x, m, σc, hf, hkc, hO, hr => by
    obtain ⟨nf, rfl⟩ : ∃ z, nf = z + 1 := ⟨nf - 1, by omega⟩
    obtain ⟨l1, b1, S1, n1, x1⟩ := id hO
    rw [pRowL] at hr
    rw [FX11_row_32, if_pos rfl, rS_11 (hc.1.fr S1.1) S1.2.1 S1.2.2.1, b2r, ibI]
    by_cases e : c.1 kc = 13
    · rw [if_pos e] at hr
      rw [if_pos (decide_eq_true e), if_neg (show ¬ ((1 : Int32) = 0) by decide)]
      obtain ⟨n4, hr⟩ := goM hr
      have S2 := S1.next e n4 (by decide) (by decide)
      have hk2 := S2.2.2.1.1
      obtain ⟨k3, m3, hk3, hr, r3, σ3, e3, q⟩ := cM9 ih hD (show _ ≤ z by omega) S2 hr
      rw [e3, b2r, FX11_row_77]
      rcases q with ⟨e, rfl, rfl, he, q3, q4⟩ | ⟨y, rfl, rfl, nx3, ok3⟩
      · rw [if_neg he]
        obtain ⟨nf, rfl⟩ : ∃ z, nf = z + 1 := ⟨nf - 1, by omega⟩
        rw [FX11_row_32, if_neg he]
        have := rowErr _ _ _ _ hr
        subst this
        exact ⟨_, _, rfl, rfl, he, q3, q4⟩
      · obtain ⟨l3, b3, S3, n3, x3⟩ := id ok3
        have h1203 := hc.2.1
        obtain ⟨q, eq, hq⟩ := n1.1.lt hc.2.2.1 hc.2.1 S1.nx4
        rw [if_pos rfl, if_neg (show ¬ ((1 : Int32) = 0) by decide), FX11_row_94, eq, if_neg (idx17 hq), ← eq]
        obtain ⟨σ4, e4, hN⟩ := rNode2 (kd := 12) (a := σc.1 17) (b := σ3.1 17) (t := -1) (pl := σ3.2.1 15 (σc.1 17).toNatClampNeg) hc S3.2.2.2.1 (by have := S3.nx4; have := S3.2.2.2.2; have := hS.2.2.2.2; have := S3.2.2.1.1; omega)
        rw [e4, b2r]
        exact mOrL hc ih hD hS hz n k3 nf (nx3 + 1) k' _ m σ4 (by omega) (by omega) (binM hc hS (oMOr x y) l1 (show nx1 + k + 1 ≤ nx + (kc + 1) by omega) S2.2.2.2.1 (n1.1.same rfl) x1 ok3 hN) hr
    · rw [if_neg e] at hr
      rw [if_neg (show ¬ (decide (c.1 kc = 13) = true) by simp [e])]
      have er := (Option.some.inj hr).symm
      have ek : k' = kc := (Prod.ext_iff.mp er).1
      have em : m = .ok x := Option.some.inj (Prod.ext_iff.mp er).2
      subst ek; subst em
      exact ⟨_, _, rfl, rfl, nx1, hO⟩
theorem mOr {d : Nat} (hc : CtM kw bt len c σ0 V0 lo L) (ih : MeanOK c σ0 V0 lo L d) : MXs c σ0 V0 lo L (d + 1) 1 1 11 12 true := by
  intro D k nx σ d2 hD hd hS k' m hr
  have hL := hc.1.2.2.2.2.2.2
  have hk0 := hS.2.2.1.1
  obtain ⟨z, rfl⟩ : ∃ z, d2 = z + 1 := ⟨d2 - 1, by omega⟩
  have hr : pRow1 c (spX c d) D k = some (k', some m) := hr
  show ∃ err σ', FX11_row (FSC2 L z) L 11 σ = some (err, σ') ∧ _
  rw [pRow1] at hr
  rw [FX11_row, if_neg (by decide), lenOf 11 (by decide), obS, if_pos (by decide), FX11_row_13, if_neg (show ¬ ((1 : Int32) = 0) by decide)]
  obtain ⟨k1, m1, hk1, hr, r1, σ1, e1, q⟩ := cM9 ih.2.2.1 hD (show _ ≤ z by omega) hS hr
  rw [e1, b2r]
  rcases q with ⟨e, rfl, rfl, he, q3, q4⟩ | ⟨x, rfl, rfl, nx1, hO⟩
  · obtain ⟨L, rfl⟩ : ∃ z, L = z + 1 := ⟨L - 1, by omega⟩
    rw [FX11_row_32, if_neg he]
    have := rowErr _ _ _ _ hr
    subst this
    exact ⟨_, _, rfl, rfl, he, q3, q4⟩
  · exact mOrL hc ih.2.2.1 hD hS (by omega) 400 k1 L nx1 k' x m σ1 (by omega) (by omega) hO hr
theorem mAndL {d z D : Nat} (hc : CtM kw bt len c σ0 V0 lo L) (ih : MXs c σ0 V0 lo L d 2 2 0 10 true) (hD : D ≤ 10) (hS : SM c σ0 V0 lo nx k σ) (hz : (401 - k) + 20 * (10 - D) + 10 ≤ z) : ∀ (n kc nf nx1 k' : Nat) (x : Den) (m : MV) (σc : MS), n < nf → k ≤ kc → OKm c σ0 V0 lo true nx k σ kc x nx1 σc → pRowL c (spX c d) 2 12 dAnd D n kc (.ok x) = some (k', some m) → ∃ err σ', FX11_row_32 (FSC2 L z) L 13 nf 0 0 σc = some (err, σ') ∧ PM c σ0 V0 lo true nx k σ k' m err σ'
  | 0, _, _, _, _, _, _, _, _, _, _, hr => by cases hr
  | n+1, kc, nf, nx1, k', x, m, σc, hf, hkc, hO, hr => by
    obtain ⟨nf, rfl⟩ : ∃ z, nf = z + 1 := ⟨nf - 1, by omega⟩
    obtain ⟨l1, b1, S1, n1, x1⟩ := id hO
    rw [pRowL] at hr
    rw [FX11_row_32, if_pos rfl, rS_13 (hc.1.fr S1.1) S1.2.1 S1.2.2.1, b2r, ibI]
    by_cases e : c.1 kc = 12
    · rw [if_pos e] at hr
      rw [if_pos (decide_eq_true e), if_pos rfl]
      obtain ⟨n4, hr⟩ := goM hr
      have S2 := S1.next e n4 (by decide) (by decide)
      have hk2 := S2.2.2.1.1
      obtain ⟨k3, m3, hk3, hr, r3, σ3, e3, q⟩ := cM9 ih hD (show _ ≤ z by omega) S2 hr
      rw [e3, b2r, FX11_row_77]
      rcases q with ⟨e, rfl, rfl, he, q3, q4⟩ | ⟨y, rfl, rfl, nx3, ok3⟩
      · rw [if_neg he]
        obtain ⟨nf, rfl⟩ : ∃ z, nf = z + 1 := ⟨nf - 1, by omega⟩
        rw [FX11_row_32, if_neg he]
        have := rowErr _ _ _ _ hr
        subst this
        exact ⟨_, _, rfl, rfl, he, q3, q4⟩
      · obtain ⟨l3, b3, S3, n3, x3⟩ := id ok3
        have h1203 := hc.2.1
        obtain ⟨q, eq, hq⟩ := n1.1.lt hc.2.2.1 hc.2.1 S1.nx4
        rw [if_pos rfl, if_pos rfl, FX11_row_94, eq, if_neg (idx17 hq), ← eq]
        obtain ⟨σ4, e4, hN⟩ := rNode2 (kd := 11) (a := σc.1 17) (b := σ3.1 17) (t := -1) (pl := σ3.2.1 15 (σc.1 17).toNatClampNeg) hc S3.2.2.2.1 (by have := S3.nx4; have := S3.2.2.2.2; have := hS.2.2.2.2; have := S3.2.2.1.1; omega)
        rw [e4, b2r]
        exact mAndL hc ih hD hS hz n k3 nf (nx3 + 1) k' _ m σ4 (by omega) (by omega) (binM hc hS (oMAnd x y) l1 (show nx1 + k + 1 ≤ nx + (kc + 1) by omega) S2.2.2.2.1 (n1.1.same rfl) x1 ok3 hN) hr
    · rw [if_neg e] at hr
      rw [if_neg (show ¬ (decide (c.1 kc = 12) = true) by simp [e])]
      have er := (Option.some.inj hr).symm
      have ek : k' = kc := (Prod.ext_iff.mp er).1
      have em : m = .ok x := Option.some.inj (Prod.ext_iff.mp er).2
      subst ek; subst em
      exact ⟨_, _, rfl, rfl, nx1, hO⟩
theorem mAnd {d : Nat} (hc : CtM kw bt len c σ0 V0 lo L) (ih : MeanOK c σ0 V0 lo L d) : MXs c σ0 V0 lo L (d + 1) 8 1 13 11 true := by
  intro D k nx σ d2 hD hd hS k' m hr
  have hL := hc.1.2.2.2.2.2.2
  have hk0 := hS.2.2.1.1
  obtain ⟨z, rfl⟩ : ∃ z, d2 = z + 1 := ⟨d2 - 1, by omega⟩
  have hr : pRow8 c (spX c d) D k = some (k', some m) := hr
  show ∃ err σ', FX11_row (FSC2 L z) L 13 σ = some (err, σ') ∧ _
  rw [pRow8] at hr
  rw [FX11_row, if_neg (by decide), lenOf 13 (by decide), obS, if_neg (by decide), FX11_row_13, if_pos rfl]
  obtain ⟨k1, m1, hk1, hr, r1, σ1, e1, q⟩ := cM9 ih.2.2.2.1 hD (show _ ≤ z by omega) hS hr
  rw [e1, b2r]
  rcases q with ⟨e, rfl, rfl, he, q3, q4⟩ | ⟨x, rfl, rfl, nx1, hO⟩
  · obtain ⟨L, rfl⟩ : ∃ z, L = z + 1 := ⟨L - 1, by omega⟩
    rw [FX11_row_32, if_neg he]
    have := rowErr _ _ _ _ hr
    subst this
    exact ⟨_, _, rfl, rfl, he, q3, q4⟩
  · exact mAndL hc ih.2.2.2.1 hD hS (by omega) 400 k1 L nx1 k' x m σ1 (by omega) (by omega) hO hr
theorem mSince {d : Nat} (hc : CtM kw bt len c σ0 V0 lo L) (ih : MeanOK c σ0 V0 lo L d) : MXs c σ0 V0 lo L (d + 1) 2 2 0 10 true := by
  intro D k nx σ d2 hD hd hS k' m hr
  have hk0 := hS.2.2.1.1
  obtain ⟨z, rfl⟩ : ∃ z, d2 = z + 1 := ⟨d2 - 1, by omega⟩
  have hr : pSince c (spX c d) D k = some (k', some m) := hr
  show ∃ err σ', FX11_since (FSC2 L z) L σ = some (err, σ') ∧ _
  rw [pSince] at hr
  rw [FX11_since]
  obtain ⟨k1, m1, hk1, hr, r1, σ1, e1, q⟩ := cM9 ih.2.2.2.2.1 hD (show _ ≤ z by omega) hS hr
  rw [e1, b2r]
  rcases q with ⟨e, rfl, rfl, he, q3, q4⟩ | ⟨x, rfl, rfl, nx1, l1, b1, S1, n1, x1⟩
  · rw [if_neg he]
    have hr : (if c.1 k1 = 11 then go k1 (fun k2 => pBnd c k2 fun k3 bd => rb (spX c d 3 D k3) fun k4 b => some (k4, some (mvS (dSince (c.2.1 k)) (.error e) bd b))) else some (k1, some (.error e))) = some (k', some m) := hr
    have : m = .error e := by
      split at hr
      · obtain ⟨k2, bd, -, h4⟩ := bndM (goM hr).2
        obtain ⟨k3, m3, h1, h2⟩ := rbM h4
        exact (Option.some.inj (Prod.ext_iff.mp (Option.some.inj h2)).2).symm
      · exact (Option.some.inj (Prod.ext_iff.mp (Option.some.inj hr)).2).symm
    subst this
    exact ⟨_, _, rfl, rfl, he, q3, q4⟩
  · rw [if_pos rfl, rS_14 (hc.1.fr S1.1) S1.2.1 S1.2.2.1, b2r, ibI]
    have hr : (if c.1 k1 = 11 then go k1 (fun k2 => pBnd c k2 fun k3 bd => rb (spX c d 3 D k3) fun k4 b => some (k4, some (mvS (dSince (c.2.1 k)) (.ok x) bd b))) else some (k1, some (.ok x))) = some (k', some m) := hr
    by_cases e11 : c.1 k1 = 11
    · rw [if_pos e11] at hr
      rw [if_pos (decide_eq_true e11)]
      obtain ⟨n4, hr⟩ := goM hr
      have S2 := S1.next e11 n4 (by decide) (by decide)
      have hk2 := S2.2.2.1.1
      obtain ⟨k2, bd, hk3, hr, r5, σ5, e5, q⟩ := mBnd hc S2 hr
      rw [e5, b2r]
      obtain ⟨k4, m4, h9, h10⟩ := rbM hr
      have er := (Option.some.inj h10).symm
      have ek : k' = k4 := (Prod.ext_iff.mp er).1
      have em : m = mvS (dSince (c.2.1 k)) (.ok x) bd m4 := Option.some.inj (Prod.ext_iff.mp er).2
      rcases q with ⟨e, rfl, rfl, he, q3, q4⟩ | ⟨q, rfl, rfl, S5, r5, g37, g38, g17⟩
      · rw [if_neg he, FX11_since_66, if_neg he]
        subst em
        exact ⟨_, _, rfl, rfl, he, q3, q4⟩
      · rw [if_pos rfl]
        obtain ⟨k5, m5, hk5, hr, r6, σ6, e6, q6⟩ := cM9 ih.2.2.2.2.1 hD (show _ ≤ z by omega) S5 hr
        rw [e6, b2r, FX11_since_66]
        have er := (Option.some.inj hr).symm
        have ek : k' = k5 := (Prod.ext_iff.mp er).1
        have em : m = mvS (dSince (c.2.1 k)) (.ok x) (.ok q) m5 := Option.some.inj (Prod.ext_iff.mp er).2
        subst ek; subst em
        rcases q6 with ⟨e, rfl, rfl, he, q3, q4⟩ | ⟨y, rfl, rfl, nx3, ok3⟩
        · rw [if_neg he]
          exact ⟨_, _, rfl, rfl, he, q3, q4⟩
        · obtain ⟨l3, b3, S3, n3, x3⟩ := id ok3
          have h1203 := hc.2.1
          have hx3 : nx3 < 1203 := by have := S3.nx4; have := S3.2.2.2.2; have := hS.2.2.2.2; have := S3.2.2.1.1; omega
          rw [if_pos rfl, hS.2.1, if_neg (kin hS.2.2.1), kcl hS.2.2.1, rFrom (hc.1.fr S3.1) hS.2.2.1]
          obtain ⟨σ4, e4, hN⟩ := rNode2 (kd := 10) (a := σ1.1 17) (b := σ6.1 17) (t := -1) (pl := c.2.1 k) hc S3.2.2.2.1 hx3
          rw [e4, b2r, hN.2.2.1, if_neg (idx17 hx3), if_neg (idx17 hx3), nI_clamp (by omega)]
          refine ⟨_, _, rfl, rfl, nx3 + 1, ?_⟩
          have hN2 := hN.bounds (l2 := σ5.1 37) (h2 := σ5.1 38) hx3
          rw [g37, g38] at hN2
          rw [g37, g38]
          exact binM hc hS (oMSince x y) l1 (show nx1 + k + 1 ≤ nx + k2 by omega) S5.2.2.2.1 ((n1.1.same rfl).same (σ := sI σ1 7 (σ1.1 7 + 1)) (by rw [r5])) (fun q hq j => by rw [r5]; exact x1 q hq j) ok3 hN2
    · rw [if_neg e11] at hr
      rw [if_neg (show ¬ (decide (c.1 k1 = 11) = true) by simp [e11])]
      have er := (Option.some.inj hr).symm
      have ek : k' = k1 := (Prod.ext_iff.mp er).1
      have em : m = .ok x := Option.some.inj (Prod.ext_iff.mp er).2
      subst ek; subst em
      exact ⟨_, _, rfl, rfl, nx1, l1, b1, S1, n1, x1⟩
end MQ
