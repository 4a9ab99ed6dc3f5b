-- the class's parser reads what the grammar says
theorem rb_rb {x : Option Rs} {f g : Nat → MV → Option Rs} : rb (rb x f) g = rb x (fun k m => rb (f k m) g) := by
  cases x with
  | none => rfl
  | some q =>
    obtain ⟨k, o⟩ := q
    cases o <;> rfl
theorem Tr.id {α : Type} {x : Option (α × CS)} {Q : α → CS → Prop} (h : Tr x Q) : Tr (b2 x fun r s => some (r, s)) Q := h.bind (fun _ _ q => Tr.ret q)
def vl (m : MV) : Den := match m with
  | .ok x => x
  | .error _ => (zV, zR)
theorem nzb {b : Bool} : nzV (b2l b) = b := by cases b <;> decide
def dAndV (x y : Den) : Den := (oV 11 0 0 (-1) 0 x.1 y.1 zV, zR)
theorem imp3 {x y z : Den} : dImp x (dImp y z) = dImp (dAndV x y) z := by
  unfold dImp dImV dAndV
  congr 1
  funext h i
  simp only [oV]
  have e13 : ∀ (A B : Nat → Int64), opV 13 0 0 (-1) 0 h A B (zV h) i = b2l (!nzV (A i) || nzV (B i)) := fun A B => by simp [opV]
  have e11 : ∀ (A B : Nat → Int64), opV 11 0 0 (-1) 0 h A B (zV h) i = b2l (nzV (A i) && nzV (B i)) := fun A B => by simp [opV]
  rw [e13, e13]
  show b2l (!nzV (x.1 h i) || nzV (opV 13 0 0 (-1) 0 h (y.1 h) (z.1 h) (zV h) i)) = b2l (!nzV (opV 11 0 0 (-1) 0 h (x.1 h) (y.1 h) (zV h) i) || nzV (z.1 h i))
  rw [e13, e11, nzb, nzb]
  cases nzV (x.1 h i) <;> cases nzV (y.1 h i) <;> cases nzV (z.1 h i) <;> rfl
theorem mo_imp {a b e : MV} : mo2 dImp a (mo2 dImp b e) = mo2 dImp (mo2 dAndV a b) e := by
  cases a with
  | error _ => rfl
  | ok x => cases b with
    | error _ => rfl
    | ok y => cases e with
      | error _ => rfl
      | ok z => show Except.ok (dImp x (dImp y z)) = Except.ok (dImp (dAndV x y) z); rw [imp3]
section CM
variable {c : Cx} {τ0 σ σ1 σ2 σ3 : CS} {V0 : Nat → Prop} {lo : Nat × Nat} {L k nx : Nat} {md : Option En} {p : Int32}
theorem NI.weak {f : Bool} {a : Int32} {D : Den} (h : NI V0 lo nx f σ a D) : NI V0 lo nx false σ a D := by
  obtain ⟨q, e, hq, h1, h2⟩ := h
  exact ⟨q, e, hq, h1, fun hf => by cases hf⟩
theorem PO_weak {f : Bool} {k1 : Nat} {m : MV} {a : Int32} (h : PO c τ0 V0 lo L f md nx k σ (k1, some m) a σ1) : PO c τ0 V0 lo L false md nx k σ (k1, some m) a σ1 := by
  obtain ⟨nx1, l1, S1, i1⟩ := h
  exact ⟨nx1, l1, S1, fun h D e => ⟨(i1 h D e).1, (i1 h D e).2.1.weak, (i1 h D e).2.2⟩⟩
def CXs (c : Cx) (τ0 : CS) (V0 : Nat → Prop) (lo : Nat × Nat) (L d X Y rank : Nat) (f : Bool) : Prop := ∀ D k nx md σ d2, D ≤ 10 → 16 * (10 - D) + rank + 12 ≤ d2 → St c τ0 V0 lo L md nx k σ → ∀ r, spX c d X D k = some r → Tr (FSC4 L d2 Y (nI D) σ) (PO c τ0 V0 lo L f md nx k σ r)
def ClsOK (c : Cx) (τ0 : CS) (V0 : Nat → Prop) (lo : Nat × Nat) (L d : Nat) : Prop := CXs c τ0 V0 lo L d 0 0 11 true ∧ CXs c τ0 V0 lo L d 1 1 10 true ∧ CXs c τ0 V0 lo L d 8 2 9 true ∧ CXs c τ0 V0 lo L d 2 3 8 true ∧ CXs c τ0 V0 lo L d 3 4 7 true ∧ CXs c τ0 V0 lo L d 4 8 5 false ∧ CXs c τ0 V0 lo L d 5 9 4 false ∧ CXs c τ0 V0 lo L d 7 10 3 false
/-- what a call of a piece gives to what goes on behind it -/
def Gx (c : Cx) (τ0 : CS) (V0 : Nat → Prop) (lo : Nat × Nat) (L : Nat) (f : Bool) (md : Option En) (nx k : Nat) (σ : CS) (x : Option (Int32 × CS)) (g : Nat → MV → Option Rs) (r : Rs) : Prop := ∃ a σ', x = some (a, σ') ∧ ((∃ k', BdS τ0 lo (c.2.1 k') σ' ∧ r = (k', none)) ∨ ∃ k1 m, k < k1 ∧ g k1 m = some r ∧ PO c τ0 V0 lo L f md nx k σ (k1, some m) a σ')
theorem callX {d X Y rank D d2 : Nat} {f : Bool} (h : CXs c τ0 V0 lo L d X Y rank f) (hD : D ≤ 10) (hd : 16 * (10 - D) + rank + 12 ≤ d2) (hS : St c τ0 V0 lo L md nx k σ) {g : Nat → MV → Option Rs} {r : Rs} (hr : rb (spX c d X D k) g = some r) : Gx c τ0 V0 lo L f md nx k σ (FSC4 L d2 Y (nI D) σ) g r := by
  rcases rbI hr with ⟨k1, e, e2⟩ | ⟨k1, m, e, hg⟩
  · obtain ⟨a, σ', e3, q⟩ := h D k nx md σ d2 hD hd hS _ e
    exact ⟨a, σ', e3, Or.inl ⟨k1, q, e2⟩⟩
  · obtain ⟨a, σ', e3, q⟩ := h D k nx md σ d2 hD hd hS _ e
    exact ⟨a, σ', e3, Or.inr ⟨k1, m, spMono _ _ _ _ _ _ e, hg, q⟩⟩
theorem uncl {d X D : Nat} {f : Bool} {x : Option (Int32 × CS)} {r : Rs} (hS : St c τ0 V0 lo L md nx k σ) (hu : tS c.1 k = 54) (hb : ∀ p, BdS τ0 lo p σ → Tr x (fun _ σ' => BdS τ0 lo p σ')) (hr : spX c d X D k = some r) : Tr x (PO c τ0 V0 lo L f md nx k σ r) := by
  have e := doomed (un_tS hu) d X D r hr
  subst e
  exact hb _ ⟨hS.1, hS.2.1.bad hu⟩
/-- two operands, one behind the other -/
theorem two {f1 f2 : Bool} {k1 k2 k3 nx1 nx3 : Nat} {m1 m2 : MV} {a b : Int32} {md2 : Option En} (l1 : nx ≤ nx1) (S1 : St c τ0 V0 lo L (nmd md m1) nx1 k1 σ1) (i1 : md = none → ∀ D, m1 = .ok D → nx1 + k ≤ nx + k1 ∧ NI V0 lo nx1 f1 σ1 a D ∧ Ext V0 lo nx σ σ1) (hs : σ2.2.2 = σ1.2.2) (hk : k1 < k2) (l3 : nx1 ≤ nx3) (i3 : md2 = none → ∀ D, m2 = .ok D → nx3 + k2 ≤ nx1 + k3 ∧ NI V0 lo nx3 f2 σ3 b D ∧ Ext V0 lo nx1 σ2 σ3) : md = none → md2 = none → ∀ x y, m1 = .ok x → m2 = .ok y → nx3 + 1 + k ≤ nx + k3 ∧ NI V0 lo nx3 f1 σ3 a x ∧ NI V0 lo nx3 f2 σ3 b y ∧ Ext V0 lo nx σ σ3 := by
  intro h1 h2 x y e1 e2
  subst h1
  subst e1
  obtain ⟨b1, n1, x1⟩ := i1 rfl x rfl
  obtain ⟨b3, n3, x3⟩ := i3 h2 y e2
  have hT : okT (Vx V0 lo.1 nx1) (ntC σ2) := by
    have := MD_okT (show MD c τ0 V0 lo L none nx1 k1 σ1 from S1.2.2)
    have q1 : ntC σ2 = ntC σ1 := by unfold ntC; rw [hs]
    rw [q1]; exact this
  exact ⟨by omega, (n1.same hs).ext hT x3 l3, n3, (x1.same hs).trans l1 x3⟩
/-- a part of two operands -/
theorem binNode {s pl : Int32} {g : Den → Den → Den} {f f1 f2 : Bool} {k1 k2 k3 nx1 : Nat} {m1 m2 : MV} {a b : Int32} (hc : CtP c τ0 V0 lo L) (hS : St c τ0 V0 lo L md nx k σ) (hop : ∀ x y nx a b σ, NI V0 lo nx f1 σ a x → NI V0 lo nx f2 σ b y → OpH V0 lo nx σ s pl a b (-1) 0 1000000 f f1 f2 x y (zV, zR) (g x y).2 ∧ oV (kK s) a 0 (hiC 1000000) (kT s (-1)) x.1 y.1 zV = (g x y).1) (l1 : nx ≤ nx1) (S1 : St c τ0 V0 lo L (nmd md m1) nx1 k1 σ1) (i1 : md = none → ∀ D, m1 = .ok D → nx1 + k ≤ nx + k1 ∧ NI V0 lo nx1 f1 σ1 a D ∧ Ext V0 lo nx σ σ1) (hs : σ2.2.2 = σ1.2.2) (hk : k1 < k2) (h3 : PO c τ0 V0 lo L f2 (nmd md m1) nx1 k2 σ2 (k3, some m2) b σ3) : Tr (FX3_add s pl a b σ3) (PO c τ0 V0 lo L f md nx k σ (k3, some (mo2 g m1 m2))) := by
  obtain ⟨nx3, l3, S3, i3⟩ := h3
  have tw := two l1 S1 i1 hs hk l3 i3
  have hk3 : k3 ≤ 400 := S3.2.1.1.1
  have H : nmd (nmd md m1) m2 = none → nx3 + 401 ≤ lo.2 + k3 ∧ OpH V0 lo nx3 σ3 s pl a b (-1) 0 1000000 f f1 f2 (vl m1) (vl m2) (zV, zR) (g (vl m1) (vl m2)).2 := by
    intro h
    obtain ⟨h1, y, e2⟩ := nmd_n h
    obtain ⟨h0, x, e1⟩ := nmd_n h1
    obtain ⟨b1, n1, n2, x3⟩ := tw h0 h1 x y e1 e2
    subst h0
    have := hS.2.2.2.2.2
    subst e1; subst e2
    exact ⟨by omega, (hop _ _ _ _ _ _ n1 n2).1⟩
  obtain ⟨r, σ', e, n1, n2, nx4, l4, M4, i4⟩ := cF0 (kb := k3) (b := b) hc S3.1 S3.2.1 S3.2.2 hk3 H
  refine ⟨r, σ', e, nx4, by omega, ⟨n1, n2, by rw [nmd_mo2]; exact M4⟩, fun h0 D hD => ?_⟩
  obtain ⟨x, y, e1, e2, eD⟩ := mo2_ok hD
  subst h0; subst e1; subst e2; subst eD
  obtain ⟨b1, q1, q2, x3⟩ := tw rfl rfl x y rfl rfl
  obtain ⟨z1, z2, z3⟩ := i4 rfl
  have ev := (hop x y nx3 a b σ3 q1 q2).2
  refine ⟨by omega, ?_, x3.trans (by omega) z3⟩
  have : ((oV (kK s) a 0 (hiC 1000000) (kT s (-1)) x.1 y.1 zV, (g x y).2) : Den) = g x y := by rw [ev]
  rw [← this]
  exact z2
theorem kd21 {s : Int32} {q : Prop} (h : kK s ≠ 21) : kK s = 21 → q := fun e => absurd e h
theorem opAnd {pl : Int32} : ∀ x y nx a b σ, NI V0 lo nx true σ a x → NI V0 lo nx true σ b y → OpH V0 lo nx σ 12 pl a b (-1) 0 1000000 true true true x y (zV, zR) (dAnd x y).2 ∧ oV (kK 12) a 0 (hiC 1000000) (kT 12 (-1)) x.1 y.1 zV = (dAnd x y).1 := by
  intro x y nx a b σ h1 h2
  refine ⟨⟨by decide, bdF_0, fun _ => h1, fun _ => h2, fun h => absurd h (by decide), kd21 (by decide), fun _ A ra rb u1 u2 => by
    rw [show kK 12 = 11 by decide, show hiC 1000000 = -1 by decide] at *
    show _ = oR 11 0 (-1) 0 x.1 x.2 y.2
    exact oR_congr2 (fun h => absurd h (by decide)) (fun h => absurd rfl h.2.1) (fun _ => (u1 (by decide)).1) (fun _ => (u1 (by decide)).2 rfl) (fun _ => u2 (by decide) rfl)⟩, ?_⟩
  rw [show kK 12 = 11 by decide, show hiC 1000000 = -1 by decide]
  show _ = oV 11 0 0 (-1) 0 x.1 y.1 zV
  refine oV_congr (by decide) (fun h => absurd h (by decide)) (fun h => absurd h (by decide)) (fun h => absurd h (by decide)) (fun _ => rfl) (fun _ => rfl) (fun _ => rfl)
theorem opAndV {pl : Int32} : ∀ x y nx a b σ, NI V0 lo nx false σ a x → NI V0 lo nx true σ b y → OpH V0 lo nx σ 12 pl a b (-1) 0 1000000 false false true x y (zV, zR) (dAndV x y).2 ∧ oV (kK 12) a 0 (hiC 1000000) (kT 12 (-1)) x.1 y.1 zV = (dAndV x y).1 := by
  intro x y nx a b σ h1 h2
  refine ⟨⟨by decide, bdF_0, fun _ => h1, fun _ => h2, fun h => absurd h (by decide), kd21 (by decide), fun h => by cases h⟩, ?_⟩
  rw [show kK 12 = 11 by decide, show hiC 1000000 = -1 by decide]
  show _ = oV 11 0 0 (-1) 0 x.1 y.1 zV
  refine oV_congr (by decide) (fun h => absurd h (by decide)) (fun h => absurd h (by decide)) (fun h => absurd h (by decide)) (fun _ => rfl) (fun _ => rfl) (fun _ => rfl)
theorem opOr {pl : Int32} : ∀ x y nx a b σ, NI V0 lo nx true σ a x → NI V0 lo nx true σ b y → OpH V0 lo nx σ 13 pl a b (-1) 0 1000000 true true true x y (zV, zR) (dOr x y).2 ∧ oV (kK 13) a 0 (hiC 1000000) (kT 13 (-1)) x.1 y.1 zV = (dOr x y).1 := by
  intro x y nx a b σ h1 h2
  refine ⟨⟨by decide, bdF_0, fun _ => h1, fun _ => h2, fun h => absurd h (by decide), kd21 (by decide), fun _ A ra rb u1 u2 => by
    rw [show kK 13 = 12 by decide, show hiC 1000000 = -1 by decide] at *
    show _ = oR 12 0 (-1) 0 zV zR y.2
    exact oR_congr2 (fun h => absurd h (by decide)) (fun h => absurd rfl h.2.2.1) (fun h => absurd h (by decide)) (fun h => absurd h (by decide)) (fun _ => u2 (by decide) rfl)⟩, ?_⟩
  rw [show kK 13 = 12 by decide, show hiC 1000000 = -1 by decide]
  show _ = oV 12 0 0 (-1) 0 x.1 y.1 zV
  refine oV_congr (by decide) (fun h => absurd h (by decide)) (fun h => absurd h (by decide)) (fun h => absurd h (by decide)) (fun _ => rfl) (fun _ => rfl) (fun _ => rfl)
theorem opImp {pl : Int32} : ∀ x y nx a b σ, NI V0 lo nx false σ a x → NI V0 lo nx true σ b y → OpH V0 lo nx σ 14 pl a b (-1) 0 1000000 true false true x y (zV, zR) (dImp x y).2 ∧ oV (kK 14) a 0 (hiC 1000000) (kT 14 (-1)) x.1 y.1 zV = (dImp x y).1 := by
  intro x y nx a b σ h1 h2
  refine ⟨⟨by decide, bdF_0, fun _ => h1, fun _ => h2, fun h => absurd h (by decide), kd21 (by decide), fun _ A ra rb u1 u2 => by
    rw [show kK 14 = 13 by decide] at *
    rw [oR_13]; exact u2 (by decide) rfl⟩, ?_⟩
  rw [show kK 14 = 13 by decide, show hiC 1000000 = -1 by decide]
  show _ = oV 13 0 0 (-1) 0 x.1 y.1 zV
  refine oV_congr (by decide) (fun h => absurd h (by decide)) (fun h => absurd h (by decide)) (fun h => absurd h (by decide)) (fun _ => rfl) (fun _ => rfl) (fun _ => rfl)
theorem opCmp44 {pl : Int32} : ∀ x y nx a b σ, NI V0 lo nx false σ a x → NI V0 lo nx false σ b y → OpH V0 lo nx σ 44 pl a b (-1) 0 1000000 true false false x y (zV, zR) (dCmp 44 pl x y).2 ∧ oV (kK 44) a 0 (hiC 1000000) (kT 44 (-1)) x.1 y.1 zV = (dCmp 44 pl x y).1 := by
  intro x y nx a b σ h1 h2
  refine ⟨⟨by decide, bdF_0, fun _ => h1, fun _ => h2, fun h => absurd h (by decide), kd21 (by decide), fun _ A ra rb u1 u2 => by
    rw [show kK 44 = 9 by decide, show hiC 1000000 = -1 by decide] at *
    show _ = oR 9 0 (-1) pl zV zR zR
    exact oR_congr2 (fun h => absurd h (by decide)) (fun _ => rfl) (fun h => absurd h (by decide)) (fun h => absurd h (by decide)) (fun h => absurd h (by decide))⟩, ?_⟩
  rw [show kK 44 = 9 by decide, show hiC 1000000 = -1 by decide]
  show _ = oV 9 0 0 (-1) (44 - 44) x.1 y.1 zV
  refine oV_congr (by decide) (fun h => absurd h (by decide)) (fun h => absurd h (by decide)) (fun h => by decide) (fun _ => rfl) (fun _ => rfl) (fun _ => rfl)
theorem opCmp45 {pl : Int32} : ∀ x y nx a b σ, NI V0 lo nx false σ a x → NI V0 lo nx false σ b y → OpH V0 lo nx σ 45 pl a b (-1) 0 1000000 true false false x y (zV, zR) (dCmp 45 pl x y).2 ∧ oV (kK 45) a 0 (hiC 1000000) (kT 45 (-1)) x.1 y.1 zV = (dCmp 45 pl x y).1 := by
  intro x y nx a b σ h1 h2
  refine ⟨⟨by decide, bdF_0, fun _ => h1, fun _ => h2, fun h => absurd h (by decide), kd21 (by decide), fun _ A ra rb u1 u2 => by
    rw [show kK 45 = 9 by decide, show hiC 1000000 = -1 by decide] at *
    show _ = oR 9 0 (-1) pl zV zR zR
    exact oR_congr2 (fun h => absurd h (by decide)) (fun _ => rfl) (fun h => absurd h (by decide)) (fun h => absurd h (by decide)) (fun h => absurd h (by decide))⟩, ?_⟩
  rw [show kK 45 = 9 by decide, show hiC 1000000 = -1 by decide]
  show _ = oV 9 0 0 (-1) (45 - 44) x.1 y.1 zV
  refine oV_congr (by decide) (fun h => absurd h (by decide)) (fun h => absurd h (by decide)) (fun h => by decide) (fun _ => rfl) (fun _ => rfl) (fun _ => rfl)
theorem opCmp46 {pl : Int32} : ∀ x y nx a b σ, NI V0 lo nx false σ a x → NI V0 lo nx false σ b y → OpH V0 lo nx σ 46 pl a b (-1) 0 1000000 true false false x y (zV, zR) (dCmp 46 pl x y).2 ∧ oV (kK 46) a 0 (hiC 1000000) (kT 46 (-1)) x.1 y.1 zV = (dCmp 46 pl x y).1 := by
  intro x y nx a b σ h1 h2
  refine ⟨⟨by decide, bdF_0, fun _ => h1, fun _ => h2, fun h => absurd h (by decide), kd21 (by decide), fun _ A ra rb u1 u2 => by
    rw [show kK 46 = 9 by decide, show hiC 1000000 = -1 by decide] at *
    show _ = oR 9 0 (-1) pl zV zR zR
    exact oR_congr2 (fun h => absurd h (by decide)) (fun _ => rfl) (fun h => absurd h (by decide)) (fun h => absurd h (by decide)) (fun h => absurd h (by decide))⟩, ?_⟩
  rw [show kK 46 = 9 by decide, show hiC 1000000 = -1 by decide]
  show _ = oV 9 0 0 (-1) (46 - 44) x.1 y.1 zV
  refine oV_congr (by decide) (fun h => absurd h (by decide)) (fun h => absurd h (by decide)) (fun h => by decide) (fun _ => rfl) (fun _ => rfl) (fun _ => rfl)
theorem opCmp47 {pl : Int32} : ∀ x y nx a b σ, NI V0 lo nx false σ a x → NI V0 lo nx false σ b y → OpH V0 lo nx σ 47 pl a b (-1) 0 1000000 true false false x y (zV, zR) (dCmp 47 pl x y).2 ∧ oV (kK 47) a 0 (hiC 1000000) (kT 47 (-1)) x.1 y.1 zV = (dCmp 47 pl x y).1 := by
  intro x y nx a b σ h1 h2
  refine ⟨⟨by decide, bdF_0, fun _ => h1, fun _ => h2, fun h => absurd h (by decide), kd21 (by decide), fun _ A ra rb u1 u2 => by
    rw [show kK 47 = 9 by decide, show hiC 1000000 = -1 by decide] at *
    show _ = oR 9 0 (-1) pl zV zR zR
    exact oR_congr2 (fun h => absurd h (by decide)) (fun _ => rfl) (fun h => absurd h (by decide)) (fun h => absurd h (by decide)) (fun h => absurd h (by decide))⟩, ?_⟩
  rw [show kK 47 = 9 by decide, show hiC 1000000 = -1 by decide]
  show _ = oV 9 0 0 (-1) (47 - 44) x.1 y.1 zV
  refine oV_congr (by decide) (fun h => absurd h (by decide)) (fun h => absurd h (by decide)) (fun h => by decide) (fun _ => rfl) (fun _ => rfl) (fun _ => rfl)
theorem opCmp48 {pl : Int32} : ∀ x y nx a b σ, NI V0 lo nx false σ a x → NI V0 lo nx false σ b y → OpH V0 lo nx σ 48 pl a b (-1) 0 1000000 true false false x y (zV, zR) (dCmp 48 pl x y).2 ∧ oV (kK 48) a 0 (hiC 1000000) (kT 48 (-1)) x.1 y.1 zV = (dCmp 48 pl x y).1 := by
  intro x y nx a b σ h1 h2
  refine ⟨⟨by decide, bdF_0, fun _ => h1, fun _ => h2, fun h => absurd h (by decide), kd21 (by decide), fun _ A ra rb u1 u2 => by
    rw [show kK 48 = 9 by decide, show hiC 1000000 = -1 by decide] at *
    show _ = oR 9 0 (-1) pl zV zR zR
    exact oR_congr2 (fun h => absurd h (by decide)) (fun _ => rfl) (fun h => absurd h (by decide)) (fun h => absurd h (by decide)) (fun h => absurd h (by decide))⟩, ?_⟩
  rw [show kK 48 = 9 by decide, show hiC 1000000 = -1 by decide]
  show _ = oV 9 0 0 (-1) (48 - 44) x.1 y.1 zV
  refine oV_congr (by decide) (fun h => absurd h (by decide)) (fun h => absurd h (by decide)) (fun h => by decide) (fun _ => rfl) (fun _ => rfl) (fun _ => rfl)
theorem opCmp49 {pl : Int32} : ∀ x y nx a b σ, NI V0 lo nx false σ a x → NI V0 lo nx false σ b y → OpH V0 lo nx σ 49 pl a b (-1) 0 1000000 true false false x y (zV, zR) (dCmp 49 pl x y).2 ∧ oV (kK 49) a 0 (hiC 1000000) (kT 49 (-1)) x.1 y.1 zV = (dCmp 49 pl x y).1 := by
  intro x y nx a b σ h1 h2
  refine ⟨⟨by decide, bdF_0, fun _ => h1, fun _ => h2, fun h => absurd h (by decide), kd21 (by decide), fun _ A ra rb u1 u2 => by
    rw [show kK 49 = 9 by decide, show hiC 1000000 = -1 by decide] at *
    show _ = oR 9 0 (-1) pl zV zR zR
    exact oR_congr2 (fun h => absurd h (by decide)) (fun _ => rfl) (fun h => absurd h (by decide)) (fun h => absurd h (by decide)) (fun h => absurd h (by decide))⟩, ?_⟩
  rw [show kK 49 = 9 by decide, show hiC 1000000 = -1 by decide]
  show _ = oV 9 0 0 (-1) (49 - 44) x.1 y.1 zV
  refine oV_congr (by decide) (fun h => absurd h (by decide)) (fun h => absurd h (by decide)) (fun h => by decide) (fun _ => rfl) (fun _ => rfl) (fun _ => rfl)
theorem opBin39 {pl : Int32} : ∀ x y nx a b σ, NI V0 lo nx false σ a x → NI V0 lo nx false σ b y → OpH V0 lo nx σ 39 pl a b (-1) 0 1000000 false false false x y (zV, zR) (dBin 39 x y).2 ∧ oV (kK 39) a 0 (hiC 1000000) (kT 39 (-1)) x.1 y.1 zV = (dBin 39 x y).1 := by
  intro x y nx a b σ h1 h2
  refine ⟨⟨by decide, bdF_0, fun _ => h1, fun _ => h2, fun h => absurd h (by decide), kd21 (by decide), fun h => by cases h⟩, ?_⟩
  rw [show kK 39 = 34 by decide, show hiC 1000000 = -1 by decide]
  show _ = oV 34 0 0 (-1) (39 - 39) x.1 y.1 zV
  refine oV_congr (by decide) (fun h => absurd h (by decide)) (fun h => absurd h (by decide)) (fun h => by decide) (fun _ => rfl) (fun _ => rfl) (fun _ => rfl)
theorem opBin40 {pl : Int32} : ∀ x y nx a b σ, NI V0 lo nx false σ a x → NI V0 lo nx false σ b y → OpH V0 lo nx σ 40 pl a b (-1) 0 1000000 false false false x y (zV, zR) (dBin 40 x y).2 ∧ oV (kK 40) a 0 (hiC 1000000) (kT 40 (-1)) x.1 y.1 zV = (dBin 40 x y).1 := by
  intro x y nx a b σ h1 h2
  refine ⟨⟨by decide, bdF_0, fun _ => h1, fun _ => h2, fun h => absurd h (by decide), kd21 (by decide), fun h => by cases h⟩, ?_⟩
  rw [show kK 40 = 34 by decide, show hiC 1000000 = -1 by decide]
  show _ = oV 34 0 0 (-1) (40 - 39) x.1 y.1 zV
  refine oV_congr (by decide) (fun h => absurd h (by decide)) (fun h => absurd h (by decide)) (fun h => by decide) (fun _ => rfl) (fun _ => rfl) (fun _ => rfl)
theorem opBin41 {pl : Int32} : ∀ x y nx a b σ, NI V0 lo nx false σ a x → NI V0 lo nx false σ b y → OpH V0 lo nx σ 41 pl a b (-1) 0 1000000 false false false x y (zV, zR) (dBin 41 x y).2 ∧ oV (kK 41) a 0 (hiC 1000000) (kT 41 (-1)) x.1 y.1 zV = (dBin 41 x y).1 := by
  intro x y nx a b σ h1 h2
  refine ⟨⟨by decide, bdF_0, fun _ => h1, fun _ => h2, fun h => absurd h (by decide), kd21 (by decide), fun h => by cases h⟩, ?_⟩
  rw [show kK 41 = 34 by decide, show hiC 1000000 = -1 by decide]
  show _ = oV 34 0 0 (-1) (41 - 39) x.1 y.1 zV
  refine oV_congr (by decide) (fun h => absurd h (by decide)) (fun h => absurd h (by decide)) (fun h => by decide) (fun _ => rfl) (fun _ => rfl) (fun _ => rfl)
theorem opBin42 {pl : Int32} : ∀ x y nx a b σ, NI V0 lo nx false σ a x → NI V0 lo nx false σ b y → OpH V0 lo nx σ 42 pl a b (-1) 0 1000000 false false false x y (zV, zR) (dBin 42 x y).2 ∧ oV (kK 42) a 0 (hiC 1000000) (kT 42 (-1)) x.1 y.1 zV = (dBin 42 x y).1 := by
  intro x y nx a b σ h1 h2
  refine ⟨⟨by decide, bdF_0, fun _ => h1, fun _ => h2, fun h => absurd h (by decide), kd21 (by decide), fun h => by cases h⟩, ?_⟩
  rw [show kK 42 = 34 by decide, show hiC 1000000 = -1 by decide]
  show _ = oV 34 0 0 (-1) (42 - 39) x.1 y.1 zV
  refine oV_congr (by decide) (fun h => absurd h (by decide)) (fun h => absurd h (by decide)) (fun h => by decide) (fun _ => rfl) (fun _ => rfl) (fun _ => rfl)
theorem opBin43 {pl : Int32} : ∀ x y nx a b σ, NI V0 lo nx false σ a x → NI V0 lo nx false σ b y → OpH V0 lo nx σ 43 pl a b (-1) 0 1000000 false false false x y (zV, zR) (dBin 43 x y).2 ∧ oV (kK 43) a 0 (hiC 1000000) (kT 43 (-1)) x.1 y.1 zV = (dBin 43 x y).1 := by
  intro x y nx a b σ h1 h2
  refine ⟨⟨by decide, bdF_0, fun _ => h1, fun _ => h2, fun h => absurd h (by decide), kd21 (by decide), fun h => by cases h⟩, ?_⟩
  rw [show kK 43 = 34 by decide, show hiC 1000000 = -1 by decide]
  show _ = oV 34 0 0 (-1) (43 - 39) x.1 y.1 zV
  refine oV_congr (by decide) (fun h => absurd h (by decide)) (fun h => absurd h (by decide)) (fun h => by decide) (fun _ => rfl) (fun _ => rfl) (fun _ => rfl)
theorem opAt {pl : Int32} : ∀ x y nx a b σ, NI V0 lo nx true σ a x → NI V0 lo nx false σ b y → OpH V0 lo nx σ 26 pl a b (-1) 0 1000000 false true false x y (zV, zR) (dAt x y).2 ∧ oV (kK 26) a 0 (hiC 1000000) (kT 26 (-1)) x.1 y.1 zV = (dAt x y).1 := by
  intro x y nx a b σ h1 h2
  refine ⟨⟨by decide, bdF_0, fun _ => h1, fun _ => h2, fun h => absurd h (by decide), kd21 (by decide), fun h => by cases h⟩, ?_⟩
  rw [show kK 26 = 32 by decide, show hiC 1000000 = -1 by decide]
  show _ = oV 32 0 0 (-1) 0 x.1 y.1 zV
  refine oV_congr (by decide) (fun h => absurd h (by decide)) (fun h => absurd h (by decide)) (fun h => absurd h (by decide)) (fun _ => rfl) (fun _ => rfl) (fun _ => rfl)
theorem eitherL {d z D : Nat} {st : Int32} (hc : CtP c τ0 V0 lo L) (ih : CXs c τ0 V0 lo L d 8 2 9 true) (hD : D ≤ 10) (hz : 16 * (10 - D) + 9 + 12 ≤ z) (hS : St c τ0 V0 lo L md nx k σ) : ∀ (n kc i nf : Nat) (acc : MV) (x3 : Int32) (σc : CS) (r : Rs), i + n = 400 → n < nf → PO c τ0 V0 lo L true md nx k σ (kc, some acc) x3 σc → pRowL c (spX c d) 8 13 dOr D n kc acc = some r → Tr (FX4_either_14 (FSC4 L z) L nf (nI D) st x3 (nI i) σc) (PO c τ0 V0 lo L true md nx k σ r)
  | 0, _, _, _, _, _, _, _, _, _, _, hr => by cases hr
  | n+1, kc, i, nf, acc, x3, σc, r, hi, hf, hP, hr => by
    obtain ⟨nf, rfl⟩ : ∃ z, nf = z + 1 := ⟨nf - 1, by omega⟩
    obtain ⟨nx1, l1, S1, i1⟩ := id hP
    have hs := S1.2.1.2.2.2.1
    rw [pRowL] at hr
    rw [FX4_either_14, if_neg (by rw [show (400 : Int32) = nI 400 from rfl, nI_leI (by omega) (by omega)]; omega), hs]
    by_cases e : tS c.1 kc = 13
    · have e0 := (tS_lit e (by decide) (by decide)).1
      rw [if_pos e]
      rw [if_pos e0] at hr
      obtain ⟨σ2, e2, S2, ch2⟩ := adv hc S1 e (by decide) (by decide)
      rw [e2, b2r]
      have hr : rb (spX c d 8 D (kc + 1)) (fun k3 b => pRowL c (spX c d) 8 13 dOr D n k3 (mo2 dOr acc b)) = some r := by
        rcases goI (s := 13) (by decide) e0 hr with ⟨-, hr⟩ | ⟨e9, -⟩
        · exact hr
        · rw [e] at e9; exact absurd e9 (by decide)
      obtain ⟨b, σ3, e3, q⟩ := callX ih hD hz S2 hr
      rw [e3, b2r]
      rcases q with ⟨k', q, er⟩ | ⟨k3, m, hk3, hr, q⟩
      · subst er
        refine (badAdd hc.2.1 hc.2.2.2.2.1 q).bind (fun r4 σ4 q4 => ?_)
        obtain ⟨nf, rfl⟩ : ∃ z, nf = z + 1 := ⟨nf - 1, by omega⟩
        exact badEitherL q4.1
      · refine (binNode hc hS opOr l1 S1 i1 ch2.2.2 (by omega) q).bind (fun r4 σ4 q4 => ?_)
        rw [← nI_succ]
        exact eitherL hc ih hD hz hS n k3 (i + 1) nf _ r4 σ4 r (by omega) (by omega) q4 hr
    · rw [if_neg e]
      refine Tr.ret ?_
      by_cases e0 : c.1 kc = 13
      · rw [if_pos e0] at hr
        rcases goI (s := 13) (by decide) e0 hr with ⟨e9, -⟩ | ⟨e9, er⟩
        · exact absurd e9 e
        · subst er
          exact ⟨S1.1, S1.2.1.bad e9⟩
      · rw [if_neg e0] at hr
        have er := (Option.some.inj hr).symm
        subst er
        exact hP
theorem ceither {d : Nat} (hc : CtP c τ0 V0 lo L) (ih : ClsOK c τ0 V0 lo L d) : CXs c τ0 V0 lo L (d + 1) 1 1 10 true := by
  intro D k nx md σ d2 hD hd hS r hr
  have hL := hc.2.2.2.1
  by_cases hu : tS c.1 k = 54
  · exact uncl hS hu (fun p h => badEither (by omega) (by omega) h) hr
  obtain ⟨z, rfl⟩ : ∃ z, d2 = z + 1 := ⟨d2 - 1, by omega⟩
  have hr : pRow1 c (spX c d) D k = some r := hr
  show Tr (FX4_either (FSC4 L z) L (nI D) σ) _
  rw [FX4_either]
  rw [pRow1] at hr
  obtain ⟨b, σ3, e3, q⟩ := callX ih.2.2.1 hD (show _ ≤ z by omega) hS hr
  rw [e3, b2r]
  rcases q with ⟨k', q, er⟩ | ⟨k3, m, hk3, hr, q⟩
  · subst er
    obtain ⟨L, rfl⟩ : ∃ z, L = z + 1 := ⟨L - 1, by omega⟩
    exact badEitherL q
  · exact eitherL hc ih.2.2.1 hD (by omega) hS 400 k3 0 L m b σ3 r (by omega) (by omega) q hr
theorem bothL {d z D : Nat} {st : Int32} (hc : CtP c τ0 V0 lo L) (ih : CXs c τ0 V0 lo L d 2 3 8 true) (hD : D ≤ 10) (hz : 16 * (10 - D) + 8 + 12 ≤ z) (hS : St c τ0 V0 lo L md nx k σ) : ∀ (n kc i nf : Nat) (acc : MV) (x3 : Int32) (σc : CS) (r : Rs), i + n = 400 → n < nf → PO c τ0 V0 lo L true md nx k σ (kc, some acc) x3 σc → pRowL c (spX c d) 2 12 dAnd D n kc acc = some r → Tr (FX4_both_14 (FSC4 L z) L nf (nI D) st x3 (nI i) σc) (PO c τ0 V0 lo L true md nx k σ r)
  | 0, _, _, _, _, _, _, _, _, _, _, hr => by cases hr
  | n+1, kc, i, nf, acc, x3, σc, r, hi, hf, hP, hr => by
    obtain ⟨nf, rfl⟩ : ∃ z, nf = z + 1 := ⟨nf - 1, by omega⟩
    obtain ⟨nx1, l1, S1, i1⟩ := id hP
    have hs := S1.2.1.2.2.2.1
    rw [pRowL] at hr
    rw [FX4_both_14, if_neg (by rw [show (400 : Int32) = nI 400 from rfl, nI_leI (by omega) (by omega)]; omega), hs]
    by_cases e : tS c.1 kc = 12
    · have e0 := (tS_lit e (by decide) (by decide)).1
      rw [if_pos e]
      rw [if_pos e0] at hr
      obtain ⟨σ2, e2, S2, ch2⟩ := adv hc S1 e (by decide) (by decide)
      rw [e2, b2r]
      have hr : rb (spX c d 2 D (kc + 1)) (fun k3 b => pRowL c (spX c d) 2 12 dAnd D n k3 (mo2 dAnd acc b)) = some r := by
        rcases goI (s := 12) (by decide) e0 hr with ⟨-, hr⟩ | ⟨e9, -⟩
        · exact hr
        · rw [e] at e9; exact absurd e9 (by decide)
      obtain ⟨b, σ3, e3, q⟩ := callX ih hD hz S2 hr
      rw [e3, b2r]
      rcases q with ⟨k', q, er⟩ | ⟨k3, m, hk3, hr, q⟩
      · subst er
        refine (badAdd hc.2.1 hc.2.2.2.2.1 q).bind (fun r4 σ4 q4 => ?_)
        obtain ⟨nf, rfl⟩ : ∃ z, nf = z + 1 := ⟨nf - 1, by omega⟩
        exact badBothL q4.1
      · refine (binNode hc hS opAnd l1 S1 i1 ch2.2.2 (by omega) q).bind (fun r4 σ4 q4 => ?_)
        rw [← nI_succ]
        exact bothL hc ih hD hz hS n k3 (i + 1) nf _ r4 σ4 r (by omega) (by omega) q4 hr
    · rw [if_neg e]
      refine Tr.ret ?_
      by_cases e0 : c.1 kc = 12
      · rw [if_pos e0] at hr
        rcases goI (s := 12) (by decide) e0 hr with ⟨e9, -⟩ | ⟨e9, er⟩
        · exact absurd e9 e
        · subst er
          exact ⟨S1.1, S1.2.1.bad e9⟩
      · rw [if_neg e0] at hr
        have er := (Option.some.inj hr).symm
        subst er
        exact hP
theorem cboth {d : Nat} (hc : CtP c τ0 V0 lo L) (ih : ClsOK c τ0 V0 lo L d) : CXs c τ0 V0 lo L (d + 1) 8 2 9 true := by
  intro D k nx md σ d2 hD hd hS r hr
  have hL := hc.2.2.2.1
  by_cases hu : tS c.1 k = 54
  · exact uncl hS hu (fun p h => badBoth (by omega) (by omega) h) hr
  obtain ⟨z, rfl⟩ : ∃ z, d2 = z + 1 := ⟨d2 - 1, by omega⟩
  have hr : pRow8 c (spX c d) D k = some r := hr
  show Tr (FX4_both (FSC4 L z) L (nI D) σ) _
  rw [FX4_both]
  rw [pRow8] at hr
  obtain ⟨b, σ3, e3, q⟩ := callX ih.2.2.2.1 hD (show _ ≤ z by omega) hS hr
  rw [e3, b2r]
  rcases q with ⟨k', q, er⟩ | ⟨k3, m, hk3, hr, q⟩
  · subst er
    obtain ⟨L, rfl⟩ : ∃ z, L = z + 1 := ⟨L - 1, by omega⟩
    exact badBothL q
  · exact bothL hc ih.2.2.2.1 hD (by omega) hS 400 k3 0 L m b σ3 r (by omega) (by omega) q hr
theorem formulaL {d0 z D : Nat} {st : Int32} (hc : CtP c τ0 V0 lo L) (ih : ∀ e, e ≤ d0 → CXs c τ0 V0 lo L e 1 1 10 true) (hD : D ≤ 10) (hz : 16 * (10 - D) + 10 + 12 ≤ z) (hS : St c τ0 V0 lo L md nx k σ) : ∀ (d kc i nf : Nat) (acc : MV) (x3 : Int32) (σc : CS) (r : Rs), d ≤ d0 + 1 → i ≤ kc → 402 ≤ nf + kc → PO c τ0 V0 lo L false md nx k σ (kc, some acc) x3 σc → tS c.1 kc = 14 → (rb (spX c d 0 D (kc + 1)) fun k3 b => some (k3, some (mo2 dImp acc b))) = some r → Tr (FX4_formula_14 (FSC4 L z) L nf (nI D) st x3 (nI i) σc) (PO c τ0 V0 lo L true md nx k σ r)
  | 0, _, _, _, _, _, _, _, _, _, _, _, _, hr => by cases hr
  | d+1, kc, i, nf, acc, x3, σc, r, hd, hi, hf, hP, e, hr => by
    obtain ⟨nx1, l1, S1, i1⟩ := id hP
    have hs := S1.2.1.2.2.2.1
    obtain ⟨e0, ek⟩ := tS_lit e (by decide) (by decide)
    have hk4 := S1.2.1.1.1
    obtain ⟨nf, rfl⟩ : ∃ z, nf = z + 1 := ⟨nf - 1, by omega⟩
    rw [FX4_formula_14, if_neg (by rw [show (400 : Int32) = nI 400 from rfl, nI_leI (by omega) (by omega)]; omega), hs, if_pos e]
    obtain ⟨σ2, e2, S2, ch2⟩ := adv hc S1 e (by decide) (by decide)
    rw [e2, b2r]
    have hr : rb (pFormula c (spX c d) D (kc + 1)) (fun k3 b => some (k3, some (mo2 dImp acc b))) = some r := hr
    rw [pFormula, rb_rb] at hr
    obtain ⟨b, σ3, e3, q⟩ := callX (ih d (by omega)) hD hz S2 hr
    rw [e3, b2r]
    rcases q with ⟨k', q, er⟩ | ⟨k3, m, hk3, hr, q⟩
    · subst er
      rw [if_neg (by rw [q.2.1]; decide), FX4_formula_62]
      refine (badAdd hc.2.1 hc.2.2.2.2.1 q).bind (fun r4 σ4 q4 => ?_)
      obtain ⟨nf, rfl⟩ : ∃ z, nf = z + 1 := ⟨nf - 1, by omega⟩
      exact badFormulaL q4.1
    · obtain ⟨nx3, l3, S3, i3⟩ := id q
      rw [S3.2.1.2.2.2.1]
      have hk5 := S3.2.1.1.1
      have hr : rb (if c.1 k3 = 14 then go k3 (fun k2 => rb (spX c d 0 D k2) fun k3 b => some (k3, some (mo2 dImp m b))) else some (k3, some m)) (fun k3 b => some (k3, some (mo2 dImp acc b))) = some r := hr
      by_cases e4 : tS c.1 k3 = 14
      · obtain ⟨e40, ek4⟩ := tS_lit e4 (by decide) (by decide)
        rw [if_pos e4, FX4_formula_62]
        refine (binNode hc hS opAndV l1 S1 i1 ch2.2.2 (by omega) q).bind (fun r4 σ4 q4 => ?_)
        rw [← nI_succ]
        refine formulaL hc ih hD hz hS d k3 (i + 1) nf _ r4 σ4 r (by omega) (by omega) (by omega) q4 e4 ?_
        rw [if_pos e40, go, if_neg ek4, rb_rb] at hr
        rw [← hr]
        congr 1
        funext k5 b5
        show _ = some (k5, some (mo2 dImp acc (mo2 dImp m b5)))
        rw [mo_imp]
      · rw [if_neg e4, FX4_formula_62]
        refine (binNode hc hS opImp l1 S1 i1 ch2.2.2 (by omega) q).bind (fun r4 σ4 q4 => ?_)
        obtain ⟨nf, rfl⟩ : ∃ z, nf = z + 1 := ⟨nf - 1, by omega⟩
        obtain ⟨nx5, l5, S5, i5⟩ := id q4
        have ex9 : FX4_formula_14 (FSC4 L z) L (nf + 1) (nI D) st r4 (nI i + 1) σ4 = some (r4, σ4) := by
          rw [FX4_formula_14, S5.2.1.2.2.2.1, if_neg e4]
          split <;> rfl
        rw [ex9]
        refine Tr.ret ?_
        by_cases e40 : c.1 k3 = 14
        · rw [if_pos e40] at hr
          have e400 : k3 = 400 := tS_no e4 e40
          rw [go_un e400] at hr
          have er := (Option.some.inj hr).symm
          subst er
          exact ⟨S5.1, S5.2.1.bad (tS_400 e400 (by rw [e40]; decide))⟩
        · rw [if_neg e40] at hr
          have er := (Option.some.inj hr).symm
          subst er
          exact q4
theorem cFormula {d : Nat} (hc : CtP c τ0 V0 lo L) (ih : ∀ e, e ≤ d → ClsOK c τ0 V0 lo L e) : CXs c τ0 V0 lo L (d + 1) 0 0 11 true := by
  intro D k nx md σ d2 hD hd hS r hr
  have hL := hc.2.2.2.1
  by_cases hu : tS c.1 k = 54
  · exact uncl hS hu (fun p h => badFormula (by omega) (by omega) h) hr
  obtain ⟨z, rfl⟩ : ∃ z, d2 = z + 1 := ⟨d2 - 1, by omega⟩
  have hr : pFormula c (spX c d) D k = some r := hr
  show Tr (FX4_formula (FSC4 L z) L (nI D) σ) _
  rw [FX4_formula]
  rw [pFormula] at hr
  obtain ⟨b, σ3, e3, q⟩ := callX (ih d (Nat.le_refl _)).2.1 hD (show _ ≤ z by omega) hS hr
  rw [e3, b2r]
  obtain ⟨Lp, hLp⟩ : ∃ z, L = z + 1 := ⟨L - 1, by omega⟩
  rcases q with ⟨k', q, er⟩ | ⟨k3, m, hk3, hr, q⟩
  · subst er
    subst hLp
    exact badFormulaL q
  · obtain ⟨nx3, l3, S3, i3⟩ := id q
    have hk5 := S3.2.1.1.1
    have hr : (if c.1 k3 = 14 then go k3 (fun k2 => rb (spX c d 0 D k2) fun k3 b => some (k3, some (mo2 dImp m b))) else some (k3, some m)) = some r := hr
    by_cases e4 : tS c.1 k3 = 14
    · obtain ⟨e40, ek4⟩ := tS_lit e4 (by decide) (by decide)
      rw [if_pos e40, go, if_neg ek4] at hr
      exact formulaL hc (fun e he => (ih e he).2.1) hD (by omega) hS d k3 0 L m b σ3 r (by omega) (by omega) (by omega) (PO_weak q) e4 hr
    · have ex9 : FX4_formula_14 (FSC4 L z) L L (nI D) (σ.1 4305) b 0 σ3 = some (b, σ3) := by
        rw [hLp, FX4_formula_14, S3.2.1.2.2.2.1, if_neg e4]
        split <;> rfl
      rw [ex9]
      refine Tr.ret ?_
      by_cases e40 : c.1 k3 = 14
      · rw [if_pos e40] at hr
        have e400 : k3 = 400 := tS_no e4 e40
        rw [go_un e400] at hr
        have er := (Option.some.inj hr).symm
        subst er
        exact ⟨S3.1, S3.2.1.bad (tS_400 e400 (by rw [e40]; decide))⟩
      · rw [if_neg e40] at hr
        have er := (Option.some.inj hr).symm
        subst er
        exact q
end CM
