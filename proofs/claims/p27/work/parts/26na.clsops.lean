-- what a piece of the class's parser leaves
def nmd (md : Option En) (m : MV) : Option En := match md with
  | some e => some e
  | none => match m with
    | .error e => some e
    | .ok _ => none
def nmdB (md : Option En) (m : Except En (Int32 × Int32)) : Option En := match md with
  | some e => some e
  | none => match m with
    | .error e => some e
    | .ok _ => none
def nmdE (md : Option En) (x : En) : Option En := match md with
  | some e => some e
  | none => some x
theorem nmd_mo1 {md : Option En} {g : Den → Den} {a : MV} : nmd md (mo1 g a) = nmd md a := by cases md <;> cases a <;> rfl
theorem nmd_mo2 {md : Option En} {g : Den → Den → Den} {a b : MV} : nmd md (mo2 g a b) = nmd (nmd md a) b := by cases md <;> cases a <;> cases b <;> rfl
theorem nmd_mo3 {md : Option En} {g : Den → Den → Den → Den} {a b e : MV} : nmd md (mo3 g a b e) = nmd (nmd (nmd md a) b) e := by cases md <;> cases a <;> cases b <;> cases e <;> rfl
theorem nmd_mvB {md : Option En} {g : Int32 → Int32 → Den → Den} {b : Except En (Int32 × Int32)} {a : MV} : nmd md (mvB g b a) = nmd (nmdB md b) a := by cases md <;> cases b <;> cases a <;> rfl
theorem nmd_mvS {md : Option En} {g : Int32 → Int32 → Den → Den → Den} {b : Except En (Int32 × Int32)} {a e : MV} : nmd md (mvS g a b e) = nmd (nmdB (nmd md a) b) e := by cases md <;> cases a <;> cases b <;> cases e <;> rfl
theorem nmd_n {md : Option En} {m : MV} (h : nmd md m = none) : md = none ∧ ∃ x, m = .ok x := by
  cases md with
  | some e => cases h
  | none => cases m with
    | error e => cases h
    | ok x => exact ⟨rfl, x, rfl⟩
theorem nmdB_n {md : Option En} {m : Except En (Int32 × Int32)} (h : nmdB md m = none) : md = none ∧ ∃ x, m = .ok x := by
  cases md with
  | some e => cases h
  | none => cases m with
    | error e => cases h
    | ok x => exact ⟨rfl, x, rfl⟩
theorem mo1_ok {g : Den → Den} {a : MV} {D : Den} (h : mo1 g a = .ok D) : ∃ x, a = .ok x ∧ D = g x := by
  cases a with
  | error e => cases h
  | ok x => exact ⟨x, rfl, (Except.ok.inj h).symm⟩
theorem mo2_ok {g : Den → Den → Den} {a b : MV} {D : Den} (h : mo2 g a b = .ok D) : ∃ x y, a = .ok x ∧ b = .ok y ∧ D = g x y := by
  cases a with
  | error e => cases h
  | ok x => obtain ⟨y, h1, h2⟩ := mo1_ok h; exact ⟨x, y, rfl, h1, h2⟩
theorem mo3_ok {g : Den → Den → Den → Den} {a b e : MV} {D : Den} (h : mo3 g a b e = .ok D) : ∃ x y z, a = .ok x ∧ b = .ok y ∧ e = .ok z ∧ D = g x y z := by
  cases a with
  | error e => cases h
  | ok x => obtain ⟨y, z, h1, h2, h3⟩ := mo2_ok h; exact ⟨x, y, z, rfl, h1, h2, h3⟩
theorem mvB_ok {g : Int32 → Int32 → Den → Den} {b : Except En (Int32 × Int32)} {a : MV} {D : Den} (h : mvB g b a = .ok D) : ∃ q x, b = .ok q ∧ a = .ok x ∧ D = g q.1 q.2 x := by
  cases b with
  | error e => cases h
  | ok q => obtain ⟨x, h1, h2⟩ := mo1_ok h; exact ⟨q, x, rfl, h1, h2⟩
theorem mvS_ok {g : Int32 → Int32 → Den → Den → Den} {a : MV} {b : Except En (Int32 × Int32)} {e : MV} {D : Den} (h : mvS g a b e = .ok D) : ∃ x q y, a = .ok x ∧ b = .ok q ∧ e = .ok y ∧ D = g q.1 q.2 x y := by
  cases a with
  | error e => cases h
  | ok x => obtain ⟨q, y, h1, h2, h3⟩ := mvB_ok (g := fun lo hi => g lo hi x) h; exact ⟨x, q, y, rfl, h1, h2, h3⟩
def bdF (l h : Int32) : Prop := (h = 1000000 ∧ l = 0) ∨ ∃ x y : Nat, l = nI x ∧ h = nI y ∧ x ≤ 1000 ∧ y ≤ 1000
theorem bdF_0 : bdF 0 1000000 := Or.inl ⟨rfl, rfl⟩
def NumOK (c : Cx) : Prop := ∀ k, Rk c.1 k → c.1 k = 52 → ∃ v, v < 1000000 ∧ c.2.2.1 k = lN v
section CQ
variable {c : Cx} {τ0 σ σ1 σ2 : CS} {V0 : Nat → Prop} {lo : Nat × Nat} {L k nx kb : Nat} {md : Option En} {p : Int32}
/-- a piece has been read -/
def PO (c : Cx) (τ0 : CS) (V0 : Nat → Prop) (lo : Nat × Nat) (L : Nat) (f : Bool) (md : Option En) (nx k : Nat) (σ : CS) (r : Rs) (a : Int32) (σ' : CS) : Prop := match r with
  | (k', none) => BdS τ0 lo (c.2.1 k') σ'
  | (k', some m) => ∃ nx', nx ≤ nx' ∧ St c τ0 V0 lo L (nmd md m) nx' k' σ' ∧ (md = none → ∀ D, m = .ok D → nx' + k ≤ nx + k' ∧ NI V0 lo nx' f σ' a D ∧ Ext V0 lo nx σ σ')
theorem NI.same {f : Bool} {a : Int32} {D : Den} (h : NI V0 lo nx f σ a D) (e : σ1.2.2 = σ.2.2) : NI V0 lo nx f σ1 a D := by
  obtain ⟨q, e1, hq, h1, h2⟩ := h
  have q1 : ntC σ1 = ntC σ := by unfold ntC; rw [e]
  exact ⟨q, e1, hq, by rw [q1]; exact h1, fun hf => by rw [q1, e]; exact h2 hf⟩
theorem Ext.same (h : Ext V0 lo nx σ σ1) (e : σ2.2.2 = σ1.2.2) : Ext V0 lo nx σ σ2 := fun q hq j => by rw [e]; exact h q hq j
theorem Ext.same0 (e : σ1.2.2 = σ.2.2) : Ext V0 lo nx σ σ1 := fun q hq j => by rw [e]
theorem MD_okT (h : MD c τ0 V0 lo L none nx k σ) : okT (Vx V0 lo.1 nx) (ntC σ) := h.2.2.1.2.2.1
/-- what an operator asks of its operands -/
def OpH (V0 : Nat → Prop) (lo : Nat × Nat) (nx : Nat) (σ : CS) (s p a b t l h : Int32) (f f1 f2 : Bool) (D1 D2 D3 : Den) (R : Rz) : Prop := isK (kK s) = true ∧ bdF l h ∧ (us1 (kK s) = true → NI V0 lo nx f1 σ a D1) ∧ (us2 (kK s) = true → NI V0 lo nx f2 σ b D2) ∧ (us3 (kK s) = true → NI V0 lo nx false σ (kT s t) D3) ∧ (kK s = 21 → ∃ m, m < 8 ∧ a = nI m) ∧ (f = true → ∀ A ra rb, (us1 (kK s) = true → A = D1.1 ∧ (f1 = true → ra = D1.2)) → (us2 (kK s) = true → f2 = true → rb = D2.2) → oR (kK s) l (hiC h) p A ra rb = R)
/-- behind a new part -/
def NP (c : Cx) (τ0 : CS) (V0 : Nat → Prop) (lo : Nat × Nat) (L : Nat) (f : Bool) (md : Option En) (nx k kb : Nat) (σ : CS) (Dn : Den) (r : Int32) (σ' : CS) : Prop := Fr τ0 lo σ' ∧ Sy c k σ' ∧ ∃ nx', nx ≤ nx' ∧ MD c τ0 V0 lo L md nx' kb σ' ∧ (md = none → nx' = nx + 1 ∧ NI V0 lo nx' f σ' r Dn ∧ Ext V0 lo nx σ σ')
theorem cPost {s pl a b t l h r : Int32} {f f1 f2 : Bool} {D1 D2 D3 : Den} {R : Rz} {k0 : Nat} (hc : CtP c τ0 V0 lo L) (hF : Fr τ0 lo σ) (hS : Sy c k σ) (hM : MD c τ0 V0 lo L md nx k0 σ) (hA : Ad lo σ σ1) (hr : md = none → r = nI nx ∧ NodeS nx s pl a b t l h σ σ1) (hkb : kb ≤ 400) (H : md = none → nx + 401 ≤ lo.2 + kb ∧ OpH V0 lo nx σ s pl a b t l h f f1 f2 D1 D2 D3 R) : NP c τ0 V0 lo L f md nx k kb σ (oV (kK s) a l (hiC h) (kT s t) D1.1 D2.1 D3.1, R) r σ1 := by
  refine ⟨hF.ad hA, hS.ad hA, ?_⟩
  cases md with
  | some e =>
    refine ⟨nx, Nat.le_refl _, ⟨hM.1, ?_, ?_⟩, fun h => by cases h⟩
    · rw [hA.1 4307 (by decide)]; exact hM.2.1
    · rw [hA.1 4308 (by decide)]; exact hM.2.2
  | none =>
    obtain ⟨m1, m2, m3, m4⟩ := hM
    obtain ⟨hx, o1, o2, o3, o4, o5, o6, o7⟩ := H rfl
    obtain ⟨r1, r2⟩ := hr rfl
    obtain ⟨c1, c2, c3⟩ := mkN (f := f) hc.2.2.1 m3 hc.2.1 (show nx < lo.2 by omega) r2 o1 o2 o3 o4 o5 o6 o7
    exact ⟨nx + 1, by omega, ⟨m1, by rw [hA.1 4307 (by decide)]; exact m2, c1, hx, by rw [hA.1 4308 (by decide)]; exact m4.2⟩, fun _ => ⟨rfl, by rw [r1]; exact c3, c2⟩⟩
theorem addS {s pl a b : Int32} {k0 : Nat} (hc : CtP c τ0 V0 lo L) (hF : Fr τ0 lo σ) (hM : MD c τ0 V0 lo L md nx k0 σ) (hx : md = none → nx < lo.2) : ∃ r σ', FX3_add s pl a b σ = some (r, σ') ∧ Ad lo σ σ' ∧ (r = -1 ∨ ∃ q, r = nI q ∧ lo.1 ≤ q ∧ q < lo.2) ∧ (md = none → r = nI nx ∧ NodeS nx s pl a b (-1) 0 1000000 σ σ') := by
  have hlo := hc.2.1
  obtain ⟨n, h1, h2, h3⟩ := hF.2.2.2.2.2
  obtain ⟨r, σ', e, g1, g2, g3⟩ := cAdd (σ := σ) (s := s) (p := pl) (a := a) (b := b) hlo h1 h2 h3 (by rw [hF.1 1308 (by decide) (by decide)]; exact hc.2.2.2.2.1)
  refine ⟨r, σ', e, g1, g2, fun hm => ?_⟩
  subst hm
  have : n = nx := by
    have e1 := hM.2.2.1.1
    rw [h1, nI_eq (by omega) (by have := hx rfl; omega)] at e1
    exact e1
  subst this
  exact g3 (hx rfl)
theorem cF0 {s pl a b : Int32} {f f1 f2 : Bool} {D1 D2 D3 : Den} {R : Rz} {k0 : Nat} (hc : CtP c τ0 V0 lo L) (hF : Fr τ0 lo σ) (hS : Sy c k σ) (hM : MD c τ0 V0 lo L md nx k0 σ) (hkb : kb ≤ 400) (H : md = none → nx + 401 ≤ lo.2 + kb ∧ OpH V0 lo nx σ s pl a b (-1) 0 1000000 f f1 f2 D1 D2 D3 R) : Tr (FX3_add s pl a b σ) (NP c τ0 V0 lo L f md nx k kb σ (oV (kK s) a 0 (hiC 1000000) (kT s (-1)) D1.1 D2.1 D3.1, R)) := by
  obtain ⟨r, σ', e, g1, g2, g3⟩ := addS (s := s) (pl := pl) (a := a) (b := b) hc hF hM (fun hm => by have := (H hm).1; omega)
  exact ⟨r, σ', e, cPost hc hF hS hM g1 g3 hkb H⟩
theorem cF1 {s pl a b l h : Int32} {f f1 f2 : Bool} {D1 D2 D3 : Den} {R : Rz} {k0 : Nat} (hc : CtP c τ0 V0 lo L) (hF : Fr τ0 lo σ) (hS : Sy c k σ) (hM : MD c τ0 V0 lo L md nx k0 σ) (hkb : kb ≤ 400) (H : md = none → nx + 401 ≤ lo.2 + kb ∧ OpH V0 lo nx σ s pl a b (-1) l h f f1 f2 D1 D2 D3 R) : Tr (b2 (FX3_add s pl a b σ) fun r σ' => b2 (FX3_bound r l h σ') fun (_ : Unit) σ'' => some (r, σ'')) (NP c τ0 V0 lo L f md nx k kb σ (oV (kK s) a l (hiC h) (kT s (-1)) D1.1 D2.1 D3.1, R)) := by
  have hx : md = none → nx < lo.2 := fun hm => by have := (H hm).1; omega
  obtain ⟨r, σ', e, g1, g2, g3⟩ := addS (s := s) (pl := pl) (a := a) (b := b) hc hF hM hx
  obtain ⟨σ'', e2, k1, k2⟩ := cBound (nx := nx) (σ := σ') (l := l) (h := h) hc.2.1 g2 g1.2.2.2.2.2
  rw [e, b2r, e2, b2r]
  exact ⟨r, σ'', rfl, cPost hc hF hS hM (g1.trans k1) (fun hm => ⟨(g3 hm).1, k2 _ _ _ _ _ _ _ _ (g3 hm).1 (g3 hm).2 (hx hm)⟩) hkb H⟩
theorem cF2 {s pl a b t : Int32} {f f1 f2 : Bool} {D1 D2 D3 : Den} {R : Rz} {k0 : Nat} (hc : CtP c τ0 V0 lo L) (hF : Fr τ0 lo σ) (hS : Sy c k σ) (hM : MD c τ0 V0 lo L md nx k0 σ) (hkb : kb ≤ 400) (H : md = none → nx + 401 ≤ lo.2 + kb ∧ OpH V0 lo nx σ s pl a b t 0 1000000 f f1 f2 D1 D2 D3 R) : Tr (b2 (FX3_add s pl a b σ) fun r σ' => some (r, tA σ' 23 (putI 1200 (σ'.2.2.1 23) r t))) (NP c τ0 V0 lo L f md nx k kb σ (oV (kK s) a 0 (hiC 1000000) (kT s t) D1.1 D2.1 D3.1, R)) := by
  have hx : md = none → nx < lo.2 := fun hm => by have := (H hm).1; omega
  obtain ⟨r, σ', e, g1, g2, g3⟩ := addS (s := s) (pl := pl) (a := a) (b := b) hc hF hM hx
  obtain ⟨k1, k2⟩ := cThird (nx := nx) (σ := σ') (t := t) hc.2.1 g2 g1.2.2.2.2.2
  rw [e, b2r]
  exact ⟨r, _, rfl, cPost hc hF hS hM (g1.trans k1) (fun hm => ⟨(g3 hm).1, k2 _ _ _ _ _ _ _ _ (g3 hm).1 (g3 hm).2 (hx hm)⟩) hkb H⟩
theorem cComplain {e q : Int32} (hF : Fr τ0 lo σ) (hS : Sy c k σ) (hM : MD c τ0 V0 lo L md nx kb σ) (he : e ≠ 0) : ∃ σ', FX4_complain e q σ = some ((), σ') ∧ Fr τ0 lo σ' ∧ Sy c k σ' ∧ MD c τ0 V0 lo L (nmdE md (e, q)) nx kb σ' ∧ σ'.2 = σ.2 ∧ ∀ j, j ≠ 4307 → j ≠ 4308 → σ'.1 j = σ.1 j := by
  rw [FX4_complain]
  cases md with
  | some e2 =>
    rw [if_neg (by rw [hM.2.1]; exact hM.1)]
    exact ⟨σ, rfl, hF, hS, hM, rfl, fun _ _ _ => rfl⟩
  | none =>
    rw [if_pos hM.2.1]
    have o : ∀ j, j ≠ 4307 → j ≠ 4308 → (tI (tI σ 4307 e) 4308 q).1 j = σ.1 j := fun j h1 h2 => by rw [tI_o h2, tI_o h1]
    refine ⟨_, rfl, ?_, ?_, ⟨he, ?_, ?_⟩, rfl, o⟩
    · obtain ⟨a, b, d, e2, f, n, hn⟩ := hF
      exact ⟨fun j h1 h2 => by rw [o j (by omega) (by omega)]; exact a j h1 h2, b, d, e2, f, n, by rw [o _ (by decide) (by decide)]; exact hn.1, hn.2⟩
    · obtain ⟨s1, s2, s3, s4, s5, s6⟩ := hS
      exact ⟨s1, by rw [o _ (by decide) (by decide)]; exact s2, by rw [o _ (by decide) (by decide)]; exact s3, by rw [o _ (by decide) (by decide)]; exact s4, by rw [o _ (by decide) (by decide)]; exact s5, s6⟩
    · rw [tI_o (by decide), tI_g]
    · rw [tI_g]
theorem advLH {u : Unit} (h : FX4_advance σ = some (u, σ1)) : σ1.1 4310 = σ.1 4310 ∧ σ1.1 4311 = σ.1 4311 := by
  rw [FX4_advance] at h
  split at h
  · have e := congrArg (fun q : Option (Unit × CS) => q.map (fun z => (z.2.1 4310, z.2.1 4311))) h
    simp only [Option.map_some] at e
    have e2 := Option.some.inj e
    have e3 := congrArg Prod.fst e2
    have e4 := congrArg Prod.snd e2
    refine ⟨e3.symm.trans ?_, e4.symm.trans ?_⟩
    · show (tI (tI (tI σ 4303 _) 4304 _) 4305 _).1 4310 = _
      rw [tI_o (by decide), tI_o (by decide), tI_o (by decide)]
    · show (tI (tI (tI σ 4303 _) 4304 _) 4305 _).1 4311 = _
      rw [tI_o (by decide), tI_o (by decide), tI_o (by decide)]
  · cases h; exact ⟨rfl, rfl⟩
theorem Sy.lh (h : Sy c k σ) {v : Int32} {j : Nat} (hj : j = 4310 ∨ j = 4311) : Sy c k (tI σ j v) := by
  obtain ⟨s1, s2, s3, s4, s5, s6⟩ := h
  exact ⟨s1, by rw [tI_o (by omega)]; exact s2, by rw [tI_o (by omega)]; exact s3, by rw [tI_o (by omega)]; exact s4, by rw [tI_o (by omega)]; exact s5, s6⟩
theorem chLH {v : Int32} {j : Nat} (hj : j = 4310 ∨ j = 4311) : Ch σ (tI σ j v) := ⟨fun i _ _ _ a b => tI_o (by rcases hj with e | e <;> rw [e] <;> assumption), fun _ _ => rfl, rfl⟩
theorem St.lh (h : St c τ0 V0 lo L md nx k σ) {v : Int32} {j : Nat} (hj : j = 4310 ∨ j = 4311) : St c τ0 V0 lo L md nx k (tI σ j v) := ⟨h.1.ch (chLH hj), h.2.1.lh hj, h.2.2.ch (chLH hj) (Nat.le_refl _)⟩
theorem bad61r (h : BdS τ0 lo p σ) : Tr (b2 (FX4_expect (50 : Int32) σ) fun (_ : Unit) σ_5 =>
    if (σ_5.1 4304) = (52 : Int32) then
      if ((σ_5.2.1 4306).toInt32) < (σ_5.1 4310) then
        FX4_readBounds_112 (tI σ_5 4311 ((σ_5.2.1 4306).toInt32))
      else
        if ((σ_5.2.1 4306).toInt32) ≤ (1000 : Int32) then
          FX4_readBounds_121 (tI σ_5 4311 ((σ_5.2.1 4306).toInt32))
        else
          FX4_readBounds_112 (tI σ_5 4311 ((σ_5.2.1 4306).toInt32))
    else
      FX4_readBounds_121 (tI σ_5 4311 ((σ_5.2.1 4306).toInt32))) (fun _ σ' => BdS τ0 lo p σ') := by
  refine (badExpect h (by decide)).bind (fun _ σ2 h2 => ?_)
  rw [if_neg (by rw [h2.2.1]; decide)]
  exact bad121 (h2.lh (Or.inr rfl))
/-- the end of bounds -/
theorem cBnd121 (hc : CtP c τ0 V0 lo L) (h : St c τ0 V0 lo L md nx k σ) {f : Nat → Option Rs} {r : Rs} (hr : (ex c 52 k fun k4 => ex c 35 k4 f) = some r) : ∃ σ', FX4_readBounds_121 σ = some ((), σ') ∧ ((∃ k', BdS τ0 lo (c.2.1 k') σ' ∧ r = (k', none)) ∨ (tS c.1 k = 52 ∧ f (k + 1 + 1) = some r ∧ St c τ0 V0 lo L md nx (k + 1 + 1) σ' ∧ σ'.2.2 = σ.2.2 ∧ σ'.1 4310 = σ.1 4310 ∧ σ'.1 4311 = σ.1 4311)) := by
  rw [FX4_readBounds_121]
  obtain ⟨x1, x2⟩ := expS hc h (s := 52) (by decide) (by decide)
  rcases exI (by decide) (by decide) hr with ⟨e, hr⟩ | ⟨e, hr⟩
  · obtain ⟨σ1, e1, g1, g2⟩ := adv hc h e (by decide) (by decide)
    have a1 : FX4_expect 52 σ = some ((), σ1) := by rw [FX4_expect, if_pos (by rw [h.2.1.2.2.2.1]; exact e), e1, b2r]
    rw [a1, b2r]
    have l1 := advLH e1
    rcases exI (by decide) (by decide) hr with ⟨e3, hr⟩ | ⟨e3, hr⟩
    · obtain ⟨σ2, e2, g3, g4⟩ := adv hc g1 e3 (by decide) (by decide)
      have a2 : FX4_expect 35 σ1 = some ((), σ2) := by rw [FX4_expect, if_pos (by rw [g1.2.1.2.2.2.1]; exact e3), e2, b2r]
      have l2 := advLH e2
      rw [a2, b2r]
      exact ⟨σ2, rfl, Or.inr ⟨e, hr, g3, g4.2.2.trans g2.2.2, l2.1.trans l1.1, l2.2.trans l1.2⟩⟩
    · obtain ⟨u, σ2, e2, q⟩ := (expS hc g1 (s := 35) (by decide) (by decide)).2 e3
      rw [e2, b2r]
      exact ⟨σ2, rfl, Or.inl ⟨_, q, hr⟩⟩
  · obtain ⟨u, σ1, e1, q⟩ := x2 e
    rw [e1, b2r]
    obtain ⟨u2, σ2, e2, q2⟩ := badExpect q (s := 35) (by decide)
    rw [e2, b2r]
    exact ⟨σ2, rfl, Or.inl ⟨_, q2, hr⟩⟩
theorem nmdE_n {x : En} (h : nmdE md x = none) : False := by cases md <;> cases h
/-- bounds -/
theorem cBnd (hc : CtP c τ0 V0 lo L) (hn : NumOK c) (h : St c τ0 V0 lo L md nx k σ) {f : Nat → Except En (Int32 × Int32) → Option Rs} {r : Rs} (hr : pBnd c k f = some r) : ∃ σ', FX4_readBounds σ = some ((), σ') ∧ ((∃ k', BdS τ0 lo (c.2.1 k') σ' ∧ r = (k', none)) ∨ ∃ k2 bd, k ≤ k2 ∧ f k2 bd = some r ∧ St c τ0 V0 lo L (nmdB md bd) nx k2 σ' ∧ σ'.2.2 = σ.2.2 ∧ ∀ q, bd = .ok q → σ'.1 4310 = q.1 ∧ hiC (σ'.1 4311) = q.2 ∧ bdF (σ'.1 4310) (σ'.1 4311)) := by
  rw [pBnd] at hr
  have hs := h.2.1.2.2.2.1
  by_cases e34 : tS c.1 k = 34
  · have e0 := (tS_lit e34 (by decide) (by decide)).1
    rw [if_pos e0] at hr
    have hr : ((fun k1 => ex c 52 k1 fun k2 => ex c 50 k2 fun k3 => ex c 52 k3 fun k4 => ex c 35 k4 fun k5 => f k5 (bdM c k1 k3)) (k + 1)) = some r := by
      rcases goI (s := 34) (by decide) e0 hr with ⟨-, hr⟩ | ⟨e, -⟩
      · exact hr
      · rw [e34] at e; exact absurd e (by decide)
    have hr : (ex c 52 (k + 1) fun k2 => ex c 50 k2 fun k3 => ex c 52 k3 fun k4 => ex c 35 k4 fun k5 => f k5 (bdM c (k + 1) k3)) = some r := hr
    rw [FX4_readBounds, if_pos (by rw [hs]; exact e34)]
    have h0 : St c τ0 V0 lo L md nx k (tI (tI σ 4310 0) 4311 1000000) := (h.lh (Or.inl rfl)).lh (Or.inr rfl)
    obtain ⟨σ2, e2, g2, g2c⟩ := adv hc h0 e34 (by decide) (by decide)
    rw [e2, b2r, g2.2.1.2.2.2.1]
    have r2 : σ2.2.2 = σ.2.2 := g2c.2.2
    rcases exI (by decide) (by decide) hr with ⟨e52, hr⟩ | ⟨e52, hr⟩
    · rw [if_pos e52]
      have t52 := (tS_lit e52 (by decide) (by decide)).1
      have w1 : σ2.2.1 4306 = c.2.2.1 (k + 1) := g2.2.1.2.2.2.2.2 (Or.inr t52)
      rw [w1]
      obtain ⟨v1, hv1, ev1⟩ := hn _ g2.2.1.1 t52
      have nb1 : (c.2.2.1 (k + 1)).toInt32 = nI v1 := by rw [ev1, lN_i]
      have nbE : nb c (k + 1) = nI v1 := nb1
      rw [nb1]
      have c1000 : (nI v1 ≤ 1000) ↔ v1 ≤ 1000 := by rw [show (1000 : Int32) = nI 1000 from rfl, nI_leI (by omega) (by omega)]
      -- behind the first number
      have rest : ∀ (md1 : Option En) (s3 : CS), St c τ0 V0 lo L md1 nx (k + 1) s3 → s3.2.2 = σ.2.2 → s3.1 4310 = nI v1 → md1 = nmdB md (if v1 ≤ 1000 then .ok (0, 0) else .error (5, c.2.1 (k + 1))) → ∃ σ', FX4_readBounds_61 s3 = some ((), σ') ∧ ((∃ k', BdS τ0 lo (c.2.1 k') σ' ∧ r = (k', none)) ∨ ∃ k2 bd, k ≤ k2 ∧ f k2 bd = some r ∧ St c τ0 V0 lo L (nmdB md bd) nx k2 σ' ∧ σ'.2.2 = σ.2.2 ∧ ∀ q, bd = .ok q → σ'.1 4310 = q.1 ∧ hiC (σ'.1 4311) = q.2 ∧ bdF (σ'.1 4310) (σ'.1 4311)) := by
        intro md1 s3 h3 hr3 hl3 hm3
        rw [FX4_readBounds_61]
        obtain ⟨σ4, e4, g4, g4c⟩ := adv hc h3 e52 (by decide) (by decide)
        have a4 : FX4_expect 52 s3 = some ((), σ4) := by rw [FX4_expect, if_pos (by rw [h3.2.1.2.2.2.1]; exact e52), e4, b2r]
        have l4 := advLH e4
        rw [a4, b2r]
        rcases exI (by decide) (by decide) hr with ⟨e50, hr⟩ | ⟨e50, hr⟩
        · obtain ⟨σ5, e5, g5, g5c⟩ := adv hc g4 e50 (by decide) (by decide)
          have a5 : FX4_expect 50 σ4 = some ((), σ5) := by rw [FX4_expect, if_pos (by rw [g4.2.1.2.2.2.1]; exact e50), e5, b2r]
          have l5 := advLH e5
          have r5 : σ5.2.2 = σ.2.2 := g5c.2.2.trans (g4c.2.2.trans hr3)
          rw [a5, b2r, g5.2.1.2.2.2.1]
          have lowE : σ5.1 4310 = nI v1 := l5.1.trans (l4.1.trans hl3)
          by_cases e52b : tS c.1 (k + 1 + 1 + 1) = 52
          · rw [if_pos e52b]
            have t52b := (tS_lit e52b (by decide) (by decide)).1
            have w3 : σ5.2.1 4306 = c.2.2.1 (k + 1 + 1 + 1) := g5.2.1.2.2.2.2.2 (Or.inr t52b)
            obtain ⟨v3, hv3, ev3⟩ := hn _ g5.2.1.1 t52b
            have nb3 : (c.2.2.1 (k + 1 + 1 + 1)).toInt32 = nI v3 := by rw [ev3, lN_i]
            have nbE3 : nb c (k + 1 + 1 + 1) = nI v3 := nb3
            rw [w3, nb3, lowE]
            have c3 : (nI v3 < nI v1) ↔ v3 < v1 := nI_ltI (by omega) (by omega)
            have c4 : (nI v3 ≤ 1000) ↔ v3 ≤ 1000 := by rw [show (1000 : Int32) = nI 1000 from rfl, nI_leI (by omega) (by omega)]
            have c5 : (1000 < nI v3) ↔ 1000 < v3 := by rw [show (1000 : Int32) = nI 1000 from rfl, nI_ltI (by omega) (by omega)]
            have h6 : St c τ0 V0 lo L md1 nx (k + 1 + 1 + 1) (tI σ5 4311 (nI v3)) := g5.lh (Or.inr rfl)
            have bdE : bdM c (k + 1) (k + 1 + 1 + 1) = if v1 ≤ 1000 then (if 1000 < v3 ∨ v3 < v1 then .error (5, c.2.1 (k + 1 + 1 + 1)) else .ok (nI v1, nI v3)) else .error (5, c.2.1 (k + 1)) := by
              unfold bdM
              rw [nbE, nbE3]
              by_cases q1 : v1 ≤ 1000
              · rw [if_pos q1, if_pos (c1000.mpr q1)]
                by_cases q2 : 1000 < v3 ∨ v3 < v1
                · rw [if_pos q2, if_pos (q2.elim (fun z => Or.inl (c5.mpr z)) (fun z => Or.inr (c3.mpr z)))]
                · rw [if_neg q2, if_neg (fun z => q2 (z.elim (fun z => Or.inl (c5.mp z)) (fun z => Or.inr (c3.mp z))))]
              · rw [if_neg q1, if_neg (fun z => q1 (c1000.mp z))]
            -- the end, for a state and a mode
            have fin : ∀ (md2 : Option En) (s7 : CS), St c τ0 V0 lo L md2 nx (k + 1 + 1 + 1) s7 → s7.2.2 = σ.2.2 → s7.1 4310 = nI v1 → s7.1 4311 = nI v3 → md2 = nmdB md (bdM c (k + 1) (k + 1 + 1 + 1)) → ∃ σ', FX4_readBounds_121 s7 = some ((), σ') ∧ ((∃ k', BdS τ0 lo (c.2.1 k') σ' ∧ r = (k', none)) ∨ ∃ k2 bd, k ≤ k2 ∧ f k2 bd = some r ∧ St c τ0 V0 lo L (nmdB md bd) nx k2 σ' ∧ σ'.2.2 = σ.2.2 ∧ ∀ q, bd = .ok q → σ'.1 4310 = q.1 ∧ hiC (σ'.1 4311) = q.2 ∧ bdF (σ'.1 4310) (σ'.1 4311)) := by
              intro md2 s7 h7 hr7 hl7 hh7 hm7
              obtain ⟨σ8, e8, q8⟩ := cBnd121 hc h7 (f := fun k5 => f k5 (bdM c (k + 1) (k + 1 + 1 + 1))) hr
              refine ⟨σ8, e8, ?_⟩
              rcases q8 with q8 | ⟨-, q1, q2, q3, q4, q5⟩
              · exact Or.inl q8
              · refine Or.inr ⟨_, _, by omega, q1, by rw [← hm7]; exact q2, q3.trans hr7, fun q hq => ?_⟩
                rw [bdE] at hq
                by_cases z1 : v1 ≤ 1000
                · rw [if_pos z1] at hq
                  by_cases z2 : 1000 < v3 ∨ v3 < v1
                  · rw [if_pos z2] at hq; cases hq
                  · rw [if_neg z2] at hq
                    have hq := Except.ok.inj hq
                    rw [← hq, q4, q5, hl7, hh7]
                    refine ⟨rfl, ?_, Or.inr ⟨v1, v3, rfl, rfl, z1, by omega⟩⟩
                    rw [hiC, if_neg (fun e => by rw [show (1000000 : Int32) = nI 1000000 from rfl, nI_eq (by omega) (by omega)] at e; omega)]
                · rw [if_neg z1] at hq; cases hq
            have lowE2 : (tI σ5 4311 (nI v3)).1 4310 = nI v1 := by rw [tI_o (by decide)]; exact lowE
            have compl : (1000 < v3 ∨ v3 < v1) → ∃ σ', FX4_readBounds_112 (tI σ5 4311 (nI v3)) = some ((), σ') ∧ ((∃ k', BdS τ0 lo (c.2.1 k') σ' ∧ r = (k', none)) ∨ ∃ k2 bd, k ≤ k2 ∧ f k2 bd = some r ∧ St c τ0 V0 lo L (nmdB md bd) nx k2 σ' ∧ σ'.2.2 = σ.2.2 ∧ ∀ q, bd = .ok q → σ'.1 4310 = q.1 ∧ hiC (σ'.1 4311) = q.2 ∧ bdF (σ'.1 4310) (σ'.1 4311)) := by
              intro z2
              rw [FX4_readBounds_112]
              obtain ⟨s7, e7, f7, y7, m7, d7, i7⟩ := cComplain (e := 5) (q := (tI σ5 4311 (nI v3)).1 4305) h6.1 h6.2.1 h6.2.2 (by decide)
              rw [e7, b2r]
              refine fin _ s7 ⟨f7, y7, m7⟩ (by rw [d7]; exact r5) (by rw [i7 _ (by decide) (by decide)]; exact lowE2) (by rw [i7 _ (by decide) (by decide)]; exact tI_g) ?_
              rw [h6.2.1.2.2.2.2.1, hm3, bdE]
              by_cases z1 : v1 ≤ 1000
              · rw [if_pos z1, if_pos z1, if_pos z2]; cases md <;> rfl
              · rw [if_neg z1, if_neg z1]; cases md <;> rfl
            by_cases q3 : v3 < v1
            · rw [if_pos (c3.mpr q3)]; exact compl (Or.inr q3)
            · rw [if_neg (fun z => q3 (c3.mp z))]
              by_cases q4 : v3 ≤ 1000
              · rw [if_pos (c4.mpr q4)]
                refine fin _ _ h6 r5 lowE2 tI_g ?_
                rw [hm3, bdE]
                by_cases z1 : v1 ≤ 1000
                · rw [if_pos z1, if_pos z1, if_neg (by omega)]; cases md <;> rfl
                · rw [if_neg z1, if_neg z1]
              · rw [if_neg (fun z => q4 (c4.mp z))]; exact compl (Or.inl (by omega))
          · rw [if_neg e52b]
            obtain ⟨σ8, e8, q8⟩ := cBnd121 hc (g5.lh (v := (σ5.2.1 4306).toInt32) (Or.inr rfl)) (f := fun k5 => f k5 (bdM c (k + 1) (k + 1 + 1 + 1))) hr
            refine ⟨σ8, e8, ?_⟩
            rcases q8 with q8 | ⟨q0, -⟩
            · exact Or.inl q8
            · exact absurd q0 e52b
        · obtain ⟨u, σ5, e5, q⟩ := (expS hc g4 (s := 50) (by decide) (by decide)).2 e50
          rw [e5, b2r, if_neg (by rw [q.2.1]; decide)]
          obtain ⟨u2, σ6, e6, q6⟩ := bad121 (q.lh (v := (σ5.2.1 4306).toInt32) (j := 4311) (Or.inr rfl))
          exact ⟨σ6, e6, Or.inl ⟨_, q6, hr⟩⟩
      by_cases z1 : v1 ≤ 1000
      · rw [if_pos (c1000.mpr z1)]
        exact rest md _ (g2.lh (Or.inl rfl)) r2 tI_g (by rw [if_pos z1]; cases md <;> rfl)
      · rw [if_neg (fun z => z1 (c1000.mp z))]
        have h3 : St c τ0 V0 lo L md nx (k + 1) (tI σ2 4310 (nI v1)) := g2.lh (Or.inl rfl)
        obtain ⟨s7, e7, f7, y7, m7, d7, i7⟩ := cComplain (e := 5) (q := σ2.1 4305) h3.1 h3.2.1 h3.2.2 (by decide)
        rw [e7, b2r]
        refine rest _ s7 ⟨f7, y7, m7⟩ (by rw [d7]; exact r2) (by rw [i7 _ (by decide) (by decide)]; exact tI_g) ?_
        rw [if_neg z1, g2.2.1.2.2.2.2.1]; cases md <;> rfl
    · rw [if_neg e52, FX4_readBounds_61]
      obtain ⟨u, σ3, e3, q3⟩ := (expS hc (g2.lh (v := (σ2.2.1 4306).toInt32) (j := 4310) (Or.inl rfl)) (s := 52) (by decide) (by decide)).2 e52
      rw [e3, b2r]
      obtain ⟨u2, σ4, e4, q4⟩ := bad61r q3
      exact ⟨σ4, e4, Or.inl ⟨_, q4, hr⟩⟩
  · rw [FX4_readBounds, if_neg (by rw [hs]; exact e34)]
    refine ⟨_, rfl, ?_⟩
    by_cases e0 : c.1 k = 34
    · rw [if_pos e0] at hr
      rcases goI (s := 34) (by decide) e0 hr with ⟨e, -⟩ | ⟨e, hr⟩
      · exact absurd e e34
      · refine Or.inl ⟨k, ⟨((h.lh (Or.inl rfl)).lh (Or.inr rfl)).1, ?_⟩, hr⟩
        exact ((h.lh (Or.inl rfl)).lh (Or.inr rfl)).2.1.bad e
    · rw [if_neg e0] at hr
      refine Or.inr ⟨k, .ok (0, -1), Nat.le_refl _, hr, ?_, rfl, fun q hq => ?_⟩
      · have : nmdB md (.ok (0, -1)) = md := by cases md <;> rfl
        rw [this]; exact (h.lh (Or.inl rfl)).lh (Or.inr rfl)
      · have hq := Except.ok.inj hq
        rw [← hq, tI_g, tI_o (by decide), tI_g]
        exact ⟨rfl, by decide, bdF_0⟩
end CQ
