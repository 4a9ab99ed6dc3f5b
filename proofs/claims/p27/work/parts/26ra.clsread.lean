-- the class reads an item, step by step
def FrP (τ0 σ : CS) : Prop := (∀ j, (j < 4303 ∨ 4311 < j) → j ≠ 1307 → j ≠ 2807 → σ.1 j = τ0.1 j) ∧ (∀ j, j ≠ 4306 → σ.2.1 j = τ0.2.1 j) ∧ (∀ j, nNR j → j ≠ 32 → j ≠ 34 → j ≠ 36 → j ≠ 38 → j ≠ 42 → σ.2.2.1 j = τ0.2.2.1 j) ∧ (∀ j, j ≠ 30 → j ≠ 40 → σ.2.2.2.1 j = τ0.2.2.2.1 j) ∧ σ.2.2.2.2 = τ0.2.2.2.2
section CJ
variable {τ00 τ0 τ1 σ σ1 σ2 : CS} {c : Cx} {V0 : Nat → Prop} {lo : Nat × Nat} {L nx k n : Nat} {md : Option En} {p : Int32} {E : EnvN}
theorem FrP.refl : FrP τ0 τ0 := ⟨fun _ _ _ _ => rfl, fun _ _ => rfl, fun _ _ _ _ _ _ _ => rfl, fun _ _ _ => rfl, rfl⟩
theorem FrP.trans (h : FrP τ0 τ1) (g : FrP τ1 σ) : FrP τ0 σ := ⟨fun j a b d => (g.1 j a b d).trans (h.1 j a b d), fun j a => (g.2.1 j a).trans (h.2.1 j a), fun j a b d e f z => (g.2.2.1 j a b d e f z).trans (h.2.2.1 j a b d e f z), fun j a b => (g.2.2.2.1 j a b).trans (h.2.2.2.1 j a b), g.2.2.2.2.trans h.2.2.2.2⟩
theorem FrP.fr (h : FrP τ00 τ0) (g : Fr τ0 lo σ) : FrP τ00 σ := h.trans ⟨fun j a b _ => g.1 j a b, g.2.1, fun j a _ _ _ _ _ => g.2.2.1 j a, fun j _ _ => by rw [g.2.2.2.2.1], by rw [g.2.2.2.2.1]⟩
theorem FrP.a42 {f : Nat → Int32} (h : FrP τ00 τ0) : FrP τ00 (tA τ0 42 f) := h.trans ⟨fun _ _ _ _ => rfl, fun _ _ => rfl, fun j _ _ _ _ _ z => up_n z, fun _ _ _ => rfl, rfl⟩
theorem FrP.b40 {f : Nat → Int64} (h : FrP τ00 τ0) : FrP τ00 (tB τ0 40 f) := h.trans ⟨fun _ _ _ _ => rfl, fun _ _ => rfl, fun j _ _ _ _ _ z => rfl, fun j _ z => up_n z, rfl⟩
theorem Tr.and {α : Type} {x : Option (α × CS)} {Q R : α → CS → Prop} (h : Tr x Q) (g : Tr x R) : Tr x (fun a s => Q a s ∧ R a s) := by
  obtain ⟨a, s, e, q⟩ := h
  obtain ⟨a', s', e', q'⟩ := g
  rw [e] at e'
  have e1 := Option.some.inj e'
  have e2 : a = a' := (Prod.ext_iff.mp e1).1
  have e3 : s = s' := (Prod.ext_iff.mp e1).2
  subst e2; subst e3
  exact ⟨a, s, e, q, q'⟩
theorem fail1 (h : σ.1 4309 = 0 ∨ σ.1 4307 = 1) : Tr (FX4_fail σ) (fun _ σ' => σ'.1 4307 = 1) := by
  rw [FX4_fail]
  by_cases e : σ.1 4309 = 0
  · rw [if_pos e]
    exact ⟨(), _, rfl, show (tI (tI (tI (tI σ 4309 1) 4307 1) 4308 (σ.1 4305)) 4304 54).1 4307 = 1 by rw [tI_o (by decide), tI_o (by decide), tI_g]⟩
  · rw [if_neg e]
    exact ⟨(), σ, rfl, h.resolve_left e⟩
theorem nNRd {j : Nat} (h : 27 < j) : nNR j := by unfold nNR; omega
theorem Fr.a42 {f : Nat → Int32} (h : Fr τ0 lo σ) : Fr (tA τ0 42 f) lo (tA σ 42 f) := by
  obtain ⟨a, b, d, e, g, i⟩ := h
  have row : ∀ j, σ.2.2.1 j = τ0.2.2.1 j → (tA σ 42 f).2.2.1 j = (tA τ0 42 f).2.2.1 j := by
    intro j hj
    by_cases z : j = 42
    · subst z; rw [tA_row, tA_row]
    · rw [tA_o z, tA_o z, hj]
  refine ⟨a, b, fun j hj => row j (d j hj), fun j q hq => ?_, g, i⟩
  by_cases z : j = 42
  · subst z; rw [tA_row, tA_row]
  · rw [tA_o z, tA_o z]; exact e j q hq
theorem Fr.b40 {f : Nat → Int64} (h : Fr τ0 lo σ) : Fr (tB τ0 40 f) lo (tB σ 40 f) := by
  obtain ⟨a, b, d, e, g, i⟩ := h
  refine ⟨a, b, d, e, ?_, i⟩
  show (va_up σ.2.2.2.1 40 f, σ.2.2.2.2) = (va_up τ0.2.2.2.1 40 f, τ0.2.2.2.2)
  rw [g]
/-- behind an error of form -/
def BdP (τ00 : CS) (p : Int32) (σ : CS) : Prop := ∃ τ1 lo, FrP τ00 τ1 ∧ BdS τ1 lo p σ
theorem BdP.a42 {f : Nat → Int32} (h : BdP τ00 p σ) : BdP τ00 p (tA σ 42 f) := by
  obtain ⟨τ1, lo, h1, h2, h3⟩ := h
  exact ⟨tA τ1 42 f, lo, h1.a42, h2.a42, h3⟩
theorem BdP.b40 {f : Nat → Int64} (h : BdP τ00 p σ) : BdP τ00 p (tB σ 40 f) := by
  obtain ⟨τ1, lo, h1, h2, h3⟩ := h
  exact ⟨tB τ1 40 f, lo, h1.b40, h2.b40, h3⟩
theorem BdP.exp {s : Int32} (h : BdP τ00 p σ) (hs : s ≠ 54) : Tr (FX4_expect s σ) (fun _ σ' => BdP τ00 p σ' ∧ σ'.1 4307 = 1) := by
  obtain ⟨τ1, lo, h1, h2⟩ := h
  refine ((badExpect h2 hs).mono (fun _ σ' q => (⟨τ1, lo, h1, q⟩ : BdP τ00 p σ'))).and ?_
  rw [FX4_expect, if_neg (by rw [h2.2.1]; exact fun e => hs e.symm)]
  refine (fail1 ?_).bind (fun _ σ' q => Tr.ret q)
  rcases h2.2.2 with q | q
  · exact Or.inr q.2.1
  · exact Or.inl q.1
theorem bad118 {x1 x4 : Int32} {x2 : Int64} (h : BdP τ00 p σ) : Tr (FX4_readItem_118 L x1 x2 x4 σ) (fun _ σ' => BdP τ00 p σ') := by
  rw [FX4_readItem_118]
  refine (h.exp (by decide)).bind (fun _ σ' q => ?_)
  rw [if_neg (by rw [q.2]; decide)]
  exact Tr.ret q.1
theorem badLevel (h : BdP τ00 p σ) : Tr (FX4_readLevel σ) (fun _ σ' => BdP τ00 p σ') := by
  have h4 : σ.1 4304 = 54 := h.choose_spec.choose_spec.2.2.1
  rw [FX4_readLevel, if_neg (by rw [h4]; decide), FX4_readLevel_50]
  exact Tr.ret h.a42
theorem bad107 {x1 y0 : Int32} {x2 : Int64} (h : BdP τ00 p σ) : Tr (FX4_readItem_107 L x1 x2 y0 σ) (fun _ σ' => BdP τ00 p σ') := by
  rw [FX4_readItem_107]
  split
  · exact (badLevel h).bind (fun _ σ' q => bad118 q)
  · exact bad118 h
theorem badFirst (h : BdP τ00 p σ) : Tr (FX4_readFirstValue σ) (fun _ σ' => BdP τ00 p σ') := by
  have h4 : σ.1 4304 = 54 := h.choose_spec.choose_spec.2.2.1
  rw [FX4_readFirstValue, if_neg (by rw [h4]; decide), FX4_readFirstValue_26, if_pos rfl, FX4_readFirstValue_35, if_pos rfl, FX4_readFirstValue_59]
  exact (h.b40.exp (by decide)).bind (fun _ σ' q => Tr.ret q.1)
theorem badBody {x1 : Int32} {x2 : Int64} (hL : 1 ≤ L) (h : BdP τ00 p σ) : Tr (if x1 = 0 then b2 (FX4_readFirstValue σ) fun r_20 σ_20 => FX4_readItem_107 L x1 x2 r_20 σ_20 else if x1 = (2 : Int32) then b2 (FSC4 L dSC4 8 (0 : Int32) σ) fun r_19 σ_19 => FX4_readItem_107 L x1 x2 r_19 σ_19 else b2 (FSC4 L dSC4 0 (0 : Int32) σ) fun r_13 σ_13 => FX4_readItem_107 L x1 x2 r_13 σ_13) (fun _ σ' => BdP τ00 p σ') := by
  have d4 : dSC4 = 200 := rfl
  rw [d4]
  split
  · exact (badFirst h).bind (fun _ σ' q => bad107 q)
  split
  · obtain ⟨τ1, lo, h1, h2⟩ := h
    exact (badExpr hL (by decide) h2).bind (fun _ σ' q => bad107 ⟨τ1, lo, h1, q⟩)
  · obtain ⟨τ1, lo, h1, h2⟩ := h
    exact (badFormula hL (by decide) h2).bind (fun _ σ' q => bad107 ⟨τ1, lo, h1, q⟩)
theorem bad75 {x1 y1 : Int32} {x2 : Int64} (hL : 1 ≤ L) (hy : y1 ≠ 54) (h : BdP τ00 p σ) : Tr (FX4_readItem_75 L x1 x2 y1 σ) (fun _ σ' => BdP τ00 p σ') := by
  rw [FX4_readItem_75]
  exact (h.exp hy).bind (fun _ σ' q => badBody hL q.1)
/-- while an item is read -/
def Bn (τ00 : CS) (c : Cx) (E : EnvN) (n L : Nat) (md : Option En) (nx k : Nat) (σ : CS) : Prop := ∃ τ1 V0 lo, FrP τ00 τ1 ∧ CtP c τ1 V0 lo L ∧ lo.2 = 400 ∧ (∃ m, m ≤ 44 ∧ τ1.1 2807 = nI m) ∧ St c τ1 V0 lo L md nx k σ ∧ (md = none → V0 = (fun q => q < n) ∧ lo.1 = n ∧ ClsE E n τ1)
theorem Bn.exp {s : Int32} (h : Bn τ00 c E n L md nx k σ) (h1 : s ≠ 53) (h2 : s ≠ 54) : (tS c.1 k = s → ∃ σ', FX4_expect s σ = some ((), σ') ∧ Bn τ00 c E n L md nx (k + 1) σ' ∧ Ch σ σ') ∧ (tS c.1 k ≠ s → Tr (FX4_expect s σ) (fun _ σ' => BdP τ00 (c.2.1 k) σ' ∧ σ'.1 4307 = 1)) := by
  obtain ⟨τ1, V0, lo, a, b, d, e, f, g⟩ := h
  obtain ⟨q1, q2⟩ := expS b f h1 h2
  refine ⟨fun hs => ?_, fun hs => ?_⟩
  · obtain ⟨σ', z1, z2, z3⟩ := q1 hs
    exact ⟨σ', z1, ⟨τ1, V0, lo, a, b, d, e, z2, g⟩, z3⟩
  · refine ((q2 hs).mono (fun _ σ' q => (⟨τ1, lo, a, q⟩ : BdP τ00 (c.2.1 k) σ'))).and ?_
    rw [FX4_expect, if_neg (by rw [f.2.1.2.2.2.1]; exact hs)]
    exact (fail1 (Or.inl f.2.1.2.1)).bind (fun _ σ' q => Tr.ret q)
theorem Bn.nxt {s : Int32} (h : Bn τ00 c E n L md nx k σ) (hs : tS c.1 k = s) (h1 : s ≠ 53) (h2 : s ≠ 54) : ∃ σ', FX4_advance σ = some ((), σ') ∧ Bn τ00 c E n L md nx (k + 1) σ' ∧ Ch σ σ' := by
  obtain ⟨τ1, V0, lo, a, b, d, e, f, g⟩ := h
  obtain ⟨σ', z1, z2, z3⟩ := adv b f hs h1 h2
  exact ⟨σ', z1, ⟨τ1, V0, lo, a, b, d, e, z2, g⟩, z3⟩
theorem Bn.sy (h : Bn τ00 c E n L md nx k σ) : Sy c k σ := by
  obtain ⟨τ1, V0, lo, a, b, d, e, f, g⟩ := h
  exact f.2.1
theorem Bn.bad (h : Bn τ00 c E n L md nx k σ) : Tr (FX4_fail σ) (fun _ σ' => BdP τ00 (c.2.1 k) σ') := by
  obtain ⟨τ1, V0, lo, a, b, d, e, f, g⟩ := h
  exact (failed f).mono (fun _ σ' q => ⟨τ1, lo, a, q⟩)
theorem Bn.complain {e q : Int32} (h : Bn τ00 c E n L md nx k σ) (he : e ≠ 0) : ∃ σ', FX4_complain e q σ = some ((), σ') ∧ Bn τ00 c E n L (nmdE md (e, q)) nx k σ' ∧ σ'.2 = σ.2 := by
  obtain ⟨τ1, V0, lo, a, b, d, e1, f, g⟩ := h
  obtain ⟨σ', z1, z2, z3, z4, z5, z6⟩ := cComplain (q := q) f.1 f.2.1 f.2.2 he
  refine ⟨σ', z1, ⟨τ1, V0, lo, a, b, d, e1, ⟨z2, z3, z4⟩, fun h => ?_⟩, z5⟩
  cases md with
  | some x => cases h
  | none => cases h
theorem GC.a42 {f : Nat → Int32} (h : GC c τ0 V0 L) : GC c (tA τ0 42 f) V0 L := h
theorem Bn.a42 {f : Nat → Int32} (h : Bn τ00 c E n L md nx k σ) (hf : md = none → ∀ i, i < E.ct 3 → f i = E.lv i) : Bn τ00 c E n L md nx k (tA σ 42 f) := by
  obtain ⟨τ1, V0, lo, a, b, d, e, ⟨f1, f2, f3⟩, g⟩ := h
  refine ⟨tA τ1 42 f, V0, lo, a.a42, b, d, e, ⟨f1.a42, f2, ?_⟩, fun hm => ⟨(g hm).1, (g hm).2.1, ?_⟩⟩
  · cases md with
    | some x => exact f3
    | none => exact ⟨f3.1.a42, f3.2.1, f3.2.2.1, f3.2.2.2⟩
  · obtain ⟨c1, c2, c3, c4, c5, c6⟩ := (g hm).2.2
    exact ⟨c1, c2, c3, c4, c5, fun i hi => hf hm i hi⟩
theorem NmE.b40 {f : Nat → Int64} (h : NmE (tB τ0 40 f) σ) : NmE τ0 σ := ⟨h.1, h.2.trans (tB_o (by decide))⟩
theorem Bn.b40 {f : Nat → Int64} (h : Bn τ00 c E n L md nx k σ) (hf : md = none → ∀ i, i < E.ct 0 → f i = E.fi i) : Bn τ00 c E n L md nx k (tB σ 40 f) := by
  obtain ⟨τ1, V0, lo, a, b, d, e, ⟨f1, f2, f3⟩, g⟩ := h
  refine ⟨tB τ1 40 f, V0, lo, a.b40, ?_, d, e, ⟨f1.b40, f2, ?_⟩, fun hm => ⟨(g hm).1, (g hm).2.1, ?_⟩⟩
  · obtain ⟨b1, b2, b3, b4, b5, b6⟩ := b
    exact ⟨fun k hk => ⟨(b1 k hk).1, (b1 k hk).2.1, fun z => by rw [tB_o (by decide)]; exact (b1 k hk).2.2 z⟩, b2, b3, b4, b5, fun w s hN => b6 w s hN.b40⟩
  · cases md with
    | some x => exact f3
    | none =>
      obtain ⟨⟨g1, g2, g3⟩, g4⟩ := f3
      refine ⟨⟨g1, g2, fun w => ⟨fun z s hN => (g3 w).1 z s hN.b40, fun s n D z => ?_⟩⟩, g4⟩
      obtain ⟨j, y1, y2, y3⟩ := (g3 w).2 s n D z
      exact ⟨j, y1, fun s hN => y2 s hN.b40, y3⟩
  · obtain ⟨c1, c2, c3, c4, c5, c6⟩ := (g hm).2.2
    exact ⟨c1, fun j hj => ⟨by rw [tB_o (by decide)]; exact (c2 j hj).1, (c2 j hj).2⟩, c3, c4, fun i hi => by rw [tB_row]; exact hf hm i hi, c6⟩
/-- what stands between items -/
def PSt (τ00 : CS) (c : Cx) (X : Except En EnvN) (k : Nat) (σ : CS) : Prop := FrP τ00 σ ∧ Sy c k σ ∧ (∃ n, σ.1 1307 = nI n ∧ n ≤ 400) ∧ (∃ m, m ≤ 44 ∧ σ.1 2807 = nI m) ∧ match X with
  | .error e => e.1 ≠ 0 ∧ σ.1 4307 = e.1 ∧ σ.1 4308 = e.2
  | .ok E => σ.1 4307 = 0 ∧ EnvOK E ∧ ∃ nx, σ.1 1307 = nI nx ∧ nx ≤ k ∧ okT (fun q => q < nx) (ntC σ) ∧ (∀ q, q < nx → bdC σ q) ∧ ClsE E nx σ ∧ σ.1 4308 = -1
def xOf (md : Option En) (E : EnvN) : Except En EnvN := match md with
  | some e => .error e
  | none => .ok E
/-- what the class makes of an item -/
def QIt (τ00 : CS) (c : Cx) (X : Except En EnvN) (r : Rs) (σ' : CS) : Prop := match r with
  | (k', none) => BdP τ00 (c.2.1 k') σ'
  | (k', some _) => PSt τ00 c X k' σ'
/-- the names after a reading -/
theorem ClsE.fr (h : ClsE E n τ1) (hF : Fr τ1 lo σ) (hlo : lo.1 = n) (hT : okT (fun q => q < n) (ntC τ1)) {m : Nat} (hm : n ≤ m) : ClsE E m σ := by
  obtain ⟨c1, c2, c3, c4, c5, c6⟩ := h
  obtain ⟨f1, f2, f3, f4, f5, f6⟩ := hF
  have r : ∀ j, nNR j → σ.2.2.1 j = τ1.2.2.1 j := f3
  have rows : ∀ q, q < n → ∀ j, σ.2.2.1 j q = τ1.2.2.1 j q := fun q hq j => f4 j q (Or.inl (by omega))
  refine ⟨by rw [f1 2807 (by decide) (by decide)]; exact c1, fun j hj => ?_, fun s hs => ?_, fun s i hs h0 hi => ?_, fun i hi => by rw [f5]; exact c5 i hi, fun i hi => by rw [r 42 (nNRd (by decide))]; exact c6 i hi⟩
  · rw [f5, r 32 (nNRd (by decide)), r 34 (nNRd (by decide)), r 38 (nNRd (by decide))]; exact c2 j hj
  · rw [r 36 (nNRd (by decide))]; exact c3 s hs
  · obtain ⟨q, q1, q2, q3, q4⟩ := c4 s i hs h0 hi
    refine ⟨q, by omega, by rw [r 38 (nNRd (by decide))]; exact q2, ?_, fun z => ?_⟩
    · rw [← q3]; exact dnV_table hT (fun n hn => ntC_row (rows n hn)) q1
    · rw [← q4 z]; exact dnR_table hT (fun n hn => ⟨ntC_row (rows n hn), rows n hn 17⟩) q1
end CJ
