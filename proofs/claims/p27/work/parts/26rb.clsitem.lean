-- the class reads items
section CK
variable {τ00 τ0 τ1 σ σ1 σ2 : CS} {c : Cx} {V0 : Nat → Prop} {lo : Nat × Nat} {L nx k n : Nat} {md : Option En} {p : Int32} {E : EnvN}
/-- the end of an item -/
theorem cI118 {s : Nat} {w : Int64} {y0 : Int32} {D : Den} {v : Int64} {l : Int32} {m : MV} {r : Rs} (hL : 2000 ≤ L) (h : Bn τ00 c E n L md nx k σ) (hs : s < 4) (hr : ex c 36 k (fun k6 => some (k6, some m)) = some r) (H : md = none → EnvOK E ∧ n ≤ nx ∧ E.ct s < capE s ∧ gmE E w = none ∧ (s = 0 → y0 = nI (E.ct 0) ∧ σ.2.2.2.1 40 (E.ct 0) = v) ∧ (s ≠ 0 → NI (fun q => q < n) (n, 400) nx (decide (s = 1 ∨ s = 3)) σ y0 D) ∧ (s = 3 → σ.2.2.1 42 (E.ct 3) = l)) : Tr (FX4_readItem_118 L (nI s) w y0 σ) (fun _ σ' => QIt τ00 c (xOf md (E.add w s D v l)) r σ') := by
  obtain ⟨q1, q2⟩ := h.exp (s := 36) (by decide) (by decide)
  rw [FX4_readItem_118]
  rcases exI (by decide) (by decide) hr with ⟨hs36, hr⟩ | ⟨hs36, rfl⟩
  · obtain ⟨σ1, e1, hB, hCh⟩ := q1 hs36
    obtain rfl := Option.some.inj hr
    rw [e1, b2r]
    obtain ⟨τ1, V0, lo, a, b, d, ⟨mm, hm, e⟩, ⟨f1, f2, f3⟩, g⟩ := hB
    have fr2 : FrP τ00 σ1 := a.fr f1
    have n7 : σ1.1 2807 = nI mm := by rw [f1.1 2807 (by decide) (by decide)]; exact e
    obtain ⟨nn, h7, -, h400⟩ := f1.2.2.2.2.2
    cases md with
    | some x =>
      obtain ⟨x1, x2, x3⟩ := f3
      rw [if_neg (by rw [x2]; exact x1)]
      exact Tr.ret ⟨fr2, f2, ⟨nn, h7, by omega⟩, ⟨mm, hm, n7⟩, x1, x2, x3⟩
    | none =>
      obtain ⟨g1, g2, g3⟩ := g rfl
      obtain ⟨m1, m2, m3, m4⟩ := f3
      obtain ⟨hE, hnx, hct, hgm, h0, h1, h3⟩ := H rfl
      subst g1
      have hlo : lo = (n, 400) := Prod.ext g2 d
      subst hlo
      have hT1 : okT (fun q => q < n) (ntC τ1) := m1.1
      have hV : Vx (fun q => q < n) n nx = fun q => q < nx := funext fun q => propext ⟨fun z => z.elim (fun y => by omega) (fun y => y.2), fun z => if y : q < n then Or.inl y else Or.inr ⟨by omega, z⟩⟩
      have hC : ClsE E nx σ1 := g3.fr f1 rfl hT1 hnx
      have hT : okT (fun q => q < nx) (ntC σ1) := by have := m3.2.2.1; rw [hV] at this; exact this
      have hBd : ∀ q, q < nx → bdC σ1 q := fun q hq => m3.2.2.2 q (by rw [hV]; exact hq)
      rw [if_pos m2]
      obtain ⟨σ2, e2, z1, z2, z3, z4, z5, z6, z7⟩ := cAddName (w := w) (s := s) (y0 := y0) (D := D) (v := v) (l := l) hE hC hs hct (fun z => (h0 z).1) (fun z => by
        obtain ⟨q, w1, w2, w3, w4⟩ := (h1 z).same (σ1 := σ1) hCh.2.2
        refine ⟨q, ?_, w1, w3, fun y => w4 (decide_eq_true y)⟩
        rw [hV] at w2
        exact w2) (fun z => by rw [hCh.2.2]; exact (h0 z).2) (fun z => by rw [hCh.2.2]; exact h3 z)
      rw [e2, b2r]
      have nt : ntC σ2 = ntC σ1 := by
        funext q
        unfold ntC
        rw [z4 15 (by decide) (by decide) (by decide) (by decide), z4 19 (by decide) (by decide) (by decide) (by decide), z4 21 (by decide) (by decide) (by decide) (by decide), z4 23 (by decide) (by decide) (by decide) (by decide), z4 25 (by decide) (by decide) (by decide) (by decide), z4 27 (by decide) (by decide) (by decide) (by decide)]
      refine Tr.ret ⟨fr2.trans ⟨fun j _ _ y => z2 j y, fun j _ => by rw [z3], fun j _ y1 y2 y3 y4 _ => z4 j y1 y2 y3 y4, fun j y _ => z5 j y, z6⟩, ?_, ⟨nn, by rw [z2 _ (by decide)]; exact h7, by omega⟩, ⟨E.nn + 1, by have := hE.lt44 hs hct; omega, z7⟩, ?_⟩
      · obtain ⟨s1, s2, s3, s4, s5, s6⟩ := f2
        exact ⟨s1, by rw [z2 _ (by decide)]; exact s2, by rw [z2 _ (by decide)]; exact s3, by rw [z2 _ (by decide)]; exact s4, by rw [z2 _ (by decide)]; exact s5, fun y => by rw [z3]; exact s6 y⟩
      · refine ⟨by rw [z2 _ (by decide)]; exact m2, hE.add hs hct hgm, nx, by rw [z2 _ (by decide)]; exact m3.1, ?_, by rw [nt]; exact hT, fun q hq => ?_, z1, by rw [z2 _ (by decide)]; exact m4.2⟩
        · have : nx + 400 ≤ 400 + (k + 1) := m4.1
          omega
        · unfold bdC
          rw [z4 25 (by decide) (by decide) (by decide) (by decide), z4 27 (by decide) (by decide) (by decide) (by decide)]
          exact hBd q hq
  · refine (q2 hs36).bind (fun _ σ' q => ?_)
    rw [if_neg (by rw [q.2]; decide)]
    exact Tr.ret q.1
theorem QIt.xOf_n {X Y : Except En EnvN} {r : Rs} {σ' : CS} (h : QIt τ00 c X r σ') (e : X = Y) : QIt τ00 c Y r σ' := by rw [← e]; exact h
theorem NI.a42 {f : Bool} {V : Nat → Prop} {g : Nat → Int32} {a : Int32} {D : Den} (h : NI V lo nx f σ a D) : NI V lo nx f (tA σ 42 g) a D := h
/-- what the class makes of an item's body -/
def QBo (τ00 : CS) (c : Cx) (E : EnvN) (md : Option En) (w : Int64) (s k : Nat) (r : Rs) (σ' : CS) : Prop := match r with
  | (k', none) => BdP τ00 (c.2.1 k') σ'
  | (k', some m) => PSt τ00 c (xOf (nmd md m) (E.add w s (vl m) (iFi c k) (iLv c k))) k' σ'
theorem QBo.of {w : Int64} {s : Nat} {md md' : Option En} {m : MV} {r : Rs} {σ' : CS} {kk : Nat} (hr : ex c 36 kk (fun k6 => some (k6, some m)) = some r) (e : md' = nmd md m) (h : QIt τ00 c (xOf md' (E.add w s (vl m) (iFi c k) (iLv c k))) r σ') : QBo τ00 c E md w s k r σ' := by
  rcases exI (by decide) (by decide) hr with ⟨-, hr⟩ | ⟨-, rfl⟩
  · obtain rfl := Option.some.inj hr
    rw [e] at h
    exact h
  · exact h
theorem cI0T {w val : Int64} {idx : Int32} {kk : Nat} {r : Rs} (hL : 2000 ≤ L) (h : Bn τ00 c E n L md nx kk σ) (hidx : md = none → idx = nI (E.ct 0)) (hval : tS c.1 kk = 52 → val = iFi c k) (hn : md = none → EnvOK E ∧ n ≤ nx ∧ E.ct 0 < capE 0 ∧ gmE E w = none) (hr : (ex c 52 kk fun k5 => ex c 36 k5 fun k6 => some (k6, some (.ok (zV, zR)))) = some r) : Tr (b2 (FX4_readFirstValue_59 idx idx val σ) fun r_20 σ_20 => FX4_readItem_107 L 0 w r_20 σ_20) (fun _ σ' => QBo τ00 c E md w 0 k r σ') := by
  have h40 : md = none → ∀ i, i < E.ct 0 → putL 8 (σ.2.2.2.1 40) idx val i = E.fi i := by
    intro hm i hi
    obtain ⟨τ1, V0, lo, a, b, d, e, f, g⟩ := h
    obtain ⟨g1, g2, g3⟩ := g hm
    have : E.ct 0 < 8 := (hn hm).2.2.1
    rw [hidx hm, pL this (by decide), updL_n (by omega), f.1.2.2.2.2.1]
    exact g3.2.2.2.2.1 i hi
  have hB := h.b40 (f := putL 8 (σ.2.2.2.1 40) idx val) h40
  obtain ⟨q1, q2⟩ := hB.exp (s := 52) (by decide) (by decide)
  rw [FX4_readFirstValue_59]
  rcases exI (by decide) (by decide) hr with ⟨hs52, hr⟩ | ⟨hs52, rfl⟩
  · obtain ⟨σ1, e1, hB1, hCh⟩ := q1 hs52
    rw [e1, b2r, b2r, FX4_readItem_107, if_neg (by decide)]
    refine (cI118 (s := 0) (w := w) (y0 := idx) (D := (zV, zR)) (v := iFi c k) (l := iLv c k) hL hB1 (by decide) hr (fun hm => ?_)).mono (fun _ σ' q => QBo.of (md' := md) hr (by cases md <;> rfl) q)
    obtain ⟨a1, a2, a3, a4⟩ := hn hm
    have : E.ct 0 < 8 := a3
    refine ⟨a1, a2, a3, a4, fun _ => ⟨hidx hm, ?_⟩, fun z => absurd rfl z, fun z => absurd z (by decide)⟩
    rw [hCh.2.2]
    rw [tB_row, hidx hm, pL this (by decide), updL_s]
    exact hval hs52
  · have t : Tr (b2 (FX4_expect (52 : Int32) (tB σ 40 (putL 8 (σ.2.2.2.1 40) idx val))) fun (_ : Unit) σ_4 => some (idx, σ_4)) (fun _ s => BdP τ00 (c.2.1 kk) s) := (q2 hs52).bind (fun _ σ' q => Tr.ret q.1)
    exact t.bind (fun a σ' q => bad107 q)
/-- a name of the first sort: its first value -/
theorem cI0 {w : Int64} {r : Rs} (hL : 2000 ≤ L) (h : Bn τ00 c E n L md nx (k + 3) σ) (hn : md = none → EnvOK E ∧ n ≤ nx ∧ E.ct 0 < capE 0 ∧ gmE E w = none) (hr : iBody c 0 (k + 3) = some r) : Tr (b2 (FX4_readFirstValue σ) fun r_20 σ_20 => FX4_readItem_107 L 0 w r_20 σ_20) (fun _ σ' => QBo τ00 c E md w 0 k r σ') := by
  have g36 : ∀ σ2 : CS, σ2.2.2 = σ.2.2 → md = none → getI 4 (σ2.2.2.1 36) 0 = nI (E.ct 0) := by
    intro σ2 e2 hm
    obtain ⟨τ1, V0, lo, a, b, d, e, f, g⟩ := h
    obtain ⟨g1, g2, g3⟩ := g hm
    have : getI 4 (σ2.2.2.1 36) (nI 0) = nI (E.ct 0) := by
      rw [gI (by decide) (by decide), e2, f.1.2.2.1 36 (nNRd (by decide))]
      exact g3.2.2.1 0 (by decide)
    exact this
  have hS := h.sy
  rw [iBody, if_pos rfl] at hr
  rw [FX4_readFirstValue, hS.2.2.2.1]
  by_cases e40 : c.1 (k + 3) = 40
  · rw [if_pos e40] at hr
    rcases goI (by decide) e40 hr with ⟨ht, hr⟩ | ⟨ht, rfl⟩
    · obtain ⟨σ1, e1, hB, hCh⟩ := h.nxt ht (by decide) (by decide)
      rw [if_pos ht, FX4_readFirstValue_26, if_neg (by decide), e1, b2r, FX4_readFirstValue_35, if_neg (by decide)]
      refine cI0T hL hB (g36 σ rfl) (fun z => ?_) hn hr
      have h5 := hB.sy.2.2.2.2.2 (Or.inr (tS_lit z (by decide) (by decide)).1)
      unfold iFi
      rw [if_pos e40, h5]
    · rw [ht, if_neg (by decide), FX4_readFirstValue_26, if_pos rfl, FX4_readFirstValue_35, if_pos rfl, FX4_readFirstValue_59]
      have h40 : md = none → ∀ i, i < E.ct 0 → putL 8 (σ.2.2.2.1 40) (getI 4 (σ.2.2.1 36) 0) (σ.2.1 4306) i = E.fi i := by
        intro hm i hi
        rw [g36 σ rfl hm]
        obtain ⟨τ1, V0, lo, a, b, d, e, f, g⟩ := h
        obtain ⟨g1, g2, g3⟩ := g hm
        have : E.ct 0 < 8 := (hn hm).2.2.1
        rw [pL this (by decide), updL_n (by omega), f.1.2.2.2.2.1]
        exact g3.2.2.2.2.1 i hi
      have hB := h.b40 (f := putL 8 (σ.2.2.2.1 40) (getI 4 (σ.2.2.1 36) 0) (σ.2.1 4306)) h40
      have t : Tr (b2 (FX4_expect (52 : Int32) (tB σ 40 (putL 8 (σ.2.2.2.1 40) (getI 4 (σ.2.2.1 36) 0) (σ.2.1 4306)))) fun (_ : Unit) σ_4 => some (getI 4 (σ.2.2.1 36) 0, σ_4)) (fun _ s => BdP τ00 (c.2.1 (k + 3)) s) := ((hB.exp (s := 52) (by decide) (by decide)).2 (by rw [ht]; decide)).bind (fun _ σ' q => Tr.ret q.1)
      exact t.bind (fun a σ' q => bad107 q)
  · rw [if_neg e40] at hr
    have ht : tS c.1 (k + 3) ≠ 40 := fun z => e40 (tS_lit z (by decide) (by decide)).1
    rw [if_neg ht, FX4_readFirstValue_26, if_pos rfl, FX4_readFirstValue_35, if_pos rfl]
    refine cI0T hL h (g36 σ rfl) (fun z => ?_) hn hr
    have h5 := hS.2.2.2.2.2 (Or.inr (tS_lit z (by decide) (by decide)).1)
    unfold iFi
    rw [if_neg e40, h5]
/-- a formula or an expression is read -/
theorem cCall {X Y rank : Nat} {f : Bool} {g : Nat → MV → Option Rs} {r : Rs} (hN : NumOK c) (h : Bn τ00 c E n L md nx k σ) (hX : ∀ τ1 V0 lo, CtP c τ1 V0 lo L → CXs c τ1 V0 lo L 700 X Y rank f) (hd : 16 * 10 + rank + 12 ≤ 200) (hnx : md = none → n ≤ nx) (hr : rb (spX c 700 X 0 k) g = some r) : Tr (FSC4 L dSC4 Y 0 σ) (fun a σ' => (∃ k1, r = (k1, none) ∧ BdP τ00 (c.2.1 k1) σ') ∨ ∃ k1 m nx1, spX c 700 X 0 k = some (k1, some m) ∧ g k1 m = some r ∧ nx ≤ nx1 ∧ Bn τ00 c E n L (nmd md m) nx1 k1 σ' ∧ (nmd md m = none → NI (fun q => q < n) (n, 400) nx1 f σ' a (vl m))) := by
  obtain ⟨τ1, V0, lo, a, b, d, e, s, g0⟩ := h
  have d4 : dSC4 = 200 := rfl
  rw [d4]
  rcases rbI hr with ⟨k1, h1, rfl⟩ | ⟨k1, m, h1, h2⟩
  · exact (hX τ1 V0 lo b 0 k nx md σ 200 (by decide) (by omega) s _ h1).mono (fun a' σ' q => Or.inl ⟨k1, rfl, τ1, lo, a, q⟩)
  · refine (hX τ1 V0 lo b 0 k nx md σ 200 (by decide) (by omega) s _ h1).mono (fun a' σ' q => Or.inr ?_)
    obtain ⟨nx1, z1, z2, z3⟩ := q
    refine ⟨k1, m, nx1, h1, h2, z1, ⟨τ1, V0, lo, a, b, d, e, z2, fun hm => g0 (nmd_n hm).1⟩, fun hm => ?_⟩
    obtain ⟨y1, D, rfl⟩ := nmd_n hm
    obtain ⟨x1, x2, x3⟩ := g0 y1
    subst x1
    have hlo : lo = (n, 400) := Prod.ext x2 d
    subst hlo
    exact (z3 y1 D rfl).2.1
end CK
