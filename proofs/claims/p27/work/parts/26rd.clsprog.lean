-- the class reads a program
section CM
variable {τ00 τ0 τ1 σ σ1 σ2 : CS} {c : Cx} {V0 : Nat → Prop} {lo : Nat × Nat} {L nx k n : Nat} {md : Option En} {p : Int32} {E : EnvN}
theorem itC_53 {s : Int32} : itC s ≠ 53 := by
  unfold itC
  split
  · decide
  · split
    · decide
    · decide
theorem itC_54 {s : Int32} : itC s ≠ 54 := by
  unfold itC
  split
  · decide
  · split
    · decide
    · decide
theorem c75 {s : Nat} {w : Int64} {r : Rs} (hL : 2000 ≤ L) (hN : NumOK c) (hs : s < 4) (h : Bn τ00 c E n L md nx (k + 2) σ) (hn : HnE E md n nx s w) (hr : (ex c (itC (nI s)) (k + 2) fun k3 => iBody c (nI s) k3) = some r) : Tr (FX4_readItem_75 L (nI s) w (itC (nI s)) σ) (fun _ σ' => QBo τ00 c E md w s k r σ') := by
  have h53 : itC (nI s) ≠ 53 := itC_53
  have h54 : itC (nI s) ≠ 54 := itC_54
  obtain ⟨q1, q2⟩ := h.exp h53 h54
  rw [FX4_readItem_75]
  rcases exI h53 h54 hr with ⟨ht, hr⟩ | ⟨ht, rfl⟩
  · obtain ⟨σ1, e1, hB, hCh⟩ := q1 ht
    rw [e1, b2r]
    have : s = 0 ∨ s = 1 ∨ s = 2 ∨ s = 3 := by omega
    rcases this with rfl | rfl | rfl | rfl
    · rw [if_pos (show nI 0 = 0 by decide)]; exact cI0 hL hB hn hr
    · rw [if_neg (by decide), if_neg (by decide)]; exact cI1 hL hN hB hn hr
    · rw [if_neg (by decide), if_pos (show nI 2 = 2 by decide)]; exact cI2 hL hN hB hn hr
    · rw [if_neg (by decide), if_neg (by decide)]; exact cI3 hL hN hB hn hr
  · refine (q2 ht).bind (fun _ σ' q => ?_)
    exact badBody (by omega) q.1
/-- the names, once more -/
def mdT (E : EnvN) (c : Cx) (k : Nat) (md : Option En) : Option En := match md with
  | some e => some e
  | none => if gmE E (c.2.2.1 (k + 1)) = none then none else some (3, c.2.1 (k + 1))
theorem c39 {s : Nat} {r : Rs} (hL : 2000 ≤ L) (hN : NumOK c) (hs : s < 4) (h : Bn τ00 c E n L md nx k σ) (ht : tS c.1 k = nI s) (hn : md = none → EnvOK E ∧ n ≤ nx ∧ E.ct s < capE s) (hr : (ex c 51 (k + 1) fun k2 => ex c (itC (nI s)) k2 fun k3 => iBody c (nI s) k3) = some r) : Tr (FX4_readItem_39 L (nI s) σ) (fun _ σ' => QBo τ00 c E (mdT E c k md) (c.2.2.1 (k + 1)) s k r σ') := by
  have s53 : nI s ≠ 53 := by rw [show (53 : Int32) = nI 53 from rfl]; intro e; rw [nI_eq (by omega) (by omega)] at e; omega
  have s54 : nI s ≠ 54 := by rw [show (54 : Int32) = nI 54 from rfl]; intro e; rw [nI_eq (by omega) (by omega)] at e; omega
  obtain ⟨σ1, e1, hB, hCh⟩ := h.nxt ht s53 s54
  have hS := hB.sy
  rw [FX4_readItem_39, e1, b2r, FX4_readNewName, hS.2.2.2.1]
  have pick : ∀ (w : Int64) (s9 : CS), (if nI s = (3 : Int32) then FX4_readItem_75 L (nI s) w (37 : Int32) s9 else if nI s = (1 : Int32) then FX4_readItem_75 L (nI s) w (38 : Int32) s9 else FX4_readItem_75 L (nI s) w (44 : Int32) s9) = FX4_readItem_75 L (nI s) w (itC (nI s)) s9 := by
    intro w s9
    unfold itC
    split
    · rfl
    · split <;> rfl
  have h54 : itC (nI s) ≠ 54 := itC_54
  by_cases e51 : tS c.1 (k + 1) = 51
  · have h5 := hS.2.2.2.2.2 (Or.inl (tS_lit e51 (by decide) (by decide)).1)
    rw [if_pos e51, h5]
    rcases exI (by decide) (by decide) hr with ⟨-, hr⟩ | ⟨ht2, -⟩
    · have go33 : ∀ (md' : Option En) (s9 : CS), md' = mdT E c k md → Bn τ00 c E n L md' nx (k + 1) s9 → Tr (b2 (FX4_readNewName_33 L s9) fun (_ : Unit) s8 => if nI s = (3 : Int32) then FX4_readItem_75 L (nI s) (c.2.2.1 (k + 1)) (37 : Int32) s8 else if nI s = (1 : Int32) then FX4_readItem_75 L (nI s) (c.2.2.1 (k + 1)) (38 : Int32) s8 else FX4_readItem_75 L (nI s) (c.2.2.1 (k + 1)) (44 : Int32) s8) (fun _ σ' => QBo τ00 c E (mdT E c k md) (c.2.2.1 (k + 1)) s k r σ') := by
        intro md' s9 hmd h9
        obtain ⟨s10, e10, hB10, -⟩ := (h9.exp (s := 51) (by decide) (by decide)).1 e51
        rw [FX4_readNewName_33, e10, b2r, b2r, pick, ← hmd]
        refine c75 hL hN hs hB10 (fun hm => ?_) hr
        rw [hmd] at hm
        cases hz : md with
        | some x => rw [hz] at hm; cases hm
        | none =>
          obtain ⟨a1, a2, a3⟩ := hn hz
          refine ⟨a1, a2, a3, ?_⟩
          rw [hz] at hm
          unfold mdT at hm
          by_cases g : gmE E (c.2.2.1 (k + 1)) = none
          · exact g
          · simp only [g, if_false] at hm; cases hm
      cases hz : md with
      | some x =>
        obtain ⟨τ1, V0, lo, a, b, d, e, f, g⟩ := id hB
        obtain ⟨rr, er⟩ := b.2.2.2.2.2 (c.2.2.1 (k + 1)) σ1 f.1.nm
        rw [er, b2r]
        rw [hz] at hB go33
        by_cases g1 : rr = -1
        · rw [if_pos g1]; exact go33 _ _ rfl hB
        · rw [if_neg g1]
          obtain ⟨s9, e9, h9, -⟩ := hB.complain (e := 3) (q := σ1.1 4305) (by decide)
          rw [e9, b2r]
          exact go33 _ _ rfl h9
      | none =>
        obtain ⟨a1, a2, a3⟩ := hn hz
        rw [hz] at hB go33
        obtain ⟨τ1, V0, lo, a, b, d, e, f, g⟩ := id hB
        obtain ⟨g1, g2, g3⟩ := g rfl
        have hC : ClsE E n σ1 := g3.fr f.1 g2 (by have := f.2.2.1.1; rw [g1] at this; exact this) (Nat.le_refl n)
        obtain ⟨k1, k2⟩ := hC.find a1 hL (w := c.2.2.1 (k + 1))
        by_cases gg : gmE E (c.2.2.1 (k + 1)) = none
        · rw [k1 gg, b2r, if_pos rfl]
          exact go33 none _ (by unfold mdT; simp only [gg, if_true]) hB
        · have : ∃ j, j < E.nn ∧ E.wd j = c.2.2.1 (k + 1) := Classical.byContradiction fun q => gg ((lkE_none _).mpr fun j hj z => q ⟨j, hj, z⟩)
          obtain ⟨j, hj, hw⟩ := this
          rw [k2 j hj hw, b2r, if_neg (nI_m1 (by have := a1.nn44; omega))]
          obtain ⟨s9, e9, h9, -⟩ := hB.complain (e := 3) (q := σ1.1 4305) (by decide)
          rw [e9, b2r]
          refine go33 _ _ ?_ h9
          unfold mdT
          simp only [gg, if_false]
          rw [hS.2.2.2.2.1]
          rfl
    · exact absurd e51 ht2
  · rw [if_neg e51]
    rcases exI (by decide) (by decide) hr with ⟨ht2, -⟩ | ⟨ht2, rfl⟩
    · exact absurd ht2 e51
    · have t : Tr (FX4_readNewName_33 L σ1) (fun _ s => BdP τ00 (c.2.1 (k + 1)) s) := by
        rw [FX4_readNewName_33]
        exact ((hB.exp (s := 51) (by decide) (by decide)).2 ht2).bind (fun _ σ' q => Tr.ret q.1)
      refine t.bind (fun _ σ' q => ?_)
      rw [pick]
      exact bad75 (by omega) h54 q
/-- the tokens that the class keeps -/
def TkC (t : Tk) (τ : CS) : Prop := ∀ k, Rk t.1 k → τ.2.2.1 8 k = tS t.1 k ∧ τ.2.2.1 10 k = t.2.1 k ∧ (t.1 k = 51 ∨ t.1 k = 52 → τ.2.2.2.1 12 k = t.2.2 k)
theorem TkC.fr {t : Tk} (h : TkC t τ00) (g : FrP τ00 σ) : TkC t σ := fun k hk => by
  rw [g.2.2.1 8 (by unfold nNR; omega) (by decide) (by decide) (by decide) (by decide) (by decide), g.2.2.1 10 (by unfold nNR; omega) (by decide) (by decide) (by decide) (by decide) (by decide), g.2.2.2.1 12 (by decide) (by decide)]
  exact h k hk
/-- a reading may begin -/
theorem PSt.bn {t : Tk} {X : Except En EnvN} (hL : 2000 ≤ L) (hT : TkC t τ00) (h8 : τ00.1 1308 = nI 400) (h : PSt τ00 (cxE t X) X k σ) : match X with
  | .error e => ∃ n, Bn τ00 (cxE t X) EnvN.none n L (some e) n k σ
  | .ok E => EnvOK E ∧ ∃ n, Bn τ00 (cxE t X) E n L none n k σ := by
  obtain ⟨a, b, ⟨n, c1, c2⟩, ⟨m, d1, d2⟩, e⟩ := h
  have hTk := hT.fr a
  have e8 : σ.1 1308 = nI 400 := by rw [a.1 1308 (by decide) (by decide) (by decide)]; exact h8
  have hct : ∀ V0 : Nat → Prop, (∀ q, V0 q → q < n) → CtP (cxE t X) σ V0 (n, 400) L := fun V0 hV => ⟨hTk, (show (400 : Nat) ≤ 1200 by decide), hV, hL, e8, fun w s hN => cFind_tot (hN.1.trans d2) d1 hL⟩
  have hF : Fr σ (n, 400) σ := ⟨fun _ _ _ => rfl, fun _ _ => rfl, fun _ _ => rfl, fun _ _ _ => rfl, rfl, n, c1, Nat.le_refl n, c2⟩
  cases X with
  | error e2 =>
    refine ⟨n, σ, fun _ => False, (n, 400), a, hct _ (fun q hq => hq.elim), rfl, ⟨m, d1, d2⟩, ⟨hF, b, e⟩, fun z => by cases z⟩
  | ok E =>
    obtain ⟨f1, f2, nx, f3, f4, f5, f6, f7, f8⟩ := e
    have hn : n = nx := by
      have hk := b.1.1
      rw [c1, nI_eq (by omega) (by omega)] at f3
      exact f3
    subst hn
    have hV : Vx (fun q => q < n) n n = fun q => q < n := funext fun q => propext ⟨fun z => z.elim id (fun y => by omega), fun z => Or.inl z⟩
    refine ⟨f2, n, σ, fun q => q < n, (n, 400), a, hct _ (fun q hq => hq), rfl, ⟨m, d1, d2⟩, ⟨hF, b, ?_, f1, ⟨c1, Nat.le_refl n, ?_, ?_⟩, ?_⟩, fun _ => ⟨rfl, rfl, f7⟩⟩
    · exact f7.gc f2 hL f5 f6 rfl
    · show okT (Vx (fun q => q < n) n n) (ntC σ)
      rw [hV]; exact f5
    · intro q hq
      have hq : Vx (fun q => q < n) n n q := hq
      rw [hV] at hq; exact f6 q hq
    · exact ⟨by show n + 400 ≤ 400 + k; omega, f8⟩
/-- what the class makes of an item, in a program -/
def QPr (τ00 : CS) (t : Tk) (X : Except En EnvN) (k : Nat) (r : Rs) (σ' : CS) : Prop := match r with
  | (k', none) => BdP τ00 (t.2.1 k') σ'
  | (k', some m) => PSt τ00 (cxE t (xAdd t X k m)) (xAdd t X k m) k' σ'
theorem iForm_no {r : Rs} (hr : iForm c k = some r) (h : tS c.1 k ≠ 0 ∧ tS c.1 k ≠ 1 ∧ tS c.1 k ≠ 2 ∧ tS c.1 k ≠ 3) : r = (k, none) := by
  rw [iForm] at hr
  split at hr
  · rename_i e
    have : tS c.1 k = 54 := by
      rw [tS]
      by_cases z : k = 400 ∧ c.1 k ≠ 53
      · rw [if_pos z]
      · exfalso
        have e2 : tS c.1 k = c.1 k := by rw [tS, if_neg z]
        rw [e2] at h
        rcases e with e | e | e | e <;> simp [e] at h
    have h4 : k = 400 := by
      refine un_lit (un_tS this) (s := c.1 k) rfl ?_
      rcases e with e | e | e | e <;> rw [e] <;> decide
    rw [go, if_pos h4] at hr
    exact (Option.some.inj hr).symm
  · exact (Option.some.inj hr).symm
theorem nI_s4 {s : Nat} (hs : s < 4) : soK (nI s) = s ∧ ¬ (nI s < 0) ∧ nI s ≤ 3 ∧ (nI s = 0 ↔ s = 0) := by
  have : s = 0 ∨ s = 1 ∨ s = 2 ∨ s = 3 := by omega
  rcases this with rfl | rfl | rfl | rfl <;> decide
theorem i03 {x : Int32} (h1 : ¬ (x < 0)) (h2 : x ≤ 3) : ∃ s, s < 4 ∧ x = nI s := by
  have a : ¬ (x.toInt < (0 : Int32).toInt) := fun z => h1 (Int32.lt_iff_toInt_lt.mpr z)
  have b := Int32.le_iff_toInt_le.mp h2
  have c0 : (0 : Int32).toInt = 0 := by decide
  have c3 : (3 : Int32).toInt = 3 := by decide
  rw [c0] at a
  rw [c3] at b
  refine ⟨x.toInt.toNat, by omega, Int32.toInt_inj.mp ?_⟩
  rw [nI_toInt (by omega)]
  omega
theorem cFull {s : Nat} : ∃ r, FX5_isFull (nI s) σ = some (r, σ) := by
  rw [FX5_isFull]
  split
  · split
    · exact ⟨_, rfl⟩
    · exact ⟨_, rfl⟩
  · split
    · exact ⟨_, rfl⟩
    · exact ⟨_, rfl⟩
theorem cFullE {s : Nat} (hs : s < 4) (hE : EnvOK E) (h : σ.2.2.1 36 s = nI (E.ct s)) : FX5_isFull (nI s) σ = some (if E.ct s < capE s then 0 else 1, σ) := by
  have hc := hE.2.1 s hs
  have hc2 : E.ct s ≤ 12 := by unfold capE at hc; split at hc <;> omega
  rw [FX5_isFull, gI hs (by decide), h]
  have l8 : (nI (E.ct s) < 8) ↔ E.ct s < 8 := by rw [show (8 : Int32) = nI 8 from rfl, nI_ltI (by omega) (by omega)]
  have l12 : (nI (E.ct s) < 12) ↔ E.ct s < 12 := by rw [show (12 : Int32) = nI 12 from rfl, nI_ltI (by omega) (by omega)]
  by_cases e : s = 0
  · rw [if_pos ((nI_s4 hs).2.2.2.mpr e)]
    have : capE s = 8 := if_pos e
    rw [this]
    by_cases z : E.ct s < 8
    · rw [if_pos (l8.mpr z), if_pos z]
    · rw [if_neg (fun y => z (l8.mp y)), if_neg z]
  · rw [if_neg (fun y => e ((nI_s4 hs).2.2.2.mp y))]
    have : capE s = 12 := if_neg e
    rw [this]
    by_cases z : E.ct s < 12
    · rw [if_pos (l12.mpr z), if_pos z]
    · rw [if_neg (fun y => z (l12.mp y)), if_neg z]
theorem cItem {t : Tk} {X : Except En EnvN} {r : Rs} (hL : 2000 ≤ L) (hT : TkC t τ00) (hN : NumOK (cxE t X)) (h8 : τ00.1 1308 = nI 400) (h : PSt τ00 (cxE t X) X k σ) (hr : iForm (cxE t X) k = some r) : Tr (FX4_readItem L σ) (fun _ σ' => QPr τ00 t X k r σ') := by
  have hbn := h.bn hL hT h8
  have hSy := h.2.1
  have h4 : σ.1 4304 = tS t.1 k := hSy.2.2.2.1
  rw [FX4_readItem, h4]
  by_cases hs4 : ∃ s, s < 4 ∧ tS t.1 k = nI s
  · obtain ⟨s, hs, ht⟩ := hs4
    obtain ⟨y1, y2, y3, y4⟩ := nI_s4 hs
    have s53 : nI s ≠ 53 := by rw [show (53 : Int32) = nI 53 from rfl]; intro e; rw [nI_eq (by omega) (by omega)] at e; omega
    have s54 : nI s ≠ 54 := by rw [show (54 : Int32) = nI 54 from rfl]; intro e; rw [nI_eq (by omega) (by omega)] at e; omega
    obtain ⟨hc, h400⟩ := tS_lit ht s54 s53
    have hc' : (cxE t X).1 k = nI s := hc
    have hin : (cxE t X).1 k = 0 ∨ (cxE t X).1 k = 1 ∨ (cxE t X).1 k = 2 ∨ (cxE t X).1 k = 3 := by
      rw [hc']
      have : s = 0 ∨ s = 1 ∨ s = 2 ∨ s = 3 := by omega
      rcases this with rfl | rfl | rfl | rfl <;> decide
    rw [iForm, if_pos hin, go, if_neg h400, hc'] at hr
    rw [ht, if_neg y2, if_pos y3]
    cases X with
    | error e =>
      obtain ⟨n, hB⟩ := hbn
      obtain ⟨r4, e4⟩ := cFull (σ := σ) (s := s)
      have fin : ∀ s9, Bn τ00 (cxE t (.error e)) EnvN.none n L (some e) n k s9 → Tr (FX4_readItem_39 L (nI s) s9) (fun _ σ' => QPr τ00 t (.error e) k r σ') := by
        intro s9 h9
        refine (c39 hL hN hs h9 ht (fun z => by cases z) hr).mono (fun _ σ' q => ?_)
        obtain ⟨k', o⟩ := r
        cases o with
        | none => exact q
        | some m => exact q
      rw [e4, b2r]
      by_cases z : r4 = 0
      · rw [if_pos z]; exact fin _ hB
      · rw [if_neg z]
        obtain ⟨s9, e9, h9, -⟩ := hB.complain (e := 4) (q := σ.1 4305) (by decide)
        rw [e9, b2r]
        exact fin _ h9
    | ok E =>
      obtain ⟨hE, n, hB⟩ := hbn
      have h36 : σ.2.2.1 36 s = nI (E.ct s) := by
        obtain ⟨-, -, nx, -, -, -, -, f7, -⟩ := h.2.2.2.2
        exact f7.2.2.1 s hs
      have key : ∀ (md2 : Option En) (m : MV), iPre E (cxE t (.ok E)) k = md2 → xOf (nmd md2 m) (E.add ((cxE t (.ok E)).2.2.1 (k + 1)) s (vl m) (iFi (cxE t (.ok E)) k) (iLv (cxE t (.ok E)) k)) = xAdd t (.ok E) k m := by
        intro md2 m e
        show _ = iAdd E (cxE t (.ok E)) k m
        unfold iAdd
        rw [e, hc', y1]
        cases md2 with
        | some x => rfl
        | none => cases m with
          | error x => rfl
          | ok D => rfl
      have fin : ∀ (md : Option En) (s9 : CS), Bn τ00 (cxE t (.ok E)) E n L md n k s9 → (md = none → E.ct s < capE s) → iPre E (cxE t (.ok E)) k = mdT E (cxE t (.ok E)) k md → Tr (FX4_readItem_39 L (nI s) s9) (fun _ σ' => QPr τ00 t (.ok E) k r σ') := by
        intro md s9 h9 hm hp
        refine (c39 hL hN hs h9 ht (fun z => ⟨hE, Nat.le_refl n, hm z⟩) hr).mono (fun _ σ' q => ?_)
        obtain ⟨k', o⟩ := r
        cases o with
        | none => exact q
        | some m =>
          have q : PSt τ00 (cxE t (.ok E)) (xOf (nmd (mdT E (cxE t (.ok E)) k md) m) (E.add ((cxE t (.ok E)).2.2.1 (k + 1)) s (vl m) (iFi (cxE t (.ok E)) k) (iLv (cxE t (.ok E)) k))) k' σ' := q
          rw [key _ m hp] at q
          exact q
      rw [cFullE hs hE h36, b2r]
      by_cases z : E.ct s < capE s
      · rw [if_pos z, if_pos rfl]
        refine fin none σ hB (fun _ => z) ?_
        unfold iPre
        rw [hc', y1, if_neg (by omega)]
        rfl
      · rw [if_neg z, if_neg (by decide)]
        obtain ⟨s9, e9, h9, -⟩ := hB.complain (e := 4) (q := σ.1 4305) (by decide)
        rw [e9, b2r]
        refine fin _ _ h9 (fun y => by cases y) ?_
        unfold iPre
        rw [hc', y1, if_pos (by omega), hSy.2.2.2.2.1]
        rfl
  · have no : ∀ s, s < 4 → tS (cxE t X).1 k ≠ nI s := fun s hs e => hs4 ⟨s, hs, e⟩
    obtain rfl := iForm_no hr ⟨no 0 (by decide), no 1 (by decide), no 2 (by decide), no 3 (by decide)⟩
    have f : Tr (b2 (FX4_fail σ) fun (_ : Unit) σ_2 => some ((), σ_2)) (fun _ σ' => QPr τ00 t X k (k, none) σ') := by
      cases X with
      | error e =>
        obtain ⟨n, hB⟩ := hbn
        exact hB.bad.bind (fun _ σ' q => Tr.ret q)
      | ok E =>
        obtain ⟨hE, n, hB⟩ := hbn
        exact hB.bad.bind (fun _ σ' q => Tr.ret q)
    by_cases z1 : tS t.1 k < 0
    · rw [if_pos z1]; exact f
    · rw [if_neg z1, if_neg (fun z2 => hs4 (i03 z1 z2))]
      exact f
/-- what the class makes of a program -/
def QFin (τ00 : CS) (t : Tk) (r : Ps) (σ' : CS) : Prop := match r with
  | (k', none) => FrP τ00 σ' ∧ σ'.1 4307 = 1 ∧ σ'.1 4308 = t.2.1 k'
  | (_, some (.error e)) => FrP τ00 σ' ∧ e.1 ≠ 0 ∧ σ'.1 4307 = e.1 ∧ σ'.1 4308 = e.2
  | (k', some (.ok E)) => PSt τ00 (cxE t (.ok E)) (.ok E) k' σ' ∧ E.ct 3 ≠ 0
theorem BdP.frp (h : BdP τ00 p σ) : FrP τ00 σ := by
  obtain ⟨τ1, lo, a, b, -⟩ := h
  exact a.fr b
/-- behind an error of form nothing more comes -/
theorem bad44 (h : FrP τ00 σ) (h7 : σ.1 4307 = 1) (h8 : σ.1 4308 = p) : Tr (FX4_readProgram_44 L σ) (fun _ σ' => FrP τ00 σ' ∧ σ'.1 4307 = 1 ∧ σ'.1 4308 = p) := by
  rw [FX4_readProgram_44, FX4_complain, if_neg (show ¬ (σ.1 4307 = 0) by rw [h7]; decide), b2r]
  split
  · exact Tr.ret ⟨h, h7, h8⟩
  · exact Tr.ret ⟨h, h7, h8⟩
theorem bad11 {f x : Nat} (hx : x < 300) (hf : 2 ≤ f) (h : BdP τ00 p σ) : Tr (FX4_readProgram_11 L f (nI x) σ) (fun _ σ' => FrP τ00 σ' ∧ σ'.1 4307 = 1 ∧ σ'.1 4308 = p) := by
  obtain ⟨f, rfl⟩ : ∃ z, f = z + 2 := ⟨f - 2, by omega⟩
  obtain ⟨τ1, lo, a, b, c4, d⟩ := h
  have x4 : ∀ y, y < 400 → ¬ ((400 : Int32) ≤ nI y) := fun y hy => by rw [show (400 : Int32) = nI 400 from rfl, nI_leI (by omega) (by omega)]; omega
  rw [FX4_readProgram_11, if_neg (x4 x (by omega)), c4, if_neg (by decide)]
  rcases d with ⟨d1, d2, d3⟩ | ⟨d1, d2⟩
  · rw [if_neg (by rw [d1]; decide)]
    exact bad44 (a.fr b) d2 d3
  · rw [if_pos d1, FX4_readItem, c4, if_neg (by decide), if_neg (by decide), FX4_fail, if_pos d1, b2r, b2r, FX4_readProgram_11, ← nI_succ, if_neg (x4 _ (by omega))]
    rw [if_neg (show ¬ ((tI (tI (tI (tI σ 4309 1) 4307 1) 4308 (σ.1 4305)) 4304 54).1 4304 = 53) by rw [tI_g]; decide), if_neg (show ¬ ((tI (tI (tI (tI σ 4309 1) 4307 1) 4308 (σ.1 4305)) 4304 54).1 4309 = 0) by rw [tI_o (by decide), tI_o (by decide), tI_o (by decide), tI_g]; decide)]
    refine bad44 ((a.fr b).trans ⟨fun j h1 _ _ => ?_, fun _ _ => rfl, fun _ _ _ _ _ _ _ => rfl, fun _ _ _ => rfl, rfl⟩) ?_ ?_
    · rw [tI_o (by omega), tI_o (by omega), tI_o (by omega), tI_o (by omega)]
    · rw [tI_o (by decide), tI_o (by decide), tI_g]
    · rw [tI_o (by decide), tI_g]; exact d2
theorem c44 {t : Tk} {X : Except En EnvN} (h : PSt τ00 (cxE t X) X k σ) : Tr (FX4_readProgram_44 L σ) (fun _ σ' => QFin τ00 t (k, some (xEnd t X k)) σ') := by
  obtain ⟨a, b, c1, d1, e⟩ := id h
  rw [FX4_readProgram_44]
  cases X with
  | error x =>
    rw [FX4_complain, if_neg (show ¬ (σ.1 4307 = 0) by rw [e.2.1]; exact e.1), b2r]
    split
    · exact Tr.ret ⟨a, e⟩
    · exact Tr.ret ⟨a, e⟩
  | ok E =>
    obtain ⟨e1, e2, nx, e3, e4, e5, e6, e7, e8⟩ := e
    have g3 : getI 4 (σ.2.2.1 36) 3 = nI (E.ct 3) := by
      have : getI 4 (σ.2.2.1 36) (nI 3) = nI (E.ct 3) := by rw [gI (by decide) (by decide)]; exact e7.2.2.1 3 (by decide)
      exact this
    have hc := e2.2.1 3 (by decide)
    have hc2 : E.ct 3 ≤ 12 := hc
    have z0 : (nI (E.ct 3) = 0) ↔ E.ct 3 = 0 := by rw [show (0 : Int32) = nI 0 from rfl, nI_eq (by omega) (by omega)]
    rw [g3]
    unfold xEnd
    by_cases z : E.ct 3 = 0
    · rw [if_pos (z0.mpr z), FX4_complain, if_pos e1, b2r]
      simp only [z, if_true]
      refine Tr.ret ⟨a.trans ⟨fun j h1 _ _ => ?_, fun _ _ => rfl, fun _ _ _ _ _ _ _ => rfl, fun _ _ _ => rfl, rfl⟩, (show (6 : Int32) ≠ 0 by decide), ?_, ?_⟩
      · rw [tI_o (by omega), tI_o (by omega)]
      · rw [tI_o (by decide), tI_g]
      · rw [tI_g]; exact b.2.2.2.2.1
    · rw [if_neg (fun y => z (z0.mp y))]
      simp only [z, if_false]
      exact Tr.ret ⟨h, z⟩
theorem cProgL {t : Tk} (hL : 2000 ≤ L) (hT : TkC t τ00) (hN : ∀ X, NumOK (cxE t X)) (h8 : τ00.1 1308 = nI 400) : ∀ (n f x : Nat) (X : Except En EnvN) (k : Nat) (r : Ps) (σ : CS), n + 2 ≤ f → 4 * x ≤ k + 4 → PSt τ00 (cxE t X) X k σ → pgm t n X k = some r → Tr (b2 (FX4_readItem L σ) fun (_ : Unit) σ' => FX4_readProgram_11 L f (nI x) σ') (fun _ σ' => QFin τ00 t r σ')
  | 0, _, _, _, _, _, _, _, _, _, hr => by cases hr
  | n+1, f, x, X, k, r, σ, hf, hx, h, hr => by
    have hk := h.2.1.1.1
    rw [pgm] at hr
    obtain ⟨⟨k', o⟩, e, p⟩ := totForm (c := cxE t X) hk
    rw [e] at hr
    refine (cItem hL hT (hN X) h8 h e).bind (fun _ σ1 q => ?_)
    cases o with
    | none =>
      have hr : some (k', none) = some r := hr
      obtain rfl := Option.some.inj hr
      exact bad11 (by omega) (by omega) q
    | some m =>
      have hr : (if t.1 k' = 53 then some (k', some (xEnd t (xAdd t X k m) k')) else pgm t n (xAdd t X k m) k') = some r := hr
      obtain ⟨p1, p2⟩ := p m rfl
      have p1 : k + 4 ≤ k' := p1
      have q : PSt τ00 (cxE t (xAdd t X k m)) (xAdd t X k m) k' σ1 := q
      have hS := q.2.1
      have h4 : σ1.1 4304 = tS t.1 k' := hS.2.2.2.1
      obtain ⟨f, rfl⟩ : ∃ z, f = z + 1 := ⟨f - 1, by omega⟩
      rw [FX4_readProgram_11, if_neg (by rw [show (400 : Int32) = nI 400 from rfl, nI_leI (by omega) (by omega)]; omega), h4]
      by_cases e5 : t.1 k' = 53
      · rw [if_pos e5] at hr
        obtain rfl := Option.some.inj hr
        rw [if_pos (by rw [tS, if_neg (fun z => z.2 e5)]; exact e5)]
        exact c44 q
      · rw [if_neg e5] at hr
        rw [if_neg (by
          rw [tS]
          split
          · decide
          · exact e5), if_pos hS.2.1, ← nI_succ]
        exact cProgL hL hT hN h8 n f (x + 1) _ k' r σ1 (by omega) (by omega) q hr
end CM
