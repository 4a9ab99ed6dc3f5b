-- the class reads items: the other sorts, and a whole one
section CL
variable {τ00 τ0 τ1 σ σ1 σ2 : CS} {c : Cx} {V0 : Nat → Prop} {lo : Nat × Nat} {L nx k n : Nat} {md : Option En} {p : Int32} {E : EnvN}
/-- what an item finds -/
def HnE (E : EnvN) (md : Option En) (n nx s : Nat) (w : Int64) : Prop := md = none → EnvOK E ∧ n ≤ nx ∧ E.ct s < capE s ∧ gmE E w = none
theorem cI2 {w : Int64} {r : Rs} (hL : 2000 ≤ L) (hN : NumOK c) (h : Bn τ00 c E n L md nx (k + 3) σ) (hn : HnE E md n nx 2 w) (hr : iBody c 2 (k + 3) = some r) : Tr (b2 (FSC4 L dSC4 8 0 σ) fun r_19 σ_19 => FX4_readItem_107 L 2 w r_19 σ_19) (fun _ σ' => QBo τ00 c E md w 2 k r σ') := by
  rw [iBody, if_neg (by decide), if_pos rfl] at hr
  refine (cCall (X := 4) (Y := 8) (rank := 5) (f := false) hN h (fun τ1 V0 lo hc => (clsOK hc hN 700).2.2.2.2.2.1) (by decide) (fun hm => (hn hm).2.1) hr).bind (fun a σ' q => ?_)
  rcases q with ⟨k1, rfl, q⟩ | ⟨k1, m, nx1, h1, h2, l1, hB, hNI⟩
  · exact bad107 q
  · rw [FX4_readItem_107, if_neg (by decide)]
    refine (cI118 (s := 2) (w := w) (y0 := a) (D := vl m) (v := iFi c k) (l := iLv c k) hL hB (by decide) h2 (fun hm => ?_)).mono (fun _ σ' q => QBo.of h2 rfl q)
    obtain ⟨y1, -⟩ := nmd_n hm
    obtain ⟨a1, a2, a3, a4⟩ := hn y1
    exact ⟨a1, by omega, a3, a4, fun z => absurd z (by decide), fun _ => hNI hm, fun z => absurd z (by decide)⟩
theorem cI1 {w : Int64} {r : Rs} (hL : 2000 ≤ L) (hN : NumOK c) (h : Bn τ00 c E n L md nx (k + 3) σ) (hn : HnE E md n nx 1 w) (hr : iBody c 1 (k + 3) = some r) : Tr (b2 (FSC4 L dSC4 0 0 σ) fun r_19 σ_19 => FX4_readItem_107 L 1 w r_19 σ_19) (fun _ σ' => QBo τ00 c E md w 1 k r σ') := by
  rw [iBody, if_neg (by decide), if_neg (by decide), if_pos rfl] at hr
  refine (cCall (X := 0) (Y := 0) (rank := 11) (f := true) hN h (fun τ1 V0 lo hc => (clsOK hc hN 700).1) (by decide) (fun hm => (hn hm).2.1) hr).bind (fun a σ' q => ?_)
  rcases q with ⟨k1, rfl, q⟩ | ⟨k1, m, nx1, h1, h2, l1, hB, hNI⟩
  · exact bad107 q
  · rw [FX4_readItem_107, if_neg (by decide)]
    refine (cI118 (s := 1) (w := w) (y0 := a) (D := vl m) (v := iFi c k) (l := iLv c k) hL hB (by decide) h2 (fun hm => ?_)).mono (fun _ σ' q => QBo.of h2 rfl q)
    obtain ⟨y1, -⟩ := nmd_n hm
    obtain ⟨a1, a2, a3, a4⟩ := hn y1
    exact ⟨a1, by omega, a3, a4, fun z => absurd z (by decide), fun _ => hNI hm, fun z => absurd z (by decide)⟩
/-- behind a watch's level -/
theorem cI3T {w : Int64} {r : Rs} {md' : Option En} {m' : MV} {x1 y0 : Int32} {kk : Nat} (hL : 2000 ≤ L) (h : Bn τ00 c E n L md' nx kk σ) (hmd : md' = nmd md m') (hx : md' = none → x1 = iLv c k) (hn : HnE E md n nx 3 w) (hNI : md' = none → NI (fun q => q < n) (n, 400) nx true σ y0 (vl m')) (hr : (ex c 36 kk fun k6 => some (k6, some m')) = some r) : Tr (b2 (FX4_readLevel_50 x1 σ) fun (_ : Unit) s => FX4_readItem_118 L 3 w y0 s) (fun _ σ' => QBo τ00 c E md w 3 k r σ') := by
  have g36 : md' = none → getI 4 (σ.2.2.1 36) 3 = nI (E.ct 3) := by
    intro hm
    obtain ⟨τ1, V0, lo, a, b, d, e, f, g⟩ := h
    obtain ⟨g1, g2, g3⟩ := g hm
    have : getI 4 (σ.2.2.1 36) (nI 3) = nI (E.ct 3) := by
      rw [gI (by decide) (by decide), f.1.2.2.1 36 (nNRd (by decide))]
      exact g3.2.2.1 3 (by decide)
    exact this
  have h42 : md' = none → ∀ i, i < E.ct 3 → putI 12 (σ.2.2.1 42) (getI 4 (σ.2.2.1 36) 3) x1 i = E.lv i := by
    intro hm i hi
    rw [g36 hm]
    have hm2 := hm
    rw [hmd] at hm2
    have h12 : E.ct 3 < 12 := (hn (nmd_n hm2).1).2.2.1
    obtain ⟨τ1, V0, lo, a, b, d, e, f, g⟩ := h
    obtain ⟨g1, g2, g3⟩ := g hm
    rw [pI h12 (by decide), upd_n (by omega), f.1.2.2.1 42 (nNRd (by decide))]
    exact g3.2.2.2.2.2 i hi
  have hB := h.a42 (f := putI 12 (σ.2.2.1 42) (getI 4 (σ.2.2.1 36) 3) x1) h42
  rw [FX4_readLevel_50, b2r]
  refine (cI118 (s := 3) (w := w) (y0 := y0) (D := vl m') (v := iFi c k) (l := iLv c k) hL hB (by decide) hr (fun hm => ?_)).mono (fun _ σ' q => QBo.of hr hmd q)
  have hm2 := hm
  rw [hmd] at hm2
  obtain ⟨a1, a2, a3, a4⟩ := hn (nmd_n hm2).1
  have h12 : E.ct 3 < 12 := a3
  refine ⟨a1, a2, a3, a4, fun z => absurd z (by decide), fun _ => hNI hm, fun _ => ?_⟩
  rw [tA_row, g36 hm, pI h12 (by decide), upd_s]
  exact hx hm
theorem nmd_lvM {k5 : Nat} {m : MV} : nmd md (lvM c k5 m) = if nb c k5 ≤ 9 then nmd md m else nmdE (nmd md m) (5, c.2.1 k5) := by
  cases md with
  | some e => by_cases z : nb c k5 ≤ 9 <;> simp [nmd, nmdE, z]
  | none =>
    cases m with
    | error e => by_cases z : nb c k5 ≤ 9 <;> simp [nmd, nmdE, lvM, z]
    | ok D => by_cases z : nb c k5 ≤ 9 <;> simp [nmd, nmdE, lvM, z]
theorem vl_lvM {k5 : Nat} {m : MV} (h : nmd md (lvM c k5 m) = none) : vl (lvM c k5 m) = vl m := by
  obtain ⟨-, D, e⟩ := nmd_n h
  cases m with
  | error x => cases e
  | ok D' =>
    unfold lvM at e ⊢
    by_cases z : nb c k5 ≤ 9
    · simp only [z, if_true]
    · simp only [z, if_false] at e; cases e
theorem cI3 {w : Int64} {r : Rs} (hL : 2000 ≤ L) (hN : NumOK c) (h : Bn τ00 c E n L md nx (k + 3) σ) (hn : HnE E md n nx 3 w) (hr : iBody c 3 (k + 3) = some r) : Tr (b2 (FSC4 L dSC4 0 0 σ) fun r_19 σ_19 => FX4_readItem_107 L 3 w r_19 σ_19) (fun _ σ' => QBo τ00 c E md w 3 k r σ') := by
  rw [iBody, if_neg (by decide), if_neg (by decide), if_neg (by decide)] at hr
  refine (cCall (X := 0) (Y := 0) (rank := 11) (f := true) hN h (fun τ1 V0 lo hc => (clsOK hc hN 700).1) (by decide) (fun hm => (hn hm).2.1) hr).bind (fun a σ' q => ?_)
  rcases q with ⟨k1, rfl, q⟩ | ⟨k1, m, nx1, h1, h2, l1, hB, hNI⟩
  · exact bad107 q
  · rw [FX4_readItem_107, if_pos rfl, FX4_readLevel]
    have hS := hB.sy
    have hn1 : HnE E md n nx1 3 w := fun hm => by
      obtain ⟨a1, a2, a3, a4⟩ := hn hm
      exact ⟨a1, by omega, a3, a4⟩
    have lv : iLv c k = if c.1 k1 = 4 then nb c (k1 + 1) else 5 := by unfold iLv; rw [h1]
    rw [hS.2.2.2.1]
    by_cases e4 : c.1 k1 = 4
    · rw [if_pos e4] at h2 lv
      rcases goI (by decide) e4 h2 with ⟨ht, hr⟩ | ⟨ht, rfl⟩
      · obtain ⟨σ1, e1, hB1, hCh⟩ := hB.nxt ht (by decide) (by decide)
        have hS1 := hB1.sy
        rw [if_pos ht, e1, b2r, hS1.2.2.2.1]
        have tail : ∀ (md' : Option En) (s9 : CS), s9.2 = σ1.2 → Bn τ00 c E n L md' nx1 (k1 + 1) s9 → (tS c.1 (k1 + 1) = 52 → md' = nmd md (lvM c (k1 + 1) m)) → Tr (b2 (FX4_readLevel_44 (σ1.2.1 4306).toInt32 s9) fun (_ : Unit) s => FX4_readItem_118 L 3 w a s) (fun _ σ' => QBo τ00 c E md w 3 k r σ') := by
          intro md' s9 h9 hB9 hmd
          obtain ⟨q1, q2⟩ := hB9.exp (s := 52) (by decide) (by decide)
          rw [FX4_readLevel_44]
          rcases exI (by decide) (by decide) hr with ⟨hs52, hr⟩ | ⟨hs52, rfl⟩
          · obtain ⟨s10, e10, hB10, hCh10⟩ := q1 hs52
            rw [e10, b2r]
            refine cI3T hL hB10 (hmd hs52) (fun _ => ?_) hn1 (fun hm => ?_) hr
            · rw [lv]
              have h5 := hS1.2.2.2.2.2 (Or.inr (tS_lit hs52 (by decide) (by decide)).1)
              rw [h5]; rfl
            · have hm2 := hm
              rw [hmd hs52] at hm2
              rw [vl_lvM hm2]
              have hm3 : nmd md m = none := by
                rw [nmd_lvM] at hm2
                split at hm2
                · exact hm2
                · cases hz : nmd md m with
                  | none => rfl
                  | some e => rw [hz] at hm2; cases hm2
              exact (hNI hm3).same (by rw [hCh10.2.2, h9, hCh.2.2])
          · have t : Tr (b2 (FX4_expect (52 : Int32) s9) fun (_ : Unit) σ_4 => FX4_readLevel_50 (σ1.2.1 4306).toInt32 σ_4) (fun _ s => BdP τ00 (c.2.1 (k1 + 1)) s) := (q2 hs52).bind (fun _ σ' q => by rw [FX4_readLevel_50]; exact Tr.ret q.1.a42)
            exact t.bind (fun a σ' q => bad118 q)
        by_cases e52 : tS c.1 (k1 + 1) = 52
        · rw [if_pos e52]
          have h5 := hS1.2.2.2.2.2 (Or.inr (tS_lit e52 (by decide) (by decide)).1)
          have h6 : (σ1.2.1 4306).toInt32 = nb c (k1 + 1) := by rw [h5]; rfl
          by_cases z9 : (σ1.2.1 4306).toInt32 ≤ 9
          · rw [if_pos z9]
            refine tail _ σ1 rfl hB1 (fun _ => ?_)
            rw [nmd_lvM, if_pos (by rw [← h6]; exact z9)]
          · rw [if_neg z9]
            obtain ⟨s9, e9, hB9, h9⟩ := hB1.complain (e := 5) (q := σ1.1 4305) (by decide)
            rw [e9, b2r]
            refine tail _ s9 h9 hB9 (fun _ => ?_)
            rw [nmd_lvM, if_neg (by rw [← h6]; exact z9), hS1.2.2.2.2.1]
        · rw [if_neg e52]
          exact tail _ σ1 rfl hB1 (fun z => absurd z e52)
      · rw [ht, if_neg (by decide), FX4_readLevel_50, b2r]
        have hB9 : BdP τ00 (c.2.1 k1) (tA σ' 42 (putI 12 (σ'.2.2.1 42) (getI 4 (σ'.2.2.1 36) 3) 5)) := by
          obtain ⟨τ1, V0, lo, z1, z2, z3, z4, z5, z6⟩ := hB
          have : BdP τ00 (c.2.1 k1) σ' := ⟨τ1, lo, z1, z5.1, z5.2.1.bad ht⟩
          exact this.a42
        exact bad118 hB9
    · rw [if_neg e4] at h2 lv
      have ht : tS c.1 k1 ≠ 4 := fun z => e4 (tS_lit z (by decide) (by decide)).1
      rw [if_neg ht]
      exact cI3T hL hB rfl (fun _ => lv.symm) hn1 hNI h2
end CL
