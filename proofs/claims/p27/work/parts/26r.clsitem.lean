-- the class reads an item
/-- the names that the class keeps -/
def ClsE (E : EnvN) (nx : Nat) (τ : CS) : Prop := τ.1 2807 = nI E.nn ∧ (∀ j, j < E.nn → τ.2.2.2.1 30 j = E.wd j ∧ τ.2.2.1 32 j = nI (E.so j) ∧ (E.so j = 0 → τ.2.2.1 34 j = nI (E.no j)) ∧ (E.so j ≠ 0 → τ.2.2.1 34 j = τ.2.2.1 38 (12 * E.so j + E.no j))) ∧ (∀ s, s < 4 → τ.2.2.1 36 s = nI (E.ct s)) ∧ (∀ s i, s < 4 → s ≠ 0 → i < E.ct s → ∃ q, q < nx ∧ τ.2.2.1 38 (12 * s + i) = nI q ∧ dnV (ntC τ) q = (E.dn s i).1 ∧ (s = 1 ∨ s = 3 → dnR (ntC τ) (τ.2.2.1 17) q = (E.dn s i).2)) ∧ (∀ i, i < E.ct 0 → τ.2.2.2.1 40 i = E.fi i) ∧ ∀ i, i < E.ct 3 → τ.2.2.1 42 i = E.lv i
section CIt
variable {σ τ0 τ1 σ1 σ2 : CS} {L nx k : Nat} {E : EnvN}
theorem cFind_none {nn : Nat} {w : Int64} (h : σ.1 2807 = nI nn) (hn : nn ≤ 44) (hw : ∀ j, j < nn → σ.2.2.2.1 30 j ≠ w) : ∀ (d x f : Nat), x + d = nn → d < f → FX5_find_2 L f w (nI x) σ = some (-1, σ)
  | 0, x, f, hx, hf => by
    obtain ⟨f, rfl⟩ : ∃ z, f = z + 1 := ⟨f - 1, by omega⟩
    rw [FX5_find_2, h, if_pos (by rw [nI_leI (by omega) (by omega)]; omega)]
  | d+1, x, f, hx, hf => by
    obtain ⟨f, rfl⟩ : ∃ z, f = z + 1 := ⟨f - 1, by omega⟩
    rw [FX5_find_2, h, if_neg (by rw [nI_leI (by omega) (by omega)]; omega), gL (by omega) (by decide), if_neg (hw x (by omega)), ← nI_succ]
    exact cFind_none h hn hw d (x + 1) f (by omega) (by omega)
theorem cFind_some {nn j : Nat} {w : Int64} (h : σ.1 2807 = nI nn) (hn : nn ≤ 44) (hj : j < nn) (hw : σ.2.2.2.1 30 j = w) (hi : ∀ i, i < j → σ.2.2.2.1 30 i ≠ w) : ∀ (d x f : Nat), x + d = j → d < f → FX5_find_2 L f w (nI x) σ = some (nI j, σ)
  | 0, x, f, hx, hf => by
    obtain ⟨f, rfl⟩ : ∃ z, f = z + 1 := ⟨f - 1, by omega⟩
    have : x = j := by omega
    subst this
    rw [FX5_find_2, h, if_neg (by rw [nI_leI (by omega) (by omega)]; omega), gL (by omega) (by decide), if_pos hw]
  | d+1, x, f, hx, hf => by
    obtain ⟨f, rfl⟩ : ∃ z, f = z + 1 := ⟨f - 1, by omega⟩
    rw [FX5_find_2, h, if_neg (by rw [nI_leI (by omega) (by omega)]; omega), gL (by omega) (by decide), if_neg (hi x (by omega)), ← nI_succ]
    exact cFind_some h hn hj hw hi d (x + 1) f (by omega) (by omega)
theorem cFind_tot {nn : Nat} {w : Int64} (h : σ.1 2807 = nI nn) (hn : nn ≤ 44) (hL : 2000 ≤ L) : ∃ r, FX5_find L w σ = some (r, σ) := by
  by_cases e : ∀ j, j < nn → σ.2.2.2.1 30 j ≠ w
  · exact ⟨-1, cFind_none h hn e nn 0 L (by omega) (by omega)⟩
  · have e2 : ∃ j, j < nn ∧ σ.2.2.2.1 30 j = w := Classical.byContradiction fun q => e fun j hj z => q ⟨j, hj, z⟩
    have : ∀ m, (∃ j, j < m ∧ j < nn ∧ σ.2.2.2.1 30 j = w) → ∃ j, j < nn ∧ σ.2.2.2.1 30 j = w ∧ ∀ i, i < j → σ.2.2.2.1 30 i ≠ w := by
      intro m
      induction m with
      | zero => rintro ⟨j, hj, -⟩; omega
      | succ m ih =>
        rintro ⟨j, hj, hn2, hw⟩
        by_cases q : ∃ i, i < m ∧ i < nn ∧ σ.2.2.2.1 30 i = w
        · exact ih q
        · have hjm : j = m := Classical.byContradiction fun z => q ⟨j, by omega, hn2, hw⟩
          exact ⟨j, hn2, hw, fun i hi z => q ⟨i, by omega, by omega, z⟩⟩
    obtain ⟨j, hj, hw, hi⟩ := this nn (by obtain ⟨j, hj, hw⟩ := e2; exact ⟨j, hj, hj, hw⟩)
    exact ⟨nI j, cFind_some h hn hj hw hi j 0 L (by omega) (by omega)⟩
theorem ClsE.find (h : ClsE E nx σ) (hE : EnvOK E) (hL : 2000 ≤ L) {w : Int64} : (gmE E w = none → FX5_find L w σ = some (-1, σ)) ∧ ∀ j, j < E.nn → E.wd j = w → FX5_find L w σ = some (nI j, σ) := by
  have hn := hE.nn44
  refine ⟨fun e => ?_, fun j hj e => ?_⟩
  · exact cFind_none h.1 hn (fun j hj => by rw [(h.2.1 j hj).1]; exact (lkE_none _).mp e j hj) E.nn 0 L (by omega) (by omega)
  · refine cFind_some h.1 hn hj (by rw [(h.2.1 j hj).1]; exact e) (fun i hi z => ?_) j 0 L (by omega) (by omega)
    rw [(h.2.1 i (by omega)).1] at z
    have := hE.2.2.2 i j (by omega) hj (z.trans e.symm)
    omega
/-- the names as they are known to a reading -/
theorem ClsE.gc {c : Cx} (h : ClsE E nx σ) (hE : EnvOK E) (hL : 2000 ≤ L) (hT : okT (fun q => q < nx) (ntC σ)) (hB : ∀ q, q < nx → bdC σ q) (hΓ : c.2.2.2 = gmE E) : GC c σ (fun q => q < nx) L := by
  refine ⟨hT, hB, fun w => ⟨fun e σ' hN => ?_, fun s n D e => ?_⟩⟩
  · rw [hΓ] at e
    exact cFind_none (hN.1.trans h.1) hE.nn44 (fun j hj => by rw [hN.2, (h.2.1 j hj).1]; exact (lkE_none _).mp e j hj) E.nn 0 L (by omega) (by have := hE.nn44; omega)
  · rw [hΓ] at e
    obtain ⟨j, hj, hw, rfl, rfl, rfl⟩ := lkE_some _ e
    obtain ⟨a1, a2, a3, a4⟩ := h.2.1 j hj
    obtain ⟨b1, b2⟩ := hE.2.2.1 j hj
    have h44 := hE.nn44
    refine ⟨j, by omega, fun σ' hN => ?_, a2, ?_, fun e0 => ?_, fun e0 => ?_⟩
    · refine cFind_some (hN.1.trans h.1) h44 hj (by rw [hN.2, a1]; exact hw) (fun i hi z => ?_) j 0 L (by omega) (by omega)
      rw [hN.2, (h.2.1 i (by omega)).1] at z
      have := hE.2.2.2 i j (by omega) hj (z.trans hw.symm)
      omega
    · have : E.so j = 0 ∨ E.so j = 1 ∨ E.so j = 2 ∨ E.so j = 3 := by omega
      rcases this with e | e | e | e <;> rw [e] <;> decide
    · have e0 : E.so j = 0 := by
        have e0 : nI (E.so j) = nI 0 := e0
        rw [nI_eq (by omega) (by omega)] at e0; exact e0
      refine ⟨a3 e0, E.no j, ?_, rfl⟩
      have := hE.2.1 0 (by omega)
      rw [e0] at b2
      simp [capE] at this
      omega
    · have e1 : E.so j ≠ 0 := fun z => e0 (by rw [z]; rfl)
      obtain ⟨q, q1, q2, q3, q4⟩ := h.2.2.2.1 (E.so j) (E.no j) b1 e1 b2
      refine ⟨q, q1, (a4 e1).trans q2, q3, fun z => q4 ?_⟩
      have : E.so j = 0 ∨ E.so j = 1 ∨ E.so j = 2 ∨ E.so j = 3 := by omega
      rcases this with e | e | e | e
      · exact absurd e e1
      · exact Or.inl e
      · rw [e] at z; exact absurd z (by decide)
      · exact Or.inr e
theorem nI_mul12 {s : Nat} (hs : s < 4) {i : Nat} : nI s * 12 + nI i = nI (12 * s + i) := by
  have : s = 0 ∨ s = 1 ∨ s = 2 ∨ s = 3 := by omega
  rcases this with rfl | rfl | rfl | rfl
  · rw [show nI 0 * 12 = nI 0 from by decide, nI_add]
  · rw [show nI 1 * 12 = nI 12 from by decide, nI_add]
  · rw [show nI 2 * 12 = nI 24 from by decide, nI_add]
  · rw [show nI 3 * 12 = nI 36 from by decide, nI_add]
theorem updL_s {f : Nat → Int64} {q : Nat} {v : Int64} : vp_updL f q v q = v := by unfold vp_updL; rw [if_pos rfl]
theorem updL_n {f : Nat → Int64} {q r : Nat} {v : Int64} (h : r ≠ q) : vp_updL f q v r = f r := by unfold vp_updL; rw [if_neg h]
/-- a name is added -/
theorem cAddName {w : Int64} {s : Nat} {y0 : Int32} {D : Den} {v : Int64} {l : Int32} (hE : EnvOK E) (h : ClsE E nx σ) (hs : s < 4) (hc : E.ct s < capE s) (hr0 : s = 0 → y0 = nI (E.ct 0)) (hr1 : s ≠ 0 → ∃ q, q < nx ∧ y0 = nI q ∧ dnV (ntC σ) q = D.1 ∧ (s = 1 ∨ s = 3 → dnR (ntC σ) (σ.2.2.1 17) q = D.2)) (h40 : s = 0 → σ.2.2.2.1 40 (E.ct 0) = v) (h42 : s = 3 → σ.2.2.1 42 (E.ct 3) = l) : ∃ σ', FX5_add w (nI s) y0 σ = some ((), σ') ∧ ClsE (E.add w s D v l) nx σ' ∧ (∀ j, j ≠ 2807 → σ'.1 j = σ.1 j) ∧ σ'.2.1 = σ.2.1 ∧ (∀ j, j ≠ 32 → j ≠ 34 → j ≠ 36 → j ≠ 38 → σ'.2.2.1 j = σ.2.2.1 j) ∧ (∀ j, j ≠ 30 → σ'.2.2.2.1 j = σ.2.2.2.1 j) ∧ σ'.2.2.2.2 = σ.2.2.2.2 ∧ σ'.1 2807 = nI (E.nn + 1) := by
  obtain ⟨c1, c2, c3, c4, c5, c6⟩ := h
  have hn := hE.lt44 hs hc
  have hcs : E.ct s < 12 := by unfold capE at hc; split at hc <;> omega
  have g36 : getI 4 (σ.2.2.1 36) (nI s) = nI (E.ct s) := by rw [gI hs (by decide), c3 s hs]
  rw [FX5_add, c1, g36, nI_mul12 hs, pL hn (by decide), pI hn (by decide), pI hn (by decide), pI (show 12 * s + E.ct s < 48 by omega) (by decide), pI hs (by decide), ← nI_succ, ← nI_succ]
  refine ⟨_, rfl, ?_⟩
  generalize hσ : (tA (tA (tI (tA (tA (tB σ 30 (vp_updL (σ.2.2.2.1 30) E.nn w)) 32 (upd (σ.2.2.1 32) E.nn (nI s))) 34 (upd (σ.2.2.1 34) E.nn y0)) 2807 (nI (E.nn + 1))) 38 (upd (σ.2.2.1 38) (12 * s + E.ct s) y0)) 36 (upd (σ.2.2.1 36) s (nI (E.ct s + 1)))) = σ'
  have a32 : σ'.2.2.1 32 = upd (σ.2.2.1 32) E.nn (nI s) := by rw [← hσ]; rfl
  have a34 : σ'.2.2.1 34 = upd (σ.2.2.1 34) E.nn y0 := by rw [← hσ]; rfl
  have a36 : σ'.2.2.1 36 = upd (σ.2.2.1 36) s (nI (E.ct s + 1)) := by rw [← hσ]; rfl
  have a38 : σ'.2.2.1 38 = upd (σ.2.2.1 38) (12 * s + E.ct s) y0 := by rw [← hσ]; rfl
  have ao : ∀ j, j ≠ 32 → j ≠ 34 → j ≠ 36 → j ≠ 38 → σ'.2.2.1 j = σ.2.2.1 j := by
    intro j h1 h2 h3 h4
    rw [← hσ]
    show va_up (va_up (va_up (va_up σ.2.2.1 32 _) 34 _) 38 _) 36 _ j = _
    rw [up_n h3, up_n h4, up_n h2, up_n h1]
  have b30 : σ'.2.2.2.1 30 = vp_updL (σ.2.2.2.1 30) E.nn w := by rw [← hσ]; rfl
  have bo : ∀ j, j ≠ 30 → σ'.2.2.2.1 j = σ.2.2.2.1 j := by
    intro j h1
    rw [← hσ]
    show va_up σ.2.2.2.1 30 _ j = _
    rw [up_n h1]
  have i1 : σ'.1 2807 = nI (E.nn + 1) := by rw [← hσ]; rfl
  have io : ∀ j, j ≠ 2807 → σ'.1 j = σ.1 j := by
    intro j h1
    rw [← hσ]
    show va_up σ.1 2807 _ j = _
    rw [up_n h1]
  have nt : ntC σ' = ntC σ := by
    funext q
    unfold ntC
    rw [ao 15 (by decide) (by decide) (by decide) (by decide), ao 19 (by decide) (by decide) (by decide) (by decide), ao 21 (by decide) (by decide) (by decide) (by decide), ao 23 (by decide) (by decide) (by decide) (by decide), ao 25 (by decide) (by decide) (by decide) (by decide), ao 27 (by decide) (by decide) (by decide) (by decide)]
  have a17 := ao 17 (by decide) (by decide) (by decide) (by decide)
  refine ⟨⟨i1, fun j hj => ?_, fun t ht => ?_, fun t i ht h0 hi => ?_, fun i hi => ?_, fun i hi => ?_⟩, io, by rw [← hσ], ao, bo, by rw [← hσ], i1⟩
  · have hj : j < E.nn + 1 := hj
    show σ'.2.2.2.1 30 j = eUp E.wd E.nn w j ∧ σ'.2.2.1 32 j = nI (eUp E.so E.nn s j) ∧ (eUp E.so E.nn s j = 0 → σ'.2.2.1 34 j = nI (eUp E.no E.nn (E.ct s) j)) ∧ (eUp E.so E.nn s j ≠ 0 → σ'.2.2.1 34 j = σ'.2.2.1 38 (12 * eUp E.so E.nn s j + eUp E.no E.nn (E.ct s) j))
    rw [b30, a32, a34, a38]
    by_cases e : j = E.nn
    · subst e
      rw [eUp_s, eUp_s, eUp_s, updL_s, upd_s, upd_s, upd_s]
      exact ⟨rfl, rfl, fun z => by subst z; exact hr0 rfl, fun _ => rfl⟩
    · obtain ⟨z1, z2, z3, z4⟩ := c2 j (by omega)
      rw [eUp_n e, eUp_n e, eUp_n e, updL_n e, upd_n e, upd_n e]
      refine ⟨z1, z2, z3, fun z => ?_⟩
      obtain ⟨y1, y2⟩ := hE.2.2.1 j (by omega)
      have y3 : E.ct (E.so j) ≤ 12 := by
        have := hE.2.1 (E.so j) y1
        unfold capE at this; split at this <;> omega
      rw [upd_n (show 12 * E.so j + E.no j ≠ 12 * s + E.ct s by
        intro q
        have : E.so j = s := by omega
        rw [this] at y2 q; omega)]
      exact z4 z
  · show σ'.2.2.1 36 t = nI (eUp E.ct s (E.ct s + 1) t)
    rw [a36]
    by_cases e : t = s
    · rw [e, eUp_s, upd_s]
    · rw [eUp_n e, upd_n e]; exact c3 t ht
  · have hi : i < eUp E.ct s (E.ct s + 1) t := hi
    show ∃ q, q < nx ∧ σ'.2.2.1 38 (12 * t + i) = nI q ∧ dnV (ntC σ') q = ((if t = s then eUp (E.dn t) (E.ct s) D else E.dn t) i).1 ∧ (t = 1 ∨ t = 3 → dnR (ntC σ') (σ'.2.2.1 17) q = ((if t = s then eUp (E.dn t) (E.ct s) D else E.dn t) i).2)
    rw [nt, a17, a38]
    by_cases e : t = s
    · subst e
      rw [eUp_s] at hi
      rw [if_pos rfl]
      by_cases e2 : i = E.ct t
      · rw [e2, upd_s, eUp_s]; exact hr1 h0
      · rw [upd_n (by omega), eUp_n e2]; exact c4 t i ht h0 (by omega)
    · rw [eUp_n e] at hi
      rw [if_neg e]
      have y3 : E.ct t ≤ 12 := by
        have := hE.2.1 t ht
        unfold capE at this; split at this <;> omega
      rw [upd_n (by omega)]
      exact c4 t i ht h0 hi
  · have hi : i < eUp E.ct s (E.ct s + 1) 0 := hi
    show σ'.2.2.2.1 40 i = (if s = 0 then eUp E.fi (E.ct 0) v else E.fi) i
    rw [bo 40 (by decide)]
    by_cases e : s = 0
    · subst e
      rw [eUp_s] at hi
      rw [if_pos rfl]
      by_cases e2 : i = E.ct 0
      · rw [e2, eUp_s]; exact h40 rfl
      · rw [eUp_n e2]; exact c5 i (by omega)
    · rw [eUp_n (fun z => e z.symm)] at hi
      rw [if_neg e]; exact c5 i hi
  · have hi : i < eUp E.ct s (E.ct s + 1) 3 := hi
    show σ'.2.2.1 42 i = (if s = 3 then eUp E.lv (E.ct 3) l else E.lv) i
    rw [ao 42 (by decide) (by decide) (by decide) (by decide)]
    by_cases e : s = 3
    · subst e
      rw [eUp_s] at hi
      rw [if_pos rfl]
      by_cases e2 : i = E.ct 3
      · rw [e2, eUp_s]; exact h42 rfl
      · rw [eUp_n e2]; exact c6 i (by omega)
    · rw [eUp_n (fun z => e z.symm)] at hi
      rw [if_neg e]; exact c6 i hi
end CIt
