-- the reference's second reading of an item
section RN
variable {σ00 σ0 σ σ1 σ2 σ3 : MS} {V0 : Nat → Prop} {lo L len k nx : Nat} {kw : Nat → Int64} {bt : Nat → Int32} {c : Cx} {E : EnvN}
/-- between items -/
def PSm (σ00 : MS) (S : Nat → Int32) (E : EnvN) (k : Nat) (σ : MS) : Prop := FrN σ00 σ ∧ σ.1 7 = nI k ∧ Rk S k ∧ EnvOK E ∧ ∃ nx, σ.1 8 = nI nx ∧ nx ≤ k ∧ okT (fun q => q < nx) (ntM σ) ∧ (∀ q, q < nx → okB (ntM σ q)) ∧ RefE E nx σ ∧ σ.1 3 = -1
theorem RefE.int (h : RefE E nx σ) {j : Nat} {v : Int32} (hj : j ≠ 19) : RefE E nx (sI σ j v) := ⟨by rw [sI_o (fun z => hj z.symm)]; exact h.1, h.2⟩
theorem RefE.fr (h : RefE E nx σ0) (hF : FrM σ0 nx σ) (hT : okT (fun q => q < nx) (ntM σ0)) {m : Nat} (hm : nx ≤ m) : RefE E m σ := by
  obtain ⟨c1, c2, c3, c4, c5, c6⟩ := h
  obtain ⟨f1, f2, f3, f4⟩ := hF
  refine ⟨by rw [f1 19 (by decide) (by decide) (by decide) (by decide) (by decide) (by decide)]; exact c1, fun j hj => by rw [f4, f2 21 (by omega), f2 22 (by omega)]; exact c2 j hj, fun s hs => by rw [f2 23 (by omega)]; exact c3 s hs, fun s i hs h0 hi => ?_, fun i hi => by rw [f4]; exact c5 i hi, fun i hi => by rw [f2 26 (by omega)]; exact c6 i hi⟩
  obtain ⟨q, q1, q2, q3, q4⟩ := c4 s i hs h0 hi
  refine ⟨q, by omega, by rw [f2 25 (by omega)]; exact q2, ?_, fun z => ⟨?_, (q4 z).2⟩⟩
  · rw [← q3]; exact dnV_table hT (fun n hn => ntM_row (fun j => f3 j n hn)) q1
  · rw [← (q4 z).1]; exact dnR_table hT (fun n hn => ⟨ntM_row (fun j => f3 j n hn), f3 15 n hn⟩) q1
theorem RefE.w25 (h : RefE E nx σ) (hE : EnvOK E) {s : Nat} {v : Int32} (hs : s < 4) (hct : E.ct s < 12) : RefE E nx (sA σ 25 (upd (σ.2.1 25) (12 * s + E.ct s) v)) := by
  obtain ⟨c1, c2, c3, c4, c5, c6⟩ := h
  refine ⟨c1, c2, c3, fun t i ht h0 hi => ?_, c5, c6⟩
  have y3 : ∀ a, a < 4 → E.ct a ≤ 12 := by
    intro a ha
    have := hE.2.1 a ha
    unfold capE at this; split at this <;> omega
  have := y3 s hs
  have := y3 t ht
  have e : (sA σ 25 (upd (σ.2.1 25) (12 * s + E.ct s) v)).2.1 25 (12 * t + i) = σ.2.1 25 (12 * t + i) := by
    rw [sA_row, upd_n (by
      intro q
      by_cases z : t = s
      · subst z; omega
      · omega)]
  rw [e]
  exact c4 t i ht h0 hi
theorem RefE.w26 (h : RefE E nx σ) {v : Int32} : RefE E nx (sA σ 26 (upd (σ.2.1 26) (E.ct 3) v)) := by
  obtain ⟨c1, c2, c3, c4, c5, c6⟩ := h
  exact ⟨c1, c2, c3, c4, c5, fun i hi => by rw [sA_row, upd_n (by omega)]; exact c6 i hi⟩
theorem RefE.w24 (h : RefE E nx σ) {v : Int64} : RefE E nx (sB σ 24 (vp_updL (σ.2.2 24) (E.ct 0) v)) := by
  obtain ⟨c1, c2, c3, c4, c5, c6⟩ := h
  refine ⟨c1, fun j hj => by rw [sB_o (by decide)]; exact c2 j hj, c3, c4, fun i hi => ?_, c6⟩
  rw [sB_row, updL_n (by omega)]; exact c5 i hi
/-- a name is added -/
theorem r334 {s kk : Nat} {w wd : Int64} {D : Den} {v : Int64} {l : Int32} (hF : FrN σ00 σ) (h7 : σ.1 7 = nI kk) (hk : Rk c.1 kk) (h36 : c.1 kk = 36) (h4 : kk ≠ 400) (h8 : σ.1 8 = nI nx) (hp3 : σ.1 3 = -1) (hnx : nx ≤ kk + 1) (hok : okT (fun q => q < nx) (ntM σ)) (hB : ∀ q, q < nx → okB (ntM σ q)) (hE : EnvOK E) (h : RefE E nx σ) (hs : s < 4) (hct : E.ct s < capE s) (hg : gmE E wd = none) (hw : FX11_nameOf L (nI (k + 1)) σ = some (w, σ)) (hTX : TX wd w) (hr : s ≠ 0 → ∃ q, q < nx ∧ σ.2.1 25 (12 * s + E.ct s) = nI q ∧ dnV (ntM σ) q = D.1 ∧ (s = 1 ∨ s = 3 → dnR (ntM σ) (σ.2.1 15) q = D.2 ∧ BlD D)) (h24 : s = 0 → σ.2.2 24 (E.ct 0) = v) (h26 : s = 3 → σ.2.1 26 (E.ct 3) = l) : ∃ σ', FX11_itemMeant_334 L (nI s) (nI (k + 1)) σ = some (0, σ') ∧ PSm σ00 c.1 (E.add wd s D v l) (kk + 1) (sI σ' 7 (σ'.1 7 + 1)) := by
  obtain ⟨c1, c2, c3, c4, c5, c6⟩ := h
  have hn := hE.lt44 hs hct
  have y3 : ∀ a, a < 4 → E.ct a ≤ 12 := by
    intro a ha
    have := hE.2.1 a ha
    unfold capE at this; split at this <;> omega
  have := y3 s hs
  rw [FX11_itemMeant_334, hw, b2r, c1, if_neg (nI_in hn (by decide)), if_neg (nI_in hn (by decide)), if_neg (nI_in hs (by decide)), if_neg (nI_in hn (by decide)), if_neg (nI_in hs (by decide)), if_neg (nI_in hs (by decide)), nI_clamp (by omega), nI_clamp (by omega), c3 s hs, ← nI_succ, ← nI_succ]
  refine ⟨_, rfl, ?_⟩
  generalize hσ : (sA (sI (sA (sA (sB σ 20 (vp_updL (σ.2.2 20) E.nn w)) 21 (upd (σ.2.1 21) E.nn (nI s))) 22 (upd (σ.2.1 22) E.nn (nI (E.ct s)))) 19 (nI (E.nn + 1))) 23 (upd (σ.2.1 23) s (nI (E.ct s + 1)))) = σ'
  have a21 : σ'.2.1 21 = upd (σ.2.1 21) E.nn (nI s) := by rw [← hσ]; rfl
  have a22 : σ'.2.1 22 = upd (σ.2.1 22) E.nn (nI (E.ct s)) := by rw [← hσ]; rfl
  have a23 : σ'.2.1 23 = upd (σ.2.1 23) s (nI (E.ct s + 1)) := by rw [← hσ]; rfl
  have ao : ∀ j, j ≠ 21 → j ≠ 22 → j ≠ 23 → σ'.2.1 j = σ.2.1 j := by
    intro j h1 h2 h3
    rw [← hσ]
    show va_up (va_up (va_up σ.2.1 21 _) 22 _) 23 _ j = _
    rw [up_n h3, up_n h2, up_n h1]
  have b20 : σ'.2.2 20 = vp_updL (σ.2.2 20) E.nn w := by rw [← hσ]; rfl
  have bo : ∀ j, j ≠ 20 → σ'.2.2 j = σ.2.2 j := by
    intro j h1
    rw [← hσ]
    show va_up σ.2.2 20 _ j = _
    rw [up_n h1]
  have i19 : σ'.1 19 = nI (E.nn + 1) := by rw [← hσ]; rfl
  have io : ∀ j, j ≠ 19 → σ'.1 j = σ.1 j := by
    intro j h1
    rw [← hσ]
    show va_up σ.1 19 _ j = _
    rw [up_n h1]
  have nt : ntM σ' = ntM σ := by
    funext q
    unfold ntM
    rw [ao 9 (by decide) (by decide) (by decide), ao 10 (by decide) (by decide) (by decide), ao 11 (by decide) (by decide) (by decide), ao 12 (by decide) (by decide) (by decide), ao 13 (by decide) (by decide) (by decide), ao 14 (by decide) (by decide) (by decide)]
  have a15 := ao 15 (by decide) (by decide) (by decide)
  have R : RefE (E.add wd s D v l) nx σ' := by
    refine ⟨i19, fun j hj => ?_, fun t ht => ?_, fun t i ht h0 hi => ?_, fun i hi => ?_, fun i hi => ?_⟩
    · have hj : j < E.nn + 1 := hj
      show TX (eUp E.wd E.nn wd j) (σ'.2.2 20 j) ∧ σ'.2.1 21 j = nI (eUp E.so E.nn s j) ∧ σ'.2.1 22 j = nI (eUp E.no E.nn (E.ct s) j)
      rw [b20, a21, a22]
      by_cases e : j = E.nn
      · subst e
        rw [eUp_s, eUp_s, eUp_s, updL_s, upd_s, upd_s]
        exact ⟨hTX, rfl, rfl⟩
      · rw [eUp_n e, eUp_n e, eUp_n e, updL_n e, upd_n e, upd_n e]
        exact c2 j (by omega)
    · show σ'.2.1 23 t = nI (eUp E.ct s (E.ct s + 1) t)
      rw [a23]
      by_cases e : t = s
      · rw [e, eUp_s, upd_s]
      · rw [eUp_n e, upd_n e]; exact c3 t ht
    · have hi : i < eUp E.ct s (E.ct s + 1) t := hi
      show ∃ q, q < nx ∧ σ'.2.1 25 (12 * t + i) = nI q ∧ dnV (ntM σ') q = ((if t = s then eUp (E.dn t) (E.ct s) D else E.dn t) i).1 ∧ (t = 1 ∨ t = 3 → dnR (ntM σ') (σ'.2.1 15) q = ((if t = s then eUp (E.dn t) (E.ct s) D else E.dn t) i).2 ∧ BlD ((if t = s then eUp (E.dn t) (E.ct s) D else E.dn t) i))
      rw [nt, a15, ao 25 (by decide) (by decide) (by decide)]
      by_cases e : t = s
      · subst e
        rw [eUp_s] at hi
        rw [if_pos rfl]
        by_cases e2 : i = E.ct t
        · rw [e2, eUp_s]; exact hr h0
        · rw [eUp_n e2]; exact c4 t i ht h0 (by omega)
      · rw [eUp_n e] at hi
        rw [if_neg e]
        exact c4 t i ht h0 hi
    · have hi : i < eUp E.ct s (E.ct s + 1) 0 := hi
      show σ'.2.2 24 i = (if s = 0 then eUp E.fi (E.ct 0) v else E.fi) i
      rw [bo 24 (by decide)]
      by_cases e : s = 0
      · subst e
        rw [eUp_s] at hi
        rw [if_pos rfl]
        by_cases e2 : i = E.ct 0
        · rw [e2, eUp_s]; exact h24 rfl
        · rw [eUp_n e2]; exact c5 i (by omega)
      · rw [eUp_n (fun z => e z.symm)] at hi
        rw [if_neg e]; exact c5 i hi
    · have hi : i < eUp E.ct s (E.ct s + 1) 3 := hi
      show σ'.2.1 26 i = (if s = 3 then eUp E.lv (E.ct 3) l else E.lv) i
      rw [ao 26 (by decide) (by decide) (by decide)]
      by_cases e : s = 3
      · subst e
        rw [eUp_s] at hi
        rw [if_pos rfl]
        by_cases e2 : i = E.ct 3
        · rw [e2, eUp_s]; exact h26 rfl
        · rw [eUp_n e2]; exact c6 i (by omega)
      · rw [eUp_n (fun z => e z.symm)] at hi
        rw [if_neg e]; exact c6 i hi
  have fN : FrN σ σ' := ⟨fun j _ _ _ _ _ _ z => io j z, fun j _ h1 h2 h3 _ _ => ao j h1 h2 h3, fun j h1 _ => bo j h1⟩
  refine ⟨(hF.trans fN).int (Or.inr rfl), ?_, hk.next h4 (by rw [h36]; decide) (by rw [h36]; decide), hE.add hs hct hg, nx, ?_, hnx, ?_, ?_, R.int (by decide), by rw [sI_o (by decide), io 3 (by decide)]; exact hp3⟩
  · rw [sI_g, io 7 (by decide), h7, nI_succ]
  · rw [sI_o (by decide), io 8 (by decide)]; exact h8
  · show okT _ (ntM σ')
    rw [nt]; exact hok
  · intro q hq
    show okB (ntM σ' q)
    rw [nt]; exact hB q hq
end RN
