-- why, and answers to a question
section RY
variable {σ σ1 σ2 : MS} {τ τ1 τ2 : CS} {kw : Nat → Int64} {len nm nc st ks km c m L i : Nat} {E : EnvN}
theorem ok_why : OK_why (Rel kw) := by
  intro σ τ h p0 p1 p2 hp2
  obtain ⟨len, E, nm, nc, st, ks, km, hW⟩ := id h
  obtain ⟨hT, hP, hH, hK, hM, hC, hA⟩ := id hW
  have bad : ∃ σ', FX11_why_21 LF (sI σ 0 0) = some (0, σ') ∧ σ'.1 0 = 1 ∧ Rel kw σ' τ := ⟨sI (sI σ 0 0) 0 1, by rw [FX11_why_21, FX11_no, b2r], sI_g, h.s0.s0⟩
  obtain ⟨σb, b1, b2', b3⟩ := bad
  have c12 : E.ct 3 ≤ 12 := hP.1.c12 (by decide)
  have h120 := hH.1
  rcases watchCase (σ := sI σ 0 0) (hP.2.2.1.2.2.1 3 (by decide)) (hP.2.2.2.1.2.2.1 3 (by decide)) c12 p0 with ⟨w, hw, rfl, e1, e2⟩ | ⟨e1, e2⟩
  · rcases stepCase (σ := sI σ 0 0) hH.2.1 hH.2.2.1 h120 p1 with ⟨i, hi, rfl, e3, e4⟩ | ⟨e3, e4⟩
    · obtain ⟨qm, qc, a1, a2, a3, a4, a5, a6⟩ := itemV (s := 3) hP hH hM hC (by decide) (by decide) hw
      have x1 := rWaV (σ := sI σ 0 0) hP hH hM hC hw hi
      have x2 : FX10_reckoned 3 (nI w) (nI i) τ = some ((E.dn 3 w).1 (hsC τ) i, τ) := cReV (s := 3) hP hH hM hC (by decide) (by decide) hw hi
      have i36 : (36 : Int32) + nI w = nI (12 * 3 + w) := nI_add 36 w
      by_cases z : (E.dn 3 w).1 (hsC τ) i = 0
      · have zb : nzV ((E.dn 3 w).1 (hsC τ) i) = false := nz0'.mp z
        obtain ⟨p1', p2', p3, p4, ⟨p5, p6, p7, p8⟩, ⟨p9, q1, q2, q3⟩, q4, q5⟩ := id hP
        -- the class
        have vc : vaN (ntC τ) (hsC τ) qc i = 0 := by rw [← hC qc a2 i hi, (a5 i hi).2]; exact z
        obtain ⟨r, s, r1, r2, r3⟩ := cReason (i0 := st) (L := LF) q2 q3 (fun m hm => by have hm : m < nc := hm; omega) (by decide) (fun i hi => hH.2.2.2.1.vt h120 hi) h120 hC qc i 0 5000 a2 hi vc (by omega) (by omega)
        have r2 : FX6_findReason LF (nI qc) (nI i) τ = some ((), st2 τ (nI r) (nI s)) := r2
        have er : reN (ntC τ) (τ.2.2.1 17) (hsC τ) qc i = (E.dn 3 w).2 (hsC τ) i := by rw [← (a6 (Or.inr rfl)).2.2]; rfl
        rw [er] at r3
        -- the reference
        have vm : vaN (ntM σ) (hsM σ) qm i = 0 := by rw [← hM qm a1 i hi, (a5 i hi).1]; exact z
        have rr := rReason (σ := sI σ 0 0) (i0 := st) (L := LF) p7 (fun m hm => by have hm : m < nm := hm; omega) (by decide) h120 hM qm i 1300 a1 hi vm (by omega)
        have em : reN (ntM σ) (σ.2.1 15) (hsM σ) qm i = (E.dn 3 w).2 (hsC τ) i := by rw [re8 p7 a1 (hH.h8 hi), ← (a6 (Or.inr rfl)).2.1]; rfl
        have rr : FSC3 LF dSC3 0 (nI qm) (nI i) 0 (sI σ 0 0) = some ((reN (ntM σ) (σ.2.1 15) (hsM σ) qm i).1, sI (sI σ 0 0) 39 (reN (ntM σ) (σ.2.1 15) (hsM σ) qm i).2) := rr
        rw [em, ← r3] at rr
        have rel : Rel kw (sI (sI σ 0 0) 39 (nI s)) (st2 τ (nI r) (nI s)) := ⟨len, E, nm, nc, st, ks, km, hT, hP, hH, hK, hM, hC, hA⟩
        have z0 : (sI (sI σ 0 0) 39 (nI s)).1 0 = 0 := by rw [sI_o (by decide)]; exact sI_g
        have C : FX10_why LF (nI w) (nI i) p2 τ = if p2 = 0 then some (.inr (τ.2.2.1 17 r), st2 τ (nI r) (nI s)) else some (.inr (nI s), st2 τ (nI r) (nI s)) := by
          rw [FX10_why, e2, b2r, if_neg (by decide), e4, b2r, if_neg (by decide), x2, b2r, if_pos z, FX5_rootOf, show (3 : Int32) * 12 + nI w = nI (12 * 3 + w) from nI_add 36 w, gI (show 12 * 3 + w < 48 by omega) (by decide), a4, b2r, r2, b2r, st2_1, st2_2]
          rw [show (st2 τ (nI r) (nI s)).2.2.1 17 = τ.2.2.1 17 from rfl, gI r1 (by decide)]
        have M : FX11_why LF (nI w) (nI i) p2 σ = if p2 = 0 then some (τ.2.2.1 17 r, sI (sI σ 0 0) 39 (nI s)) else some (nI s, sI (sI σ 0 0) 39 (nI s)) := by
          rw [FX11_why, e1, b2r, if_neg (by decide), e3, b2r, if_neg (by decide), x1, b2r, zb, bI_f, if_pos rfl, i36, if_neg (nI_in (show 12 * 3 + w < 48 by omega) (by decide)), nI_clamp (by omega), show (sI σ 0 0).2.1 25 (12 * 3 + w) = nI qm from a3, rr, b2r, sI_g]
        rw [C, M]
        rcases hp2 with rfl | rfl
        · exact ⟨.inr (τ.2.2.1 17 r), st2 τ (nI r) (nI s), 0, τ.2.2.1 17 r, sI (sI σ 0 0) 39 (nI s), if_pos rfl, rfl, if_pos rfl, z0, fun _ => rfl, rel⟩
        · exact ⟨.inr (nI s), st2 τ (nI r) (nI s), 0, nI s, sI (sI σ 0 0) 39 (nI s), if_neg (by decide), rfl, if_neg (by decide), z0, fun _ => rfl, rel⟩
      · have zb : nzV ((E.dn 3 w).1 (hsC τ) i) = true := by
          cases hb : nzV ((E.dn 3 w).1 (hsC τ) i) with
          | false => exact absurd (nz0'.mpr hb) z
          | true => rfl
        refine ⟨.inl 0, τ, 2, 0, sI (sI σ 0 0) 0 2, ?_, rfl, ?_, sI_g, fun z => absurd z (by decide), h.s0.s0⟩
        · rw [FX10_why, e2, b2r, if_neg (by decide), e4, b2r, if_neg (by decide), x2, b2r, if_neg z]
        · rw [FX11_why, e1, b2r, if_neg (by decide), e3, b2r, if_neg (by decide), x1, b2r, zb, bI_t, if_neg (by decide), FX11_no, b2r]
    · refine ⟨.inl 2, τ, 1, 0, σb, ?_, rfl, ?_, b2', fun z => absurd z (by decide), b3⟩
      · rw [FX10_why, e2, b2r, if_neg (by decide), e4, b2r, if_pos rfl, FX10_why_17]
      · rw [FX11_why, e1, b2r, if_neg (by decide), e3, b2r, if_pos rfl, b1]
  · refine ⟨.inl 2, τ, 1, 0, σb, ?_, rfl, ?_, b2', fun z => absurd z (by decide), b3⟩
    · rw [FX10_why, e2, b2r, if_pos rfl, FX10_why_17]
    · rw [FX11_why, e1, b2r, if_pos rfl, b1]
theorem sB_id {k : Nat} : sB σ k (σ.2.2 k) = σ := by
  show ((σ.1, σ.2.1, va_up σ.2.2 k (σ.2.2 k)) : MS) = σ
  have : va_up σ.2.2 k (σ.2.2 k) = σ.2.2 := by
    funext j; unfold va_up; by_cases h : j = k
    · rw [if_pos h, h]
    · rw [if_neg h]
  rw [this]
theorem rAnsL {na qm : Nat} (hi : i < st) (h120 : st ≤ 120) (h1 : nm ≤ na) (h2 : na ≤ 1203) (hq : qm < na) : ∀ (d x f : Nat) (σ : MS), x + d = i + 1 → d < f → σ.1 27 = nI nm → σ.1 40 = nI na → σ.1 28 = nI qm → okT (fun q => q < na) (ntM σ) → (∀ q, q < na → okB (ntM σ q)) → TabM nm st σ → (∀ q, q < na → ∀ j, j < x → tabM σ q j = vaN (ntM σ) (hsM σ) q j) → ∃ F, FX11_answer_40 LF f (nI i) (nI x) σ = some (bI (nzV (vaN (ntM σ) (hsM σ) qm i)), sB σ 16 F) ∧ TabM nm st (sB σ 16 F)
  | 0, x, f, σ, hx, hf, a1, a2, a3, a4, a5, a6, a7 => by
    obtain ⟨f, rfl⟩ : ∃ z, f = z + 1 := ⟨f - 1, by omega⟩
    refine ⟨σ.2.2 16, ?_, by rw [sB_id]; exact a6⟩
    rw [FX11_answer_40, if_pos (nI_lt (by omega) (by omega)), a3, rHolds (by omega) (by omega), b2r, if_neg bI_nn, a7 qm hq i (by omega), sB_id]
  | d+1, x, f, σ, hx, hf, a1, a2, a3, a4, a5, a6, a7 => by
    obtain ⟨f, rfl⟩ : ∃ z, f = z + 1 := ⟨f - 1, by omega⟩
    obtain ⟨g, r1, r2, r3⟩ := rReckon (N := na) (from' := nm) (V := fun q => q < na) (i := x) (L := LF) h2 (fun m hm => hm) (fun m _ hm => hm) (by omega) (by decide) (na - nm) nm 5000 σ a4 a5 (Nat.le_refl _) (by omega) (by omega) (fun m _ hm j hj => a6 m hm j (by omega)) (fun m hm j hj => a7 m hm j hj)
    have r1 : FX11_reckon LF (nI nm) (nI na) (nI x) σ = some ((), sB σ 16 g) := r1
    obtain ⟨F, e, t⟩ := rAnsL hi h120 h1 h2 hq d (x + 1) f (sB σ 16 g) (by omega) (by omega) a1 a2 a3 a4 a5 (fun q hq j hj => by
      have := r3 q j (by omega) (Or.inl hq)
      show (sB σ 16 g).2.2 16 (120 * q + j) = vaN (ntM σ) (hsM σ) q j
      rw [sB_row, this]
      exact a6 q hq j hj) (fun q hq j hj => r2 q hq j (by omega))
    refine ⟨F, ?_, by rw [sB_sB] at t; exact t⟩
    rw [FX11_answer_40, if_neg (by rw [nI_ltI (by omega) (by omega)]; omega), a1, a2, r1, b2r, ← nI_succ, e, sB_sB]
    rfl
theorem ok_answer : OK_answer (Rel kw) := by
  intro σ τ h p0
  obtain ⟨len, E, nm, nc, st, ks, km, hW⟩ := id h
  obtain ⟨hT, hP, hH, hK, hM, hC, hA⟩ := id hW
  have h120 := hH.1
  rcases stepCase (σ := σ) hH.2.1 hH.2.2.1 h120 p0 with ⟨i, hi, rfl, e1, e2⟩ | ⟨e1, e2⟩
  · rw [FX10_answer, e2, b2r, if_neg (show ¬ ((1 : Int32) = 0) by decide), FX11_answer, e1, b2r, if_neg (show ¬ ((1 : Int32) = 0) by decide)]
    rcases hA with ⟨a1, a2, a3⟩ | hA
    · rw [if_pos a2, if_pos a1]
      exact ⟨.inl 0, τ, 2, 0, sI σ 0 2, rfl, rfl, rfl, sI_g, fun z => absurd z (by decide), h.s0⟩
    · obtain ⟨a0, p0, ne, qc, na, qm, ⟨b1, b2', b3, b4, b5, b6, b7, b8, b9, b10⟩, ⟨d1, d2, d3, d4, d5, d6, d7⟩, e⟩ := id hA
      have nm400 : nm ≤ 400 := hP.2.2.2.2.1.2.1
      have nc400 : nc ≤ 400 := hP.2.2.2.2.2.1.2.1
      have hqm : qm < 2000 := (d6 qm d5).1
      obtain ⟨F, r1, r2⟩ := rAnsL (σ := sI σ 0 0) (qm := qm) hi h120 d1 (by omega) d5 (i + 1) 0 5000 (by omega) (by omega) hP.2.2.2.2.1.1 d4 d3 d6 d7 hM (fun q _ j hj => absurd hj (Nat.not_lt_zero _))
      have r1 : FX11_answer_40 LF LF (nI i) 0 (sI σ 0 0) = some (bI (nzV (vaN (ntM σ) (hsM σ) qm i)), sB (sI σ 0 0) 16 F) := r1
      have hqc : qc < 1200 := b7.elim (fun z => by have z : qc < nc := z; omega) (fun z => by omega)
      have ev : cellC τ qc i = vaN (ntM σ) (hsM σ) qm i := by
        rw [b10 qc b7 i hi, va8 d6 d5 (hH.h8 hi)]
        exact (congrFun (congrFun e (hsC τ)) i).symm
      refine ⟨.inr (bI (nzV (vaN (ntM σ) (hsM σ) qm i))), τ, 0, bI (nzV (vaN (ntM σ) (hsM σ) qm i)), sB (sI σ 0 0) 16 F, ?_, rfl, ?_, sI_g (σ := σ) (k := 0) (v := 0), fun _ => rfl, len, E, nm, nc, st, ks, km, hT, hP, hH, hK, r2, hC, Or.inr hA⟩
      · rw [if_neg (by rw [a0]; decide), b6, gTc hqc (by omega), ev, ifsome, nz0]
      · rw [if_neg (by rw [d3]; exact nI_n1 (by omega)), r1]
  · refine ⟨.inl 2, τ, 1, 0, sI σ 0 1, ?_, rfl, ?_, sI_g, fun z => absurd z (by decide), h.s0⟩
    · rw [FX10_answer, e2, b2r, if_pos rfl]
    · rw [FX11_answer, e1, b2r, if_pos rfl]
end RY
