-- the calls that look at one thing, and the tape's
section RE2
variable {σ σ1 : MS} {τ τ1 : CS} {kw : Nat → Int64} {len nm nc st ks km c L : Nat} {E : EnvN}
theorem inLe (x : Int32) {c : Nat} (hc : c + 1 < 2 ^ 31) : (∃ n, n ≤ c ∧ x = nI n ∧ FX11_isIn x 0 (nI c) = some 1) ∨ (FX11_isIn x 0 (nI c) = some 0 ∧ (x < 0 ∨ (¬ x < 0 ∧ ¬ x ≤ nI c))) := by
  have e : nI (c + 1) - 1 = nI c := nI_sub (show 1 ≤ c + 1 by omega)
  rcases inCase x hc with ⟨n, hn, rfl, h⟩ | ⟨h, g⟩
  · rw [e] at h; exact Or.inl ⟨n, by omega, rfl, h⟩
  · rw [e] at h
    refine Or.inr ⟨h, g.imp id (fun g => ⟨g.1, ?_⟩)⟩
    obtain ⟨j, hj, rfl⟩ := nI_of g.1
    have g2 := g.2
    rw [nI_leI (by omega) (by omega)] at g2 ⊢
    omega
theorem RelW.s0 {v : Int32} (h : RelW kw len E nm nc st ks km σ τ) : RelW kw len E nm nc st ks km (sI σ 0 v) τ := h
theorem Rel.s0 {v : Int32} (h : Rel kw σ τ) : Rel kw (sI σ 0 v) τ := by
  obtain ⟨len, E, nm, nc, st, ks, km, h⟩ := h
  exact ⟨len, E, nm, nc, st, ks, km, h.s0⟩
theorem ok_errorAt : OK_errorAt (Rel kw) := by
  intro σ τ h
  obtain ⟨len, E, nm, nc, st, ks, km, hT, -⟩ := id h
  exact ⟨τ.1 9, τ, sI σ 0 0, rfl, by rw [FX11_errorAt, hT.2.2.2.2.2], h.s0⟩
theorem countV (hT : RTape kw len σ τ) (hP : RProg E nm nc σ τ) (hH : RHist c st σ τ) (hK : RKept ks km σ τ) {n : Nat} (hn : n < 7) : ∃ v, FX11_counted (nI n) σ = some (v, σ) ∧ FX10_howMany (nI n) τ = some (v, τ) := by
  have r : ∀ s, s < 4 → σ.2.1 23 s = nI (E.ct s) := hP.2.2.1.2.2.1
  have q : ∀ s, s < 4 → τ.2.2.1 36 s = nI (E.ct s) := hP.2.2.2.1.2.2.1
  by_cases z : n < 4
  · refine ⟨nI (E.ct n), ?_, ?_⟩
    · rw [FX11_counted, if_neg (by rw [show (4 : Int32) = nI 4 from rfl, nI_leI (by omega) (by omega)]; omega), if_neg (nI_in z (by decide)), nI_clamp (by omega), r n z]
    · rw [FX10_howMany, if_neg (by rw [show (4 : Int32) = nI 4 from rfl, nI_eq (by omega) (by omega)]; omega), if_neg (by rw [show (5 : Int32) = nI 5 from rfl, nI_eq (by omega) (by omega)]; omega), if_neg (by rw [show (6 : Int32) = nI 6 from rfl, nI_eq (by omega) (by omega)]; omega), gI z (by decide), q n z]
  · have : n = 4 ∨ n = 5 ∨ n = 6 := by omega
    rcases this with rfl | rfl | rfl
    · refine ⟨nI st, ?_, ?_⟩
      · rw [FX11_counted, if_pos (by decide), if_pos (by decide), hH.2.1]
      · rw [FX10_howMany, if_pos (by decide), hH.2.2.1]
    · refine ⟨nI ks, ?_, ?_⟩
      · rw [FX11_counted, if_pos (by decide), if_neg (by decide), if_pos (by decide), hK.2.2.1]
      · rw [FX10_howMany, if_neg (by decide), if_pos (by decide), hK.2.2.2.1]
    · refine ⟨nI len, ?_, ?_⟩
      · rw [FX11_counted, if_pos (by decide), if_neg (by decide), if_neg (by decide), hT.2.1]
      · rw [FX10_howMany, if_neg (by decide), if_neg (by decide), if_pos (by decide), hT.2.2.1]
theorem ok_count : OK_count (Rel kw) := by
  intro σ τ h p0
  obtain ⟨len, E, nm, nc, st, ks, km, hT, hP, hH, hK, hM, hC, hA⟩ := id h
  rw [FX11_count, show (6 : Int32) = nI 6 from rfl]
  rcases inLe p0 (show 6 + 1 < 2 ^ 31 by decide) with ⟨n, hn, rfl, e⟩ | ⟨e, g⟩
  · obtain ⟨v, v1, v2⟩ := countV (σ := sI σ 0 0) hT hP hH hK (show n < 7 by omega)
    refine ⟨.inr v, τ, 0, v, sI σ 0 0, ?_, rfl, ?_, sI_g, fun _ => rfl, h.s0⟩
    · rw [FX10_count, if_neg (nI_pos (by omega)), if_pos (by rw [show (7 : Int32) = nI 7 from rfl, nI_ltI (by omega) (by omega)]; omega), v2, b2r]
    · rw [e, obS, if_neg (by decide), v1, b2r]
  · refine ⟨.inl 2, τ, 1, 0, sI (sI σ 0 0) 0 1, ?_, rfl, ?_, sI_g, fun z => absurd z (by decide), h.s0.s0⟩
    · rw [FX10_count]
      rcases g with g | ⟨g, g2⟩
      · rw [if_pos g, FX10_count_10]
      · obtain ⟨j, hj, rfl⟩ := nI_of g
        rw [if_neg g, if_neg (by rw [show (7 : Int32) = nI 7 from rfl, nI_ltI (by omega) (by omega)]; rw [nI_leI (by omega) (by omega)] at g2; omega), FX10_count_10]
    · rw [e, obS, if_pos rfl, FX11_no, b2r]
theorem ok_set : OK_set (Rel kw) := by
  intro σ τ h p0 p1
  obtain ⟨len, E, nm, nc, st, ks, km, hT, hP, hH, hK, hM, hC, hA⟩ := id h
  have c8 := hP.1.c8
  rcases itemCase (s := 0) (σ := σ) (by decide) (hP.2.2.1.2.2.1 0 (by decide)) (hP.2.2.2.1.2.2.1 0 (by decide)) (hP.1.c12 (by decide)) p0 with ⟨n, hn, rfl, e1, e2⟩ | ⟨e1, e2⟩
  · have e2 : FX10_isItem 0 (nI n) τ = some (1, τ) := e2
    refine ⟨.inr (τ.2.2.2.1 58 n), tB τ 58 (vp_updL (τ.2.2.2.1 58) n p1), 0, σ.2.2 32 n, sB (sI σ 0 0) 32 (vp_updL (σ.2.2 32) n p1), ?_, rfl, ?_, sI_g (σ := σ) (k := 0) (v := 0), fun _ => ?_, ?_⟩
    · rw [FX10_set, e2, b2r, if_neg (by decide), gL (show n < 8 by omega) (by decide), pL (show n < 8 by omega) (by decide)]
    · rw [FX11_set, if_neg (by decide)]
      show (FX11_isIn (nI n) 0 (σ.2.1 23 0 - 1)).bind _ = _
      rw [e1, obS, if_neg (by decide), FX11_set_22, if_pos rfl, if_neg (nI_in (show n < 8 by omega) (by decide)), if_neg (nI_in (show n < 8 by omega) (by decide)), nI_clamp (by omega)]
    · rw [hH.2.2.2.2.2.2 n hn]
    · obtain ⟨h1, h2, h3, h4, h5, h6, h7⟩ := hH
      refine ⟨len, E, nm, nc, st, ks, km, hT, hP, ⟨h1, h2, h3, h4, h5, h6, fun k hk => ?_⟩, hK, hM, hC, hA⟩
      rw [sB_row, tB_row]
      by_cases z : k = n
      · rw [z, updL_s, updL_s]
      · rw [updL_n z, updL_n z]; exact h7 k hk
  · have e2 : FX10_isItem 0 p0 τ = some (0, τ) := e2
    refine ⟨.inl 2, τ, 1, 0, sI σ 0 1, ?_, rfl, ?_, sI_g, fun z => absurd z (by decide), h.s0⟩
    · rw [FX10_set, e2, b2r, if_pos rfl]
    · rw [FX11_set, if_neg (by decide)]
      show (FX11_isIn p0 0 (σ.2.1 23 0 - 1)).bind _ = _
      rw [e1, obS, if_pos rfl, FX11_set_22, if_neg (by decide)]
theorem ok_time : OK_time (Rel kw) := by
  intro σ τ h p0
  obtain ⟨len, E, nm, nc, st, ks, km, hT, hP, hH, hK, hM, hC, hA⟩ := id h
  have h120 := hH.1
  rcases stepCase (σ := sI σ 0 0) hH.2.1 hH.2.2.1 h120 p0 with ⟨n, hn, rfl, e1, e2⟩ | ⟨e1, e2⟩
  · refine ⟨.inr (τ.2.2.1 46 n), τ, 0, σ.2.1 30 n, sI σ 0 0, ?_, rfl, ?_, sI_g, fun _ => by rw [hH.2.2.2.2.1 n hn], h.s0⟩
    · rw [FX10_time, e2, b2r, if_neg (by decide), gI (show n < 120 by omega) (by decide)]
    · rw [FX11_time, e1, b2r, if_neg (by decide), if_neg (nI_in (show n < 120 by omega) (by decide)), nI_clamp (by omega)]
  · refine ⟨.inl 2, τ, 1, 0, sI (sI σ 0 0) 0 1, ?_, rfl, ?_, sI_g, fun z => absurd z (by decide), h.s0.s0⟩
    · rw [FX10_time, e2, b2r, if_pos rfl]
    · rw [FX11_time, e1, b2r, if_pos rfl, FX11_no, b2r]
theorem ok_signal : OK_signal (Rel kw) := by
  intro σ τ h p0 p1
  obtain ⟨len, E, nm, nc, st, ks, km, hT, hP, hH, hK, hM, hC, hA⟩ := id h
  have h120 := hH.1
  have c8 := hP.1.c8
  have bad : ∃ σ', FX11_signal_29 p0 p1 σ = some (0, σ') ∧ σ'.1 0 = 1 ∧ Rel kw σ' τ := ⟨sI σ 0 1, by rw [FX11_signal_29, FX11_signal_30, if_neg (by decide)], sI_g, h.s0⟩
  obtain ⟨σb, b1, b2', b3⟩ := bad
  rcases itemCase (s := 0) (σ := σ) (by decide) (hP.2.2.1.2.2.1 0 (by decide)) (hP.2.2.2.1.2.2.1 0 (by decide)) (hP.1.c12 (by decide)) p0 with ⟨n, hn, rfl, e1, e2⟩ | ⟨e1, e2⟩
  · have e2 : FX10_isItem 0 (nI n) τ = some (1, τ) := e2
    rcases stepCase (σ := σ) hH.2.1 hH.2.2.1 h120 p1 with ⟨i, hi, rfl, e3, e4⟩ | ⟨e3, e4⟩
    · obtain ⟨i1, i2, i3⟩ := ix_sg (show n < 8 by omega) (show i < 120 by omega)
      refine ⟨.inr (τ.2.2.2.2 0 n i), τ, 0, σ.2.2 31 (8 * i + n), sI σ 0 0, ?_, rfl, ?_, sI_g, fun _ => by rw [hH.2.2.2.2.2.1 n i (by omega) (by omega)], h.s0⟩
      · rw [FX10_signal, e2, b2r, if_neg (by decide), e4, b2r, if_neg (by decide), gT (show n < 8 by omega) (by decide) (by omega)]
      · rw [FX11_signal, if_neg (by decide)]
        show (FX11_isIn (nI n) 0 (σ.2.1 23 0 - 1)).bind _ = _
        rw [e1, obS, if_neg (by decide), e3, b2r, if_neg (by decide), FX11_signal_30, if_pos rfl, i1, if_neg i2, i3]
    · refine ⟨.inl 2, τ, 1, 0, σb, ?_, rfl, ?_, b2', fun z => absurd z (by decide), b3⟩
      · rw [FX10_signal, e2, b2r, if_neg (by decide), e4, b2r, if_pos rfl, FX10_signal_17]
      · rw [FX11_signal, if_neg (by decide)]
        show (FX11_isIn (nI n) 0 (σ.2.1 23 0 - 1)).bind _ = _
        rw [e1, obS, if_neg (by decide), e3, b2r, if_pos rfl, b1]
  · have e2 : FX10_isItem 0 p0 τ = some (0, τ) := e2
    refine ⟨.inl 2, τ, 1, 0, σb, ?_, rfl, ?_, b2', fun z => absurd z (by decide), b3⟩
    · rw [FX10_signal, e2, b2r, if_pos rfl, FX10_signal_17]
    · rw [FX11_signal, if_neg (by decide)]
      show (FX11_isIn p0 0 (σ.2.1 23 0 - 1)).bind _ = _
      rw [e1, obS, if_pos rfl, b1]
theorem ok_value : OK_value (Rel kw) := by
  intro σ τ h p0 p1
  obtain ⟨len, E, nm, nc, st, ks, km, hT, hP, hH, hK, hM, hC, hA⟩ := id h
  have h120 := hH.1
  have c12 : E.ct 2 ≤ 12 := hP.1.c12 (by decide)
  have bad : ∃ σ', FX11_value_29 p0 p1 σ = some (0, σ') ∧ σ'.1 0 = 1 ∧ Rel kw σ' τ := ⟨sI σ 0 1, by rw [FX11_value_29, FX11_value_30, if_neg (by decide)], sI_g, h.s0⟩
  obtain ⟨σb, b1, b2', b3⟩ := bad
  rcases itemCase (s := 2) (σ := σ) (by decide) (hP.2.2.1.2.2.1 2 (by decide)) (hP.2.2.2.1.2.2.1 2 (by decide)) c12 p0 with ⟨n, hn, rfl, e1, e2⟩ | ⟨e1, e2⟩
  · have e2 : FX10_isItem 2 (nI n) τ = some (1, τ) := e2
    rcases stepCase (σ := σ) hH.2.1 hH.2.2.1 h120 p1 with ⟨i, hi, rfl, e3, e4⟩ | ⟨e3, e4⟩
    · have x1 := rAtV (σ := sI σ 0 0) (s := 2) hP hH hM hC (by decide) (by decide) hn hi
      have x2 := cReV (s := 2) hP hH hM hC (by decide) (by decide) hn hi
      have x2 : FX10_reckoned 2 (nI n) (nI i) τ = some ((E.dn 2 n).1 (hsC τ) i, τ) := x2
      have e24 : (24 : Int32) + nI n = nI (24 + n) := nI_add 24 n
      have x1 : FX11_at (σ.2.1 25 (24 + n)) (nI i) (sI σ 0 0) = some ((E.dn 2 n).1 (hsC τ) i, sI σ 0 0) := x1
      refine ⟨.inr ((E.dn 2 n).1 (hsC τ) i), τ, 0, (E.dn 2 n).1 (hsC τ) i, sI σ 0 0, ?_, rfl, ?_, sI_g, fun _ => rfl, h.s0⟩
      · rw [FX10_value, e2, b2r, if_neg (by decide), e4, b2r, if_neg (by decide), x2, b2r]
      · rw [FX11_value, if_neg (by decide)]
        show (FX11_isIn (nI n) 0 (σ.2.1 23 2 - 1)).bind _ = _
        rw [e1, obS, if_neg (by decide), e3, b2r, if_neg (by decide), FX11_value_30, if_pos rfl, e24, if_neg (nI_in (show 24 + n < 48 by omega) (by decide)), nI_clamp (by omega), x1, b2r]
    · refine ⟨.inl 2, τ, 1, 0, σb, ?_, rfl, ?_, b2', fun z => absurd z (by decide), b3⟩
      · rw [FX10_value, e2, b2r, if_neg (by decide), e4, b2r, if_pos rfl, FX10_value_17]
      · rw [FX11_value, if_neg (by decide)]
        show (FX11_isIn (nI n) 0 (σ.2.1 23 2 - 1)).bind _ = _
        rw [e1, obS, if_neg (by decide), e3, b2r, if_pos rfl, b1]
  · have e2 : FX10_isItem 2 p0 τ = some (0, τ) := e2
    refine ⟨.inl 2, τ, 1, 0, σb, ?_, rfl, ?_, b2', fun z => absurd z (by decide), b3⟩
    · rw [FX10_value, e2, b2r, if_pos rfl, FX10_value_17]
    · rw [FX11_value, if_neg (by decide)]
      show (FX11_isIn p0 0 (σ.2.1 23 2 - 1)).bind _ = _
      rw [e1, obS, if_pos rfl, b1]
theorem nz0 {x : Int64} : (if x = (0 : Int64) then (0 : Int32) else 1) = bI (nzV x) := by
  unfold nzV
  by_cases h : x = 0
  · rw [if_pos h, decide_eq_false (fun z => z h)]; rfl
  · rw [if_neg h, decide_eq_true h]; rfl
theorem ifsome {α : Type} {P : Prop} [Decidable P] {a b : α} {s : CS} : (if P then some (.inr (a) , s) else some (.inr b, s) : Option ((Nat ⊕ α) × CS)) = some (.inr (if P then a else b), s) := by
  by_cases h : P
  · rw [if_pos h, if_pos h]
  · rw [if_neg h, if_neg h]
theorem bI_if {b : Bool} {s : MS} : (if bI b = 0 then some ((0 : Int32), s) else some ((1 : Int32), s)) = some (bI b, s) := by cases b <;> rfl
theorem ok_let : OK_let (Rel kw) := by
  intro σ τ h p0 p1
  obtain ⟨len, E, nm, nc, st, ks, km, hT, hP, hH, hK, hM, hC, hA⟩ := id h
  have h120 := hH.1
  have c12 : E.ct 1 ≤ 12 := hP.1.c12 (by decide)
  have bad : ∃ σ', FX11_let_29 p0 p1 σ = some (0, σ') ∧ σ'.1 0 = 1 ∧ Rel kw σ' τ := ⟨sI σ 0 1, by rw [FX11_let_29, FX11_let_30, if_neg (by decide)], sI_g, h.s0⟩
  obtain ⟨σb, b1, b2', b3⟩ := bad
  rcases itemCase (s := 1) (σ := σ) (by decide) (hP.2.2.1.2.2.1 1 (by decide)) (hP.2.2.2.1.2.2.1 1 (by decide)) c12 p0 with ⟨n, hn, rfl, e1, e2⟩ | ⟨e1, e2⟩
  · have e2 : FX10_isItem 1 (nI n) τ = some (1, τ) := e2
    rcases stepCase (σ := σ) hH.2.1 hH.2.2.1 h120 p1 with ⟨i, hi, rfl, e3, e4⟩ | ⟨e3, e4⟩
    · have x1 := rHoV (σ := sI σ 0 0) (s := 1) hP hH hM hC (by decide) (by decide) hn hi
      have x2 := cReV (s := 1) hP hH hM hC (by decide) (by decide) hn hi
      have x2 : FX10_reckoned 1 (nI n) (nI i) τ = some ((E.dn 1 n).1 (hsC τ) i, τ) := x2
      have e24 : (12 : Int32) + nI n = nI (12 + n) := nI_add 12 n
      have x1 : FX11_holds (σ.2.1 25 (12 + n)) (nI i) (sI σ 0 0) = some (bI (nzV ((E.dn 1 n).1 (hsC τ) i)), sI σ 0 0) := x1
      refine ⟨.inr (bI (nzV ((E.dn 1 n).1 (hsC τ) i))), τ, 0, bI (nzV ((E.dn 1 n).1 (hsC τ) i)), sI σ 0 0, ?_, rfl, ?_, sI_g, fun _ => rfl, h.s0⟩
      · rw [FX10_let, e2, b2r, if_neg (by decide), e4, b2r, if_neg (by decide), x2, b2r, ifsome, nz0]
      · rw [FX11_let, if_neg (by decide)]
        show (FX11_isIn (nI n) 0 (σ.2.1 23 1 - 1)).bind _ = _
        rw [e1, obS, if_neg (by decide), e3, b2r, if_neg (by decide), FX11_let_30, if_pos rfl, e24, if_neg (nI_in (show 12 + n < 48 by omega) (by decide)), nI_clamp (by omega), x1, b2r, bI_if]
    · refine ⟨.inl 2, τ, 1, 0, σb, ?_, rfl, ?_, b2', fun z => absurd z (by decide), b3⟩
      · rw [FX10_let, e2, b2r, if_neg (by decide), e4, b2r, if_pos rfl, FX10_let_17]
      · rw [FX11_let, if_neg (by decide)]
        show (FX11_isIn (nI n) 0 (σ.2.1 23 1 - 1)).bind _ = _
        rw [e1, obS, if_neg (by decide), e3, b2r, if_pos rfl, b1]
  · have e2 : FX10_isItem 1 p0 τ = some (0, τ) := e2
    refine ⟨.inl 2, τ, 1, 0, σb, ?_, rfl, ?_, b2', fun z => absurd z (by decide), b3⟩
    · rw [FX10_let, e2, b2r, if_pos rfl, FX10_let_17]
    · rw [FX11_let, if_neg (by decide)]
      show (FX11_isIn p0 0 (σ.2.1 23 1 - 1)).bind _ = _
      rw [e1, obS, if_pos rfl, b1]
theorem ok_watch : OK_watch (Rel kw) := by
  intro σ τ h p0 p1
  obtain ⟨len, E, nm, nc, st, ks, km, hT, hP, hH, hK, hM, hC, hA⟩ := id h
  have h120 := hH.1
  have c12 : E.ct 3 ≤ 12 := hP.1.c12 (by decide)
  have bad : ∃ σ', FX11_watch_21 p0 p1 σ = some (0, σ') ∧ σ'.1 0 = 1 ∧ Rel kw σ' τ := ⟨sI σ 0 1, by rw [FX11_watch_21, FX11_watch_22, if_neg (by decide)], sI_g, h.s0⟩
  obtain ⟨σb, b1, b2', b3⟩ := bad
  rcases watchCase (σ := σ) (hP.2.2.1.2.2.1 3 (by decide)) (hP.2.2.2.1.2.2.1 3 (by decide)) c12 p0 with ⟨n, hn, rfl, e1, e2⟩ | ⟨e1, e2⟩
  · rcases stepCase (σ := σ) hH.2.1 hH.2.2.1 h120 p1 with ⟨i, hi, rfl, e3, e4⟩ | ⟨e3, e4⟩
    · have x1 := rWaV (σ := sI σ 0 0) hP hH hM hC hn hi
      have x2 := cReV (s := 3) hP hH hM hC (by decide) (by decide) hn hi
      have x2 : FX10_reckoned 3 (nI n) (nI i) τ = some ((E.dn 3 n).1 (hsC τ) i, τ) := x2
      refine ⟨.inr (bI (nzV ((E.dn 3 n).1 (hsC τ) i))), τ, 0, bI (nzV ((E.dn 3 n).1 (hsC τ) i)), sI σ 0 0, ?_, rfl, ?_, sI_g, fun _ => rfl, h.s0⟩
      · rw [FX10_watch, e2, b2r, if_neg (by decide), e4, b2r, if_neg (by decide), x2, b2r, ifsome, nz0]
      · rw [FX11_watch, e1, b2r, if_neg (by decide), e3, b2r, if_neg (by decide), FX11_watch_22, if_pos rfl, x1, b2r, bI_if]
    · refine ⟨.inl 2, τ, 1, 0, σb, ?_, rfl, ?_, b2', fun z => absurd z (by decide), b3⟩
      · rw [FX10_watch, e2, b2r, if_neg (by decide), e4, b2r, if_pos rfl, FX10_watch_17]
      · rw [FX11_watch, e1, b2r, if_neg (by decide), e3, b2r, if_pos rfl, b1]
  · refine ⟨.inl 2, τ, 1, 0, σb, ?_, rfl, ?_, b2', fun z => absurd z (by decide), b3⟩
    · rw [FX10_watch, e2, b2r, if_pos rfl, FX10_watch_17]
    · rw [FX11_watch, e1, b2r, if_pos rfl, b1]
theorem okBt.le {bt : Nat → Int32} {n m : Nat} (h : okBt bt n) (hm : m ≤ n) : okBt bt m := ⟨by have := h.1; omega, fun k hk => h.2 k (by omega)⟩
theorem ok_trim : OK_trim (Rel kw) := by
  intro σ τ h p0
  obtain ⟨len, E, nm, nc, st, ks, km, hT, hP, hH, hK, hM, hC, hA⟩ := id h
  obtain ⟨t1, t2, t3, t4, t5, t6⟩ := hT
  have hlen := t4.1
  rw [FX11_trim, t2, FX10_trim, t3]
  rcases inLe p0 (show len + 1 < 2 ^ 31 by omega) with ⟨n, hn, rfl, e⟩ | ⟨e, g⟩
  · refine ⟨.inr (nI n), tI τ 101 (nI n), 0, nI n, sI (sI σ 0 0) 2 (nI n), ?_, rfl, ?_, ?_, fun _ => rfl, ?_⟩
    · rw [if_neg (nI_pos (by omega)), if_pos (nI_le hn (by omega))]
    · rw [e, obS, if_neg (by decide)]
    · rw [sI_o (by decide), sI_g]
    · exact ⟨n, E, nm, nc, st, ks, km, ⟨t1, sI_g, tI_g, t4.le hn, t5, t6⟩, hP, hH, hK, hM, hC, hA⟩
  · refine ⟨.inl 1, τ, 1, 0, sI (sI σ 0 0) 0 1, ?_, rfl, ?_, sI_g, fun z => absurd z (by decide), h.s0.s0⟩
    · rcases g with g | ⟨g, g2⟩
      · rw [if_pos g, FX10_trim_15]
      · rw [if_neg g, if_neg g2, FX10_trim_15]
    · rw [e, obS, if_pos rfl, FX11_no, b2r]
-- feeding
def by4 (f : Nat → Int32) (p : Nat) (x : Int32) : Nat → Int32 := upd (upd (upd (upd f p ((x >>> 24) &&& 255)) (p + 1) ((x >>> 16) &&& 255)) (p + 2) ((x >>> 8) &&& 255)) (p + 3) ((x >>> 0) &&& 255)
theorem byteOK (y : Int32) : ∃ b, b < 256 ∧ y &&& 255 = nI b := by
  refine ⟨(y &&& 255).toBitVec.toNat, ?_, ?_⟩
  · rw [Int32.toBitVec_and, BitVec.toNat_and]
    have e : (255 : Int32).toBitVec.toNat = 255 := by decide
    have := Nat.and_le_right (n := y.toBitVec.toNat) (m := (255 : Int32).toBitVec.toNat)
    omega
  · apply Int32.toBitVec_inj.mp
    show _ = BitVec.ofNat 32 _
    rw [BitVec.ofNat_toNat, BitVec.setWidth_eq]
theorem okBt.up {f : Nat → Int32} {p : Nat} {y : Int32} (h : okBt f p) (hp : p < 1800) : okBt (upd f p (y &&& 255)) (p + 1) := by
  refine ⟨by omega, fun k hk => ?_⟩
  by_cases z : k = p
  · obtain ⟨b, hb, e⟩ := byteOK y
    exact ⟨b, hb, by rw [z, upd_s, e]⟩
  · obtain ⟨b, hb, e⟩ := h.2 k (by omega)
    exact ⟨b, hb, by rw [upd_n z, e]⟩
theorem okBt.by4 {f : Nat → Int32} {p : Nat} {x : Int32} (h : okBt f p) (hp : p + 4 ≤ 1800) : okBt (by4 f p x) (p + 4) := (((h.up (by omega)).up (by omega)).up (by omega)).up (by omega)
theorem cApp1 {p n : Nat} {x s s' q : Int32} {f : Nat → Int32} (h : τ.1 101 = nI p) (hp : p < 1800) (hs : ¬ s < 0) (hs' : s + -8 = s') (hq : s &&& 31 = q) (hf : τ.2.2.1 3 = f) : FX8_append_3 L (n + 1) x s τ = FX8_append_3 L n x s' (tI (tA τ 3 (upd f p ((x >>> q) &&& 255))) 101 (nI (p + 1))) := by
  rw [FX8_append_3, if_neg hs, h, pI hp (by decide), hf, ← nI_succ, hs', hq]
theorem colC {f g : Nat → Int32} {a b : Int32} : tI (tA (tI (tA τ 3 f) 101 a) 3 g) 101 b = tI (tA τ 3 g) 101 b := by
  show ((va_up (va_up τ.1 101 a) 101 b, τ.2.1, va_up (va_up τ.2.2.1 3 f) 3 g, τ.2.2.2) : CS) = (va_up τ.1 101 b, τ.2.1, va_up τ.2.2.1 3 g, τ.2.2.2)
  rw [va_upup, va_upup]
theorem cApp {p : Nat} {x : Int32} {f : Nat → Int32} (hL : 6 ≤ L) (h : τ.1 101 = nI p) (hp : p + 4 ≤ 1800) (hf : τ.2.2.1 3 = f) : FX8_append L x τ = some ((), tI (tA τ 3 (by4 f p x)) 101 (nI (p + 4))) := by
  obtain ⟨n, rfl⟩ : ∃ n, L = n + 5 := ⟨L - 5, by omega⟩
  rw [FX8_append, cApp1 h (by omega) (by decide) (show (24 : Int32) + -8 = 16 by decide) (show (24 : Int32) &&& 31 = 24 by decide) hf]
  rw [cApp1 tI_g (by omega) (by decide) (show (16 : Int32) + -8 = 8 by decide) (show (16 : Int32) &&& 31 = 16 by decide) tA_row, colC]
  rw [cApp1 tI_g (by omega) (by decide) (show (8 : Int32) + -8 = 0 by decide) (show (8 : Int32) &&& 31 = 8 by decide) tA_row, colC]
  rw [cApp1 tI_g (by omega) (by decide) (show (0 : Int32) + -8 = -8 by decide) (show (0 : Int32) &&& 31 = 0 by decide) tA_row, colC]
  rw [FX8_append_3, if_pos (by decide)]
  rfl
theorem rApp1 {p n : Nat} {x8 x9 x s s' q : Int32} {f xc : Nat → Int32} {k63 : Int32 → Int32 → (Nat → Int32) → MS → Option (Int32 × MS)} (h : σ.1 2 = nI p) (hp : p < 1800) (hs : ¬ s < 0) (hs' : s + -1 = s') (hq : ((8 : Int32) * s) &&& 31 = q) (hf : σ.2.1 1 = f) : FX11_feed_80 L k63 (n + 1) x8 x9 x s xc σ = FX11_feed_80 L k63 n x8 x9 x s' xc (sI (sA σ 1 (upd f p ((x >>> q) &&& 255))) 2 (nI (p + 1))) := by
  rw [FX11_feed_80, if_neg hs, h, if_neg (nI_in hp (by decide)), nI_clamp (by omega), hf, ← nI_succ, hs', hq]
theorem colM {f g : Nat → Int32} {a b : Int32} : sI (sA (sI (sA σ 1 f) 2 a) 1 g) 2 b = sI (sA σ 1 g) 2 b := by
  show ((va_up (va_up σ.1 2 a) 2 b, va_up (va_up σ.2.1 1 f) 1 g, σ.2.2) : MS) = (va_up σ.1 2 b, va_up σ.2.1 1 g, σ.2.2)
  rw [va_upup, va_upup]
theorem rApp {p n : Nat} {x8 x9 x : Int32} {f xc : Nat → Int32} {k63 : Int32 → Int32 → (Nat → Int32) → MS → Option (Int32 × MS)} (h : σ.1 2 = nI p) (hp : p + 4 ≤ 1800) (hf : σ.2.1 1 = f) : FX11_feed_80 L k63 (n + 5) x8 x9 x 3 xc σ = k63 x8 (x9 + 1) xc (sI (sA σ 1 (by4 f p x)) 2 (nI (p + 4))) := by
  rw [rApp1 h (by omega) (by decide) (show (3 : Int32) + -1 = 2 by decide) (show ((8 : Int32) * 3) &&& 31 = 24 by decide) hf]
  rw [rApp1 sI_g (by omega) (by decide) (show (2 : Int32) + -1 = 1 by decide) (show ((8 : Int32) * 2) &&& 31 = 16 by decide) sA_row, colM]
  rw [rApp1 sI_g (by omega) (by decide) (show (1 : Int32) + -1 = 0 by decide) (show ((8 : Int32) * 1) &&& 31 = 8 by decide) sA_row, colM]
  rw [rApp1 sI_g (by omega) (by decide) (show (0 : Int32) + -1 = -1 by decide) (show ((8 : Int32) * 0) &&& 31 = 0 by decide) sA_row, colM]
  rw [FX11_feed_80, if_pos (by decide)]
  rfl
theorem rFeed1 {p i n : Nat} {x : Int32} {f xc : Nat → Int32} (hL : 5 ≤ L) (hi : i < 5) (hx : xc i = x) (h : σ.1 2 = nI p) (hp : p + 4 ≤ 1800) (hf : σ.2.1 1 = f) : FX11_feed_63 L (n + 1) 5 (nI i) xc σ = FX11_feed_63 L n 5 (nI (i + 1)) xc (sI (sA σ 1 (by4 f p x)) 2 (nI (p + 4))) := by
  obtain ⟨m, rfl⟩ : ∃ m, L = m + 5 := ⟨L - 5, by omega⟩
  rw [FX11_feed_63, if_neg (by rw [show (5 : Int32) = nI 5 from rfl, nI_leI (by omega) (by omega)]; omega), if_neg (nI_in hi (by decide)), nI_clamp (by omega), hx, rApp h hp hf, ← nI_succ]
theorem ok_feed : OK_feed (Rel kw) := by
  intro σ τ h p0 p1 p2 p3 p4
  obtain ⟨len, E, nm, nc, st, ks, km, hT, hP, hH, hK, hM, hC, hA⟩ := id h
  obtain ⟨t1, t2, t3, t4, t5, t6⟩ := hT
  have hlen := t4.1
  have e1 : (nI len ≤ (1780 : Int32)) ↔ len ≤ 1780 := by rw [show (1780 : Int32) = nI 1780 from rfl, nI_leI (by omega) (by omega)]
  have e2 : (nI len + 20 ≤ (1800 : Int32)) ↔ len + 20 ≤ 1800 := by rw [show (20 : Int32) = nI 20 from rfl, nI_add, show (1800 : Int32) = nI 1800 from rfl, nI_leI (by omega) (by omega)]
  rw [FX10_feed, t3, FX11_feed, t2]
  by_cases z : len ≤ 1780
  · rw [if_pos (e1.mpr z), if_pos (e2.mpr (by omega))]
    have hl : 6 ≤ LF := by decide
    have c1 := cApp (x := p0) hl t3 (by omega) rfl
    have F : ∃ F, F = by4 (by4 (by4 (by4 (by4 (τ.2.2.1 3) len p0) (len + 4) p1) (len + 4 + 4) p2) (len + 4 + 4 + 4) p3) (len + 4 + 4 + 4 + 4) p4 := ⟨_, rfl⟩
    obtain ⟨F, hF⟩ := F
    have okF : okBt F (len + 4 + 4 + 4 + 4 + 4) := by
      rw [hF]
      exact ((((t4.by4 (by omega)).by4 (by omega)).by4 (by omega)).by4 (by omega)).by4 (by omega)
    refine ⟨.inr (nI (len + 4 + 4 + 4 + 4 + 4)), tI (tA τ 3 F) 101 (nI (len + 4 + 4 + 4 + 4 + 4)), 0, nI (len + 4 + 4 + 4 + 4 + 4), sI (sA (sI σ 0 0) 1 F) 2 (nI (len + 4 + 4 + 4 + 4 + 4)), ?_, rfl, ?_, ?_, fun _ => rfl, ?_⟩
    · rw [c1, b2r, cApp (x := p1) hl tI_g (by omega) tA_row, colC, b2r, cApp (x := p2) hl tI_g (by omega) tA_row, colC, b2r, cApp (x := p3) hl tI_g (by omega) tA_row, colC, b2r, cApp (x := p4) hl tI_g (by omega) tA_row, colC, b2r, tI_g, hF]
    · have hl5 : 5 ≤ LF := by decide
      show FX11_feed_63 5000 (4994 + 1 + 1 + 1 + 1 + 1 + 1) 5 (nI 0) _ (sI σ 0 0) = _
      rw [rFeed1 (i := 0) (x := p0) hl5 (by decide) rfl (show (sI σ 0 0).1 2 = nI len from t2) (by omega) (show (sI σ 0 0).2.1 1 = τ.2.2.1 3 from t5)]
      rw [rFeed1 (i := 0 + 1) (x := p1) hl5 (by decide) rfl sI_g (by omega) sA_row, colM]
      rw [rFeed1 (i := 0 + 1 + 1) (x := p2) hl5 (by decide) rfl sI_g (by omega) sA_row, colM]
      rw [rFeed1 (i := 0 + 1 + 1 + 1) (x := p3) hl5 (by decide) rfl sI_g (by omega) sA_row, colM]
      rw [rFeed1 (i := 0 + 1 + 1 + 1 + 1) (x := p4) hl5 (by decide) rfl sI_g (by omega) sA_row, colM]
      rw [FX11_feed_63, if_pos (by decide), sI_g, hF]
    · rw [sI_o (by decide)]; exact sI_g (σ := σ) (k := 0) (v := 0)
    · exact ⟨len + 4 + 4 + 4 + 4 + 4, E, nm, nc, st, ks, km, ⟨t1, sI_g, tI_g, by rw [show (tI (tA τ 3 F) 101 (nI (len + 4 + 4 + 4 + 4 + 4))).2.2.1 3 = F from tA_row]; exact okF, (sA_row (σ := sI σ 0 0)).trans (tA_row (σ := τ)).symm, t6⟩, hP, hH, hK, hM, hC, hA⟩
  · rw [if_neg (fun q => z (e1.mp q)), if_neg (fun q => z (by have := e2.mp q; omega))]
    exact ⟨.inl 0, τ, 1, 0, sI (sI σ 0 0) 0 1, rfl, rfl, by rw [FX11_no, b2r], sI_g, fun z => absurd z (by decide), h.s0.s0⟩
end RE2
