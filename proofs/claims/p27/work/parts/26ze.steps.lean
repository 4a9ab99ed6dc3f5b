-- steps: one more, fewer, from the beginning
section RG
variable {σ σ1 σ2 : MS} {τ τ1 τ2 : CS} {kw : Nat → Int64} {len nm nc st ks km c L : Nat} {E : EnvN}
theorem TabM.le {s' : Nat} (h : TabM nm st σ) (hs : s' ≤ st) : TabM nm s' σ := fun q hq i hi => h q hq i (by omega)
theorem TabC.le {V : Nat → Prop} {s' : Nat} (h : TabC V st τ) (hs : s' ≤ st) : TabC V s' τ := fun q hq i hi => h q hq i (by omega)
theorem AskYes.le {s' : Nat} (h : AskYes nm nc st σ τ) (hs : s' ≤ st) : AskYes nm nc s' σ τ := by
  obtain ⟨a, p0, ne, qc, na, qm, ⟨b1, b2, b3, b4, b5, b6, b7, b8, b9, b10⟩, d, e⟩ := h
  exact ⟨a, p0, ne, qc, na, qm, ⟨b1, b2, b3, b4, b5, b6, b7, b8, b9, b10.le hs⟩, d, e⟩
theorem ok_back : OK_back (Rel kw) := by
  intro σ τ h p0
  obtain ⟨len, E, nm, nc, st, ks, km, hT, hP, hH, hK, hM, hC, hA⟩ := id h
  obtain ⟨h1, h2, h3, h4, h5, h6, h7⟩ := hH
  rw [FX10_back, FX11_back, h2, h3]
  rcases inLe p0 (show st + 1 < 2 ^ 31 by omega) with ⟨n, hn, rfl, e⟩ | ⟨e, g⟩
  · have rel : Rel kw (sI (sI σ 0 0) 29 (nI n)) (tI τ 4402 (nI n)) := ⟨len, E, nm, nc, n, ks, km, hT, hP, ⟨by omega, sI_g, tI_g, h4.le hn, fun i hi => h5 i (by omega), h6, h7⟩, hK, hM.le hn, hC.le hn, hA.imp id (fun z => z.le hn)⟩
    have z1 : (sI (sI σ 0 0) 29 (nI n)).1 0 = 0 := by rw [sI_o (by decide), sI_g]
    rw [if_neg (nI_pos (by omega)), if_pos (nI_le hn (by omega)), e, obS, if_neg (by decide), FX0_lastTime, tI_g]
    by_cases z : n = 0
    · subst z
      exact ⟨.inr 0, tI τ 4402 (nI 0), 0, 0, sI (sI σ 0 0) 29 (nI 0), rfl, rfl, rfl, z1, fun _ => rfl, rel⟩
    · have e1 : nI n - 1 = nI (n - 1) := nI_sub (show 1 ≤ n by omega)
      rw [if_neg (nI_nle (by omega) (by omega)), if_neg (nI_ne0 (by omega) (by omega)), e1, if_neg (nI_in (show n - 1 < 120 by omega) (by decide)), nI_clamp (by omega), gI (show n - 1 < 120 by omega) (by decide), b2r]
      exact ⟨.inr (τ.2.2.1 46 (n - 1)), tI τ 4402 (nI n), 0, σ.2.1 30 (n - 1), sI (sI σ 0 0) 29 (nI n), rfl, rfl, rfl, z1, fun _ => by rw [h5 (n - 1) (by omega)], rel⟩
  · refine ⟨.inl 1, τ, 1, 0, sI (sI σ 0 0) 0 1, ?_, rfl, ?_, sI_g, fun z => absurd z (by decide), h.s0.s0⟩
    · rcases g with g | ⟨g, g2⟩
      · rw [if_pos g, FX10_back_15]
      · rw [if_neg g, if_neg g2, FX10_back_15]
    · rw [e, obS, if_pos rfl, FX11_no, b2r]
/-- the program begins anew -/
theorem RelW.bg (h : RelW kw len E nm nc st ks km σ τ) (gC : BgC τ τ1) (gM : BgM (E.ct 0) σ σ1) : RelW kw len E nm nc 0 ks km σ1 τ1 := by
  obtain ⟨⟨t1, t2, t3, t4, t5, t6⟩, ⟨p1, p2, p3, p4, ⟨p5, p6, p7, p8⟩, ⟨p9, q1, q2, q3⟩, q4, q5⟩, ⟨h1, h2, h3, h4, h5, h6, h7⟩, ⟨k1, k2, k3, k4, k5, k6, k7, k8, k9⟩, hM, hC, hA⟩ := h
  obtain ⟨c1, c2, c3, c4, c5, c6, c7, c8⟩ := id gC
  obtain ⟨m1, m2, m3, m4, m5⟩ := id gM
  have ntc : ntC τ1 = ntC τ := by unfold ntC; rw [c3]
  have ntm : ntM σ1 = ntM σ := by unfold ntM; rw [m3]
  have e8 := p1.c8
  have zC : ∀ V : Nat → Prop, TabC V 0 τ1 := fun V q hq i hi => absurd hi (Nat.not_lt_zero _)
  refine ⟨⟨by rw [c4 6 (by decide)]; exact t1, by rw [m1 2 (by decide)]; exact t2, by rw [c1 101 (by decide) (by decide)]; exact t3, by rw [c3]; exact t4, by rw [m3, c3]; exact t5, by rw [m1 3 (by decide), c1 9 (by decide) (by decide)]; exact t6⟩, ⟨p1, p2, p3.bg gM, p4.bg gC, ⟨by rw [m1 27 (by decide)]; exact p5, p6, by rw [ntm]; exact p7, by rw [ntm]; exact p8⟩, ⟨by rw [c1 2809 (by decide) (by decide)]; exact p9, q1, by rw [ntc]; exact q2, fun q hq => ?_⟩, ?_, by rw [m1 18 (by decide), c1 2808 (by decide) (by decide)]; exact q5⟩, ⟨Nat.zero_le _, m2, c6, TmOK.zero, fun i hi => absurd hi (Nat.not_lt_zero _), fun k i hk hi => by rw [m4 31 (by decide), c5]; exact h6 k i hk hi, fun k hk => ?_⟩, ⟨k1, k2, by rw [m1 33 (by decide)]; exact k3, by rw [c1 4902 (by decide) (by decide)]; exact k4, by rw [m1 34 (by decide)]; exact k5, by rw [c1 4903 (by decide) (by decide)]; exact k6, by rw [c3]; exact k7, fun i hi => by rw [m3, c3]; exact k8 i hi, fun k i hk hi => by rw [m4 36 (by decide), c5]; exact k9 k i hk hi⟩, fun q hq i hi => absurd hi (Nat.not_lt_zero _), zC _, ?_⟩
  · have := q3 q hq
    unfold bdC at this ⊢
    rw [c3]; exact this
  · rw [c7]; exact p4.cnt
  · rw [m5 k hk, c8 k (by omega), p3.2.2.2.2.1 k hk, p4.2.2.2.2.1 k hk]
  · rcases hA with ⟨a1, a2, a3⟩ | ⟨a0, p0, ne, qc, na, qm, ⟨b1, b2, b3, b4, b5, b6, b7, b8, b9, b10⟩, ⟨d1, d2, d3, d4, d5, d6, d7⟩, e⟩
    · exact Or.inl ⟨by rw [m1 28 (by decide)]; exact a1, by rw [c1 10 (by decide) (by decide)]; exact a2, by rw [c1 12 (by decide) (by decide)]; exact a3⟩
    · refine Or.inr ⟨by rw [c1 10 (by decide) (by decide)]; exact a0, p0, ne, qc, na, qm, ⟨b1, b2, b3, by rw [c1 12 (by decide) (by decide)]; exact b4, by rw [c1 13 (by decide) (by decide)]; exact b5, by rw [c1 11 (by decide) (by decide)]; exact b6, b7, by rw [ntc]; exact b8, fun q hq => ?_, zC _⟩, ⟨d1, d2, by rw [m1 28 (by decide)]; exact d3, by rw [m1 40 (by decide)]; exact d4, d5, by rw [ntm]; exact d6, by rw [ntm]; exact d7⟩, by rw [ntm, ntc]; exact e⟩
      have := b9 q hq
      unfold bdC at this ⊢
      rw [c3]; exact this
theorem how3 (hct : τ.2.2.1 36 3 = nI c) : FX10_howMany 3 τ = some (nI c, τ) := by
  rw [FX10_howMany, if_neg (by decide), if_neg (by decide), if_neg (by decide)]
  show some (getI 4 (τ.2.2.1 36) (nI 3), τ) = _
  rw [gI (by decide) (by decide), hct]
theorem ok_restart : OK_restart (Rel kw) := by
  intro σ τ h
  obtain ⟨len, E, nm, nc, st, ks, km, hW⟩ := id h
  obtain ⟨hT, hP, hH, hK, hM, hC, hA⟩ := id hW
  have e18 : σ.1 18 = τ.1 2808 := hP.2.2.2.2.2.2.2
  rw [FX10_restart, FX11_restart, e18]
  by_cases z : τ.1 2808 = 0
  · rw [if_pos z, if_pos z]
    exact ⟨.inl 0, τ, 1, 0, sI (sI σ 0 0) 0 1, rfl, rfl, by rw [FX11_no, b2r], sI_g, fun z => absurd z (by decide), h.s0.s0⟩
  · rw [if_neg z, if_neg z]
    obtain ⟨τ', e1, g1⟩ := cBegin (τ := τ) (show 2000 ≤ LF by decide)
    obtain ⟨σ', e2, g2⟩ := rBegin (σ := sI σ 0 0) (c := E.ct 0) (show 1000 ≤ LF by decide) hP.1.c8 (hP.2.2.1.2.2.1 0 (by decide))
    have W := (hW.s0 (v := 0)).bg g1 g2
    refine ⟨.inr (nI (E.ct 3)), τ', 0, nI (E.ct 3), σ', ?_, rfl, ?_, ?_, fun _ => rfl, len, E, nm, nc, 0, ks, km, W⟩
    · rw [e1, b2r, how3 (W.2.1.2.2.2.1.2.2.1 3 (by decide)), b2r]
    · rw [e2, b2r, if_neg (by decide)]
      show some (σ'.2.1 23 3, σ') = _
      rw [W.2.1.2.2.1.2.2.1 3 (by decide)]
    · rw [g2.1 0 (by decide)]; exact sI_g
-- one step
theorem cSigL (hc : c ≤ 8) (hst : st < 120) : ∀ (d x f : Nat) (τ : CS), x + d = c → d < f → τ.1 4403 = nI c → ∃ T : Nat → Nat → Int64, FX10_doStep_22 L f (nI st) (nI x) τ = (b2 (FX6_reckon L (0 : Int32) (τ.1 2809) (nI st) (tI (tT τ 0 T) 4402 (nI (st + 1)))) fun (_ : Unit) σ_2 => if (σ_2.1 10) = 0 then some ((), σ_2) else b2 (FX6_reckon L (σ_2.1 12) (σ_2.1 13) (nI st) σ_2) fun (_ : Unit) σ_4 => some ((), σ_4)) ∧ (∀ k i, T k i = if i = st ∧ x ≤ k ∧ k < c then τ.2.2.2.1 58 k else τ.2.2.2.2 0 k i)
  | 0, x, f, τ, hx, hf, h => by
    obtain ⟨f, rfl⟩ : ∃ z, f = z + 1 := ⟨f - 1, by omega⟩
    refine ⟨τ.2.2.2.2 0, ?_, fun k i => ?_⟩
    · rw [FX10_doStep_22, h, if_pos (nI_le (by omega) (by omega)), tT_id, ← nI_succ]
    · rw [if_neg (by omega)]
  | d+1, x, f, τ, hx, hf, h => by
    obtain ⟨f, rfl⟩ : ∃ z, f = z + 1 := ⟨f - 1, by omega⟩
    obtain ⟨T, e, g⟩ := cSigL hc hst d (x + 1) f (tT τ 0 (va_up (τ.2.2.2.2 0) x (vp_updL (τ.2.2.2.2 0 x) st (τ.2.2.2.1 58 x)))) (by omega) (by omega) h
    refine ⟨T, ?_, fun k i => ?_⟩
    · rw [FX10_doStep_22, h, if_neg (by rw [nI_leI (by omega) (by omega)]; omega), pT (show x < 8 by omega) (by decide) hst, gL (show x < 8 by omega) (by decide), ← nI_succ, e, tT_tT]
    · rw [g k i, show (tT τ 0 (va_up (τ.2.2.2.2 0) x (vp_updL (τ.2.2.2.2 0 x) st (τ.2.2.2.1 58 x)))).2.2.2.2 0 k i = va_up (τ.2.2.2.2 0) x (vp_updL (τ.2.2.2.2 0 x) st (τ.2.2.2.1 58 x)) k i from congrFun (congrFun tT_row k) i, cell_up]
      by_cases z : i = st ∧ x + 1 ≤ k ∧ k < c
      · rw [if_pos z, if_pos (by omega)]
      · rw [if_neg z]
        by_cases y : k = x ∧ i = st
        · rw [if_pos y, if_pos (by omega), y.1]
        · rw [if_neg y, if_neg (by omega)]
theorem rSigL (hc : c ≤ 8) (hst : st < 120) : ∀ (d x f : Nat) (σ : MS), x + d = c → d < f → σ.2.1 23 0 = nI c → σ.1 29 = nI st → ∃ S : Nat → Int64, FX11_step_12 L f (nI x) σ = (b2 (FX11_reckon L (0 : Int32) (σ.1 27) (nI st) (sB σ 31 S)) fun (_ : Unit) σ_4 => FX11_step_65 L L (0 : Int32) (0 : Int32) σ_4) ∧ (∀ k i, k < 8 → S (8 * i + k) = if i = st ∧ x ≤ k ∧ k < c then σ.2.2 32 k else σ.2.2 31 (8 * i + k))
  | 0, x, f, σ, hx, hf, h, h2 => by
    obtain ⟨f, rfl⟩ : ∃ z, f = z + 1 := ⟨f - 1, by omega⟩
    refine ⟨σ.2.2 31, ?_, fun k i hk => ?_⟩
    · have e : sB σ 31 (σ.2.2 31) = σ := by
        show ((σ.1, σ.2.1, va_up σ.2.2 31 (σ.2.2 31)) : MS) = σ
        have : va_up σ.2.2 31 (σ.2.2 31) = σ.2.2 := by
          funext j; unfold va_up; by_cases h : j = 31
          · rw [if_pos h, h]
          · rw [if_neg h]
        rw [this]
      rw [FX11_step_12, if_neg (by decide), show (0 : Int32).toNatClampNeg = 0 from rfl, h, if_pos (nI_le (by omega) (by omega)), e, h2]
    · rw [if_neg (by omega)]
  | d+1, x, f, σ, hx, hf, h, h2 => by
    obtain ⟨f, rfl⟩ : ∃ z, f = z + 1 := ⟨f - 1, by omega⟩
    obtain ⟨i1, i2, i3⟩ := ix_sg (show x < 8 by omega) hst
    obtain ⟨S, e, g⟩ := rSigL hc hst d (x + 1) f (sB σ 31 (vp_updL (σ.2.2 31) (8 * st + x) (σ.2.2 32 x))) (by omega) (by omega) h h2
    refine ⟨S, ?_, fun k i hk => ?_⟩
    · rw [FX11_step_12, if_neg (by decide), show (0 : Int32).toNatClampNeg = 0 from rfl, h, if_neg (by rw [nI_leI (by omega) (by omega)]; omega), if_neg (nI_in (show x < 8 by omega) (by decide)), h2, i1, if_neg i2, i3, nI_clamp (by omega), ← nI_succ, e, sB_sB]
    · rw [g k i hk, show (sB σ 31 (vp_updL (σ.2.2 31) (8 * st + x) (σ.2.2 32 x))).2.2 31 (8 * i + k) = vp_updL (σ.2.2 31) (8 * st + x) (σ.2.2 32 x) (8 * i + k) from congrFun sB_row _, show (sB σ 31 (vp_updL (σ.2.2 31) (8 * st + x) (σ.2.2 32 x))).2.2 32 k = σ.2.2 32 k from rfl]
      by_cases z : i = st ∧ x + 1 ≤ k ∧ k < c
      · rw [if_pos z, if_pos (by omega)]
      · rw [if_neg z]
        by_cases y : k = x ∧ i = st
        · rw [y.1, y.2, updL_s, if_pos (by omega)]
        · rw [updL_n (by omega), if_neg (by omega)]
theorem rCntL {A : Nat → Bool} (hct : σ.2.1 23 3 = nI c) (hc : c ≤ 12) (h29 : σ.1 29 = nI st) (hst : st < 120) (hA : ∀ w, w < c → FX11_watches (nI w) (nI st) σ = some (bI (A w), σ)) : ∀ (d k f : Nat), k + d = c → d < f → FX11_step_65 L f (cnB A k) (nI k) σ = some (cnB A c, sI σ 29 (nI (st + 1)))
  | 0, k, f, hk, hf => by
    obtain ⟨f, rfl⟩ : ∃ z, f = z + 1 := ⟨f - 1, by omega⟩
    have : k = c := by omega
    subst this
    rw [FX11_step_65, if_neg (by decide), show (3 : Int32).toNatClampNeg = 3 from rfl, hct, if_pos (nI_le (Nat.le_refl _) (by omega)), h29, ← nI_succ]
  | d+1, k, f, hk, hf => by
    obtain ⟨f, rfl⟩ : ∃ z, f = z + 1 := ⟨f - 1, by omega⟩
    have ih := rCntL hct hc h29 hst hA d (k + 1) f (by omega) (by omega)
    rw [FX11_step_65, if_neg (by decide), show (3 : Int32).toNatClampNeg = 3 from rfl, hct, if_neg (by rw [nI_leI (by omega) (by omega)]; omega), h29, hA k (by omega), b2r, ← nI_succ, Int32.add_zero]
    rw [cnB] at ih
    cases hb : A k with
    | false => rw [hb] at ih; rw [bI_f, if_pos rfl]; exact ih
    | true => rw [hb] at ih; rw [bI_t, if_neg (by decide)]; exact ih
/-- one step in both -/
theorem stepBoth {x : Int32} (h : RelW kw len E nm nc st ks km σ τ) (hst : st < 120) (ht : TmOK (upd (τ.2.2.1 46) st x) (st + 1)) : ∃ σ' τ' r, FX10_doStep LF x τ = some ((), τ') ∧ FX10_broken LF 0 τ' = some (r, τ') ∧ FX11_step LF x σ = some (r, σ') ∧ RelW kw len E nm nc (st + 1) ks km σ' τ' ∧ σ'.1 0 = σ.1 0 ∧ τ'.2.2.1 46 = upd (τ.2.2.1 46) st x ∧ τ'.2.2.1 51 = τ.2.2.1 51 := by
  obtain ⟨hT, hP, hH, hK, hM, hC, hA⟩ := id h
  obtain ⟨p1, p2, p3, p4, ⟨p5, p6, p7, p8⟩, ⟨p9, q1, q2, q3⟩, q4, q5⟩ := id hP
  obtain ⟨h1, h2, h3, h4, h5, h6, h7⟩ := id hH
  have c8 := p1.c8
  have hl : LF = 5000 := rfl
  -- the class
  obtain ⟨T0, e1, g1⟩ := cSigL (L := LF) c8 hst (E.ct 0) 0 5000 (tA τ 46 (upd (τ.2.2.1 46) st x)) (by omega) (by omega) q4
  have hx : ∃ τ1, τ1 = tI (tT (tA τ 46 (upd (τ.2.2.1 46) st x)) 0 T0) 4402 (nI (st + 1)) := ⟨_, rfl⟩
  obtain ⟨τ1, hτ1⟩ := hx
  have t46 : τ1.2.2.1 46 = upd (τ.2.2.1 46) st x := by rw [hτ1]; exact tA_row (σ := τ) (k := 46) (f := upd (τ.2.2.1 46) st x)
  have tr : ∀ j, j ≠ 46 → τ1.2.2.1 j = τ.2.2.1 j := fun j hj => by rw [hτ1]; exact tA_o hj
  have tT0 : ∀ k i, τ1.2.2.2.2 0 k i = T0 k i := fun k i => by rw [hτ1]; exact congrFun (congrFun tT_row k) i
  have tTo : ∀ j, j ≠ 0 → τ1.2.2.2.2 j = τ.2.2.2.2 j := fun j hj => by rw [hτ1]; exact tT_o hj
  have ti : ∀ j, j ≠ 4402 → τ1.1 j = τ.1 j := fun j hj => by rw [hτ1]; exact tI_o hj
  have tB1 : τ1.2.2.2.1 = τ.2.2.2.1 := by rw [hτ1]
  have tL1 : τ1.2.1 = τ.2.1 := by rw [hτ1]
  have t44 : τ1.1 4402 = nI (st + 1) := by rw [hτ1]; exact tI_g
  have ntc : ntC τ1 = ntC τ := by unfold ntC; rw [tr 15 (by decide), tr 19 (by decide), tr 21 (by decide), tr 23 (by decide), tr 25 (by decide), tr 27 (by decide)]
  have bd : ∀ {q}, bdC τ q → bdC τ1 q := fun {q} hq => by
    unfold bdC at hq ⊢
    rw [tr 25 (by decide), tr 27 (by decide)]; exact hq
  have cel : ∀ q i, cellC τ1 q i = cellC τ q i := fun q i => by unfold cellC; rw [tTo 2 (by decide)]
  have hc8 : ∀ j, j < st → h8 (hsC τ1) (hsC τ) j := fun j hj j' hj' => ⟨by
    show τ1.2.2.1 46 j' = τ.2.2.1 46 j'
    rw [t46, upd_n (by omega)], fun k hk => by
    show τ1.2.2.2.2 0 k j' = τ.2.2.2.2 0 k j'
    rw [tT0, g1 k j', if_neg (by omega)]⟩
  have old : ∀ {V : Nat → Prop}, okT V (ntC τ) → TabC V st τ → ∀ q, V q → ∀ j, j < st → cellC τ1 q j = vaN (ntC τ1) (hsC τ1) q j := fun {V} hV hTab q hq j hj => by
    rw [cel, ntc, va8 hV hq (hc8 j hj)]; exact hTab q hq j hj
  have vt : VT (τ1.2.2.1 46) st := by rw [t46]; exact ht.vt (by omega) (by omega)
  obtain ⟨T1, e2, g2, g3⟩ := cReckon (N := nc) (from' := 0) (V := fun q => q < nc) (i := st) (L := LF) (by omega) (fun m hm => hm) (fun m _ hm => hm) hst (by decide) nc 0 5000 τ1 (by rw [ntc]; exact q2) (fun q hq => bd (q3 q hq)) vt (Nat.le_refl 0) (by omega) (by omega) (fun m _ hm => absurd hm (Nat.not_lt_zero _)) (fun m hm j hj => old q2 hC m hm j hj)
  -- the question of the class
  have e3 : ∃ T2 : Nat → Nat → Int64, FX10_doStep LF x τ = some ((), tT τ1 2 T2) ∧ (∀ m, m < nc → ∀ j, j ≤ st → T2 m j = vaN (ntC τ1) (hsC τ1) m j) ∧ (AskYes nm nc st σ τ → ∀ p0 ne qc, AskC nc st p0 ne qc τ → ∀ m, Vx (fun q => q < nc) p0 ne m → ∀ j, j ≤ st → T2 m j = vaN (ntC τ1) (hsC τ1) m j) := by
    have start : FX10_doStep LF x τ = (b2 (some ((), tT τ1 2 T1)) fun (_ : Unit) σ_2 => if (σ_2.1 10) = 0 then some ((), σ_2) else b2 (FX6_reckon LF (σ_2.1 12) (σ_2.1 13) (nI st) σ_2) fun (_ : Unit) σ_4 => some ((), σ_4)) := by
      rw [FX10_doStep, h3, pI (show st < 120 by omega) (by decide)]
      refine (show FX10_doStep_22 LF LF (nI st) 0 (tA τ 46 (upd (τ.2.2.1 46) st x)) = _ from e1).trans ?_
      rw [← hτ1]
      have e2 : FX6_reckon LF 0 (nI nc) (nI st) τ1 = some ((), tT τ1 2 T1) := e2
      rw [show (tA τ 46 (upd (τ.2.2.1 46) st x)).1 2809 = nI nc from p9, e2]
    rw [start, b2r]
    rcases hA with ⟨a1, a2, a3⟩ | hA
    · refine ⟨T1, ?_, g2, fun z => ?_⟩
      · rw [show (tT τ1 2 T1).1 10 = 0 from (ti 10 (by decide)).trans a2, if_pos rfl]
      · have := z.1; rw [a2] at this; exact absurd this (by decide)
    · obtain ⟨a0, p0, ne, qc, na, qm, hq, d, e⟩ := id hA
      obtain ⟨b1, b2', b3, b4, b5, b6, b7, b8, b9, b10⟩ := id hq
      obtain ⟨T2, f1, f2, f3⟩ := cReckon (N := ne) (from' := p0) (V := Vx (fun q => q < nc) p0 ne) (i := st) (L := LF) (by omega) (fun m hm => hm.elim (fun z => by have z : m < nc := z; omega) (fun z => z.2)) (fun m h1 h2 => Or.inr ⟨h1, h2⟩) hst (by decide) (ne - p0) p0 5000 (tT τ1 2 T1) (show okT _ (ntC τ1) by rw [ntc]; exact b8) (fun q hq => bd (b9 q hq)) vt (Nat.le_refl _) (by omega) (by omega) (fun m hm hlt j hj => by
        show (tT τ1 2 T1).2.2.2.2 2 m j = _
        rw [show (tT τ1 2 T1).2.2.2.2 2 = T1 from tT_row]
        exact g2 m (hm.elim id (fun z => by omega)) j hj) (fun m hm j hj => by
        show (tT τ1 2 T1).2.2.2.2 2 m j = _
        rw [show (tT τ1 2 T1).2.2.2.2 2 = T1 from tT_row]
        by_cases z : m < nc
        · exact g2 m z j (by omega)
        · rw [g3 m j (by omega)]
          exact old b8 b10 m hm j hj)
      refine ⟨T2, ?_, fun m hm j hj => ?_, fun _ p0' ne' qc' hq' m hm j hj => ?_⟩
      · have f1 : FX6_reckon LF (nI p0) (nI ne) (nI st) (tT τ1 2 T1) = some ((), tT (tT τ1 2 T1) 2 T2) := f1
        rw [if_neg (by rw [show (tT τ1 2 T1).1 10 = 1 from (ti 10 (by decide)).trans a0]; decide), show (tT τ1 2 T1).1 12 = nI p0 from (ti 12 (by decide)).trans b4, show (tT τ1 2 T1).1 13 = nI ne from (ti 13 (by decide)).trans b5, f1, b2r, tT_tT]
      · exact f2 m (Or.inl hm) j hj
      · have w1 : p0' = p0 := by
          have := hq'.2.2.2.1; rw [b4, nI_eq (by rcases b1 with z | z <;> omega) (by rcases hq'.1 with z | z <;> omega)] at this; exact this.symm
        have w2 : ne' = ne := by
          have := hq'.2.2.2.2.1; rw [b5, nI_eq (by rcases b1 with z | z <;> omega) (by rcases hq'.1 with z | z <;> have := hq'.2.2.1 <;> omega)] at this; exact this.symm
        subst w1; subst w2
        exact f2 m hm j hj
  obtain ⟨T2, e3, g4, g5⟩ := e3
  -- the reference
  obtain ⟨S, r1, s1⟩ := rSigL (L := LF) c8 hst (E.ct 0) 0 5000 (sA σ 30 (upd (σ.2.1 30) st x)) (by omega) (by omega) (p3.2.2.1 0 (by decide)) h2
  have hy : ∃ σ1, σ1 = sB (sA σ 30 (upd (σ.2.1 30) st x)) 31 S := ⟨_, rfl⟩
  obtain ⟨σ1, hσ1⟩ := hy
  have u30 : σ1.2.1 30 = upd (σ.2.1 30) st x := by rw [hσ1]; exact sA_row (σ := σ) (k := 30) (f := upd (σ.2.1 30) st x)
  have ur : ∀ j, j ≠ 30 → σ1.2.1 j = σ.2.1 j := fun j hj => by rw [hσ1]; exact sA_o hj
  have u31 : σ1.2.2 31 = S := by rw [hσ1]; exact sB_row
  have ub : ∀ j, j ≠ 31 → σ1.2.2 j = σ.2.2 j := fun j hj => by rw [hσ1]; exact sB_o hj
  have ui : σ1.1 = σ.1 := by rw [hσ1]
  have ntm : ntM σ1 = ntM σ := by unfold ntM; rw [ur 9 (by decide), ur 10 (by decide), ur 11 (by decide), ur 12 (by decide), ur 13 (by decide), ur 14 (by decide)]
  have hm8 : ∀ j, j < st → h8 (hsM σ1) (hsM σ) j := fun j hj j' hj' => ⟨by
    show σ1.2.1 30 j' = σ.2.1 30 j'
    rw [u30, upd_n (by omega)], fun k hk => by
    show σ1.2.2 31 (8 * j' + k) = σ.2.2 31 (8 * j' + k)
    rw [u31, s1 k j' hk, if_neg (by omega)]⟩
  obtain ⟨f, r2, s2, s3⟩ := rReckon (N := nm) (from' := 0) (V := fun q => q < nm) (i := st) (L := LF) (by omega) (fun m hm => hm) (fun m _ hm => hm) hst (by decide) nm 0 5000 σ1 (by rw [ntm]; exact p7) (by rw [ntm]; exact p8) (Nat.le_refl 0) (by omega) (by omega) (fun m _ hm => absurd hm (Nat.not_lt_zero _)) (fun m hm j hj => by
    have : tabM σ1 m j = tabM σ m j := by unfold tabM; rw [ub 16 (by decide)]
    rw [this, ntm, va8 p7 hm (hm8 j hj)]; exact hM m hm j hj)
  -- both together
  have hW2 : RelW kw len E nm nc (st + 1) ks km (sI (sB σ1 16 f) 29 (nI (st + 1))) (tT τ1 2 T2) := by
    have P3 : RefE E nm (sI (sB σ1 16 f) 29 (nI (st + 1))) := by
      obtain ⟨a1, a2, a3, a4, a5, a6⟩ := p3
      have nt2 : ntM (sI (sB σ1 16 f) 29 (nI (st + 1))) = ntM σ := ntm
      refine ⟨by rw [sI_o (by decide)]; show σ1.1 19 = _; rw [ui]; exact a1, fun j hj => ?_, fun s hs => ?_, fun s i u1 u2 u3 => ?_, fun i hi => ?_, fun i hi => ?_⟩
      · show TX (E.wd j) ((sB σ1 16 f).2.2 20 j) ∧ σ1.2.1 21 j = _ ∧ σ1.2.1 22 j = _
        rw [sB_o (by decide), ub 20 (by decide), ur 21 (by decide), ur 22 (by decide)]; exact a2 j hj
      · show σ1.2.1 23 s = _
        rw [ur 23 (by decide)]; exact a3 s hs
      · rw [nt2]
        show ∃ q, q < nm ∧ σ1.2.1 25 (12 * s + i) = nI q ∧ dnV (ntM σ) q = (E.dn s i).1 ∧ (s = 1 ∨ s = 3 → dnR (ntM σ) (σ1.2.1 15) q = (E.dn s i).2 ∧ BlD (E.dn s i))
        rw [ur 25 (by decide), ur 15 (by decide)]; exact a4 s i u1 u2 u3
      · show (sB σ1 16 f).2.2 24 i = _
        rw [sB_o (by decide), ub 24 (by decide)]; exact a5 i hi
      · show σ1.2.1 26 i = _
        rw [ur 26 (by decide)]; exact a6 i hi
    have P4 : ClsE E nc (tT τ1 2 T2) := by
      obtain ⟨a1, a2, a3, a4, a5, a6⟩ := p4
      have nt2 : ntC (tT τ1 2 T2) = ntC τ := ntc
      refine ⟨(ti 2807 (by decide)).trans a1, fun j hj => ?_, fun s hs => ?_, fun s i u1 u2 u3 => ?_, fun i hi => ?_, fun i hi => ?_⟩
      · show τ1.2.2.2.1 30 j = _ ∧ τ1.2.2.1 32 j = _ ∧ (_ → τ1.2.2.1 34 j = _) ∧ (_ → τ1.2.2.1 34 j = τ1.2.2.1 38 _)
        rw [tB1, tr 32 (by decide), tr 34 (by decide), tr 38 (by decide)]; exact a2 j hj
      · show τ1.2.2.1 36 s = _
        rw [tr 36 (by decide)]; exact a3 s hs
      · rw [nt2]
        show ∃ q, q < nc ∧ τ1.2.2.1 38 (12 * s + i) = nI q ∧ dnV (ntC τ) q = (E.dn s i).1 ∧ (s = 1 ∨ s = 3 → dnR (ntC τ) (τ1.2.2.1 17) q = (E.dn s i).2)
        rw [tr 38 (by decide), tr 17 (by decide)]; exact a4 s i u1 u2 u3
      · show τ1.2.2.2.1 40 i = _
        rw [tB1]; exact a5 i hi
      · show τ1.2.2.1 42 i = _
        rw [tr 42 (by decide)]; exact a6 i hi
    obtain ⟨t1, t2, t3, t4, t5, t6⟩ := hT
    obtain ⟨k1, k2, k3, k4, k5, k6, k7, k8, k9⟩ := hK
    have i0 : ∀ j, j ≠ 29 → (sI (sB σ1 16 f) 29 (nI (st + 1))).1 j = σ.1 j := fun j hj => by rw [sI_o hj]; show σ1.1 j = _; rw [ui]
    have cT : ∀ q i, cellC (tT τ1 2 T2) q i = T2 q i := fun q i => congrFun (congrFun tT_row q) i
    refine ⟨⟨?_, ?_, ?_, ?_, ?_, ?_⟩, ⟨p1, p2, P3, P4, ⟨?_, p6, ?_, ?_⟩, ⟨?_, q1, ?_, ?_⟩, ?_, ?_⟩, ⟨by omega, sI_g, t44, ?_, fun i hi => ?_, fun k i hk hi => ?_, fun k hk => ?_⟩, ⟨k1, k2, ?_, ?_, ?_, ?_, ?_, fun i hi => ?_, fun k i hk hi => ?_⟩, fun q hq i hi => ?_, fun q hq i hi => ?_, ?_⟩
    · show τ1.2.2.2.1 6 = _; rw [tB1]; exact t1
    · rw [i0 2 (by decide)]; exact t2
    · exact (ti 101 (by decide)).trans t3
    · show okBt (τ1.2.2.1 3) len; rw [tr 3 (by decide)]; exact t4
    · show σ1.2.1 1 = τ1.2.2.1 3; rw [ur 1 (by decide), tr 3 (by decide)]; exact t5
    · rw [i0 3 (by decide)]; exact t6.trans (ti 9 (by decide)).symm
    · rw [i0 27 (by decide)]; exact p5
    · show okT _ (ntM σ1); rw [ntm]; exact p7
    · show ∀ q, q < nm → okB (ntM σ1 q); rw [ntm]; exact p8
    · exact (ti 2809 (by decide)).trans p9
    · show okT _ (ntC τ1); rw [ntc]; exact q2
    · exact fun q hq => bd (q3 q hq)
    · exact (ti 4403 (by decide)).trans q4
    · rw [i0 18 (by decide)]; exact q5.trans (ti 2808 (by decide)).symm
    · show TmOK (τ1.2.2.1 46) _; rw [t46]; exact ht
    · show σ1.2.1 30 i = τ1.2.2.1 46 i
      rw [u30, t46]
      by_cases z : i = st
      · rw [z, upd_s, upd_s]
      · rw [upd_n z, upd_n z]; exact h5 i (by omega)
    · show (sB σ1 16 f).2.2 31 (8 * i + k) = (tT τ1 2 T2).2.2.2.2 0 k i
      rw [sB_o (by decide), u31, tT_o (by decide), tT0, s1 k i hk, g1 k i]
      by_cases z : i = st ∧ 0 ≤ k ∧ k < E.ct 0
      · rw [if_pos z, if_pos z]; exact h7 k z.2.2
      · rw [if_neg z, if_neg z]; exact h6 k i hk hi
    · show (sB σ1 16 f).2.2 32 k = τ1.2.2.2.1 58 k
      rw [sB_o (by decide), ub 32 (by decide), tB1]; exact h7 k hk
    · rw [i0 33 (by decide)]; exact k3
    · exact (ti 4902 (by decide)).trans k4
    · rw [i0 34 (by decide)]; exact k5
    · exact (ti 4903 (by decide)).trans k6
    · show TmOK (τ1.2.2.1 51) _; rw [tr 51 (by decide)]; exact k7
    · show σ1.2.1 35 i = τ1.2.2.1 51 i; rw [ur 35 (by decide), tr 51 (by decide)]; exact k8 i hi
    · show (sB σ1 16 f).2.2 36 (8 * i + k) = (tT τ1 2 T2).2.2.2.2 1 k i
      rw [sB_o (by decide), ub 36 (by decide), tT_o (by decide), tTo 1 (by decide)]; exact k9 k i hk hi
    · exact s2 q hq i (by omega)
    · rw [cT]; exact g4 q hq i (by omega)
    · rcases hA with ⟨a1, a2, a3⟩ | hA
      · exact Or.inl ⟨by rw [i0 28 (by decide)]; exact a1, (ti 10 (by decide)).trans a2, by rw [show (tT τ1 2 T2).1 12 = τ.1 12 from ti 12 (by decide)]; exact a3⟩
      · obtain ⟨a0, p0, ne, qc, na, qm, hq, ⟨d1, d2, d3, d4, d5, d6, d7⟩, e⟩ := id hA
        obtain ⟨b1, b2', b3, b4, b5, b6, b7, b8, b9, b10⟩ := id hq
        refine Or.inr ⟨(ti 10 (by decide)).trans a0, p0, ne, qc, na, qm, ⟨b1, b2', b3, (ti 12 (by decide)).trans b4, (ti 13 (by decide)).trans b5, (ti 11 (by decide)).trans b6, b7, ?_, fun q hq => bd (b9 q hq), fun q hq' i hi => ?_⟩, ⟨d1, d2, ?_, ?_, d5, ?_, ?_⟩, ?_⟩
        · show okT _ (ntC τ1); rw [ntc]; exact b8
        · rw [cT]; exact g5 hA p0 ne qc hq q hq' i (by omega)
        · rw [i0 28 (by decide)]; exact d3
        · rw [i0 40 (by decide)]; exact d4
        · show okT _ (ntM σ1); rw [ntm]; exact d6
        · show ∀ q, q < na → okB (ntM σ1 q); rw [ntm]; exact d7
        · show dnV (ntM σ1) qm = dnV (ntC τ1) qc; rw [ntm, ntc]; exact e
  have hbr : FX10_broken LF 0 (tT τ1 2 T2) = some (cnB (fun w => hoW E (tT τ1 2 T2) w st) (E.ct 3), tT τ1 2 T2) := by
    rw [cBroken hW2.2.1 hW2.2.2.1 hW2.2.2.2.2.1 hW2.2.2.2.2.2.1, if_neg (by omega)]
    rw [cnB_congr (B := fun w => hoW E (tT τ1 2 T2) w st) (E.ct 3) (fun j hj => by
      unfold brW
      rw [decide_eq_false (p2 j)]; rfl)]
  refine ⟨sI (sB σ1 16 f) 29 (nI (st + 1)), tT τ1 2 T2, _, e3, hbr, ?_, hW2, ?_, t46, tr 51 (by decide)⟩
  · rw [FX11_step, h2, if_neg (nI_in hst (by decide)), nI_clamp (by omega)]
    refine (show FX11_step_12 LF LF 0 (sA σ 30 (upd (σ.2.1 30) st x)) = _ from r1).trans ?_
    rw [← hσ1]
    have r2 : FX11_reckon LF 0 (nI nm) (nI st) σ1 = some ((), sB σ1 16 f) := r2
    rw [show (sA σ 30 (upd (σ.2.1 30) st x)).1 27 = nI nm from p5, r2, b2r]
    have hct : (sB σ1 16 f).2.1 23 3 = nI (E.ct 3) := by show σ1.2.1 23 3 = _; rw [ur 23 (by decide)]; exact p3.2.2.1 3 (by decide)
    have h29 : (sB σ1 16 f).1 29 = nI st := by show σ1.1 29 = _; rw [ui]; exact h2
    have c12 : E.ct 3 ≤ 12 := p1.c12 (by decide)
    refine rCntL (σ := sB σ1 16 f) (A := fun w => hoW E (tT τ1 2 T2) w st) hct (p1.c12 (by decide)) h29 hst (fun w hw => ?_) (E.ct 3) 0 5000 (by omega) (by omega)
    have := rWaV (σ := sI (sB σ1 16 f) 29 (nI (st + 1))) hW2.2.1 hW2.2.2.1 hW2.2.2.2.2.1 hW2.2.2.2.2.2.1 hw (show st < st + 1 by omega)
    obtain ⟨qm, qc, a1, a2, a3, a4, a5, a6⟩ := itemV (s := 3) hW2.2.1 hW2.2.2.1 hW2.2.2.2.2.1 hW2.2.2.2.2.2.1 (by decide) (by decide) hw
    have a3 : (sB σ1 16 f).2.1 25 (12 * 3 + w) = nI qm := a3
    have a5' : tabM (sB σ1 16 f) qm st = (E.dn 3 w).1 (hsC (tT τ1 2 T2)) st := (a5 st (by omega)).1
    have h12 : E.ct 3 ≤ 12 := p1.c12 (by decide)
    rw [FX11_watches, show (36 : Int32) + nI w = nI (12 * 3 + w) from nI_add 36 w, if_neg (nI_in (show 12 * 3 + w < 48 by omega) (by decide)), nI_clamp (by omega), a3, rHolds (by omega) (by omega), a5', b2r, if_neg bI_nn]
    rfl
  · rw [sI_o (by decide)]; show σ1.1 0 = _; rw [ui]
theorem ok_tick : OK_tick (Rel kw) := by
  intro σ τ h p0
  obtain ⟨len, E, nm, nc, st, ks, km, hW⟩ := id h
  obtain ⟨hT, hP, hH, hK, hM, hC, hA⟩ := id hW
  obtain ⟨h1, h2, h3, h4, h5, h6, h7⟩ := id hH
  have e18 : σ.1 18 = τ.1 2808 := hP.2.2.2.2.2.2.2
  rw [FX10_tick, FX11_tick, show (1000 : Int32) = nI 1000 from rfl]
  have bad2 : ∃ σ', FX11_tick_38 LF (sI σ 0 0) = some (0, σ') ∧ σ'.1 0 = 2 ∧ Rel kw σ' τ := ⟨sI (sI σ 0 0) 0 2, by rw [FX11_tick_38, FX11_no, b2r], sI_g, h.s0.s0⟩
  obtain ⟨σb, b1, b2', b3⟩ := bad2
  rcases inLe p0 (show 1000 + 1 < 2 ^ 31 by decide) with ⟨x, hx, rfl, e⟩ | ⟨e, g⟩
  · rw [if_neg (nI_pos (by omega)), if_pos (nI_le hx (by decide)), e, obS, if_neg (show ¬ ((1 : Int32) = 0) by decide), e18, h2, h3]
    by_cases z : τ.1 2808 = 0
    · rw [if_pos z, if_pos z, b1]
      exact ⟨.inl 0, τ, 2, 0, σb, rfl, rfl, rfl, b2', fun z => absurd z (by decide), b3⟩
    rw [if_neg z, if_neg z, show (120 : Int32) = nI 120 from rfl]
    by_cases y : st < 120
    · have e120 : ¬ (nI st = nI 120) := by rw [nI_eq (by omega) (by decide)]; omega
      rw [if_pos (nI_lt y (by decide)), if_neg e120, FX0_lastTime, h3]
      have fin : ∀ v, v ≤ 1000 * (st + 1) → (∀ f : Nat → Nat, (∀ j, j < st → τ.2.2.1 46 j = nI (f j) ∧ f j ≤ 1000 * (j + 1)) → (∀ j k, j ≤ k → k < st → f j ≤ f k) → ∀ j, j < st → f j ≤ v) → ∃ (o : Nat ⊕ Int32) (τ' : CS) (r : Int32) (b : Int32) (σ' : MS), (b2 (FX10_doStep LF (nI v) τ) fun (_ : Unit) σ_6 => b2 (FX10_broken LF (0 : Int32) σ_6) fun r_7 σ_7 => some (.inr r_7, σ_7)) = some (o, τ') ∧ cdL_tick o = some r ∧ (b2 (FX11_step LF (nI v) (sI σ 0 0)) fun r_8 σ_8 => some (r_8, σ_8)) = some (b, σ') ∧ σ'.1 0 = r ∧ (r = 0 → o = .inr b) ∧ Rel kw σ' τ' := by
        intro v hv hmon
        obtain ⟨f, f1, f2⟩ := h4
        have tm : TmOK (upd (τ.2.2.1 46) st (nI v)) (st + 1) := by
          refine ⟨fun j => if j = st then v else f j, fun j hj => ?_, fun j k hjk hk => ?_⟩
          · by_cases w : j = st
            · simp only [w, if_true]; rw [upd_s]; exact ⟨rfl, hv⟩
            · simp only [w, if_false]; rw [upd_n w]; exact f1 j (by omega)
          · by_cases w : k = st
            · by_cases w2 : j = st
              · simp only [w, w2, if_true]; exact Nat.le_refl _
              · simp only [w, w2, if_true, if_false]; exact hmon f f1 f2 j (by omega)
            · have w2 : j ≠ st := by omega
              simp only [w, w2, if_false]; exact f2 j k hjk (by omega)
        obtain ⟨σ', τ', r, g1, g2, g3, g4, g5, g6, g7⟩ := stepBoth (hW.s0 (v := 0)) y tm
        refine ⟨.inr r, τ', 0, r, σ', ?_, rfl, ?_, g5.trans sI_g, fun _ => rfl, len, E, nm, nc, st + 1, ks, km, g4⟩
        · rw [g1, b2r, g2, b2r]
        · rw [g3, b2r]
      by_cases w : st = 0
      · subst w
        rw [if_pos (by decide), if_pos (by decide), b2r, FX11_tick_67]
        have e0 : (0 : Int32) + nI x = nI x := by rw [show (0 : Int32) = nI 0 from rfl, nI_add, Nat.zero_add]
        rw [e0]
        exact fin x (by omega) (fun f _ _ j hj => absurd hj (Nat.not_lt_zero _))
      · have e1 : nI st - 1 = nI (st - 1) := nI_sub (show 1 ≤ st by omega)
        obtain ⟨f, f1, f2⟩ := id h4
        have w1 := f1 (st - 1) (by omega)
        rw [if_neg (nI_nle (by omega) (by omega)), if_neg (nI_ne0 (by omega) (by omega)), e1, if_neg (nI_in (show st - 1 < 120 by omega) (by decide)), nI_clamp (by omega), gI (show st - 1 < 120 by omega) (by decide), b2r, FX11_tick_67, h5 (st - 1) (by omega), w1.1, nI_add]
        refine fin (f (st - 1) + x) (by have := w1.2; rw [show st - 1 + 1 = st by omega] at this; omega) (fun f' a1 a2 j hj => ?_)
        have := a2 j (st - 1) (by omega) (by omega)
        have q := (a1 (st - 1) (by omega))
        have q2 := q.1
        rw [w1.1, nI_eq (by have := w1.2; omega) (by have := q.2; omega)] at q2
        omega
    · rw [if_neg (by rw [nI_ltI (by omega) (by decide)]; exact y), if_pos (by rw [nI_eq (by omega) (by decide)]; omega), b1]
      exact ⟨.inl 0, τ, 2, 0, σb, rfl, rfl, rfl, b2', fun z => absurd z (by decide), b3⟩
  · refine ⟨.inl 1, τ, 1, 0, sI (sI σ 0 0) 0 1, ?_, rfl, ?_, sI_g, fun z => absurd z (by decide), h.s0.s0⟩
    · rcases g with g | ⟨g, g2⟩
      · rw [if_pos g, FX10_tick_11]
      · rw [if_neg g, if_neg g2, FX10_tick_11]
    · rw [e, obS, if_pos rfl, FX11_no, b2r]
end RG
