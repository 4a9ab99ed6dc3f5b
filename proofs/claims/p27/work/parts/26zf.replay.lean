-- keeping, and doing again
section RK
variable {σ σ1 σ2 : MS} {τ τ1 τ2 : CS} {kw : Nat → Int64} {len nm nc st ks km c m L : Nat} {E : EnvN}
theorem cSetL {i : Nat} {x2 : Int32} {k46 : Int32 → Int32 → Int32 → CS → Option ((Nat ⊕ Int32) × CS)} (hm : m ≤ 8) (hi : i < 120) : ∀ (d x f : Nat) (τ : CS), x + d = m → d < f → ∃ F : Nat → Int64, FX10_replay_60 L k46 f (nI m) x2 (nI i) (nI x) τ = (b2 (FX10_doStep L (τ.2.2.1 51 i) (tB τ 58 F)) fun (_ : Unit) σ_5 => b2 (FX10_broken L (0 : Int32) σ_5) fun r_6 σ_6 => if r_6 = 0 then k46 (nI m) (x2 + (1 : Int32)) (nI (i + 1)) σ_6 else k46 (nI m) x2 (nI (i + 1)) σ_6) ∧ ∀ k, F k = if x ≤ k ∧ k < m then τ.2.2.2.2 1 k i else τ.2.2.2.1 58 k
  | 0, x, f, τ, hx, hf => by
    obtain ⟨f, rfl⟩ : ∃ z, f = z + 1 := ⟨f - 1, by omega⟩
    refine ⟨τ.2.2.2.1 58, ?_, fun k => by rw [if_neg (by omega)]⟩
    have e : tB τ 58 (τ.2.2.2.1 58) = τ := by
      show ((τ.1, τ.2.1, τ.2.2.1, va_up τ.2.2.2.1 58 (τ.2.2.2.1 58), τ.2.2.2.2) : CS) = τ
      have : va_up τ.2.2.2.1 58 (τ.2.2.2.1 58) = τ.2.2.2.1 := by
        funext j; unfold va_up; by_cases h : j = 58
        · rw [if_pos h, h]
        · rw [if_neg h]
      rw [this]
    rw [FX10_replay_60, if_pos (nI_le (by omega) (by omega)), gI hi (by decide), e, ← nI_succ]
  | d+1, x, f, τ, hx, hf => by
    obtain ⟨f, rfl⟩ : ∃ z, f = z + 1 := ⟨f - 1, by omega⟩
    obtain ⟨F, e, g⟩ := cSetL (x2 := x2) (k46 := k46) hm hi d (x + 1) f (tB τ 58 (vp_updL (τ.2.2.2.1 58) x (τ.2.2.2.2 1 x i))) (by omega) (by omega)
    have cc : tB (tB τ 58 (vp_updL (τ.2.2.2.1 58) x (τ.2.2.2.2 1 x i))) 58 F = tB τ 58 F := by
      show ((τ.1, τ.2.1, τ.2.2.1, va_up (va_up τ.2.2.2.1 58 _) 58 F, τ.2.2.2.2) : CS) = _
      rw [va_upup]
    refine ⟨F, ?_, fun k => ?_⟩
    · rw [FX10_replay_60, if_neg (by rw [nI_leI (by omega) (by omega)]; omega), pL (show x < 8 by omega) (by decide), gT (show x < 8 by omega) (by decide) hi, ← nI_succ, e, cc]
    · rw [g k, tB_row]
      show (if x + 1 ≤ k ∧ k < m then τ.2.2.2.2 1 k i else vp_updL (τ.2.2.2.1 58) x (τ.2.2.2.2 1 x i) k) = _
      by_cases z : k = x
      · rw [if_neg (by omega), z, updL_s, if_pos (by omega)]
      · rw [updL_n z]
        by_cases y : x + 1 ≤ k ∧ k < m
        · rw [if_pos y, if_pos (by omega)]
        · rw [if_neg y, if_neg (by omega)]
theorem rSetL {i : Nat} {x1 : Int32} {k26 : Int32 → Int32 → MS → Option (Int32 × MS)} (hm : m ≤ 8) (hi : i < 120) : ∀ (d x f : Nat) (σ : MS), x + d = m → d < f → (if σ.1 34 < σ.2.1 23 0 then σ.1 34 else σ.2.1 23 0) = nI m → ∃ F : Nat → Int64, FX11_replay_36 L k26 f x1 (nI i) (nI x) σ = (b2 (FX11_step L (σ.2.1 35 i) (sB σ 32 F)) fun r_7 σ_7 => if r_7 = 0 then k26 (x1 + (1 : Int32)) (nI (i + 1)) σ_7 else k26 x1 (nI (i + 1)) σ_7) ∧ ∀ k, F k = if x ≤ k ∧ k < m then σ.2.2 36 (8 * i + k) else σ.2.2 32 k
  | 0, x, f, σ, hx, hf, hmin => by
    obtain ⟨f, rfl⟩ : ∃ z, f = z + 1 := ⟨f - 1, by omega⟩
    refine ⟨σ.2.2 32, ?_, fun k => by rw [if_neg (by omega)]⟩
    have e : sB σ 32 (σ.2.2 32) = σ := by
      show ((σ.1, σ.2.1, va_up σ.2.2 32 (σ.2.2 32)) : MS) = σ
      have : va_up σ.2.2 32 (σ.2.2 32) = σ.2.2 := by
        funext j; unfold va_up; by_cases h : j = 32
        · rw [if_pos h, h]
        · rw [if_neg h]
      rw [this]
    rw [FX11_replay_36, if_neg (by decide), show (0 : Int32).toNatClampNeg = 0 from rfl, hmin, if_pos (nI_le (by omega) (by omega)), if_neg (nI_in hi (by decide)), nI_clamp (by omega), e, ← nI_succ, Int32.add_zero]
  | d+1, x, f, σ, hx, hf, hmin => by
    obtain ⟨f, rfl⟩ : ∃ z, f = z + 1 := ⟨f - 1, by omega⟩
    obtain ⟨i1, i2, i3⟩ := ix_sg (show x < 8 by omega) hi
    obtain ⟨F, e, g⟩ := rSetL (x1 := x1) (k26 := k26) hm hi d (x + 1) f (sB σ 32 (vp_updL (σ.2.2 32) x (σ.2.2 36 (8 * i + x)))) (by omega) (by omega) hmin
    refine ⟨F, ?_, fun k => ?_⟩
    · rw [FX11_replay_36, if_neg (by decide), show (0 : Int32).toNatClampNeg = 0 from rfl, hmin, if_neg (by rw [nI_leI (by omega) (by omega)]; omega), i1, if_neg i2, if_neg (nI_in (show x < 8 by omega) (by decide)), i3, nI_clamp (by omega), ← nI_succ, e, sB_sB]
    · rw [g k, sB_row]
      show (if x + 1 ≤ k ∧ k < m then σ.2.2 36 (8 * i + k) else vp_updL (σ.2.2 32) x (σ.2.2 36 (8 * i + x)) k) = _
      by_cases z : k = x
      · rw [if_neg (by omega), z, updL_s, if_pos (by omega)]
      · rw [updL_n z]
        by_cases y : x + 1 ≤ k ∧ k < m
        · rw [if_pos y, if_pos (by omega)]
        · rw [if_neg y, if_neg (by omega)]
theorem nI_min {a b : Nat} (ha : a < 2 ^ 31) (hb : b < 2 ^ 31) : (if nI a < nI b then nI a else nI b) = nI (min a b) := by
  by_cases h : a < b
  · rw [if_pos (nI_lt h hb), Nat.min_eq_left (by omega)]
  · rw [if_neg (fun z => h ((nI_ltI ha hb).mp z)), Nat.min_eq_right (by omega)]
theorem replayBoth (hm : m = min (E.ct 0) km) : ∀ (d i n n' : Nat) (good : Int32) (σ : MS) (τ : CS), i + d = ks → d < n → d < n' → RelW kw len E nm nc i ks km σ τ → (∀ j, j < i → τ.2.2.1 46 j = τ.2.2.1 51 j) → ∃ σ' τ' r, FX10_replay_46 LF n (nI m) good (nI i) τ = some (.inr r, τ') ∧ FX11_replay_26 LF n' good (nI i) σ = some (r, σ') ∧ σ'.1 0 = σ.1 0 ∧ Rel kw σ' τ'
  | 0, i, n, n', good, σ, τ, hi, hn, hn', h, ht => by
    obtain ⟨n, rfl⟩ : ∃ z, n = z + 1 := ⟨n - 1, by omega⟩
    obtain ⟨n', rfl⟩ : ∃ z, n' = z + 1 := ⟨n' - 1, by omega⟩
    obtain ⟨k1, k2, k3, k4, k5, k6, k7, k8, k9⟩ := id h.2.2.2.1
    refine ⟨σ, τ, good, ?_, ?_, rfl, len, E, nm, nc, i, ks, km, h⟩
    · rw [FX10_replay_46, k4, if_pos (nI_le (by omega) (by omega))]
    · rw [FX11_replay_26, k3, if_pos (nI_le (by omega) (by omega))]
  | d+1, i, n, n', good, σ, τ, hi, hn, hn', h, ht => by
    obtain ⟨n, rfl⟩ : ∃ z, n = z + 1 := ⟨n - 1, by omega⟩
    obtain ⟨n', rfl⟩ : ∃ z, n' = z + 1 := ⟨n' - 1, by omega⟩
    obtain ⟨hT, hP, hH, hK, hM, hC, hA⟩ := id h
    obtain ⟨k1, k2, k3, k4, k5, k6, k7, k8, k9⟩ := id hK
    obtain ⟨h1, h2, h3, h4, h5, h6, h7⟩ := id hH
    have c8 := hP.1.c8
    have hm8 : m ≤ 8 := by omega
    have hmin : (if σ.1 34 < σ.2.1 23 0 then σ.1 34 else σ.2.1 23 0) = nI m := by
      rw [k5, hP.2.2.1.2.2.1 0 (by decide), nI_min (by omega) (by omega), hm, Nat.min_comm]
    obtain ⟨F, e1, g1⟩ := cSetL (L := LF) (x2 := good) (k46 := FX10_replay_46 LF n) hm8 (show i < 120 by omega) m 0 5000 τ (by omega) (by omega)
    obtain ⟨G, e2, g2⟩ := rSetL (L := LF) (x1 := good) (k26 := FX11_replay_26 LF n') hm8 (show i < 120 by omega) m 0 5000 σ (by omega) (by omega) hmin
    have W : RelW kw len E nm nc i ks km (sB σ 32 G) (tB τ 58 F) := by
      refine ⟨hT, hP, ⟨h1, h2, h3, h4, h5, h6, fun k hk => ?_⟩, hK, hM, hC, hA⟩
      rw [sB_row, tB_row, g1 k, g2 k]
      by_cases z : 0 ≤ k ∧ k < m
      · rw [if_pos z, if_pos z]; exact k9 k i (by omega) (by omega)
      · rw [if_neg z, if_neg z]; exact h7 k hk
    have tm : TmOK (upd ((tB τ 58 F).2.2.1 46) i (τ.2.2.1 51 i)) (i + 1) := by
      obtain ⟨f, f1, f2⟩ := k7
      refine ⟨f, fun j hj => ?_, fun j k hjk hk => f2 j k hjk (by omega)⟩
      by_cases z : j = i
      · rw [z, upd_s]; exact f1 i (by omega)
      · rw [upd_n z]
        show τ.2.2.1 46 j = _ ∧ _
        rw [ht j (by omega)]; exact f1 j (by omega)
    obtain ⟨σ3, τ3, r, s1, s2, s3, s4, s5, s6, s7⟩ := stepBoth W (show i < 120 by omega) tm
    have ht3 : ∀ j, j < i + 1 → τ3.2.2.1 46 j = τ3.2.2.1 51 j := fun j hj => by
      rw [s6, s7]
      show upd (τ.2.2.1 46) i (τ.2.2.1 51 i) j = τ.2.2.1 51 j
      by_cases z : j = i
      · rw [z, upd_s]
      · rw [upd_n z]; exact ht j (by omega)
    rw [FX10_replay_46, k4, if_neg (by rw [nI_leI (by omega) (by omega)]; omega), FX11_replay_26, k3, if_neg (by rw [nI_leI (by omega) (by omega)]; omega)]
    have e1 : FX10_replay_60 LF (FX10_replay_46 LF n) LF (nI m) good (nI i) 0 τ = _ := e1
    have e2 : FX11_replay_36 LF (FX11_replay_26 LF n') LF good (nI i) 0 σ = _ := e2
    rw [e1, e2, s1, b2r, s2, b2r, k8 i (by omega), s3, b2r]
    by_cases z : r = 0
    · rw [if_pos z, if_pos z]
      obtain ⟨σ', τ', r', a1, a2, a3, a4⟩ := replayBoth hm d (i + 1) n n' (good + 1) σ3 τ3 (by omega) (by omega) (by omega) s4 ht3
      exact ⟨σ', τ', r', a1, a2, a3.trans s5, a4⟩
    · rw [if_neg z, if_neg z]
      obtain ⟨σ', τ', r', a1, a2, a3, a4⟩ := replayBoth hm d (i + 1) n n' good σ3 τ3 (by omega) (by omega) (by omega) s4 ht3
      exact ⟨σ', τ', r', a1, a2, a3.trans s5, a4⟩
theorem ok_replay : OK_replay (Rel kw) := by
  intro σ τ h
  obtain ⟨len, E, nm, nc, st, ks, km, hW⟩ := id h
  obtain ⟨hT, hP, hH, hK, hM, hC, hA⟩ := id hW
  have e18 : σ.1 18 = τ.1 2808 := hP.2.2.2.2.2.2.2
  have ks120 := hK.1
  have km8 := hK.2.1
  have c8 := hP.1.c8
  rw [FX10_replay, FX11_replay, e18]
  by_cases z : τ.1 2808 = 0
  · rw [if_pos z, if_pos z]
    exact ⟨.inl 0, τ, 1, 0, sI (sI σ 0 0) 0 1, rfl, rfl, by rw [FX11_no, b2r], sI_g, fun z => absurd z (by decide), h.s0.s0⟩
  · rw [if_neg z, if_neg z]
    obtain ⟨τ', e1, g1⟩ := cBegin (τ := τ) (show 2000 ≤ LF by decide)
    obtain ⟨σ', e2, g2⟩ := rBegin (σ := sI σ 0 0) (c := E.ct 0) (show 1000 ≤ LF by decide) hP.1.c8 (hP.2.2.1.2.2.1 0 (by decide))
    have W := (hW.s0 (v := 0)).bg g1 g2
    obtain ⟨k1, k2, k3, k4, k5, k6, k7, k8, k9⟩ := id W.2.2.2.1
    have q4 : τ'.1 4403 = nI (E.ct 0) := W.2.1.2.2.2.2.2.2.1
    rw [e1, b2r, e2, b2r, q4, k6, nI_min (by omega) (by omega)]
    obtain ⟨σ3, τ3, r, a1, a2, a3, a4⟩ := replayBoth (ks := ks) (km := km) (E := E) rfl ks 0 5000 5000 0 σ' τ' (by omega) (by omega) (by omega) W (fun j hj => absurd hj (Nat.not_lt_zero _))
    exact ⟨.inr r, τ3, 0, r, σ3, a1, rfl, a2, by rw [a3, g2.1 0 (by decide)]; exact sI_g, fun _ => rfl, a4⟩
-- keeping
theorem cKeepS {i : Nat} {k18 : Int32 → CS → Option (Unit × CS)} (hm : m ≤ 8) (hi : i < 120) : ∀ (d x f : Nat) (τ : CS), x + d = m → d < f → τ.1 4903 = nI m → ∃ T : Nat → Nat → Int64, FX0_copy_44 L k18 f (nI i) (nI x) τ = k18 (nI (i + 1)) (tT τ 1 T) ∧ ∀ k j, T k j = if j = i ∧ x ≤ k ∧ k < m then τ.2.2.2.2 0 k i else τ.2.2.2.2 1 k j
  | 0, x, f, τ, hx, hf, h => by
    obtain ⟨f, rfl⟩ : ∃ z, f = z + 1 := ⟨f - 1, by omega⟩
    refine ⟨τ.2.2.2.2 1, ?_, fun k j => by rw [if_neg (by omega)]⟩
    rw [FX0_copy_44, h, if_pos (nI_le (by omega) (by omega)), tT_id, ← nI_succ]
  | d+1, x, f, τ, hx, hf, h => by
    obtain ⟨f, rfl⟩ : ∃ z, f = z + 1 := ⟨f - 1, by omega⟩
    obtain ⟨T, e, g⟩ := cKeepS (k18 := k18) hm hi d (x + 1) f (tT τ 1 (va_up (τ.2.2.2.2 1) x (vp_updL (τ.2.2.2.2 1 x) i (τ.2.2.2.2 0 x i)))) (by omega) (by omega) h
    refine ⟨T, ?_, fun k j => ?_⟩
    · rw [FX0_copy_44, h, if_neg (by rw [nI_leI (by omega) (by omega)]; omega), pT (show x < 8 by omega) (by decide) hi, gT (show x < 8 by omega) (by decide) hi, ← nI_succ, e, tT_tT]
    · rw [g k j, show (tT τ 1 (va_up (τ.2.2.2.2 1) x (vp_updL (τ.2.2.2.2 1 x) i (τ.2.2.2.2 0 x i)))).2.2.2.2 1 k j = va_up (τ.2.2.2.2 1) x (vp_updL (τ.2.2.2.2 1 x) i (τ.2.2.2.2 0 x i)) k j from congrFun (congrFun tT_row k) j, cell_up]
      show (if j = i ∧ x + 1 ≤ k ∧ k < m then τ.2.2.2.2 0 k i else _) = _
      by_cases z : j = i ∧ x + 1 ≤ k ∧ k < m
      · rw [if_pos z, if_pos (by omega)]
      · rw [if_neg z]
        by_cases y : k = x ∧ j = i
        · rw [if_pos y, if_pos (by omega), y.1]
        · rw [if_neg y, if_neg (by omega)]
theorem cKeepL (hm : m ≤ 8) (hst : st ≤ 120) (hL : 10 ≤ L) : ∀ (d x f : Nat) (τ : CS), x + d = st → d < f → τ.1 4902 = nI st → τ.1 4903 = nI m → ∃ (t : Nat → Int32) (T : Nat → Nat → Int64), FX0_copy_18 L f (nI x) τ = some ((), tT (tA τ 51 t) 1 T) ∧ (∀ i, t i = if x ≤ i ∧ i < st then τ.2.2.1 46 i else τ.2.2.1 51 i) ∧ ∀ k i, T k i = if (x ≤ i ∧ i < st) ∧ k < m then τ.2.2.2.2 0 k i else τ.2.2.2.2 1 k i
  | 0, x, f, τ, hx, hf, h, h2 => by
    obtain ⟨f, rfl⟩ : ∃ z, f = z + 1 := ⟨f - 1, by omega⟩
    refine ⟨τ.2.2.1 51, τ.2.2.2.2 1, ?_, fun i => by rw [if_neg (by omega)], fun k i => by rw [if_neg (by omega)]⟩
    have e : tA τ 51 (τ.2.2.1 51) = τ := by
      show ((τ.1, τ.2.1, va_up τ.2.2.1 51 (τ.2.2.1 51), τ.2.2.2) : CS) = τ
      have : va_up τ.2.2.1 51 (τ.2.2.1 51) = τ.2.2.1 := by
        funext j; unfold va_up; by_cases h : j = 51
        · rw [if_pos h, h]
        · rw [if_neg h]
      rw [this]
    rw [FX0_copy_18, h, if_pos (nI_le (by omega) (by omega)), e, tT_id]
  | d+1, x, f, τ, hx, hf, h, h2 => by
    obtain ⟨f, rfl⟩ : ∃ z, f = z + 1 := ⟨f - 1, by omega⟩
    obtain ⟨T1, e1, g1⟩ := cKeepS (L := L) (k18 := FX0_copy_18 L f) hm (show x < 120 by omega) m 0 L (tA τ 51 (upd (τ.2.2.1 51) x (τ.2.2.1 46 x))) (by omega) (by omega) h2
    obtain ⟨t, T, e, g, g2⟩ := cKeepL hm hst hL d (x + 1) f (tT (tA τ 51 (upd (τ.2.2.1 51) x (τ.2.2.1 46 x))) 1 T1) (by omega) (by omega) h h2
    have e1 : FX0_copy_44 L (FX0_copy_18 L f) L (nI x) 0 (tA τ 51 (upd (τ.2.2.1 51) x (τ.2.2.1 46 x))) = _ := e1
    have cc : tT (tA (tT (tA τ 51 (upd (τ.2.2.1 51) x (τ.2.2.1 46 x))) 1 T1) 51 t) 1 T = tT (tA τ 51 t) 1 T := by
      show ((τ.1, τ.2.1, va_up (va_up τ.2.2.1 51 _) 51 t, τ.2.2.2.1, va_up (va_up τ.2.2.2.2 1 T1) 1 T) : CS) = (τ.1, τ.2.1, va_up τ.2.2.1 51 t, τ.2.2.2.1, va_up τ.2.2.2.2 1 T)
      rw [va_upup, va_upup]
    refine ⟨t, T, ?_, fun i => ?_, fun k i => ?_⟩
    · rw [FX0_copy_18, h, if_neg (by rw [nI_leI (by omega) (by omega)]; omega), pI (show x < 120 by omega) (by decide), gI (show x < 120 by omega) (by decide), e1, e, cc]
    · rw [g i, show (tT (tA τ 51 (upd (τ.2.2.1 51) x (τ.2.2.1 46 x))) 1 T1).2.2.1 51 i = upd (τ.2.2.1 51) x (τ.2.2.1 46 x) i from congrFun (tA_row (σ := τ) (k := 51) (f := upd (τ.2.2.1 51) x (τ.2.2.1 46 x))) i, show (tT (tA τ 51 (upd (τ.2.2.1 51) x (τ.2.2.1 46 x))) 1 T1).2.2.1 46 i = τ.2.2.1 46 i from rfl]
      by_cases z : i = x
      · rw [if_neg (by omega), z, upd_s, if_pos (by omega)]
      · rw [upd_n z]
        by_cases y : x + 1 ≤ i ∧ i < st
        · rw [if_pos y, if_pos (by omega)]
        · rw [if_neg y, if_neg (by omega)]
    · rw [g2 k i, show (tT (tA τ 51 (upd (τ.2.2.1 51) x (τ.2.2.1 46 x))) 1 T1).2.2.2.2 1 k i = T1 k i from congrFun (congrFun tT_row k) i, g1 k i]
      show (if (x + 1 ≤ i ∧ i < st) ∧ k < m then τ.2.2.2.2 0 k i else (if i = x ∧ 0 ≤ k ∧ k < m then τ.2.2.2.2 0 k x else τ.2.2.2.2 1 k i)) = _
      by_cases y : (x + 1 ≤ i ∧ i < st) ∧ k < m
      · rw [if_pos y, if_pos (by omega)]
      · rw [if_neg y]
        by_cases z : i = x ∧ 0 ≤ k ∧ k < m
        · rw [if_pos z, if_pos (by omega), z.1]
        · rw [if_neg z, if_neg (by omega)]
theorem ok_keep : OK_keep (Rel kw) := by
  intro σ τ h
  obtain ⟨len, E, nm, nc, st, ks, km, hT, hP, hH, hK, hM, hC, hA⟩ := id h
  obtain ⟨h1, h2, h3, h4, h5, h6, h7⟩ := id hH
  have c8 := hP.1.c8
  have q4 : τ.1 4403 = nI (E.ct 0) := hP.2.2.2.2.2.2.1
  obtain ⟨t, T, e, g1, g2⟩ := cKeepL (L := LF) c8 h1 (by decide) st 0 5000 (tI (tI τ 4902 (τ.1 4402)) 4903 (τ.1 4403)) (by omega) (by omega) (by rw [tI_o (by decide), tI_g]; exact h3) (by rw [tI_g]; exact q4)
  have e : FX0_copy LF τ = _ := e
  refine ⟨nI st, tT (tA (tI (tI τ 4902 (τ.1 4402)) 4903 (τ.1 4403)) 51 t) 1 T, sB (sA (sI (sI (sI σ 0 0) 33 (σ.1 29)) 34 (σ.2.1 23 0)) 35 (va_cpy (σ.2.1 30) (σ.2.1 35) 0 0 120)) 36 (va_cpy (σ.2.2 31) (σ.2.2 36) 0 0 960), ?_, ?_, ?_⟩
  · rw [FX10_keep, e, b2r]
    have : (tT (tA (tI (tI τ 4902 (τ.1 4402)) 4903 (τ.1 4403)) 51 t) 1 T).1 4902 = nI st := by
      show (tI (tI τ 4902 (τ.1 4402)) 4903 (τ.1 4403)).1 4902 = _
      rw [tI_o (by decide), tI_g]; exact h3
    rw [this]
  · rw [FX11_keep, if_neg (by decide), h2]; rfl
  · refine ⟨len, E, nm, nc, st, st, E.ct 0, hT, hP, hH, ⟨h1, c8, ?_, ?_, ?_, ?_, ?_, fun i hi => ?_, fun k i hk hi => ?_⟩, hM, hC, hA⟩
    · show (sI (sI (sI σ 0 0) 33 (σ.1 29)) 34 (σ.2.1 23 0)).1 33 = _
      rw [sI_o (by decide), sI_g]; exact h2
    · show (tI (tI τ 4902 (τ.1 4402)) 4903 (τ.1 4403)).1 4902 = _
      rw [tI_o (by decide), tI_g]; exact h3
    · show (sI (sI (sI σ 0 0) 33 (σ.1 29)) 34 (σ.2.1 23 0)).1 34 = _
      rw [sI_g]; exact hP.2.2.1.2.2.1 0 (by decide)
    · show (tI (tI τ 4902 (τ.1 4402)) 4903 (τ.1 4403)).1 4903 = _
      rw [tI_g]; exact q4
    · rw [show (tT (tA (tI (tI τ 4902 (τ.1 4402)) 4903 (τ.1 4403)) 51 t) 1 T).2.2.1 51 = t from tA_row (σ := tI (tI τ 4902 (τ.1 4402)) 4903 (τ.1 4403)) (k := 51) (f := t)]
      obtain ⟨f, f1, f2⟩ := h4
      refine ⟨f, fun j hj => ?_, f2⟩
      rw [g1 j, if_pos (by omega)]
      exact f1 j hj
    · rw [show (tT (tA (tI (tI τ 4902 (τ.1 4402)) 4903 (τ.1 4403)) 51 t) 1 T).2.2.1 51 = t from tA_row (σ := tI (tI τ 4902 (τ.1 4402)) 4903 (τ.1 4403)) (k := 51) (f := t), g1 i, if_pos (by omega)]
      show (sA (sI (sI (sI σ 0 0) 33 (σ.1 29)) 34 (σ.2.1 23 0)) 35 (va_cpy (σ.2.1 30) (σ.2.1 35) 0 0 120)).2.1 35 i = τ.2.2.1 46 i
      rw [sA_row]
      unfold va_cpy
      rw [if_pos (by omega), show 0 + (i - 0) = i by omega]
      exact h5 i hi
    · rw [show (tT (tA (tI (tI τ 4902 (τ.1 4402)) 4903 (τ.1 4403)) 51 t) 1 T).2.2.2.2 1 = T from tT_row, g2 k i, if_pos (by omega), sB_row]
      show va_cpy (σ.2.2 31) (σ.2.2 36) 0 0 960 (8 * i + k) = τ.2.2.2.2 0 k i
      unfold va_cpy
      rw [if_pos (by omega), show 0 + (8 * i + k - 0) = 8 * i + k by omega]
      exact h6 k i (by omega) (by omega)
end RK
