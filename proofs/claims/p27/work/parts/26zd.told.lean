-- what is told of watches
-- how often, first, the row at hand, the longest row: over the steps below n
def tMi (A : Nat → Bool) : Nat → Int32
  | 0 => 0
  | n+1 => if A n then tMi A n else tMi A n + 1
def tFi (A : Nat → Bool) : Nat → Int32
  | 0 => -1
  | n+1 => if A n then tFi A n else if tFi A n = -1 then nI n else tFi A n
def tRo (A : Nat → Bool) : Nat → Int32
  | 0 => 0
  | n+1 => if A n then 0 else tRo A n + 1
def tMo (A : Nat → Bool) : Nat → Int32
  | 0 => 0
  | n+1 => if tMo A n < tRo A (n + 1) then tRo A (n + 1) else tMo A n
def tWh (lv : Int32) (A : Nat → Bool) (n : Nat) (w : Int32) : Int32 := if w = 0 then lv else if w = 1 then tMi A n else if w = 2 then tFi A n else if w = 3 then tMo A n else tRo A n
theorem tFi_none {A : Nat → Bool} : ∀ n, (∀ j, j < n → A j = true) → tFi A n = -1
  | 0, _ => rfl
  | n+1, h => by rw [tFi, if_pos (h n (by omega)), tFi_none n (fun j hj => h j (by omega))]
theorem tFi_stay {A : Nat → Bool} {k : Nat} (hk : k < 2 ^ 31) : ∀ d, tFi A (k + 1) = nI k → tFi A (k + 1 + d) = nI k
  | 0, h => h
  | d+1, h => by
    have := tFi_stay hk d h
    show tFi A (k + 1 + d + 1) = nI k
    rw [tFi, this]
    split
    · rfl
    · rw [if_neg (nI_n1 hk)]
theorem nz0' {x : Int64} : (x = (0 : Int64)) ↔ nzV x = false := by
  unfold nzV
  rw [decide_eq_false_iff_not]
  exact ⟨fun h z => z h, fun h => Classical.byContradiction h⟩
theorem tMi_le {A : Nat → Bool} : ∀ n, ∃ m, m ≤ n ∧ tMi A n = nI m
  | 0 => ⟨0, Nat.le_refl 0, rfl⟩
  | n+1 => by
    obtain ⟨m, hm, e⟩ := tMi_le (A := A) n
    rw [tMi, e]
    by_cases h : A n = true
    · rw [if_pos h]; exact ⟨m, by omega, rfl⟩
    · rw [if_neg h, ← nI_succ]; exact ⟨m + 1, by omega, rfl⟩
set_option maxRecDepth 100000 in
theorem shN : ∀ s, s < 121 → ∀ m, m < s + 1 → s ≠ 0 → (FP.ddiv (FP.i2d (nI s - nI m)) (FP.i2d (nI s)) &&& 0x7fffffffffffffff ≤ 0x7ff0000000000000) := by decide +kernel
section RT2
variable {σ σ1 : MS} {τ τ1 : CS} {kw : Nat → Int64} {len nm nc st ks km c L w : Nat} {E : EnvN} {A : Nat → Bool}
theorem cMis (hA : ∀ i, i < st → ∃ v, FX10_reckoned 3 (nI w) (nI i) τ = some (v, τ) ∧ nzV v = A i) (hs : τ.1 4402 = nI st) (h120 : st ≤ 120) : ∀ (d k f : Nat), k + d = st → d < f → FX10_misses_4 L f (nI w) (tMi A k) (nI k) τ = some (tMi A st, τ)
  | 0, k, f, hk, hf => by
    obtain ⟨f, rfl⟩ : ∃ z, f = z + 1 := ⟨f - 1, by omega⟩
    have : k = st := by omega
    subst this
    rw [FX10_misses_4, hs, if_pos (nI_le (Nat.le_refl _) (by omega))]
  | d+1, k, f, hk, hf => by
    obtain ⟨f, rfl⟩ : ∃ z, f = z + 1 := ⟨f - 1, by omega⟩
    obtain ⟨v, e, hv⟩ := hA k (by omega)
    have ih := cMis hA hs h120 d (k + 1) f (by omega) (by omega)
    rw [FX10_misses_4, hs, if_neg (by rw [nI_leI (by omega) (by omega)]; omega), e, b2r, ← nI_succ]
    cases hb : A k with
    | false =>
      rw [if_pos (nz0'.mpr (by rw [hv, hb]))]
      rw [tMi, hb] at ih
      exact ih
    | true =>
      rw [if_neg (fun z => by have := nz0'.mp z; rw [hv, hb] at this; cases this)]
      rw [tMi, hb] at ih
      exact ih
theorem cFir (hA : ∀ i, i < st → ∃ v, FX10_reckoned 3 (nI w) (nI i) τ = some (v, τ) ∧ nzV v = A i) (hs : τ.1 4402 = nI st) (h120 : st ≤ 120) : ∀ (d k f : Nat), k + d = st → d < f → (∀ j, j < k → A j = true) → FX10_firstMiss_2 L f (nI w) (nI k) τ = some (tFi A st, τ)
  | 0, k, f, hk, hf, hj => by
    obtain ⟨f, rfl⟩ : ∃ z, f = z + 1 := ⟨f - 1, by omega⟩
    have : k = st := by omega
    subst this
    rw [FX10_firstMiss_2, hs, if_pos (nI_le (Nat.le_refl _) (by omega)), tFi_none k hj]
  | d+1, k, f, hk, hf, hj => by
    obtain ⟨f, rfl⟩ : ∃ z, f = z + 1 := ⟨f - 1, by omega⟩
    obtain ⟨v, e, hv⟩ := hA k (by omega)
    rw [FX10_firstMiss_2, hs, if_neg (by rw [nI_leI (by omega) (by omega)]; omega), e, b2r, ← nI_succ]
    cases hb : A k with
    | false =>
      rw [if_pos (nz0'.mpr (by rw [hv, hb]))]
      have e1 : tFi A (k + 1) = nI k := by rw [tFi, hb, if_neg (by decide), tFi_none k hj, if_pos rfl]
      have e2 := tFi_stay (A := A) (show k < 2 ^ 31 by omega) d e1
      rw [show k + 1 + d = st by omega] at e2
      rw [e2]
    | true =>
      rw [if_neg (fun z => by have := nz0'.mp z; rw [hv, hb] at this; cases this)]
      refine cFir hA hs h120 d (k + 1) f (by omega) (by omega) (fun j h => ?_)
      by_cases z : j = k
      · rw [z]; exact hb
      · exact hj j (by omega)
theorem cLon (hA : ∀ i, i < st → ∃ v, FX10_reckoned 3 (nI w) (nI i) τ = some (v, τ) ∧ nzV v = A i) (hs : τ.1 4402 = nI st) (h120 : st ≤ 120) : ∀ (d k f : Nat), k + d = st → d < f → FX10_longestMiss_7 L f (nI w) (tMo A k) (tRo A k) (nI k) τ = some (tMo A st, τ)
  | 0, k, f, hk, hf => by
    obtain ⟨f, rfl⟩ : ∃ z, f = z + 1 := ⟨f - 1, by omega⟩
    have : k = st := by omega
    subst this
    rw [FX10_longestMiss_7, hs, if_pos (nI_le (Nat.le_refl _) (by omega))]
  | d+1, k, f, hk, hf => by
    obtain ⟨f, rfl⟩ : ∃ z, f = z + 1 := ⟨f - 1, by omega⟩
    obtain ⟨v, e, hv⟩ := hA k (by omega)
    have ih := cLon hA hs h120 d (k + 1) f (by omega) (by omega)
    rw [FX10_longestMiss_7, hs, if_neg (by rw [nI_leI (by omega) (by omega)]; omega), e, b2r]
    cases hb : A k with
    | false =>
      have er : tRo A (k + 1) = tRo A k + 1 := by rw [tRo, hb, if_neg (by decide)]
      rw [if_pos (nz0'.mpr (by rw [hv, hb])), FX10_longestMiss_39, ← nI_succ, ← er]
      rw [tMo] at ih
      exact ih
    | true =>
      have er : tRo A (k + 1) = 0 := by rw [tRo, hb, if_pos rfl]
      rw [if_neg (fun z => by have := nz0'.mp z; rw [hv, hb] at this; cases this), FX10_longestMiss_39, ← nI_succ]
      rw [tMo, er] at ih
      exact ih
theorem cLat (hA : ∀ i, i < st → ∃ v, FX10_reckoned 3 (nI w) (nI i) τ = some (v, τ) ∧ nzV v = A i) (hs : τ.1 4402 = nI st) (h120 : st ≤ 120) : ∀ (d k f : Nat), k + d = st → d < f → FX10_latestMiss_4 L f (nI w) (tRo A k) (nI k) τ = some (tRo A st, τ)
  | 0, k, f, hk, hf => by
    obtain ⟨f, rfl⟩ : ∃ z, f = z + 1 := ⟨f - 1, by omega⟩
    have : k = st := by omega
    subst this
    rw [FX10_latestMiss_4, hs, if_pos (nI_le (Nat.le_refl _) (by omega))]
  | d+1, k, f, hk, hf => by
    obtain ⟨f, rfl⟩ : ∃ z, f = z + 1 := ⟨f - 1, by omega⟩
    obtain ⟨v, e, hv⟩ := hA k (by omega)
    have ih := cLat hA hs h120 d (k + 1) f (by omega) (by omega)
    rw [FX10_latestMiss_4, hs, if_neg (by rw [nI_leI (by omega) (by omega)]; omega), e, b2r, ← nI_succ]
    cases hb : A k with
    | false =>
      rw [if_pos (nz0'.mpr (by rw [hv, hb]))]
      rw [tRo, hb] at ih
      exact ih
    | true =>
      rw [if_neg (fun z => by have := nz0'.mp z; rw [hv, hb] at this; cases this)]
      rw [tRo, hb] at ih
      exact ih
theorem rTold {lv x : Int32} (hA : ∀ i, i < st → FX11_watches (nI w) (nI i) σ = some (bI (A i), σ)) (hw : w < 12) (hl : σ.2.1 26 w = lv) (hs : σ.1 29 = nI st) (h120 : st ≤ 120) : ∀ (d k f : Nat), k + d = st → d < f → FX11_toldOf_14 L f (nI w) x (tMi A k) (tFi A k) (tRo A k) (tMo A k) (nI k) σ = some (tWh lv A st x, σ)
  | 0, k, f, hk, hf => by
    obtain ⟨f, rfl⟩ : ∃ z, f = z + 1 := ⟨f - 1, by omega⟩
    have : k = st := by omega
    subst this
    rw [FX11_toldOf_14, hs, if_pos (nI_le (Nat.le_refl _) (by omega)), if_neg (nI_in hw (by decide)), nI_clamp (by omega), hl]
    unfold tWh
    by_cases c0 : x = 0
    · rw [if_pos c0, if_pos c0]
    rw [if_neg c0, if_neg c0]
    by_cases c1 : x = 1
    · rw [if_pos c1, if_pos c1]
    rw [if_neg c1, if_neg c1]
    by_cases c2 : x = 2
    · rw [if_pos c2, if_pos c2]
    rw [if_neg c2, if_neg c2]
    by_cases c3 : x = 3
    · rw [if_pos c3, if_pos c3]
    rw [if_neg c3, if_neg c3]
  | d+1, k, f, hk, hf => by
    obtain ⟨f, rfl⟩ : ∃ z, f = z + 1 := ⟨f - 1, by omega⟩
    have ih := rTold (lv := lv) (x := x) hA hw hl hs h120 d (k + 1) f (by omega) (by omega)
    rw [FX11_toldOf_14, hs, if_neg (by rw [nI_leI (by omega) (by omega)]; omega), hA k (by omega), b2r]
    cases hb : A k with
    | false =>
      have er : tRo A (k + 1) = tRo A k + 1 := by rw [tRo, hb, if_neg (by decide)]
      have em : tMi A (k + 1) = tMi A k + 1 := by rw [tMi, hb, if_neg (by decide)]
      have ef : tFi A (k + 1) = if tFi A k = -1 then nI k else tFi A k := by rw [tFi, hb, if_neg (by decide)]
      rw [em, ef, tMo, er] at ih
      rw [bI_f, if_pos rfl, FX11_toldOf_45, if_pos rfl, FX11_toldOf_67, if_pos rfl, ← nI_succ]
      by_cases z : tFi A k = -1
      · rw [if_pos z]
        rw [if_pos z] at ih
        exact ih
      · rw [if_neg z]
        rw [if_neg z] at ih
        exact ih
    | true =>
      have er : tRo A (k + 1) = 0 := by rw [tRo, hb, if_pos rfl]
      have em : tMi A (k + 1) = tMi A k + 0 := by rw [tMi, hb, if_pos rfl, Int32.add_zero]
      have ef : tFi A (k + 1) = tFi A k := by rw [tFi, hb, if_pos rfl]
      rw [em, ef, tMo, er] at ih
      rw [bI_t, if_neg (by decide), FX11_toldOf_45, if_neg (by decide), FX11_toldOf_67, if_neg (by decide), ← nI_succ]
      exact ih
/-- when a watch holds -/
def hoW (E : EnvN) (τ : CS) (w i : Nat) : Bool := nzV ((E.dn 3 w).1 (hsC τ) i)
theorem toldV (hP : RProg E nm nc σ τ) (hH : RHist c st σ τ) (hM : TabM nm st σ) (hC : TabC (fun q => q < nc) st τ) (hw : w < E.ct 3) (x : Int32) : FX11_toldOf LF (nI w) x σ = some (tWh (E.lv w) (hoW E τ w) st x, σ) ∧ FX10_toldOf LF (nI w) x τ = some (tWh (E.lv w) (hoW E τ w) st x, τ) := by
  have h12 : E.ct 3 ≤ 12 := hP.1.c12 (by decide)
  have h120 := hH.1
  have hAc : ∀ i, i < st → ∃ v, FX10_reckoned 3 (nI w) (nI i) τ = some (v, τ) ∧ nzV v = hoW E τ w i := fun i hi => ⟨_, cReV (s := 3) hP hH hM hC (by decide) (by decide) hw hi, rfl⟩
  have hAm : ∀ i, i < st → FX11_watches (nI w) (nI i) σ = some (bI (hoW E τ w i), σ) := fun i hi => rWaV hP hH hM hC hw hi
  refine ⟨rTold hAm (by omega) (hP.2.2.1.2.2.2.2.2 w hw) hH.2.1 h120 st 0 5000 (by omega) (by omega), ?_⟩
  rw [FX10_toldOf]
  unfold tWh
  by_cases c0 : x = 0
  · rw [if_pos c0, if_pos c0, gI (show w < 12 by omega) (by decide), hP.2.2.2.1.2.2.2.2.2 w hw]
  rw [if_neg c0, if_neg c0]
  by_cases c1 : x = 1
  · rw [if_pos c1, if_pos c1]
    have : FX10_misses LF (nI w) τ = some (tMi (hoW E τ w) st, τ) := cMis hAc hH.2.2.1 h120 st 0 5000 (by omega) (by omega)
    rw [this, b2r]
  rw [if_neg c1, if_neg c1]
  by_cases c2 : x = 2
  · rw [if_pos c2, if_pos c2]
    have : FX10_firstMiss LF (nI w) τ = some (tFi (hoW E τ w) st, τ) := cFir hAc hH.2.2.1 h120 st 0 5000 (by omega) (by omega) (fun j hj => absurd hj (Nat.not_lt_zero _))
    rw [this, b2r]
  rw [if_neg c2, if_neg c2]
  by_cases c3 : x = 3
  · rw [if_pos c3, if_pos c3]
    have : FX10_longestMiss LF (nI w) τ = some (tMo (hoW E τ w) st, τ) := cLon hAc hH.2.2.1 h120 st 0 5000 (by omega) (by omega)
    rw [this, b2r]
  rw [if_neg c3, if_neg c3]
  have : FX10_latestMiss LF (nI w) τ = some (tRo (hoW E τ w) st, τ) := cLat hAc hH.2.2.1 h120 st 0 5000 (by omega) (by omega)
  rw [this, b2r]
theorem ok_told : OK_told (Rel kw) := by
  intro σ τ h p0 p1
  obtain ⟨len, E, nm, nc, st, ks, km, hT, hP, hH, hK, hM, hC, hA⟩ := id h
  have bad : ∃ σ', FX11_told_31 LF (sI σ 0 0) = some (0, σ') ∧ σ'.1 0 = 1 ∧ Rel kw σ' τ := ⟨sI (sI σ 0 0) 0 1, by rw [FX11_told_31, FX11_no, b2r], sI_g, h.s0.s0⟩
  obtain ⟨σb, b1, b2', b3⟩ := bad
  have c12 : E.ct 3 ≤ 12 := hP.1.c12 (by decide)
  rcases watchCase (σ := sI σ 0 0) (hP.2.2.1.2.2.1 3 (by decide)) (hP.2.2.2.1.2.2.1 3 (by decide)) c12 p0 with ⟨n, hn, rfl, e1, e2⟩ | ⟨e1, e2⟩
  · rw [FX10_told, e2, b2r, if_neg (show ¬ ((1 : Int32) = 0) by decide), FX11_told, e1, b2r, if_neg (show ¬ ((1 : Int32) = 0) by decide), show (4 : Int32) = nI 4 from rfl]
    rcases inLe p1 (show 4 + 1 < 2 ^ 31 by decide) with ⟨x, hx, rfl, e⟩ | ⟨e, g⟩
    · obtain ⟨v1, v2⟩ := toldV (σ := sI σ 0 0) hP hH hM hC hn (nI x)
      refine ⟨.inr (tWh (E.lv n) (hoW E τ n) st (nI x)), τ, 0, tWh (E.lv n) (hoW E τ n) st (nI x), sI σ 0 0, ?_, rfl, ?_, sI_g, fun _ => rfl, h.s0⟩
      · rw [if_neg (nI_pos (by omega)), if_pos (by rw [show (5 : Int32) = nI 5 from rfl, nI_ltI (by omega) (by omega)]; omega), v2, b2r]
      · rw [e, obS, if_neg (by decide), v1, b2r]
    · refine ⟨.inl 2, τ, 1, 0, σb, ?_, rfl, ?_, b2', fun z => absurd z (by decide), b3⟩
      · rcases g with g | ⟨g, g2⟩
        · rw [if_pos g, FX10_told_18]
        · obtain ⟨j, hj, rfl⟩ := nI_of g
          rw [if_neg g, if_neg (by rw [show (5 : Int32) = nI 5 from rfl, nI_ltI (by omega) (by omega)]; rw [nI_leI (by omega) (by omega)] at g2; omega), FX10_told_18]
      · rw [e, obS, if_pos rfl, b1]
  · refine ⟨.inl 2, τ, 1, 0, σb, ?_, rfl, ?_, b2', fun z => absurd z (by decide), b3⟩
    · rw [FX10_told, e2, b2r, if_pos rfl, FX10_told_18]
    · rw [FX11_told, e1, b2r, if_pos rfl, b1]
/-- how many do not hold -/
def cnB (A : Nat → Bool) : Nat → Int32
  | 0 => 0
  | n+1 => if A n then cnB A n else cnB A n + 1
theorem cnB_congr {A B : Nat → Bool} : ∀ n, (∀ j, j < n → A j = B j) → cnB A n = cnB B n
  | 0, _ => rfl
  | n+1, h => by rw [cnB, cnB, h n (by omega), cnB_congr n (fun j hj => h j (by omega))]
def brW (E : EnvN) (τ : CS) (lev : Int32) (i w : Nat) : Bool := decide (E.lv w < lev) || hoW E τ w i
theorem cBrk {lev : Int32} {i : Nat} (hct : τ.2.2.1 36 3 = nI c) (hc : c ≤ 12) (hlv : ∀ w, w < c → τ.2.2.1 42 w = E.lv w) (h44 : τ.1 4402 - 1 = nI i) (hA : ∀ w, w < c → FX10_reckoned 3 (nI w) (nI i) τ = some ((E.dn 3 w).1 (hsC τ) i, τ)) : ∀ (d k f : Nat), k + d = c → d < f → FX10_broken_14 L f lev (cnB (brW E τ lev i) k) (nI k) τ = some (cnB (brW E τ lev i) c, τ)
  | 0, k, f, hk, hf => by
    obtain ⟨f, rfl⟩ : ∃ z, f = z + 1 := ⟨f - 1, by omega⟩
    have : k = c := by omega
    subst this
    have e3 : FX10_howMany 3 τ = some (nI k, τ) := by
      rw [FX10_howMany, if_neg (by decide), if_neg (by decide), if_neg (by decide)]
      show some (getI 4 (τ.2.2.1 36) (nI 3), τ) = _
      rw [gI (by decide) (by decide), hct]
    rw [FX10_broken_14, e3, b2r, if_pos (nI_le (Nat.le_refl _) (by omega))]
  | d+1, k, f, hk, hf => by
    obtain ⟨f, rfl⟩ : ∃ z, f = z + 1 := ⟨f - 1, by omega⟩
    have e3 : FX10_howMany 3 τ = some (nI c, τ) := by
      rw [FX10_howMany, if_neg (by decide), if_neg (by decide), if_neg (by decide)]
      show some (getI 4 (τ.2.2.1 36) (nI 3), τ) = _
      rw [gI (by decide) (by decide), hct]
    have ih := cBrk (lev := lev) hct hc hlv h44 hA d (k + 1) f (by omega) (by omega)
    rw [FX10_broken_14, e3, b2r, if_neg (by rw [nI_leI (by omega) (by omega)]; omega), gI (show k < 12 by omega) (by decide), hlv k (by omega), ← nI_succ]
    rw [cnB] at ih
    by_cases z : E.lv k < lev
    · rw [if_pos z]
      rw [if_pos (show brW E τ lev i k = true by unfold brW; rw [decide_eq_true z]; rfl)] at ih
      exact ih
    · have eb : brW E τ lev i k = hoW E τ k i := by unfold brW; rw [decide_eq_false z]; rfl
      rw [eb] at ih
      rw [if_neg z, h44, hA k (by omega), b2r]
      cases hb : hoW E τ k i with
      | false =>
        rw [hb] at ih
        rw [if_pos (nz0'.mpr hb)]
        exact ih
      | true =>
        rw [hb] at ih
        rw [if_neg (fun y => by have := nz0'.mp y; unfold hoW at hb; rw [hb] at this; cases this)]
        exact ih
theorem cBroken {lev : Int32} (hP : RProg E nm nc σ τ) (hH : RHist c st σ τ) (hM : TabM nm st σ) (hC : TabC (fun q => q < nc) st τ) : FX10_broken LF lev τ = some (if st = 0 then 0 else cnB (brW E τ lev (st - 1)) (E.ct 3), τ) := by
  have h12 : E.ct 3 ≤ 12 := hP.1.c12 (by decide)
  have h120 := hH.1
  rw [FX10_broken, hH.2.2.1]
  by_cases z : st = 0
  · subst z
    rw [if_pos (by decide), if_pos rfl]
  · rw [if_neg (nI_nle (by omega) (by omega)), if_neg z]
    have e : τ.1 4402 - 1 = nI (st - 1) := by rw [hH.2.2.1]; exact nI_sub (show 1 ≤ st by omega)
    exact cBrk (lev := lev) (hP.2.2.2.1.2.2.1 3 (by decide)) h12 (hP.2.2.2.1.2.2.2.2.2) e (fun w hw => cReV (s := 3) hP hH hM hC (by decide) (by decide) hw (by omega)) (E.ct 3) 0 5000 (by omega) (by omega)
theorem rAla {lev : Int32} (hct : σ.2.1 23 3 = nI c) (hc : c ≤ 12) (hlv : ∀ w, w < c → σ.2.1 26 w = E.lv w) (h29 : σ.1 29 = nI st) (h120 : st ≤ 120) (hA : ∀ w i, w < c → i < st → FX11_watches (nI w) (nI i) σ = some (bI (hoW E τ w i), σ)) : ∀ (d k f : Nat), k + d = c → d < f → FX11_alarms_25 L f lev (if st = 0 then 0 else cnB (brW E τ lev (st - 1)) k) (nI k) σ = some (if st = 0 then 0 else cnB (brW E τ lev (st - 1)) c, σ)
  | 0, k, f, hk, hf => by
    obtain ⟨f, rfl⟩ : ∃ z, f = z + 1 := ⟨f - 1, by omega⟩
    have : k = c := by omega
    subst this
    rw [FX11_alarms_25, if_neg (by decide), show (3 : Int32).toNatClampNeg = 3 from rfl, hct, if_pos (nI_le (Nat.le_refl _) (by omega))]
  | d+1, k, f, hk, hf => by
    obtain ⟨f, rfl⟩ : ∃ z, f = z + 1 := ⟨f - 1, by omega⟩
    have ih := rAla (lev := lev) hct hc hlv h29 h120 hA d (k + 1) f (by omega) (by omega)
    rw [FX11_alarms_25, if_neg (by decide), show (3 : Int32).toNatClampNeg = 3 from rfl, hct, if_neg (by rw [nI_leI (by omega) (by omega)]; omega), h29, ← nI_succ, Int32.add_zero]
    by_cases z0 : st = 0
    · rw [if_pos (by rw [z0]; decide)]
      rw [if_pos z0] at ih ⊢
      rw [if_pos z0]
      rw [if_pos z0] at ih
      exact ih
    · rw [if_neg (nI_nle (by omega) (by omega)), if_neg (nI_in (show k < 12 by omega) (by decide)), nI_clamp (by omega), hlv k (by omega), show nI st - 1 = nI (st - 1) from nI_sub (show 1 ≤ st by omega), hA k (st - 1) (by omega) (by omega), b2r]
      rw [if_neg z0, if_neg z0, cnB] at ih
      rw [if_neg z0, if_neg z0]
      by_cases z : E.lv k < lev
      · rw [if_pos z]
        rw [if_pos (show brW E τ lev (st - 1) k = true by unfold brW; rw [decide_eq_true z]; rfl)] at ih
        exact ih
      · have eb : brW E τ lev (st - 1) k = hoW E τ k (st - 1) := by unfold brW; rw [decide_eq_false z]; rfl
        rw [eb] at ih
        rw [if_neg z]
        cases hb : hoW E τ k (st - 1) with
        | false =>
          rw [hb] at ih
          rw [bI_f, if_pos rfl]
          exact ih
        | true =>
          rw [hb] at ih
          rw [bI_t, if_neg (by decide)]
          exact ih
theorem ok_alarms : OK_alarms (Rel kw) := by
  intro σ τ h p0
  obtain ⟨len, E, nm, nc, st, ks, km, hT, hP, hH, hK, hM, hC, hA⟩ := id h
  have h12 : E.ct 3 ≤ 12 := hP.1.c12 (by decide)
  rw [FX10_alarms, FX11_alarms, show (9 : Int32) = nI 9 from rfl]
  rcases inLe p0 (show 9 + 1 < 2 ^ 31 by decide) with ⟨x, hx, rfl, e⟩ | ⟨e, g⟩
  · refine ⟨.inr (if st = 0 then 0 else cnB (brW E τ (nI x) (st - 1)) (E.ct 3)), τ, 0, if st = 0 then 0 else cnB (brW E τ (nI x) (st - 1)) (E.ct 3), sI σ 0 0, ?_, rfl, ?_, sI_g, fun _ => rfl, h.s0⟩
    · rw [if_neg (nI_pos (by omega)), if_pos (nI_le hx (by decide)), cBroken hP hH hM hC, b2r]
    · rw [e, obS, if_neg (by decide)]
      have := rAla (σ := sI σ 0 0) (τ := τ) (L := LF) (lev := nI x) (hP.2.2.1.2.2.1 3 (by decide)) h12 hP.2.2.1.2.2.2.2.2 hH.2.1 hH.1 (fun w i hw hi => rWaV (σ := sI σ 0 0) hP hH hM hC hw hi) (E.ct 3) 0 5000 (by omega) (by omega)
      rw [show (if st = 0 then 0 else cnB (brW E τ (nI x) (st - 1)) 0) = (0 : Int32) by split <;> rfl] at this
      exact this
  · refine ⟨.inl 1, τ, 1, 0, sI (sI σ 0 0) 0 1, ?_, rfl, ?_, sI_g, fun z => absurd z (by decide), h.s0.s0⟩
    · rcases g with g | ⟨g, g2⟩
      · rw [if_pos g, FX10_alarms_10]
      · rw [if_neg g, if_neg g2, FX10_alarms_10]
    · rw [e, obS, if_pos rfl, FX11_no, b2r]
/-- the first step at which two differ -/
def dfW (A B : Nat → Bool) : Nat → Nat → Int32
  | 0, _ => -1
  | d+1, k => if A k = B k then dfW A B d (k + 1) else nI k
theorem bI_eq {a b : Bool} : (bI a = bI b) ↔ a = b := by cases a <;> cases b <;> decide
theorem cDif {w2 : Nat} {B : Nat → Bool} (hA : ∀ i, i < st → ∃ v u, FX10_reckoned 3 (nI w) (nI i) τ = some (v, τ) ∧ FX10_reckoned 3 (nI w2) (nI i) τ = some (u, τ) ∧ (v = u ↔ A i = B i)) (hs : τ.1 4402 = nI st) (h120 : st ≤ 120) : ∀ (d k f : Nat), k + d = st → d < f → FX10_differ_30 L f (nI w) (nI w2) (nI k) τ = some (.inr (dfW A B d k), τ)
  | 0, k, f, hk, hf => by
    obtain ⟨f, rfl⟩ : ∃ z, f = z + 1 := ⟨f - 1, by omega⟩
    rw [FX10_differ_30, hs, if_pos (nI_le (by omega) (by omega))]; rfl
  | d+1, k, f, hk, hf => by
    obtain ⟨f, rfl⟩ : ∃ z, f = z + 1 := ⟨f - 1, by omega⟩
    obtain ⟨v, u, e1, e2, hv⟩ := hA k (by omega)
    rw [FX10_differ_30, hs, if_neg (by rw [nI_leI (by omega) (by omega)]; omega), e1, b2r, e2, b2r, dfW]
    by_cases z : A k = B k
    · rw [if_pos (hv.mpr z), if_pos z, ← nI_succ]
      exact cDif hA hs h120 d (k + 1) f (by omega) (by omega)
    · rw [if_neg (fun y => z (hv.mp y)), if_neg z]
theorem rDif {w2 : Nat} {B : Nat → Bool} (hA : ∀ i, i < st → FX11_watches (nI w) (nI i) σ = some (bI (A i), σ)) (hB : ∀ i, i < st → FX11_watches (nI w2) (nI i) σ = some (bI (B i), σ)) (hs : σ.1 29 = nI st) (h120 : st ≤ 120) : ∀ (d k f : Nat), k + d = st → d < f → FX11_differ_29 L f (nI w) (nI w2) (nI k) σ = some (dfW A B d k, σ)
  | 0, k, f, hk, hf => by
    obtain ⟨f, rfl⟩ : ∃ z, f = z + 1 := ⟨f - 1, by omega⟩
    rw [FX11_differ_29, hs, if_pos (nI_le (by omega) (by omega))]; rfl
  | d+1, k, f, hk, hf => by
    obtain ⟨f, rfl⟩ : ∃ z, f = z + 1 := ⟨f - 1, by omega⟩
    rw [FX11_differ_29, hs, if_neg (by rw [nI_leI (by omega) (by omega)]; omega), hA k (by omega), b2r, hB k (by omega), b2r, dfW]
    by_cases z : A k = B k
    · rw [if_pos (bI_eq.mpr z), if_pos z, ← nI_succ]
      exact rDif hA hB hs h120 d (k + 1) f (by omega) (by omega)
    · rw [if_neg (fun y => z (bI_eq.mp y)), if_neg z]
theorem ok_differ : OK_differ (Rel kw) := by
  intro σ τ h p0 p1
  obtain ⟨len, E, nm, nc, st, ks, km, hT, hP, hH, hK, hM, hC, hA⟩ := id h
  have bad : ∃ σ', FX11_differ_21 LF (sI σ 0 0) = some (0, σ') ∧ σ'.1 0 = 1 ∧ Rel kw σ' τ := ⟨sI (sI σ 0 0) 0 1, by rw [FX11_differ_21, FX11_no, b2r], sI_g, h.s0.s0⟩
  obtain ⟨σb, b1, b2', b3⟩ := bad
  have c12 : E.ct 3 ≤ 12 := hP.1.c12 (by decide)
  have h120 := hH.1
  rcases watchCase (σ := sI σ 0 0) (hP.2.2.1.2.2.1 3 (by decide)) (hP.2.2.2.1.2.2.1 3 (by decide)) c12 p0 with ⟨n, hn, rfl, e1, e2⟩ | ⟨e1, e2⟩
  · rcases watchCase (σ := sI σ 0 0) (hP.2.2.1.2.2.1 3 (by decide)) (hP.2.2.2.1.2.2.1 3 (by decide)) c12 p1 with ⟨m, hm, rfl, e3, e4⟩ | ⟨e3, e4⟩
    · have x1 := rDif (σ := sI σ 0 0) (L := LF) (A := hoW E τ n) (B := hoW E τ m) (fun i hi => rWaV (σ := sI σ 0 0) hP hH hM hC hn hi) (fun i hi => rWaV (σ := sI σ 0 0) hP hH hM hC hm hi) hH.2.1 h120 st 0 5000 (by omega) (by omega)
      have x2 := cDif (τ := τ) (L := LF) (w := n) (w2 := m) (A := hoW E τ n) (B := hoW E τ m) (fun i hi => by
        obtain ⟨qm, qc, a1, a2, a3, a4, a5, a6⟩ := itemV (s := 3) hP hH hM hC (by decide) (by decide) hn
        obtain ⟨qm', qc', a1', a2', a3', a4', a5', a6'⟩ := itemV (s := 3) hP hH hM hC (by decide) (by decide) hm
        refine ⟨_, _, cReV (s := 3) hP hH hM hC (by decide) (by decide) hn hi, cReV (s := 3) hP hH hM hC (by decide) (by decide) hm hi, fun z => ?_, fun z => ?_⟩
        · unfold hoW; rw [z]
        · rw [← (a6 (Or.inr rfl)).1 (hsC τ) i, ← (a6' (Or.inr rfl)).1 (hsC τ) i]
          unfold hoW at z; rw [z]) hH.2.2.1 h120 st 0 5000 (by omega) (by omega)
      refine ⟨.inr (dfW (hoW E τ n) (hoW E τ m) st 0), τ, 0, dfW (hoW E τ n) (hoW E τ m) st 0, sI σ 0 0, ?_, rfl, ?_, sI_g, fun _ => rfl, h.s0⟩
      · rw [FX10_differ, e2, b2r, if_neg (by decide), e4, b2r, if_neg (by decide)]; exact x2
      · rw [FX11_differ, e1, b2r, if_neg (by decide), e3, b2r, if_neg (by decide)]; exact x1
    · refine ⟨.inl 2, τ, 1, 0, σb, ?_, rfl, ?_, b2', fun z => absurd z (by decide), b3⟩
      · rw [FX10_differ, e2, b2r, if_neg (by decide), e4, b2r, if_pos rfl, FX10_differ_18]
      · rw [FX11_differ, e1, b2r, if_neg (by decide), e3, b2r, if_pos rfl, b1]
  · refine ⟨.inl 2, τ, 1, 0, σb, ?_, rfl, ?_, b2', fun z => absurd z (by decide), b3⟩
    · rw [FX10_differ, e2, b2r, if_pos rfl, FX10_differ_18]
    · rw [FX11_differ, e1, b2r, if_pos rfl, b1]
theorem ok_share : OK_share (Rel kw) := by
  intro σ τ h p0
  obtain ⟨len, E, nm, nc, st, ks, km, hT, hP, hH, hK, hM, hC, hA⟩ := id h
  have c12 : E.ct 3 ≤ 12 := hP.1.c12 (by decide)
  have h120 := hH.1
  rcases watchCase (σ := σ) (hP.2.2.1.2.2.1 3 (by decide)) (hP.2.2.2.1.2.2.1 3 (by decide)) c12 p0 with ⟨n, hn, rfl, e1, e2⟩ | ⟨e1, e2⟩
  · obtain ⟨v1, v2⟩ := toldV (σ := sI σ 0 0) hP hH hM hC hn 1
    have v3 : FX10_misses LF (nI n) τ = some (tMi (hoW E τ n) st, τ) := by
      rw [FX10_toldOf, if_neg (by decide), if_pos rfl] at v2
      have w1 : tWh (E.lv n) (hoW E τ n) st 1 = tMi (hoW E τ n) st := by unfold tWh; rw [if_neg (by decide), if_pos rfl]
      rw [w1] at v2
      cases hm : FX10_misses LF (nI n) τ with
      | none => rw [hm] at v2; cases v2
      | some q => rw [hm] at v2; exact v2
    have w1 : tWh (E.lv n) (hoW E τ n) st 1 = tMi (hoW E τ n) st := by unfold tWh; rw [if_neg (by decide), if_pos rfl]
    rw [w1] at v1
    by_cases z : st = 0
    · refine ⟨.inr FP.dconst1, τ, 0, FP.dconst1, sI σ 0 0, ?_, rfl, ?_, sI_g, fun _ => rfl, h.s0⟩
      · rw [FX10_share, e2, b2r, if_neg (by decide), hH.2.2.1, if_pos (by rw [z]; decide)]
      · rw [FX11_share, e1, b2r, if_neg (by decide), FX11_share_14, if_pos rfl, hH.2.1, if_pos (by rw [z]; decide)]
    · have nn : ¬ (¬ ((FP.ddiv (FP.i2d (nI st - tMi (hoW E τ n) st)) (FP.i2d (nI st))) &&& 0x7fffffffffffffff ≤ 0x7ff0000000000000)) := by
        obtain ⟨m, hm, e⟩ := tMi_le (A := hoW E τ n) st
        rw [e]
        exact fun y => y (shN st (by omega) m (by omega) z)
      have h0 : ¬ nI st = 0 := nI_ne0 (by omega) (by omega)
      refine ⟨.inr (FP.ddiv (FP.i2d (nI st - tMi (hoW E τ n) st)) (FP.i2d (nI st))), τ, 0, FP.ddiv (FP.i2d (nI st - tMi (hoW E τ n) st)) (FP.i2d (nI st)), sI σ 0 0, ?_, rfl, ?_, sI_g, fun _ => rfl, h.s0⟩
      · rw [FX10_share, e2, b2r, if_neg (by decide), hH.2.2.1, if_neg h0, v3, b2r, if_neg nn]
      · rw [FX11_share, e1, b2r, if_neg (by decide), FX11_share_14, if_pos rfl, hH.2.1, if_neg h0, v1, b2r, show (sI σ 0 0).1 29 = nI st from hH.2.1, if_neg nn]
  · refine ⟨.inl 2, τ, 1, FP.dconst0, sI σ 0 1, ?_, rfl, ?_, sI_g, fun z => absurd z (by decide), h.s0⟩
    · rw [FX10_share, e2, b2r, if_pos rfl]
    · rw [FX11_share, e1, b2r, if_pos rfl, FX11_share_14, if_neg (by decide)]
end RT2
