-- the reference reckons just these worths
def bI (b : Bool) : Int32 := if b then 1 else 0
theorem nI_i {c N : Nat} (h : c < N) (hN : N < 2 ^ 31) : ¬ (nI c < 0 ∨ N ≤ c) := fun e => e.elim (nI_pos (by omega)) (by omega)
theorem b2r {α β γ : Type} (a : α) (s : β) (f : α → β → Option γ) : b2 (some (a, s)) f = f a s := rfl
theorem ibI {α : Type} (b : Bool) (x y : α) : (if bI b = 0 then x else y) = if b = true then y else x := by cases b <;> rfl
theorem bI_0 {b : Bool} : (bI b = 0) ↔ b = false := by cases b <;> decide
theorem bI_t : bI true = 1 := rfl
theorem bI_f : bI false = 0 := rfl
theorem bI_nn {b : Bool} : ¬ (bI b ≠ 0 ∧ bI b ≠ 1) := by cases b <;> decide
def opI : Option Nat → Int32
  | none => -1
  | some j => nI j
def xkI : Nat → Int32
  | 0 => -1
  | k+1 => nI k
theorem xk_m1 (k : Nat) : nI k + (-1 : Int32) = xkI k := by
  cases k with
  | zero => decide
  | succ k => exact pk_m1 k
theorem nI_n1 {k : Nat} (h : k < 2 ^ 31) : ¬ nI k = (-1 : Int32) := fun e => nI_pos h (by rw [e]; decide)
theorem va_upup {α : Type} {f : Nat → α} {k : Nat} {x y : α} : va_up (va_up f k x) k y = va_up f k y := by
  funext j
  unfold va_up
  by_cases h : j = k <;> simp [h]
theorem sB_sB {σ : MS} {k : Nat} {x y : Nat → Int64} : sB (sB σ k x) k y = sB σ k y := by
  show ((σ.1, σ.2.1, va_up (va_up σ.2.2 k x) k y) : MS) = (σ.1, σ.2.1, va_up σ.2.2 k y)
  rw [va_upup]
theorem up_s {α : Type} {f : Nat → α} {k : Nat} {x : α} : va_up f k x k = x := by simp [va_up]
theorem up_n {α : Type} {f : Nat → α} {k j : Nat} {x : α} (h : j ≠ k) : va_up f k x j = f j := by simp [va_up, h]
theorem tI_g {σ : CS} {k : Nat} {v : Int32} : (tI σ k v).1 k = v := by
  show va_up σ.1 k v k = v
  exact up_s
theorem tI_o {σ : CS} {k j : Nat} {v : Int32} (h : j ≠ k) : (tI σ k v).1 j = σ.1 j := by
  show va_up σ.1 k v j = σ.1 j
  exact up_n h
theorem sI_g {σ : MS} {k : Nat} {v : Int32} : (sI σ k v).1 k = v := by
  show va_up σ.1 k v k = v
  exact up_s
theorem sI_o {σ : MS} {k j : Nat} {v : Int32} (h : j ≠ k) : (sI σ k v).1 j = σ.1 j := by
  show va_up σ.1 k v j = σ.1 j
  exact up_n h
theorem tB_o {σ : CS} {k j : Nat} {f : Nat → Int64} (h : j ≠ k) : (tB σ k f).2.2.2.1 j = σ.2.2.2.1 j := by
  show va_up σ.2.2.2.1 k f j = σ.2.2.2.1 j
  exact up_n h
theorem tA_o {σ : CS} {k j : Nat} {f : Nat → Int32} (h : j ≠ k) : (tA σ k f).2.2.1 j = σ.2.2.1 j := by
  show va_up σ.2.2.1 k f j = σ.2.2.1 j
  exact up_n h
theorem tT_o {σ : CS} {k j : Nat} {f : Nat → Nat → Int64} (h : j ≠ k) : (tT σ k f).2.2.2.2 j = σ.2.2.2.2 j := by
  show va_up σ.2.2.2.2 k f j = σ.2.2.2.2 j
  exact up_n h
theorem sA_o {σ : MS} {k j : Nat} {f : Nat → Int32} (h : j ≠ k) : (sA σ k f).2.1 j = σ.2.1 j := by
  show va_up σ.2.1 k f j = σ.2.1 j
  exact up_n h
theorem sB_o {σ : MS} {k j : Nat} {f : Nat → Int64} (h : j ≠ k) : (sB σ k f).2.2 j = σ.2.2 j := by
  show va_up σ.2.2 k f j = σ.2.2 j
  exact up_n h
theorem sB_row {σ : MS} {k : Nat} {f : Nat → Int64} : (sB σ k f).2.2 k = f := up_s
theorem sA_row {σ : MS} {k : Nat} {f : Nat → Int32} : (sA σ k f).2.1 k = f := up_s
theorem tT_row {σ : CS} {k : Nat} {f : Nat → Nat → Int64} : (tT σ k f).2.2.2.2 k = f := up_s
theorem tA_row {σ : CS} {k : Nat} {f : Nat → Int32} : (tA σ k f).2.2.1 k = f := up_s
theorem tB_row {σ : CS} {k : Nat} {f : Nat → Int64} : (tB σ k f).2.2.2.1 k = f := up_s
def tabM (σ : MS) (n j : Nat) : Int64 := σ.2.2 16 (120 * n + j)
def ntM (σ : MS) : NT := fun n => (σ.2.1 9 n, σ.2.1 10 n, σ.2.1 11 n, σ.2.1 12 n, σ.2.1 13 n, σ.2.1 14 n)
def hsM (σ : MS) : Hs := (σ.2.1 30, fun k i => σ.2.2 31 (8 * i + k))
section RS
variable {σ : MS} {n m j i L : Nat}
theorem ix_at (hm : m < 1203) (hj : j < 120) : (120 : Int32) * nI m + nI j = nI (120 * m + j) ∧ ¬ (nI (120 * m + j) < 0 ∨ 144360 ≤ (nI (120 * m + j)).toNatClampNeg) ∧ (nI (120 * m + j)).toNatClampNeg = 120 * m + j := by
  refine ⟨?_, nI_in (by omega) (by omega), nI_clamp (by omega)⟩
  rw [show (120 : Int32) = nI 120 from rfl, pk_mul, nI_add]
theorem rAt (hm : m < 1203) (hj : j < 120) : FX11_at (nI m) (nI j) σ = some (tabM σ m j, σ) := by
  obtain ⟨e, e2, e3⟩ := ix_at hm hj
  rw [FX11_at, e, if_neg e2, e3]
  rfl
theorem rHolds (hm : m < 1203) (hj : j < 120) : FX11_holds (nI m) (nI j) σ = some (bI (nzV (tabM σ m j)), σ) := by
  rw [FX11_holds, rAt hm hj]
  show (if tabM σ m j = (0 : Int64) then some ((0 : Int32), σ) else some ((1 : Int32), σ)) = _
  by_cases h : tabM σ m j = 0
  · rw [if_pos h]; simp [nzV, h, bI]
  · rw [if_neg h]; simp [nzV, h, bI]
theorem rIsIn {x lo hi : Int32} : FX11_isIn x lo hi = some (bI (decide (¬ x < lo) && decide (¬ hi < x))) := by
  rw [FX11_isIn]
  by_cases h : x < lo
  · rw [if_pos h]; simp [h, bI]
  · rw [if_neg h]
    by_cases h2 : hi < x
    · rw [if_pos h2]; simp [h, h2, bI]
    · rw [if_neg h2]; simp [h, h2, bI]
theorem rWithin (hn : n < 1203) (hj : j < 120) (hi : i < 120) : FX11_isWithin (nI n) (nI j) (nI i) σ = some (bI (wiV (σ.2.1 13 n) (σ.2.1 14 n) (σ.2.1 30) j i), σ) := by
  have e1 := nI_i hn (show 1203 < 2 ^ 31 by decide)
  have e2 := nI_i hj (show 120 < 2 ^ 31 by decide)
  have e3 := nI_i hi (show 120 < 2 ^ 31 by decide)
  rw [FX11_isWithin, nI_clamp (show n < 2 ^ 31 by omega), if_neg e1]
  by_cases h : σ.2.1 14 n = -1
  · rw [if_pos h]; simp [wiV, h, bI]
  · rw [if_neg h, nI_clamp (show i < 2 ^ 31 by omega), nI_clamp (show j < 2 ^ 31 by omega), if_neg e3, if_neg e2, if_neg e1, if_neg e1, rIsIn]
    show (if bI _ = 0 then some ((0 : Int32), σ) else some ((1 : Int32), σ)) = _
    rw [wiV, show decide (σ.2.1 14 n = -1) = false from decide_eq_false h, Bool.false_or]
    generalize (decide (¬ (σ.2.1 30 i - σ.2.1 30 j) < σ.2.1 13 n) && decide (¬ σ.2.1 14 n < (σ.2.1 30 i - σ.2.1 30 j))) = b
    cases b <;> rfl
theorem rOnce (hn : n < 1203) (hm : m < 1203) (hi : i < 120) : ∀ (d k fuel : Nat), k + d = i + 1 → d < fuel → FX11_isTrue_190 L fuel (nI n) (nI i) (nI m) (bI (onV (σ.2.1 13 n) (σ.2.1 14 n) (σ.2.1 30) (tabM σ m) i k)) (nI k) σ = some (bI (onV (σ.2.1 13 n) (σ.2.1 14 n) (σ.2.1 30) (tabM σ m) i (i + 1)), σ) := by
  intro d
  induction d with
  | zero =>
    intro k fuel hk hf
    obtain ⟨f, rfl⟩ : ∃ z, fuel = z + 1 := ⟨fuel - 1, by omega⟩
    rw [FX11_isTrue_190, if_pos (nI_lt (show i < k by omega) (by omega)), if_neg bI_nn]
    rw [show k = i + 1 by omega]
  | succ d ih =>
    intro k fuel hk hf
    obtain ⟨f, rfl⟩ : ∃ z, fuel = z + 1 := ⟨fuel - 1, by omega⟩
    have nx := ih (k + 1) f (by omega) (by omega)
    rw [FX11_isTrue_190, if_neg (nI_nlt (show k ≤ i by omega) (by omega)), ← nI_succ]
    rw [onV] at nx
    cases ho : onV (σ.2.1 13 n) (σ.2.1 14 n) (σ.2.1 30) (tabM σ m) i k with
    | true =>
      rw [ho, Bool.true_or] at nx
      rw [if_neg (by decide)]
      exact nx
    | false =>
      rw [ho, Bool.false_or] at nx
      rw [if_pos (by decide), rHolds hm (by omega)]
      rw [b2r, ibI]
      cases ha : nzV (tabM σ m k) with
      | false =>
        rw [ha, Bool.false_and] at nx
        rw [if_neg (by decide)]
        exact nx
      | true =>
        rw [ha, Bool.true_and] at nx
        rw [if_pos rfl, rWithin hn (by omega) hi]
        rw [b2r, ibI]
        cases hw : wiV (σ.2.1 13 n) (σ.2.1 14 n) (σ.2.1 30) k i with
        | false => rw [hw] at nx; rw [if_neg (by decide)]; exact nx
        | true => rw [hw] at nx; rw [if_pos rfl]; exact nx
theorem rMiss (hn : n < 1203) (hm : m < 1203) (hi : i < 120) (hf1 : σ.2.1 10 n = nI m) : ∀ (k fuel : Nat) (x : Int32), k ≤ i + 1 → k < fuel → FX11_firstMiss_5 L fuel (nI n) (nI i) x (xkI k) σ = some ((match miV (σ.2.1 13 n) (σ.2.1 14 n) (σ.2.1 30) (tabM σ m) i k with | some j => nI j | none => x), σ) := by
  intro k
  induction k with
  | zero =>
    intro fuel x hk hf
    obtain ⟨f, rfl⟩ : ∃ z, fuel = z + 1 := ⟨fuel - 1, by omega⟩
    rw [FX11_firstMiss_5, if_pos (by decide)]
    rfl
  | succ k ih =>
    intro fuel x hk hf
    obtain ⟨f, rfl⟩ : ∃ z, fuel = z + 1 := ⟨fuel - 1, by omega⟩
    show FX11_firstMiss_5 L (f + 1) (nI n) (nI i) x (nI k) σ = _
    rw [FX11_firstMiss_5, if_neg (nI_pos (by omega)), if_neg (nI_in hn (by decide)), nI_clamp (show n < 2 ^ 31 by omega), hf1, rHolds hm (by omega), xk_m1]
    rw [b2r, ibI]
    rw [miV]
    cases ha : nzV (tabM σ m k) with
    | true =>
      rw [if_pos rfl, ih f x (by omega) (by omega)]
      cases miV (σ.2.1 13 n) (σ.2.1 14 n) (σ.2.1 30) (tabM σ m) i k <;> simp
    | false =>
      rw [if_neg (by decide), rWithin hn (by omega) hi]
      rw [b2r, ibI]
      cases hw : wiV (σ.2.1 13 n) (σ.2.1 14 n) (σ.2.1 30) k i with
      | false =>
        rw [if_neg (by decide), ih f x (by omega) (by omega)]
        cases miV (σ.2.1 13 n) (σ.2.1 14 n) (σ.2.1 30) (tabM σ m) i k <;> simp
      | true =>
        rw [if_pos rfl, ih f (nI k) (by omega) (by omega)]
        cases miV (σ.2.1 13 n) (σ.2.1 14 n) (σ.2.1 30) (tabM σ m) i k <;> simp
theorem rFirstMiss (hn : n < 1203) (hm : m < 1203) (hi : i < 120) (hf1 : σ.2.1 10 n = nI m) (hL : 200 ≤ L) : FX11_firstMiss L (nI n) (nI i) σ = some (opI (miV (σ.2.1 13 n) (σ.2.1 14 n) (σ.2.1 30) (tabM σ m) i (i + 1)), σ) := by
  rw [FX11_firstMiss]
  have := rMiss (L := L) hn hm hi hf1 (i + 1) L (-1) (Nat.le_refl _) (by omega)
  rw [show xkI (i + 1) = nI i from rfl] at this
  rw [this]
  cases miV (σ.2.1 13 n) (σ.2.1 14 n) (σ.2.1 30) (tabM σ m) i (i + 1) <;> rfl
theorem rSince {m2 : Nat} (hn : n < 1203) (hm : m < 1203) (hm2 : m2 < 1203) (hi : i < 120) (hf1 : σ.2.1 10 n = nI m) (hf2 : σ.2.1 11 n = nI m2) : ∀ (k fuel : Nat) (f : Bool), k ≤ i + 1 → k < fuel → FX11_isSince_8 L fuel (nI n) (nI i) (bI f) 1 (xkI k) σ = some (bI (f || siV (σ.2.1 13 n) (σ.2.1 14 n) (σ.2.1 30) (tabM σ m) (tabM σ m2) i k), σ) := by
  intro k
  induction k with
  | zero =>
    intro fuel f hk hf
    obtain ⟨q, rfl⟩ : ∃ z, fuel = z + 1 := ⟨fuel - 1, by omega⟩
    rw [FX11_isSince_8, if_pos (by decide), if_neg bI_nn]
    simp [siV]
  | succ k ih =>
    intro fuel f hk hf
    obtain ⟨q, rfl⟩ : ∃ z, fuel = z + 1 := ⟨fuel - 1, by omega⟩
    have step : ∀ f' : Bool, FX11_isSince_53 L (FX11_isSince_8 L q) (nI n) (nI i) (nI k) (bI f') σ = some (bI (f' || (nzV (tabM σ m k) && siV (σ.2.1 13 n) (σ.2.1 14 n) (σ.2.1 30) (tabM σ m) (tabM σ m2) i k)), σ) := by
      intro f'
      rw [FX11_isSince_53, if_neg (nI_in hn (by decide)), nI_clamp (show n < 2 ^ 31 by omega), hf1, rHolds hm (by omega), xk_m1]
      show FX11_isSince_8 L q (nI n) (nI i) (bI f') (bI (nzV (tabM σ m k))) (xkI k) σ = _
      cases ha : nzV (tabM σ m k) with
      | true =>
        rw [bI_t, ih q f' (by omega) (by omega), Bool.true_and]
      | false =>
        obtain ⟨q2, rfl⟩ : ∃ z, q = z + 1 := ⟨q - 1, by omega⟩
        rw [FX11_isSince_8, bI_f]
        by_cases hx : xkI k < 0
        · rw [if_pos hx, if_neg bI_nn]; simp
        · rw [if_neg hx, if_pos rfl, if_neg bI_nn]; simp
    show FX11_isSince_8 L (q + 1) (nI n) (nI i) (bI f) 1 (nI k) σ = _
    rw [FX11_isSince_8, if_neg (nI_pos (by omega)), if_neg (by decide), siV]
    cases f with
    | true =>
      rw [if_neg (by decide), FX11_isSince_48]
      have := step true
      rw [bI_t] at this
      rw [this]
      simp
    | false =>
      rw [if_pos (by decide), if_neg (nI_in hn (by decide)), nI_clamp (show n < 2 ^ 31 by omega), hf2, rHolds hm2 (by omega)]
      rw [b2r, ibI]
      have s0 := step false
      have s1 := step true
      rw [bI_f] at s0
      rw [bI_t] at s1
      cases hb : nzV (tabM σ m2 k) with
      | false =>
        rw [if_neg (by decide), FX11_isSince_52, s0]
        simp
      | true =>
        rw [if_pos rfl, rWithin hn (by omega) hi]
        rw [b2r, ibI]
        cases hw : wiV (σ.2.1 13 n) (σ.2.1 14 n) (σ.2.1 30) k i with
        | false => rw [if_neg (by decide), FX11_isSince_52, s0]; simp
        | true => rw [if_pos rfl, FX11_isSince_48, s1]; simp
theorem rLast (hm : m < 1203) (hi : i < 120) : ∀ (d k fuel : Nat), k + d = i + 1 → d < fuel → FX11_lastHolding_5 L fuel (nI m) (nI i) (opI (laV (tabM σ m) k)) (nI k) σ = some (opI (laV (tabM σ m) (i + 1)), σ) := by
  intro d
  induction d with
  | zero =>
    intro k fuel hk hf
    obtain ⟨f, rfl⟩ : ∃ z, fuel = z + 1 := ⟨fuel - 1, by omega⟩
    rw [FX11_lastHolding_5, if_pos (nI_lt (show i < k by omega) (by omega))]
    rw [show k = i + 1 by omega]
  | succ d ih =>
    intro k fuel hk hf
    obtain ⟨f, rfl⟩ : ∃ z, fuel = z + 1 := ⟨fuel - 1, by omega⟩
    have nx := ih (k + 1) f (by omega) (by omega)
    rw [FX11_lastHolding_5, if_neg (nI_nlt (show k ≤ i by omega) (by omega)), ← nI_succ, rHolds hm (by omega)]
    rw [b2r, ibI]
    rw [laV] at nx
    cases ha : nzV (tabM σ m k) with
    | false => rw [ha] at nx; rw [if_neg (by decide)]; simpa using nx
    | true => rw [ha] at nx; rw [if_pos rfl]; simpa [opI] using nx
theorem rLastHolding (hm : m < 1203) (hi : i < 120) (hL : 200 ≤ L) : FX11_lastHolding L (nI m) (nI i) σ = some (opI (laV (tabM σ m) (i + 1)), σ) := by
  rw [FX11_lastHolding]
  exact rLast hm hi (i + 1) 0 L (by omega) (by omega)
theorem rMax (hm : m < 1203) (hi : i < 120) : ∀ (d k fuel : Nat), k + d = i → d < fuel → FX11_overAll_11 L fuel 27 (nI m) (nI i) (mxV (tabM σ m) k) (nI (k + 1)) σ = some (mxV (tabM σ m) i, σ) := by
  intro d
  induction d with
  | zero =>
    intro k fuel hk hf
    obtain ⟨f, rfl⟩ : ∃ z, fuel = z + 1 := ⟨fuel - 1, by omega⟩
    rw [FX11_overAll_11, if_pos (nI_lt (show i < k + 1 by omega) (by omega)), show k = i by omega]
  | succ d ih =>
    intro k fuel hk hf
    obtain ⟨f, rfl⟩ : ∃ z, fuel = z + 1 := ⟨fuel - 1, by omega⟩
    have nx := ih (k + 1) f (by omega) (by omega)
    rw [FX11_overAll_11, if_neg (nI_nlt (show k + 1 ≤ i by omega) (by omega)), if_pos rfl, rAt hm (by omega), ← nI_succ]
    exact nx
theorem rMin (hm : m < 1203) (hi : i < 120) : ∀ (d k fuel : Nat), k + d = i → d < fuel → FX11_overAll_11 L fuel 28 (nI m) (nI i) (mnV (tabM σ m) k) (nI (k + 1)) σ = some (mnV (tabM σ m) i, σ) := by
  intro d
  induction d with
  | zero =>
    intro k fuel hk hf
    obtain ⟨f, rfl⟩ : ∃ z, fuel = z + 1 := ⟨fuel - 1, by omega⟩
    rw [FX11_overAll_11, if_pos (nI_lt (show i < k + 1 by omega) (by omega)), show k = i by omega]
  | succ d ih =>
    intro k fuel hk hf
    obtain ⟨f, rfl⟩ : ∃ z, fuel = z + 1 := ⟨fuel - 1, by omega⟩
    have nx := ih (k + 1) f (by omega) (by omega)
    rw [FX11_overAll_11, if_neg (nI_nlt (show k + 1 ≤ i by omega) (by omega)), if_neg (by decide), if_pos rfl, rAt hm (by omega), ← nI_succ]
    exact nx
theorem rSum (hm : m < 1203) (hi : i < 120) : ∀ (d k fuel : Nat), k + d = i → d < fuel → FX11_overAll_11 L fuel 29 (nI m) (nI i) (suV (tabM σ m) (k + 1)) (nI (k + 1)) σ = some (suV (tabM σ m) (i + 1), σ) := by
  intro d
  induction d with
  | zero =>
    intro k fuel hk hf
    obtain ⟨f, rfl⟩ : ∃ z, fuel = z + 1 := ⟨fuel - 1, by omega⟩
    rw [FX11_overAll_11, if_pos (nI_lt (show i < k + 1 by omega) (by omega)), show k = i by omega]
  | succ d ih =>
    intro k fuel hk hf
    obtain ⟨f, rfl⟩ : ∃ z, fuel = z + 1 := ⟨fuel - 1, by omega⟩
    have nx := ih (k + 1) f (by omega) (by omega)
    rw [FX11_overAll_11, if_neg (nI_nlt (show k + 1 ≤ i by omega) (by omega)), if_neg (by decide), if_neg (by decide), rAt hm (by omega), ← nI_succ]
    exact nx
theorem rCount (hm : m < 1203) (hi : i < 120) : ∀ (d k fuel : Nat), k + d = i + 1 → d < fuel → FX11_worth_161 L fuel (nI i) (nI m) (suV (tabM σ m) k) (nI k) σ = some (suV (tabM σ m) (i + 1), σ) := by
  intro d
  induction d with
  | zero =>
    intro k fuel hk hf
    obtain ⟨f, rfl⟩ : ∃ z, fuel = z + 1 := ⟨fuel - 1, by omega⟩
    rw [FX11_worth_161, if_pos (nI_lt (show i < k by omega) (by omega)), show k = i + 1 by omega]
  | succ d ih =>
    intro k fuel hk hf
    obtain ⟨f, rfl⟩ : ∃ z, fuel = z + 1 := ⟨fuel - 1, by omega⟩
    have nx := ih (k + 1) f (by omega) (by omega)
    rw [FX11_worth_161, if_neg (nI_nlt (show k ≤ i by omega) (by omega)), rAt hm (by omega), ← nI_succ]
    exact nx
theorem rCompared {th : Int32} {x y : Int64} : FX11_compared th x y = some (bI (cmpV th x y)) := by
  rw [FX11_compared, cmpV]
  by_cases h0 : th = 0
  · rw [if_pos h0, if_pos h0]
    by_cases h : x = y <;> simp [h, bI]
  rw [if_neg h0, if_neg h0]
  by_cases h1 : th = 1
  · rw [if_pos h1, if_pos h1]
    by_cases h : x = y <;> simp [h, bI]
  rw [if_neg h1, if_neg h1]
  by_cases h2 : th = 2
  · rw [if_pos h2, if_pos h2]
    by_cases h : x < y <;> simp [h, bI]
  rw [if_neg h2, if_neg h2]
  by_cases h3 : th = 3
  · rw [if_pos h3, if_pos h3]
    by_cases h : y < x <;> simp [h, bI]
  rw [if_neg h3, if_neg h3]
  by_cases h4 : th = 4
  · rw [if_pos h4, if_pos h4]
    by_cases h : y < x <;> simp [h, bI]
  rw [if_neg h4, if_neg h4]
  by_cases h : x < y <;> simp [h, bI]
theorem rBoth {th : Int32} {x y : Int64} (ht : th = 0 ∨ th = 1 ∨ th = 2 ∨ th = 3 ∨ th = 4) : FX11_both th x y = some (binV th x y) := by
  rcases ht with rfl | rfl | rfl | rfl | rfl
  · simp [FX11_both, binV, FX11_both_13]
  · simp [FX11_both, binV, FX11_both_13]
  · simp [FX11_both, binV, FX11_both_13]
  · by_cases hy : y = 0 <;> simp [FX11_both, binV, FX11_both_13, hy]
  · by_cases hy : y = 0 <;> simp [FX11_both, binV, FX11_both_13, hy]
theorem opI_none {o : Option Nat} (h : ∀ j, o = some j → j < 2 ^ 31) : (opI o = (-1 : Int32)) ↔ o = none := by
  cases o with
  | none => exact ⟨fun _ => rfl, fun _ => rfl⟩
  | some j => exact ⟨fun e => absurd e (nI_n1 (h j rfl)), fun e => by cases e⟩
theorem ix_sg {k : Nat} (hk : k < 8) (hi : i < 120) : (8 : Int32) * nI i + nI k = nI (8 * i + k) ∧ ¬ (nI (8 * i + k) < 0 ∨ 960 ≤ (nI (8 * i + k)).toNatClampNeg) ∧ (nI (8 * i + k)).toNatClampNeg = 8 * i + k := by
  refine ⟨?_, nI_in (by omega) (by omega), nI_clamp (by omega)⟩
  rw [show (8 : Int32) = nI 8 from rfl, pk_mul, nI_add]
theorem rTrue_0 (hn : n < 1203) (hi : i < 120) (hL : 200 ≤ L) (hk : σ.2.1 9 n = 0) (hm : m < 1203) (hf1 : σ.2.1 10 n = nI m) : FX11_isTrue L (nI n) (nI i) σ = some (bI (!nzV (tabM σ m i)), σ) := by
  have e1 := nI_i hn (show 1203 < 2 ^ 31 by decide)
  rw [FX11_isTrue, nI_clamp (show n < 2 ^ 31 by omega), if_neg e1, if_neg e1, if_neg e1, hk, if_pos rfl, hf1, rHolds hm hi, b2r, ibI]
  cases nzV (tabM σ m i) <;> rfl
theorem rTrue_1 (hn : n < 1203) (hi : i < 120) (hL : 200 ≤ L) (hk : σ.2.1 9 n = 1) (hm : m < 1203) (hf1 : σ.2.1 10 n = nI m) : FX11_isTrue L (nI n) (nI i) σ = some (bI (decide (0 < i) && nzV (tabM σ m (i - 1))), σ) := by
  have e1 := nI_i hn (show 1203 < 2 ^ 31 by decide)
  rw [FX11_isTrue, nI_clamp (show n < 2 ^ 31 by omega), if_neg e1, if_neg e1, if_neg e1, hk, if_neg (show ¬ ((1 : Int32) = 0) by decide), if_pos rfl, hf1]
  cases i with
  | zero => rw [if_pos (by decide)]; rfl
  | succ i => rw [if_neg (nI_nle (by omega) (by omega)), nI_pred, rHolds hm (by omega), b2r, ibI]; cases h : nzV (tabM σ m i) <;> simp [h, bI]
theorem rTrue_2 (hn : n < 1203) (hi : i < 120) (hL : 200 ≤ L) (hk : σ.2.1 9 n = 2) (hm : m < 1203) (hf1 : σ.2.1 10 n = nI m) : FX11_isTrue L (nI n) (nI i) σ = some (bI (nzV (tabM σ m i) && (decide (i = 0) || !nzV (tabM σ m (i - 1)))), σ) := by
  have e1 := nI_i hn (show 1203 < 2 ^ 31 by decide)
  rw [FX11_isTrue, nI_clamp (show n < 2 ^ 31 by omega), if_neg e1, if_neg e1, if_neg e1, hk, if_neg (show ¬ ((2 : Int32) = 0) by decide), if_neg (show ¬ ((2 : Int32) = 1) by decide), if_pos rfl, hf1, rHolds hm hi, b2r, ibI]
  cases h : nzV (tabM σ m i) with
  | false => simp [bI]
  | true =>
    rw [if_pos rfl]
    cases i with
    | zero => rw [if_pos nI_0]; simp [bI]
    | succ i => rw [if_neg (nI_ne0 (by omega) (by omega)), nI_pred, rHolds hm (by omega), b2r, ibI]; cases h : nzV (tabM σ m i) <;> simp [h, bI]
theorem rTrue_3 (hn : n < 1203) (hi : i < 120) (hL : 200 ≤ L) (hk : σ.2.1 9 n = 3) (hm : m < 1203) (hf1 : σ.2.1 10 n = nI m) : FX11_isTrue L (nI n) (nI i) σ = some (bI (!nzV (tabM σ m i) && (decide (0 < i) && nzV (tabM σ m (i - 1)))), σ) := by
  have e1 := nI_i hn (show 1203 < 2 ^ 31 by decide)
  rw [FX11_isTrue, nI_clamp (show n < 2 ^ 31 by omega), if_neg e1, if_neg e1, if_neg e1, hk, if_neg (show ¬ ((3 : Int32) = 0) by decide), if_neg (show ¬ ((3 : Int32) = 1) by decide), if_neg (show ¬ ((3 : Int32) = 2) by decide), if_pos rfl, hf1, rHolds hm hi, b2r, ibI]
  cases h : nzV (tabM σ m i) with
  | true => simp [bI]
  | false =>
    rw [if_neg (by decide)]
    cases i with
    | zero => rw [if_pos (by decide)]; simp [bI]
    | succ i => rw [if_neg (nI_nle (by omega) (by omega)), nI_pred, rHolds hm (by omega), b2r, ibI]; cases h : nzV (tabM σ m i) <;> simp [h, bI]
theorem rTrue_4 (hn : n < 1203) (hi : i < 120) (hL : 200 ≤ L) (hk : σ.2.1 9 n = 4) (hm : m < 1203) (hf1 : σ.2.1 10 n = nI m) : FX11_isTrue L (nI n) (nI i) σ = some (bI (onV (σ.2.1 13 n) (σ.2.1 14 n) (σ.2.1 30) (tabM σ m) i (i + 1)), σ) := by
  have e1 := nI_i hn (show 1203 < 2 ^ 31 by decide)
  rw [FX11_isTrue, nI_clamp (show n < 2 ^ 31 by omega), if_neg e1, if_neg e1, if_neg e1, hk, if_neg (show ¬ ((4 : Int32) = 0) by decide), if_neg (show ¬ ((4 : Int32) = 1) by decide), if_neg (show ¬ ((4 : Int32) = 2) by decide), if_neg (show ¬ ((4 : Int32) = 3) by decide), if_pos rfl, hf1]
  exact rOnce hn hm hi (i + 1) 0 L (by omega) (by omega)
theorem rTrue_5 (hn : n < 1203) (hi : i < 120) (hL : 200 ≤ L) (hk : σ.2.1 9 n = 5) (hm : m < 1203) (hf1 : σ.2.1 10 n = nI m) : FX11_isTrue L (nI n) (nI i) σ = some (bI (miV (σ.2.1 13 n) (σ.2.1 14 n) (σ.2.1 30) (tabM σ m) i (i + 1)).isNone, σ) := by
  have e1 := nI_i hn (show 1203 < 2 ^ 31 by decide)
  rw [FX11_isTrue, nI_clamp (show n < 2 ^ 31 by omega), if_neg e1, if_neg e1, if_neg e1, hk, if_neg (show ¬ ((5 : Int32) = 0) by decide), if_neg (show ¬ ((5 : Int32) = 1) by decide), if_neg (show ¬ ((5 : Int32) = 2) by decide), if_neg (show ¬ ((5 : Int32) = 3) by decide), if_neg (show ¬ ((5 : Int32) = 4) by decide), if_pos rfl, rFirstMiss hn hm hi hf1 hL, b2r]
  cases h : miV (σ.2.1 13 n) (σ.2.1 14 n) (σ.2.1 30) (tabM σ m) i (i + 1) with
  | none => rfl
  | some j => have := miV_lt _ h; rw [if_neg (show ¬ opI (some j) = -1 from nI_n1 (by omega))]; rfl
theorem rTrue_6 (hn : n < 1203) (hi : i < 120) (hL : 200 ≤ L) (hk : σ.2.1 9 n = 6) : FX11_isTrue L (nI n) (nI i) σ = some (bI true, σ) := by
  have e1 := nI_i hn (show 1203 < 2 ^ 31 by decide)
  rw [FX11_isTrue, nI_clamp (show n < 2 ^ 31 by omega), if_neg e1, if_neg e1, if_neg e1, hk, if_neg (show ¬ ((6 : Int32) = 0) by decide), if_neg (show ¬ ((6 : Int32) = 1) by decide), if_neg (show ¬ ((6 : Int32) = 2) by decide), if_neg (show ¬ ((6 : Int32) = 3) by decide), if_neg (show ¬ ((6 : Int32) = 4) by decide), if_neg (show ¬ ((6 : Int32) = 5) by decide), if_pos rfl]; rfl
theorem rTrue_7 (hn : n < 1203) (hi : i < 120) (hL : 200 ≤ L) (hk : σ.2.1 9 n = 7) : FX11_isTrue L (nI n) (nI i) σ = some (bI false, σ) := by
  have e1 := nI_i hn (show 1203 < 2 ^ 31 by decide)
  rw [FX11_isTrue, nI_clamp (show n < 2 ^ 31 by omega), if_neg e1, if_neg e1, if_neg e1, hk, if_neg (show ¬ ((7 : Int32) = 0) by decide), if_neg (show ¬ ((7 : Int32) = 1) by decide), if_neg (show ¬ ((7 : Int32) = 2) by decide), if_neg (show ¬ ((7 : Int32) = 3) by decide), if_neg (show ¬ ((7 : Int32) = 4) by decide), if_neg (show ¬ ((7 : Int32) = 5) by decide), if_neg (show ¬ ((7 : Int32) = 6) by decide), if_pos rfl]; rfl
theorem rTrue_8 (hn : n < 1203) (hi : i < 120) (hL : 200 ≤ L) (hk : σ.2.1 9 n = 8) (hm : m < 1203) (hf1 : σ.2.1 10 n = nI m) : FX11_isTrue L (nI n) (nI i) σ = some (bI (nzV (tabM σ m i)), σ) := by
  have e1 := nI_i hn (show 1203 < 2 ^ 31 by decide)
  rw [FX11_isTrue, nI_clamp (show n < 2 ^ 31 by omega), if_neg e1, if_neg e1, if_neg e1, hk, if_neg (show ¬ ((8 : Int32) = 0) by decide), if_neg (show ¬ ((8 : Int32) = 1) by decide), if_neg (show ¬ ((8 : Int32) = 2) by decide), if_neg (show ¬ ((8 : Int32) = 3) by decide), if_neg (show ¬ ((8 : Int32) = 4) by decide), if_neg (show ¬ ((8 : Int32) = 5) by decide), if_neg (show ¬ ((8 : Int32) = 6) by decide), if_neg (show ¬ ((8 : Int32) = 7) by decide), if_pos rfl, hf1, rHolds hm hi, b2r, if_neg bI_nn]
theorem rTrue_9 (hn : n < 1203) (hi : i < 120) (hL : 200 ≤ L) (hk : σ.2.1 9 n = 9) {m2 : Nat} (hm : m < 1203) (hf1 : σ.2.1 10 n = nI m) (hm2 : m2 < 1203) (hf2 : σ.2.1 11 n = nI m2) : FX11_isTrue L (nI n) (nI i) σ = some (bI (cmpV (σ.2.1 12 n) (tabM σ m i) (tabM σ m2 i)), σ) := by
  have e1 := nI_i hn (show 1203 < 2 ^ 31 by decide)
  rw [FX11_isTrue, nI_clamp (show n < 2 ^ 31 by omega), if_neg e1, if_neg e1, if_neg e1, hk, if_neg (show ¬ ((9 : Int32) = 0) by decide), if_neg (show ¬ ((9 : Int32) = 1) by decide), if_neg (show ¬ ((9 : Int32) = 2) by decide), if_neg (show ¬ ((9 : Int32) = 3) by decide), if_neg (show ¬ ((9 : Int32) = 4) by decide), if_neg (show ¬ ((9 : Int32) = 5) by decide), if_neg (show ¬ ((9 : Int32) = 6) by decide), if_neg (show ¬ ((9 : Int32) = 7) by decide), if_neg (show ¬ ((9 : Int32) = 8) by decide), if_pos rfl, if_neg e1, hf1, hf2, rAt hm hi, b2r, rAt hm2 hi, b2r, rCompared]
  show (if _ then _ else _) = _
  rw [if_neg bI_nn]
theorem rTrue_10 (hn : n < 1203) (hi : i < 120) (hL : 200 ≤ L) (hk : σ.2.1 9 n = 10) {m2 : Nat} (hm : m < 1203) (hf1 : σ.2.1 10 n = nI m) (hm2 : m2 < 1203) (hf2 : σ.2.1 11 n = nI m2) : FX11_isTrue L (nI n) (nI i) σ = some (bI (siV (σ.2.1 13 n) (σ.2.1 14 n) (σ.2.1 30) (tabM σ m) (tabM σ m2) i (i + 1)), σ) := by
  have e1 := nI_i hn (show 1203 < 2 ^ 31 by decide)
  rw [FX11_isTrue, nI_clamp (show n < 2 ^ 31 by omega), if_neg e1, if_neg e1, if_neg e1, hk, if_neg (show ¬ ((10 : Int32) = 0) by decide), if_neg (show ¬ ((10 : Int32) = 1) by decide), if_neg (show ¬ ((10 : Int32) = 2) by decide), if_neg (show ¬ ((10 : Int32) = 3) by decide), if_neg (show ¬ ((10 : Int32) = 4) by decide), if_neg (show ¬ ((10 : Int32) = 5) by decide), if_neg (show ¬ ((10 : Int32) = 6) by decide), if_neg (show ¬ ((10 : Int32) = 7) by decide), if_neg (show ¬ ((10 : Int32) = 8) by decide), if_neg (show ¬ ((10 : Int32) = 9) by decide), if_pos rfl, FX11_isSince]
  have := rSince (L := L) hn hm hm2 hi hf1 hf2 (i + 1) L false (Nat.le_refl _) (by omega)
  rw [bI_f, show xkI (i + 1) = nI i from rfl] at this
  rw [this, b2r, if_neg bI_nn, Bool.false_or]
theorem rTrue_11 (hn : n < 1203) (hi : i < 120) (hL : 200 ≤ L) (hk : σ.2.1 9 n = 11) {m2 : Nat} (hm : m < 1203) (hf1 : σ.2.1 10 n = nI m) (hm2 : m2 < 1203) (hf2 : σ.2.1 11 n = nI m2) : FX11_isTrue L (nI n) (nI i) σ = some (bI (nzV (tabM σ m i) && nzV (tabM σ m2 i)), σ) := by
  have e1 := nI_i hn (show 1203 < 2 ^ 31 by decide)
  rw [FX11_isTrue, nI_clamp (show n < 2 ^ 31 by omega), if_neg e1, if_neg e1, if_neg e1, hk, if_neg (show ¬ ((11 : Int32) = 0) by decide), if_neg (show ¬ ((11 : Int32) = 1) by decide), if_neg (show ¬ ((11 : Int32) = 2) by decide), if_neg (show ¬ ((11 : Int32) = 3) by decide), if_neg (show ¬ ((11 : Int32) = 4) by decide), if_neg (show ¬ ((11 : Int32) = 5) by decide), if_neg (show ¬ ((11 : Int32) = 6) by decide), if_neg (show ¬ ((11 : Int32) = 7) by decide), if_neg (show ¬ ((11 : Int32) = 8) by decide), if_neg (show ¬ ((11 : Int32) = 9) by decide), if_neg (show ¬ ((11 : Int32) = 10) by decide), if_pos rfl, hf1, hf2, rHolds hm hi, b2r, ibI, rHolds hm2 hi, b2r, ibI]
  cases nzV (tabM σ m i) <;> cases nzV (tabM σ m2 i) <;> rfl
theorem rTrue_12 (hn : n < 1203) (hi : i < 120) (hL : 200 ≤ L) (hk : σ.2.1 9 n = 12) {m2 : Nat} (hm : m < 1203) (hf1 : σ.2.1 10 n = nI m) (hm2 : m2 < 1203) (hf2 : σ.2.1 11 n = nI m2) : FX11_isTrue L (nI n) (nI i) σ = some (bI (nzV (tabM σ m i) || nzV (tabM σ m2 i)), σ) := by
  have e1 := nI_i hn (show 1203 < 2 ^ 31 by decide)
  rw [FX11_isTrue, nI_clamp (show n < 2 ^ 31 by omega), if_neg e1, if_neg e1, if_neg e1, hk, if_neg (show ¬ ((12 : Int32) = 0) by decide), if_neg (show ¬ ((12 : Int32) = 1) by decide), if_neg (show ¬ ((12 : Int32) = 2) by decide), if_neg (show ¬ ((12 : Int32) = 3) by decide), if_neg (show ¬ ((12 : Int32) = 4) by decide), if_neg (show ¬ ((12 : Int32) = 5) by decide), if_neg (show ¬ ((12 : Int32) = 6) by decide), if_neg (show ¬ ((12 : Int32) = 7) by decide), if_neg (show ¬ ((12 : Int32) = 8) by decide), if_neg (show ¬ ((12 : Int32) = 9) by decide), if_neg (show ¬ ((12 : Int32) = 10) by decide), if_neg (show ¬ ((12 : Int32) = 11) by decide), if_pos rfl, hf1, hf2, rHolds hm hi, b2r, ibI, rHolds hm2 hi, b2r, ibI]
  cases nzV (tabM σ m i) <;> cases nzV (tabM σ m2 i) <;> rfl
theorem rTrue_13 (hn : n < 1203) (hi : i < 120) (hL : 200 ≤ L) (hk : σ.2.1 9 n = 13) {m2 : Nat} (hm : m < 1203) (hf1 : σ.2.1 10 n = nI m) (hm2 : m2 < 1203) (hf2 : σ.2.1 11 n = nI m2) : FX11_isTrue L (nI n) (nI i) σ = some (bI (!nzV (tabM σ m i) || nzV (tabM σ m2 i)), σ) := by
  have e1 := nI_i hn (show 1203 < 2 ^ 31 by decide)
  rw [FX11_isTrue, nI_clamp (show n < 2 ^ 31 by omega), if_neg e1, if_neg e1, if_neg e1, hk, if_neg (show ¬ ((13 : Int32) = 0) by decide), if_neg (show ¬ ((13 : Int32) = 1) by decide), if_neg (show ¬ ((13 : Int32) = 2) by decide), if_neg (show ¬ ((13 : Int32) = 3) by decide), if_neg (show ¬ ((13 : Int32) = 4) by decide), if_neg (show ¬ ((13 : Int32) = 5) by decide), if_neg (show ¬ ((13 : Int32) = 6) by decide), if_neg (show ¬ ((13 : Int32) = 7) by decide), if_neg (show ¬ ((13 : Int32) = 8) by decide), if_neg (show ¬ ((13 : Int32) = 9) by decide), if_neg (show ¬ ((13 : Int32) = 10) by decide), if_neg (show ¬ ((13 : Int32) = 11) by decide), if_neg (show ¬ ((13 : Int32) = 12) by decide), hf1, hf2, rHolds hm hi, b2r, ibI, rHolds hm2 hi, b2r, ibI]
  cases nzV (tabM σ m i) <;> cases nzV (tabM σ m2 i) <;> rfl
/-- what is or is not so, by the sort -/
theorem rTrue {V : Nat → Prop} (hT : okN V (ntM σ n) n) (hV : ∀ m, V m → m < 1203) (hn : V n) (hi : i < 120) (hL : 200 ≤ L) (hk20 : ¬ (20 : Int32) ≤ σ.2.1 9 n) : ∃ b : Bool, FX11_isTrue L (nI n) (nI i) σ = some (bI b, σ) ∧ opV (ntM σ n).1 (ntM σ n).2.1 (ntM σ n).2.2.2.2.1 (ntM σ n).2.2.2.2.2 (ntM σ n).2.2.2.1 (hsM σ) (tabM σ (ntM σ n).2.1.toNatClampNeg) (tabM σ (ntM σ n).2.2.1.toNatClampNeg) (tabM σ (ntM σ n).2.2.2.1.toNatClampNeg) i = b2l b := by
  obtain ⟨h0, h1, h2, -, -⟩ := hT
  have hn := hV n hn
  simp only [ntM, hsM] at h0 h1 h2 ⊢
  generalize hk : σ.2.1 9 n = kd at h0 h1 h2 hk20 ⊢
  simp only [isK, Bool.or_eq_true, decide_eq_true_eq] at h0
  rcases h0 with (((((((((((((((((((((((((((rfl|rfl)|rfl)|rfl)|rfl)|rfl)|rfl)|rfl)|rfl)|rfl)|rfl)|rfl)|rfl)|rfl)|h0)|h0)|h0)|h0)|h0)|h0)|h0)|h0)|h0)|h0)|h0)|h0)|h0)|h0)|h0
  · obtain ⟨m, hv, hm, e⟩ := h1 (by decide); exact ⟨_, rTrue_0 hn hi hL hk (hV m hv) e, by rw [e, nI_clamp (by have := hV m hv; omega)]; simp [opV]⟩
  · obtain ⟨m, hv, hm, e⟩ := h1 (by decide); exact ⟨_, rTrue_1 hn hi hL hk (hV m hv) e, by rw [e, nI_clamp (by have := hV m hv; omega)]; simp [opV]⟩
  · obtain ⟨m, hv, hm, e⟩ := h1 (by decide); exact ⟨_, rTrue_2 hn hi hL hk (hV m hv) e, by rw [e, nI_clamp (by have := hV m hv; omega)]; simp [opV]⟩
  · obtain ⟨m, hv, hm, e⟩ := h1 (by decide); exact ⟨_, rTrue_3 hn hi hL hk (hV m hv) e, by rw [e, nI_clamp (by have := hV m hv; omega)]; simp [opV]⟩
  · obtain ⟨m, hv, hm, e⟩ := h1 (by decide); exact ⟨_, rTrue_4 hn hi hL hk (hV m hv) e, by rw [e, nI_clamp (by have := hV m hv; omega)]; simp [opV]⟩
  · obtain ⟨m, hv, hm, e⟩ := h1 (by decide); exact ⟨_, rTrue_5 hn hi hL hk (hV m hv) e, by rw [e, nI_clamp (by have := hV m hv; omega)]; simp [opV]⟩
  · exact ⟨_, rTrue_6 hn hi hL hk, by simp [opV, b2l]⟩
  · exact ⟨_, rTrue_7 hn hi hL hk, by simp [opV, b2l]⟩
  · obtain ⟨m, hv, hm, e⟩ := h1 (by decide); exact ⟨_, rTrue_8 hn hi hL hk (hV m hv) e, by rw [e, nI_clamp (by have := hV m hv; omega)]; simp [opV]⟩
  · obtain ⟨m, hv, hm, e⟩ := h1 (by decide); obtain ⟨m2, hv2, hm2, e2⟩ := h2 (by decide); exact ⟨_, rTrue_9 hn hi hL hk (hV m hv) e (hV m2 hv2) e2, by rw [e, e2, nI_clamp (by have := hV m hv; omega), nI_clamp (by have := hV m2 hv2; omega)]; simp [opV]⟩
  · obtain ⟨m, hv, hm, e⟩ := h1 (by decide); obtain ⟨m2, hv2, hm2, e2⟩ := h2 (by decide); exact ⟨_, rTrue_10 hn hi hL hk (hV m hv) e (hV m2 hv2) e2, by rw [e, e2, nI_clamp (by have := hV m hv; omega), nI_clamp (by have := hV m2 hv2; omega)]; simp [opV]⟩
  · obtain ⟨m, hv, hm, e⟩ := h1 (by decide); obtain ⟨m2, hv2, hm2, e2⟩ := h2 (by decide); exact ⟨_, rTrue_11 hn hi hL hk (hV m hv) e (hV m2 hv2) e2, by rw [e, e2, nI_clamp (by have := hV m hv; omega), nI_clamp (by have := hV m2 hv2; omega)]; simp [opV]⟩
  · obtain ⟨m, hv, hm, e⟩ := h1 (by decide); obtain ⟨m2, hv2, hm2, e2⟩ := h2 (by decide); exact ⟨_, rTrue_12 hn hi hL hk (hV m hv) e (hV m2 hv2) e2, by rw [e, e2, nI_clamp (by have := hV m hv; omega), nI_clamp (by have := hV m2 hv2; omega)]; simp [opV]⟩
  · obtain ⟨m, hv, hm, e⟩ := h1 (by decide); obtain ⟨m2, hv2, hm2, e2⟩ := h2 (by decide); exact ⟨_, rTrue_13 hn hi hL hk (hV m hv) e (hV m2 hv2) e2, by rw [e, e2, nI_clamp (by have := hV m hv; omega), nI_clamp (by have := hV m2 hv2; omega)]; simp [opV]⟩
  all_goals (subst h0; exact absurd (by decide) hk20)
theorem rWorth_20 (hn : n < 1203) (hi : i < 120) (hL : 200 ≤ L) (hk : σ.2.1 9 n = 20) : FX11_worth L (nI n) (nI i) σ = some (((σ.2.1 10 n).toInt64), σ) := by
  have e1 := nI_i hn (show 1203 < 2 ^ 31 by decide)
  have e2 := nI_in hi (show 120 < 2 ^ 31 by decide)
  rw [FX11_worth, nI_clamp (show n < 2 ^ 31 by omega), if_neg e1, if_neg e1, hk, if_pos rfl]
theorem rWorth_21 (hn : n < 1203) (hi : i < 120) (hL : 200 ≤ L) (hk : σ.2.1 9 n = 21) (hm : m < 8) (hf1 : σ.2.1 10 n = nI m) : FX11_worth L (nI n) (nI i) σ = some ((σ.2.2 31 (8 * i + m)), σ) := by
  have e1 := nI_i hn (show 1203 < 2 ^ 31 by decide)
  have e2 := nI_in hi (show 120 < 2 ^ 31 by decide)
  rw [FX11_worth, nI_clamp (show n < 2 ^ 31 by omega), if_neg e1, if_neg e1, hk, if_neg (show ¬ ((21 : Int32) = 20) by decide), if_pos rfl, hf1, (ix_sg hm hi).1, if_neg (ix_sg hm hi).2.1, (ix_sg hm hi).2.2]
theorem rWorth_22 (hn : n < 1203) (hi : i < 120) (hL : 200 ≤ L) (hk : σ.2.1 9 n = 22) (hm : m < 1203) (hf1 : σ.2.1 10 n = nI m) : FX11_worth L (nI n) (nI i) σ = some ((tabM σ m i), σ) := by
  have e1 := nI_i hn (show 1203 < 2 ^ 31 by decide)
  have e2 := nI_in hi (show 120 < 2 ^ 31 by decide)
  rw [FX11_worth, nI_clamp (show n < 2 ^ 31 by omega), if_neg e1, if_neg e1, hk, if_neg (show ¬ ((22 : Int32) = 20) by decide), if_neg (show ¬ ((22 : Int32) = 21) by decide), if_pos rfl, hf1, rAt hm hi, b2r]
theorem rWorth_23 (hn : n < 1203) (hi : i < 120) (hL : 200 ≤ L) (hk : σ.2.1 9 n = 23) : FX11_worth L (nI n) (nI i) σ = some (((σ.2.1 30 i).toInt64), σ) := by
  have e1 := nI_i hn (show 1203 < 2 ^ 31 by decide)
  have e2 := nI_in hi (show 120 < 2 ^ 31 by decide)
  rw [FX11_worth, nI_clamp (show n < 2 ^ 31 by omega), if_neg e1, if_neg e1, hk, if_neg (show ¬ ((23 : Int32) = 20) by decide), if_neg (show ¬ ((23 : Int32) = 21) by decide), if_neg (show ¬ ((23 : Int32) = 22) by decide), if_pos rfl, if_neg e2, nI_clamp (show i < 2 ^ 31 by omega)]
theorem rWorth_24 (hn : n < 1203) (hi : i < 120) (hL : 200 ≤ L) (hk : σ.2.1 9 n = 24) : FX11_worth L (nI n) (nI i) σ = some (((nI i).toInt64), σ) := by
  have e1 := nI_i hn (show 1203 < 2 ^ 31 by decide)
  have e2 := nI_in hi (show 120 < 2 ^ 31 by decide)
  rw [FX11_worth, nI_clamp (show n < 2 ^ 31 by omega), if_neg e1, if_neg e1, hk, if_neg (show ¬ ((24 : Int32) = 20) by decide), if_neg (show ¬ ((24 : Int32) = 21) by decide), if_neg (show ¬ ((24 : Int32) = 22) by decide), if_neg (show ¬ ((24 : Int32) = 23) by decide), if_pos rfl]
theorem rWorth_25 (hn : n < 1203) (hi : i < 120) (hL : 200 ≤ L) (hk : σ.2.1 9 n = 25) (hm : m < 1203) (hf1 : σ.2.1 10 n = nI m) : FX11_worth L (nI n) (nI i) σ = some ((-(tabM σ m i)), σ) := by
  have e1 := nI_i hn (show 1203 < 2 ^ 31 by decide)
  have e2 := nI_in hi (show 120 < 2 ^ 31 by decide)
  rw [FX11_worth, nI_clamp (show n < 2 ^ 31 by omega), if_neg e1, if_neg e1, hk, if_neg (show ¬ ((25 : Int32) = 20) by decide), if_neg (show ¬ ((25 : Int32) = 21) by decide), if_neg (show ¬ ((25 : Int32) = 22) by decide), if_neg (show ¬ ((25 : Int32) = 23) by decide), if_neg (show ¬ ((25 : Int32) = 24) by decide), if_pos rfl, hf1, rAt hm hi, b2r]
theorem rWorth_26 (hn : n < 1203) (hi : i < 120) (hL : 200 ≤ L) (hk : σ.2.1 9 n = 26) (hm : m < 1203) (hf1 : σ.2.1 10 n = nI m) : FX11_worth L (nI n) (nI i) σ = some ((if i = 0 then 0 else tabM σ m (i - 1)), σ) := by
  have e1 := nI_i hn (show 1203 < 2 ^ 31 by decide)
  have e2 := nI_in hi (show 120 < 2 ^ 31 by decide)
  rw [FX11_worth, nI_clamp (show n < 2 ^ 31 by omega), if_neg e1, if_neg e1, hk, if_neg (show ¬ ((26 : Int32) = 20) by decide), if_neg (show ¬ ((26 : Int32) = 21) by decide), if_neg (show ¬ ((26 : Int32) = 22) by decide), if_neg (show ¬ ((26 : Int32) = 23) by decide), if_neg (show ¬ ((26 : Int32) = 24) by decide), if_neg (show ¬ ((26 : Int32) = 25) by decide), if_pos rfl, hf1]
  cases i with
  | zero => rw [if_pos nI_0, if_pos rfl]
  | succ i => rw [if_neg (nI_ne0 (by omega) (by omega)), nI_pred, rAt hm (by omega), b2r, if_neg (by omega)]; rfl
theorem rWorth_27 (hn : n < 1203) (hi : i < 120) (hL : 200 ≤ L) (hk : σ.2.1 9 n = 27) (hm : m < 1203) (hf1 : σ.2.1 10 n = nI m) : FX11_worth L (nI n) (nI i) σ = some ((mxV (tabM σ m) i), σ) := by
  have e1 := nI_i hn (show 1203 < 2 ^ 31 by decide)
  have e2 := nI_in hi (show 120 < 2 ^ 31 by decide)
  rw [FX11_worth, nI_clamp (show n < 2 ^ 31 by omega), if_neg e1, if_neg e1, hk, if_neg (show ¬ ((27 : Int32) = 20) by decide), if_neg (show ¬ ((27 : Int32) = 21) by decide), if_neg (show ¬ ((27 : Int32) = 22) by decide), if_neg (show ¬ ((27 : Int32) = 23) by decide), if_neg (show ¬ ((27 : Int32) = 24) by decide), if_neg (show ¬ ((27 : Int32) = 25) by decide), if_neg (show ¬ ((27 : Int32) = 26) by decide), if_pos rfl, if_neg e1, hf1, FX11_overAll, show (0 : Int32) = nI 0 from rfl, rAt hm (by omega), b2r]
  have := rMax (L := L) (σ := σ) hm hi i 0 L (by omega) (by omega)
  rw [show mxV (tabM σ m) 0 = tabM σ m 0 from rfl, show nI (0 + 1) = 1 from rfl] at this
  rw [this, b2r]
theorem rWorth_28 (hn : n < 1203) (hi : i < 120) (hL : 200 ≤ L) (hk : σ.2.1 9 n = 28) (hm : m < 1203) (hf1 : σ.2.1 10 n = nI m) : FX11_worth L (nI n) (nI i) σ = some ((mnV (tabM σ m) i), σ) := by
  have e1 := nI_i hn (show 1203 < 2 ^ 31 by decide)
  have e2 := nI_in hi (show 120 < 2 ^ 31 by decide)
  rw [FX11_worth, nI_clamp (show n < 2 ^ 31 by omega), if_neg e1, if_neg e1, hk, if_neg (show ¬ ((28 : Int32) = 20) by decide), if_neg (show ¬ ((28 : Int32) = 21) by decide), if_neg (show ¬ ((28 : Int32) = 22) by decide), if_neg (show ¬ ((28 : Int32) = 23) by decide), if_neg (show ¬ ((28 : Int32) = 24) by decide), if_neg (show ¬ ((28 : Int32) = 25) by decide), if_neg (show ¬ ((28 : Int32) = 26) by decide), if_neg (show ¬ ((28 : Int32) = 27) by decide), if_pos rfl, if_neg e1, hf1, FX11_overAll, show (0 : Int32) = nI 0 from rfl, rAt hm (by omega), b2r]
  have := rMin (L := L) (σ := σ) hm hi i 0 L (by omega) (by omega)
  rw [show mnV (tabM σ m) 0 = tabM σ m 0 from rfl, show nI (0 + 1) = 1 from rfl] at this
  rw [this, b2r]
theorem rWorth_29 (hn : n < 1203) (hi : i < 120) (hL : 200 ≤ L) (hk : σ.2.1 9 n = 29) (hm : m < 1203) (hf1 : σ.2.1 10 n = nI m) : FX11_worth L (nI n) (nI i) σ = some ((suV (tabM σ m) (i + 1)), σ) := by
  have e1 := nI_i hn (show 1203 < 2 ^ 31 by decide)
  have e2 := nI_in hi (show 120 < 2 ^ 31 by decide)
  rw [FX11_worth, nI_clamp (show n < 2 ^ 31 by omega), if_neg e1, if_neg e1, hk, if_neg (show ¬ ((29 : Int32) = 20) by decide), if_neg (show ¬ ((29 : Int32) = 21) by decide), if_neg (show ¬ ((29 : Int32) = 22) by decide), if_neg (show ¬ ((29 : Int32) = 23) by decide), if_neg (show ¬ ((29 : Int32) = 24) by decide), if_neg (show ¬ ((29 : Int32) = 25) by decide), if_neg (show ¬ ((29 : Int32) = 26) by decide), if_neg (show ¬ ((29 : Int32) = 27) by decide), if_neg (show ¬ ((29 : Int32) = 28) by decide), if_pos rfl, if_neg e1, hf1, FX11_overAll, show (0 : Int32) = nI 0 from rfl, rAt hm (by omega), b2r]
  have := rSum (L := L) (σ := σ) hm hi i 0 L (by omega) (by omega)
  rw [show suV (tabM σ m) (0 + 1) = tabM σ m 0 by simp [suV], show nI (0 + 1) = 1 from rfl] at this
  rw [this, b2r]
theorem rWorth_30 (hn : n < 1203) (hi : i < 120) (hL : 200 ≤ L) (hk : σ.2.1 9 n = 30) (hm : m < 1203) (hf1 : σ.2.1 10 n = nI m) : FX11_worth L (nI n) (nI i) σ = some ((suV (tabM σ m) (i + 1)), σ) := by
  have e1 := nI_i hn (show 1203 < 2 ^ 31 by decide)
  have e2 := nI_in hi (show 120 < 2 ^ 31 by decide)
  rw [FX11_worth, nI_clamp (show n < 2 ^ 31 by omega), if_neg e1, if_neg e1, hk, if_neg (show ¬ ((30 : Int32) = 20) by decide), if_neg (show ¬ ((30 : Int32) = 21) by decide), if_neg (show ¬ ((30 : Int32) = 22) by decide), if_neg (show ¬ ((30 : Int32) = 23) by decide), if_neg (show ¬ ((30 : Int32) = 24) by decide), if_neg (show ¬ ((30 : Int32) = 25) by decide), if_neg (show ¬ ((30 : Int32) = 26) by decide), if_neg (show ¬ ((30 : Int32) = 27) by decide), if_neg (show ¬ ((30 : Int32) = 28) by decide), if_neg (show ¬ ((30 : Int32) = 29) by decide), if_pos rfl, hf1]
  exact rCount (L := L) hm hi (i + 1) 0 L (by omega) (by omega)
theorem rWorth_31 (hn : n < 1203) (hi : i < 120) (hL : 200 ≤ L) (hk : σ.2.1 9 n = 31) (hm : m < 1203) (hf1 : σ.2.1 10 n = nI m) : FX11_worth L (nI n) (nI i) σ = some ((match laV (tabM σ m) (i + 1) with | none => -1 | some j => (σ.2.1 30 i - σ.2.1 30 j).toInt64), σ) := by
  have e1 := nI_i hn (show 1203 < 2 ^ 31 by decide)
  have e2 := nI_in hi (show 120 < 2 ^ 31 by decide)
  rw [FX11_worth, nI_clamp (show n < 2 ^ 31 by omega), if_neg e1, if_neg e1, hk, if_neg (show ¬ ((31 : Int32) = 20) by decide), if_neg (show ¬ ((31 : Int32) = 21) by decide), if_neg (show ¬ ((31 : Int32) = 22) by decide), if_neg (show ¬ ((31 : Int32) = 23) by decide), if_neg (show ¬ ((31 : Int32) = 24) by decide), if_neg (show ¬ ((31 : Int32) = 25) by decide), if_neg (show ¬ ((31 : Int32) = 26) by decide), if_neg (show ¬ ((31 : Int32) = 27) by decide), if_neg (show ¬ ((31 : Int32) = 28) by decide), if_neg (show ¬ ((31 : Int32) = 29) by decide), if_neg (show ¬ ((31 : Int32) = 30) by decide), if_pos rfl, hf1, rLastHolding hm hi hL, b2r]
  cases h : laV (tabM σ m) (i + 1) with
  | none => rfl
  | some j =>
    have := laV_lt _ h
    rw [if_neg (show ¬ opI (some j) = -1 from nI_n1 (by omega)), if_neg e2, rLastHolding hm hi hL, b2r, h, show opI (some j) = nI j from rfl, if_neg (nI_in (show j < 120 by omega) (by decide)), nI_clamp (show i < 2 ^ 31 by omega), nI_clamp (show j < 2 ^ 31 by omega)]
theorem rWorth_32 (hn : n < 1203) (hi : i < 120) (hL : 200 ≤ L) (hk : σ.2.1 9 n = 32) {m2 : Nat} (hm : m < 1203) (hf1 : σ.2.1 10 n = nI m) (hm2 : m2 < 1203) (hf2 : σ.2.1 11 n = nI m2) : FX11_worth L (nI n) (nI i) σ = some ((match laV (tabM σ m) (i + 1) with | none => 0 | some j => tabM σ m2 j), σ) := by
  have e1 := nI_i hn (show 1203 < 2 ^ 31 by decide)
  have e2 := nI_in hi (show 120 < 2 ^ 31 by decide)
  rw [FX11_worth, nI_clamp (show n < 2 ^ 31 by omega), if_neg e1, if_neg e1, hk, if_neg (show ¬ ((32 : Int32) = 20) by decide), if_neg (show ¬ ((32 : Int32) = 21) by decide), if_neg (show ¬ ((32 : Int32) = 22) by decide), if_neg (show ¬ ((32 : Int32) = 23) by decide), if_neg (show ¬ ((32 : Int32) = 24) by decide), if_neg (show ¬ ((32 : Int32) = 25) by decide), if_neg (show ¬ ((32 : Int32) = 26) by decide), if_neg (show ¬ ((32 : Int32) = 27) by decide), if_neg (show ¬ ((32 : Int32) = 28) by decide), if_neg (show ¬ ((32 : Int32) = 29) by decide), if_neg (show ¬ ((32 : Int32) = 30) by decide), if_neg (show ¬ ((32 : Int32) = 31) by decide), if_pos rfl, hf1, rLastHolding hm hi hL, b2r]
  cases h : laV (tabM σ m) (i + 1) with
  | none => rfl
  | some j =>
    have := laV_lt _ h
    rw [if_neg (show ¬ opI (some j) = -1 from nI_n1 (by omega)), if_neg e1, rLastHolding hm hi hL, b2r, h, show opI (some j) = nI j from rfl, hf2, rAt hm2 (by omega), b2r]
theorem rWorth_33 (hn : n < 1203) (hi : i < 120) (hL : 200 ≤ L) (hk : σ.2.1 9 n = 33) {m2 : Nat} (hm : m < 1203) (hf1 : σ.2.1 10 n = nI m) (hm2 : m2 < 1203) (hf2 : σ.2.1 11 n = nI m2) {m3 : Nat} (hm3 : m3 < 1203) (hf3 : σ.2.1 12 n = nI m3) : FX11_worth L (nI n) (nI i) σ = some ((if nzV (tabM σ m i) then tabM σ m2 i else tabM σ m3 i), σ) := by
  have e1 := nI_i hn (show 1203 < 2 ^ 31 by decide)
  have e2 := nI_in hi (show 120 < 2 ^ 31 by decide)
  rw [FX11_worth, nI_clamp (show n < 2 ^ 31 by omega), if_neg e1, if_neg e1, hk, if_neg (show ¬ ((33 : Int32) = 20) by decide), if_neg (show ¬ ((33 : Int32) = 21) by decide), if_neg (show ¬ ((33 : Int32) = 22) by decide), if_neg (show ¬ ((33 : Int32) = 23) by decide), if_neg (show ¬ ((33 : Int32) = 24) by decide), if_neg (show ¬ ((33 : Int32) = 25) by decide), if_neg (show ¬ ((33 : Int32) = 26) by decide), if_neg (show ¬ ((33 : Int32) = 27) by decide), if_neg (show ¬ ((33 : Int32) = 28) by decide), if_neg (show ¬ ((33 : Int32) = 29) by decide), if_neg (show ¬ ((33 : Int32) = 30) by decide), if_neg (show ¬ ((33 : Int32) = 31) by decide), if_neg (show ¬ ((33 : Int32) = 32) by decide), if_pos rfl, hf1, rHolds hm hi, b2r, ibI, if_neg e1, if_neg e1, hf2, hf3, rAt hm2 hi, rAt hm3 hi, b2r, b2r]
  cases nzV (tabM σ m i) <;> rfl
theorem rWorth_34 (hn : n < 1203) (hi : i < 120) (hL : 200 ≤ L) (hk : σ.2.1 9 n = 34) {m2 : Nat} (hm : m < 1203) (hf1 : σ.2.1 10 n = nI m) (hm2 : m2 < 1203) (hf2 : σ.2.1 11 n = nI m2) (ht : σ.2.1 12 n = 0 ∨ σ.2.1 12 n = 1 ∨ σ.2.1 12 n = 2 ∨ σ.2.1 12 n = 3 ∨ σ.2.1 12 n = 4) : FX11_worth L (nI n) (nI i) σ = some ((binV (σ.2.1 12 n) (tabM σ m i) (tabM σ m2 i)), σ) := by
  have e1 := nI_i hn (show 1203 < 2 ^ 31 by decide)
  have e2 := nI_in hi (show 120 < 2 ^ 31 by decide)
  rw [FX11_worth, nI_clamp (show n < 2 ^ 31 by omega), if_neg e1, if_neg e1, hk, if_neg (show ¬ ((34 : Int32) = 20) by decide), if_neg (show ¬ ((34 : Int32) = 21) by decide), if_neg (show ¬ ((34 : Int32) = 22) by decide), if_neg (show ¬ ((34 : Int32) = 23) by decide), if_neg (show ¬ ((34 : Int32) = 24) by decide), if_neg (show ¬ ((34 : Int32) = 25) by decide), if_neg (show ¬ ((34 : Int32) = 26) by decide), if_neg (show ¬ ((34 : Int32) = 27) by decide), if_neg (show ¬ ((34 : Int32) = 28) by decide), if_neg (show ¬ ((34 : Int32) = 29) by decide), if_neg (show ¬ ((34 : Int32) = 30) by decide), if_neg (show ¬ ((34 : Int32) = 31) by decide), if_neg (show ¬ ((34 : Int32) = 32) by decide), if_neg (show ¬ ((34 : Int32) = 33) by decide), if_neg e1, hf1, rAt hm hi, b2r, if_neg e1, hf2, rAt hm2 hi, b2r, rBoth ht]
  rfl
theorem rWorth {V : Nat → Prop} (hT : okN V (ntM σ n) n) (hb : (ntM σ n).1 = 34 → σ.2.1 12 n = 0 ∨ σ.2.1 12 n = 1 ∨ σ.2.1 12 n = 2 ∨ σ.2.1 12 n = 3 ∨ σ.2.1 12 n = 4) (hV : ∀ m, V m → m < 1203) (hn : V n) (hi : i < 120) (hL : 200 ≤ L) (hk20 : (20 : Int32) ≤ σ.2.1 9 n) : FX11_worth L (nI n) (nI i) σ = some (opV (ntM σ n).1 (ntM σ n).2.1 (ntM σ n).2.2.2.2.1 (ntM σ n).2.2.2.2.2 (ntM σ n).2.2.2.1 (hsM σ) (tabM σ (ntM σ n).2.1.toNatClampNeg) (tabM σ (ntM σ n).2.2.1.toNatClampNeg) (tabM σ (ntM σ n).2.2.2.1.toNatClampNeg) i, σ) := by
  obtain ⟨h0, h1, h2, h3, h4⟩ := hT
  have hn := hV n hn
  simp only [ntM, hsM] at h0 h1 h2 h3 h4 hb ⊢
  generalize hk : σ.2.1 9 n = kd at h0 h1 h2 h3 h4 hb hk20 ⊢
  simp only [isK, Bool.or_eq_true, decide_eq_true_eq] at h0
  rcases h0 with (((((((((((((((((((((((((((h0|h0)|h0)|h0)|h0)|h0)|h0)|h0)|h0)|h0)|h0)|h0)|h0)|h0)|rfl)|rfl)|rfl)|rfl)|rfl)|rfl)|rfl)|rfl)|rfl)|rfl)|rfl)|rfl)|rfl)|rfl)|rfl
  · subst h0; exact absurd hk20 (by decide)
  · subst h0; exact absurd hk20 (by decide)
  · subst h0; exact absurd hk20 (by decide)
  · subst h0; exact absurd hk20 (by decide)
  · subst h0; exact absurd hk20 (by decide)
  · subst h0; exact absurd hk20 (by decide)
  · subst h0; exact absurd hk20 (by decide)
  · subst h0; exact absurd hk20 (by decide)
  · subst h0; exact absurd hk20 (by decide)
  · subst h0; exact absurd hk20 (by decide)
  · subst h0; exact absurd hk20 (by decide)
  · subst h0; exact absurd hk20 (by decide)
  · subst h0; exact absurd hk20 (by decide)
  · subst h0; exact absurd hk20 (by decide)
  · rw [rWorth_20 hn hi hL hk]; simp [opV]
  · obtain ⟨m, hm, e⟩ := h4 rfl; rw [rWorth_21 hn hi hL hk hm e, e]; simp [opV, nI_clamp (show m < 2 ^ 31 by omega)]
  · obtain ⟨m, hv, hm, e⟩ := h1 (by decide); rw [rWorth_22 hn hi hL hk (hV m hv) e, e, nI_clamp (show m < 2 ^ 31 by have := hV m hv; omega)]; simp [opV]
  · rw [rWorth_23 hn hi hL hk]; simp [opV]
  · rw [rWorth_24 hn hi hL hk]; simp [opV]
  · obtain ⟨m, hv, hm, e⟩ := h1 (by decide); rw [rWorth_25 hn hi hL hk (hV m hv) e, e, nI_clamp (show m < 2 ^ 31 by have := hV m hv; omega)]; simp [opV]
  · obtain ⟨m, hv, hm, e⟩ := h1 (by decide); rw [rWorth_26 hn hi hL hk (hV m hv) e, e, nI_clamp (show m < 2 ^ 31 by have := hV m hv; omega)]; simp [opV]
  · obtain ⟨m, hv, hm, e⟩ := h1 (by decide); rw [rWorth_27 hn hi hL hk (hV m hv) e, e, nI_clamp (show m < 2 ^ 31 by have := hV m hv; omega)]; simp [opV]
  · obtain ⟨m, hv, hm, e⟩ := h1 (by decide); rw [rWorth_28 hn hi hL hk (hV m hv) e, e, nI_clamp (show m < 2 ^ 31 by have := hV m hv; omega)]; simp [opV]
  · obtain ⟨m, hv, hm, e⟩ := h1 (by decide); rw [rWorth_29 hn hi hL hk (hV m hv) e, e, nI_clamp (show m < 2 ^ 31 by have := hV m hv; omega)]; simp [opV]
  · obtain ⟨m, hv, hm, e⟩ := h1 (by decide); rw [rWorth_30 hn hi hL hk (hV m hv) e, e, nI_clamp (show m < 2 ^ 31 by have := hV m hv; omega)]; simp [opV]
  · obtain ⟨m, hv, hm, e⟩ := h1 (by decide); rw [rWorth_31 hn hi hL hk (hV m hv) e, e, nI_clamp (show m < 2 ^ 31 by have := hV m hv; omega)]; simp [opV]; cases laV (tabM σ m) (i + 1) <;> rfl
  · obtain ⟨m, hv, hm, e⟩ := h1 (by decide); obtain ⟨m2, hv2, hm2, e2⟩ := h2 (by decide); rw [rWorth_32 hn hi hL hk (hV m hv) e (hV m2 hv2) e2, e, e2, nI_clamp (show m < 2 ^ 31 by have := hV m hv; omega), nI_clamp (show m2 < 2 ^ 31 by have := hV m2 hv2; omega)]; simp [opV]; cases laV (tabM σ m) (i + 1) <;> rfl
  · obtain ⟨m, hv, hm, e⟩ := h1 (by decide); obtain ⟨m2, hv2, hm2, e2⟩ := h2 (by decide); obtain ⟨m3, hv3, hm3, e3⟩ := h3 (by decide); rw [rWorth_33 hn hi hL hk (hV m hv) e (hV m2 hv2) e2 (hV m3 hv3) e3, e, e2, e3, nI_clamp (show m < 2 ^ 31 by have := hV m hv; omega), nI_clamp (show m2 < 2 ^ 31 by have := hV m2 hv2; omega), nI_clamp (show m3 < 2 ^ 31 by have := hV m3 hv3; omega)]; simp [opV]
  · obtain ⟨m, hv, hm, e⟩ := h1 (by decide); obtain ⟨m2, hv2, hm2, e2⟩ := h2 (by decide); rw [rWorth_34 hn hi hL hk (hV m hv) e (hV m2 hv2) e2 (hb rfl), e, e2, nI_clamp (show m < 2 ^ 31 by have := hV m hv; omega), nI_clamp (show m2 < 2 ^ 31 by have := hV m2 hv2; omega)]; simp [opV]
/-- the third number of a two-sided part -/
def okB (r : NR) : Prop := r.1 = 34 → r.2.2.2.1 = 0 ∨ r.2.2.2.1 = 1 ∨ r.2.2.2.1 = 2 ∨ r.2.2.2.1 = 3 ∨ r.2.2.2.1 = 4
/-- one part at one step -/
theorem rNode {V : Nat → Prop} (hT : okT V (ntM σ)) (hb : okB (ntM σ n)) (hV : ∀ m, V m → m < 1203) (hn : V n) (hi : i < 120) (hL : 200 ≤ L) (hP : ∀ m, V m → m < n → ∀ j, j ≤ i → tabM σ m j = vaN (ntM σ) (hsM σ) m j) : (¬ (20 : Int32) ≤ σ.2.1 9 n ∧ ∃ b : Bool, FX11_isTrue L (nI n) (nI i) σ = some (bI b, σ) ∧ vaN (ntM σ) (hsM σ) n i = b2l b) ∨ ((20 : Int32) ≤ σ.2.1 9 n ∧ FX11_worth L (nI n) (nI i) σ = some (vaN (ntM σ) (hsM σ) n i, σ)) := by
  have hk := (hT n hn).2
  have e : vaN (ntM σ) (hsM σ) n i = opV (ntM σ n).1 (ntM σ n).2.1 (ntM σ n).2.2.2.2.1 (ntM σ n).2.2.2.2.2 (ntM σ n).2.2.2.1 (hsM σ) (tabM σ (ntM σ n).2.1.toNatClampNeg) (tabM σ (ntM σ n).2.2.1.toNatClampNeg) (tabM σ (ntM σ n).2.2.2.1.toNatClampNeg) i := by
    rw [vaN_eq hT hn]
    obtain ⟨h0, h1, h2, h3, -⟩ := hk
    refine opV_congr h0 hC.refl (fun u j hj => ?_) (fun u j hj => ?_) (fun u j hj => ?_)
    · obtain ⟨m, hv, hm, e⟩ := h1 u
      rw [e, nI_clamp (by have := hV m hv; omega)]; exact (hP m hv hm j hj).symm
    · obtain ⟨m, hv, hm, e⟩ := h2 u
      rw [e, nI_clamp (by have := hV m hv; omega)]; exact (hP m hv hm j hj).symm
    · obtain ⟨m, hv, hm, e⟩ := h3 u
      rw [e, nI_clamp (by have := hV m hv; omega)]; exact (hP m hv hm j hj).symm
  by_cases k : (20 : Int32) ≤ σ.2.1 9 n
  · right
    refine ⟨k, ?_⟩
    rw [e]
    exact rWorth hk hb hV hn hi hL k
  · left
    obtain ⟨b, h1, h2⟩ := rTrue hk hV hn hi hL k
    exact ⟨k, b, h1, by rw [e]; exact h2⟩
theorem ntM_sB {f : Nat → Int64} {k : Nat} : ntM (sB σ k f) = ntM σ := rfl
theorem hsM_sB {f : Nat → Int64} : hsM (sB σ 16 f) = hsM σ := rfl
theorem tab_up {f : Nat → Int64} {m j n i : Nat} {x : Int64} (hj : j < 120) (hi : i < 120) : vp_updL f (120 * n + i) x (120 * m + j) = if m = n ∧ j = i then x else f (120 * m + j) := by
  unfold vp_updL
  by_cases h : m = n ∧ j = i
  · rw [if_pos h, if_pos (by rw [h.1, h.2])]
  · rw [if_neg h, if_neg (fun e => h (by omega))]
/-- the parts from one on, at a step -/
theorem rReckon {V : Nat → Prop} {N from' : Nat} (hN : N ≤ 1203) (hV : ∀ m, V m → m < N) (hVf : ∀ m, from' ≤ m → m < N → V m) (hi : i < 120) (hL : 1300 ≤ L) : ∀ (d n fuel : Nat) (σ : MS), okT V (ntM σ) → (∀ m, V m → okB (ntM σ m)) → from' ≤ n → n + d = N → d < fuel → (∀ m, V m → m < n → ∀ j, j ≤ i → tabM σ m j = vaN (ntM σ) (hsM σ) m j) → (∀ m, V m → ∀ j, j < i → tabM σ m j = vaN (ntM σ) (hsM σ) m j) → ∃ f : Nat → Int64, FX11_reckon_3 L fuel (nI N) (nI i) (nI n) σ = some ((), sB σ 16 f) ∧ (∀ m, V m → ∀ j, j ≤ i → tabM (sB σ 16 f) m j = vaN (ntM σ) (hsM σ) m j) ∧ (∀ m j, j < 120 → (m < n ∨ N ≤ m ∨ j ≠ i) → f (120 * m + j) = σ.2.2 16 (120 * m + j)) := by
  intro d
  induction d with
  | zero =>
    intro n fuel σ hT hb hf hd hfu hP hQ
    obtain ⟨q, rfl⟩ : ∃ z, fuel = z + 1 := ⟨fuel - 1, by omega⟩
    refine ⟨σ.2.2 16, ?_, fun m hv j hj => ?_, fun m j _ _ => rfl⟩
    · rw [FX11_reckon_3, if_pos (nI_le (show N ≤ n by omega) (by omega))]
      have : sB σ 16 (σ.2.2 16) = σ := by
        show ((σ.1, σ.2.1, va_up σ.2.2 16 (σ.2.2 16)) : MS) = σ
        have : va_up σ.2.2 16 (σ.2.2 16) = σ.2.2 := by
          funext j; unfold va_up; by_cases h : j = 16
          · rw [if_pos h, h]
          · rw [if_neg h]
        rw [this]
      rw [this]
    · have : tabM (sB σ 16 (σ.2.2 16)) m j = tabM σ m j := by simp [tabM, va_up]
      rw [this]; exact hP m hv (by have := hV m hv; omega) j hj
  | succ d ih =>
    intro n fuel σ hT hb hf hd hfu hP hQ
    obtain ⟨q, rfl⟩ : ∃ z, fuel = z + 1 := ⟨fuel - 1, by omega⟩
    have hn : V n := hVf n hf (by omega)
    have hV3 : ∀ m, V m → m < 1203 := fun m hm => by have := hV m hm; omega
    have e1 := nI_in (show n < 1203 by omega) (show 1203 < 2 ^ 31 by decide)
    obtain ⟨ea, eb, ec⟩ := ix_at (show n < 1203 by omega) hi
    have key : ∀ x : Int64, x = vaN (ntM σ) (hsM σ) n i → ∃ f : Nat → Int64, FX11_reckon_3 L q (nI N) (nI i) (nI n + 1) (sB σ 16 (vp_updL (σ.2.2 16) (120 * n + i) x)) = some ((), sB σ 16 f) ∧ (∀ m, V m → ∀ j, j ≤ i → tabM (sB σ 16 f) m j = vaN (ntM σ) (hsM σ) m j) ∧ (∀ m j, j < 120 → (m < n ∨ N ≤ m ∨ j ≠ i) → f (120 * m + j) = σ.2.2 16 (120 * m + j)) := by
      intro x hx
      have tb : ∀ m j, j < 120 → tabM (sB σ 16 (vp_updL (σ.2.2 16) (120 * n + i) x)) m j = if m = n ∧ j = i then x else tabM σ m j := fun m j hj => by
        rw [show tabM (sB σ 16 (vp_updL (σ.2.2 16) (120 * n + i) x)) m j = vp_updL (σ.2.2 16) (120 * n + i) x (120 * m + j) from congrFun sB_row _, tab_up hj hi]; rfl
      obtain ⟨f, h1, h2, h3⟩ := ih (n + 1) q (sB σ 16 (vp_updL (σ.2.2 16) (120 * n + i) x)) hT hb (by omega) (by omega) (by omega) (fun m hv hm j hj => by
          rw [tb m j (by omega)]
          by_cases h : m = n ∧ j = i
          · rw [if_pos h, hx, h.1, h.2]; rfl
          · rw [if_neg h]
            by_cases hmn : m = n
            · rw [hmn]; exact hQ n hn j (by omega)
            · exact hP m hv (by omega) j hj) (fun m hv j hj => by
          rw [tb m j (by omega), if_neg (by omega)]; exact hQ m hv j hj)
      refine ⟨f, ?_, fun m hv j hj => ?_, fun m j hj hh => ?_⟩
      · rw [nI_succ] at h1
        rw [h1, sB_sB]
      · rw [sB_sB] at h2; exact h2 m hv j hj
      · rw [h3 m j hj (by omega)]
        rw [show (sB σ 16 (vp_updL (σ.2.2 16) (120 * n + i) x)).2.2 16 (120 * m + j) = vp_updL (σ.2.2 16) (120 * n + i) x (120 * m + j) from congrFun sB_row _, tab_up hj hi, if_neg (by omega)]
    rw [FX11_reckon_3, if_neg (fun h => by rw [nI_leI (by omega) (by omega)] at h; omega), if_neg e1, nI_clamp (show n < 2 ^ 31 by omega)]
    rcases rNode (L := L) hT (hb n hn) hV3 hn hi (by omega) (fun m hv hm j hj => hP m hv hm j hj) with ⟨hk, b, h1, h2⟩ | ⟨hk, h1⟩
    · obtain ⟨f, g1, g2, g3⟩ := key (b2l b) h2.symm
      refine ⟨f, ?_, g2, g3⟩
      rw [if_neg hk, h1, b2r, show FX11_truth (bI b) = some (b2l b) by cases b <;> rfl]
      show (if _ then _ else _) = _
      rw [ea, if_neg eb, ec]
      exact g1
    · obtain ⟨f, g1, g2, g3⟩ := key _ rfl
      refine ⟨f, ?_, g2, g3⟩
      rw [if_pos hk, h1, b2r, ea, if_neg eb, ec]
      exact g1
end RS
