section TG
variable {σ : MS} {L len k : Nat} {kw : Nat → Int64} {bt : Nat → Int32}
def wF (f : Nat → Bool) : Nat → Int32
  | 0 => -1
  | i+1 => if f i then nI i else wF f i
theorem wF_none {f : Nat → Bool} : ∀ n, (∀ i, i < n → f i = false) → wF f n = -1
  | 0, _ => rfl
  | n+1, h => by rw [wF, h n (by omega), wF_none n (fun i hi => h i (by omega))]; rfl
theorem rWhich {t : Nat} {f : Nat → Bool} (ht : (sTab t).length < 100) (hf : ∀ i, i < (sTab t).length → FX11_is L (nI k) ((sTab t).getD i 0) σ = some (bI (f i), σ)) (hL : 1000 ≤ L) : FX11_which L (nI k) t σ = some (wF f (sTab t).length, σ) := by
  have : ∀ (d i fuel : Nat), i + d = (sTab t).length → d < fuel → FX11_which_5 L t fuel (nI k) (wF f i) (nI i) σ = some (wF f (sTab t).length, σ) := by
    intro d
    induction d with
    | zero =>
      intro i fuel hi hfu
      obtain ⟨q, rfl⟩ : ∃ z, fuel = z + 1 := ⟨fuel - 1, by omega⟩
      rw [FX11_which_5, show sTabLen t = nI (sTab t).length from rfl, if_pos (nI_le (by omega) (by omega)), show i = (sTab t).length by omega]
    | succ d ih =>
      intro i fuel hi hfu
      obtain ⟨q, rfl⟩ : ∃ z, fuel = z + 1 := ⟨fuel - 1, by omega⟩
      have ih := ih (i + 1) q (by omega) (by omega)
      rw [FX11_which_5, show sTabLen t = nI (sTab t).length from rfl, if_neg (fun e => by rw [nI_leI (by omega) (by omega)] at e; omega), if_neg (nI_in (show i < (sTab t).length by omega) (by omega)), nI_clamp (by omega), hf i (by omega), b2r, ibI, ← nI_succ]
      rw [wF] at ih
      cases c : f i with
      | true => rw [c] at ih; rw [if_pos rfl]; exact ih
      | false => rw [c] at ih; rw [if_neg (by decide)]; exact ih
  rw [FX11_which]
  exact this (sTab t).length 0 L (by omega) (by omega)
def cs0 : List Int32 := [0, 1, 2, 3, 4, 5, 6, 7, 8, 9, 10, 11, 12, 13, 14, 15, 16, 17, 18, 19, 20, 21, 22, 23, 24, 25, 26, 27, 28, 29]
theorem rWh_0 (hkw : kwOK kw) (hok : okBt bt len) (hT : TKR bt len (tkS kw bt len) σ) (hk : Rk (tkS kw bt len) k) (hL : 1000 ≤ L) : FX11_which L (nI k) 0 σ = some (wF (fun i => decide (tkS kw bt len k = cs0.getD i 99)) 30, σ) := by
  refine rWhich (t := 0) (by decide) (fun i hi => ?_) hL
  have hi : i < 30 := hi
  match i, hi with
  | 0, _ => exact rIs_1 hkw hok hT hk hL
  | 1, _ => exact rIs_5 hkw hok hT hk hL
  | 2, _ => exact rIs_7 hkw hok hT hk hL
  | 3, _ => exact rIs_8 hkw hok hT hk hL
  | 4, _ => exact rIs_10 hkw hok hT hk hL
  | 5, _ => exact rIs_37 hkw hok hT hk hL
  | 6, _ => exact rIs_38 hkw hok hT hk hL
  | 7, _ => exact rIs_39 hkw hok hT hk hL
  | 8, _ => exact rIs_40 hkw hok hT hk hL
  | 9, _ => exact rIs_41 hkw hok hT hk hL
  | 10, _ => exact rIs_42 hkw hok hT hk hL
  | 11, _ => exact rIs_14 hkw hok hT hk hL
  | 12, _ => exact rIs_13 hkw hok hT hk hL
  | 13, _ => exact rIs_11 hkw hok hT hk hL
  | 14, _ => exact rIs_12 hkw hok hT hk hL
  | 15, _ => exact rIs_22 hkw hok hT hk hL
  | 16, _ => exact rIs_20 hkw hok hT hk hL
  | 17, _ => exact rIs_21 hkw hok hT hk hL
  | 18, _ => exact rIs_34 hkw hok hT hk hL
  | 19, _ => exact rIs_35 hkw hok hT hk hL
  | 20, _ => exact rIs_36 hkw hok hT hk hL
  | 21, _ => exact rIs_43 hkw hok hT hk hL
  | 22, _ => exact rIs_44 hkw hok hT hk hL
  | 23, _ => exact rIs_45 hkw hok hT hk hL
  | 24, _ => exact rIs_46 hkw hok hT hk hL
  | 25, _ => exact rIs_31 hkw hok hT hk hL
  | 26, _ => exact rIs_33 hkw hok hT hk hL
  | 27, _ => exact rIs_32 hkw hok hT hk hL
  | 28, _ => exact rIs_27 hkw hok hT hk hL
  | 29, _ => exact rIs_28 hkw hok hT hk hL
  | i + 30, hi => exact absurd hi (by omega)
theorem wh0_0 {s : Int32} (h : s = 0) : wF (fun i => decide (s = cs0.getD i 99)) 30 = 0 := by subst h; decide
theorem wh0_1 {s : Int32} (h : s = 1) : wF (fun i => decide (s = cs0.getD i 99)) 30 = 1 := by subst h; decide
theorem wh0_2 {s : Int32} (h : s = 2) : wF (fun i => decide (s = cs0.getD i 99)) 30 = 2 := by subst h; decide
theorem wh0_3 {s : Int32} (h : s = 3) : wF (fun i => decide (s = cs0.getD i 99)) 30 = 3 := by subst h; decide
theorem wh0_4 {s : Int32} (h : s = 4) : wF (fun i => decide (s = cs0.getD i 99)) 30 = 4 := by subst h; decide
theorem wh0_5 {s : Int32} (h : s = 5) : wF (fun i => decide (s = cs0.getD i 99)) 30 = 5 := by subst h; decide
theorem wh0_6 {s : Int32} (h : s = 6) : wF (fun i => decide (s = cs0.getD i 99)) 30 = 6 := by subst h; decide
theorem wh0_7 {s : Int32} (h : s = 7) : wF (fun i => decide (s = cs0.getD i 99)) 30 = 7 := by subst h; decide
theorem wh0_8 {s : Int32} (h : s = 8) : wF (fun i => decide (s = cs0.getD i 99)) 30 = 8 := by subst h; decide
theorem wh0_9 {s : Int32} (h : s = 9) : wF (fun i => decide (s = cs0.getD i 99)) 30 = 9 := by subst h; decide
theorem wh0_10 {s : Int32} (h : s = 10) : wF (fun i => decide (s = cs0.getD i 99)) 30 = 10 := by subst h; decide
theorem wh0_11 {s : Int32} (h : s = 11) : wF (fun i => decide (s = cs0.getD i 99)) 30 = 11 := by subst h; decide
theorem wh0_12 {s : Int32} (h : s = 12) : wF (fun i => decide (s = cs0.getD i 99)) 30 = 12 := by subst h; decide
theorem wh0_13 {s : Int32} (h : s = 13) : wF (fun i => decide (s = cs0.getD i 99)) 30 = 13 := by subst h; decide
theorem wh0_14 {s : Int32} (h : s = 14) : wF (fun i => decide (s = cs0.getD i 99)) 30 = 14 := by subst h; decide
theorem wh0_15 {s : Int32} (h : s = 15) : wF (fun i => decide (s = cs0.getD i 99)) 30 = 15 := by subst h; decide
theorem wh0_16 {s : Int32} (h : s = 16) : wF (fun i => decide (s = cs0.getD i 99)) 30 = 16 := by subst h; decide
theorem wh0_17 {s : Int32} (h : s = 17) : wF (fun i => decide (s = cs0.getD i 99)) 30 = 17 := by subst h; decide
theorem wh0_18 {s : Int32} (h : s = 18) : wF (fun i => decide (s = cs0.getD i 99)) 30 = 18 := by subst h; decide
theorem wh0_19 {s : Int32} (h : s = 19) : wF (fun i => decide (s = cs0.getD i 99)) 30 = 19 := by subst h; decide
theorem wh0_20 {s : Int32} (h : s = 20) : wF (fun i => decide (s = cs0.getD i 99)) 30 = 20 := by subst h; decide
theorem wh0_21 {s : Int32} (h : s = 21) : wF (fun i => decide (s = cs0.getD i 99)) 30 = 21 := by subst h; decide
theorem wh0_22 {s : Int32} (h : s = 22) : wF (fun i => decide (s = cs0.getD i 99)) 30 = 22 := by subst h; decide
theorem wh0_23 {s : Int32} (h : s = 23) : wF (fun i => decide (s = cs0.getD i 99)) 30 = 23 := by subst h; decide
theorem wh0_24 {s : Int32} (h : s = 24) : wF (fun i => decide (s = cs0.getD i 99)) 30 = 24 := by subst h; decide
theorem wh0_25 {s : Int32} (h : s = 25) : wF (fun i => decide (s = cs0.getD i 99)) 30 = 25 := by subst h; decide
theorem wh0_26 {s : Int32} (h : s = 26) : wF (fun i => decide (s = cs0.getD i 99)) 30 = 26 := by subst h; decide
theorem wh0_27 {s : Int32} (h : s = 27) : wF (fun i => decide (s = cs0.getD i 99)) 30 = 27 := by subst h; decide
theorem wh0_28 {s : Int32} (h : s = 28) : wF (fun i => decide (s = cs0.getD i 99)) 30 = 28 := by subst h; decide
theorem wh0_29 {s : Int32} (h : s = 29) : wF (fun i => decide (s = cs0.getD i 99)) 30 = 29 := by subst h; decide
theorem wh0_n {s : Int32} (h : s ≠ 0 ∧ s ≠ 1 ∧ s ≠ 2 ∧ s ≠ 3 ∧ s ≠ 4 ∧ s ≠ 5 ∧ s ≠ 6 ∧ s ≠ 7 ∧ s ≠ 8 ∧ s ≠ 9 ∧ s ≠ 10 ∧ s ≠ 11 ∧ s ≠ 12 ∧ s ≠ 13 ∧ s ≠ 14 ∧ s ≠ 15 ∧ s ≠ 16 ∧ s ≠ 17 ∧ s ≠ 18 ∧ s ≠ 19 ∧ s ≠ 20 ∧ s ≠ 21 ∧ s ≠ 22 ∧ s ≠ 23 ∧ s ≠ 24 ∧ s ≠ 25 ∧ s ≠ 26 ∧ s ≠ 27 ∧ s ≠ 28 ∧ s ≠ 29) : wF (fun i => decide (s = cs0.getD i 99)) 30 = -1 := by
  refine wF_none _ (fun i hi => decide_eq_false ?_)
  match i, hi with
  | 0, _ => exact h.1
  | 1, _ => exact h.2.1
  | 2, _ => exact h.2.2.1
  | 3, _ => exact h.2.2.2.1
  | 4, _ => exact h.2.2.2.2.1
  | 5, _ => exact h.2.2.2.2.2.1
  | 6, _ => exact h.2.2.2.2.2.2.1
  | 7, _ => exact h.2.2.2.2.2.2.2.1
  | 8, _ => exact h.2.2.2.2.2.2.2.2.1
  | 9, _ => exact h.2.2.2.2.2.2.2.2.2.1
  | 10, _ => exact h.2.2.2.2.2.2.2.2.2.2.1
  | 11, _ => exact h.2.2.2.2.2.2.2.2.2.2.2.1
  | 12, _ => exact h.2.2.2.2.2.2.2.2.2.2.2.2.1
  | 13, _ => exact h.2.2.2.2.2.2.2.2.2.2.2.2.2.1
  | 14, _ => exact h.2.2.2.2.2.2.2.2.2.2.2.2.2.2.1
  | 15, _ => exact h.2.2.2.2.2.2.2.2.2.2.2.2.2.2.2.1
  | 16, _ => exact h.2.2.2.2.2.2.2.2.2.2.2.2.2.2.2.2.1
  | 17, _ => exact h.2.2.2.2.2.2.2.2.2.2.2.2.2.2.2.2.2.1
  | 18, _ => exact h.2.2.2.2.2.2.2.2.2.2.2.2.2.2.2.2.2.2.1
  | 19, _ => exact h.2.2.2.2.2.2.2.2.2.2.2.2.2.2.2.2.2.2.2.1
  | 20, _ => exact h.2.2.2.2.2.2.2.2.2.2.2.2.2.2.2.2.2.2.2.2.1
  | 21, _ => exact h.2.2.2.2.2.2.2.2.2.2.2.2.2.2.2.2.2.2.2.2.2.1
  | 22, _ => exact h.2.2.2.2.2.2.2.2.2.2.2.2.2.2.2.2.2.2.2.2.2.2.1
  | 23, _ => exact h.2.2.2.2.2.2.2.2.2.2.2.2.2.2.2.2.2.2.2.2.2.2.2.1
  | 24, _ => exact h.2.2.2.2.2.2.2.2.2.2.2.2.2.2.2.2.2.2.2.2.2.2.2.2.1
  | 25, _ => exact h.2.2.2.2.2.2.2.2.2.2.2.2.2.2.2.2.2.2.2.2.2.2.2.2.2.1
  | 26, _ => exact h.2.2.2.2.2.2.2.2.2.2.2.2.2.2.2.2.2.2.2.2.2.2.2.2.2.2.1
  | 27, _ => exact h.2.2.2.2.2.2.2.2.2.2.2.2.2.2.2.2.2.2.2.2.2.2.2.2.2.2.2.1
  | 28, _ => exact h.2.2.2.2.2.2.2.2.2.2.2.2.2.2.2.2.2.2.2.2.2.2.2.2.2.2.2.2.1
  | 29, _ => exact h.2.2.2.2.2.2.2.2.2.2.2.2.2.2.2.2.2.2.2.2.2.2.2.2.2.2.2.2.2
  | i + 30, hi => exact absurd hi (by omega)
def cs1 : List Int32 := [44, 45, 46, 47, 48, 49]
theorem rWh_1 (hkw : kwOK kw) (hok : okBt bt len) (hT : TKR bt len (tkS kw bt len) σ) (hk : Rk (tkS kw bt len) k) (hL : 1000 ≤ L) : FX11_which L (nI k) 1 σ = some (wF (fun i => decide (tkS kw bt len k = cs1.getD i 99)) 6, σ) := by
  refine rWhich (t := 1) (by decide) (fun i hi => ?_) hL
  have hi : i < 6 := hi
  match i, hi with
  | 0, _ => exact rIs_2 hok hT hk hL
  | 1, _ => exact rIs_47 hok hT hk hL
  | 2, _ => exact rIs_48 hok hT hk hL
  | 3, _ => exact rIs_49 hok hT hk hL
  | 4, _ => exact rIs_50 hok hT hk hL
  | 5, _ => exact rIs_51 hok hT hk hL
  | i + 6, hi => exact absurd hi (by omega)
theorem wh1_44 {s : Int32} (h : s = 44) : wF (fun i => decide (s = cs1.getD i 99)) 6 = 0 := by subst h; decide
theorem wh1_45 {s : Int32} (h : s = 45) : wF (fun i => decide (s = cs1.getD i 99)) 6 = 1 := by subst h; decide
theorem wh1_46 {s : Int32} (h : s = 46) : wF (fun i => decide (s = cs1.getD i 99)) 6 = 2 := by subst h; decide
theorem wh1_47 {s : Int32} (h : s = 47) : wF (fun i => decide (s = cs1.getD i 99)) 6 = 3 := by subst h; decide
theorem wh1_48 {s : Int32} (h : s = 48) : wF (fun i => decide (s = cs1.getD i 99)) 6 = 4 := by subst h; decide
theorem wh1_49 {s : Int32} (h : s = 49) : wF (fun i => decide (s = cs1.getD i 99)) 6 = 5 := by subst h; decide
theorem wh1_n {s : Int32} (h : s ≠ 44 ∧ s ≠ 45 ∧ s ≠ 46 ∧ s ≠ 47 ∧ s ≠ 48 ∧ s ≠ 49) : wF (fun i => decide (s = cs1.getD i 99)) 6 = -1 := by
  refine wF_none _ (fun i hi => decide_eq_false ?_)
  match i, hi with
  | 0, _ => exact h.1
  | 1, _ => exact h.2.1
  | 2, _ => exact h.2.2.1
  | 3, _ => exact h.2.2.2.1
  | 4, _ => exact h.2.2.2.2.1
  | 5, _ => exact h.2.2.2.2.2
  | i + 6, hi => exact absurd hi (by omega)
def cs2 : List Int32 := [39, 40, 41, 42, 43]
theorem rWh_2 (hkw : kwOK kw) (hok : okBt bt len) (hT : TKR bt len (tkS kw bt len) σ) (hk : Rk (tkS kw bt len) k) (hL : 1000 ≤ L) : FX11_which L (nI k) 2 σ = some (wF (fun i => decide (tkS kw bt len k = cs2.getD i 99)) 5, σ) := by
  refine rWhich (t := 2) (by decide) (fun i hi => ?_) hL
  have hi : i < 5 := hi
  match i, hi with
  | 0, _ => exact rIs_23 hok hT hk hL
  | 1, _ => exact rIs_3 hok hT hk hL
  | 2, _ => exact rIs_24 hok hT hk hL
  | 3, _ => exact rIs_25 hok hT hk hL
  | 4, _ => exact rIs_26 hok hT hk hL
  | i + 5, hi => exact absurd hi (by omega)
theorem wh2_39 {s : Int32} (h : s = 39) : wF (fun i => decide (s = cs2.getD i 99)) 5 = 0 := by subst h; decide
theorem wh2_40 {s : Int32} (h : s = 40) : wF (fun i => decide (s = cs2.getD i 99)) 5 = 1 := by subst h; decide
theorem wh2_41 {s : Int32} (h : s = 41) : wF (fun i => decide (s = cs2.getD i 99)) 5 = 2 := by subst h; decide
theorem wh2_42 {s : Int32} (h : s = 42) : wF (fun i => decide (s = cs2.getD i 99)) 5 = 3 := by subst h; decide
theorem wh2_43 {s : Int32} (h : s = 43) : wF (fun i => decide (s = cs2.getD i 99)) 5 = 4 := by subst h; decide
theorem wh2_n {s : Int32} (h : s ≠ 39 ∧ s ≠ 40 ∧ s ≠ 41 ∧ s ≠ 42 ∧ s ≠ 43) : wF (fun i => decide (s = cs2.getD i 99)) 5 = -1 := by
  refine wF_none _ (fun i hi => decide_eq_false ?_)
  match i, hi with
  | 0, _ => exact h.1
  | 1, _ => exact h.2.1
  | 2, _ => exact h.2.2.1
  | 3, _ => exact h.2.2.2.1
  | 4, _ => exact h.2.2.2.2
  | i + 5, hi => exact absurd hi (by omega)
def cs3 : List Int32 := [5, 6, 7, 8, 9, 10]
theorem rWh_3 (hkw : kwOK kw) (hok : okBt bt len) (hT : TKR bt len (tkS kw bt len) σ) (hk : Rk (tkS kw bt len) k) (hL : 1000 ≤ L) : FX11_which L (nI k) 3 σ = some (wF (fun i => decide (tkS kw bt len k = cs3.getD i 99)) 6, σ) := by
  refine rWhich (t := 3) (by decide) (fun i hi => ?_) hL
  have hi : i < 6 := hi
  match i, hi with
  | 0, _ => exact rIs_37 hkw hok hT hk hL
  | 1, _ => exact rIs_38 hkw hok hT hk hL
  | 2, _ => exact rIs_39 hkw hok hT hk hL
  | 3, _ => exact rIs_40 hkw hok hT hk hL
  | 4, _ => exact rIs_41 hkw hok hT hk hL
  | 5, _ => exact rIs_42 hkw hok hT hk hL
  | i + 6, hi => exact absurd hi (by omega)
theorem wh3_5 {s : Int32} (h : s = 5) : wF (fun i => decide (s = cs3.getD i 99)) 6 = 0 := by subst h; decide
theorem wh3_6 {s : Int32} (h : s = 6) : wF (fun i => decide (s = cs3.getD i 99)) 6 = 1 := by subst h; decide
theorem wh3_7 {s : Int32} (h : s = 7) : wF (fun i => decide (s = cs3.getD i 99)) 6 = 2 := by subst h; decide
theorem wh3_8 {s : Int32} (h : s = 8) : wF (fun i => decide (s = cs3.getD i 99)) 6 = 3 := by subst h; decide
theorem wh3_9 {s : Int32} (h : s = 9) : wF (fun i => decide (s = cs3.getD i 99)) 6 = 4 := by subst h; decide
theorem wh3_10 {s : Int32} (h : s = 10) : wF (fun i => decide (s = cs3.getD i 99)) 6 = 5 := by subst h; decide
theorem wh3_n {s : Int32} (h : s ≠ 5 ∧ s ≠ 6 ∧ s ≠ 7 ∧ s ≠ 8 ∧ s ≠ 9 ∧ s ≠ 10) : wF (fun i => decide (s = cs3.getD i 99)) 6 = -1 := by
  refine wF_none _ (fun i hi => decide_eq_false ?_)
  match i, hi with
  | 0, _ => exact h.1
  | 1, _ => exact h.2.1
  | 2, _ => exact h.2.2.1
  | 3, _ => exact h.2.2.2.1
  | 4, _ => exact h.2.2.2.2.1
  | 5, _ => exact h.2.2.2.2.2
  | i + 6, hi => exact absurd hi (by omega)
def cs4 : List Int32 := [40, 21, 22, 23, 24]
theorem rWh_4 (hkw : kwOK kw) (hok : okBt bt len) (hT : TKR bt len (tkS kw bt len) σ) (hk : Rk (tkS kw bt len) k) (hL : 1000 ≤ L) : FX11_which L (nI k) 4 σ = some (wF (fun i => decide (tkS kw bt len k = cs4.getD i 99)) 5, σ) := by
  refine rWhich (t := 4) (by decide) (fun i hi => ?_) hL
  have hi : i < 5 := hi
  match i, hi with
  | 0, _ => exact rIs_3 hok hT hk hL
  | 1, _ => exact rIs_43 hkw hok hT hk hL
  | 2, _ => exact rIs_44 hkw hok hT hk hL
  | 3, _ => exact rIs_45 hkw hok hT hk hL
  | 4, _ => exact rIs_46 hkw hok hT hk hL
  | i + 5, hi => exact absurd hi (by omega)
theorem wh4_40 {s : Int32} (h : s = 40) : wF (fun i => decide (s = cs4.getD i 99)) 5 = 0 := by subst h; decide
theorem wh4_21 {s : Int32} (h : s = 21) : wF (fun i => decide (s = cs4.getD i 99)) 5 = 1 := by subst h; decide
theorem wh4_22 {s : Int32} (h : s = 22) : wF (fun i => decide (s = cs4.getD i 99)) 5 = 2 := by subst h; decide
theorem wh4_23 {s : Int32} (h : s = 23) : wF (fun i => decide (s = cs4.getD i 99)) 5 = 3 := by subst h; decide
theorem wh4_24 {s : Int32} (h : s = 24) : wF (fun i => decide (s = cs4.getD i 99)) 5 = 4 := by subst h; decide
theorem wh4_n {s : Int32} (h : s ≠ 40 ∧ s ≠ 21 ∧ s ≠ 22 ∧ s ≠ 23 ∧ s ≠ 24) : wF (fun i => decide (s = cs4.getD i 99)) 5 = -1 := by
  refine wF_none _ (fun i hi => decide_eq_false ?_)
  match i, hi with
  | 0, _ => exact h.1
  | 1, _ => exact h.2.1
  | 2, _ => exact h.2.2.1
  | 3, _ => exact h.2.2.2.1
  | 4, _ => exact h.2.2.2.2
  | i + 5, hi => exact absurd hi (by omega)
def cs5 : List Int32 := [0, 1, 2, 3]
theorem rWh_5 (hkw : kwOK kw) (hok : okBt bt len) (hT : TKR bt len (tkS kw bt len) σ) (hk : Rk (tkS kw bt len) k) (hL : 1000 ≤ L) : FX11_which L (nI k) 5 σ = some (wF (fun i => decide (tkS kw bt len k = cs5.getD i 99)) 4, σ) := by
  refine rWhich (t := 5) (by decide) (fun i hi => ?_) hL
  have hi : i < 4 := hi
  match i, hi with
  | 0, _ => exact rIs_1 hkw hok hT hk hL
  | 1, _ => exact rIs_5 hkw hok hT hk hL
  | 2, _ => exact rIs_7 hkw hok hT hk hL
  | 3, _ => exact rIs_8 hkw hok hT hk hL
  | i + 4, hi => exact absurd hi (by omega)
theorem wh5_0 {s : Int32} (h : s = 0) : wF (fun i => decide (s = cs5.getD i 99)) 4 = 0 := by subst h; decide
theorem wh5_1 {s : Int32} (h : s = 1) : wF (fun i => decide (s = cs5.getD i 99)) 4 = 1 := by subst h; decide
theorem wh5_2 {s : Int32} (h : s = 2) : wF (fun i => decide (s = cs5.getD i 99)) 4 = 2 := by subst h; decide
theorem wh5_3 {s : Int32} (h : s = 3) : wF (fun i => decide (s = cs5.getD i 99)) 4 = 3 := by subst h; decide
theorem wh5_n {s : Int32} (h : s ≠ 0 ∧ s ≠ 1 ∧ s ≠ 2 ∧ s ≠ 3) : wF (fun i => decide (s = cs5.getD i 99)) 4 = -1 := by
  refine wF_none _ (fun i hi => decide_eq_false ?_)
  match i, hi with
  | 0, _ => exact h.1
  | 1, _ => exact h.2.1
  | 2, _ => exact h.2.2.1
  | 3, _ => exact h.2.2.2
  | i + 4, hi => exact absurd hi (by omega)

theorem kC_1 {p : Nat} (h : kC bt len p = 1) : isL (bAt bt len p) = true ∧ bAt bt len p ≠ -1 ∧ ¬ 8 < run (cW bt len) len p - p := by
  unfold kC at h
  split at h
  · exact absurd h (by decide)
  · next h0 =>
    split at h
    · next h1 =>
      split at h
      · exact absurd h (by decide)
      · next h2 => exact ⟨h1, h0, h2⟩
    · split at h
      · split at h <;> exact absurd h (by decide)
      · split at h <;> exact absurd h (by decide)
/-- the sort of a word: a keyword's or a name's -/
theorem kC_word {p : Nat} (h : kC bt len p = 1) : sC kw bt len p = kwS kw (wdV bt p (run (cW bt len) len p - p)) := by
  obtain ⟨h1, h0, h2⟩ := kC_1 h
  unfold sC
  rw [if_neg h0, if_pos h1, if_neg h2]
theorem sC_no {p : Nat} (h : kC bt len p ≠ 1) : sC kw bt len p ≠ 51 := by
  intro e
  have e2 := congrArg Int32.toInt e
  have h51 : (51 : Int32).toInt = 51 := by decide
  unfold sC at e2
  unfold kC at h
  split at e2
  · exact absurd e2 (by decide)
  · next c0 =>
    rw [if_neg c0] at h
    split at e2
    · next c1 =>
      rw [if_pos c1] at h
      split at e2
      · exact absurd e2 (by decide)
      · next c8 => rw [if_neg c8] at h; exact h rfl
    · next c1 =>
      rw [if_neg c1] at h
      split at e2
      · split at e2 <;> exact absurd e2 (by decide)
      · split at e2
        · have e3 : s1 (bAt bt len p) = 51 := Int32.toInt_inj.mp e2
          exact absurd e3 s1_51.1
        · next c3 =>
          rcases s2_val c3 with g | g | g | g | g <;> rw [g] at e2 <;> exact absurd e2 (by decide)
theorem rName (hkw : kwOK kw) (hok : okBt bt len) (hT : TKR bt len (tkS kw bt len) σ) (hk : Rk (tkS kw bt len) k) (hL : 1000 ≤ L) : FX11_isName L (nI k) σ = some (bI (decide (tkS kw bt len k = 51)), σ) := by
  obtain ⟨t4, -, -⟩ := hT.2 k hk
  rw [FX11_isName, if_neg (nI_in (show k < 1801 by have := hk.1; omega) (by decide)), nI_clamp (by have := hk.1; omega), t4]
  by_cases c : kS bt len k = 1
  · rw [if_pos c, rWh_0 hkw hok hT hk hL, b2r]
    have hw := kC_word (kw := kw) c
    rcases kwS_in (kw := kw) (w := wdV bt (pC bt len k) (run (cW bt len) len (pC bt len k) - pC bt len k)) with ⟨g, -⟩ | ⟨i, hi, -, g⟩
    · have e : tkS kw bt len k = 51 := hw.trans g
      rw [wh0_n (by rw [e]; decide), if_pos rfl, decide_eq_true e]; rfl
    · have e : tkS kw bt len k = nI i := hw.trans g
      rw [e]
      have n51 : ¬ nI i = 51 := fun h => by rw [show (51 : Int32) = nI 51 from rfl, nI_eq (by omega) (by omega)] at h; omega
      rw [decide_eq_false n51]
      have : ∀ i, i < 30 → wF (fun j => decide (nI i = cs0.getD j 99)) 30 ≠ -1 := by decide
      rw [if_neg (this i hi)]; rfl
  · rw [if_neg c, decide_eq_false (show ¬ tkS kw bt len k = 51 from sC_no c)]; rfl
/-- the kinds that are told apart -/
theorem kind2 {p : Nat} : kC bt len p = 2 ↔ sC kw bt len p = 52 := by
  unfold kC sC
  by_cases c0 : bAt bt len p = -1
  · rw [if_pos c0, if_pos c0]; decide
  rw [if_neg c0, if_neg c0]
  by_cases c1 : isL (bAt bt len p) = true
  · rw [if_pos c1, if_pos c1]
    by_cases c8 : 8 < run (cW bt len) len p - p
    · rw [if_pos c8, if_pos c8]; decide
    · rw [if_neg c8, if_neg c8]
      refine ⟨fun h => absurd h (by decide), fun h => ?_⟩
      rcases kwS_in (kw := kw) (w := wdV bt p (run (cW bt len) len p - p)) with ⟨g, -⟩ | ⟨i, hi, -, g⟩
      · rw [g] at h; exact absurd h (by decide)
      · rw [g, show (52 : Int32) = nI 52 from rfl, nI_eq (by omega) (by omega)] at h; omega
  rw [if_neg c1, if_neg c1]
  by_cases c2 : isD (bAt bt len p) = true
  · rw [if_pos c2, if_pos c2]
    by_cases c6 : 6 < run (cD bt len) len p - p
    · rw [if_pos c6, if_pos c6]; decide
    · rw [if_neg c6, if_neg c6]; decide
  rw [if_neg c2, if_neg c2]
  refine ⟨fun h => by split at h <;> exact absurd h (by decide), fun h => ?_⟩
  split at h
  · exact absurd h s1_51.2.1
  · next c3 => rcases s2_val c3 with g | g | g | g | g <;> rw [g] at h <;> exact absurd h (by decide)
theorem kind0 {p : Nat} : kC bt len p = 0 ↔ sC kw bt len p = 53 := by
  unfold kC sC
  by_cases c0 : bAt bt len p = -1
  · rw [if_pos c0, if_pos c0]; decide
  rw [if_neg c0, if_neg c0]
  by_cases c1 : isL (bAt bt len p) = true
  · rw [if_pos c1, if_pos c1]
    by_cases c8 : 8 < run (cW bt len) len p - p
    · rw [if_pos c8, if_pos c8]; decide
    · rw [if_neg c8, if_neg c8]
      refine ⟨fun h => absurd h (by decide), fun h => ?_⟩
      rcases kwS_in (kw := kw) (w := wdV bt p (run (cW bt len) len p - p)) with ⟨g, -⟩ | ⟨i, hi, -, g⟩
      · rw [g] at h; exact absurd h (by decide)
      · rw [g, show (53 : Int32) = nI 53 from rfl, nI_eq (by omega) (by omega)] at h; omega
  rw [if_neg c1, if_neg c1]
  by_cases c2 : isD (bAt bt len p) = true
  · rw [if_pos c2, if_pos c2]
    by_cases c6 : 6 < run (cD bt len) len p - p
    · rw [if_pos c6, if_pos c6]; decide
    · rw [if_neg c6, if_neg c6]; decide
  rw [if_neg c2, if_neg c2]
  refine ⟨fun h => by split at h <;> exact absurd h (by decide), fun h => ?_⟩
  split at h
  · exact absurd h s1_51.2.2
  · next c3 => rcases s2_val c3 with g | g | g | g | g <;> rw [g] at h <;> exact absurd h (by decide)
/-- numbers -/
theorem numD (hok : okBt bt len) {p : Nat} (hp : p ≤ len) (h : sC kw bt len p = 52) : eC bt len p = run (cD bt len) len p ∧ run (cD bt len) len p - p ≤ 6 ∧ isL (bAt bt len p) = false ∧ isD (bAt bt len p) = true ∧ ∀ i, i < run (cD bt len) len p - p → ∃ b, bt (p + i) = nI b ∧ 48 ≤ b ∧ b ≤ 57 := by
  have k2 := (kind2 (kw := kw)).mpr h
  obtain ⟨h1, h2, -, h4⟩ := run_ge (c := cD bt len) cD_out (len - p) p (by omega)
  unfold kC at k2
  split at k2
  · exact absurd k2 (by decide)
  · next c0 =>
    split at k2
    · split at k2 <;> exact absurd k2 (by decide)
    · next c1 =>
      split at k2
      · next c2 =>
        split at k2
        · exact absurd k2 (by decide)
        · next c6 =>
          refine ⟨by unfold eC; rw [if_neg c0, if_neg c1, if_pos c2], by omega, Bool.eq_false_iff.mpr c1, c2, fun i hi => ?_⟩
          exact (dch hok (h4 (p + i) (by omega) (by omega))).2
      · split at k2 <;> exact absurd k2 (by decide)
theorem rNumber (hok : okBt bt len) (hT : TKR bt len (tkS kw bt len) σ) (hk : Rk (tkS kw bt len) k) (hL : 1000 ≤ L) (h : tkS kw bt len k = 52) : ∃ v, v < 1000000 ∧ tkW bt len k = lN v ∧ FX11_numberOf L (nI k) σ = some (nI v, σ) := by
  obtain ⟨t4, t5, t6⟩ := hT.2 k hk
  have hp := (pC_le hok k).2.2.1
  have hl := hok.1
  obtain ⟨d1, d2, d3, d4, d5⟩ := numD hok hp h
  obtain ⟨r1, r2, -, -⟩ := run_ge (c := cD bt len) cD_out (len - pC bt len k) (pC bt len k) (by omega)
  generalize hp0 : pC bt len k = p at *
  generalize hn : run (cD bt len) len p - p = n at *
  have hb : ∀ i, i < n → bt (p + i) = nI (bt (p + i)).toNatClampNeg ∧ 48 ≤ (bt (p + i)).toNatClampNeg ∧ (bt (p + i)).toNatClampNeg ≤ 57 := fun i hi => by
    obtain ⟨b, e, h1, h2⟩ := d5 i hi
    have : (bt (p + i)).toNatClampNeg = b := by rw [e, nI_clamp (by omega)]
    rw [this]; exact ⟨e, h1, h2⟩
  refine ⟨vN 10 (fun i => (bt (p + i)).toNatClampNeg - 48) n, ?_, ?_, ?_⟩
  · exact Nat.lt_of_lt_of_le (vN_lt n (fun i hi => by have := hb i hi; omega)) (pow10 d2)
  · unfold tkW wC
    rw [hp0, d3, if_neg (by decide), hn]
    refine vN_lN (m := 10) n (fun i hi => ?_)
    obtain ⟨b, e, g1, g2⟩ := d5 i hi
    have cl : (bt (p + i)).toNatClampNeg = b := by rw [e, nI_clamp (by omega)]
    show (bt (p + i) - 48).toInt64 = lN ((bt (p + i)).toNatClampNeg - 48)
    rw [cl, e, show (48 : Int32) = nI 48 from rfl, nI_sub g1, nI_l (by omega)]
  · have hk2 : k < 1801 := by have := hk.1; omega
    have lp : ∀ (d i fuel : Nat), i + d = n → d < fuel → FX11_numberOf_9 L fuel (nI k) (nI (vN 10 (fun i => (bt (p + i)).toNatClampNeg - 48) i)) (nI (p + i)) σ = some (nI (vN 10 (fun i => (bt (p + i)).toNatClampNeg - 48) n), σ) := by
      intro d
      induction d with
      | zero =>
        intro i fuel hi hfu
        obtain ⟨q, rfl⟩ : ∃ z, fuel = z + 1 := ⟨fuel - 1, by omega⟩
        rw [FX11_numberOf_9, if_neg (nI_in hk2 (by decide)), nI_clamp (by omega), t6, d1, if_pos (nI_le (by omega) (by omega)), show i = n by omega]
      | succ d ih =>
        intro i fuel hi hfu
        obtain ⟨q, rfl⟩ : ∃ z, fuel = z + 1 := ⟨fuel - 1, by omega⟩
        have ih := ih (i + 1) q (by omega) (by omega)
        obtain ⟨e1, e2, e3⟩ := hb i (by omega)
        rw [FX11_numberOf_9, if_neg (nI_in hk2 (by decide)), nI_clamp (by omega), t6, d1, if_neg (fun e => by rw [nI_leI (by omega) (by omega)] at e; omega), if_neg (nI_in (show p + i < 1800 by omega) (by decide)), nI_clamp (by omega), hT.1, ← nI_succ, ← ih]
        congr 1
        rw [vN, e1, show (10 : Int32) = nI 10 from rfl, pk_mul, nI_add, show (48 : Int32) = nI 48 from rfl, nI_sub (by omega), nI_clamp (by omega)]
        congr 1
        have : ∀ x y : Nat, 48 ≤ y → 10 * x + y - 48 = x * 10 + (y - 48) := fun x y h => by omega
        exact this _ _ e2
    rw [FX11_numberOf, if_neg (nI_in hk2 (by decide)), nI_clamp (by omega), t5]
    have := lp n 0 L (by omega) (by omega)
    rw [Nat.add_zero] at this
    exact this
/-- names -/
theorem rNameOf (hok : okBt bt len) (hT : TKR bt len (tkS kw bt len) σ) (hk : Rk (tkS kw bt len) k) (hL : 1000 ≤ L) (h : tkS kw bt len k = 51) : ∃ w, TX (tkW bt len k) w ∧ FX11_nameOf L (nI k) σ = some (w, σ) := by
  obtain ⟨t4, t5, t6⟩ := hT.2 k hk
  have hp := (pC_le hok k).2.2.1
  have hl := hok.1
  have k1 : kC bt len (pC bt len k) = 1 := by
    by_cases c : kC bt len (pC bt len k) = 1
    · exact c
    · exact absurd h (sC_no c)
  obtain ⟨c1, c0, c8⟩ := kC_1 k1
  obtain ⟨b, hb1, hb2⟩ := wText hok hp
  obtain ⟨r1, r2, -, -⟩ := run_ge (c := cW bt len) cW_out (len - pC bt len k) (pC bt len k) (by omega)
  have d1 : eC bt len (pC bt len k) = run (cW bt len) len (pC bt len k) := by unfold eC; rw [if_neg c0, if_pos c1]
  have hw : tkW bt len k = wdV bt (pC bt len k) (run (cW bt len) len (pC bt len k) - pC bt len k) := by unfold tkW wC; rw [if_pos c1]
  generalize hp0 : pC bt len k = p at *
  generalize hn : run (cW bt len) len p - p = n at *
  refine ⟨lN (vN 37 (fun i => dg (b i)) n), ⟨n, b, by omega, fun i hi => (hb1 i hi).2, by rw [hw, hb2], rfl⟩, ?_⟩
  have hk2 : k < 1801 := by have := hk.1; omega
  have lp : ∀ (d i fuel : Nat), i + d = n → d < fuel → FX11_nameOf_10 L fuel (nI k) (lN (vN 37 (fun i => dg (b i)) i)) (nI (p + i)) σ = some (lN (vN 37 (fun i => dg (b i)) n), σ) := by
    intro d
    induction d with
    | zero =>
      intro i fuel hi hfu
      obtain ⟨q, rfl⟩ : ∃ z, fuel = z + 1 := ⟨fuel - 1, by omega⟩
      rw [FX11_nameOf_10, if_neg (nI_in hk2 (by decide)), nI_clamp (by omega), t6, d1, if_pos (nI_le (by omega) (by omega)), show i = n by omega]
    | succ d ih =>
      intro i fuel hi hfu
      obtain ⟨q, rfl⟩ : ∃ z, fuel = z + 1 := ⟨fuel - 1, by omega⟩
      have ih := ih (i + 1) q (by omega) (by omega)
      obtain ⟨e1, e2⟩ := hb1 i (by omega)
      have hix := nI_in (show p + i < 1800 by omega) (by decide)
      rw [FX11_nameOf_10, if_neg (nI_in hk2 (by decide)), nI_clamp (by omega), t6, d1, if_neg (fun e => by rw [nI_leI (by omega) (by omega)] at e; omega), if_neg hix, nI_clamp (by omega), hT.1, e1, risD]
      show (if bI (isD (nI (b i))) = 0 then _ else _) = _
      rw [ibI, if_neg (nI_i (show p + i < 1800 by omega) (by decide)), if_neg (nI_i (show p + i < 1800 by omega) (by decide)), ← nI_succ]
      have dgE : isD (nI (b i)) = decide (b i ≤ 57) := by
        unfold okC at e2
        have a3 : nI (b i) < 48 ↔ b i < 48 := by rw [show (48 : Int32) = nI 48 from rfl, nI_ltI (by omega) (by omega)]
        have a4 : 57 < nI (b i) ↔ 57 < b i := by rw [show (57 : Int32) = nI 57 from rfl, nI_ltI (by omega) (by omega)]
        unfold isD
        by_cases c : b i ≤ 57
        · rw [decide_eq_true c, decide_eq_true (show ¬ nI (b i) < 48 by rw [a3]; omega), decide_eq_true (show ¬ 57 < nI (b i) by rw [a4]; omega)]; rfl
        · rw [decide_eq_false c, decide_eq_false (show ¬ ¬ 57 < nI (b i) by rw [a4]; omega), Bool.and_false]
      rw [dgE]
      rw [vN] at ih
      by_cases c : b i ≤ 57
      · rw [if_pos (decide_eq_true c), ← ih]
        congr 1
        rw [show (47 : Int32) = nI 47 from rfl, nI_sub (by unfold okC at e2; omega), nI_l (by omega), show (37 : Int64) = lN 37 from rfl, lN_mul, lN_add]
        unfold dg
        rw [if_pos c, Nat.mul_comm]
      · rw [if_neg (by simpa using c), ← ih]
        congr 1
        rw [show (86 : Int32) = nI 86 from rfl, nI_sub (by unfold okC at e2; omega), nI_l (by unfold okC at e2; omega), show (37 : Int64) = lN 37 from rfl, lN_mul, lN_add]
        unfold dg
        rw [if_neg c, Nat.mul_comm]
  rw [FX11_nameOf, if_neg (nI_in hk2 (by decide)), nI_clamp (by omega), t5]
  have := lp n 0 L (by omega) (by omega)
  rw [Nat.add_zero] at this
  exact this
theorem rWrong (hok : okBt bt len) {S : Nat → Int32} (hT : TKR bt len S σ) (hk : Rk S k) {e : Int32} : FX11_wrong e (nI k) σ = some (e, sI σ 3 (nI (pC bt len k))) := by
  obtain ⟨t4, t5, t6⟩ := hT.2 k hk
  rw [FX11_wrong, if_neg (nI_in (show k < 1801 by have := hk.1; omega) (by decide)), nI_clamp (by have := hk.1; omega), t5]
end TG
