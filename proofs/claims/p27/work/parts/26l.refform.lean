-- the reference's forms are those of the grammar
def aM (σ : MS) (k : Nat) : MS := sI σ 7 (nI k)
section RF
variable {σ : MS} {L len k : Nat} {kw : Nat → Int64} {bt : Nat → Int32} {c : Cx}
theorem aM_7 : (aM σ k).1 7 = nI k := sI_g
theorem aM_aM {j : Nat} : sI (aM σ k) 7 (nI j) = aM σ j := by
  show ((va_up (va_up σ.1 7 (nI k)) 7 (nI j), σ.2) : MS) = _
  rw [va_upup]; rfl
/-- the tokens that both look at -/
def TkE (kw : Nat → Int64) (bt : Nat → Int32) (len L : Nat) (c : Cx) (σ : MS) : Prop := kwOK kw ∧ okBt bt len ∧ c.1 = tkS kw bt len ∧ c.2.1 = (fun n => nI (pC bt len n)) ∧ c.2.2.1 = tkW bt len ∧ TKR bt len (tkS kw bt len) σ ∧ 1000 ≤ L
theorem Rk.next {S : Nat → Int32} (h : Rk S k) (h0 : k ≠ 400) (h1 : S k ≠ 53) (h2 : S k ≠ 54) : Rk S (k + 1) := by
  refine ⟨by have := h.1; omega, fun j hj => ?_⟩
  by_cases e : j = k
  · rw [e]; exact ⟨h1, h2⟩
  · exact h.2 j (by omega)
theorem rSees_1 (h : TkE kw bt len L c σ) (hk : Rk c.1 k) : FX11_sees L 1 (aM σ k) = some (bI (decide (c.1 k = 0)), aM σ k) := by
  have e := h.2.2.1
  rw [e] at hk ⊢
  rw [FX11_sees, aM_7, rIs_1 (σ := aM σ k) h.1 h.2.1 h.2.2.2.2.2.1 hk h.2.2.2.2.2.2, b2r, if_neg bI_nn]
theorem rSees_2 (h : TkE kw bt len L c σ) (hk : Rk c.1 k) : FX11_sees L 2 (aM σ k) = some (bI (decide (c.1 k = 44)), aM σ k) := by
  have e := h.2.2.1
  rw [e] at hk ⊢
  rw [FX11_sees, aM_7, rIs_2 (σ := aM σ k) h.2.1 h.2.2.2.2.2.1 hk h.2.2.2.2.2.2, b2r, if_neg bI_nn]
theorem rSees_3 (h : TkE kw bt len L c σ) (hk : Rk c.1 k) : FX11_sees L 3 (aM σ k) = some (bI (decide (c.1 k = 40)), aM σ k) := by
  have e := h.2.2.1
  rw [e] at hk ⊢
  rw [FX11_sees, aM_7, rIs_3 (σ := aM σ k) h.2.1 h.2.2.2.2.2.1 hk h.2.2.2.2.2.2, b2r, if_neg bI_nn]
theorem rSees_4 (h : TkE kw bt len L c σ) (hk : Rk c.1 k) : FX11_sees L 4 (aM σ k) = some (bI (decide (c.1 k = 36)), aM σ k) := by
  have e := h.2.2.1
  rw [e] at hk ⊢
  rw [FX11_sees, aM_7, rIs_4 (σ := aM σ k) h.2.1 h.2.2.2.2.2.1 hk h.2.2.2.2.2.2, b2r, if_neg bI_nn]
theorem rSees_5 (h : TkE kw bt len L c σ) (hk : Rk c.1 k) : FX11_sees L 5 (aM σ k) = some (bI (decide (c.1 k = 1)), aM σ k) := by
  have e := h.2.2.1
  rw [e] at hk ⊢
  rw [FX11_sees, aM_7, rIs_5 (σ := aM σ k) h.1 h.2.1 h.2.2.2.2.2.1 hk h.2.2.2.2.2.2, b2r, if_neg bI_nn]
theorem rSees_6 (h : TkE kw bt len L c σ) (hk : Rk c.1 k) : FX11_sees L 6 (aM σ k) = some (bI (decide (c.1 k = 38)), aM σ k) := by
  have e := h.2.2.1
  rw [e] at hk ⊢
  rw [FX11_sees, aM_7, rIs_6 (σ := aM σ k) h.2.1 h.2.2.2.2.2.1 hk h.2.2.2.2.2.2, b2r, if_neg bI_nn]
theorem rSees_7 (h : TkE kw bt len L c σ) (hk : Rk c.1 k) : FX11_sees L 7 (aM σ k) = some (bI (decide (c.1 k = 2)), aM σ k) := by
  have e := h.2.2.1
  rw [e] at hk ⊢
  rw [FX11_sees, aM_7, rIs_7 (σ := aM σ k) h.1 h.2.1 h.2.2.2.2.2.1 hk h.2.2.2.2.2.2, b2r, if_neg bI_nn]
theorem rSees_8 (h : TkE kw bt len L c σ) (hk : Rk c.1 k) : FX11_sees L 8 (aM σ k) = some (bI (decide (c.1 k = 3)), aM σ k) := by
  have e := h.2.2.1
  rw [e] at hk ⊢
  rw [FX11_sees, aM_7, rIs_8 (σ := aM σ k) h.1 h.2.1 h.2.2.2.2.2.1 hk h.2.2.2.2.2.2, b2r, if_neg bI_nn]
theorem rSees_9 (h : TkE kw bt len L c σ) (hk : Rk c.1 k) : FX11_sees L 9 (aM σ k) = some (bI (decide (c.1 k = 37)), aM σ k) := by
  have e := h.2.2.1
  rw [e] at hk ⊢
  rw [FX11_sees, aM_7, rIs_9 (σ := aM σ k) h.2.1 h.2.2.2.2.2.1 hk h.2.2.2.2.2.2, b2r, if_neg bI_nn]
theorem rSees_10 (h : TkE kw bt len L c σ) (hk : Rk c.1 k) : FX11_sees L 10 (aM σ k) = some (bI (decide (c.1 k = 4)), aM σ k) := by
  have e := h.2.2.1
  rw [e] at hk ⊢
  rw [FX11_sees, aM_7, rIs_10 (σ := aM σ k) h.1 h.2.1 h.2.2.2.2.2.1 hk h.2.2.2.2.2.2, b2r, if_neg bI_nn]
theorem rSees_11 (h : TkE kw bt len L c σ) (hk : Rk c.1 k) : FX11_sees L 11 (aM σ k) = some (bI (decide (c.1 k = 13)), aM σ k) := by
  have e := h.2.2.1
  rw [e] at hk ⊢
  rw [FX11_sees, aM_7, rIs_11 (σ := aM σ k) h.1 h.2.1 h.2.2.2.2.2.1 hk h.2.2.2.2.2.2, b2r, if_neg bI_nn]
theorem rSees_12 (h : TkE kw bt len L c σ) (hk : Rk c.1 k) : FX11_sees L 12 (aM σ k) = some (bI (decide (c.1 k = 14)), aM σ k) := by
  have e := h.2.2.1
  rw [e] at hk ⊢
  rw [FX11_sees, aM_7, rIs_12 (σ := aM σ k) h.1 h.2.1 h.2.2.2.2.2.1 hk h.2.2.2.2.2.2, b2r, if_neg bI_nn]
theorem rSees_13 (h : TkE kw bt len L c σ) (hk : Rk c.1 k) : FX11_sees L 13 (aM σ k) = some (bI (decide (c.1 k = 12)), aM σ k) := by
  have e := h.2.2.1
  rw [e] at hk ⊢
  rw [FX11_sees, aM_7, rIs_13 (σ := aM σ k) h.1 h.2.1 h.2.2.2.2.2.1 hk h.2.2.2.2.2.2, b2r, if_neg bI_nn]
theorem rSees_14 (h : TkE kw bt len L c σ) (hk : Rk c.1 k) : FX11_sees L 14 (aM σ k) = some (bI (decide (c.1 k = 11)), aM σ k) := by
  have e := h.2.2.1
  rw [e] at hk ⊢
  rw [FX11_sees, aM_7, rIs_14 (σ := aM σ k) h.1 h.2.1 h.2.2.2.2.2.1 hk h.2.2.2.2.2.2, b2r, if_neg bI_nn]
theorem rSees_15 (h : TkE kw bt len L c σ) (hk : Rk c.1 k) : FX11_sees L 15 (aM σ k) = some (bI (decide (c.1 k = 34)), aM σ k) := by
  have e := h.2.2.1
  rw [e] at hk ⊢
  rw [FX11_sees, aM_7, rIs_15 (σ := aM σ k) h.2.1 h.2.2.2.2.2.1 hk h.2.2.2.2.2.2, b2r, if_neg bI_nn]
theorem rSees_16 (h : TkE kw bt len L c σ) (hk : Rk c.1 k) : FX11_sees L 16 (aM σ k) = some (bI (decide (c.1 k = 50)), aM σ k) := by
  have e := h.2.2.1
  rw [e] at hk ⊢
  rw [FX11_sees, aM_7, rIs_16 (σ := aM σ k) h.2.1 h.2.2.2.2.2.1 hk h.2.2.2.2.2.2, b2r, if_neg bI_nn]
theorem rSees_17 (h : TkE kw bt len L c σ) (hk : Rk c.1 k) : FX11_sees L 17 (aM σ k) = some (bI (decide (c.1 k = 35)), aM σ k) := by
  have e := h.2.2.1
  rw [e] at hk ⊢
  rw [FX11_sees, aM_7, rIs_17 (σ := aM σ k) h.2.1 h.2.2.2.2.2.1 hk h.2.2.2.2.2.2, b2r, if_neg bI_nn]
theorem rSees_18 (h : TkE kw bt len L c σ) (hk : Rk c.1 k) : FX11_sees L 18 (aM σ k) = some (bI (decide (c.1 k = 32)), aM σ k) := by
  have e := h.2.2.1
  rw [e] at hk ⊢
  rw [FX11_sees, aM_7, rIs_18 (σ := aM σ k) h.2.1 h.2.2.2.2.2.1 hk h.2.2.2.2.2.2, b2r, if_neg bI_nn]
theorem rSees_19 (h : TkE kw bt len L c σ) (hk : Rk c.1 k) : FX11_sees L 19 (aM σ k) = some (bI (decide (c.1 k = 33)), aM σ k) := by
  have e := h.2.2.1
  rw [e] at hk ⊢
  rw [FX11_sees, aM_7, rIs_19 (σ := aM σ k) h.2.1 h.2.2.2.2.2.1 hk h.2.2.2.2.2.2, b2r, if_neg bI_nn]
theorem rSees_20 (h : TkE kw bt len L c σ) (hk : Rk c.1 k) : FX11_sees L 20 (aM σ k) = some (bI (decide (c.1 k = 16)), aM σ k) := by
  have e := h.2.2.1
  rw [e] at hk ⊢
  rw [FX11_sees, aM_7, rIs_20 (σ := aM σ k) h.1 h.2.1 h.2.2.2.2.2.1 hk h.2.2.2.2.2.2, b2r, if_neg bI_nn]
theorem rSees_21 (h : TkE kw bt len L c σ) (hk : Rk c.1 k) : FX11_sees L 21 (aM σ k) = some (bI (decide (c.1 k = 17)), aM σ k) := by
  have e := h.2.2.1
  rw [e] at hk ⊢
  rw [FX11_sees, aM_7, rIs_21 (σ := aM σ k) h.1 h.2.1 h.2.2.2.2.2.1 hk h.2.2.2.2.2.2, b2r, if_neg bI_nn]
theorem rSees_22 (h : TkE kw bt len L c σ) (hk : Rk c.1 k) : FX11_sees L 22 (aM σ k) = some (bI (decide (c.1 k = 15)), aM σ k) := by
  have e := h.2.2.1
  rw [e] at hk ⊢
  rw [FX11_sees, aM_7, rIs_22 (σ := aM σ k) h.1 h.2.1 h.2.2.2.2.2.1 hk h.2.2.2.2.2.2, b2r, if_neg bI_nn]
theorem rSees_23 (h : TkE kw bt len L c σ) (hk : Rk c.1 k) : FX11_sees L 23 (aM σ k) = some (bI (decide (c.1 k = 39)), aM σ k) := by
  have e := h.2.2.1
  rw [e] at hk ⊢
  rw [FX11_sees, aM_7, rIs_23 (σ := aM σ k) h.2.1 h.2.2.2.2.2.1 hk h.2.2.2.2.2.2, b2r, if_neg bI_nn]
theorem rSees_24 (h : TkE kw bt len L c σ) (hk : Rk c.1 k) : FX11_sees L 24 (aM σ k) = some (bI (decide (c.1 k = 41)), aM σ k) := by
  have e := h.2.2.1
  rw [e] at hk ⊢
  rw [FX11_sees, aM_7, rIs_24 (σ := aM σ k) h.2.1 h.2.2.2.2.2.1 hk h.2.2.2.2.2.2, b2r, if_neg bI_nn]
theorem rSees_25 (h : TkE kw bt len L c σ) (hk : Rk c.1 k) : FX11_sees L 25 (aM σ k) = some (bI (decide (c.1 k = 42)), aM σ k) := by
  have e := h.2.2.1
  rw [e] at hk ⊢
  rw [FX11_sees, aM_7, rIs_25 (σ := aM σ k) h.2.1 h.2.2.2.2.2.1 hk h.2.2.2.2.2.2, b2r, if_neg bI_nn]
theorem rSees_26 (h : TkE kw bt len L c σ) (hk : Rk c.1 k) : FX11_sees L 26 (aM σ k) = some (bI (decide (c.1 k = 43)), aM σ k) := by
  have e := h.2.2.1
  rw [e] at hk ⊢
  rw [FX11_sees, aM_7, rIs_26 (σ := aM σ k) h.2.1 h.2.2.2.2.2.1 hk h.2.2.2.2.2.2, b2r, if_neg bI_nn]
theorem rSees_27 (h : TkE kw bt len L c σ) (hk : Rk c.1 k) : FX11_sees L 27 (aM σ k) = some (bI (decide (c.1 k = 28)), aM σ k) := by
  have e := h.2.2.1
  rw [e] at hk ⊢
  rw [FX11_sees, aM_7, rIs_27 (σ := aM σ k) h.1 h.2.1 h.2.2.2.2.2.1 hk h.2.2.2.2.2.2, b2r, if_neg bI_nn]
theorem rSees_28 (h : TkE kw bt len L c σ) (hk : Rk c.1 k) : FX11_sees L 28 (aM σ k) = some (bI (decide (c.1 k = 29)), aM σ k) := by
  have e := h.2.2.1
  rw [e] at hk ⊢
  rw [FX11_sees, aM_7, rIs_28 (σ := aM σ k) h.1 h.2.1 h.2.2.2.2.2.1 hk h.2.2.2.2.2.2, b2r, if_neg bI_nn]
theorem rSees_29 (h : TkE kw bt len L c σ) (hk : Rk c.1 k) : FX11_sees L 29 (aM σ k) = some (bI (decide (c.1 k = 30)), aM σ k) := by
  have e := h.2.2.1
  rw [e] at hk ⊢
  rw [FX11_sees, aM_7, rIs_29 (σ := aM σ k) h.2.1 h.2.2.2.2.2.1 hk h.2.2.2.2.2.2, b2r, if_neg bI_nn]
theorem rSees_30 (h : TkE kw bt len L c σ) (hk : Rk c.1 k) : FX11_sees L 30 (aM σ k) = some (bI (decide (c.1 k = 31)), aM σ k) := by
  have e := h.2.2.1
  rw [e] at hk ⊢
  rw [FX11_sees, aM_7, rIs_30 (σ := aM σ k) h.2.1 h.2.2.2.2.2.1 hk h.2.2.2.2.2.2, b2r, if_neg bI_nn]
theorem rSees_31 (h : TkE kw bt len L c σ) (hk : Rk c.1 k) : FX11_sees L 31 (aM σ k) = some (bI (decide (c.1 k = 25)), aM σ k) := by
  have e := h.2.2.1
  rw [e] at hk ⊢
  rw [FX11_sees, aM_7, rIs_31 (σ := aM σ k) h.1 h.2.1 h.2.2.2.2.2.1 hk h.2.2.2.2.2.2, b2r, if_neg bI_nn]
theorem rSees_32 (h : TkE kw bt len L c σ) (hk : Rk c.1 k) : FX11_sees L 32 (aM σ k) = some (bI (decide (c.1 k = 27)), aM σ k) := by
  have e := h.2.2.1
  rw [e] at hk ⊢
  rw [FX11_sees, aM_7, rIs_32 (σ := aM σ k) h.1 h.2.1 h.2.2.2.2.2.1 hk h.2.2.2.2.2.2, b2r, if_neg bI_nn]
theorem rSees_33 (h : TkE kw bt len L c σ) (hk : Rk c.1 k) : FX11_sees L 33 (aM σ k) = some (bI (decide (c.1 k = 26)), aM σ k) := by
  have e := h.2.2.1
  rw [e] at hk ⊢
  rw [FX11_sees, aM_7, rIs_33 (σ := aM σ k) h.1 h.2.1 h.2.2.2.2.2.1 hk h.2.2.2.2.2.2, b2r, if_neg bI_nn]
theorem rSees_34 (h : TkE kw bt len L c σ) (hk : Rk c.1 k) : FX11_sees L 34 (aM σ k) = some (bI (decide (c.1 k = 18)), aM σ k) := by
  have e := h.2.2.1
  rw [e] at hk ⊢
  rw [FX11_sees, aM_7, rIs_34 (σ := aM σ k) h.1 h.2.1 h.2.2.2.2.2.1 hk h.2.2.2.2.2.2, b2r, if_neg bI_nn]
theorem rSees_35 (h : TkE kw bt len L c σ) (hk : Rk c.1 k) : FX11_sees L 35 (aM σ k) = some (bI (decide (c.1 k = 19)), aM σ k) := by
  have e := h.2.2.1
  rw [e] at hk ⊢
  rw [FX11_sees, aM_7, rIs_35 (σ := aM σ k) h.1 h.2.1 h.2.2.2.2.2.1 hk h.2.2.2.2.2.2, b2r, if_neg bI_nn]
theorem rSees_36 (h : TkE kw bt len L c σ) (hk : Rk c.1 k) : FX11_sees L 36 (aM σ k) = some (bI (decide (c.1 k = 20)), aM σ k) := by
  have e := h.2.2.1
  rw [e] at hk ⊢
  rw [FX11_sees, aM_7, rIs_36 (σ := aM σ k) h.1 h.2.1 h.2.2.2.2.2.1 hk h.2.2.2.2.2.2, b2r, if_neg bI_nn]
theorem rSees_37 (h : TkE kw bt len L c σ) (hk : Rk c.1 k) : FX11_sees L 37 (aM σ k) = some (bI (decide (c.1 k = 5)), aM σ k) := by
  have e := h.2.2.1
  rw [e] at hk ⊢
  rw [FX11_sees, aM_7, rIs_37 (σ := aM σ k) h.1 h.2.1 h.2.2.2.2.2.1 hk h.2.2.2.2.2.2, b2r, if_neg bI_nn]
theorem rSees_38 (h : TkE kw bt len L c σ) (hk : Rk c.1 k) : FX11_sees L 38 (aM σ k) = some (bI (decide (c.1 k = 6)), aM σ k) := by
  have e := h.2.2.1
  rw [e] at hk ⊢
  rw [FX11_sees, aM_7, rIs_38 (σ := aM σ k) h.1 h.2.1 h.2.2.2.2.2.1 hk h.2.2.2.2.2.2, b2r, if_neg bI_nn]
theorem rSees_39 (h : TkE kw bt len L c σ) (hk : Rk c.1 k) : FX11_sees L 39 (aM σ k) = some (bI (decide (c.1 k = 7)), aM σ k) := by
  have e := h.2.2.1
  rw [e] at hk ⊢
  rw [FX11_sees, aM_7, rIs_39 (σ := aM σ k) h.1 h.2.1 h.2.2.2.2.2.1 hk h.2.2.2.2.2.2, b2r, if_neg bI_nn]
theorem rSees_40 (h : TkE kw bt len L c σ) (hk : Rk c.1 k) : FX11_sees L 40 (aM σ k) = some (bI (decide (c.1 k = 8)), aM σ k) := by
  have e := h.2.2.1
  rw [e] at hk ⊢
  rw [FX11_sees, aM_7, rIs_40 (σ := aM σ k) h.1 h.2.1 h.2.2.2.2.2.1 hk h.2.2.2.2.2.2, b2r, if_neg bI_nn]
theorem rSees_41 (h : TkE kw bt len L c σ) (hk : Rk c.1 k) : FX11_sees L 41 (aM σ k) = some (bI (decide (c.1 k = 9)), aM σ k) := by
  have e := h.2.2.1
  rw [e] at hk ⊢
  rw [FX11_sees, aM_7, rIs_41 (σ := aM σ k) h.1 h.2.1 h.2.2.2.2.2.1 hk h.2.2.2.2.2.2, b2r, if_neg bI_nn]
theorem rSees_42 (h : TkE kw bt len L c σ) (hk : Rk c.1 k) : FX11_sees L 42 (aM σ k) = some (bI (decide (c.1 k = 10)), aM σ k) := by
  have e := h.2.2.1
  rw [e] at hk ⊢
  rw [FX11_sees, aM_7, rIs_42 (σ := aM σ k) h.1 h.2.1 h.2.2.2.2.2.1 hk h.2.2.2.2.2.2, b2r, if_neg bI_nn]
theorem rSees_43 (h : TkE kw bt len L c σ) (hk : Rk c.1 k) : FX11_sees L 43 (aM σ k) = some (bI (decide (c.1 k = 21)), aM σ k) := by
  have e := h.2.2.1
  rw [e] at hk ⊢
  rw [FX11_sees, aM_7, rIs_43 (σ := aM σ k) h.1 h.2.1 h.2.2.2.2.2.1 hk h.2.2.2.2.2.2, b2r, if_neg bI_nn]
theorem rSees_44 (h : TkE kw bt len L c σ) (hk : Rk c.1 k) : FX11_sees L 44 (aM σ k) = some (bI (decide (c.1 k = 22)), aM σ k) := by
  have e := h.2.2.1
  rw [e] at hk ⊢
  rw [FX11_sees, aM_7, rIs_44 (σ := aM σ k) h.1 h.2.1 h.2.2.2.2.2.1 hk h.2.2.2.2.2.2, b2r, if_neg bI_nn]
theorem rSees_45 (h : TkE kw bt len L c σ) (hk : Rk c.1 k) : FX11_sees L 45 (aM σ k) = some (bI (decide (c.1 k = 23)), aM σ k) := by
  have e := h.2.2.1
  rw [e] at hk ⊢
  rw [FX11_sees, aM_7, rIs_45 (σ := aM σ k) h.1 h.2.1 h.2.2.2.2.2.1 hk h.2.2.2.2.2.2, b2r, if_neg bI_nn]
theorem rSees_46 (h : TkE kw bt len L c σ) (hk : Rk c.1 k) : FX11_sees L 46 (aM σ k) = some (bI (decide (c.1 k = 24)), aM σ k) := by
  have e := h.2.2.1
  rw [e] at hk ⊢
  rw [FX11_sees, aM_7, rIs_46 (σ := aM σ k) h.1 h.2.1 h.2.2.2.2.2.1 hk h.2.2.2.2.2.2, b2r, if_neg bI_nn]
theorem rSees_47 (h : TkE kw bt len L c σ) (hk : Rk c.1 k) : FX11_sees L 47 (aM σ k) = some (bI (decide (c.1 k = 45)), aM σ k) := by
  have e := h.2.2.1
  rw [e] at hk ⊢
  rw [FX11_sees, aM_7, rIs_47 (σ := aM σ k) h.2.1 h.2.2.2.2.2.1 hk h.2.2.2.2.2.2, b2r, if_neg bI_nn]
theorem rSees_48 (h : TkE kw bt len L c σ) (hk : Rk c.1 k) : FX11_sees L 48 (aM σ k) = some (bI (decide (c.1 k = 46)), aM σ k) := by
  have e := h.2.2.1
  rw [e] at hk ⊢
  rw [FX11_sees, aM_7, rIs_48 (σ := aM σ k) h.2.1 h.2.2.2.2.2.1 hk h.2.2.2.2.2.2, b2r, if_neg bI_nn]
theorem rSees_49 (h : TkE kw bt len L c σ) (hk : Rk c.1 k) : FX11_sees L 49 (aM σ k) = some (bI (decide (c.1 k = 47)), aM σ k) := by
  have e := h.2.2.1
  rw [e] at hk ⊢
  rw [FX11_sees, aM_7, rIs_49 (σ := aM σ k) h.2.1 h.2.2.2.2.2.1 hk h.2.2.2.2.2.2, b2r, if_neg bI_nn]
theorem rSees_50 (h : TkE kw bt len L c σ) (hk : Rk c.1 k) : FX11_sees L 50 (aM σ k) = some (bI (decide (c.1 k = 48)), aM σ k) := by
  have e := h.2.2.1
  rw [e] at hk ⊢
  rw [FX11_sees, aM_7, rIs_50 (σ := aM σ k) h.2.1 h.2.2.2.2.2.1 hk h.2.2.2.2.2.2, b2r, if_neg bI_nn]
theorem rSees_51 (h : TkE kw bt len L c σ) (hk : Rk c.1 k) : FX11_sees L 51 (aM σ k) = some (bI (decide (c.1 k = 49)), aM σ k) := by
  have e := h.2.2.1
  rw [e] at hk ⊢
  rw [FX11_sees, aM_7, rIs_51 (σ := aM σ k) h.2.1 h.2.2.2.2.2.1 hk h.2.2.2.2.2.2, b2r, if_neg bI_nn]
theorem rWhS_0 (h : TkE kw bt len L c σ) (hk : Rk c.1 k) : FX11_which L (nI k) 0 (aM σ k) = some (wF (fun i => decide (c.1 k = cs0.getD i 99)) 30, aM σ k) := by
  have e := h.2.2.1
  rw [e] at hk ⊢
  exact rWh_0 (σ := aM σ k) h.1 h.2.1 h.2.2.2.2.2.1 hk h.2.2.2.2.2.2
theorem rWhS_1 (h : TkE kw bt len L c σ) (hk : Rk c.1 k) : FX11_which L (nI k) 1 (aM σ k) = some (wF (fun i => decide (c.1 k = cs1.getD i 99)) 6, aM σ k) := by
  have e := h.2.2.1
  rw [e] at hk ⊢
  exact rWh_1 (σ := aM σ k) h.1 h.2.1 h.2.2.2.2.2.1 hk h.2.2.2.2.2.2
theorem rWhS_2 (h : TkE kw bt len L c σ) (hk : Rk c.1 k) : FX11_which L (nI k) 2 (aM σ k) = some (wF (fun i => decide (c.1 k = cs2.getD i 99)) 5, aM σ k) := by
  have e := h.2.2.1
  rw [e] at hk ⊢
  exact rWh_2 (σ := aM σ k) h.1 h.2.1 h.2.2.2.2.2.1 hk h.2.2.2.2.2.2
theorem rWhS_3 (h : TkE kw bt len L c σ) (hk : Rk c.1 k) : FX11_which L (nI k) 3 (aM σ k) = some (wF (fun i => decide (c.1 k = cs3.getD i 99)) 6, aM σ k) := by
  have e := h.2.2.1
  rw [e] at hk ⊢
  exact rWh_3 (σ := aM σ k) h.1 h.2.1 h.2.2.2.2.2.1 hk h.2.2.2.2.2.2
theorem rWhS_4 (h : TkE kw bt len L c σ) (hk : Rk c.1 k) : FX11_which L (nI k) 4 (aM σ k) = some (wF (fun i => decide (c.1 k = cs4.getD i 99)) 5, aM σ k) := by
  have e := h.2.2.1
  rw [e] at hk ⊢
  exact rWh_4 (σ := aM σ k) h.1 h.2.1 h.2.2.2.2.2.1 hk h.2.2.2.2.2.2
theorem rWhS_5 (h : TkE kw bt len L c σ) (hk : Rk c.1 k) : FX11_which L (nI k) 5 (aM σ k) = some (wF (fun i => decide (c.1 k = cs5.getD i 99)) 4, aM σ k) := by
  have e := h.2.2.1
  rw [e] at hk ⊢
  exact rWh_5 (σ := aM σ k) h.1 h.2.1 h.2.2.2.2.2.1 hk h.2.2.2.2.2.2
theorem rNameS (h : TkE kw bt len L c σ) (hk : Rk c.1 k) : FX11_isName L (nI k) (aM σ k) = some (bI (decide (c.1 k = 51)), aM σ k) := by
  have e := h.2.2.1
  rw [e] at hk ⊢
  exact rName (σ := aM σ k) h.1 h.2.1 h.2.2.2.2.2.1 hk h.2.2.2.2.2.2
theorem rKind2 (h : TkE kw bt len L c σ) (hk : Rk c.1 k) : ((aM σ k).2.1 4 k = 2) ↔ c.1 k = 52 := by
  have e := h.2.2.1
  rw [e] at hk ⊢
  rw [show (aM σ k).2.1 4 k = kS bt len k from (h.2.2.2.2.2.1.2 k hk).1]
  exact kind2
theorem rKind0 (h : TkE kw bt len L c σ) (hk : Rk c.1 k) : ((aM σ k).2.1 4 k = 0) ↔ c.1 k = 53 := by
  have e := h.2.2.1
  rw [e] at hk ⊢
  rw [show (aM σ k).2.1 4 k = kS bt len k from (h.2.2.2.2.2.1.2 k hk).1]
  exact kind0
theorem rGoes (hk4 : k ≤ 400) : FX11_goes (aM σ k) = if k = 400 then some (0, aM σ k) else some (1, aM σ (k + 1)) := by
  rw [FX11_goes, aM_7]
  by_cases c : k = 400
  · rw [if_pos c, if_pos (by rw [c]; rfl)]
  · rw [if_neg c]
    rw [if_neg (fun e => by rw [show (400 : Int32) = nI 400 from rfl, nI_eq (by omega) (by omega)] at e; exact c e), ← nI_succ, aM_aM]
/-- a form's answer is the grammar's -/
def Qf (c : Cx) (σ : MS) (x : Option Rs) (y : Option (Int32 × MS)) : Prop := ∀ r, x = some r → y = some (bI r.2.isSome, aM σ r.1) ∧ Rk c.1 r.1
theorem Qf_rb {x : Option Rs} {y : Option (Int32 × MS)} {f : Nat → MV → Option Rs} {g : MS → Option (Int32 × MS)} (hx : Qf c σ x y) (hf : ∀ k m, Rk c.1 k → Qf c σ (f k m) (g (aM σ k))) : Qf c σ (rb x f) (b2 y fun r s => if r = 0 then some ((0 : Int32), s) else g s) := by
  intro r h
  cases x with
  | none => cases h
  | some q =>
    obtain ⟨k, o⟩ := q
    obtain ⟨h1, h2⟩ := hx _ rfl
    cases o with
    | none =>
      have e : r = (k, none) := (Option.some.inj h).symm
      subst e
      rw [h1, b2r]
      exact ⟨rfl, h2⟩
    | some m =>
      rw [h1, b2r]
      show (if (1 : Int32) = 0 then _ else _) = _ ∧ _
      rw [if_neg (by decide)]
      exact hf k m h2 r h
theorem Qf_rbE {x : Option Rs} {y : Option (Int32 × MS)} {f : Nat → MV → Option Rs} {g : MS → Option (Int32 × MS)} (hx : Qf c σ x y) (hf : ∀ k m, x = some (k, some m) → Rk c.1 k → Qf c σ (f k m) (g (aM σ k))) : Qf c σ (rb x f) (b2 y fun r s => if r = 0 then some ((0 : Int32), s) else g s) := by
  intro r h
  cases x with
  | none => cases h
  | some q =>
    obtain ⟨k, o⟩ := q
    obtain ⟨h1, h2⟩ := hx _ rfl
    cases o with
    | none =>
      have e : r = (k, none) := (Option.some.inj h).symm
      subst e
      rw [h1, b2r]
      exact ⟨rfl, h2⟩
    | some m =>
      rw [h1, b2r]
      show (if (1 : Int32) = 0 then _ else _) = _ ∧ _
      rw [if_neg (by decide)]
      exact hf k m rfl h2 r h
theorem brD {d D k k2 : Nat} {m : MV} (h : spX c d 6 D k = some (k2, some m)) : D + 1 ≤ 10 := by
  cases d with
  | zero => cases h
  | succ d =>
    have h : pBraces c (spX c d) D k = some (k2, some m) := h
    unfold pBraces at h
    split at h
    · split at h
      · cases h
      · omega
    · cases h
theorem Qf_fail (hk : Rk c.1 k) : Qf c σ (some (k, none)) (some ((0 : Int32), aM σ k)) := by
  intro r h
  have e : r = (k, none) := (Option.some.inj h).symm
  subst e
  exact ⟨rfl, hk⟩
theorem Qf_end {m : MV} (hk : Rk c.1 k) : Qf c σ (some (k, some m)) (some ((1 : Int32), aM σ k)) := by
  intro r h
  have e : r = (k, some m) := (Option.some.inj h).symm
  subst e
  exact ⟨rfl, hk⟩
theorem Qf_go {s : Int32} {f : Nat → Option Rs} {g : MS → Option (Int32 × MS)} (hk : Rk c.1 k) (hs : c.1 k = s) (h1 : s ≠ 53) (h2 : s ≠ 54) (hf : Rk c.1 (k + 1) → Qf c σ (f (k + 1)) (g (aM σ (k + 1)))) : Qf c σ (go k f) (b2 (FX11_goes (aM σ k)) fun r s => if r = 0 then some ((0 : Int32), s) else g s) := by
  rw [rGoes hk.1, go]
  by_cases c4 : k = 400
  · rw [if_pos c4, if_pos c4, b2r]
    exact Qf_fail hk
  · rw [if_neg c4, if_neg c4, b2r, if_neg (by decide)]
    exact hf (hk.next c4 (by rw [hs]; exact h1) (by rw [hs]; exact h2))
theorem Qf_goR {s : Int32} {m : MV} (hk : Rk c.1 k) (hs : c.1 k = s) (h1 : s ≠ 53) (h2 : s ≠ 54) : Qf c σ (go k fun k1 => some (k1, some m)) (b2 (FX11_goes (aM σ k)) fun r s => if (r ≠ 0 ∧ r ≠ 1) then none else some (r, s)) := by
  rw [rGoes hk.1, go]
  by_cases c4 : k = 400
  · rw [if_pos c4, if_pos c4, b2r, if_neg (by decide)]
    exact Qf_fail hk
  · rw [if_neg c4, if_neg c4, b2r, if_neg (by decide)]
    exact Qf_end (hk.next c4 (by rw [hs]; exact h1) (by rw [hs]; exact h2))
theorem Qf_goes1 {f : Nat → Option Rs} {g : MS → Option (Int32 × MS)} {s : Int32} (hk : Rk c.1 k) (h1 : s ≠ 53) (h2 : s ≠ 54) (hf : c.1 k = s → Rk c.1 (k + 1) → Qf c σ (f (k + 1)) (g (aM σ (k + 1)))) {b : Bool} (hb : b = decide (c.1 k = s)) : Qf c σ (ex c s k f) (if b = true then (b2 (b2 (FX11_goes (aM σ k)) fun r_3 σ_3 => if r_3 = 0 then some ((0 : Int32), σ_3) else some ((1 : Int32), σ_3)) fun r s => if r = 0 then some ((0 : Int32), s) else g s) else some ((0 : Int32), aM σ k)) := by
  subst hb
  unfold ex
  by_cases h : c.1 k = s
  · rw [if_pos h, if_pos (decide_eq_true h), rGoes hk.1, go]
    by_cases c4 : k = 400
    · rw [if_pos c4, if_pos c4, b2r, if_pos rfl, b2r, if_pos rfl]
      exact Qf_fail hk
    · rw [if_neg c4, if_neg c4, b2r, if_neg (by decide), b2r, if_neg (by decide)]
      exact hf h (hk.next c4 (by rw [h]; exact h1) (by rw [h]; exact h2))
  · rw [if_neg h, if_neg (by simp [h])]
    exact Qf_fail hk
theorem Qf_ex_1 {f : Nat → Option Rs} {g : MS → Option (Int32 × MS)} (h : TkE kw bt len L c σ) (hk : Rk c.1 k) (hf : c.1 k = 0 → Rk c.1 (k + 1) → Qf c σ (f (k + 1)) (g (aM σ (k + 1)))) : Qf c σ (ex c 0 k f) (b2 (FX11_takes L 1 (aM σ k)) fun r s => if r = 0 then some ((0 : Int32), s) else g s) := by
  rw [FX11_takes, rSees_1 h hk, b2r, ibI]
  have := Qf_goes1 (σ := σ) (g := g) (f := f) (s := 0) hk (by decide) (by decide) hf rfl
  split
  · next e => rw [if_pos e] at this; exact this
  · next e => rw [if_neg e] at this; exact this
theorem Qf_ex_5 {f : Nat → Option Rs} {g : MS → Option (Int32 × MS)} (h : TkE kw bt len L c σ) (hk : Rk c.1 k) (hf : c.1 k = 1 → Rk c.1 (k + 1) → Qf c σ (f (k + 1)) (g (aM σ (k + 1)))) : Qf c σ (ex c 1 k f) (b2 (FX11_takes L 5 (aM σ k)) fun r s => if r = 0 then some ((0 : Int32), s) else g s) := by
  rw [FX11_takes, rSees_5 h hk, b2r, ibI]
  have := Qf_goes1 (σ := σ) (g := g) (f := f) (s := 1) hk (by decide) (by decide) hf rfl
  split
  · next e => rw [if_pos e] at this; exact this
  · next e => rw [if_neg e] at this; exact this
theorem Qf_ex_7 {f : Nat → Option Rs} {g : MS → Option (Int32 × MS)} (h : TkE kw bt len L c σ) (hk : Rk c.1 k) (hf : c.1 k = 2 → Rk c.1 (k + 1) → Qf c σ (f (k + 1)) (g (aM σ (k + 1)))) : Qf c σ (ex c 2 k f) (b2 (FX11_takes L 7 (aM σ k)) fun r s => if r = 0 then some ((0 : Int32), s) else g s) := by
  rw [FX11_takes, rSees_7 h hk, b2r, ibI]
  have := Qf_goes1 (σ := σ) (g := g) (f := f) (s := 2) hk (by decide) (by decide) hf rfl
  split
  · next e => rw [if_pos e] at this; exact this
  · next e => rw [if_neg e] at this; exact this
theorem Qf_ex_8 {f : Nat → Option Rs} {g : MS → Option (Int32 × MS)} (h : TkE kw bt len L c σ) (hk : Rk c.1 k) (hf : c.1 k = 3 → Rk c.1 (k + 1) → Qf c σ (f (k + 1)) (g (aM σ (k + 1)))) : Qf c σ (ex c 3 k f) (b2 (FX11_takes L 8 (aM σ k)) fun r s => if r = 0 then some ((0 : Int32), s) else g s) := by
  rw [FX11_takes, rSees_8 h hk, b2r, ibI]
  have := Qf_goes1 (σ := σ) (g := g) (f := f) (s := 3) hk (by decide) (by decide) hf rfl
  split
  · next e => rw [if_pos e] at this; exact this
  · next e => rw [if_neg e] at this; exact this
theorem Qf_ex_2 {f : Nat → Option Rs} {g : MS → Option (Int32 × MS)} (h : TkE kw bt len L c σ) (hk : Rk c.1 k) (hf : c.1 k = 44 → Rk c.1 (k + 1) → Qf c σ (f (k + 1)) (g (aM σ (k + 1)))) : Qf c σ (ex c 44 k f) (b2 (FX11_takes L 2 (aM σ k)) fun r s => if r = 0 then some ((0 : Int32), s) else g s) := by
  rw [FX11_takes, rSees_2 h hk, b2r, ibI]
  have := Qf_goes1 (σ := σ) (g := g) (f := f) (s := 44) hk (by decide) (by decide) hf rfl
  split
  · next e => rw [if_pos e] at this; exact this
  · next e => rw [if_neg e] at this; exact this
theorem Qf_ex_4 {f : Nat → Option Rs} {g : MS → Option (Int32 × MS)} (h : TkE kw bt len L c σ) (hk : Rk c.1 k) (hf : c.1 k = 36 → Rk c.1 (k + 1) → Qf c σ (f (k + 1)) (g (aM σ (k + 1)))) : Qf c σ (ex c 36 k f) (b2 (FX11_takes L 4 (aM σ k)) fun r s => if r = 0 then some ((0 : Int32), s) else g s) := by
  rw [FX11_takes, rSees_4 h hk, b2r, ibI]
  have := Qf_goes1 (σ := σ) (g := g) (f := f) (s := 36) hk (by decide) (by decide) hf rfl
  split
  · next e => rw [if_pos e] at this; exact this
  · next e => rw [if_neg e] at this; exact this
theorem Qf_ex_6 {f : Nat → Option Rs} {g : MS → Option (Int32 × MS)} (h : TkE kw bt len L c σ) (hk : Rk c.1 k) (hf : c.1 k = 38 → Rk c.1 (k + 1) → Qf c σ (f (k + 1)) (g (aM σ (k + 1)))) : Qf c σ (ex c 38 k f) (b2 (FX11_takes L 6 (aM σ k)) fun r s => if r = 0 then some ((0 : Int32), s) else g s) := by
  rw [FX11_takes, rSees_6 h hk, b2r, ibI]
  have := Qf_goes1 (σ := σ) (g := g) (f := f) (s := 38) hk (by decide) (by decide) hf rfl
  split
  · next e => rw [if_pos e] at this; exact this
  · next e => rw [if_neg e] at this; exact this
theorem Qf_ex_9 {f : Nat → Option Rs} {g : MS → Option (Int32 × MS)} (h : TkE kw bt len L c σ) (hk : Rk c.1 k) (hf : c.1 k = 37 → Rk c.1 (k + 1) → Qf c σ (f (k + 1)) (g (aM σ (k + 1)))) : Qf c σ (ex c 37 k f) (b2 (FX11_takes L 9 (aM σ k)) fun r s => if r = 0 then some ((0 : Int32), s) else g s) := by
  rw [FX11_takes, rSees_9 h hk, b2r, ibI]
  have := Qf_goes1 (σ := σ) (g := g) (f := f) (s := 37) hk (by decide) (by decide) hf rfl
  split
  · next e => rw [if_pos e] at this; exact this
  · next e => rw [if_neg e] at this; exact this
theorem Qf_ex_16 {f : Nat → Option Rs} {g : MS → Option (Int32 × MS)} (h : TkE kw bt len L c σ) (hk : Rk c.1 k) (hf : c.1 k = 50 → Rk c.1 (k + 1) → Qf c σ (f (k + 1)) (g (aM σ (k + 1)))) : Qf c σ (ex c 50 k f) (b2 (FX11_takes L 16 (aM σ k)) fun r s => if r = 0 then some ((0 : Int32), s) else g s) := by
  rw [FX11_takes, rSees_16 h hk, b2r, ibI]
  have := Qf_goes1 (σ := σ) (g := g) (f := f) (s := 50) hk (by decide) (by decide) hf rfl
  split
  · next e => rw [if_pos e] at this; exact this
  · next e => rw [if_neg e] at this; exact this
theorem Qf_ex_17 {f : Nat → Option Rs} {g : MS → Option (Int32 × MS)} (h : TkE kw bt len L c σ) (hk : Rk c.1 k) (hf : c.1 k = 35 → Rk c.1 (k + 1) → Qf c σ (f (k + 1)) (g (aM σ (k + 1)))) : Qf c σ (ex c 35 k f) (b2 (FX11_takes L 17 (aM σ k)) fun r s => if r = 0 then some ((0 : Int32), s) else g s) := by
  rw [FX11_takes, rSees_17 h hk, b2r, ibI]
  have := Qf_goes1 (σ := σ) (g := g) (f := f) (s := 35) hk (by decide) (by decide) hf rfl
  split
  · next e => rw [if_pos e] at this; exact this
  · next e => rw [if_neg e] at this; exact this
theorem Qf_ex_19 {f : Nat → Option Rs} {g : MS → Option (Int32 × MS)} (h : TkE kw bt len L c σ) (hk : Rk c.1 k) (hf : c.1 k = 33 → Rk c.1 (k + 1) → Qf c σ (f (k + 1)) (g (aM σ (k + 1)))) : Qf c σ (ex c 33 k f) (b2 (FX11_takes L 19 (aM σ k)) fun r s => if r = 0 then some ((0 : Int32), s) else g s) := by
  rw [FX11_takes, rSees_19 h hk, b2r, ibI]
  have := Qf_goes1 (σ := σ) (g := g) (f := f) (s := 33) hk (by decide) (by decide) hf rfl
  split
  · next e => rw [if_pos e] at this; exact this
  · next e => rw [if_neg e] at this; exact this
theorem Qf_ex_30 {f : Nat → Option Rs} {g : MS → Option (Int32 × MS)} (h : TkE kw bt len L c σ) (hk : Rk c.1 k) (hf : c.1 k = 31 → Rk c.1 (k + 1) → Qf c σ (f (k + 1)) (g (aM σ (k + 1)))) : Qf c σ (ex c 31 k f) (b2 (FX11_takes L 30 (aM σ k)) fun r s => if r = 0 then some ((0 : Int32), s) else g s) := by
  rw [FX11_takes, rSees_30 h hk, b2r, ibI]
  have := Qf_goes1 (σ := σ) (g := g) (f := f) (s := 31) hk (by decide) (by decide) hf rfl
  split
  · next e => rw [if_pos e] at this; exact this
  · next e => rw [if_neg e] at this; exact this
theorem Qf_ex_34 {f : Nat → Option Rs} {g : MS → Option (Int32 × MS)} (h : TkE kw bt len L c σ) (hk : Rk c.1 k) (hf : c.1 k = 18 → Rk c.1 (k + 1) → Qf c σ (f (k + 1)) (g (aM σ (k + 1)))) : Qf c σ (ex c 18 k f) (b2 (FX11_takes L 34 (aM σ k)) fun r s => if r = 0 then some ((0 : Int32), s) else g s) := by
  rw [FX11_takes, rSees_34 h hk, b2r, ibI]
  have := Qf_goes1 (σ := σ) (g := g) (f := f) (s := 18) hk (by decide) (by decide) hf rfl
  split
  · next e => rw [if_pos e] at this; exact this
  · next e => rw [if_neg e] at this; exact this
theorem Qf_ex_35 {f : Nat → Option Rs} {g : MS → Option (Int32 × MS)} (h : TkE kw bt len L c σ) (hk : Rk c.1 k) (hf : c.1 k = 19 → Rk c.1 (k + 1) → Qf c σ (f (k + 1)) (g (aM σ (k + 1)))) : Qf c σ (ex c 19 k f) (b2 (FX11_takes L 35 (aM σ k)) fun r s => if r = 0 then some ((0 : Int32), s) else g s) := by
  rw [FX11_takes, rSees_35 h hk, b2r, ibI]
  have := Qf_goes1 (σ := σ) (g := g) (f := f) (s := 19) hk (by decide) (by decide) hf rfl
  split
  · next e => rw [if_pos e] at this; exact this
  · next e => rw [if_neg e] at this; exact this
theorem Qf_ex_36 {f : Nat → Option Rs} {g : MS → Option (Int32 × MS)} (h : TkE kw bt len L c σ) (hk : Rk c.1 k) (hf : c.1 k = 20 → Rk c.1 (k + 1) → Qf c σ (f (k + 1)) (g (aM σ (k + 1)))) : Qf c σ (ex c 20 k f) (b2 (FX11_takes L 36 (aM σ k)) fun r s => if r = 0 then some ((0 : Int32), s) else g s) := by
  rw [FX11_takes, rSees_36 h hk, b2r, ibI]
  have := Qf_goes1 (σ := σ) (g := g) (f := f) (s := 20) hk (by decide) (by decide) hf rfl
  split
  · next e => rw [if_pos e] at this; exact this
  · next e => rw [if_neg e] at this; exact this
theorem Qf_exNum {f : Nat → Option Rs} {g : MS → Option (Int32 × MS)} (h : TkE kw bt len L c σ) (hk : Rk c.1 k) (hf : c.1 k = 52 → Rk c.1 (k + 1) → Qf c σ (f (k + 1)) (g (aM σ (k + 1)))) : Qf c σ (ex c 52 k f) (b2 (FX11_takesNumber (aM σ k)) fun r s => if r = 0 then some ((0 : Int32), s) else g s) := by
  have hk4 := hk.1
  rw [FX11_takesNumber, aM_7, if_neg (nI_in (show k < 1801 by omega) (by decide)), nI_clamp (by omega)]
  have := Qf_goes1 (σ := σ) (g := g) (f := f) (s := 52) hk (by decide) (by decide) hf rfl
  by_cases e : c.1 k = 52
  · rw [if_pos ((rKind2 h hk).mpr e)]
    rw [if_pos (decide_eq_true e)] at this; exact this
  · rw [if_neg (fun q => e ((rKind2 h hk).mp q))]
    rw [if_neg (by simp [e])] at this; exact this
theorem Qf_exName {f : Nat → Option Rs} {g : MS → Option (Int32 × MS)} (h : TkE kw bt len L c σ) (hk : Rk c.1 k) (hf : c.1 k = 51 → Rk c.1 (k + 1) → Qf c σ (f (k + 1)) (g (aM σ (k + 1)))) : Qf c σ (ex c 51 k f) (b2 (FX11_takesName L (aM σ k)) fun r s => if r = 0 then some ((0 : Int32), s) else g s) := by
  rw [FX11_takesName, aM_7, rNameS h hk, b2r, ibI]
  have := Qf_goes1 (σ := σ) (g := g) (f := f) (s := 51) hk (by decide) (by decide) hf rfl
  split
  · next e => rw [if_pos e] at this; exact this
  · next e => rw [if_neg e] at this; exact this
theorem Qf_bnd {f : Nat → Except En (Int32 × Int32) → Option Rs} {g : MS → Option (Int32 × MS)} (h : TkE kw bt len L c σ) (hk : Rk c.1 k) (hf : ∀ k bd, Rk c.1 k → Qf c σ (f k bd) (g (aM σ k))) : Qf c σ (pBnd c k f) (b2 (FX11_boundsForm L (aM σ k)) fun r s => if r = 0 then some ((0 : Int32), s) else g s) := by
  have A : ∀ (x : Option (Int32 × MS)) (g2 : MS → Option (Int32 × MS)), (b2 (b2 x fun r s => if r = 0 then some ((0 : Int32), s) else g2 s) fun r s => if r = 0 then some ((0 : Int32), s) else g s) = b2 x fun r s => if r = 0 then some ((0 : Int32), s) else b2 (g2 s) fun r s => if r = 0 then some ((0 : Int32), s) else g s := by
    intro x g2
    cases x with
    | none => rfl
    | some q =>
      obtain ⟨r, s⟩ := q
      rw [b2r, b2r]
      by_cases e : r = 0
      · rw [if_pos e, if_pos e]; rfl
      · rw [if_neg e, if_neg e]
  rw [FX11_boundsForm, rSees_15 h hk, b2r, ibI, pBnd]
  by_cases e : c.1 k = 34
  · rw [if_pos e, if_pos (decide_eq_true e), A]
    refine Qf_go hk e (by decide) (by decide) (fun hk1 => ?_)
    rw [A]
    refine Qf_exNum h hk1 (fun _ hk2 => ?_)
    rw [A]
    refine Qf_ex_16 h hk2 (fun _ hk3 => ?_)
    rw [A]
    refine Qf_exNum h hk3 (fun _ hk4 => ?_)
    rw [A]
    refine Qf_ex_17 h hk4 (fun _ hk5 => ?_)
    rw [b2r, if_neg (by decide)]
    exact hf _ _ hk5
  · rw [if_neg e, if_neg (by simp [e]), b2r, if_neg (by decide)]
    exact hf _ _ hk
/-- all that is asked of a form at a depth of calls -/
def FormOK (c : Cx) (σ : MS) (L d : Nat) : Prop := ∀ D k, D ≤ 10 → Rk c.1 k → Qf c σ (spX c d 0 D k) (FSC1 L d 0 (nI D) 0 0 (aM σ k)) ∧ Qf c σ (spX c d 1 D k) (FSC1 L d 1 (nI D) 0 11 (aM σ k)) ∧ Qf c σ (spX c d 8 D k) (FSC1 L d 1 (nI D) 0 13 (aM σ k)) ∧ Qf c σ (spX c d 2 D k) (FSC1 L d 2 (nI D) 0 0 (aM σ k)) ∧ Qf c σ (spX c d 3 D k) (FSC1 L d 3 (nI D) 0 0 (aM σ k)) ∧ Qf c σ (spX c d 4 D k) (FSC1 L d 4 (nI D) 0 0 (aM σ k)) ∧ Qf c σ (spX c d 5 D k) (FSC1 L d 5 (nI D) 0 0 (aM σ k)) ∧ Qf c σ (spX c d 6 D k) (FSC1 L d 6 (nI D) 0 0 (aM σ k)) ∧ Qf c σ (spX c d 7 D k) (FSC1 L d 7 (nI D) 0 0 (aM σ k))
theorem dep {D : Nat} (hD : D ≤ 10) : ((10 : Int32) ≤ nI D) ↔ 10 ≤ D := by
  rw [show (10 : Int32) = nI 10 from rfl, nI_leI (by omega) (by omega)]
section ST
variable {d D : Nat}
theorem fF0 (h : TkE kw bt len L c σ) (ih : FormOK c σ L d) (hD : D ≤ 10) (hk : Rk c.1 k) : Qf c σ (spX c (d + 1) 0 D k) (FSC1 L (d + 1) 0 (nI D) 0 0 (aM σ k)) := by
  show Qf c σ (pFormula c (spX c d) D k) (FX11_formulaForm (FSC1 L d) L (nI D) (aM σ k))
  rw [pFormula, FX11_formulaForm]
  refine Qf_rb (ih D k hD hk).2.1 (fun k1 a hk1 => ?_)
  rw [rSees_12 h hk1, b2r, ibI]
  by_cases e : c.1 k1 = 14
  · rw [if_pos e, if_pos (decide_eq_true e)]
    refine Qf_go hk1 e (by decide) (by decide) (fun hk2 => ?_)
    refine Qf_rb (ih D _ hD hk2).1 (fun k3 b hk3 => ?_)
    exact Qf_end hk3
  · rw [if_neg e, if_neg (by simp [e])]
    exact Qf_end hk1
theorem fF1_loop (h : TkE kw bt len L c σ) (ih : FormOK c σ L d) (hD : D ≤ 10) : ∀ (n f k : Nat) (a : MV), Rk c.1 k → n < f → Qf c σ (pRowL c (spX c d) 8 13 dOr D n k a) (FX11_rowForm_41 (FSC1 L d) L 11 f (nI D) 1 (aM σ k))
  | 0, _, _, _, _, _ => fun r h => by cases h
  | n+1, f, k, a, hk, hf => by
    obtain ⟨f, rfl⟩ : ∃ z, f = z + 1 := ⟨f - 1, by omega⟩
    rw [pRowL, FX11_rowForm_41, rSees_11 h hk, b2r, ibI]
    by_cases e : c.1 k = 13
    · rw [if_pos e, if_pos (decide_eq_true e)]
      refine Qf_go hk e (by decide) (by decide) (fun hk2 => ?_)
      rw [if_neg (show ¬ ((1 : Int32) = 0) by decide)]
      refine Qf_rb (ih D _ hD hk2).2.2.1 (fun k3 b hk3 => ?_)
      exact fF1_loop h ih hD n f k3 _ hk3 (by omega)
    · rw [if_neg e, if_neg (by simp [e])]
      exact Qf_end hk
theorem fF1 (h : TkE kw bt len L c σ) (ih : FormOK c σ L d) (hD : D ≤ 10) (hk : Rk c.1 k) : Qf c σ (spX c (d + 1) 1 D k) (FSC1 L (d + 1) 1 (nI D) 0 11 (aM σ k)) := by
  show Qf c σ (pRow1 c (spX c d) D k) (FX11_rowForm (FSC1 L d) L (nI D) 11 (aM σ k))
  rw [pRow1, FX11_rowForm, if_neg (by decide), lenOf 11 (by decide), obS, if_pos (by decide), FX11_rowForm_13, if_neg (show ¬ ((1 : Int32) = 0) by decide)]
  refine Qf_rb (ih D k hD hk).2.2.1 (fun k1 a hk1 => ?_)
  exact fF1_loop h ih hD 400 L k1 a hk1 (by have := h.2.2.2.2.2.2; omega)
theorem fF8_loop (h : TkE kw bt len L c σ) (ih : FormOK c σ L d) (hD : D ≤ 10) : ∀ (n f k : Nat) (a : MV), Rk c.1 k → n < f → Qf c σ (pRowL c (spX c d) 2 12 dAnd D n k a) (FX11_rowForm_41 (FSC1 L d) L 13 f (nI D) 0 (aM σ k))
  | 0, _, _, _, _, _ => fun r h => by cases h
  | n+1, f, k, a, hk, hf => by
    obtain ⟨f, rfl⟩ : ∃ z, f = z + 1 := ⟨f - 1, by omega⟩
    rw [pRowL, FX11_rowForm_41, rSees_13 h hk, b2r, ibI]
    by_cases e : c.1 k = 12
    · rw [if_pos e, if_pos (decide_eq_true e)]
      refine Qf_go hk e (by decide) (by decide) (fun hk2 => ?_)
      rw [if_pos rfl]
      refine Qf_rb (ih D _ hD hk2).2.2.2.1 (fun k3 b hk3 => ?_)
      exact fF8_loop h ih hD n f k3 _ hk3 (by omega)
    · rw [if_neg e, if_neg (by simp [e])]
      exact Qf_end hk
theorem fF8 (h : TkE kw bt len L c σ) (ih : FormOK c σ L d) (hD : D ≤ 10) (hk : Rk c.1 k) : Qf c σ (spX c (d + 1) 8 D k) (FSC1 L (d + 1) 1 (nI D) 0 13 (aM σ k)) := by
  show Qf c σ (pRow8 c (spX c d) D k) (FX11_rowForm (FSC1 L d) L (nI D) 13 (aM σ k))
  rw [pRow8, FX11_rowForm, if_neg (by decide), lenOf 13 (by decide), obS, if_neg (by decide), FX11_rowForm_13, if_pos rfl]
  refine Qf_rb (ih D k hD hk).2.2.2.1 (fun k1 a hk1 => ?_)
  exact fF8_loop h ih hD 400 L k1 a hk1 (by have := h.2.2.2.2.2.2; omega)
theorem fF2 (h : TkE kw bt len L c σ) (ih : FormOK c σ L d) (hD : D ≤ 10) (hk : Rk c.1 k) : Qf c σ (spX c (d + 1) 2 D k) (FSC1 L (d + 1) 2 (nI D) 0 0 (aM σ k)) := by
  show Qf c σ (pSince c (spX c d) D k) (FX11_sinceForm (FSC1 L d) L (nI D) (aM σ k))
  rw [pSince, FX11_sinceForm]
  refine Qf_rb (ih D k hD hk).2.2.2.2.1 (fun k1 a hk1 => ?_)
  rw [rSees_14 h hk1, b2r, ibI]
  by_cases e : c.1 k1 = 11
  · rw [if_pos e, if_pos (decide_eq_true e)]
    refine Qf_go hk1 e (by decide) (by decide) (fun hk2 => ?_)
    refine Qf_bnd h hk2 (fun k3 bd hk3 => ?_)
    refine Qf_rb (ih D _ hD hk3).2.2.2.2.1 (fun k4 b hk4 => ?_)
    exact Qf_end hk4
  · rw [if_neg e, if_neg (by simp [e])]
    exact Qf_end hk1
theorem fF4_loop (h : TkE kw bt len L c σ) (ih : FormOK c σ L d) (hD : D ≤ 10) : ∀ (n f k : Nat) (a : MV), Rk c.1 k → n < f → Qf c σ (pBinL c (spX c d) 5 39 40 D n k a) (FX11_expressionForm_10 (FSC1 L d) L f (nI D) (aM σ k))
  | 0, _, _, _, _, _ => fun r h => by cases h
  | n+1, f, k, a, hk, hf => by
    obtain ⟨f, rfl⟩ : ∃ z, f = z + 1 := ⟨f - 1, by omega⟩
    have nx : ∀ s, c.1 k = s → s ≠ 53 → s ≠ 54 → Qf c σ (go k fun k2 => rb (spX c d 5 D k2) fun k3 b => pBinL c (spX c d) 5 39 40 D n k3 (mo2 (dBin (c.1 k)) a b)) (FX11_expressionForm_28 (FSC1 L d) L (FX11_expressionForm_10 (FSC1 L d) L f) (nI D) (aM σ k)) := by
      intro s hs h1 h2
      rw [FX11_expressionForm_28]
      refine Qf_go hk hs h1 h2 (fun hk2 => ?_)
      refine Qf_rb (ih D _ hD hk2).2.2.2.2.2.2.1 (fun k3 b hk3 => ?_)
      exact fF4_loop h ih hD n f k3 _ hk3 (by omega)
    rw [pBinL, FX11_expressionForm_10, rSees_23 h hk, b2r, ibI]
    by_cases e : c.1 k = 39
    · rw [if_pos (by rw [e]; decide), if_pos (decide_eq_true e)]
      exact nx _ e (by decide) (by decide)
    · rw [if_neg (show ¬ (decide (c.1 k = 39) = true) by simp [e]), rSees_3 h hk, b2r, ibI]
      by_cases e2 : c.1 k = 40
      · rw [if_pos (by rw [e2]; decide), if_pos (decide_eq_true e2)]
        exact nx _ e2 (by decide) (by decide)
      · rw [if_neg (show ¬ (decide (c.1 k = 40) = true) by simp [e2]), if_neg (fun q => by
          have h39 : (c.1 k).toInt ≠ 39 := fun z => e (Int32.toInt_inj.mp (by rw [z]; decide))
          have h40 : (c.1 k).toInt ≠ 40 := fun z => e2 (Int32.toInt_inj.mp (by rw [z]; decide))
          omega)]
        exact Qf_end hk
theorem fF4 (h : TkE kw bt len L c σ) (ih : FormOK c σ L d) (hD : D ≤ 10) (hk : Rk c.1 k) : Qf c σ (spX c (d + 1) 4 D k) (FSC1 L (d + 1) 4 (nI D) 0 0 (aM σ k)) := by
  show Qf c σ (pExpr c (spX c d) D k) (FX11_expressionForm (FSC1 L d) L (nI D) (aM σ k))
  rw [pExpr, FX11_expressionForm]
  refine Qf_rb (ih D k hD hk).2.2.2.2.2.2.1 (fun k1 a hk1 => ?_)
  exact fF4_loop h ih hD 400 L k1 a hk1 (by have := h.2.2.2.2.2.2; omega)
theorem fF5_loop (h : TkE kw bt len L c σ) (ih : FormOK c σ L d) (hD : D ≤ 10) : ∀ (n f k : Nat) (a : MV), Rk c.1 k → n < f → Qf c σ (pBinL c (spX c d) 7 41 43 D n k a) (FX11_productForm_10 (FSC1 L d) L f (nI D) (aM σ k))
  | 0, _, _, _, _, _ => fun r h => by cases h
  | n+1, f, k, a, hk, hf => by
    obtain ⟨f, rfl⟩ : ∃ z, f = z + 1 := ⟨f - 1, by omega⟩
    have nx : ∀ s, c.1 k = s → s ≠ 53 → s ≠ 54 → Qf c σ (go k fun k2 => rb (spX c d 7 D k2) fun k3 b => pBinL c (spX c d) 7 41 43 D n k3 (mo2 (dBin (c.1 k)) a b)) (FX11_productForm_38 (FSC1 L d) L (FX11_productForm_10 (FSC1 L d) L f) (nI D) (aM σ k)) := by
      intro s hs h1 h2
      rw [FX11_productForm_38]
      refine Qf_go hk hs h1 h2 (fun hk2 => ?_)
      refine Qf_rb (ih D _ hD hk2).2.2.2.2.2.2.2.2 (fun k3 b hk3 => ?_)
      exact fF5_loop h ih hD n f k3 _ hk3 (by omega)
    rw [pBinL, FX11_productForm_10, rSees_24 h hk, b2r, ibI]
    by_cases e : c.1 k = 41
    · rw [if_pos (by rw [e]; decide), if_pos (decide_eq_true e)]
      exact nx _ e (by decide) (by decide)
    · rw [if_neg (show ¬ (decide (c.1 k = 41) = true) by simp [e]), rSees_25 h hk, b2r, ibI]
      by_cases e2 : c.1 k = 42
      · rw [if_pos (by rw [e2]; decide), if_pos (decide_eq_true e2)]
        exact nx _ e2 (by decide) (by decide)
      · rw [if_neg (show ¬ (decide (c.1 k = 42) = true) by simp [e2]), rSees_26 h hk, b2r, ibI]
        by_cases e3 : c.1 k = 43
        · rw [if_pos (by rw [e3]; decide), if_pos (decide_eq_true e3)]
          exact nx _ e3 (by decide) (by decide)
        · rw [if_neg (show ¬ (decide (c.1 k = 43) = true) by simp [e3]), if_neg (fun q => by
            have h41 : (c.1 k).toInt ≠ 41 := fun z => e (Int32.toInt_inj.mp (by rw [z]; decide))
            have h42 : (c.1 k).toInt ≠ 42 := fun z => e2 (Int32.toInt_inj.mp (by rw [z]; decide))
            have h43 : (c.1 k).toInt ≠ 43 := fun z => e3 (Int32.toInt_inj.mp (by rw [z]; decide))
            omega)]
          exact Qf_end hk
theorem fF5 (h : TkE kw bt len L c σ) (ih : FormOK c σ L d) (hD : D ≤ 10) (hk : Rk c.1 k) : Qf c σ (spX c (d + 1) 5 D k) (FSC1 L (d + 1) 5 (nI D) 0 0 (aM σ k)) := by
  show Qf c σ (pProd c (spX c d) D k) (FX11_productForm (FSC1 L d) L (nI D) (aM σ k))
  rw [pProd, FX11_productForm]
  refine Qf_rb (ih D k hD hk).2.2.2.2.2.2.2.2 (fun k1 a hk1 => ?_)
  exact fF5_loop h ih hD 400 L k1 a hk1 (by have := h.2.2.2.2.2.2; omega)
theorem Qf_tail {x : Option Rs} {y : Option (Int32 × MS)} (hx : Qf c σ x y) : Qf c σ x (b2 y fun r s => if r = 0 then some ((0 : Int32), s) else some ((1 : Int32), s)) := by
  intro r h
  obtain ⟨h1, h2⟩ := hx r h
  refine ⟨?_, h2⟩
  rw [h1, b2r]
  cases r.2.isSome <;> rfl
theorem fF6 (h : TkE kw bt len L c σ) (ih : FormOK c σ L d) (hD : D ≤ 10) (hk : Rk c.1 k) : Qf c σ (spX c (d + 1) 6 D k) (FSC1 L (d + 1) 6 (nI D) 0 0 (aM σ k)) := by
  show Qf c σ (pBraces c (spX c d) D k) (FX11_bracesForm (FSC1 L d) L (nI D) (aM σ k))
  rw [pBraces, FX11_bracesForm, rSees_18 h hk, b2r, ibI]
  by_cases e : c.1 k = 32
  · rw [if_pos e, if_pos (decide_eq_true e)]
    by_cases e2 : 10 ≤ D
    · rw [if_pos e2, if_pos ((dep hD).mpr e2)]
      exact Qf_fail hk
    · rw [if_neg e2, if_neg (fun q => e2 ((dep hD).mp q))]
      refine Qf_go hk e (by decide) (by decide) (fun hk2 => ?_)
      rw [show nI D + 1 = nI (D + 1) from (nI_succ D).symm]
      exact Qf_tail (ih (D + 1) _ (by omega) hk2).1
  · rw [if_neg e, if_neg (by simp [e])]
    exact Qf_fail hk
theorem fF3 (h : TkE kw bt len L c σ) (ih : FormOK c σ L d) (hD : D ≤ 10) (hk : Rk c.1 k) : Qf c σ (spX c (d + 1) 3 D k) (FSC1 L (d + 1) 3 (nI D) 0 0 (aM σ k)) := by
  show Qf c σ (pOne c (spX c d) D k) (FX11_oneForm (FSC1 L d) L (nI D) (aM σ k))
  have fr : ∀ (i : Nat) (s : Int32), i < 6 → s = nI (5 + i) → c.1 k = s → Qf c σ (if 10 ≤ D then some (k, none) else go k fun k1 => (if i < 4 then (fun f => f k1 (.ok (0, -1))) else pBnd c k1) fun k2 bd => rb (spX c d 3 (D + 1) k2) fun k3 a => some (k3, some (mvB (dFront (c.1 k) (c.2.1 k)) bd a))) (if (10 : Int32) ≤ nI D then some ((0 : Int32), aM σ k) else b2 (FX11_goes (aM σ k)) fun r_35 σ_35 => if r_35 = 0 then some ((0 : Int32), σ_35) else if nI i < 4 then FX11_oneForm_42 (FSC1 L d) L (nI D) σ_35 else b2 (FX11_boundsForm L σ_35) fun r_40 σ_40 => if r_40 = 0 then some ((0 : Int32), σ_40) else FX11_oneForm_42 (FSC1 L d) L (nI D) σ_40) := by
    intro i s hi hs he
    have tl : ∀ k2 bd, Rk c.1 k2 → D + 1 ≤ 10 → Qf c σ (rb (spX c d 3 (D + 1) k2) fun k3 a => some (k3, some (mvB (dFront (c.1 k) (c.2.1 k)) bd a))) (FX11_oneForm_42 (FSC1 L d) L (nI D) (aM σ k2)) := by
      intro k2 bd hk2 hD2
      rw [FX11_oneForm_42, show nI D + 1 = nI (D + 1) from (nI_succ D).symm]
      refine Qf_rb (ih (D + 1) _ hD2 hk2).2.2.2.2.1 (fun k3 b hk3 => ?_)
      exact Qf_end hk3
    by_cases e2 : 10 ≤ D
    · rw [if_pos e2, if_pos ((dep hD).mpr e2)]
      exact Qf_fail hk
    · rw [if_neg e2, if_neg (fun q => e2 ((dep hD).mp q))]
      refine Qf_go hk he (by rw [hs]; intro q; rw [show (53 : Int32) = nI 53 from rfl, nI_eq (by omega) (by omega)] at q; omega) (by rw [hs]; intro q; rw [show (54 : Int32) = nI 54 from rfl, nI_eq (by omega) (by omega)] at q; omega) (fun hk2 => ?_)
      have e4 : (nI i < 4) ↔ i < 4 := by rw [show (4 : Int32) = nI 4 from rfl, nI_ltI (by omega) (by omega)]
      by_cases c4 : i < 4
      · rw [if_pos c4, if_pos (e4.mpr c4)]
        exact tl _ _ hk2 (by omega)
      · rw [if_neg c4, if_neg (fun q => c4 (e4.mp q))]
        exact Qf_bnd h hk2 (fun k3 bd hk3 => tl k3 bd hk3 (by omega))
  rw [pOne, FX11_oneForm, aM_7, rWhS_3 h hk, b2r]
  by_cases e5 : c.1 k = 5
  · rw [if_pos (by simp [e5]), wh3_5 e5, if_neg (show ¬ ((0 : Int32) = -1) by decide)]
    exact fr 0 5 (by decide) rfl e5
  by_cases e6 : c.1 k = 6
  · rw [if_pos (by simp [e6]), wh3_6 e6, if_neg (show ¬ ((1 : Int32) = -1) by decide)]
    exact fr 1 6 (by decide) rfl e6
  by_cases e7 : c.1 k = 7
  · rw [if_pos (by simp [e7]), wh3_7 e7, if_neg (show ¬ ((2 : Int32) = -1) by decide)]
    exact fr 2 7 (by decide) rfl e7
  by_cases e8 : c.1 k = 8
  · rw [if_pos (by simp [e8]), wh3_8 e8, if_neg (show ¬ ((3 : Int32) = -1) by decide)]
    exact fr 3 8 (by decide) rfl e8
  by_cases e9 : c.1 k = 9
  · rw [if_neg (by rw [e9]; decide), if_pos (by simp [e9]), wh3_9 e9, if_neg (show ¬ ((4 : Int32) = -1) by decide)]
    exact fr 4 9 (by decide) rfl e9
  by_cases e10 : c.1 k = 10
  · rw [if_neg (by rw [e10]; decide), if_pos (by simp [e10]), wh3_10 e10, if_neg (show ¬ ((5 : Int32) = -1) by decide)]
    exact fr 5 10 (by decide) rfl e10
  rw [if_neg (by simp [e5, e6, e7, e8]), if_neg (by simp [e9, e10]), wh3_n ⟨e5, e6, e7, e8, e9, e10⟩, if_pos rfl, rSees_18 h hk, b2r, ibI]
  by_cases e32 : c.1 k = 32
  · rw [if_pos e32, if_pos (decide_eq_true e32), pBraced, pBraces, if_pos e32]
    by_cases e2 : 10 ≤ D
    · rw [if_pos e2, if_pos ((dep hD).mpr e2)]
      exact Qf_fail hk
    · rw [if_neg e2, if_neg (fun q => e2 ((dep hD).mp q)), show nI D + 1 = nI (D + 1) from (nI_succ D).symm]
      intro r hr
      have hr2 : (go k fun k1 => rb (spX c d 0 (D + 1) k1) fun k2 a => ex c 33 k2 fun k3 => some (k3, some a)) = some r := by
        rw [← hr, go, go]
        by_cases c4 : k = 400
        · rw [if_pos c4, if_pos c4]; rfl
        · rw [if_neg c4, if_neg c4]
      revert hr2
      refine (Qf_go hk e32 (by decide) (by decide) (fun hk2 => ?_)) r
      refine Qf_rb (ih (D + 1) _ (by omega) hk2).1 (fun k3 b hk3 => ?_)
      exact Qf_ex_19 h hk3 (fun _ hk4 => Qf_end hk4)
  rw [if_neg e32, if_neg (show ¬ (decide (c.1 k = 32) = true) by simp [e32]), rSees_20 h hk, b2r, ibI]
  by_cases e16 : c.1 k = 16
  · rw [if_pos e16, if_pos (decide_eq_true e16)]
    exact Qf_goR hk e16 (by decide) (by decide)
  rw [if_neg e16, if_neg (show ¬ (decide (c.1 k = 16) = true) by simp [e16]), rSees_21 h hk, b2r, ibI]
  by_cases e17 : c.1 k = 17
  · rw [if_pos e17, if_pos (decide_eq_true e17)]
    exact Qf_goR hk e17 (by decide) (by decide)
  rw [if_neg e17, if_neg (show ¬ (decide (c.1 k = 17) = true) by simp [e17]), rSees_22 h hk, b2r, ibI]
  by_cases e15 : c.1 k = 15
  · rw [if_pos e15, if_pos (decide_eq_true e15)]
    refine Qf_go hk e15 (by decide) (by decide) (fun hk2 => ?_)
    exact Qf_exName h hk2 (fun _ hk3 => Qf_end hk3)
  rw [if_neg e15, if_neg (show ¬ (decide (c.1 k = 15) = true) by simp [e15])]
  refine Qf_rb (ih D k hD hk).2.2.2.2.2.1 (fun k1 a hk1 => ?_)
  rw [aM_7, rWhS_1 h hk1, b2r]
  have cmp : ∀ (s : Int32), c.1 k1 = s → s ≠ 53 → s ≠ 54 → Qf c σ (go k1 fun k2 => rb (spX c d 4 D k2) fun k3 b => some (k3, some (mo2 (dCmp (c.1 k1) (c.2.1 k)) a b))) (b2 (FX11_goes (aM σ k1)) fun r_17 σ_17 => if r_17 = 0 then some ((0 : Int32), σ_17) else b2 (FSC1 L d 4 (nI D) 0 0 σ_17) fun r_19 σ_19 => if r_19 = 0 then some ((0 : Int32), σ_19) else some ((1 : Int32), σ_19)) := by
    intro s hs h1 h2
    refine Qf_go hk1 hs h1 h2 (fun hk2 => ?_)
    refine Qf_rb (ih D _ hD hk2).2.2.2.2.2.1 (fun k3 b hk3 => ?_)
    exact Qf_end hk3
  by_cases f44 : c.1 k1 = 44
  · rw [if_pos (by rw [f44]; decide), wh1_44 f44, if_neg (show ¬ ((0 : Int32) = -1) by decide)]
    exact cmp _ f44 (by decide) (by decide)
  by_cases f45 : c.1 k1 = 45
  · rw [if_pos (by rw [f45]; decide), wh1_45 f45, if_neg (show ¬ ((1 : Int32) = -1) by decide)]
    exact cmp _ f45 (by decide) (by decide)
  by_cases f46 : c.1 k1 = 46
  · rw [if_pos (by rw [f46]; decide), wh1_46 f46, if_neg (show ¬ ((2 : Int32) = -1) by decide)]
    exact cmp _ f46 (by decide) (by decide)
  by_cases f47 : c.1 k1 = 47
  · rw [if_pos (by rw [f47]; decide), wh1_47 f47, if_neg (show ¬ ((3 : Int32) = -1) by decide)]
    exact cmp _ f47 (by decide) (by decide)
  by_cases f48 : c.1 k1 = 48
  · rw [if_pos (by rw [f48]; decide), wh1_48 f48, if_neg (show ¬ ((4 : Int32) = -1) by decide)]
    exact cmp _ f48 (by decide) (by decide)
  by_cases f49 : c.1 k1 = 49
  · rw [if_pos (by rw [f49]; decide), wh1_49 f49, if_neg (show ¬ ((5 : Int32) = -1) by decide)]
    exact cmp _ f49 (by decide) (by decide)
  rw [wh1_n ⟨f44, f45, f46, f47, f48, f49⟩, if_pos rfl, if_neg (fun q => by
    have g44 : (c.1 k1).toInt ≠ 44 := fun z => f44 (Int32.toInt_inj.mp (by rw [z]; decide))
    have g45 : (c.1 k1).toInt ≠ 45 := fun z => f45 (Int32.toInt_inj.mp (by rw [z]; decide))
    have g46 : (c.1 k1).toInt ≠ 46 := fun z => f46 (Int32.toInt_inj.mp (by rw [z]; decide))
    have g47 : (c.1 k1).toInt ≠ 47 := fun z => f47 (Int32.toInt_inj.mp (by rw [z]; decide))
    have g48 : (c.1 k1).toInt ≠ 48 := fun z => f48 (Int32.toInt_inj.mp (by rw [z]; decide))
    have g49 : (c.1 k1).toInt ≠ 49 := fun z => f49 (Int32.toInt_inj.mp (by rw [z]; decide))
    omega)]
  exact Qf_fail hk1
theorem Qf_braced {f : Nat → MV → Option Rs} {g : MS → Option (Int32 × MS)} (h : TkE kw bt len L c σ) (ih : FormOK c σ L d) (hD : D ≤ 10) (hk : Rk c.1 k) (hf : ∀ k m, D + 1 ≤ 10 → Rk c.1 k → Qf c σ (f k m) (g (aM σ k))) : Qf c σ (pBraced c (spX c d 6 D k) f) (b2 (FSC1 L d 6 (nI D) 0 0 (aM σ k)) fun r s => if r = 0 then some ((0 : Int32), s) else b2 (FX11_takes L 19 s) fun r s => if r = 0 then some ((0 : Int32), s) else g s) := by
  rw [pBraced]
  refine Qf_rbE (ih D k hD hk).2.2.2.2.2.2.2.1 (fun k2 a hE hk2 => ?_)
  exact Qf_ex_19 h hk2 (fun _ hk3 => hf _ _ (brD hE) hk3)
theorem fF7 (h : TkE kw bt len L c σ) (ih : FormOK c σ L d) (hD : D ≤ 10) (hk : Rk c.1 k) : Qf c σ (spX c (d + 1) 7 D k) (FSC1 L (d + 1) 7 (nI D) 0 0 (aM σ k)) := by
  show Qf c σ (pFactor c (spX c d) D k) (FX11_factorForm (FSC1 L d) L (nI D) (aM σ k))
  have hk4 := hk.1
  rw [pFactor, FX11_factorForm, aM_7, if_neg (nI_in (show k < 1801 by omega) (by decide)), nI_clamp (by omega)]
  by_cases e52 : c.1 k = 52
  · rw [if_pos e52, if_pos ((rKind2 h hk).mpr e52)]
    exact Qf_goR hk e52 (by decide) (by decide)
  rw [if_neg e52, if_neg (fun q => e52 ((rKind2 h hk).mp q)), rNameS h hk, b2r, ibI]
  by_cases e51 : c.1 k = 51
  · rw [if_pos e51, if_pos (decide_eq_true e51)]
    exact Qf_goR hk e51 (by decide) (by decide)
  rw [if_neg e51, if_neg (show ¬ (decide (c.1 k = 51) = true) by simp [e51]), rSees_27 h hk, b2r, ibI]
  by_cases e28 : c.1 k = 28
  · rw [if_pos e28, if_pos (decide_eq_true e28)]
    exact Qf_goR hk e28 (by decide) (by decide)
  rw [if_neg e28, if_neg (show ¬ (decide (c.1 k = 28) = true) by simp [e28]), rSees_28 h hk, b2r, ibI]
  by_cases e29 : c.1 k = 29
  · rw [if_pos e29, if_pos (decide_eq_true e29)]
    exact Qf_goR hk e29 (by decide) (by decide)
  rw [if_neg e29, if_neg (show ¬ (decide (c.1 k = 29) = true) by simp [e29]), rSees_29 h hk, b2r, ibI]
  by_cases e30 : c.1 k = 30
  · rw [if_pos e30, if_pos (decide_eq_true e30)]
    by_cases e2 : 10 ≤ D
    · rw [if_pos e2, if_pos ((dep hD).mpr e2)]
      exact Qf_fail hk
    · rw [if_neg e2, if_neg (fun q => e2 ((dep hD).mp q))]
      refine Qf_go hk e30 (by decide) (by decide) (fun hk2 => ?_)
      rw [show nI D + 1 = nI (D + 1) from (nI_succ D).symm]
      refine Qf_rb (ih (D + 1) _ (by omega) hk2).2.2.2.2.2.1 (fun k3 b hk3 => ?_)
      exact Qf_ex_30 h hk3 (fun _ hk4 => Qf_end hk4)
  rw [if_neg e30, if_neg (show ¬ (decide (c.1 k = 30) = true) by simp [e30]), aM_7, rWhS_4 h hk, b2r]
  have lst : ∀ s, c.1 k = s → s ≠ 53 → s ≠ 54 → Qf c σ (if 10 ≤ D then some (k, none) else go k fun k1 => rb (spX c d 7 (D + 1) k1) fun k2 a => some (k2, some (mo1 (dUn (unK (c.1 k))) a))) (if (10 : Int32) ≤ nI D then some ((0 : Int32), aM σ k) else b2 (FX11_goes (aM σ k)) fun r_54 σ_54 => if r_54 = 0 then some ((0 : Int32), σ_54) else b2 (FSC1 L d 7 (nI D + 1) 0 0 σ_54) fun r_56 σ_56 => if r_56 = 0 then some ((0 : Int32), σ_56) else some ((1 : Int32), σ_56)) := by
    intro s hs h1 h2
    by_cases e2 : 10 ≤ D
    · rw [if_pos e2, if_pos ((dep hD).mpr e2)]
      exact Qf_fail hk
    · rw [if_neg e2, if_neg (fun q => e2 ((dep hD).mp q))]
      refine Qf_go hk hs h1 h2 (fun hk2 => ?_)
      rw [show nI D + 1 = nI (D + 1) from (nI_succ D).symm]
      refine Qf_rb (ih (D + 1) _ (by omega) hk2).2.2.2.2.2.2.2.2 (fun k3 b hk3 => ?_)
      exact Qf_end hk3
  by_cases e40 : c.1 k = 40
  · rw [if_pos (show c.1 k = 40 ∨ c.1 k = 21 ∨ c.1 k = 22 ∨ c.1 k = 23 ∨ c.1 k = 24 by simp [e40]), wh4_40 e40, if_neg (show ¬ ((0 : Int32) = -1) by decide)]
    exact lst _ e40 (by decide) (by decide)
  by_cases e21 : c.1 k = 21
  · rw [if_pos (show c.1 k = 40 ∨ c.1 k = 21 ∨ c.1 k = 22 ∨ c.1 k = 23 ∨ c.1 k = 24 by simp [e21]), wh4_21 e21, if_neg (show ¬ ((1 : Int32) = -1) by decide)]
    exact lst _ e21 (by decide) (by decide)
  by_cases e22 : c.1 k = 22
  · rw [if_pos (show c.1 k = 40 ∨ c.1 k = 21 ∨ c.1 k = 22 ∨ c.1 k = 23 ∨ c.1 k = 24 by simp [e22]), wh4_22 e22, if_neg (show ¬ ((2 : Int32) = -1) by decide)]
    exact lst _ e22 (by decide) (by decide)
  by_cases e23 : c.1 k = 23
  · rw [if_pos (show c.1 k = 40 ∨ c.1 k = 21 ∨ c.1 k = 22 ∨ c.1 k = 23 ∨ c.1 k = 24 by simp [e23]), wh4_23 e23, if_neg (show ¬ ((3 : Int32) = -1) by decide)]
    exact lst _ e23 (by decide) (by decide)
  by_cases e24 : c.1 k = 24
  · rw [if_pos (show c.1 k = 40 ∨ c.1 k = 21 ∨ c.1 k = 22 ∨ c.1 k = 23 ∨ c.1 k = 24 by simp [e24]), wh4_24 e24, if_neg (show ¬ ((4 : Int32) = -1) by decide)]
    exact lst _ e24 (by decide) (by decide)
  rw [if_neg (show ¬ (c.1 k = 40 ∨ c.1 k = 21 ∨ c.1 k = 22 ∨ c.1 k = 23 ∨ c.1 k = 24) by simp [e40, e21, e22, e23, e24]), wh4_n ⟨e40, e21, e22, e23, e24⟩, if_pos rfl, rSees_31 h hk, b2r, ibI]
  by_cases e25 : c.1 k = 25
  · rw [if_pos e25, if_pos (decide_eq_true e25), FX11_factorForm_162]
    refine Qf_go hk e25 (by decide) (by decide) (fun hk2 => ?_)
    exact Qf_braced h ih hD hk2 (fun k3 b _ hk3 => Qf_end hk3)
  rw [if_neg e25, if_neg (show ¬ (decide (c.1 k = 25) = true) by simp [e25]), rSees_32 h hk, b2r, ibI]
  by_cases e27 : c.1 k = 27
  · rw [if_pos e27, if_pos (decide_eq_true e27), FX11_factorForm_162]
    refine Qf_go hk e27 (by decide) (by decide) (fun hk2 => ?_)
    exact Qf_braced h ih hD hk2 (fun k3 b _ hk3 => Qf_end hk3)
  rw [if_neg e27, if_neg (show ¬ (decide (c.1 k = 27) = true) by simp [e27]), rSees_33 h hk, b2r, ibI]
  by_cases e26 : c.1 k = 26
  · rw [if_pos e26, if_pos (decide_eq_true e26)]
    refine Qf_go hk e26 (by decide) (by decide) (fun hk2 => ?_)
    refine Qf_braced h ih hD hk2 (fun k3 b hD2 hk3 => ?_)
    rw [show nI D + 1 = nI (D + 1) from (nI_succ D).symm]
    refine Qf_rb (ih (D + 1) _ hD2 hk3).2.2.2.2.2.2.2.2 (fun k4 e hk4 => ?_)
    exact Qf_end hk4
  rw [if_neg e26, if_neg (show ¬ (decide (c.1 k = 26) = true) by simp [e26])]
  refine Qf_ex_34 (f := fun k1 => pBraced c (spX c d 6 D k1) fun k3 a => ex c 19 k3 fun k4 => rb (spX c d 7 (D + 1) k4) fun k5 b => ex c 20 k5 fun k6 => rb (spX c d 7 (D + 1) k6) fun k7 e => some (k7, some (mo3 dIf a b e))) h hk (fun _ hk2 => ?_)
  refine Qf_braced h ih hD hk2 (fun k3 b hD2 hk3 => ?_)
  rw [show nI D + 1 = nI (D + 1) from (nI_succ D).symm]
  refine Qf_ex_35 h hk3 (fun _ hk4 => ?_)
  refine Qf_rb (ih (D + 1) _ hD2 hk4).2.2.2.2.2.2.2.2 (fun k5 e hk5 => ?_)
  refine Qf_ex_36 h hk5 (fun _ hk6 => ?_)
  refine Qf_rb (ih (D + 1) _ hD2 hk6).2.2.2.2.2.2.2.2 (fun k7 e hk7 => ?_)
  exact Qf_end hk7
theorem Qf_none {y : Option (Int32 × MS)} : Qf c σ none y := fun r h => by cases h
/-- every form, at every depth of calls -/
theorem formOK (h : TkE kw bt len L c σ) : ∀ d, FormOK c σ L d
  | 0 => fun D k hD hk => ⟨Qf_none, Qf_none, Qf_none, Qf_none, Qf_none, Qf_none, Qf_none, Qf_none, Qf_none⟩
  | d+1 => fun D k hD hk => ⟨fF0 h (formOK h d) hD hk, fF1 h (formOK h d) hD hk, fF8 h (formOK h d) hD hk, fF2 h (formOK h d) hD hk, fF3 h (formOK h d) hD hk, fF4 h (formOK h d) hD hk, fF5 h (formOK h d) hD hk, fF6 h (formOK h d) hD hk, fF7 h (formOK h d) hD hk⟩
end ST
end RF
